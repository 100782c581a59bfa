def mX11_firstOf : MI := (RX11, cX11_firstOf, 9, (some .int), "firstOf", 8, 212, fun _ _ _ => True)
theorem cwX11_firstOf : CWd yX11_firstOf mX11_firstOf 5 := ⟨ki_X11, kk_X11_firstOf, ⟨by decide, by decide⟩, rfl⟩
def dtX11_firstOf_0 : List (Nat × Instr × Nat) := [(0, .iload 5, 2), (2, .ifCond .lt 15, 3), (5, .aload_n 0, 1), (6, .iload_n 1, 1), (7, .iload_n 2, 1), (8, .iload_n 3, 1), (9, .iload 4, 2), (11, .iload 5, 2), (13, .invokevirtual 273, 3), (16, .ireturn, 1), (17, .iconst 0, 1), (18, .istore 6, 2), (20, .aload_n 0, 1), (21, .getfield 7, 3), (24, .iload_n 2, 1), (25, .iconst 5, 1), (26, .iadd, 1), (27, .iaload, 1), (28, .istore 7, 2), (30, .iload 7, 2), (32, .aload_n 0, 1), (33, .getfield 7, 3), (36, .iload_n 2, 1), (37, .bipush 6, 2), (39, .iadd, 1), (40, .iaload, 1), (41, .if_icmp .gt 44, 3), (44, .aload_n 0, 1), (45, .iload_n 1, 1), (46, .iload_n 2, 1), (47, .iload_n 3, 1), (48, .iload 4, 2), (50, .iload 7, 2), (52, .invokevirtual 273, 3), (55, .istore 8, 2), (57, .iload 8, 2), (59, .iload 6, 2), (61, .if_icmp .le 8, 3), (64, .iload 8, 2), (66, .goto 5, 3), (69, .iload 6, 2), (71, .istore 6, 2), (73, .aload_n 0, 1), (74, .iload_n 1, 1), (75, .iload 7, 2), (77, .invokevirtual 277, 3), (80, .istore 7, 2), (82, .goto (-52), 3), (85, .iload 6, 2), (87, .ireturn, 1)]
theorem ddX11_firstOf_0 : (dtX11_firstOf_0.all fun e => decide (decode mX11_firstOf.2.1 e.1 = .ok (e.2.1, e.2.2))) = true := by decide +kernel
theorem daX11_firstOf_0 (j : Nat) {pc n : Nat} {i : Instr} (h : dtX11_firstOf_0[j]? = some (pc, i, n)) : decode mX11_firstOf.2.1 pc = .ok (i, n) := dec_of (c := mX11_firstOf.2.1) ddX11_firstOf_0 h
def jX11_firstOf_71 (v0 v1 v2 v3 v4 v7 s0 : Int) (μ : Mm) : Option ((Int × Int) ⊕ Int) :=
  chk (KD v0 = 11) (
  (fX11_nextYear v0 v1 v7 μ).bind fun r2 =>
  some (.inl (s0, r2)))
def zX11_firstOf_30 (l : Launch) (F : FI) (v0 v1 v2 v3 v4 : Int) (μ : Mm) (k n : Nat) : (Int × Int) ⊕ Int → Prop
  | .inl (v6, v7) => GM l mX11_firstOf F k n 30 [(0, (3, v0)), (1, (0, v1)), (2, (0, v2)), (3, (0, v3)), (4, (0, v4)), (6, (0, v6)), (7, (0, v7))] [] μ
  | .inr v6 => GM l mX11_firstOf F k n 85 [(6, (0, v6))] [] μ
def sX11_firstOf_30 (v0 v1 v2 v3 v4 : Int) (μ : Mm) : (Int × Int) → Option ((Int × Int) ⊕ Int) := fun (v6, v7) =>
  chk (KD v0 = 11) (
  chk (KD (μ v0 0) = 12 ∧ 0 ≤ w32 (v2 + 6) ∧ w32 (v2 + 6) < LN (μ v0 0)) (
  if μ (μ v0 0) (w32 (v2 + 6)) < v7 then
    some (.inr v6)
  else
    (fX11_firstIn v0 v1 v2 v3 v4 v7 μ).bind fun r6 =>
    if r6 ≤ v6 then
      jX11_firstOf_71 v0 v1 v2 v3 v4 v7 v6 μ
    else
      jX11_firstOf_71 v0 v1 v2 v3 v4 v7 r6 μ))
def fX11_firstOf (v0 v1 v2 v3 v4 v5 : Int) (μ : Mm) : Option Int :=
  if v5 < 0 then
    chk (KD v0 = 11) (
    chk (KD (μ v0 0) = 12 ∧ 0 ≤ w32 (v2 + 5) ∧ w32 (v2 + 5) < LN (μ v0 0)) (
    lt (μ (μ v0 0) (w32 (v2 + 5))) fun y11 =>
    (lop (sX11_firstOf_30 v0 v1 v2 v3 v4 μ) FU (0, y11)).bind fun v6_13 =>
      some v6_13))
  else
    chk (KD v0 = 11) (
    (fX11_firstIn v0 v1 v2 v3 v4 v5 μ).bind fun r15 =>
    some r15)
set_option maxRecDepth 20000 in
theorem gX11_firstOf_71 (l : Launch) {F : FI} {v0 v1 v2 v3 v4 v7 s0 : Int} {μ : Mm} {t : ((Int × Int) ⊕ Int)} {k n : Nat} (h : jX11_firstOf_71 v0 v1 v2 v3 v4 v7 s0 μ = some t) (hK : zX11_firstOf_30 l F v0 v1 v2 v3 v4 μ k n t) : GM l mX11_firstOf F k n 71 [(0, (3, v0)), (1, (0, v1)), (2, (0, v2)), (3, (0, v3)), (4, (0, v4)), (7, (0, v7))] [(0, s0)] μ := by
  unfold jX11_firstOf_71 at h
  refine GM_istore (L' := [(6, (0, s0)), (0, (3, v0)), (1, (0, v1)), (2, (0, v2)), (3, (0, v3)), (4, (0, v4)), (7, (0, v7))]) (pc := 71) (daX11_firstOf_0 41 rfl) (Nat.le_of_ble_eq_true rfl) rfl ?_
  refine GM_aload_n (pc := 73) 1 rfl (daX11_firstOf_0 42 rfl) rfl ?_
  refine GM_iload_n (pc := 74) 2 rfl (daX11_firstOf_0 43 rfl) rfl ?_
  refine GM_iload (pc := 75) 6 rfl (daX11_firstOf_0 44 rfl) ?_
  obtain ⟨hc1, h⟩ := chk_inv h
  obtain ⟨r2, hf2, h⟩ := Option.bind_eq_some_iff.mp h
  refine GM_callV0 (pc := 77) [(0, v1), (0, v7)] (tX11_nextYear l hf2) cwX11_nextYear 11 (Nat.le_of_ble_eq_true rfl) rfl kv_X11_nextYear ke_X11_nextYear km_X11_277 hc1 ⟨Nat.le_of_ble_eq_true rfl, Nat.le_of_ble_eq_true rfl⟩ (Nat.le_of_ble_eq_true rfl) (Nat.le_of_ble_eq_true rfl) (daX11_firstOf_0 45 rfl) ?_
  refine GM_istore (L' := [(7, (0, r2)), (6, (0, s0)), (0, (3, v0)), (1, (0, v1)), (2, (0, v2)), (3, (0, v3)), (4, (0, v4))]) (pc := 80) (daX11_firstOf_0 46 rfl) (Nat.le_of_ble_eq_true rfl) rfl ?_
  refine GM_goto (pc := 82) 30 (daX11_firstOf_0 47 rfl) rfl ?_
  refine GM_pick [2, 3, 4, 5, 6, 1, 0] rfl ?_
  cases h
  exact hK
set_option maxRecDepth 20000 in
theorem qX11_firstOf_30 (l : Launch) (F : FI) (v0 v1 v2 v3 v4 : Int) (μ : Mm) (k n : Nat) : ∀ (q : (Int × Int)) (t : ((Int × Int) ⊕ Int)), sX11_firstOf_30 v0 v1 v2 v3 v4 μ q = some t → zX11_firstOf_30 l F v0 v1 v2 v3 v4 μ k n t → zX11_firstOf_30 l F v0 v1 v2 v3 v4 μ k n (.inl q) := by
  intro q t h hK
  obtain ⟨v6, v7⟩ := q
  unfold sX11_firstOf_30 at h
  try dsimp only at h
  show GM l mX11_firstOf F k n 30 [(0, (3, v0)), (1, (0, v1)), (2, (0, v2)), (3, (0, v3)), (4, (0, v4)), (6, (0, v6)), (7, (0, v7))] [] μ
  refine GM_iload (pc := 30) 6 rfl (daX11_firstOf_0 19 rfl) ?_
  refine GM_aload_n (pc := 32) 0 rfl (daX11_firstOf_0 20 rfl) rfl ?_
  obtain ⟨hc3, h⟩ := chk_inv h
  refine GM_getf (pc := 33) 11 0 3 0 kf_X11_7 (Nat.le_of_ble_eq_true rfl) (Nat.le_of_ble_eq_true rfl) rfl (daX11_firstOf_0 21 rfl) hc3 rfl ?_
  refine GM_iload_n (pc := 36) 2 rfl (daX11_firstOf_0 22 rfl) rfl ?_
  refine GM_bipush (pc := 37) 6 (daX11_firstOf_0 23 rfl) rfl (R32_b rfl) ?_
  refine GM_iadd (pc := 39) (daX11_firstOf_0 24 rfl) ?_
  obtain ⟨hc4, h⟩ := chk_inv h
  refine GM_iald (pc := 40) (daX11_firstOf_0 25 rfl) hc4.1 hc4.2.1 hc4.2.2 ?_
  refine GM_icmp_gt (pc := 41) 85 (daX11_firstOf_0 26 rfl) rfl (fun c5 => ?_) (fun c5 => ?_)
  · skip
    rw [if_pos c5] at h
    refine GM_pick [5] rfl ?_
    cases h
    exact hK
  · skip
    rw [if_neg c5] at h
    refine GM_aload_n (pc := 44) 0 rfl (daX11_firstOf_0 27 rfl) rfl ?_
    refine GM_iload_n (pc := 45) 1 rfl (daX11_firstOf_0 28 rfl) rfl ?_
    refine GM_iload_n (pc := 46) 2 rfl (daX11_firstOf_0 29 rfl) rfl ?_
    refine GM_iload_n (pc := 47) 3 rfl (daX11_firstOf_0 30 rfl) rfl ?_
    refine GM_iload (pc := 48) 4 rfl (daX11_firstOf_0 31 rfl) ?_
    refine GM_iload (pc := 50) 6 rfl (daX11_firstOf_0 32 rfl) ?_
    obtain ⟨r6, hf6, h⟩ := Option.bind_eq_some_iff.mp h
    refine GM_callV0 (pc := 52) [(0, v1), (0, v2), (0, v3), (0, v4), (0, v7)] (tX11_firstIn l hf6) cwX11_firstIn 11 (Nat.le_of_ble_eq_true rfl) rfl kv_X11_firstIn ke_X11_firstIn km_X11_273 hc3 ⟨Nat.le_of_ble_eq_true rfl, Nat.le_of_ble_eq_true rfl⟩ (Nat.le_of_ble_eq_true rfl) (Nat.le_of_ble_eq_true rfl) (daX11_firstOf_0 33 rfl) ?_
    refine GM_istore (L' := [(8, (0, r6)), (0, (3, v0)), (1, (0, v1)), (2, (0, v2)), (3, (0, v3)), (4, (0, v4)), (6, (0, v6)), (7, (0, v7))]) (pc := 55) (daX11_firstOf_0 34 rfl) (Nat.le_of_ble_eq_true rfl) rfl ?_
    refine GM_iload (pc := 57) 0 rfl (daX11_firstOf_0 35 rfl) ?_
    refine GM_iload (pc := 59) 6 rfl (daX11_firstOf_0 36 rfl) ?_
    refine GM_icmp_le (pc := 61) 69 (daX11_firstOf_0 37 rfl) rfl (fun c7 => ?_) (fun c7 => ?_)
    · skip
      rw [if_pos c7] at h
      refine GM_iload (pc := 69) 6 rfl (daX11_firstOf_0 40 rfl) ?_
      refine GM_pick [1, 2, 3, 4, 5, 7] rfl ?_
      exact gX11_firstOf_71 l h hK
    · skip
      rw [if_neg c7] at h
      refine GM_iload (pc := 64) 0 rfl (daX11_firstOf_0 38 rfl) ?_
      refine GM_goto (pc := 66) 71 (daX11_firstOf_0 39 rfl) rfl ?_
      refine GM_pick [1, 2, 3, 4, 5, 7] rfl ?_
      exact gX11_firstOf_71 l h hK
set_option maxRecDepth 20000 in
theorem gX11_firstOf_0 (l : Launch) {F : FI} {v0 v1 v2 v3 v4 v5 : Int} {μ : Mm} {t : Int} (h : fX11_firstOf v0 v1 v2 v3 v4 v5 μ = some t) (hK : F.1 = [(0, t)] ∧ F.2.1 = μ) : GM l mX11_firstOf F 0 0 0 [(0, (3, v0)), (1, (0, v1)), (2, (0, v2)), (3, (0, v3)), (4, (0, v4)), (5, (0, v5))] [] μ := by
  unfold fX11_firstOf at h
  refine GM_iload (pc := 0) 5 rfl (daX11_firstOf_0 0 rfl) ?_
  refine GM_if_lt (pc := 2) 17 (daX11_firstOf_0 1 rfl) rfl (fun c8 => ?_) (fun c8 => ?_)
  · skip
    rw [if_pos c8] at h
    refine GM_iconst (pc := 17) 0 (daX11_firstOf_0 10 rfl) rfl (R32_b rfl) ?_
    refine GM_istore (L' := [(6, (0, 0)), (0, (3, v0)), (1, (0, v1)), (2, (0, v2)), (3, (0, v3)), (4, (0, v4)), (5, (0, v5))]) (pc := 18) (daX11_firstOf_0 11 rfl) (Nat.le_of_ble_eq_true rfl) rfl ?_
    refine GM_aload_n (pc := 20) 1 rfl (daX11_firstOf_0 12 rfl) rfl ?_
    obtain ⟨hc9, h⟩ := chk_inv h
    refine GM_getf (pc := 21) 11 0 3 0 kf_X11_7 (Nat.le_of_ble_eq_true rfl) (Nat.le_of_ble_eq_true rfl) rfl (daX11_firstOf_0 13 rfl) hc9 rfl ?_
    refine GM_iload_n (pc := 24) 3 rfl (daX11_firstOf_0 14 rfl) rfl ?_
    refine GM_iconst (pc := 25) 5 (daX11_firstOf_0 15 rfl) rfl (R32_b rfl) ?_
    refine GM_iadd (pc := 26) (daX11_firstOf_0 16 rfl) ?_
    obtain ⟨hc10, h⟩ := chk_inv h
    refine GM_iald (pc := 27) (daX11_firstOf_0 17 rfl) hc10.1 hc10.2.1 hc10.2.2 ?_
    obtain ⟨y11, hy11, h⟩ := lt_inv h
    refine GM_top hy11 ?_
    refine GM_istore (L' := [(7, (0, y11)), (6, (0, 0)), (0, (3, v0)), (1, (0, v1)), (2, (0, v2)), (3, (0, v3)), (4, (0, v4)), (5, (0, v5))]) (pc := 28) (daX11_firstOf_0 18 rfl) (Nat.le_of_ble_eq_true rfl) rfl ?_
    refine GM_pick [2, 3, 4, 5, 6, 1, 0] rfl ?_
    obtain ⟨x12, hqx12, h⟩ := Option.bind_eq_some_iff.mp h
    refine lop_ind (zX11_firstOf_30 l F v0 v1 v2 v3 v4 μ 0 0) (qX11_firstOf_30 l F v0 v1 v2 v3 v4 μ 0 0) FU _ x12 hqx12 ?_
    obtain ⟨v6_13, hqq⟩ : ∃ z, z = x12 := ⟨x12, rfl⟩
    subst hqq
    show GM l mX11_firstOf F 0 0 85 [(6, (0, v6_13))] [] μ
    refine GM_iload (pc := 85) 0 rfl (daX11_firstOf_0 48 rfl) ?_
    cases h
    exact GM_iret (pc := 87) (daX11_firstOf_0 49 rfl) rfl hK
  · skip
    rw [if_neg c8] at h
    refine GM_aload_n (pc := 5) 0 rfl (daX11_firstOf_0 2 rfl) rfl ?_
    refine GM_iload_n (pc := 6) 1 rfl (daX11_firstOf_0 3 rfl) rfl ?_
    refine GM_iload_n (pc := 7) 2 rfl (daX11_firstOf_0 4 rfl) rfl ?_
    refine GM_iload_n (pc := 8) 3 rfl (daX11_firstOf_0 5 rfl) rfl ?_
    refine GM_iload (pc := 9) 4 rfl (daX11_firstOf_0 6 rfl) ?_
    refine GM_iload (pc := 11) 5 rfl (daX11_firstOf_0 7 rfl) ?_
    obtain ⟨hc14, h⟩ := chk_inv h
    obtain ⟨r15, hf15, h⟩ := Option.bind_eq_some_iff.mp h
    refine GM_callV0 (pc := 13) [(0, v1), (0, v2), (0, v3), (0, v4), (0, v5)] (tX11_firstIn l hf15) cwX11_firstIn 11 (Nat.le_of_ble_eq_true rfl) rfl kv_X11_firstIn ke_X11_firstIn km_X11_273 hc14 ⟨Nat.le_of_ble_eq_true rfl, Nat.le_of_ble_eq_true rfl⟩ (Nat.le_of_ble_eq_true rfl) (Nat.le_of_ble_eq_true rfl) (daX11_firstOf_0 8 rfl) ?_
    cases h
    exact GM_iret (pc := 16) (daX11_firstOf_0 9 rfl) rfl hK
theorem tX11_firstOf (l : Launch) {v0 v1 v2 v3 v4 v5 : Int} {μ : Mm} {t : Int} (h : fX11_firstOf v0 v1 v2 v3 v4 v5 μ = some t) : Ct l yX11_firstOf mX11_firstOf [(3, v0), (0, v1), (0, v2), (0, v3), (0, v4), (0, v5)] μ ([(0, t)], μ, 0, 0) :=
  Ct_of (by decide +kernel) rfl rfl (Nat.le_of_ble_eq_true rfl) (fun _ _ _ => trivial) (gX11_firstOf_0 l h ⟨rfl, rfl⟩)
def mX11_fitsAt : MI := (RX11, cX11_fitsAt, 6, (some .int), "fitsAt", 9, 240, fun _ _ _ => True)
theorem cwX11_fitsAt : CWd yX11_fitsAt mX11_fitsAt 4 := ⟨ki_X11, kk_X11_fitsAt, ⟨by decide, by decide⟩, rfl⟩
def dtX11_fitsAt_0 : List (Nat × Instr × Nat) := [(0, .aload_n 0, 1), (1, .iload_n 2, 1), (2, .iload_n 3, 1), (3, .invokevirtual 263, 3), (6, .ifCond .ne 5, 3), (9, .iconst (-1), 1), (10, .ireturn, 1), (11, .iconst 0, 1), (12, .istore 5, 2), (14, .iload 5, 2), (16, .aload_n 0, 1), (17, .getfield 29, 3), (20, .iload_n 3, 1), (21, .iaload, 1), (22, .if_icmp .ge 32, 3), (25, .aload_n 0, 1), (26, .iload_n 1, 1), (27, .iload_n 2, 1), (28, .iload_n 3, 1), (29, .iload 5, 2), (31, .iload 4, 2), (33, .invokevirtual 280, 3), (36, .aload_n 0, 1), (37, .getfield 7, 3), (40, .iload_n 2, 1), (41, .iaload, 1), (42, .if_icmp .ne 6, 3), (45, .iload 5, 2), (47, .ireturn, 1), (48, .iinc 5 1, 3), (51, .goto (-37), 3), (54, .iconst (-1), 1), (55, .ireturn, 1)]
theorem ddX11_fitsAt_0 : (dtX11_fitsAt_0.all fun e => decide (decode mX11_fitsAt.2.1 e.1 = .ok (e.2.1, e.2.2))) = true := by decide +kernel
theorem daX11_fitsAt_0 (j : Nat) {pc n : Nat} {i : Instr} (h : dtX11_fitsAt_0[j]? = some (pc, i, n)) : decode mX11_fitsAt.2.1 pc = .ok (i, n) := dec_of (c := mX11_fitsAt.2.1) ddX11_fitsAt_0 h
def zX11_fitsAt_14 (l : Launch) (F : FI) (v0 v1 v2 v3 v4 : Int) (μ : Mm) (k n : Nat) : Int ⊕ (Unit ⊕ Int) → Prop
  | .inl v5 => GM l mX11_fitsAt F k n 14 [(0, (3, v0)), (1, (0, v1)), (2, (0, v2)), (3, (0, v3)), (4, (0, v4)), (5, (0, v5))] [] μ
  | .inr (.inl ()) => GM l mX11_fitsAt F k n 54 [] [] μ
  | .inr (.inr v5) => GM l mX11_fitsAt F k n 45 [(5, (0, v5))] [] μ
def sX11_fitsAt_14 (v0 v1 v2 v3 v4 : Int) (μ : Mm) : Int → Option (Int ⊕ (Unit ⊕ Int)) := fun v5 =>
  chk (KD v0 = 11) (
  chk (KD (μ v0 16) = 12 ∧ 0 ≤ v3 ∧ v3 < LN (μ v0 16)) (
  if μ (μ v0 16) v3 ≤ v5 then
    some (.inr (.inl ()))
  else
    (fX11_firstOf v0 v1 v2 v3 v5 v4 μ).bind fun r4 =>
    chk (KD (μ v0 0) = 12 ∧ 0 ≤ v2 ∧ v2 < LN (μ v0 0)) (
    if r4 = μ (μ v0 0) v2 then
      some (.inr (.inr v5))
    else
      some (.inl (w32 (v5 + 1))))))
def fX11_fitsAt (v0 v1 v2 v3 v4 : Int) (μ : Mm) : Option Int :=
  chk (KD v0 = 11) (
  (fX11_canBe v0 v2 v3 μ).bind fun r8 =>
  if r8 = 0 then
    some (-1)
  else
    (lop (sX11_fitsAt_14 v0 v1 v2 v3 v4 μ) FU 0).bind fun x10 =>
      match x10 with
      | (.inl ()) =>
          some (-1)
      | (.inr v5_12) =>
          some v5_12)
set_option maxRecDepth 20000 in
theorem qX11_fitsAt_14 (l : Launch) (F : FI) (v0 v1 v2 v3 v4 : Int) (μ : Mm) (k n : Nat) : ∀ (q : Int) (t : (Int ⊕ (Unit ⊕ Int))), sX11_fitsAt_14 v0 v1 v2 v3 v4 μ q = some t → zX11_fitsAt_14 l F v0 v1 v2 v3 v4 μ k n t → zX11_fitsAt_14 l F v0 v1 v2 v3 v4 μ k n (.inl q) := by
  intro q t h hK
  obtain ⟨v5, hqq⟩ : ∃ z, z = q := ⟨q, rfl⟩
  subst hqq
  unfold sX11_fitsAt_14 at h
  try dsimp only at h
  show GM l mX11_fitsAt F k n 14 [(0, (3, v0)), (1, (0, v1)), (2, (0, v2)), (3, (0, v3)), (4, (0, v4)), (5, (0, v5))] [] μ
  refine GM_iload (pc := 14) 5 rfl (daX11_fitsAt_0 9 rfl) ?_
  refine GM_aload_n (pc := 16) 0 rfl (daX11_fitsAt_0 10 rfl) rfl ?_
  obtain ⟨hc1, h⟩ := chk_inv h
  refine GM_getf (pc := 17) 11 16 3 16 kf_X11_29 (Nat.le_of_ble_eq_true rfl) (Nat.le_of_ble_eq_true rfl) rfl (daX11_fitsAt_0 11 rfl) hc1 rfl ?_
  refine GM_iload_n (pc := 20) 3 rfl (daX11_fitsAt_0 12 rfl) rfl ?_
  obtain ⟨hc2, h⟩ := chk_inv h
  refine GM_iald (pc := 21) (daX11_fitsAt_0 13 rfl) hc2.1 hc2.2.1 hc2.2.2 ?_
  refine GM_icmp_ge (pc := 22) 54 (daX11_fitsAt_0 14 rfl) rfl (fun c3 => ?_) (fun c3 => ?_)
  · skip
    rw [if_pos c3] at h
    refine GM_pick [] rfl ?_
    cases h
    exact hK
  · skip
    rw [if_neg c3] at h
    refine GM_aload_n (pc := 25) 0 rfl (daX11_fitsAt_0 15 rfl) rfl ?_
    refine GM_iload_n (pc := 26) 1 rfl (daX11_fitsAt_0 16 rfl) rfl ?_
    refine GM_iload_n (pc := 27) 2 rfl (daX11_fitsAt_0 17 rfl) rfl ?_
    refine GM_iload_n (pc := 28) 3 rfl (daX11_fitsAt_0 18 rfl) rfl ?_
    refine GM_iload (pc := 29) 5 rfl (daX11_fitsAt_0 19 rfl) ?_
    refine GM_iload (pc := 31) 4 rfl (daX11_fitsAt_0 20 rfl) ?_
    obtain ⟨r4, hf4, h⟩ := Option.bind_eq_some_iff.mp h
    refine GM_callV0 (pc := 33) [(0, v1), (0, v2), (0, v3), (0, v5), (0, v4)] (tX11_firstOf l hf4) cwX11_firstOf 11 (Nat.le_of_ble_eq_true rfl) rfl kv_X11_firstOf ke_X11_firstOf km_X11_280 hc1 ⟨Nat.le_of_ble_eq_true rfl, Nat.le_of_ble_eq_true rfl⟩ (Nat.le_of_ble_eq_true rfl) (Nat.le_of_ble_eq_true rfl) (daX11_fitsAt_0 21 rfl) ?_
    refine GM_aload_n (pc := 36) 0 rfl (daX11_fitsAt_0 22 rfl) rfl ?_
    refine GM_getf (pc := 37) 11 0 3 0 kf_X11_7 (Nat.le_of_ble_eq_true rfl) (Nat.le_of_ble_eq_true rfl) rfl (daX11_fitsAt_0 23 rfl) hc1 rfl ?_
    refine GM_iload_n (pc := 40) 2 rfl (daX11_fitsAt_0 24 rfl) rfl ?_
    obtain ⟨hc5, h⟩ := chk_inv h
    refine GM_iald (pc := 41) (daX11_fitsAt_0 25 rfl) hc5.1 hc5.2.1 hc5.2.2 ?_
    refine GM_icmp_ne (pc := 42) 48 (daX11_fitsAt_0 26 rfl) rfl (fun c6 => ?_) (fun c6 => ?_)
    · skip
      rw [if_neg c6] at h
      refine GM_iinc (L' := [(5, (0, w32 (v5 + 1))), (0, (3, v0)), (1, (0, v1)), (2, (0, v2)), (3, (0, v3)), (4, (0, v4))]) (pc := 48) 5 rfl (daX11_fitsAt_0 29 rfl) (Nat.le_of_ble_eq_true rfl) rfl ?_
      refine GM_goto (pc := 51) 14 (daX11_fitsAt_0 30 rfl) rfl ?_
      refine GM_pick [1, 2, 3, 4, 5, 0] rfl ?_
      cases h
      exact hK
    · skip
      rw [if_pos c6] at h
      refine GM_pick [5] rfl ?_
      cases h
      exact hK
set_option maxRecDepth 20000 in
theorem gX11_fitsAt_0 (l : Launch) {F : FI} {v0 v1 v2 v3 v4 : Int} {μ : Mm} {t : Int} (h : fX11_fitsAt v0 v1 v2 v3 v4 μ = some t) (hK : F.1 = [(0, t)] ∧ F.2.1 = μ) : GM l mX11_fitsAt F 0 0 0 [(0, (3, v0)), (1, (0, v1)), (2, (0, v2)), (3, (0, v3)), (4, (0, v4))] [] μ := by
  unfold fX11_fitsAt at h
  refine GM_aload_n (pc := 0) 0 rfl (daX11_fitsAt_0 0 rfl) rfl ?_
  refine GM_iload_n (pc := 1) 2 rfl (daX11_fitsAt_0 1 rfl) rfl ?_
  refine GM_iload_n (pc := 2) 3 rfl (daX11_fitsAt_0 2 rfl) rfl ?_
  obtain ⟨hc7, h⟩ := chk_inv h
  obtain ⟨r8, hf8, h⟩ := Option.bind_eq_some_iff.mp h
  refine GM_callV0 (pc := 3) [(0, v2), (0, v3)] (tX11_canBe l hf8) cwX11_canBe 11 (Nat.le_of_ble_eq_true rfl) rfl kv_X11_canBe ke_X11_canBe km_X11_263 hc7 ⟨Nat.le_of_ble_eq_true rfl, Nat.le_of_ble_eq_true rfl⟩ (Nat.le_of_ble_eq_true rfl) (Nat.le_of_ble_eq_true rfl) (daX11_fitsAt_0 3 rfl) ?_
  refine GM_if_ne (pc := 6) 11 (daX11_fitsAt_0 4 rfl) rfl (fun c9 => ?_) (fun c9 => ?_)
  · skip
    rw [if_neg c9] at h
    refine GM_iconst (pc := 11) 0 (daX11_fitsAt_0 7 rfl) rfl (R32_b rfl) ?_
    refine GM_istore (L' := [(5, (0, 0)), (0, (3, v0)), (1, (0, v1)), (2, (0, v2)), (3, (0, v3)), (4, (0, v4))]) (pc := 12) (daX11_fitsAt_0 8 rfl) (Nat.le_of_ble_eq_true rfl) rfl ?_
    refine GM_pick [1, 2, 3, 4, 5, 0] rfl ?_
    obtain ⟨x10, hqx10, h⟩ := Option.bind_eq_some_iff.mp h
    refine lop_ind (zX11_fitsAt_14 l F v0 v1 v2 v3 v4 μ 0 0) (qX11_fitsAt_14 l F v0 v1 v2 v3 v4 μ 0 0) FU _ x10 hqx10 ?_
    rcases x10 with _ | v5_12
    · dsimp only at h
      show GM l mX11_fitsAt F 0 0 54 [] [] μ
      refine GM_iconst (pc := 54) (-1) (daX11_fitsAt_0 31 rfl) rfl (R32_b rfl) ?_
      cases h
      exact GM_iret (pc := 55) (daX11_fitsAt_0 32 rfl) rfl hK
    · dsimp only at h
      show GM l mX11_fitsAt F 0 0 45 [(5, (0, v5_12))] [] μ
      refine GM_iload (pc := 45) 0 rfl (daX11_fitsAt_0 27 rfl) ?_
      cases h
      exact GM_iret (pc := 47) (daX11_fitsAt_0 28 rfl) rfl hK
  · skip
    rw [if_pos c9] at h
    refine GM_iconst (pc := 9) (-1) (daX11_fitsAt_0 5 rfl) rfl (R32_b rfl) ?_
    cases h
    exact GM_iret (pc := 10) (daX11_fitsAt_0 6 rfl) rfl hK
theorem tX11_fitsAt (l : Launch) {v0 v1 v2 v3 v4 : Int} {μ : Mm} {t : Int} (h : fX11_fitsAt v0 v1 v2 v3 v4 μ = some t) : Ct l yX11_fitsAt mX11_fitsAt [(3, v0), (0, v1), (0, v2), (0, v3), (0, v4)] μ ([(0, t)], μ, 0, 0) :=
  Ct_of (by decide +kernel) rfl rfl (Nat.le_of_ble_eq_true rfl) (fun _ _ _ => trivial) (gX11_fitsAt_0 l h ⟨rfl, rfl⟩)
def mX11_areBoth : MI := (RX11, cX11_areBoth, 3, (some .boolean), "areBoth", 2, 44, fun _ _ _ => True)
theorem cwX11_areBoth : CWd yX11_areBoth mX11_areBoth 2 := ⟨ki_X11, kk_X11_areBoth, ⟨by decide, by decide⟩, rfl⟩
def dtX11_areBoth_0 : List (Nat × Instr × Nat) := [(0, .aload_n 0, 1), (1, .iconst 0, 1), (2, .iload_n 1, 1), (3, .invokevirtual 182, 3), (6, .ifCond .eq 16, 3), (9, .aload_n 0, 1), (10, .iconst 1, 1), (11, .iload_n 2, 1), (12, .invokevirtual 182, 3), (15, .ifCond .eq 7, 3), (18, .iconst 1, 1), (19, .goto 4, 3), (22, .iconst 0, 1), (23, .ireturn, 1)]
theorem ddX11_areBoth_0 : (dtX11_areBoth_0.all fun e => decide (decode mX11_areBoth.2.1 e.1 = .ok (e.2.1, e.2.2))) = true := by decide +kernel
theorem daX11_areBoth_0 (j : Nat) {pc n : Nat} {i : Instr} (h : dtX11_areBoth_0[j]? = some (pc, i, n)) : decode mX11_areBoth.2.1 pc = .ok (i, n) := dec_of (c := mX11_areBoth.2.1) ddX11_areBoth_0 h
def fX11_areBoth (v0 v1 v2 : Int) (μ : Mm) : Option Int :=
  chk (KD v0 = 11) (
  (fX11_isOf v0 0 v1 μ).bind fun r2 =>
  if r2 = 0 then
    some 0
  else
    (fX11_isOf v0 1 v2 μ).bind fun r4 =>
    if r4 = 0 then
      some 0
    else
      some 1)
set_option maxRecDepth 20000 in
theorem gX11_areBoth_0 (l : Launch) {F : FI} {v0 v1 v2 : Int} {μ : Mm} {t : Int} (h : fX11_areBoth v0 v1 v2 μ = some t) (hK : F.1 = [(0, t)] ∧ F.2.1 = μ) : GM l mX11_areBoth F 0 0 0 [(0, (3, v0)), (1, (0, v1)), (2, (0, v2))] [] μ := by
  unfold fX11_areBoth at h
  refine GM_aload_n (pc := 0) 0 rfl (daX11_areBoth_0 0 rfl) rfl ?_
  refine GM_iconst (pc := 1) 0 (daX11_areBoth_0 1 rfl) rfl (R32_b rfl) ?_
  refine GM_iload_n (pc := 2) 1 rfl (daX11_areBoth_0 2 rfl) rfl ?_
  obtain ⟨hc1, h⟩ := chk_inv h
  obtain ⟨r2, hf2, h⟩ := Option.bind_eq_some_iff.mp h
  refine GM_callV0 (pc := 3) [(0, 0), (0, v1)] (tX11_isOf l hf2) cwX11_isOf 11 (Nat.le_of_ble_eq_true rfl) rfl kv_X11_isOf ke_X11_isOf km_X11_182 hc1 ⟨Nat.le_of_ble_eq_true rfl, Nat.le_of_ble_eq_true rfl⟩ (Nat.le_of_ble_eq_true rfl) (Nat.le_of_ble_eq_true rfl) (daX11_areBoth_0 3 rfl) ?_
  refine GM_if_eq (pc := 6) 22 (daX11_areBoth_0 4 rfl) rfl (fun c3 => ?_) (fun c3 => ?_)
  · skip
    rw [if_pos c3] at h
    refine GM_iconst (pc := 22) 0 (daX11_areBoth_0 12 rfl) rfl (R32_b rfl) ?_
    cases h
    exact GM_zret (pc := 23) (daX11_areBoth_0 13 rfl) rfl (Or.inl rfl) hK
  · skip
    rw [if_neg c3] at h
    refine GM_aload_n (pc := 9) 0 rfl (daX11_areBoth_0 5 rfl) rfl ?_
    refine GM_iconst (pc := 10) 1 (daX11_areBoth_0 6 rfl) rfl (R32_b rfl) ?_
    refine GM_iload_n (pc := 11) 2 rfl (daX11_areBoth_0 7 rfl) rfl ?_
    obtain ⟨r4, hf4, h⟩ := Option.bind_eq_some_iff.mp h
    refine GM_callV0 (pc := 12) [(0, 1), (0, v2)] (tX11_isOf l hf4) cwX11_isOf 11 (Nat.le_of_ble_eq_true rfl) rfl kv_X11_isOf ke_X11_isOf km_X11_182 hc1 ⟨Nat.le_of_ble_eq_true rfl, Nat.le_of_ble_eq_true rfl⟩ (Nat.le_of_ble_eq_true rfl) (Nat.le_of_ble_eq_true rfl) (daX11_areBoth_0 8 rfl) ?_
    refine GM_if_eq (pc := 15) 22 (daX11_areBoth_0 9 rfl) rfl (fun c5 => ?_) (fun c5 => ?_)
    · skip
      rw [if_pos c5] at h
      refine GM_iconst (pc := 22) 0 (daX11_areBoth_0 12 rfl) rfl (R32_b rfl) ?_
      cases h
      exact GM_zret (pc := 23) (daX11_areBoth_0 13 rfl) rfl (Or.inl rfl) hK
    · skip
      rw [if_neg c5] at h
      refine GM_iconst (pc := 18) 1 (daX11_areBoth_0 10 rfl) rfl (R32_b rfl) ?_
      refine GM_goto (pc := 19) 23 (daX11_areBoth_0 11 rfl) rfl ?_
      cases h
      exact GM_zret (pc := 23) (daX11_areBoth_0 13 rfl) rfl (Or.inr rfl) hK
theorem tX11_areBoth (l : Launch) {v0 v1 v2 : Int} {μ : Mm} {t : Int} (h : fX11_areBoth v0 v1 v2 μ = some t) : Ct l yX11_areBoth mX11_areBoth [(3, v0), (0, v1), (0, v2)] μ ([(0, t)], μ, 0, 0) :=
  Ct_of (by decide +kernel) rfl rfl (Nat.le_of_ble_eq_true rfl) (fun _ _ _ => trivial) (gX11_areBoth_0 l h ⟨rfl, rfl⟩)
def mX11_isStart : MI := (RX11, cX11_isStart, 5, (some .boolean), "isStart", 7, 175, fun _ _ _ => True)
theorem cwX11_isStart : CWd yX11_isStart mX11_isStart 4 := ⟨ki_X11, kk_X11_isStart, ⟨by decide, by decide⟩, rfl⟩
def dtX11_isStart_0 : List (Nat × Instr × Nat) := [(0, .aload_n 0, 1), (1, .iload_n 1, 1), (2, .iload_n 2, 1), (3, .invokevirtual 283, 3), (6, .ifCond .eq 12, 3), (9, .aload_n 0, 1), (10, .iload_n 1, 1), (11, .iload_n 3, 1), (12, .invokevirtual 210, 3), (15, .ifCond .ne 5, 3), (18, .iconst 0, 1), (19, .ireturn, 1), (20, .aload_n 0, 1), (21, .iconst 0, 1), (22, .iload_n 1, 1), (23, .invokestatic 204, 3), (26, .iload_n 3, 1), (27, .invokevirtual 238, 3), (30, .iload 4, 2), (32, .iconst 0, 1), (33, .aload_n 0, 1), (34, .getfield 29, 3), (37, .iload_n 3, 1), (38, .iaload, 1), (39, .iconst 1, 1), (40, .isub, 1), (41, .invokestatic 147, 3), (44, .ireturn, 1)]
theorem ddX11_isStart_0 : (dtX11_isStart_0.all fun e => decide (decode mX11_isStart.2.1 e.1 = .ok (e.2.1, e.2.2))) = true := by decide +kernel
theorem daX11_isStart_0 (j : Nat) {pc n : Nat} {i : Instr} (h : dtX11_isStart_0[j]? = some (pc, i, n)) : decode mX11_isStart.2.1 pc = .ok (i, n) := dec_of (c := mX11_isStart.2.1) ddX11_isStart_0 h
def fX11_isStart (v0 v1 v2 v3 v4 : Int) (μ : Mm) : Option (Int × Mm) :=
  chk (KD v0 = 11) (
  (fX11_areBoth v0 v1 v2 μ).bind fun r2 =>
  if r2 = 0 then
    some (0, μ)
  else
    (fX11_isPlace v0 v1 v3 μ).bind fun r4 =>
    if r4 = 0 then
      some (0, μ)
    else
      (fX11_placeOf 0 v1).bind fun r6 =>
      (fX11_surveyAt v0 r6 v3 μ).bind fun μ7 =>
      chk (KD (μ7 v0 16) = 12 ∧ 0 ≤ v3 ∧ v3 < LN (μ7 v0 16)) (
      some (isIn v4 0 (w32 ((μ7 (μ7 v0 16) v3) - 1)), μ7)))
set_option maxRecDepth 20000 in
theorem gX11_isStart_0 (l : Launch) {F : FI} {v0 v1 v2 v3 v4 : Int} {μ : Mm} {t : (Int × Mm)} (h : fX11_isStart v0 v1 v2 v3 v4 μ = some t) (hK : F.1 = [(0, t.1)] ∧ F.2.1 = t.2) : GM l mX11_isStart F 0 0 0 [(0, (3, v0)), (1, (0, v1)), (2, (0, v2)), (3, (0, v3)), (4, (0, v4))] [] μ := by
  unfold fX11_isStart at h
  refine GM_aload_n (pc := 0) 0 rfl (daX11_isStart_0 0 rfl) rfl ?_
  refine GM_iload_n (pc := 1) 1 rfl (daX11_isStart_0 1 rfl) rfl ?_
  refine GM_iload_n (pc := 2) 2 rfl (daX11_isStart_0 2 rfl) rfl ?_
  obtain ⟨hc1, h⟩ := chk_inv h
  obtain ⟨r2, hf2, h⟩ := Option.bind_eq_some_iff.mp h
  refine GM_callV0 (pc := 3) [(0, v1), (0, v2)] (tX11_areBoth l hf2) cwX11_areBoth 11 (Nat.le_of_ble_eq_true rfl) rfl kv_X11_areBoth ke_X11_areBoth km_X11_283 hc1 ⟨Nat.le_of_ble_eq_true rfl, Nat.le_of_ble_eq_true rfl⟩ (Nat.le_of_ble_eq_true rfl) (Nat.le_of_ble_eq_true rfl) (daX11_isStart_0 3 rfl) ?_
  refine GM_if_eq (pc := 6) 18 (daX11_isStart_0 4 rfl) rfl (fun c3 => ?_) (fun c3 => ?_)
  · skip
    rw [if_pos c3] at h
    refine GM_iconst (pc := 18) 0 (daX11_isStart_0 10 rfl) rfl (R32_b rfl) ?_
    cases h
    exact GM_zret (pc := 19) (daX11_isStart_0 11 rfl) rfl (Or.inl rfl) hK
  · skip
    rw [if_neg c3] at h
    refine GM_aload_n (pc := 9) 0 rfl (daX11_isStart_0 5 rfl) rfl ?_
    refine GM_iload_n (pc := 10) 1 rfl (daX11_isStart_0 6 rfl) rfl ?_
    refine GM_iload_n (pc := 11) 3 rfl (daX11_isStart_0 7 rfl) rfl ?_
    obtain ⟨r4, hf4, h⟩ := Option.bind_eq_some_iff.mp h
    refine GM_callV0 (pc := 12) [(0, v1), (0, v3)] (tX11_isPlace l hf4) cwX11_isPlace 11 (Nat.le_of_ble_eq_true rfl) rfl kv_X11_isPlace ke_X11_isPlace km_X11_210 hc1 ⟨Nat.le_of_ble_eq_true rfl, Nat.le_of_ble_eq_true rfl⟩ (Nat.le_of_ble_eq_true rfl) (Nat.le_of_ble_eq_true rfl) (daX11_isStart_0 8 rfl) ?_
    refine GM_if_ne (pc := 15) 20 (daX11_isStart_0 9 rfl) rfl (fun c5 => ?_) (fun c5 => ?_)
    · skip
      rw [if_neg c5] at h
      refine GM_aload_n (pc := 20) 0 rfl (daX11_isStart_0 12 rfl) rfl ?_
      refine GM_iconst (pc := 21) 0 (daX11_isStart_0 13 rfl) rfl (R32_b rfl) ?_
      refine GM_iload_n (pc := 22) 1 rfl (daX11_isStart_0 14 rfl) rfl ?_
      obtain ⟨r6, hf6, h⟩ := Option.bind_eq_some_iff.mp h
      refine GM_callS0 (pc := 23) [(0, 0), (0, v1)] (tX11_placeOf l hf6) cwX11_placeOf ks_X11_placeOf km_X11_204 ⟨Nat.le_of_ble_eq_true rfl, Nat.le_of_ble_eq_true rfl⟩ (Nat.le_of_ble_eq_true rfl) (Nat.le_of_ble_eq_true rfl) (daX11_isStart_0 15 rfl) ?_
      refine GM_iload_n (pc := 26) 3 rfl (daX11_isStart_0 16 rfl) rfl ?_
      obtain ⟨μ7, hf7, h⟩ := Option.bind_eq_some_iff.mp h
      refine GM_callV0 (pc := 27) [(0, r6), (0, v3)] (tX11_surveyAt l hf7) cwX11_surveyAt 11 (Nat.le_of_ble_eq_true rfl) rfl kv_X11_surveyAt ke_X11_surveyAt km_X11_238 hc1 ⟨Nat.le_of_ble_eq_true rfl, Nat.le_of_ble_eq_true rfl⟩ (Nat.le_of_ble_eq_true rfl) (Nat.le_of_ble_eq_true rfl) (daX11_isStart_0 17 rfl) ?_
      refine GM_iload (pc := 30) 4 rfl (daX11_isStart_0 18 rfl) ?_
      refine GM_iconst (pc := 32) 0 (daX11_isStart_0 19 rfl) rfl (R32_b rfl) ?_
      refine GM_aload_n (pc := 33) 0 rfl (daX11_isStart_0 20 rfl) rfl ?_
      refine GM_getf (pc := 34) 11 16 3 16 kf_X11_29 (Nat.le_of_ble_eq_true rfl) (Nat.le_of_ble_eq_true rfl) rfl (daX11_isStart_0 21 rfl) hc1 rfl ?_
      refine GM_iload_n (pc := 37) 3 rfl (daX11_isStart_0 22 rfl) rfl ?_
      obtain ⟨hc8, h⟩ := chk_inv h
      refine GM_iald (pc := 38) (daX11_isStart_0 23 rfl) hc8.1 hc8.2.1 hc8.2.2 ?_
      refine GM_iconst (pc := 39) 1 (daX11_isStart_0 24 rfl) rfl (R32_b rfl) ?_
      refine GM_isub (pc := 40) (daX11_isStart_0 25 rfl) ?_
      refine GM_callS0 (pc := 41) [(0, v4), (0, 0), (0, w32 ((μ7 (μ7 v0 16) v3) - 1))] (tX11_isIn l (fX11_isIn_eq v4 0 (w32 ((μ7 (μ7 v0 16) v3) - 1)))) cwX11_isIn ks_X11_isIn km_X11_147 ⟨Nat.le_of_ble_eq_true rfl, Nat.le_of_ble_eq_true rfl⟩ (Nat.le_of_ble_eq_true rfl) (Nat.le_of_ble_eq_true rfl) (daX11_isStart_0 26 rfl) ?_
      cases h
      exact GM_zret (pc := 44) (daX11_isStart_0 27 rfl) rfl (isIn_01 _ _ _) hK
    · skip
      rw [if_pos c5] at h
      refine GM_iconst (pc := 18) 0 (daX11_isStart_0 10 rfl) rfl (R32_b rfl) ?_
      cases h
      exact GM_zret (pc := 19) (daX11_isStart_0 11 rfl) rfl (Or.inl rfl) hK
theorem tX11_isStart (l : Launch) {v0 v1 v2 v3 v4 : Int} {μ : Mm} {t : (Int × Mm)} (h : fX11_isStart v0 v1 v2 v3 v4 μ = some t) : Ct l yX11_isStart mX11_isStart [(3, v0), (0, v1), (0, v2), (0, v3), (0, v4)] μ ([(0, t.1)], t.2, 0, 0) :=
  Ct_of (by decide +kernel) rfl rfl (Nat.le_of_ble_eq_true rfl) (fun _ _ _ => trivial) (gX11_isStart_0 l h ⟨rfl, rfl⟩)
def mX11_first : MI := (RX11, cX11_first, 6, (some .int), "first", 9, 240, fun _ _ _ => True)
theorem cwX11_first : CWd yX11_first mX11_first 5 := ⟨ki_X11, kk_X11_first, ⟨by decide, by decide⟩, rfl⟩
def dtX11_first_0 : List (Nat × Instr × Nat) := [(0, .iload 5, 2), (2, .iconst (-1), 1), (3, .bipush 99, 2), (5, .invokestatic 147, 3), (8, .ifCond .eq 37, 3), (11, .aload_n 0, 1), (12, .iload_n 1, 1), (13, .iload_n 2, 1), (14, .iload_n 3, 1), (15, .iload 4, 2), (17, .invokevirtual 286, 3), (20, .ifCond .eq 25, 3), (23, .aload_n 0, 1), (24, .iconst 0, 1), (25, .iload_n 1, 1), (26, .invokestatic 204, 3), (29, .iconst 1, 1), (30, .iload_n 2, 1), (31, .invokestatic 204, 3), (34, .iload_n 3, 1), (35, .iload 4, 2), (37, .iload 5, 2), (39, .invokevirtual 280, 3), (42, .goto 4, 3), (45, .iconst (-1), 1), (46, .ireturn, 1)]
theorem ddX11_first_0 : (dtX11_first_0.all fun e => decide (decode mX11_first.2.1 e.1 = .ok (e.2.1, e.2.2))) = true := by decide +kernel
theorem daX11_first_0 (j : Nat) {pc n : Nat} {i : Instr} (h : dtX11_first_0[j]? = some (pc, i, n)) : decode mX11_first.2.1 pc = .ok (i, n) := dec_of (c := mX11_first.2.1) ddX11_first_0 h
def fX11_first (v0 v1 v2 v3 v4 v5 : Int) (μ : Mm) : Option (Int × Mm) :=
  if isIn v5 (-1) 99 = 0 then
    some ((-1), μ)
  else
    chk (KD v0 = 11) (
    (fX11_isStart v0 v1 v2 v3 v4 μ).bind fun (r3, μ3) =>
    if r3 = 0 then
      some ((-1), μ3)
    else
      (fX11_placeOf 0 v1).bind fun r5 =>
      (fX11_placeOf 1 v2).bind fun r6 =>
      (fX11_firstOf v0 r5 r6 v3 v4 v5 μ3).bind fun r7 =>
      some (r7, μ3))
set_option maxRecDepth 20000 in
theorem gX11_first_0 (l : Launch) {F : FI} {v0 v1 v2 v3 v4 v5 : Int} {μ : Mm} {t : (Int × Mm)} (h : fX11_first v0 v1 v2 v3 v4 v5 μ = some t) (hK : F.1 = [(0, t.1)] ∧ F.2.1 = t.2) : GM l mX11_first F 0 0 0 [(0, (3, v0)), (1, (0, v1)), (2, (0, v2)), (3, (0, v3)), (4, (0, v4)), (5, (0, v5))] [] μ := by
  unfold fX11_first at h
  refine GM_iload (pc := 0) 5 rfl (daX11_first_0 0 rfl) ?_
  refine GM_iconst (pc := 2) (-1) (daX11_first_0 1 rfl) rfl (R32_b rfl) ?_
  refine GM_bipush (pc := 3) 99 (daX11_first_0 2 rfl) rfl (R32_b rfl) ?_
  refine GM_callS0 (pc := 5) [(0, v5), (0, (-1)), (0, 99)] (tX11_isIn l (fX11_isIn_eq v5 (-1) 99)) cwX11_isIn ks_X11_isIn km_X11_147 ⟨Nat.le_of_ble_eq_true rfl, Nat.le_of_ble_eq_true rfl⟩ (Nat.le_of_ble_eq_true rfl) (Nat.le_of_ble_eq_true rfl) (daX11_first_0 3 rfl) ?_
  refine GM_if_eq (pc := 8) 45 (daX11_first_0 4 rfl) rfl (fun c1 => ?_) (fun c1 => ?_)
  · skip
    rw [if_pos c1] at h
    refine GM_iconst (pc := 45) (-1) (daX11_first_0 24 rfl) rfl (R32_b rfl) ?_
    cases h
    exact GM_iret (pc := 46) (daX11_first_0 25 rfl) rfl hK
  · skip
    rw [if_neg c1] at h
    refine GM_aload_n (pc := 11) 0 rfl (daX11_first_0 5 rfl) rfl ?_
    refine GM_iload_n (pc := 12) 1 rfl (daX11_first_0 6 rfl) rfl ?_
    refine GM_iload_n (pc := 13) 2 rfl (daX11_first_0 7 rfl) rfl ?_
    refine GM_iload_n (pc := 14) 3 rfl (daX11_first_0 8 rfl) rfl ?_
    refine GM_iload (pc := 15) 4 rfl (daX11_first_0 9 rfl) ?_
    obtain ⟨hc2, h⟩ := chk_inv h
    obtain ⟨⟨r3, μ3⟩, hf3, h⟩ := Option.bind_eq_some_iff.mp h
    dsimp only at h
    refine GM_callV0 (pc := 17) [(0, v1), (0, v2), (0, v3), (0, v4)] (tX11_isStart l hf3) cwX11_isStart 11 (Nat.le_of_ble_eq_true rfl) rfl kv_X11_isStart ke_X11_isStart km_X11_286 hc2 ⟨Nat.le_of_ble_eq_true rfl, Nat.le_of_ble_eq_true rfl⟩ (Nat.le_of_ble_eq_true rfl) (Nat.le_of_ble_eq_true rfl) (daX11_first_0 10 rfl) ?_
    refine GM_if_eq (pc := 20) 45 (daX11_first_0 11 rfl) rfl (fun c4 => ?_) (fun c4 => ?_)
    · skip
      rw [if_pos c4] at h
      refine GM_iconst (pc := 45) (-1) (daX11_first_0 24 rfl) rfl (R32_b rfl) ?_
      cases h
      exact GM_iret (pc := 46) (daX11_first_0 25 rfl) rfl hK
    · skip
      rw [if_neg c4] at h
      refine GM_aload_n (pc := 23) 0 rfl (daX11_first_0 12 rfl) rfl ?_
      refine GM_iconst (pc := 24) 0 (daX11_first_0 13 rfl) rfl (R32_b rfl) ?_
      refine GM_iload_n (pc := 25) 1 rfl (daX11_first_0 14 rfl) rfl ?_
      obtain ⟨r5, hf5, h⟩ := Option.bind_eq_some_iff.mp h
      refine GM_callS0 (pc := 26) [(0, 0), (0, v1)] (tX11_placeOf l hf5) cwX11_placeOf ks_X11_placeOf km_X11_204 ⟨Nat.le_of_ble_eq_true rfl, Nat.le_of_ble_eq_true rfl⟩ (Nat.le_of_ble_eq_true rfl) (Nat.le_of_ble_eq_true rfl) (daX11_first_0 15 rfl) ?_
      refine GM_iconst (pc := 29) 1 (daX11_first_0 16 rfl) rfl (R32_b rfl) ?_
      refine GM_iload_n (pc := 30) 2 rfl (daX11_first_0 17 rfl) rfl ?_
      obtain ⟨r6, hf6, h⟩ := Option.bind_eq_some_iff.mp h
      refine GM_callS0 (pc := 31) [(0, 1), (0, v2)] (tX11_placeOf l hf6) cwX11_placeOf ks_X11_placeOf km_X11_204 ⟨Nat.le_of_ble_eq_true rfl, Nat.le_of_ble_eq_true rfl⟩ (Nat.le_of_ble_eq_true rfl) (Nat.le_of_ble_eq_true rfl) (daX11_first_0 18 rfl) ?_
      refine GM_iload_n (pc := 34) 3 rfl (daX11_first_0 19 rfl) rfl ?_
      refine GM_iload (pc := 35) 4 rfl (daX11_first_0 20 rfl) ?_
      refine GM_iload (pc := 37) 5 rfl (daX11_first_0 21 rfl) ?_
      obtain ⟨r7, hf7, h⟩ := Option.bind_eq_some_iff.mp h
      refine GM_callV0 (pc := 39) [(0, r5), (0, r6), (0, v3), (0, v4), (0, v5)] (tX11_firstOf l hf7) cwX11_firstOf 11 (Nat.le_of_ble_eq_true rfl) rfl kv_X11_firstOf ke_X11_firstOf km_X11_280 hc2 ⟨Nat.le_of_ble_eq_true rfl, Nat.le_of_ble_eq_true rfl⟩ (Nat.le_of_ble_eq_true rfl) (Nat.le_of_ble_eq_true rfl) (daX11_first_0 22 rfl) ?_
      refine GM_goto (pc := 42) 46 (daX11_first_0 23 rfl) rfl ?_
      cases h
      exact GM_iret (pc := 46) (daX11_first_0 25 rfl) rfl hK
theorem tX11_first (l : Launch) {v0 v1 v2 v3 v4 v5 : Int} {μ : Mm} {t : (Int × Mm)} (h : fX11_first v0 v1 v2 v3 v4 v5 μ = some t) : Ct l yX11_first mX11_first [(3, v0), (0, v1), (0, v2), (0, v3), (0, v4), (0, v5)] μ ([(0, t.1)], t.2, 0, 0) :=
  Ct_of (by decide +kernel) rfl rfl (Nat.le_of_ble_eq_true rfl) (fun _ _ _ => trivial) (gX11_first_0 l h ⟨rfl, rfl⟩)
def mX11_fits : MI := (RX11, cX11_fits, 5, (some .int), "fits", 10, 265, fun _ _ _ => True)
theorem cwX11_fits : CWd yX11_fits mX11_fits 4 := ⟨ki_X11, kk_X11_fits, ⟨by decide, by decide⟩, rfl⟩
def dtX11_fits_0 : List (Nat × Instr × Nat) := [(0, .aload_n 0, 1), (1, .iload_n 1, 1), (2, .iload_n 2, 1), (3, .invokevirtual 283, 3), (6, .ifCond .eq 23, 3), (9, .aload_n 0, 1), (10, .iload_n 1, 1), (11, .iload_n 3, 1), (12, .invokevirtual 210, 3), (15, .ifCond .eq 14, 3), (18, .iload 4, 2), (20, .iconst (-1), 1), (21, .bipush 99, 2), (23, .invokestatic 147, 3), (26, .ifCond .ne 5, 3), (29, .iconst (-1), 1), (30, .ireturn, 1), (31, .aload_n 0, 1), (32, .iconst 0, 1), (33, .iload_n 1, 1), (34, .invokestatic 204, 3), (37, .iload_n 3, 1), (38, .invokevirtual 238, 3), (41, .aload_n 0, 1), (42, .iconst 0, 1), (43, .iload_n 1, 1), (44, .invokestatic 204, 3), (47, .iconst 1, 1), (48, .iload_n 2, 1), (49, .invokestatic 204, 3), (52, .iload_n 3, 1), (53, .iload 4, 2), (55, .invokevirtual 289, 3), (58, .ireturn, 1)]
theorem ddX11_fits_0 : (dtX11_fits_0.all fun e => decide (decode mX11_fits.2.1 e.1 = .ok (e.2.1, e.2.2))) = true := by decide +kernel
theorem daX11_fits_0 (j : Nat) {pc n : Nat} {i : Instr} (h : dtX11_fits_0[j]? = some (pc, i, n)) : decode mX11_fits.2.1 pc = .ok (i, n) := dec_of (c := mX11_fits.2.1) ddX11_fits_0 h
def fX11_fits (v0 v1 v2 v3 v4 : Int) (μ : Mm) : Option (Int × Mm) :=
  chk (KD v0 = 11) (
  (fX11_areBoth v0 v1 v2 μ).bind fun r2 =>
  if r2 = 0 then
    some ((-1), μ)
  else
    (fX11_isPlace v0 v1 v3 μ).bind fun r4 =>
    if r4 = 0 then
      some ((-1), μ)
    else
      if isIn v4 (-1) 99 = 0 then
        some ((-1), μ)
      else
        (fX11_placeOf 0 v1).bind fun r7 =>
        (fX11_surveyAt v0 r7 v3 μ).bind fun μ8 =>
        (fX11_placeOf 0 v1).bind fun r9 =>
        (fX11_placeOf 1 v2).bind fun r10 =>
        (fX11_fitsAt v0 r9 r10 v3 v4 μ8).bind fun r11 =>
        some (r11, μ8))
set_option maxRecDepth 20000 in
theorem gX11_fits_0 (l : Launch) {F : FI} {v0 v1 v2 v3 v4 : Int} {μ : Mm} {t : (Int × Mm)} (h : fX11_fits v0 v1 v2 v3 v4 μ = some t) (hK : F.1 = [(0, t.1)] ∧ F.2.1 = t.2) : GM l mX11_fits F 0 0 0 [(0, (3, v0)), (1, (0, v1)), (2, (0, v2)), (3, (0, v3)), (4, (0, v4))] [] μ := by
  unfold fX11_fits at h
  refine GM_aload_n (pc := 0) 0 rfl (daX11_fits_0 0 rfl) rfl ?_
  refine GM_iload_n (pc := 1) 1 rfl (daX11_fits_0 1 rfl) rfl ?_
  refine GM_iload_n (pc := 2) 2 rfl (daX11_fits_0 2 rfl) rfl ?_
  obtain ⟨hc1, h⟩ := chk_inv h
  obtain ⟨r2, hf2, h⟩ := Option.bind_eq_some_iff.mp h
  refine GM_callV0 (pc := 3) [(0, v1), (0, v2)] (tX11_areBoth l hf2) cwX11_areBoth 11 (Nat.le_of_ble_eq_true rfl) rfl kv_X11_areBoth ke_X11_areBoth km_X11_283 hc1 ⟨Nat.le_of_ble_eq_true rfl, Nat.le_of_ble_eq_true rfl⟩ (Nat.le_of_ble_eq_true rfl) (Nat.le_of_ble_eq_true rfl) (daX11_fits_0 3 rfl) ?_
  refine GM_if_eq (pc := 6) 29 (daX11_fits_0 4 rfl) rfl (fun c3 => ?_) (fun c3 => ?_)
  · skip
    rw [if_pos c3] at h
    refine GM_iconst (pc := 29) (-1) (daX11_fits_0 15 rfl) rfl (R32_b rfl) ?_
    cases h
    exact GM_iret (pc := 30) (daX11_fits_0 16 rfl) rfl hK
  · skip
    rw [if_neg c3] at h
    refine GM_aload_n (pc := 9) 0 rfl (daX11_fits_0 5 rfl) rfl ?_
    refine GM_iload_n (pc := 10) 1 rfl (daX11_fits_0 6 rfl) rfl ?_
    refine GM_iload_n (pc := 11) 3 rfl (daX11_fits_0 7 rfl) rfl ?_
    obtain ⟨r4, hf4, h⟩ := Option.bind_eq_some_iff.mp h
    refine GM_callV0 (pc := 12) [(0, v1), (0, v3)] (tX11_isPlace l hf4) cwX11_isPlace 11 (Nat.le_of_ble_eq_true rfl) rfl kv_X11_isPlace ke_X11_isPlace km_X11_210 hc1 ⟨Nat.le_of_ble_eq_true rfl, Nat.le_of_ble_eq_true rfl⟩ (Nat.le_of_ble_eq_true rfl) (Nat.le_of_ble_eq_true rfl) (daX11_fits_0 8 rfl) ?_
    refine GM_if_eq (pc := 15) 29 (daX11_fits_0 9 rfl) rfl (fun c5 => ?_) (fun c5 => ?_)
    · skip
      rw [if_pos c5] at h
      refine GM_iconst (pc := 29) (-1) (daX11_fits_0 15 rfl) rfl (R32_b rfl) ?_
      cases h
      exact GM_iret (pc := 30) (daX11_fits_0 16 rfl) rfl hK
    · skip
      rw [if_neg c5] at h
      refine GM_iload (pc := 18) 4 rfl (daX11_fits_0 10 rfl) ?_
      refine GM_iconst (pc := 20) (-1) (daX11_fits_0 11 rfl) rfl (R32_b rfl) ?_
      refine GM_bipush (pc := 21) 99 (daX11_fits_0 12 rfl) rfl (R32_b rfl) ?_
      refine GM_callS0 (pc := 23) [(0, v4), (0, (-1)), (0, 99)] (tX11_isIn l (fX11_isIn_eq v4 (-1) 99)) cwX11_isIn ks_X11_isIn km_X11_147 ⟨Nat.le_of_ble_eq_true rfl, Nat.le_of_ble_eq_true rfl⟩ (Nat.le_of_ble_eq_true rfl) (Nat.le_of_ble_eq_true rfl) (daX11_fits_0 13 rfl) ?_
      refine GM_if_ne (pc := 26) 31 (daX11_fits_0 14 rfl) rfl (fun c6 => ?_) (fun c6 => ?_)
      · skip
        rw [if_neg c6] at h
        refine GM_aload_n (pc := 31) 0 rfl (daX11_fits_0 17 rfl) rfl ?_
        refine GM_iconst (pc := 32) 0 (daX11_fits_0 18 rfl) rfl (R32_b rfl) ?_
        refine GM_iload_n (pc := 33) 1 rfl (daX11_fits_0 19 rfl) rfl ?_
        obtain ⟨r7, hf7, h⟩ := Option.bind_eq_some_iff.mp h
        refine GM_callS0 (pc := 34) [(0, 0), (0, v1)] (tX11_placeOf l hf7) cwX11_placeOf ks_X11_placeOf km_X11_204 ⟨Nat.le_of_ble_eq_true rfl, Nat.le_of_ble_eq_true rfl⟩ (Nat.le_of_ble_eq_true rfl) (Nat.le_of_ble_eq_true rfl) (daX11_fits_0 20 rfl) ?_
        refine GM_iload_n (pc := 37) 3 rfl (daX11_fits_0 21 rfl) rfl ?_
        obtain ⟨μ8, hf8, h⟩ := Option.bind_eq_some_iff.mp h
        refine GM_callV0 (pc := 38) [(0, r7), (0, v3)] (tX11_surveyAt l hf8) cwX11_surveyAt 11 (Nat.le_of_ble_eq_true rfl) rfl kv_X11_surveyAt ke_X11_surveyAt km_X11_238 hc1 ⟨Nat.le_of_ble_eq_true rfl, Nat.le_of_ble_eq_true rfl⟩ (Nat.le_of_ble_eq_true rfl) (Nat.le_of_ble_eq_true rfl) (daX11_fits_0 22 rfl) ?_
        refine GM_aload_n (pc := 41) 0 rfl (daX11_fits_0 23 rfl) rfl ?_
        refine GM_iconst (pc := 42) 0 (daX11_fits_0 24 rfl) rfl (R32_b rfl) ?_
        refine GM_iload_n (pc := 43) 1 rfl (daX11_fits_0 25 rfl) rfl ?_
        obtain ⟨r9, hf9, h⟩ := Option.bind_eq_some_iff.mp h
        refine GM_callS0 (pc := 44) [(0, 0), (0, v1)] (tX11_placeOf l hf9) cwX11_placeOf ks_X11_placeOf km_X11_204 ⟨Nat.le_of_ble_eq_true rfl, Nat.le_of_ble_eq_true rfl⟩ (Nat.le_of_ble_eq_true rfl) (Nat.le_of_ble_eq_true rfl) (daX11_fits_0 26 rfl) ?_
        refine GM_iconst (pc := 47) 1 (daX11_fits_0 27 rfl) rfl (R32_b rfl) ?_
        refine GM_iload_n (pc := 48) 2 rfl (daX11_fits_0 28 rfl) rfl ?_
        obtain ⟨r10, hf10, h⟩ := Option.bind_eq_some_iff.mp h
        refine GM_callS0 (pc := 49) [(0, 1), (0, v2)] (tX11_placeOf l hf10) cwX11_placeOf ks_X11_placeOf km_X11_204 ⟨Nat.le_of_ble_eq_true rfl, Nat.le_of_ble_eq_true rfl⟩ (Nat.le_of_ble_eq_true rfl) (Nat.le_of_ble_eq_true rfl) (daX11_fits_0 29 rfl) ?_
        refine GM_iload_n (pc := 52) 3 rfl (daX11_fits_0 30 rfl) rfl ?_
        refine GM_iload (pc := 53) 4 rfl (daX11_fits_0 31 rfl) ?_
        obtain ⟨r11, hf11, h⟩ := Option.bind_eq_some_iff.mp h
        refine GM_callV0 (pc := 55) [(0, r9), (0, r10), (0, v3), (0, v4)] (tX11_fitsAt l hf11) cwX11_fitsAt 11 (Nat.le_of_ble_eq_true rfl) rfl kv_X11_fitsAt ke_X11_fitsAt km_X11_289 hc1 ⟨Nat.le_of_ble_eq_true rfl, Nat.le_of_ble_eq_true rfl⟩ (Nat.le_of_ble_eq_true rfl) (Nat.le_of_ble_eq_true rfl) (daX11_fits_0 32 rfl) ?_
        cases h
        exact GM_iret (pc := 58) (daX11_fits_0 33 rfl) rfl hK
      · skip
        rw [if_pos c6] at h
        refine GM_iconst (pc := 29) (-1) (daX11_fits_0 15 rfl) rfl (R32_b rfl) ?_
        cases h
        exact GM_iret (pc := 30) (daX11_fits_0 16 rfl) rfl hK
theorem tX11_fits (l : Launch) {v0 v1 v2 v3 v4 : Int} {μ : Mm} {t : (Int × Mm)} (h : fX11_fits v0 v1 v2 v3 v4 μ = some t) : Ct l yX11_fits mX11_fits [(3, v0), (0, v1), (0, v2), (0, v3), (0, v4)] μ ([(0, t.1)], t.2, 0, 0) :=
  Ct_of (by decide +kernel) rfl rfl (Nat.le_of_ble_eq_true rfl) (fun _ _ _ => trivial) (gX11_fits_0 l h ⟨rfl, rfl⟩)
def mX11_finds : MI := (RX11, cX11_finds, 5, none, "finds", 10, 265, fun _ _ _ => True)
theorem cwX11_finds : CWd yX11_finds mX11_finds 3 := ⟨ki_X11, kk_X11_finds, ⟨by decide, by decide⟩, rfl⟩
def dtX11_finds_0 : List (Nat × Instr × Nat) := [(0, .aload_n 0, 1), (1, .iconst 0, 1), (2, .putfield 292, 3), (5, .iconst 0, 1), (6, .istore 4, 2), (8, .iload 4, 2), (10, .aload_n 0, 1), (11, .iload_n 1, 1), (12, .invokevirtual 207, 3), (15, .if_icmp .ge 45, 3), (18, .aload_n 0, 1), (19, .iload_n 1, 1), (20, .iload_n 2, 1), (21, .iload 4, 2), (23, .iload_n 3, 1), (24, .invokevirtual 289, 3), (27, .ifCond .ge 6, 3), (30, .goto 24, 3), (33, .aload_n 0, 1), (34, .getfield 35, 3), (37, .aload_n 0, 1), (38, .getfield 292, 3), (41, .iload 4, 2), (43, .iastore, 1), (44, .aload_n 0, 1), (45, .dup, 1), (46, .getfield 292, 3), (49, .iconst 1, 1), (50, .iadd, 1), (51, .putfield 292, 3), (54, .iinc 4 1, 3), (57, .goto (-49), 3), (60, .return_, 1)]
theorem ddX11_finds_0 : (dtX11_finds_0.all fun e => decide (decode mX11_finds.2.1 e.1 = .ok (e.2.1, e.2.2))) = true := by decide +kernel
theorem daX11_finds_0 (j : Nat) {pc n : Nat} {i : Instr} (h : dtX11_finds_0[j]? = some (pc, i, n)) : decode mX11_finds.2.1 pc = .ok (i, n) := dec_of (c := mX11_finds.2.1) ddX11_finds_0 h
def zX11_finds_8 (l : Launch) (F : FI) (v0 v1 v2 v3 : Int) (k n : Nat) : (Int × Mm) ⊕ Mm → Prop
  | .inl (v4, μ) => GM l mX11_finds F k n 8 [(0, (3, v0)), (1, (0, v1)), (2, (0, v2)), (3, (0, v3)), (4, (0, v4))] [] μ
  | .inr μ => GM l mX11_finds F k n 60 [] [] μ
def sX11_finds_8 (v0 v1 v2 v3 : Int) : (Int × Mm) → Option ((Int × Mm) ⊕ Mm) := fun (v4, μ) =>
  chk (KD v0 = 11) (
  (fX11_placesOf v0 v1 μ).bind fun r2 =>
  if r2 ≤ v4 then
    some (.inr μ)
  else
    (fX11_fitsAt v0 v1 v2 v4 v3 μ).bind fun r4 =>
    if 0 ≤ r4 then
      chk (KD (μ v0 19) = 12 ∧ 0 ≤ μ v0 18 ∧ μ v0 18 < LN (μ v0 19)) (
      lm (mst μ (μ v0 19) (μ v0 18) v4) fun μ7 =>
      lm (mst μ7 v0 18 (w32 ((μ7 v0 18) + 1))) fun μ8 =>
      some (.inl (w32 (v4 + 1), μ8)))
    else
      some (.inl (w32 (v4 + 1), μ)))
def fX11_finds (v0 v1 v2 v3 : Int) (μ : Mm) : Option Mm :=
  chk (KD v0 = 11) (
  lm (mst μ v0 18 0) fun μ10 =>
  (lop (sX11_finds_8 v0 v1 v2 v3) FU (0, μ10)).bind fun μ_12 =>
    some μ_12)
set_option maxRecDepth 20000 in
theorem qX11_finds_8 (l : Launch) (F : FI) (v0 v1 v2 v3 : Int) (k n : Nat) : ∀ (q : (Int × Mm)) (t : ((Int × Mm) ⊕ Mm)), sX11_finds_8 v0 v1 v2 v3 q = some t → zX11_finds_8 l F v0 v1 v2 v3 k n t → zX11_finds_8 l F v0 v1 v2 v3 k n (.inl q) := by
  intro q t h hK
  obtain ⟨v4, μ⟩ := q
  unfold sX11_finds_8 at h
  try dsimp only at h
  show GM l mX11_finds F k n 8 [(0, (3, v0)), (1, (0, v1)), (2, (0, v2)), (3, (0, v3)), (4, (0, v4))] [] μ
  refine GM_iload (pc := 8) 4 rfl (daX11_finds_0 5 rfl) ?_
  refine GM_aload_n (pc := 10) 0 rfl (daX11_finds_0 6 rfl) rfl ?_
  refine GM_iload_n (pc := 11) 1 rfl (daX11_finds_0 7 rfl) rfl ?_
  obtain ⟨hc1, h⟩ := chk_inv h
  obtain ⟨r2, hf2, h⟩ := Option.bind_eq_some_iff.mp h
  refine GM_callV0 (pc := 12) [(0, v1)] (tX11_placesOf l hf2) cwX11_placesOf 11 (Nat.le_of_ble_eq_true rfl) rfl kv_X11_placesOf ke_X11_placesOf km_X11_207 hc1 ⟨Nat.le_of_ble_eq_true rfl, Nat.le_of_ble_eq_true rfl⟩ (Nat.le_of_ble_eq_true rfl) (Nat.le_of_ble_eq_true rfl) (daX11_finds_0 8 rfl) ?_
  refine GM_icmp_ge (pc := 15) 60 (daX11_finds_0 9 rfl) rfl (fun c3 => ?_) (fun c3 => ?_)
  · skip
    rw [if_pos c3] at h
    refine GM_pick [] rfl ?_
    cases h
    exact hK
  · skip
    rw [if_neg c3] at h
    refine GM_aload_n (pc := 18) 0 rfl (daX11_finds_0 10 rfl) rfl ?_
    refine GM_iload_n (pc := 19) 1 rfl (daX11_finds_0 11 rfl) rfl ?_
    refine GM_iload_n (pc := 20) 2 rfl (daX11_finds_0 12 rfl) rfl ?_
    refine GM_iload (pc := 21) 4 rfl (daX11_finds_0 13 rfl) ?_
    refine GM_iload_n (pc := 23) 3 rfl (daX11_finds_0 14 rfl) rfl ?_
    obtain ⟨r4, hf4, h⟩ := Option.bind_eq_some_iff.mp h
    refine GM_callV0 (pc := 24) [(0, v1), (0, v2), (0, v4), (0, v3)] (tX11_fitsAt l hf4) cwX11_fitsAt 11 (Nat.le_of_ble_eq_true rfl) rfl kv_X11_fitsAt ke_X11_fitsAt km_X11_289 hc1 ⟨Nat.le_of_ble_eq_true rfl, Nat.le_of_ble_eq_true rfl⟩ (Nat.le_of_ble_eq_true rfl) (Nat.le_of_ble_eq_true rfl) (daX11_finds_0 15 rfl) ?_
    refine GM_if_ge (pc := 27) 33 (daX11_finds_0 16 rfl) rfl (fun c5 => ?_) (fun c5 => ?_)
    · skip
      rw [if_pos c5] at h
      refine GM_aload_n (pc := 33) 0 rfl (daX11_finds_0 18 rfl) rfl ?_
      refine GM_getf (pc := 34) 11 19 3 19 kf_X11_35 (Nat.le_of_ble_eq_true rfl) (Nat.le_of_ble_eq_true rfl) rfl (daX11_finds_0 19 rfl) hc1 rfl ?_
      refine GM_aload_n (pc := 37) 0 rfl (daX11_finds_0 20 rfl) rfl ?_
      refine GM_getf (pc := 38) 11 18 0 18 kf_X11_292 (Nat.le_of_ble_eq_true rfl) (Nat.le_of_ble_eq_true rfl) rfl (daX11_finds_0 21 rfl) hc1 rfl ?_
      refine GM_iload (pc := 41) 4 rfl (daX11_finds_0 22 rfl) ?_
      obtain ⟨hc6, h⟩ := chk_inv h
      obtain ⟨μ7, hμ7, h⟩ := lm_inv h
      refine GM_iast (pc := 43) (daX11_finds_0 23 rfl) hc6.1 hc6.2.1 hc6.2.2 ?_
      refine GM_mem hμ7 ?_
      refine GM_aload_n (pc := 44) 0 rfl (daX11_finds_0 24 rfl) rfl ?_
      refine GM_dup (pc := 45) (daX11_finds_0 25 rfl) (Nat.ne_of_beq_eq_false rfl) ?_
      refine GM_getf (pc := 46) 11 18 0 18 kf_X11_292 (Nat.le_of_ble_eq_true rfl) (Nat.le_of_ble_eq_true rfl) rfl (daX11_finds_0 26 rfl) hc1 rfl ?_
      refine GM_iconst (pc := 49) 1 (daX11_finds_0 27 rfl) rfl (R32_b rfl) ?_
      refine GM_iadd (pc := 50) (daX11_finds_0 28 rfl) ?_
      obtain ⟨μ8, hμ8, h⟩ := lm_inv h
      refine GM_putf (pc := 51) 11 18 0 kf_X11_292 (Nat.le_of_ble_eq_true rfl) (Nat.le_of_ble_eq_true rfl) rfl rfl (daX11_finds_0 29 rfl) hc1 (fun q => absurd q (by decide)) ?_
      refine GM_mem hμ8 ?_
      refine GM_iinc (L' := [(4, (0, w32 (v4 + 1))), (0, (3, v0)), (1, (0, v1)), (2, (0, v2)), (3, (0, v3))]) (pc := 54) 4 rfl (daX11_finds_0 30 rfl) (Nat.le_of_ble_eq_true rfl) rfl ?_
      refine GM_goto (pc := 57) 8 (daX11_finds_0 31 rfl) rfl ?_
      refine GM_pick [1, 2, 3, 4, 0] rfl ?_
      cases h
      exact hK
    · skip
      rw [if_neg c5] at h
      refine GM_goto (pc := 30) 54 (daX11_finds_0 17 rfl) rfl ?_
      refine GM_iinc (L' := [(4, (0, w32 (v4 + 1))), (0, (3, v0)), (1, (0, v1)), (2, (0, v2)), (3, (0, v3))]) (pc := 54) 4 rfl (daX11_finds_0 30 rfl) (Nat.le_of_ble_eq_true rfl) rfl ?_
      refine GM_goto (pc := 57) 8 (daX11_finds_0 31 rfl) rfl ?_
      refine GM_pick [1, 2, 3, 4, 0] rfl ?_
      cases h
      exact hK
set_option maxRecDepth 20000 in
theorem gX11_finds_0 (l : Launch) {F : FI} {v0 v1 v2 v3 : Int} {μ : Mm} {t : Mm} (h : fX11_finds v0 v1 v2 v3 μ = some t) (hK : F.1 = [] ∧ F.2.1 = t) : GM l mX11_finds F 0 0 0 [(0, (3, v0)), (1, (0, v1)), (2, (0, v2)), (3, (0, v3))] [] μ := by
  unfold fX11_finds at h
  refine GM_aload_n (pc := 0) 0 rfl (daX11_finds_0 0 rfl) rfl ?_
  refine GM_iconst (pc := 1) 0 (daX11_finds_0 1 rfl) rfl (R32_b rfl) ?_
  obtain ⟨hc9, h⟩ := chk_inv h
  obtain ⟨μ10, hμ10, h⟩ := lm_inv h
  refine GM_putf (pc := 2) 11 18 0 kf_X11_292 (Nat.le_of_ble_eq_true rfl) (Nat.le_of_ble_eq_true rfl) rfl rfl (daX11_finds_0 2 rfl) hc9 (fun q => absurd q (by decide)) ?_
  refine GM_mem hμ10 ?_
  refine GM_iconst (pc := 5) 0 (daX11_finds_0 3 rfl) rfl (R32_b rfl) ?_
  refine GM_istore (L' := [(4, (0, 0)), (0, (3, v0)), (1, (0, v1)), (2, (0, v2)), (3, (0, v3))]) (pc := 6) (daX11_finds_0 4 rfl) (Nat.le_of_ble_eq_true rfl) rfl ?_
  refine GM_pick [1, 2, 3, 4, 0] rfl ?_
  obtain ⟨x11, hqx11, h⟩ := Option.bind_eq_some_iff.mp h
  refine lop_ind (zX11_finds_8 l F v0 v1 v2 v3 0 0) (qX11_finds_8 l F v0 v1 v2 v3 0 0) FU _ x11 hqx11 ?_
  obtain ⟨μ_12, hqq⟩ : ∃ z, z = x11 := ⟨x11, rfl⟩
  subst hqq
  show GM l mX11_finds F 0 0 60 [] [] μ_12
  cases h
  exact GM_vret (pc := 60) (daX11_finds_0 32 rfl) rfl hK
theorem tX11_finds (l : Launch) {v0 v1 v2 v3 : Int} {μ : Mm} {t : Mm} (h : fX11_finds v0 v1 v2 v3 μ = some t) : Ct l yX11_finds mX11_finds [(3, v0), (0, v1), (0, v2), (0, v3)] μ ([], t, 0, 0) :=
  Ct_of (by decide +kernel) rfl rfl (Nat.le_of_ble_eq_true rfl) (fun _ _ _ => trivial) (gX11_finds_0 l h ⟨rfl, rfl⟩)
def mX11_told : MI := (RX11, cX11_told, 2, (some .int), "told", 1, 22, fun _ _ _ => True)
theorem cwX11_told : CWd yX11_told mX11_told 1 := ⟨ki_X11, kk_X11_told, ⟨by decide, by decide⟩, rfl⟩
def dtX11_told_0 : List (Nat × Instr × Nat) := [(0, .iload_n 1, 1), (1, .iconst (-1), 1), (2, .if_icmp .ne 10, 3), (5, .aload_n 0, 1), (6, .getfield 292, 3), (9, .goto 27, 3), (12, .iload_n 1, 1), (13, .iconst 0, 1), (14, .aload_n 0, 1), (15, .getfield 292, 3), (18, .iconst 1, 1), (19, .isub, 1), (20, .invokestatic 147, 3), (23, .ifCond .eq 12, 3), (26, .aload_n 0, 1), (27, .getfield 35, 3), (30, .iload_n 1, 1), (31, .iaload, 1), (32, .goto 4, 3), (35, .iconst (-1), 1), (36, .ireturn, 1)]
theorem ddX11_told_0 : (dtX11_told_0.all fun e => decide (decode mX11_told.2.1 e.1 = .ok (e.2.1, e.2.2))) = true := by decide +kernel
theorem daX11_told_0 (j : Nat) {pc n : Nat} {i : Instr} (h : dtX11_told_0[j]? = some (pc, i, n)) : decode mX11_told.2.1 pc = .ok (i, n) := dec_of (c := mX11_told.2.1) ddX11_told_0 h
def fX11_told (v0 v1 : Int) (μ : Mm) : Option Int :=
  if v1 = (-1) then
    chk (KD v0 = 11) (
    some (μ v0 18))
  else
    chk (KD v0 = 11) (
    if isIn v1 0 (w32 ((μ v0 18) - 1)) = 0 then
      some (-1)
    else
      chk (KD (μ v0 19) = 12 ∧ 0 ≤ v1 ∧ v1 < LN (μ v0 19)) (
      some (μ (μ v0 19) v1)))
set_option maxRecDepth 20000 in
theorem gX11_told_0 (l : Launch) {F : FI} {v0 v1 : Int} {μ : Mm} {t : Int} (h : fX11_told v0 v1 μ = some t) (hK : F.1 = [(0, t)] ∧ F.2.1 = μ) : GM l mX11_told F 0 0 0 [(0, (3, v0)), (1, (0, v1))] [] μ := by
  unfold fX11_told at h
  refine GM_iload_n (pc := 0) 1 rfl (daX11_told_0 0 rfl) rfl ?_
  refine GM_iconst (pc := 1) (-1) (daX11_told_0 1 rfl) rfl (R32_b rfl) ?_
  refine GM_icmp_ne (pc := 2) 12 (daX11_told_0 2 rfl) rfl (fun c1 => ?_) (fun c1 => ?_)
  · skip
    rw [if_neg c1] at h
    refine GM_iload_n (pc := 12) 1 rfl (daX11_told_0 6 rfl) rfl ?_
    refine GM_iconst (pc := 13) 0 (daX11_told_0 7 rfl) rfl (R32_b rfl) ?_
    refine GM_aload_n (pc := 14) 0 rfl (daX11_told_0 8 rfl) rfl ?_
    obtain ⟨hc2, h⟩ := chk_inv h
    refine GM_getf (pc := 15) 11 18 0 18 kf_X11_292 (Nat.le_of_ble_eq_true rfl) (Nat.le_of_ble_eq_true rfl) rfl (daX11_told_0 9 rfl) hc2 rfl ?_
    refine GM_iconst (pc := 18) 1 (daX11_told_0 10 rfl) rfl (R32_b rfl) ?_
    refine GM_isub (pc := 19) (daX11_told_0 11 rfl) ?_
    refine GM_callS0 (pc := 20) [(0, v1), (0, 0), (0, w32 ((μ v0 18) - 1))] (tX11_isIn l (fX11_isIn_eq v1 0 (w32 ((μ v0 18) - 1)))) cwX11_isIn ks_X11_isIn km_X11_147 ⟨Nat.le_of_ble_eq_true rfl, Nat.le_of_ble_eq_true rfl⟩ (Nat.le_of_ble_eq_true rfl) (Nat.le_of_ble_eq_true rfl) (daX11_told_0 12 rfl) ?_
    refine GM_if_eq (pc := 23) 35 (daX11_told_0 13 rfl) rfl (fun c3 => ?_) (fun c3 => ?_)
    · skip
      rw [if_pos c3] at h
      refine GM_iconst (pc := 35) (-1) (daX11_told_0 19 rfl) rfl (R32_b rfl) ?_
      cases h
      exact GM_iret (pc := 36) (daX11_told_0 20 rfl) rfl hK
    · skip
      rw [if_neg c3] at h
      refine GM_aload_n (pc := 26) 0 rfl (daX11_told_0 14 rfl) rfl ?_
      refine GM_getf (pc := 27) 11 19 3 19 kf_X11_35 (Nat.le_of_ble_eq_true rfl) (Nat.le_of_ble_eq_true rfl) rfl (daX11_told_0 15 rfl) hc2 rfl ?_
      refine GM_iload_n (pc := 30) 1 rfl (daX11_told_0 16 rfl) rfl ?_
      obtain ⟨hc4, h⟩ := chk_inv h
      refine GM_iald (pc := 31) (daX11_told_0 17 rfl) hc4.1 hc4.2.1 hc4.2.2 ?_
      refine GM_goto (pc := 32) 36 (daX11_told_0 18 rfl) rfl ?_
      cases h
      exact GM_iret (pc := 36) (daX11_told_0 20 rfl) rfl hK
  · skip
    rw [if_pos c1] at h
    refine GM_aload_n (pc := 5) 0 rfl (daX11_told_0 3 rfl) rfl ?_
    obtain ⟨hc5, h⟩ := chk_inv h
    refine GM_getf (pc := 6) 11 18 0 18 kf_X11_292 (Nat.le_of_ble_eq_true rfl) (Nat.le_of_ble_eq_true rfl) rfl (daX11_told_0 4 rfl) hc5 rfl ?_
    refine GM_goto (pc := 9) 36 (daX11_told_0 5 rfl) rfl ?_
    cases h
    exact GM_iret (pc := 36) (daX11_told_0 20 rfl) rfl hK
theorem tX11_told (l : Launch) {v0 v1 : Int} {μ : Mm} {t : Int} (h : fX11_told v0 v1 μ = some t) : Ct l yX11_told mX11_told [(3, v0), (0, v1)] μ ([(0, t)], μ, 0, 0) :=
  Ct_of (by decide +kernel) rfl rfl (Nat.le_of_ble_eq_true rfl) (fun _ _ _ => trivial) (gX11_told_0 l h ⟨rfl, rfl⟩)
def mX11_where : MI := (RX11, cX11_where, 5, (some .int), "where", 11, 289, fun _ _ _ => True)
theorem cwX11_where : CWd yX11_where mX11_where 4 := ⟨ki_X11, kk_X11_where, ⟨by decide, by decide⟩, rfl⟩
def dtX11_where_0 : List (Nat × Instr × Nat) := [(0, .aload_n 0, 1), (1, .iload_n 1, 1), (2, .iload_n 2, 1), (3, .invokevirtual 283, 3), (6, .ifCond .eq 13, 3), (9, .iload_n 3, 1), (10, .iconst (-1), 1), (11, .bipush 99, 2), (13, .invokestatic 147, 3), (16, .ifCond .ne 5, 3), (19, .iconst (-1), 1), (20, .ireturn, 1), (21, .aload_n 0, 1), (22, .iconst 0, 1), (23, .iload_n 1, 1), (24, .invokestatic 204, 3), (27, .invokevirtual 295, 3), (30, .aload_n 0, 1), (31, .iconst 0, 1), (32, .iload_n 1, 1), (33, .invokestatic 204, 3), (36, .iconst 1, 1), (37, .iload_n 2, 1), (38, .invokestatic 204, 3), (41, .iload_n 3, 1), (42, .invokevirtual 298, 3), (45, .aload_n 0, 1), (46, .iload 4, 2), (48, .invokevirtual 302, 3), (51, .ireturn, 1)]
theorem ddX11_where_0 : (dtX11_where_0.all fun e => decide (decode mX11_where.2.1 e.1 = .ok (e.2.1, e.2.2))) = true := by decide +kernel
theorem daX11_where_0 (j : Nat) {pc n : Nat} {i : Instr} (h : dtX11_where_0[j]? = some (pc, i, n)) : decode mX11_where.2.1 pc = .ok (i, n) := dec_of (c := mX11_where.2.1) ddX11_where_0 h
def fX11_where (v0 v1 v2 v3 v4 : Int) (μ : Mm) : Option (Int × Mm) :=
  chk (KD v0 = 11) (
  (fX11_areBoth v0 v1 v2 μ).bind fun r2 =>
  if r2 = 0 then
    some ((-1), μ)
  else
    if isIn v3 (-1) 99 = 0 then
      some ((-1), μ)
    else
      (fX11_placeOf 0 v1).bind fun r5 =>
      (fX11_survey v0 r5 μ).bind fun μ6 =>
      (fX11_placeOf 0 v1).bind fun r7 =>
      (fX11_placeOf 1 v2).bind fun r8 =>
      (fX11_finds v0 r7 r8 v3 μ6).bind fun μ9 =>
      (fX11_told v0 v4 μ9).bind fun r10 =>
      some (r10, μ9))
set_option maxRecDepth 20000 in
theorem gX11_where_0 (l : Launch) {F : FI} {v0 v1 v2 v3 v4 : Int} {μ : Mm} {t : (Int × Mm)} (h : fX11_where v0 v1 v2 v3 v4 μ = some t) (hK : F.1 = [(0, t.1)] ∧ F.2.1 = t.2) : GM l mX11_where F 0 0 0 [(0, (3, v0)), (1, (0, v1)), (2, (0, v2)), (3, (0, v3)), (4, (0, v4))] [] μ := by
  unfold fX11_where at h
  refine GM_aload_n (pc := 0) 0 rfl (daX11_where_0 0 rfl) rfl ?_
  refine GM_iload_n (pc := 1) 1 rfl (daX11_where_0 1 rfl) rfl ?_
  refine GM_iload_n (pc := 2) 2 rfl (daX11_where_0 2 rfl) rfl ?_
  obtain ⟨hc1, h⟩ := chk_inv h
  obtain ⟨r2, hf2, h⟩ := Option.bind_eq_some_iff.mp h
  refine GM_callV0 (pc := 3) [(0, v1), (0, v2)] (tX11_areBoth l hf2) cwX11_areBoth 11 (Nat.le_of_ble_eq_true rfl) rfl kv_X11_areBoth ke_X11_areBoth km_X11_283 hc1 ⟨Nat.le_of_ble_eq_true rfl, Nat.le_of_ble_eq_true rfl⟩ (Nat.le_of_ble_eq_true rfl) (Nat.le_of_ble_eq_true rfl) (daX11_where_0 3 rfl) ?_
  refine GM_if_eq (pc := 6) 19 (daX11_where_0 4 rfl) rfl (fun c3 => ?_) (fun c3 => ?_)
  · skip
    rw [if_pos c3] at h
    refine GM_iconst (pc := 19) (-1) (daX11_where_0 10 rfl) rfl (R32_b rfl) ?_
    cases h
    exact GM_iret (pc := 20) (daX11_where_0 11 rfl) rfl hK
  · skip
    rw [if_neg c3] at h
    refine GM_iload_n (pc := 9) 3 rfl (daX11_where_0 5 rfl) rfl ?_
    refine GM_iconst (pc := 10) (-1) (daX11_where_0 6 rfl) rfl (R32_b rfl) ?_
    refine GM_bipush (pc := 11) 99 (daX11_where_0 7 rfl) rfl (R32_b rfl) ?_
    refine GM_callS0 (pc := 13) [(0, v3), (0, (-1)), (0, 99)] (tX11_isIn l (fX11_isIn_eq v3 (-1) 99)) cwX11_isIn ks_X11_isIn km_X11_147 ⟨Nat.le_of_ble_eq_true rfl, Nat.le_of_ble_eq_true rfl⟩ (Nat.le_of_ble_eq_true rfl) (Nat.le_of_ble_eq_true rfl) (daX11_where_0 8 rfl) ?_
    refine GM_if_ne (pc := 16) 21 (daX11_where_0 9 rfl) rfl (fun c4 => ?_) (fun c4 => ?_)
    · skip
      rw [if_neg c4] at h
      refine GM_aload_n (pc := 21) 0 rfl (daX11_where_0 12 rfl) rfl ?_
      refine GM_iconst (pc := 22) 0 (daX11_where_0 13 rfl) rfl (R32_b rfl) ?_
      refine GM_iload_n (pc := 23) 1 rfl (daX11_where_0 14 rfl) rfl ?_
      obtain ⟨r5, hf5, h⟩ := Option.bind_eq_some_iff.mp h
      refine GM_callS0 (pc := 24) [(0, 0), (0, v1)] (tX11_placeOf l hf5) cwX11_placeOf ks_X11_placeOf km_X11_204 ⟨Nat.le_of_ble_eq_true rfl, Nat.le_of_ble_eq_true rfl⟩ (Nat.le_of_ble_eq_true rfl) (Nat.le_of_ble_eq_true rfl) (daX11_where_0 15 rfl) ?_
      obtain ⟨μ6, hf6, h⟩ := Option.bind_eq_some_iff.mp h
      refine GM_callV0 (pc := 27) [(0, r5)] (tX11_survey l hf6) cwX11_survey 11 (Nat.le_of_ble_eq_true rfl) rfl kv_X11_survey ke_X11_survey km_X11_295 hc1 ⟨Nat.le_of_ble_eq_true rfl, Nat.le_of_ble_eq_true rfl⟩ (Nat.le_of_ble_eq_true rfl) (Nat.le_of_ble_eq_true rfl) (daX11_where_0 16 rfl) ?_
      refine GM_aload_n (pc := 30) 0 rfl (daX11_where_0 17 rfl) rfl ?_
      refine GM_iconst (pc := 31) 0 (daX11_where_0 18 rfl) rfl (R32_b rfl) ?_
      refine GM_iload_n (pc := 32) 1 rfl (daX11_where_0 19 rfl) rfl ?_
      obtain ⟨r7, hf7, h⟩ := Option.bind_eq_some_iff.mp h
      refine GM_callS0 (pc := 33) [(0, 0), (0, v1)] (tX11_placeOf l hf7) cwX11_placeOf ks_X11_placeOf km_X11_204 ⟨Nat.le_of_ble_eq_true rfl, Nat.le_of_ble_eq_true rfl⟩ (Nat.le_of_ble_eq_true rfl) (Nat.le_of_ble_eq_true rfl) (daX11_where_0 20 rfl) ?_
      refine GM_iconst (pc := 36) 1 (daX11_where_0 21 rfl) rfl (R32_b rfl) ?_
      refine GM_iload_n (pc := 37) 2 rfl (daX11_where_0 22 rfl) rfl ?_
      obtain ⟨r8, hf8, h⟩ := Option.bind_eq_some_iff.mp h
      refine GM_callS0 (pc := 38) [(0, 1), (0, v2)] (tX11_placeOf l hf8) cwX11_placeOf ks_X11_placeOf km_X11_204 ⟨Nat.le_of_ble_eq_true rfl, Nat.le_of_ble_eq_true rfl⟩ (Nat.le_of_ble_eq_true rfl) (Nat.le_of_ble_eq_true rfl) (daX11_where_0 23 rfl) ?_
      refine GM_iload_n (pc := 41) 3 rfl (daX11_where_0 24 rfl) rfl ?_
      obtain ⟨μ9, hf9, h⟩ := Option.bind_eq_some_iff.mp h
      refine GM_callV0 (pc := 42) [(0, r7), (0, r8), (0, v3)] (tX11_finds l hf9) cwX11_finds 11 (Nat.le_of_ble_eq_true rfl) rfl kv_X11_finds ke_X11_finds km_X11_298 hc1 ⟨Nat.le_of_ble_eq_true rfl, Nat.le_of_ble_eq_true rfl⟩ (Nat.le_of_ble_eq_true rfl) (Nat.le_of_ble_eq_true rfl) (daX11_where_0 25 rfl) ?_
      refine GM_aload_n (pc := 45) 0 rfl (daX11_where_0 26 rfl) rfl ?_
      refine GM_iload (pc := 46) 4 rfl (daX11_where_0 27 rfl) ?_
      obtain ⟨r10, hf10, h⟩ := Option.bind_eq_some_iff.mp h
      refine GM_callV0 (pc := 48) [(0, v4)] (tX11_told l hf10) cwX11_told 11 (Nat.le_of_ble_eq_true rfl) rfl kv_X11_told ke_X11_told km_X11_302 hc1 ⟨Nat.le_of_ble_eq_true rfl, Nat.le_of_ble_eq_true rfl⟩ (Nat.le_of_ble_eq_true rfl) (Nat.le_of_ble_eq_true rfl) (daX11_where_0 28 rfl) ?_
      cases h
      exact GM_iret (pc := 51) (daX11_where_0 29 rfl) rfl hK
    · skip
      rw [if_pos c4] at h
      refine GM_iconst (pc := 19) (-1) (daX11_where_0 10 rfl) rfl (R32_b rfl) ?_
      cases h
      exact GM_iret (pc := 20) (daX11_where_0 11 rfl) rfl hK
theorem tX11_where (l : Launch) {v0 v1 v2 v3 v4 : Int} {μ : Mm} {t : (Int × Mm)} (h : fX11_where v0 v1 v2 v3 v4 μ = some t) : Ct l yX11_where mX11_where [(3, v0), (0, v1), (0, v2), (0, v3), (0, v4)] μ ([(0, t.1)], t.2, 0, 0) :=
  Ct_of (by decide +kernel) rfl rfl (Nat.le_of_ble_eq_true rfl) (fun _ _ _ => trivial) (gX11_where_0 l h ⟨rfl, rfl⟩)
def mX11_hillsOf : MI := (RX11, cX11_hillsOf, 8, (some .boolean), "hillsOf", 9, 240, fun _ _ _ => True)
theorem cwX11_hillsOf : CWd yX11_hillsOf mX11_hillsOf 3 := ⟨ki_X11, kk_X11_hillsOf, ⟨by decide, by decide⟩, rfl⟩
def dtX11_hillsOf_0 : List (Nat × Instr × Nat) := [(0, .aload_n 0, 1), (1, .iload_n 1, 1), (2, .iload_n 2, 1), (3, .invokevirtual 283, 3), (6, .ifCond .eq 23, 3), (9, .iload_n 3, 1), (10, .iconst 0, 1), (11, .aload_n 0, 1), (12, .getfield 7, 3), (15, .iconst 1, 1), (16, .iload_n 2, 1), (17, .invokestatic 204, 3), (20, .iaload, 1), (21, .iconst 1, 1), (22, .isub, 1), (23, .invokestatic 147, 3), (26, .ifCond .ne 5, 3), (29, .iconst 0, 1), (30, .ireturn, 1), (31, .iconst 0, 1), (32, .iload_n 1, 1), (33, .invokestatic 204, 3), (36, .istore 4, 2), (38, .iconst 1, 1), (39, .iload_n 2, 1), (40, .invokestatic 204, 3), (43, .istore 5, 2), (45, .aload_n 0, 1), (46, .iload 4, 2), (48, .invokevirtual 295, 3), (51, .iconst 0, 1), (52, .istore 6, 2), (54, .iload 6, 2), (56, .sipush 144, 3), (59, .if_icmp .ge 17, 3), (62, .aload_n 0, 1), (63, .getfield 41, 3), (66, .iload 6, 2), (68, .iconst 0, 1), (69, .bastore, 1), (70, .iinc 6 1, 3), (73, .goto (-19), 3), (76, .iconst 0, 1), (77, .istore 6, 2), (79, .iload 6, 2), (81, .aload_n 0, 1), (82, .iload 4, 2), (84, .invokevirtual 207, 3), (87, .if_icmp .ge 81, 3), (90, .iconst 0, 1), (91, .istore 7, 2), (93, .iload 7, 2), (95, .aload_n 0, 1), (96, .getfield 29, 3), (99, .iload 6, 2), (101, .iaload, 1), (102, .if_icmp .ge 60, 3), (105, .aload_n 0, 1), (106, .iload 5, 2), (108, .iload 6, 2), (110, .invokevirtual 263, 3), (113, .ifCond .eq 49, 3), (116, .aload_n 0, 1), (117, .iload 4, 2)]
theorem ddX11_hillsOf_0 : (dtX11_hillsOf_0.all fun e => decide (decode mX11_hillsOf.2.1 e.1 = .ok (e.2.1, e.2.2))) = true := by decide +kernel
theorem daX11_hillsOf_0 (j : Nat) {pc n : Nat} {i : Instr} (h : dtX11_hillsOf_0[j]? = some (pc, i, n)) : decode mX11_hillsOf.2.1 pc = .ok (i, n) := dec_of (c := mX11_hillsOf.2.1) ddX11_hillsOf_0 h
def dtX11_hillsOf_1 : List (Nat × Instr × Nat) := [(119, .iload 5, 2), (121, .iload 6, 2), (123, .iload 7, 2), (125, .iconst (-1), 1), (126, .invokevirtual 280, 3), (129, .aload_n 0, 1), (130, .getfield 7, 3), (133, .iload 5, 2), (135, .iaload, 1), (136, .if_icmp .ne 20, 3), (139, .aload_n 0, 1), (140, .getfield 41, 3), (143, .aload_n 0, 1), (144, .iload 5, 2), (146, .iload 6, 2), (148, .iload 7, 2), (150, .iload_n 3, 1), (151, .invokevirtual 247, 3), (154, .iconst 1, 1), (155, .bastore, 1), (156, .iinc 7 1, 3), (159, .goto (-66), 3), (162, .iinc 6 1, 3), (165, .goto (-86), 3), (168, .aload_n 0, 1), (169, .iconst 0, 1), (170, .putfield 292, 3), (173, .iconst 0, 1), (174, .istore 6, 2), (176, .iload 6, 2), (178, .sipush 144, 3), (181, .if_icmp .ge 43, 3), (184, .aload_n 0, 1), (185, .getfield 41, 3), (188, .iload 6, 2), (190, .baload, 1), (191, .ifCond .ne 6, 3), (194, .goto 24, 3), (197, .aload_n 0, 1), (198, .getfield 35, 3), (201, .aload_n 0, 1), (202, .getfield 292, 3), (205, .iload 6, 2), (207, .iastore, 1), (208, .aload_n 0, 1), (209, .dup, 1), (210, .getfield 292, 3), (213, .iconst 1, 1), (214, .iadd, 1), (215, .putfield 292, 3), (218, .iinc 6 1, 3), (221, .goto (-45), 3), (224, .iconst 1, 1), (225, .ireturn, 1)]
theorem ddX11_hillsOf_1 : (dtX11_hillsOf_1.all fun e => decide (decode mX11_hillsOf.2.1 e.1 = .ok (e.2.1, e.2.2))) = true := by decide +kernel
theorem daX11_hillsOf_1 (j : Nat) {pc n : Nat} {i : Instr} (h : dtX11_hillsOf_1[j]? = some (pc, i, n)) : decode mX11_hillsOf.2.1 pc = .ok (i, n) := dec_of (c := mX11_hillsOf.2.1) ddX11_hillsOf_1 h
def zX11_hillsOf_54 (l : Launch) (F : FI) (v0 v3 v4 v5 : Int) (k n : Nat) : (Int × Mm) ⊕ Mm → Prop
  | .inl (v6, μ) => GM l mX11_hillsOf F k n 54 [(0, (3, v0)), (3, (0, v3)), (4, (0, v4)), (5, (0, v5)), (6, (0, v6))] [] μ
  | .inr μ => GM l mX11_hillsOf F k n 76 [(0, (3, v0)), (3, (0, v3)), (4, (0, v4)), (5, (0, v5))] [] μ
def sX11_hillsOf_54 (v0 v3 v4 v5 : Int) : (Int × Mm) → Option ((Int × Mm) ⊕ Mm) := fun (v6, μ) =>
  if 144 ≤ v6 then
    some (.inr μ)
  else
    chk (KD v0 = 11) (
    chk (KD (μ v0 22) = 14 ∧ 0 ≤ v6 ∧ v6 < LN (μ v0 22)) (
    lm (mst μ (μ v0 22) v6 0) fun μ4 =>
    some (.inl (w32 (v6 + 1), μ4))))
def zX11_hillsOf_93 (l : Launch) (F : FI) (v0 v3 v4 v5 v6 : Int) (k n : Nat) : (Int × Mm) ⊕ Mm → Prop
  | .inl (v7, μ) => GM l mX11_hillsOf F k n 93 [(0, (3, v0)), (3, (0, v3)), (4, (0, v4)), (5, (0, v5)), (6, (0, v6)), (7, (0, v7))] [] μ
  | .inr μ => GM l mX11_hillsOf F k n 162 [(0, (3, v0)), (3, (0, v3)), (4, (0, v4)), (5, (0, v5)), (6, (0, v6))] [] μ
def sX11_hillsOf_93 (v0 v3 v4 v5 v6 : Int) : (Int × Mm) → Option ((Int × Mm) ⊕ Mm) := fun (v7, μ) =>
  chk (KD v0 = 11) (
  chk (KD (μ v0 16) = 12 ∧ 0 ≤ v6 ∧ v6 < LN (μ v0 16)) (
  if μ (μ v0 16) v6 ≤ v7 then
    some (.inr μ)
  else
    (fX11_canBe v0 v5 v6 μ).bind fun r8 =>
    if r8 = 0 then
      some (.inr μ)
    else
      (fX11_firstOf v0 v4 v5 v6 v7 (-1) μ).bind fun r10 =>
      chk (KD (μ v0 0) = 12 ∧ 0 ≤ v5 ∧ v5 < LN (μ v0 0)) (
      if r10 = μ (μ v0 0) v5 then
        (fX11_hillOf v0 v5 v6 v7 v3 μ).bind fun r13 =>
        chk (KD (μ v0 22) = 14 ∧ 0 ≤ r13 ∧ r13 < LN (μ v0 22)) (
        lm (mst μ (μ v0 22) r13 1) fun μ15 =>
        some (.inl (w32 (v7 + 1), μ15)))
      else
        some (.inl (w32 (v7 + 1), μ)))))
def zX11_hillsOf_79 (l : Launch) (F : FI) (v0 v3 v4 v5 : Int) (k n : Nat) : (Int × Mm) ⊕ Mm → Prop
  | .inl (v6, μ) => GM l mX11_hillsOf F k n 79 [(0, (3, v0)), (3, (0, v3)), (4, (0, v4)), (5, (0, v5)), (6, (0, v6))] [] μ
  | .inr μ => GM l mX11_hillsOf F k n 168 [(0, (3, v0))] [] μ
def sX11_hillsOf_79 (v0 v3 v4 v5 : Int) : (Int × Mm) → Option ((Int × Mm) ⊕ Mm) := fun (v6, μ) =>
  chk (KD v0 = 11) (
  (fX11_placesOf v0 v4 μ).bind fun r17 =>
  if r17 ≤ v6 then
    some (.inr μ)
  else
    (lop (sX11_hillsOf_93 v0 v3 v4 v5 v6) FU (0, μ)).bind fun μ_20 =>
      some (.inl (w32 (v6 + 1), μ_20)))
def zX11_hillsOf_176 (l : Launch) (F : FI) (v0 : Int) (k n : Nat) : (Int × Mm) ⊕ Mm → Prop
  | .inl (v6, μ) => GM l mX11_hillsOf F k n 176 [(0, (3, v0)), (6, (0, v6))] [] μ
  | .inr μ => GM l mX11_hillsOf F k n 224 [] [] μ
def sX11_hillsOf_176 (v0 : Int) : (Int × Mm) → Option ((Int × Mm) ⊕ Mm) := fun (v6, μ) =>
  if 144 ≤ v6 then
    some (.inr μ)
  else
    chk (KD v0 = 11) (
    chk (KD (μ v0 22) = 14 ∧ 0 ≤ v6 ∧ v6 < LN (μ v0 22)) (
    if μ (μ v0 22) v6 = 0 then
      some (.inl (w32 (v6 + 1), μ))
    else
      chk (KD (μ v0 19) = 12 ∧ 0 ≤ μ v0 18 ∧ μ v0 18 < LN (μ v0 19)) (
      lm (mst μ (μ v0 19) (μ v0 18) v6) fun μ26 =>
      lm (mst μ26 v0 18 (w32 ((μ26 v0 18) + 1))) fun μ27 =>
      some (.inl (w32 (v6 + 1), μ27)))))
def fX11_hillsOf (v0 v1 v2 v3 : Int) (μ : Mm) : Option (Int × Mm) :=
  chk (KD v0 = 11) (
  (fX11_areBoth v0 v1 v2 μ).bind fun r29 =>
  if r29 = 0 then
    some (0, μ)
  else
    (fX11_placeOf 1 v2).bind fun r31 =>
    chk (KD (μ v0 0) = 12 ∧ 0 ≤ r31 ∧ r31 < LN (μ v0 0)) (
    if isIn v3 0 (w32 ((μ (μ v0 0) r31) - 1)) = 0 then
      some (0, μ)
    else
      (fX11_placeOf 0 v1).bind fun r34 =>
      (fX11_placeOf 1 v2).bind fun r35 =>
      (fX11_survey v0 r34 μ).bind fun μ36 =>
      (lop (sX11_hillsOf_54 v0 v3 r34 r35) FU (0, μ36)).bind fun μ_38 =>
        (lop (sX11_hillsOf_79 v0 v3 r34 r35) FU (0, μ_38)).bind fun μ_40 =>
          lm (mst μ_40 v0 18 0) fun μ41 =>
          (lop (sX11_hillsOf_176 v0) FU (0, μ41)).bind fun μ_43 =>
            some (1, μ_43)))
set_option maxRecDepth 20000 in
theorem qX11_hillsOf_54 (l : Launch) (F : FI) (v0 v3 v4 v5 : Int) (k n : Nat) : ∀ (q : (Int × Mm)) (t : ((Int × Mm) ⊕ Mm)), sX11_hillsOf_54 v0 v3 v4 v5 q = some t → zX11_hillsOf_54 l F v0 v3 v4 v5 k n t → zX11_hillsOf_54 l F v0 v3 v4 v5 k n (.inl q) := by
  intro q t h hK
  obtain ⟨v6, μ⟩ := q
  unfold sX11_hillsOf_54 at h
  try dsimp only at h
  show GM l mX11_hillsOf F k n 54 [(0, (3, v0)), (3, (0, v3)), (4, (0, v4)), (5, (0, v5)), (6, (0, v6))] [] μ
  refine GM_iload (pc := 54) 4 rfl (daX11_hillsOf_0 32 rfl) ?_
  refine GM_sipush (pc := 56) 144 (daX11_hillsOf_0 33 rfl) rfl (R32_b rfl) ?_
  refine GM_icmp_ge (pc := 59) 76 (daX11_hillsOf_0 34 rfl) rfl (fun c1 => ?_) (fun c1 => ?_)
  · skip
    rw [if_pos c1] at h
    refine GM_pick [0, 1, 2, 3] rfl ?_
    cases h
    exact hK
  · skip
    rw [if_neg c1] at h
    refine GM_aload_n (pc := 62) 0 rfl (daX11_hillsOf_0 35 rfl) rfl ?_
    obtain ⟨hc2, h⟩ := chk_inv h
    refine GM_getf (pc := 63) 11 22 3 22 kf_X11_41 (Nat.le_of_ble_eq_true rfl) (Nat.le_of_ble_eq_true rfl) rfl (daX11_hillsOf_0 36 rfl) hc2 rfl ?_
    refine GM_iload (pc := 66) 4 rfl (daX11_hillsOf_0 37 rfl) ?_
    refine GM_iconst (pc := 68) 0 (daX11_hillsOf_0 38 rfl) rfl (R32_b rfl) ?_
    obtain ⟨hc3, h⟩ := chk_inv h
    obtain ⟨μ4, hμ4, h⟩ := lm_inv h
    refine GM_zast (pc := 69) (daX11_hillsOf_0 39 rfl) hc3.1 hc3.2.1 hc3.2.2 (Or.inl rfl) ?_
    refine GM_mem hμ4 ?_
    refine GM_iinc (L' := [(6, (0, w32 (v6 + 1))), (0, (3, v0)), (3, (0, v3)), (4, (0, v4)), (5, (0, v5))]) (pc := 70) 4 rfl (daX11_hillsOf_0 40 rfl) (Nat.le_of_ble_eq_true rfl) rfl ?_
    refine GM_goto (pc := 73) 54 (daX11_hillsOf_0 41 rfl) rfl ?_
    refine GM_pick [1, 2, 3, 4, 0] rfl ?_
    cases h
    exact hK
set_option maxRecDepth 20000 in
theorem qX11_hillsOf_93 (l : Launch) (F : FI) (v0 v3 v4 v5 v6 : Int) (k n : Nat) : ∀ (q : (Int × Mm)) (t : ((Int × Mm) ⊕ Mm)), sX11_hillsOf_93 v0 v3 v4 v5 v6 q = some t → zX11_hillsOf_93 l F v0 v3 v4 v5 v6 k n t → zX11_hillsOf_93 l F v0 v3 v4 v5 v6 k n (.inl q) := by
  intro q t h hK
  obtain ⟨v7, μ⟩ := q
  unfold sX11_hillsOf_93 at h
  try dsimp only at h
  show GM l mX11_hillsOf F k n 93 [(0, (3, v0)), (3, (0, v3)), (4, (0, v4)), (5, (0, v5)), (6, (0, v6)), (7, (0, v7))] [] μ
  refine GM_iload (pc := 93) 5 rfl (daX11_hillsOf_0 51 rfl) ?_
  refine GM_aload_n (pc := 95) 0 rfl (daX11_hillsOf_0 52 rfl) rfl ?_
  obtain ⟨hc5, h⟩ := chk_inv h
  refine GM_getf (pc := 96) 11 16 3 16 kf_X11_29 (Nat.le_of_ble_eq_true rfl) (Nat.le_of_ble_eq_true rfl) rfl (daX11_hillsOf_0 53 rfl) hc5 rfl ?_
  refine GM_iload (pc := 99) 4 rfl (daX11_hillsOf_0 54 rfl) ?_
  obtain ⟨hc6, h⟩ := chk_inv h
  refine GM_iald (pc := 101) (daX11_hillsOf_0 55 rfl) hc6.1 hc6.2.1 hc6.2.2 ?_
  refine GM_icmp_ge (pc := 102) 162 (daX11_hillsOf_0 56 rfl) rfl (fun c7 => ?_) (fun c7 => ?_)
  · skip
    rw [if_pos c7] at h
    refine GM_pick [0, 1, 2, 3, 4] rfl ?_
    cases h
    exact hK
  · skip
    rw [if_neg c7] at h
    refine GM_aload_n (pc := 105) 0 rfl (daX11_hillsOf_0 57 rfl) rfl ?_
    refine GM_iload (pc := 106) 3 rfl (daX11_hillsOf_0 58 rfl) ?_
    refine GM_iload (pc := 108) 4 rfl (daX11_hillsOf_0 59 rfl) ?_
    obtain ⟨r8, hf8, h⟩ := Option.bind_eq_some_iff.mp h
    refine GM_callV0 (pc := 110) [(0, v5), (0, v6)] (tX11_canBe l hf8) cwX11_canBe 11 (Nat.le_of_ble_eq_true rfl) rfl kv_X11_canBe ke_X11_canBe km_X11_263 hc5 ⟨Nat.le_of_ble_eq_true rfl, Nat.le_of_ble_eq_true rfl⟩ (Nat.le_of_ble_eq_true rfl) (Nat.le_of_ble_eq_true rfl) (daX11_hillsOf_0 60 rfl) ?_
    refine GM_if_eq (pc := 113) 162 (daX11_hillsOf_0 61 rfl) rfl (fun c9 => ?_) (fun c9 => ?_)
    · skip
      rw [if_pos c9] at h
      refine GM_pick [0, 1, 2, 3, 4] rfl ?_
      cases h
      exact hK
    · skip
      rw [if_neg c9] at h
      refine GM_aload_n (pc := 116) 0 rfl (daX11_hillsOf_0 62 rfl) rfl ?_
      refine GM_iload (pc := 117) 2 rfl (daX11_hillsOf_0 63 rfl) ?_
      refine GM_iload (pc := 119) 3 rfl (daX11_hillsOf_1 0 rfl) ?_
      refine GM_iload (pc := 121) 4 rfl (daX11_hillsOf_1 1 rfl) ?_
      refine GM_iload (pc := 123) 5 rfl (daX11_hillsOf_1 2 rfl) ?_
      refine GM_iconst (pc := 125) (-1) (daX11_hillsOf_1 3 rfl) rfl (R32_b rfl) ?_
      obtain ⟨r10, hf10, h⟩ := Option.bind_eq_some_iff.mp h
      refine GM_callV0 (pc := 126) [(0, v4), (0, v5), (0, v6), (0, v7), (0, (-1))] (tX11_firstOf l hf10) cwX11_firstOf 11 (Nat.le_of_ble_eq_true rfl) rfl kv_X11_firstOf ke_X11_firstOf km_X11_280 hc5 ⟨Nat.le_of_ble_eq_true rfl, Nat.le_of_ble_eq_true rfl⟩ (Nat.le_of_ble_eq_true rfl) (Nat.le_of_ble_eq_true rfl) (daX11_hillsOf_1 4 rfl) ?_
      refine GM_aload_n (pc := 129) 0 rfl (daX11_hillsOf_1 5 rfl) rfl ?_
      refine GM_getf (pc := 130) 11 0 3 0 kf_X11_7 (Nat.le_of_ble_eq_true rfl) (Nat.le_of_ble_eq_true rfl) rfl (daX11_hillsOf_1 6 rfl) hc5 rfl ?_
      refine GM_iload (pc := 133) 3 rfl (daX11_hillsOf_1 7 rfl) ?_
      obtain ⟨hc11, h⟩ := chk_inv h
      refine GM_iald (pc := 135) (daX11_hillsOf_1 8 rfl) hc11.1 hc11.2.1 hc11.2.2 ?_
      refine GM_icmp_ne (pc := 136) 156 (daX11_hillsOf_1 9 rfl) rfl (fun c12 => ?_) (fun c12 => ?_)
      · skip
        rw [if_neg c12] at h
        refine GM_iinc (L' := [(7, (0, w32 (v7 + 1))), (0, (3, v0)), (3, (0, v3)), (4, (0, v4)), (5, (0, v5)), (6, (0, v6))]) (pc := 156) 5 rfl (daX11_hillsOf_1 20 rfl) (Nat.le_of_ble_eq_true rfl) rfl ?_
        refine GM_goto (pc := 159) 93 (daX11_hillsOf_1 21 rfl) rfl ?_
        refine GM_pick [1, 2, 3, 4, 5, 0] rfl ?_
        cases h
        exact hK
      · skip
        rw [if_pos c12] at h
        refine GM_aload_n (pc := 139) 0 rfl (daX11_hillsOf_1 10 rfl) rfl ?_
        refine GM_getf (pc := 140) 11 22 3 22 kf_X11_41 (Nat.le_of_ble_eq_true rfl) (Nat.le_of_ble_eq_true rfl) rfl (daX11_hillsOf_1 11 rfl) hc5 rfl ?_
        refine GM_aload_n (pc := 143) 0 rfl (daX11_hillsOf_1 12 rfl) rfl ?_
        refine GM_iload (pc := 144) 3 rfl (daX11_hillsOf_1 13 rfl) ?_
        refine GM_iload (pc := 146) 4 rfl (daX11_hillsOf_1 14 rfl) ?_
        refine GM_iload (pc := 148) 5 rfl (daX11_hillsOf_1 15 rfl) ?_
        refine GM_iload_n (pc := 150) 1 rfl (daX11_hillsOf_1 16 rfl) rfl ?_
        obtain ⟨r13, hf13, h⟩ := Option.bind_eq_some_iff.mp h
        refine GM_callV0 (pc := 151) [(0, v5), (0, v6), (0, v7), (0, v3)] (tX11_hillOf l hf13) cwX11_hillOf 11 (Nat.le_of_ble_eq_true rfl) rfl kv_X11_hillOf ke_X11_hillOf km_X11_247 hc5 ⟨Nat.le_of_ble_eq_true rfl, Nat.le_of_ble_eq_true rfl⟩ (Nat.le_of_ble_eq_true rfl) (Nat.le_of_ble_eq_true rfl) (daX11_hillsOf_1 17 rfl) ?_
        refine GM_iconst (pc := 154) 1 (daX11_hillsOf_1 18 rfl) rfl (R32_b rfl) ?_
        obtain ⟨hc14, h⟩ := chk_inv h
        obtain ⟨μ15, hμ15, h⟩ := lm_inv h
        refine GM_zast (pc := 155) (daX11_hillsOf_1 19 rfl) hc14.1 hc14.2.1 hc14.2.2 (Or.inr rfl) ?_
        refine GM_mem hμ15 ?_
        refine GM_iinc (L' := [(7, (0, w32 (v7 + 1))), (0, (3, v0)), (3, (0, v3)), (4, (0, v4)), (5, (0, v5)), (6, (0, v6))]) (pc := 156) 5 rfl (daX11_hillsOf_1 20 rfl) (Nat.le_of_ble_eq_true rfl) rfl ?_
        refine GM_goto (pc := 159) 93 (daX11_hillsOf_1 21 rfl) rfl ?_
        refine GM_pick [1, 2, 3, 4, 5, 0] rfl ?_
        cases h
        exact hK
set_option maxRecDepth 20000 in
theorem qX11_hillsOf_79 (l : Launch) (F : FI) (v0 v3 v4 v5 : Int) (k n : Nat) : ∀ (q : (Int × Mm)) (t : ((Int × Mm) ⊕ Mm)), sX11_hillsOf_79 v0 v3 v4 v5 q = some t → zX11_hillsOf_79 l F v0 v3 v4 v5 k n t → zX11_hillsOf_79 l F v0 v3 v4 v5 k n (.inl q) := by
  intro q t h hK
  obtain ⟨v6, μ⟩ := q
  unfold sX11_hillsOf_79 at h
  try dsimp only at h
  show GM l mX11_hillsOf F k n 79 [(0, (3, v0)), (3, (0, v3)), (4, (0, v4)), (5, (0, v5)), (6, (0, v6))] [] μ
  refine GM_iload (pc := 79) 4 rfl (daX11_hillsOf_0 44 rfl) ?_
  refine GM_aload_n (pc := 81) 0 rfl (daX11_hillsOf_0 45 rfl) rfl ?_
  refine GM_iload (pc := 82) 2 rfl (daX11_hillsOf_0 46 rfl) ?_
  obtain ⟨hc16, h⟩ := chk_inv h
  obtain ⟨r17, hf17, h⟩ := Option.bind_eq_some_iff.mp h
  refine GM_callV0 (pc := 84) [(0, v4)] (tX11_placesOf l hf17) cwX11_placesOf 11 (Nat.le_of_ble_eq_true rfl) rfl kv_X11_placesOf ke_X11_placesOf km_X11_207 hc16 ⟨Nat.le_of_ble_eq_true rfl, Nat.le_of_ble_eq_true rfl⟩ (Nat.le_of_ble_eq_true rfl) (Nat.le_of_ble_eq_true rfl) (daX11_hillsOf_0 47 rfl) ?_
  refine GM_icmp_ge (pc := 87) 168 (daX11_hillsOf_0 48 rfl) rfl (fun c18 => ?_) (fun c18 => ?_)
  · skip
    rw [if_pos c18] at h
    refine GM_pick [0] rfl ?_
    cases h
    exact hK
  · skip
    rw [if_neg c18] at h
    refine GM_iconst (pc := 90) 0 (daX11_hillsOf_0 49 rfl) rfl (R32_b rfl) ?_
    refine GM_istore (L' := [(7, (0, 0)), (0, (3, v0)), (3, (0, v3)), (4, (0, v4)), (5, (0, v5)), (6, (0, v6))]) (pc := 91) (daX11_hillsOf_0 50 rfl) (Nat.le_of_ble_eq_true rfl) rfl ?_
    refine GM_pick [1, 2, 3, 4, 5, 0] rfl ?_
    obtain ⟨x19, hqx19, h⟩ := Option.bind_eq_some_iff.mp h
    refine lop_ind (zX11_hillsOf_93 l F v0 v3 v4 v5 v6 k n) (qX11_hillsOf_93 l F v0 v3 v4 v5 v6 k n) FU _ x19 hqx19 ?_
    obtain ⟨μ_20, hqq⟩ : ∃ z, z = x19 := ⟨x19, rfl⟩
    subst hqq
    show GM l mX11_hillsOf F k n 162 [(0, (3, v0)), (3, (0, v3)), (4, (0, v4)), (5, (0, v5)), (6, (0, v6))] [] μ_20
    refine GM_iinc (L' := [(6, (0, w32 (v6 + 1))), (0, (3, v0)), (3, (0, v3)), (4, (0, v4)), (5, (0, v5))]) (pc := 162) 4 rfl (daX11_hillsOf_1 22 rfl) (Nat.le_of_ble_eq_true rfl) rfl ?_
    refine GM_goto (pc := 165) 79 (daX11_hillsOf_1 23 rfl) rfl ?_
    refine GM_pick [1, 2, 3, 4, 0] rfl ?_
    cases h
    exact hK
set_option maxRecDepth 20000 in
theorem qX11_hillsOf_176 (l : Launch) (F : FI) (v0 : Int) (k n : Nat) : ∀ (q : (Int × Mm)) (t : ((Int × Mm) ⊕ Mm)), sX11_hillsOf_176 v0 q = some t → zX11_hillsOf_176 l F v0 k n t → zX11_hillsOf_176 l F v0 k n (.inl q) := by
  intro q t h hK
  obtain ⟨v6, μ⟩ := q
  unfold sX11_hillsOf_176 at h
  try dsimp only at h
  show GM l mX11_hillsOf F k n 176 [(0, (3, v0)), (6, (0, v6))] [] μ
  refine GM_iload (pc := 176) 1 rfl (daX11_hillsOf_1 29 rfl) ?_
  refine GM_sipush (pc := 178) 144 (daX11_hillsOf_1 30 rfl) rfl (R32_b rfl) ?_
  refine GM_icmp_ge (pc := 181) 224 (daX11_hillsOf_1 31 rfl) rfl (fun c21 => ?_) (fun c21 => ?_)
  · skip
    rw [if_pos c21] at h
    refine GM_pick [] rfl ?_
    cases h
    exact hK
  · skip
    rw [if_neg c21] at h
    refine GM_aload_n (pc := 184) 0 rfl (daX11_hillsOf_1 32 rfl) rfl ?_
    obtain ⟨hc22, h⟩ := chk_inv h
    refine GM_getf (pc := 185) 11 22 3 22 kf_X11_41 (Nat.le_of_ble_eq_true rfl) (Nat.le_of_ble_eq_true rfl) rfl (daX11_hillsOf_1 33 rfl) hc22 rfl ?_
    refine GM_iload (pc := 188) 1 rfl (daX11_hillsOf_1 34 rfl) ?_
    obtain ⟨hc23, h⟩ := chk_inv h
    refine GM_zald (pc := 190) (daX11_hillsOf_1 35 rfl) hc23.1 hc23.2.1 hc23.2.2 ?_
    refine GM_if_ne (pc := 191) 197 (daX11_hillsOf_1 36 rfl) rfl (fun c24 => ?_) (fun c24 => ?_)
    · skip
      rw [if_neg c24] at h
      refine GM_aload_n (pc := 197) 0 rfl (daX11_hillsOf_1 38 rfl) rfl ?_
      refine GM_getf (pc := 198) 11 19 3 19 kf_X11_35 (Nat.le_of_ble_eq_true rfl) (Nat.le_of_ble_eq_true rfl) rfl (daX11_hillsOf_1 39 rfl) hc22 rfl ?_
      refine GM_aload_n (pc := 201) 0 rfl (daX11_hillsOf_1 40 rfl) rfl ?_
      refine GM_getf (pc := 202) 11 18 0 18 kf_X11_292 (Nat.le_of_ble_eq_true rfl) (Nat.le_of_ble_eq_true rfl) rfl (daX11_hillsOf_1 41 rfl) hc22 rfl ?_
      refine GM_iload (pc := 205) 1 rfl (daX11_hillsOf_1 42 rfl) ?_
      obtain ⟨hc25, h⟩ := chk_inv h
      obtain ⟨μ26, hμ26, h⟩ := lm_inv h
      refine GM_iast (pc := 207) (daX11_hillsOf_1 43 rfl) hc25.1 hc25.2.1 hc25.2.2 ?_
      refine GM_mem hμ26 ?_
      refine GM_aload_n (pc := 208) 0 rfl (daX11_hillsOf_1 44 rfl) rfl ?_
      refine GM_dup (pc := 209) (daX11_hillsOf_1 45 rfl) (Nat.ne_of_beq_eq_false rfl) ?_
      refine GM_getf (pc := 210) 11 18 0 18 kf_X11_292 (Nat.le_of_ble_eq_true rfl) (Nat.le_of_ble_eq_true rfl) rfl (daX11_hillsOf_1 46 rfl) hc22 rfl ?_
      refine GM_iconst (pc := 213) 1 (daX11_hillsOf_1 47 rfl) rfl (R32_b rfl) ?_
      refine GM_iadd (pc := 214) (daX11_hillsOf_1 48 rfl) ?_
      obtain ⟨μ27, hμ27, h⟩ := lm_inv h
      refine GM_putf (pc := 215) 11 18 0 kf_X11_292 (Nat.le_of_ble_eq_true rfl) (Nat.le_of_ble_eq_true rfl) rfl rfl (daX11_hillsOf_1 49 rfl) hc22 (fun q => absurd q (by decide)) ?_
      refine GM_mem hμ27 ?_
      refine GM_iinc (L' := [(6, (0, w32 (v6 + 1))), (0, (3, v0))]) (pc := 218) 1 rfl (daX11_hillsOf_1 50 rfl) (Nat.le_of_ble_eq_true rfl) rfl ?_
      refine GM_goto (pc := 221) 176 (daX11_hillsOf_1 51 rfl) rfl ?_
      refine GM_pick [1, 0] rfl ?_
      cases h
      exact hK
    · skip
      rw [if_pos c24] at h
      refine GM_goto (pc := 194) 218 (daX11_hillsOf_1 37 rfl) rfl ?_
      refine GM_iinc (L' := [(6, (0, w32 (v6 + 1))), (0, (3, v0))]) (pc := 218) 1 rfl (daX11_hillsOf_1 50 rfl) (Nat.le_of_ble_eq_true rfl) rfl ?_
      refine GM_goto (pc := 221) 176 (daX11_hillsOf_1 51 rfl) rfl ?_
      refine GM_pick [1, 0] rfl ?_
      cases h
      exact hK
set_option maxRecDepth 20000 in
theorem gX11_hillsOf_0 (l : Launch) {F : FI} {v0 v1 v2 v3 : Int} {μ : Mm} {t : (Int × Mm)} (h : fX11_hillsOf v0 v1 v2 v3 μ = some t) (hK : F.1 = [(0, t.1)] ∧ F.2.1 = t.2) : GM l mX11_hillsOf F 0 0 0 [(0, (3, v0)), (1, (0, v1)), (2, (0, v2)), (3, (0, v3))] [] μ := by
  unfold fX11_hillsOf at h
  refine GM_aload_n (pc := 0) 0 rfl (daX11_hillsOf_0 0 rfl) rfl ?_
  refine GM_iload_n (pc := 1) 1 rfl (daX11_hillsOf_0 1 rfl) rfl ?_
  refine GM_iload_n (pc := 2) 2 rfl (daX11_hillsOf_0 2 rfl) rfl ?_
  obtain ⟨hc28, h⟩ := chk_inv h
  obtain ⟨r29, hf29, h⟩ := Option.bind_eq_some_iff.mp h
  refine GM_callV0 (pc := 3) [(0, v1), (0, v2)] (tX11_areBoth l hf29) cwX11_areBoth 11 (Nat.le_of_ble_eq_true rfl) rfl kv_X11_areBoth ke_X11_areBoth km_X11_283 hc28 ⟨Nat.le_of_ble_eq_true rfl, Nat.le_of_ble_eq_true rfl⟩ (Nat.le_of_ble_eq_true rfl) (Nat.le_of_ble_eq_true rfl) (daX11_hillsOf_0 3 rfl) ?_
  refine GM_if_eq (pc := 6) 29 (daX11_hillsOf_0 4 rfl) rfl (fun c30 => ?_) (fun c30 => ?_)
  · skip
    rw [if_pos c30] at h
    refine GM_iconst (pc := 29) 0 (daX11_hillsOf_0 17 rfl) rfl (R32_b rfl) ?_
    cases h
    exact GM_zret (pc := 30) (daX11_hillsOf_0 18 rfl) rfl (Or.inl rfl) hK
  · skip
    rw [if_neg c30] at h
    refine GM_iload_n (pc := 9) 3 rfl (daX11_hillsOf_0 5 rfl) rfl ?_
    refine GM_iconst (pc := 10) 0 (daX11_hillsOf_0 6 rfl) rfl (R32_b rfl) ?_
    refine GM_aload_n (pc := 11) 0 rfl (daX11_hillsOf_0 7 rfl) rfl ?_
    refine GM_getf (pc := 12) 11 0 3 0 kf_X11_7 (Nat.le_of_ble_eq_true rfl) (Nat.le_of_ble_eq_true rfl) rfl (daX11_hillsOf_0 8 rfl) hc28 rfl ?_
    refine GM_iconst (pc := 15) 1 (daX11_hillsOf_0 9 rfl) rfl (R32_b rfl) ?_
    refine GM_iload_n (pc := 16) 2 rfl (daX11_hillsOf_0 10 rfl) rfl ?_
    obtain ⟨r31, hf31, h⟩ := Option.bind_eq_some_iff.mp h
    refine GM_callS0 (pc := 17) [(0, 1), (0, v2)] (tX11_placeOf l hf31) cwX11_placeOf ks_X11_placeOf km_X11_204 ⟨Nat.le_of_ble_eq_true rfl, Nat.le_of_ble_eq_true rfl⟩ (Nat.le_of_ble_eq_true rfl) (Nat.le_of_ble_eq_true rfl) (daX11_hillsOf_0 11 rfl) ?_
    obtain ⟨hc32, h⟩ := chk_inv h
    refine GM_iald (pc := 20) (daX11_hillsOf_0 12 rfl) hc32.1 hc32.2.1 hc32.2.2 ?_
    refine GM_iconst (pc := 21) 1 (daX11_hillsOf_0 13 rfl) rfl (R32_b rfl) ?_
    refine GM_isub (pc := 22) (daX11_hillsOf_0 14 rfl) ?_
    refine GM_callS0 (pc := 23) [(0, v3), (0, 0), (0, w32 ((μ (μ v0 0) r31) - 1))] (tX11_isIn l (fX11_isIn_eq v3 0 (w32 ((μ (μ v0 0) r31) - 1)))) cwX11_isIn ks_X11_isIn km_X11_147 ⟨Nat.le_of_ble_eq_true rfl, Nat.le_of_ble_eq_true rfl⟩ (Nat.le_of_ble_eq_true rfl) (Nat.le_of_ble_eq_true rfl) (daX11_hillsOf_0 15 rfl) ?_
    refine GM_if_ne (pc := 26) 31 (daX11_hillsOf_0 16 rfl) rfl (fun c33 => ?_) (fun c33 => ?_)
    · skip
      rw [if_neg c33] at h
      refine GM_iconst (pc := 31) 0 (daX11_hillsOf_0 19 rfl) rfl (R32_b rfl) ?_
      refine GM_iload_n (pc := 32) 1 rfl (daX11_hillsOf_0 20 rfl) rfl ?_
      obtain ⟨r34, hf34, h⟩ := Option.bind_eq_some_iff.mp h
      refine GM_callS0 (pc := 33) [(0, 0), (0, v1)] (tX11_placeOf l hf34) cwX11_placeOf ks_X11_placeOf km_X11_204 ⟨Nat.le_of_ble_eq_true rfl, Nat.le_of_ble_eq_true rfl⟩ (Nat.le_of_ble_eq_true rfl) (Nat.le_of_ble_eq_true rfl) (daX11_hillsOf_0 21 rfl) ?_
      refine GM_istore (L' := [(4, (0, r34)), (0, (3, v0)), (1, (0, v1)), (2, (0, v2)), (3, (0, v3))]) (pc := 36) (daX11_hillsOf_0 22 rfl) (Nat.le_of_ble_eq_true rfl) rfl ?_
      refine GM_iconst (pc := 38) 1 (daX11_hillsOf_0 23 rfl) rfl (R32_b rfl) ?_
      refine GM_iload_n (pc := 39) 3 rfl (daX11_hillsOf_0 24 rfl) rfl ?_
      obtain ⟨r35, hf35, h⟩ := Option.bind_eq_some_iff.mp h
      refine GM_callS0 (pc := 40) [(0, 1), (0, v2)] (tX11_placeOf l hf35) cwX11_placeOf ks_X11_placeOf km_X11_204 ⟨Nat.le_of_ble_eq_true rfl, Nat.le_of_ble_eq_true rfl⟩ (Nat.le_of_ble_eq_true rfl) (Nat.le_of_ble_eq_true rfl) (daX11_hillsOf_0 25 rfl) ?_
      refine GM_istore (L' := [(5, (0, r35)), (4, (0, r34)), (0, (3, v0)), (1, (0, v1)), (2, (0, v2)), (3, (0, v3))]) (pc := 43) (daX11_hillsOf_0 26 rfl) (Nat.le_of_ble_eq_true rfl) rfl ?_
      refine GM_aload_n (pc := 45) 2 rfl (daX11_hillsOf_0 27 rfl) rfl ?_
      refine GM_iload (pc := 46) 1 rfl (daX11_hillsOf_0 28 rfl) ?_
      obtain ⟨μ36, hf36, h⟩ := Option.bind_eq_some_iff.mp h
      refine GM_callV0 (pc := 48) [(0, r34)] (tX11_survey l hf36) cwX11_survey 11 (Nat.le_of_ble_eq_true rfl) rfl kv_X11_survey ke_X11_survey km_X11_295 hc28 ⟨Nat.le_of_ble_eq_true rfl, Nat.le_of_ble_eq_true rfl⟩ (Nat.le_of_ble_eq_true rfl) (Nat.le_of_ble_eq_true rfl) (daX11_hillsOf_0 29 rfl) ?_
      refine GM_iconst (pc := 51) 0 (daX11_hillsOf_0 30 rfl) rfl (R32_b rfl) ?_
      refine GM_istore (L' := [(6, (0, 0)), (5, (0, r35)), (4, (0, r34)), (0, (3, v0)), (1, (0, v1)), (2, (0, v2)), (3, (0, v3))]) (pc := 52) (daX11_hillsOf_0 31 rfl) (Nat.le_of_ble_eq_true rfl) rfl ?_
      refine GM_pick [3, 6, 2, 1, 0] rfl ?_
      obtain ⟨x37, hqx37, h⟩ := Option.bind_eq_some_iff.mp h
      refine lop_ind (zX11_hillsOf_54 l F v0 v3 r34 r35 0 0) (qX11_hillsOf_54 l F v0 v3 r34 r35 0 0) FU _ x37 hqx37 ?_
      obtain ⟨μ_38, hqq⟩ : ∃ z, z = x37 := ⟨x37, rfl⟩
      subst hqq
      show GM l mX11_hillsOf F 0 0 76 [(0, (3, v0)), (3, (0, v3)), (4, (0, r34)), (5, (0, r35))] [] μ_38
      refine GM_iconst (pc := 76) 0 (daX11_hillsOf_0 42 rfl) rfl (R32_b rfl) ?_
      refine GM_istore (L' := [(6, (0, 0)), (0, (3, v0)), (3, (0, v3)), (4, (0, r34)), (5, (0, r35))]) (pc := 77) (daX11_hillsOf_0 43 rfl) (Nat.le_of_ble_eq_true rfl) rfl ?_
      refine GM_pick [1, 2, 3, 4, 0] rfl ?_
      obtain ⟨x39, hqx39, h⟩ := Option.bind_eq_some_iff.mp h
      refine lop_ind (zX11_hillsOf_79 l F v0 v3 r34 r35 0 0) (qX11_hillsOf_79 l F v0 v3 r34 r35 0 0) FU _ x39 hqx39 ?_
      obtain ⟨μ_40, hqq⟩ : ∃ z, z = x39 := ⟨x39, rfl⟩
      subst hqq
      show GM l mX11_hillsOf F 0 0 168 [(0, (3, v0))] [] μ_40
      refine GM_aload_n (pc := 168) 0 rfl (daX11_hillsOf_1 24 rfl) rfl ?_
      refine GM_iconst (pc := 169) 0 (daX11_hillsOf_1 25 rfl) rfl (R32_b rfl) ?_
      obtain ⟨μ41, hμ41, h⟩ := lm_inv h
      refine GM_putf (pc := 170) 11 18 0 kf_X11_292 (Nat.le_of_ble_eq_true rfl) (Nat.le_of_ble_eq_true rfl) rfl rfl (daX11_hillsOf_1 26 rfl) hc28 (fun q => absurd q (by decide)) ?_
      refine GM_mem hμ41 ?_
      refine GM_iconst (pc := 173) 0 (daX11_hillsOf_1 27 rfl) rfl (R32_b rfl) ?_
      refine GM_istore (L' := [(6, (0, 0)), (0, (3, v0))]) (pc := 174) (daX11_hillsOf_1 28 rfl) (Nat.le_of_ble_eq_true rfl) rfl ?_
      refine GM_pick [1, 0] rfl ?_
      obtain ⟨x42, hqx42, h⟩ := Option.bind_eq_some_iff.mp h
      refine lop_ind (zX11_hillsOf_176 l F v0 0 0) (qX11_hillsOf_176 l F v0 0 0) FU _ x42 hqx42 ?_
      obtain ⟨μ_43, hqq⟩ : ∃ z, z = x42 := ⟨x42, rfl⟩
      subst hqq
      show GM l mX11_hillsOf F 0 0 224 [] [] μ_43
      refine GM_iconst (pc := 224) 1 (daX11_hillsOf_1 52 rfl) rfl (R32_b rfl) ?_
      cases h
      exact GM_zret (pc := 225) (daX11_hillsOf_1 53 rfl) rfl (Or.inr rfl) hK
    · skip
      rw [if_pos c33] at h
      refine GM_iconst (pc := 29) 0 (daX11_hillsOf_0 17 rfl) rfl (R32_b rfl) ?_
      cases h
      exact GM_zret (pc := 30) (daX11_hillsOf_0 18 rfl) rfl (Or.inl rfl) hK
theorem tX11_hillsOf (l : Launch) {v0 v1 v2 v3 : Int} {μ : Mm} {t : (Int × Mm)} (h : fX11_hillsOf v0 v1 v2 v3 μ = some t) : Ct l yX11_hillsOf mX11_hillsOf [(3, v0), (0, v1), (0, v2), (0, v3)] μ ([(0, t.1)], t.2, 0, 0) :=
  Ct_of (by decide +kernel) rfl rfl (Nat.le_of_ble_eq_true rfl) (fun _ _ _ => trivial) (gX11_hillsOf_0 l h ⟨rfl, rfl⟩)
def mX11_hills : MI := (RX11, cX11_hills, 5, (some .int), "hills", 10, 267, fun _ _ _ => True)
theorem cwX11_hills : CWd yX11_hills mX11_hills 4 := ⟨ki_X11, kk_X11_hills, ⟨by decide, by decide⟩, rfl⟩
def dtX11_hills_0 : List (Nat × Instr × Nat) := [(0, .aload_n 0, 1), (1, .iload_n 1, 1), (2, .iload_n 2, 1), (3, .iload_n 3, 1), (4, .invokevirtual 305, 3), (7, .ifCond .eq 12, 3), (10, .aload_n 0, 1), (11, .iload 4, 2), (13, .invokevirtual 302, 3), (16, .goto 4, 3), (19, .iconst (-1), 1), (20, .ireturn, 1)]
theorem ddX11_hills_0 : (dtX11_hills_0.all fun e => decide (decode mX11_hills.2.1 e.1 = .ok (e.2.1, e.2.2))) = true := by decide +kernel
theorem daX11_hills_0 (j : Nat) {pc n : Nat} {i : Instr} (h : dtX11_hills_0[j]? = some (pc, i, n)) : decode mX11_hills.2.1 pc = .ok (i, n) := dec_of (c := mX11_hills.2.1) ddX11_hills_0 h
def fX11_hills (v0 v1 v2 v3 v4 : Int) (μ : Mm) : Option (Int × Mm) :=
  chk (KD v0 = 11) (
  (fX11_hillsOf v0 v1 v2 v3 μ).bind fun (r2, μ2) =>
  if r2 = 0 then
    some ((-1), μ2)
  else
    (fX11_told v0 v4 μ2).bind fun r4 =>
    some (r4, μ2))
set_option maxRecDepth 20000 in
theorem gX11_hills_0 (l : Launch) {F : FI} {v0 v1 v2 v3 v4 : Int} {μ : Mm} {t : (Int × Mm)} (h : fX11_hills v0 v1 v2 v3 v4 μ = some t) (hK : F.1 = [(0, t.1)] ∧ F.2.1 = t.2) : GM l mX11_hills F 0 0 0 [(0, (3, v0)), (1, (0, v1)), (2, (0, v2)), (3, (0, v3)), (4, (0, v4))] [] μ := by
  unfold fX11_hills at h
  refine GM_aload_n (pc := 0) 0 rfl (daX11_hills_0 0 rfl) rfl ?_
  refine GM_iload_n (pc := 1) 1 rfl (daX11_hills_0 1 rfl) rfl ?_
  refine GM_iload_n (pc := 2) 2 rfl (daX11_hills_0 2 rfl) rfl ?_
  refine GM_iload_n (pc := 3) 3 rfl (daX11_hills_0 3 rfl) rfl ?_
  obtain ⟨hc1, h⟩ := chk_inv h
  obtain ⟨⟨r2, μ2⟩, hf2, h⟩ := Option.bind_eq_some_iff.mp h
  dsimp only at h
  refine GM_callV0 (pc := 4) [(0, v1), (0, v2), (0, v3)] (tX11_hillsOf l hf2) cwX11_hillsOf 11 (Nat.le_of_ble_eq_true rfl) rfl kv_X11_hillsOf ke_X11_hillsOf km_X11_305 hc1 ⟨Nat.le_of_ble_eq_true rfl, Nat.le_of_ble_eq_true rfl⟩ (Nat.le_of_ble_eq_true rfl) (Nat.le_of_ble_eq_true rfl) (daX11_hills_0 4 rfl) ?_
  refine GM_if_eq (pc := 7) 19 (daX11_hills_0 5 rfl) rfl (fun c3 => ?_) (fun c3 => ?_)
  · skip
    rw [if_pos c3] at h
    refine GM_iconst (pc := 19) (-1) (daX11_hills_0 10 rfl) rfl (R32_b rfl) ?_
    cases h
    exact GM_iret (pc := 20) (daX11_hills_0 11 rfl) rfl hK
  · skip
    rw [if_neg c3] at h
    refine GM_aload_n (pc := 10) 0 rfl (daX11_hills_0 6 rfl) rfl ?_
    refine GM_iload (pc := 11) 4 rfl (daX11_hills_0 7 rfl) ?_
    obtain ⟨r4, hf4, h⟩ := Option.bind_eq_some_iff.mp h
    refine GM_callV0 (pc := 13) [(0, v4)] (tX11_told l hf4) cwX11_told 11 (Nat.le_of_ble_eq_true rfl) rfl kv_X11_told ke_X11_told km_X11_302 hc1 ⟨Nat.le_of_ble_eq_true rfl, Nat.le_of_ble_eq_true rfl⟩ (Nat.le_of_ble_eq_true rfl) (Nat.le_of_ble_eq_true rfl) (daX11_hills_0 8 rfl) ?_
    refine GM_goto (pc := 16) 20 (daX11_hills_0 9 rfl) rfl ?_
    cases h
    exact GM_iret (pc := 20) (daX11_hills_0 11 rfl) rfl hK
theorem tX11_hills (l : Launch) {v0 v1 v2 v3 v4 : Int} {μ : Mm} {t : (Int × Mm)} (h : fX11_hills v0 v1 v2 v3 v4 μ = some t) : Ct l yX11_hills mX11_hills [(3, v0), (0, v1), (0, v2), (0, v3), (0, v4)] μ ([(0, t.1)], t.2, 0, 0) :=
  Ct_of (by decide +kernel) rfl rfl (Nat.le_of_ble_eq_true rfl) (fun _ _ _ => trivial) (gX11_hills_0 l h ⟨rfl, rfl⟩)
def mX11_sure : MI := (RX11, cX11_sure, 4, (some .boolean), "sure", 10, 267, fun _ _ _ => True)
theorem cwX11_sure : CWd yX11_sure mX11_sure 3 := ⟨ki_X11, kk_X11_sure, ⟨by decide, by decide⟩, rfl⟩
def dtX11_sure_0 : List (Nat × Instr × Nat) := [(0, .aload_n 0, 1), (1, .iload_n 1, 1), (2, .iload_n 2, 1), (3, .iload_n 3, 1), (4, .invokevirtual 305, 3), (7, .ifCond .eq 15, 3), (10, .aload_n 0, 1), (11, .getfield 292, 3), (14, .iconst 1, 1), (15, .if_icmp .ne 7, 3), (18, .iconst 1, 1), (19, .goto 4, 3), (22, .iconst 0, 1), (23, .ireturn, 1)]
theorem ddX11_sure_0 : (dtX11_sure_0.all fun e => decide (decode mX11_sure.2.1 e.1 = .ok (e.2.1, e.2.2))) = true := by decide +kernel
theorem daX11_sure_0 (j : Nat) {pc n : Nat} {i : Instr} (h : dtX11_sure_0[j]? = some (pc, i, n)) : decode mX11_sure.2.1 pc = .ok (i, n) := dec_of (c := mX11_sure.2.1) ddX11_sure_0 h
def fX11_sure (v0 v1 v2 v3 : Int) (μ : Mm) : Option (Int × Mm) :=
  chk (KD v0 = 11) (
  (fX11_hillsOf v0 v1 v2 v3 μ).bind fun (r2, μ2) =>
  if r2 = 0 then
    some (0, μ2)
  else
    if μ2 v0 18 = 1 then
      some (1, μ2)
    else
      some (0, μ2))
set_option maxRecDepth 20000 in
theorem gX11_sure_0 (l : Launch) {F : FI} {v0 v1 v2 v3 : Int} {μ : Mm} {t : (Int × Mm)} (h : fX11_sure v0 v1 v2 v3 μ = some t) (hK : F.1 = [(0, t.1)] ∧ F.2.1 = t.2) : GM l mX11_sure F 0 0 0 [(0, (3, v0)), (1, (0, v1)), (2, (0, v2)), (3, (0, v3))] [] μ := by
  unfold fX11_sure at h
  refine GM_aload_n (pc := 0) 0 rfl (daX11_sure_0 0 rfl) rfl ?_
  refine GM_iload_n (pc := 1) 1 rfl (daX11_sure_0 1 rfl) rfl ?_
  refine GM_iload_n (pc := 2) 2 rfl (daX11_sure_0 2 rfl) rfl ?_
  refine GM_iload_n (pc := 3) 3 rfl (daX11_sure_0 3 rfl) rfl ?_
  obtain ⟨hc1, h⟩ := chk_inv h
  obtain ⟨⟨r2, μ2⟩, hf2, h⟩ := Option.bind_eq_some_iff.mp h
  dsimp only at h
  refine GM_callV0 (pc := 4) [(0, v1), (0, v2), (0, v3)] (tX11_hillsOf l hf2) cwX11_hillsOf 11 (Nat.le_of_ble_eq_true rfl) rfl kv_X11_hillsOf ke_X11_hillsOf km_X11_305 hc1 ⟨Nat.le_of_ble_eq_true rfl, Nat.le_of_ble_eq_true rfl⟩ (Nat.le_of_ble_eq_true rfl) (Nat.le_of_ble_eq_true rfl) (daX11_sure_0 4 rfl) ?_
  refine GM_if_eq (pc := 7) 22 (daX11_sure_0 5 rfl) rfl (fun c3 => ?_) (fun c3 => ?_)
  · skip
    rw [if_pos c3] at h
    refine GM_iconst (pc := 22) 0 (daX11_sure_0 12 rfl) rfl (R32_b rfl) ?_
    cases h
    exact GM_zret (pc := 23) (daX11_sure_0 13 rfl) rfl (Or.inl rfl) hK
  · skip
    rw [if_neg c3] at h
    refine GM_aload_n (pc := 10) 0 rfl (daX11_sure_0 6 rfl) rfl ?_
    refine GM_getf (pc := 11) 11 18 0 18 kf_X11_292 (Nat.le_of_ble_eq_true rfl) (Nat.le_of_ble_eq_true rfl) rfl (daX11_sure_0 7 rfl) hc1 rfl ?_
    refine GM_iconst (pc := 14) 1 (daX11_sure_0 8 rfl) rfl (R32_b rfl) ?_
    refine GM_icmp_ne (pc := 15) 22 (daX11_sure_0 9 rfl) rfl (fun c4 => ?_) (fun c4 => ?_)
    · skip
      rw [if_neg c4] at h
      refine GM_iconst (pc := 22) 0 (daX11_sure_0 12 rfl) rfl (R32_b rfl) ?_
      cases h
      exact GM_zret (pc := 23) (daX11_sure_0 13 rfl) rfl (Or.inl rfl) hK
    · skip
      rw [if_pos c4] at h
      refine GM_iconst (pc := 18) 1 (daX11_sure_0 10 rfl) rfl (R32_b rfl) ?_
      refine GM_goto (pc := 19) 23 (daX11_sure_0 11 rfl) rfl ?_
      cases h
      exact GM_zret (pc := 23) (daX11_sure_0 13 rfl) rfl (Or.inr rfl) hK
theorem tX11_sure (l : Launch) {v0 v1 v2 v3 : Int} {μ : Mm} {t : (Int × Mm)} (h : fX11_sure v0 v1 v2 v3 μ = some t) : Ct l yX11_sure mX11_sure [(3, v0), (0, v1), (0, v2), (0, v3)] μ ([(0, t.1)], t.2, 0, 0) :=
  Ct_of (by decide +kernel) rfl rfl (Nat.le_of_ble_eq_true rfl) (fun _ _ _ => trivial) (gX11_sure_0 l h ⟨rfl, rfl⟩)
def mX11_bars : MI := (RX11, cX11_bars, 11, (some .int), "bars", 9, 240, fun _ _ _ => True)
theorem cwX11_bars : CWd yX11_bars mX11_bars 3 := ⟨ki_X11, kk_X11_bars, ⟨by decide, by decide⟩, rfl⟩
def dtX11_bars_0 : List (Nat × Instr × Nat) := [(0, .aload_n 0, 1), (1, .iload_n 1, 1), (2, .iload_n 2, 1), (3, .invokevirtual 283, 3), (6, .ifCond .eq 23, 3), (9, .iload_n 3, 1), (10, .iconst 0, 1), (11, .aload_n 0, 1), (12, .getfield 7, 3), (15, .iconst 1, 1), (16, .iload_n 2, 1), (17, .invokestatic 204, 3), (20, .iaload, 1), (21, .iconst 1, 1), (22, .isub, 1), (23, .invokestatic 147, 3), (26, .ifCond .ne 5, 3), (29, .iconst (-1), 1), (30, .ireturn, 1), (31, .iconst 0, 1), (32, .iload_n 1, 1), (33, .invokestatic 204, 3), (36, .istore 4, 2), (38, .iconst 1, 1), (39, .iload_n 2, 1), (40, .invokestatic 204, 3), (43, .istore 5, 2), (45, .aload_n 0, 1), (46, .iload 4, 2), (48, .invokevirtual 295, 3), (51, .iconst 0, 1), (52, .istore 6, 2), (54, .iconst 0, 1), (55, .istore 7, 2), (57, .iload 7, 2), (59, .aload_n 0, 1), (60, .iload 4, 2), (62, .invokevirtual 207, 3), (65, .if_icmp .ge 80, 3), (68, .iconst 0, 1), (69, .istore 8, 2), (71, .iconst 0, 1), (72, .istore 9, 2), (74, .iload 9, 2), (76, .aload_n 0, 1), (77, .getfield 29, 3), (80, .iload 7, 2), (82, .iaload, 1), (83, .if_icmp .ge 40, 3), (86, .aload_n 0, 1), (87, .iload 4, 2), (89, .iload 5, 2), (91, .iload 7, 2), (93, .iload 9, 2), (95, .iconst (-1), 1), (96, .invokevirtual 280, 3), (99, .istore 10, 2), (101, .iload 10, 2), (103, .iload 8, 2), (105, .if_icmp .le 8, 3), (108, .iload 10, 2), (110, .goto 5, 3), (113, .iload 8, 2), (115, .istore 8, 2)]
theorem ddX11_bars_0 : (dtX11_bars_0.all fun e => decide (decode mX11_bars.2.1 e.1 = .ok (e.2.1, e.2.2))) = true := by decide +kernel
theorem daX11_bars_0 (j : Nat) {pc n : Nat} {i : Instr} (h : dtX11_bars_0[j]? = some (pc, i, n)) : decode mX11_bars.2.1 pc = .ok (i, n) := dec_of (c := mX11_bars.2.1) ddX11_bars_0 h
def dtX11_bars_1 : List (Nat × Instr × Nat) := [(117, .iinc 9 1, 3), (120, .goto (-46), 3), (123, .iload 6, 2), (125, .iload 8, 2), (127, .iload_n 3, 1), (128, .if_icmp .ne 7, 3), (131, .iconst 1, 1), (132, .goto 4, 3), (135, .iconst 0, 1), (136, .iadd, 1), (137, .istore 6, 2), (139, .iinc 7 1, 3), (142, .goto (-85), 3), (145, .iload 6, 2), (147, .ireturn, 1)]
theorem ddX11_bars_1 : (dtX11_bars_1.all fun e => decide (decode mX11_bars.2.1 e.1 = .ok (e.2.1, e.2.2))) = true := by decide +kernel
theorem daX11_bars_1 (j : Nat) {pc n : Nat} {i : Instr} (h : dtX11_bars_1[j]? = some (pc, i, n)) : decode mX11_bars.2.1 pc = .ok (i, n) := dec_of (c := mX11_bars.2.1) ddX11_bars_1 h
def zX11_bars_74 (l : Launch) (F : FI) (v0 v3 v4 v5 v6 v7 : Int) (μ : Mm) (k n : Nat) : (Int × Int) ⊕ Int → Prop
  | .inl (v8, v9) => GM l mX11_bars F k n 74 [(0, (3, v0)), (3, (0, v3)), (4, (0, v4)), (5, (0, v5)), (6, (0, v6)), (7, (0, v7)), (8, (0, v8)), (9, (0, v9))] [] μ
  | .inr v8 => GM l mX11_bars F k n 123 [(0, (3, v0)), (3, (0, v3)), (4, (0, v4)), (5, (0, v5)), (6, (0, v6)), (7, (0, v7)), (8, (0, v8))] [] μ
def sX11_bars_74 (v0 v3 v4 v5 v6 v7 : Int) (μ : Mm) : (Int × Int) → Option ((Int × Int) ⊕ Int) := fun (v8, v9) =>
  chk (KD v0 = 11) (
  chk (KD (μ v0 16) = 12 ∧ 0 ≤ v7 ∧ v7 < LN (μ v0 16)) (
  if μ (μ v0 16) v7 ≤ v9 then
    some (.inr v8)
  else
    (fX11_firstOf v0 v4 v5 v7 v9 (-1) μ).bind fun r4 =>
    if r4 ≤ v8 then
      some (.inl (v8, w32 (v9 + 1)))
    else
      some (.inl (r4, w32 (v9 + 1)))))
def zX11_bars_57 (l : Launch) (F : FI) (v0 v3 v4 v5 : Int) (μ : Mm) (k n : Nat) : (Int × Int) ⊕ Int → Prop
  | .inl (v6, v7) => GM l mX11_bars F k n 57 [(0, (3, v0)), (3, (0, v3)), (4, (0, v4)), (5, (0, v5)), (6, (0, v6)), (7, (0, v7))] [] μ
  | .inr v6 => GM l mX11_bars F k n 145 [(6, (0, v6))] [] μ
def sX11_bars_57 (v0 v3 v4 v5 : Int) (μ : Mm) : (Int × Int) → Option ((Int × Int) ⊕ Int) := fun (v6, v7) =>
  chk (KD v0 = 11) (
  (fX11_placesOf v0 v4 μ).bind fun r7 =>
  if r7 ≤ v7 then
    some (.inr v6)
  else
    (lop (sX11_bars_74 v0 v3 v4 v5 v6 v7 μ) FU (0, 0)).bind fun v8_10 =>
      if v8_10 = v3 then
        some (.inl (w32 (v6 + 1), w32 (v7 + 1)))
      else
        some (.inl (w32 (v6 + 0), w32 (v7 + 1))))
def fX11_bars (v0 v1 v2 v3 : Int) (μ : Mm) : Option (Int × Mm) :=
  chk (KD v0 = 11) (
  (fX11_areBoth v0 v1 v2 μ).bind fun r13 =>
  if r13 = 0 then
    some ((-1), μ)
  else
    (fX11_placeOf 1 v2).bind fun r15 =>
    chk (KD (μ v0 0) = 12 ∧ 0 ≤ r15 ∧ r15 < LN (μ v0 0)) (
    if isIn v3 0 (w32 ((μ (μ v0 0) r15) - 1)) = 0 then
      some ((-1), μ)
    else
      (fX11_placeOf 0 v1).bind fun r18 =>
      (fX11_placeOf 1 v2).bind fun r19 =>
      (fX11_survey v0 r18 μ).bind fun μ20 =>
      (lop (sX11_bars_57 v0 v3 r18 r19 μ20) FU (0, 0)).bind fun v6_22 =>
        some (v6_22, μ20)))
set_option maxRecDepth 20000 in
theorem qX11_bars_74 (l : Launch) (F : FI) (v0 v3 v4 v5 v6 v7 : Int) (μ : Mm) (k n : Nat) : ∀ (q : (Int × Int)) (t : ((Int × Int) ⊕ Int)), sX11_bars_74 v0 v3 v4 v5 v6 v7 μ q = some t → zX11_bars_74 l F v0 v3 v4 v5 v6 v7 μ k n t → zX11_bars_74 l F v0 v3 v4 v5 v6 v7 μ k n (.inl q) := by
  intro q t h hK
  obtain ⟨v8, v9⟩ := q
  unfold sX11_bars_74 at h
  try dsimp only at h
  show GM l mX11_bars F k n 74 [(0, (3, v0)), (3, (0, v3)), (4, (0, v4)), (5, (0, v5)), (6, (0, v6)), (7, (0, v7)), (8, (0, v8)), (9, (0, v9))] [] μ
  refine GM_iload (pc := 74) 7 rfl (daX11_bars_0 43 rfl) ?_
  refine GM_aload_n (pc := 76) 0 rfl (daX11_bars_0 44 rfl) rfl ?_
  obtain ⟨hc1, h⟩ := chk_inv h
  refine GM_getf (pc := 77) 11 16 3 16 kf_X11_29 (Nat.le_of_ble_eq_true rfl) (Nat.le_of_ble_eq_true rfl) rfl (daX11_bars_0 45 rfl) hc1 rfl ?_
  refine GM_iload (pc := 80) 5 rfl (daX11_bars_0 46 rfl) ?_
  obtain ⟨hc2, h⟩ := chk_inv h
  refine GM_iald (pc := 82) (daX11_bars_0 47 rfl) hc2.1 hc2.2.1 hc2.2.2 ?_
  refine GM_icmp_ge (pc := 83) 123 (daX11_bars_0 48 rfl) rfl (fun c3 => ?_) (fun c3 => ?_)
  · skip
    rw [if_pos c3] at h
    refine GM_pick [0, 1, 2, 3, 4, 5, 6] rfl ?_
    cases h
    exact hK
  · skip
    rw [if_neg c3] at h
    refine GM_aload_n (pc := 86) 0 rfl (daX11_bars_0 49 rfl) rfl ?_
    refine GM_iload (pc := 87) 2 rfl (daX11_bars_0 50 rfl) ?_
    refine GM_iload (pc := 89) 3 rfl (daX11_bars_0 51 rfl) ?_
    refine GM_iload (pc := 91) 5 rfl (daX11_bars_0 52 rfl) ?_
    refine GM_iload (pc := 93) 7 rfl (daX11_bars_0 53 rfl) ?_
    refine GM_iconst (pc := 95) (-1) (daX11_bars_0 54 rfl) rfl (R32_b rfl) ?_
    obtain ⟨r4, hf4, h⟩ := Option.bind_eq_some_iff.mp h
    refine GM_callV0 (pc := 96) [(0, v4), (0, v5), (0, v7), (0, v9), (0, (-1))] (tX11_firstOf l hf4) cwX11_firstOf 11 (Nat.le_of_ble_eq_true rfl) rfl kv_X11_firstOf ke_X11_firstOf km_X11_280 hc1 ⟨Nat.le_of_ble_eq_true rfl, Nat.le_of_ble_eq_true rfl⟩ (Nat.le_of_ble_eq_true rfl) (Nat.le_of_ble_eq_true rfl) (daX11_bars_0 55 rfl) ?_
    refine GM_istore (L' := [(10, (0, r4)), (0, (3, v0)), (3, (0, v3)), (4, (0, v4)), (5, (0, v5)), (6, (0, v6)), (7, (0, v7)), (8, (0, v8)), (9, (0, v9))]) (pc := 99) (daX11_bars_0 56 rfl) (Nat.le_of_ble_eq_true rfl) rfl ?_
    refine GM_iload (pc := 101) 0 rfl (daX11_bars_0 57 rfl) ?_
    refine GM_iload (pc := 103) 7 rfl (daX11_bars_0 58 rfl) ?_
    refine GM_icmp_le (pc := 105) 113 (daX11_bars_0 59 rfl) rfl (fun c5 => ?_) (fun c5 => ?_)
    · skip
      rw [if_pos c5] at h
      refine GM_iload (pc := 113) 7 rfl (daX11_bars_0 62 rfl) ?_
      refine GM_istore (L' := [(8, (0, v8)), (10, (0, r4)), (0, (3, v0)), (3, (0, v3)), (4, (0, v4)), (5, (0, v5)), (6, (0, v6)), (7, (0, v7)), (9, (0, v9))]) (pc := 115) (daX11_bars_0 63 rfl) (Nat.le_of_ble_eq_true rfl) rfl ?_
      refine GM_iinc (L' := [(9, (0, w32 (v9 + 1))), (8, (0, v8)), (10, (0, r4)), (0, (3, v0)), (3, (0, v3)), (4, (0, v4)), (5, (0, v5)), (6, (0, v6)), (7, (0, v7))]) (pc := 117) 8 rfl (daX11_bars_1 0 rfl) (Nat.le_of_ble_eq_true rfl) rfl ?_
      refine GM_goto (pc := 120) 74 (daX11_bars_1 1 rfl) rfl ?_
      refine GM_pick [3, 4, 5, 6, 7, 8, 1, 0] rfl ?_
      cases h
      exact hK
    · skip
      rw [if_neg c5] at h
      refine GM_iload (pc := 108) 0 rfl (daX11_bars_0 60 rfl) ?_
      refine GM_goto (pc := 110) 115 (daX11_bars_0 61 rfl) rfl ?_
      refine GM_istore (L' := [(8, (0, r4)), (10, (0, r4)), (0, (3, v0)), (3, (0, v3)), (4, (0, v4)), (5, (0, v5)), (6, (0, v6)), (7, (0, v7)), (9, (0, v9))]) (pc := 115) (daX11_bars_0 63 rfl) (Nat.le_of_ble_eq_true rfl) rfl ?_
      refine GM_iinc (L' := [(9, (0, w32 (v9 + 1))), (8, (0, r4)), (10, (0, r4)), (0, (3, v0)), (3, (0, v3)), (4, (0, v4)), (5, (0, v5)), (6, (0, v6)), (7, (0, v7))]) (pc := 117) 8 rfl (daX11_bars_1 0 rfl) (Nat.le_of_ble_eq_true rfl) rfl ?_
      refine GM_goto (pc := 120) 74 (daX11_bars_1 1 rfl) rfl ?_
      refine GM_pick [3, 4, 5, 6, 7, 8, 1, 0] rfl ?_
      cases h
      exact hK
set_option maxRecDepth 20000 in
theorem qX11_bars_57 (l : Launch) (F : FI) (v0 v3 v4 v5 : Int) (μ : Mm) (k n : Nat) : ∀ (q : (Int × Int)) (t : ((Int × Int) ⊕ Int)), sX11_bars_57 v0 v3 v4 v5 μ q = some t → zX11_bars_57 l F v0 v3 v4 v5 μ k n t → zX11_bars_57 l F v0 v3 v4 v5 μ k n (.inl q) := by
  intro q t h hK
  obtain ⟨v6, v7⟩ := q
  unfold sX11_bars_57 at h
  try dsimp only at h
  show GM l mX11_bars F k n 57 [(0, (3, v0)), (3, (0, v3)), (4, (0, v4)), (5, (0, v5)), (6, (0, v6)), (7, (0, v7))] [] μ
  refine GM_iload (pc := 57) 5 rfl (daX11_bars_0 34 rfl) ?_
  refine GM_aload_n (pc := 59) 0 rfl (daX11_bars_0 35 rfl) rfl ?_
  refine GM_iload (pc := 60) 2 rfl (daX11_bars_0 36 rfl) ?_
  obtain ⟨hc6, h⟩ := chk_inv h
  obtain ⟨r7, hf7, h⟩ := Option.bind_eq_some_iff.mp h
  refine GM_callV0 (pc := 62) [(0, v4)] (tX11_placesOf l hf7) cwX11_placesOf 11 (Nat.le_of_ble_eq_true rfl) rfl kv_X11_placesOf ke_X11_placesOf km_X11_207 hc6 ⟨Nat.le_of_ble_eq_true rfl, Nat.le_of_ble_eq_true rfl⟩ (Nat.le_of_ble_eq_true rfl) (Nat.le_of_ble_eq_true rfl) (daX11_bars_0 37 rfl) ?_
  refine GM_icmp_ge (pc := 65) 145 (daX11_bars_0 38 rfl) rfl (fun c8 => ?_) (fun c8 => ?_)
  · skip
    rw [if_pos c8] at h
    refine GM_pick [4] rfl ?_
    cases h
    exact hK
  · skip
    rw [if_neg c8] at h
    refine GM_iconst (pc := 68) 0 (daX11_bars_0 39 rfl) rfl (R32_b rfl) ?_
    refine GM_istore (L' := [(8, (0, 0)), (0, (3, v0)), (3, (0, v3)), (4, (0, v4)), (5, (0, v5)), (6, (0, v6)), (7, (0, v7))]) (pc := 69) (daX11_bars_0 40 rfl) (Nat.le_of_ble_eq_true rfl) rfl ?_
    refine GM_iconst (pc := 71) 0 (daX11_bars_0 41 rfl) rfl (R32_b rfl) ?_
    refine GM_istore (L' := [(9, (0, 0)), (8, (0, 0)), (0, (3, v0)), (3, (0, v3)), (4, (0, v4)), (5, (0, v5)), (6, (0, v6)), (7, (0, v7))]) (pc := 72) (daX11_bars_0 42 rfl) (Nat.le_of_ble_eq_true rfl) rfl ?_
    refine GM_pick [2, 3, 4, 5, 6, 7, 1, 0] rfl ?_
    obtain ⟨x9, hqx9, h⟩ := Option.bind_eq_some_iff.mp h
    refine lop_ind (zX11_bars_74 l F v0 v3 v4 v5 v6 v7 μ k n) (qX11_bars_74 l F v0 v3 v4 v5 v6 v7 μ k n) FU _ x9 hqx9 ?_
    obtain ⟨v8_10, hqq⟩ : ∃ z, z = x9 := ⟨x9, rfl⟩
    subst hqq
    show GM l mX11_bars F k n 123 [(0, (3, v0)), (3, (0, v3)), (4, (0, v4)), (5, (0, v5)), (6, (0, v6)), (7, (0, v7)), (8, (0, v8_10))] [] μ
    refine GM_iload (pc := 123) 4 rfl (daX11_bars_1 2 rfl) ?_
    refine GM_iload (pc := 125) 6 rfl (daX11_bars_1 3 rfl) ?_
    refine GM_iload_n (pc := 127) 1 rfl (daX11_bars_1 4 rfl) rfl ?_
    refine GM_icmp_ne (pc := 128) 135 (daX11_bars_1 5 rfl) rfl (fun c11 => ?_) (fun c11 => ?_)
    · skip
      rw [if_neg c11] at h
      refine GM_iconst (pc := 135) 0 (daX11_bars_1 8 rfl) rfl (R32_b rfl) ?_
      refine GM_iadd (pc := 136) (daX11_bars_1 9 rfl) ?_
      refine GM_istore (L' := [(6, (0, w32 (v6 + 0))), (0, (3, v0)), (3, (0, v3)), (4, (0, v4)), (5, (0, v5)), (7, (0, v7)), (8, (0, v8_10))]) (pc := 137) (daX11_bars_1 10 rfl) (Nat.le_of_ble_eq_true rfl) rfl ?_
      refine GM_iinc (L' := [(7, (0, w32 (v7 + 1))), (6, (0, w32 (v6 + 0))), (0, (3, v0)), (3, (0, v3)), (4, (0, v4)), (5, (0, v5)), (8, (0, v8_10))]) (pc := 139) 5 rfl (daX11_bars_1 11 rfl) (Nat.le_of_ble_eq_true rfl) rfl ?_
      refine GM_goto (pc := 142) 57 (daX11_bars_1 12 rfl) rfl ?_
      refine GM_pick [2, 3, 4, 5, 1, 0] rfl ?_
      cases h
      exact hK
    · skip
      rw [if_pos c11] at h
      refine GM_iconst (pc := 131) 1 (daX11_bars_1 6 rfl) rfl (R32_b rfl) ?_
      refine GM_goto (pc := 132) 136 (daX11_bars_1 7 rfl) rfl ?_
      refine GM_iadd (pc := 136) (daX11_bars_1 9 rfl) ?_
      refine GM_istore (L' := [(6, (0, w32 (v6 + 1))), (0, (3, v0)), (3, (0, v3)), (4, (0, v4)), (5, (0, v5)), (7, (0, v7)), (8, (0, v8_10))]) (pc := 137) (daX11_bars_1 10 rfl) (Nat.le_of_ble_eq_true rfl) rfl ?_
      refine GM_iinc (L' := [(7, (0, w32 (v7 + 1))), (6, (0, w32 (v6 + 1))), (0, (3, v0)), (3, (0, v3)), (4, (0, v4)), (5, (0, v5)), (8, (0, v8_10))]) (pc := 139) 5 rfl (daX11_bars_1 11 rfl) (Nat.le_of_ble_eq_true rfl) rfl ?_
      refine GM_goto (pc := 142) 57 (daX11_bars_1 12 rfl) rfl ?_
      refine GM_pick [2, 3, 4, 5, 1, 0] rfl ?_
      cases h
      exact hK
set_option maxRecDepth 20000 in
theorem gX11_bars_0 (l : Launch) {F : FI} {v0 v1 v2 v3 : Int} {μ : Mm} {t : (Int × Mm)} (h : fX11_bars v0 v1 v2 v3 μ = some t) (hK : F.1 = [(0, t.1)] ∧ F.2.1 = t.2) : GM l mX11_bars F 0 0 0 [(0, (3, v0)), (1, (0, v1)), (2, (0, v2)), (3, (0, v3))] [] μ := by
  unfold fX11_bars at h
  refine GM_aload_n (pc := 0) 0 rfl (daX11_bars_0 0 rfl) rfl ?_
  refine GM_iload_n (pc := 1) 1 rfl (daX11_bars_0 1 rfl) rfl ?_
  refine GM_iload_n (pc := 2) 2 rfl (daX11_bars_0 2 rfl) rfl ?_
  obtain ⟨hc12, h⟩ := chk_inv h
  obtain ⟨r13, hf13, h⟩ := Option.bind_eq_some_iff.mp h
  refine GM_callV0 (pc := 3) [(0, v1), (0, v2)] (tX11_areBoth l hf13) cwX11_areBoth 11 (Nat.le_of_ble_eq_true rfl) rfl kv_X11_areBoth ke_X11_areBoth km_X11_283 hc12 ⟨Nat.le_of_ble_eq_true rfl, Nat.le_of_ble_eq_true rfl⟩ (Nat.le_of_ble_eq_true rfl) (Nat.le_of_ble_eq_true rfl) (daX11_bars_0 3 rfl) ?_
  refine GM_if_eq (pc := 6) 29 (daX11_bars_0 4 rfl) rfl (fun c14 => ?_) (fun c14 => ?_)
  · skip
    rw [if_pos c14] at h
    refine GM_iconst (pc := 29) (-1) (daX11_bars_0 17 rfl) rfl (R32_b rfl) ?_
    cases h
    exact GM_iret (pc := 30) (daX11_bars_0 18 rfl) rfl hK
  · skip
    rw [if_neg c14] at h
    refine GM_iload_n (pc := 9) 3 rfl (daX11_bars_0 5 rfl) rfl ?_
    refine GM_iconst (pc := 10) 0 (daX11_bars_0 6 rfl) rfl (R32_b rfl) ?_
    refine GM_aload_n (pc := 11) 0 rfl (daX11_bars_0 7 rfl) rfl ?_
    refine GM_getf (pc := 12) 11 0 3 0 kf_X11_7 (Nat.le_of_ble_eq_true rfl) (Nat.le_of_ble_eq_true rfl) rfl (daX11_bars_0 8 rfl) hc12 rfl ?_
    refine GM_iconst (pc := 15) 1 (daX11_bars_0 9 rfl) rfl (R32_b rfl) ?_
    refine GM_iload_n (pc := 16) 2 rfl (daX11_bars_0 10 rfl) rfl ?_
    obtain ⟨r15, hf15, h⟩ := Option.bind_eq_some_iff.mp h
    refine GM_callS0 (pc := 17) [(0, 1), (0, v2)] (tX11_placeOf l hf15) cwX11_placeOf ks_X11_placeOf km_X11_204 ⟨Nat.le_of_ble_eq_true rfl, Nat.le_of_ble_eq_true rfl⟩ (Nat.le_of_ble_eq_true rfl) (Nat.le_of_ble_eq_true rfl) (daX11_bars_0 11 rfl) ?_
    obtain ⟨hc16, h⟩ := chk_inv h
    refine GM_iald (pc := 20) (daX11_bars_0 12 rfl) hc16.1 hc16.2.1 hc16.2.2 ?_
    refine GM_iconst (pc := 21) 1 (daX11_bars_0 13 rfl) rfl (R32_b rfl) ?_
    refine GM_isub (pc := 22) (daX11_bars_0 14 rfl) ?_
    refine GM_callS0 (pc := 23) [(0, v3), (0, 0), (0, w32 ((μ (μ v0 0) r15) - 1))] (tX11_isIn l (fX11_isIn_eq v3 0 (w32 ((μ (μ v0 0) r15) - 1)))) cwX11_isIn ks_X11_isIn km_X11_147 ⟨Nat.le_of_ble_eq_true rfl, Nat.le_of_ble_eq_true rfl⟩ (Nat.le_of_ble_eq_true rfl) (Nat.le_of_ble_eq_true rfl) (daX11_bars_0 15 rfl) ?_
    refine GM_if_ne (pc := 26) 31 (daX11_bars_0 16 rfl) rfl (fun c17 => ?_) (fun c17 => ?_)
    · skip
      rw [if_neg c17] at h
      refine GM_iconst (pc := 31) 0 (daX11_bars_0 19 rfl) rfl (R32_b rfl) ?_
      refine GM_iload_n (pc := 32) 1 rfl (daX11_bars_0 20 rfl) rfl ?_
      obtain ⟨r18, hf18, h⟩ := Option.bind_eq_some_iff.mp h
      refine GM_callS0 (pc := 33) [(0, 0), (0, v1)] (tX11_placeOf l hf18) cwX11_placeOf ks_X11_placeOf km_X11_204 ⟨Nat.le_of_ble_eq_true rfl, Nat.le_of_ble_eq_true rfl⟩ (Nat.le_of_ble_eq_true rfl) (Nat.le_of_ble_eq_true rfl) (daX11_bars_0 21 rfl) ?_
      refine GM_istore (L' := [(4, (0, r18)), (0, (3, v0)), (1, (0, v1)), (2, (0, v2)), (3, (0, v3))]) (pc := 36) (daX11_bars_0 22 rfl) (Nat.le_of_ble_eq_true rfl) rfl ?_
      refine GM_iconst (pc := 38) 1 (daX11_bars_0 23 rfl) rfl (R32_b rfl) ?_
      refine GM_iload_n (pc := 39) 3 rfl (daX11_bars_0 24 rfl) rfl ?_
      obtain ⟨r19, hf19, h⟩ := Option.bind_eq_some_iff.mp h
      refine GM_callS0 (pc := 40) [(0, 1), (0, v2)] (tX11_placeOf l hf19) cwX11_placeOf ks_X11_placeOf km_X11_204 ⟨Nat.le_of_ble_eq_true rfl, Nat.le_of_ble_eq_true rfl⟩ (Nat.le_of_ble_eq_true rfl) (Nat.le_of_ble_eq_true rfl) (daX11_bars_0 25 rfl) ?_
      refine GM_istore (L' := [(5, (0, r19)), (4, (0, r18)), (0, (3, v0)), (1, (0, v1)), (2, (0, v2)), (3, (0, v3))]) (pc := 43) (daX11_bars_0 26 rfl) (Nat.le_of_ble_eq_true rfl) rfl ?_
      refine GM_aload_n (pc := 45) 2 rfl (daX11_bars_0 27 rfl) rfl ?_
      refine GM_iload (pc := 46) 1 rfl (daX11_bars_0 28 rfl) ?_
      obtain ⟨μ20, hf20, h⟩ := Option.bind_eq_some_iff.mp h
      refine GM_callV0 (pc := 48) [(0, r18)] (tX11_survey l hf20) cwX11_survey 11 (Nat.le_of_ble_eq_true rfl) rfl kv_X11_survey ke_X11_survey km_X11_295 hc12 ⟨Nat.le_of_ble_eq_true rfl, Nat.le_of_ble_eq_true rfl⟩ (Nat.le_of_ble_eq_true rfl) (Nat.le_of_ble_eq_true rfl) (daX11_bars_0 29 rfl) ?_
      refine GM_iconst (pc := 51) 0 (daX11_bars_0 30 rfl) rfl (R32_b rfl) ?_
      refine GM_istore (L' := [(6, (0, 0)), (5, (0, r19)), (4, (0, r18)), (0, (3, v0)), (1, (0, v1)), (2, (0, v2)), (3, (0, v3))]) (pc := 52) (daX11_bars_0 31 rfl) (Nat.le_of_ble_eq_true rfl) rfl ?_
      refine GM_iconst (pc := 54) 0 (daX11_bars_0 32 rfl) rfl (R32_b rfl) ?_
      refine GM_istore (L' := [(7, (0, 0)), (6, (0, 0)), (5, (0, r19)), (4, (0, r18)), (0, (3, v0)), (1, (0, v1)), (2, (0, v2)), (3, (0, v3))]) (pc := 55) (daX11_bars_0 33 rfl) (Nat.le_of_ble_eq_true rfl) rfl ?_
      refine GM_pick [4, 7, 3, 2, 1, 0] rfl ?_
      obtain ⟨x21, hqx21, h⟩ := Option.bind_eq_some_iff.mp h
      refine lop_ind (zX11_bars_57 l F v0 v3 r18 r19 μ20 0 0) (qX11_bars_57 l F v0 v3 r18 r19 μ20 0 0) FU _ x21 hqx21 ?_
      obtain ⟨v6_22, hqq⟩ : ∃ z, z = x21 := ⟨x21, rfl⟩
      subst hqq
      show GM l mX11_bars F 0 0 145 [(6, (0, v6_22))] [] μ20
      refine GM_iload (pc := 145) 0 rfl (daX11_bars_1 13 rfl) ?_
      cases h
      exact GM_iret (pc := 147) (daX11_bars_1 14 rfl) rfl hK
    · skip
      rw [if_pos c17] at h
      refine GM_iconst (pc := 29) (-1) (daX11_bars_0 17 rfl) rfl (R32_b rfl) ?_
      cases h
      exact GM_iret (pc := 30) (daX11_bars_0 18 rfl) rfl hK
theorem tX11_bars (l : Launch) {v0 v1 v2 v3 : Int} {μ : Mm} {t : (Int × Mm)} (h : fX11_bars v0 v1 v2 v3 μ = some t) : Ct l yX11_bars mX11_bars [(3, v0), (0, v1), (0, v2), (0, v3)] μ ([(0, t.1)], t.2, 0, 0) :=
  Ct_of (by decide +kernel) rfl rfl (Nat.le_of_ble_eq_true rfl) (fun _ _ _ => trivial) (gX11_bars_0 l h ⟨rfl, rfl⟩)
def mX11_bits : MI := (RX11, cX11_bits, 3, (some .int), "bits", 0, 0, fun _ _ _ => True)
theorem cwX11_bits : CWd yX11_bits mX11_bits 1 := ⟨ki_X11, kk_X11_bits, ⟨by decide, by decide⟩, rfl⟩
def dtX11_bits_0 : List (Nat × Instr × Nat) := [(0, .iconst 0, 1), (1, .istore_n 1, 1), (2, .iload_n 0, 1), (3, .istore_n 2, 1), (4, .iload_n 2, 1), (5, .ifCond .le 16, 3), (8, .iload_n 1, 1), (9, .iload_n 2, 1), (10, .iconst 1, 1), (11, .iand, 1), (12, .iadd, 1), (13, .istore_n 1, 1), (14, .iload_n 2, 1), (15, .iconst 1, 1), (16, .ishr, 1), (17, .istore_n 2, 1), (18, .goto (-14), 3), (21, .iload_n 1, 1), (22, .ireturn, 1)]
theorem ddX11_bits_0 : (dtX11_bits_0.all fun e => decide (decode mX11_bits.2.1 e.1 = .ok (e.2.1, e.2.2))) = true := by decide +kernel
theorem daX11_bits_0 (j : Nat) {pc n : Nat} {i : Instr} (h : dtX11_bits_0[j]? = some (pc, i, n)) : decode mX11_bits.2.1 pc = .ok (i, n) := dec_of (c := mX11_bits.2.1) ddX11_bits_0 h
def zX11_bits_4 (l : Launch) (F : FI) (μ : Mm) (k n : Nat) : (Int × Int) ⊕ Int → Prop
  | .inl (v1, v2) => GM l mX11_bits F k n 4 [(1, (0, v1)), (2, (0, v2))] [] μ
  | .inr v1 => GM l mX11_bits F k n 21 [(1, (0, v1))] [] μ
def sX11_bits_4 : (Int × Int) → Option ((Int × Int) ⊕ Int) := fun (v1, v2) =>
  if v2 ≤ 0 then
    some (.inr v1)
  else
    some (.inl (w32 (v1 + (iand v2 1)), ishr v2 1))
def fX11_bits (v0 : Int) : Option Int :=
  (lop (sX11_bits_4) FU (0, v0)).bind fun v1_3 =>
    some v1_3
set_option maxRecDepth 20000 in
theorem qX11_bits_4 (l : Launch) (F : FI) (μ : Mm) (k n : Nat) : ∀ (q : (Int × Int)) (t : ((Int × Int) ⊕ Int)), sX11_bits_4 q = some t → zX11_bits_4 l F μ k n t → zX11_bits_4 l F μ k n (.inl q) := by
  intro q t h hK
  obtain ⟨v1, v2⟩ := q
  unfold sX11_bits_4 at h
  try dsimp only at h
  show GM l mX11_bits F k n 4 [(1, (0, v1)), (2, (0, v2))] [] μ
  refine GM_iload_n (pc := 4) 1 rfl (daX11_bits_0 4 rfl) rfl ?_
  refine GM_if_le (pc := 5) 21 (daX11_bits_0 5 rfl) rfl (fun c1 => ?_) (fun c1 => ?_)
  · skip
    rw [if_pos c1] at h
    refine GM_pick [0] rfl ?_
    cases h
    exact hK
  · skip
    rw [if_neg c1] at h
    refine GM_iload_n (pc := 8) 0 rfl (daX11_bits_0 6 rfl) rfl ?_
    refine GM_iload_n (pc := 9) 1 rfl (daX11_bits_0 7 rfl) rfl ?_
    refine GM_iconst (pc := 10) 1 (daX11_bits_0 8 rfl) rfl (R32_b rfl) ?_
    refine GM_iand (pc := 11) (daX11_bits_0 9 rfl) ?_
    refine GM_iadd (pc := 12) (daX11_bits_0 10 rfl) ?_
    refine GM_istore_n (L' := [(1, (0, w32 (v1 + (iand v2 1)))), (2, (0, v2))]) (pc := 13) (daX11_bits_0 11 rfl) rfl (Nat.le_of_ble_eq_true rfl) rfl ?_
    refine GM_iload_n (pc := 14) 1 rfl (daX11_bits_0 12 rfl) rfl ?_
    refine GM_iconst (pc := 15) 1 (daX11_bits_0 13 rfl) rfl (R32_b rfl) ?_
    refine GM_ishr (pc := 16) (daX11_bits_0 14 rfl) ?_
    refine GM_istore_n (L' := [(2, (0, ishr v2 1)), (1, (0, w32 (v1 + (iand v2 1))))]) (pc := 17) (daX11_bits_0 15 rfl) rfl (Nat.le_of_ble_eq_true rfl) rfl ?_
    refine GM_goto (pc := 18) 4 (daX11_bits_0 16 rfl) rfl ?_
    refine GM_pick [1, 0] rfl ?_
    cases h
    exact hK
set_option maxRecDepth 20000 in
theorem gX11_bits_0 (l : Launch) {F : FI} {v0 : Int} {μ : Mm} {t : Int} (h : fX11_bits v0 = some t) (hK : F.1 = [(0, t)] ∧ F.2.1 = μ) : GM l mX11_bits F 0 0 0 [(0, (0, v0))] [] μ := by
  unfold fX11_bits at h
  refine GM_iconst (pc := 0) 0 (daX11_bits_0 0 rfl) rfl (R32_b rfl) ?_
  refine GM_istore_n (L' := [(1, (0, 0)), (0, (0, v0))]) (pc := 1) (daX11_bits_0 1 rfl) rfl (Nat.le_of_ble_eq_true rfl) rfl ?_
  refine GM_iload_n (pc := 2) 1 rfl (daX11_bits_0 2 rfl) rfl ?_
  refine GM_istore_n (L' := [(2, (0, v0)), (1, (0, 0)), (0, (0, v0))]) (pc := 3) (daX11_bits_0 3 rfl) rfl (Nat.le_of_ble_eq_true rfl) rfl ?_
  refine GM_pick [1, 0] rfl ?_
  obtain ⟨x2, hqx2, h⟩ := Option.bind_eq_some_iff.mp h
  refine lop_ind (zX11_bits_4 l F μ 0 0) (qX11_bits_4 l F μ 0 0) FU _ x2 hqx2 ?_
  obtain ⟨v1_3, hqq⟩ : ∃ z, z = x2 := ⟨x2, rfl⟩
  subst hqq
  show GM l mX11_bits F 0 0 21 [(1, (0, v1_3))] [] μ
  refine GM_iload_n (pc := 21) 0 rfl (daX11_bits_0 17 rfl) rfl ?_
  cases h
  exact GM_iret (pc := 22) (daX11_bits_0 18 rfl) rfl hK
theorem tX11_bits (l : Launch) {v0 : Int} {μ : Mm} {t : Int} (h : fX11_bits v0 = some t) : Ct l yX11_bits mX11_bits [(0, v0)] μ ([(0, t)], μ, 0, 0) :=
  Ct_of (by decide +kernel) rfl rfl (Nat.le_of_ble_eq_true rfl) (fun _ _ _ => trivial) (gX11_bits_0 l h ⟨rfl, rfl⟩)
def mX11_isEnough : MI := (RX11, cX11_isEnough, 6, (some .boolean), "isEnough", 0, 0, fun _ _ _ => True)
theorem cwX11_isEnough : CWd yX11_isEnough mX11_isEnough 3 := ⟨ki_X11, kk_X11_isEnough, ⟨by decide, by decide⟩, rfl⟩
def dtX11_isEnough_0 : List (Nat × Instr × Nat) := [(0, .iload_n 2, 1), (1, .iload_n 3, 1), (2, .iconst (-1), 1), (3, .ixor, 1), (4, .iand, 1), (5, .ifCond .ne 7, 3), (8, .iconst 1, 1), (9, .goto 4, 3), (12, .iconst 0, 1), (13, .istore 4, 2), (15, .iconst 0, 1), (16, .istore 5, 2), (18, .iload 5, 2), (20, .iload_n 1, 1), (21, .if_icmp .ge 45, 3), (24, .iload 4, 2), (26, .ifCond .eq 40, 3), (29, .iload_n 3, 1), (30, .iload 5, 2), (32, .ishr, 1), (33, .iconst 1, 1), (34, .iand, 1), (35, .iconst 1, 1), (36, .if_icmp .eq 17, 3), (39, .aload_n 0, 1), (40, .getfield 44, 3), (43, .iload 5, 2), (45, .iaload, 1), (46, .iload_n 3, 1), (47, .iconst (-1), 1), (48, .ixor, 1), (49, .iand, 1), (50, .ifCond .ne 7, 3), (53, .iconst 1, 1), (54, .goto 4, 3), (57, .iconst 0, 1), (58, .istore 4, 2), (60, .iinc 5 1, 3), (63, .goto (-45), 3), (66, .iload 4, 2), (68, .ireturn, 1)]
theorem ddX11_isEnough_0 : (dtX11_isEnough_0.all fun e => decide (decode mX11_isEnough.2.1 e.1 = .ok (e.2.1, e.2.2))) = true := by decide +kernel
theorem daX11_isEnough_0 (j : Nat) {pc n : Nat} {i : Instr} (h : dtX11_isEnough_0[j]? = some (pc, i, n)) : decode mX11_isEnough.2.1 pc = .ok (i, n) := dec_of (c := mX11_isEnough.2.1) ddX11_isEnough_0 h
def zX11_isEnough_18 (l : Launch) (F : FI) (v0 v1 v3 : Int) (μ : Mm) (k n : Nat) : (Int × Int) ⊕ Int → Prop
  | .inl (v4, v5) => GM l mX11_isEnough F k n 18 [(0, (3, v0)), (1, (0, v1)), (3, (0, v3)), (4, (0, v4)), (5, (0, v5))] [] μ
  | .inr v4 => GM l mX11_isEnough F k n 66 [(4, (0, v4))] [] μ
def sX11_isEnough_18 (v0 v1 v3 : Int) (μ : Mm) : (Int × Int) → Option ((Int × Int) ⊕ Int) := fun (v4, v5) =>
  if v1 ≤ v5 then
    some (.inr v4)
  else
    if v4 = 0 then
      some (.inr v4)
    else
      if iand (ishr v3 v5) 1 = 1 then
        some (.inl (1, w32 (v5 + 1)))
      else
        chk (KD v0 = 11) (
        chk (KD (μ v0 23) = 12 ∧ 0 ≤ v5 ∧ v5 < LN (μ v0 23)) (
        if iand (μ (μ v0 23) v5) (ixor v3 (-1)) = 0 then
          some (.inl (1, w32 (v5 + 1)))
        else
          some (.inl (0, w32 (v5 + 1)))))
def jX11_isEnough_13 (v0 v1 v3 s0 : Int) (μ : Mm) : Option Int :=
  (lop (sX11_isEnough_18 v0 v1 v3 μ) FU (s0, 0)).bind fun v4_8 =>
    chk ((v4_8 = 0 ∨ v4_8 = 1)) (
    some v4_8)
def fX11_isEnough (v0 v1 v2 v3 : Int) (μ : Mm) : Option Int :=
  if iand v2 (ixor v3 (-1)) = 0 then
    jX11_isEnough_13 v0 v1 v3 1 μ
  else
    jX11_isEnough_13 v0 v1 v3 0 μ
set_option maxRecDepth 20000 in
theorem qX11_isEnough_18 (l : Launch) (F : FI) (v0 v1 v3 : Int) (μ : Mm) (k n : Nat) : ∀ (q : (Int × Int)) (t : ((Int × Int) ⊕ Int)), sX11_isEnough_18 v0 v1 v3 μ q = some t → zX11_isEnough_18 l F v0 v1 v3 μ k n t → zX11_isEnough_18 l F v0 v1 v3 μ k n (.inl q) := by
  intro q t h hK
  obtain ⟨v4, v5⟩ := q
  unfold sX11_isEnough_18 at h
  try dsimp only at h
  show GM l mX11_isEnough F k n 18 [(0, (3, v0)), (1, (0, v1)), (3, (0, v3)), (4, (0, v4)), (5, (0, v5))] [] μ
  refine GM_iload (pc := 18) 4 rfl (daX11_isEnough_0 12 rfl) ?_
  refine GM_iload_n (pc := 20) 1 rfl (daX11_isEnough_0 13 rfl) rfl ?_
  refine GM_icmp_ge (pc := 21) 66 (daX11_isEnough_0 14 rfl) rfl (fun c1 => ?_) (fun c1 => ?_)
  · skip
    rw [if_pos c1] at h
    refine GM_pick [3] rfl ?_
    cases h
    exact hK
  · skip
    rw [if_neg c1] at h
    refine GM_iload (pc := 24) 3 rfl (daX11_isEnough_0 15 rfl) ?_
    refine GM_if_eq (pc := 26) 66 (daX11_isEnough_0 16 rfl) rfl (fun c2 => ?_) (fun c2 => ?_)
    · skip
      rw [if_pos c2] at h
      refine GM_pick [3] rfl ?_
      cases h
      exact hK
    · skip
      rw [if_neg c2] at h
      refine GM_iload_n (pc := 29) 2 rfl (daX11_isEnough_0 17 rfl) rfl ?_
      refine GM_iload (pc := 30) 4 rfl (daX11_isEnough_0 18 rfl) ?_
      refine GM_ishr (pc := 32) (daX11_isEnough_0 19 rfl) ?_
      refine GM_iconst (pc := 33) 1 (daX11_isEnough_0 20 rfl) rfl (R32_b rfl) ?_
      refine GM_iand (pc := 34) (daX11_isEnough_0 21 rfl) ?_
      refine GM_iconst (pc := 35) 1 (daX11_isEnough_0 22 rfl) rfl (R32_b rfl) ?_
      refine GM_icmp_eq (pc := 36) 53 (daX11_isEnough_0 23 rfl) rfl (fun c3 => ?_) (fun c3 => ?_)
      · skip
        rw [if_pos c3] at h
        refine GM_iconst (pc := 53) 1 (daX11_isEnough_0 33 rfl) rfl (R32_b rfl) ?_
        refine GM_goto (pc := 54) 58 (daX11_isEnough_0 34 rfl) rfl ?_
        refine GM_istore (L' := [(4, (0, 1)), (0, (3, v0)), (1, (0, v1)), (3, (0, v3)), (5, (0, v5))]) (pc := 58) (daX11_isEnough_0 36 rfl) (Nat.le_of_ble_eq_true rfl) rfl ?_
        refine GM_iinc (L' := [(5, (0, w32 (v5 + 1))), (4, (0, 1)), (0, (3, v0)), (1, (0, v1)), (3, (0, v3))]) (pc := 60) 4 rfl (daX11_isEnough_0 37 rfl) (Nat.le_of_ble_eq_true rfl) rfl ?_
        refine GM_goto (pc := 63) 18 (daX11_isEnough_0 38 rfl) rfl ?_
        refine GM_pick [2, 3, 4, 1, 0] rfl ?_
        cases h
        exact hK
      · skip
        rw [if_neg c3] at h
        refine GM_aload_n (pc := 39) 0 rfl (daX11_isEnough_0 24 rfl) rfl ?_
        obtain ⟨hc4, h⟩ := chk_inv h
        refine GM_getf (pc := 40) 11 23 3 23 kf_X11_44 (Nat.le_of_ble_eq_true rfl) (Nat.le_of_ble_eq_true rfl) rfl (daX11_isEnough_0 25 rfl) hc4 rfl ?_
        refine GM_iload (pc := 43) 4 rfl (daX11_isEnough_0 26 rfl) ?_
        obtain ⟨hc5, h⟩ := chk_inv h
        refine GM_iald (pc := 45) (daX11_isEnough_0 27 rfl) hc5.1 hc5.2.1 hc5.2.2 ?_
        refine GM_iload_n (pc := 46) 2 rfl (daX11_isEnough_0 28 rfl) rfl ?_
        refine GM_iconst (pc := 47) (-1) (daX11_isEnough_0 29 rfl) rfl (R32_b rfl) ?_
        refine GM_ixor (pc := 48) (daX11_isEnough_0 30 rfl) ?_
        refine GM_iand (pc := 49) (daX11_isEnough_0 31 rfl) ?_
        refine GM_if_ne (pc := 50) 57 (daX11_isEnough_0 32 rfl) rfl (fun c6 => ?_) (fun c6 => ?_)
        · skip
          rw [if_neg c6] at h
          refine GM_iconst (pc := 57) 0 (daX11_isEnough_0 35 rfl) rfl (R32_b rfl) ?_
          refine GM_istore (L' := [(4, (0, 0)), (0, (3, v0)), (1, (0, v1)), (3, (0, v3)), (5, (0, v5))]) (pc := 58) (daX11_isEnough_0 36 rfl) (Nat.le_of_ble_eq_true rfl) rfl ?_
          refine GM_iinc (L' := [(5, (0, w32 (v5 + 1))), (4, (0, 0)), (0, (3, v0)), (1, (0, v1)), (3, (0, v3))]) (pc := 60) 4 rfl (daX11_isEnough_0 37 rfl) (Nat.le_of_ble_eq_true rfl) rfl ?_
          refine GM_goto (pc := 63) 18 (daX11_isEnough_0 38 rfl) rfl ?_
          refine GM_pick [2, 3, 4, 1, 0] rfl ?_
          cases h
          exact hK
        · skip
          rw [if_pos c6] at h
          refine GM_iconst (pc := 53) 1 (daX11_isEnough_0 33 rfl) rfl (R32_b rfl) ?_
          refine GM_goto (pc := 54) 58 (daX11_isEnough_0 34 rfl) rfl ?_
          refine GM_istore (L' := [(4, (0, 1)), (0, (3, v0)), (1, (0, v1)), (3, (0, v3)), (5, (0, v5))]) (pc := 58) (daX11_isEnough_0 36 rfl) (Nat.le_of_ble_eq_true rfl) rfl ?_
          refine GM_iinc (L' := [(5, (0, w32 (v5 + 1))), (4, (0, 1)), (0, (3, v0)), (1, (0, v1)), (3, (0, v3))]) (pc := 60) 4 rfl (daX11_isEnough_0 37 rfl) (Nat.le_of_ble_eq_true rfl) rfl ?_
          refine GM_goto (pc := 63) 18 (daX11_isEnough_0 38 rfl) rfl ?_
          refine GM_pick [2, 3, 4, 1, 0] rfl ?_
          cases h
          exact hK
set_option maxRecDepth 20000 in
theorem gX11_isEnough_13 (l : Launch) {F : FI} {v0 v1 v3 s0 : Int} {μ : Mm} {t : Int} (h : jX11_isEnough_13 v0 v1 v3 s0 μ = some t) (hK : F.1 = [(0, t)] ∧ F.2.1 = μ) : GM l mX11_isEnough F 0 0 13 [(0, (3, v0)), (1, (0, v1)), (3, (0, v3))] [(0, s0)] μ := by
  unfold jX11_isEnough_13 at h
  refine GM_istore (L' := [(4, (0, s0)), (0, (3, v0)), (1, (0, v1)), (3, (0, v3))]) (pc := 13) (daX11_isEnough_0 9 rfl) (Nat.le_of_ble_eq_true rfl) rfl ?_
  refine GM_iconst (pc := 15) 0 (daX11_isEnough_0 10 rfl) rfl (R32_b rfl) ?_
  refine GM_istore (L' := [(5, (0, 0)), (4, (0, s0)), (0, (3, v0)), (1, (0, v1)), (3, (0, v3))]) (pc := 16) (daX11_isEnough_0 11 rfl) (Nat.le_of_ble_eq_true rfl) rfl ?_
  refine GM_pick [2, 3, 4, 1, 0] rfl ?_
  obtain ⟨x7, hqx7, h⟩ := Option.bind_eq_some_iff.mp h
  refine lop_ind (zX11_isEnough_18 l F v0 v1 v3 μ 0 0) (qX11_isEnough_18 l F v0 v1 v3 μ 0 0) FU _ x7 hqx7 ?_
  obtain ⟨v4_8, hqq⟩ : ∃ z, z = x7 := ⟨x7, rfl⟩
  subst hqq
  show GM l mX11_isEnough F 0 0 66 [(4, (0, v4_8))] [] μ
  refine GM_iload (pc := 66) 0 rfl (daX11_isEnough_0 39 rfl) ?_
  obtain ⟨hc9, h⟩ := chk_inv h
  cases h
  exact GM_zret (pc := 68) (daX11_isEnough_0 40 rfl) rfl hc9 hK
set_option maxRecDepth 20000 in
theorem gX11_isEnough_0 (l : Launch) {F : FI} {v0 v1 v2 v3 : Int} {μ : Mm} {t : Int} (h : fX11_isEnough v0 v1 v2 v3 μ = some t) (hK : F.1 = [(0, t)] ∧ F.2.1 = μ) : GM l mX11_isEnough F 0 0 0 [(0, (3, v0)), (1, (0, v1)), (2, (0, v2)), (3, (0, v3))] [] μ := by
  unfold fX11_isEnough at h
  refine GM_iload_n (pc := 0) 2 rfl (daX11_isEnough_0 0 rfl) rfl ?_
  refine GM_iload_n (pc := 1) 3 rfl (daX11_isEnough_0 1 rfl) rfl ?_
  refine GM_iconst (pc := 2) (-1) (daX11_isEnough_0 2 rfl) rfl (R32_b rfl) ?_
  refine GM_ixor (pc := 3) (daX11_isEnough_0 3 rfl) ?_
  refine GM_iand (pc := 4) (daX11_isEnough_0 4 rfl) ?_
  refine GM_if_ne (pc := 5) 12 (daX11_isEnough_0 5 rfl) rfl (fun c10 => ?_) (fun c10 => ?_)
  · skip
    rw [if_neg c10] at h
    refine GM_iconst (pc := 12) 0 (daX11_isEnough_0 8 rfl) rfl (R32_b rfl) ?_
    refine GM_pick [0, 1, 3] rfl ?_
    exact gX11_isEnough_13 l h hK
  · skip
    rw [if_pos c10] at h
    refine GM_iconst (pc := 8) 1 (daX11_isEnough_0 6 rfl) rfl (R32_b rfl) ?_
    refine GM_goto (pc := 9) 13 (daX11_isEnough_0 7 rfl) rfl ?_
    refine GM_pick [0, 1, 3] rfl ?_
    exact gX11_isEnough_13 l h hK
theorem tX11_isEnough (l : Launch) {v0 v1 v2 v3 : Int} {μ : Mm} {t : Int} (h : fX11_isEnough v0 v1 v2 v3 μ = some t) : Ct l yX11_isEnough mX11_isEnough [(3, v0), (0, v1), (0, v2), (0, v3)] μ ([(0, t)], μ, 0, 0) :=
  Ct_of (by decide +kernel) rfl rfl (Nat.le_of_ble_eq_true rfl) (fun _ _ _ => trivial) (gX11_isEnough_0 l h ⟨rfl, rfl⟩)
def mX11_isFewer : MI := (RX11, cX11_isFewer, 2, (some .boolean), "isFewer", 1, 22, fun _ _ _ => True)
theorem cwX11_isFewer : CWd yX11_isFewer mX11_isFewer 1 := ⟨ki_X11, kk_X11_isFewer, ⟨by decide, by decide⟩, rfl⟩
def dtX11_isFewer_0 : List (Nat × Instr × Nat) := [(0, .aload_n 0, 1), (1, .getfield 308, 3), (4, .ifCond .lt 39, 3), (7, .iload_n 1, 1), (8, .invokestatic 311, 3), (11, .aload_n 0, 1), (12, .getfield 308, 3), (15, .invokestatic 311, 3), (18, .if_icmp .lt 25, 3), (21, .iload_n 1, 1), (22, .invokestatic 311, 3), (25, .aload_n 0, 1), (26, .getfield 308, 3), (29, .invokestatic 311, 3), (32, .if_icmp .ne 15, 3), (35, .iload_n 1, 1), (36, .aload_n 0, 1), (37, .getfield 308, 3), (40, .if_icmp .ge 7, 3), (43, .iconst 1, 1), (44, .goto 4, 3), (47, .iconst 0, 1), (48, .ireturn, 1)]
theorem ddX11_isFewer_0 : (dtX11_isFewer_0.all fun e => decide (decode mX11_isFewer.2.1 e.1 = .ok (e.2.1, e.2.2))) = true := by decide +kernel
theorem daX11_isFewer_0 (j : Nat) {pc n : Nat} {i : Instr} (h : dtX11_isFewer_0[j]? = some (pc, i, n)) : decode mX11_isFewer.2.1 pc = .ok (i, n) := dec_of (c := mX11_isFewer.2.1) ddX11_isFewer_0 h
def fX11_isFewer (v0 v1 : Int) (μ : Mm) : Option Int :=
  chk (KD v0 = 11) (
  if μ v0 24 < 0 then
    some 1
  else
    (fX11_bits v1).bind fun r3 =>
    (fX11_bits (μ v0 24)).bind fun r4 =>
    if r3 < r4 then
      some 1
    else
      (fX11_bits v1).bind fun r6 =>
      (fX11_bits (μ v0 24)).bind fun r7 =>
      if r6 = r7 then
        if μ v0 24 ≤ v1 then
          some 0
        else
          some 1
      else
        some 0)
set_option maxRecDepth 20000 in
theorem gX11_isFewer_0 (l : Launch) {F : FI} {v0 v1 : Int} {μ : Mm} {t : Int} (h : fX11_isFewer v0 v1 μ = some t) (hK : F.1 = [(0, t)] ∧ F.2.1 = μ) : GM l mX11_isFewer F 0 0 0 [(0, (3, v0)), (1, (0, v1))] [] μ := by
  unfold fX11_isFewer at h
  refine GM_aload_n (pc := 0) 0 rfl (daX11_isFewer_0 0 rfl) rfl ?_
  obtain ⟨hc1, h⟩ := chk_inv h
  refine GM_getf (pc := 1) 11 24 0 24 kf_X11_308 (Nat.le_of_ble_eq_true rfl) (Nat.le_of_ble_eq_true rfl) rfl (daX11_isFewer_0 1 rfl) hc1 rfl ?_
  refine GM_if_lt (pc := 4) 43 (daX11_isFewer_0 2 rfl) rfl (fun c2 => ?_) (fun c2 => ?_)
  · skip
    rw [if_pos c2] at h
    refine GM_iconst (pc := 43) 1 (daX11_isFewer_0 19 rfl) rfl (R32_b rfl) ?_
    refine GM_goto (pc := 44) 48 (daX11_isFewer_0 20 rfl) rfl ?_
    cases h
    exact GM_zret (pc := 48) (daX11_isFewer_0 22 rfl) rfl (Or.inr rfl) hK
  · skip
    rw [if_neg c2] at h
    refine GM_iload_n (pc := 7) 1 rfl (daX11_isFewer_0 3 rfl) rfl ?_
    obtain ⟨r3, hf3, h⟩ := Option.bind_eq_some_iff.mp h
    refine GM_callS0 (pc := 8) [(0, v1)] (tX11_bits l hf3) cwX11_bits ks_X11_bits km_X11_311 ⟨Nat.le_of_ble_eq_true rfl, Nat.le_of_ble_eq_true rfl⟩ (Nat.le_of_ble_eq_true rfl) (Nat.le_of_ble_eq_true rfl) (daX11_isFewer_0 4 rfl) ?_
    refine GM_aload_n (pc := 11) 0 rfl (daX11_isFewer_0 5 rfl) rfl ?_
    refine GM_getf (pc := 12) 11 24 0 24 kf_X11_308 (Nat.le_of_ble_eq_true rfl) (Nat.le_of_ble_eq_true rfl) rfl (daX11_isFewer_0 6 rfl) hc1 rfl ?_
    obtain ⟨r4, hf4, h⟩ := Option.bind_eq_some_iff.mp h
    refine GM_callS0 (pc := 15) [(0, μ v0 24)] (tX11_bits l hf4) cwX11_bits ks_X11_bits km_X11_311 ⟨Nat.le_of_ble_eq_true rfl, Nat.le_of_ble_eq_true rfl⟩ (Nat.le_of_ble_eq_true rfl) (Nat.le_of_ble_eq_true rfl) (daX11_isFewer_0 7 rfl) ?_
    refine GM_icmp_lt (pc := 18) 43 (daX11_isFewer_0 8 rfl) rfl (fun c5 => ?_) (fun c5 => ?_)
    · skip
      rw [if_pos c5] at h
      refine GM_iconst (pc := 43) 1 (daX11_isFewer_0 19 rfl) rfl (R32_b rfl) ?_
      refine GM_goto (pc := 44) 48 (daX11_isFewer_0 20 rfl) rfl ?_
      cases h
      exact GM_zret (pc := 48) (daX11_isFewer_0 22 rfl) rfl (Or.inr rfl) hK
    · skip
      rw [if_neg c5] at h
      refine GM_iload_n (pc := 21) 1 rfl (daX11_isFewer_0 9 rfl) rfl ?_
      obtain ⟨r6, hf6, h⟩ := Option.bind_eq_some_iff.mp h
      refine GM_callS0 (pc := 22) [(0, v1)] (tX11_bits l hf6) cwX11_bits ks_X11_bits km_X11_311 ⟨Nat.le_of_ble_eq_true rfl, Nat.le_of_ble_eq_true rfl⟩ (Nat.le_of_ble_eq_true rfl) (Nat.le_of_ble_eq_true rfl) (daX11_isFewer_0 10 rfl) ?_
      refine GM_aload_n (pc := 25) 0 rfl (daX11_isFewer_0 11 rfl) rfl ?_
      refine GM_getf (pc := 26) 11 24 0 24 kf_X11_308 (Nat.le_of_ble_eq_true rfl) (Nat.le_of_ble_eq_true rfl) rfl (daX11_isFewer_0 12 rfl) hc1 rfl ?_
      obtain ⟨r7, hf7, h⟩ := Option.bind_eq_some_iff.mp h
      refine GM_callS0 (pc := 29) [(0, μ v0 24)] (tX11_bits l hf7) cwX11_bits ks_X11_bits km_X11_311 ⟨Nat.le_of_ble_eq_true rfl, Nat.le_of_ble_eq_true rfl⟩ (Nat.le_of_ble_eq_true rfl) (Nat.le_of_ble_eq_true rfl) (daX11_isFewer_0 13 rfl) ?_
      refine GM_icmp_ne (pc := 32) 47 (daX11_isFewer_0 14 rfl) rfl (fun c8 => ?_) (fun c8 => ?_)
      · skip
        rw [if_neg c8] at h
        refine GM_iconst (pc := 47) 0 (daX11_isFewer_0 21 rfl) rfl (R32_b rfl) ?_
        cases h
        exact GM_zret (pc := 48) (daX11_isFewer_0 22 rfl) rfl (Or.inl rfl) hK
      · skip
        rw [if_pos c8] at h
        refine GM_iload_n (pc := 35) 1 rfl (daX11_isFewer_0 15 rfl) rfl ?_
        refine GM_aload_n (pc := 36) 0 rfl (daX11_isFewer_0 16 rfl) rfl ?_
        refine GM_getf (pc := 37) 11 24 0 24 kf_X11_308 (Nat.le_of_ble_eq_true rfl) (Nat.le_of_ble_eq_true rfl) rfl (daX11_isFewer_0 17 rfl) hc1 rfl ?_
        refine GM_icmp_ge (pc := 40) 47 (daX11_isFewer_0 18 rfl) rfl (fun c9 => ?_) (fun c9 => ?_)
        · skip
          rw [if_pos c9] at h
          refine GM_iconst (pc := 47) 0 (daX11_isFewer_0 21 rfl) rfl (R32_b rfl) ?_
          cases h
          exact GM_zret (pc := 48) (daX11_isFewer_0 22 rfl) rfl (Or.inl rfl) hK
        · skip
          rw [if_neg c9] at h
          refine GM_iconst (pc := 43) 1 (daX11_isFewer_0 19 rfl) rfl (R32_b rfl) ?_
          refine GM_goto (pc := 44) 48 (daX11_isFewer_0 20 rfl) rfl ?_
          cases h
          exact GM_zret (pc := 48) (daX11_isFewer_0 22 rfl) rfl (Or.inr rfl) hK
theorem tX11_isFewer (l : Launch) {v0 v1 : Int} {μ : Mm} {t : Int} (h : fX11_isFewer v0 v1 μ = some t) : Ct l yX11_isFewer mX11_isFewer [(3, v0), (0, v1)] μ ([(0, t)], μ, 0, 0) :=
  Ct_of (by decide +kernel) rfl rfl (Nat.le_of_ble_eq_true rfl) (fun _ _ _ => trivial) (gX11_isFewer_0 l h ⟨rfl, rfl⟩)
def mX11_doubts : MI := (RX11, cX11_doubts, 9, none, "doubts", 7, 184, fun _ _ _ => True)
theorem cwX11_doubts : CWd yX11_doubts mX11_doubts 4 := ⟨ki_X11, kk_X11_doubts, ⟨by decide, by decide⟩, rfl⟩
def dtX11_doubts_0 : List (Nat × Instr × Nat) := [(0, .aload_n 0, 1), (1, .getfield 7, 3), (4, .iload_n 2, 1), (5, .iaload, 1), (6, .istore 5, 2), (8, .iconst 0, 1), (9, .istore 6, 2), (11, .iload 6, 2), (13, .iload 5, 2), (15, .if_icmp .ge 67, 3), (18, .aload_n 0, 1), (19, .getfield 44, 3), (22, .iload 6, 2), (24, .iconst 0, 1), (25, .iastore, 1), (26, .iconst 0, 1), (27, .istore 7, 2), (29, .iload 7, 2), (31, .iload 6, 2), (33, .if_icmp .ge 43, 3), (36, .aload_n 0, 1), (37, .getfield 44, 3), (40, .iload 6, 2), (42, .dup2, 1), (43, .iaload, 1), (44, .aload_n 0, 1), (45, .iload_n 1, 1), (46, .iload_n 2, 1), (47, .iload_n 3, 1), (48, .iload 4, 2), (50, .iload 7, 2), (52, .iload 6, 2), (54, .invokevirtual 270, 3), (57, .ifCond .eq 7, 3), (60, .iconst 0, 1), (61, .goto 7, 3), (64, .iconst 1, 1), (65, .iload 7, 2), (67, .ishl, 1), (68, .ior, 1), (69, .iastore, 1), (70, .iinc 7 1, 3), (73, .goto (-44), 3), (76, .iinc 6 1, 3), (79, .goto (-68), 3), (82, .aload_n 0, 1), (83, .getfield 7, 3), (86, .iload_n 2, 1), (87, .iconst 5, 1), (88, .iadd, 1), (89, .iaload, 1), (90, .istore 6, 2), (92, .iload 6, 2), (94, .aload_n 0, 1), (95, .getfield 7, 3), (98, .iload_n 2, 1), (99, .bipush 6, 2), (101, .iadd, 1), (102, .iaload, 1), (103, .if_icmp .gt 109, 3), (106, .iconst 0, 1), (107, .istore 7, 2), (109, .iconst 0, 1), (110, .istore 8, 2)]
theorem ddX11_doubts_0 : (dtX11_doubts_0.all fun e => decide (decode mX11_doubts.2.1 e.1 = .ok (e.2.1, e.2.2))) = true := by decide +kernel
theorem daX11_doubts_0 (j : Nat) {pc n : Nat} {i : Instr} (h : dtX11_doubts_0[j]? = some (pc, i, n)) : decode mX11_doubts.2.1 pc = .ok (i, n) := dec_of (c := mX11_doubts.2.1) ddX11_doubts_0 h
def dtX11_doubts_1 : List (Nat × Instr × Nat) := [(112, .iload 8, 2), (114, .iload 5, 2), (116, .if_icmp .ge 38, 3), (119, .iload 7, 2), (121, .aload_n 0, 1), (122, .iload_n 1, 1), (123, .iload_n 2, 1), (124, .iload_n 3, 1), (125, .iload 4, 2), (127, .iload 8, 2), (129, .iload 6, 2), (131, .invokevirtual 266, 3), (134, .ifCond .eq 7, 3), (137, .iconst 0, 1), (138, .goto 7, 3), (141, .iconst 1, 1), (142, .iload 8, 2), (144, .ishl, 1), (145, .ior, 1), (146, .istore 7, 2), (148, .iinc 8 1, 3), (151, .goto (-39), 3), (154, .iconst 0, 1), (155, .istore 8, 2), (157, .iload 8, 2), (159, .iconst 1, 1), (160, .iload 5, 2), (162, .ishl, 1), (163, .if_icmp .ge 37, 3), (166, .aload_n 0, 1), (167, .iload 8, 2), (169, .invokevirtual 314, 3), (172, .ifCond .eq 22, 3), (175, .aload_n 0, 1), (176, .iload 5, 2), (178, .iload 7, 2), (180, .iload 8, 2), (182, .invokevirtual 317, 3), (185, .ifCond .eq 9, 3), (188, .aload_n 0, 1), (189, .iload 8, 2), (191, .putfield 308, 3), (194, .iinc 8 1, 3), (197, .goto (-40), 3), (200, .aload_n 0, 1), (201, .iload_n 1, 1), (202, .iload 6, 2), (204, .invokevirtual 277, 3), (207, .istore 6, 2), (209, .goto (-117), 3), (212, .return_, 1)]
theorem ddX11_doubts_1 : (dtX11_doubts_1.all fun e => decide (decode mX11_doubts.2.1 e.1 = .ok (e.2.1, e.2.2))) = true := by decide +kernel
theorem daX11_doubts_1 (j : Nat) {pc n : Nat} {i : Instr} (h : dtX11_doubts_1[j]? = some (pc, i, n)) : decode mX11_doubts.2.1 pc = .ok (i, n) := dec_of (c := mX11_doubts.2.1) ddX11_doubts_1 h
def zX11_doubts_29 (l : Launch) (F : FI) (v0 v1 v2 v3 v4 v5 v6 : Int) (k n : Nat) : (Int × Mm) ⊕ Mm → Prop
  | .inl (v7, μ) => GM l mX11_doubts F k n 29 [(0, (3, v0)), (1, (0, v1)), (2, (0, v2)), (3, (0, v3)), (4, (0, v4)), (5, (0, v5)), (6, (0, v6)), (7, (0, v7))] [] μ
  | .inr μ => GM l mX11_doubts F k n 76 [(0, (3, v0)), (1, (0, v1)), (2, (0, v2)), (3, (0, v3)), (4, (0, v4)), (5, (0, v5)), (6, (0, v6))] [] μ
def sX11_doubts_29 (v0 v1 v2 v3 v4 v5 v6 : Int) : (Int × Mm) → Option ((Int × Mm) ⊕ Mm) := fun (v7, μ) =>
  if v6 ≤ v7 then
    some (.inr μ)
  else
    chk (KD v0 = 11) (
    chk (KD (μ v0 23) = 12 ∧ 0 ≤ v6 ∧ v6 < LN (μ v0 23)) (
    (fX11_areRight v0 v1 v2 v3 v4 v7 v6 μ).bind fun r4 =>
    if r4 = 0 then
      lm (mst μ (μ v0 23) v6 (ior (μ (μ v0 23) v6) (ishl 1 v7))) fun μ6 =>
      some (.inl (w32 (v7 + 1), μ6))
    else
      lm (mst μ (μ v0 23) v6 (ior (μ (μ v0 23) v6) 0)) fun μ7 =>
      some (.inl (w32 (v7 + 1), μ7))))
def zX11_doubts_11 (l : Launch) (F : FI) (v0 v1 v2 v3 v4 v5 : Int) (k n : Nat) : (Int × Mm) ⊕ Mm → Prop
  | .inl (v6, μ) => GM l mX11_doubts F k n 11 [(0, (3, v0)), (1, (0, v1)), (2, (0, v2)), (3, (0, v3)), (4, (0, v4)), (5, (0, v5)), (6, (0, v6))] [] μ
  | .inr μ => GM l mX11_doubts F k n 82 [(0, (3, v0)), (1, (0, v1)), (2, (0, v2)), (3, (0, v3)), (4, (0, v4)), (5, (0, v5))] [] μ
def sX11_doubts_11 (v0 v1 v2 v3 v4 v5 : Int) : (Int × Mm) → Option ((Int × Mm) ⊕ Mm) := fun (v6, μ) =>
  if v5 ≤ v6 then
    some (.inr μ)
  else
    chk (KD v0 = 11) (
    chk (KD (μ v0 23) = 12 ∧ 0 ≤ v6 ∧ v6 < LN (μ v0 23)) (
    lm (mst μ (μ v0 23) v6 0) fun μ11 =>
    (lop (sX11_doubts_29 v0 v1 v2 v3 v4 v5 v6) FU (0, μ11)).bind fun μ_13 =>
      some (.inl (w32 (v6 + 1), μ_13))))
def zX11_doubts_112 (l : Launch) (F : FI) (v0 v1 v2 v3 v4 v5 v6 : Int) (μ : Mm) (k n : Nat) : (Int × Int) ⊕ Int → Prop
  | .inl (v7, v8) => GM l mX11_doubts F k n 112 [(0, (3, v0)), (1, (0, v1)), (2, (0, v2)), (3, (0, v3)), (4, (0, v4)), (5, (0, v5)), (6, (0, v6)), (7, (0, v7)), (8, (0, v8))] [] μ
  | .inr v7 => GM l mX11_doubts F k n 154 [(0, (3, v0)), (1, (0, v1)), (2, (0, v2)), (3, (0, v3)), (4, (0, v4)), (5, (0, v5)), (6, (0, v6)), (7, (0, v7))] [] μ
def sX11_doubts_112 (v0 v1 v2 v3 v4 v5 v6 : Int) (μ : Mm) : (Int × Int) → Option ((Int × Int) ⊕ Int) := fun (v7, v8) =>
  if v5 ≤ v8 then
    some (.inr v7)
  else
    chk (KD v0 = 11) (
    (fX11_isMarked v0 v1 v2 v3 v4 v8 v6 μ).bind fun r16 =>
    if r16 = 0 then
      some (.inl (ior v7 (ishl 1 v8), w32 (v8 + 1)))
    else
      some (.inl (ior v7 0, w32 (v8 + 1))))
def zX11_doubts_157 (l : Launch) (F : FI) (v0 v1 v2 v3 v4 v5 v6 v7 : Int) (k n : Nat) : (Int × Mm) ⊕ Mm → Prop
  | .inl (v8, μ) => GM l mX11_doubts F k n 157 [(0, (3, v0)), (1, (0, v1)), (2, (0, v2)), (3, (0, v3)), (4, (0, v4)), (5, (0, v5)), (6, (0, v6)), (7, (0, v7)), (8, (0, v8))] [] μ
  | .inr μ => GM l mX11_doubts F k n 200 [(0, (3, v0)), (1, (0, v1)), (2, (0, v2)), (3, (0, v3)), (4, (0, v4)), (5, (0, v5)), (6, (0, v6))] [] μ
def sX11_doubts_157 (v0 v1 v2 v3 v4 v5 v6 v7 : Int) : (Int × Mm) → Option ((Int × Mm) ⊕ Mm) := fun (v8, μ) =>
  if ishl 1 v5 ≤ v8 then
    some (.inr μ)
  else
    chk (KD v0 = 11) (
    (fX11_isFewer v0 v8 μ).bind fun r20 =>
    if r20 = 0 then
      some (.inl (w32 (v8 + 1), μ))
    else
      (fX11_isEnough v0 v5 v7 v8 μ).bind fun r22 =>
      if r22 = 0 then
        some (.inl (w32 (v8 + 1), μ))
      else
        lm (mst μ v0 24 v8) fun μ24 =>
        some (.inl (w32 (v8 + 1), μ24)))
def zX11_doubts_92 (l : Launch) (F : FI) (v0 v1 v2 v3 v4 v5 : Int) (k n : Nat) : (Int × Mm) ⊕ Mm → Prop
  | .inl (v6, μ) => GM l mX11_doubts F k n 92 [(0, (3, v0)), (1, (0, v1)), (2, (0, v2)), (3, (0, v3)), (4, (0, v4)), (5, (0, v5)), (6, (0, v6))] [] μ
  | .inr μ => GM l mX11_doubts F k n 212 [] [] μ
def sX11_doubts_92 (v0 v1 v2 v3 v4 v5 : Int) : (Int × Mm) → Option ((Int × Mm) ⊕ Mm) := fun (v6, μ) =>
  chk (KD v0 = 11) (
  chk (KD (μ v0 0) = 12 ∧ 0 ≤ w32 (v2 + 6) ∧ w32 (v2 + 6) < LN (μ v0 0)) (
  if μ (μ v0 0) (w32 (v2 + 6)) < v6 then
    some (.inr μ)
  else
    (lop (sX11_doubts_112 v0 v1 v2 v3 v4 v5 v6 μ) FU (0, 0)).bind fun v7_29 =>
      (lop (sX11_doubts_157 v0 v1 v2 v3 v4 v5 v6 v7_29) FU (0, μ)).bind fun μ_31 =>
        (fX11_nextYear v0 v1 v6 μ_31).bind fun r32 =>
        some (.inl (r32, μ_31))))
def fX11_doubts (v0 v1 v2 v3 v4 : Int) (μ : Mm) : Option Mm :=
  chk (KD v0 = 11) (
  chk (KD (μ v0 0) = 12 ∧ 0 ≤ v2 ∧ v2 < LN (μ v0 0)) (
  (lop (sX11_doubts_11 v0 v1 v2 v3 v4 (μ (μ v0 0) v2)) FU (0, μ)).bind fun μ_36 =>
    chk (KD (μ_36 v0 0) = 12 ∧ 0 ≤ w32 (v2 + 5) ∧ w32 (v2 + 5) < LN (μ_36 v0 0)) (
    lt (μ_36 (μ_36 v0 0) (w32 (v2 + 5))) fun y38 =>
    (lop (sX11_doubts_92 v0 v1 v2 v3 v4 (μ (μ v0 0) v2)) FU (y38, μ_36)).bind fun μ_40 =>
      some μ_40)))
set_option maxRecDepth 20000 in
theorem qX11_doubts_29 (l : Launch) (F : FI) (v0 v1 v2 v3 v4 v5 v6 : Int) (k n : Nat) : ∀ (q : (Int × Mm)) (t : ((Int × Mm) ⊕ Mm)), sX11_doubts_29 v0 v1 v2 v3 v4 v5 v6 q = some t → zX11_doubts_29 l F v0 v1 v2 v3 v4 v5 v6 k n t → zX11_doubts_29 l F v0 v1 v2 v3 v4 v5 v6 k n (.inl q) := by
  intro q t h hK
  obtain ⟨v7, μ⟩ := q
  unfold sX11_doubts_29 at h
  try dsimp only at h
  show GM l mX11_doubts F k n 29 [(0, (3, v0)), (1, (0, v1)), (2, (0, v2)), (3, (0, v3)), (4, (0, v4)), (5, (0, v5)), (6, (0, v6)), (7, (0, v7))] [] μ
  refine GM_iload (pc := 29) 7 rfl (daX11_doubts_0 17 rfl) ?_
  refine GM_iload (pc := 31) 6 rfl (daX11_doubts_0 18 rfl) ?_
  refine GM_icmp_ge (pc := 33) 76 (daX11_doubts_0 19 rfl) rfl (fun c1 => ?_) (fun c1 => ?_)
  · skip
    rw [if_pos c1] at h
    refine GM_pick [0, 1, 2, 3, 4, 5, 6] rfl ?_
    cases h
    exact hK
  · skip
    rw [if_neg c1] at h
    refine GM_aload_n (pc := 36) 0 rfl (daX11_doubts_0 20 rfl) rfl ?_
    obtain ⟨hc2, h⟩ := chk_inv h
    refine GM_getf (pc := 37) 11 23 3 23 kf_X11_44 (Nat.le_of_ble_eq_true rfl) (Nat.le_of_ble_eq_true rfl) rfl (daX11_doubts_0 21 rfl) hc2 rfl ?_
    refine GM_iload (pc := 40) 6 rfl (daX11_doubts_0 22 rfl) ?_
    refine GM_dup2 (pc := 42) (daX11_doubts_0 23 rfl) (Nat.ne_of_beq_eq_false rfl) (Nat.ne_of_beq_eq_false rfl) ?_
    obtain ⟨hc3, h⟩ := chk_inv h
    refine GM_iald (pc := 43) (daX11_doubts_0 24 rfl) hc3.1 hc3.2.1 hc3.2.2 ?_
    refine GM_aload_n (pc := 44) 0 rfl (daX11_doubts_0 25 rfl) rfl ?_
    refine GM_iload_n (pc := 45) 1 rfl (daX11_doubts_0 26 rfl) rfl ?_
    refine GM_iload_n (pc := 46) 2 rfl (daX11_doubts_0 27 rfl) rfl ?_
    refine GM_iload_n (pc := 47) 3 rfl (daX11_doubts_0 28 rfl) rfl ?_
    refine GM_iload (pc := 48) 4 rfl (daX11_doubts_0 29 rfl) ?_
    refine GM_iload (pc := 50) 7 rfl (daX11_doubts_0 30 rfl) ?_
    refine GM_iload (pc := 52) 6 rfl (daX11_doubts_0 31 rfl) ?_
    obtain ⟨r4, hf4, h⟩ := Option.bind_eq_some_iff.mp h
    refine GM_callV0 (pc := 54) [(0, v1), (0, v2), (0, v3), (0, v4), (0, v7), (0, v6)] (tX11_areRight l hf4) cwX11_areRight 11 (Nat.le_of_ble_eq_true rfl) rfl kv_X11_areRight ke_X11_areRight km_X11_270 hc2 ⟨Nat.le_of_ble_eq_true rfl, Nat.le_of_ble_eq_true rfl⟩ (Nat.le_of_ble_eq_true rfl) (Nat.le_of_ble_eq_true rfl) (daX11_doubts_0 32 rfl) ?_
    refine GM_if_eq (pc := 57) 64 (daX11_doubts_0 33 rfl) rfl (fun c5 => ?_) (fun c5 => ?_)
    · skip
      rw [if_pos c5] at h
      refine GM_iconst (pc := 64) 1 (daX11_doubts_0 36 rfl) rfl (R32_b rfl) ?_
      refine GM_iload (pc := 65) 7 rfl (daX11_doubts_0 37 rfl) ?_
      refine GM_ishl (pc := 67) (daX11_doubts_0 38 rfl) ?_
      refine GM_ior (pc := 68) (daX11_doubts_0 39 rfl) ?_
      obtain ⟨μ6, hμ6, h⟩ := lm_inv h
      refine GM_iast (pc := 69) (daX11_doubts_0 40 rfl) hc3.1 hc3.2.1 hc3.2.2 ?_
      refine GM_mem hμ6 ?_
      refine GM_iinc (L' := [(7, (0, w32 (v7 + 1))), (0, (3, v0)), (1, (0, v1)), (2, (0, v2)), (3, (0, v3)), (4, (0, v4)), (5, (0, v5)), (6, (0, v6))]) (pc := 70) 7 rfl (daX11_doubts_0 41 rfl) (Nat.le_of_ble_eq_true rfl) rfl ?_
      refine GM_goto (pc := 73) 29 (daX11_doubts_0 42 rfl) rfl ?_
      refine GM_pick [1, 2, 3, 4, 5, 6, 7, 0] rfl ?_
      cases h
      exact hK
    · skip
      rw [if_neg c5] at h
      refine GM_iconst (pc := 60) 0 (daX11_doubts_0 34 rfl) rfl (R32_b rfl) ?_
      refine GM_goto (pc := 61) 68 (daX11_doubts_0 35 rfl) rfl ?_
      refine GM_ior (pc := 68) (daX11_doubts_0 39 rfl) ?_
      obtain ⟨μ7, hμ7, h⟩ := lm_inv h
      refine GM_iast (pc := 69) (daX11_doubts_0 40 rfl) hc3.1 hc3.2.1 hc3.2.2 ?_
      refine GM_mem hμ7 ?_
      refine GM_iinc (L' := [(7, (0, w32 (v7 + 1))), (0, (3, v0)), (1, (0, v1)), (2, (0, v2)), (3, (0, v3)), (4, (0, v4)), (5, (0, v5)), (6, (0, v6))]) (pc := 70) 7 rfl (daX11_doubts_0 41 rfl) (Nat.le_of_ble_eq_true rfl) rfl ?_
      refine GM_goto (pc := 73) 29 (daX11_doubts_0 42 rfl) rfl ?_
      refine GM_pick [1, 2, 3, 4, 5, 6, 7, 0] rfl ?_
      cases h
      exact hK
set_option maxRecDepth 20000 in
theorem qX11_doubts_11 (l : Launch) (F : FI) (v0 v1 v2 v3 v4 v5 : Int) (k n : Nat) : ∀ (q : (Int × Mm)) (t : ((Int × Mm) ⊕ Mm)), sX11_doubts_11 v0 v1 v2 v3 v4 v5 q = some t → zX11_doubts_11 l F v0 v1 v2 v3 v4 v5 k n t → zX11_doubts_11 l F v0 v1 v2 v3 v4 v5 k n (.inl q) := by
  intro q t h hK
  obtain ⟨v6, μ⟩ := q
  unfold sX11_doubts_11 at h
  try dsimp only at h
  show GM l mX11_doubts F k n 11 [(0, (3, v0)), (1, (0, v1)), (2, (0, v2)), (3, (0, v3)), (4, (0, v4)), (5, (0, v5)), (6, (0, v6))] [] μ
  refine GM_iload (pc := 11) 6 rfl (daX11_doubts_0 7 rfl) ?_
  refine GM_iload (pc := 13) 5 rfl (daX11_doubts_0 8 rfl) ?_
  refine GM_icmp_ge (pc := 15) 82 (daX11_doubts_0 9 rfl) rfl (fun c8 => ?_) (fun c8 => ?_)
  · skip
    rw [if_pos c8] at h
    refine GM_pick [0, 1, 2, 3, 4, 5] rfl ?_
    cases h
    exact hK
  · skip
    rw [if_neg c8] at h
    refine GM_aload_n (pc := 18) 0 rfl (daX11_doubts_0 10 rfl) rfl ?_
    obtain ⟨hc9, h⟩ := chk_inv h
    refine GM_getf (pc := 19) 11 23 3 23 kf_X11_44 (Nat.le_of_ble_eq_true rfl) (Nat.le_of_ble_eq_true rfl) rfl (daX11_doubts_0 11 rfl) hc9 rfl ?_
    refine GM_iload (pc := 22) 6 rfl (daX11_doubts_0 12 rfl) ?_
    refine GM_iconst (pc := 24) 0 (daX11_doubts_0 13 rfl) rfl (R32_b rfl) ?_
    obtain ⟨hc10, h⟩ := chk_inv h
    obtain ⟨μ11, hμ11, h⟩ := lm_inv h
    refine GM_iast (pc := 25) (daX11_doubts_0 14 rfl) hc10.1 hc10.2.1 hc10.2.2 ?_
    refine GM_mem hμ11 ?_
    refine GM_iconst (pc := 26) 0 (daX11_doubts_0 15 rfl) rfl (R32_b rfl) ?_
    refine GM_istore (L' := [(7, (0, 0)), (0, (3, v0)), (1, (0, v1)), (2, (0, v2)), (3, (0, v3)), (4, (0, v4)), (5, (0, v5)), (6, (0, v6))]) (pc := 27) (daX11_doubts_0 16 rfl) (Nat.le_of_ble_eq_true rfl) rfl ?_
    refine GM_pick [1, 2, 3, 4, 5, 6, 7, 0] rfl ?_
    obtain ⟨x12, hqx12, h⟩ := Option.bind_eq_some_iff.mp h
    refine lop_ind (zX11_doubts_29 l F v0 v1 v2 v3 v4 v5 v6 k n) (qX11_doubts_29 l F v0 v1 v2 v3 v4 v5 v6 k n) FU _ x12 hqx12 ?_
    obtain ⟨μ_13, hqq⟩ : ∃ z, z = x12 := ⟨x12, rfl⟩
    subst hqq
    show GM l mX11_doubts F k n 76 [(0, (3, v0)), (1, (0, v1)), (2, (0, v2)), (3, (0, v3)), (4, (0, v4)), (5, (0, v5)), (6, (0, v6))] [] μ_13
    refine GM_iinc (L' := [(6, (0, w32 (v6 + 1))), (0, (3, v0)), (1, (0, v1)), (2, (0, v2)), (3, (0, v3)), (4, (0, v4)), (5, (0, v5))]) (pc := 76) 6 rfl (daX11_doubts_0 43 rfl) (Nat.le_of_ble_eq_true rfl) rfl ?_
    refine GM_goto (pc := 79) 11 (daX11_doubts_0 44 rfl) rfl ?_
    refine GM_pick [1, 2, 3, 4, 5, 6, 0] rfl ?_
    cases h
    exact hK
set_option maxRecDepth 20000 in
theorem qX11_doubts_112 (l : Launch) (F : FI) (v0 v1 v2 v3 v4 v5 v6 : Int) (μ : Mm) (k n : Nat) : ∀ (q : (Int × Int)) (t : ((Int × Int) ⊕ Int)), sX11_doubts_112 v0 v1 v2 v3 v4 v5 v6 μ q = some t → zX11_doubts_112 l F v0 v1 v2 v3 v4 v5 v6 μ k n t → zX11_doubts_112 l F v0 v1 v2 v3 v4 v5 v6 μ k n (.inl q) := by
  intro q t h hK
  obtain ⟨v7, v8⟩ := q
  unfold sX11_doubts_112 at h
  try dsimp only at h
  show GM l mX11_doubts F k n 112 [(0, (3, v0)), (1, (0, v1)), (2, (0, v2)), (3, (0, v3)), (4, (0, v4)), (5, (0, v5)), (6, (0, v6)), (7, (0, v7)), (8, (0, v8))] [] μ
  refine GM_iload (pc := 112) 8 rfl (daX11_doubts_1 0 rfl) ?_
  refine GM_iload (pc := 114) 5 rfl (daX11_doubts_1 1 rfl) ?_
  refine GM_icmp_ge (pc := 116) 154 (daX11_doubts_1 2 rfl) rfl (fun c14 => ?_) (fun c14 => ?_)
  · skip
    rw [if_pos c14] at h
    refine GM_pick [0, 1, 2, 3, 4, 5, 6, 7] rfl ?_
    cases h
    exact hK
  · skip
    rw [if_neg c14] at h
    refine GM_iload (pc := 119) 7 rfl (daX11_doubts_1 3 rfl) ?_
    refine GM_aload_n (pc := 121) 0 rfl (daX11_doubts_1 4 rfl) rfl ?_
    refine GM_iload_n (pc := 122) 1 rfl (daX11_doubts_1 5 rfl) rfl ?_
    refine GM_iload_n (pc := 123) 2 rfl (daX11_doubts_1 6 rfl) rfl ?_
    refine GM_iload_n (pc := 124) 3 rfl (daX11_doubts_1 7 rfl) rfl ?_
    refine GM_iload (pc := 125) 4 rfl (daX11_doubts_1 8 rfl) ?_
    refine GM_iload (pc := 127) 8 rfl (daX11_doubts_1 9 rfl) ?_
    refine GM_iload (pc := 129) 6 rfl (daX11_doubts_1 10 rfl) ?_
    obtain ⟨hc15, h⟩ := chk_inv h
    obtain ⟨r16, hf16, h⟩ := Option.bind_eq_some_iff.mp h
    refine GM_callV0 (pc := 131) [(0, v1), (0, v2), (0, v3), (0, v4), (0, v8), (0, v6)] (tX11_isMarked l hf16) cwX11_isMarked 11 (Nat.le_of_ble_eq_true rfl) rfl kv_X11_isMarked ke_X11_isMarked km_X11_266 hc15 ⟨Nat.le_of_ble_eq_true rfl, Nat.le_of_ble_eq_true rfl⟩ (Nat.le_of_ble_eq_true rfl) (Nat.le_of_ble_eq_true rfl) (daX11_doubts_1 11 rfl) ?_
    refine GM_if_eq (pc := 134) 141 (daX11_doubts_1 12 rfl) rfl (fun c17 => ?_) (fun c17 => ?_)
    · skip
      rw [if_pos c17] at h
      refine GM_iconst (pc := 141) 1 (daX11_doubts_1 15 rfl) rfl (R32_b rfl) ?_
      refine GM_iload (pc := 142) 8 rfl (daX11_doubts_1 16 rfl) ?_
      refine GM_ishl (pc := 144) (daX11_doubts_1 17 rfl) ?_
      refine GM_ior (pc := 145) (daX11_doubts_1 18 rfl) ?_
      refine GM_istore (L' := [(7, (0, ior v7 (ishl 1 v8))), (0, (3, v0)), (1, (0, v1)), (2, (0, v2)), (3, (0, v3)), (4, (0, v4)), (5, (0, v5)), (6, (0, v6)), (8, (0, v8))]) (pc := 146) (daX11_doubts_1 19 rfl) (Nat.le_of_ble_eq_true rfl) rfl ?_
      refine GM_iinc (L' := [(8, (0, w32 (v8 + 1))), (7, (0, ior v7 (ishl 1 v8))), (0, (3, v0)), (1, (0, v1)), (2, (0, v2)), (3, (0, v3)), (4, (0, v4)), (5, (0, v5)), (6, (0, v6))]) (pc := 148) 8 rfl (daX11_doubts_1 20 rfl) (Nat.le_of_ble_eq_true rfl) rfl ?_
      refine GM_goto (pc := 151) 112 (daX11_doubts_1 21 rfl) rfl ?_
      refine GM_pick [2, 3, 4, 5, 6, 7, 8, 1, 0] rfl ?_
      cases h
      exact hK
    · skip
      rw [if_neg c17] at h
      refine GM_iconst (pc := 137) 0 (daX11_doubts_1 13 rfl) rfl (R32_b rfl) ?_
      refine GM_goto (pc := 138) 145 (daX11_doubts_1 14 rfl) rfl ?_
      refine GM_ior (pc := 145) (daX11_doubts_1 18 rfl) ?_
      refine GM_istore (L' := [(7, (0, ior v7 0)), (0, (3, v0)), (1, (0, v1)), (2, (0, v2)), (3, (0, v3)), (4, (0, v4)), (5, (0, v5)), (6, (0, v6)), (8, (0, v8))]) (pc := 146) (daX11_doubts_1 19 rfl) (Nat.le_of_ble_eq_true rfl) rfl ?_
      refine GM_iinc (L' := [(8, (0, w32 (v8 + 1))), (7, (0, ior v7 0)), (0, (3, v0)), (1, (0, v1)), (2, (0, v2)), (3, (0, v3)), (4, (0, v4)), (5, (0, v5)), (6, (0, v6))]) (pc := 148) 8 rfl (daX11_doubts_1 20 rfl) (Nat.le_of_ble_eq_true rfl) rfl ?_
      refine GM_goto (pc := 151) 112 (daX11_doubts_1 21 rfl) rfl ?_
      refine GM_pick [2, 3, 4, 5, 6, 7, 8, 1, 0] rfl ?_
      cases h
      exact hK
set_option maxRecDepth 20000 in
theorem qX11_doubts_157 (l : Launch) (F : FI) (v0 v1 v2 v3 v4 v5 v6 v7 : Int) (k n : Nat) : ∀ (q : (Int × Mm)) (t : ((Int × Mm) ⊕ Mm)), sX11_doubts_157 v0 v1 v2 v3 v4 v5 v6 v7 q = some t → zX11_doubts_157 l F v0 v1 v2 v3 v4 v5 v6 v7 k n t → zX11_doubts_157 l F v0 v1 v2 v3 v4 v5 v6 v7 k n (.inl q) := by
  intro q t h hK
  obtain ⟨v8, μ⟩ := q
  unfold sX11_doubts_157 at h
  try dsimp only at h
  show GM l mX11_doubts F k n 157 [(0, (3, v0)), (1, (0, v1)), (2, (0, v2)), (3, (0, v3)), (4, (0, v4)), (5, (0, v5)), (6, (0, v6)), (7, (0, v7)), (8, (0, v8))] [] μ
  refine GM_iload (pc := 157) 8 rfl (daX11_doubts_1 24 rfl) ?_
  refine GM_iconst (pc := 159) 1 (daX11_doubts_1 25 rfl) rfl (R32_b rfl) ?_
  refine GM_iload (pc := 160) 5 rfl (daX11_doubts_1 26 rfl) ?_
  refine GM_ishl (pc := 162) (daX11_doubts_1 27 rfl) ?_
  refine GM_icmp_ge (pc := 163) 200 (daX11_doubts_1 28 rfl) rfl (fun c18 => ?_) (fun c18 => ?_)
  · skip
    rw [if_pos c18] at h
    refine GM_pick [0, 1, 2, 3, 4, 5, 6] rfl ?_
    cases h
    exact hK
  · skip
    rw [if_neg c18] at h
    refine GM_aload_n (pc := 166) 0 rfl (daX11_doubts_1 29 rfl) rfl ?_
    refine GM_iload (pc := 167) 8 rfl (daX11_doubts_1 30 rfl) ?_
    obtain ⟨hc19, h⟩ := chk_inv h
    obtain ⟨r20, hf20, h⟩ := Option.bind_eq_some_iff.mp h
    refine GM_callV0 (pc := 169) [(0, v8)] (tX11_isFewer l hf20) cwX11_isFewer 11 (Nat.le_of_ble_eq_true rfl) rfl kv_X11_isFewer ke_X11_isFewer km_X11_314 hc19 ⟨Nat.le_of_ble_eq_true rfl, Nat.le_of_ble_eq_true rfl⟩ (Nat.le_of_ble_eq_true rfl) (Nat.le_of_ble_eq_true rfl) (daX11_doubts_1 31 rfl) ?_
    refine GM_if_eq (pc := 172) 194 (daX11_doubts_1 32 rfl) rfl (fun c21 => ?_) (fun c21 => ?_)
    · skip
      rw [if_pos c21] at h
      refine GM_iinc (L' := [(8, (0, w32 (v8 + 1))), (0, (3, v0)), (1, (0, v1)), (2, (0, v2)), (3, (0, v3)), (4, (0, v4)), (5, (0, v5)), (6, (0, v6)), (7, (0, v7))]) (pc := 194) 8 rfl (daX11_doubts_1 42 rfl) (Nat.le_of_ble_eq_true rfl) rfl ?_
      refine GM_goto (pc := 197) 157 (daX11_doubts_1 43 rfl) rfl ?_
      refine GM_pick [1, 2, 3, 4, 5, 6, 7, 8, 0] rfl ?_
      cases h
      exact hK
    · skip
      rw [if_neg c21] at h
      refine GM_aload_n (pc := 175) 0 rfl (daX11_doubts_1 33 rfl) rfl ?_
      refine GM_iload (pc := 176) 5 rfl (daX11_doubts_1 34 rfl) ?_
      refine GM_iload (pc := 178) 7 rfl (daX11_doubts_1 35 rfl) ?_
      refine GM_iload (pc := 180) 8 rfl (daX11_doubts_1 36 rfl) ?_
      obtain ⟨r22, hf22, h⟩ := Option.bind_eq_some_iff.mp h
      refine GM_callV0 (pc := 182) [(0, v5), (0, v7), (0, v8)] (tX11_isEnough l hf22) cwX11_isEnough 11 (Nat.le_of_ble_eq_true rfl) rfl kv_X11_isEnough ke_X11_isEnough km_X11_317 hc19 ⟨Nat.le_of_ble_eq_true rfl, Nat.le_of_ble_eq_true rfl⟩ (Nat.le_of_ble_eq_true rfl) (Nat.le_of_ble_eq_true rfl) (daX11_doubts_1 37 rfl) ?_
      refine GM_if_eq (pc := 185) 194 (daX11_doubts_1 38 rfl) rfl (fun c23 => ?_) (fun c23 => ?_)
      · skip
        rw [if_pos c23] at h
        refine GM_iinc (L' := [(8, (0, w32 (v8 + 1))), (0, (3, v0)), (1, (0, v1)), (2, (0, v2)), (3, (0, v3)), (4, (0, v4)), (5, (0, v5)), (6, (0, v6)), (7, (0, v7))]) (pc := 194) 8 rfl (daX11_doubts_1 42 rfl) (Nat.le_of_ble_eq_true rfl) rfl ?_
        refine GM_goto (pc := 197) 157 (daX11_doubts_1 43 rfl) rfl ?_
        refine GM_pick [1, 2, 3, 4, 5, 6, 7, 8, 0] rfl ?_
        cases h
        exact hK
      · skip
        rw [if_neg c23] at h
        refine GM_aload_n (pc := 188) 0 rfl (daX11_doubts_1 39 rfl) rfl ?_
        refine GM_iload (pc := 189) 8 rfl (daX11_doubts_1 40 rfl) ?_
        obtain ⟨μ24, hμ24, h⟩ := lm_inv h
        refine GM_putf (pc := 191) 11 24 0 kf_X11_308 (Nat.le_of_ble_eq_true rfl) (Nat.le_of_ble_eq_true rfl) rfl rfl (daX11_doubts_1 41 rfl) hc19 (fun q => absurd q (by decide)) ?_
        refine GM_mem hμ24 ?_
        refine GM_iinc (L' := [(8, (0, w32 (v8 + 1))), (0, (3, v0)), (1, (0, v1)), (2, (0, v2)), (3, (0, v3)), (4, (0, v4)), (5, (0, v5)), (6, (0, v6)), (7, (0, v7))]) (pc := 194) 8 rfl (daX11_doubts_1 42 rfl) (Nat.le_of_ble_eq_true rfl) rfl ?_
        refine GM_goto (pc := 197) 157 (daX11_doubts_1 43 rfl) rfl ?_
        refine GM_pick [1, 2, 3, 4, 5, 6, 7, 8, 0] rfl ?_
        cases h
        exact hK
set_option maxRecDepth 20000 in
theorem qX11_doubts_92 (l : Launch) (F : FI) (v0 v1 v2 v3 v4 v5 : Int) (k n : Nat) : ∀ (q : (Int × Mm)) (t : ((Int × Mm) ⊕ Mm)), sX11_doubts_92 v0 v1 v2 v3 v4 v5 q = some t → zX11_doubts_92 l F v0 v1 v2 v3 v4 v5 k n t → zX11_doubts_92 l F v0 v1 v2 v3 v4 v5 k n (.inl q) := by
  intro q t h hK
  obtain ⟨v6, μ⟩ := q
  unfold sX11_doubts_92 at h
  try dsimp only at h
  show GM l mX11_doubts F k n 92 [(0, (3, v0)), (1, (0, v1)), (2, (0, v2)), (3, (0, v3)), (4, (0, v4)), (5, (0, v5)), (6, (0, v6))] [] μ
  refine GM_iload (pc := 92) 6 rfl (daX11_doubts_0 52 rfl) ?_
  refine GM_aload_n (pc := 94) 0 rfl (daX11_doubts_0 53 rfl) rfl ?_
  obtain ⟨hc25, h⟩ := chk_inv h
  refine GM_getf (pc := 95) 11 0 3 0 kf_X11_7 (Nat.le_of_ble_eq_true rfl) (Nat.le_of_ble_eq_true rfl) rfl (daX11_doubts_0 54 rfl) hc25 rfl ?_
  refine GM_iload_n (pc := 98) 2 rfl (daX11_doubts_0 55 rfl) rfl ?_
  refine GM_bipush (pc := 99) 6 (daX11_doubts_0 56 rfl) rfl (R32_b rfl) ?_
  refine GM_iadd (pc := 101) (daX11_doubts_0 57 rfl) ?_
  obtain ⟨hc26, h⟩ := chk_inv h
  refine GM_iald (pc := 102) (daX11_doubts_0 58 rfl) hc26.1 hc26.2.1 hc26.2.2 ?_
  refine GM_icmp_gt (pc := 103) 212 (daX11_doubts_0 59 rfl) rfl (fun c27 => ?_) (fun c27 => ?_)
  · skip
    rw [if_pos c27] at h
    refine GM_pick [] rfl ?_
    cases h
    exact hK
  · skip
    rw [if_neg c27] at h
    refine GM_iconst (pc := 106) 0 (daX11_doubts_0 60 rfl) rfl (R32_b rfl) ?_
    refine GM_istore (L' := [(7, (0, 0)), (0, (3, v0)), (1, (0, v1)), (2, (0, v2)), (3, (0, v3)), (4, (0, v4)), (5, (0, v5)), (6, (0, v6))]) (pc := 107) (daX11_doubts_0 61 rfl) (Nat.le_of_ble_eq_true rfl) rfl ?_
    refine GM_iconst (pc := 109) 0 (daX11_doubts_0 62 rfl) rfl (R32_b rfl) ?_
    refine GM_istore (L' := [(8, (0, 0)), (7, (0, 0)), (0, (3, v0)), (1, (0, v1)), (2, (0, v2)), (3, (0, v3)), (4, (0, v4)), (5, (0, v5)), (6, (0, v6))]) (pc := 110) (daX11_doubts_0 63 rfl) (Nat.le_of_ble_eq_true rfl) rfl ?_
    refine GM_pick [2, 3, 4, 5, 6, 7, 8, 1, 0] rfl ?_
    obtain ⟨x28, hqx28, h⟩ := Option.bind_eq_some_iff.mp h
    refine lop_ind (zX11_doubts_112 l F v0 v1 v2 v3 v4 v5 v6 μ k n) (qX11_doubts_112 l F v0 v1 v2 v3 v4 v5 v6 μ k n) FU _ x28 hqx28 ?_
    obtain ⟨v7_29, hqq⟩ : ∃ z, z = x28 := ⟨x28, rfl⟩
    subst hqq
    show GM l mX11_doubts F k n 154 [(0, (3, v0)), (1, (0, v1)), (2, (0, v2)), (3, (0, v3)), (4, (0, v4)), (5, (0, v5)), (6, (0, v6)), (7, (0, v7_29))] [] μ
    refine GM_iconst (pc := 154) 0 (daX11_doubts_1 22 rfl) rfl (R32_b rfl) ?_
    refine GM_istore (L' := [(8, (0, 0)), (0, (3, v0)), (1, (0, v1)), (2, (0, v2)), (3, (0, v3)), (4, (0, v4)), (5, (0, v5)), (6, (0, v6)), (7, (0, v7_29))]) (pc := 155) (daX11_doubts_1 23 rfl) (Nat.le_of_ble_eq_true rfl) rfl ?_
    refine GM_pick [1, 2, 3, 4, 5, 6, 7, 8, 0] rfl ?_
    obtain ⟨x30, hqx30, h⟩ := Option.bind_eq_some_iff.mp h
    refine lop_ind (zX11_doubts_157 l F v0 v1 v2 v3 v4 v5 v6 v7_29 k n) (qX11_doubts_157 l F v0 v1 v2 v3 v4 v5 v6 v7_29 k n) FU _ x30 hqx30 ?_
    obtain ⟨μ_31, hqq⟩ : ∃ z, z = x30 := ⟨x30, rfl⟩
    subst hqq
    show GM l mX11_doubts F k n 200 [(0, (3, v0)), (1, (0, v1)), (2, (0, v2)), (3, (0, v3)), (4, (0, v4)), (5, (0, v5)), (6, (0, v6))] [] μ_31
    refine GM_aload_n (pc := 200) 0 rfl (daX11_doubts_1 44 rfl) rfl ?_
    refine GM_iload_n (pc := 201) 1 rfl (daX11_doubts_1 45 rfl) rfl ?_
    refine GM_iload (pc := 202) 6 rfl (daX11_doubts_1 46 rfl) ?_
    obtain ⟨r32, hf32, h⟩ := Option.bind_eq_some_iff.mp h
    refine GM_callV0 (pc := 204) [(0, v1), (0, v6)] (tX11_nextYear l hf32) cwX11_nextYear 11 (Nat.le_of_ble_eq_true rfl) rfl kv_X11_nextYear ke_X11_nextYear km_X11_277 hc25 ⟨Nat.le_of_ble_eq_true rfl, Nat.le_of_ble_eq_true rfl⟩ (Nat.le_of_ble_eq_true rfl) (Nat.le_of_ble_eq_true rfl) (daX11_doubts_1 47 rfl) ?_
    refine GM_istore (L' := [(6, (0, r32)), (0, (3, v0)), (1, (0, v1)), (2, (0, v2)), (3, (0, v3)), (4, (0, v4)), (5, (0, v5))]) (pc := 207) (daX11_doubts_1 48 rfl) (Nat.le_of_ble_eq_true rfl) rfl ?_
    refine GM_goto (pc := 209) 92 (daX11_doubts_1 49 rfl) rfl ?_
    refine GM_pick [1, 2, 3, 4, 5, 6, 0] rfl ?_
    cases h
    exact hK
set_option maxRecDepth 20000 in
theorem gX11_doubts_0 (l : Launch) {F : FI} {v0 v1 v2 v3 v4 : Int} {μ : Mm} {t : Mm} (h : fX11_doubts v0 v1 v2 v3 v4 μ = some t) (hK : F.1 = [] ∧ F.2.1 = t) : GM l mX11_doubts F 0 0 0 [(0, (3, v0)), (1, (0, v1)), (2, (0, v2)), (3, (0, v3)), (4, (0, v4))] [] μ := by
  unfold fX11_doubts at h
  refine GM_aload_n (pc := 0) 0 rfl (daX11_doubts_0 0 rfl) rfl ?_
  obtain ⟨hc33, h⟩ := chk_inv h
  refine GM_getf (pc := 1) 11 0 3 0 kf_X11_7 (Nat.le_of_ble_eq_true rfl) (Nat.le_of_ble_eq_true rfl) rfl (daX11_doubts_0 1 rfl) hc33 rfl ?_
  refine GM_iload_n (pc := 4) 2 rfl (daX11_doubts_0 2 rfl) rfl ?_
  obtain ⟨hc34, h⟩ := chk_inv h
  refine GM_iald (pc := 5) (daX11_doubts_0 3 rfl) hc34.1 hc34.2.1 hc34.2.2 ?_
  refine GM_istore (L' := [(5, (0, μ (μ v0 0) v2)), (0, (3, v0)), (1, (0, v1)), (2, (0, v2)), (3, (0, v3)), (4, (0, v4))]) (pc := 6) (daX11_doubts_0 4 rfl) (Nat.le_of_ble_eq_true rfl) rfl ?_
  refine GM_iconst (pc := 8) 0 (daX11_doubts_0 5 rfl) rfl (R32_b rfl) ?_
  refine GM_istore (L' := [(6, (0, 0)), (5, (0, μ (μ v0 0) v2)), (0, (3, v0)), (1, (0, v1)), (2, (0, v2)), (3, (0, v3)), (4, (0, v4))]) (pc := 9) (daX11_doubts_0 6 rfl) (Nat.le_of_ble_eq_true rfl) rfl ?_
  refine GM_pick [2, 3, 4, 5, 6, 1, 0] rfl ?_
  obtain ⟨x35, hqx35, h⟩ := Option.bind_eq_some_iff.mp h
  refine lop_ind (zX11_doubts_11 l F v0 v1 v2 v3 v4 (μ (μ v0 0) v2) 0 0) (qX11_doubts_11 l F v0 v1 v2 v3 v4 (μ (μ v0 0) v2) 0 0) FU _ x35 hqx35 ?_
  obtain ⟨μ_36, hqq⟩ : ∃ z, z = x35 := ⟨x35, rfl⟩
  subst hqq
  show GM l mX11_doubts F 0 0 82 [(0, (3, v0)), (1, (0, v1)), (2, (0, v2)), (3, (0, v3)), (4, (0, v4)), (5, (0, μ (μ v0 0) v2))] [] μ_36
  refine GM_aload_n (pc := 82) 0 rfl (daX11_doubts_0 45 rfl) rfl ?_
  refine GM_getf (pc := 83) 11 0 3 0 kf_X11_7 (Nat.le_of_ble_eq_true rfl) (Nat.le_of_ble_eq_true rfl) rfl (daX11_doubts_0 46 rfl) hc33 rfl ?_
  refine GM_iload_n (pc := 86) 2 rfl (daX11_doubts_0 47 rfl) rfl ?_
  refine GM_iconst (pc := 87) 5 (daX11_doubts_0 48 rfl) rfl (R32_b rfl) ?_
  refine GM_iadd (pc := 88) (daX11_doubts_0 49 rfl) ?_
  obtain ⟨hc37, h⟩ := chk_inv h
  refine GM_iald (pc := 89) (daX11_doubts_0 50 rfl) hc37.1 hc37.2.1 hc37.2.2 ?_
  obtain ⟨y38, hy38, h⟩ := lt_inv h
  refine GM_top hy38 ?_
  refine GM_istore (L' := [(6, (0, y38)), (0, (3, v0)), (1, (0, v1)), (2, (0, v2)), (3, (0, v3)), (4, (0, v4)), (5, (0, μ (μ v0 0) v2))]) (pc := 90) (daX11_doubts_0 51 rfl) (Nat.le_of_ble_eq_true rfl) rfl ?_
  refine GM_pick [1, 2, 3, 4, 5, 6, 0] rfl ?_
  obtain ⟨x39, hqx39, h⟩ := Option.bind_eq_some_iff.mp h
  refine lop_ind (zX11_doubts_92 l F v0 v1 v2 v3 v4 (μ (μ v0 0) v2) 0 0) (qX11_doubts_92 l F v0 v1 v2 v3 v4 (μ (μ v0 0) v2) 0 0) FU _ x39 hqx39 ?_
  obtain ⟨μ_40, hqq⟩ : ∃ z, z = x39 := ⟨x39, rfl⟩
  subst hqq
  show GM l mX11_doubts F 0 0 212 [] [] μ_40
  cases h
  exact GM_vret (pc := 212) (daX11_doubts_1 50 rfl) rfl hK
theorem tX11_doubts (l : Launch) {v0 v1 v2 v3 v4 : Int} {μ : Mm} {t : Mm} (h : fX11_doubts v0 v1 v2 v3 v4 μ = some t) : Ct l yX11_doubts mX11_doubts [(3, v0), (0, v1), (0, v2), (0, v3), (0, v4)] μ ([], t, 0, 0) :=
  Ct_of (by decide +kernel) rfl rfl (Nat.le_of_ble_eq_true rfl) (fun _ _ _ => trivial) (gX11_doubts_0 l h ⟨rfl, rfl⟩)
def mX11_doubt : MI := (RX11, cX11_doubt, 7, (some .int), "doubt", 8, 212, fun _ _ _ => True)
theorem cwX11_doubt : CWd yX11_doubt mX11_doubt 2 := ⟨ki_X11, kk_X11_doubt, ⟨by decide, by decide⟩, rfl⟩
def dtX11_doubt_0 : List (Nat × Instr × Nat) := [(0, .aload_n 0, 1), (1, .iload_n 1, 1), (2, .iload_n 2, 1), (3, .invokevirtual 283, 3), (6, .ifCond .eq 18, 3), (9, .aload_n 0, 1), (10, .getfield 7, 3), (13, .iconst 1, 1), (14, .iload_n 2, 1), (15, .invokestatic 204, 3), (18, .iaload, 1), (19, .bipush 8, 2), (21, .if_icmp .le 5, 3), (24, .iconst (-1), 1), (25, .ireturn, 1), (26, .iconst 0, 1), (27, .iload_n 1, 1), (28, .invokestatic 204, 3), (31, .istore_n 3, 1), (32, .iconst 1, 1), (33, .iload_n 2, 1), (34, .invokestatic 204, 3), (37, .istore 4, 2), (39, .aload_n 0, 1), (40, .iload_n 3, 1), (41, .invokevirtual 295, 3), (44, .aload_n 0, 1), (45, .iconst (-1), 1), (46, .putfield 308, 3), (49, .iconst 0, 1), (50, .istore 5, 2), (52, .iload 5, 2), (54, .aload_n 0, 1), (55, .iload_n 3, 1), (56, .invokevirtual 207, 3), (59, .if_icmp .ge 59, 3), (62, .iconst 0, 1), (63, .istore 6, 2), (65, .iload 6, 2), (67, .aload_n 0, 1), (68, .getfield 29, 3), (71, .iload 5, 2), (73, .iaload, 1), (74, .if_icmp .ge 38, 3), (77, .aload_n 0, 1), (78, .iload 4, 2), (80, .iload 5, 2), (82, .invokevirtual 263, 3), (85, .ifCond .eq 27, 3), (88, .aload_n 0, 1), (89, .getfield 308, 3), (92, .ifCond .eq 20, 3), (95, .aload_n 0, 1), (96, .iload_n 3, 1), (97, .iload 4, 2), (99, .iload 5, 2), (101, .iload 6, 2), (103, .invokevirtual 320, 3), (106, .iinc 6 1, 3), (109, .goto (-44), 3), (112, .iinc 5 1, 3), (115, .goto (-63), 3), (118, .aload_n 0, 1), (119, .getfield 308, 3)]
theorem ddX11_doubt_0 : (dtX11_doubt_0.all fun e => decide (decode mX11_doubt.2.1 e.1 = .ok (e.2.1, e.2.2))) = true := by decide +kernel
theorem daX11_doubt_0 (j : Nat) {pc n : Nat} {i : Instr} (h : dtX11_doubt_0[j]? = some (pc, i, n)) : decode mX11_doubt.2.1 pc = .ok (i, n) := dec_of (c := mX11_doubt.2.1) ddX11_doubt_0 h
def dtX11_doubt_1 : List (Nat × Instr × Nat) := [(122, .ireturn, 1)]
theorem ddX11_doubt_1 : (dtX11_doubt_1.all fun e => decide (decode mX11_doubt.2.1 e.1 = .ok (e.2.1, e.2.2))) = true := by decide +kernel
theorem daX11_doubt_1 (j : Nat) {pc n : Nat} {i : Instr} (h : dtX11_doubt_1[j]? = some (pc, i, n)) : decode mX11_doubt.2.1 pc = .ok (i, n) := dec_of (c := mX11_doubt.2.1) ddX11_doubt_1 h
def zX11_doubt_65 (l : Launch) (F : FI) (v0 v3 v4 v5 : Int) (k n : Nat) : (Int × Mm) ⊕ Mm → Prop
  | .inl (v6, μ) => GM l mX11_doubt F k n 65 [(0, (3, v0)), (3, (0, v3)), (4, (0, v4)), (5, (0, v5)), (6, (0, v6))] [] μ
  | .inr μ => GM l mX11_doubt F k n 112 [(0, (3, v0)), (3, (0, v3)), (4, (0, v4)), (5, (0, v5))] [] μ
def sX11_doubt_65 (v0 v3 v4 v5 : Int) : (Int × Mm) → Option ((Int × Mm) ⊕ Mm) := fun (v6, μ) =>
  chk (KD v0 = 11) (
  chk (KD (μ v0 16) = 12 ∧ 0 ≤ v5 ∧ v5 < LN (μ v0 16)) (
  if μ (μ v0 16) v5 ≤ v6 then
    some (.inr μ)
  else
    (fX11_canBe v0 v4 v5 μ).bind fun r4 =>
    if r4 = 0 then
      some (.inr μ)
    else
      if μ v0 24 = 0 then
        some (.inr μ)
      else
        (fX11_doubts v0 v3 v4 v5 v6 μ).bind fun μ7 =>
        some (.inl (w32 (v6 + 1), μ7))))
def zX11_doubt_52 (l : Launch) (F : FI) (v0 v3 v4 : Int) (k n : Nat) : (Int × Mm) ⊕ Mm → Prop
  | .inl (v5, μ) => GM l mX11_doubt F k n 52 [(0, (3, v0)), (3, (0, v3)), (4, (0, v4)), (5, (0, v5))] [] μ
  | .inr μ => GM l mX11_doubt F k n 118 [(0, (3, v0))] [] μ
def sX11_doubt_52 (v0 v3 v4 : Int) : (Int × Mm) → Option ((Int × Mm) ⊕ Mm) := fun (v5, μ) =>
  chk (KD v0 = 11) (
  (fX11_placesOf v0 v3 μ).bind fun r9 =>
  if r9 ≤ v5 then
    some (.inr μ)
  else
    (lop (sX11_doubt_65 v0 v3 v4 v5) FU (0, μ)).bind fun μ_12 =>
      some (.inl (w32 (v5 + 1), μ_12)))
def fX11_doubt (v0 v1 v2 : Int) (μ : Mm) : Option (Int × Mm) :=
  chk (KD v0 = 11) (
  (fX11_areBoth v0 v1 v2 μ).bind fun r14 =>
  if r14 = 0 then
    some ((-1), μ)
  else
    (fX11_placeOf 1 v2).bind fun r16 =>
    chk (KD (μ v0 0) = 12 ∧ 0 ≤ r16 ∧ r16 < LN (μ v0 0)) (
    if μ (μ v0 0) r16 ≤ 8 then
      (fX11_placeOf 0 v1).bind fun r19 =>
      (fX11_placeOf 1 v2).bind fun r20 =>
      (fX11_survey v0 r19 μ).bind fun μ21 =>
      lm (mst μ21 v0 24 (-1)) fun μ22 =>
      (lop (sX11_doubt_52 v0 r19 r20) FU (0, μ22)).bind fun μ_24 =>
        some (μ_24 v0 24, μ_24)
    else
      some ((-1), μ)))
set_option maxRecDepth 20000 in
theorem qX11_doubt_65 (l : Launch) (F : FI) (v0 v3 v4 v5 : Int) (k n : Nat) : ∀ (q : (Int × Mm)) (t : ((Int × Mm) ⊕ Mm)), sX11_doubt_65 v0 v3 v4 v5 q = some t → zX11_doubt_65 l F v0 v3 v4 v5 k n t → zX11_doubt_65 l F v0 v3 v4 v5 k n (.inl q) := by
  intro q t h hK
  obtain ⟨v6, μ⟩ := q
  unfold sX11_doubt_65 at h
  try dsimp only at h
  show GM l mX11_doubt F k n 65 [(0, (3, v0)), (3, (0, v3)), (4, (0, v4)), (5, (0, v5)), (6, (0, v6))] [] μ
  refine GM_iload (pc := 65) 4 rfl (daX11_doubt_0 38 rfl) ?_
  refine GM_aload_n (pc := 67) 0 rfl (daX11_doubt_0 39 rfl) rfl ?_
  obtain ⟨hc1, h⟩ := chk_inv h
  refine GM_getf (pc := 68) 11 16 3 16 kf_X11_29 (Nat.le_of_ble_eq_true rfl) (Nat.le_of_ble_eq_true rfl) rfl (daX11_doubt_0 40 rfl) hc1 rfl ?_
  refine GM_iload (pc := 71) 3 rfl (daX11_doubt_0 41 rfl) ?_
  obtain ⟨hc2, h⟩ := chk_inv h
  refine GM_iald (pc := 73) (daX11_doubt_0 42 rfl) hc2.1 hc2.2.1 hc2.2.2 ?_
  refine GM_icmp_ge (pc := 74) 112 (daX11_doubt_0 43 rfl) rfl (fun c3 => ?_) (fun c3 => ?_)
  · skip
    rw [if_pos c3] at h
    refine GM_pick [0, 1, 2, 3] rfl ?_
    cases h
    exact hK
  · skip
    rw [if_neg c3] at h
    refine GM_aload_n (pc := 77) 0 rfl (daX11_doubt_0 44 rfl) rfl ?_
    refine GM_iload (pc := 78) 2 rfl (daX11_doubt_0 45 rfl) ?_
    refine GM_iload (pc := 80) 3 rfl (daX11_doubt_0 46 rfl) ?_
    obtain ⟨r4, hf4, h⟩ := Option.bind_eq_some_iff.mp h
    refine GM_callV0 (pc := 82) [(0, v4), (0, v5)] (tX11_canBe l hf4) cwX11_canBe 11 (Nat.le_of_ble_eq_true rfl) rfl kv_X11_canBe ke_X11_canBe km_X11_263 hc1 ⟨Nat.le_of_ble_eq_true rfl, Nat.le_of_ble_eq_true rfl⟩ (Nat.le_of_ble_eq_true rfl) (Nat.le_of_ble_eq_true rfl) (daX11_doubt_0 47 rfl) ?_
    refine GM_if_eq (pc := 85) 112 (daX11_doubt_0 48 rfl) rfl (fun c5 => ?_) (fun c5 => ?_)
    · skip
      rw [if_pos c5] at h
      refine GM_pick [0, 1, 2, 3] rfl ?_
      cases h
      exact hK
    · skip
      rw [if_neg c5] at h
      refine GM_aload_n (pc := 88) 0 rfl (daX11_doubt_0 49 rfl) rfl ?_
      refine GM_getf (pc := 89) 11 24 0 24 kf_X11_308 (Nat.le_of_ble_eq_true rfl) (Nat.le_of_ble_eq_true rfl) rfl (daX11_doubt_0 50 rfl) hc1 rfl ?_
      refine GM_if_eq (pc := 92) 112 (daX11_doubt_0 51 rfl) rfl (fun c6 => ?_) (fun c6 => ?_)
      · skip
        rw [if_pos c6] at h
        refine GM_pick [0, 1, 2, 3] rfl ?_
        cases h
        exact hK
      · skip
        rw [if_neg c6] at h
        refine GM_aload_n (pc := 95) 0 rfl (daX11_doubt_0 52 rfl) rfl ?_
        refine GM_iload_n (pc := 96) 1 rfl (daX11_doubt_0 53 rfl) rfl ?_
        refine GM_iload (pc := 97) 2 rfl (daX11_doubt_0 54 rfl) ?_
        refine GM_iload (pc := 99) 3 rfl (daX11_doubt_0 55 rfl) ?_
        refine GM_iload (pc := 101) 4 rfl (daX11_doubt_0 56 rfl) ?_
        obtain ⟨μ7, hf7, h⟩ := Option.bind_eq_some_iff.mp h
        refine GM_callV0 (pc := 103) [(0, v3), (0, v4), (0, v5), (0, v6)] (tX11_doubts l hf7) cwX11_doubts 11 (Nat.le_of_ble_eq_true rfl) rfl kv_X11_doubts ke_X11_doubts km_X11_320 hc1 ⟨Nat.le_of_ble_eq_true rfl, Nat.le_of_ble_eq_true rfl⟩ (Nat.le_of_ble_eq_true rfl) (Nat.le_of_ble_eq_true rfl) (daX11_doubt_0 57 rfl) ?_
        refine GM_iinc (L' := [(6, (0, w32 (v6 + 1))), (0, (3, v0)), (3, (0, v3)), (4, (0, v4)), (5, (0, v5))]) (pc := 106) 4 rfl (daX11_doubt_0 58 rfl) (Nat.le_of_ble_eq_true rfl) rfl ?_
        refine GM_goto (pc := 109) 65 (daX11_doubt_0 59 rfl) rfl ?_
        refine GM_pick [1, 2, 3, 4, 0] rfl ?_
        cases h
        exact hK
set_option maxRecDepth 20000 in
theorem qX11_doubt_52 (l : Launch) (F : FI) (v0 v3 v4 : Int) (k n : Nat) : ∀ (q : (Int × Mm)) (t : ((Int × Mm) ⊕ Mm)), sX11_doubt_52 v0 v3 v4 q = some t → zX11_doubt_52 l F v0 v3 v4 k n t → zX11_doubt_52 l F v0 v3 v4 k n (.inl q) := by
  intro q t h hK
  obtain ⟨v5, μ⟩ := q
  unfold sX11_doubt_52 at h
  try dsimp only at h
  show GM l mX11_doubt F k n 52 [(0, (3, v0)), (3, (0, v3)), (4, (0, v4)), (5, (0, v5))] [] μ
  refine GM_iload (pc := 52) 3 rfl (daX11_doubt_0 31 rfl) ?_
  refine GM_aload_n (pc := 54) 0 rfl (daX11_doubt_0 32 rfl) rfl ?_
  refine GM_iload_n (pc := 55) 1 rfl (daX11_doubt_0 33 rfl) rfl ?_
  obtain ⟨hc8, h⟩ := chk_inv h
  obtain ⟨r9, hf9, h⟩ := Option.bind_eq_some_iff.mp h
  refine GM_callV0 (pc := 56) [(0, v3)] (tX11_placesOf l hf9) cwX11_placesOf 11 (Nat.le_of_ble_eq_true rfl) rfl kv_X11_placesOf ke_X11_placesOf km_X11_207 hc8 ⟨Nat.le_of_ble_eq_true rfl, Nat.le_of_ble_eq_true rfl⟩ (Nat.le_of_ble_eq_true rfl) (Nat.le_of_ble_eq_true rfl) (daX11_doubt_0 34 rfl) ?_
  refine GM_icmp_ge (pc := 59) 118 (daX11_doubt_0 35 rfl) rfl (fun c10 => ?_) (fun c10 => ?_)
  · skip
    rw [if_pos c10] at h
    refine GM_pick [0] rfl ?_
    cases h
    exact hK
  · skip
    rw [if_neg c10] at h
    refine GM_iconst (pc := 62) 0 (daX11_doubt_0 36 rfl) rfl (R32_b rfl) ?_
    refine GM_istore (L' := [(6, (0, 0)), (0, (3, v0)), (3, (0, v3)), (4, (0, v4)), (5, (0, v5))]) (pc := 63) (daX11_doubt_0 37 rfl) (Nat.le_of_ble_eq_true rfl) rfl ?_
    refine GM_pick [1, 2, 3, 4, 0] rfl ?_
    obtain ⟨x11, hqx11, h⟩ := Option.bind_eq_some_iff.mp h
    refine lop_ind (zX11_doubt_65 l F v0 v3 v4 v5 k n) (qX11_doubt_65 l F v0 v3 v4 v5 k n) FU _ x11 hqx11 ?_
    obtain ⟨μ_12, hqq⟩ : ∃ z, z = x11 := ⟨x11, rfl⟩
    subst hqq
    show GM l mX11_doubt F k n 112 [(0, (3, v0)), (3, (0, v3)), (4, (0, v4)), (5, (0, v5))] [] μ_12
    refine GM_iinc (L' := [(5, (0, w32 (v5 + 1))), (0, (3, v0)), (3, (0, v3)), (4, (0, v4))]) (pc := 112) 3 rfl (daX11_doubt_0 60 rfl) (Nat.le_of_ble_eq_true rfl) rfl ?_
    refine GM_goto (pc := 115) 52 (daX11_doubt_0 61 rfl) rfl ?_
    refine GM_pick [1, 2, 3, 0] rfl ?_
    cases h
    exact hK
set_option maxRecDepth 20000 in
theorem gX11_doubt_0 (l : Launch) {F : FI} {v0 v1 v2 : Int} {μ : Mm} {t : (Int × Mm)} (h : fX11_doubt v0 v1 v2 μ = some t) (hK : F.1 = [(0, t.1)] ∧ F.2.1 = t.2) : GM l mX11_doubt F 0 0 0 [(0, (3, v0)), (1, (0, v1)), (2, (0, v2))] [] μ := by
  unfold fX11_doubt at h
  refine GM_aload_n (pc := 0) 0 rfl (daX11_doubt_0 0 rfl) rfl ?_
  refine GM_iload_n (pc := 1) 1 rfl (daX11_doubt_0 1 rfl) rfl ?_
  refine GM_iload_n (pc := 2) 2 rfl (daX11_doubt_0 2 rfl) rfl ?_
  obtain ⟨hc13, h⟩ := chk_inv h
  obtain ⟨r14, hf14, h⟩ := Option.bind_eq_some_iff.mp h
  refine GM_callV0 (pc := 3) [(0, v1), (0, v2)] (tX11_areBoth l hf14) cwX11_areBoth 11 (Nat.le_of_ble_eq_true rfl) rfl kv_X11_areBoth ke_X11_areBoth km_X11_283 hc13 ⟨Nat.le_of_ble_eq_true rfl, Nat.le_of_ble_eq_true rfl⟩ (Nat.le_of_ble_eq_true rfl) (Nat.le_of_ble_eq_true rfl) (daX11_doubt_0 3 rfl) ?_
  refine GM_if_eq (pc := 6) 24 (daX11_doubt_0 4 rfl) rfl (fun c15 => ?_) (fun c15 => ?_)
  · skip
    rw [if_pos c15] at h
    refine GM_iconst (pc := 24) (-1) (daX11_doubt_0 13 rfl) rfl (R32_b rfl) ?_
    cases h
    exact GM_iret (pc := 25) (daX11_doubt_0 14 rfl) rfl hK
  · skip
    rw [if_neg c15] at h
    refine GM_aload_n (pc := 9) 0 rfl (daX11_doubt_0 5 rfl) rfl ?_
    refine GM_getf (pc := 10) 11 0 3 0 kf_X11_7 (Nat.le_of_ble_eq_true rfl) (Nat.le_of_ble_eq_true rfl) rfl (daX11_doubt_0 6 rfl) hc13 rfl ?_
    refine GM_iconst (pc := 13) 1 (daX11_doubt_0 7 rfl) rfl (R32_b rfl) ?_
    refine GM_iload_n (pc := 14) 2 rfl (daX11_doubt_0 8 rfl) rfl ?_
    obtain ⟨r16, hf16, h⟩ := Option.bind_eq_some_iff.mp h
    refine GM_callS0 (pc := 15) [(0, 1), (0, v2)] (tX11_placeOf l hf16) cwX11_placeOf ks_X11_placeOf km_X11_204 ⟨Nat.le_of_ble_eq_true rfl, Nat.le_of_ble_eq_true rfl⟩ (Nat.le_of_ble_eq_true rfl) (Nat.le_of_ble_eq_true rfl) (daX11_doubt_0 9 rfl) ?_
    obtain ⟨hc17, h⟩ := chk_inv h
    refine GM_iald (pc := 18) (daX11_doubt_0 10 rfl) hc17.1 hc17.2.1 hc17.2.2 ?_
    refine GM_bipush (pc := 19) 8 (daX11_doubt_0 11 rfl) rfl (R32_b rfl) ?_
    refine GM_icmp_le (pc := 21) 26 (daX11_doubt_0 12 rfl) rfl (fun c18 => ?_) (fun c18 => ?_)
    · skip
      rw [if_pos c18] at h
      refine GM_iconst (pc := 26) 0 (daX11_doubt_0 15 rfl) rfl (R32_b rfl) ?_
      refine GM_iload_n (pc := 27) 1 rfl (daX11_doubt_0 16 rfl) rfl ?_
      obtain ⟨r19, hf19, h⟩ := Option.bind_eq_some_iff.mp h
      refine GM_callS0 (pc := 28) [(0, 0), (0, v1)] (tX11_placeOf l hf19) cwX11_placeOf ks_X11_placeOf km_X11_204 ⟨Nat.le_of_ble_eq_true rfl, Nat.le_of_ble_eq_true rfl⟩ (Nat.le_of_ble_eq_true rfl) (Nat.le_of_ble_eq_true rfl) (daX11_doubt_0 17 rfl) ?_
      refine GM_istore_n (L' := [(3, (0, r19)), (0, (3, v0)), (1, (0, v1)), (2, (0, v2))]) (pc := 31) (daX11_doubt_0 18 rfl) rfl (Nat.le_of_ble_eq_true rfl) rfl ?_
      refine GM_iconst (pc := 32) 1 (daX11_doubt_0 19 rfl) rfl (R32_b rfl) ?_
      refine GM_iload_n (pc := 33) 3 rfl (daX11_doubt_0 20 rfl) rfl ?_
      obtain ⟨r20, hf20, h⟩ := Option.bind_eq_some_iff.mp h
      refine GM_callS0 (pc := 34) [(0, 1), (0, v2)] (tX11_placeOf l hf20) cwX11_placeOf ks_X11_placeOf km_X11_204 ⟨Nat.le_of_ble_eq_true rfl, Nat.le_of_ble_eq_true rfl⟩ (Nat.le_of_ble_eq_true rfl) (Nat.le_of_ble_eq_true rfl) (daX11_doubt_0 21 rfl) ?_
      refine GM_istore (L' := [(4, (0, r20)), (3, (0, r19)), (0, (3, v0)), (1, (0, v1)), (2, (0, v2))]) (pc := 37) (daX11_doubt_0 22 rfl) (Nat.le_of_ble_eq_true rfl) rfl ?_
      refine GM_aload_n (pc := 39) 2 rfl (daX11_doubt_0 23 rfl) rfl ?_
      refine GM_iload_n (pc := 40) 1 rfl (daX11_doubt_0 24 rfl) rfl ?_
      obtain ⟨μ21, hf21, h⟩ := Option.bind_eq_some_iff.mp h
      refine GM_callV0 (pc := 41) [(0, r19)] (tX11_survey l hf21) cwX11_survey 11 (Nat.le_of_ble_eq_true rfl) rfl kv_X11_survey ke_X11_survey km_X11_295 hc13 ⟨Nat.le_of_ble_eq_true rfl, Nat.le_of_ble_eq_true rfl⟩ (Nat.le_of_ble_eq_true rfl) (Nat.le_of_ble_eq_true rfl) (daX11_doubt_0 25 rfl) ?_
      refine GM_aload_n (pc := 44) 2 rfl (daX11_doubt_0 26 rfl) rfl ?_
      refine GM_iconst (pc := 45) (-1) (daX11_doubt_0 27 rfl) rfl (R32_b rfl) ?_
      obtain ⟨μ22, hμ22, h⟩ := lm_inv h
      refine GM_putf (pc := 46) 11 24 0 kf_X11_308 (Nat.le_of_ble_eq_true rfl) (Nat.le_of_ble_eq_true rfl) rfl rfl (daX11_doubt_0 28 rfl) hc13 (fun q => absurd q (by decide)) ?_
      refine GM_mem hμ22 ?_
      refine GM_iconst (pc := 49) 0 (daX11_doubt_0 29 rfl) rfl (R32_b rfl) ?_
      refine GM_istore (L' := [(5, (0, 0)), (4, (0, r20)), (3, (0, r19)), (0, (3, v0)), (1, (0, v1)), (2, (0, v2))]) (pc := 50) (daX11_doubt_0 30 rfl) (Nat.le_of_ble_eq_true rfl) rfl ?_
      refine GM_pick [3, 2, 1, 0] rfl ?_
      obtain ⟨x23, hqx23, h⟩ := Option.bind_eq_some_iff.mp h
      refine lop_ind (zX11_doubt_52 l F v0 r19 r20 0 0) (qX11_doubt_52 l F v0 r19 r20 0 0) FU _ x23 hqx23 ?_
      obtain ⟨μ_24, hqq⟩ : ∃ z, z = x23 := ⟨x23, rfl⟩
      subst hqq
      show GM l mX11_doubt F 0 0 118 [(0, (3, v0))] [] μ_24
      refine GM_aload_n (pc := 118) 0 rfl (daX11_doubt_0 62 rfl) rfl ?_
      refine GM_getf (pc := 119) 11 24 0 24 kf_X11_308 (Nat.le_of_ble_eq_true rfl) (Nat.le_of_ble_eq_true rfl) rfl (daX11_doubt_0 63 rfl) hc13 rfl ?_
      cases h
      exact GM_iret (pc := 122) (daX11_doubt_1 0 rfl) rfl hK
    · skip
      rw [if_neg c18] at h
      refine GM_iconst (pc := 24) (-1) (daX11_doubt_0 13 rfl) rfl (R32_b rfl) ?_
      cases h
      exact GM_iret (pc := 25) (daX11_doubt_0 14 rfl) rfl hK
theorem tX11_doubt (l : Launch) {v0 v1 v2 : Int} {μ : Mm} {t : (Int × Mm)} (h : fX11_doubt v0 v1 v2 μ = some t) : Ct l yX11_doubt mX11_doubt [(3, v0), (0, v1), (0, v2)] μ ([(0, t.1)], t.2, 0, 0) :=
  Ct_of (by decide +kernel) rfl rfl (Nat.le_of_ble_eq_true rfl) (fun _ _ _ => trivial) (gX11_doubt_0 l h ⟨rfl, rfl⟩)
def mX11_since : MI := (RX11, cX11_since, 8, (some .int), "since", 11, 289, fun _ _ _ => True)
theorem cwX11_since : CWd yX11_since mX11_since 3 := ⟨ki_X11, kk_X11_since, ⟨by decide, by decide⟩, rfl⟩
def dtX11_since_0 : List (Nat × Instr × Nat) := [(0, .aload_n 0, 1), (1, .iload_n 1, 1), (2, .iload_n 2, 1), (3, .invokevirtual 283, 3), (6, .ifCond .ne 5, 3), (9, .iconst (-1), 1), (10, .ireturn, 1), (11, .iconst 0, 1), (12, .iload_n 1, 1), (13, .invokestatic 204, 3), (16, .istore 4, 2), (18, .iconst 1, 1), (19, .iload_n 2, 1), (20, .invokestatic 204, 3), (23, .istore 5, 2), (25, .aload_n 0, 1), (26, .iload 4, 2), (28, .invokevirtual 295, 3), (31, .iconst (-1), 1), (32, .istore 6, 2), (34, .aload_n 0, 1), (35, .getfield 7, 3), (38, .iload 5, 2), (40, .iconst 5, 1), (41, .iadd, 1), (42, .iaload, 1), (43, .istore 7, 2), (45, .iload 7, 2), (47, .aload_n 0, 1), (48, .getfield 7, 3), (51, .iload 5, 2), (53, .bipush 6, 2), (55, .iadd, 1), (56, .iaload, 1), (57, .if_icmp .gt 44, 3), (60, .iload_n 3, 1), (61, .ifCond .ne 8, 3), (64, .iload 6, 2), (66, .ifCond .ge 35, 3), (69, .aload_n 0, 1), (70, .iload 4, 2), (72, .iload 5, 2), (74, .iload 7, 2), (76, .invokevirtual 298, 3), (79, .aload_n 0, 1), (80, .getfield 292, 3), (83, .ifCond .le 8, 3), (86, .iload 7, 2), (88, .goto 5, 3), (91, .iload 6, 2), (93, .istore 6, 2), (95, .iinc 7 1, 3), (98, .goto (-53), 3), (101, .iload 6, 2), (103, .ireturn, 1)]
theorem ddX11_since_0 : (dtX11_since_0.all fun e => decide (decode mX11_since.2.1 e.1 = .ok (e.2.1, e.2.2))) = true := by decide +kernel
theorem daX11_since_0 (j : Nat) {pc n : Nat} {i : Instr} (h : dtX11_since_0[j]? = some (pc, i, n)) : decode mX11_since.2.1 pc = .ok (i, n) := dec_of (c := mX11_since.2.1) ddX11_since_0 h
def jX11_since_69 (v0 v3 v4 v5 v6 v7 : Int) (μ : Mm) : Option ((Int × Int × Mm) ⊕ (Int × Mm)) :=
  chk (KD v0 = 11) (
  (fX11_finds v0 v4 v5 v7 μ).bind fun μ2 =>
  if μ2 v0 18 ≤ 0 then
    some (.inl (v6, w32 (v7 + 1), μ2))
  else
    some (.inl (v7, w32 (v7 + 1), μ2)))
def zX11_since_45 (l : Launch) (F : FI) (v0 v3 v4 v5 : Int) (k n : Nat) : (Int × Int × Mm) ⊕ (Int × Mm) → Prop
  | .inl (v6, v7, μ) => GM l mX11_since F k n 45 [(0, (3, v0)), (3, (0, v3)), (4, (0, v4)), (5, (0, v5)), (6, (0, v6)), (7, (0, v7))] [] μ
  | .inr (v6, μ) => GM l mX11_since F k n 101 [(6, (0, v6))] [] μ
def sX11_since_45 (v0 v3 v4 v5 : Int) : (Int × Int × Mm) → Option ((Int × Int × Mm) ⊕ (Int × Mm)) := fun (v6, v7, μ) =>
  chk (KD v0 = 11) (
  chk (KD (μ v0 0) = 12 ∧ 0 ≤ w32 (v5 + 6) ∧ w32 (v5 + 6) < LN (μ v0 0)) (
  if μ (μ v0 0) (w32 (v5 + 6)) < v7 then
    some (.inr (v6, μ))
  else
    if v3 = 0 then
      if 0 ≤ v6 then
        some (.inr (v6, μ))
      else
        jX11_since_69 v0 v3 v4 v5 v6 v7 μ
    else
      jX11_since_69 v0 v3 v4 v5 v6 v7 μ))
def fX11_since (v0 v1 v2 v3 : Int) (μ : Mm) : Option (Int × Mm) :=
  chk (KD v0 = 11) (
  (fX11_areBoth v0 v1 v2 μ).bind fun r10 =>
  if r10 = 0 then
    some ((-1), μ)
  else
    (fX11_placeOf 0 v1).bind fun r12 =>
    (fX11_placeOf 1 v2).bind fun r13 =>
    (fX11_survey v0 r12 μ).bind fun μ14 =>
    chk (KD (μ14 v0 0) = 12 ∧ 0 ≤ w32 (r13 + 5) ∧ w32 (r13 + 5) < LN (μ14 v0 0)) (
    lt (μ14 (μ14 v0 0) (w32 (r13 + 5))) fun y16 =>
    (lop (sX11_since_45 v0 v3 r12 r13) FU ((-1), y16, μ14)).bind fun x17 =>
      match x17 with
      | (v6_18, μ_18) =>
        some (v6_18, μ_18)))
set_option maxRecDepth 20000 in
theorem gX11_since_69 (l : Launch) {F : FI} {v0 v3 v4 v5 v6 v7 : Int} {μ : Mm} {t : ((Int × Int × Mm) ⊕ (Int × Mm))} {k n : Nat} (h : jX11_since_69 v0 v3 v4 v5 v6 v7 μ = some t) (hK : zX11_since_45 l F v0 v3 v4 v5 k n t) : GM l mX11_since F k n 69 [(0, (3, v0)), (3, (0, v3)), (4, (0, v4)), (5, (0, v5)), (6, (0, v6)), (7, (0, v7))] [] μ := by
  unfold jX11_since_69 at h
  refine GM_aload_n (pc := 69) 0 rfl (daX11_since_0 39 rfl) rfl ?_
  refine GM_iload (pc := 70) 2 rfl (daX11_since_0 40 rfl) ?_
  refine GM_iload (pc := 72) 3 rfl (daX11_since_0 41 rfl) ?_
  refine GM_iload (pc := 74) 5 rfl (daX11_since_0 42 rfl) ?_
  obtain ⟨hc1, h⟩ := chk_inv h
  obtain ⟨μ2, hf2, h⟩ := Option.bind_eq_some_iff.mp h
  refine GM_callV0 (pc := 76) [(0, v4), (0, v5), (0, v7)] (tX11_finds l hf2) cwX11_finds 11 (Nat.le_of_ble_eq_true rfl) rfl kv_X11_finds ke_X11_finds km_X11_298 hc1 ⟨Nat.le_of_ble_eq_true rfl, Nat.le_of_ble_eq_true rfl⟩ (Nat.le_of_ble_eq_true rfl) (Nat.le_of_ble_eq_true rfl) (daX11_since_0 43 rfl) ?_
  refine GM_aload_n (pc := 79) 0 rfl (daX11_since_0 44 rfl) rfl ?_
  refine GM_getf (pc := 80) 11 18 0 18 kf_X11_292 (Nat.le_of_ble_eq_true rfl) (Nat.le_of_ble_eq_true rfl) rfl (daX11_since_0 45 rfl) hc1 rfl ?_
  refine GM_if_le (pc := 83) 91 (daX11_since_0 46 rfl) rfl (fun c3 => ?_) (fun c3 => ?_)
  · skip
    rw [if_pos c3] at h
    refine GM_iload (pc := 91) 4 rfl (daX11_since_0 49 rfl) ?_
    refine GM_istore (L' := [(6, (0, v6)), (0, (3, v0)), (3, (0, v3)), (4, (0, v4)), (5, (0, v5)), (7, (0, v7))]) (pc := 93) (daX11_since_0 50 rfl) (Nat.le_of_ble_eq_true rfl) rfl ?_
    refine GM_iinc (L' := [(7, (0, w32 (v7 + 1))), (6, (0, v6)), (0, (3, v0)), (3, (0, v3)), (4, (0, v4)), (5, (0, v5))]) (pc := 95) 5 rfl (daX11_since_0 51 rfl) (Nat.le_of_ble_eq_true rfl) rfl ?_
    refine GM_goto (pc := 98) 45 (daX11_since_0 52 rfl) rfl ?_
    refine GM_pick [2, 3, 4, 5, 1, 0] rfl ?_
    cases h
    exact hK
  · skip
    rw [if_neg c3] at h
    refine GM_iload (pc := 86) 5 rfl (daX11_since_0 47 rfl) ?_
    refine GM_goto (pc := 88) 93 (daX11_since_0 48 rfl) rfl ?_
    refine GM_istore (L' := [(6, (0, v7)), (0, (3, v0)), (3, (0, v3)), (4, (0, v4)), (5, (0, v5)), (7, (0, v7))]) (pc := 93) (daX11_since_0 50 rfl) (Nat.le_of_ble_eq_true rfl) rfl ?_
    refine GM_iinc (L' := [(7, (0, w32 (v7 + 1))), (6, (0, v7)), (0, (3, v0)), (3, (0, v3)), (4, (0, v4)), (5, (0, v5))]) (pc := 95) 5 rfl (daX11_since_0 51 rfl) (Nat.le_of_ble_eq_true rfl) rfl ?_
    refine GM_goto (pc := 98) 45 (daX11_since_0 52 rfl) rfl ?_
    refine GM_pick [2, 3, 4, 5, 1, 0] rfl ?_
    cases h
    exact hK
set_option maxRecDepth 20000 in
theorem qX11_since_45 (l : Launch) (F : FI) (v0 v3 v4 v5 : Int) (k n : Nat) : ∀ (q : (Int × Int × Mm)) (t : ((Int × Int × Mm) ⊕ (Int × Mm))), sX11_since_45 v0 v3 v4 v5 q = some t → zX11_since_45 l F v0 v3 v4 v5 k n t → zX11_since_45 l F v0 v3 v4 v5 k n (.inl q) := by
  intro q t h hK
  obtain ⟨v6, v7, μ⟩ := q
  unfold sX11_since_45 at h
  try dsimp only at h
  show GM l mX11_since F k n 45 [(0, (3, v0)), (3, (0, v3)), (4, (0, v4)), (5, (0, v5)), (6, (0, v6)), (7, (0, v7))] [] μ
  refine GM_iload (pc := 45) 5 rfl (daX11_since_0 27 rfl) ?_
  refine GM_aload_n (pc := 47) 0 rfl (daX11_since_0 28 rfl) rfl ?_
  obtain ⟨hc4, h⟩ := chk_inv h
  refine GM_getf (pc := 48) 11 0 3 0 kf_X11_7 (Nat.le_of_ble_eq_true rfl) (Nat.le_of_ble_eq_true rfl) rfl (daX11_since_0 29 rfl) hc4 rfl ?_
  refine GM_iload (pc := 51) 3 rfl (daX11_since_0 30 rfl) ?_
  refine GM_bipush (pc := 53) 6 (daX11_since_0 31 rfl) rfl (R32_b rfl) ?_
  refine GM_iadd (pc := 55) (daX11_since_0 32 rfl) ?_
  obtain ⟨hc5, h⟩ := chk_inv h
  refine GM_iald (pc := 56) (daX11_since_0 33 rfl) hc5.1 hc5.2.1 hc5.2.2 ?_
  refine GM_icmp_gt (pc := 57) 101 (daX11_since_0 34 rfl) rfl (fun c6 => ?_) (fun c6 => ?_)
  · skip
    rw [if_pos c6] at h
    refine GM_pick [4] rfl ?_
    cases h
    exact hK
  · skip
    rw [if_neg c6] at h
    refine GM_iload_n (pc := 60) 1 rfl (daX11_since_0 35 rfl) rfl ?_
    refine GM_if_ne (pc := 61) 69 (daX11_since_0 36 rfl) rfl (fun c7 => ?_) (fun c7 => ?_)
    · skip
      rw [if_neg c7] at h
      exact gX11_since_69 l h hK
    · skip
      rw [if_pos c7] at h
      refine GM_iload (pc := 64) 4 rfl (daX11_since_0 37 rfl) ?_
      refine GM_if_ge (pc := 66) 101 (daX11_since_0 38 rfl) rfl (fun c8 => ?_) (fun c8 => ?_)
      · skip
        rw [if_pos c8] at h
        refine GM_pick [4] rfl ?_
        cases h
        exact hK
      · skip
        rw [if_neg c8] at h
        exact gX11_since_69 l h hK
set_option maxRecDepth 20000 in
theorem gX11_since_0 (l : Launch) {F : FI} {v0 v1 v2 v3 : Int} {μ : Mm} {t : (Int × Mm)} (h : fX11_since v0 v1 v2 v3 μ = some t) (hK : F.1 = [(0, t.1)] ∧ F.2.1 = t.2) : GM l mX11_since F 0 0 0 [(0, (3, v0)), (1, (0, v1)), (2, (0, v2)), (3, (0, v3))] [] μ := by
  unfold fX11_since at h
  refine GM_aload_n (pc := 0) 0 rfl (daX11_since_0 0 rfl) rfl ?_
  refine GM_iload_n (pc := 1) 1 rfl (daX11_since_0 1 rfl) rfl ?_
  refine GM_iload_n (pc := 2) 2 rfl (daX11_since_0 2 rfl) rfl ?_
  obtain ⟨hc9, h⟩ := chk_inv h
  obtain ⟨r10, hf10, h⟩ := Option.bind_eq_some_iff.mp h
  refine GM_callV0 (pc := 3) [(0, v1), (0, v2)] (tX11_areBoth l hf10) cwX11_areBoth 11 (Nat.le_of_ble_eq_true rfl) rfl kv_X11_areBoth ke_X11_areBoth km_X11_283 hc9 ⟨Nat.le_of_ble_eq_true rfl, Nat.le_of_ble_eq_true rfl⟩ (Nat.le_of_ble_eq_true rfl) (Nat.le_of_ble_eq_true rfl) (daX11_since_0 3 rfl) ?_
  refine GM_if_ne (pc := 6) 11 (daX11_since_0 4 rfl) rfl (fun c11 => ?_) (fun c11 => ?_)
  · skip
    rw [if_neg c11] at h
    refine GM_iconst (pc := 11) 0 (daX11_since_0 7 rfl) rfl (R32_b rfl) ?_
    refine GM_iload_n (pc := 12) 1 rfl (daX11_since_0 8 rfl) rfl ?_
    obtain ⟨r12, hf12, h⟩ := Option.bind_eq_some_iff.mp h
    refine GM_callS0 (pc := 13) [(0, 0), (0, v1)] (tX11_placeOf l hf12) cwX11_placeOf ks_X11_placeOf km_X11_204 ⟨Nat.le_of_ble_eq_true rfl, Nat.le_of_ble_eq_true rfl⟩ (Nat.le_of_ble_eq_true rfl) (Nat.le_of_ble_eq_true rfl) (daX11_since_0 9 rfl) ?_
    refine GM_istore (L' := [(4, (0, r12)), (0, (3, v0)), (1, (0, v1)), (2, (0, v2)), (3, (0, v3))]) (pc := 16) (daX11_since_0 10 rfl) (Nat.le_of_ble_eq_true rfl) rfl ?_
    refine GM_iconst (pc := 18) 1 (daX11_since_0 11 rfl) rfl (R32_b rfl) ?_
    refine GM_iload_n (pc := 19) 3 rfl (daX11_since_0 12 rfl) rfl ?_
    obtain ⟨r13, hf13, h⟩ := Option.bind_eq_some_iff.mp h
    refine GM_callS0 (pc := 20) [(0, 1), (0, v2)] (tX11_placeOf l hf13) cwX11_placeOf ks_X11_placeOf km_X11_204 ⟨Nat.le_of_ble_eq_true rfl, Nat.le_of_ble_eq_true rfl⟩ (Nat.le_of_ble_eq_true rfl) (Nat.le_of_ble_eq_true rfl) (daX11_since_0 13 rfl) ?_
    refine GM_istore (L' := [(5, (0, r13)), (4, (0, r12)), (0, (3, v0)), (1, (0, v1)), (2, (0, v2)), (3, (0, v3))]) (pc := 23) (daX11_since_0 14 rfl) (Nat.le_of_ble_eq_true rfl) rfl ?_
    refine GM_aload_n (pc := 25) 2 rfl (daX11_since_0 15 rfl) rfl ?_
    refine GM_iload (pc := 26) 1 rfl (daX11_since_0 16 rfl) ?_
    obtain ⟨μ14, hf14, h⟩ := Option.bind_eq_some_iff.mp h
    refine GM_callV0 (pc := 28) [(0, r12)] (tX11_survey l hf14) cwX11_survey 11 (Nat.le_of_ble_eq_true rfl) rfl kv_X11_survey ke_X11_survey km_X11_295 hc9 ⟨Nat.le_of_ble_eq_true rfl, Nat.le_of_ble_eq_true rfl⟩ (Nat.le_of_ble_eq_true rfl) (Nat.le_of_ble_eq_true rfl) (daX11_since_0 17 rfl) ?_
    refine GM_iconst (pc := 31) (-1) (daX11_since_0 18 rfl) rfl (R32_b rfl) ?_
    refine GM_istore (L' := [(6, (0, (-1))), (5, (0, r13)), (4, (0, r12)), (0, (3, v0)), (1, (0, v1)), (2, (0, v2)), (3, (0, v3))]) (pc := 32) (daX11_since_0 19 rfl) (Nat.le_of_ble_eq_true rfl) rfl ?_
    refine GM_aload_n (pc := 34) 3 rfl (daX11_since_0 20 rfl) rfl ?_
    refine GM_getf (pc := 35) 11 0 3 0 kf_X11_7 (Nat.le_of_ble_eq_true rfl) (Nat.le_of_ble_eq_true rfl) rfl (daX11_since_0 21 rfl) hc9 rfl ?_
    refine GM_iload (pc := 38) 1 rfl (daX11_since_0 22 rfl) ?_
    refine GM_iconst (pc := 40) 5 (daX11_since_0 23 rfl) rfl (R32_b rfl) ?_
    refine GM_iadd (pc := 41) (daX11_since_0 24 rfl) ?_
    obtain ⟨hc15, h⟩ := chk_inv h
    refine GM_iald (pc := 42) (daX11_since_0 25 rfl) hc15.1 hc15.2.1 hc15.2.2 ?_
    obtain ⟨y16, hy16, h⟩ := lt_inv h
    refine GM_top hy16 ?_
    refine GM_istore (L' := [(7, (0, y16)), (6, (0, (-1))), (5, (0, r13)), (4, (0, r12)), (0, (3, v0)), (1, (0, v1)), (2, (0, v2)), (3, (0, v3))]) (pc := 43) (daX11_since_0 26 rfl) (Nat.le_of_ble_eq_true rfl) rfl ?_
    refine GM_pick [4, 7, 3, 2, 1, 0] rfl ?_
    obtain ⟨x17, hqx17, h⟩ := Option.bind_eq_some_iff.mp h
    refine lop_ind (zX11_since_45 l F v0 v3 r12 r13 0 0) (qX11_since_45 l F v0 v3 r12 r13 0 0) FU _ x17 hqx17 ?_
    obtain ⟨v6_18, μ_18⟩ := x17
    dsimp only at h
    show GM l mX11_since F 0 0 101 [(6, (0, v6_18))] [] μ_18
    refine GM_iload (pc := 101) 0 rfl (daX11_since_0 53 rfl) ?_
    cases h
    exact GM_iret (pc := 103) (daX11_since_0 54 rfl) rfl hK
  · skip
    rw [if_pos c11] at h
    refine GM_iconst (pc := 9) (-1) (daX11_since_0 5 rfl) rfl (R32_b rfl) ?_
    cases h
    exact GM_iret (pc := 10) (daX11_since_0 6 rfl) rfl hK
theorem tX11_since (l : Launch) {v0 v1 v2 v3 : Int} {μ : Mm} {t : (Int × Mm)} (h : fX11_since v0 v1 v2 v3 μ = some t) : Ct l yX11_since mX11_since [(3, v0), (0, v1), (0, v2), (0, v3)] μ ([(0, t.1)], t.2, 0, 0) :=
  Ct_of (by decide +kernel) rfl rfl (Nat.le_of_ble_eq_true rfl) (fun _ _ _ => trivial) (gX11_since_0 l h ⟨rfl, rfl⟩)
def mX11_findsBoth : MI := (RX11, cX11_findsBoth, 6, (some .boolean), "findsBoth", 11, 289, fun _ _ _ => True)
theorem cwX11_findsBoth : CWd yX11_findsBoth mX11_findsBoth 3 := ⟨ki_X11, kk_X11_findsBoth, ⟨by decide, by decide⟩, rfl⟩
def dtX11_findsBoth_0 : List (Nat × Instr × Nat) := [(0, .aload_n 0, 1), (1, .iload_n 1, 1), (2, .iload_n 2, 1), (3, .invokevirtual 283, 3), (6, .ifCond .eq 12, 3), (9, .aload_n 0, 1), (10, .iconst 1, 1), (11, .iload_n 3, 1), (12, .invokevirtual 182, 3), (15, .ifCond .ne 5, 3), (18, .iconst 0, 1), (19, .ireturn, 1), (20, .iconst 0, 1), (21, .iload_n 1, 1), (22, .invokestatic 204, 3), (25, .istore 4, 2), (27, .aload_n 0, 1), (28, .iload 4, 2), (30, .invokevirtual 295, 3), (33, .aload_n 0, 1), (34, .iload 4, 2), (36, .iconst 1, 1), (37, .iload_n 3, 1), (38, .invokestatic 204, 3), (41, .iconst (-1), 1), (42, .invokevirtual 298, 3), (45, .aload_n 0, 1), (46, .aload_n 0, 1), (47, .getfield 292, 3), (50, .putfield 324, 3), (53, .iconst 0, 1), (54, .istore 5, 2), (56, .iload 5, 2), (58, .aload_n 0, 1), (59, .getfield 292, 3), (62, .if_icmp .ge 23, 3), (65, .aload_n 0, 1), (66, .getfield 38, 3), (69, .iload 5, 2), (71, .aload_n 0, 1), (72, .getfield 35, 3), (75, .iload 5, 2), (77, .iaload, 1), (78, .iastore, 1), (79, .iinc 5 1, 3), (82, .goto (-26), 3), (85, .aload_n 0, 1), (86, .iload 4, 2), (88, .iconst 1, 1), (89, .iload_n 2, 1), (90, .invokestatic 204, 3), (93, .iconst (-1), 1), (94, .invokevirtual 298, 3), (97, .iconst 1, 1), (98, .ireturn, 1)]
theorem ddX11_findsBoth_0 : (dtX11_findsBoth_0.all fun e => decide (decode mX11_findsBoth.2.1 e.1 = .ok (e.2.1, e.2.2))) = true := by decide +kernel
theorem daX11_findsBoth_0 (j : Nat) {pc n : Nat} {i : Instr} (h : dtX11_findsBoth_0[j]? = some (pc, i, n)) : decode mX11_findsBoth.2.1 pc = .ok (i, n) := dec_of (c := mX11_findsBoth.2.1) ddX11_findsBoth_0 h
def zX11_findsBoth_56 (l : Launch) (F : FI) (v0 v2 v4 : Int) (k n : Nat) : (Int × Mm) ⊕ Mm → Prop
  | .inl (v5, μ) => GM l mX11_findsBoth F k n 56 [(0, (3, v0)), (2, (0, v2)), (4, (0, v4)), (5, (0, v5))] [] μ
  | .inr μ => GM l mX11_findsBoth F k n 85 [(0, (3, v0)), (2, (0, v2)), (4, (0, v4))] [] μ
def sX11_findsBoth_56 (v0 v2 v4 : Int) : (Int × Mm) → Option ((Int × Mm) ⊕ Mm) := fun (v5, μ) =>
  chk (KD v0 = 11) (
  if μ v0 18 ≤ v5 then
    some (.inr μ)
  else
    chk (KD (μ v0 19) = 12 ∧ 0 ≤ v5 ∧ v5 < LN (μ v0 19)) (
    chk (KD (μ v0 21) = 12 ∧ v5 < LN (μ v0 21)) (
    lm (mst μ (μ v0 21) v5 (μ (μ v0 19) v5)) fun μ5 =>
    some (.inl (w32 (v5 + 1), μ5)))))
def fX11_findsBoth (v0 v1 v2 v3 : Int) (μ : Mm) : Option (Int × Mm) :=
  chk (KD v0 = 11) (
  (fX11_areBoth v0 v1 v2 μ).bind fun r7 =>
  if r7 = 0 then
    some (0, μ)
  else
    (fX11_isOf v0 1 v3 μ).bind fun r9 =>
    if r9 = 0 then
      some (0, μ)
    else
      (fX11_placeOf 0 v1).bind fun r11 =>
      (fX11_survey v0 r11 μ).bind fun μ12 =>
      (fX11_placeOf 1 v3).bind fun r13 =>
      (fX11_finds v0 r11 r13 (-1) μ12).bind fun μ14 =>
      lm (mst μ14 v0 20 (μ14 v0 18)) fun μ15 =>
      (lop (sX11_findsBoth_56 v0 v2 r11) FU (0, μ15)).bind fun μ_17 =>
        (fX11_placeOf 1 v2).bind fun r18 =>
        (fX11_finds v0 r11 r18 (-1) μ_17).bind fun μ19 =>
        some (1, μ19))
set_option maxRecDepth 20000 in
theorem qX11_findsBoth_56 (l : Launch) (F : FI) (v0 v2 v4 : Int) (k n : Nat) : ∀ (q : (Int × Mm)) (t : ((Int × Mm) ⊕ Mm)), sX11_findsBoth_56 v0 v2 v4 q = some t → zX11_findsBoth_56 l F v0 v2 v4 k n t → zX11_findsBoth_56 l F v0 v2 v4 k n (.inl q) := by
  intro q t h hK
  obtain ⟨v5, μ⟩ := q
  unfold sX11_findsBoth_56 at h
  try dsimp only at h
  show GM l mX11_findsBoth F k n 56 [(0, (3, v0)), (2, (0, v2)), (4, (0, v4)), (5, (0, v5))] [] μ
  refine GM_iload (pc := 56) 3 rfl (daX11_findsBoth_0 32 rfl) ?_
  refine GM_aload_n (pc := 58) 0 rfl (daX11_findsBoth_0 33 rfl) rfl ?_
  obtain ⟨hc1, h⟩ := chk_inv h
  refine GM_getf (pc := 59) 11 18 0 18 kf_X11_292 (Nat.le_of_ble_eq_true rfl) (Nat.le_of_ble_eq_true rfl) rfl (daX11_findsBoth_0 34 rfl) hc1 rfl ?_
  refine GM_icmp_ge (pc := 62) 85 (daX11_findsBoth_0 35 rfl) rfl (fun c2 => ?_) (fun c2 => ?_)
  · skip
    rw [if_pos c2] at h
    refine GM_pick [0, 1, 2] rfl ?_
    cases h
    exact hK
  · skip
    rw [if_neg c2] at h
    refine GM_aload_n (pc := 65) 0 rfl (daX11_findsBoth_0 36 rfl) rfl ?_
    refine GM_getf (pc := 66) 11 21 3 21 kf_X11_38 (Nat.le_of_ble_eq_true rfl) (Nat.le_of_ble_eq_true rfl) rfl (daX11_findsBoth_0 37 rfl) hc1 rfl ?_
    refine GM_iload (pc := 69) 3 rfl (daX11_findsBoth_0 38 rfl) ?_
    refine GM_aload_n (pc := 71) 0 rfl (daX11_findsBoth_0 39 rfl) rfl ?_
    refine GM_getf (pc := 72) 11 19 3 19 kf_X11_35 (Nat.le_of_ble_eq_true rfl) (Nat.le_of_ble_eq_true rfl) rfl (daX11_findsBoth_0 40 rfl) hc1 rfl ?_
    refine GM_iload (pc := 75) 3 rfl (daX11_findsBoth_0 41 rfl) ?_
    obtain ⟨hc3, h⟩ := chk_inv h
    refine GM_iald (pc := 77) (daX11_findsBoth_0 42 rfl) hc3.1 hc3.2.1 hc3.2.2 ?_
    obtain ⟨hc4, h⟩ := chk_inv h
    obtain ⟨μ5, hμ5, h⟩ := lm_inv h
    refine GM_iast (pc := 78) (daX11_findsBoth_0 43 rfl) hc4.1 hc3.2.1 hc4.2 ?_
    refine GM_mem hμ5 ?_
    refine GM_iinc (L' := [(5, (0, w32 (v5 + 1))), (0, (3, v0)), (2, (0, v2)), (4, (0, v4))]) (pc := 79) 3 rfl (daX11_findsBoth_0 44 rfl) (Nat.le_of_ble_eq_true rfl) rfl ?_
    refine GM_goto (pc := 82) 56 (daX11_findsBoth_0 45 rfl) rfl ?_
    refine GM_pick [1, 2, 3, 0] rfl ?_
    cases h
    exact hK
set_option maxRecDepth 20000 in
theorem gX11_findsBoth_0 (l : Launch) {F : FI} {v0 v1 v2 v3 : Int} {μ : Mm} {t : (Int × Mm)} (h : fX11_findsBoth v0 v1 v2 v3 μ = some t) (hK : F.1 = [(0, t.1)] ∧ F.2.1 = t.2) : GM l mX11_findsBoth F 0 0 0 [(0, (3, v0)), (1, (0, v1)), (2, (0, v2)), (3, (0, v3))] [] μ := by
  unfold fX11_findsBoth at h
  refine GM_aload_n (pc := 0) 0 rfl (daX11_findsBoth_0 0 rfl) rfl ?_
  refine GM_iload_n (pc := 1) 1 rfl (daX11_findsBoth_0 1 rfl) rfl ?_
  refine GM_iload_n (pc := 2) 2 rfl (daX11_findsBoth_0 2 rfl) rfl ?_
  obtain ⟨hc6, h⟩ := chk_inv h
  obtain ⟨r7, hf7, h⟩ := Option.bind_eq_some_iff.mp h
  refine GM_callV0 (pc := 3) [(0, v1), (0, v2)] (tX11_areBoth l hf7) cwX11_areBoth 11 (Nat.le_of_ble_eq_true rfl) rfl kv_X11_areBoth ke_X11_areBoth km_X11_283 hc6 ⟨Nat.le_of_ble_eq_true rfl, Nat.le_of_ble_eq_true rfl⟩ (Nat.le_of_ble_eq_true rfl) (Nat.le_of_ble_eq_true rfl) (daX11_findsBoth_0 3 rfl) ?_
  refine GM_if_eq (pc := 6) 18 (daX11_findsBoth_0 4 rfl) rfl (fun c8 => ?_) (fun c8 => ?_)
  · skip
    rw [if_pos c8] at h
    refine GM_iconst (pc := 18) 0 (daX11_findsBoth_0 10 rfl) rfl (R32_b rfl) ?_
    cases h
    exact GM_zret (pc := 19) (daX11_findsBoth_0 11 rfl) rfl (Or.inl rfl) hK
  · skip
    rw [if_neg c8] at h
    refine GM_aload_n (pc := 9) 0 rfl (daX11_findsBoth_0 5 rfl) rfl ?_
    refine GM_iconst (pc := 10) 1 (daX11_findsBoth_0 6 rfl) rfl (R32_b rfl) ?_
    refine GM_iload_n (pc := 11) 3 rfl (daX11_findsBoth_0 7 rfl) rfl ?_
    obtain ⟨r9, hf9, h⟩ := Option.bind_eq_some_iff.mp h
    refine GM_callV0 (pc := 12) [(0, 1), (0, v3)] (tX11_isOf l hf9) cwX11_isOf 11 (Nat.le_of_ble_eq_true rfl) rfl kv_X11_isOf ke_X11_isOf km_X11_182 hc6 ⟨Nat.le_of_ble_eq_true rfl, Nat.le_of_ble_eq_true rfl⟩ (Nat.le_of_ble_eq_true rfl) (Nat.le_of_ble_eq_true rfl) (daX11_findsBoth_0 8 rfl) ?_
    refine GM_if_ne (pc := 15) 20 (daX11_findsBoth_0 9 rfl) rfl (fun c10 => ?_) (fun c10 => ?_)
    · skip
      rw [if_neg c10] at h
      refine GM_iconst (pc := 20) 0 (daX11_findsBoth_0 12 rfl) rfl (R32_b rfl) ?_
      refine GM_iload_n (pc := 21) 1 rfl (daX11_findsBoth_0 13 rfl) rfl ?_
      obtain ⟨r11, hf11, h⟩ := Option.bind_eq_some_iff.mp h
      refine GM_callS0 (pc := 22) [(0, 0), (0, v1)] (tX11_placeOf l hf11) cwX11_placeOf ks_X11_placeOf km_X11_204 ⟨Nat.le_of_ble_eq_true rfl, Nat.le_of_ble_eq_true rfl⟩ (Nat.le_of_ble_eq_true rfl) (Nat.le_of_ble_eq_true rfl) (daX11_findsBoth_0 14 rfl) ?_
      refine GM_istore (L' := [(4, (0, r11)), (0, (3, v0)), (1, (0, v1)), (2, (0, v2)), (3, (0, v3))]) (pc := 25) (daX11_findsBoth_0 15 rfl) (Nat.le_of_ble_eq_true rfl) rfl ?_
      refine GM_aload_n (pc := 27) 1 rfl (daX11_findsBoth_0 16 rfl) rfl ?_
      refine GM_iload (pc := 28) 0 rfl (daX11_findsBoth_0 17 rfl) ?_
      obtain ⟨μ12, hf12, h⟩ := Option.bind_eq_some_iff.mp h
      refine GM_callV0 (pc := 30) [(0, r11)] (tX11_survey l hf12) cwX11_survey 11 (Nat.le_of_ble_eq_true rfl) rfl kv_X11_survey ke_X11_survey km_X11_295 hc6 ⟨Nat.le_of_ble_eq_true rfl, Nat.le_of_ble_eq_true rfl⟩ (Nat.le_of_ble_eq_true rfl) (Nat.le_of_ble_eq_true rfl) (daX11_findsBoth_0 18 rfl) ?_
      refine GM_aload_n (pc := 33) 1 rfl (daX11_findsBoth_0 19 rfl) rfl ?_
      refine GM_iload (pc := 34) 0 rfl (daX11_findsBoth_0 20 rfl) ?_
      refine GM_iconst (pc := 36) 1 (daX11_findsBoth_0 21 rfl) rfl (R32_b rfl) ?_
      refine GM_iload_n (pc := 37) 4 rfl (daX11_findsBoth_0 22 rfl) rfl ?_
      obtain ⟨r13, hf13, h⟩ := Option.bind_eq_some_iff.mp h
      refine GM_callS0 (pc := 38) [(0, 1), (0, v3)] (tX11_placeOf l hf13) cwX11_placeOf ks_X11_placeOf km_X11_204 ⟨Nat.le_of_ble_eq_true rfl, Nat.le_of_ble_eq_true rfl⟩ (Nat.le_of_ble_eq_true rfl) (Nat.le_of_ble_eq_true rfl) (daX11_findsBoth_0 23 rfl) ?_
      refine GM_iconst (pc := 41) (-1) (daX11_findsBoth_0 24 rfl) rfl (R32_b rfl) ?_
      obtain ⟨μ14, hf14, h⟩ := Option.bind_eq_some_iff.mp h
      refine GM_callV0 (pc := 42) [(0, r11), (0, r13), (0, (-1))] (tX11_finds l hf14) cwX11_finds 11 (Nat.le_of_ble_eq_true rfl) rfl kv_X11_finds ke_X11_finds km_X11_298 hc6 ⟨Nat.le_of_ble_eq_true rfl, Nat.le_of_ble_eq_true rfl⟩ (Nat.le_of_ble_eq_true rfl) (Nat.le_of_ble_eq_true rfl) (daX11_findsBoth_0 25 rfl) ?_
      refine GM_aload_n (pc := 45) 1 rfl (daX11_findsBoth_0 26 rfl) rfl ?_
      refine GM_aload_n (pc := 46) 1 rfl (daX11_findsBoth_0 27 rfl) rfl ?_
      refine GM_getf (pc := 47) 11 18 0 18 kf_X11_292 (Nat.le_of_ble_eq_true rfl) (Nat.le_of_ble_eq_true rfl) rfl (daX11_findsBoth_0 28 rfl) hc6 rfl ?_
      obtain ⟨μ15, hμ15, h⟩ := lm_inv h
      refine GM_putf (pc := 50) 11 20 0 kf_X11_324 (Nat.le_of_ble_eq_true rfl) (Nat.le_of_ble_eq_true rfl) rfl rfl (daX11_findsBoth_0 29 rfl) hc6 (fun q => absurd q (by decide)) ?_
      refine GM_mem hμ15 ?_
      refine GM_iconst (pc := 53) 0 (daX11_findsBoth_0 30 rfl) rfl (R32_b rfl) ?_
      refine GM_istore (L' := [(5, (0, 0)), (4, (0, r11)), (0, (3, v0)), (1, (0, v1)), (2, (0, v2)), (3, (0, v3))]) (pc := 54) (daX11_findsBoth_0 31 rfl) (Nat.le_of_ble_eq_true rfl) rfl ?_
      refine GM_pick [2, 4, 1, 0] rfl ?_
      obtain ⟨x16, hqx16, h⟩ := Option.bind_eq_some_iff.mp h
      refine lop_ind (zX11_findsBoth_56 l F v0 v2 r11 0 0) (qX11_findsBoth_56 l F v0 v2 r11 0 0) FU _ x16 hqx16 ?_
      obtain ⟨μ_17, hqq⟩ : ∃ z, z = x16 := ⟨x16, rfl⟩
      subst hqq
      show GM l mX11_findsBoth F 0 0 85 [(0, (3, v0)), (2, (0, v2)), (4, (0, r11))] [] μ_17
      refine GM_aload_n (pc := 85) 0 rfl (daX11_findsBoth_0 46 rfl) rfl ?_
      refine GM_iload (pc := 86) 2 rfl (daX11_findsBoth_0 47 rfl) ?_
      refine GM_iconst (pc := 88) 1 (daX11_findsBoth_0 48 rfl) rfl (R32_b rfl) ?_
      refine GM_iload_n (pc := 89) 1 rfl (daX11_findsBoth_0 49 rfl) rfl ?_
      obtain ⟨r18, hf18, h⟩ := Option.bind_eq_some_iff.mp h
      refine GM_callS0 (pc := 90) [(0, 1), (0, v2)] (tX11_placeOf l hf18) cwX11_placeOf ks_X11_placeOf km_X11_204 ⟨Nat.le_of_ble_eq_true rfl, Nat.le_of_ble_eq_true rfl⟩ (Nat.le_of_ble_eq_true rfl) (Nat.le_of_ble_eq_true rfl) (daX11_findsBoth_0 50 rfl) ?_
      refine GM_iconst (pc := 93) (-1) (daX11_findsBoth_0 51 rfl) rfl (R32_b rfl) ?_
      obtain ⟨μ19, hf19, h⟩ := Option.bind_eq_some_iff.mp h
      refine GM_callV0 (pc := 94) [(0, r11), (0, r18), (0, (-1))] (tX11_finds l hf19) cwX11_finds 11 (Nat.le_of_ble_eq_true rfl) rfl kv_X11_finds ke_X11_finds km_X11_298 hc6 ⟨Nat.le_of_ble_eq_true rfl, Nat.le_of_ble_eq_true rfl⟩ (Nat.le_of_ble_eq_true rfl) (Nat.le_of_ble_eq_true rfl) (daX11_findsBoth_0 52 rfl) ?_
      refine GM_iconst (pc := 97) 1 (daX11_findsBoth_0 53 rfl) rfl (R32_b rfl) ?_
      cases h
      exact GM_zret (pc := 98) (daX11_findsBoth_0 54 rfl) rfl (Or.inr rfl) hK
    · skip
      rw [if_pos c10] at h
      refine GM_iconst (pc := 18) 0 (daX11_findsBoth_0 10 rfl) rfl (R32_b rfl) ?_
      cases h
      exact GM_zret (pc := 19) (daX11_findsBoth_0 11 rfl) rfl (Or.inl rfl) hK
theorem tX11_findsBoth (l : Launch) {v0 v1 v2 v3 : Int} {μ : Mm} {t : (Int × Mm)} (h : fX11_findsBoth v0 v1 v2 v3 μ = some t) : Ct l yX11_findsBoth mX11_findsBoth [(3, v0), (0, v1), (0, v2), (0, v3)] μ ([(0, t.1)], t.2, 0, 0) :=
  Ct_of (by decide +kernel) rfl rfl (Nat.le_of_ble_eq_true rfl) (fun _ _ _ => trivial) (gX11_findsBoth_0 l h ⟨rfl, rfl⟩)
def mX11_pairs : MI := (RX11, cX11_pairs, 8, (some .int), "pairs", 12, 314, fun _ _ _ => True)
theorem cwX11_pairs : CWd yX11_pairs mX11_pairs 4 := ⟨ki_X11, kk_X11_pairs, ⟨by decide, by decide⟩, rfl⟩
def dtX11_pairs_0 : List (Nat × Instr × Nat) := [(0, .iload 4, 2), (2, .iconst 0, 1), (3, .sipush 999, 3), (6, .invokestatic 147, 3), (9, .ifCond .eq 13, 3), (12, .aload_n 0, 1), (13, .iload_n 1, 1), (14, .iload_n 2, 1), (15, .iload_n 3, 1), (16, .invokevirtual 327, 3), (19, .ifCond .ne 5, 3), (22, .iconst (-1), 1), (23, .ireturn, 1), (24, .iconst 0, 1), (25, .istore 5, 2), (27, .iconst 0, 1), (28, .istore 6, 2), (30, .iload 6, 2), (32, .aload_n 0, 1), (33, .getfield 292, 3), (36, .if_icmp .ge 65, 3), (39, .iconst 0, 1), (40, .istore 7, 2), (42, .iload 7, 2), (44, .aload_n 0, 1), (45, .getfield 324, 3), (48, .if_icmp .ge 47, 3), (51, .iload 5, 2), (53, .aload_n 0, 1), (54, .iconst 0, 1), (55, .iload_n 1, 1), (56, .invokestatic 204, 3), (59, .aload_n 0, 1), (60, .getfield 35, 3), (63, .iload 6, 2), (65, .iaload, 1), (66, .aload_n 0, 1), (67, .getfield 38, 3), (70, .iload 7, 2), (72, .iaload, 1), (73, .invokevirtual 220, 3), (76, .iload 4, 2), (78, .if_icmp .gt 7, 3), (81, .iconst 1, 1), (82, .goto 4, 3), (85, .iconst 0, 1), (86, .iadd, 1), (87, .istore 5, 2), (89, .iinc 7 1, 3), (92, .goto (-50), 3), (95, .iinc 6 1, 3), (98, .goto (-68), 3), (101, .iload 5, 2), (103, .ireturn, 1)]
theorem ddX11_pairs_0 : (dtX11_pairs_0.all fun e => decide (decode mX11_pairs.2.1 e.1 = .ok (e.2.1, e.2.2))) = true := by decide +kernel
theorem daX11_pairs_0 (j : Nat) {pc n : Nat} {i : Instr} (h : dtX11_pairs_0[j]? = some (pc, i, n)) : decode mX11_pairs.2.1 pc = .ok (i, n) := dec_of (c := mX11_pairs.2.1) ddX11_pairs_0 h
def zX11_pairs_42 (l : Launch) (F : FI) (v0 v1 v4 v6 : Int) (μ : Mm) (k n : Nat) : (Int × Int) ⊕ Int → Prop
  | .inl (v5, v7) => GM l mX11_pairs F k n 42 [(0, (3, v0)), (1, (0, v1)), (4, (0, v4)), (5, (0, v5)), (6, (0, v6)), (7, (0, v7))] [] μ
  | .inr v5 => GM l mX11_pairs F k n 95 [(0, (3, v0)), (1, (0, v1)), (4, (0, v4)), (5, (0, v5)), (6, (0, v6))] [] μ
def sX11_pairs_42 (v0 v1 v4 v6 : Int) (μ : Mm) : (Int × Int) → Option ((Int × Int) ⊕ Int) := fun (v5, v7) =>
  chk (KD v0 = 11) (
  if μ v0 20 ≤ v7 then
    some (.inr v5)
  else
    (fX11_placeOf 0 v1).bind fun r3 =>
    chk (KD (μ v0 19) = 12 ∧ 0 ≤ v6 ∧ v6 < LN (μ v0 19)) (
    chk (KD (μ v0 21) = 12 ∧ 0 ≤ v7 ∧ v7 < LN (μ v0 21)) (
    (fX11_farOf v0 r3 (μ (μ v0 19) v6) (μ (μ v0 21) v7) μ).bind fun r6 =>
    if v4 < r6 then
      some (.inl (w32 (v5 + 0), w32 (v7 + 1)))
    else
      some (.inl (w32 (v5 + 1), w32 (v7 + 1))))))
def zX11_pairs_30 (l : Launch) (F : FI) (v0 v1 v4 : Int) (μ : Mm) (k n : Nat) : (Int × Int) ⊕ Int → Prop
  | .inl (v5, v6) => GM l mX11_pairs F k n 30 [(0, (3, v0)), (1, (0, v1)), (4, (0, v4)), (5, (0, v5)), (6, (0, v6))] [] μ
  | .inr v5 => GM l mX11_pairs F k n 101 [(5, (0, v5))] [] μ
def sX11_pairs_30 (v0 v1 v4 : Int) (μ : Mm) : (Int × Int) → Option ((Int × Int) ⊕ Int) := fun (v5, v6) =>
  chk (KD v0 = 11) (
  if μ v0 18 ≤ v6 then
    some (.inr v5)
  else
    (lop (sX11_pairs_42 v0 v1 v4 v6 μ) FU (v5, 0)).bind fun v5_11 =>
      some (.inl (v5_11, w32 (v6 + 1))))
def fX11_pairs (v0 v1 v2 v3 v4 : Int) (μ : Mm) : Option (Int × Mm) :=
  if isIn v4 0 999 = 0 then
    some ((-1), μ)
  else
    chk (KD v0 = 11) (
    (fX11_findsBoth v0 v1 v2 v3 μ).bind fun (r14, μ14) =>
    if r14 = 0 then
      some ((-1), μ14)
    else
      (lop (sX11_pairs_30 v0 v1 v4 μ14) FU (0, 0)).bind fun v5_17 =>
        some (v5_17, μ14))
set_option maxRecDepth 20000 in
theorem qX11_pairs_42 (l : Launch) (F : FI) (v0 v1 v4 v6 : Int) (μ : Mm) (k n : Nat) : ∀ (q : (Int × Int)) (t : ((Int × Int) ⊕ Int)), sX11_pairs_42 v0 v1 v4 v6 μ q = some t → zX11_pairs_42 l F v0 v1 v4 v6 μ k n t → zX11_pairs_42 l F v0 v1 v4 v6 μ k n (.inl q) := by
  intro q t h hK
  obtain ⟨v5, v7⟩ := q
  unfold sX11_pairs_42 at h
  try dsimp only at h
  show GM l mX11_pairs F k n 42 [(0, (3, v0)), (1, (0, v1)), (4, (0, v4)), (5, (0, v5)), (6, (0, v6)), (7, (0, v7))] [] μ
  refine GM_iload (pc := 42) 5 rfl (daX11_pairs_0 23 rfl) ?_
  refine GM_aload_n (pc := 44) 0 rfl (daX11_pairs_0 24 rfl) rfl ?_
  obtain ⟨hc1, h⟩ := chk_inv h
  refine GM_getf (pc := 45) 11 20 0 20 kf_X11_324 (Nat.le_of_ble_eq_true rfl) (Nat.le_of_ble_eq_true rfl) rfl (daX11_pairs_0 25 rfl) hc1 rfl ?_
  refine GM_icmp_ge (pc := 48) 95 (daX11_pairs_0 26 rfl) rfl (fun c2 => ?_) (fun c2 => ?_)
  · skip
    rw [if_pos c2] at h
    refine GM_pick [0, 1, 2, 3, 4] rfl ?_
    cases h
    exact hK
  · skip
    rw [if_neg c2] at h
    refine GM_iload (pc := 51) 3 rfl (daX11_pairs_0 27 rfl) ?_
    refine GM_aload_n (pc := 53) 0 rfl (daX11_pairs_0 28 rfl) rfl ?_
    refine GM_iconst (pc := 54) 0 (daX11_pairs_0 29 rfl) rfl (R32_b rfl) ?_
    refine GM_iload_n (pc := 55) 1 rfl (daX11_pairs_0 30 rfl) rfl ?_
    obtain ⟨r3, hf3, h⟩ := Option.bind_eq_some_iff.mp h
    refine GM_callS0 (pc := 56) [(0, 0), (0, v1)] (tX11_placeOf l hf3) cwX11_placeOf ks_X11_placeOf km_X11_204 ⟨Nat.le_of_ble_eq_true rfl, Nat.le_of_ble_eq_true rfl⟩ (Nat.le_of_ble_eq_true rfl) (Nat.le_of_ble_eq_true rfl) (daX11_pairs_0 31 rfl) ?_
    refine GM_aload_n (pc := 59) 0 rfl (daX11_pairs_0 32 rfl) rfl ?_
    refine GM_getf (pc := 60) 11 19 3 19 kf_X11_35 (Nat.le_of_ble_eq_true rfl) (Nat.le_of_ble_eq_true rfl) rfl (daX11_pairs_0 33 rfl) hc1 rfl ?_
    refine GM_iload (pc := 63) 4 rfl (daX11_pairs_0 34 rfl) ?_
    obtain ⟨hc4, h⟩ := chk_inv h
    refine GM_iald (pc := 65) (daX11_pairs_0 35 rfl) hc4.1 hc4.2.1 hc4.2.2 ?_
    refine GM_aload_n (pc := 66) 0 rfl (daX11_pairs_0 36 rfl) rfl ?_
    refine GM_getf (pc := 67) 11 21 3 21 kf_X11_38 (Nat.le_of_ble_eq_true rfl) (Nat.le_of_ble_eq_true rfl) rfl (daX11_pairs_0 37 rfl) hc1 rfl ?_
    refine GM_iload (pc := 70) 5 rfl (daX11_pairs_0 38 rfl) ?_
    obtain ⟨hc5, h⟩ := chk_inv h
    refine GM_iald (pc := 72) (daX11_pairs_0 39 rfl) hc5.1 hc5.2.1 hc5.2.2 ?_
    obtain ⟨r6, hf6, h⟩ := Option.bind_eq_some_iff.mp h
    refine GM_callV0 (pc := 73) [(0, r3), (0, μ (μ v0 19) v6), (0, μ (μ v0 21) v7)] (tX11_farOf l hf6) cwX11_farOf 11 (Nat.le_of_ble_eq_true rfl) rfl kv_X11_farOf ke_X11_farOf km_X11_220 hc1 ⟨Nat.le_of_ble_eq_true rfl, Nat.le_of_ble_eq_true rfl⟩ (Nat.le_of_ble_eq_true rfl) (Nat.le_of_ble_eq_true rfl) (daX11_pairs_0 40 rfl) ?_
    refine GM_iload (pc := 76) 2 rfl (daX11_pairs_0 41 rfl) ?_
    refine GM_icmp_gt (pc := 78) 85 (daX11_pairs_0 42 rfl) rfl (fun c7 => ?_) (fun c7 => ?_)
    · skip
      rw [if_pos c7] at h
      refine GM_iconst (pc := 85) 0 (daX11_pairs_0 45 rfl) rfl (R32_b rfl) ?_
      refine GM_iadd (pc := 86) (daX11_pairs_0 46 rfl) ?_
      refine GM_istore (L' := [(5, (0, w32 (v5 + 0))), (0, (3, v0)), (1, (0, v1)), (4, (0, v4)), (6, (0, v6)), (7, (0, v7))]) (pc := 87) (daX11_pairs_0 47 rfl) (Nat.le_of_ble_eq_true rfl) rfl ?_
      refine GM_iinc (L' := [(7, (0, w32 (v7 + 1))), (5, (0, w32 (v5 + 0))), (0, (3, v0)), (1, (0, v1)), (4, (0, v4)), (6, (0, v6))]) (pc := 89) 5 rfl (daX11_pairs_0 48 rfl) (Nat.le_of_ble_eq_true rfl) rfl ?_
      refine GM_goto (pc := 92) 42 (daX11_pairs_0 49 rfl) rfl ?_
      refine GM_pick [2, 3, 4, 1, 5, 0] rfl ?_
      cases h
      exact hK
    · skip
      rw [if_neg c7] at h
      refine GM_iconst (pc := 81) 1 (daX11_pairs_0 43 rfl) rfl (R32_b rfl) ?_
      refine GM_goto (pc := 82) 86 (daX11_pairs_0 44 rfl) rfl ?_
      refine GM_iadd (pc := 86) (daX11_pairs_0 46 rfl) ?_
      refine GM_istore (L' := [(5, (0, w32 (v5 + 1))), (0, (3, v0)), (1, (0, v1)), (4, (0, v4)), (6, (0, v6)), (7, (0, v7))]) (pc := 87) (daX11_pairs_0 47 rfl) (Nat.le_of_ble_eq_true rfl) rfl ?_
      refine GM_iinc (L' := [(7, (0, w32 (v7 + 1))), (5, (0, w32 (v5 + 1))), (0, (3, v0)), (1, (0, v1)), (4, (0, v4)), (6, (0, v6))]) (pc := 89) 5 rfl (daX11_pairs_0 48 rfl) (Nat.le_of_ble_eq_true rfl) rfl ?_
      refine GM_goto (pc := 92) 42 (daX11_pairs_0 49 rfl) rfl ?_
      refine GM_pick [2, 3, 4, 1, 5, 0] rfl ?_
      cases h
      exact hK
set_option maxRecDepth 20000 in
theorem qX11_pairs_30 (l : Launch) (F : FI) (v0 v1 v4 : Int) (μ : Mm) (k n : Nat) : ∀ (q : (Int × Int)) (t : ((Int × Int) ⊕ Int)), sX11_pairs_30 v0 v1 v4 μ q = some t → zX11_pairs_30 l F v0 v1 v4 μ k n t → zX11_pairs_30 l F v0 v1 v4 μ k n (.inl q) := by
  intro q t h hK
  obtain ⟨v5, v6⟩ := q
  unfold sX11_pairs_30 at h
  try dsimp only at h
  show GM l mX11_pairs F k n 30 [(0, (3, v0)), (1, (0, v1)), (4, (0, v4)), (5, (0, v5)), (6, (0, v6))] [] μ
  refine GM_iload (pc := 30) 4 rfl (daX11_pairs_0 17 rfl) ?_
  refine GM_aload_n (pc := 32) 0 rfl (daX11_pairs_0 18 rfl) rfl ?_
  obtain ⟨hc8, h⟩ := chk_inv h
  refine GM_getf (pc := 33) 11 18 0 18 kf_X11_292 (Nat.le_of_ble_eq_true rfl) (Nat.le_of_ble_eq_true rfl) rfl (daX11_pairs_0 19 rfl) hc8 rfl ?_
  refine GM_icmp_ge (pc := 36) 101 (daX11_pairs_0 20 rfl) rfl (fun c9 => ?_) (fun c9 => ?_)
  · skip
    rw [if_pos c9] at h
    refine GM_pick [3] rfl ?_
    cases h
    exact hK
  · skip
    rw [if_neg c9] at h
    refine GM_iconst (pc := 39) 0 (daX11_pairs_0 21 rfl) rfl (R32_b rfl) ?_
    refine GM_istore (L' := [(7, (0, 0)), (0, (3, v0)), (1, (0, v1)), (4, (0, v4)), (5, (0, v5)), (6, (0, v6))]) (pc := 40) (daX11_pairs_0 22 rfl) (Nat.le_of_ble_eq_true rfl) rfl ?_
    refine GM_pick [1, 2, 3, 4, 5, 0] rfl ?_
    obtain ⟨x10, hqx10, h⟩ := Option.bind_eq_some_iff.mp h
    refine lop_ind (zX11_pairs_42 l F v0 v1 v4 v6 μ k n) (qX11_pairs_42 l F v0 v1 v4 v6 μ k n) FU _ x10 hqx10 ?_
    obtain ⟨v5_11, hqq⟩ : ∃ z, z = x10 := ⟨x10, rfl⟩
    subst hqq
    show GM l mX11_pairs F k n 95 [(0, (3, v0)), (1, (0, v1)), (4, (0, v4)), (5, (0, v5_11)), (6, (0, v6))] [] μ
    refine GM_iinc (L' := [(6, (0, w32 (v6 + 1))), (0, (3, v0)), (1, (0, v1)), (4, (0, v4)), (5, (0, v5_11))]) (pc := 95) 4 rfl (daX11_pairs_0 50 rfl) (Nat.le_of_ble_eq_true rfl) rfl ?_
    refine GM_goto (pc := 98) 30 (daX11_pairs_0 51 rfl) rfl ?_
    refine GM_pick [1, 2, 3, 4, 0] rfl ?_
    cases h
    exact hK
set_option maxRecDepth 20000 in
theorem gX11_pairs_0 (l : Launch) {F : FI} {v0 v1 v2 v3 v4 : Int} {μ : Mm} {t : (Int × Mm)} (h : fX11_pairs v0 v1 v2 v3 v4 μ = some t) (hK : F.1 = [(0, t.1)] ∧ F.2.1 = t.2) : GM l mX11_pairs F 0 0 0 [(0, (3, v0)), (1, (0, v1)), (2, (0, v2)), (3, (0, v3)), (4, (0, v4))] [] μ := by
  unfold fX11_pairs at h
  refine GM_iload (pc := 0) 4 rfl (daX11_pairs_0 0 rfl) ?_
  refine GM_iconst (pc := 2) 0 (daX11_pairs_0 1 rfl) rfl (R32_b rfl) ?_
  refine GM_sipush (pc := 3) 999 (daX11_pairs_0 2 rfl) rfl (R32_b rfl) ?_
  refine GM_callS0 (pc := 6) [(0, v4), (0, 0), (0, 999)] (tX11_isIn l (fX11_isIn_eq v4 0 999)) cwX11_isIn ks_X11_isIn km_X11_147 ⟨Nat.le_of_ble_eq_true rfl, Nat.le_of_ble_eq_true rfl⟩ (Nat.le_of_ble_eq_true rfl) (Nat.le_of_ble_eq_true rfl) (daX11_pairs_0 3 rfl) ?_
  refine GM_if_eq (pc := 9) 22 (daX11_pairs_0 4 rfl) rfl (fun c12 => ?_) (fun c12 => ?_)
  · skip
    rw [if_pos c12] at h
    refine GM_iconst (pc := 22) (-1) (daX11_pairs_0 11 rfl) rfl (R32_b rfl) ?_
    cases h
    exact GM_iret (pc := 23) (daX11_pairs_0 12 rfl) rfl hK
  · skip
    rw [if_neg c12] at h
    refine GM_aload_n (pc := 12) 0 rfl (daX11_pairs_0 5 rfl) rfl ?_
    refine GM_iload_n (pc := 13) 1 rfl (daX11_pairs_0 6 rfl) rfl ?_
    refine GM_iload_n (pc := 14) 2 rfl (daX11_pairs_0 7 rfl) rfl ?_
    refine GM_iload_n (pc := 15) 3 rfl (daX11_pairs_0 8 rfl) rfl ?_
    obtain ⟨hc13, h⟩ := chk_inv h
    obtain ⟨⟨r14, μ14⟩, hf14, h⟩ := Option.bind_eq_some_iff.mp h
    dsimp only at h
    refine GM_callV0 (pc := 16) [(0, v1), (0, v2), (0, v3)] (tX11_findsBoth l hf14) cwX11_findsBoth 11 (Nat.le_of_ble_eq_true rfl) rfl kv_X11_findsBoth ke_X11_findsBoth km_X11_327 hc13 ⟨Nat.le_of_ble_eq_true rfl, Nat.le_of_ble_eq_true rfl⟩ (Nat.le_of_ble_eq_true rfl) (Nat.le_of_ble_eq_true rfl) (daX11_pairs_0 9 rfl) ?_
    refine GM_if_ne (pc := 19) 24 (daX11_pairs_0 10 rfl) rfl (fun c15 => ?_) (fun c15 => ?_)
    · skip
      rw [if_neg c15] at h
      refine GM_iconst (pc := 24) 0 (daX11_pairs_0 13 rfl) rfl (R32_b rfl) ?_
      refine GM_istore (L' := [(5, (0, 0)), (0, (3, v0)), (1, (0, v1)), (2, (0, v2)), (3, (0, v3)), (4, (0, v4))]) (pc := 25) (daX11_pairs_0 14 rfl) (Nat.le_of_ble_eq_true rfl) rfl ?_
      refine GM_iconst (pc := 27) 0 (daX11_pairs_0 15 rfl) rfl (R32_b rfl) ?_
      refine GM_istore (L' := [(6, (0, 0)), (5, (0, 0)), (0, (3, v0)), (1, (0, v1)), (2, (0, v2)), (3, (0, v3)), (4, (0, v4))]) (pc := 28) (daX11_pairs_0 16 rfl) (Nat.le_of_ble_eq_true rfl) rfl ?_
      refine GM_pick [2, 3, 6, 1, 0] rfl ?_
      obtain ⟨x16, hqx16, h⟩ := Option.bind_eq_some_iff.mp h
      refine lop_ind (zX11_pairs_30 l F v0 v1 v4 μ14 0 0) (qX11_pairs_30 l F v0 v1 v4 μ14 0 0) FU _ x16 hqx16 ?_
      obtain ⟨v5_17, hqq⟩ : ∃ z, z = x16 := ⟨x16, rfl⟩
      subst hqq
      show GM l mX11_pairs F 0 0 101 [(5, (0, v5_17))] [] μ14
      refine GM_iload (pc := 101) 0 rfl (daX11_pairs_0 52 rfl) ?_
      cases h
      exact GM_iret (pc := 103) (daX11_pairs_0 53 rfl) rfl hK
    · skip
      rw [if_pos c15] at h
      refine GM_iconst (pc := 22) (-1) (daX11_pairs_0 11 rfl) rfl (R32_b rfl) ?_
      cases h
      exact GM_iret (pc := 23) (daX11_pairs_0 12 rfl) rfl hK
theorem tX11_pairs (l : Launch) {v0 v1 v2 v3 v4 : Int} {μ : Mm} {t : (Int × Mm)} (h : fX11_pairs v0 v1 v2 v3 v4 μ = some t) : Ct l yX11_pairs mX11_pairs [(3, v0), (0, v1), (0, v2), (0, v3), (0, v4)] μ ([(0, t.1)], t.2, 0, 0) :=
  Ct_of (by decide +kernel) rfl rfl (Nat.le_of_ble_eq_true rfl) (fun _ _ _ => trivial) (gX11_pairs_0 l h ⟨rfl, rfl⟩)
def mX11_noWay : MI := (RX11, cX11_noWay, 2, none, "noWay", 0, 0, fun _ _ _ => True)
theorem cwX11_noWay : CWd yX11_noWay mX11_noWay 0 := ⟨ki_X11, kk_X11_noWay, ⟨by decide, by decide⟩, rfl⟩
def dtX11_noWay_0 : List (Nat × Instr × Nat) := [(0, .aload_n 0, 1), (1, .iconst 0, 1), (2, .putfield 330, 3), (5, .iconst 0, 1), (6, .istore_n 1, 1), (7, .iload_n 1, 1), (8, .sipush 144, 3), (11, .if_icmp .ge 23, 3), (14, .aload_n 0, 1), (15, .getfield 47, 3), (18, .iload_n 1, 1), (19, .iconst (-1), 1), (20, .iastore, 1), (21, .aload_n 0, 1), (22, .getfield 53, 3), (25, .iload_n 1, 1), (26, .iconst 0, 1), (27, .bastore, 1), (28, .iinc 1 1, 3), (31, .goto (-24), 3), (34, .return_, 1)]
theorem ddX11_noWay_0 : (dtX11_noWay_0.all fun e => decide (decode mX11_noWay.2.1 e.1 = .ok (e.2.1, e.2.2))) = true := by decide +kernel
theorem daX11_noWay_0 (j : Nat) {pc n : Nat} {i : Instr} (h : dtX11_noWay_0[j]? = some (pc, i, n)) : decode mX11_noWay.2.1 pc = .ok (i, n) := dec_of (c := mX11_noWay.2.1) ddX11_noWay_0 h
def zX11_noWay_7 (l : Launch) (F : FI) (v0 : Int) (k n : Nat) : (Int × Mm) ⊕ Mm → Prop
  | .inl (v1, μ) => GM l mX11_noWay F k n 7 [(0, (3, v0)), (1, (0, v1))] [] μ
  | .inr μ => GM l mX11_noWay F k n 34 [] [] μ
def sX11_noWay_7 (v0 : Int) : (Int × Mm) → Option ((Int × Mm) ⊕ Mm) := fun (v1, μ) =>
  if 144 ≤ v1 then
    some (.inr μ)
  else
    chk (KD v0 = 11) (
    chk (KD (μ v0 25) = 12 ∧ 0 ≤ v1 ∧ v1 < LN (μ v0 25)) (
    lm (mst μ (μ v0 25) v1 (-1)) fun μ4 =>
    chk (KD (μ4 v0 28) = 14 ∧ v1 < LN (μ4 v0 28)) (
    lm (mst μ4 (μ4 v0 28) v1 0) fun μ6 =>
    some (.inl (w32 (v1 + 1), μ6)))))
def fX11_noWay (v0 : Int) (μ : Mm) : Option Mm :=
  chk (KD v0 = 11) (
  lm (mst μ v0 26 0) fun μ8 =>
  (lop (sX11_noWay_7 v0) FU (0, μ8)).bind fun μ_10 =>
    some μ_10)
set_option maxRecDepth 20000 in
theorem qX11_noWay_7 (l : Launch) (F : FI) (v0 : Int) (k n : Nat) : ∀ (q : (Int × Mm)) (t : ((Int × Mm) ⊕ Mm)), sX11_noWay_7 v0 q = some t → zX11_noWay_7 l F v0 k n t → zX11_noWay_7 l F v0 k n (.inl q) := by
  intro q t h hK
  obtain ⟨v1, μ⟩ := q
  unfold sX11_noWay_7 at h
  try dsimp only at h
  show GM l mX11_noWay F k n 7 [(0, (3, v0)), (1, (0, v1))] [] μ
  refine GM_iload_n (pc := 7) 1 rfl (daX11_noWay_0 5 rfl) rfl ?_
  refine GM_sipush (pc := 8) 144 (daX11_noWay_0 6 rfl) rfl (R32_b rfl) ?_
  refine GM_icmp_ge (pc := 11) 34 (daX11_noWay_0 7 rfl) rfl (fun c1 => ?_) (fun c1 => ?_)
  · skip
    rw [if_pos c1] at h
    refine GM_pick [] rfl ?_
    cases h
    exact hK
  · skip
    rw [if_neg c1] at h
    refine GM_aload_n (pc := 14) 0 rfl (daX11_noWay_0 8 rfl) rfl ?_
    obtain ⟨hc2, h⟩ := chk_inv h
    refine GM_getf (pc := 15) 11 25 3 25 kf_X11_47 (Nat.le_of_ble_eq_true rfl) (Nat.le_of_ble_eq_true rfl) rfl (daX11_noWay_0 9 rfl) hc2 rfl ?_
    refine GM_iload_n (pc := 18) 1 rfl (daX11_noWay_0 10 rfl) rfl ?_
    refine GM_iconst (pc := 19) (-1) (daX11_noWay_0 11 rfl) rfl (R32_b rfl) ?_
    obtain ⟨hc3, h⟩ := chk_inv h
    obtain ⟨μ4, hμ4, h⟩ := lm_inv h
    refine GM_iast (pc := 20) (daX11_noWay_0 12 rfl) hc3.1 hc3.2.1 hc3.2.2 ?_
    refine GM_mem hμ4 ?_
    refine GM_aload_n (pc := 21) 0 rfl (daX11_noWay_0 13 rfl) rfl ?_
    refine GM_getf (pc := 22) 11 28 3 28 kf_X11_53 (Nat.le_of_ble_eq_true rfl) (Nat.le_of_ble_eq_true rfl) rfl (daX11_noWay_0 14 rfl) hc2 rfl ?_
    refine GM_iload_n (pc := 25) 1 rfl (daX11_noWay_0 15 rfl) rfl ?_
    refine GM_iconst (pc := 26) 0 (daX11_noWay_0 16 rfl) rfl (R32_b rfl) ?_
    obtain ⟨hc5, h⟩ := chk_inv h
    obtain ⟨μ6, hμ6, h⟩ := lm_inv h
    refine GM_zast (pc := 27) (daX11_noWay_0 17 rfl) hc5.1 hc3.2.1 hc5.2 (Or.inl rfl) ?_
    refine GM_mem hμ6 ?_
    refine GM_iinc (L' := [(1, (0, w32 (v1 + 1))), (0, (3, v0))]) (pc := 28) 1 rfl (daX11_noWay_0 18 rfl) (Nat.le_of_ble_eq_true rfl) rfl ?_
    refine GM_goto (pc := 31) 7 (daX11_noWay_0 19 rfl) rfl ?_
    refine GM_pick [1, 0] rfl ?_
    cases h
    exact hK
set_option maxRecDepth 20000 in
theorem gX11_noWay_0 (l : Launch) {F : FI} {v0 : Int} {μ : Mm} {t : Mm} (h : fX11_noWay v0 μ = some t) (hK : F.1 = [] ∧ F.2.1 = t) : GM l mX11_noWay F 0 0 0 [(0, (3, v0))] [] μ := by
  unfold fX11_noWay at h
  refine GM_aload_n (pc := 0) 0 rfl (daX11_noWay_0 0 rfl) rfl ?_
  refine GM_iconst (pc := 1) 0 (daX11_noWay_0 1 rfl) rfl (R32_b rfl) ?_
  obtain ⟨hc7, h⟩ := chk_inv h
  obtain ⟨μ8, hμ8, h⟩ := lm_inv h
  refine GM_putf (pc := 2) 11 26 0 kf_X11_330 (Nat.le_of_ble_eq_true rfl) (Nat.le_of_ble_eq_true rfl) rfl rfl (daX11_noWay_0 2 rfl) hc7 (fun q => absurd q (by decide)) ?_
  refine GM_mem hμ8 ?_
  refine GM_iconst (pc := 5) 0 (daX11_noWay_0 3 rfl) rfl (R32_b rfl) ?_
  refine GM_istore_n (L' := [(1, (0, 0)), (0, (3, v0))]) (pc := 6) (daX11_noWay_0 4 rfl) rfl (Nat.le_of_ble_eq_true rfl) rfl ?_
  refine GM_pick [1, 0] rfl ?_
  obtain ⟨x9, hqx9, h⟩ := Option.bind_eq_some_iff.mp h
  refine lop_ind (zX11_noWay_7 l F v0 0 0) (qX11_noWay_7 l F v0 0 0) FU _ x9 hqx9 ?_
  obtain ⟨μ_10, hqq⟩ : ∃ z, z = x9 := ⟨x9, rfl⟩
  subst hqq
  show GM l mX11_noWay F 0 0 34 [] [] μ_10
  cases h
  exact GM_vret (pc := 34) (daX11_noWay_0 20 rfl) rfl hK
theorem tX11_noWay (l : Launch) {v0 : Int} {μ : Mm} {t : Mm} (h : fX11_noWay v0 μ = some t) : Ct l yX11_noWay mX11_noWay [(3, v0)] μ ([], t, 0, 0) :=
  Ct_of (by decide +kernel) rfl rfl (Nat.le_of_ble_eq_true rfl) (fun _ _ _ => trivial) (gX11_noWay_0 l h ⟨rfl, rfl⟩)
def mX11_comes : MI := (RX11, cX11_comes, 3, none, "comes", 0, 0, fun _ _ _ => True)
theorem cwX11_comes : CWd yX11_comes mX11_comes 2 := ⟨ki_X11, kk_X11_comes, ⟨by decide, by decide⟩, rfl⟩
def dtX11_comes_0 : List (Nat × Instr × Nat) := [(0, .aload_n 0, 1), (1, .getfield 47, 3), (4, .iload_n 1, 1), (5, .iaload, 1), (6, .ifCond .ge 12, 3), (9, .aload_n 0, 1), (10, .getfield 53, 3), (13, .iload_n 1, 1), (14, .baload, 1), (15, .ifCond .eq 4, 3), (18, .return_, 1), (19, .aload_n 0, 1), (20, .getfield 47, 3), (23, .iload_n 1, 1), (24, .iload_n 2, 1), (25, .iastore, 1), (26, .aload_n 0, 1), (27, .getfield 50, 3), (30, .aload_n 0, 1), (31, .getfield 330, 3), (34, .iload_n 1, 1), (35, .iastore, 1), (36, .aload_n 0, 1), (37, .dup, 1), (38, .getfield 330, 3), (41, .iconst 1, 1), (42, .iadd, 1), (43, .putfield 330, 3), (46, .return_, 1)]
theorem ddX11_comes_0 : (dtX11_comes_0.all fun e => decide (decode mX11_comes.2.1 e.1 = .ok (e.2.1, e.2.2))) = true := by decide +kernel
theorem daX11_comes_0 (j : Nat) {pc n : Nat} {i : Instr} (h : dtX11_comes_0[j]? = some (pc, i, n)) : decode mX11_comes.2.1 pc = .ok (i, n) := dec_of (c := mX11_comes.2.1) ddX11_comes_0 h
def fX11_comes (v0 v1 v2 : Int) (μ : Mm) : Option Mm :=
  chk (KD v0 = 11) (
  chk (KD (μ v0 25) = 12 ∧ 0 ≤ v1 ∧ v1 < LN (μ v0 25)) (
  if 0 ≤ μ (μ v0 25) v1 then
    some μ
  else
    chk (KD (μ v0 28) = 14 ∧ v1 < LN (μ v0 28)) (
    if μ (μ v0 28) v1 = 0 then
      lm (mst μ (μ v0 25) v1 v2) fun μ6 =>
      chk (KD (μ6 v0 27) = 12 ∧ 0 ≤ μ6 v0 26 ∧ μ6 v0 26 < LN (μ6 v0 27)) (
      lm (mst μ6 (μ6 v0 27) (μ6 v0 26) v1) fun μ8 =>
      lm (mst μ8 v0 26 (w32 ((μ8 v0 26) + 1))) fun μ9 =>
      some μ9)
    else
      some μ)))
set_option maxRecDepth 20000 in
theorem gX11_comes_0 (l : Launch) {F : FI} {v0 v1 v2 : Int} {μ : Mm} {t : Mm} (h : fX11_comes v0 v1 v2 μ = some t) (hK : F.1 = [] ∧ F.2.1 = t) : GM l mX11_comes F 0 0 0 [(0, (3, v0)), (1, (0, v1)), (2, (0, v2))] [] μ := by
  unfold fX11_comes at h
  refine GM_aload_n (pc := 0) 0 rfl (daX11_comes_0 0 rfl) rfl ?_
  obtain ⟨hc1, h⟩ := chk_inv h
  refine GM_getf (pc := 1) 11 25 3 25 kf_X11_47 (Nat.le_of_ble_eq_true rfl) (Nat.le_of_ble_eq_true rfl) rfl (daX11_comes_0 1 rfl) hc1 rfl ?_
  refine GM_iload_n (pc := 4) 1 rfl (daX11_comes_0 2 rfl) rfl ?_
  obtain ⟨hc2, h⟩ := chk_inv h
  refine GM_iald (pc := 5) (daX11_comes_0 3 rfl) hc2.1 hc2.2.1 hc2.2.2 ?_
  refine GM_if_ge (pc := 6) 18 (daX11_comes_0 4 rfl) rfl (fun c3 => ?_) (fun c3 => ?_)
  · skip
    rw [if_pos c3] at h
    cases h
    exact GM_vret (pc := 18) (daX11_comes_0 10 rfl) rfl hK
  · skip
    rw [if_neg c3] at h
    refine GM_aload_n (pc := 9) 0 rfl (daX11_comes_0 5 rfl) rfl ?_
    refine GM_getf (pc := 10) 11 28 3 28 kf_X11_53 (Nat.le_of_ble_eq_true rfl) (Nat.le_of_ble_eq_true rfl) rfl (daX11_comes_0 6 rfl) hc1 rfl ?_
    refine GM_iload_n (pc := 13) 1 rfl (daX11_comes_0 7 rfl) rfl ?_
    obtain ⟨hc4, h⟩ := chk_inv h
    refine GM_zald (pc := 14) (daX11_comes_0 8 rfl) hc4.1 hc2.2.1 hc4.2 ?_
    refine GM_if_eq (pc := 15) 19 (daX11_comes_0 9 rfl) rfl (fun c5 => ?_) (fun c5 => ?_)
    · skip
      rw [if_pos c5] at h
      refine GM_aload_n (pc := 19) 0 rfl (daX11_comes_0 11 rfl) rfl ?_
      refine GM_getf (pc := 20) 11 25 3 25 kf_X11_47 (Nat.le_of_ble_eq_true rfl) (Nat.le_of_ble_eq_true rfl) rfl (daX11_comes_0 12 rfl) hc1 rfl ?_
      refine GM_iload_n (pc := 23) 1 rfl (daX11_comes_0 13 rfl) rfl ?_
      refine GM_iload_n (pc := 24) 2 rfl (daX11_comes_0 14 rfl) rfl ?_
      obtain ⟨μ6, hμ6, h⟩ := lm_inv h
      refine GM_iast (pc := 25) (daX11_comes_0 15 rfl) hc2.1 hc2.2.1 hc2.2.2 ?_
      refine GM_mem hμ6 ?_
      refine GM_aload_n (pc := 26) 0 rfl (daX11_comes_0 16 rfl) rfl ?_
      refine GM_getf (pc := 27) 11 27 3 27 kf_X11_50 (Nat.le_of_ble_eq_true rfl) (Nat.le_of_ble_eq_true rfl) rfl (daX11_comes_0 17 rfl) hc1 rfl ?_
      refine GM_aload_n (pc := 30) 0 rfl (daX11_comes_0 18 rfl) rfl ?_
      refine GM_getf (pc := 31) 11 26 0 26 kf_X11_330 (Nat.le_of_ble_eq_true rfl) (Nat.le_of_ble_eq_true rfl) rfl (daX11_comes_0 19 rfl) hc1 rfl ?_
      refine GM_iload_n (pc := 34) 1 rfl (daX11_comes_0 20 rfl) rfl ?_
      obtain ⟨hc7, h⟩ := chk_inv h
      obtain ⟨μ8, hμ8, h⟩ := lm_inv h
      refine GM_iast (pc := 35) (daX11_comes_0 21 rfl) hc7.1 hc7.2.1 hc7.2.2 ?_
      refine GM_mem hμ8 ?_
      refine GM_aload_n (pc := 36) 0 rfl (daX11_comes_0 22 rfl) rfl ?_
      refine GM_dup (pc := 37) (daX11_comes_0 23 rfl) (Nat.ne_of_beq_eq_false rfl) ?_
      refine GM_getf (pc := 38) 11 26 0 26 kf_X11_330 (Nat.le_of_ble_eq_true rfl) (Nat.le_of_ble_eq_true rfl) rfl (daX11_comes_0 24 rfl) hc1 rfl ?_
      refine GM_iconst (pc := 41) 1 (daX11_comes_0 25 rfl) rfl (R32_b rfl) ?_
      refine GM_iadd (pc := 42) (daX11_comes_0 26 rfl) ?_
      obtain ⟨μ9, hμ9, h⟩ := lm_inv h
      refine GM_putf (pc := 43) 11 26 0 kf_X11_330 (Nat.le_of_ble_eq_true rfl) (Nat.le_of_ble_eq_true rfl) rfl rfl (daX11_comes_0 27 rfl) hc1 (fun q => absurd q (by decide)) ?_
      refine GM_mem hμ9 ?_
      cases h
      exact GM_vret (pc := 46) (daX11_comes_0 28 rfl) rfl hK
    · skip
      rw [if_neg c5] at h
      cases h
      exact GM_vret (pc := 18) (daX11_comes_0 10 rfl) rfl hK
theorem tX11_comes (l : Launch) {v0 v1 v2 : Int} {μ : Mm} {t : Mm} (h : fX11_comes v0 v1 v2 μ = some t) : Ct l yX11_comes mX11_comes [(3, v0), (0, v1), (0, v2)] μ ([], t, 0, 0) :=
  Ct_of (by decide +kernel) rfl rfl (Nat.le_of_ble_eq_true rfl) (fun _ _ _ => trivial) (gX11_comes_0 l h ⟨rfl, rfl⟩)
def mX11_beside : MI := (RX11, cX11_beside, 6, (some .int), "beside", 1, 22, fun _ _ _ => True)
theorem cwX11_beside : CWd yX11_beside mX11_beside 3 := ⟨ki_X11, kk_X11_beside, ⟨by decide, by decide⟩, rfl⟩
def dtX11_beside_0 : List (Nat × Instr × Nat) := [(0, .iload_n 2, 1), (1, .aload_n 0, 1), (2, .getfield 7, 3), (5, .iload_n 1, 1), (6, .iconst 0, 1), (7, .iadd, 1), (8, .iaload, 1), (9, .irem, 1), (10, .iload_n 3, 1), (11, .ifCond .ne 7, 3), (14, .iconst 1, 1), (15, .goto 13, 3), (18, .iload_n 3, 1), (19, .iconst 1, 1), (20, .if_icmp .ne 7, 3), (23, .iconst (-1), 1), (24, .goto 4, 3), (27, .iconst 0, 1), (28, .iadd, 1), (29, .istore 4, 2), (31, .iload_n 2, 1), (32, .aload_n 0, 1), (33, .getfield 7, 3), (36, .iload_n 1, 1), (37, .iconst 0, 1), (38, .iadd, 1), (39, .iaload, 1), (40, .idiv, 1), (41, .iload_n 3, 1), (42, .iconst 2, 1), (43, .if_icmp .ne 7, 3), (46, .iconst 1, 1), (47, .goto 13, 3), (50, .iload_n 3, 1), (51, .iconst 3, 1), (52, .if_icmp .ne 7, 3), (55, .iconst (-1), 1), (56, .goto 4, 3), (59, .iconst 0, 1), (60, .iadd, 1), (61, .istore 5, 2), (63, .iload 4, 2), (65, .iconst 0, 1), (66, .aload_n 0, 1), (67, .getfield 7, 3), (70, .iload_n 1, 1), (71, .iconst 0, 1), (72, .iadd, 1), (73, .iaload, 1), (74, .iconst 1, 1), (75, .isub, 1), (76, .invokestatic 147, 3), (79, .ifCond .eq 39, 3), (82, .iload 5, 2), (84, .iconst 0, 1), (85, .aload_n 0, 1), (86, .getfield 7, 3), (89, .iload_n 1, 1), (90, .iconst 1, 1), (91, .iadd, 1), (92, .iaload, 1), (93, .iconst 1, 1), (94, .isub, 1), (95, .invokestatic 147, 3)]
theorem ddX11_beside_0 : (dtX11_beside_0.all fun e => decide (decode mX11_beside.2.1 e.1 = .ok (e.2.1, e.2.2))) = true := by decide +kernel
theorem daX11_beside_0 (j : Nat) {pc n : Nat} {i : Instr} (h : dtX11_beside_0[j]? = some (pc, i, n)) : decode mX11_beside.2.1 pc = .ok (i, n) := dec_of (c := mX11_beside.2.1) ddX11_beside_0 h
def dtX11_beside_1 : List (Nat × Instr × Nat) := [(98, .ifCond .eq 20, 3), (101, .iload 5, 2), (103, .aload_n 0, 1), (104, .getfield 7, 3), (107, .iload_n 1, 1), (108, .iconst 0, 1), (109, .iadd, 1), (110, .iaload, 1), (111, .imul, 1), (112, .iload 4, 2), (114, .iadd, 1), (115, .goto 4, 3), (118, .iconst (-1), 1), (119, .ireturn, 1)]
theorem ddX11_beside_1 : (dtX11_beside_1.all fun e => decide (decode mX11_beside.2.1 e.1 = .ok (e.2.1, e.2.2))) = true := by decide +kernel
theorem daX11_beside_1 (j : Nat) {pc n : Nat} {i : Instr} (h : dtX11_beside_1[j]? = some (pc, i, n)) : decode mX11_beside.2.1 pc = .ok (i, n) := dec_of (c := mX11_beside.2.1) ddX11_beside_1 h
def jX11_beside_60 (v0 v1 v4 s0 s1 : Int) (μ : Mm) : Option Int :=
  chk (KD v0 = 11) (
  chk (KD (μ v0 0) = 12 ∧ 0 ≤ w32 (v1 + 0) ∧ w32 (v1 + 0) < LN (μ v0 0)) (
  if isIn v4 0 (w32 ((μ (μ v0 0) (w32 (v1 + 0))) - 1)) = 0 then
    some (-1)
  else
    chk (0 ≤ w32 (v1 + 1) ∧ w32 (v1 + 1) < LN (μ v0 0)) (
    if isIn (w32 (s1 + s0)) 0 (w32 ((μ (μ v0 0) (w32 (v1 + 1))) - 1)) = 0 then
      some (-1)
    else
      some (w32 ((w32 ((w32 (s1 + s0)) * (μ (μ v0 0) (w32 (v1 + 0))))) + v4)))))
def jX11_beside_28 (v0 v1 v2 v3 s0 s1 : Int) (μ : Mm) : Option Int :=
  chk (KD v0 = 11) (
  chk (KD (μ v0 0) = 12 ∧ 0 ≤ w32 (v1 + 0) ∧ w32 (v1 + 0) < LN (μ v0 0)) (
  chk (μ (μ v0 0) (w32 (v1 + 0)) ≠ 0) (
  if v3 = 2 then
    jX11_beside_60 v0 v1 (w32 (s1 + s0)) 1 (w32 (v2.tdiv (μ (μ v0 0) (w32 (v1 + 0))))) μ
  else
    if v3 = 3 then
      jX11_beside_60 v0 v1 (w32 (s1 + s0)) (-1) (w32 (v2.tdiv (μ (μ v0 0) (w32 (v1 + 0))))) μ
    else
      jX11_beside_60 v0 v1 (w32 (s1 + s0)) 0 (w32 (v2.tdiv (μ (μ v0 0) (w32 (v1 + 0))))) μ)))
def fX11_beside (v0 v1 v2 v3 : Int) (μ : Mm) : Option Int :=
  chk (KD v0 = 11) (
  chk (KD (μ v0 0) = 12 ∧ 0 ≤ w32 (v1 + 0) ∧ w32 (v1 + 0) < LN (μ v0 0)) (
  chk (μ (μ v0 0) (w32 (v1 + 0)) ≠ 0) (
  if v3 = 0 then
    jX11_beside_28 v0 v1 v2 v3 1 (v2.tmod (μ (μ v0 0) (w32 (v1 + 0)))) μ
  else
    if v3 = 1 then
      jX11_beside_28 v0 v1 v2 v3 (-1) (v2.tmod (μ (μ v0 0) (w32 (v1 + 0)))) μ
    else
      jX11_beside_28 v0 v1 v2 v3 0 (v2.tmod (μ (μ v0 0) (w32 (v1 + 0)))) μ)))
set_option maxRecDepth 20000 in
theorem gX11_beside_60 (l : Launch) {F : FI} {v0 v1 v4 s0 s1 : Int} {μ : Mm} {t : Int} (h : jX11_beside_60 v0 v1 v4 s0 s1 μ = some t) (hK : F.1 = [(0, t)] ∧ F.2.1 = μ) : GM l mX11_beside F 0 0 60 [(0, (3, v0)), (1, (0, v1)), (4, (0, v4))] [(0, s0), (0, s1)] μ := by
  unfold jX11_beside_60 at h
  refine GM_iadd (pc := 60) (daX11_beside_0 39 rfl) ?_
  refine GM_istore (L' := [(5, (0, w32 (s1 + s0))), (0, (3, v0)), (1, (0, v1)), (4, (0, v4))]) (pc := 61) (daX11_beside_0 40 rfl) (Nat.le_of_ble_eq_true rfl) rfl ?_
  refine GM_iload (pc := 63) 3 rfl (daX11_beside_0 41 rfl) ?_
  refine GM_iconst (pc := 65) 0 (daX11_beside_0 42 rfl) rfl (R32_b rfl) ?_
  refine GM_aload_n (pc := 66) 1 rfl (daX11_beside_0 43 rfl) rfl ?_
  obtain ⟨hc1, h⟩ := chk_inv h
  refine GM_getf (pc := 67) 11 0 3 0 kf_X11_7 (Nat.le_of_ble_eq_true rfl) (Nat.le_of_ble_eq_true rfl) rfl (daX11_beside_0 44 rfl) hc1 rfl ?_
  refine GM_iload_n (pc := 70) 2 rfl (daX11_beside_0 45 rfl) rfl ?_
  refine GM_iconst (pc := 71) 0 (daX11_beside_0 46 rfl) rfl (R32_b rfl) ?_
  refine GM_iadd (pc := 72) (daX11_beside_0 47 rfl) ?_
  obtain ⟨hc2, h⟩ := chk_inv h
  refine GM_iald (pc := 73) (daX11_beside_0 48 rfl) hc2.1 hc2.2.1 hc2.2.2 ?_
  refine GM_iconst (pc := 74) 1 (daX11_beside_0 49 rfl) rfl (R32_b rfl) ?_
  refine GM_isub (pc := 75) (daX11_beside_0 50 rfl) ?_
  refine GM_callS0 (pc := 76) [(0, v4), (0, 0), (0, w32 ((μ (μ v0 0) (w32 (v1 + 0))) - 1))] (tX11_isIn l (fX11_isIn_eq v4 0 (w32 ((μ (μ v0 0) (w32 (v1 + 0))) - 1)))) cwX11_isIn ks_X11_isIn km_X11_147 ⟨Nat.le_of_ble_eq_true rfl, Nat.le_of_ble_eq_true rfl⟩ (Nat.le_of_ble_eq_true rfl) (Nat.le_of_ble_eq_true rfl) (daX11_beside_0 51 rfl) ?_
  refine GM_if_eq (pc := 79) 118 (daX11_beside_0 52 rfl) rfl (fun c3 => ?_) (fun c3 => ?_)
  · skip
    rw [if_pos c3] at h
    refine GM_iconst (pc := 118) (-1) (daX11_beside_1 12 rfl) rfl (R32_b rfl) ?_
    cases h
    exact GM_iret (pc := 119) (daX11_beside_1 13 rfl) rfl hK
  · skip
    rw [if_neg c3] at h
    refine GM_iload (pc := 82) 0 rfl (daX11_beside_0 53 rfl) ?_
    refine GM_iconst (pc := 84) 0 (daX11_beside_0 54 rfl) rfl (R32_b rfl) ?_
    refine GM_aload_n (pc := 85) 1 rfl (daX11_beside_0 55 rfl) rfl ?_
    refine GM_getf (pc := 86) 11 0 3 0 kf_X11_7 (Nat.le_of_ble_eq_true rfl) (Nat.le_of_ble_eq_true rfl) rfl (daX11_beside_0 56 rfl) hc1 rfl ?_
    refine GM_iload_n (pc := 89) 2 rfl (daX11_beside_0 57 rfl) rfl ?_
    refine GM_iconst (pc := 90) 1 (daX11_beside_0 58 rfl) rfl (R32_b rfl) ?_
    refine GM_iadd (pc := 91) (daX11_beside_0 59 rfl) ?_
    obtain ⟨hc4, h⟩ := chk_inv h
    refine GM_iald (pc := 92) (daX11_beside_0 60 rfl) hc2.1 hc4.1 hc4.2 ?_
    refine GM_iconst (pc := 93) 1 (daX11_beside_0 61 rfl) rfl (R32_b rfl) ?_
    refine GM_isub (pc := 94) (daX11_beside_0 62 rfl) ?_
    refine GM_callS0 (pc := 95) [(0, w32 (s1 + s0)), (0, 0), (0, w32 ((μ (μ v0 0) (w32 (v1 + 1))) - 1))] (tX11_isIn l (fX11_isIn_eq (w32 (s1 + s0)) 0 (w32 ((μ (μ v0 0) (w32 (v1 + 1))) - 1)))) cwX11_isIn ks_X11_isIn km_X11_147 ⟨Nat.le_of_ble_eq_true rfl, Nat.le_of_ble_eq_true rfl⟩ (Nat.le_of_ble_eq_true rfl) (Nat.le_of_ble_eq_true rfl) (daX11_beside_0 63 rfl) ?_
    refine GM_if_eq (pc := 98) 118 (daX11_beside_1 0 rfl) rfl (fun c5 => ?_) (fun c5 => ?_)
    · skip
      rw [if_pos c5] at h
      refine GM_iconst (pc := 118) (-1) (daX11_beside_1 12 rfl) rfl (R32_b rfl) ?_
      cases h
      exact GM_iret (pc := 119) (daX11_beside_1 13 rfl) rfl hK
    · skip
      rw [if_neg c5] at h
      refine GM_iload (pc := 101) 0 rfl (daX11_beside_1 1 rfl) ?_
      refine GM_aload_n (pc := 103) 1 rfl (daX11_beside_1 2 rfl) rfl ?_
      refine GM_getf (pc := 104) 11 0 3 0 kf_X11_7 (Nat.le_of_ble_eq_true rfl) (Nat.le_of_ble_eq_true rfl) rfl (daX11_beside_1 3 rfl) hc1 rfl ?_
      refine GM_iload_n (pc := 107) 2 rfl (daX11_beside_1 4 rfl) rfl ?_
      refine GM_iconst (pc := 108) 0 (daX11_beside_1 5 rfl) rfl (R32_b rfl) ?_
      refine GM_iadd (pc := 109) (daX11_beside_1 6 rfl) ?_
      refine GM_iald (pc := 110) (daX11_beside_1 7 rfl) hc2.1 hc2.2.1 hc2.2.2 ?_
      refine GM_imul (pc := 111) (daX11_beside_1 8 rfl) ?_
      refine GM_iload (pc := 112) 3 rfl (daX11_beside_1 9 rfl) ?_
      refine GM_iadd (pc := 114) (daX11_beside_1 10 rfl) ?_
      refine GM_goto (pc := 115) 119 (daX11_beside_1 11 rfl) rfl ?_
      cases h
      exact GM_iret (pc := 119) (daX11_beside_1 13 rfl) rfl hK
set_option maxRecDepth 20000 in
theorem gX11_beside_28 (l : Launch) {F : FI} {v0 v1 v2 v3 s0 s1 : Int} {μ : Mm} {t : Int} (h : jX11_beside_28 v0 v1 v2 v3 s0 s1 μ = some t) (hK : F.1 = [(0, t)] ∧ F.2.1 = μ) : GM l mX11_beside F 0 0 28 [(0, (3, v0)), (1, (0, v1)), (2, (0, v2)), (3, (0, v3))] [(0, s0), (0, s1)] μ := by
  unfold jX11_beside_28 at h
  refine GM_iadd (pc := 28) (daX11_beside_0 18 rfl) ?_
  refine GM_istore (L' := [(4, (0, w32 (s1 + s0))), (0, (3, v0)), (1, (0, v1)), (2, (0, v2)), (3, (0, v3))]) (pc := 29) (daX11_beside_0 19 rfl) (Nat.le_of_ble_eq_true rfl) rfl ?_
  refine GM_iload_n (pc := 31) 3 rfl (daX11_beside_0 20 rfl) rfl ?_
  refine GM_aload_n (pc := 32) 1 rfl (daX11_beside_0 21 rfl) rfl ?_
  obtain ⟨hc6, h⟩ := chk_inv h
  refine GM_getf (pc := 33) 11 0 3 0 kf_X11_7 (Nat.le_of_ble_eq_true rfl) (Nat.le_of_ble_eq_true rfl) rfl (daX11_beside_0 22 rfl) hc6 rfl ?_
  refine GM_iload_n (pc := 36) 2 rfl (daX11_beside_0 23 rfl) rfl ?_
  refine GM_iconst (pc := 37) 0 (daX11_beside_0 24 rfl) rfl (R32_b rfl) ?_
  refine GM_iadd (pc := 38) (daX11_beside_0 25 rfl) ?_
  obtain ⟨hc7, h⟩ := chk_inv h
  refine GM_iald (pc := 39) (daX11_beside_0 26 rfl) hc7.1 hc7.2.1 hc7.2.2 ?_
  obtain ⟨hc8, h⟩ := chk_inv h
  refine GM_idiv (pc := 40) (daX11_beside_0 27 rfl) hc8 ?_
  refine GM_iload_n (pc := 41) 4 rfl (daX11_beside_0 28 rfl) rfl ?_
  refine GM_iconst (pc := 42) 2 (daX11_beside_0 29 rfl) rfl (R32_b rfl) ?_
  refine GM_icmp_ne (pc := 43) 50 (daX11_beside_0 30 rfl) rfl (fun c9 => ?_) (fun c9 => ?_)
  · skip
    rw [if_neg c9] at h
    refine GM_iload_n (pc := 50) 4 rfl (daX11_beside_0 33 rfl) rfl ?_
    refine GM_iconst (pc := 51) 3 (daX11_beside_0 34 rfl) rfl (R32_b rfl) ?_
    refine GM_icmp_ne (pc := 52) 59 (daX11_beside_0 35 rfl) rfl (fun c10 => ?_) (fun c10 => ?_)
    · skip
      rw [if_neg c10] at h
      refine GM_iconst (pc := 59) 0 (daX11_beside_0 38 rfl) rfl (R32_b rfl) ?_
      refine GM_pick [1, 2, 0] rfl ?_
      exact gX11_beside_60 l h hK
    · skip
      rw [if_pos c10] at h
      refine GM_iconst (pc := 55) (-1) (daX11_beside_0 36 rfl) rfl (R32_b rfl) ?_
      refine GM_goto (pc := 56) 60 (daX11_beside_0 37 rfl) rfl ?_
      refine GM_pick [1, 2, 0] rfl ?_
      exact gX11_beside_60 l h hK
  · skip
    rw [if_pos c9] at h
    refine GM_iconst (pc := 46) 1 (daX11_beside_0 31 rfl) rfl (R32_b rfl) ?_
    refine GM_goto (pc := 47) 60 (daX11_beside_0 32 rfl) rfl ?_
    refine GM_pick [1, 2, 0] rfl ?_
    exact gX11_beside_60 l h hK
set_option maxRecDepth 20000 in
theorem gX11_beside_0 (l : Launch) {F : FI} {v0 v1 v2 v3 : Int} {μ : Mm} {t : Int} (h : fX11_beside v0 v1 v2 v3 μ = some t) (hK : F.1 = [(0, t)] ∧ F.2.1 = μ) : GM l mX11_beside F 0 0 0 [(0, (3, v0)), (1, (0, v1)), (2, (0, v2)), (3, (0, v3))] [] μ := by
  unfold fX11_beside at h
  refine GM_iload_n (pc := 0) 2 rfl (daX11_beside_0 0 rfl) rfl ?_
  refine GM_aload_n (pc := 1) 0 rfl (daX11_beside_0 1 rfl) rfl ?_
  obtain ⟨hc11, h⟩ := chk_inv h
  refine GM_getf (pc := 2) 11 0 3 0 kf_X11_7 (Nat.le_of_ble_eq_true rfl) (Nat.le_of_ble_eq_true rfl) rfl (daX11_beside_0 2 rfl) hc11 rfl ?_
  refine GM_iload_n (pc := 5) 1 rfl (daX11_beside_0 3 rfl) rfl ?_
  refine GM_iconst (pc := 6) 0 (daX11_beside_0 4 rfl) rfl (R32_b rfl) ?_
  refine GM_iadd (pc := 7) (daX11_beside_0 5 rfl) ?_
  obtain ⟨hc12, h⟩ := chk_inv h
  refine GM_iald (pc := 8) (daX11_beside_0 6 rfl) hc12.1 hc12.2.1 hc12.2.2 ?_
  obtain ⟨hc13, h⟩ := chk_inv h
  refine GM_irem (pc := 9) (daX11_beside_0 7 rfl) hc13 ?_
  refine GM_iload_n (pc := 10) 3 rfl (daX11_beside_0 8 rfl) rfl ?_
  refine GM_if_ne (pc := 11) 18 (daX11_beside_0 9 rfl) rfl (fun c14 => ?_) (fun c14 => ?_)
  · skip
    rw [if_neg c14] at h
    refine GM_iload_n (pc := 18) 3 rfl (daX11_beside_0 12 rfl) rfl ?_
    refine GM_iconst (pc := 19) 1 (daX11_beside_0 13 rfl) rfl (R32_b rfl) ?_
    refine GM_icmp_ne (pc := 20) 27 (daX11_beside_0 14 rfl) rfl (fun c15 => ?_) (fun c15 => ?_)
    · skip
      rw [if_neg c15] at h
      refine GM_iconst (pc := 27) 0 (daX11_beside_0 17 rfl) rfl (R32_b rfl) ?_
      exact gX11_beside_28 l h hK
    · skip
      rw [if_pos c15] at h
      refine GM_iconst (pc := 23) (-1) (daX11_beside_0 15 rfl) rfl (R32_b rfl) ?_
      refine GM_goto (pc := 24) 28 (daX11_beside_0 16 rfl) rfl ?_
      exact gX11_beside_28 l h hK
  · skip
    rw [if_pos c14] at h
    refine GM_iconst (pc := 14) 1 (daX11_beside_0 10 rfl) rfl (R32_b rfl) ?_
    refine GM_goto (pc := 15) 28 (daX11_beside_0 11 rfl) rfl ?_
    exact gX11_beside_28 l h hK
theorem tX11_beside (l : Launch) {v0 v1 v2 v3 : Int} {μ : Mm} {t : Int} (h : fX11_beside v0 v1 v2 v3 μ = some t) : Ct l yX11_beside mX11_beside [(3, v0), (0, v1), (0, v2), (0, v3)] μ ([(0, t)], μ, 0, 0) :=
  Ct_of (by decide +kernel) rfl rfl (Nat.le_of_ble_eq_true rfl) (fun _ _ _ => trivial) (gX11_beside_0 l h ⟨rfl, rfl⟩)
def mX11_walks : MI := (RX11, cX11_walks, 8, none, "walks", 2, 47, fun _ _ _ => True)
theorem cwX11_walks : CWd yX11_walks mX11_walks 2 := ⟨ki_X11, kk_X11_walks, ⟨by decide, by decide⟩, rfl⟩
def dtX11_walks_0 : List (Nat × Instr × Nat) := [(0, .iconst 0, 1), (1, .istore_n 3, 1), (2, .iload_n 3, 1), (3, .aload_n 0, 1), (4, .getfield 330, 3), (7, .if_icmp .ge 106, 3), (10, .aload_n 0, 1), (11, .getfield 50, 3), (14, .iload_n 3, 1), (15, .iaload, 1), (16, .istore 4, 2), (18, .iconst 0, 1), (19, .istore 5, 2), (21, .iload 5, 2), (23, .iconst 4, 1), (24, .if_icmp .ge 83, 3), (27, .aload_n 0, 1), (28, .iload_n 1, 1), (29, .iload 4, 2), (31, .iload 5, 2), (33, .invokevirtual 333, 3), (36, .istore 6, 2), (38, .iload 6, 2), (40, .ifCond .ge 6, 3), (43, .goto 58, 3), (46, .aload_n 0, 1), (47, .getfield 7, 3), (50, .iload_n 1, 1), (51, .bipush 6, 2), (53, .iadd, 1), (54, .iload 6, 2), (56, .iadd, 1), (57, .iaload, 1), (58, .aload_n 0, 1), (59, .getfield 7, 3), (62, .iload_n 1, 1), (63, .bipush 6, 2), (65, .iadd, 1), (66, .iload 4, 2), (68, .iadd, 1), (69, .iaload, 1), (70, .isub, 1), (71, .istore 7, 2), (73, .iload 7, 2), (75, .iload_n 2, 1), (76, .if_icmp .gt 25, 3), (79, .iload 7, 2), (81, .iload_n 2, 1), (82, .ineg, 1), (83, .if_icmp .lt 18, 3), (86, .aload_n 0, 1), (87, .iload 6, 2), (89, .aload_n 0, 1), (90, .getfield 47, 3), (93, .iload 4, 2), (95, .iaload, 1), (96, .iconst 1, 1), (97, .iadd, 1), (98, .invokevirtual 336, 3), (101, .iinc 5 1, 3), (104, .goto (-83), 3), (107, .iinc 3 1, 3), (110, .goto (-108), 3), (113, .return_, 1)]
theorem ddX11_walks_0 : (dtX11_walks_0.all fun e => decide (decode mX11_walks.2.1 e.1 = .ok (e.2.1, e.2.2))) = true := by decide +kernel
theorem daX11_walks_0 (j : Nat) {pc n : Nat} {i : Instr} (h : dtX11_walks_0[j]? = some (pc, i, n)) : decode mX11_walks.2.1 pc = .ok (i, n) := dec_of (c := mX11_walks.2.1) ddX11_walks_0 h
def zX11_walks_21 (l : Launch) (F : FI) (v0 v1 v2 v3 v4 : Int) (k n : Nat) : (Int × Mm) ⊕ Mm → Prop
  | .inl (v5, μ) => GM l mX11_walks F k n 21 [(0, (3, v0)), (1, (0, v1)), (2, (0, v2)), (3, (0, v3)), (4, (0, v4)), (5, (0, v5))] [] μ
  | .inr μ => GM l mX11_walks F k n 107 [(0, (3, v0)), (1, (0, v1)), (2, (0, v2)), (3, (0, v3))] [] μ
def sX11_walks_21 (v0 v1 v2 v3 v4 : Int) : (Int × Mm) → Option ((Int × Mm) ⊕ Mm) := fun (v5, μ) =>
  if 4 ≤ v5 then
    some (.inr μ)
  else
    chk (KD v0 = 11) (
    (fX11_beside v0 v1 v4 v5 μ).bind fun r3 =>
    if 0 ≤ r3 then
      chk (KD (μ v0 0) = 12 ∧ 0 ≤ w32 ((w32 (v1 + 6)) + r3) ∧ w32 ((w32 (v1 + 6)) + r3) < LN (μ v0 0)) (
      chk (0 ≤ w32 ((w32 (v1 + 6)) + v4) ∧ w32 ((w32 (v1 + 6)) + v4) < LN (μ v0 0)) (
      lt (w32 ((μ (μ v0 0) (w32 ((w32 (v1 + 6)) + r3))) - (μ (μ v0 0) (w32 ((w32 (v1 + 6)) + v4))))) fun y7 =>
      if v2 < y7 then
        some (.inl (w32 (v5 + 1), μ))
      else
        if y7 < w32 (-v2) then
          some (.inl (w32 (v5 + 1), μ))
        else
          chk (KD (μ v0 25) = 12 ∧ 0 ≤ v4 ∧ v4 < LN (μ v0 25)) (
          (fX11_comes v0 r3 (w32 ((μ (μ v0 25) v4) + 1)) μ).bind fun μ11 =>
          some (.inl (w32 (v5 + 1), μ11)))))
    else
      some (.inl (w32 (v5 + 1), μ)))
def zX11_walks_2 (l : Launch) (F : FI) (v0 v1 v2 : Int) (k n : Nat) : (Int × Mm) ⊕ Mm → Prop
  | .inl (v3, μ) => GM l mX11_walks F k n 2 [(0, (3, v0)), (1, (0, v1)), (2, (0, v2)), (3, (0, v3))] [] μ
  | .inr μ => GM l mX11_walks F k n 113 [] [] μ
def sX11_walks_2 (v0 v1 v2 : Int) : (Int × Mm) → Option ((Int × Mm) ⊕ Mm) := fun (v3, μ) =>
  chk (KD v0 = 11) (
  if μ v0 26 ≤ v3 then
    some (.inr μ)
  else
    chk (KD (μ v0 27) = 12 ∧ 0 ≤ v3 ∧ v3 < LN (μ v0 27)) (
    (lop (sX11_walks_21 v0 v1 v2 v3 (μ (μ v0 27) v3)) FU (0, μ)).bind fun μ_16 =>
      some (.inl (w32 (v3 + 1), μ_16))))
def fX11_walks (v0 v1 v2 : Int) (μ : Mm) : Option Mm :=
  (lop (sX11_walks_2 v0 v1 v2) FU (0, μ)).bind fun μ_18 =>
    some μ_18
set_option maxRecDepth 20000 in
theorem qX11_walks_21 (l : Launch) (F : FI) (v0 v1 v2 v3 v4 : Int) (k n : Nat) : ∀ (q : (Int × Mm)) (t : ((Int × Mm) ⊕ Mm)), sX11_walks_21 v0 v1 v2 v3 v4 q = some t → zX11_walks_21 l F v0 v1 v2 v3 v4 k n t → zX11_walks_21 l F v0 v1 v2 v3 v4 k n (.inl q) := by
  intro q t h hK
  obtain ⟨v5, μ⟩ := q
  unfold sX11_walks_21 at h
  try dsimp only at h
  show GM l mX11_walks F k n 21 [(0, (3, v0)), (1, (0, v1)), (2, (0, v2)), (3, (0, v3)), (4, (0, v4)), (5, (0, v5))] [] μ
  refine GM_iload (pc := 21) 5 rfl (daX11_walks_0 13 rfl) ?_
  refine GM_iconst (pc := 23) 4 (daX11_walks_0 14 rfl) rfl (R32_b rfl) ?_
  refine GM_icmp_ge (pc := 24) 107 (daX11_walks_0 15 rfl) rfl (fun c1 => ?_) (fun c1 => ?_)
  · skip
    rw [if_pos c1] at h
    refine GM_pick [0, 1, 2, 3] rfl ?_
    cases h
    exact hK
  · skip
    rw [if_neg c1] at h
    refine GM_aload_n (pc := 27) 0 rfl (daX11_walks_0 16 rfl) rfl ?_
    refine GM_iload_n (pc := 28) 1 rfl (daX11_walks_0 17 rfl) rfl ?_
    refine GM_iload (pc := 29) 4 rfl (daX11_walks_0 18 rfl) ?_
    refine GM_iload (pc := 31) 5 rfl (daX11_walks_0 19 rfl) ?_
    obtain ⟨hc2, h⟩ := chk_inv h
    obtain ⟨r3, hf3, h⟩ := Option.bind_eq_some_iff.mp h
    refine GM_callV0 (pc := 33) [(0, v1), (0, v4), (0, v5)] (tX11_beside l hf3) cwX11_beside 11 (Nat.le_of_ble_eq_true rfl) rfl kv_X11_beside ke_X11_beside km_X11_333 hc2 ⟨Nat.le_of_ble_eq_true rfl, Nat.le_of_ble_eq_true rfl⟩ (Nat.le_of_ble_eq_true rfl) (Nat.le_of_ble_eq_true rfl) (daX11_walks_0 20 rfl) ?_
    refine GM_istore (L' := [(6, (0, r3)), (0, (3, v0)), (1, (0, v1)), (2, (0, v2)), (3, (0, v3)), (4, (0, v4)), (5, (0, v5))]) (pc := 36) (daX11_walks_0 21 rfl) (Nat.le_of_ble_eq_true rfl) rfl ?_
    refine GM_iload (pc := 38) 0 rfl (daX11_walks_0 22 rfl) ?_
    refine GM_if_ge (pc := 40) 46 (daX11_walks_0 23 rfl) rfl (fun c4 => ?_) (fun c4 => ?_)
    · skip
      rw [if_pos c4] at h
      refine GM_aload_n (pc := 46) 1 rfl (daX11_walks_0 25 rfl) rfl ?_
      refine GM_getf (pc := 47) 11 0 3 0 kf_X11_7 (Nat.le_of_ble_eq_true rfl) (Nat.le_of_ble_eq_true rfl) rfl (daX11_walks_0 26 rfl) hc2 rfl ?_
      refine GM_iload_n (pc := 50) 2 rfl (daX11_walks_0 27 rfl) rfl ?_
      refine GM_bipush (pc := 51) 6 (daX11_walks_0 28 rfl) rfl (R32_b rfl) ?_
      refine GM_iadd (pc := 53) (daX11_walks_0 29 rfl) ?_
      refine GM_iload (pc := 54) 0 rfl (daX11_walks_0 30 rfl) ?_
      refine GM_iadd (pc := 56) (daX11_walks_0 31 rfl) ?_
      obtain ⟨hc5, h⟩ := chk_inv h
      refine GM_iald (pc := 57) (daX11_walks_0 32 rfl) hc5.1 hc5.2.1 hc5.2.2 ?_
      refine GM_aload_n (pc := 58) 1 rfl (daX11_walks_0 33 rfl) rfl ?_
      refine GM_getf (pc := 59) 11 0 3 0 kf_X11_7 (Nat.le_of_ble_eq_true rfl) (Nat.le_of_ble_eq_true rfl) rfl (daX11_walks_0 34 rfl) hc2 rfl ?_
      refine GM_iload_n (pc := 62) 2 rfl (daX11_walks_0 35 rfl) rfl ?_
      refine GM_bipush (pc := 63) 6 (daX11_walks_0 36 rfl) rfl (R32_b rfl) ?_
      refine GM_iadd (pc := 65) (daX11_walks_0 37 rfl) ?_
      refine GM_iload (pc := 66) 5 rfl (daX11_walks_0 38 rfl) ?_
      refine GM_iadd (pc := 68) (daX11_walks_0 39 rfl) ?_
      obtain ⟨hc6, h⟩ := chk_inv h
      refine GM_iald (pc := 69) (daX11_walks_0 40 rfl) hc5.1 hc6.1 hc6.2 ?_
      refine GM_isub (pc := 70) (daX11_walks_0 41 rfl) ?_
      obtain ⟨y7, hy7, h⟩ := lt_inv h
      refine GM_top hy7 ?_
      refine GM_istore (L' := [(7, (0, y7)), (6, (0, r3)), (0, (3, v0)), (1, (0, v1)), (2, (0, v2)), (3, (0, v3)), (4, (0, v4)), (5, (0, v5))]) (pc := 71) (daX11_walks_0 42 rfl) (Nat.le_of_ble_eq_true rfl) rfl ?_
      refine GM_iload (pc := 73) 0 rfl (daX11_walks_0 43 rfl) ?_
      refine GM_iload_n (pc := 75) 4 rfl (daX11_walks_0 44 rfl) rfl ?_
      refine GM_icmp_gt (pc := 76) 101 (daX11_walks_0 45 rfl) rfl (fun c8 => ?_) (fun c8 => ?_)
      · skip
        rw [if_pos c8] at h
        refine GM_iinc (L' := [(5, (0, w32 (v5 + 1))), (7, (0, y7)), (6, (0, r3)), (0, (3, v0)), (1, (0, v1)), (2, (0, v2)), (3, (0, v3)), (4, (0, v4))]) (pc := 101) 7 rfl (daX11_walks_0 59 rfl) (Nat.le_of_ble_eq_true rfl) rfl ?_
        refine GM_goto (pc := 104) 21 (daX11_walks_0 60 rfl) rfl ?_
        refine GM_pick [3, 4, 5, 6, 7, 0] rfl ?_
        cases h
        exact hK
      · skip
        rw [if_neg c8] at h
        refine GM_iload (pc := 79) 0 rfl (daX11_walks_0 46 rfl) ?_
        refine GM_iload_n (pc := 81) 4 rfl (daX11_walks_0 47 rfl) rfl ?_
        refine GM_ineg (pc := 82) (daX11_walks_0 48 rfl) ?_
        refine GM_icmp_lt (pc := 83) 101 (daX11_walks_0 49 rfl) rfl (fun c9 => ?_) (fun c9 => ?_)
        · skip
          rw [if_pos c9] at h
          refine GM_iinc (L' := [(5, (0, w32 (v5 + 1))), (7, (0, y7)), (6, (0, r3)), (0, (3, v0)), (1, (0, v1)), (2, (0, v2)), (3, (0, v3)), (4, (0, v4))]) (pc := 101) 7 rfl (daX11_walks_0 59 rfl) (Nat.le_of_ble_eq_true rfl) rfl ?_
          refine GM_goto (pc := 104) 21 (daX11_walks_0 60 rfl) rfl ?_
          refine GM_pick [3, 4, 5, 6, 7, 0] rfl ?_
          cases h
          exact hK
        · skip
          rw [if_neg c9] at h
          refine GM_aload_n (pc := 86) 2 rfl (daX11_walks_0 50 rfl) rfl ?_
          refine GM_iload (pc := 87) 1 rfl (daX11_walks_0 51 rfl) ?_
          refine GM_aload_n (pc := 89) 2 rfl (daX11_walks_0 52 rfl) rfl ?_
          refine GM_getf (pc := 90) 11 25 3 25 kf_X11_47 (Nat.le_of_ble_eq_true rfl) (Nat.le_of_ble_eq_true rfl) rfl (daX11_walks_0 53 rfl) hc2 rfl ?_
          refine GM_iload (pc := 93) 6 rfl (daX11_walks_0 54 rfl) ?_
          obtain ⟨hc10, h⟩ := chk_inv h
          refine GM_iald (pc := 95) (daX11_walks_0 55 rfl) hc10.1 hc10.2.1 hc10.2.2 ?_
          refine GM_iconst (pc := 96) 1 (daX11_walks_0 56 rfl) rfl (R32_b rfl) ?_
          refine GM_iadd (pc := 97) (daX11_walks_0 57 rfl) ?_
          obtain ⟨μ11, hf11, h⟩ := Option.bind_eq_some_iff.mp h
          refine GM_callV0 (pc := 98) [(0, r3), (0, w32 ((μ (μ v0 25) v4) + 1))] (tX11_comes l hf11) cwX11_comes 11 (Nat.le_of_ble_eq_true rfl) rfl kv_X11_comes ke_X11_comes km_X11_336 hc2 ⟨Nat.le_of_ble_eq_true rfl, Nat.le_of_ble_eq_true rfl⟩ (Nat.le_of_ble_eq_true rfl) (Nat.le_of_ble_eq_true rfl) (daX11_walks_0 58 rfl) ?_
          refine GM_iinc (L' := [(5, (0, w32 (v5 + 1))), (7, (0, y7)), (6, (0, r3)), (0, (3, v0)), (1, (0, v1)), (2, (0, v2)), (3, (0, v3)), (4, (0, v4))]) (pc := 101) 7 rfl (daX11_walks_0 59 rfl) (Nat.le_of_ble_eq_true rfl) rfl ?_
          refine GM_goto (pc := 104) 21 (daX11_walks_0 60 rfl) rfl ?_
          refine GM_pick [3, 4, 5, 6, 7, 0] rfl ?_
          cases h
          exact hK
    · skip
      rw [if_neg c4] at h
      refine GM_goto (pc := 43) 101 (daX11_walks_0 24 rfl) rfl ?_
      refine GM_iinc (L' := [(5, (0, w32 (v5 + 1))), (6, (0, r3)), (0, (3, v0)), (1, (0, v1)), (2, (0, v2)), (3, (0, v3)), (4, (0, v4))]) (pc := 101) 6 rfl (daX11_walks_0 59 rfl) (Nat.le_of_ble_eq_true rfl) rfl ?_
      refine GM_goto (pc := 104) 21 (daX11_walks_0 60 rfl) rfl ?_
      refine GM_pick [2, 3, 4, 5, 6, 0] rfl ?_
      cases h
      exact hK
set_option maxRecDepth 20000 in
theorem qX11_walks_2 (l : Launch) (F : FI) (v0 v1 v2 : Int) (k n : Nat) : ∀ (q : (Int × Mm)) (t : ((Int × Mm) ⊕ Mm)), sX11_walks_2 v0 v1 v2 q = some t → zX11_walks_2 l F v0 v1 v2 k n t → zX11_walks_2 l F v0 v1 v2 k n (.inl q) := by
  intro q t h hK
  obtain ⟨v3, μ⟩ := q
  unfold sX11_walks_2 at h
  try dsimp only at h
  show GM l mX11_walks F k n 2 [(0, (3, v0)), (1, (0, v1)), (2, (0, v2)), (3, (0, v3))] [] μ
  refine GM_iload_n (pc := 2) 3 rfl (daX11_walks_0 2 rfl) rfl ?_
  refine GM_aload_n (pc := 3) 0 rfl (daX11_walks_0 3 rfl) rfl ?_
  obtain ⟨hc12, h⟩ := chk_inv h
  refine GM_getf (pc := 4) 11 26 0 26 kf_X11_330 (Nat.le_of_ble_eq_true rfl) (Nat.le_of_ble_eq_true rfl) rfl (daX11_walks_0 4 rfl) hc12 rfl ?_
  refine GM_icmp_ge (pc := 7) 113 (daX11_walks_0 5 rfl) rfl (fun c13 => ?_) (fun c13 => ?_)
  · skip
    rw [if_pos c13] at h
    refine GM_pick [] rfl ?_
    cases h
    exact hK
  · skip
    rw [if_neg c13] at h
    refine GM_aload_n (pc := 10) 0 rfl (daX11_walks_0 6 rfl) rfl ?_
    refine GM_getf (pc := 11) 11 27 3 27 kf_X11_50 (Nat.le_of_ble_eq_true rfl) (Nat.le_of_ble_eq_true rfl) rfl (daX11_walks_0 7 rfl) hc12 rfl ?_
    refine GM_iload_n (pc := 14) 3 rfl (daX11_walks_0 8 rfl) rfl ?_
    obtain ⟨hc14, h⟩ := chk_inv h
    refine GM_iald (pc := 15) (daX11_walks_0 9 rfl) hc14.1 hc14.2.1 hc14.2.2 ?_
    refine GM_istore (L' := [(4, (0, μ (μ v0 27) v3)), (0, (3, v0)), (1, (0, v1)), (2, (0, v2)), (3, (0, v3))]) (pc := 16) (daX11_walks_0 10 rfl) (Nat.le_of_ble_eq_true rfl) rfl ?_
    refine GM_iconst (pc := 18) 0 (daX11_walks_0 11 rfl) rfl (R32_b rfl) ?_
    refine GM_istore (L' := [(5, (0, 0)), (4, (0, μ (μ v0 27) v3)), (0, (3, v0)), (1, (0, v1)), (2, (0, v2)), (3, (0, v3))]) (pc := 19) (daX11_walks_0 12 rfl) (Nat.le_of_ble_eq_true rfl) rfl ?_
    refine GM_pick [2, 3, 4, 5, 1, 0] rfl ?_
    obtain ⟨x15, hqx15, h⟩ := Option.bind_eq_some_iff.mp h
    refine lop_ind (zX11_walks_21 l F v0 v1 v2 v3 (μ (μ v0 27) v3) k n) (qX11_walks_21 l F v0 v1 v2 v3 (μ (μ v0 27) v3) k n) FU _ x15 hqx15 ?_
    obtain ⟨μ_16, hqq⟩ : ∃ z, z = x15 := ⟨x15, rfl⟩
    subst hqq
    show GM l mX11_walks F k n 107 [(0, (3, v0)), (1, (0, v1)), (2, (0, v2)), (3, (0, v3))] [] μ_16
    refine GM_iinc (L' := [(3, (0, w32 (v3 + 1))), (0, (3, v0)), (1, (0, v1)), (2, (0, v2))]) (pc := 107) 3 rfl (daX11_walks_0 61 rfl) (Nat.le_of_ble_eq_true rfl) rfl ?_
    refine GM_goto (pc := 110) 2 (daX11_walks_0 62 rfl) rfl ?_
    refine GM_pick [1, 2, 3, 0] rfl ?_
    cases h
    exact hK
set_option maxRecDepth 20000 in
theorem gX11_walks_0 (l : Launch) {F : FI} {v0 v1 v2 : Int} {μ : Mm} {t : Mm} (h : fX11_walks v0 v1 v2 μ = some t) (hK : F.1 = [] ∧ F.2.1 = t) : GM l mX11_walks F 0 0 0 [(0, (3, v0)), (1, (0, v1)), (2, (0, v2))] [] μ := by
  unfold fX11_walks at h
  refine GM_iconst (pc := 0) 0 (daX11_walks_0 0 rfl) rfl (R32_b rfl) ?_
  refine GM_istore_n (L' := [(3, (0, 0)), (0, (3, v0)), (1, (0, v1)), (2, (0, v2))]) (pc := 1) (daX11_walks_0 1 rfl) rfl (Nat.le_of_ble_eq_true rfl) rfl ?_
  refine GM_pick [1, 2, 3, 0] rfl ?_
  obtain ⟨x17, hqx17, h⟩ := Option.bind_eq_some_iff.mp h
  refine lop_ind (zX11_walks_2 l F v0 v1 v2 0 0) (qX11_walks_2 l F v0 v1 v2 0 0) FU _ x17 hqx17 ?_
  obtain ⟨μ_18, hqq⟩ : ∃ z, z = x17 := ⟨x17, rfl⟩
  subst hqq
  show GM l mX11_walks F 0 0 113 [] [] μ_18
  cases h
  exact GM_vret (pc := 113) (daX11_walks_0 63 rfl) rfl hK
theorem tX11_walks (l : Launch) {v0 v1 v2 : Int} {μ : Mm} {t : Mm} (h : fX11_walks v0 v1 v2 μ = some t) : Ct l yX11_walks mX11_walks [(3, v0), (0, v1), (0, v2)] μ ([], t, 0, 0) :=
  Ct_of (by decide +kernel) rfl rfl (Nat.le_of_ble_eq_true rfl) (fun _ _ _ => trivial) (gX11_walks_0 l h ⟨rfl, rfl⟩)
def mX11_way : MI := (RX11, cX11_way, 8, (some .int), "way", 12, 314, fun _ _ _ => True)
theorem cwX11_way : CWd yX11_way mX11_way 4 := ⟨ki_X11, kk_X11_way, ⟨by decide, by decide⟩, rfl⟩
def dtX11_way_0 : List (Nat × Instr × Nat) := [(0, .iload 4, 2), (2, .iconst 0, 1), (3, .sipush 999, 3), (6, .invokestatic 147, 3), (9, .ifCond .eq 13, 3), (12, .aload_n 0, 1), (13, .iload_n 1, 1), (14, .iload_n 2, 1), (15, .iload_n 3, 1), (16, .invokevirtual 327, 3), (19, .ifCond .ne 5, 3), (22, .iconst (-1), 1), (23, .ireturn, 1), (24, .aload_n 0, 1), (25, .invokevirtual 339, 3), (28, .iconst 0, 1), (29, .istore 5, 2), (31, .iload 5, 2), (33, .aload_n 0, 1), (34, .getfield 292, 3), (37, .if_icmp .ge 21, 3), (40, .aload_n 0, 1), (41, .aload_n 0, 1), (42, .getfield 35, 3), (45, .iload 5, 2), (47, .iaload, 1), (48, .iconst 0, 1), (49, .invokevirtual 336, 3), (52, .iinc 5 1, 3), (55, .goto (-24), 3), (58, .aload_n 0, 1), (59, .iconst 0, 1), (60, .iload_n 1, 1), (61, .invokestatic 204, 3), (64, .iload 4, 2), (66, .invokevirtual 342, 3), (69, .iconst (-1), 1), (70, .istore 5, 2), (72, .iconst 0, 1), (73, .istore 6, 2), (75, .iload 6, 2), (77, .aload_n 0, 1), (78, .getfield 324, 3), (81, .if_icmp .ge 49, 3), (84, .aload_n 0, 1), (85, .getfield 47, 3), (88, .aload_n 0, 1), (89, .getfield 38, 3), (92, .iload 6, 2), (94, .iaload, 1), (95, .iaload, 1), (96, .istore 7, 2), (98, .iload 7, 2), (100, .ifCond .lt 20, 3), (103, .iload 5, 2), (105, .ifCond .lt 10, 3), (108, .iload 7, 2), (110, .iload 5, 2), (112, .if_icmp .ge 8, 3), (115, .iload 7, 2), (117, .goto 5, 3), (120, .iload 5, 2), (122, .istore 5, 2), (124, .iinc 6 1, 3)]
theorem ddX11_way_0 : (dtX11_way_0.all fun e => decide (decode mX11_way.2.1 e.1 = .ok (e.2.1, e.2.2))) = true := by decide +kernel
theorem daX11_way_0 (j : Nat) {pc n : Nat} {i : Instr} (h : dtX11_way_0[j]? = some (pc, i, n)) : decode mX11_way.2.1 pc = .ok (i, n) := dec_of (c := mX11_way.2.1) ddX11_way_0 h
def dtX11_way_1 : List (Nat × Instr × Nat) := [(127, .goto (-52), 3), (130, .iload 5, 2), (132, .ireturn, 1)]
theorem ddX11_way_1 : (dtX11_way_1.all fun e => decide (decode mX11_way.2.1 e.1 = .ok (e.2.1, e.2.2))) = true := by decide +kernel
theorem daX11_way_1 (j : Nat) {pc n : Nat} {i : Instr} (h : dtX11_way_1[j]? = some (pc, i, n)) : decode mX11_way.2.1 pc = .ok (i, n) := dec_of (c := mX11_way.2.1) ddX11_way_1 h
def zX11_way_31 (l : Launch) (F : FI) (v0 v1 v4 : Int) (k n : Nat) : (Int × Mm) ⊕ Mm → Prop
  | .inl (v5, μ) => GM l mX11_way F k n 31 [(0, (3, v0)), (1, (0, v1)), (4, (0, v4)), (5, (0, v5))] [] μ
  | .inr μ => GM l mX11_way F k n 58 [(0, (3, v0)), (1, (0, v1)), (4, (0, v4))] [] μ
def sX11_way_31 (v0 v1 v4 : Int) : (Int × Mm) → Option ((Int × Mm) ⊕ Mm) := fun (v5, μ) =>
  chk (KD v0 = 11) (
  if μ v0 18 ≤ v5 then
    some (.inr μ)
  else
    chk (KD (μ v0 19) = 12 ∧ 0 ≤ v5 ∧ v5 < LN (μ v0 19)) (
    (fX11_comes v0 (μ (μ v0 19) v5) 0 μ).bind fun μ4 =>
    some (.inl (w32 (v5 + 1), μ4))))
def zX11_way_75 (l : Launch) (F : FI) (v0 : Int) (μ : Mm) (k n : Nat) : (Int × Int) ⊕ Int → Prop
  | .inl (v5, v6) => GM l mX11_way F k n 75 [(0, (3, v0)), (5, (0, v5)), (6, (0, v6))] [] μ
  | .inr v5 => GM l mX11_way F k n 130 [(5, (0, v5))] [] μ
def sX11_way_75 (v0 : Int) (μ : Mm) : (Int × Int) → Option ((Int × Int) ⊕ Int) := fun (v5, v6) =>
  chk (KD v0 = 11) (
  if μ v0 20 ≤ v6 then
    some (.inr v5)
  else
    chk (KD (μ v0 21) = 12 ∧ 0 ≤ v6 ∧ v6 < LN (μ v0 21)) (
    chk (KD (μ v0 25) = 12 ∧ 0 ≤ μ (μ v0 21) v6 ∧ μ (μ v0 21) v6 < LN (μ v0 25)) (
    lt (μ (μ v0 25) (μ (μ v0 21) v6)) fun y9 =>
    if y9 < 0 then
      some (.inl (v5, w32 (v6 + 1)))
    else
      if v5 < 0 then
        some (.inl (y9, w32 (v6 + 1)))
      else
        if v5 ≤ y9 then
          some (.inl (v5, w32 (v6 + 1)))
        else
          some (.inl (y9, w32 (v6 + 1))))))
def fX11_way (v0 v1 v2 v3 v4 : Int) (μ : Mm) : Option (Int × Mm) :=
  if isIn v4 0 999 = 0 then
    some ((-1), μ)
  else
    chk (KD v0 = 11) (
    (fX11_findsBoth v0 v1 v2 v3 μ).bind fun (r15, μ15) =>
    if r15 = 0 then
      some ((-1), μ15)
    else
      (fX11_noWay v0 μ15).bind fun μ17 =>
      (lop (sX11_way_31 v0 v1 v4) FU (0, μ17)).bind fun μ_19 =>
        (fX11_placeOf 0 v1).bind fun r20 =>
        (fX11_walks v0 r20 v4 μ_19).bind fun μ21 =>
        (lop (sX11_way_75 v0 μ21) FU ((-1), 0)).bind fun v5_23 =>
          some (v5_23, μ21))
set_option maxRecDepth 20000 in
theorem qX11_way_31 (l : Launch) (F : FI) (v0 v1 v4 : Int) (k n : Nat) : ∀ (q : (Int × Mm)) (t : ((Int × Mm) ⊕ Mm)), sX11_way_31 v0 v1 v4 q = some t → zX11_way_31 l F v0 v1 v4 k n t → zX11_way_31 l F v0 v1 v4 k n (.inl q) := by
  intro q t h hK
  obtain ⟨v5, μ⟩ := q
  unfold sX11_way_31 at h
  try dsimp only at h
  show GM l mX11_way F k n 31 [(0, (3, v0)), (1, (0, v1)), (4, (0, v4)), (5, (0, v5))] [] μ
  refine GM_iload (pc := 31) 3 rfl (daX11_way_0 17 rfl) ?_
  refine GM_aload_n (pc := 33) 0 rfl (daX11_way_0 18 rfl) rfl ?_
  obtain ⟨hc1, h⟩ := chk_inv h
  refine GM_getf (pc := 34) 11 18 0 18 kf_X11_292 (Nat.le_of_ble_eq_true rfl) (Nat.le_of_ble_eq_true rfl) rfl (daX11_way_0 19 rfl) hc1 rfl ?_
  refine GM_icmp_ge (pc := 37) 58 (daX11_way_0 20 rfl) rfl (fun c2 => ?_) (fun c2 => ?_)
  · skip
    rw [if_pos c2] at h
    refine GM_pick [0, 1, 2] rfl ?_
    cases h
    exact hK
  · skip
    rw [if_neg c2] at h
    refine GM_aload_n (pc := 40) 0 rfl (daX11_way_0 21 rfl) rfl ?_
    refine GM_aload_n (pc := 41) 0 rfl (daX11_way_0 22 rfl) rfl ?_
    refine GM_getf (pc := 42) 11 19 3 19 kf_X11_35 (Nat.le_of_ble_eq_true rfl) (Nat.le_of_ble_eq_true rfl) rfl (daX11_way_0 23 rfl) hc1 rfl ?_
    refine GM_iload (pc := 45) 3 rfl (daX11_way_0 24 rfl) ?_
    obtain ⟨hc3, h⟩ := chk_inv h
    refine GM_iald (pc := 47) (daX11_way_0 25 rfl) hc3.1 hc3.2.1 hc3.2.2 ?_
    refine GM_iconst (pc := 48) 0 (daX11_way_0 26 rfl) rfl (R32_b rfl) ?_
    obtain ⟨μ4, hf4, h⟩ := Option.bind_eq_some_iff.mp h
    refine GM_callV0 (pc := 49) [(0, μ (μ v0 19) v5), (0, 0)] (tX11_comes l hf4) cwX11_comes 11 (Nat.le_of_ble_eq_true rfl) rfl kv_X11_comes ke_X11_comes km_X11_336 hc1 ⟨Nat.le_of_ble_eq_true rfl, Nat.le_of_ble_eq_true rfl⟩ (Nat.le_of_ble_eq_true rfl) (Nat.le_of_ble_eq_true rfl) (daX11_way_0 27 rfl) ?_
    refine GM_iinc (L' := [(5, (0, w32 (v5 + 1))), (0, (3, v0)), (1, (0, v1)), (4, (0, v4))]) (pc := 52) 3 rfl (daX11_way_0 28 rfl) (Nat.le_of_ble_eq_true rfl) rfl ?_
    refine GM_goto (pc := 55) 31 (daX11_way_0 29 rfl) rfl ?_
    refine GM_pick [1, 2, 3, 0] rfl ?_
    cases h
    exact hK
set_option maxRecDepth 20000 in
theorem qX11_way_75 (l : Launch) (F : FI) (v0 : Int) (μ : Mm) (k n : Nat) : ∀ (q : (Int × Int)) (t : ((Int × Int) ⊕ Int)), sX11_way_75 v0 μ q = some t → zX11_way_75 l F v0 μ k n t → zX11_way_75 l F v0 μ k n (.inl q) := by
  intro q t h hK
  obtain ⟨v5, v6⟩ := q
  unfold sX11_way_75 at h
  try dsimp only at h
  show GM l mX11_way F k n 75 [(0, (3, v0)), (5, (0, v5)), (6, (0, v6))] [] μ
  refine GM_iload (pc := 75) 2 rfl (daX11_way_0 40 rfl) ?_
  refine GM_aload_n (pc := 77) 0 rfl (daX11_way_0 41 rfl) rfl ?_
  obtain ⟨hc5, h⟩ := chk_inv h
  refine GM_getf (pc := 78) 11 20 0 20 kf_X11_324 (Nat.le_of_ble_eq_true rfl) (Nat.le_of_ble_eq_true rfl) rfl (daX11_way_0 42 rfl) hc5 rfl ?_
  refine GM_icmp_ge (pc := 81) 130 (daX11_way_0 43 rfl) rfl (fun c6 => ?_) (fun c6 => ?_)
  · skip
    rw [if_pos c6] at h
    refine GM_pick [1] rfl ?_
    cases h
    exact hK
  · skip
    rw [if_neg c6] at h
    refine GM_aload_n (pc := 84) 0 rfl (daX11_way_0 44 rfl) rfl ?_
    refine GM_getf (pc := 85) 11 25 3 25 kf_X11_47 (Nat.le_of_ble_eq_true rfl) (Nat.le_of_ble_eq_true rfl) rfl (daX11_way_0 45 rfl) hc5 rfl ?_
    refine GM_aload_n (pc := 88) 0 rfl (daX11_way_0 46 rfl) rfl ?_
    refine GM_getf (pc := 89) 11 21 3 21 kf_X11_38 (Nat.le_of_ble_eq_true rfl) (Nat.le_of_ble_eq_true rfl) rfl (daX11_way_0 47 rfl) hc5 rfl ?_
    refine GM_iload (pc := 92) 2 rfl (daX11_way_0 48 rfl) ?_
    obtain ⟨hc7, h⟩ := chk_inv h
    refine GM_iald (pc := 94) (daX11_way_0 49 rfl) hc7.1 hc7.2.1 hc7.2.2 ?_
    obtain ⟨hc8, h⟩ := chk_inv h
    refine GM_iald (pc := 95) (daX11_way_0 50 rfl) hc8.1 hc8.2.1 hc8.2.2 ?_
    obtain ⟨y9, hy9, h⟩ := lt_inv h
    refine GM_top hy9 ?_
    refine GM_istore (L' := [(7, (0, y9)), (0, (3, v0)), (5, (0, v5)), (6, (0, v6))]) (pc := 96) (daX11_way_0 51 rfl) (Nat.le_of_ble_eq_true rfl) rfl ?_
    refine GM_iload (pc := 98) 0 rfl (daX11_way_0 52 rfl) ?_
    refine GM_if_lt (pc := 100) 120 (daX11_way_0 53 rfl) rfl (fun c10 => ?_) (fun c10 => ?_)
    · skip
      rw [if_pos c10] at h
      refine GM_iload (pc := 120) 2 rfl (daX11_way_0 61 rfl) ?_
      refine GM_istore (L' := [(5, (0, v5)), (7, (0, y9)), (0, (3, v0)), (6, (0, v6))]) (pc := 122) (daX11_way_0 62 rfl) (Nat.le_of_ble_eq_true rfl) rfl ?_
      refine GM_iinc (L' := [(6, (0, w32 (v6 + 1))), (5, (0, v5)), (7, (0, y9)), (0, (3, v0))]) (pc := 124) 3 rfl (daX11_way_0 63 rfl) (Nat.le_of_ble_eq_true rfl) rfl ?_
      refine GM_goto (pc := 127) 75 (daX11_way_1 0 rfl) rfl ?_
      refine GM_pick [3, 1, 0] rfl ?_
      cases h
      exact hK
    · skip
      rw [if_neg c10] at h
      refine GM_iload (pc := 103) 2 rfl (daX11_way_0 54 rfl) ?_
      refine GM_if_lt (pc := 105) 115 (daX11_way_0 55 rfl) rfl (fun c11 => ?_) (fun c11 => ?_)
      · skip
        rw [if_pos c11] at h
        refine GM_iload (pc := 115) 0 rfl (daX11_way_0 59 rfl) ?_
        refine GM_goto (pc := 117) 122 (daX11_way_0 60 rfl) rfl ?_
        refine GM_istore (L' := [(5, (0, y9)), (7, (0, y9)), (0, (3, v0)), (6, (0, v6))]) (pc := 122) (daX11_way_0 62 rfl) (Nat.le_of_ble_eq_true rfl) rfl ?_
        refine GM_iinc (L' := [(6, (0, w32 (v6 + 1))), (5, (0, y9)), (7, (0, y9)), (0, (3, v0))]) (pc := 124) 3 rfl (daX11_way_0 63 rfl) (Nat.le_of_ble_eq_true rfl) rfl ?_
        refine GM_goto (pc := 127) 75 (daX11_way_1 0 rfl) rfl ?_
        refine GM_pick [3, 1, 0] rfl ?_
        cases h
        exact hK
      · skip
        rw [if_neg c11] at h
        refine GM_iload (pc := 108) 0 rfl (daX11_way_0 56 rfl) ?_
        refine GM_iload (pc := 110) 2 rfl (daX11_way_0 57 rfl) ?_
        refine GM_icmp_ge (pc := 112) 120 (daX11_way_0 58 rfl) rfl (fun c12 => ?_) (fun c12 => ?_)
        · skip
          rw [if_pos c12] at h
          refine GM_iload (pc := 120) 2 rfl (daX11_way_0 61 rfl) ?_
          refine GM_istore (L' := [(5, (0, v5)), (7, (0, y9)), (0, (3, v0)), (6, (0, v6))]) (pc := 122) (daX11_way_0 62 rfl) (Nat.le_of_ble_eq_true rfl) rfl ?_
          refine GM_iinc (L' := [(6, (0, w32 (v6 + 1))), (5, (0, v5)), (7, (0, y9)), (0, (3, v0))]) (pc := 124) 3 rfl (daX11_way_0 63 rfl) (Nat.le_of_ble_eq_true rfl) rfl ?_
          refine GM_goto (pc := 127) 75 (daX11_way_1 0 rfl) rfl ?_
          refine GM_pick [3, 1, 0] rfl ?_
          cases h
          exact hK
        · skip
          rw [if_neg c12] at h
          refine GM_iload (pc := 115) 0 rfl (daX11_way_0 59 rfl) ?_
          refine GM_goto (pc := 117) 122 (daX11_way_0 60 rfl) rfl ?_
          refine GM_istore (L' := [(5, (0, y9)), (7, (0, y9)), (0, (3, v0)), (6, (0, v6))]) (pc := 122) (daX11_way_0 62 rfl) (Nat.le_of_ble_eq_true rfl) rfl ?_
          refine GM_iinc (L' := [(6, (0, w32 (v6 + 1))), (5, (0, y9)), (7, (0, y9)), (0, (3, v0))]) (pc := 124) 3 rfl (daX11_way_0 63 rfl) (Nat.le_of_ble_eq_true rfl) rfl ?_
          refine GM_goto (pc := 127) 75 (daX11_way_1 0 rfl) rfl ?_
          refine GM_pick [3, 1, 0] rfl ?_
          cases h
          exact hK
set_option maxRecDepth 20000 in
theorem gX11_way_0 (l : Launch) {F : FI} {v0 v1 v2 v3 v4 : Int} {μ : Mm} {t : (Int × Mm)} (h : fX11_way v0 v1 v2 v3 v4 μ = some t) (hK : F.1 = [(0, t.1)] ∧ F.2.1 = t.2) : GM l mX11_way F 0 0 0 [(0, (3, v0)), (1, (0, v1)), (2, (0, v2)), (3, (0, v3)), (4, (0, v4))] [] μ := by
  unfold fX11_way at h
  refine GM_iload (pc := 0) 4 rfl (daX11_way_0 0 rfl) ?_
  refine GM_iconst (pc := 2) 0 (daX11_way_0 1 rfl) rfl (R32_b rfl) ?_
  refine GM_sipush (pc := 3) 999 (daX11_way_0 2 rfl) rfl (R32_b rfl) ?_
  refine GM_callS0 (pc := 6) [(0, v4), (0, 0), (0, 999)] (tX11_isIn l (fX11_isIn_eq v4 0 999)) cwX11_isIn ks_X11_isIn km_X11_147 ⟨Nat.le_of_ble_eq_true rfl, Nat.le_of_ble_eq_true rfl⟩ (Nat.le_of_ble_eq_true rfl) (Nat.le_of_ble_eq_true rfl) (daX11_way_0 3 rfl) ?_
  refine GM_if_eq (pc := 9) 22 (daX11_way_0 4 rfl) rfl (fun c13 => ?_) (fun c13 => ?_)
  · skip
    rw [if_pos c13] at h
    refine GM_iconst (pc := 22) (-1) (daX11_way_0 11 rfl) rfl (R32_b rfl) ?_
    cases h
    exact GM_iret (pc := 23) (daX11_way_0 12 rfl) rfl hK
  · skip
    rw [if_neg c13] at h
    refine GM_aload_n (pc := 12) 0 rfl (daX11_way_0 5 rfl) rfl ?_
    refine GM_iload_n (pc := 13) 1 rfl (daX11_way_0 6 rfl) rfl ?_
    refine GM_iload_n (pc := 14) 2 rfl (daX11_way_0 7 rfl) rfl ?_
    refine GM_iload_n (pc := 15) 3 rfl (daX11_way_0 8 rfl) rfl ?_
    obtain ⟨hc14, h⟩ := chk_inv h
    obtain ⟨⟨r15, μ15⟩, hf15, h⟩ := Option.bind_eq_some_iff.mp h
    dsimp only at h
    refine GM_callV0 (pc := 16) [(0, v1), (0, v2), (0, v3)] (tX11_findsBoth l hf15) cwX11_findsBoth 11 (Nat.le_of_ble_eq_true rfl) rfl kv_X11_findsBoth ke_X11_findsBoth km_X11_327 hc14 ⟨Nat.le_of_ble_eq_true rfl, Nat.le_of_ble_eq_true rfl⟩ (Nat.le_of_ble_eq_true rfl) (Nat.le_of_ble_eq_true rfl) (daX11_way_0 9 rfl) ?_
    refine GM_if_ne (pc := 19) 24 (daX11_way_0 10 rfl) rfl (fun c16 => ?_) (fun c16 => ?_)
    · skip
      rw [if_neg c16] at h
      refine GM_aload_n (pc := 24) 0 rfl (daX11_way_0 13 rfl) rfl ?_
      obtain ⟨μ17, hf17, h⟩ := Option.bind_eq_some_iff.mp h
      refine GM_callV0 (pc := 25) [] (tX11_noWay l hf17) cwX11_noWay 11 (Nat.le_of_ble_eq_true rfl) rfl kv_X11_noWay ke_X11_noWay km_X11_339 hc14 ⟨Nat.le_of_ble_eq_true rfl, Nat.le_of_ble_eq_true rfl⟩ (Nat.le_of_ble_eq_true rfl) (Nat.le_of_ble_eq_true rfl) (daX11_way_0 14 rfl) ?_
      refine GM_iconst (pc := 28) 0 (daX11_way_0 15 rfl) rfl (R32_b rfl) ?_
      refine GM_istore (L' := [(5, (0, 0)), (0, (3, v0)), (1, (0, v1)), (2, (0, v2)), (3, (0, v3)), (4, (0, v4))]) (pc := 29) (daX11_way_0 16 rfl) (Nat.le_of_ble_eq_true rfl) rfl ?_
      refine GM_pick [1, 2, 5, 0] rfl ?_
      obtain ⟨x18, hqx18, h⟩ := Option.bind_eq_some_iff.mp h
      refine lop_ind (zX11_way_31 l F v0 v1 v4 0 0) (qX11_way_31 l F v0 v1 v4 0 0) FU _ x18 hqx18 ?_
      obtain ⟨μ_19, hqq⟩ : ∃ z, z = x18 := ⟨x18, rfl⟩
      subst hqq
      show GM l mX11_way F 0 0 58 [(0, (3, v0)), (1, (0, v1)), (4, (0, v4))] [] μ_19
      refine GM_aload_n (pc := 58) 0 rfl (daX11_way_0 30 rfl) rfl ?_
      refine GM_iconst (pc := 59) 0 (daX11_way_0 31 rfl) rfl (R32_b rfl) ?_
      refine GM_iload_n (pc := 60) 1 rfl (daX11_way_0 32 rfl) rfl ?_
      obtain ⟨r20, hf20, h⟩ := Option.bind_eq_some_iff.mp h
      refine GM_callS0 (pc := 61) [(0, 0), (0, v1)] (tX11_placeOf l hf20) cwX11_placeOf ks_X11_placeOf km_X11_204 ⟨Nat.le_of_ble_eq_true rfl, Nat.le_of_ble_eq_true rfl⟩ (Nat.le_of_ble_eq_true rfl) (Nat.le_of_ble_eq_true rfl) (daX11_way_0 33 rfl) ?_
      refine GM_iload (pc := 64) 2 rfl (daX11_way_0 34 rfl) ?_
      obtain ⟨μ21, hf21, h⟩ := Option.bind_eq_some_iff.mp h
      refine GM_callV0 (pc := 66) [(0, r20), (0, v4)] (tX11_walks l hf21) cwX11_walks 11 (Nat.le_of_ble_eq_true rfl) rfl kv_X11_walks ke_X11_walks km_X11_342 hc14 ⟨Nat.le_of_ble_eq_true rfl, Nat.le_of_ble_eq_true rfl⟩ (Nat.le_of_ble_eq_true rfl) (Nat.le_of_ble_eq_true rfl) (daX11_way_0 35 rfl) ?_
      refine GM_iconst (pc := 69) (-1) (daX11_way_0 36 rfl) rfl (R32_b rfl) ?_
      refine GM_istore (L' := [(5, (0, (-1))), (0, (3, v0)), (1, (0, v1)), (4, (0, v4))]) (pc := 70) (daX11_way_0 37 rfl) (Nat.le_of_ble_eq_true rfl) rfl ?_
      refine GM_iconst (pc := 72) 0 (daX11_way_0 38 rfl) rfl (R32_b rfl) ?_
      refine GM_istore (L' := [(6, (0, 0)), (5, (0, (-1))), (0, (3, v0)), (1, (0, v1)), (4, (0, v4))]) (pc := 73) (daX11_way_0 39 rfl) (Nat.le_of_ble_eq_true rfl) rfl ?_
      refine GM_pick [2, 1, 0] rfl ?_
      obtain ⟨x22, hqx22, h⟩ := Option.bind_eq_some_iff.mp h
      refine lop_ind (zX11_way_75 l F v0 μ21 0 0) (qX11_way_75 l F v0 μ21 0 0) FU _ x22 hqx22 ?_
      obtain ⟨v5_23, hqq⟩ : ∃ z, z = x22 := ⟨x22, rfl⟩
      subst hqq
      show GM l mX11_way F 0 0 130 [(5, (0, v5_23))] [] μ21
      refine GM_iload (pc := 130) 0 rfl (daX11_way_1 1 rfl) ?_
      cases h
      exact GM_iret (pc := 132) (daX11_way_1 2 rfl) rfl hK
    · skip
      rw [if_pos c16] at h
      refine GM_iconst (pc := 22) (-1) (daX11_way_0 11 rfl) rfl (R32_b rfl) ?_
      cases h
      exact GM_iret (pc := 23) (daX11_way_0 12 rfl) rfl hK
theorem tX11_way (l : Launch) {v0 v1 v2 v3 v4 : Int} {μ : Mm} {t : (Int × Mm)} (h : fX11_way v0 v1 v2 v3 v4 μ = some t) : Ct l yX11_way mX11_way [(3, v0), (0, v1), (0, v2), (0, v3), (0, v4)] μ ([(0, t.1)], t.2, 0, 0) :=
  Ct_of (by decide +kernel) rfl rfl (Nat.le_of_ble_eq_true rfl) (fun _ _ _ => trivial) (gX11_way_0 l h ⟨rfl, rfl⟩)
def mX11_sneak : MI := (RX11, cX11_sneak, 7, (some .int), "sneak", 5, 127, fun _ _ _ => True)
theorem cwX11_sneak : CWd yX11_sneak mX11_sneak 4 := ⟨ki_X11, kk_X11_sneak, ⟨by decide, by decide⟩, rfl⟩
def dtX11_sneak_0 : List (Nat × Instr × Nat) := [(0, .aload_n 0, 1), (1, .iload_n 1, 1), (2, .iload_n 2, 1), (3, .invokevirtual 210, 3), (6, .ifCond .eq 22, 3), (9, .aload_n 0, 1), (10, .iload_n 1, 1), (11, .iload_n 3, 1), (12, .invokevirtual 210, 3), (15, .ifCond .eq 13, 3), (18, .aload_n 0, 1), (19, .iload_n 1, 1), (20, .iload 4, 2), (22, .invokevirtual 210, 3), (25, .ifCond .ne 5, 3), (28, .iconst (-1), 1), (29, .ireturn, 1), (30, .iconst 0, 1), (31, .iload_n 1, 1), (32, .invokestatic 204, 3), (35, .istore 5, 2), (37, .aload_n 0, 1), (38, .invokevirtual 339, 3), (41, .iconst 0, 1), (42, .istore 6, 2), (44, .iload 6, 2), (46, .aload_n 0, 1), (47, .iload 5, 2), (49, .invokevirtual 207, 3), (52, .if_icmp .ge 41, 3), (55, .aload_n 0, 1), (56, .getfield 53, 3), (59, .iload 6, 2), (61, .iload 6, 2), (63, .iload 4, 2), (65, .if_icmp .eq 16, 3), (68, .aload_n 0, 1), (69, .iload 5, 2), (71, .iload 4, 2), (73, .iload 6, 2), (75, .invokevirtual 244, 3), (78, .ifCond .eq 7, 3), (81, .iconst 1, 1), (82, .goto 4, 3), (85, .iconst 0, 1), (86, .bastore, 1), (87, .iinc 6 1, 3), (90, .goto (-46), 3), (93, .aload_n 0, 1), (94, .iload_n 2, 1), (95, .iconst 0, 1), (96, .invokevirtual 336, 3), (99, .aload_n 0, 1), (100, .iload 5, 2), (102, .sipush 999, 3), (105, .invokevirtual 342, 3), (108, .aload_n 0, 1), (109, .getfield 47, 3), (112, .iload_n 3, 1), (113, .iaload, 1), (114, .ireturn, 1)]
theorem ddX11_sneak_0 : (dtX11_sneak_0.all fun e => decide (decode mX11_sneak.2.1 e.1 = .ok (e.2.1, e.2.2))) = true := by decide +kernel
theorem daX11_sneak_0 (j : Nat) {pc n : Nat} {i : Instr} (h : dtX11_sneak_0[j]? = some (pc, i, n)) : decode mX11_sneak.2.1 pc = .ok (i, n) := dec_of (c := mX11_sneak.2.1) ddX11_sneak_0 h
def zX11_sneak_44 (l : Launch) (F : FI) (v0 v2 v3 v4 v5 : Int) (k n : Nat) : (Int × Mm) ⊕ Mm → Prop
  | .inl (v6, μ) => GM l mX11_sneak F k n 44 [(0, (3, v0)), (2, (0, v2)), (3, (0, v3)), (4, (0, v4)), (5, (0, v5)), (6, (0, v6))] [] μ
  | .inr μ => GM l mX11_sneak F k n 93 [(0, (3, v0)), (2, (0, v2)), (3, (0, v3)), (5, (0, v5))] [] μ
def sX11_sneak_44 (v0 v2 v3 v4 v5 : Int) : (Int × Mm) → Option ((Int × Mm) ⊕ Mm) := fun (v6, μ) =>
  chk (KD v0 = 11) (
  (fX11_placesOf v0 v5 μ).bind fun r2 =>
  if r2 ≤ v6 then
    some (.inr μ)
  else
    if v6 = v4 then
      chk (KD (μ v0 28) = 14 ∧ 0 ≤ v6 ∧ v6 < LN (μ v0 28)) (
      lm (mst μ (μ v0 28) v6 1) fun μ6 =>
      some (.inl (w32 (v6 + 1), μ6)))
    else
      (fX11_isSeen v0 v5 v4 v6 μ).bind fun r7 =>
      if r7 = 0 then
        chk (KD (μ v0 28) = 14 ∧ 0 ≤ v6 ∧ v6 < LN (μ v0 28)) (
        lm (mst μ (μ v0 28) v6 0) fun μ10 =>
        some (.inl (w32 (v6 + 1), μ10)))
      else
        chk (KD (μ v0 28) = 14 ∧ 0 ≤ v6 ∧ v6 < LN (μ v0 28)) (
        lm (mst μ (μ v0 28) v6 1) fun μ12 =>
        some (.inl (w32 (v6 + 1), μ12))))
def fX11_sneak (v0 v1 v2 v3 v4 : Int) (μ : Mm) : Option (Int × Mm) :=
  chk (KD v0 = 11) (
  (fX11_isPlace v0 v1 v2 μ).bind fun r14 =>
  if r14 = 0 then
    some ((-1), μ)
  else
    (fX11_isPlace v0 v1 v3 μ).bind fun r16 =>
    if r16 = 0 then
      some ((-1), μ)
    else
      (fX11_isPlace v0 v1 v4 μ).bind fun r18 =>
      if r18 = 0 then
        some ((-1), μ)
      else
        (fX11_placeOf 0 v1).bind fun r20 =>
        (fX11_noWay v0 μ).bind fun μ21 =>
        (lop (sX11_sneak_44 v0 v2 v3 v4 r20) FU (0, μ21)).bind fun μ_23 =>
          (fX11_comes v0 v2 0 μ_23).bind fun μ24 =>
          (fX11_walks v0 r20 999 μ24).bind fun μ25 =>
          chk (KD (μ25 v0 25) = 12 ∧ 0 ≤ v3 ∧ v3 < LN (μ25 v0 25)) (
          some (μ25 (μ25 v0 25) v3, μ25)))
set_option maxRecDepth 20000 in
theorem qX11_sneak_44 (l : Launch) (F : FI) (v0 v2 v3 v4 v5 : Int) (k n : Nat) : ∀ (q : (Int × Mm)) (t : ((Int × Mm) ⊕ Mm)), sX11_sneak_44 v0 v2 v3 v4 v5 q = some t → zX11_sneak_44 l F v0 v2 v3 v4 v5 k n t → zX11_sneak_44 l F v0 v2 v3 v4 v5 k n (.inl q) := by
  intro q t h hK
  obtain ⟨v6, μ⟩ := q
  unfold sX11_sneak_44 at h
  try dsimp only at h
  show GM l mX11_sneak F k n 44 [(0, (3, v0)), (2, (0, v2)), (3, (0, v3)), (4, (0, v4)), (5, (0, v5)), (6, (0, v6))] [] μ
  refine GM_iload (pc := 44) 5 rfl (daX11_sneak_0 25 rfl) ?_
  refine GM_aload_n (pc := 46) 0 rfl (daX11_sneak_0 26 rfl) rfl ?_
  refine GM_iload (pc := 47) 4 rfl (daX11_sneak_0 27 rfl) ?_
  obtain ⟨hc1, h⟩ := chk_inv h
  obtain ⟨r2, hf2, h⟩ := Option.bind_eq_some_iff.mp h
  refine GM_callV0 (pc := 49) [(0, v5)] (tX11_placesOf l hf2) cwX11_placesOf 11 (Nat.le_of_ble_eq_true rfl) rfl kv_X11_placesOf ke_X11_placesOf km_X11_207 hc1 ⟨Nat.le_of_ble_eq_true rfl, Nat.le_of_ble_eq_true rfl⟩ (Nat.le_of_ble_eq_true rfl) (Nat.le_of_ble_eq_true rfl) (daX11_sneak_0 28 rfl) ?_
  refine GM_icmp_ge (pc := 52) 93 (daX11_sneak_0 29 rfl) rfl (fun c3 => ?_) (fun c3 => ?_)
  · skip
    rw [if_pos c3] at h
    refine GM_pick [0, 1, 2, 4] rfl ?_
    cases h
    exact hK
  · skip
    rw [if_neg c3] at h
    refine GM_aload_n (pc := 55) 0 rfl (daX11_sneak_0 30 rfl) rfl ?_
    refine GM_getf (pc := 56) 11 28 3 28 kf_X11_53 (Nat.le_of_ble_eq_true rfl) (Nat.le_of_ble_eq_true rfl) rfl (daX11_sneak_0 31 rfl) hc1 rfl ?_
    refine GM_iload (pc := 59) 5 rfl (daX11_sneak_0 32 rfl) ?_
    refine GM_iload (pc := 61) 5 rfl (daX11_sneak_0 33 rfl) ?_
    refine GM_iload (pc := 63) 3 rfl (daX11_sneak_0 34 rfl) ?_
    refine GM_icmp_eq (pc := 65) 81 (daX11_sneak_0 35 rfl) rfl (fun c4 => ?_) (fun c4 => ?_)
    · skip
      rw [if_pos c4] at h
      refine GM_iconst (pc := 81) 1 (daX11_sneak_0 42 rfl) rfl (R32_b rfl) ?_
      refine GM_goto (pc := 82) 86 (daX11_sneak_0 43 rfl) rfl ?_
      obtain ⟨hc5, h⟩ := chk_inv h
      obtain ⟨μ6, hμ6, h⟩ := lm_inv h
      refine GM_zast (pc := 86) (daX11_sneak_0 45 rfl) hc5.1 hc5.2.1 hc5.2.2 (Or.inr rfl) ?_
      refine GM_mem hμ6 ?_
      refine GM_iinc (L' := [(6, (0, w32 (v6 + 1))), (0, (3, v0)), (2, (0, v2)), (3, (0, v3)), (4, (0, v4)), (5, (0, v5))]) (pc := 87) 5 rfl (daX11_sneak_0 46 rfl) (Nat.le_of_ble_eq_true rfl) rfl ?_
      refine GM_goto (pc := 90) 44 (daX11_sneak_0 47 rfl) rfl ?_
      refine GM_pick [1, 2, 3, 4, 5, 0] rfl ?_
      cases h
      exact hK
    · skip
      rw [if_neg c4] at h
      refine GM_aload_n (pc := 68) 0 rfl (daX11_sneak_0 36 rfl) rfl ?_
      refine GM_iload (pc := 69) 4 rfl (daX11_sneak_0 37 rfl) ?_
      refine GM_iload (pc := 71) 3 rfl (daX11_sneak_0 38 rfl) ?_
      refine GM_iload (pc := 73) 5 rfl (daX11_sneak_0 39 rfl) ?_
      obtain ⟨r7, hf7, h⟩ := Option.bind_eq_some_iff.mp h
      refine GM_callV0 (pc := 75) [(0, v5), (0, v4), (0, v6)] (tX11_isSeen l hf7) cwX11_isSeen 11 (Nat.le_of_ble_eq_true rfl) rfl kv_X11_isSeen ke_X11_isSeen km_X11_244 hc1 ⟨Nat.le_of_ble_eq_true rfl, Nat.le_of_ble_eq_true rfl⟩ (Nat.le_of_ble_eq_true rfl) (Nat.le_of_ble_eq_true rfl) (daX11_sneak_0 40 rfl) ?_
      refine GM_if_eq (pc := 78) 85 (daX11_sneak_0 41 rfl) rfl (fun c8 => ?_) (fun c8 => ?_)
      · skip
        rw [if_pos c8] at h
        refine GM_iconst (pc := 85) 0 (daX11_sneak_0 44 rfl) rfl (R32_b rfl) ?_
        obtain ⟨hc9, h⟩ := chk_inv h
        obtain ⟨μ10, hμ10, h⟩ := lm_inv h
        refine GM_zast (pc := 86) (daX11_sneak_0 45 rfl) hc9.1 hc9.2.1 hc9.2.2 (Or.inl rfl) ?_
        refine GM_mem hμ10 ?_
        refine GM_iinc (L' := [(6, (0, w32 (v6 + 1))), (0, (3, v0)), (2, (0, v2)), (3, (0, v3)), (4, (0, v4)), (5, (0, v5))]) (pc := 87) 5 rfl (daX11_sneak_0 46 rfl) (Nat.le_of_ble_eq_true rfl) rfl ?_
        refine GM_goto (pc := 90) 44 (daX11_sneak_0 47 rfl) rfl ?_
        refine GM_pick [1, 2, 3, 4, 5, 0] rfl ?_
        cases h
        exact hK
      · skip
        rw [if_neg c8] at h
        refine GM_iconst (pc := 81) 1 (daX11_sneak_0 42 rfl) rfl (R32_b rfl) ?_
        refine GM_goto (pc := 82) 86 (daX11_sneak_0 43 rfl) rfl ?_
        obtain ⟨hc11, h⟩ := chk_inv h
        obtain ⟨μ12, hμ12, h⟩ := lm_inv h
        refine GM_zast (pc := 86) (daX11_sneak_0 45 rfl) hc11.1 hc11.2.1 hc11.2.2 (Or.inr rfl) ?_
        refine GM_mem hμ12 ?_
        refine GM_iinc (L' := [(6, (0, w32 (v6 + 1))), (0, (3, v0)), (2, (0, v2)), (3, (0, v3)), (4, (0, v4)), (5, (0, v5))]) (pc := 87) 5 rfl (daX11_sneak_0 46 rfl) (Nat.le_of_ble_eq_true rfl) rfl ?_
        refine GM_goto (pc := 90) 44 (daX11_sneak_0 47 rfl) rfl ?_
        refine GM_pick [1, 2, 3, 4, 5, 0] rfl ?_
        cases h
        exact hK
set_option maxRecDepth 20000 in
theorem gX11_sneak_0 (l : Launch) {F : FI} {v0 v1 v2 v3 v4 : Int} {μ : Mm} {t : (Int × Mm)} (h : fX11_sneak v0 v1 v2 v3 v4 μ = some t) (hK : F.1 = [(0, t.1)] ∧ F.2.1 = t.2) : GM l mX11_sneak F 0 0 0 [(0, (3, v0)), (1, (0, v1)), (2, (0, v2)), (3, (0, v3)), (4, (0, v4))] [] μ := by
  unfold fX11_sneak at h
  refine GM_aload_n (pc := 0) 0 rfl (daX11_sneak_0 0 rfl) rfl ?_
  refine GM_iload_n (pc := 1) 1 rfl (daX11_sneak_0 1 rfl) rfl ?_
  refine GM_iload_n (pc := 2) 2 rfl (daX11_sneak_0 2 rfl) rfl ?_
  obtain ⟨hc13, h⟩ := chk_inv h
  obtain ⟨r14, hf14, h⟩ := Option.bind_eq_some_iff.mp h
  refine GM_callV0 (pc := 3) [(0, v1), (0, v2)] (tX11_isPlace l hf14) cwX11_isPlace 11 (Nat.le_of_ble_eq_true rfl) rfl kv_X11_isPlace ke_X11_isPlace km_X11_210 hc13 ⟨Nat.le_of_ble_eq_true rfl, Nat.le_of_ble_eq_true rfl⟩ (Nat.le_of_ble_eq_true rfl) (Nat.le_of_ble_eq_true rfl) (daX11_sneak_0 3 rfl) ?_
  refine GM_if_eq (pc := 6) 28 (daX11_sneak_0 4 rfl) rfl (fun c15 => ?_) (fun c15 => ?_)
  · skip
    rw [if_pos c15] at h
    refine GM_iconst (pc := 28) (-1) (daX11_sneak_0 15 rfl) rfl (R32_b rfl) ?_
    cases h
    exact GM_iret (pc := 29) (daX11_sneak_0 16 rfl) rfl hK
  · skip
    rw [if_neg c15] at h
    refine GM_aload_n (pc := 9) 0 rfl (daX11_sneak_0 5 rfl) rfl ?_
    refine GM_iload_n (pc := 10) 1 rfl (daX11_sneak_0 6 rfl) rfl ?_
    refine GM_iload_n (pc := 11) 3 rfl (daX11_sneak_0 7 rfl) rfl ?_
    obtain ⟨r16, hf16, h⟩ := Option.bind_eq_some_iff.mp h
    refine GM_callV0 (pc := 12) [(0, v1), (0, v3)] (tX11_isPlace l hf16) cwX11_isPlace 11 (Nat.le_of_ble_eq_true rfl) rfl kv_X11_isPlace ke_X11_isPlace km_X11_210 hc13 ⟨Nat.le_of_ble_eq_true rfl, Nat.le_of_ble_eq_true rfl⟩ (Nat.le_of_ble_eq_true rfl) (Nat.le_of_ble_eq_true rfl) (daX11_sneak_0 8 rfl) ?_
    refine GM_if_eq (pc := 15) 28 (daX11_sneak_0 9 rfl) rfl (fun c17 => ?_) (fun c17 => ?_)
    · skip
      rw [if_pos c17] at h
      refine GM_iconst (pc := 28) (-1) (daX11_sneak_0 15 rfl) rfl (R32_b rfl) ?_
      cases h
      exact GM_iret (pc := 29) (daX11_sneak_0 16 rfl) rfl hK
    · skip
      rw [if_neg c17] at h
      refine GM_aload_n (pc := 18) 0 rfl (daX11_sneak_0 10 rfl) rfl ?_
      refine GM_iload_n (pc := 19) 1 rfl (daX11_sneak_0 11 rfl) rfl ?_
      refine GM_iload (pc := 20) 4 rfl (daX11_sneak_0 12 rfl) ?_
      obtain ⟨r18, hf18, h⟩ := Option.bind_eq_some_iff.mp h
      refine GM_callV0 (pc := 22) [(0, v1), (0, v4)] (tX11_isPlace l hf18) cwX11_isPlace 11 (Nat.le_of_ble_eq_true rfl) rfl kv_X11_isPlace ke_X11_isPlace km_X11_210 hc13 ⟨Nat.le_of_ble_eq_true rfl, Nat.le_of_ble_eq_true rfl⟩ (Nat.le_of_ble_eq_true rfl) (Nat.le_of_ble_eq_true rfl) (daX11_sneak_0 13 rfl) ?_
      refine GM_if_ne (pc := 25) 30 (daX11_sneak_0 14 rfl) rfl (fun c19 => ?_) (fun c19 => ?_)
      · skip
        rw [if_neg c19] at h
        refine GM_iconst (pc := 30) 0 (daX11_sneak_0 17 rfl) rfl (R32_b rfl) ?_
        refine GM_iload_n (pc := 31) 1 rfl (daX11_sneak_0 18 rfl) rfl ?_
        obtain ⟨r20, hf20, h⟩ := Option.bind_eq_some_iff.mp h
        refine GM_callS0 (pc := 32) [(0, 0), (0, v1)] (tX11_placeOf l hf20) cwX11_placeOf ks_X11_placeOf km_X11_204 ⟨Nat.le_of_ble_eq_true rfl, Nat.le_of_ble_eq_true rfl⟩ (Nat.le_of_ble_eq_true rfl) (Nat.le_of_ble_eq_true rfl) (daX11_sneak_0 19 rfl) ?_
        refine GM_istore (L' := [(5, (0, r20)), (0, (3, v0)), (1, (0, v1)), (2, (0, v2)), (3, (0, v3)), (4, (0, v4))]) (pc := 35) (daX11_sneak_0 20 rfl) (Nat.le_of_ble_eq_true rfl) rfl ?_
        refine GM_aload_n (pc := 37) 1 rfl (daX11_sneak_0 21 rfl) rfl ?_
        obtain ⟨μ21, hf21, h⟩ := Option.bind_eq_some_iff.mp h
        refine GM_callV0 (pc := 38) [] (tX11_noWay l hf21) cwX11_noWay 11 (Nat.le_of_ble_eq_true rfl) rfl kv_X11_noWay ke_X11_noWay km_X11_339 hc13 ⟨Nat.le_of_ble_eq_true rfl, Nat.le_of_ble_eq_true rfl⟩ (Nat.le_of_ble_eq_true rfl) (Nat.le_of_ble_eq_true rfl) (daX11_sneak_0 22 rfl) ?_
        refine GM_iconst (pc := 41) 0 (daX11_sneak_0 23 rfl) rfl (R32_b rfl) ?_
        refine GM_istore (L' := [(6, (0, 0)), (5, (0, r20)), (0, (3, v0)), (1, (0, v1)), (2, (0, v2)), (3, (0, v3)), (4, (0, v4))]) (pc := 42) (daX11_sneak_0 24 rfl) (Nat.le_of_ble_eq_true rfl) rfl ?_
        refine GM_pick [2, 4, 5, 6, 1, 0] rfl ?_
        obtain ⟨x22, hqx22, h⟩ := Option.bind_eq_some_iff.mp h
        refine lop_ind (zX11_sneak_44 l F v0 v2 v3 v4 r20 0 0) (qX11_sneak_44 l F v0 v2 v3 v4 r20 0 0) FU _ x22 hqx22 ?_
        obtain ⟨μ_23, hqq⟩ : ∃ z, z = x22 := ⟨x22, rfl⟩
        subst hqq
        show GM l mX11_sneak F 0 0 93 [(0, (3, v0)), (2, (0, v2)), (3, (0, v3)), (5, (0, r20))] [] μ_23
        refine GM_aload_n (pc := 93) 0 rfl (daX11_sneak_0 48 rfl) rfl ?_
        refine GM_iload_n (pc := 94) 1 rfl (daX11_sneak_0 49 rfl) rfl ?_
        refine GM_iconst (pc := 95) 0 (daX11_sneak_0 50 rfl) rfl (R32_b rfl) ?_
        obtain ⟨μ24, hf24, h⟩ := Option.bind_eq_some_iff.mp h
        refine GM_callV0 (pc := 96) [(0, v2), (0, 0)] (tX11_comes l hf24) cwX11_comes 11 (Nat.le_of_ble_eq_true rfl) rfl kv_X11_comes ke_X11_comes km_X11_336 hc13 ⟨Nat.le_of_ble_eq_true rfl, Nat.le_of_ble_eq_true rfl⟩ (Nat.le_of_ble_eq_true rfl) (Nat.le_of_ble_eq_true rfl) (daX11_sneak_0 51 rfl) ?_
        refine GM_aload_n (pc := 99) 0 rfl (daX11_sneak_0 52 rfl) rfl ?_
        refine GM_iload (pc := 100) 3 rfl (daX11_sneak_0 53 rfl) ?_
        refine GM_sipush (pc := 102) 999 (daX11_sneak_0 54 rfl) rfl (R32_b rfl) ?_
        obtain ⟨μ25, hf25, h⟩ := Option.bind_eq_some_iff.mp h
        refine GM_callV0 (pc := 105) [(0, r20), (0, 999)] (tX11_walks l hf25) cwX11_walks 11 (Nat.le_of_ble_eq_true rfl) rfl kv_X11_walks ke_X11_walks km_X11_342 hc13 ⟨Nat.le_of_ble_eq_true rfl, Nat.le_of_ble_eq_true rfl⟩ (Nat.le_of_ble_eq_true rfl) (Nat.le_of_ble_eq_true rfl) (daX11_sneak_0 55 rfl) ?_
        refine GM_aload_n (pc := 108) 0 rfl (daX11_sneak_0 56 rfl) rfl ?_
        refine GM_getf (pc := 109) 11 25 3 25 kf_X11_47 (Nat.le_of_ble_eq_true rfl) (Nat.le_of_ble_eq_true rfl) rfl (daX11_sneak_0 57 rfl) hc13 rfl ?_
        refine GM_iload_n (pc := 112) 2 rfl (daX11_sneak_0 58 rfl) rfl ?_
        obtain ⟨hc26, h⟩ := chk_inv h
        refine GM_iald (pc := 113) (daX11_sneak_0 59 rfl) hc26.1 hc26.2.1 hc26.2.2 ?_
        cases h
        exact GM_iret (pc := 114) (daX11_sneak_0 60 rfl) rfl hK
      · skip
        rw [if_pos c19] at h
        refine GM_iconst (pc := 28) (-1) (daX11_sneak_0 15 rfl) rfl (R32_b rfl) ?_
        cases h
        exact GM_iret (pc := 29) (daX11_sneak_0 16 rfl) rfl hK
theorem tX11_sneak (l : Launch) {v0 v1 v2 v3 v4 : Int} {μ : Mm} {t : (Int × Mm)} (h : fX11_sneak v0 v1 v2 v3 v4 μ = some t) : Ct l yX11_sneak mX11_sneak [(3, v0), (0, v1), (0, v2), (0, v3), (0, v4)] μ ([(0, t.1)], t.2, 0, 0) :=
  Ct_of (by decide +kernel) rfl rfl (Nat.le_of_ble_eq_true rfl) (fun _ _ _ => trivial) (gX11_sneak_0 l h ⟨rfl, rfl⟩)
def mX11_canDraw : MI := (RX11, cX11_canDraw, 6, (some .boolean), "canDraw", 7, 175, fun _ _ _ => True)
theorem cwX11_canDraw : CWd yX11_canDraw mX11_canDraw 5 := ⟨ki_X11, kk_X11_canDraw, ⟨by decide, by decide⟩, rfl⟩
def dtX11_canDraw_0 : List (Nat × Instr × Nat) := [(0, .aload_n 0, 1), (1, .iload_n 1, 1), (2, .iload_n 2, 1), (3, .invokevirtual 210, 3), (6, .ifCond .ne 5, 3), (9, .iconst 0, 1), (10, .ireturn, 1), (11, .aload_n 0, 1), (12, .iconst 0, 1), (13, .iload_n 1, 1), (14, .invokestatic 204, 3), (17, .iload_n 2, 1), (18, .invokevirtual 238, 3), (21, .iload_n 3, 1), (22, .iconst 0, 1), (23, .aload_n 0, 1), (24, .getfield 29, 3), (27, .iload_n 2, 1), (28, .iaload, 1), (29, .iconst 1, 1), (30, .isub, 1), (31, .invokestatic 147, 3), (34, .ifCond .eq 38, 3), (37, .iload 4, 2), (39, .iconst 1, 1), (40, .aload_n 0, 1), (41, .getfield 29, 3), (44, .iload_n 2, 1), (45, .iaload, 1), (46, .iload 5, 2), (48, .if_icmp .ge 12, 3), (51, .aload_n 0, 1), (52, .getfield 29, 3), (55, .iload_n 2, 1), (56, .iaload, 1), (57, .goto 5, 3), (60, .iload 5, 2), (62, .invokestatic 147, 3), (65, .ifCond .eq 7, 3), (68, .iconst 1, 1), (69, .goto 4, 3), (72, .iconst 0, 1), (73, .ireturn, 1)]
theorem ddX11_canDraw_0 : (dtX11_canDraw_0.all fun e => decide (decode mX11_canDraw.2.1 e.1 = .ok (e.2.1, e.2.2))) = true := by decide +kernel
theorem daX11_canDraw_0 (j : Nat) {pc n : Nat} {i : Instr} (h : dtX11_canDraw_0[j]? = some (pc, i, n)) : decode mX11_canDraw.2.1 pc = .ok (i, n) := dec_of (c := mX11_canDraw.2.1) ddX11_canDraw_0 h
def jX11_canDraw_62 (s0 s1 s2 : Int) (μ : Mm) : Option (Int × Mm) :=
  if isIn s2 s1 s0 = 0 then
    some (0, μ)
  else
    some (1, μ)
def fX11_canDraw (v0 v1 v2 v3 v4 v5 : Int) (μ : Mm) : Option (Int × Mm) :=
  chk (KD v0 = 11) (
  (fX11_isPlace v0 v1 v2 μ).bind fun r3 =>
  if r3 = 0 then
    some (0, μ)
  else
    (fX11_placeOf 0 v1).bind fun r5 =>
    (fX11_surveyAt v0 r5 v2 μ).bind fun μ6 =>
    chk (KD (μ6 v0 16) = 12 ∧ 0 ≤ v2 ∧ v2 < LN (μ6 v0 16)) (
    if isIn v3 0 (w32 ((μ6 (μ6 v0 16) v2) - 1)) = 0 then
      some (0, μ6)
    else
      if v5 ≤ μ6 (μ6 v0 16) v2 then
        jX11_canDraw_62 v5 1 v4 μ6
      else
        jX11_canDraw_62 (μ6 (μ6 v0 16) v2) 1 v4 μ6))
set_option maxRecDepth 20000 in
theorem gX11_canDraw_62 (l : Launch) {F : FI} {s0 s1 s2 : Int} {μ : Mm} {t : (Int × Mm)} (h : jX11_canDraw_62 s0 s1 s2 μ = some t) (hK : F.1 = [(0, t.1)] ∧ F.2.1 = t.2) : GM l mX11_canDraw F 0 0 62 [] [(0, s0), (0, s1), (0, s2)] μ := by
  unfold jX11_canDraw_62 at h
  refine GM_callS0 (pc := 62) [(0, s2), (0, s1), (0, s0)] (tX11_isIn l (fX11_isIn_eq s2 s1 s0)) cwX11_isIn ks_X11_isIn km_X11_147 ⟨Nat.le_of_ble_eq_true rfl, Nat.le_of_ble_eq_true rfl⟩ (Nat.le_of_ble_eq_true rfl) (Nat.le_of_ble_eq_true rfl) (daX11_canDraw_0 37 rfl) ?_
  refine GM_if_eq (pc := 65) 72 (daX11_canDraw_0 38 rfl) rfl (fun c1 => ?_) (fun c1 => ?_)
  · skip
    rw [if_pos c1] at h
    refine GM_iconst (pc := 72) 0 (daX11_canDraw_0 41 rfl) rfl (R32_b rfl) ?_
    cases h
    exact GM_zret (pc := 73) (daX11_canDraw_0 42 rfl) rfl (Or.inl rfl) hK
  · skip
    rw [if_neg c1] at h
    refine GM_iconst (pc := 68) 1 (daX11_canDraw_0 39 rfl) rfl (R32_b rfl) ?_
    refine GM_goto (pc := 69) 73 (daX11_canDraw_0 40 rfl) rfl ?_
    cases h
    exact GM_zret (pc := 73) (daX11_canDraw_0 42 rfl) rfl (Or.inr rfl) hK
set_option maxRecDepth 20000 in
theorem gX11_canDraw_0 (l : Launch) {F : FI} {v0 v1 v2 v3 v4 v5 : Int} {μ : Mm} {t : (Int × Mm)} (h : fX11_canDraw v0 v1 v2 v3 v4 v5 μ = some t) (hK : F.1 = [(0, t.1)] ∧ F.2.1 = t.2) : GM l mX11_canDraw F 0 0 0 [(0, (3, v0)), (1, (0, v1)), (2, (0, v2)), (3, (0, v3)), (4, (0, v4)), (5, (0, v5))] [] μ := by
  unfold fX11_canDraw at h
  refine GM_aload_n (pc := 0) 0 rfl (daX11_canDraw_0 0 rfl) rfl ?_
  refine GM_iload_n (pc := 1) 1 rfl (daX11_canDraw_0 1 rfl) rfl ?_
  refine GM_iload_n (pc := 2) 2 rfl (daX11_canDraw_0 2 rfl) rfl ?_
  obtain ⟨hc2, h⟩ := chk_inv h
  obtain ⟨r3, hf3, h⟩ := Option.bind_eq_some_iff.mp h
  refine GM_callV0 (pc := 3) [(0, v1), (0, v2)] (tX11_isPlace l hf3) cwX11_isPlace 11 (Nat.le_of_ble_eq_true rfl) rfl kv_X11_isPlace ke_X11_isPlace km_X11_210 hc2 ⟨Nat.le_of_ble_eq_true rfl, Nat.le_of_ble_eq_true rfl⟩ (Nat.le_of_ble_eq_true rfl) (Nat.le_of_ble_eq_true rfl) (daX11_canDraw_0 3 rfl) ?_
  refine GM_if_ne (pc := 6) 11 (daX11_canDraw_0 4 rfl) rfl (fun c4 => ?_) (fun c4 => ?_)
  · skip
    rw [if_neg c4] at h
    refine GM_aload_n (pc := 11) 0 rfl (daX11_canDraw_0 7 rfl) rfl ?_
    refine GM_iconst (pc := 12) 0 (daX11_canDraw_0 8 rfl) rfl (R32_b rfl) ?_
    refine GM_iload_n (pc := 13) 1 rfl (daX11_canDraw_0 9 rfl) rfl ?_
    obtain ⟨r5, hf5, h⟩ := Option.bind_eq_some_iff.mp h
    refine GM_callS0 (pc := 14) [(0, 0), (0, v1)] (tX11_placeOf l hf5) cwX11_placeOf ks_X11_placeOf km_X11_204 ⟨Nat.le_of_ble_eq_true rfl, Nat.le_of_ble_eq_true rfl⟩ (Nat.le_of_ble_eq_true rfl) (Nat.le_of_ble_eq_true rfl) (daX11_canDraw_0 10 rfl) ?_
    refine GM_iload_n (pc := 17) 2 rfl (daX11_canDraw_0 11 rfl) rfl ?_
    obtain ⟨μ6, hf6, h⟩ := Option.bind_eq_some_iff.mp h
    refine GM_callV0 (pc := 18) [(0, r5), (0, v2)] (tX11_surveyAt l hf6) cwX11_surveyAt 11 (Nat.le_of_ble_eq_true rfl) rfl kv_X11_surveyAt ke_X11_surveyAt km_X11_238 hc2 ⟨Nat.le_of_ble_eq_true rfl, Nat.le_of_ble_eq_true rfl⟩ (Nat.le_of_ble_eq_true rfl) (Nat.le_of_ble_eq_true rfl) (daX11_canDraw_0 12 rfl) ?_
    refine GM_iload_n (pc := 21) 3 rfl (daX11_canDraw_0 13 rfl) rfl ?_
    refine GM_iconst (pc := 22) 0 (daX11_canDraw_0 14 rfl) rfl (R32_b rfl) ?_
    refine GM_aload_n (pc := 23) 0 rfl (daX11_canDraw_0 15 rfl) rfl ?_
    refine GM_getf (pc := 24) 11 16 3 16 kf_X11_29 (Nat.le_of_ble_eq_true rfl) (Nat.le_of_ble_eq_true rfl) rfl (daX11_canDraw_0 16 rfl) hc2 rfl ?_
    refine GM_iload_n (pc := 27) 2 rfl (daX11_canDraw_0 17 rfl) rfl ?_
    obtain ⟨hc7, h⟩ := chk_inv h
    refine GM_iald (pc := 28) (daX11_canDraw_0 18 rfl) hc7.1 hc7.2.1 hc7.2.2 ?_
    refine GM_iconst (pc := 29) 1 (daX11_canDraw_0 19 rfl) rfl (R32_b rfl) ?_
    refine GM_isub (pc := 30) (daX11_canDraw_0 20 rfl) ?_
    refine GM_callS0 (pc := 31) [(0, v3), (0, 0), (0, w32 ((μ6 (μ6 v0 16) v2) - 1))] (tX11_isIn l (fX11_isIn_eq v3 0 (w32 ((μ6 (μ6 v0 16) v2) - 1)))) cwX11_isIn ks_X11_isIn km_X11_147 ⟨Nat.le_of_ble_eq_true rfl, Nat.le_of_ble_eq_true rfl⟩ (Nat.le_of_ble_eq_true rfl) (Nat.le_of_ble_eq_true rfl) (daX11_canDraw_0 21 rfl) ?_
    refine GM_if_eq (pc := 34) 72 (daX11_canDraw_0 22 rfl) rfl (fun c8 => ?_) (fun c8 => ?_)
    · skip
      rw [if_pos c8] at h
      refine GM_iconst (pc := 72) 0 (daX11_canDraw_0 41 rfl) rfl (R32_b rfl) ?_
      cases h
      exact GM_zret (pc := 73) (daX11_canDraw_0 42 rfl) rfl (Or.inl rfl) hK
    · skip
      rw [if_neg c8] at h
      refine GM_iload (pc := 37) 4 rfl (daX11_canDraw_0 23 rfl) ?_
      refine GM_iconst (pc := 39) 1 (daX11_canDraw_0 24 rfl) rfl (R32_b rfl) ?_
      refine GM_aload_n (pc := 40) 0 rfl (daX11_canDraw_0 25 rfl) rfl ?_
      refine GM_getf (pc := 41) 11 16 3 16 kf_X11_29 (Nat.le_of_ble_eq_true rfl) (Nat.le_of_ble_eq_true rfl) rfl (daX11_canDraw_0 26 rfl) hc2 rfl ?_
      refine GM_iload_n (pc := 44) 2 rfl (daX11_canDraw_0 27 rfl) rfl ?_
      refine GM_iald (pc := 45) (daX11_canDraw_0 28 rfl) hc7.1 hc7.2.1 hc7.2.2 ?_
      refine GM_iload (pc := 46) 5 rfl (daX11_canDraw_0 29 rfl) ?_
      refine GM_icmp_ge (pc := 48) 60 (daX11_canDraw_0 30 rfl) rfl (fun c9 => ?_) (fun c9 => ?_)
      · skip
        rw [if_pos c9] at h
        refine GM_iload (pc := 60) 5 rfl (daX11_canDraw_0 36 rfl) ?_
        refine GM_pick [] rfl ?_
        exact gX11_canDraw_62 l h hK
      · skip
        rw [if_neg c9] at h
        refine GM_aload_n (pc := 51) 0 rfl (daX11_canDraw_0 31 rfl) rfl ?_
        refine GM_getf (pc := 52) 11 16 3 16 kf_X11_29 (Nat.le_of_ble_eq_true rfl) (Nat.le_of_ble_eq_true rfl) rfl (daX11_canDraw_0 32 rfl) hc2 rfl ?_
        refine GM_iload_n (pc := 55) 2 rfl (daX11_canDraw_0 33 rfl) rfl ?_
        refine GM_iald (pc := 56) (daX11_canDraw_0 34 rfl) hc7.1 hc7.2.1 hc7.2.2 ?_
        refine GM_goto (pc := 57) 62 (daX11_canDraw_0 35 rfl) rfl ?_
        refine GM_pick [] rfl ?_
        exact gX11_canDraw_62 l h hK
  · skip
    rw [if_pos c4] at h
    refine GM_iconst (pc := 9) 0 (daX11_canDraw_0 5 rfl) rfl (R32_b rfl) ?_
    cases h
    exact GM_zret (pc := 10) (daX11_canDraw_0 6 rfl) rfl (Or.inl rfl) hK
theorem tX11_canDraw (l : Launch) {v0 v1 v2 v3 v4 v5 : Int} {μ : Mm} {t : (Int × Mm)} (h : fX11_canDraw v0 v1 v2 v3 v4 v5 μ = some t) : Ct l yX11_canDraw mX11_canDraw [(3, v0), (0, v1), (0, v2), (0, v3), (0, v4), (0, v5)] μ ([(0, t.1)], t.2, 0, 0) :=
  Ct_of (by decide +kernel) rfl rfl (Nat.le_of_ble_eq_true rfl) (fun _ _ _ => trivial) (gX11_canDraw_0 l h ⟨rfl, rfl⟩)
def mX11_draws : MI := (RX11, cX11_draws, 9, none, "draws", 4, 99, fun _ _ _ => True)
theorem cwX11_draws : CWd yX11_draws mX11_draws 5 := ⟨ki_X11, kk_X11_draws, ⟨by decide, by decide⟩, rfl⟩
def dtX11_draws_0 : List (Nat × Instr × Nat) := [(0, .iconst 0, 1), (1, .istore 6, 2), (3, .iload 6, 2), (5, .bipush 32, 2), (7, .if_icmp .ge 20, 3), (10, .aload_n 0, 1), (11, .getfield 7, 3), (14, .iload 5, 2), (16, .iload 6, 2), (18, .iadd, 1), (19, .iconst 0, 1), (20, .iastore, 1), (21, .iinc 6 1, 3), (24, .goto (-21), 3), (27, .aload_n 0, 1), (28, .getfield 7, 3), (31, .iload 5, 2), (33, .iload 4, 2), (35, .iastore, 1), (36, .aload_n 0, 1), (37, .getfield 7, 3), (40, .iload 5, 2), (42, .iconst 3, 1), (43, .iadd, 1), (44, .iload 4, 2), (46, .aload_n 0, 1), (47, .getfield 29, 3), (50, .iload_n 2, 1), (51, .iaload, 1), (52, .if_icmp .ge 7, 3), (55, .iconst 1, 1), (56, .goto 4, 3), (59, .iconst 0, 1), (60, .iastore, 1), (61, .aload_n 0, 1), (62, .getfield 7, 3), (65, .iload 5, 2), (67, .bipush 6, 2), (69, .iadd, 1), (70, .bipush 99, 2), (72, .iastore, 1), (73, .iconst 0, 1), (74, .istore 6, 2), (76, .iload 6, 2), (78, .iload 4, 2), (80, .if_icmp .ge 84, 3), (83, .iconst 1, 1), (84, .istore 7, 2), (86, .iconst 0, 1), (87, .istore 8, 2), (89, .iload 8, 2), (91, .iload 4, 2), (93, .if_icmp .ge 50, 3), (96, .iload 7, 2), (98, .aload_n 0, 1), (99, .iload_n 1, 1), (100, .iload_n 2, 1), (101, .aload_n 0, 1), (102, .iload 5, 2), (104, .iload_n 2, 1), (105, .iload_n 3, 1), (106, .iload 8, 2), (108, .invokevirtual 247, 3), (111, .aload_n 0, 1)]
theorem ddX11_draws_0 : (dtX11_draws_0.all fun e => decide (decode mX11_draws.2.1 e.1 = .ok (e.2.1, e.2.2))) = true := by decide +kernel
theorem daX11_draws_0 (j : Nat) {pc n : Nat} {i : Instr} (h : dtX11_draws_0[j]? = some (pc, i, n)) : decode mX11_draws.2.1 pc = .ok (i, n) := dec_of (c := mX11_draws.2.1) ddX11_draws_0 h
def dtX11_draws_1 : List (Nat × Instr × Nat) := [(112, .iload 5, 2), (114, .iload_n 2, 1), (115, .iload_n 3, 1), (116, .iload 6, 2), (118, .invokevirtual 247, 3), (121, .invokevirtual 226, 3), (124, .lconst 0, 1), (125, .lcmp, 1), (126, .ifCond .ge 7, 3), (129, .iconst 1, 1), (130, .goto 4, 3), (133, .iconst 0, 1), (134, .iadd, 1), (135, .istore 7, 2), (137, .iinc 8 1, 3), (140, .goto (-51), 3), (143, .aload_n 0, 1), (144, .getfield 7, 3), (147, .iload 5, 2), (149, .bipush 7, 2), (151, .iadd, 1), (152, .iload 6, 2), (154, .iadd, 1), (155, .iload 7, 2), (157, .iastore, 1), (158, .iinc 6 1, 3), (161, .goto (-85), 3), (164, .return_, 1)]
theorem ddX11_draws_1 : (dtX11_draws_1.all fun e => decide (decode mX11_draws.2.1 e.1 = .ok (e.2.1, e.2.2))) = true := by decide +kernel
theorem daX11_draws_1 (j : Nat) {pc n : Nat} {i : Instr} (h : dtX11_draws_1[j]? = some (pc, i, n)) : decode mX11_draws.2.1 pc = .ok (i, n) := dec_of (c := mX11_draws.2.1) ddX11_draws_1 h
def zX11_draws_3 (l : Launch) (F : FI) (v0 v1 v2 v3 v4 v5 : Int) (k n : Nat) : (Int × Mm) ⊕ Mm → Prop
  | .inl (v6, μ) => GM l mX11_draws F k n 3 [(0, (3, v0)), (1, (0, v1)), (2, (0, v2)), (3, (0, v3)), (4, (0, v4)), (5, (0, v5)), (6, (0, v6))] [] μ
  | .inr μ => GM l mX11_draws F k n 27 [(0, (3, v0)), (1, (0, v1)), (2, (0, v2)), (3, (0, v3)), (4, (0, v4)), (5, (0, v5))] [] μ
def sX11_draws_3 (v0 v1 v2 v3 v4 v5 : Int) : (Int × Mm) → Option ((Int × Mm) ⊕ Mm) := fun (v6, μ) =>
  if 32 ≤ v6 then
    some (.inr μ)
  else
    chk (KD v0 = 11) (
    chk (KD (μ v0 0) = 12 ∧ 0 ≤ w32 (v5 + v6) ∧ w32 (v5 + v6) < LN (μ v0 0)) (
    lm (mst μ (μ v0 0) (w32 (v5 + v6)) 0) fun μ4 =>
    some (.inl (w32 (v6 + 1), μ4))))
def zX11_draws_89 (l : Launch) (F : FI) (v0 v1 v2 v3 v4 v5 v6 : Int) (μ : Mm) (k n : Nat) : (Int × Int) ⊕ Int → Prop
  | .inl (v7, v8) => GM l mX11_draws F k n 89 [(0, (3, v0)), (1, (0, v1)), (2, (0, v2)), (3, (0, v3)), (4, (0, v4)), (5, (0, v5)), (6, (0, v6)), (7, (0, v7)), (8, (0, v8))] [] μ
  | .inr v7 => GM l mX11_draws F k n 143 [(0, (3, v0)), (1, (0, v1)), (2, (0, v2)), (3, (0, v3)), (4, (0, v4)), (5, (0, v5)), (6, (0, v6)), (7, (0, v7))] [] μ
def sX11_draws_89 (v0 v1 v2 v3 v4 v5 v6 : Int) (μ : Mm) : (Int × Int) → Option ((Int × Int) ⊕ Int) := fun (v7, v8) =>
  if v4 ≤ v8 then
    some (.inr v7)
  else
    chk (KD v0 = 11) (
    (fX11_hillOf v0 v5 v2 v3 v8 μ).bind fun r7 =>
    (fX11_hillOf v0 v5 v2 v3 v6 μ).bind fun r8 =>
    (fX11_steep v0 v1 v2 r7 r8 μ).bind fun r9 =>
    if 0 ≤ r9 then
      some (.inl (w32 (v7 + 0), w32 (v8 + 1)))
    else
      some (.inl (w32 (v7 + 1), w32 (v8 + 1))))
def zX11_draws_76 (l : Launch) (F : FI) (v0 v1 v2 v3 v4 v5 : Int) (k n : Nat) : (Int × Mm) ⊕ Mm → Prop
  | .inl (v6, μ) => GM l mX11_draws F k n 76 [(0, (3, v0)), (1, (0, v1)), (2, (0, v2)), (3, (0, v3)), (4, (0, v4)), (5, (0, v5)), (6, (0, v6))] [] μ
  | .inr μ => GM l mX11_draws F k n 164 [] [] μ
def sX11_draws_76 (v0 v1 v2 v3 v4 v5 : Int) : (Int × Mm) → Option ((Int × Mm) ⊕ Mm) := fun (v6, μ) =>
  if v4 ≤ v6 then
    some (.inr μ)
  else
    (lop (sX11_draws_89 v0 v1 v2 v3 v4 v5 v6 μ) FU (1, 0)).bind fun v7_13 =>
      chk (KD v0 = 11) (
      chk (KD (μ v0 0) = 12 ∧ 0 ≤ w32 ((w32 (v5 + 7)) + v6) ∧ w32 ((w32 (v5 + 7)) + v6) < LN (μ v0 0)) (
      lm (mst μ (μ v0 0) (w32 ((w32 (v5 + 7)) + v6)) v7_13) fun μ16 =>
      some (.inl (w32 (v6 + 1), μ16))))
def jX11_draws_60 (v0 v1 v2 v3 v4 v5 s0 s1 s2 : Int) (μ : Mm) : Option Mm :=
  chk (KD s2 = 12 ∧ 0 ≤ s1 ∧ s1 < LN s2) (
  lm (mst μ s2 s1 s0) fun μ18 =>
  chk (KD v0 = 11) (
  chk (KD (μ18 v0 0) = 12 ∧ 0 ≤ w32 (v5 + 6) ∧ w32 (v5 + 6) < LN (μ18 v0 0)) (
  lm (mst μ18 (μ18 v0 0) (w32 (v5 + 6)) 99) fun μ21 =>
  (lop (sX11_draws_76 v0 v1 v2 v3 v4 v5) FU (0, μ21)).bind fun μ_23 =>
    some μ_23)))
def fX11_draws (v0 v1 v2 v3 v4 v5 : Int) (μ : Mm) : Option Mm :=
  (lop (sX11_draws_3 v0 v1 v2 v3 v4 v5) FU (0, μ)).bind fun μ_25 =>
    chk (KD v0 = 11) (
    chk (KD (μ_25 v0 0) = 12 ∧ 0 ≤ v5 ∧ v5 < LN (μ_25 v0 0)) (
    lm (mst μ_25 (μ_25 v0 0) v5 v4) fun μ28 =>
    chk (KD (μ28 v0 16) = 12 ∧ 0 ≤ v2 ∧ v2 < LN (μ28 v0 16)) (
    if μ28 (μ28 v0 16) v2 ≤ v4 then
      jX11_draws_60 v0 v1 v2 v3 v4 v5 0 (w32 (v5 + 3)) (μ28 v0 0) μ28
    else
      jX11_draws_60 v0 v1 v2 v3 v4 v5 1 (w32 (v5 + 3)) (μ28 v0 0) μ28)))
set_option maxRecDepth 20000 in
theorem qX11_draws_3 (l : Launch) (F : FI) (v0 v1 v2 v3 v4 v5 : Int) (k n : Nat) : ∀ (q : (Int × Mm)) (t : ((Int × Mm) ⊕ Mm)), sX11_draws_3 v0 v1 v2 v3 v4 v5 q = some t → zX11_draws_3 l F v0 v1 v2 v3 v4 v5 k n t → zX11_draws_3 l F v0 v1 v2 v3 v4 v5 k n (.inl q) := by
  intro q t h hK
  obtain ⟨v6, μ⟩ := q
  unfold sX11_draws_3 at h
  try dsimp only at h
  show GM l mX11_draws F k n 3 [(0, (3, v0)), (1, (0, v1)), (2, (0, v2)), (3, (0, v3)), (4, (0, v4)), (5, (0, v5)), (6, (0, v6))] [] μ
  refine GM_iload (pc := 3) 6 rfl (daX11_draws_0 2 rfl) ?_
  refine GM_bipush (pc := 5) 32 (daX11_draws_0 3 rfl) rfl (R32_b rfl) ?_
  refine GM_icmp_ge (pc := 7) 27 (daX11_draws_0 4 rfl) rfl (fun c1 => ?_) (fun c1 => ?_)
  · skip
    rw [if_pos c1] at h
    refine GM_pick [0, 1, 2, 3, 4, 5] rfl ?_
    cases h
    exact hK
  · skip
    rw [if_neg c1] at h
    refine GM_aload_n (pc := 10) 0 rfl (daX11_draws_0 5 rfl) rfl ?_
    obtain ⟨hc2, h⟩ := chk_inv h
    refine GM_getf (pc := 11) 11 0 3 0 kf_X11_7 (Nat.le_of_ble_eq_true rfl) (Nat.le_of_ble_eq_true rfl) rfl (daX11_draws_0 6 rfl) hc2 rfl ?_
    refine GM_iload (pc := 14) 5 rfl (daX11_draws_0 7 rfl) ?_
    refine GM_iload (pc := 16) 6 rfl (daX11_draws_0 8 rfl) ?_
    refine GM_iadd (pc := 18) (daX11_draws_0 9 rfl) ?_
    refine GM_iconst (pc := 19) 0 (daX11_draws_0 10 rfl) rfl (R32_b rfl) ?_
    obtain ⟨hc3, h⟩ := chk_inv h
    obtain ⟨μ4, hμ4, h⟩ := lm_inv h
    refine GM_iast (pc := 20) (daX11_draws_0 11 rfl) hc3.1 hc3.2.1 hc3.2.2 ?_
    refine GM_mem hμ4 ?_
    refine GM_iinc (L' := [(6, (0, w32 (v6 + 1))), (0, (3, v0)), (1, (0, v1)), (2, (0, v2)), (3, (0, v3)), (4, (0, v4)), (5, (0, v5))]) (pc := 21) 6 rfl (daX11_draws_0 12 rfl) (Nat.le_of_ble_eq_true rfl) rfl ?_
    refine GM_goto (pc := 24) 3 (daX11_draws_0 13 rfl) rfl ?_
    refine GM_pick [1, 2, 3, 4, 5, 6, 0] rfl ?_
    cases h
    exact hK
set_option maxRecDepth 20000 in
theorem qX11_draws_89 (l : Launch) (F : FI) (v0 v1 v2 v3 v4 v5 v6 : Int) (μ : Mm) (k n : Nat) : ∀ (q : (Int × Int)) (t : ((Int × Int) ⊕ Int)), sX11_draws_89 v0 v1 v2 v3 v4 v5 v6 μ q = some t → zX11_draws_89 l F v0 v1 v2 v3 v4 v5 v6 μ k n t → zX11_draws_89 l F v0 v1 v2 v3 v4 v5 v6 μ k n (.inl q) := by
  intro q t h hK
  obtain ⟨v7, v8⟩ := q
  unfold sX11_draws_89 at h
  try dsimp only at h
  show GM l mX11_draws F k n 89 [(0, (3, v0)), (1, (0, v1)), (2, (0, v2)), (3, (0, v3)), (4, (0, v4)), (5, (0, v5)), (6, (0, v6)), (7, (0, v7)), (8, (0, v8))] [] μ
  refine GM_iload (pc := 89) 8 rfl (daX11_draws_0 50 rfl) ?_
  refine GM_iload (pc := 91) 4 rfl (daX11_draws_0 51 rfl) ?_
  refine GM_icmp_ge (pc := 93) 143 (daX11_draws_0 52 rfl) rfl (fun c5 => ?_) (fun c5 => ?_)
  · skip
    rw [if_pos c5] at h
    refine GM_pick [0, 1, 2, 3, 4, 5, 6, 7] rfl ?_
    cases h
    exact hK
  · skip
    rw [if_neg c5] at h
    refine GM_iload (pc := 96) 7 rfl (daX11_draws_0 53 rfl) ?_
    refine GM_aload_n (pc := 98) 0 rfl (daX11_draws_0 54 rfl) rfl ?_
    refine GM_iload_n (pc := 99) 1 rfl (daX11_draws_0 55 rfl) rfl ?_
    refine GM_iload_n (pc := 100) 2 rfl (daX11_draws_0 56 rfl) rfl ?_
    refine GM_aload_n (pc := 101) 0 rfl (daX11_draws_0 57 rfl) rfl ?_
    refine GM_iload (pc := 102) 5 rfl (daX11_draws_0 58 rfl) ?_
    refine GM_iload_n (pc := 104) 2 rfl (daX11_draws_0 59 rfl) rfl ?_
    refine GM_iload_n (pc := 105) 3 rfl (daX11_draws_0 60 rfl) rfl ?_
    refine GM_iload (pc := 106) 8 rfl (daX11_draws_0 61 rfl) ?_
    obtain ⟨hc6, h⟩ := chk_inv h
    obtain ⟨r7, hf7, h⟩ := Option.bind_eq_some_iff.mp h
    refine GM_callV0 (pc := 108) [(0, v5), (0, v2), (0, v3), (0, v8)] (tX11_hillOf l hf7) cwX11_hillOf 11 (Nat.le_of_ble_eq_true rfl) rfl kv_X11_hillOf ke_X11_hillOf km_X11_247 hc6 ⟨Nat.le_of_ble_eq_true rfl, Nat.le_of_ble_eq_true rfl⟩ (Nat.le_of_ble_eq_true rfl) (Nat.le_of_ble_eq_true rfl) (daX11_draws_0 62 rfl) ?_
    refine GM_aload_n (pc := 111) 0 rfl (daX11_draws_0 63 rfl) rfl ?_
    refine GM_iload (pc := 112) 5 rfl (daX11_draws_1 0 rfl) ?_
    refine GM_iload_n (pc := 114) 2 rfl (daX11_draws_1 1 rfl) rfl ?_
    refine GM_iload_n (pc := 115) 3 rfl (daX11_draws_1 2 rfl) rfl ?_
    refine GM_iload (pc := 116) 6 rfl (daX11_draws_1 3 rfl) ?_
    obtain ⟨r8, hf8, h⟩ := Option.bind_eq_some_iff.mp h
    refine GM_callV0 (pc := 118) [(0, v5), (0, v2), (0, v3), (0, v6)] (tX11_hillOf l hf8) cwX11_hillOf 11 (Nat.le_of_ble_eq_true rfl) rfl kv_X11_hillOf ke_X11_hillOf km_X11_247 hc6 ⟨Nat.le_of_ble_eq_true rfl, Nat.le_of_ble_eq_true rfl⟩ (Nat.le_of_ble_eq_true rfl) (Nat.le_of_ble_eq_true rfl) (daX11_draws_1 4 rfl) ?_
    obtain ⟨r9, hf9, h⟩ := Option.bind_eq_some_iff.mp h
    refine GM_callV0 (pc := 121) [(0, v1), (0, v2), (0, r7), (0, r8)] (tX11_steep l hf9) cwX11_steep 11 (Nat.le_of_ble_eq_true rfl) rfl kv_X11_steep ke_X11_steep km_X11_226 hc6 ⟨Nat.le_of_ble_eq_true rfl, Nat.le_of_ble_eq_true rfl⟩ (Nat.le_of_ble_eq_true rfl) (Nat.le_of_ble_eq_true rfl) (daX11_draws_1 5 rfl) ?_
    refine GM_lconst (pc := 124) 0 (daX11_draws_1 6 rfl) rfl (R64_b rfl) ?_
    refine GM_lcmp (pc := 125) (daX11_draws_1 7 rfl) ?_
    refine GM_if_ge (pc := 126) 133 (daX11_draws_1 8 rfl) rfl (fun c10 => ?_) (fun c10 => ?_)
    · skip
      have c10 := lcmp_ge.mp c10
      rw [if_pos c10] at h
      refine GM_iconst (pc := 133) 0 (daX11_draws_1 11 rfl) rfl (R32_b rfl) ?_
      refine GM_iadd (pc := 134) (daX11_draws_1 12 rfl) ?_
      refine GM_istore (L' := [(7, (0, w32 (v7 + 0))), (0, (3, v0)), (1, (0, v1)), (2, (0, v2)), (3, (0, v3)), (4, (0, v4)), (5, (0, v5)), (6, (0, v6)), (8, (0, v8))]) (pc := 135) (daX11_draws_1 13 rfl) (Nat.le_of_ble_eq_true rfl) rfl ?_
      refine GM_iinc (L' := [(8, (0, w32 (v8 + 1))), (7, (0, w32 (v7 + 0))), (0, (3, v0)), (1, (0, v1)), (2, (0, v2)), (3, (0, v3)), (4, (0, v4)), (5, (0, v5)), (6, (0, v6))]) (pc := 137) 8 rfl (daX11_draws_1 14 rfl) (Nat.le_of_ble_eq_true rfl) rfl ?_
      refine GM_goto (pc := 140) 89 (daX11_draws_1 15 rfl) rfl ?_
      refine GM_pick [2, 3, 4, 5, 6, 7, 8, 1, 0] rfl ?_
      cases h
      exact hK
    · skip
      have c10 := (not_congr lcmp_ge).mp c10
      rw [if_neg c10] at h
      refine GM_iconst (pc := 129) 1 (daX11_draws_1 9 rfl) rfl (R32_b rfl) ?_
      refine GM_goto (pc := 130) 134 (daX11_draws_1 10 rfl) rfl ?_
      refine GM_iadd (pc := 134) (daX11_draws_1 12 rfl) ?_
      refine GM_istore (L' := [(7, (0, w32 (v7 + 1))), (0, (3, v0)), (1, (0, v1)), (2, (0, v2)), (3, (0, v3)), (4, (0, v4)), (5, (0, v5)), (6, (0, v6)), (8, (0, v8))]) (pc := 135) (daX11_draws_1 13 rfl) (Nat.le_of_ble_eq_true rfl) rfl ?_
      refine GM_iinc (L' := [(8, (0, w32 (v8 + 1))), (7, (0, w32 (v7 + 1))), (0, (3, v0)), (1, (0, v1)), (2, (0, v2)), (3, (0, v3)), (4, (0, v4)), (5, (0, v5)), (6, (0, v6))]) (pc := 137) 8 rfl (daX11_draws_1 14 rfl) (Nat.le_of_ble_eq_true rfl) rfl ?_
      refine GM_goto (pc := 140) 89 (daX11_draws_1 15 rfl) rfl ?_
      refine GM_pick [2, 3, 4, 5, 6, 7, 8, 1, 0] rfl ?_
      cases h
      exact hK
set_option maxRecDepth 20000 in
theorem qX11_draws_76 (l : Launch) (F : FI) (v0 v1 v2 v3 v4 v5 : Int) (k n : Nat) : ∀ (q : (Int × Mm)) (t : ((Int × Mm) ⊕ Mm)), sX11_draws_76 v0 v1 v2 v3 v4 v5 q = some t → zX11_draws_76 l F v0 v1 v2 v3 v4 v5 k n t → zX11_draws_76 l F v0 v1 v2 v3 v4 v5 k n (.inl q) := by
  intro q t h hK
  obtain ⟨v6, μ⟩ := q
  unfold sX11_draws_76 at h
  try dsimp only at h
  show GM l mX11_draws F k n 76 [(0, (3, v0)), (1, (0, v1)), (2, (0, v2)), (3, (0, v3)), (4, (0, v4)), (5, (0, v5)), (6, (0, v6))] [] μ
  refine GM_iload (pc := 76) 6 rfl (daX11_draws_0 43 rfl) ?_
  refine GM_iload (pc := 78) 4 rfl (daX11_draws_0 44 rfl) ?_
  refine GM_icmp_ge (pc := 80) 164 (daX11_draws_0 45 rfl) rfl (fun c11 => ?_) (fun c11 => ?_)
  · skip
    rw [if_pos c11] at h
    refine GM_pick [] rfl ?_
    cases h
    exact hK
  · skip
    rw [if_neg c11] at h
    refine GM_iconst (pc := 83) 1 (daX11_draws_0 46 rfl) rfl (R32_b rfl) ?_
    refine GM_istore (L' := [(7, (0, 1)), (0, (3, v0)), (1, (0, v1)), (2, (0, v2)), (3, (0, v3)), (4, (0, v4)), (5, (0, v5)), (6, (0, v6))]) (pc := 84) (daX11_draws_0 47 rfl) (Nat.le_of_ble_eq_true rfl) rfl ?_
    refine GM_iconst (pc := 86) 0 (daX11_draws_0 48 rfl) rfl (R32_b rfl) ?_
    refine GM_istore (L' := [(8, (0, 0)), (7, (0, 1)), (0, (3, v0)), (1, (0, v1)), (2, (0, v2)), (3, (0, v3)), (4, (0, v4)), (5, (0, v5)), (6, (0, v6))]) (pc := 87) (daX11_draws_0 49 rfl) (Nat.le_of_ble_eq_true rfl) rfl ?_
    refine GM_pick [2, 3, 4, 5, 6, 7, 8, 1, 0] rfl ?_
    obtain ⟨x12, hqx12, h⟩ := Option.bind_eq_some_iff.mp h
    refine lop_ind (zX11_draws_89 l F v0 v1 v2 v3 v4 v5 v6 μ k n) (qX11_draws_89 l F v0 v1 v2 v3 v4 v5 v6 μ k n) FU _ x12 hqx12 ?_
    obtain ⟨v7_13, hqq⟩ : ∃ z, z = x12 := ⟨x12, rfl⟩
    subst hqq
    show GM l mX11_draws F k n 143 [(0, (3, v0)), (1, (0, v1)), (2, (0, v2)), (3, (0, v3)), (4, (0, v4)), (5, (0, v5)), (6, (0, v6)), (7, (0, v7_13))] [] μ
    refine GM_aload_n (pc := 143) 0 rfl (daX11_draws_1 16 rfl) rfl ?_
    obtain ⟨hc14, h⟩ := chk_inv h
    refine GM_getf (pc := 144) 11 0 3 0 kf_X11_7 (Nat.le_of_ble_eq_true rfl) (Nat.le_of_ble_eq_true rfl) rfl (daX11_draws_1 17 rfl) hc14 rfl ?_
    refine GM_iload (pc := 147) 5 rfl (daX11_draws_1 18 rfl) ?_
    refine GM_bipush (pc := 149) 7 (daX11_draws_1 19 rfl) rfl (R32_b rfl) ?_
    refine GM_iadd (pc := 151) (daX11_draws_1 20 rfl) ?_
    refine GM_iload (pc := 152) 6 rfl (daX11_draws_1 21 rfl) ?_
    refine GM_iadd (pc := 154) (daX11_draws_1 22 rfl) ?_
    refine GM_iload (pc := 155) 7 rfl (daX11_draws_1 23 rfl) ?_
    obtain ⟨hc15, h⟩ := chk_inv h
    obtain ⟨μ16, hμ16, h⟩ := lm_inv h
    refine GM_iast (pc := 157) (daX11_draws_1 24 rfl) hc15.1 hc15.2.1 hc15.2.2 ?_
    refine GM_mem hμ16 ?_
    refine GM_iinc (L' := [(6, (0, w32 (v6 + 1))), (0, (3, v0)), (1, (0, v1)), (2, (0, v2)), (3, (0, v3)), (4, (0, v4)), (5, (0, v5)), (7, (0, v7_13))]) (pc := 158) 6 rfl (daX11_draws_1 25 rfl) (Nat.le_of_ble_eq_true rfl) rfl ?_
    refine GM_goto (pc := 161) 76 (daX11_draws_1 26 rfl) rfl ?_
    refine GM_pick [1, 2, 3, 4, 5, 6, 0] rfl ?_
    cases h
    exact hK
set_option maxRecDepth 20000 in
theorem gX11_draws_60 (l : Launch) {F : FI} {v0 v1 v2 v3 v4 v5 s0 s1 s2 : Int} {μ : Mm} {t : Mm} (h : jX11_draws_60 v0 v1 v2 v3 v4 v5 s0 s1 s2 μ = some t) (hK : F.1 = [] ∧ F.2.1 = t) : GM l mX11_draws F 0 0 60 [(0, (3, v0)), (1, (0, v1)), (2, (0, v2)), (3, (0, v3)), (4, (0, v4)), (5, (0, v5))] [(0, s0), (0, s1), (3, s2)] μ := by
  unfold jX11_draws_60 at h
  obtain ⟨hc17, h⟩ := chk_inv h
  obtain ⟨μ18, hμ18, h⟩ := lm_inv h
  refine GM_iast (pc := 60) (daX11_draws_0 33 rfl) hc17.1 hc17.2.1 hc17.2.2 ?_
  refine GM_mem hμ18 ?_
  refine GM_aload_n (pc := 61) 0 rfl (daX11_draws_0 34 rfl) rfl ?_
  obtain ⟨hc19, h⟩ := chk_inv h
  refine GM_getf (pc := 62) 11 0 3 0 kf_X11_7 (Nat.le_of_ble_eq_true rfl) (Nat.le_of_ble_eq_true rfl) rfl (daX11_draws_0 35 rfl) hc19 rfl ?_
  refine GM_iload (pc := 65) 5 rfl (daX11_draws_0 36 rfl) ?_
  refine GM_bipush (pc := 67) 6 (daX11_draws_0 37 rfl) rfl (R32_b rfl) ?_
  refine GM_iadd (pc := 69) (daX11_draws_0 38 rfl) ?_
  refine GM_bipush (pc := 70) 99 (daX11_draws_0 39 rfl) rfl (R32_b rfl) ?_
  obtain ⟨hc20, h⟩ := chk_inv h
  obtain ⟨μ21, hμ21, h⟩ := lm_inv h
  refine GM_iast (pc := 72) (daX11_draws_0 40 rfl) hc20.1 hc20.2.1 hc20.2.2 ?_
  refine GM_mem hμ21 ?_
  refine GM_iconst (pc := 73) 0 (daX11_draws_0 41 rfl) rfl (R32_b rfl) ?_
  refine GM_istore (L' := [(6, (0, 0)), (0, (3, v0)), (1, (0, v1)), (2, (0, v2)), (3, (0, v3)), (4, (0, v4)), (5, (0, v5))]) (pc := 74) (daX11_draws_0 42 rfl) (Nat.le_of_ble_eq_true rfl) rfl ?_
  refine GM_pick [1, 2, 3, 4, 5, 6, 0] rfl ?_
  obtain ⟨x22, hqx22, h⟩ := Option.bind_eq_some_iff.mp h
  refine lop_ind (zX11_draws_76 l F v0 v1 v2 v3 v4 v5 0 0) (qX11_draws_76 l F v0 v1 v2 v3 v4 v5 0 0) FU _ x22 hqx22 ?_
  obtain ⟨μ_23, hqq⟩ : ∃ z, z = x22 := ⟨x22, rfl⟩
  subst hqq
  show GM l mX11_draws F 0 0 164 [] [] μ_23
  cases h
  exact GM_vret (pc := 164) (daX11_draws_1 27 rfl) rfl hK
set_option maxRecDepth 20000 in
theorem gX11_draws_0 (l : Launch) {F : FI} {v0 v1 v2 v3 v4 v5 : Int} {μ : Mm} {t : Mm} (h : fX11_draws v0 v1 v2 v3 v4 v5 μ = some t) (hK : F.1 = [] ∧ F.2.1 = t) : GM l mX11_draws F 0 0 0 [(0, (3, v0)), (1, (0, v1)), (2, (0, v2)), (3, (0, v3)), (4, (0, v4)), (5, (0, v5))] [] μ := by
  unfold fX11_draws at h
  refine GM_iconst (pc := 0) 0 (daX11_draws_0 0 rfl) rfl (R32_b rfl) ?_
  refine GM_istore (L' := [(6, (0, 0)), (0, (3, v0)), (1, (0, v1)), (2, (0, v2)), (3, (0, v3)), (4, (0, v4)), (5, (0, v5))]) (pc := 1) (daX11_draws_0 1 rfl) (Nat.le_of_ble_eq_true rfl) rfl ?_
  refine GM_pick [1, 2, 3, 4, 5, 6, 0] rfl ?_
  obtain ⟨x24, hqx24, h⟩ := Option.bind_eq_some_iff.mp h
  refine lop_ind (zX11_draws_3 l F v0 v1 v2 v3 v4 v5 0 0) (qX11_draws_3 l F v0 v1 v2 v3 v4 v5 0 0) FU _ x24 hqx24 ?_
  obtain ⟨μ_25, hqq⟩ : ∃ z, z = x24 := ⟨x24, rfl⟩
  subst hqq
  show GM l mX11_draws F 0 0 27 [(0, (3, v0)), (1, (0, v1)), (2, (0, v2)), (3, (0, v3)), (4, (0, v4)), (5, (0, v5))] [] μ_25
  refine GM_aload_n (pc := 27) 0 rfl (daX11_draws_0 14 rfl) rfl ?_
  obtain ⟨hc26, h⟩ := chk_inv h
  refine GM_getf (pc := 28) 11 0 3 0 kf_X11_7 (Nat.le_of_ble_eq_true rfl) (Nat.le_of_ble_eq_true rfl) rfl (daX11_draws_0 15 rfl) hc26 rfl ?_
  refine GM_iload (pc := 31) 5 rfl (daX11_draws_0 16 rfl) ?_
  refine GM_iload (pc := 33) 4 rfl (daX11_draws_0 17 rfl) ?_
  obtain ⟨hc27, h⟩ := chk_inv h
  obtain ⟨μ28, hμ28, h⟩ := lm_inv h
  refine GM_iast (pc := 35) (daX11_draws_0 18 rfl) hc27.1 hc27.2.1 hc27.2.2 ?_
  refine GM_mem hμ28 ?_
  refine GM_aload_n (pc := 36) 0 rfl (daX11_draws_0 19 rfl) rfl ?_
  refine GM_getf (pc := 37) 11 0 3 0 kf_X11_7 (Nat.le_of_ble_eq_true rfl) (Nat.le_of_ble_eq_true rfl) rfl (daX11_draws_0 20 rfl) hc26 rfl ?_
  refine GM_iload (pc := 40) 5 rfl (daX11_draws_0 21 rfl) ?_
  refine GM_iconst (pc := 42) 3 (daX11_draws_0 22 rfl) rfl (R32_b rfl) ?_
  refine GM_iadd (pc := 43) (daX11_draws_0 23 rfl) ?_
  refine GM_iload (pc := 44) 4 rfl (daX11_draws_0 24 rfl) ?_
  refine GM_aload_n (pc := 46) 0 rfl (daX11_draws_0 25 rfl) rfl ?_
  refine GM_getf (pc := 47) 11 16 3 16 kf_X11_29 (Nat.le_of_ble_eq_true rfl) (Nat.le_of_ble_eq_true rfl) rfl (daX11_draws_0 26 rfl) hc26 rfl ?_
  refine GM_iload_n (pc := 50) 2 rfl (daX11_draws_0 27 rfl) rfl ?_
  obtain ⟨hc29, h⟩ := chk_inv h
  refine GM_iald (pc := 51) (daX11_draws_0 28 rfl) hc29.1 hc29.2.1 hc29.2.2 ?_
  refine GM_icmp_ge (pc := 52) 59 (daX11_draws_0 29 rfl) rfl (fun c30 => ?_) (fun c30 => ?_)
  · skip
    rw [if_pos c30] at h
    refine GM_iconst (pc := 59) 0 (daX11_draws_0 32 rfl) rfl (R32_b rfl) ?_
    exact gX11_draws_60 l h hK
  · skip
    rw [if_neg c30] at h
    refine GM_iconst (pc := 55) 1 (daX11_draws_0 30 rfl) rfl (R32_b rfl) ?_
    refine GM_goto (pc := 56) 60 (daX11_draws_0 31 rfl) rfl ?_
    exact gX11_draws_60 l h hK
theorem tX11_draws (l : Launch) {v0 v1 v2 v3 v4 v5 : Int} {μ : Mm} {t : Mm} (h : fX11_draws v0 v1 v2 v3 v4 v5 μ = some t) : Ct l yX11_draws mX11_draws [(3, v0), (0, v1), (0, v2), (0, v3), (0, v4), (0, v5)] μ ([], t, 0, 0) :=
  Ct_of (by decide +kernel) rfl rfl (Nat.le_of_ble_eq_true rfl) (fun _ _ _ => trivial) (gX11_draws_0 l h ⟨rfl, rfl⟩)
def mX11_draw : MI := (RX11, cX11_draw, 7, (some .int), "draw", 8, 200, fun _ _ _ => True)
theorem cwX11_draw : CWd yX11_draw mX11_draw 5 := ⟨ki_X11, kk_X11_draw, ⟨by decide, by decide⟩, rfl⟩
def dtX11_draw_0 : List (Nat × Instr × Nat) := [(0, .aload_n 0, 1), (1, .iconst 1, 1), (2, .iload 5, 2), (4, .invokevirtual 186, 3), (7, .ifCond .eq 17, 3), (10, .aload_n 0, 1), (11, .iload_n 1, 1), (12, .iload_n 2, 1), (13, .iload_n 3, 1), (14, .iload 4, 2), (16, .bipush 12, 2), (18, .invokevirtual 345, 3), (21, .ifCond .ne 5, 3), (24, .iconst (-1), 1), (25, .ireturn, 1), (26, .aload_n 0, 1), (27, .iconst 1, 1), (28, .iload 5, 2), (30, .invokevirtual 201, 3), (33, .istore 6, 2), (35, .aload_n 0, 1), (36, .iconst 0, 1), (37, .iload_n 1, 1), (38, .invokestatic 204, 3), (41, .iload_n 2, 1), (42, .iload_n 3, 1), (43, .iload 4, 2), (45, .iconst 1, 1), (46, .iload 6, 2), (48, .invokestatic 204, 3), (51, .invokevirtual 348, 3), (54, .iload 6, 2), (56, .ireturn, 1)]
theorem ddX11_draw_0 : (dtX11_draw_0.all fun e => decide (decode mX11_draw.2.1 e.1 = .ok (e.2.1, e.2.2))) = true := by decide +kernel
theorem daX11_draw_0 (j : Nat) {pc n : Nat} {i : Instr} (h : dtX11_draw_0[j]? = some (pc, i, n)) : decode mX11_draw.2.1 pc = .ok (i, n) := dec_of (c := mX11_draw.2.1) ddX11_draw_0 h
def fX11_draw (v0 v1 v2 v3 v4 v5 : Int) (μ : Mm) : Option (Int × Mm) :=
  chk (KD v0 = 11) (
  (fX11_isFree v0 1 v5 μ).bind fun r2 =>
  if r2 = 0 then
    some ((-1), μ)
  else
    (fX11_canDraw v0 v1 v2 v3 v4 12 μ).bind fun (r4, μ4) =>
    if r4 = 0 then
      some ((-1), μ4)
    else
      (fX11_keeps v0 1 v5 μ4).bind fun (r6, μ6) =>
      (fX11_placeOf 0 v1).bind fun r7 =>
      (fX11_placeOf 1 r6).bind fun r8 =>
      (fX11_draws v0 r7 v2 v3 v4 r8 μ6).bind fun μ9 =>
      some (r6, μ9))
set_option maxRecDepth 20000 in
theorem gX11_draw_0 (l : Launch) {F : FI} {v0 v1 v2 v3 v4 v5 : Int} {μ : Mm} {t : (Int × Mm)} (h : fX11_draw v0 v1 v2 v3 v4 v5 μ = some t) (hK : F.1 = [(0, t.1)] ∧ F.2.1 = t.2) : GM l mX11_draw F 0 0 0 [(0, (3, v0)), (1, (0, v1)), (2, (0, v2)), (3, (0, v3)), (4, (0, v4)), (5, (0, v5))] [] μ := by
  unfold fX11_draw at h
  refine GM_aload_n (pc := 0) 0 rfl (daX11_draw_0 0 rfl) rfl ?_
  refine GM_iconst (pc := 1) 1 (daX11_draw_0 1 rfl) rfl (R32_b rfl) ?_
  refine GM_iload (pc := 2) 5 rfl (daX11_draw_0 2 rfl) ?_
  obtain ⟨hc1, h⟩ := chk_inv h
  obtain ⟨r2, hf2, h⟩ := Option.bind_eq_some_iff.mp h
  refine GM_callV0 (pc := 4) [(0, 1), (0, v5)] (tX11_isFree l hf2) cwX11_isFree 11 (Nat.le_of_ble_eq_true rfl) rfl kv_X11_isFree ke_X11_isFree km_X11_186 hc1 ⟨Nat.le_of_ble_eq_true rfl, Nat.le_of_ble_eq_true rfl⟩ (Nat.le_of_ble_eq_true rfl) (Nat.le_of_ble_eq_true rfl) (daX11_draw_0 3 rfl) ?_
  refine GM_if_eq (pc := 7) 24 (daX11_draw_0 4 rfl) rfl (fun c3 => ?_) (fun c3 => ?_)
  · skip
    rw [if_pos c3] at h
    refine GM_iconst (pc := 24) (-1) (daX11_draw_0 13 rfl) rfl (R32_b rfl) ?_
    cases h
    exact GM_iret (pc := 25) (daX11_draw_0 14 rfl) rfl hK
  · skip
    rw [if_neg c3] at h
    refine GM_aload_n (pc := 10) 0 rfl (daX11_draw_0 5 rfl) rfl ?_
    refine GM_iload_n (pc := 11) 1 rfl (daX11_draw_0 6 rfl) rfl ?_
    refine GM_iload_n (pc := 12) 2 rfl (daX11_draw_0 7 rfl) rfl ?_
    refine GM_iload_n (pc := 13) 3 rfl (daX11_draw_0 8 rfl) rfl ?_
    refine GM_iload (pc := 14) 4 rfl (daX11_draw_0 9 rfl) ?_
    refine GM_bipush (pc := 16) 12 (daX11_draw_0 10 rfl) rfl (R32_b rfl) ?_
    obtain ⟨⟨r4, μ4⟩, hf4, h⟩ := Option.bind_eq_some_iff.mp h
    dsimp only at h
    refine GM_callV0 (pc := 18) [(0, v1), (0, v2), (0, v3), (0, v4), (0, 12)] (tX11_canDraw l hf4) cwX11_canDraw 11 (Nat.le_of_ble_eq_true rfl) rfl kv_X11_canDraw ke_X11_canDraw km_X11_345 hc1 ⟨Nat.le_of_ble_eq_true rfl, Nat.le_of_ble_eq_true rfl⟩ (Nat.le_of_ble_eq_true rfl) (Nat.le_of_ble_eq_true rfl) (daX11_draw_0 11 rfl) ?_
    refine GM_if_ne (pc := 21) 26 (daX11_draw_0 12 rfl) rfl (fun c5 => ?_) (fun c5 => ?_)
    · skip
      rw [if_neg c5] at h
      refine GM_aload_n (pc := 26) 0 rfl (daX11_draw_0 15 rfl) rfl ?_
      refine GM_iconst (pc := 27) 1 (daX11_draw_0 16 rfl) rfl (R32_b rfl) ?_
      refine GM_iload (pc := 28) 5 rfl (daX11_draw_0 17 rfl) ?_
      obtain ⟨⟨r6, μ6⟩, hf6, h⟩ := Option.bind_eq_some_iff.mp h
      dsimp only at h
      refine GM_callV0 (pc := 30) [(0, 1), (0, v5)] (tX11_keeps l hf6) cwX11_keeps 11 (Nat.le_of_ble_eq_true rfl) rfl kv_X11_keeps ke_X11_keeps km_X11_201 hc1 ⟨Nat.le_of_ble_eq_true rfl, Nat.le_of_ble_eq_true rfl⟩ (Nat.le_of_ble_eq_true rfl) (Nat.le_of_ble_eq_true rfl) (daX11_draw_0 18 rfl) ?_
      refine GM_istore (L' := [(6, (0, r6)), (0, (3, v0)), (1, (0, v1)), (2, (0, v2)), (3, (0, v3)), (4, (0, v4)), (5, (0, v5))]) (pc := 33) (daX11_draw_0 19 rfl) (Nat.le_of_ble_eq_true rfl) rfl ?_
      refine GM_aload_n (pc := 35) 1 rfl (daX11_draw_0 20 rfl) rfl ?_
      refine GM_iconst (pc := 36) 0 (daX11_draw_0 21 rfl) rfl (R32_b rfl) ?_
      refine GM_iload_n (pc := 37) 2 rfl (daX11_draw_0 22 rfl) rfl ?_
      obtain ⟨r7, hf7, h⟩ := Option.bind_eq_some_iff.mp h
      refine GM_callS0 (pc := 38) [(0, 0), (0, v1)] (tX11_placeOf l hf7) cwX11_placeOf ks_X11_placeOf km_X11_204 ⟨Nat.le_of_ble_eq_true rfl, Nat.le_of_ble_eq_true rfl⟩ (Nat.le_of_ble_eq_true rfl) (Nat.le_of_ble_eq_true rfl) (daX11_draw_0 23 rfl) ?_
      refine GM_iload_n (pc := 41) 3 rfl (daX11_draw_0 24 rfl) rfl ?_
      refine GM_iload_n (pc := 42) 4 rfl (daX11_draw_0 25 rfl) rfl ?_
      refine GM_iload (pc := 43) 5 rfl (daX11_draw_0 26 rfl) ?_
      refine GM_iconst (pc := 45) 1 (daX11_draw_0 27 rfl) rfl (R32_b rfl) ?_
      refine GM_iload (pc := 46) 0 rfl (daX11_draw_0 28 rfl) ?_
      obtain ⟨r8, hf8, h⟩ := Option.bind_eq_some_iff.mp h
      refine GM_callS0 (pc := 48) [(0, 1), (0, r6)] (tX11_placeOf l hf8) cwX11_placeOf ks_X11_placeOf km_X11_204 ⟨Nat.le_of_ble_eq_true rfl, Nat.le_of_ble_eq_true rfl⟩ (Nat.le_of_ble_eq_true rfl) (Nat.le_of_ble_eq_true rfl) (daX11_draw_0 29 rfl) ?_
      obtain ⟨μ9, hf9, h⟩ := Option.bind_eq_some_iff.mp h
      refine GM_callV0 (pc := 51) [(0, r7), (0, v2), (0, v3), (0, v4), (0, r8)] (tX11_draws l hf9) cwX11_draws 11 (Nat.le_of_ble_eq_true rfl) rfl kv_X11_draws ke_X11_draws km_X11_348 hc1 ⟨Nat.le_of_ble_eq_true rfl, Nat.le_of_ble_eq_true rfl⟩ (Nat.le_of_ble_eq_true rfl) (Nat.le_of_ble_eq_true rfl) (daX11_draw_0 30 rfl) ?_
      refine GM_iload (pc := 54) 0 rfl (daX11_draw_0 31 rfl) ?_
      cases h
      exact GM_iret (pc := 56) (daX11_draw_0 32 rfl) rfl hK
    · skip
      rw [if_pos c5] at h
      refine GM_iconst (pc := 24) (-1) (daX11_draw_0 13 rfl) rfl (R32_b rfl) ?_
      cases h
      exact GM_iret (pc := 25) (daX11_draw_0 14 rfl) rfl hK
theorem tX11_draw (l : Launch) {v0 v1 v2 v3 v4 v5 : Int} {μ : Mm} {t : (Int × Mm)} (h : fX11_draw v0 v1 v2 v3 v4 v5 μ = some t) : Ct l yX11_draw mX11_draw [(3, v0), (0, v1), (0, v2), (0, v3), (0, v4), (0, v5)] μ ([(0, t.1)], t.2, 0, 0) :=
  Ct_of (by decide +kernel) rfl rfl (Nat.le_of_ble_eq_true rfl) (fun _ _ _ => trivial) (gX11_draw_0 l h ⟨rfl, rfl⟩)
def mX11_rivalsOf : MI := (RX11, cX11_rivalsOf, 5, (some .int), "rivalsOf", 11, 289, fun _ _ _ => True)
theorem cwX11_rivalsOf : CWd yX11_rivalsOf mX11_rivalsOf 2 := ⟨ki_X11, kk_X11_rivalsOf, ⟨by decide, by decide⟩, rfl⟩
def dtX11_rivalsOf_0 : List (Nat × Instr × Nat) := [(0, .aload_n 0, 1), (1, .iload_n 1, 1), (2, .sipush 4960, 3), (5, .iconst (-1), 1), (6, .invokevirtual 298, 3), (9, .iconst 0, 1), (10, .istore_n 3, 1), (11, .iconst 0, 1), (12, .istore 4, 2), (14, .iload 4, 2), (16, .aload_n 0, 1), (17, .getfield 292, 3), (20, .if_icmp .ge 28, 3), (23, .iload_n 3, 1), (24, .aload_n 0, 1), (25, .getfield 35, 3), (28, .iload 4, 2), (30, .iaload, 1), (31, .iload_n 2, 1), (32, .if_icmp .ne 7, 3), (35, .iconst 0, 1), (36, .goto 4, 3), (39, .iconst 1, 1), (40, .iadd, 1), (41, .istore_n 3, 1), (42, .iinc 4 1, 3), (45, .goto (-31), 3), (48, .iload_n 3, 1), (49, .ireturn, 1)]
theorem ddX11_rivalsOf_0 : (dtX11_rivalsOf_0.all fun e => decide (decode mX11_rivalsOf.2.1 e.1 = .ok (e.2.1, e.2.2))) = true := by decide +kernel
theorem daX11_rivalsOf_0 (j : Nat) {pc n : Nat} {i : Instr} (h : dtX11_rivalsOf_0[j]? = some (pc, i, n)) : decode mX11_rivalsOf.2.1 pc = .ok (i, n) := dec_of (c := mX11_rivalsOf.2.1) ddX11_rivalsOf_0 h
def zX11_rivalsOf_14 (l : Launch) (F : FI) (v0 v2 : Int) (μ : Mm) (k n : Nat) : (Int × Int) ⊕ Int → Prop
  | .inl (v3, v4) => GM l mX11_rivalsOf F k n 14 [(0, (3, v0)), (2, (0, v2)), (3, (0, v3)), (4, (0, v4))] [] μ
  | .inr v3 => GM l mX11_rivalsOf F k n 48 [(3, (0, v3))] [] μ
def sX11_rivalsOf_14 (v0 v2 : Int) (μ : Mm) : (Int × Int) → Option ((Int × Int) ⊕ Int) := fun (v3, v4) =>
  chk (KD v0 = 11) (
  if μ v0 18 ≤ v4 then
    some (.inr v3)
  else
    chk (KD (μ v0 19) = 12 ∧ 0 ≤ v4 ∧ v4 < LN (μ v0 19)) (
    if μ (μ v0 19) v4 = v2 then
      some (.inl (w32 (v3 + 0), w32 (v4 + 1)))
    else
      some (.inl (w32 (v3 + 1), w32 (v4 + 1)))))
def fX11_rivalsOf (v0 v1 v2 : Int) (μ : Mm) : Option (Int × Mm) :=
  chk (KD v0 = 11) (
  (fX11_finds v0 v1 4960 (-1) μ).bind fun μ6 =>
  (lop (sX11_rivalsOf_14 v0 v2 μ6) FU (0, 0)).bind fun v3_8 =>
    some (v3_8, μ6))
set_option maxRecDepth 20000 in
theorem qX11_rivalsOf_14 (l : Launch) (F : FI) (v0 v2 : Int) (μ : Mm) (k n : Nat) : ∀ (q : (Int × Int)) (t : ((Int × Int) ⊕ Int)), sX11_rivalsOf_14 v0 v2 μ q = some t → zX11_rivalsOf_14 l F v0 v2 μ k n t → zX11_rivalsOf_14 l F v0 v2 μ k n (.inl q) := by
  intro q t h hK
  obtain ⟨v3, v4⟩ := q
  unfold sX11_rivalsOf_14 at h
  try dsimp only at h
  show GM l mX11_rivalsOf F k n 14 [(0, (3, v0)), (2, (0, v2)), (3, (0, v3)), (4, (0, v4))] [] μ
  refine GM_iload (pc := 14) 3 rfl (daX11_rivalsOf_0 9 rfl) ?_
  refine GM_aload_n (pc := 16) 0 rfl (daX11_rivalsOf_0 10 rfl) rfl ?_
  obtain ⟨hc1, h⟩ := chk_inv h
  refine GM_getf (pc := 17) 11 18 0 18 kf_X11_292 (Nat.le_of_ble_eq_true rfl) (Nat.le_of_ble_eq_true rfl) rfl (daX11_rivalsOf_0 11 rfl) hc1 rfl ?_
  refine GM_icmp_ge (pc := 20) 48 (daX11_rivalsOf_0 12 rfl) rfl (fun c2 => ?_) (fun c2 => ?_)
  · skip
    rw [if_pos c2] at h
    refine GM_pick [2] rfl ?_
    cases h
    exact hK
  · skip
    rw [if_neg c2] at h
    refine GM_iload_n (pc := 23) 2 rfl (daX11_rivalsOf_0 13 rfl) rfl ?_
    refine GM_aload_n (pc := 24) 0 rfl (daX11_rivalsOf_0 14 rfl) rfl ?_
    refine GM_getf (pc := 25) 11 19 3 19 kf_X11_35 (Nat.le_of_ble_eq_true rfl) (Nat.le_of_ble_eq_true rfl) rfl (daX11_rivalsOf_0 15 rfl) hc1 rfl ?_
    refine GM_iload (pc := 28) 3 rfl (daX11_rivalsOf_0 16 rfl) ?_
    obtain ⟨hc3, h⟩ := chk_inv h
    refine GM_iald (pc := 30) (daX11_rivalsOf_0 17 rfl) hc3.1 hc3.2.1 hc3.2.2 ?_
    refine GM_iload_n (pc := 31) 1 rfl (daX11_rivalsOf_0 18 rfl) rfl ?_
    refine GM_icmp_ne (pc := 32) 39 (daX11_rivalsOf_0 19 rfl) rfl (fun c4 => ?_) (fun c4 => ?_)
    · skip
      rw [if_neg c4] at h
      refine GM_iconst (pc := 39) 1 (daX11_rivalsOf_0 22 rfl) rfl (R32_b rfl) ?_
      refine GM_iadd (pc := 40) (daX11_rivalsOf_0 23 rfl) ?_
      refine GM_istore_n (L' := [(3, (0, w32 (v3 + 1))), (0, (3, v0)), (2, (0, v2)), (4, (0, v4))]) (pc := 41) (daX11_rivalsOf_0 24 rfl) rfl (Nat.le_of_ble_eq_true rfl) rfl ?_
      refine GM_iinc (L' := [(4, (0, w32 (v4 + 1))), (3, (0, w32 (v3 + 1))), (0, (3, v0)), (2, (0, v2))]) (pc := 42) 3 rfl (daX11_rivalsOf_0 25 rfl) (Nat.le_of_ble_eq_true rfl) rfl ?_
      refine GM_goto (pc := 45) 14 (daX11_rivalsOf_0 26 rfl) rfl ?_
      refine GM_pick [2, 3, 1, 0] rfl ?_
      cases h
      exact hK
    · skip
      rw [if_pos c4] at h
      refine GM_iconst (pc := 35) 0 (daX11_rivalsOf_0 20 rfl) rfl (R32_b rfl) ?_
      refine GM_goto (pc := 36) 40 (daX11_rivalsOf_0 21 rfl) rfl ?_
      refine GM_iadd (pc := 40) (daX11_rivalsOf_0 23 rfl) ?_
      refine GM_istore_n (L' := [(3, (0, w32 (v3 + 0))), (0, (3, v0)), (2, (0, v2)), (4, (0, v4))]) (pc := 41) (daX11_rivalsOf_0 24 rfl) rfl (Nat.le_of_ble_eq_true rfl) rfl ?_
      refine GM_iinc (L' := [(4, (0, w32 (v4 + 1))), (3, (0, w32 (v3 + 0))), (0, (3, v0)), (2, (0, v2))]) (pc := 42) 3 rfl (daX11_rivalsOf_0 25 rfl) (Nat.le_of_ble_eq_true rfl) rfl ?_
      refine GM_goto (pc := 45) 14 (daX11_rivalsOf_0 26 rfl) rfl ?_
      refine GM_pick [2, 3, 1, 0] rfl ?_
      cases h
      exact hK
set_option maxRecDepth 20000 in
theorem gX11_rivalsOf_0 (l : Launch) {F : FI} {v0 v1 v2 : Int} {μ : Mm} {t : (Int × Mm)} (h : fX11_rivalsOf v0 v1 v2 μ = some t) (hK : F.1 = [(0, t.1)] ∧ F.2.1 = t.2) : GM l mX11_rivalsOf F 0 0 0 [(0, (3, v0)), (1, (0, v1)), (2, (0, v2))] [] μ := by
  unfold fX11_rivalsOf at h
  refine GM_aload_n (pc := 0) 0 rfl (daX11_rivalsOf_0 0 rfl) rfl ?_
  refine GM_iload_n (pc := 1) 1 rfl (daX11_rivalsOf_0 1 rfl) rfl ?_
  refine GM_sipush (pc := 2) 4960 (daX11_rivalsOf_0 2 rfl) rfl (R32_b rfl) ?_
  refine GM_iconst (pc := 5) (-1) (daX11_rivalsOf_0 3 rfl) rfl (R32_b rfl) ?_
  obtain ⟨hc5, h⟩ := chk_inv h
  obtain ⟨μ6, hf6, h⟩ := Option.bind_eq_some_iff.mp h
  refine GM_callV0 (pc := 6) [(0, v1), (0, 4960), (0, (-1))] (tX11_finds l hf6) cwX11_finds 11 (Nat.le_of_ble_eq_true rfl) rfl kv_X11_finds ke_X11_finds km_X11_298 hc5 ⟨Nat.le_of_ble_eq_true rfl, Nat.le_of_ble_eq_true rfl⟩ (Nat.le_of_ble_eq_true rfl) (Nat.le_of_ble_eq_true rfl) (daX11_rivalsOf_0 4 rfl) ?_
  refine GM_iconst (pc := 9) 0 (daX11_rivalsOf_0 5 rfl) rfl (R32_b rfl) ?_
  refine GM_istore_n (L' := [(3, (0, 0)), (0, (3, v0)), (1, (0, v1)), (2, (0, v2))]) (pc := 10) (daX11_rivalsOf_0 6 rfl) rfl (Nat.le_of_ble_eq_true rfl) rfl ?_
  refine GM_iconst (pc := 11) 0 (daX11_rivalsOf_0 7 rfl) rfl (R32_b rfl) ?_
  refine GM_istore (L' := [(4, (0, 0)), (3, (0, 0)), (0, (3, v0)), (1, (0, v1)), (2, (0, v2))]) (pc := 12) (daX11_rivalsOf_0 8 rfl) (Nat.le_of_ble_eq_true rfl) rfl ?_
  refine GM_pick [2, 4, 1, 0] rfl ?_
  obtain ⟨x7, hqx7, h⟩ := Option.bind_eq_some_iff.mp h
  refine lop_ind (zX11_rivalsOf_14 l F v0 v2 μ6 0 0) (qX11_rivalsOf_14 l F v0 v2 μ6 0 0) FU _ x7 hqx7 ?_
  obtain ⟨v3_8, hqq⟩ : ∃ z, z = x7 := ⟨x7, rfl⟩
  subst hqq
  show GM l mX11_rivalsOf F 0 0 48 [(3, (0, v3_8))] [] μ6
  refine GM_iload_n (pc := 48) 0 rfl (daX11_rivalsOf_0 27 rfl) rfl ?_
  cases h
  exact GM_iret (pc := 49) (daX11_rivalsOf_0 28 rfl) rfl hK
theorem tX11_rivalsOf (l : Launch) {v0 v1 v2 : Int} {μ : Mm} {t : (Int × Mm)} (h : fX11_rivalsOf v0 v1 v2 μ = some t) : Ct l yX11_rivalsOf mX11_rivalsOf [(3, v0), (0, v1), (0, v2)] μ ([(0, t.1)], t.2, 0, 0) :=
  Ct_of (by decide +kernel) rfl rfl (Nat.le_of_ble_eq_true rfl) (fun _ _ _ => trivial) (gX11_rivalsOf_0 l h ⟨rfl, rfl⟩)
def mX11_rivals : MI := (RX11, cX11_rivals, 6, (some .int), "rivals", 12, 313, fun _ _ _ => True)
theorem cwX11_rivals : CWd yX11_rivals mX11_rivals 4 := ⟨ki_X11, kk_X11_rivals, ⟨by decide, by decide⟩, rfl⟩
def dtX11_rivals_0 : List (Nat × Instr × Nat) := [(0, .aload_n 0, 1), (1, .iload_n 1, 1), (2, .iload_n 2, 1), (3, .iload_n 3, 1), (4, .iload 4, 2), (6, .bipush 12, 2), (8, .invokevirtual 345, 3), (11, .ifCond .ne 5, 3), (14, .iconst (-1), 1), (15, .ireturn, 1), (16, .iconst 0, 1), (17, .iload_n 1, 1), (18, .invokestatic 204, 3), (21, .istore 5, 2), (23, .aload_n 0, 1), (24, .iload 5, 2), (26, .invokevirtual 295, 3), (29, .aload_n 0, 1), (30, .iload 5, 2), (32, .iload_n 2, 1), (33, .iload_n 3, 1), (34, .iload 4, 2), (36, .sipush 4960, 3), (39, .invokevirtual 348, 3), (42, .aload_n 0, 1), (43, .iload 5, 2), (45, .iload_n 2, 1), (46, .invokevirtual 352, 3), (49, .ireturn, 1)]
theorem ddX11_rivals_0 : (dtX11_rivals_0.all fun e => decide (decode mX11_rivals.2.1 e.1 = .ok (e.2.1, e.2.2))) = true := by decide +kernel
theorem daX11_rivals_0 (j : Nat) {pc n : Nat} {i : Instr} (h : dtX11_rivals_0[j]? = some (pc, i, n)) : decode mX11_rivals.2.1 pc = .ok (i, n) := dec_of (c := mX11_rivals.2.1) ddX11_rivals_0 h
def fX11_rivals (v0 v1 v2 v3 v4 : Int) (μ : Mm) : Option (Int × Mm) :=
  chk (KD v0 = 11) (
  (fX11_canDraw v0 v1 v2 v3 v4 12 μ).bind fun (r2, μ2) =>
  if r2 = 0 then
    some ((-1), μ2)
  else
    (fX11_placeOf 0 v1).bind fun r4 =>
    (fX11_survey v0 r4 μ2).bind fun μ5 =>
    (fX11_draws v0 r4 v2 v3 v4 4960 μ5).bind fun μ6 =>
    (fX11_rivalsOf v0 r4 v2 μ6).bind fun (r7, μ7) =>
    some (r7, μ7))
set_option maxRecDepth 20000 in
theorem gX11_rivals_0 (l : Launch) {F : FI} {v0 v1 v2 v3 v4 : Int} {μ : Mm} {t : (Int × Mm)} (h : fX11_rivals v0 v1 v2 v3 v4 μ = some t) (hK : F.1 = [(0, t.1)] ∧ F.2.1 = t.2) : GM l mX11_rivals F 0 0 0 [(0, (3, v0)), (1, (0, v1)), (2, (0, v2)), (3, (0, v3)), (4, (0, v4))] [] μ := by
  unfold fX11_rivals at h
  refine GM_aload_n (pc := 0) 0 rfl (daX11_rivals_0 0 rfl) rfl ?_
  refine GM_iload_n (pc := 1) 1 rfl (daX11_rivals_0 1 rfl) rfl ?_
  refine GM_iload_n (pc := 2) 2 rfl (daX11_rivals_0 2 rfl) rfl ?_
  refine GM_iload_n (pc := 3) 3 rfl (daX11_rivals_0 3 rfl) rfl ?_
  refine GM_iload (pc := 4) 4 rfl (daX11_rivals_0 4 rfl) ?_
  refine GM_bipush (pc := 6) 12 (daX11_rivals_0 5 rfl) rfl (R32_b rfl) ?_
  obtain ⟨hc1, h⟩ := chk_inv h
  obtain ⟨⟨r2, μ2⟩, hf2, h⟩ := Option.bind_eq_some_iff.mp h
  dsimp only at h
  refine GM_callV0 (pc := 8) [(0, v1), (0, v2), (0, v3), (0, v4), (0, 12)] (tX11_canDraw l hf2) cwX11_canDraw 11 (Nat.le_of_ble_eq_true rfl) rfl kv_X11_canDraw ke_X11_canDraw km_X11_345 hc1 ⟨Nat.le_of_ble_eq_true rfl, Nat.le_of_ble_eq_true rfl⟩ (Nat.le_of_ble_eq_true rfl) (Nat.le_of_ble_eq_true rfl) (daX11_rivals_0 6 rfl) ?_
  refine GM_if_ne (pc := 11) 16 (daX11_rivals_0 7 rfl) rfl (fun c3 => ?_) (fun c3 => ?_)
  · skip
    rw [if_neg c3] at h
    refine GM_iconst (pc := 16) 0 (daX11_rivals_0 10 rfl) rfl (R32_b rfl) ?_
    refine GM_iload_n (pc := 17) 1 rfl (daX11_rivals_0 11 rfl) rfl ?_
    obtain ⟨r4, hf4, h⟩ := Option.bind_eq_some_iff.mp h
    refine GM_callS0 (pc := 18) [(0, 0), (0, v1)] (tX11_placeOf l hf4) cwX11_placeOf ks_X11_placeOf km_X11_204 ⟨Nat.le_of_ble_eq_true rfl, Nat.le_of_ble_eq_true rfl⟩ (Nat.le_of_ble_eq_true rfl) (Nat.le_of_ble_eq_true rfl) (daX11_rivals_0 12 rfl) ?_
    refine GM_istore (L' := [(5, (0, r4)), (0, (3, v0)), (1, (0, v1)), (2, (0, v2)), (3, (0, v3)), (4, (0, v4))]) (pc := 21) (daX11_rivals_0 13 rfl) (Nat.le_of_ble_eq_true rfl) rfl ?_
    refine GM_aload_n (pc := 23) 1 rfl (daX11_rivals_0 14 rfl) rfl ?_
    refine GM_iload (pc := 24) 0 rfl (daX11_rivals_0 15 rfl) ?_
    obtain ⟨μ5, hf5, h⟩ := Option.bind_eq_some_iff.mp h
    refine GM_callV0 (pc := 26) [(0, r4)] (tX11_survey l hf5) cwX11_survey 11 (Nat.le_of_ble_eq_true rfl) rfl kv_X11_survey ke_X11_survey km_X11_295 hc1 ⟨Nat.le_of_ble_eq_true rfl, Nat.le_of_ble_eq_true rfl⟩ (Nat.le_of_ble_eq_true rfl) (Nat.le_of_ble_eq_true rfl) (daX11_rivals_0 16 rfl) ?_
    refine GM_aload_n (pc := 29) 1 rfl (daX11_rivals_0 17 rfl) rfl ?_
    refine GM_iload (pc := 30) 0 rfl (daX11_rivals_0 18 rfl) ?_
    refine GM_iload_n (pc := 32) 3 rfl (daX11_rivals_0 19 rfl) rfl ?_
    refine GM_iload_n (pc := 33) 4 rfl (daX11_rivals_0 20 rfl) rfl ?_
    refine GM_iload (pc := 34) 5 rfl (daX11_rivals_0 21 rfl) ?_
    refine GM_sipush (pc := 36) 4960 (daX11_rivals_0 22 rfl) rfl (R32_b rfl) ?_
    obtain ⟨μ6, hf6, h⟩ := Option.bind_eq_some_iff.mp h
    refine GM_callV0 (pc := 39) [(0, r4), (0, v2), (0, v3), (0, v4), (0, 4960)] (tX11_draws l hf6) cwX11_draws 11 (Nat.le_of_ble_eq_true rfl) rfl kv_X11_draws ke_X11_draws km_X11_348 hc1 ⟨Nat.le_of_ble_eq_true rfl, Nat.le_of_ble_eq_true rfl⟩ (Nat.le_of_ble_eq_true rfl) (Nat.le_of_ble_eq_true rfl) (daX11_rivals_0 23 rfl) ?_
    refine GM_aload_n (pc := 42) 1 rfl (daX11_rivals_0 24 rfl) rfl ?_
    refine GM_iload (pc := 43) 0 rfl (daX11_rivals_0 25 rfl) ?_
    refine GM_iload_n (pc := 45) 3 rfl (daX11_rivals_0 26 rfl) rfl ?_
    obtain ⟨⟨r7, μ7⟩, hf7, h⟩ := Option.bind_eq_some_iff.mp h
    dsimp only at h
    refine GM_callV0 (pc := 46) [(0, r4), (0, v2)] (tX11_rivalsOf l hf7) cwX11_rivalsOf 11 (Nat.le_of_ble_eq_true rfl) rfl kv_X11_rivalsOf ke_X11_rivalsOf km_X11_352 hc1 ⟨Nat.le_of_ble_eq_true rfl, Nat.le_of_ble_eq_true rfl⟩ (Nat.le_of_ble_eq_true rfl) (Nat.le_of_ble_eq_true rfl) (daX11_rivals_0 27 rfl) ?_
    cases h
    exact GM_iret (pc := 49) (daX11_rivals_0 28 rfl) rfl hK
  · skip
    rw [if_pos c3] at h
    refine GM_iconst (pc := 14) (-1) (daX11_rivals_0 8 rfl) rfl (R32_b rfl) ?_
    cases h
    exact GM_iret (pc := 15) (daX11_rivals_0 9 rfl) rfl hK
theorem tX11_rivals (l : Launch) {v0 v1 v2 v3 v4 : Int} {μ : Mm} {t : (Int × Mm)} (h : fX11_rivals v0 v1 v2 v3 v4 μ = some t) : Ct l yX11_rivals mX11_rivals [(3, v0), (0, v1), (0, v2), (0, v3), (0, v4)] μ ([(0, t.1)], t.2, 0, 0) :=
  Ct_of (by decide +kernel) rfl rfl (Nat.le_of_ble_eq_true rfl) (fun _ _ _ => trivial) (gX11_rivals_0 l h ⟨rfl, rfl⟩)
def mX11_known : MI := (RX11, cX11_known, 6, (some .int), "known", 12, 313, fun _ _ _ => True)
theorem cwX11_known : CWd yX11_known mX11_known 2 := ⟨ki_X11, kk_X11_known, ⟨by decide, by decide⟩, rfl⟩
def dtX11_known_0 : List (Nat × Instr × Nat) := [(0, .aload_n 0, 1), (1, .iload_n 1, 1), (2, .iload_n 2, 1), (3, .invokevirtual 210, 3), (6, .ifCond .ne 5, 3), (9, .iconst (-1), 1), (10, .ireturn, 1), (11, .iconst 0, 1), (12, .iload_n 1, 1), (13, .invokestatic 204, 3), (16, .istore_n 3, 1), (17, .aload_n 0, 1), (18, .iload_n 3, 1), (19, .invokevirtual 295, 3), (22, .iconst 1, 1), (23, .istore 4, 2), (25, .iload 4, 2), (27, .aload_n 0, 1), (28, .getfield 29, 3), (31, .iload_n 2, 1), (32, .iaload, 1), (33, .if_icmp .gt 61, 3), (36, .iload 4, 2), (38, .bipush 12, 2), (40, .if_icmp .gt 54, 3), (43, .iconst 0, 1), (44, .istore 5, 2), (46, .iload 5, 2), (48, .aload_n 0, 1), (49, .getfield 29, 3), (52, .iload_n 2, 1), (53, .iaload, 1), (54, .if_icmp .ge 34, 3), (57, .aload_n 0, 1), (58, .iload_n 3, 1), (59, .iload_n 2, 1), (60, .iload 5, 2), (62, .iload 4, 2), (64, .sipush 4960, 3), (67, .invokevirtual 348, 3), (70, .aload_n 0, 1), (71, .iload_n 3, 1), (72, .iload_n 2, 1), (73, .invokevirtual 352, 3), (76, .ifCond .ne 6, 3), (79, .iload 4, 2), (81, .ireturn, 1), (82, .iinc 5 1, 3), (85, .goto (-39), 3), (88, .iinc 4 1, 3), (91, .goto (-66), 3), (94, .iconst (-1), 1), (95, .ireturn, 1)]
theorem ddX11_known_0 : (dtX11_known_0.all fun e => decide (decode mX11_known.2.1 e.1 = .ok (e.2.1, e.2.2))) = true := by decide +kernel
theorem daX11_known_0 (j : Nat) {pc n : Nat} {i : Instr} (h : dtX11_known_0[j]? = some (pc, i, n)) : decode mX11_known.2.1 pc = .ok (i, n) := dec_of (c := mX11_known.2.1) ddX11_known_0 h
def zX11_known_46 (l : Launch) (F : FI) (v0 v2 v3 v4 : Int) (k n : Nat) : (Int × Mm) ⊕ (Mm ⊕ Mm) → Prop
  | .inl (v5, μ) => GM l mX11_known F k n 46 [(0, (3, v0)), (2, (0, v2)), (3, (0, v3)), (4, (0, v4)), (5, (0, v5))] [] μ
  | .inr (.inl μ) => GM l mX11_known F k n 88 [(0, (3, v0)), (2, (0, v2)), (3, (0, v3)), (4, (0, v4))] [] μ
  | .inr (.inr μ) => GM l mX11_known F k n 79 [(4, (0, v4))] [] μ
def sX11_known_46 (v0 v2 v3 v4 : Int) : (Int × Mm) → Option ((Int × Mm) ⊕ (Mm ⊕ Mm)) := fun (v5, μ) =>
  chk (KD v0 = 11) (
  chk (KD (μ v0 16) = 12 ∧ 0 ≤ v2 ∧ v2 < LN (μ v0 16)) (
  if μ (μ v0 16) v2 ≤ v5 then
    some (.inr (.inl μ))
  else
    (fX11_draws v0 v3 v2 v5 v4 4960 μ).bind fun μ4 =>
    (fX11_rivalsOf v0 v3 v2 μ4).bind fun (r5, μ5) =>
    if r5 = 0 then
      some (.inr (.inr μ5))
    else
      some (.inl (w32 (v5 + 1), μ5))))
def zX11_known_25 (l : Launch) (F : FI) (v0 v2 v3 : Int) (k n : Nat) : (Int × Mm) ⊕ (Mm ⊕ (Int × Mm)) → Prop
  | .inl (v4, μ) => GM l mX11_known F k n 25 [(0, (3, v0)), (2, (0, v2)), (3, (0, v3)), (4, (0, v4))] [] μ
  | .inr (.inl μ) => GM l mX11_known F k n 94 [] [] μ
  | .inr (.inr (v4, μ)) => GM l mX11_known F k n 79 [(4, (0, v4))] [] μ
def sX11_known_25 (v0 v2 v3 : Int) : (Int × Mm) → Option ((Int × Mm) ⊕ (Mm ⊕ (Int × Mm))) := fun (v4, μ) =>
  chk (KD v0 = 11) (
  chk (KD (μ v0 16) = 12 ∧ 0 ≤ v2 ∧ v2 < LN (μ v0 16)) (
  if μ (μ v0 16) v2 < v4 then
    some (.inr (.inl μ))
  else
    if 12 < v4 then
      some (.inr (.inl μ))
    else
      (lop (sX11_known_46 v0 v2 v3 v4) FU (0, μ)).bind fun x11 =>
        match x11 with
        | (.inl μ_12) =>
            some (.inl (w32 (v4 + 1), μ_12))
        | (.inr μ_13) =>
            some (.inr (.inr (v4, μ_13)))))
def fX11_known (v0 v1 v2 : Int) (μ : Mm) : Option (Int × Mm) :=
  chk (KD v0 = 11) (
  (fX11_isPlace v0 v1 v2 μ).bind fun r15 =>
  if r15 = 0 then
    some ((-1), μ)
  else
    (fX11_placeOf 0 v1).bind fun r17 =>
    (fX11_survey v0 r17 μ).bind fun μ18 =>
    (lop (sX11_known_25 v0 v2 r17) FU (1, μ18)).bind fun x19 =>
      match x19 with
      | (.inl μ_20) =>
          some ((-1), μ_20)
      | (.inr (v4_21, μ_21)) =>
          some (v4_21, μ_21))
set_option maxRecDepth 20000 in
theorem qX11_known_46 (l : Launch) (F : FI) (v0 v2 v3 v4 : Int) (k n : Nat) : ∀ (q : (Int × Mm)) (t : ((Int × Mm) ⊕ (Mm ⊕ Mm))), sX11_known_46 v0 v2 v3 v4 q = some t → zX11_known_46 l F v0 v2 v3 v4 k n t → zX11_known_46 l F v0 v2 v3 v4 k n (.inl q) := by
  intro q t h hK
  obtain ⟨v5, μ⟩ := q
  unfold sX11_known_46 at h
  try dsimp only at h
  show GM l mX11_known F k n 46 [(0, (3, v0)), (2, (0, v2)), (3, (0, v3)), (4, (0, v4)), (5, (0, v5))] [] μ
  refine GM_iload (pc := 46) 4 rfl (daX11_known_0 27 rfl) ?_
  refine GM_aload_n (pc := 48) 0 rfl (daX11_known_0 28 rfl) rfl ?_
  obtain ⟨hc1, h⟩ := chk_inv h
  refine GM_getf (pc := 49) 11 16 3 16 kf_X11_29 (Nat.le_of_ble_eq_true rfl) (Nat.le_of_ble_eq_true rfl) rfl (daX11_known_0 29 rfl) hc1 rfl ?_
  refine GM_iload_n (pc := 52) 1 rfl (daX11_known_0 30 rfl) rfl ?_
  obtain ⟨hc2, h⟩ := chk_inv h
  refine GM_iald (pc := 53) (daX11_known_0 31 rfl) hc2.1 hc2.2.1 hc2.2.2 ?_
  refine GM_icmp_ge (pc := 54) 88 (daX11_known_0 32 rfl) rfl (fun c3 => ?_) (fun c3 => ?_)
  · skip
    rw [if_pos c3] at h
    refine GM_pick [0, 1, 2, 3] rfl ?_
    cases h
    exact hK
  · skip
    rw [if_neg c3] at h
    refine GM_aload_n (pc := 57) 0 rfl (daX11_known_0 33 rfl) rfl ?_
    refine GM_iload_n (pc := 58) 2 rfl (daX11_known_0 34 rfl) rfl ?_
    refine GM_iload_n (pc := 59) 1 rfl (daX11_known_0 35 rfl) rfl ?_
    refine GM_iload (pc := 60) 4 rfl (daX11_known_0 36 rfl) ?_
    refine GM_iload (pc := 62) 3 rfl (daX11_known_0 37 rfl) ?_
    refine GM_sipush (pc := 64) 4960 (daX11_known_0 38 rfl) rfl (R32_b rfl) ?_
    obtain ⟨μ4, hf4, h⟩ := Option.bind_eq_some_iff.mp h
    refine GM_callV0 (pc := 67) [(0, v3), (0, v2), (0, v5), (0, v4), (0, 4960)] (tX11_draws l hf4) cwX11_draws 11 (Nat.le_of_ble_eq_true rfl) rfl kv_X11_draws ke_X11_draws km_X11_348 hc1 ⟨Nat.le_of_ble_eq_true rfl, Nat.le_of_ble_eq_true rfl⟩ (Nat.le_of_ble_eq_true rfl) (Nat.le_of_ble_eq_true rfl) (daX11_known_0 39 rfl) ?_
    refine GM_aload_n (pc := 70) 0 rfl (daX11_known_0 40 rfl) rfl ?_
    refine GM_iload_n (pc := 71) 2 rfl (daX11_known_0 41 rfl) rfl ?_
    refine GM_iload_n (pc := 72) 1 rfl (daX11_known_0 42 rfl) rfl ?_
    obtain ⟨⟨r5, μ5⟩, hf5, h⟩ := Option.bind_eq_some_iff.mp h
    dsimp only at h
    refine GM_callV0 (pc := 73) [(0, v3), (0, v2)] (tX11_rivalsOf l hf5) cwX11_rivalsOf 11 (Nat.le_of_ble_eq_true rfl) rfl kv_X11_rivalsOf ke_X11_rivalsOf km_X11_352 hc1 ⟨Nat.le_of_ble_eq_true rfl, Nat.le_of_ble_eq_true rfl⟩ (Nat.le_of_ble_eq_true rfl) (Nat.le_of_ble_eq_true rfl) (daX11_known_0 43 rfl) ?_
    refine GM_if_ne (pc := 76) 82 (daX11_known_0 44 rfl) rfl (fun c6 => ?_) (fun c6 => ?_)
    · skip
      rw [if_neg c6] at h
      refine GM_iinc (L' := [(5, (0, w32 (v5 + 1))), (0, (3, v0)), (2, (0, v2)), (3, (0, v3)), (4, (0, v4))]) (pc := 82) 4 rfl (daX11_known_0 47 rfl) (Nat.le_of_ble_eq_true rfl) rfl ?_
      refine GM_goto (pc := 85) 46 (daX11_known_0 48 rfl) rfl ?_
      refine GM_pick [1, 2, 3, 4, 0] rfl ?_
      cases h
      exact hK
    · skip
      rw [if_pos c6] at h
      refine GM_pick [3] rfl ?_
      cases h
      exact hK
set_option maxRecDepth 20000 in
theorem qX11_known_25 (l : Launch) (F : FI) (v0 v2 v3 : Int) (k n : Nat) : ∀ (q : (Int × Mm)) (t : ((Int × Mm) ⊕ (Mm ⊕ (Int × Mm)))), sX11_known_25 v0 v2 v3 q = some t → zX11_known_25 l F v0 v2 v3 k n t → zX11_known_25 l F v0 v2 v3 k n (.inl q) := by
  intro q t h hK
  obtain ⟨v4, μ⟩ := q
  unfold sX11_known_25 at h
  try dsimp only at h
  show GM l mX11_known F k n 25 [(0, (3, v0)), (2, (0, v2)), (3, (0, v3)), (4, (0, v4))] [] μ
  refine GM_iload (pc := 25) 3 rfl (daX11_known_0 16 rfl) ?_
  refine GM_aload_n (pc := 27) 0 rfl (daX11_known_0 17 rfl) rfl ?_
  obtain ⟨hc7, h⟩ := chk_inv h
  refine GM_getf (pc := 28) 11 16 3 16 kf_X11_29 (Nat.le_of_ble_eq_true rfl) (Nat.le_of_ble_eq_true rfl) rfl (daX11_known_0 18 rfl) hc7 rfl ?_
  refine GM_iload_n (pc := 31) 1 rfl (daX11_known_0 19 rfl) rfl ?_
  obtain ⟨hc8, h⟩ := chk_inv h
  refine GM_iald (pc := 32) (daX11_known_0 20 rfl) hc8.1 hc8.2.1 hc8.2.2 ?_
  refine GM_icmp_gt (pc := 33) 94 (daX11_known_0 21 rfl) rfl (fun c9 => ?_) (fun c9 => ?_)
  · skip
    rw [if_pos c9] at h
    refine GM_pick [] rfl ?_
    cases h
    exact hK
  · skip
    rw [if_neg c9] at h
    refine GM_iload (pc := 36) 3 rfl (daX11_known_0 22 rfl) ?_
    refine GM_bipush (pc := 38) 12 (daX11_known_0 23 rfl) rfl (R32_b rfl) ?_
    refine GM_icmp_gt (pc := 40) 94 (daX11_known_0 24 rfl) rfl (fun c10 => ?_) (fun c10 => ?_)
    · skip
      rw [if_pos c10] at h
      refine GM_pick [] rfl ?_
      cases h
      exact hK
    · skip
      rw [if_neg c10] at h
      refine GM_iconst (pc := 43) 0 (daX11_known_0 25 rfl) rfl (R32_b rfl) ?_
      refine GM_istore (L' := [(5, (0, 0)), (0, (3, v0)), (2, (0, v2)), (3, (0, v3)), (4, (0, v4))]) (pc := 44) (daX11_known_0 26 rfl) (Nat.le_of_ble_eq_true rfl) rfl ?_
      refine GM_pick [1, 2, 3, 4, 0] rfl ?_
      obtain ⟨x11, hqx11, h⟩ := Option.bind_eq_some_iff.mp h
      refine lop_ind (zX11_known_46 l F v0 v2 v3 v4 k n) (qX11_known_46 l F v0 v2 v3 v4 k n) FU _ x11 hqx11 ?_
      rcases x11 with μ_12 | μ_13
      · dsimp only at h
        show GM l mX11_known F k n 88 [(0, (3, v0)), (2, (0, v2)), (3, (0, v3)), (4, (0, v4))] [] μ_12
        refine GM_iinc (L' := [(4, (0, w32 (v4 + 1))), (0, (3, v0)), (2, (0, v2)), (3, (0, v3))]) (pc := 88) 3 rfl (daX11_known_0 49 rfl) (Nat.le_of_ble_eq_true rfl) rfl ?_
        refine GM_goto (pc := 91) 25 (daX11_known_0 50 rfl) rfl ?_
        refine GM_pick [1, 2, 3, 0] rfl ?_
        cases h
        exact hK
      · dsimp only at h
        show GM l mX11_known F k n 79 [(4, (0, v4))] [] μ_13
        cases h
        exact hK
set_option maxRecDepth 20000 in
theorem gX11_known_0 (l : Launch) {F : FI} {v0 v1 v2 : Int} {μ : Mm} {t : (Int × Mm)} (h : fX11_known v0 v1 v2 μ = some t) (hK : F.1 = [(0, t.1)] ∧ F.2.1 = t.2) : GM l mX11_known F 0 0 0 [(0, (3, v0)), (1, (0, v1)), (2, (0, v2))] [] μ := by
  unfold fX11_known at h
  refine GM_aload_n (pc := 0) 0 rfl (daX11_known_0 0 rfl) rfl ?_
  refine GM_iload_n (pc := 1) 1 rfl (daX11_known_0 1 rfl) rfl ?_
  refine GM_iload_n (pc := 2) 2 rfl (daX11_known_0 2 rfl) rfl ?_
  obtain ⟨hc14, h⟩ := chk_inv h
  obtain ⟨r15, hf15, h⟩ := Option.bind_eq_some_iff.mp h
  refine GM_callV0 (pc := 3) [(0, v1), (0, v2)] (tX11_isPlace l hf15) cwX11_isPlace 11 (Nat.le_of_ble_eq_true rfl) rfl kv_X11_isPlace ke_X11_isPlace km_X11_210 hc14 ⟨Nat.le_of_ble_eq_true rfl, Nat.le_of_ble_eq_true rfl⟩ (Nat.le_of_ble_eq_true rfl) (Nat.le_of_ble_eq_true rfl) (daX11_known_0 3 rfl) ?_
  refine GM_if_ne (pc := 6) 11 (daX11_known_0 4 rfl) rfl (fun c16 => ?_) (fun c16 => ?_)
  · skip
    rw [if_neg c16] at h
    refine GM_iconst (pc := 11) 0 (daX11_known_0 7 rfl) rfl (R32_b rfl) ?_
    refine GM_iload_n (pc := 12) 1 rfl (daX11_known_0 8 rfl) rfl ?_
    obtain ⟨r17, hf17, h⟩ := Option.bind_eq_some_iff.mp h
    refine GM_callS0 (pc := 13) [(0, 0), (0, v1)] (tX11_placeOf l hf17) cwX11_placeOf ks_X11_placeOf km_X11_204 ⟨Nat.le_of_ble_eq_true rfl, Nat.le_of_ble_eq_true rfl⟩ (Nat.le_of_ble_eq_true rfl) (Nat.le_of_ble_eq_true rfl) (daX11_known_0 9 rfl) ?_
    refine GM_istore_n (L' := [(3, (0, r17)), (0, (3, v0)), (1, (0, v1)), (2, (0, v2))]) (pc := 16) (daX11_known_0 10 rfl) rfl (Nat.le_of_ble_eq_true rfl) rfl ?_
    refine GM_aload_n (pc := 17) 1 rfl (daX11_known_0 11 rfl) rfl ?_
    refine GM_iload_n (pc := 18) 0 rfl (daX11_known_0 12 rfl) rfl ?_
    obtain ⟨μ18, hf18, h⟩ := Option.bind_eq_some_iff.mp h
    refine GM_callV0 (pc := 19) [(0, r17)] (tX11_survey l hf18) cwX11_survey 11 (Nat.le_of_ble_eq_true rfl) rfl kv_X11_survey ke_X11_survey km_X11_295 hc14 ⟨Nat.le_of_ble_eq_true rfl, Nat.le_of_ble_eq_true rfl⟩ (Nat.le_of_ble_eq_true rfl) (Nat.le_of_ble_eq_true rfl) (daX11_known_0 13 rfl) ?_
    refine GM_iconst (pc := 22) 1 (daX11_known_0 14 rfl) rfl (R32_b rfl) ?_
    refine GM_istore (L' := [(4, (0, 1)), (3, (0, r17)), (0, (3, v0)), (1, (0, v1)), (2, (0, v2))]) (pc := 23) (daX11_known_0 15 rfl) (Nat.le_of_ble_eq_true rfl) rfl ?_
    refine GM_pick [2, 4, 1, 0] rfl ?_
    obtain ⟨x19, hqx19, h⟩ := Option.bind_eq_some_iff.mp h
    refine lop_ind (zX11_known_25 l F v0 v2 r17 0 0) (qX11_known_25 l F v0 v2 r17 0 0) FU _ x19 hqx19 ?_
    rcases x19 with μ_20 | ⟨v4_21, μ_21⟩
    · dsimp only at h
      show GM l mX11_known F 0 0 94 [] [] μ_20
      refine GM_iconst (pc := 94) (-1) (daX11_known_0 51 rfl) rfl (R32_b rfl) ?_
      cases h
      exact GM_iret (pc := 95) (daX11_known_0 52 rfl) rfl hK
    · dsimp only at h
      show GM l mX11_known F 0 0 79 [(4, (0, v4_21))] [] μ_21
      refine GM_iload (pc := 79) 0 rfl (daX11_known_0 45 rfl) ?_
      cases h
      exact GM_iret (pc := 81) (daX11_known_0 46 rfl) rfl hK
  · skip
    rw [if_pos c16] at h
    refine GM_iconst (pc := 9) (-1) (daX11_known_0 5 rfl) rfl (R32_b rfl) ?_
    cases h
    exact GM_iret (pc := 10) (daX11_known_0 6 rfl) rfl hK
theorem tX11_known (l : Launch) {v0 v1 v2 : Int} {μ : Mm} {t : (Int × Mm)} (h : fX11_known v0 v1 v2 μ = some t) : Ct l yX11_known mX11_known [(3, v0), (0, v1), (0, v2)] μ ([(0, t.1)], t.2, 0, 0) :=
  Ct_of (by decide +kernel) rfl rfl (Nat.le_of_ble_eq_true rfl) (fun _ _ _ => trivial) (gX11_known_0 l h ⟨rfl, rfl⟩)
