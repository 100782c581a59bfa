def mX11_common : MI := (RX11, cX11_common, 10, (some .long), "common", 0, 0, fun _ _ _ => True)
theorem cwX11_common : CWd yX11_common mX11_common 2 := ⟨ki_X11, kk_X11_common, ⟨by decide, by decide⟩, rfl⟩
def dtX11_common_0 : List (Nat × Instr × Nat) := [(0, .lload_n 0, 1), (1, .lconst 0, 1), (2, .lcmp, 1), (3, .ifCond .ge 8, 3), (6, .lload_n 0, 1), (7, .lneg, 1), (8, .goto 4, 3), (11, .lload_n 0, 1), (12, .lstore 4, 2), (14, .lload_n 2, 1), (15, .lconst 0, 1), (16, .lcmp, 1), (17, .ifCond .ge 8, 3), (20, .lload_n 2, 1), (21, .lneg, 1), (22, .goto 4, 3), (25, .lload_n 2, 1), (26, .lstore 6, 2), (28, .lload 6, 2), (30, .lconst 0, 1), (31, .lcmp, 1), (32, .ifCond .eq 21, 3), (35, .lload 4, 2), (37, .lload 6, 2), (39, .lrem, 1), (40, .lstore 8, 2), (42, .lload 6, 2), (44, .lstore 4, 2), (46, .lload 8, 2), (48, .lstore 6, 2), (50, .goto (-22), 3), (53, .lload 4, 2), (55, .lreturn, 1)]
theorem ddX11_common_0 : (dtX11_common_0.all fun e => decide (decode mX11_common.2.1 e.1 = .ok (e.2.1, e.2.2))) = true := by decide +kernel
theorem daX11_common_0 (j : Nat) {pc n : Nat} {i : Instr} (h : dtX11_common_0[j]? = some (pc, i, n)) : decode mX11_common.2.1 pc = .ok (i, n) := dec_of (c := mX11_common.2.1) ddX11_common_0 h
def zX11_common_28 (l : Launch) (F : FI) (μ : Mm) (k n : Nat) : (Int × Int) ⊕ Int → Prop
  | .inl (v4, v6) => GM l mX11_common F k n 28 [(4, (2, v4)), (6, (2, v6))] [] μ
  | .inr v4 => GM l mX11_common F k n 53 [(4, (2, v4))] [] μ
def sX11_common_28 : (Int × Int) → Option ((Int × Int) ⊕ Int) := fun (v4, v6) =>
  if v6 = 0 then
    some (.inr v4)
  else
    chk (v6 ≠ 0) (
    some (.inl (v6, v4.tmod v6)))
def jX11_common_26 (v4 s0 : Int) : Option Int :=
  (lop (sX11_common_28) FU (v4, s0)).bind fun v4_4 =>
    some v4_4
def jX11_common_12 (v2 s0 : Int) : Option Int :=
  if 0 ≤ v2 then
    jX11_common_26 s0 v2
  else
    jX11_common_26 s0 (w64 (-v2))
def fX11_common (v0 v2 : Int) : Option Int :=
  if 0 ≤ v0 then
    jX11_common_12 v2 v0
  else
    jX11_common_12 v2 (w64 (-v0))
set_option maxRecDepth 20000 in
theorem qX11_common_28 (l : Launch) (F : FI) (μ : Mm) (k n : Nat) : ∀ (q : (Int × Int)) (t : ((Int × Int) ⊕ Int)), sX11_common_28 q = some t → zX11_common_28 l F μ k n t → zX11_common_28 l F μ k n (.inl q) := by
  intro q t h hK
  obtain ⟨v4, v6⟩ := q
  unfold sX11_common_28 at h
  try dsimp only at h
  show GM l mX11_common F k n 28 [(4, (2, v4)), (6, (2, v6))] [] μ
  refine GM_lload (pc := 28) 1 rfl (daX11_common_0 18 rfl) ?_
  refine GM_lconst (pc := 30) 0 (daX11_common_0 19 rfl) rfl (R64_b rfl) ?_
  refine GM_lcmp (pc := 31) (daX11_common_0 20 rfl) ?_
  refine GM_if_eq (pc := 32) 53 (daX11_common_0 21 rfl) rfl (fun c1 => ?_) (fun c1 => ?_)
  · skip
    have c1 := lcmp_eq.mp c1
    rw [if_pos c1] at h
    refine GM_pick [0] rfl ?_
    cases h
    exact hK
  · skip
    have c1 := (not_congr lcmp_eq).mp c1
    rw [if_neg c1] at h
    refine GM_lload (pc := 35) 0 rfl (daX11_common_0 22 rfl) ?_
    refine GM_lload (pc := 37) 1 rfl (daX11_common_0 23 rfl) ?_
    obtain ⟨hc2, h⟩ := chk_inv h
    refine GM_lrem (pc := 39) (daX11_common_0 24 rfl) hc2 ?_
    refine GM_lstore (L' := [(8, (2, v4.tmod v6)), (4, (2, v4)), (6, (2, v6))]) (pc := 40) (daX11_common_0 25 rfl) (Nat.le_of_ble_eq_true rfl) rfl ?_
    refine GM_lload (pc := 42) 2 rfl (daX11_common_0 26 rfl) ?_
    refine GM_lstore (L' := [(4, (2, v6)), (8, (2, v4.tmod v6)), (6, (2, v6))]) (pc := 44) (daX11_common_0 27 rfl) (Nat.le_of_ble_eq_true rfl) rfl ?_
    refine GM_lload (pc := 46) 1 rfl (daX11_common_0 28 rfl) ?_
    refine GM_lstore (L' := [(6, (2, v4.tmod v6)), (4, (2, v6)), (8, (2, v4.tmod v6))]) (pc := 48) (daX11_common_0 29 rfl) (Nat.le_of_ble_eq_true rfl) rfl ?_
    refine GM_goto (pc := 50) 28 (daX11_common_0 30 rfl) rfl ?_
    refine GM_pick [1, 0] rfl ?_
    cases h
    exact hK
set_option maxRecDepth 20000 in
theorem gX11_common_26 (l : Launch) {F : FI} {v4 s0 : Int} {μ : Mm} {t : Int} (h : jX11_common_26 v4 s0 = some t) (hK : F.1 = [(2, t)] ∧ F.2.1 = μ) : GM l mX11_common F 0 0 26 [(4, (2, v4))] [(2, s0)] μ := by
  unfold jX11_common_26 at h
  refine GM_lstore (L' := [(6, (2, s0)), (4, (2, v4))]) (pc := 26) (daX11_common_0 17 rfl) (Nat.le_of_ble_eq_true rfl) rfl ?_
  refine GM_pick [1, 0] rfl ?_
  obtain ⟨x3, hqx3, h⟩ := Option.bind_eq_some_iff.mp h
  refine lop_ind (zX11_common_28 l F μ 0 0) (qX11_common_28 l F μ 0 0) FU _ x3 hqx3 ?_
  obtain ⟨v4_4, hqq⟩ : ∃ z, z = x3 := ⟨x3, rfl⟩
  subst hqq
  show GM l mX11_common F 0 0 53 [(4, (2, v4_4))] [] μ
  refine GM_lload (pc := 53) 0 rfl (daX11_common_0 31 rfl) ?_
  cases h
  exact GM_lret (pc := 55) (daX11_common_0 32 rfl) rfl hK
set_option maxRecDepth 20000 in
theorem gX11_common_12 (l : Launch) {F : FI} {v2 s0 : Int} {μ : Mm} {t : Int} (h : jX11_common_12 v2 s0 = some t) (hK : F.1 = [(2, t)] ∧ F.2.1 = μ) : GM l mX11_common F 0 0 12 [(2, (2, v2))] [(2, s0)] μ := by
  unfold jX11_common_12 at h
  refine GM_lstore (L' := [(4, (2, s0)), (2, (2, v2))]) (pc := 12) (daX11_common_0 8 rfl) (Nat.le_of_ble_eq_true rfl) rfl ?_
  refine GM_lload_n (pc := 14) 1 rfl (daX11_common_0 9 rfl) rfl ?_
  refine GM_lconst (pc := 15) 0 (daX11_common_0 10 rfl) rfl (R64_b rfl) ?_
  refine GM_lcmp (pc := 16) (daX11_common_0 11 rfl) ?_
  refine GM_if_ge (pc := 17) 25 (daX11_common_0 12 rfl) rfl (fun c5 => ?_) (fun c5 => ?_)
  · skip
    have c5 := lcmp_ge.mp c5
    rw [if_pos c5] at h
    refine GM_lload_n (pc := 25) 1 rfl (daX11_common_0 16 rfl) rfl ?_
    refine GM_pick [0] rfl ?_
    exact gX11_common_26 l h hK
  · skip
    have c5 := (not_congr lcmp_ge).mp c5
    rw [if_neg c5] at h
    refine GM_lload_n (pc := 20) 1 rfl (daX11_common_0 13 rfl) rfl ?_
    refine GM_lneg (pc := 21) (daX11_common_0 14 rfl) ?_
    refine GM_goto (pc := 22) 26 (daX11_common_0 15 rfl) rfl ?_
    refine GM_pick [0] rfl ?_
    exact gX11_common_26 l h hK
set_option maxRecDepth 20000 in
theorem gX11_common_0 (l : Launch) {F : FI} {v0 v2 : Int} {μ : Mm} {t : Int} (h : fX11_common v0 v2 = some t) (hK : F.1 = [(2, t)] ∧ F.2.1 = μ) : GM l mX11_common F 0 0 0 [(0, (2, v0)), (2, (2, v2))] [] μ := by
  unfold fX11_common at h
  refine GM_lload_n (pc := 0) 0 rfl (daX11_common_0 0 rfl) rfl ?_
  refine GM_lconst (pc := 1) 0 (daX11_common_0 1 rfl) rfl (R64_b rfl) ?_
  refine GM_lcmp (pc := 2) (daX11_common_0 2 rfl) ?_
  refine GM_if_ge (pc := 3) 11 (daX11_common_0 3 rfl) rfl (fun c6 => ?_) (fun c6 => ?_)
  · skip
    have c6 := lcmp_ge.mp c6
    rw [if_pos c6] at h
    refine GM_lload_n (pc := 11) 0 rfl (daX11_common_0 7 rfl) rfl ?_
    refine GM_pick [1] rfl ?_
    exact gX11_common_12 l h hK
  · skip
    have c6 := (not_congr lcmp_ge).mp c6
    rw [if_neg c6] at h
    refine GM_lload_n (pc := 6) 0 rfl (daX11_common_0 4 rfl) rfl ?_
    refine GM_lneg (pc := 7) (daX11_common_0 5 rfl) ?_
    refine GM_goto (pc := 8) 12 (daX11_common_0 6 rfl) rfl ?_
    refine GM_pick [1] rfl ?_
    exact gX11_common_12 l h hK
theorem tX11_common (l : Launch) {v0 v2 : Int} {μ : Mm} {t : Int} (h : fX11_common v0 v2 = some t) : Ct l yX11_common mX11_common [(2, v0), (2, v2)] μ ([(2, t)], μ, 0, 0) :=
  Ct_of (by decide +kernel) rfl rfl (Nat.le_of_ble_eq_true rfl) (fun _ _ _ => trivial) (gX11_common_0 l h ⟨rfl, rfl⟩)
def mX11_isEarlier : MI := (RX11, cX11_isEarlier, 6, (some .boolean), "isEarlier", 0, 0, fun _ _ _ => True)
theorem cwX11_isEarlier : CWd yX11_isEarlier mX11_isEarlier 4 := ⟨ki_X11, kk_X11_isEarlier, ⟨by decide, by decide⟩, rfl⟩
def dtX11_isEarlier_0 : List (Nat × Instr × Nat) := [(0, .iload_n 0, 1), (1, .ifCond .gt 11, 3), (4, .iload_n 0, 1), (5, .ifCond .ne 11, 3), (8, .iload_n 1, 1), (9, .ifCond .ge 7, 3), (12, .iconst 1, 1), (13, .goto 4, 3), (16, .iconst 0, 1), (17, .istore 4, 2), (19, .iload_n 2, 1), (20, .ifCond .gt 11, 3), (23, .iload_n 2, 1), (24, .ifCond .ne 11, 3), (27, .iload_n 3, 1), (28, .ifCond .ge 7, 3), (31, .iconst 1, 1), (32, .goto 4, 3), (35, .iconst 0, 1), (36, .istore 5, 2), (38, .iload 4, 2), (40, .iload 5, 2), (42, .if_icmp .eq 8, 3), (45, .iload 4, 2), (47, .goto 18, 3), (50, .iload_n 0, 1), (51, .iload_n 3, 1), (52, .imul, 1), (53, .iload_n 1, 1), (54, .iload_n 2, 1), (55, .imul, 1), (56, .isub, 1), (57, .ifCond .le 7, 3), (60, .iconst 1, 1), (61, .goto 4, 3), (64, .iconst 0, 1), (65, .ireturn, 1)]
theorem ddX11_isEarlier_0 : (dtX11_isEarlier_0.all fun e => decide (decode mX11_isEarlier.2.1 e.1 = .ok (e.2.1, e.2.2))) = true := by decide +kernel
theorem daX11_isEarlier_0 (j : Nat) {pc n : Nat} {i : Instr} (h : dtX11_isEarlier_0[j]? = some (pc, i, n)) : decode mX11_isEarlier.2.1 pc = .ok (i, n) := dec_of (c := mX11_isEarlier.2.1) ddX11_isEarlier_0 h
def jX11_isEarlier_36 (v0 v1 v2 v3 v4 s0 : Int) : Option Int :=
  if v4 = s0 then
    if w32 ((w32 (v0 * v3)) - (w32 (v1 * v2))) ≤ 0 then
      some 0
    else
      some 1
  else
    chk ((v4 = 0 ∨ v4 = 1)) (
    some v4)
def jX11_isEarlier_35 (v0 v1 v2 v3 v4 : Int) : Option Int :=
  jX11_isEarlier_36 v0 v1 v2 v3 v4 0
def jX11_isEarlier_31 (v0 v1 v2 v3 v4 : Int) : Option Int :=
  jX11_isEarlier_36 v0 v1 v2 v3 v4 1
def jX11_isEarlier_17 (v0 v1 v2 v3 s0 : Int) : Option Int :=
  if 0 < v2 then
    jX11_isEarlier_31 v0 v1 v2 v3 s0
  else
    if v2 = 0 then
      if 0 ≤ v3 then
        jX11_isEarlier_35 v0 v1 v2 v3 s0
      else
        jX11_isEarlier_31 v0 v1 v2 v3 s0
    else
      jX11_isEarlier_35 v0 v1 v2 v3 s0
def jX11_isEarlier_16 (v0 v1 v2 v3 : Int) : Option Int :=
  jX11_isEarlier_17 v0 v1 v2 v3 0
def jX11_isEarlier_12 (v0 v1 v2 v3 : Int) : Option Int :=
  jX11_isEarlier_17 v0 v1 v2 v3 1
def fX11_isEarlier (v0 v1 v2 v3 : Int) : Option Int :=
  if 0 < v0 then
    jX11_isEarlier_12 v0 v1 v2 v3
  else
    if v0 = 0 then
      if 0 ≤ v1 then
        jX11_isEarlier_16 v0 v1 v2 v3
      else
        jX11_isEarlier_12 v0 v1 v2 v3
    else
      jX11_isEarlier_16 v0 v1 v2 v3
set_option maxRecDepth 20000 in
theorem gX11_isEarlier_36 (l : Launch) {F : FI} {v0 v1 v2 v3 v4 s0 : Int} {μ : Mm} {t : Int} (h : jX11_isEarlier_36 v0 v1 v2 v3 v4 s0 = some t) (hK : F.1 = [(0, t)] ∧ F.2.1 = μ) : GM l mX11_isEarlier F 0 0 36 [(0, (0, v0)), (1, (0, v1)), (2, (0, v2)), (3, (0, v3)), (4, (0, v4))] [(0, s0)] μ := by
  unfold jX11_isEarlier_36 at h
  refine GM_istore (L' := [(5, (0, s0)), (0, (0, v0)), (1, (0, v1)), (2, (0, v2)), (3, (0, v3)), (4, (0, v4))]) (pc := 36) (daX11_isEarlier_0 19 rfl) (Nat.le_of_ble_eq_true rfl) rfl ?_
  refine GM_iload (pc := 38) 5 rfl (daX11_isEarlier_0 20 rfl) ?_
  refine GM_iload (pc := 40) 0 rfl (daX11_isEarlier_0 21 rfl) ?_
  refine GM_icmp_eq (pc := 42) 50 (daX11_isEarlier_0 22 rfl) rfl (fun c1 => ?_) (fun c1 => ?_)
  · skip
    rw [if_pos c1] at h
    refine GM_iload_n (pc := 50) 1 rfl (daX11_isEarlier_0 25 rfl) rfl ?_
    refine GM_iload_n (pc := 51) 4 rfl (daX11_isEarlier_0 26 rfl) rfl ?_
    refine GM_imul (pc := 52) (daX11_isEarlier_0 27 rfl) ?_
    refine GM_iload_n (pc := 53) 2 rfl (daX11_isEarlier_0 28 rfl) rfl ?_
    refine GM_iload_n (pc := 54) 3 rfl (daX11_isEarlier_0 29 rfl) rfl ?_
    refine GM_imul (pc := 55) (daX11_isEarlier_0 30 rfl) ?_
    refine GM_isub (pc := 56) (daX11_isEarlier_0 31 rfl) ?_
    refine GM_if_le (pc := 57) 64 (daX11_isEarlier_0 32 rfl) rfl (fun c2 => ?_) (fun c2 => ?_)
    · skip
      rw [if_pos c2] at h
      refine GM_iconst (pc := 64) 0 (daX11_isEarlier_0 35 rfl) rfl (R32_b rfl) ?_
      cases h
      exact GM_zret (pc := 65) (daX11_isEarlier_0 36 rfl) rfl (Or.inl rfl) hK
    · skip
      rw [if_neg c2] at h
      refine GM_iconst (pc := 60) 1 (daX11_isEarlier_0 33 rfl) rfl (R32_b rfl) ?_
      refine GM_goto (pc := 61) 65 (daX11_isEarlier_0 34 rfl) rfl ?_
      cases h
      exact GM_zret (pc := 65) (daX11_isEarlier_0 36 rfl) rfl (Or.inr rfl) hK
  · skip
    rw [if_neg c1] at h
    refine GM_iload (pc := 45) 5 rfl (daX11_isEarlier_0 23 rfl) ?_
    refine GM_goto (pc := 47) 65 (daX11_isEarlier_0 24 rfl) rfl ?_
    obtain ⟨hc3, h⟩ := chk_inv h
    cases h
    exact GM_zret (pc := 65) (daX11_isEarlier_0 36 rfl) rfl hc3 hK
set_option maxRecDepth 20000 in
theorem gX11_isEarlier_35 (l : Launch) {F : FI} {v0 v1 v2 v3 v4 : Int} {μ : Mm} {t : Int} (h : jX11_isEarlier_35 v0 v1 v2 v3 v4 = some t) (hK : F.1 = [(0, t)] ∧ F.2.1 = μ) : GM l mX11_isEarlier F 0 0 35 [(0, (0, v0)), (1, (0, v1)), (2, (0, v2)), (3, (0, v3)), (4, (0, v4))] [] μ := by
  unfold jX11_isEarlier_35 at h
  refine GM_iconst (pc := 35) 0 (daX11_isEarlier_0 18 rfl) rfl (R32_b rfl) ?_
  exact gX11_isEarlier_36 l h hK
set_option maxRecDepth 20000 in
theorem gX11_isEarlier_31 (l : Launch) {F : FI} {v0 v1 v2 v3 v4 : Int} {μ : Mm} {t : Int} (h : jX11_isEarlier_31 v0 v1 v2 v3 v4 = some t) (hK : F.1 = [(0, t)] ∧ F.2.1 = μ) : GM l mX11_isEarlier F 0 0 31 [(0, (0, v0)), (1, (0, v1)), (2, (0, v2)), (3, (0, v3)), (4, (0, v4))] [] μ := by
  unfold jX11_isEarlier_31 at h
  refine GM_iconst (pc := 31) 1 (daX11_isEarlier_0 16 rfl) rfl (R32_b rfl) ?_
  refine GM_goto (pc := 32) 36 (daX11_isEarlier_0 17 rfl) rfl ?_
  exact gX11_isEarlier_36 l h hK
set_option maxRecDepth 20000 in
theorem gX11_isEarlier_17 (l : Launch) {F : FI} {v0 v1 v2 v3 s0 : Int} {μ : Mm} {t : Int} (h : jX11_isEarlier_17 v0 v1 v2 v3 s0 = some t) (hK : F.1 = [(0, t)] ∧ F.2.1 = μ) : GM l mX11_isEarlier F 0 0 17 [(0, (0, v0)), (1, (0, v1)), (2, (0, v2)), (3, (0, v3))] [(0, s0)] μ := by
  unfold jX11_isEarlier_17 at h
  refine GM_istore (L' := [(4, (0, s0)), (0, (0, v0)), (1, (0, v1)), (2, (0, v2)), (3, (0, v3))]) (pc := 17) (daX11_isEarlier_0 9 rfl) (Nat.le_of_ble_eq_true rfl) rfl ?_
  refine GM_iload_n (pc := 19) 3 rfl (daX11_isEarlier_0 10 rfl) rfl ?_
  refine GM_if_gt (pc := 20) 31 (daX11_isEarlier_0 11 rfl) rfl (fun c4 => ?_) (fun c4 => ?_)
  · skip
    rw [if_pos c4] at h
    refine GM_pick [1, 2, 3, 4, 0] rfl ?_
    exact gX11_isEarlier_31 l h hK
  · skip
    rw [if_neg c4] at h
    refine GM_iload_n (pc := 23) 3 rfl (daX11_isEarlier_0 12 rfl) rfl ?_
    refine GM_if_ne (pc := 24) 35 (daX11_isEarlier_0 13 rfl) rfl (fun c5 => ?_) (fun c5 => ?_)
    · skip
      rw [if_neg c5] at h
      refine GM_pick [1, 2, 3, 4, 0] rfl ?_
      exact gX11_isEarlier_35 l h hK
    · skip
      rw [if_pos c5] at h
      refine GM_iload_n (pc := 27) 4 rfl (daX11_isEarlier_0 14 rfl) rfl ?_
      refine GM_if_ge (pc := 28) 35 (daX11_isEarlier_0 15 rfl) rfl (fun c6 => ?_) (fun c6 => ?_)
      · skip
        rw [if_pos c6] at h
        refine GM_pick [1, 2, 3, 4, 0] rfl ?_
        exact gX11_isEarlier_35 l h hK
      · skip
        rw [if_neg c6] at h
        refine GM_pick [1, 2, 3, 4, 0] rfl ?_
        exact gX11_isEarlier_31 l h hK
set_option maxRecDepth 20000 in
theorem gX11_isEarlier_16 (l : Launch) {F : FI} {v0 v1 v2 v3 : Int} {μ : Mm} {t : Int} (h : jX11_isEarlier_16 v0 v1 v2 v3 = some t) (hK : F.1 = [(0, t)] ∧ F.2.1 = μ) : GM l mX11_isEarlier F 0 0 16 [(0, (0, v0)), (1, (0, v1)), (2, (0, v2)), (3, (0, v3))] [] μ := by
  unfold jX11_isEarlier_16 at h
  refine GM_iconst (pc := 16) 0 (daX11_isEarlier_0 8 rfl) rfl (R32_b rfl) ?_
  exact gX11_isEarlier_17 l h hK
set_option maxRecDepth 20000 in
theorem gX11_isEarlier_12 (l : Launch) {F : FI} {v0 v1 v2 v3 : Int} {μ : Mm} {t : Int} (h : jX11_isEarlier_12 v0 v1 v2 v3 = some t) (hK : F.1 = [(0, t)] ∧ F.2.1 = μ) : GM l mX11_isEarlier F 0 0 12 [(0, (0, v0)), (1, (0, v1)), (2, (0, v2)), (3, (0, v3))] [] μ := by
  unfold jX11_isEarlier_12 at h
  refine GM_iconst (pc := 12) 1 (daX11_isEarlier_0 6 rfl) rfl (R32_b rfl) ?_
  refine GM_goto (pc := 13) 17 (daX11_isEarlier_0 7 rfl) rfl ?_
  exact gX11_isEarlier_17 l h hK
set_option maxRecDepth 20000 in
theorem gX11_isEarlier_0 (l : Launch) {F : FI} {v0 v1 v2 v3 : Int} {μ : Mm} {t : Int} (h : fX11_isEarlier v0 v1 v2 v3 = some t) (hK : F.1 = [(0, t)] ∧ F.2.1 = μ) : GM l mX11_isEarlier F 0 0 0 [(0, (0, v0)), (1, (0, v1)), (2, (0, v2)), (3, (0, v3))] [] μ := by
  unfold fX11_isEarlier at h
  refine GM_iload_n (pc := 0) 0 rfl (daX11_isEarlier_0 0 rfl) rfl ?_
  refine GM_if_gt (pc := 1) 12 (daX11_isEarlier_0 1 rfl) rfl (fun c7 => ?_) (fun c7 => ?_)
  · skip
    rw [if_pos c7] at h
    exact gX11_isEarlier_12 l h hK
  · skip
    rw [if_neg c7] at h
    refine GM_iload_n (pc := 4) 0 rfl (daX11_isEarlier_0 2 rfl) rfl ?_
    refine GM_if_ne (pc := 5) 16 (daX11_isEarlier_0 3 rfl) rfl (fun c8 => ?_) (fun c8 => ?_)
    · skip
      rw [if_neg c8] at h
      exact gX11_isEarlier_16 l h hK
    · skip
      rw [if_pos c8] at h
      refine GM_iload_n (pc := 8) 1 rfl (daX11_isEarlier_0 4 rfl) rfl ?_
      refine GM_if_ge (pc := 9) 16 (daX11_isEarlier_0 5 rfl) rfl (fun c9 => ?_) (fun c9 => ?_)
      · skip
        rw [if_pos c9] at h
        exact gX11_isEarlier_16 l h hK
      · skip
        rw [if_neg c9] at h
        exact gX11_isEarlier_12 l h hK
theorem tX11_isEarlier (l : Launch) {v0 v1 v2 v3 : Int} {μ : Mm} {t : Int} (h : fX11_isEarlier v0 v1 v2 v3 = some t) : Ct l yX11_isEarlier mX11_isEarlier [(0, v0), (0, v1), (0, v2), (0, v3)] μ ([(0, t)], μ, 0, 0) :=
  Ct_of (by decide +kernel) rfl rfl (Nat.le_of_ble_eq_true rfl) (fun _ _ _ => trivial) (gX11_isEarlier_0 l h ⟨rfl, rfl⟩)
def mX11_points : MI := (RX11, cX11_points, 4, none, "points", 1, 25, fun _ _ _ => True)
theorem cwX11_points : CWd yX11_points mX11_points 2 := ⟨ki_X11, kk_X11_points, ⟨by decide, by decide⟩, rfl⟩
def dtX11_points_0 : List (Nat × Instr × Nat) := [(0, .aload_n 0, 1), (1, .getfield 77, 3), (4, .istore_n 3, 1), (5, .iload_n 3, 1), (6, .ifCond .le 61, 3), (9, .iload_n 1, 1), (10, .iload_n 2, 1), (11, .aload_n 0, 1), (12, .getfield 17, 3), (15, .iload_n 3, 1), (16, .iconst 1, 1), (17, .isub, 1), (18, .iaload, 1), (19, .aload_n 0, 1), (20, .getfield 20, 3), (23, .iload_n 3, 1), (24, .iconst 1, 1), (25, .isub, 1), (26, .iaload, 1), (27, .invokestatic 81, 3), (30, .ifCond .eq 37, 3), (33, .aload_n 0, 1), (34, .getfield 17, 3), (37, .iload_n 3, 1), (38, .aload_n 0, 1), (39, .getfield 17, 3), (42, .iload_n 3, 1), (43, .iconst 1, 1), (44, .isub, 1), (45, .iaload, 1), (46, .iastore, 1), (47, .aload_n 0, 1), (48, .getfield 20, 3), (51, .iload_n 3, 1), (52, .aload_n 0, 1), (53, .getfield 20, 3), (56, .iload_n 3, 1), (57, .iconst 1, 1), (58, .isub, 1), (59, .iaload, 1), (60, .iastore, 1), (61, .iinc 3 (-1), 3), (64, .goto (-59), 3), (67, .aload_n 0, 1), (68, .getfield 17, 3), (71, .iload_n 3, 1), (72, .iload_n 1, 1), (73, .iastore, 1), (74, .aload_n 0, 1), (75, .getfield 20, 3), (78, .iload_n 3, 1), (79, .iload_n 2, 1), (80, .iastore, 1), (81, .aload_n 0, 1), (82, .dup, 1), (83, .getfield 77, 3), (86, .iconst 1, 1), (87, .iadd, 1), (88, .putfield 77, 3), (91, .return_, 1)]
theorem ddX11_points_0 : (dtX11_points_0.all fun e => decide (decode mX11_points.2.1 e.1 = .ok (e.2.1, e.2.2))) = true := by decide +kernel
theorem daX11_points_0 (j : Nat) {pc n : Nat} {i : Instr} (h : dtX11_points_0[j]? = some (pc, i, n)) : decode mX11_points.2.1 pc = .ok (i, n) := dec_of (c := mX11_points.2.1) ddX11_points_0 h
def zX11_points_5 (l : Launch) (F : FI) (v0 v1 v2 : Int) (k n : Nat) : (Int × Mm) ⊕ (Int × Mm) → Prop
  | .inl (v3, μ) => GM l mX11_points F k n 5 [(0, (3, v0)), (1, (0, v1)), (2, (0, v2)), (3, (0, v3))] [] μ
  | .inr (v3, μ) => GM l mX11_points F k n 67 [(0, (3, v0)), (1, (0, v1)), (2, (0, v2)), (3, (0, v3))] [] μ
def sX11_points_5 (v0 v1 v2 : Int) : (Int × Mm) → Option ((Int × Mm) ⊕ (Int × Mm)) := fun (v3, μ) =>
  if v3 ≤ 0 then
    some (.inr (v3, μ))
  else
    chk (KD v0 = 11) (
    chk (KD (μ v0 3) = 12 ∧ 0 ≤ w32 (v3 - 1) ∧ w32 (v3 - 1) < LN (μ v0 3)) (
    chk (KD (μ v0 4) = 12 ∧ w32 (v3 - 1) < LN (μ v0 4)) (
    (fX11_isEarlier v1 v2 (μ (μ v0 3) (w32 (v3 - 1))) (μ (μ v0 4) (w32 (v3 - 1)))).bind fun r5 =>
    if r5 = 0 then
      some (.inr (v3, μ))
    else
      chk (0 ≤ v3 ∧ v3 < LN (μ v0 3)) (
      lm (mst μ (μ v0 3) v3 (μ (μ v0 3) (w32 (v3 - 1)))) fun μ8 =>
      chk (KD (μ8 v0 4) = 12 ∧ w32 (v3 - 1) < LN (μ8 v0 4)) (
      chk (v3 < LN (μ8 v0 4)) (
      lm (mst μ8 (μ8 v0 4) v3 (μ8 (μ8 v0 4) (w32 (v3 - 1)))) fun μ11 =>
      some (.inl (w32 (v3 + (-1)), μ11))))))))
def fX11_points (v0 v1 v2 : Int) (μ : Mm) : Option Mm :=
  chk (KD v0 = 11) (
  (lop (sX11_points_5 v0 v1 v2) FU (μ v0 2, μ)).bind fun x13 =>
    match x13 with
    | (v3_14, μ_14) =>
      chk (KD (μ_14 v0 3) = 12 ∧ 0 ≤ v3_14 ∧ v3_14 < LN (μ_14 v0 3)) (
      lm (mst μ_14 (μ_14 v0 3) v3_14 v1) fun μ16 =>
      chk (KD (μ16 v0 4) = 12 ∧ v3_14 < LN (μ16 v0 4)) (
      lm (mst μ16 (μ16 v0 4) v3_14 v2) fun μ18 =>
      lm (mst μ18 v0 2 (w32 ((μ18 v0 2) + 1))) fun μ19 =>
      some μ19)))
set_option maxRecDepth 20000 in
theorem qX11_points_5 (l : Launch) (F : FI) (v0 v1 v2 : Int) (k n : Nat) : ∀ (q : (Int × Mm)) (t : ((Int × Mm) ⊕ (Int × Mm))), sX11_points_5 v0 v1 v2 q = some t → zX11_points_5 l F v0 v1 v2 k n t → zX11_points_5 l F v0 v1 v2 k n (.inl q) := by
  intro q t h hK
  obtain ⟨v3, μ⟩ := q
  unfold sX11_points_5 at h
  try dsimp only at h
  show GM l mX11_points F k n 5 [(0, (3, v0)), (1, (0, v1)), (2, (0, v2)), (3, (0, v3))] [] μ
  refine GM_iload_n (pc := 5) 3 rfl (daX11_points_0 3 rfl) rfl ?_
  refine GM_if_le (pc := 6) 67 (daX11_points_0 4 rfl) rfl (fun c1 => ?_) (fun c1 => ?_)
  · skip
    rw [if_pos c1] at h
    cases h
    exact hK
  · skip
    rw [if_neg c1] at h
    refine GM_iload_n (pc := 9) 1 rfl (daX11_points_0 5 rfl) rfl ?_
    refine GM_iload_n (pc := 10) 2 rfl (daX11_points_0 6 rfl) rfl ?_
    refine GM_aload_n (pc := 11) 0 rfl (daX11_points_0 7 rfl) rfl ?_
    obtain ⟨hc2, h⟩ := chk_inv h
    refine GM_getf (pc := 12) 11 3 3 3 kf_X11_17 (Nat.le_of_ble_eq_true rfl) (Nat.le_of_ble_eq_true rfl) rfl (daX11_points_0 8 rfl) hc2 rfl ?_
    refine GM_iload_n (pc := 15) 3 rfl (daX11_points_0 9 rfl) rfl ?_
    refine GM_iconst (pc := 16) 1 (daX11_points_0 10 rfl) rfl (R32_b rfl) ?_
    refine GM_isub (pc := 17) (daX11_points_0 11 rfl) ?_
    obtain ⟨hc3, h⟩ := chk_inv h
    refine GM_iald (pc := 18) (daX11_points_0 12 rfl) hc3.1 hc3.2.1 hc3.2.2 ?_
    refine GM_aload_n (pc := 19) 0 rfl (daX11_points_0 13 rfl) rfl ?_
    refine GM_getf (pc := 20) 11 4 3 4 kf_X11_20 (Nat.le_of_ble_eq_true rfl) (Nat.le_of_ble_eq_true rfl) rfl (daX11_points_0 14 rfl) hc2 rfl ?_
    refine GM_iload_n (pc := 23) 3 rfl (daX11_points_0 15 rfl) rfl ?_
    refine GM_iconst (pc := 24) 1 (daX11_points_0 16 rfl) rfl (R32_b rfl) ?_
    refine GM_isub (pc := 25) (daX11_points_0 17 rfl) ?_
    obtain ⟨hc4, h⟩ := chk_inv h
    refine GM_iald (pc := 26) (daX11_points_0 18 rfl) hc4.1 hc3.2.1 hc4.2 ?_
    obtain ⟨r5, hf5, h⟩ := Option.bind_eq_some_iff.mp h
    refine GM_callS0 (pc := 27) [(0, v1), (0, v2), (0, μ (μ v0 3) (w32 (v3 - 1))), (0, μ (μ v0 4) (w32 (v3 - 1)))] (tX11_isEarlier l hf5) cwX11_isEarlier ks_X11_isEarlier km_X11_81 ⟨Nat.le_of_ble_eq_true rfl, Nat.le_of_ble_eq_true rfl⟩ (Nat.le_of_ble_eq_true rfl) (Nat.le_of_ble_eq_true rfl) (daX11_points_0 19 rfl) ?_
    refine GM_if_eq (pc := 30) 67 (daX11_points_0 20 rfl) rfl (fun c6 => ?_) (fun c6 => ?_)
    · skip
      rw [if_pos c6] at h
      cases h
      exact hK
    · skip
      rw [if_neg c6] at h
      refine GM_aload_n (pc := 33) 0 rfl (daX11_points_0 21 rfl) rfl ?_
      refine GM_getf (pc := 34) 11 3 3 3 kf_X11_17 (Nat.le_of_ble_eq_true rfl) (Nat.le_of_ble_eq_true rfl) rfl (daX11_points_0 22 rfl) hc2 rfl ?_
      refine GM_iload_n (pc := 37) 3 rfl (daX11_points_0 23 rfl) rfl ?_
      refine GM_aload_n (pc := 38) 0 rfl (daX11_points_0 24 rfl) rfl ?_
      refine GM_getf (pc := 39) 11 3 3 3 kf_X11_17 (Nat.le_of_ble_eq_true rfl) (Nat.le_of_ble_eq_true rfl) rfl (daX11_points_0 25 rfl) hc2 rfl ?_
      refine GM_iload_n (pc := 42) 3 rfl (daX11_points_0 26 rfl) rfl ?_
      refine GM_iconst (pc := 43) 1 (daX11_points_0 27 rfl) rfl (R32_b rfl) ?_
      refine GM_isub (pc := 44) (daX11_points_0 28 rfl) ?_
      refine GM_iald (pc := 45) (daX11_points_0 29 rfl) hc3.1 hc3.2.1 hc3.2.2 ?_
      obtain ⟨hc7, h⟩ := chk_inv h
      obtain ⟨μ8, hμ8, h⟩ := lm_inv h
      refine GM_iast (pc := 46) (daX11_points_0 30 rfl) hc3.1 hc7.1 hc7.2 ?_
      refine GM_mem hμ8 ?_
      refine GM_aload_n (pc := 47) 0 rfl (daX11_points_0 31 rfl) rfl ?_
      refine GM_getf (pc := 48) 11 4 3 4 kf_X11_20 (Nat.le_of_ble_eq_true rfl) (Nat.le_of_ble_eq_true rfl) rfl (daX11_points_0 32 rfl) hc2 rfl ?_
      refine GM_iload_n (pc := 51) 3 rfl (daX11_points_0 33 rfl) rfl ?_
      refine GM_aload_n (pc := 52) 0 rfl (daX11_points_0 34 rfl) rfl ?_
      refine GM_getf (pc := 53) 11 4 3 4 kf_X11_20 (Nat.le_of_ble_eq_true rfl) (Nat.le_of_ble_eq_true rfl) rfl (daX11_points_0 35 rfl) hc2 rfl ?_
      refine GM_iload_n (pc := 56) 3 rfl (daX11_points_0 36 rfl) rfl ?_
      refine GM_iconst (pc := 57) 1 (daX11_points_0 37 rfl) rfl (R32_b rfl) ?_
      refine GM_isub (pc := 58) (daX11_points_0 38 rfl) ?_
      obtain ⟨hc9, h⟩ := chk_inv h
      refine GM_iald (pc := 59) (daX11_points_0 39 rfl) hc9.1 hc3.2.1 hc9.2 ?_
      obtain ⟨hc10, h⟩ := chk_inv h
      obtain ⟨μ11, hμ11, h⟩ := lm_inv h
      refine GM_iast (pc := 60) (daX11_points_0 40 rfl) hc9.1 hc7.1 hc10 ?_
      refine GM_mem hμ11 ?_
      refine GM_iinc (L' := [(3, (0, w32 (v3 + (-1)))), (0, (3, v0)), (1, (0, v1)), (2, (0, v2))]) (pc := 61) 3 rfl (daX11_points_0 41 rfl) (Nat.le_of_ble_eq_true rfl) rfl ?_
      refine GM_goto (pc := 64) 5 (daX11_points_0 42 rfl) rfl ?_
      refine GM_pick [1, 2, 3, 0] rfl ?_
      cases h
      exact hK
set_option maxRecDepth 20000 in
theorem gX11_points_0 (l : Launch) {F : FI} {v0 v1 v2 : Int} {μ : Mm} {t : Mm} (h : fX11_points v0 v1 v2 μ = some t) (hK : F.1 = [] ∧ F.2.1 = t) : GM l mX11_points F 0 0 0 [(0, (3, v0)), (1, (0, v1)), (2, (0, v2))] [] μ := by
  unfold fX11_points at h
  refine GM_aload_n (pc := 0) 0 rfl (daX11_points_0 0 rfl) rfl ?_
  obtain ⟨hc12, h⟩ := chk_inv h
  refine GM_getf (pc := 1) 11 2 0 2 kf_X11_77 (Nat.le_of_ble_eq_true rfl) (Nat.le_of_ble_eq_true rfl) rfl (daX11_points_0 1 rfl) hc12 rfl ?_
  refine GM_istore_n (L' := [(3, (0, μ v0 2)), (0, (3, v0)), (1, (0, v1)), (2, (0, v2))]) (pc := 4) (daX11_points_0 2 rfl) rfl (Nat.le_of_ble_eq_true rfl) rfl ?_
  refine GM_pick [1, 2, 3, 0] rfl ?_
  obtain ⟨x13, hqx13, h⟩ := Option.bind_eq_some_iff.mp h
  refine lop_ind (zX11_points_5 l F v0 v1 v2 0 0) (qX11_points_5 l F v0 v1 v2 0 0) FU _ x13 hqx13 ?_
  obtain ⟨v3_14, μ_14⟩ := x13
  dsimp only at h
  show GM l mX11_points F 0 0 67 [(0, (3, v0)), (1, (0, v1)), (2, (0, v2)), (3, (0, v3_14))] [] μ_14
  refine GM_aload_n (pc := 67) 0 rfl (daX11_points_0 43 rfl) rfl ?_
  refine GM_getf (pc := 68) 11 3 3 3 kf_X11_17 (Nat.le_of_ble_eq_true rfl) (Nat.le_of_ble_eq_true rfl) rfl (daX11_points_0 44 rfl) hc12 rfl ?_
  refine GM_iload_n (pc := 71) 3 rfl (daX11_points_0 45 rfl) rfl ?_
  refine GM_iload_n (pc := 72) 1 rfl (daX11_points_0 46 rfl) rfl ?_
  obtain ⟨hc15, h⟩ := chk_inv h
  obtain ⟨μ16, hμ16, h⟩ := lm_inv h
  refine GM_iast (pc := 73) (daX11_points_0 47 rfl) hc15.1 hc15.2.1 hc15.2.2 ?_
  refine GM_mem hμ16 ?_
  refine GM_aload_n (pc := 74) 0 rfl (daX11_points_0 48 rfl) rfl ?_
  refine GM_getf (pc := 75) 11 4 3 4 kf_X11_20 (Nat.le_of_ble_eq_true rfl) (Nat.le_of_ble_eq_true rfl) rfl (daX11_points_0 49 rfl) hc12 rfl ?_
  refine GM_iload_n (pc := 78) 3 rfl (daX11_points_0 50 rfl) rfl ?_
  refine GM_iload_n (pc := 79) 2 rfl (daX11_points_0 51 rfl) rfl ?_
  obtain ⟨hc17, h⟩ := chk_inv h
  obtain ⟨μ18, hμ18, h⟩ := lm_inv h
  refine GM_iast (pc := 80) (daX11_points_0 52 rfl) hc17.1 hc15.2.1 hc17.2 ?_
  refine GM_mem hμ18 ?_
  refine GM_aload_n (pc := 81) 0 rfl (daX11_points_0 53 rfl) rfl ?_
  refine GM_dup (pc := 82) (daX11_points_0 54 rfl) (Nat.ne_of_beq_eq_false rfl) ?_
  refine GM_getf (pc := 83) 11 2 0 2 kf_X11_77 (Nat.le_of_ble_eq_true rfl) (Nat.le_of_ble_eq_true rfl) rfl (daX11_points_0 55 rfl) hc12 rfl ?_
  refine GM_iconst (pc := 86) 1 (daX11_points_0 56 rfl) rfl (R32_b rfl) ?_
  refine GM_iadd (pc := 87) (daX11_points_0 57 rfl) ?_
  obtain ⟨μ19, hμ19, h⟩ := lm_inv h
  refine GM_putf (pc := 88) 11 2 0 kf_X11_77 (Nat.le_of_ble_eq_true rfl) (Nat.le_of_ble_eq_true rfl) rfl rfl (daX11_points_0 58 rfl) hc12 (fun q => absurd q (by decide)) ?_
  refine GM_mem hμ19 ?_
  cases h
  exact GM_vret (pc := 91) (daX11_points_0 59 rfl) rfl hK
theorem tX11_points (l : Launch) {v0 v1 v2 : Int} {μ : Mm} {t : Mm} (h : fX11_points v0 v1 v2 μ = some t) : Ct l yX11_points mX11_points [(3, v0), (0, v1), (0, v2)] μ ([], t, 0, 0) :=
  Ct_of (by decide +kernel) rfl rfl (Nat.le_of_ble_eq_true rfl) (fun _ _ _ => trivial) (gX11_points_0 l h ⟨rfl, rfl⟩)
def mX11_init : MI := (RX11, cX11_init, 3, none, "<init>", 2, 48, fun _ _ _ => True)
theorem cwX11_init : CWd yX11_init mX11_init 0 := ⟨ki_X11, kk_X11_init, ⟨by decide, by decide⟩, rfl⟩
def dtX11_init_0 : List (Nat × Instr × Nat) := [(0, .aload_n 0, 1), (1, .invokespecial 1, 3), (4, .aload_n 0, 1), (5, .sipush 5000, 3), (8, .newarray .int, 2), (10, .putfield 7, 3), (13, .aload_n 0, 1), (14, .iconst 3, 1), (15, .newarray .boolean, 2), (17, .putfield 13, 3), (20, .aload_n 0, 1), (21, .sipush 400, 3), (24, .newarray .int, 2), (26, .putfield 17, 3), (29, .aload_n 0, 1), (30, .sipush 400, 3), (33, .newarray .int, 2), (35, .putfield 20, 3), (38, .aload_n 0, 1), (39, .sipush 200, 3), (42, .newarray .int, 2), (44, .putfield 23, 3), (47, .aload_n 0, 1), (48, .sipush 400, 3), (51, .newarray .int, 2), (53, .putfield 26, 3), (56, .aload_n 0, 1), (57, .sipush 144, 3), (60, .newarray .int, 2), (62, .putfield 29, 3), (65, .aload_n 0, 1), (66, .sipush 9216, 3), (69, .newarray .int, 2), (71, .putfield 32, 3), (74, .aload_n 0, 1), (75, .sipush 144, 3), (78, .newarray .int, 2), (80, .putfield 35, 3), (83, .aload_n 0, 1), (84, .sipush 144, 3), (87, .newarray .int, 2), (89, .putfield 38, 3), (92, .aload_n 0, 1), (93, .sipush 144, 3), (96, .newarray .boolean, 2), (98, .putfield 41, 3), (101, .aload_n 0, 1), (102, .bipush 8, 2), (104, .newarray .int, 2), (106, .putfield 44, 3), (109, .aload_n 0, 1), (110, .sipush 144, 3), (113, .newarray .int, 2), (115, .putfield 47, 3), (118, .aload_n 0, 1), (119, .sipush 144, 3), (122, .newarray .int, 2), (124, .putfield 50, 3), (127, .aload_n 0, 1), (128, .sipush 144, 3), (131, .newarray .boolean, 2), (133, .putfield 53, 3), (136, .aload_n 0, 1), (137, .sipush 432, 3)]
theorem ddX11_init_0 : (dtX11_init_0.all fun e => decide (decode mX11_init.2.1 e.1 = .ok (e.2.1, e.2.2))) = true := by decide +kernel
theorem daX11_init_0 (j : Nat) {pc n : Nat} {i : Instr} (h : dtX11_init_0[j]? = some (pc, i, n)) : decode mX11_init.2.1 pc = .ok (i, n) := dec_of (c := mX11_init.2.1) ddX11_init_0 h
def dtX11_init_1 : List (Nat × Instr × Nat) := [(140, .newarray .long, 2), (142, .putfield 56, 3), (145, .aload_n 0, 1), (146, .iconst 3, 1), (147, .newarray .long, 2), (149, .putfield 60, 3), (152, .aload_n 0, 1), (153, .iconst 3, 1), (154, .newarray .int, 2), (156, .putfield 63, 3), (159, .aload_n 0, 1), (160, .sipush 144, 3), (163, .newarray .int, 2), (165, .putfield 66, 3), (168, .aload_n 0, 1), (169, .getfield 7, 3), (172, .iconst 4, 1), (173, .iconst (-1), 1), (174, .iastore, 1), (175, .bipush (-11), 2), (177, .istore_n 1, 1), (178, .iload_n 1, 1), (179, .bipush 12, 2), (181, .if_icmp .ge 42, 3), (184, .bipush (-11), 2), (186, .istore_n 2, 1), (187, .iload_n 2, 1), (188, .bipush 12, 2), (190, .if_icmp .ge 27, 3), (193, .iload_n 1, 1), (194, .i2l, 1), (195, .iload_n 2, 1), (196, .i2l, 1), (197, .invokestatic 69, 3), (200, .lconst 1, 1), (201, .lcmp, 1), (202, .ifCond .ne 9, 3), (205, .aload_n 0, 1), (206, .iload_n 1, 1), (207, .iload_n 2, 1), (208, .invokevirtual 73, 3), (211, .iinc 2 1, 3), (214, .goto (-27), 3), (217, .iinc 1 1, 3), (220, .goto (-42), 3), (223, .return_, 1)]
theorem ddX11_init_1 : (dtX11_init_1.all fun e => decide (decode mX11_init.2.1 e.1 = .ok (e.2.1, e.2.2))) = true := by decide +kernel
theorem daX11_init_1 (j : Nat) {pc n : Nat} {i : Instr} (h : dtX11_init_1[j]? = some (pc, i, n)) : decode mX11_init.2.1 pc = .ok (i, n) := dec_of (c := mX11_init.2.1) ddX11_init_1 h
def zX11_init_187 (l : Launch) (F : FI) (v0 v1 : Int) (k n : Nat) : (Int × Mm) ⊕ Mm → Prop
  | .inl (v2, μ) => GM l mX11_init F k n 187 [(0, (3, v0)), (1, (0, v1)), (2, (0, v2))] [] μ
  | .inr μ => GM l mX11_init F k n 217 [(0, (3, v0)), (1, (0, v1))] [] μ
def sX11_init_187 (v0 v1 : Int) : (Int × Mm) → Option ((Int × Mm) ⊕ Mm) := fun (v2, μ) =>
  if 12 ≤ v2 then
    some (.inr μ)
  else
    (fX11_common v1 v2).bind fun r2 =>
    if r2 = 1 then
      chk (KD v0 = 11) (
      (fX11_points v0 v1 v2 μ).bind fun μ5 =>
      some (.inl (w32 (v2 + 1), μ5)))
    else
      some (.inl (w32 (v2 + 1), μ))
def zX11_init_178 (l : Launch) (F : FI) (v0 : Int) (k n : Nat) : (Int × Mm) ⊕ Mm → Prop
  | .inl (v1, μ) => GM l mX11_init F k n 178 [(0, (3, v0)), (1, (0, v1))] [] μ
  | .inr μ => GM l mX11_init F k n 223 [] [] μ
def sX11_init_178 (v0 : Int) : (Int × Mm) → Option ((Int × Mm) ⊕ Mm) := fun (v1, μ) =>
  if 12 ≤ v1 then
    some (.inr μ)
  else
    (lop (sX11_init_187 v0 v1) FU ((-11), μ)).bind fun μ_8 =>
      some (.inl (w32 (v1 + 1), μ_8))
def fX11_init (v0 : Int) (μ : Mm) : Option (Mm × Nat × Nat) :=
  chk (v0 ≠ 0) (
  chk (KD (v0 + 1) = 12 ∧ LN (v0 + 1) = 5000 ∧ μ 0 (v0 + 1) = 0) (
  pay 1 5000 (
  lm (mnw μ (v0 + 1)) fun μ12 =>
  chk (KD v0 = 11) (
  lm (mst μ12 v0 0 (v0 + 1)) fun μ14 =>
  chk (KD (v0 + 2) = 14 ∧ LN (v0 + 2) = 3 ∧ μ14 0 (v0 + 2) = 0) (
  pay 1 3 (
  lm (mnw μ14 (v0 + 2)) fun μ17 =>
  lm (mst μ17 v0 1 (v0 + 2)) fun μ18 =>
  chk (KD (v0 + 3) = 12 ∧ LN (v0 + 3) = 400 ∧ μ18 0 (v0 + 3) = 0) (
  pay 1 400 (
  lm (mnw μ18 (v0 + 3)) fun μ21 =>
  lm (mst μ21 v0 3 (v0 + 3)) fun μ22 =>
  chk (KD (v0 + 4) = 12 ∧ LN (v0 + 4) = 400 ∧ μ22 0 (v0 + 4) = 0) (
  pay 1 400 (
  lm (mnw μ22 (v0 + 4)) fun μ25 =>
  lm (mst μ25 v0 4 (v0 + 4)) fun μ26 =>
  chk (KD (v0 + 5) = 12 ∧ LN (v0 + 5) = 200 ∧ μ26 0 (v0 + 5) = 0) (
  pay 1 200 (
  lm (mnw μ26 (v0 + 5)) fun μ29 =>
  lm (mst μ29 v0 13 (v0 + 5)) fun μ30 =>
  chk (KD (v0 + 6) = 12 ∧ LN (v0 + 6) = 400 ∧ μ30 0 (v0 + 6) = 0) (
  pay 1 400 (
  lm (mnw μ30 (v0 + 6)) fun μ33 =>
  lm (mst μ33 v0 15 (v0 + 6)) fun μ34 =>
  chk (KD (v0 + 7) = 12 ∧ LN (v0 + 7) = 144 ∧ μ34 0 (v0 + 7) = 0) (
  pay 1 144 (
  lm (mnw μ34 (v0 + 7)) fun μ37 =>
  lm (mst μ37 v0 16 (v0 + 7)) fun μ38 =>
  chk (KD (v0 + 8) = 12 ∧ LN (v0 + 8) = 9216 ∧ μ38 0 (v0 + 8) = 0) (
  pay 1 9216 (
  lm (mnw μ38 (v0 + 8)) fun μ41 =>
  lm (mst μ41 v0 17 (v0 + 8)) fun μ42 =>
  chk (KD (v0 + 9) = 12 ∧ LN (v0 + 9) = 144 ∧ μ42 0 (v0 + 9) = 0) (
  pay 1 144 (
  lm (mnw μ42 (v0 + 9)) fun μ45 =>
  lm (mst μ45 v0 19 (v0 + 9)) fun μ46 =>
  chk (KD (v0 + 10) = 12 ∧ LN (v0 + 10) = 144 ∧ μ46 0 (v0 + 10) = 0) (
  pay 1 144 (
  lm (mnw μ46 (v0 + 10)) fun μ49 =>
  lm (mst μ49 v0 21 (v0 + 10)) fun μ50 =>
  chk (KD (v0 + 11) = 14 ∧ LN (v0 + 11) = 144 ∧ μ50 0 (v0 + 11) = 0) (
  pay 1 144 (
  lm (mnw μ50 (v0 + 11)) fun μ53 =>
  lm (mst μ53 v0 22 (v0 + 11)) fun μ54 =>
  chk (KD (v0 + 12) = 12 ∧ LN (v0 + 12) = 8 ∧ μ54 0 (v0 + 12) = 0) (
  pay 1 8 (
  lm (mnw μ54 (v0 + 12)) fun μ57 =>
  lm (mst μ57 v0 23 (v0 + 12)) fun μ58 =>
  chk (KD (v0 + 13) = 12 ∧ LN (v0 + 13) = 144 ∧ μ58 0 (v0 + 13) = 0) (
  pay 1 144 (
  lm (mnw μ58 (v0 + 13)) fun μ61 =>
  lm (mst μ61 v0 25 (v0 + 13)) fun μ62 =>
  chk (KD (v0 + 14) = 12 ∧ LN (v0 + 14) = 144 ∧ μ62 0 (v0 + 14) = 0) (
  pay 1 144 (
  lm (mnw μ62 (v0 + 14)) fun μ65 =>
  lm (mst μ65 v0 27 (v0 + 14)) fun μ66 =>
  chk (KD (v0 + 15) = 14 ∧ LN (v0 + 15) = 144 ∧ μ66 0 (v0 + 15) = 0) (
  pay 1 144 (
  lm (mnw μ66 (v0 + 15)) fun μ69 =>
  lm (mst μ69 v0 28 (v0 + 15)) fun μ70 =>
  chk (KD (v0 + 16) = 13 ∧ LN (v0 + 16) = 432 ∧ μ70 0 (v0 + 16) = 0) (
  pay 1 432 (
  lm (mnw μ70 (v0 + 16)) fun μ73 =>
  lm (mst μ73 v0 30 (v0 + 16)) fun μ74 =>
  chk (KD (v0 + 17) = 13 ∧ LN (v0 + 17) = 3 ∧ μ74 0 (v0 + 17) = 0) (
  pay 1 3 (
  lm (mnw μ74 (v0 + 17)) fun μ77 =>
  lm (mst μ77 v0 31 (v0 + 17)) fun μ78 =>
  chk (KD (v0 + 18) = 12 ∧ LN (v0 + 18) = 3 ∧ μ78 0 (v0 + 18) = 0) (
  pay 1 3 (
  lm (mnw μ78 (v0 + 18)) fun μ81 =>
  lm (mst μ81 v0 32 (v0 + 18)) fun μ82 =>
  chk (KD (v0 + 19) = 12 ∧ LN (v0 + 19) = 144 ∧ μ82 0 (v0 + 19) = 0) (
  pay 1 144 (
  lm (mnw μ82 (v0 + 19)) fun μ85 =>
  lm (mst μ85 v0 33 (v0 + 19)) fun μ86 =>
  chk (KD (μ86 v0 0) = 12 ∧ 4 < LN (μ86 v0 0)) (
  lm (mst μ86 (μ86 v0 0) 4 (-1)) fun μ88 =>
  (lop (sX11_init_178 v0) FU ((-11), μ88)).bind fun μ_90 =>
    some (μ_90, 0, 0))))))))))))))))))))))))))))))))))))))))))
set_option maxRecDepth 20000 in
theorem qX11_init_187 (l : Launch) (F : FI) (v0 v1 : Int) (k n : Nat) : ∀ (q : (Int × Mm)) (t : ((Int × Mm) ⊕ Mm)), sX11_init_187 v0 v1 q = some t → zX11_init_187 l F v0 v1 k n t → zX11_init_187 l F v0 v1 k n (.inl q) := by
  intro q t h hK
  obtain ⟨v2, μ⟩ := q
  unfold sX11_init_187 at h
  try dsimp only at h
  show GM l mX11_init F k n 187 [(0, (3, v0)), (1, (0, v1)), (2, (0, v2))] [] μ
  refine GM_iload_n (pc := 187) 2 rfl (daX11_init_1 26 rfl) rfl ?_
  refine GM_bipush (pc := 188) 12 (daX11_init_1 27 rfl) rfl (R32_b rfl) ?_
  refine GM_icmp_ge (pc := 190) 217 (daX11_init_1 28 rfl) rfl (fun c1 => ?_) (fun c1 => ?_)
  · skip
    rw [if_pos c1] at h
    refine GM_pick [0, 1] rfl ?_
    cases h
    exact hK
  · skip
    rw [if_neg c1] at h
    refine GM_iload_n (pc := 193) 1 rfl (daX11_init_1 29 rfl) rfl ?_
    refine GM_i2l (pc := 194) (daX11_init_1 30 rfl) ?_
    refine GM_iload_n (pc := 195) 2 rfl (daX11_init_1 31 rfl) rfl ?_
    refine GM_i2l (pc := 196) (daX11_init_1 32 rfl) ?_
    obtain ⟨r2, hf2, h⟩ := Option.bind_eq_some_iff.mp h
    refine GM_callS0 (pc := 197) [(2, v1), (2, v2)] (tX11_common l hf2) cwX11_common ks_X11_common km_X11_69 ⟨Nat.le_of_ble_eq_true rfl, Nat.le_of_ble_eq_true rfl⟩ (Nat.le_of_ble_eq_true rfl) (Nat.le_of_ble_eq_true rfl) (daX11_init_1 33 rfl) ?_
    refine GM_lconst (pc := 200) 1 (daX11_init_1 34 rfl) rfl (R64_b rfl) ?_
    refine GM_lcmp (pc := 201) (daX11_init_1 35 rfl) ?_
    refine GM_if_ne (pc := 202) 211 (daX11_init_1 36 rfl) rfl (fun c3 => ?_) (fun c3 => ?_)
    · skip
      have c3 := (not_congr lcmp_eq).mp c3
      rw [if_neg c3] at h
      refine GM_iinc (L' := [(2, (0, w32 (v2 + 1))), (0, (3, v0)), (1, (0, v1))]) (pc := 211) 2 rfl (daX11_init_1 41 rfl) (Nat.le_of_ble_eq_true rfl) rfl ?_
      refine GM_goto (pc := 214) 187 (daX11_init_1 42 rfl) rfl ?_
      refine GM_pick [1, 2, 0] rfl ?_
      cases h
      exact hK
    · skip
      have c3 := lcmp_eq.mp c3
      rw [if_pos c3] at h
      refine GM_aload_n (pc := 205) 0 rfl (daX11_init_1 37 rfl) rfl ?_
      refine GM_iload_n (pc := 206) 1 rfl (daX11_init_1 38 rfl) rfl ?_
      refine GM_iload_n (pc := 207) 2 rfl (daX11_init_1 39 rfl) rfl ?_
      obtain ⟨hc4, h⟩ := chk_inv h
      obtain ⟨μ5, hf5, h⟩ := Option.bind_eq_some_iff.mp h
      refine GM_callV0 (pc := 208) [(0, v1), (0, v2)] (tX11_points l hf5) cwX11_points 11 (Nat.le_of_ble_eq_true rfl) rfl kv_X11_points ke_X11_points km_X11_73 hc4 ⟨Nat.le_of_ble_eq_true rfl, Nat.le_of_ble_eq_true rfl⟩ (Nat.le_of_ble_eq_true rfl) (Nat.le_of_ble_eq_true rfl) (daX11_init_1 40 rfl) ?_
      refine GM_iinc (L' := [(2, (0, w32 (v2 + 1))), (0, (3, v0)), (1, (0, v1))]) (pc := 211) 2 rfl (daX11_init_1 41 rfl) (Nat.le_of_ble_eq_true rfl) rfl ?_
      refine GM_goto (pc := 214) 187 (daX11_init_1 42 rfl) rfl ?_
      refine GM_pick [1, 2, 0] rfl ?_
      cases h
      exact hK
set_option maxRecDepth 20000 in
theorem qX11_init_178 (l : Launch) (F : FI) (v0 : Int) (k n : Nat) : ∀ (q : (Int × Mm)) (t : ((Int × Mm) ⊕ Mm)), sX11_init_178 v0 q = some t → zX11_init_178 l F v0 k n t → zX11_init_178 l F v0 k n (.inl q) := by
  intro q t h hK
  obtain ⟨v1, μ⟩ := q
  unfold sX11_init_178 at h
  try dsimp only at h
  show GM l mX11_init F k n 178 [(0, (3, v0)), (1, (0, v1))] [] μ
  refine GM_iload_n (pc := 178) 1 rfl (daX11_init_1 21 rfl) rfl ?_
  refine GM_bipush (pc := 179) 12 (daX11_init_1 22 rfl) rfl (R32_b rfl) ?_
  refine GM_icmp_ge (pc := 181) 223 (daX11_init_1 23 rfl) rfl (fun c6 => ?_) (fun c6 => ?_)
  · skip
    rw [if_pos c6] at h
    refine GM_pick [] rfl ?_
    cases h
    exact hK
  · skip
    rw [if_neg c6] at h
    refine GM_bipush (pc := 184) (-11) (daX11_init_1 24 rfl) rfl (R32_b rfl) ?_
    refine GM_istore_n (L' := [(2, (0, (-11))), (0, (3, v0)), (1, (0, v1))]) (pc := 186) (daX11_init_1 25 rfl) rfl (Nat.le_of_ble_eq_true rfl) rfl ?_
    refine GM_pick [1, 2, 0] rfl ?_
    obtain ⟨x7, hqx7, h⟩ := Option.bind_eq_some_iff.mp h
    refine lop_ind (zX11_init_187 l F v0 v1 k n) (qX11_init_187 l F v0 v1 k n) FU _ x7 hqx7 ?_
    obtain ⟨μ_8, hqq⟩ : ∃ z, z = x7 := ⟨x7, rfl⟩
    subst hqq
    show GM l mX11_init F k n 217 [(0, (3, v0)), (1, (0, v1))] [] μ_8
    refine GM_iinc (L' := [(1, (0, w32 (v1 + 1))), (0, (3, v0))]) (pc := 217) 1 rfl (daX11_init_1 43 rfl) (Nat.le_of_ble_eq_true rfl) rfl ?_
    refine GM_goto (pc := 220) 178 (daX11_init_1 44 rfl) rfl ?_
    refine GM_pick [1, 0] rfl ?_
    cases h
    exact hK
set_option maxRecDepth 20000 in
theorem gX11_init_0 (l : Launch) {F : FI} {v0 : Int} {μ : Mm} {t : Mm} {c0 n0 k n : Nat} (h : fX11_init v0 μ = some (t, c0, n0)) (hK : F.1 = [] ∧ F.2.1 = t) : GM l mX11_init F (c0 + k) (n0 + n) 0 [(0, (3, v0))] [] μ := by
  unfold fX11_init at h
  refine GM_aload_n (pc := 0) 0 rfl (daX11_init_0 0 rfl) rfl ?_
  obtain ⟨hc9, h⟩ := chk_inv h
  refine GM_objInit (pc := 1) km_X11_1 kv__java_lang_Object__init____V_ kk_obj (daX11_init_0 1 rfl) hc9 ⟨Nat.le_of_ble_eq_true rfl, Nat.le_of_ble_eq_true rfl⟩ ?_
  refine GM_aload_n (pc := 4) 0 rfl (daX11_init_0 2 rfl) rfl ?_
  refine GM_sipush (pc := 5) 5000 (daX11_init_0 3 rfl) rfl (R32_b rfl) ?_
  obtain ⟨hc10, h⟩ := chk_inv h
  obtain ⟨c11, n11, hp, e1, e2⟩ := pay_inv h
  subst e1 e2
  replace h := hp
  clear hp
  rw [Nat.add_assoc, Nat.add_assoc]
  obtain ⟨μ12, hμ12, h⟩ := lm_inv h
  refine GM_newi (pc := 8) (N := 5000) (v0 + 1) (daX11_init_0 4 rfl) hc10.1 hc10.2.1 (Nat.le_of_ble_eq_true rfl) hc10.2.2 ?_
  refine GM_mem hμ12 ?_
  obtain ⟨hc13, h⟩ := chk_inv h
  obtain ⟨μ14, hμ14, h⟩ := lm_inv h
  refine GM_putF (pc := 10) 11 0 3 kf_X11_7 (Nat.le_of_ble_eq_true rfl) (Nat.le_of_ble_eq_true rfl) rfl rfl rfl rfl (daX11_init_0 5 rfl) hc13 (fun q => absurd q (by decide)) ?_
  refine GM_mem hμ14 ?_
  refine GM_aload_n (pc := 13) 0 rfl (daX11_init_0 6 rfl) rfl ?_
  refine GM_iconst (pc := 14) 3 (daX11_init_0 7 rfl) rfl (R32_b rfl) ?_
  obtain ⟨hc15, h⟩ := chk_inv h
  obtain ⟨c16, n16, hp, e1, e2⟩ := pay_inv h
  subst e1 e2
  replace h := hp
  clear hp
  rw [Nat.add_assoc, Nat.add_assoc]
  obtain ⟨μ17, hμ17, h⟩ := lm_inv h
  refine GM_newz (pc := 15) (N := 3) (v0 + 2) (daX11_init_0 8 rfl) hc15.1 hc15.2.1 (Nat.le_of_ble_eq_true rfl) hc15.2.2 ?_
  refine GM_mem hμ17 ?_
  obtain ⟨μ18, hμ18, h⟩ := lm_inv h
  refine GM_putF (pc := 17) 11 1 3 kf_X11_13 (Nat.le_of_ble_eq_true rfl) (Nat.le_of_ble_eq_true rfl) rfl rfl rfl rfl (daX11_init_0 9 rfl) hc13 (fun q => absurd q (by decide)) ?_
  refine GM_mem hμ18 ?_
  refine GM_aload_n (pc := 20) 0 rfl (daX11_init_0 10 rfl) rfl ?_
  refine GM_sipush (pc := 21) 400 (daX11_init_0 11 rfl) rfl (R32_b rfl) ?_
  obtain ⟨hc19, h⟩ := chk_inv h
  obtain ⟨c20, n20, hp, e1, e2⟩ := pay_inv h
  subst e1 e2
  replace h := hp
  clear hp
  rw [Nat.add_assoc, Nat.add_assoc]
  obtain ⟨μ21, hμ21, h⟩ := lm_inv h
  refine GM_newi (pc := 24) (N := 400) (v0 + 3) (daX11_init_0 12 rfl) hc19.1 hc19.2.1 (Nat.le_of_ble_eq_true rfl) hc19.2.2 ?_
  refine GM_mem hμ21 ?_
  obtain ⟨μ22, hμ22, h⟩ := lm_inv h
  refine GM_putF (pc := 26) 11 3 3 kf_X11_17 (Nat.le_of_ble_eq_true rfl) (Nat.le_of_ble_eq_true rfl) rfl rfl rfl rfl (daX11_init_0 13 rfl) hc13 (fun q => absurd q (by decide)) ?_
  refine GM_mem hμ22 ?_
  refine GM_aload_n (pc := 29) 0 rfl (daX11_init_0 14 rfl) rfl ?_
  refine GM_sipush (pc := 30) 400 (daX11_init_0 15 rfl) rfl (R32_b rfl) ?_
  obtain ⟨hc23, h⟩ := chk_inv h
  obtain ⟨c24, n24, hp, e1, e2⟩ := pay_inv h
  subst e1 e2
  replace h := hp
  clear hp
  rw [Nat.add_assoc, Nat.add_assoc]
  obtain ⟨μ25, hμ25, h⟩ := lm_inv h
  refine GM_newi (pc := 33) (N := 400) (v0 + 4) (daX11_init_0 16 rfl) hc23.1 hc23.2.1 (Nat.le_of_ble_eq_true rfl) hc23.2.2 ?_
  refine GM_mem hμ25 ?_
  obtain ⟨μ26, hμ26, h⟩ := lm_inv h
  refine GM_putF (pc := 35) 11 4 3 kf_X11_20 (Nat.le_of_ble_eq_true rfl) (Nat.le_of_ble_eq_true rfl) rfl rfl rfl rfl (daX11_init_0 17 rfl) hc13 (fun q => absurd q (by decide)) ?_
  refine GM_mem hμ26 ?_
  refine GM_aload_n (pc := 38) 0 rfl (daX11_init_0 18 rfl) rfl ?_
  refine GM_sipush (pc := 39) 200 (daX11_init_0 19 rfl) rfl (R32_b rfl) ?_
  obtain ⟨hc27, h⟩ := chk_inv h
  obtain ⟨c28, n28, hp, e1, e2⟩ := pay_inv h
  subst e1 e2
  replace h := hp
  clear hp
  rw [Nat.add_assoc, Nat.add_assoc]
  obtain ⟨μ29, hμ29, h⟩ := lm_inv h
  refine GM_newi (pc := 42) (N := 200) (v0 + 5) (daX11_init_0 20 rfl) hc27.1 hc27.2.1 (Nat.le_of_ble_eq_true rfl) hc27.2.2 ?_
  refine GM_mem hμ29 ?_
  obtain ⟨μ30, hμ30, h⟩ := lm_inv h
  refine GM_putF (pc := 44) 11 13 3 kf_X11_23 (Nat.le_of_ble_eq_true rfl) (Nat.le_of_ble_eq_true rfl) rfl rfl rfl rfl (daX11_init_0 21 rfl) hc13 (fun q => absurd q (by decide)) ?_
  refine GM_mem hμ30 ?_
  refine GM_aload_n (pc := 47) 0 rfl (daX11_init_0 22 rfl) rfl ?_
  refine GM_sipush (pc := 48) 400 (daX11_init_0 23 rfl) rfl (R32_b rfl) ?_
  obtain ⟨hc31, h⟩ := chk_inv h
  obtain ⟨c32, n32, hp, e1, e2⟩ := pay_inv h
  subst e1 e2
  replace h := hp
  clear hp
  rw [Nat.add_assoc, Nat.add_assoc]
  obtain ⟨μ33, hμ33, h⟩ := lm_inv h
  refine GM_newi (pc := 51) (N := 400) (v0 + 6) (daX11_init_0 24 rfl) hc31.1 hc31.2.1 (Nat.le_of_ble_eq_true rfl) hc31.2.2 ?_
  refine GM_mem hμ33 ?_
  obtain ⟨μ34, hμ34, h⟩ := lm_inv h
  refine GM_putF (pc := 53) 11 15 3 kf_X11_26 (Nat.le_of_ble_eq_true rfl) (Nat.le_of_ble_eq_true rfl) rfl rfl rfl rfl (daX11_init_0 25 rfl) hc13 (fun q => absurd q (by decide)) ?_
  refine GM_mem hμ34 ?_
  refine GM_aload_n (pc := 56) 0 rfl (daX11_init_0 26 rfl) rfl ?_
  refine GM_sipush (pc := 57) 144 (daX11_init_0 27 rfl) rfl (R32_b rfl) ?_
  obtain ⟨hc35, h⟩ := chk_inv h
  obtain ⟨c36, n36, hp, e1, e2⟩ := pay_inv h
  subst e1 e2
  replace h := hp
  clear hp
  rw [Nat.add_assoc, Nat.add_assoc]
  obtain ⟨μ37, hμ37, h⟩ := lm_inv h
  refine GM_newi (pc := 60) (N := 144) (v0 + 7) (daX11_init_0 28 rfl) hc35.1 hc35.2.1 (Nat.le_of_ble_eq_true rfl) hc35.2.2 ?_
  refine GM_mem hμ37 ?_
  obtain ⟨μ38, hμ38, h⟩ := lm_inv h
  refine GM_putF (pc := 62) 11 16 3 kf_X11_29 (Nat.le_of_ble_eq_true rfl) (Nat.le_of_ble_eq_true rfl) rfl rfl rfl rfl (daX11_init_0 29 rfl) hc13 (fun q => absurd q (by decide)) ?_
  refine GM_mem hμ38 ?_
  refine GM_aload_n (pc := 65) 0 rfl (daX11_init_0 30 rfl) rfl ?_
  refine GM_sipush (pc := 66) 9216 (daX11_init_0 31 rfl) rfl (R32_b rfl) ?_
  obtain ⟨hc39, h⟩ := chk_inv h
  obtain ⟨c40, n40, hp, e1, e2⟩ := pay_inv h
  subst e1 e2
  replace h := hp
  clear hp
  rw [Nat.add_assoc, Nat.add_assoc]
  obtain ⟨μ41, hμ41, h⟩ := lm_inv h
  refine GM_newi (pc := 69) (N := 9216) (v0 + 8) (daX11_init_0 32 rfl) hc39.1 hc39.2.1 (Nat.le_of_ble_eq_true rfl) hc39.2.2 ?_
  refine GM_mem hμ41 ?_
  obtain ⟨μ42, hμ42, h⟩ := lm_inv h
  refine GM_putF (pc := 71) 11 17 3 kf_X11_32 (Nat.le_of_ble_eq_true rfl) (Nat.le_of_ble_eq_true rfl) rfl rfl rfl rfl (daX11_init_0 33 rfl) hc13 (fun q => absurd q (by decide)) ?_
  refine GM_mem hμ42 ?_
  refine GM_aload_n (pc := 74) 0 rfl (daX11_init_0 34 rfl) rfl ?_
  refine GM_sipush (pc := 75) 144 (daX11_init_0 35 rfl) rfl (R32_b rfl) ?_
  obtain ⟨hc43, h⟩ := chk_inv h
  obtain ⟨c44, n44, hp, e1, e2⟩ := pay_inv h
  subst e1 e2
  replace h := hp
  clear hp
  rw [Nat.add_assoc, Nat.add_assoc]
  obtain ⟨μ45, hμ45, h⟩ := lm_inv h
  refine GM_newi (pc := 78) (N := 144) (v0 + 9) (daX11_init_0 36 rfl) hc43.1 hc43.2.1 (Nat.le_of_ble_eq_true rfl) hc43.2.2 ?_
  refine GM_mem hμ45 ?_
  obtain ⟨μ46, hμ46, h⟩ := lm_inv h
  refine GM_putF (pc := 80) 11 19 3 kf_X11_35 (Nat.le_of_ble_eq_true rfl) (Nat.le_of_ble_eq_true rfl) rfl rfl rfl rfl (daX11_init_0 37 rfl) hc13 (fun q => absurd q (by decide)) ?_
  refine GM_mem hμ46 ?_
  refine GM_aload_n (pc := 83) 0 rfl (daX11_init_0 38 rfl) rfl ?_
  refine GM_sipush (pc := 84) 144 (daX11_init_0 39 rfl) rfl (R32_b rfl) ?_
  obtain ⟨hc47, h⟩ := chk_inv h
  obtain ⟨c48, n48, hp, e1, e2⟩ := pay_inv h
  subst e1 e2
  replace h := hp
  clear hp
  rw [Nat.add_assoc, Nat.add_assoc]
  obtain ⟨μ49, hμ49, h⟩ := lm_inv h
  refine GM_newi (pc := 87) (N := 144) (v0 + 10) (daX11_init_0 40 rfl) hc47.1 hc47.2.1 (Nat.le_of_ble_eq_true rfl) hc47.2.2 ?_
  refine GM_mem hμ49 ?_
  obtain ⟨μ50, hμ50, h⟩ := lm_inv h
  refine GM_putF (pc := 89) 11 21 3 kf_X11_38 (Nat.le_of_ble_eq_true rfl) (Nat.le_of_ble_eq_true rfl) rfl rfl rfl rfl (daX11_init_0 41 rfl) hc13 (fun q => absurd q (by decide)) ?_
  refine GM_mem hμ50 ?_
  refine GM_aload_n (pc := 92) 0 rfl (daX11_init_0 42 rfl) rfl ?_
  refine GM_sipush (pc := 93) 144 (daX11_init_0 43 rfl) rfl (R32_b rfl) ?_
  obtain ⟨hc51, h⟩ := chk_inv h
  obtain ⟨c52, n52, hp, e1, e2⟩ := pay_inv h
  subst e1 e2
  replace h := hp
  clear hp
  rw [Nat.add_assoc, Nat.add_assoc]
  obtain ⟨μ53, hμ53, h⟩ := lm_inv h
  refine GM_newz (pc := 96) (N := 144) (v0 + 11) (daX11_init_0 44 rfl) hc51.1 hc51.2.1 (Nat.le_of_ble_eq_true rfl) hc51.2.2 ?_
  refine GM_mem hμ53 ?_
  obtain ⟨μ54, hμ54, h⟩ := lm_inv h
  refine GM_putF (pc := 98) 11 22 3 kf_X11_41 (Nat.le_of_ble_eq_true rfl) (Nat.le_of_ble_eq_true rfl) rfl rfl rfl rfl (daX11_init_0 45 rfl) hc13 (fun q => absurd q (by decide)) ?_
  refine GM_mem hμ54 ?_
  refine GM_aload_n (pc := 101) 0 rfl (daX11_init_0 46 rfl) rfl ?_
  refine GM_bipush (pc := 102) 8 (daX11_init_0 47 rfl) rfl (R32_b rfl) ?_
  obtain ⟨hc55, h⟩ := chk_inv h
  obtain ⟨c56, n56, hp, e1, e2⟩ := pay_inv h
  subst e1 e2
  replace h := hp
  clear hp
  rw [Nat.add_assoc, Nat.add_assoc]
  obtain ⟨μ57, hμ57, h⟩ := lm_inv h
  refine GM_newi (pc := 104) (N := 8) (v0 + 12) (daX11_init_0 48 rfl) hc55.1 hc55.2.1 (Nat.le_of_ble_eq_true rfl) hc55.2.2 ?_
  refine GM_mem hμ57 ?_
  obtain ⟨μ58, hμ58, h⟩ := lm_inv h
  refine GM_putF (pc := 106) 11 23 3 kf_X11_44 (Nat.le_of_ble_eq_true rfl) (Nat.le_of_ble_eq_true rfl) rfl rfl rfl rfl (daX11_init_0 49 rfl) hc13 (fun q => absurd q (by decide)) ?_
  refine GM_mem hμ58 ?_
  refine GM_aload_n (pc := 109) 0 rfl (daX11_init_0 50 rfl) rfl ?_
  refine GM_sipush (pc := 110) 144 (daX11_init_0 51 rfl) rfl (R32_b rfl) ?_
  obtain ⟨hc59, h⟩ := chk_inv h
  obtain ⟨c60, n60, hp, e1, e2⟩ := pay_inv h
  subst e1 e2
  replace h := hp
  clear hp
  rw [Nat.add_assoc, Nat.add_assoc]
  obtain ⟨μ61, hμ61, h⟩ := lm_inv h
  refine GM_newi (pc := 113) (N := 144) (v0 + 13) (daX11_init_0 52 rfl) hc59.1 hc59.2.1 (Nat.le_of_ble_eq_true rfl) hc59.2.2 ?_
  refine GM_mem hμ61 ?_
  obtain ⟨μ62, hμ62, h⟩ := lm_inv h
  refine GM_putF (pc := 115) 11 25 3 kf_X11_47 (Nat.le_of_ble_eq_true rfl) (Nat.le_of_ble_eq_true rfl) rfl rfl rfl rfl (daX11_init_0 53 rfl) hc13 (fun q => absurd q (by decide)) ?_
  refine GM_mem hμ62 ?_
  refine GM_aload_n (pc := 118) 0 rfl (daX11_init_0 54 rfl) rfl ?_
  refine GM_sipush (pc := 119) 144 (daX11_init_0 55 rfl) rfl (R32_b rfl) ?_
  obtain ⟨hc63, h⟩ := chk_inv h
  obtain ⟨c64, n64, hp, e1, e2⟩ := pay_inv h
  subst e1 e2
  replace h := hp
  clear hp
  rw [Nat.add_assoc, Nat.add_assoc]
  obtain ⟨μ65, hμ65, h⟩ := lm_inv h
  refine GM_newi (pc := 122) (N := 144) (v0 + 14) (daX11_init_0 56 rfl) hc63.1 hc63.2.1 (Nat.le_of_ble_eq_true rfl) hc63.2.2 ?_
  refine GM_mem hμ65 ?_
  obtain ⟨μ66, hμ66, h⟩ := lm_inv h
  refine GM_putF (pc := 124) 11 27 3 kf_X11_50 (Nat.le_of_ble_eq_true rfl) (Nat.le_of_ble_eq_true rfl) rfl rfl rfl rfl (daX11_init_0 57 rfl) hc13 (fun q => absurd q (by decide)) ?_
  refine GM_mem hμ66 ?_
  refine GM_aload_n (pc := 127) 0 rfl (daX11_init_0 58 rfl) rfl ?_
  refine GM_sipush (pc := 128) 144 (daX11_init_0 59 rfl) rfl (R32_b rfl) ?_
  obtain ⟨hc67, h⟩ := chk_inv h
  obtain ⟨c68, n68, hp, e1, e2⟩ := pay_inv h
  subst e1 e2
  replace h := hp
  clear hp
  rw [Nat.add_assoc, Nat.add_assoc]
  obtain ⟨μ69, hμ69, h⟩ := lm_inv h
  refine GM_newz (pc := 131) (N := 144) (v0 + 15) (daX11_init_0 60 rfl) hc67.1 hc67.2.1 (Nat.le_of_ble_eq_true rfl) hc67.2.2 ?_
  refine GM_mem hμ69 ?_
  obtain ⟨μ70, hμ70, h⟩ := lm_inv h
  refine GM_putF (pc := 133) 11 28 3 kf_X11_53 (Nat.le_of_ble_eq_true rfl) (Nat.le_of_ble_eq_true rfl) rfl rfl rfl rfl (daX11_init_0 61 rfl) hc13 (fun q => absurd q (by decide)) ?_
  refine GM_mem hμ70 ?_
  refine GM_aload_n (pc := 136) 0 rfl (daX11_init_0 62 rfl) rfl ?_
  refine GM_sipush (pc := 137) 432 (daX11_init_0 63 rfl) rfl (R32_b rfl) ?_
  obtain ⟨hc71, h⟩ := chk_inv h
  obtain ⟨c72, n72, hp, e1, e2⟩ := pay_inv h
  subst e1 e2
  replace h := hp
  clear hp
  rw [Nat.add_assoc, Nat.add_assoc]
  obtain ⟨μ73, hμ73, h⟩ := lm_inv h
  refine GM_newl (pc := 140) (N := 432) (v0 + 16) (daX11_init_1 0 rfl) hc71.1 hc71.2.1 (Nat.le_of_ble_eq_true rfl) hc71.2.2 ?_
  refine GM_mem hμ73 ?_
  obtain ⟨μ74, hμ74, h⟩ := lm_inv h
  refine GM_putF (pc := 142) 11 30 3 kf_X11_56 (Nat.le_of_ble_eq_true rfl) (Nat.le_of_ble_eq_true rfl) rfl rfl rfl rfl (daX11_init_1 1 rfl) hc13 (fun q => absurd q (by decide)) ?_
  refine GM_mem hμ74 ?_
  refine GM_aload_n (pc := 145) 0 rfl (daX11_init_1 2 rfl) rfl ?_
  refine GM_iconst (pc := 146) 3 (daX11_init_1 3 rfl) rfl (R32_b rfl) ?_
  obtain ⟨hc75, h⟩ := chk_inv h
  obtain ⟨c76, n76, hp, e1, e2⟩ := pay_inv h
  subst e1 e2
  replace h := hp
  clear hp
  rw [Nat.add_assoc, Nat.add_assoc]
  obtain ⟨μ77, hμ77, h⟩ := lm_inv h
  refine GM_newl (pc := 147) (N := 3) (v0 + 17) (daX11_init_1 4 rfl) hc75.1 hc75.2.1 (Nat.le_of_ble_eq_true rfl) hc75.2.2 ?_
  refine GM_mem hμ77 ?_
  obtain ⟨μ78, hμ78, h⟩ := lm_inv h
  refine GM_putF (pc := 149) 11 31 3 kf_X11_60 (Nat.le_of_ble_eq_true rfl) (Nat.le_of_ble_eq_true rfl) rfl rfl rfl rfl (daX11_init_1 5 rfl) hc13 (fun q => absurd q (by decide)) ?_
  refine GM_mem hμ78 ?_
  refine GM_aload_n (pc := 152) 0 rfl (daX11_init_1 6 rfl) rfl ?_
  refine GM_iconst (pc := 153) 3 (daX11_init_1 7 rfl) rfl (R32_b rfl) ?_
  obtain ⟨hc79, h⟩ := chk_inv h
  obtain ⟨c80, n80, hp, e1, e2⟩ := pay_inv h
  subst e1 e2
  replace h := hp
  clear hp
  rw [Nat.add_assoc, Nat.add_assoc]
  obtain ⟨μ81, hμ81, h⟩ := lm_inv h
  refine GM_newi (pc := 154) (N := 3) (v0 + 18) (daX11_init_1 8 rfl) hc79.1 hc79.2.1 (Nat.le_of_ble_eq_true rfl) hc79.2.2 ?_
  refine GM_mem hμ81 ?_
  obtain ⟨μ82, hμ82, h⟩ := lm_inv h
  refine GM_putF (pc := 156) 11 32 3 kf_X11_63 (Nat.le_of_ble_eq_true rfl) (Nat.le_of_ble_eq_true rfl) rfl rfl rfl rfl (daX11_init_1 9 rfl) hc13 (fun q => absurd q (by decide)) ?_
  refine GM_mem hμ82 ?_
  refine GM_aload_n (pc := 159) 0 rfl (daX11_init_1 10 rfl) rfl ?_
  refine GM_sipush (pc := 160) 144 (daX11_init_1 11 rfl) rfl (R32_b rfl) ?_
  obtain ⟨hc83, h⟩ := chk_inv h
  obtain ⟨c84, n84, hp, e1, e2⟩ := pay_inv h
  subst e1 e2
  replace h := hp
  clear hp
  rw [Nat.add_assoc, Nat.add_assoc]
  obtain ⟨μ85, hμ85, h⟩ := lm_inv h
  refine GM_newi (pc := 163) (N := 144) (v0 + 19) (daX11_init_1 12 rfl) hc83.1 hc83.2.1 (Nat.le_of_ble_eq_true rfl) hc83.2.2 ?_
  refine GM_mem hμ85 ?_
  obtain ⟨μ86, hμ86, h⟩ := lm_inv h
  refine GM_putF (pc := 165) 11 33 3 kf_X11_66 (Nat.le_of_ble_eq_true rfl) (Nat.le_of_ble_eq_true rfl) rfl rfl rfl rfl (daX11_init_1 13 rfl) hc13 (fun q => absurd q (by decide)) ?_
  refine GM_mem hμ86 ?_
  refine GM_aload_n (pc := 168) 0 rfl (daX11_init_1 14 rfl) rfl ?_
  refine GM_getf (pc := 169) 11 0 3 0 kf_X11_7 (Nat.le_of_ble_eq_true rfl) (Nat.le_of_ble_eq_true rfl) rfl (daX11_init_1 15 rfl) hc13 rfl ?_
  refine GM_iconst (pc := 172) 4 (daX11_init_1 16 rfl) rfl (R32_b rfl) ?_
  refine GM_iconst (pc := 173) (-1) (daX11_init_1 17 rfl) rfl (R32_b rfl) ?_
  obtain ⟨hc87, h⟩ := chk_inv h
  obtain ⟨μ88, hμ88, h⟩ := lm_inv h
  refine GM_iast (pc := 174) (daX11_init_1 18 rfl) hc87.1 (by decide) hc87.2 ?_
  refine GM_mem hμ88 ?_
  refine GM_bipush (pc := 175) (-11) (daX11_init_1 19 rfl) rfl (R32_b rfl) ?_
  refine GM_istore_n (L' := [(1, (0, (-11))), (0, (3, v0))]) (pc := 177) (daX11_init_1 20 rfl) rfl (Nat.le_of_ble_eq_true rfl) rfl ?_
  refine GM_pick [1, 0] rfl ?_
  obtain ⟨x89, hqx89, h⟩ := Option.bind_eq_some_iff.mp h
  refine lop_ind (zX11_init_178 l F v0 (c84 + k) (n84 + n)) (qX11_init_178 l F v0 (c84 + k) (n84 + n)) FU _ x89 hqx89 ?_
  obtain ⟨μ_90, hqq⟩ : ∃ z, z = x89 := ⟨x89, rfl⟩
  subst hqq
  show GM l mX11_init F (c84 + k) (n84 + n) 223 [] [] μ_90
  cases h
  exact GM_vret (pc := 223) (daX11_init_1 45 rfl) rfl hK
theorem tX11_init (l : Launch) {v0 : Int} {μ : Mm} {t : Mm} {c0 n0 : Nat} (h : fX11_init v0 μ = some (t, c0, n0)) : Ct l yX11_init mX11_init [(3, v0)] μ ([], t, c0, n0) :=
  Ct_of (by decide +kernel) rfl rfl (Nat.le_of_ble_eq_true rfl) (fun _ _ _ => trivial) (gX11_init_0 (k := 0) (n := 0) l h ⟨rfl, rfl⟩)
def mX11_feed : MI := (RX11, cX11_feed, 8, (some .int), "feed", 0, 0, fun _ _ _ => True)
theorem cwX11_feed : CWd yX11_feed mX11_feed 5 := ⟨ki_X11, kk_X11_feed, ⟨by decide, by decide⟩, rfl⟩
def dtX11_feed_0 : List (Nat × Instr × Nat) := [(0, .aload_n 0, 1), (1, .getfield 7, 3), (4, .iconst 2, 1), (5, .iaload, 1), (6, .bipush 20, 2), (8, .iadd, 1), (9, .sipush 700, 3), (12, .if_icmp .le 5, 3), (15, .iconst (-1), 1), (16, .ireturn, 1), (17, .iconst 0, 1), (18, .istore 6, 2), (20, .iload 6, 2), (22, .bipush 20, 2), (24, .if_icmp .ge 98, 3), (27, .iload 6, 2), (29, .iconst 4, 1), (30, .if_icmp .ge 7, 3), (33, .iload_n 1, 1), (34, .goto 39, 3), (37, .iload 6, 2), (39, .bipush 8, 2), (41, .if_icmp .ge 7, 3), (44, .iload_n 2, 1), (45, .goto 28, 3), (48, .iload 6, 2), (50, .bipush 12, 2), (52, .if_icmp .ge 7, 3), (55, .iload_n 3, 1), (56, .goto 17, 3), (59, .iload 6, 2), (61, .bipush 16, 2), (63, .if_icmp .ge 8, 3), (66, .iload 4, 2), (68, .goto 5, 3), (71, .iload 5, 2), (73, .istore 7, 2), (75, .aload_n 0, 1), (76, .getfield 7, 3), (79, .bipush 10, 2), (81, .aload_n 0, 1), (82, .getfield 7, 3), (85, .iconst 2, 1), (86, .iaload, 1), (87, .iadd, 1), (88, .iload 7, 2), (90, .bipush 24, 2), (92, .bipush 8, 2), (94, .iload 6, 2), (96, .iconst 4, 1), (97, .irem, 1), (98, .imul, 1), (99, .isub, 1), (100, .ishr, 1), (101, .sipush 255, 3), (104, .iand, 1), (105, .iastore, 1), (106, .aload_n 0, 1), (107, .getfield 7, 3), (110, .iconst 2, 1), (111, .dup2, 1), (112, .iaload, 1), (113, .iconst 1, 1), (114, .iadd, 1)]
theorem ddX11_feed_0 : (dtX11_feed_0.all fun e => decide (decode mX11_feed.2.1 e.1 = .ok (e.2.1, e.2.2))) = true := by decide +kernel
theorem daX11_feed_0 (j : Nat) {pc n : Nat} {i : Instr} (h : dtX11_feed_0[j]? = some (pc, i, n)) : decode mX11_feed.2.1 pc = .ok (i, n) := dec_of (c := mX11_feed.2.1) ddX11_feed_0 h
def dtX11_feed_1 : List (Nat × Instr × Nat) := [(115, .iastore, 1), (116, .iinc 6 1, 3), (119, .goto (-99), 3), (122, .aload_n 0, 1), (123, .getfield 7, 3), (126, .iconst 2, 1), (127, .iaload, 1), (128, .ireturn, 1)]
theorem ddX11_feed_1 : (dtX11_feed_1.all fun e => decide (decode mX11_feed.2.1 e.1 = .ok (e.2.1, e.2.2))) = true := by decide +kernel
theorem daX11_feed_1 (j : Nat) {pc n : Nat} {i : Instr} (h : dtX11_feed_1[j]? = some (pc, i, n)) : decode mX11_feed.2.1 pc = .ok (i, n) := dec_of (c := mX11_feed.2.1) ddX11_feed_1 h
def jX11_feed_73 (v0 v1 v2 v3 v4 v5 v6 s0 : Int) (μ : Mm) : Option ((Int × Mm) ⊕ Mm) :=
  chk (KD v0 = 11) (
  chk (KD (μ v0 0) = 12 ∧ 2 < LN (μ v0 0)) (
  chk (0 ≤ w32 (10 + (μ (μ v0 0) 2)) ∧ w32 (10 + (μ (μ v0 0) 2)) < LN (μ v0 0)) (
  lm (mst μ (μ v0 0) (w32 (10 + (μ (μ v0 0) 2))) (iand (ishr s0 (w32 (24 - (w32 (8 * (v6.tmod 4)))))) 255)) fun μ4 =>
  chk (KD (μ4 v0 0) = 12 ∧ 2 < LN (μ4 v0 0)) (
  lm (mst μ4 (μ4 v0 0) 2 (w32 ((μ4 (μ4 v0 0) 2) + 1))) fun μ6 =>
  some (.inl (w32 (v6 + 1), μ6))))))
def zX11_feed_20 (l : Launch) (F : FI) (v0 v1 v2 v3 v4 v5 : Int) (k n : Nat) : (Int × Mm) ⊕ Mm → Prop
  | .inl (v6, μ) => GM l mX11_feed F k n 20 [(0, (3, v0)), (1, (0, v1)), (2, (0, v2)), (3, (0, v3)), (4, (0, v4)), (5, (0, v5)), (6, (0, v6))] [] μ
  | .inr μ => GM l mX11_feed F k n 122 [(0, (3, v0))] [] μ
def sX11_feed_20 (v0 v1 v2 v3 v4 v5 : Int) : (Int × Mm) → Option ((Int × Mm) ⊕ Mm) := fun (v6, μ) =>
  if 20 ≤ v6 then
    some (.inr μ)
  else
    if 4 ≤ v6 then
      if 8 ≤ v6 then
        if 12 ≤ v6 then
          if 16 ≤ v6 then
            jX11_feed_73 v0 v1 v2 v3 v4 v5 v6 v5 μ
          else
            jX11_feed_73 v0 v1 v2 v3 v4 v5 v6 v4 μ
        else
          jX11_feed_73 v0 v1 v2 v3 v4 v5 v6 v3 μ
      else
        jX11_feed_73 v0 v1 v2 v3 v4 v5 v6 v2 μ
    else
      jX11_feed_73 v0 v1 v2 v3 v4 v5 v6 v1 μ
def fX11_feed (v0 v1 v2 v3 v4 v5 : Int) (μ : Mm) : Option (Int × Mm) :=
  chk (KD v0 = 11) (
  chk (KD (μ v0 0) = 12 ∧ 2 < LN (μ v0 0)) (
  if w32 ((μ (μ v0 0) 2) + 20) ≤ 700 then
    (lop (sX11_feed_20 v0 v1 v2 v3 v4 v5) FU (0, μ)).bind fun μ_16 =>
      chk (KD (μ_16 v0 0) = 12 ∧ 2 < LN (μ_16 v0 0)) (
      some (μ_16 (μ_16 v0 0) 2, μ_16))
  else
    some ((-1), μ)))
set_option maxRecDepth 20000 in
theorem gX11_feed_73 (l : Launch) {F : FI} {v0 v1 v2 v3 v4 v5 v6 s0 : Int} {μ : Mm} {t : ((Int × Mm) ⊕ Mm)} {k n : Nat} (h : jX11_feed_73 v0 v1 v2 v3 v4 v5 v6 s0 μ = some t) (hK : zX11_feed_20 l F v0 v1 v2 v3 v4 v5 k n t) : GM l mX11_feed F k n 73 [(0, (3, v0)), (1, (0, v1)), (2, (0, v2)), (3, (0, v3)), (4, (0, v4)), (5, (0, v5)), (6, (0, v6))] [(0, s0)] μ := by
  unfold jX11_feed_73 at h
  refine GM_istore (L' := [(7, (0, s0)), (0, (3, v0)), (1, (0, v1)), (2, (0, v2)), (3, (0, v3)), (4, (0, v4)), (5, (0, v5)), (6, (0, v6))]) (pc := 73) (daX11_feed_0 36 rfl) (Nat.le_of_ble_eq_true rfl) rfl ?_
  refine GM_aload_n (pc := 75) 1 rfl (daX11_feed_0 37 rfl) rfl ?_
  obtain ⟨hc1, h⟩ := chk_inv h
  refine GM_getf (pc := 76) 11 0 3 0 kf_X11_7 (Nat.le_of_ble_eq_true rfl) (Nat.le_of_ble_eq_true rfl) rfl (daX11_feed_0 38 rfl) hc1 rfl ?_
  refine GM_bipush (pc := 79) 10 (daX11_feed_0 39 rfl) rfl (R32_b rfl) ?_
  refine GM_aload_n (pc := 81) 1 rfl (daX11_feed_0 40 rfl) rfl ?_
  refine GM_getf (pc := 82) 11 0 3 0 kf_X11_7 (Nat.le_of_ble_eq_true rfl) (Nat.le_of_ble_eq_true rfl) rfl (daX11_feed_0 41 rfl) hc1 rfl ?_
  refine GM_iconst (pc := 85) 2 (daX11_feed_0 42 rfl) rfl (R32_b rfl) ?_
  obtain ⟨hc2, h⟩ := chk_inv h
  refine GM_iald (pc := 86) (daX11_feed_0 43 rfl) hc2.1 (by decide) hc2.2 ?_
  refine GM_iadd (pc := 87) (daX11_feed_0 44 rfl) ?_
  refine GM_iload (pc := 88) 0 rfl (daX11_feed_0 45 rfl) ?_
  refine GM_bipush (pc := 90) 24 (daX11_feed_0 46 rfl) rfl (R32_b rfl) ?_
  refine GM_bipush (pc := 92) 8 (daX11_feed_0 47 rfl) rfl (R32_b rfl) ?_
  refine GM_iload (pc := 94) 7 rfl (daX11_feed_0 48 rfl) ?_
  refine GM_iconst (pc := 96) 4 (daX11_feed_0 49 rfl) rfl (R32_b rfl) ?_
  refine GM_irem (pc := 97) (daX11_feed_0 50 rfl) (by decide) ?_
  refine GM_imul (pc := 98) (daX11_feed_0 51 rfl) ?_
  refine GM_isub (pc := 99) (daX11_feed_0 52 rfl) ?_
  refine GM_ishr (pc := 100) (daX11_feed_0 53 rfl) ?_
  refine GM_sipush (pc := 101) 255 (daX11_feed_0 54 rfl) rfl (R32_b rfl) ?_
  refine GM_iand (pc := 104) (daX11_feed_0 55 rfl) ?_
  obtain ⟨hc3, h⟩ := chk_inv h
  obtain ⟨μ4, hμ4, h⟩ := lm_inv h
  refine GM_iast (pc := 105) (daX11_feed_0 56 rfl) hc2.1 hc3.1 hc3.2 ?_
  refine GM_mem hμ4 ?_
  refine GM_aload_n (pc := 106) 1 rfl (daX11_feed_0 57 rfl) rfl ?_
  refine GM_getf (pc := 107) 11 0 3 0 kf_X11_7 (Nat.le_of_ble_eq_true rfl) (Nat.le_of_ble_eq_true rfl) rfl (daX11_feed_0 58 rfl) hc1 rfl ?_
  refine GM_iconst (pc := 110) 2 (daX11_feed_0 59 rfl) rfl (R32_b rfl) ?_
  refine GM_dup2 (pc := 111) (daX11_feed_0 60 rfl) (Nat.ne_of_beq_eq_false rfl) (Nat.ne_of_beq_eq_false rfl) ?_
  obtain ⟨hc5, h⟩ := chk_inv h
  refine GM_iald (pc := 112) (daX11_feed_0 61 rfl) hc5.1 (by decide) hc5.2 ?_
  refine GM_iconst (pc := 113) 1 (daX11_feed_0 62 rfl) rfl (R32_b rfl) ?_
  refine GM_iadd (pc := 114) (daX11_feed_0 63 rfl) ?_
  obtain ⟨μ6, hμ6, h⟩ := lm_inv h
  refine GM_iast (pc := 115) (daX11_feed_1 0 rfl) hc5.1 (by decide) hc5.2 ?_
  refine GM_mem hμ6 ?_
  refine GM_iinc (L' := [(6, (0, w32 (v6 + 1))), (7, (0, s0)), (0, (3, v0)), (1, (0, v1)), (2, (0, v2)), (3, (0, v3)), (4, (0, v4)), (5, (0, v5))]) (pc := 116) 7 rfl (daX11_feed_1 1 rfl) (Nat.le_of_ble_eq_true rfl) rfl ?_
  refine GM_goto (pc := 119) 20 (daX11_feed_1 2 rfl) rfl ?_
  refine GM_pick [2, 3, 4, 5, 6, 7, 0] rfl ?_
  cases h
  exact hK
set_option maxRecDepth 20000 in
theorem qX11_feed_20 (l : Launch) (F : FI) (v0 v1 v2 v3 v4 v5 : Int) (k n : Nat) : ∀ (q : (Int × Mm)) (t : ((Int × Mm) ⊕ Mm)), sX11_feed_20 v0 v1 v2 v3 v4 v5 q = some t → zX11_feed_20 l F v0 v1 v2 v3 v4 v5 k n t → zX11_feed_20 l F v0 v1 v2 v3 v4 v5 k n (.inl q) := by
  intro q t h hK
  obtain ⟨v6, μ⟩ := q
  unfold sX11_feed_20 at h
  try dsimp only at h
  show GM l mX11_feed F k n 20 [(0, (3, v0)), (1, (0, v1)), (2, (0, v2)), (3, (0, v3)), (4, (0, v4)), (5, (0, v5)), (6, (0, v6))] [] μ
  refine GM_iload (pc := 20) 6 rfl (daX11_feed_0 12 rfl) ?_
  refine GM_bipush (pc := 22) 20 (daX11_feed_0 13 rfl) rfl (R32_b rfl) ?_
  refine GM_icmp_ge (pc := 24) 122 (daX11_feed_0 14 rfl) rfl (fun c7 => ?_) (fun c7 => ?_)
  · skip
    rw [if_pos c7] at h
    refine GM_pick [0] rfl ?_
    cases h
    exact hK
  · skip
    rw [if_neg c7] at h
    refine GM_iload (pc := 27) 6 rfl (daX11_feed_0 15 rfl) ?_
    refine GM_iconst (pc := 29) 4 (daX11_feed_0 16 rfl) rfl (R32_b rfl) ?_
    refine GM_icmp_ge (pc := 30) 37 (daX11_feed_0 17 rfl) rfl (fun c8 => ?_) (fun c8 => ?_)
    · skip
      rw [if_pos c8] at h
      refine GM_iload (pc := 37) 6 rfl (daX11_feed_0 20 rfl) ?_
      refine GM_bipush (pc := 39) 8 (daX11_feed_0 21 rfl) rfl (R32_b rfl) ?_
      refine GM_icmp_ge (pc := 41) 48 (daX11_feed_0 22 rfl) rfl (fun c9 => ?_) (fun c9 => ?_)
      · skip
        rw [if_pos c9] at h
        refine GM_iload (pc := 48) 6 rfl (daX11_feed_0 25 rfl) ?_
        refine GM_bipush (pc := 50) 12 (daX11_feed_0 26 rfl) rfl (R32_b rfl) ?_
        refine GM_icmp_ge (pc := 52) 59 (daX11_feed_0 27 rfl) rfl (fun c10 => ?_) (fun c10 => ?_)
        · skip
          rw [if_pos c10] at h
          refine GM_iload (pc := 59) 6 rfl (daX11_feed_0 30 rfl) ?_
          refine GM_bipush (pc := 61) 16 (daX11_feed_0 31 rfl) rfl (R32_b rfl) ?_
          refine GM_icmp_ge (pc := 63) 71 (daX11_feed_0 32 rfl) rfl (fun c11 => ?_) (fun c11 => ?_)
          · skip
            rw [if_pos c11] at h
            refine GM_iload (pc := 71) 5 rfl (daX11_feed_0 35 rfl) ?_
            exact gX11_feed_73 l h hK
          · skip
            rw [if_neg c11] at h
            refine GM_iload (pc := 66) 4 rfl (daX11_feed_0 33 rfl) ?_
            refine GM_goto (pc := 68) 73 (daX11_feed_0 34 rfl) rfl ?_
            exact gX11_feed_73 l h hK
        · skip
          rw [if_neg c10] at h
          refine GM_iload_n (pc := 55) 3 rfl (daX11_feed_0 28 rfl) rfl ?_
          refine GM_goto (pc := 56) 73 (daX11_feed_0 29 rfl) rfl ?_
          exact gX11_feed_73 l h hK
      · skip
        rw [if_neg c9] at h
        refine GM_iload_n (pc := 44) 2 rfl (daX11_feed_0 23 rfl) rfl ?_
        refine GM_goto (pc := 45) 73 (daX11_feed_0 24 rfl) rfl ?_
        exact gX11_feed_73 l h hK
    · skip
      rw [if_neg c8] at h
      refine GM_iload_n (pc := 33) 1 rfl (daX11_feed_0 18 rfl) rfl ?_
      refine GM_goto (pc := 34) 73 (daX11_feed_0 19 rfl) rfl ?_
      exact gX11_feed_73 l h hK
set_option maxRecDepth 20000 in
theorem gX11_feed_0 (l : Launch) {F : FI} {v0 v1 v2 v3 v4 v5 : Int} {μ : Mm} {t : (Int × Mm)} (h : fX11_feed v0 v1 v2 v3 v4 v5 μ = some t) (hK : F.1 = [(0, t.1)] ∧ F.2.1 = t.2) : GM l mX11_feed F 0 0 0 [(0, (3, v0)), (1, (0, v1)), (2, (0, v2)), (3, (0, v3)), (4, (0, v4)), (5, (0, v5))] [] μ := by
  unfold fX11_feed at h
  refine GM_aload_n (pc := 0) 0 rfl (daX11_feed_0 0 rfl) rfl ?_
  obtain ⟨hc12, h⟩ := chk_inv h
  refine GM_getf (pc := 1) 11 0 3 0 kf_X11_7 (Nat.le_of_ble_eq_true rfl) (Nat.le_of_ble_eq_true rfl) rfl (daX11_feed_0 1 rfl) hc12 rfl ?_
  refine GM_iconst (pc := 4) 2 (daX11_feed_0 2 rfl) rfl (R32_b rfl) ?_
  obtain ⟨hc13, h⟩ := chk_inv h
  refine GM_iald (pc := 5) (daX11_feed_0 3 rfl) hc13.1 (by decide) hc13.2 ?_
  refine GM_bipush (pc := 6) 20 (daX11_feed_0 4 rfl) rfl (R32_b rfl) ?_
  refine GM_iadd (pc := 8) (daX11_feed_0 5 rfl) ?_
  refine GM_sipush (pc := 9) 700 (daX11_feed_0 6 rfl) rfl (R32_b rfl) ?_
  refine GM_icmp_le (pc := 12) 17 (daX11_feed_0 7 rfl) rfl (fun c14 => ?_) (fun c14 => ?_)
  · skip
    rw [if_pos c14] at h
    refine GM_iconst (pc := 17) 0 (daX11_feed_0 10 rfl) rfl (R32_b rfl) ?_
    refine GM_istore (L' := [(6, (0, 0)), (0, (3, v0)), (1, (0, v1)), (2, (0, v2)), (3, (0, v3)), (4, (0, v4)), (5, (0, v5))]) (pc := 18) (daX11_feed_0 11 rfl) (Nat.le_of_ble_eq_true rfl) rfl ?_
    refine GM_pick [1, 2, 3, 4, 5, 6, 0] rfl ?_
    obtain ⟨x15, hqx15, h⟩ := Option.bind_eq_some_iff.mp h
    refine lop_ind (zX11_feed_20 l F v0 v1 v2 v3 v4 v5 0 0) (qX11_feed_20 l F v0 v1 v2 v3 v4 v5 0 0) FU _ x15 hqx15 ?_
    obtain ⟨μ_16, hqq⟩ : ∃ z, z = x15 := ⟨x15, rfl⟩
    subst hqq
    show GM l mX11_feed F 0 0 122 [(0, (3, v0))] [] μ_16
    refine GM_aload_n (pc := 122) 0 rfl (daX11_feed_1 3 rfl) rfl ?_
    refine GM_getf (pc := 123) 11 0 3 0 kf_X11_7 (Nat.le_of_ble_eq_true rfl) (Nat.le_of_ble_eq_true rfl) rfl (daX11_feed_1 4 rfl) hc12 rfl ?_
    refine GM_iconst (pc := 126) 2 (daX11_feed_1 5 rfl) rfl (R32_b rfl) ?_
    obtain ⟨hc17, h⟩ := chk_inv h
    refine GM_iald (pc := 127) (daX11_feed_1 6 rfl) hc17.1 (by decide) hc17.2 ?_
    cases h
    exact GM_iret (pc := 128) (daX11_feed_1 7 rfl) rfl hK
  · skip
    rw [if_neg c14] at h
    refine GM_iconst (pc := 15) (-1) (daX11_feed_0 8 rfl) rfl (R32_b rfl) ?_
    cases h
    exact GM_iret (pc := 16) (daX11_feed_0 9 rfl) rfl hK
theorem tX11_feed (l : Launch) {v0 v1 v2 v3 v4 v5 : Int} {μ : Mm} {t : (Int × Mm)} (h : fX11_feed v0 v1 v2 v3 v4 v5 μ = some t) : Ct l yX11_feed mX11_feed [(3, v0), (0, v1), (0, v2), (0, v3), (0, v4), (0, v5)] μ ([(0, t.1)], t.2, 0, 0) :=
  Ct_of (by decide +kernel) rfl rfl (Nat.le_of_ble_eq_true rfl) (fun _ _ _ => trivial) (gX11_feed_0 l h ⟨rfl, rfl⟩)
def mX11_end : MI := (RX11, cX11_end, 2, (some .int), "end", 0, 0, fun _ _ _ => True)
theorem cwX11_end : CWd yX11_end mX11_end 1 := ⟨ki_X11, kk_X11_end, ⟨by decide, by decide⟩, rfl⟩
def dtX11_end_0 : List (Nat × Instr × Nat) := [(0, .iload_n 1, 1), (1, .ifCond .lt 13, 3), (4, .iload_n 1, 1), (5, .aload_n 0, 1), (6, .getfield 7, 3), (9, .iconst 2, 1), (10, .iaload, 1), (11, .if_icmp .le 5, 3), (14, .iconst (-1), 1), (15, .ireturn, 1), (16, .aload_n 0, 1), (17, .getfield 7, 3), (20, .iconst 2, 1), (21, .iload_n 1, 1), (22, .iastore, 1), (23, .iload_n 1, 1), (24, .ireturn, 1)]
theorem ddX11_end_0 : (dtX11_end_0.all fun e => decide (decode mX11_end.2.1 e.1 = .ok (e.2.1, e.2.2))) = true := by decide +kernel
theorem daX11_end_0 (j : Nat) {pc n : Nat} {i : Instr} (h : dtX11_end_0[j]? = some (pc, i, n)) : decode mX11_end.2.1 pc = .ok (i, n) := dec_of (c := mX11_end.2.1) ddX11_end_0 h
def fX11_end (v0 v1 : Int) (μ : Mm) : Option (Int × Mm) :=
  if v1 < 0 then
    some ((-1), μ)
  else
    chk (KD v0 = 11) (
    chk (KD (μ v0 0) = 12 ∧ 2 < LN (μ v0 0)) (
    if v1 ≤ μ (μ v0 0) 2 then
      lm (mst μ (μ v0 0) 2 v1) fun μ5 =>
      some (v1, μ5)
    else
      some ((-1), μ)))
set_option maxRecDepth 20000 in
theorem gX11_end_0 (l : Launch) {F : FI} {v0 v1 : Int} {μ : Mm} {t : (Int × Mm)} (h : fX11_end v0 v1 μ = some t) (hK : F.1 = [(0, t.1)] ∧ F.2.1 = t.2) : GM l mX11_end F 0 0 0 [(0, (3, v0)), (1, (0, v1))] [] μ := by
  unfold fX11_end at h
  refine GM_iload_n (pc := 0) 1 rfl (daX11_end_0 0 rfl) rfl ?_
  refine GM_if_lt (pc := 1) 14 (daX11_end_0 1 rfl) rfl (fun c1 => ?_) (fun c1 => ?_)
  · skip
    rw [if_pos c1] at h
    refine GM_iconst (pc := 14) (-1) (daX11_end_0 8 rfl) rfl (R32_b rfl) ?_
    cases h
    exact GM_iret (pc := 15) (daX11_end_0 9 rfl) rfl hK
  · skip
    rw [if_neg c1] at h
    refine GM_iload_n (pc := 4) 1 rfl (daX11_end_0 2 rfl) rfl ?_
    refine GM_aload_n (pc := 5) 0 rfl (daX11_end_0 3 rfl) rfl ?_
    obtain ⟨hc2, h⟩ := chk_inv h
    refine GM_getf (pc := 6) 11 0 3 0 kf_X11_7 (Nat.le_of_ble_eq_true rfl) (Nat.le_of_ble_eq_true rfl) rfl (daX11_end_0 4 rfl) hc2 rfl ?_
    refine GM_iconst (pc := 9) 2 (daX11_end_0 5 rfl) rfl (R32_b rfl) ?_
    obtain ⟨hc3, h⟩ := chk_inv h
    refine GM_iald (pc := 10) (daX11_end_0 6 rfl) hc3.1 (by decide) hc3.2 ?_
    refine GM_icmp_le (pc := 11) 16 (daX11_end_0 7 rfl) rfl (fun c4 => ?_) (fun c4 => ?_)
    · skip
      rw [if_pos c4] at h
      refine GM_aload_n (pc := 16) 0 rfl (daX11_end_0 10 rfl) rfl ?_
      refine GM_getf (pc := 17) 11 0 3 0 kf_X11_7 (Nat.le_of_ble_eq_true rfl) (Nat.le_of_ble_eq_true rfl) rfl (daX11_end_0 11 rfl) hc2 rfl ?_
      refine GM_iconst (pc := 20) 2 (daX11_end_0 12 rfl) rfl (R32_b rfl) ?_
      refine GM_iload_n (pc := 21) 1 rfl (daX11_end_0 13 rfl) rfl ?_
      obtain ⟨μ5, hμ5, h⟩ := lm_inv h
      refine GM_iast (pc := 22) (daX11_end_0 14 rfl) hc3.1 (by decide) hc3.2 ?_
      refine GM_mem hμ5 ?_
      refine GM_iload_n (pc := 23) 1 rfl (daX11_end_0 15 rfl) rfl ?_
      cases h
      exact GM_iret (pc := 24) (daX11_end_0 16 rfl) rfl hK
    · skip
      rw [if_neg c4] at h
      refine GM_iconst (pc := 14) (-1) (daX11_end_0 8 rfl) rfl (R32_b rfl) ?_
      cases h
      exact GM_iret (pc := 15) (daX11_end_0 9 rfl) rfl hK
theorem tX11_end (l : Launch) {v0 v1 : Int} {μ : Mm} {t : (Int × Mm)} (h : fX11_end v0 v1 μ = some t) : Ct l yX11_end mX11_end [(3, v0), (0, v1)] μ ([(0, t.1)], t.2, 0, 0) :=
  Ct_of (by decide +kernel) rfl rfl (Nat.le_of_ble_eq_true rfl) (fun _ _ _ => trivial) (gX11_end_0 l h ⟨rfl, rfl⟩)
def mX11_byteAt : MI := (RX11, cX11_byteAt, 2, (some .int), "byteAt", 0, 0, fun _ _ _ => True)
theorem cwX11_byteAt : CWd yX11_byteAt mX11_byteAt 1 := ⟨ki_X11, kk_X11_byteAt, ⟨by decide, by decide⟩, rfl⟩
def dtX11_byteAt_0 : List (Nat × Instr × Nat) := [(0, .iload_n 1, 1), (1, .aload_n 0, 1), (2, .getfield 85, 3), (5, .if_icmp .ge 15, 3), (8, .aload_n 0, 1), (9, .getfield 7, 3), (12, .bipush 10, 2), (14, .iload_n 1, 1), (15, .iadd, 1), (16, .iaload, 1), (17, .goto 4, 3), (20, .iconst (-1), 1), (21, .ireturn, 1)]
theorem ddX11_byteAt_0 : (dtX11_byteAt_0.all fun e => decide (decode mX11_byteAt.2.1 e.1 = .ok (e.2.1, e.2.2))) = true := by decide +kernel
theorem daX11_byteAt_0 (j : Nat) {pc n : Nat} {i : Instr} (h : dtX11_byteAt_0[j]? = some (pc, i, n)) : decode mX11_byteAt.2.1 pc = .ok (i, n) := dec_of (c := mX11_byteAt.2.1) ddX11_byteAt_0 h
def fX11_byteAt (v0 v1 : Int) (μ : Mm) : Option Int :=
  chk (KD v0 = 11) (
  if μ v0 5 ≤ v1 then
    some (-1)
  else
    chk (KD (μ v0 0) = 12 ∧ 0 ≤ w32 (10 + v1) ∧ w32 (10 + v1) < LN (μ v0 0)) (
    some (μ (μ v0 0) (w32 (10 + v1)))))
set_option maxRecDepth 20000 in
theorem gX11_byteAt_0 (l : Launch) {F : FI} {v0 v1 : Int} {μ : Mm} {t : Int} (h : fX11_byteAt v0 v1 μ = some t) (hK : F.1 = [(0, t)] ∧ F.2.1 = μ) : GM l mX11_byteAt F 0 0 0 [(0, (3, v0)), (1, (0, v1))] [] μ := by
  unfold fX11_byteAt at h
  refine GM_iload_n (pc := 0) 1 rfl (daX11_byteAt_0 0 rfl) rfl ?_
  refine GM_aload_n (pc := 1) 0 rfl (daX11_byteAt_0 1 rfl) rfl ?_
  obtain ⟨hc1, h⟩ := chk_inv h
  refine GM_getf (pc := 2) 11 5 0 5 kf_X11_85 (Nat.le_of_ble_eq_true rfl) (Nat.le_of_ble_eq_true rfl) rfl (daX11_byteAt_0 2 rfl) hc1 rfl ?_
  refine GM_icmp_ge (pc := 5) 20 (daX11_byteAt_0 3 rfl) rfl (fun c2 => ?_) (fun c2 => ?_)
  · skip
    rw [if_pos c2] at h
    refine GM_iconst (pc := 20) (-1) (daX11_byteAt_0 11 rfl) rfl (R32_b rfl) ?_
    cases h
    exact GM_iret (pc := 21) (daX11_byteAt_0 12 rfl) rfl hK
  · skip
    rw [if_neg c2] at h
    refine GM_aload_n (pc := 8) 0 rfl (daX11_byteAt_0 4 rfl) rfl ?_
    refine GM_getf (pc := 9) 11 0 3 0 kf_X11_7 (Nat.le_of_ble_eq_true rfl) (Nat.le_of_ble_eq_true rfl) rfl (daX11_byteAt_0 5 rfl) hc1 rfl ?_
    refine GM_bipush (pc := 12) 10 (daX11_byteAt_0 6 rfl) rfl (R32_b rfl) ?_
    refine GM_iload_n (pc := 14) 1 rfl (daX11_byteAt_0 7 rfl) rfl ?_
    refine GM_iadd (pc := 15) (daX11_byteAt_0 8 rfl) ?_
    obtain ⟨hc3, h⟩ := chk_inv h
    refine GM_iald (pc := 16) (daX11_byteAt_0 9 rfl) hc3.1 hc3.2.1 hc3.2.2 ?_
    refine GM_goto (pc := 17) 21 (daX11_byteAt_0 10 rfl) rfl ?_
    cases h
    exact GM_iret (pc := 21) (daX11_byteAt_0 12 rfl) rfl hK
theorem tX11_byteAt (l : Launch) {v0 v1 : Int} {μ : Mm} {t : Int} (h : fX11_byteAt v0 v1 μ = some t) : Ct l yX11_byteAt mX11_byteAt [(3, v0), (0, v1)] μ ([(0, t)], μ, 0, 0) :=
  Ct_of (by decide +kernel) rfl rfl (Nat.le_of_ble_eq_true rfl) (fun _ _ _ => trivial) (gX11_byteAt_0 l h ⟨rfl, rfl⟩)
def mX11_four : MI := (RX11, cX11_four, 4, (some .long), "four", 0, 0, fun _ _ _ => True)
theorem cwX11_four : CWd yX11_four mX11_four 4 := ⟨ki_X11, kk_X11_four, ⟨by decide, by decide⟩, rfl⟩
def dtX11_four_0 : List (Nat × Instr × Nat) := [(0, .iload_n 0, 1), (1, .i2l, 1), (2, .ldc2_w 88, 3), (5, .lmul, 1), (6, .iload_n 1, 1), (7, .i2l, 1), (8, .ladd, 1), (9, .ldc2_w 88, 3), (12, .lmul, 1), (13, .iload_n 2, 1), (14, .i2l, 1), (15, .ladd, 1), (16, .ldc2_w 88, 3), (19, .lmul, 1), (20, .iload_n 3, 1), (21, .i2l, 1), (22, .ladd, 1), (23, .lreturn, 1)]
theorem ddX11_four_0 : (dtX11_four_0.all fun e => decide (decode mX11_four.2.1 e.1 = .ok (e.2.1, e.2.2))) = true := by decide +kernel
theorem daX11_four_0 (j : Nat) {pc n : Nat} {i : Instr} (h : dtX11_four_0[j]? = some (pc, i, n)) : decode mX11_four.2.1 pc = .ok (i, n) := dec_of (c := mX11_four.2.1) ddX11_four_0 h
def fX11_four (v0 v1 v2 v3 : Int) : Option Int :=
  some (w64 ((w64 ((w64 ((w64 ((w64 ((w64 (v0 * 32)) + v1)) * 32)) + v2)) * 32)) + v3))
set_option maxRecDepth 20000 in
theorem gX11_four_0 (l : Launch) {F : FI} {v0 v1 v2 v3 : Int} {μ : Mm} {t : Int} (h : fX11_four v0 v1 v2 v3 = some t) (hK : F.1 = [(2, t)] ∧ F.2.1 = μ) : GM l mX11_four F 0 0 0 [(0, (0, v0)), (1, (0, v1)), (2, (0, v2)), (3, (0, v3))] [] μ := by
  unfold fX11_four at h
  refine GM_iload_n (pc := 0) 0 rfl (daX11_four_0 0 rfl) rfl ?_
  refine GM_i2l (pc := 1) (daX11_four_0 1 rfl) ?_
  refine GM_ldc2 (pc := 2) 32 kq_X11_88 (daX11_four_0 2 rfl) (R64_b rfl) ?_
  refine GM_lmul (pc := 5) (daX11_four_0 3 rfl) ?_
  refine GM_iload_n (pc := 6) 1 rfl (daX11_four_0 4 rfl) rfl ?_
  refine GM_i2l (pc := 7) (daX11_four_0 5 rfl) ?_
  refine GM_ladd (pc := 8) (daX11_four_0 6 rfl) ?_
  refine GM_ldc2 (pc := 9) 32 kq_X11_88 (daX11_four_0 7 rfl) (R64_b rfl) ?_
  refine GM_lmul (pc := 12) (daX11_four_0 8 rfl) ?_
  refine GM_iload_n (pc := 13) 2 rfl (daX11_four_0 9 rfl) rfl ?_
  refine GM_i2l (pc := 14) (daX11_four_0 10 rfl) ?_
  refine GM_ladd (pc := 15) (daX11_four_0 11 rfl) ?_
  refine GM_ldc2 (pc := 16) 32 kq_X11_88 (daX11_four_0 12 rfl) (R64_b rfl) ?_
  refine GM_lmul (pc := 19) (daX11_four_0 13 rfl) ?_
  refine GM_iload_n (pc := 20) 3 rfl (daX11_four_0 14 rfl) rfl ?_
  refine GM_i2l (pc := 21) (daX11_four_0 15 rfl) ?_
  refine GM_ladd (pc := 22) (daX11_four_0 16 rfl) ?_
  cases h
  exact GM_lret (pc := 23) (daX11_four_0 17 rfl) rfl hK
theorem tX11_four (l : Launch) {v0 v1 v2 v3 : Int} {μ : Mm} {t : Int} (h : fX11_four v0 v1 v2 v3 = some t) : Ct l yX11_four mX11_four [(0, v0), (0, v1), (0, v2), (0, v3)] μ ([(2, t)], μ, 0, 0) :=
  Ct_of (by decide +kernel) rfl rfl (Nat.le_of_ble_eq_true rfl) (fun _ _ _ => trivial) (gX11_four_0 l h ⟨rfl, rfl⟩)
def mX11_wordOf : MI := (RX11, cX11_wordOf, 2, (some .int), "wordOf", 1, 23, fun _ _ _ => True)
theorem cwX11_wordOf : CWd yX11_wordOf mX11_wordOf 1 := ⟨ki_X11, kk_X11_wordOf, ⟨by decide, by decide⟩, rfl⟩
def dtX11_wordOf_0 : List (Nat × Instr × Nat) := [(0, .lload_n 0, 1), (1, .bipush 19, 2), (3, .bipush 9, 2), (5, .bipush 26, 2), (7, .iconst 5, 1), (8, .invokestatic 90, 3), (11, .lcmp, 1), (12, .ifCond .ne 5, 3), (15, .iconst 1, 1), (16, .ireturn, 1), (17, .lload_n 0, 1), (18, .bipush 8, 2), (20, .iconst 5, 1), (21, .bipush 9, 2), (23, .bipush 7, 2), (25, .invokestatic 90, 3), (28, .ldc2_w 94, 3), (31, .lmul, 1), (32, .iconst 0, 1), (33, .bipush 8, 2), (35, .bipush 20, 2), (37, .bipush 19, 2), (39, .invokestatic 90, 3), (42, .ladd, 1), (43, .lcmp, 1), (44, .ifCond .ne 5, 3), (47, .iconst 2, 1), (48, .ireturn, 1), (49, .lload_n 0, 1), (50, .iconst 0, 1), (51, .iconst 5, 1), (52, .bipush 25, 2), (54, .iconst 5, 1), (55, .invokestatic 90, 3), (58, .lcmp, 1), (59, .ifCond .ne 5, 3), (62, .iconst 3, 1), (63, .ireturn, 1), (64, .lload_n 0, 1), (65, .iconst 2, 1), (66, .iconst 5, 1), (67, .bipush 14, 2), (69, .iconst 4, 1), (70, .invokestatic 90, 3), (73, .lcmp, 1), (74, .ifCond .ne 5, 3), (77, .iconst 4, 1), (78, .ireturn, 1), (79, .lload_n 0, 1), (80, .bipush 8, 2), (82, .iconst 1, 1), (83, .bipush 26, 2), (85, .iconst 5, 1), (86, .invokestatic 90, 3), (89, .lcmp, 1), (90, .ifCond .ne 5, 3), (93, .iconst 5, 1), (94, .ireturn, 1), (95, .lload_n 0, 1), (96, .bipush 12, 2), (98, .iconst 1, 1), (99, .bipush 11, 2), (101, .iconst 5, 1), (102, .invokestatic 90, 3)]
theorem ddX11_wordOf_0 : (dtX11_wordOf_0.all fun e => decide (decode mX11_wordOf.2.1 e.1 = .ok (e.2.1, e.2.2))) = true := by decide +kernel
theorem daX11_wordOf_0 (j : Nat) {pc n : Nat} {i : Instr} (h : dtX11_wordOf_0[j]? = some (pc, i, n)) : decode mX11_wordOf.2.1 pc = .ok (i, n) := dec_of (c := mX11_wordOf.2.1) ddX11_wordOf_0 h
def dtX11_wordOf_1 : List (Nat × Instr × Nat) := [(105, .lcmp, 1), (106, .ifCond .ne 6, 3), (109, .bipush 6, 2), (111, .ireturn, 1), (112, .lload_n 0, 1), (113, .bipush 20, 2), (115, .bipush 15, 2), (117, .bipush 23, 2), (119, .iconst 5, 1), (120, .invokestatic 90, 3), (123, .ldc2_w 88, 3), (126, .lmul, 1), (127, .ldc2_w 96, 3), (130, .ladd, 1), (131, .lcmp, 1), (132, .ifCond .ne 6, 3), (135, .bipush 7, 2), (137, .ireturn, 1), (138, .lload_n 0, 1), (139, .iconst 2, 1), (140, .iconst 1, 1), (141, .bipush 18, 2), (143, .iconst 5, 1), (144, .invokestatic 90, 3), (147, .lcmp, 1), (148, .ifCond .ne 6, 3), (151, .bipush 8, 2), (153, .ireturn, 1), (154, .lload_n 0, 1), (155, .bipush 8, 2), (157, .bipush 21, 2), (159, .bipush 13, 2), (161, .bipush 16, 2), (163, .invokestatic 90, 3), (166, .lcmp, 1), (167, .ifCond .ne 6, 3), (170, .bipush 11, 2), (172, .ireturn, 1), (173, .lload_n 0, 1), (174, .bipush 7, 2), (176, .bipush 9, 2), (178, .bipush 22, 2), (180, .iconst 5, 1), (181, .invokestatic 90, 3), (184, .lcmp, 1), (185, .ifCond .ne 6, 3), (188, .bipush 12, 2), (190, .ireturn, 1), (191, .lload_n 0, 1), (192, .bipush 15, 2), (194, .bipush 18, 2), (196, .iconst 4, 1), (197, .iconst 5, 1), (198, .invokestatic 90, 3), (201, .ldc2_w 88, 3), (204, .lmul, 1), (205, .ldc2_w 96, 3), (208, .ladd, 1), (209, .lcmp, 1), (210, .ifCond .ne 6, 3), (213, .bipush 13, 2), (215, .ireturn, 1), (216, .lload_n 0, 1), (217, .bipush 20, 2)]
theorem ddX11_wordOf_1 : (dtX11_wordOf_1.all fun e => decide (decode mX11_wordOf.2.1 e.1 = .ok (e.2.1, e.2.2))) = true := by decide +kernel
theorem daX11_wordOf_1 (j : Nat) {pc n : Nat} {i : Instr} (h : dtX11_wordOf_1[j]? = some (pc, i, n)) : decode mX11_wordOf.2.1 pc = .ok (i, n) := dec_of (c := mX11_wordOf.2.1) ddX11_wordOf_1 h
def dtX11_wordOf_2 : List (Nat × Instr × Nat) := [(219, .bipush 18, 2), (221, .bipush 21, 2), (223, .iconst 5, 1), (224, .invokestatic 90, 3), (227, .lcmp, 1), (228, .ifCond .ne 6, 3), (231, .bipush 14, 2), (233, .ireturn, 1), (234, .lload_n 0, 1), (235, .bipush 23, 2), (237, .bipush 8, 2), (239, .bipush 15, 2), (241, .bipush 12, 2), (243, .invokestatic 90, 3), (246, .ldc2_w 88, 3), (249, .lmul, 1), (250, .ldc2_w 98, 3), (253, .ladd, 1), (254, .lcmp, 1), (255, .ifCond .ne 6, 3), (258, .bipush 15, 2), (260, .ireturn, 1), (261, .lload_n 0, 1), (262, .bipush 8, 2), (264, .iconst 1, 1), (265, .bipush 12, 2), (267, .bipush 6, 2), (269, .invokestatic 90, 3), (272, .lcmp, 1), (273, .ifCond .ne 6, 3), (276, .bipush 16, 2), (278, .ireturn, 1), (279, .lload_n 0, 1), (280, .bipush 20, 2), (282, .bipush 21, 2), (284, .bipush 18, 2), (286, .bipush 14, 2), (288, .invokestatic 90, 3), (291, .ldc2_w 100, 3), (294, .lmul, 1), (295, .ldc2_w 102, 3), (298, .ladd, 1), (299, .ldc2_w 104, 3), (302, .ladd, 1), (303, .lcmp, 1), (304, .ifCond .ne 6, 3), (307, .bipush 17, 2), (309, .ireturn, 1), (310, .lload_n 0, 1), (311, .bipush 25, 2), (313, .iconst 5, 1), (314, .iconst 1, 1), (315, .bipush 18, 2), (317, .invokestatic 90, 3), (320, .ldc2_w 88, 3), (323, .lmul, 1), (324, .ldc2_w 106, 3), (327, .ladd, 1), (328, .lcmp, 1), (329, .ifCond .ne 8, 3), (332, .bipush 18, 2), (334, .goto 5, 3), (337, .bipush 99, 2), (339, .ireturn, 1)]
theorem ddX11_wordOf_2 : (dtX11_wordOf_2.all fun e => decide (decode mX11_wordOf.2.1 e.1 = .ok (e.2.1, e.2.2))) = true := by decide +kernel
theorem daX11_wordOf_2 (j : Nat) {pc n : Nat} {i : Instr} (h : dtX11_wordOf_2[j]? = some (pc, i, n)) : decode mX11_wordOf.2.1 pc = .ok (i, n) := dec_of (c := mX11_wordOf.2.1) ddX11_wordOf_2 h
def fX11_wordOf (v0 : Int) : Option Int :=
  (fX11_four 19 9 26 5).bind fun r1 =>
  if v0 = r1 then
    some 1
  else
    (fX11_four 8 5 9 7).bind fun r3 =>
    (fX11_four 0 8 20 19).bind fun r4 =>
    if v0 = w64 ((w64 (r3 * 32768)) + r4) then
      some 2
    else
      (fX11_four 0 5 25 5).bind fun r6 =>
      if v0 = r6 then
        some 3
      else
        (fX11_four 2 5 14 4).bind fun r8 =>
        if v0 = r8 then
          some 4
        else
          (fX11_four 8 1 26 5).bind fun r10 =>
          if v0 = r10 then
            some 5
          else
            (fX11_four 12 1 11 5).bind fun r12 =>
            if v0 = r12 then
              some 6
            else
              (fX11_four 20 15 23 5).bind fun r14 =>
              if v0 = w64 ((w64 (r14 * 32)) + 18) then
                some 7
              else
                (fX11_four 2 1 18 5).bind fun r16 =>
                if v0 = r16 then
                  some 8
                else
                  (fX11_four 8 21 13 16).bind fun r18 =>
                  if v0 = r18 then
                    some 11
                  else
                    (fX11_four 7 9 22 5).bind fun r20 =>
                    if v0 = r20 then
                      some 12
                    else
                      (fX11_four 15 18 4 5).bind fun r22 =>
                      if v0 = w64 ((w64 (r22 * 32)) + 18) then
                        some 13
                      else
                        (fX11_four 20 18 21 5).bind fun r24 =>
                        if v0 = r24 then
                          some 14
                        else
                          (fX11_four 23 8 15 12).bind fun r26 =>
                          if v0 = w64 ((w64 (r26 * 32)) + 5) then
                            some 15
                          else
                            (fX11_four 8 1 12 6).bind fun r28 =>
                            if v0 = r28 then
                              some 16
                            else
                              (fX11_four 20 21 18 14).bind fun r30 =>
                              if v0 = w64 ((w64 ((w64 (r30 * 1024)) + 160)) + 4) then
                                some 17
                              else
                                (fX11_four 25 5 1 18).bind fun r32 =>
                                if v0 = w64 ((w64 (r32 * 32)) + 19) then
                                  some 18
                                else
                                  some 99
set_option maxRecDepth 20000 in
theorem gX11_wordOf_0 (l : Launch) {F : FI} {v0 : Int} {μ : Mm} {t : Int} (h : fX11_wordOf v0 = some t) (hK : F.1 = [(0, t)] ∧ F.2.1 = μ) : GM l mX11_wordOf F 0 0 0 [(0, (2, v0))] [] μ := by
  unfold fX11_wordOf at h
  refine GM_lload_n (pc := 0) 0 rfl (daX11_wordOf_0 0 rfl) rfl ?_
  refine GM_bipush (pc := 1) 19 (daX11_wordOf_0 1 rfl) rfl (R32_b rfl) ?_
  refine GM_bipush (pc := 3) 9 (daX11_wordOf_0 2 rfl) rfl (R32_b rfl) ?_
  refine GM_bipush (pc := 5) 26 (daX11_wordOf_0 3 rfl) rfl (R32_b rfl) ?_
  refine GM_iconst (pc := 7) 5 (daX11_wordOf_0 4 rfl) rfl (R32_b rfl) ?_
  obtain ⟨r1, hf1, h⟩ := Option.bind_eq_some_iff.mp h
  refine GM_callS0 (pc := 8) [(0, 19), (0, 9), (0, 26), (0, 5)] (tX11_four l hf1) cwX11_four ks_X11_four km_X11_90 ⟨Nat.le_of_ble_eq_true rfl, Nat.le_of_ble_eq_true rfl⟩ (Nat.le_of_ble_eq_true rfl) (Nat.le_of_ble_eq_true rfl) (daX11_wordOf_0 5 rfl) ?_
  refine GM_lcmp (pc := 11) (daX11_wordOf_0 6 rfl) ?_
  refine GM_if_ne (pc := 12) 17 (daX11_wordOf_0 7 rfl) rfl (fun c2 => ?_) (fun c2 => ?_)
  · skip
    have c2 := (not_congr lcmp_eq).mp c2
    rw [if_neg c2] at h
    refine GM_lload_n (pc := 17) 0 rfl (daX11_wordOf_0 10 rfl) rfl ?_
    refine GM_bipush (pc := 18) 8 (daX11_wordOf_0 11 rfl) rfl (R32_b rfl) ?_
    refine GM_iconst (pc := 20) 5 (daX11_wordOf_0 12 rfl) rfl (R32_b rfl) ?_
    refine GM_bipush (pc := 21) 9 (daX11_wordOf_0 13 rfl) rfl (R32_b rfl) ?_
    refine GM_bipush (pc := 23) 7 (daX11_wordOf_0 14 rfl) rfl (R32_b rfl) ?_
    obtain ⟨r3, hf3, h⟩ := Option.bind_eq_some_iff.mp h
    refine GM_callS0 (pc := 25) [(0, 8), (0, 5), (0, 9), (0, 7)] (tX11_four l hf3) cwX11_four ks_X11_four km_X11_90 ⟨Nat.le_of_ble_eq_true rfl, Nat.le_of_ble_eq_true rfl⟩ (Nat.le_of_ble_eq_true rfl) (Nat.le_of_ble_eq_true rfl) (daX11_wordOf_0 15 rfl) ?_
    refine GM_ldc2 (pc := 28) 32768 kq_X11_94 (daX11_wordOf_0 16 rfl) (R64_b rfl) ?_
    refine GM_lmul (pc := 31) (daX11_wordOf_0 17 rfl) ?_
    refine GM_iconst (pc := 32) 0 (daX11_wordOf_0 18 rfl) rfl (R32_b rfl) ?_
    refine GM_bipush (pc := 33) 8 (daX11_wordOf_0 19 rfl) rfl (R32_b rfl) ?_
    refine GM_bipush (pc := 35) 20 (daX11_wordOf_0 20 rfl) rfl (R32_b rfl) ?_
    refine GM_bipush (pc := 37) 19 (daX11_wordOf_0 21 rfl) rfl (R32_b rfl) ?_
    obtain ⟨r4, hf4, h⟩ := Option.bind_eq_some_iff.mp h
    refine GM_callS0 (pc := 39) [(0, 0), (0, 8), (0, 20), (0, 19)] (tX11_four l hf4) cwX11_four ks_X11_four km_X11_90 ⟨Nat.le_of_ble_eq_true rfl, Nat.le_of_ble_eq_true rfl⟩ (Nat.le_of_ble_eq_true rfl) (Nat.le_of_ble_eq_true rfl) (daX11_wordOf_0 22 rfl) ?_
    refine GM_ladd (pc := 42) (daX11_wordOf_0 23 rfl) ?_
    refine GM_lcmp (pc := 43) (daX11_wordOf_0 24 rfl) ?_
    refine GM_if_ne (pc := 44) 49 (daX11_wordOf_0 25 rfl) rfl (fun c5 => ?_) (fun c5 => ?_)
    · skip
      have c5 := (not_congr lcmp_eq).mp c5
      rw [if_neg c5] at h
      refine GM_lload_n (pc := 49) 0 rfl (daX11_wordOf_0 28 rfl) rfl ?_
      refine GM_iconst (pc := 50) 0 (daX11_wordOf_0 29 rfl) rfl (R32_b rfl) ?_
      refine GM_iconst (pc := 51) 5 (daX11_wordOf_0 30 rfl) rfl (R32_b rfl) ?_
      refine GM_bipush (pc := 52) 25 (daX11_wordOf_0 31 rfl) rfl (R32_b rfl) ?_
      refine GM_iconst (pc := 54) 5 (daX11_wordOf_0 32 rfl) rfl (R32_b rfl) ?_
      obtain ⟨r6, hf6, h⟩ := Option.bind_eq_some_iff.mp h
      refine GM_callS0 (pc := 55) [(0, 0), (0, 5), (0, 25), (0, 5)] (tX11_four l hf6) cwX11_four ks_X11_four km_X11_90 ⟨Nat.le_of_ble_eq_true rfl, Nat.le_of_ble_eq_true rfl⟩ (Nat.le_of_ble_eq_true rfl) (Nat.le_of_ble_eq_true rfl) (daX11_wordOf_0 33 rfl) ?_
      refine GM_lcmp (pc := 58) (daX11_wordOf_0 34 rfl) ?_
      refine GM_if_ne (pc := 59) 64 (daX11_wordOf_0 35 rfl) rfl (fun c7 => ?_) (fun c7 => ?_)
      · skip
        have c7 := (not_congr lcmp_eq).mp c7
        rw [if_neg c7] at h
        refine GM_lload_n (pc := 64) 0 rfl (daX11_wordOf_0 38 rfl) rfl ?_
        refine GM_iconst (pc := 65) 2 (daX11_wordOf_0 39 rfl) rfl (R32_b rfl) ?_
        refine GM_iconst (pc := 66) 5 (daX11_wordOf_0 40 rfl) rfl (R32_b rfl) ?_
        refine GM_bipush (pc := 67) 14 (daX11_wordOf_0 41 rfl) rfl (R32_b rfl) ?_
        refine GM_iconst (pc := 69) 4 (daX11_wordOf_0 42 rfl) rfl (R32_b rfl) ?_
        obtain ⟨r8, hf8, h⟩ := Option.bind_eq_some_iff.mp h
        refine GM_callS0 (pc := 70) [(0, 2), (0, 5), (0, 14), (0, 4)] (tX11_four l hf8) cwX11_four ks_X11_four km_X11_90 ⟨Nat.le_of_ble_eq_true rfl, Nat.le_of_ble_eq_true rfl⟩ (Nat.le_of_ble_eq_true rfl) (Nat.le_of_ble_eq_true rfl) (daX11_wordOf_0 43 rfl) ?_
        refine GM_lcmp (pc := 73) (daX11_wordOf_0 44 rfl) ?_
        refine GM_if_ne (pc := 74) 79 (daX11_wordOf_0 45 rfl) rfl (fun c9 => ?_) (fun c9 => ?_)
        · skip
          have c9 := (not_congr lcmp_eq).mp c9
          rw [if_neg c9] at h
          refine GM_lload_n (pc := 79) 0 rfl (daX11_wordOf_0 48 rfl) rfl ?_
          refine GM_bipush (pc := 80) 8 (daX11_wordOf_0 49 rfl) rfl (R32_b rfl) ?_
          refine GM_iconst (pc := 82) 1 (daX11_wordOf_0 50 rfl) rfl (R32_b rfl) ?_
          refine GM_bipush (pc := 83) 26 (daX11_wordOf_0 51 rfl) rfl (R32_b rfl) ?_
          refine GM_iconst (pc := 85) 5 (daX11_wordOf_0 52 rfl) rfl (R32_b rfl) ?_
          obtain ⟨r10, hf10, h⟩ := Option.bind_eq_some_iff.mp h
          refine GM_callS0 (pc := 86) [(0, 8), (0, 1), (0, 26), (0, 5)] (tX11_four l hf10) cwX11_four ks_X11_four km_X11_90 ⟨Nat.le_of_ble_eq_true rfl, Nat.le_of_ble_eq_true rfl⟩ (Nat.le_of_ble_eq_true rfl) (Nat.le_of_ble_eq_true rfl) (daX11_wordOf_0 53 rfl) ?_
          refine GM_lcmp (pc := 89) (daX11_wordOf_0 54 rfl) ?_
          refine GM_if_ne (pc := 90) 95 (daX11_wordOf_0 55 rfl) rfl (fun c11 => ?_) (fun c11 => ?_)
          · skip
            have c11 := (not_congr lcmp_eq).mp c11
            rw [if_neg c11] at h
            refine GM_lload_n (pc := 95) 0 rfl (daX11_wordOf_0 58 rfl) rfl ?_
            refine GM_bipush (pc := 96) 12 (daX11_wordOf_0 59 rfl) rfl (R32_b rfl) ?_
            refine GM_iconst (pc := 98) 1 (daX11_wordOf_0 60 rfl) rfl (R32_b rfl) ?_
            refine GM_bipush (pc := 99) 11 (daX11_wordOf_0 61 rfl) rfl (R32_b rfl) ?_
            refine GM_iconst (pc := 101) 5 (daX11_wordOf_0 62 rfl) rfl (R32_b rfl) ?_
            obtain ⟨r12, hf12, h⟩ := Option.bind_eq_some_iff.mp h
            refine GM_callS0 (pc := 102) [(0, 12), (0, 1), (0, 11), (0, 5)] (tX11_four l hf12) cwX11_four ks_X11_four km_X11_90 ⟨Nat.le_of_ble_eq_true rfl, Nat.le_of_ble_eq_true rfl⟩ (Nat.le_of_ble_eq_true rfl) (Nat.le_of_ble_eq_true rfl) (daX11_wordOf_0 63 rfl) ?_
            refine GM_lcmp (pc := 105) (daX11_wordOf_1 0 rfl) ?_
            refine GM_if_ne (pc := 106) 112 (daX11_wordOf_1 1 rfl) rfl (fun c13 => ?_) (fun c13 => ?_)
            · skip
              have c13 := (not_congr lcmp_eq).mp c13
              rw [if_neg c13] at h
              refine GM_lload_n (pc := 112) 0 rfl (daX11_wordOf_1 4 rfl) rfl ?_
              refine GM_bipush (pc := 113) 20 (daX11_wordOf_1 5 rfl) rfl (R32_b rfl) ?_
              refine GM_bipush (pc := 115) 15 (daX11_wordOf_1 6 rfl) rfl (R32_b rfl) ?_
              refine GM_bipush (pc := 117) 23 (daX11_wordOf_1 7 rfl) rfl (R32_b rfl) ?_
              refine GM_iconst (pc := 119) 5 (daX11_wordOf_1 8 rfl) rfl (R32_b rfl) ?_
              obtain ⟨r14, hf14, h⟩ := Option.bind_eq_some_iff.mp h
              refine GM_callS0 (pc := 120) [(0, 20), (0, 15), (0, 23), (0, 5)] (tX11_four l hf14) cwX11_four ks_X11_four km_X11_90 ⟨Nat.le_of_ble_eq_true rfl, Nat.le_of_ble_eq_true rfl⟩ (Nat.le_of_ble_eq_true rfl) (Nat.le_of_ble_eq_true rfl) (daX11_wordOf_1 9 rfl) ?_
              refine GM_ldc2 (pc := 123) 32 kq_X11_88 (daX11_wordOf_1 10 rfl) (R64_b rfl) ?_
              refine GM_lmul (pc := 126) (daX11_wordOf_1 11 rfl) ?_
              refine GM_ldc2 (pc := 127) 18 kq_X11_96 (daX11_wordOf_1 12 rfl) (R64_b rfl) ?_
              refine GM_ladd (pc := 130) (daX11_wordOf_1 13 rfl) ?_
              refine GM_lcmp (pc := 131) (daX11_wordOf_1 14 rfl) ?_
              refine GM_if_ne (pc := 132) 138 (daX11_wordOf_1 15 rfl) rfl (fun c15 => ?_) (fun c15 => ?_)
              · skip
                have c15 := (not_congr lcmp_eq).mp c15
                rw [if_neg c15] at h
                refine GM_lload_n (pc := 138) 0 rfl (daX11_wordOf_1 18 rfl) rfl ?_
                refine GM_iconst (pc := 139) 2 (daX11_wordOf_1 19 rfl) rfl (R32_b rfl) ?_
                refine GM_iconst (pc := 140) 1 (daX11_wordOf_1 20 rfl) rfl (R32_b rfl) ?_
                refine GM_bipush (pc := 141) 18 (daX11_wordOf_1 21 rfl) rfl (R32_b rfl) ?_
                refine GM_iconst (pc := 143) 5 (daX11_wordOf_1 22 rfl) rfl (R32_b rfl) ?_
                obtain ⟨r16, hf16, h⟩ := Option.bind_eq_some_iff.mp h
                refine GM_callS0 (pc := 144) [(0, 2), (0, 1), (0, 18), (0, 5)] (tX11_four l hf16) cwX11_four ks_X11_four km_X11_90 ⟨Nat.le_of_ble_eq_true rfl, Nat.le_of_ble_eq_true rfl⟩ (Nat.le_of_ble_eq_true rfl) (Nat.le_of_ble_eq_true rfl) (daX11_wordOf_1 23 rfl) ?_
                refine GM_lcmp (pc := 147) (daX11_wordOf_1 24 rfl) ?_
                refine GM_if_ne (pc := 148) 154 (daX11_wordOf_1 25 rfl) rfl (fun c17 => ?_) (fun c17 => ?_)
                · skip
                  have c17 := (not_congr lcmp_eq).mp c17
                  rw [if_neg c17] at h
                  refine GM_lload_n (pc := 154) 0 rfl (daX11_wordOf_1 28 rfl) rfl ?_
                  refine GM_bipush (pc := 155) 8 (daX11_wordOf_1 29 rfl) rfl (R32_b rfl) ?_
                  refine GM_bipush (pc := 157) 21 (daX11_wordOf_1 30 rfl) rfl (R32_b rfl) ?_
                  refine GM_bipush (pc := 159) 13 (daX11_wordOf_1 31 rfl) rfl (R32_b rfl) ?_
                  refine GM_bipush (pc := 161) 16 (daX11_wordOf_1 32 rfl) rfl (R32_b rfl) ?_
                  obtain ⟨r18, hf18, h⟩ := Option.bind_eq_some_iff.mp h
                  refine GM_callS0 (pc := 163) [(0, 8), (0, 21), (0, 13), (0, 16)] (tX11_four l hf18) cwX11_four ks_X11_four km_X11_90 ⟨Nat.le_of_ble_eq_true rfl, Nat.le_of_ble_eq_true rfl⟩ (Nat.le_of_ble_eq_true rfl) (Nat.le_of_ble_eq_true rfl) (daX11_wordOf_1 33 rfl) ?_
                  refine GM_lcmp (pc := 166) (daX11_wordOf_1 34 rfl) ?_
                  refine GM_if_ne (pc := 167) 173 (daX11_wordOf_1 35 rfl) rfl (fun c19 => ?_) (fun c19 => ?_)
                  · skip
                    have c19 := (not_congr lcmp_eq).mp c19
                    rw [if_neg c19] at h
                    refine GM_lload_n (pc := 173) 0 rfl (daX11_wordOf_1 38 rfl) rfl ?_
                    refine GM_bipush (pc := 174) 7 (daX11_wordOf_1 39 rfl) rfl (R32_b rfl) ?_
                    refine GM_bipush (pc := 176) 9 (daX11_wordOf_1 40 rfl) rfl (R32_b rfl) ?_
                    refine GM_bipush (pc := 178) 22 (daX11_wordOf_1 41 rfl) rfl (R32_b rfl) ?_
                    refine GM_iconst (pc := 180) 5 (daX11_wordOf_1 42 rfl) rfl (R32_b rfl) ?_
                    obtain ⟨r20, hf20, h⟩ := Option.bind_eq_some_iff.mp h
                    refine GM_callS0 (pc := 181) [(0, 7), (0, 9), (0, 22), (0, 5)] (tX11_four l hf20) cwX11_four ks_X11_four km_X11_90 ⟨Nat.le_of_ble_eq_true rfl, Nat.le_of_ble_eq_true rfl⟩ (Nat.le_of_ble_eq_true rfl) (Nat.le_of_ble_eq_true rfl) (daX11_wordOf_1 43 rfl) ?_
                    refine GM_lcmp (pc := 184) (daX11_wordOf_1 44 rfl) ?_
                    refine GM_if_ne (pc := 185) 191 (daX11_wordOf_1 45 rfl) rfl (fun c21 => ?_) (fun c21 => ?_)
                    · skip
                      have c21 := (not_congr lcmp_eq).mp c21
                      rw [if_neg c21] at h
                      refine GM_lload_n (pc := 191) 0 rfl (daX11_wordOf_1 48 rfl) rfl ?_
                      refine GM_bipush (pc := 192) 15 (daX11_wordOf_1 49 rfl) rfl (R32_b rfl) ?_
                      refine GM_bipush (pc := 194) 18 (daX11_wordOf_1 50 rfl) rfl (R32_b rfl) ?_
                      refine GM_iconst (pc := 196) 4 (daX11_wordOf_1 51 rfl) rfl (R32_b rfl) ?_
                      refine GM_iconst (pc := 197) 5 (daX11_wordOf_1 52 rfl) rfl (R32_b rfl) ?_
                      obtain ⟨r22, hf22, h⟩ := Option.bind_eq_some_iff.mp h
                      refine GM_callS0 (pc := 198) [(0, 15), (0, 18), (0, 4), (0, 5)] (tX11_four l hf22) cwX11_four ks_X11_four km_X11_90 ⟨Nat.le_of_ble_eq_true rfl, Nat.le_of_ble_eq_true rfl⟩ (Nat.le_of_ble_eq_true rfl) (Nat.le_of_ble_eq_true rfl) (daX11_wordOf_1 53 rfl) ?_
                      refine GM_ldc2 (pc := 201) 32 kq_X11_88 (daX11_wordOf_1 54 rfl) (R64_b rfl) ?_
                      refine GM_lmul (pc := 204) (daX11_wordOf_1 55 rfl) ?_
                      refine GM_ldc2 (pc := 205) 18 kq_X11_96 (daX11_wordOf_1 56 rfl) (R64_b rfl) ?_
                      refine GM_ladd (pc := 208) (daX11_wordOf_1 57 rfl) ?_
                      refine GM_lcmp (pc := 209) (daX11_wordOf_1 58 rfl) ?_
                      refine GM_if_ne (pc := 210) 216 (daX11_wordOf_1 59 rfl) rfl (fun c23 => ?_) (fun c23 => ?_)
                      · skip
                        have c23 := (not_congr lcmp_eq).mp c23
                        rw [if_neg c23] at h
                        refine GM_lload_n (pc := 216) 0 rfl (daX11_wordOf_1 62 rfl) rfl ?_
                        refine GM_bipush (pc := 217) 20 (daX11_wordOf_1 63 rfl) rfl (R32_b rfl) ?_
                        refine GM_bipush (pc := 219) 18 (daX11_wordOf_2 0 rfl) rfl (R32_b rfl) ?_
                        refine GM_bipush (pc := 221) 21 (daX11_wordOf_2 1 rfl) rfl (R32_b rfl) ?_
                        refine GM_iconst (pc := 223) 5 (daX11_wordOf_2 2 rfl) rfl (R32_b rfl) ?_
                        obtain ⟨r24, hf24, h⟩ := Option.bind_eq_some_iff.mp h
                        refine GM_callS0 (pc := 224) [(0, 20), (0, 18), (0, 21), (0, 5)] (tX11_four l hf24) cwX11_four ks_X11_four km_X11_90 ⟨Nat.le_of_ble_eq_true rfl, Nat.le_of_ble_eq_true rfl⟩ (Nat.le_of_ble_eq_true rfl) (Nat.le_of_ble_eq_true rfl) (daX11_wordOf_2 3 rfl) ?_
                        refine GM_lcmp (pc := 227) (daX11_wordOf_2 4 rfl) ?_
                        refine GM_if_ne (pc := 228) 234 (daX11_wordOf_2 5 rfl) rfl (fun c25 => ?_) (fun c25 => ?_)
                        · skip
                          have c25 := (not_congr lcmp_eq).mp c25
                          rw [if_neg c25] at h
                          refine GM_lload_n (pc := 234) 0 rfl (daX11_wordOf_2 8 rfl) rfl ?_
                          refine GM_bipush (pc := 235) 23 (daX11_wordOf_2 9 rfl) rfl (R32_b rfl) ?_
                          refine GM_bipush (pc := 237) 8 (daX11_wordOf_2 10 rfl) rfl (R32_b rfl) ?_
                          refine GM_bipush (pc := 239) 15 (daX11_wordOf_2 11 rfl) rfl (R32_b rfl) ?_
                          refine GM_bipush (pc := 241) 12 (daX11_wordOf_2 12 rfl) rfl (R32_b rfl) ?_
                          obtain ⟨r26, hf26, h⟩ := Option.bind_eq_some_iff.mp h
                          refine GM_callS0 (pc := 243) [(0, 23), (0, 8), (0, 15), (0, 12)] (tX11_four l hf26) cwX11_four ks_X11_four km_X11_90 ⟨Nat.le_of_ble_eq_true rfl, Nat.le_of_ble_eq_true rfl⟩ (Nat.le_of_ble_eq_true rfl) (Nat.le_of_ble_eq_true rfl) (daX11_wordOf_2 13 rfl) ?_
                          refine GM_ldc2 (pc := 246) 32 kq_X11_88 (daX11_wordOf_2 14 rfl) (R64_b rfl) ?_
                          refine GM_lmul (pc := 249) (daX11_wordOf_2 15 rfl) ?_
                          refine GM_ldc2 (pc := 250) 5 kq_X11_98 (daX11_wordOf_2 16 rfl) (R64_b rfl) ?_
                          refine GM_ladd (pc := 253) (daX11_wordOf_2 17 rfl) ?_
                          refine GM_lcmp (pc := 254) (daX11_wordOf_2 18 rfl) ?_
                          refine GM_if_ne (pc := 255) 261 (daX11_wordOf_2 19 rfl) rfl (fun c27 => ?_) (fun c27 => ?_)
                          · skip
                            have c27 := (not_congr lcmp_eq).mp c27
                            rw [if_neg c27] at h
                            refine GM_lload_n (pc := 261) 0 rfl (daX11_wordOf_2 22 rfl) rfl ?_
                            refine GM_bipush (pc := 262) 8 (daX11_wordOf_2 23 rfl) rfl (R32_b rfl) ?_
                            refine GM_iconst (pc := 264) 1 (daX11_wordOf_2 24 rfl) rfl (R32_b rfl) ?_
                            refine GM_bipush (pc := 265) 12 (daX11_wordOf_2 25 rfl) rfl (R32_b rfl) ?_
                            refine GM_bipush (pc := 267) 6 (daX11_wordOf_2 26 rfl) rfl (R32_b rfl) ?_
                            obtain ⟨r28, hf28, h⟩ := Option.bind_eq_some_iff.mp h
                            refine GM_callS0 (pc := 269) [(0, 8), (0, 1), (0, 12), (0, 6)] (tX11_four l hf28) cwX11_four ks_X11_four km_X11_90 ⟨Nat.le_of_ble_eq_true rfl, Nat.le_of_ble_eq_true rfl⟩ (Nat.le_of_ble_eq_true rfl) (Nat.le_of_ble_eq_true rfl) (daX11_wordOf_2 27 rfl) ?_
                            refine GM_lcmp (pc := 272) (daX11_wordOf_2 28 rfl) ?_
                            refine GM_if_ne (pc := 273) 279 (daX11_wordOf_2 29 rfl) rfl (fun c29 => ?_) (fun c29 => ?_)
                            · skip
                              have c29 := (not_congr lcmp_eq).mp c29
                              rw [if_neg c29] at h
                              refine GM_lload_n (pc := 279) 0 rfl (daX11_wordOf_2 32 rfl) rfl ?_
                              refine GM_bipush (pc := 280) 20 (daX11_wordOf_2 33 rfl) rfl (R32_b rfl) ?_
                              refine GM_bipush (pc := 282) 21 (daX11_wordOf_2 34 rfl) rfl (R32_b rfl) ?_
                              refine GM_bipush (pc := 284) 18 (daX11_wordOf_2 35 rfl) rfl (R32_b rfl) ?_
                              refine GM_bipush (pc := 286) 14 (daX11_wordOf_2 36 rfl) rfl (R32_b rfl) ?_
                              obtain ⟨r30, hf30, h⟩ := Option.bind_eq_some_iff.mp h
                              refine GM_callS0 (pc := 288) [(0, 20), (0, 21), (0, 18), (0, 14)] (tX11_four l hf30) cwX11_four ks_X11_four km_X11_90 ⟨Nat.le_of_ble_eq_true rfl, Nat.le_of_ble_eq_true rfl⟩ (Nat.le_of_ble_eq_true rfl) (Nat.le_of_ble_eq_true rfl) (daX11_wordOf_2 37 rfl) ?_
                              refine GM_ldc2 (pc := 291) 1024 kq_X11_100 (daX11_wordOf_2 38 rfl) (R64_b rfl) ?_
                              refine GM_lmul (pc := 294) (daX11_wordOf_2 39 rfl) ?_
                              refine GM_ldc2 (pc := 295) 160 kq_X11_102 (daX11_wordOf_2 40 rfl) (R64_b rfl) ?_
                              refine GM_ladd (pc := 298) (daX11_wordOf_2 41 rfl) ?_
                              refine GM_ldc2 (pc := 299) 4 kq_X11_104 (daX11_wordOf_2 42 rfl) (R64_b rfl) ?_
                              refine GM_ladd (pc := 302) (daX11_wordOf_2 43 rfl) ?_
                              refine GM_lcmp (pc := 303) (daX11_wordOf_2 44 rfl) ?_
                              refine GM_if_ne (pc := 304) 310 (daX11_wordOf_2 45 rfl) rfl (fun c31 => ?_) (fun c31 => ?_)
                              · skip
                                have c31 := (not_congr lcmp_eq).mp c31
                                rw [if_neg c31] at h
                                refine GM_lload_n (pc := 310) 0 rfl (daX11_wordOf_2 48 rfl) rfl ?_
                                refine GM_bipush (pc := 311) 25 (daX11_wordOf_2 49 rfl) rfl (R32_b rfl) ?_
                                refine GM_iconst (pc := 313) 5 (daX11_wordOf_2 50 rfl) rfl (R32_b rfl) ?_
                                refine GM_iconst (pc := 314) 1 (daX11_wordOf_2 51 rfl) rfl (R32_b rfl) ?_
                                refine GM_bipush (pc := 315) 18 (daX11_wordOf_2 52 rfl) rfl (R32_b rfl) ?_
                                obtain ⟨r32, hf32, h⟩ := Option.bind_eq_some_iff.mp h
                                refine GM_callS0 (pc := 317) [(0, 25), (0, 5), (0, 1), (0, 18)] (tX11_four l hf32) cwX11_four ks_X11_four km_X11_90 ⟨Nat.le_of_ble_eq_true rfl, Nat.le_of_ble_eq_true rfl⟩ (Nat.le_of_ble_eq_true rfl) (Nat.le_of_ble_eq_true rfl) (daX11_wordOf_2 53 rfl) ?_
                                refine GM_ldc2 (pc := 320) 32 kq_X11_88 (daX11_wordOf_2 54 rfl) (R64_b rfl) ?_
                                refine GM_lmul (pc := 323) (daX11_wordOf_2 55 rfl) ?_
                                refine GM_ldc2 (pc := 324) 19 kq_X11_106 (daX11_wordOf_2 56 rfl) (R64_b rfl) ?_
                                refine GM_ladd (pc := 327) (daX11_wordOf_2 57 rfl) ?_
                                refine GM_lcmp (pc := 328) (daX11_wordOf_2 58 rfl) ?_
                                refine GM_if_ne (pc := 329) 337 (daX11_wordOf_2 59 rfl) rfl (fun c33 => ?_) (fun c33 => ?_)
                                · skip
                                  have c33 := (not_congr lcmp_eq).mp c33
                                  rw [if_neg c33] at h
                                  refine GM_bipush (pc := 337) 99 (daX11_wordOf_2 62 rfl) rfl (R32_b rfl) ?_
                                  cases h
                                  exact GM_iret (pc := 339) (daX11_wordOf_2 63 rfl) rfl hK
                                · skip
                                  have c33 := lcmp_eq.mp c33
                                  rw [if_pos c33] at h
                                  refine GM_bipush (pc := 332) 18 (daX11_wordOf_2 60 rfl) rfl (R32_b rfl) ?_
                                  refine GM_goto (pc := 334) 339 (daX11_wordOf_2 61 rfl) rfl ?_
                                  cases h
                                  exact GM_iret (pc := 339) (daX11_wordOf_2 63 rfl) rfl hK
                              · skip
                                have c31 := lcmp_eq.mp c31
                                rw [if_pos c31] at h
                                refine GM_bipush (pc := 307) 17 (daX11_wordOf_2 46 rfl) rfl (R32_b rfl) ?_
                                cases h
                                exact GM_iret (pc := 309) (daX11_wordOf_2 47 rfl) rfl hK
                            · skip
                              have c29 := lcmp_eq.mp c29
                              rw [if_pos c29] at h
                              refine GM_bipush (pc := 276) 16 (daX11_wordOf_2 30 rfl) rfl (R32_b rfl) ?_
                              cases h
                              exact GM_iret (pc := 278) (daX11_wordOf_2 31 rfl) rfl hK
                          · skip
                            have c27 := lcmp_eq.mp c27
                            rw [if_pos c27] at h
                            refine GM_bipush (pc := 258) 15 (daX11_wordOf_2 20 rfl) rfl (R32_b rfl) ?_
                            cases h
                            exact GM_iret (pc := 260) (daX11_wordOf_2 21 rfl) rfl hK
                        · skip
                          have c25 := lcmp_eq.mp c25
                          rw [if_pos c25] at h
                          refine GM_bipush (pc := 231) 14 (daX11_wordOf_2 6 rfl) rfl (R32_b rfl) ?_
                          cases h
                          exact GM_iret (pc := 233) (daX11_wordOf_2 7 rfl) rfl hK
                      · skip
                        have c23 := lcmp_eq.mp c23
                        rw [if_pos c23] at h
                        refine GM_bipush (pc := 213) 13 (daX11_wordOf_1 60 rfl) rfl (R32_b rfl) ?_
                        cases h
                        exact GM_iret (pc := 215) (daX11_wordOf_1 61 rfl) rfl hK
                    · skip
                      have c21 := lcmp_eq.mp c21
                      rw [if_pos c21] at h
                      refine GM_bipush (pc := 188) 12 (daX11_wordOf_1 46 rfl) rfl (R32_b rfl) ?_
                      cases h
                      exact GM_iret (pc := 190) (daX11_wordOf_1 47 rfl) rfl hK
                  · skip
                    have c19 := lcmp_eq.mp c19
                    rw [if_pos c19] at h
                    refine GM_bipush (pc := 170) 11 (daX11_wordOf_1 36 rfl) rfl (R32_b rfl) ?_
                    cases h
                    exact GM_iret (pc := 172) (daX11_wordOf_1 37 rfl) rfl hK
                · skip
                  have c17 := lcmp_eq.mp c17
                  rw [if_pos c17] at h
                  refine GM_bipush (pc := 151) 8 (daX11_wordOf_1 26 rfl) rfl (R32_b rfl) ?_
                  cases h
                  exact GM_iret (pc := 153) (daX11_wordOf_1 27 rfl) rfl hK
              · skip
                have c15 := lcmp_eq.mp c15
                rw [if_pos c15] at h
                refine GM_bipush (pc := 135) 7 (daX11_wordOf_1 16 rfl) rfl (R32_b rfl) ?_
                cases h
                exact GM_iret (pc := 137) (daX11_wordOf_1 17 rfl) rfl hK
            · skip
              have c13 := lcmp_eq.mp c13
              rw [if_pos c13] at h
              refine GM_bipush (pc := 109) 6 (daX11_wordOf_1 2 rfl) rfl (R32_b rfl) ?_
              cases h
              exact GM_iret (pc := 111) (daX11_wordOf_1 3 rfl) rfl hK
          · skip
            have c11 := lcmp_eq.mp c11
            rw [if_pos c11] at h
            refine GM_iconst (pc := 93) 5 (daX11_wordOf_0 56 rfl) rfl (R32_b rfl) ?_
            cases h
            exact GM_iret (pc := 94) (daX11_wordOf_0 57 rfl) rfl hK
        · skip
          have c9 := lcmp_eq.mp c9
          rw [if_pos c9] at h
          refine GM_iconst (pc := 77) 4 (daX11_wordOf_0 46 rfl) rfl (R32_b rfl) ?_
          cases h
          exact GM_iret (pc := 78) (daX11_wordOf_0 47 rfl) rfl hK
      · skip
        have c7 := lcmp_eq.mp c7
        rw [if_pos c7] at h
        refine GM_iconst (pc := 62) 3 (daX11_wordOf_0 36 rfl) rfl (R32_b rfl) ?_
        cases h
        exact GM_iret (pc := 63) (daX11_wordOf_0 37 rfl) rfl hK
    · skip
      have c5 := lcmp_eq.mp c5
      rw [if_pos c5] at h
      refine GM_iconst (pc := 47) 2 (daX11_wordOf_0 26 rfl) rfl (R32_b rfl) ?_
      cases h
      exact GM_iret (pc := 48) (daX11_wordOf_0 27 rfl) rfl hK
  · skip
    have c2 := lcmp_eq.mp c2
    rw [if_pos c2] at h
    refine GM_iconst (pc := 15) 1 (daX11_wordOf_0 8 rfl) rfl (R32_b rfl) ?_
    cases h
    exact GM_iret (pc := 16) (daX11_wordOf_0 9 rfl) rfl hK
theorem tX11_wordOf (l : Launch) {v0 : Int} {μ : Mm} {t : Int} (h : fX11_wordOf v0 = some t) : Ct l yX11_wordOf mX11_wordOf [(2, v0)] μ ([(0, t)], μ, 0, 0) :=
  Ct_of (by decide +kernel) rfl rfl (Nat.le_of_ble_eq_true rfl) (fun _ _ _ => trivial) (gX11_wordOf_0 l h ⟨rfl, rfl⟩)
def mX11_advance : MI := (RX11, cX11_advance, 4, none, "advance", 2, 44, fun _ _ _ => True)
theorem cwX11_advance : CWd yX11_advance mX11_advance 0 := ⟨ki_X11, kk_X11_advance, ⟨by decide, by decide⟩, rfl⟩
def dtX11_advance_0 : List (Nat × Instr × Nat) := [(0, .aload_n 0, 1), (1, .aload_n 0, 1), (2, .getfield 108, 3), (5, .invokevirtual 111, 3), (8, .bipush 10, 2), (10, .if_icmp .eq 16, 3), (13, .aload_n 0, 1), (14, .aload_n 0, 1), (15, .getfield 108, 3), (18, .invokevirtual 111, 3), (21, .bipush 32, 2), (23, .if_icmp .ne 16, 3), (26, .aload_n 0, 1), (27, .dup, 1), (28, .getfield 108, 3), (31, .iconst 1, 1), (32, .iadd, 1), (33, .putfield 108, 3), (36, .goto (-36), 3), (39, .aload_n 0, 1), (40, .aload_n 0, 1), (41, .getfield 108, 3), (44, .putfield 115, 3), (47, .aload_n 0, 1), (48, .aload_n 0, 1), (49, .getfield 108, 3), (52, .invokevirtual 111, 3), (55, .istore_n 1, 1), (56, .iload_n 1, 1), (57, .ifCond .ge 11, 3), (60, .aload_n 0, 1), (61, .iconst 0, 1), (62, .putfield 118, 3), (65, .goto 246, 3), (68, .iload_n 1, 1), (69, .invokestatic 121, 3), (72, .ifCond .eq 114, 3), (75, .lconst 0, 1), (76, .lstore_n 2, 1), (77, .aload_n 0, 1), (78, .aload_n 0, 1), (79, .getfield 108, 3), (82, .invokevirtual 111, 3), (85, .invokestatic 121, 3), (88, .ifCond .eq 50, 3), (91, .aload_n 0, 1), (92, .getfield 108, 3), (95, .aload_n 0, 1), (96, .getfield 115, 3), (99, .isub, 1), (100, .bipush 7, 2), (102, .if_icmp .ge 23, 3), (105, .ldc2_w 88, 3), (108, .lload_n 2, 1), (109, .lmul, 1), (110, .aload_n 0, 1), (111, .aload_n 0, 1), (112, .getfield 108, 3), (115, .invokevirtual 111, 3), (118, .i2l, 1), (119, .ladd, 1), (120, .ldc2_w 125, 3), (123, .lsub, 1), (124, .lstore_n 2, 1)]
theorem ddX11_advance_0 : (dtX11_advance_0.all fun e => decide (decode mX11_advance.2.1 e.1 = .ok (e.2.1, e.2.2))) = true := by decide +kernel
theorem daX11_advance_0 (j : Nat) {pc n : Nat} {i : Instr} (h : dtX11_advance_0[j]? = some (pc, i, n)) : decode mX11_advance.2.1 pc = .ok (i, n) := dec_of (c := mX11_advance.2.1) ddX11_advance_0 h
def dtX11_advance_1 : List (Nat × Instr × Nat) := [(125, .aload_n 0, 1), (126, .dup, 1), (127, .getfield 108, 3), (130, .iconst 1, 1), (131, .iadd, 1), (132, .putfield 108, 3), (135, .goto (-58), 3), (138, .aload_n 0, 1), (139, .aload_n 0, 1), (140, .getfield 108, 3), (143, .aload_n 0, 1), (144, .getfield 115, 3), (147, .isub, 1), (148, .bipush 7, 2), (150, .if_icmp .le 8, 3), (153, .bipush 99, 2), (155, .goto 7, 3), (158, .lload_n 2, 1), (159, .invokestatic 127, 3), (162, .putfield 131, 3), (165, .aload_n 0, 1), (166, .aload_n 0, 1), (167, .getfield 131, 3), (170, .bipush 99, 2), (172, .if_icmp .ne 7, 3), (175, .iconst 4, 1), (176, .goto 4, 3), (179, .iconst 3, 1), (180, .putfield 118, 3), (183, .goto 128, 3), (186, .iload_n 1, 1), (187, .invokestatic 134, 3), (190, .ifCond .eq 96, 3), (193, .aload_n 0, 1), (194, .iconst 0, 1), (195, .putfield 137, 3), (198, .aload_n 0, 1), (199, .aload_n 0, 1), (200, .getfield 108, 3), (203, .invokevirtual 111, 3), (206, .invokestatic 134, 3), (209, .ifCond .eq 52, 3), (212, .aload_n 0, 1), (213, .getfield 108, 3), (216, .aload_n 0, 1), (217, .getfield 115, 3), (220, .isub, 1), (221, .iconst 3, 1), (222, .if_icmp .ge 26, 3), (225, .aload_n 0, 1), (226, .bipush 10, 2), (228, .aload_n 0, 1), (229, .getfield 137, 3), (232, .imul, 1), (233, .aload_n 0, 1), (234, .aload_n 0, 1), (235, .getfield 108, 3), (238, .invokevirtual 111, 3), (241, .iadd, 1), (242, .bipush 48, 2), (244, .isub, 1), (245, .putfield 137, 3), (248, .aload_n 0, 1), (249, .dup, 1)]
theorem ddX11_advance_1 : (dtX11_advance_1.all fun e => decide (decode mX11_advance.2.1 e.1 = .ok (e.2.1, e.2.2))) = true := by decide +kernel
theorem daX11_advance_1 (j : Nat) {pc n : Nat} {i : Instr} (h : dtX11_advance_1[j]? = some (pc, i, n)) : decode mX11_advance.2.1 pc = .ok (i, n) := dec_of (c := mX11_advance.2.1) ddX11_advance_1 h
def dtX11_advance_2 : List (Nat × Instr × Nat) := [(250, .getfield 108, 3), (253, .iconst 1, 1), (254, .iadd, 1), (255, .putfield 108, 3), (258, .goto (-60), 3), (261, .aload_n 0, 1), (262, .aload_n 0, 1), (263, .getfield 108, 3), (266, .aload_n 0, 1), (267, .getfield 115, 3), (270, .isub, 1), (271, .iconst 3, 1), (272, .if_icmp .le 7, 3), (275, .iconst 4, 1), (276, .goto 4, 3), (279, .iconst 1, 1), (280, .putfield 118, 3), (283, .goto 28, 3), (286, .aload_n 0, 1), (287, .dup, 1), (288, .getfield 108, 3), (291, .iconst 1, 1), (292, .iadd, 1), (293, .putfield 108, 3), (296, .aload_n 0, 1), (297, .iload_n 1, 1), (298, .bipush 59, 2), (300, .if_icmp .ne 7, 3), (303, .iconst 2, 1), (304, .goto 4, 3), (307, .iconst 4, 1), (308, .putfield 118, 3), (311, .return_, 1)]
theorem ddX11_advance_2 : (dtX11_advance_2.all fun e => decide (decode mX11_advance.2.1 e.1 = .ok (e.2.1, e.2.2))) = true := by decide +kernel
theorem daX11_advance_2 (j : Nat) {pc n : Nat} {i : Instr} (h : dtX11_advance_2[j]? = some (pc, i, n)) : decode mX11_advance.2.1 pc = .ok (i, n) := dec_of (c := mX11_advance.2.1) ddX11_advance_2 h
def zX11_advance_0 (l : Launch) (F : FI) (v0 : Int) (k n : Nat) : Mm ⊕ Mm → Prop
  | .inl μ => GM l mX11_advance F k n 0 [(0, (3, v0))] [] μ
  | .inr μ => GM l mX11_advance F k n 39 [(0, (3, v0))] [] μ
def sX11_advance_0 (v0 : Int) : Mm → Option (Mm ⊕ Mm) := fun μ =>
  chk (KD v0 = 11) (
  (fX11_byteAt v0 (μ v0 6) μ).bind fun r2 =>
  if r2 = 10 then
    lm (mst μ v0 6 (w32 ((μ v0 6) + 1))) fun μ4 =>
    some (.inl μ4)
  else
    (fX11_byteAt v0 (μ v0 6) μ).bind fun r5 =>
    if r5 = 32 then
      lm (mst μ v0 6 (w32 ((μ v0 6) + 1))) fun μ7 =>
      some (.inl μ7)
    else
      some (.inr μ))
def zX11_advance_77 (l : Launch) (F : FI) (v0 : Int) (k n : Nat) : (Int × Mm) ⊕ (Int × Mm) → Prop
  | .inl (v2, μ) => GM l mX11_advance F k n 77 [(0, (3, v0)), (2, (2, v2))] [] μ
  | .inr (v2, μ) => GM l mX11_advance F k n 138 [(0, (3, v0)), (2, (2, v2))] [] μ
def sX11_advance_77 (v0 : Int) : (Int × Mm) → Option ((Int × Mm) ⊕ (Int × Mm)) := fun (v2, μ) =>
  chk (KD v0 = 11) (
  (fX11_byteAt v0 (μ v0 6) μ).bind fun r9 =>
  if isLet r9 = 0 then
    some (.inr (v2, μ))
  else
    if 7 ≤ w32 ((μ v0 6) - (μ v0 7)) then
      lm (mst μ v0 6 (w32 ((μ v0 6) + 1))) fun μ12 =>
      some (.inl (v2, μ12))
    else
      (fX11_byteAt v0 (μ v0 6) μ).bind fun r13 =>
      lt (w64 ((w64 ((w64 (32 * v2)) + r13)) - 96)) fun y14 =>
      lm (mst μ v0 6 (w32 ((μ v0 6) + 1))) fun μ15 =>
      some (.inl (y14, μ15)))
def zX11_advance_198 (l : Launch) (F : FI) (v0 : Int) (k n : Nat) : Mm ⊕ Mm → Prop
  | .inl μ => GM l mX11_advance F k n 198 [(0, (3, v0))] [] μ
  | .inr μ => GM l mX11_advance F k n 261 [(0, (3, v0))] [] μ
def sX11_advance_198 (v0 : Int) : Mm → Option (Mm ⊕ Mm) := fun μ =>
  chk (KD v0 = 11) (
  (fX11_byteAt v0 (μ v0 6) μ).bind fun r17 =>
  if isDig r17 = 0 then
    some (.inr μ)
  else
    if 3 ≤ w32 ((μ v0 6) - (μ v0 7)) then
      lm (mst μ v0 6 (w32 ((μ v0 6) + 1))) fun μ20 =>
      some (.inl μ20)
    else
      (fX11_byteAt v0 (μ v0 6) μ).bind fun r21 =>
      lm (mst μ v0 9 (w32 ((w32 ((w32 (10 * (μ v0 9))) + r21)) - 48))) fun μ22 =>
      lm (mst μ22 v0 6 (w32 ((μ22 v0 6) + 1))) fun μ23 =>
      some (.inl μ23))
def jX11_advance_162 (v0 s0 s1 : Int) (μ : Mm) : Option Mm :=
  chk (KD s1 = 11) (
  lm (mst μ s1 10 s0) fun μ25 =>
  chk (KD v0 = 11) (
  if μ25 v0 10 = 99 then
    lm (mst μ25 v0 8 4) fun μ29 =>
    some μ29
  else
    lm (mst μ25 v0 8 3) fun μ28 =>
    some μ28))
def fX11_advance (v0 : Int) (μ : Mm) : Option Mm :=
  (lop (sX11_advance_0 v0) FU μ).bind fun μ_31 =>
    chk (KD v0 = 11) (
    lm (mst μ_31 v0 7 (μ_31 v0 6)) fun μ33 =>
    (fX11_byteAt v0 (μ33 v0 6) μ33).bind fun r34 =>
    if 0 ≤ r34 then
      if isLet r34 = 0 then
        if isDig r34 = 0 then
          lm (mst μ33 v0 6 (w32 ((μ33 v0 6) + 1))) fun μ38 =>
          if r34 = 59 then
            lm (mst μ38 v0 8 2) fun μ41 =>
            some μ41
          else
            lm (mst μ38 v0 8 4) fun μ40 =>
            some μ40
        else
          lm (mst μ33 v0 9 0) fun μ42 =>
          (lop (sX11_advance_198 v0) FU μ42).bind fun μ_44 =>
            if w32 ((μ_44 v0 6) - (μ_44 v0 7)) ≤ 3 then
              lm (mst μ_44 v0 8 1) fun μ46 =>
              some μ46
            else
              lm (mst μ_44 v0 8 4) fun μ47 =>
              some μ47
      else
        (lop (sX11_advance_77 v0) FU (0, μ33)).bind fun x48 =>
          match x48 with
          | (v2_49, μ_49) =>
            if w32 ((μ_49 v0 6) - (μ_49 v0 7)) ≤ 7 then
              (fX11_wordOf v2_49).bind fun r51 =>
              jX11_advance_162 v0 r51 v0 μ_49
            else
              jX11_advance_162 v0 99 v0 μ_49
    else
      lm (mst μ33 v0 8 0) fun μ52 =>
      some μ52)
set_option maxRecDepth 20000 in
theorem qX11_advance_0 (l : Launch) (F : FI) (v0 : Int) (k n : Nat) : ∀ (q : Mm) (t : (Mm ⊕ Mm)), sX11_advance_0 v0 q = some t → zX11_advance_0 l F v0 k n t → zX11_advance_0 l F v0 k n (.inl q) := by
  intro q t h hK
  obtain ⟨μ, hqq⟩ : ∃ z, z = q := ⟨q, rfl⟩
  subst hqq
  unfold sX11_advance_0 at h
  try dsimp only at h
  show GM l mX11_advance F k n 0 [(0, (3, v0))] [] μ
  refine GM_aload_n (pc := 0) 0 rfl (daX11_advance_0 0 rfl) rfl ?_
  refine GM_aload_n (pc := 1) 0 rfl (daX11_advance_0 1 rfl) rfl ?_
  obtain ⟨hc1, h⟩ := chk_inv h
  refine GM_getf (pc := 2) 11 6 0 6 kf_X11_108 (Nat.le_of_ble_eq_true rfl) (Nat.le_of_ble_eq_true rfl) rfl (daX11_advance_0 2 rfl) hc1 rfl ?_
  obtain ⟨r2, hf2, h⟩ := Option.bind_eq_some_iff.mp h
  refine GM_callV0 (pc := 5) [(0, μ v0 6)] (tX11_byteAt l hf2) cwX11_byteAt 11 (Nat.le_of_ble_eq_true rfl) rfl kv_X11_byteAt ke_X11_byteAt km_X11_111 hc1 ⟨Nat.le_of_ble_eq_true rfl, Nat.le_of_ble_eq_true rfl⟩ (Nat.le_of_ble_eq_true rfl) (Nat.le_of_ble_eq_true rfl) (daX11_advance_0 3 rfl) ?_
  refine GM_bipush (pc := 8) 10 (daX11_advance_0 4 rfl) rfl (R32_b rfl) ?_
  refine GM_icmp_eq (pc := 10) 26 (daX11_advance_0 5 rfl) rfl (fun c3 => ?_) (fun c3 => ?_)
  · skip
    rw [if_pos c3] at h
    refine GM_aload_n (pc := 26) 0 rfl (daX11_advance_0 12 rfl) rfl ?_
    refine GM_dup (pc := 27) (daX11_advance_0 13 rfl) (Nat.ne_of_beq_eq_false rfl) ?_
    refine GM_getf (pc := 28) 11 6 0 6 kf_X11_108 (Nat.le_of_ble_eq_true rfl) (Nat.le_of_ble_eq_true rfl) rfl (daX11_advance_0 14 rfl) hc1 rfl ?_
    refine GM_iconst (pc := 31) 1 (daX11_advance_0 15 rfl) rfl (R32_b rfl) ?_
    refine GM_iadd (pc := 32) (daX11_advance_0 16 rfl) ?_
    obtain ⟨μ4, hμ4, h⟩ := lm_inv h
    refine GM_putf (pc := 33) 11 6 0 kf_X11_108 (Nat.le_of_ble_eq_true rfl) (Nat.le_of_ble_eq_true rfl) rfl rfl (daX11_advance_0 17 rfl) hc1 (fun q => absurd q (by decide)) ?_
    refine GM_mem hμ4 ?_
    refine GM_goto (pc := 36) 0 (daX11_advance_0 18 rfl) rfl ?_
    cases h
    exact hK
  · skip
    rw [if_neg c3] at h
    refine GM_aload_n (pc := 13) 0 rfl (daX11_advance_0 6 rfl) rfl ?_
    refine GM_aload_n (pc := 14) 0 rfl (daX11_advance_0 7 rfl) rfl ?_
    refine GM_getf (pc := 15) 11 6 0 6 kf_X11_108 (Nat.le_of_ble_eq_true rfl) (Nat.le_of_ble_eq_true rfl) rfl (daX11_advance_0 8 rfl) hc1 rfl ?_
    obtain ⟨r5, hf5, h⟩ := Option.bind_eq_some_iff.mp h
    refine GM_callV0 (pc := 18) [(0, μ v0 6)] (tX11_byteAt l hf5) cwX11_byteAt 11 (Nat.le_of_ble_eq_true rfl) rfl kv_X11_byteAt ke_X11_byteAt km_X11_111 hc1 ⟨Nat.le_of_ble_eq_true rfl, Nat.le_of_ble_eq_true rfl⟩ (Nat.le_of_ble_eq_true rfl) (Nat.le_of_ble_eq_true rfl) (daX11_advance_0 9 rfl) ?_
    refine GM_bipush (pc := 21) 32 (daX11_advance_0 10 rfl) rfl (R32_b rfl) ?_
    refine GM_icmp_ne (pc := 23) 39 (daX11_advance_0 11 rfl) rfl (fun c6 => ?_) (fun c6 => ?_)
    · skip
      rw [if_neg c6] at h
      cases h
      exact hK
    · skip
      rw [if_pos c6] at h
      refine GM_aload_n (pc := 26) 0 rfl (daX11_advance_0 12 rfl) rfl ?_
      refine GM_dup (pc := 27) (daX11_advance_0 13 rfl) (Nat.ne_of_beq_eq_false rfl) ?_
      refine GM_getf (pc := 28) 11 6 0 6 kf_X11_108 (Nat.le_of_ble_eq_true rfl) (Nat.le_of_ble_eq_true rfl) rfl (daX11_advance_0 14 rfl) hc1 rfl ?_
      refine GM_iconst (pc := 31) 1 (daX11_advance_0 15 rfl) rfl (R32_b rfl) ?_
      refine GM_iadd (pc := 32) (daX11_advance_0 16 rfl) ?_
      obtain ⟨μ7, hμ7, h⟩ := lm_inv h
      refine GM_putf (pc := 33) 11 6 0 kf_X11_108 (Nat.le_of_ble_eq_true rfl) (Nat.le_of_ble_eq_true rfl) rfl rfl (daX11_advance_0 17 rfl) hc1 (fun q => absurd q (by decide)) ?_
      refine GM_mem hμ7 ?_
      refine GM_goto (pc := 36) 0 (daX11_advance_0 18 rfl) rfl ?_
      cases h
      exact hK
set_option maxRecDepth 20000 in
theorem qX11_advance_77 (l : Launch) (F : FI) (v0 : Int) (k n : Nat) : ∀ (q : (Int × Mm)) (t : ((Int × Mm) ⊕ (Int × Mm))), sX11_advance_77 v0 q = some t → zX11_advance_77 l F v0 k n t → zX11_advance_77 l F v0 k n (.inl q) := by
  intro q t h hK
  obtain ⟨v2, μ⟩ := q
  unfold sX11_advance_77 at h
  try dsimp only at h
  show GM l mX11_advance F k n 77 [(0, (3, v0)), (2, (2, v2))] [] μ
  refine GM_aload_n (pc := 77) 0 rfl (daX11_advance_0 39 rfl) rfl ?_
  refine GM_aload_n (pc := 78) 0 rfl (daX11_advance_0 40 rfl) rfl ?_
  obtain ⟨hc8, h⟩ := chk_inv h
  refine GM_getf (pc := 79) 11 6 0 6 kf_X11_108 (Nat.le_of_ble_eq_true rfl) (Nat.le_of_ble_eq_true rfl) rfl (daX11_advance_0 41 rfl) hc8 rfl ?_
  obtain ⟨r9, hf9, h⟩ := Option.bind_eq_some_iff.mp h
  refine GM_callV0 (pc := 82) [(0, μ v0 6)] (tX11_byteAt l hf9) cwX11_byteAt 11 (Nat.le_of_ble_eq_true rfl) rfl kv_X11_byteAt ke_X11_byteAt km_X11_111 hc8 ⟨Nat.le_of_ble_eq_true rfl, Nat.le_of_ble_eq_true rfl⟩ (Nat.le_of_ble_eq_true rfl) (Nat.le_of_ble_eq_true rfl) (daX11_advance_0 42 rfl) ?_
  refine GM_callS0 (pc := 85) [(0, r9)] (tX11_isLetter l (fX11_isLetter_eq r9)) cwX11_isLetter ks_X11_isLetter km_X11_121 ⟨Nat.le_of_ble_eq_true rfl, Nat.le_of_ble_eq_true rfl⟩ (Nat.le_of_ble_eq_true rfl) (Nat.le_of_ble_eq_true rfl) (daX11_advance_0 43 rfl) ?_
  refine GM_if_eq (pc := 88) 138 (daX11_advance_0 44 rfl) rfl (fun c10 => ?_) (fun c10 => ?_)
  · skip
    rw [if_pos c10] at h
    cases h
    exact hK
  · skip
    rw [if_neg c10] at h
    refine GM_aload_n (pc := 91) 0 rfl (daX11_advance_0 45 rfl) rfl ?_
    refine GM_getf (pc := 92) 11 6 0 6 kf_X11_108 (Nat.le_of_ble_eq_true rfl) (Nat.le_of_ble_eq_true rfl) rfl (daX11_advance_0 46 rfl) hc8 rfl ?_
    refine GM_aload_n (pc := 95) 0 rfl (daX11_advance_0 47 rfl) rfl ?_
    refine GM_getf (pc := 96) 11 7 0 7 kf_X11_115 (Nat.le_of_ble_eq_true rfl) (Nat.le_of_ble_eq_true rfl) rfl (daX11_advance_0 48 rfl) hc8 rfl ?_
    refine GM_isub (pc := 99) (daX11_advance_0 49 rfl) ?_
    refine GM_bipush (pc := 100) 7 (daX11_advance_0 50 rfl) rfl (R32_b rfl) ?_
    refine GM_icmp_ge (pc := 102) 125 (daX11_advance_0 51 rfl) rfl (fun c11 => ?_) (fun c11 => ?_)
    · skip
      rw [if_pos c11] at h
      refine GM_aload_n (pc := 125) 0 rfl (daX11_advance_1 0 rfl) rfl ?_
      refine GM_dup (pc := 126) (daX11_advance_1 1 rfl) (Nat.ne_of_beq_eq_false rfl) ?_
      refine GM_getf (pc := 127) 11 6 0 6 kf_X11_108 (Nat.le_of_ble_eq_true rfl) (Nat.le_of_ble_eq_true rfl) rfl (daX11_advance_1 2 rfl) hc8 rfl ?_
      refine GM_iconst (pc := 130) 1 (daX11_advance_1 3 rfl) rfl (R32_b rfl) ?_
      refine GM_iadd (pc := 131) (daX11_advance_1 4 rfl) ?_
      obtain ⟨μ12, hμ12, h⟩ := lm_inv h
      refine GM_putf (pc := 132) 11 6 0 kf_X11_108 (Nat.le_of_ble_eq_true rfl) (Nat.le_of_ble_eq_true rfl) rfl rfl (daX11_advance_1 5 rfl) hc8 (fun q => absurd q (by decide)) ?_
      refine GM_mem hμ12 ?_
      refine GM_goto (pc := 135) 77 (daX11_advance_1 6 rfl) rfl ?_
      cases h
      exact hK
    · skip
      rw [if_neg c11] at h
      refine GM_ldc2 (pc := 105) 32 kq_X11_88 (daX11_advance_0 52 rfl) (R64_b rfl) ?_
      refine GM_lload_n (pc := 108) 1 rfl (daX11_advance_0 53 rfl) rfl ?_
      refine GM_lmul (pc := 109) (daX11_advance_0 54 rfl) ?_
      refine GM_aload_n (pc := 110) 0 rfl (daX11_advance_0 55 rfl) rfl ?_
      refine GM_aload_n (pc := 111) 0 rfl (daX11_advance_0 56 rfl) rfl ?_
      refine GM_getf (pc := 112) 11 6 0 6 kf_X11_108 (Nat.le_of_ble_eq_true rfl) (Nat.le_of_ble_eq_true rfl) rfl (daX11_advance_0 57 rfl) hc8 rfl ?_
      obtain ⟨r13, hf13, h⟩ := Option.bind_eq_some_iff.mp h
      refine GM_callV0 (pc := 115) [(0, μ v0 6)] (tX11_byteAt l hf13) cwX11_byteAt 11 (Nat.le_of_ble_eq_true rfl) rfl kv_X11_byteAt ke_X11_byteAt km_X11_111 hc8 ⟨Nat.le_of_ble_eq_true rfl, Nat.le_of_ble_eq_true rfl⟩ (Nat.le_of_ble_eq_true rfl) (Nat.le_of_ble_eq_true rfl) (daX11_advance_0 58 rfl) ?_
      refine GM_i2l (pc := 118) (daX11_advance_0 59 rfl) ?_
      refine GM_ladd (pc := 119) (daX11_advance_0 60 rfl) ?_
      refine GM_ldc2 (pc := 120) 96 kq_X11_125 (daX11_advance_0 61 rfl) (R64_b rfl) ?_
      refine GM_lsub (pc := 123) (daX11_advance_0 62 rfl) ?_
      obtain ⟨y14, hy14, h⟩ := lt_inv h
      refine GM_top hy14 ?_
      refine GM_lstore_n (L' := [(2, (2, y14)), (0, (3, v0))]) (pc := 124) (daX11_advance_0 63 rfl) rfl (Nat.le_of_ble_eq_true rfl) rfl ?_
      refine GM_aload_n (pc := 125) 1 rfl (daX11_advance_1 0 rfl) rfl ?_
      refine GM_dup (pc := 126) (daX11_advance_1 1 rfl) (Nat.ne_of_beq_eq_false rfl) ?_
      refine GM_getf (pc := 127) 11 6 0 6 kf_X11_108 (Nat.le_of_ble_eq_true rfl) (Nat.le_of_ble_eq_true rfl) rfl (daX11_advance_1 2 rfl) hc8 rfl ?_
      refine GM_iconst (pc := 130) 1 (daX11_advance_1 3 rfl) rfl (R32_b rfl) ?_
      refine GM_iadd (pc := 131) (daX11_advance_1 4 rfl) ?_
      obtain ⟨μ15, hμ15, h⟩ := lm_inv h
      refine GM_putf (pc := 132) 11 6 0 kf_X11_108 (Nat.le_of_ble_eq_true rfl) (Nat.le_of_ble_eq_true rfl) rfl rfl (daX11_advance_1 5 rfl) hc8 (fun q => absurd q (by decide)) ?_
      refine GM_mem hμ15 ?_
      refine GM_goto (pc := 135) 77 (daX11_advance_1 6 rfl) rfl ?_
      refine GM_pick [1, 0] rfl ?_
      cases h
      exact hK
set_option maxRecDepth 20000 in
theorem qX11_advance_198 (l : Launch) (F : FI) (v0 : Int) (k n : Nat) : ∀ (q : Mm) (t : (Mm ⊕ Mm)), sX11_advance_198 v0 q = some t → zX11_advance_198 l F v0 k n t → zX11_advance_198 l F v0 k n (.inl q) := by
  intro q t h hK
  obtain ⟨μ, hqq⟩ : ∃ z, z = q := ⟨q, rfl⟩
  subst hqq
  unfold sX11_advance_198 at h
  try dsimp only at h
  show GM l mX11_advance F k n 198 [(0, (3, v0))] [] μ
  refine GM_aload_n (pc := 198) 0 rfl (daX11_advance_1 36 rfl) rfl ?_
  refine GM_aload_n (pc := 199) 0 rfl (daX11_advance_1 37 rfl) rfl ?_
  obtain ⟨hc16, h⟩ := chk_inv h
  refine GM_getf (pc := 200) 11 6 0 6 kf_X11_108 (Nat.le_of_ble_eq_true rfl) (Nat.le_of_ble_eq_true rfl) rfl (daX11_advance_1 38 rfl) hc16 rfl ?_
  obtain ⟨r17, hf17, h⟩ := Option.bind_eq_some_iff.mp h
  refine GM_callV0 (pc := 203) [(0, μ v0 6)] (tX11_byteAt l hf17) cwX11_byteAt 11 (Nat.le_of_ble_eq_true rfl) rfl kv_X11_byteAt ke_X11_byteAt km_X11_111 hc16 ⟨Nat.le_of_ble_eq_true rfl, Nat.le_of_ble_eq_true rfl⟩ (Nat.le_of_ble_eq_true rfl) (Nat.le_of_ble_eq_true rfl) (daX11_advance_1 39 rfl) ?_
  refine GM_callS0 (pc := 206) [(0, r17)] (tX11_isDigit l (fX11_isDigit_eq r17)) cwX11_isDigit ks_X11_isDigit km_X11_134 ⟨Nat.le_of_ble_eq_true rfl, Nat.le_of_ble_eq_true rfl⟩ (Nat.le_of_ble_eq_true rfl) (Nat.le_of_ble_eq_true rfl) (daX11_advance_1 40 rfl) ?_
  refine GM_if_eq (pc := 209) 261 (daX11_advance_1 41 rfl) rfl (fun c18 => ?_) (fun c18 => ?_)
  · skip
    rw [if_pos c18] at h
    cases h
    exact hK
  · skip
    rw [if_neg c18] at h
    refine GM_aload_n (pc := 212) 0 rfl (daX11_advance_1 42 rfl) rfl ?_
    refine GM_getf (pc := 213) 11 6 0 6 kf_X11_108 (Nat.le_of_ble_eq_true rfl) (Nat.le_of_ble_eq_true rfl) rfl (daX11_advance_1 43 rfl) hc16 rfl ?_
    refine GM_aload_n (pc := 216) 0 rfl (daX11_advance_1 44 rfl) rfl ?_
    refine GM_getf (pc := 217) 11 7 0 7 kf_X11_115 (Nat.le_of_ble_eq_true rfl) (Nat.le_of_ble_eq_true rfl) rfl (daX11_advance_1 45 rfl) hc16 rfl ?_
    refine GM_isub (pc := 220) (daX11_advance_1 46 rfl) ?_
    refine GM_iconst (pc := 221) 3 (daX11_advance_1 47 rfl) rfl (R32_b rfl) ?_
    refine GM_icmp_ge (pc := 222) 248 (daX11_advance_1 48 rfl) rfl (fun c19 => ?_) (fun c19 => ?_)
    · skip
      rw [if_pos c19] at h
      refine GM_aload_n (pc := 248) 0 rfl (daX11_advance_1 62 rfl) rfl ?_
      refine GM_dup (pc := 249) (daX11_advance_1 63 rfl) (Nat.ne_of_beq_eq_false rfl) ?_
      refine GM_getf (pc := 250) 11 6 0 6 kf_X11_108 (Nat.le_of_ble_eq_true rfl) (Nat.le_of_ble_eq_true rfl) rfl (daX11_advance_2 0 rfl) hc16 rfl ?_
      refine GM_iconst (pc := 253) 1 (daX11_advance_2 1 rfl) rfl (R32_b rfl) ?_
      refine GM_iadd (pc := 254) (daX11_advance_2 2 rfl) ?_
      obtain ⟨μ20, hμ20, h⟩ := lm_inv h
      refine GM_putf (pc := 255) 11 6 0 kf_X11_108 (Nat.le_of_ble_eq_true rfl) (Nat.le_of_ble_eq_true rfl) rfl rfl (daX11_advance_2 3 rfl) hc16 (fun q => absurd q (by decide)) ?_
      refine GM_mem hμ20 ?_
      refine GM_goto (pc := 258) 198 (daX11_advance_2 4 rfl) rfl ?_
      cases h
      exact hK
    · skip
      rw [if_neg c19] at h
      refine GM_aload_n (pc := 225) 0 rfl (daX11_advance_1 49 rfl) rfl ?_
      refine GM_bipush (pc := 226) 10 (daX11_advance_1 50 rfl) rfl (R32_b rfl) ?_
      refine GM_aload_n (pc := 228) 0 rfl (daX11_advance_1 51 rfl) rfl ?_
      refine GM_getf (pc := 229) 11 9 0 9 kf_X11_137 (Nat.le_of_ble_eq_true rfl) (Nat.le_of_ble_eq_true rfl) rfl (daX11_advance_1 52 rfl) hc16 rfl ?_
      refine GM_imul (pc := 232) (daX11_advance_1 53 rfl) ?_
      refine GM_aload_n (pc := 233) 0 rfl (daX11_advance_1 54 rfl) rfl ?_
      refine GM_aload_n (pc := 234) 0 rfl (daX11_advance_1 55 rfl) rfl ?_
      refine GM_getf (pc := 235) 11 6 0 6 kf_X11_108 (Nat.le_of_ble_eq_true rfl) (Nat.le_of_ble_eq_true rfl) rfl (daX11_advance_1 56 rfl) hc16 rfl ?_
      obtain ⟨r21, hf21, h⟩ := Option.bind_eq_some_iff.mp h
      refine GM_callV0 (pc := 238) [(0, μ v0 6)] (tX11_byteAt l hf21) cwX11_byteAt 11 (Nat.le_of_ble_eq_true rfl) rfl kv_X11_byteAt ke_X11_byteAt km_X11_111 hc16 ⟨Nat.le_of_ble_eq_true rfl, Nat.le_of_ble_eq_true rfl⟩ (Nat.le_of_ble_eq_true rfl) (Nat.le_of_ble_eq_true rfl) (daX11_advance_1 57 rfl) ?_
      refine GM_iadd (pc := 241) (daX11_advance_1 58 rfl) ?_
      refine GM_bipush (pc := 242) 48 (daX11_advance_1 59 rfl) rfl (R32_b rfl) ?_
      refine GM_isub (pc := 244) (daX11_advance_1 60 rfl) ?_
      obtain ⟨μ22, hμ22, h⟩ := lm_inv h
      refine GM_putf (pc := 245) 11 9 0 kf_X11_137 (Nat.le_of_ble_eq_true rfl) (Nat.le_of_ble_eq_true rfl) rfl rfl (daX11_advance_1 61 rfl) hc16 (fun q => absurd q (by decide)) ?_
      refine GM_mem hμ22 ?_
      refine GM_aload_n (pc := 248) 0 rfl (daX11_advance_1 62 rfl) rfl ?_
      refine GM_dup (pc := 249) (daX11_advance_1 63 rfl) (Nat.ne_of_beq_eq_false rfl) ?_
      refine GM_getf (pc := 250) 11 6 0 6 kf_X11_108 (Nat.le_of_ble_eq_true rfl) (Nat.le_of_ble_eq_true rfl) rfl (daX11_advance_2 0 rfl) hc16 rfl ?_
      refine GM_iconst (pc := 253) 1 (daX11_advance_2 1 rfl) rfl (R32_b rfl) ?_
      refine GM_iadd (pc := 254) (daX11_advance_2 2 rfl) ?_
      obtain ⟨μ23, hμ23, h⟩ := lm_inv h
      refine GM_putf (pc := 255) 11 6 0 kf_X11_108 (Nat.le_of_ble_eq_true rfl) (Nat.le_of_ble_eq_true rfl) rfl rfl (daX11_advance_2 3 rfl) hc16 (fun q => absurd q (by decide)) ?_
      refine GM_mem hμ23 ?_
      refine GM_goto (pc := 258) 198 (daX11_advance_2 4 rfl) rfl ?_
      cases h
      exact hK
set_option maxRecDepth 20000 in
theorem gX11_advance_162 (l : Launch) {F : FI} {v0 s0 s1 : Int} {μ : Mm} {t : Mm} (h : jX11_advance_162 v0 s0 s1 μ = some t) (hK : F.1 = [] ∧ F.2.1 = t) : GM l mX11_advance F 0 0 162 [(0, (3, v0))] [(0, s0), (3, s1)] μ := by
  unfold jX11_advance_162 at h
  obtain ⟨hc24, h⟩ := chk_inv h
  obtain ⟨μ25, hμ25, h⟩ := lm_inv h
  refine GM_putf (pc := 162) 11 10 0 kf_X11_131 (Nat.le_of_ble_eq_true rfl) (Nat.le_of_ble_eq_true rfl) rfl rfl (daX11_advance_1 19 rfl) hc24 (fun q => absurd q (by decide)) ?_
  refine GM_mem hμ25 ?_
  refine GM_aload_n (pc := 165) 0 rfl (daX11_advance_1 20 rfl) rfl ?_
  refine GM_aload_n (pc := 166) 0 rfl (daX11_advance_1 21 rfl) rfl ?_
  obtain ⟨hc26, h⟩ := chk_inv h
  refine GM_getf (pc := 167) 11 10 0 10 kf_X11_131 (Nat.le_of_ble_eq_true rfl) (Nat.le_of_ble_eq_true rfl) rfl (daX11_advance_1 22 rfl) hc26 rfl ?_
  refine GM_bipush (pc := 170) 99 (daX11_advance_1 23 rfl) rfl (R32_b rfl) ?_
  refine GM_icmp_ne (pc := 172) 179 (daX11_advance_1 24 rfl) rfl (fun c27 => ?_) (fun c27 => ?_)
  · skip
    rw [if_neg c27] at h
    refine GM_iconst (pc := 179) 3 (daX11_advance_1 27 rfl) rfl (R32_b rfl) ?_
    obtain ⟨μ28, hμ28, h⟩ := lm_inv h
    refine GM_putf (pc := 180) 11 8 0 kf_X11_118 (Nat.le_of_ble_eq_true rfl) (Nat.le_of_ble_eq_true rfl) rfl rfl (daX11_advance_1 28 rfl) hc26 (fun q => absurd q (by decide)) ?_
    refine GM_mem hμ28 ?_
    refine GM_goto (pc := 183) 311 (daX11_advance_1 29 rfl) rfl ?_
    cases h
    exact GM_vret (pc := 311) (daX11_advance_2 32 rfl) rfl hK
  · skip
    rw [if_pos c27] at h
    refine GM_iconst (pc := 175) 4 (daX11_advance_1 25 rfl) rfl (R32_b rfl) ?_
    refine GM_goto (pc := 176) 180 (daX11_advance_1 26 rfl) rfl ?_
    obtain ⟨μ29, hμ29, h⟩ := lm_inv h
    refine GM_putf (pc := 180) 11 8 0 kf_X11_118 (Nat.le_of_ble_eq_true rfl) (Nat.le_of_ble_eq_true rfl) rfl rfl (daX11_advance_1 28 rfl) hc26 (fun q => absurd q (by decide)) ?_
    refine GM_mem hμ29 ?_
    refine GM_goto (pc := 183) 311 (daX11_advance_1 29 rfl) rfl ?_
    cases h
    exact GM_vret (pc := 311) (daX11_advance_2 32 rfl) rfl hK
set_option maxRecDepth 20000 in
theorem gX11_advance_0 (l : Launch) {F : FI} {v0 : Int} {μ : Mm} {t : Mm} (h : fX11_advance v0 μ = some t) (hK : F.1 = [] ∧ F.2.1 = t) : GM l mX11_advance F 0 0 0 [(0, (3, v0))] [] μ := by
  unfold fX11_advance at h
  obtain ⟨x30, hqx30, h⟩ := Option.bind_eq_some_iff.mp h
  refine lop_ind (zX11_advance_0 l F v0 0 0) (qX11_advance_0 l F v0 0 0) FU _ x30 hqx30 ?_
  obtain ⟨μ_31, hqq⟩ : ∃ z, z = x30 := ⟨x30, rfl⟩
  subst hqq
  show GM l mX11_advance F 0 0 39 [(0, (3, v0))] [] μ_31
  refine GM_aload_n (pc := 39) 0 rfl (daX11_advance_0 19 rfl) rfl ?_
  refine GM_aload_n (pc := 40) 0 rfl (daX11_advance_0 20 rfl) rfl ?_
  obtain ⟨hc32, h⟩ := chk_inv h
  refine GM_getf (pc := 41) 11 6 0 6 kf_X11_108 (Nat.le_of_ble_eq_true rfl) (Nat.le_of_ble_eq_true rfl) rfl (daX11_advance_0 21 rfl) hc32 rfl ?_
  obtain ⟨μ33, hμ33, h⟩ := lm_inv h
  refine GM_putf (pc := 44) 11 7 0 kf_X11_115 (Nat.le_of_ble_eq_true rfl) (Nat.le_of_ble_eq_true rfl) rfl rfl (daX11_advance_0 22 rfl) hc32 (fun q => absurd q (by decide)) ?_
  refine GM_mem hμ33 ?_
  refine GM_aload_n (pc := 47) 0 rfl (daX11_advance_0 23 rfl) rfl ?_
  refine GM_aload_n (pc := 48) 0 rfl (daX11_advance_0 24 rfl) rfl ?_
  refine GM_getf (pc := 49) 11 6 0 6 kf_X11_108 (Nat.le_of_ble_eq_true rfl) (Nat.le_of_ble_eq_true rfl) rfl (daX11_advance_0 25 rfl) hc32 rfl ?_
  obtain ⟨r34, hf34, h⟩ := Option.bind_eq_some_iff.mp h
  refine GM_callV0 (pc := 52) [(0, μ33 v0 6)] (tX11_byteAt l hf34) cwX11_byteAt 11 (Nat.le_of_ble_eq_true rfl) rfl kv_X11_byteAt ke_X11_byteAt km_X11_111 hc32 ⟨Nat.le_of_ble_eq_true rfl, Nat.le_of_ble_eq_true rfl⟩ (Nat.le_of_ble_eq_true rfl) (Nat.le_of_ble_eq_true rfl) (daX11_advance_0 26 rfl) ?_
  refine GM_istore_n (L' := [(1, (0, r34)), (0, (3, v0))]) (pc := 55) (daX11_advance_0 27 rfl) rfl (Nat.le_of_ble_eq_true rfl) rfl ?_
  refine GM_iload_n (pc := 56) 0 rfl (daX11_advance_0 28 rfl) rfl ?_
  refine GM_if_ge (pc := 57) 68 (daX11_advance_0 29 rfl) rfl (fun c35 => ?_) (fun c35 => ?_)
  · skip
    rw [if_pos c35] at h
    refine GM_iload_n (pc := 68) 0 rfl (daX11_advance_0 34 rfl) rfl ?_
    refine GM_callS0 (pc := 69) [(0, r34)] (tX11_isLetter l (fX11_isLetter_eq r34)) cwX11_isLetter ks_X11_isLetter km_X11_121 ⟨Nat.le_of_ble_eq_true rfl, Nat.le_of_ble_eq_true rfl⟩ (Nat.le_of_ble_eq_true rfl) (Nat.le_of_ble_eq_true rfl) (daX11_advance_0 35 rfl) ?_
    refine GM_if_eq (pc := 72) 186 (daX11_advance_0 36 rfl) rfl (fun c36 => ?_) (fun c36 => ?_)
    · skip
      rw [if_pos c36] at h
      refine GM_iload_n (pc := 186) 0 rfl (daX11_advance_1 30 rfl) rfl ?_
      refine GM_callS0 (pc := 187) [(0, r34)] (tX11_isDigit l (fX11_isDigit_eq r34)) cwX11_isDigit ks_X11_isDigit km_X11_134 ⟨Nat.le_of_ble_eq_true rfl, Nat.le_of_ble_eq_true rfl⟩ (Nat.le_of_ble_eq_true rfl) (Nat.le_of_ble_eq_true rfl) (daX11_advance_1 31 rfl) ?_
      refine GM_if_eq (pc := 190) 286 (daX11_advance_1 32 rfl) rfl (fun c37 => ?_) (fun c37 => ?_)
      · skip
        rw [if_pos c37] at h
        refine GM_aload_n (pc := 286) 1 rfl (daX11_advance_2 18 rfl) rfl ?_
        refine GM_dup (pc := 287) (daX11_advance_2 19 rfl) (Nat.ne_of_beq_eq_false rfl) ?_
        refine GM_getf (pc := 288) 11 6 0 6 kf_X11_108 (Nat.le_of_ble_eq_true rfl) (Nat.le_of_ble_eq_true rfl) rfl (daX11_advance_2 20 rfl) hc32 rfl ?_
        refine GM_iconst (pc := 291) 1 (daX11_advance_2 21 rfl) rfl (R32_b rfl) ?_
        refine GM_iadd (pc := 292) (daX11_advance_2 22 rfl) ?_
        obtain ⟨μ38, hμ38, h⟩ := lm_inv h
        refine GM_putf (pc := 293) 11 6 0 kf_X11_108 (Nat.le_of_ble_eq_true rfl) (Nat.le_of_ble_eq_true rfl) rfl rfl (daX11_advance_2 23 rfl) hc32 (fun q => absurd q (by decide)) ?_
        refine GM_mem hμ38 ?_
        refine GM_aload_n (pc := 296) 1 rfl (daX11_advance_2 24 rfl) rfl ?_
        refine GM_iload_n (pc := 297) 0 rfl (daX11_advance_2 25 rfl) rfl ?_
        refine GM_bipush (pc := 298) 59 (daX11_advance_2 26 rfl) rfl (R32_b rfl) ?_
        refine GM_icmp_ne (pc := 300) 307 (daX11_advance_2 27 rfl) rfl (fun c39 => ?_) (fun c39 => ?_)
        · skip
          rw [if_neg c39] at h
          refine GM_iconst (pc := 307) 4 (daX11_advance_2 30 rfl) rfl (R32_b rfl) ?_
          obtain ⟨μ40, hμ40, h⟩ := lm_inv h
          refine GM_putf (pc := 308) 11 8 0 kf_X11_118 (Nat.le_of_ble_eq_true rfl) (Nat.le_of_ble_eq_true rfl) rfl rfl (daX11_advance_2 31 rfl) hc32 (fun q => absurd q (by decide)) ?_
          refine GM_mem hμ40 ?_
          cases h
          exact GM_vret (pc := 311) (daX11_advance_2 32 rfl) rfl hK
        · skip
          rw [if_pos c39] at h
          refine GM_iconst (pc := 303) 2 (daX11_advance_2 28 rfl) rfl (R32_b rfl) ?_
          refine GM_goto (pc := 304) 308 (daX11_advance_2 29 rfl) rfl ?_
          obtain ⟨μ41, hμ41, h⟩ := lm_inv h
          refine GM_putf (pc := 308) 11 8 0 kf_X11_118 (Nat.le_of_ble_eq_true rfl) (Nat.le_of_ble_eq_true rfl) rfl rfl (daX11_advance_2 31 rfl) hc32 (fun q => absurd q (by decide)) ?_
          refine GM_mem hμ41 ?_
          cases h
          exact GM_vret (pc := 311) (daX11_advance_2 32 rfl) rfl hK
      · skip
        rw [if_neg c37] at h
        refine GM_aload_n (pc := 193) 1 rfl (daX11_advance_1 33 rfl) rfl ?_
        refine GM_iconst (pc := 194) 0 (daX11_advance_1 34 rfl) rfl (R32_b rfl) ?_
        obtain ⟨μ42, hμ42, h⟩ := lm_inv h
        refine GM_putf (pc := 195) 11 9 0 kf_X11_137 (Nat.le_of_ble_eq_true rfl) (Nat.le_of_ble_eq_true rfl) rfl rfl (daX11_advance_1 35 rfl) hc32 (fun q => absurd q (by decide)) ?_
        refine GM_mem hμ42 ?_
        refine GM_pick [1] rfl ?_
        obtain ⟨x43, hqx43, h⟩ := Option.bind_eq_some_iff.mp h
        refine lop_ind (zX11_advance_198 l F v0 0 0) (qX11_advance_198 l F v0 0 0) FU _ x43 hqx43 ?_
        obtain ⟨μ_44, hqq⟩ : ∃ z, z = x43 := ⟨x43, rfl⟩
        subst hqq
        show GM l mX11_advance F 0 0 261 [(0, (3, v0))] [] μ_44
        refine GM_aload_n (pc := 261) 0 rfl (daX11_advance_2 5 rfl) rfl ?_
        refine GM_aload_n (pc := 262) 0 rfl (daX11_advance_2 6 rfl) rfl ?_
        refine GM_getf (pc := 263) 11 6 0 6 kf_X11_108 (Nat.le_of_ble_eq_true rfl) (Nat.le_of_ble_eq_true rfl) rfl (daX11_advance_2 7 rfl) hc32 rfl ?_
        refine GM_aload_n (pc := 266) 0 rfl (daX11_advance_2 8 rfl) rfl ?_
        refine GM_getf (pc := 267) 11 7 0 7 kf_X11_115 (Nat.le_of_ble_eq_true rfl) (Nat.le_of_ble_eq_true rfl) rfl (daX11_advance_2 9 rfl) hc32 rfl ?_
        refine GM_isub (pc := 270) (daX11_advance_2 10 rfl) ?_
        refine GM_iconst (pc := 271) 3 (daX11_advance_2 11 rfl) rfl (R32_b rfl) ?_
        refine GM_icmp_le (pc := 272) 279 (daX11_advance_2 12 rfl) rfl (fun c45 => ?_) (fun c45 => ?_)
        · skip
          rw [if_pos c45] at h
          refine GM_iconst (pc := 279) 1 (daX11_advance_2 15 rfl) rfl (R32_b rfl) ?_
          obtain ⟨μ46, hμ46, h⟩ := lm_inv h
          refine GM_putf (pc := 280) 11 8 0 kf_X11_118 (Nat.le_of_ble_eq_true rfl) (Nat.le_of_ble_eq_true rfl) rfl rfl (daX11_advance_2 16 rfl) hc32 (fun q => absurd q (by decide)) ?_
          refine GM_mem hμ46 ?_
          refine GM_goto (pc := 283) 311 (daX11_advance_2 17 rfl) rfl ?_
          cases h
          exact GM_vret (pc := 311) (daX11_advance_2 32 rfl) rfl hK
        · skip
          rw [if_neg c45] at h
          refine GM_iconst (pc := 275) 4 (daX11_advance_2 13 rfl) rfl (R32_b rfl) ?_
          refine GM_goto (pc := 276) 280 (daX11_advance_2 14 rfl) rfl ?_
          obtain ⟨μ47, hμ47, h⟩ := lm_inv h
          refine GM_putf (pc := 280) 11 8 0 kf_X11_118 (Nat.le_of_ble_eq_true rfl) (Nat.le_of_ble_eq_true rfl) rfl rfl (daX11_advance_2 16 rfl) hc32 (fun q => absurd q (by decide)) ?_
          refine GM_mem hμ47 ?_
          refine GM_goto (pc := 283) 311 (daX11_advance_2 17 rfl) rfl ?_
          cases h
          exact GM_vret (pc := 311) (daX11_advance_2 32 rfl) rfl hK
    · skip
      rw [if_neg c36] at h
      refine GM_lconst (pc := 75) 0 (daX11_advance_0 37 rfl) rfl (R64_b rfl) ?_
      refine GM_lstore_n (L' := [(2, (2, 0)), (1, (0, r34)), (0, (3, v0))]) (pc := 76) (daX11_advance_0 38 rfl) rfl (Nat.le_of_ble_eq_true rfl) rfl ?_
      refine GM_pick [2, 0] rfl ?_
      obtain ⟨x48, hqx48, h⟩ := Option.bind_eq_some_iff.mp h
      refine lop_ind (zX11_advance_77 l F v0 0 0) (qX11_advance_77 l F v0 0 0) FU _ x48 hqx48 ?_
      obtain ⟨v2_49, μ_49⟩ := x48
      dsimp only at h
      show GM l mX11_advance F 0 0 138 [(0, (3, v0)), (2, (2, v2_49))] [] μ_49
      refine GM_aload_n (pc := 138) 0 rfl (daX11_advance_1 7 rfl) rfl ?_
      refine GM_aload_n (pc := 139) 0 rfl (daX11_advance_1 8 rfl) rfl ?_
      refine GM_getf (pc := 140) 11 6 0 6 kf_X11_108 (Nat.le_of_ble_eq_true rfl) (Nat.le_of_ble_eq_true rfl) rfl (daX11_advance_1 9 rfl) hc32 rfl ?_
      refine GM_aload_n (pc := 143) 0 rfl (daX11_advance_1 10 rfl) rfl ?_
      refine GM_getf (pc := 144) 11 7 0 7 kf_X11_115 (Nat.le_of_ble_eq_true rfl) (Nat.le_of_ble_eq_true rfl) rfl (daX11_advance_1 11 rfl) hc32 rfl ?_
      refine GM_isub (pc := 147) (daX11_advance_1 12 rfl) ?_
      refine GM_bipush (pc := 148) 7 (daX11_advance_1 13 rfl) rfl (R32_b rfl) ?_
      refine GM_icmp_le (pc := 150) 158 (daX11_advance_1 14 rfl) rfl (fun c50 => ?_) (fun c50 => ?_)
      · skip
        rw [if_pos c50] at h
        refine GM_lload_n (pc := 158) 1 rfl (daX11_advance_1 17 rfl) rfl ?_
        obtain ⟨r51, hf51, h⟩ := Option.bind_eq_some_iff.mp h
        refine GM_callS0 (pc := 159) [(2, v2_49)] (tX11_wordOf l hf51) cwX11_wordOf ks_X11_wordOf km_X11_127 ⟨Nat.le_of_ble_eq_true rfl, Nat.le_of_ble_eq_true rfl⟩ (Nat.le_of_ble_eq_true rfl) (Nat.le_of_ble_eq_true rfl) (daX11_advance_1 18 rfl) ?_
        refine GM_pick [0] rfl ?_
        exact gX11_advance_162 l h hK
      · skip
        rw [if_neg c50] at h
        refine GM_bipush (pc := 153) 99 (daX11_advance_1 15 rfl) rfl (R32_b rfl) ?_
        refine GM_goto (pc := 155) 162 (daX11_advance_1 16 rfl) rfl ?_
        refine GM_pick [0] rfl ?_
        exact gX11_advance_162 l h hK
  · skip
    rw [if_neg c35] at h
    refine GM_aload_n (pc := 60) 1 rfl (daX11_advance_0 30 rfl) rfl ?_
    refine GM_iconst (pc := 61) 0 (daX11_advance_0 31 rfl) rfl (R32_b rfl) ?_
    obtain ⟨μ52, hμ52, h⟩ := lm_inv h
    refine GM_putf (pc := 62) 11 8 0 kf_X11_118 (Nat.le_of_ble_eq_true rfl) (Nat.le_of_ble_eq_true rfl) rfl rfl (daX11_advance_0 32 rfl) hc32 (fun q => absurd q (by decide)) ?_
    refine GM_mem hμ52 ?_
    refine GM_goto (pc := 65) 311 (daX11_advance_0 33 rfl) rfl ?_
    cases h
    exact GM_vret (pc := 311) (daX11_advance_2 32 rfl) rfl hK
theorem tX11_advance (l : Launch) {v0 : Int} {μ : Mm} {t : Mm} (h : fX11_advance v0 μ = some t) : Ct l yX11_advance mX11_advance [(3, v0)] μ ([], t, 0, 0) :=
  Ct_of (by decide +kernel) rfl rfl (Nat.le_of_ble_eq_true rfl) (fun _ _ _ => trivial) (gX11_advance_0 l h ⟨rfl, rfl⟩)
def mX11_ends : MI := (RX11, cX11_ends, 1, none, "ends", 0, 0, fun _ _ _ => True)
theorem cwX11_ends : CWd yX11_ends mX11_ends 0 := ⟨ki_X11, kk_X11_ends, ⟨by decide, by decide⟩, rfl⟩
def dtX11_ends_0 : List (Nat × Instr × Nat) := [(0, .aload_n 0, 1), (1, .getfield 140, 3), (4, .ifCond .eq 4, 3), (7, .return_, 1), (8, .aload_n 0, 1), (9, .iconst 1, 1), (10, .putfield 140, 3), (13, .aload_n 0, 1), (14, .getfield 7, 3), (17, .iconst 3, 1), (18, .iconst 1, 1), (19, .iastore, 1), (20, .aload_n 0, 1), (21, .getfield 7, 3), (24, .iconst 4, 1), (25, .aload_n 0, 1), (26, .getfield 115, 3), (29, .iastore, 1), (30, .return_, 1)]
theorem ddX11_ends_0 : (dtX11_ends_0.all fun e => decide (decode mX11_ends.2.1 e.1 = .ok (e.2.1, e.2.2))) = true := by decide +kernel
theorem daX11_ends_0 (j : Nat) {pc n : Nat} {i : Instr} (h : dtX11_ends_0[j]? = some (pc, i, n)) : decode mX11_ends.2.1 pc = .ok (i, n) := dec_of (c := mX11_ends.2.1) ddX11_ends_0 h
def fX11_ends (v0 : Int) (μ : Mm) : Option Mm :=
  chk (KD v0 = 11) (
  if μ v0 11 = 0 then
    lm (mst μ v0 11 1) fun μ3 =>
    chk (KD (μ3 v0 0) = 12 ∧ 3 < LN (μ3 v0 0)) (
    lm (mst μ3 (μ3 v0 0) 3 1) fun μ5 =>
    chk (KD (μ5 v0 0) = 12 ∧ 4 < LN (μ5 v0 0)) (
    lm (mst μ5 (μ5 v0 0) 4 (μ5 v0 7)) fun μ7 =>
    some μ7))
  else
    some μ)
set_option maxRecDepth 20000 in
theorem gX11_ends_0 (l : Launch) {F : FI} {v0 : Int} {μ : Mm} {t : Mm} (h : fX11_ends v0 μ = some t) (hK : F.1 = [] ∧ F.2.1 = t) : GM l mX11_ends F 0 0 0 [(0, (3, v0))] [] μ := by
  unfold fX11_ends at h
  refine GM_aload_n (pc := 0) 0 rfl (daX11_ends_0 0 rfl) rfl ?_
  obtain ⟨hc1, h⟩ := chk_inv h
  refine GM_getf (pc := 1) 11 11 0 11 kf_X11_140 (Nat.le_of_ble_eq_true rfl) (Nat.le_of_ble_eq_true rfl) rfl (daX11_ends_0 1 rfl) hc1 rfl ?_
  refine GM_if_eq (pc := 4) 8 (daX11_ends_0 2 rfl) rfl (fun c2 => ?_) (fun c2 => ?_)
  · skip
    rw [if_pos c2] at h
    refine GM_aload_n (pc := 8) 0 rfl (daX11_ends_0 4 rfl) rfl ?_
    refine GM_iconst (pc := 9) 1 (daX11_ends_0 5 rfl) rfl (R32_b rfl) ?_
    obtain ⟨μ3, hμ3, h⟩ := lm_inv h
    refine GM_putf (pc := 10) 11 11 0 kf_X11_140 (Nat.le_of_ble_eq_true rfl) (Nat.le_of_ble_eq_true rfl) rfl rfl (daX11_ends_0 6 rfl) hc1 (fun _ => Or.inr rfl) ?_
    refine GM_mem hμ3 ?_
    refine GM_aload_n (pc := 13) 0 rfl (daX11_ends_0 7 rfl) rfl ?_
    refine GM_getf (pc := 14) 11 0 3 0 kf_X11_7 (Nat.le_of_ble_eq_true rfl) (Nat.le_of_ble_eq_true rfl) rfl (daX11_ends_0 8 rfl) hc1 rfl ?_
    refine GM_iconst (pc := 17) 3 (daX11_ends_0 9 rfl) rfl (R32_b rfl) ?_
    refine GM_iconst (pc := 18) 1 (daX11_ends_0 10 rfl) rfl (R32_b rfl) ?_
    obtain ⟨hc4, h⟩ := chk_inv h
    obtain ⟨μ5, hμ5, h⟩ := lm_inv h
    refine GM_iast (pc := 19) (daX11_ends_0 11 rfl) hc4.1 (by decide) hc4.2 ?_
    refine GM_mem hμ5 ?_
    refine GM_aload_n (pc := 20) 0 rfl (daX11_ends_0 12 rfl) rfl ?_
    refine GM_getf (pc := 21) 11 0 3 0 kf_X11_7 (Nat.le_of_ble_eq_true rfl) (Nat.le_of_ble_eq_true rfl) rfl (daX11_ends_0 13 rfl) hc1 rfl ?_
    refine GM_iconst (pc := 24) 4 (daX11_ends_0 14 rfl) rfl (R32_b rfl) ?_
    refine GM_aload_n (pc := 25) 0 rfl (daX11_ends_0 15 rfl) rfl ?_
    refine GM_getf (pc := 26) 11 7 0 7 kf_X11_115 (Nat.le_of_ble_eq_true rfl) (Nat.le_of_ble_eq_true rfl) rfl (daX11_ends_0 16 rfl) hc1 rfl ?_
    obtain ⟨hc6, h⟩ := chk_inv h
    obtain ⟨μ7, hμ7, h⟩ := lm_inv h
    refine GM_iast (pc := 29) (daX11_ends_0 17 rfl) hc6.1 (by decide) hc6.2 ?_
    refine GM_mem hμ7 ?_
    cases h
    exact GM_vret (pc := 30) (daX11_ends_0 18 rfl) rfl hK
  · skip
    rw [if_neg c2] at h
    cases h
    exact GM_vret (pc := 7) (daX11_ends_0 3 rfl) rfl hK
theorem tX11_ends (l : Launch) {v0 : Int} {μ : Mm} {t : Mm} (h : fX11_ends v0 μ = some t) : Ct l yX11_ends mX11_ends [(3, v0)] μ ([], t, 0, 0) :=
  Ct_of (by decide +kernel) rfl rfl (Nat.le_of_ble_eq_true rfl) (fun _ _ _ => trivial) (gX11_ends_0 l h ⟨rfl, rfl⟩)
def mX11_also : MI := (RX11, cX11_also, 3, none, "also", 0, 0, fun _ _ _ => True)
theorem cwX11_also : CWd yX11_also mX11_also 2 := ⟨ki_X11, kk_X11_also, ⟨by decide, by decide⟩, rfl⟩
def dtX11_also_0 : List (Nat × Instr × Nat) := [(0, .aload_n 0, 1), (1, .getfield 140, 3), (4, .ifCond .ne 42, 3), (7, .aload_n 0, 1), (8, .getfield 7, 3), (11, .iconst 3, 1), (12, .iaload, 1), (13, .ifCond .eq 34, 3), (16, .aload_n 0, 1), (17, .getfield 7, 3), (20, .iconst 4, 1), (21, .iaload, 1), (22, .iload_n 2, 1), (23, .if_icmp .lt 23, 3), (26, .aload_n 0, 1), (27, .getfield 7, 3), (30, .iconst 4, 1), (31, .iaload, 1), (32, .iload_n 2, 1), (33, .if_icmp .ne 14, 3), (36, .aload_n 0, 1), (37, .getfield 7, 3), (40, .iconst 3, 1), (41, .iaload, 1), (42, .iload_n 1, 1), (43, .if_icmp .gt 4, 3), (46, .return_, 1), (47, .aload_n 0, 1), (48, .getfield 7, 3), (51, .iconst 3, 1), (52, .iload_n 1, 1), (53, .iastore, 1), (54, .aload_n 0, 1), (55, .getfield 7, 3), (58, .iconst 4, 1), (59, .iload_n 2, 1), (60, .iastore, 1), (61, .return_, 1)]
theorem ddX11_also_0 : (dtX11_also_0.all fun e => decide (decode mX11_also.2.1 e.1 = .ok (e.2.1, e.2.2))) = true := by decide +kernel
theorem daX11_also_0 (j : Nat) {pc n : Nat} {i : Instr} (h : dtX11_also_0[j]? = some (pc, i, n)) : decode mX11_also.2.1 pc = .ok (i, n) := dec_of (c := mX11_also.2.1) ddX11_also_0 h
def jX11_also_47 (v0 v1 v2 : Int) (μ : Mm) : Option Mm :=
  chk (KD v0 = 11) (
  chk (KD (μ v0 0) = 12 ∧ 3 < LN (μ v0 0)) (
  lm (mst μ (μ v0 0) 3 v1) fun μ3 =>
  chk (KD (μ3 v0 0) = 12 ∧ 4 < LN (μ3 v0 0)) (
  lm (mst μ3 (μ3 v0 0) 4 v2) fun μ5 =>
  some μ5)))
def fX11_also (v0 v1 v2 : Int) (μ : Mm) : Option Mm :=
  chk (KD v0 = 11) (
  if μ v0 11 = 0 then
    chk (KD (μ v0 0) = 12 ∧ 3 < LN (μ v0 0)) (
    if μ (μ v0 0) 3 = 0 then
      jX11_also_47 v0 v1 v2 μ
    else
      chk (4 < LN (μ v0 0)) (
      if μ (μ v0 0) 4 < v2 then
        some μ
      else
        if μ (μ v0 0) 4 = v2 then
          if v1 < μ (μ v0 0) 3 then
            jX11_also_47 v0 v1 v2 μ
          else
            some μ
        else
          jX11_also_47 v0 v1 v2 μ))
  else
    some μ)
set_option maxRecDepth 20000 in
theorem gX11_also_47 (l : Launch) {F : FI} {v0 v1 v2 : Int} {μ : Mm} {t : Mm} (h : jX11_also_47 v0 v1 v2 μ = some t) (hK : F.1 = [] ∧ F.2.1 = t) : GM l mX11_also F 0 0 47 [(0, (3, v0)), (1, (0, v1)), (2, (0, v2))] [] μ := by
  unfold jX11_also_47 at h
  refine GM_aload_n (pc := 47) 0 rfl (daX11_also_0 27 rfl) rfl ?_
  obtain ⟨hc1, h⟩ := chk_inv h
  refine GM_getf (pc := 48) 11 0 3 0 kf_X11_7 (Nat.le_of_ble_eq_true rfl) (Nat.le_of_ble_eq_true rfl) rfl (daX11_also_0 28 rfl) hc1 rfl ?_
  refine GM_iconst (pc := 51) 3 (daX11_also_0 29 rfl) rfl (R32_b rfl) ?_
  refine GM_iload_n (pc := 52) 1 rfl (daX11_also_0 30 rfl) rfl ?_
  obtain ⟨hc2, h⟩ := chk_inv h
  obtain ⟨μ3, hμ3, h⟩ := lm_inv h
  refine GM_iast (pc := 53) (daX11_also_0 31 rfl) hc2.1 (by decide) hc2.2 ?_
  refine GM_mem hμ3 ?_
  refine GM_aload_n (pc := 54) 0 rfl (daX11_also_0 32 rfl) rfl ?_
  refine GM_getf (pc := 55) 11 0 3 0 kf_X11_7 (Nat.le_of_ble_eq_true rfl) (Nat.le_of_ble_eq_true rfl) rfl (daX11_also_0 33 rfl) hc1 rfl ?_
  refine GM_iconst (pc := 58) 4 (daX11_also_0 34 rfl) rfl (R32_b rfl) ?_
  refine GM_iload_n (pc := 59) 2 rfl (daX11_also_0 35 rfl) rfl ?_
  obtain ⟨hc4, h⟩ := chk_inv h
  obtain ⟨μ5, hμ5, h⟩ := lm_inv h
  refine GM_iast (pc := 60) (daX11_also_0 36 rfl) hc4.1 (by decide) hc4.2 ?_
  refine GM_mem hμ5 ?_
  cases h
  exact GM_vret (pc := 61) (daX11_also_0 37 rfl) rfl hK
set_option maxRecDepth 20000 in
theorem gX11_also_0 (l : Launch) {F : FI} {v0 v1 v2 : Int} {μ : Mm} {t : Mm} (h : fX11_also v0 v1 v2 μ = some t) (hK : F.1 = [] ∧ F.2.1 = t) : GM l mX11_also F 0 0 0 [(0, (3, v0)), (1, (0, v1)), (2, (0, v2))] [] μ := by
  unfold fX11_also at h
  refine GM_aload_n (pc := 0) 0 rfl (daX11_also_0 0 rfl) rfl ?_
  obtain ⟨hc6, h⟩ := chk_inv h
  refine GM_getf (pc := 1) 11 11 0 11 kf_X11_140 (Nat.le_of_ble_eq_true rfl) (Nat.le_of_ble_eq_true rfl) rfl (daX11_also_0 1 rfl) hc6 rfl ?_
  refine GM_if_ne (pc := 4) 46 (daX11_also_0 2 rfl) rfl (fun c7 => ?_) (fun c7 => ?_)
  · skip
    rw [if_neg c7] at h
    cases h
    exact GM_vret (pc := 46) (daX11_also_0 26 rfl) rfl hK
  · skip
    rw [if_pos c7] at h
    refine GM_aload_n (pc := 7) 0 rfl (daX11_also_0 3 rfl) rfl ?_
    refine GM_getf (pc := 8) 11 0 3 0 kf_X11_7 (Nat.le_of_ble_eq_true rfl) (Nat.le_of_ble_eq_true rfl) rfl (daX11_also_0 4 rfl) hc6 rfl ?_
    refine GM_iconst (pc := 11) 3 (daX11_also_0 5 rfl) rfl (R32_b rfl) ?_
    obtain ⟨hc8, h⟩ := chk_inv h
    refine GM_iald (pc := 12) (daX11_also_0 6 rfl) hc8.1 (by decide) hc8.2 ?_
    refine GM_if_eq (pc := 13) 47 (daX11_also_0 7 rfl) rfl (fun c9 => ?_) (fun c9 => ?_)
    · skip
      rw [if_pos c9] at h
      exact gX11_also_47 l h hK
    · skip
      rw [if_neg c9] at h
      refine GM_aload_n (pc := 16) 0 rfl (daX11_also_0 8 rfl) rfl ?_
      refine GM_getf (pc := 17) 11 0 3 0 kf_X11_7 (Nat.le_of_ble_eq_true rfl) (Nat.le_of_ble_eq_true rfl) rfl (daX11_also_0 9 rfl) hc6 rfl ?_
      refine GM_iconst (pc := 20) 4 (daX11_also_0 10 rfl) rfl (R32_b rfl) ?_
      obtain ⟨hc10, h⟩ := chk_inv h
      refine GM_iald (pc := 21) (daX11_also_0 11 rfl) hc8.1 (by decide) hc10 ?_
      refine GM_iload_n (pc := 22) 2 rfl (daX11_also_0 12 rfl) rfl ?_
      refine GM_icmp_lt (pc := 23) 46 (daX11_also_0 13 rfl) rfl (fun c11 => ?_) (fun c11 => ?_)
      · skip
        rw [if_pos c11] at h
        cases h
        exact GM_vret (pc := 46) (daX11_also_0 26 rfl) rfl hK
      · skip
        rw [if_neg c11] at h
        refine GM_aload_n (pc := 26) 0 rfl (daX11_also_0 14 rfl) rfl ?_
        refine GM_getf (pc := 27) 11 0 3 0 kf_X11_7 (Nat.le_of_ble_eq_true rfl) (Nat.le_of_ble_eq_true rfl) rfl (daX11_also_0 15 rfl) hc6 rfl ?_
        refine GM_iconst (pc := 30) 4 (daX11_also_0 16 rfl) rfl (R32_b rfl) ?_
        refine GM_iald (pc := 31) (daX11_also_0 17 rfl) hc8.1 (by decide) hc10 ?_
        refine GM_iload_n (pc := 32) 2 rfl (daX11_also_0 18 rfl) rfl ?_
        refine GM_icmp_ne (pc := 33) 47 (daX11_also_0 19 rfl) rfl (fun c12 => ?_) (fun c12 => ?_)
        · skip
          rw [if_neg c12] at h
          exact gX11_also_47 l h hK
        · skip
          rw [if_pos c12] at h
          refine GM_aload_n (pc := 36) 0 rfl (daX11_also_0 20 rfl) rfl ?_
          refine GM_getf (pc := 37) 11 0 3 0 kf_X11_7 (Nat.le_of_ble_eq_true rfl) (Nat.le_of_ble_eq_true rfl) rfl (daX11_also_0 21 rfl) hc6 rfl ?_
          refine GM_iconst (pc := 40) 3 (daX11_also_0 22 rfl) rfl (R32_b rfl) ?_
          refine GM_iald (pc := 41) (daX11_also_0 23 rfl) hc8.1 (by decide) hc8.2 ?_
          refine GM_iload_n (pc := 42) 1 rfl (daX11_also_0 24 rfl) rfl ?_
          refine GM_icmp_gt (pc := 43) 47 (daX11_also_0 25 rfl) rfl (fun c13 => ?_) (fun c13 => ?_)
          · skip
            rw [if_pos c13] at h
            exact gX11_also_47 l h hK
          · skip
            rw [if_neg c13] at h
            cases h
            exact GM_vret (pc := 46) (daX11_also_0 26 rfl) rfl hK
theorem tX11_also (l : Launch) {v0 v1 v2 : Int} {μ : Mm} {t : Mm} (h : fX11_also v0 v1 v2 μ = some t) : Ct l yX11_also mX11_also [(3, v0), (0, v1), (0, v2)] μ ([], t, 0, 0) :=
  Ct_of (by decide +kernel) rfl rfl (Nat.le_of_ble_eq_true rfl) (fun _ _ _ => trivial) (gX11_also_0 l h ⟨rfl, rfl⟩)
def mX11_numbered : MI := (RX11, cX11_numbered, 4, (some .int), "numbered", 3, 67, fun _ _ _ => True)
theorem cwX11_numbered : CWd yX11_numbered mX11_numbered 2 := ⟨ki_X11, kk_X11_numbered, ⟨by decide, by decide⟩, rfl⟩
def dtX11_numbered_0 : List (Nat × Instr × Nat) := [(0, .aload_n 0, 1), (1, .getfield 140, 3), (4, .ifCond .ne 11, 3), (7, .aload_n 0, 1), (8, .getfield 118, 3), (11, .iconst 1, 1), (12, .if_icmp .eq 9, 3), (15, .aload_n 0, 1), (16, .invokevirtual 144, 3), (19, .iload_n 1, 1), (20, .ireturn, 1), (21, .aload_n 0, 1), (22, .getfield 137, 3), (25, .istore_n 3, 1), (26, .iload_n 3, 1), (27, .iload_n 1, 1), (28, .iload_n 2, 1), (29, .invokestatic 147, 3), (32, .ifCond .ne 12, 3), (35, .aload_n 0, 1), (36, .iconst 2, 1), (37, .aload_n 0, 1), (38, .getfield 115, 3), (41, .invokevirtual 151, 3), (44, .aload_n 0, 1), (45, .invokevirtual 154, 3), (48, .iload_n 3, 1), (49, .iload_n 1, 1), (50, .iload_n 2, 1), (51, .invokestatic 147, 3), (54, .ifCond .eq 7, 3), (57, .iload_n 3, 1), (58, .goto 4, 3), (61, .iload_n 1, 1), (62, .ireturn, 1)]
theorem ddX11_numbered_0 : (dtX11_numbered_0.all fun e => decide (decode mX11_numbered.2.1 e.1 = .ok (e.2.1, e.2.2))) = true := by decide +kernel
theorem daX11_numbered_0 (j : Nat) {pc n : Nat} {i : Instr} (h : dtX11_numbered_0[j]? = some (pc, i, n)) : decode mX11_numbered.2.1 pc = .ok (i, n) := dec_of (c := mX11_numbered.2.1) ddX11_numbered_0 h
def jX11_numbered_15 (v0 v1 : Int) (μ : Mm) : Option (Int × Mm) :=
  chk (KD v0 = 11) (
  (fX11_ends v0 μ).bind fun μ2 =>
  some (v1, μ2))
def jX11_numbered_44 (v0 v1 v2 v3 : Int) (μ : Mm) : Option (Int × Mm) :=
  chk (KD v0 = 11) (
  (fX11_advance v0 μ).bind fun μ4 =>
  if isIn v3 v1 v2 = 0 then
    some (v1, μ4)
  else
    some (v3, μ4))
def fX11_numbered (v0 v1 v2 : Int) (μ : Mm) : Option (Int × Mm) :=
  chk (KD v0 = 11) (
  if μ v0 11 = 0 then
    if μ v0 8 = 1 then
      if isIn (μ v0 9) v1 v2 = 0 then
        (fX11_also v0 2 (μ v0 7) μ).bind fun μ10 =>
        jX11_numbered_44 v0 v1 v2 (μ v0 9) μ10
      else
        jX11_numbered_44 v0 v1 v2 (μ v0 9) μ
    else
      jX11_numbered_15 v0 v1 μ
  else
    jX11_numbered_15 v0 v1 μ)
set_option maxRecDepth 20000 in
theorem gX11_numbered_15 (l : Launch) {F : FI} {v0 v1 : Int} {μ : Mm} {t : (Int × Mm)} (h : jX11_numbered_15 v0 v1 μ = some t) (hK : F.1 = [(0, t.1)] ∧ F.2.1 = t.2) : GM l mX11_numbered F 0 0 15 [(0, (3, v0)), (1, (0, v1))] [] μ := by
  unfold jX11_numbered_15 at h
  refine GM_aload_n (pc := 15) 0 rfl (daX11_numbered_0 7 rfl) rfl ?_
  obtain ⟨hc1, h⟩ := chk_inv h
  obtain ⟨μ2, hf2, h⟩ := Option.bind_eq_some_iff.mp h
  refine GM_callV0 (pc := 16) [] (tX11_ends l hf2) cwX11_ends 11 (Nat.le_of_ble_eq_true rfl) rfl kv_X11_ends ke_X11_ends km_X11_144 hc1 ⟨Nat.le_of_ble_eq_true rfl, Nat.le_of_ble_eq_true rfl⟩ (Nat.le_of_ble_eq_true rfl) (Nat.le_of_ble_eq_true rfl) (daX11_numbered_0 8 rfl) ?_
  refine GM_iload_n (pc := 19) 1 rfl (daX11_numbered_0 9 rfl) rfl ?_
  cases h
  exact GM_iret (pc := 20) (daX11_numbered_0 10 rfl) rfl hK
set_option maxRecDepth 20000 in
theorem gX11_numbered_44 (l : Launch) {F : FI} {v0 v1 v2 v3 : Int} {μ : Mm} {t : (Int × Mm)} (h : jX11_numbered_44 v0 v1 v2 v3 μ = some t) (hK : F.1 = [(0, t.1)] ∧ F.2.1 = t.2) : GM l mX11_numbered F 0 0 44 [(0, (3, v0)), (1, (0, v1)), (2, (0, v2)), (3, (0, v3))] [] μ := by
  unfold jX11_numbered_44 at h
  refine GM_aload_n (pc := 44) 0 rfl (daX11_numbered_0 24 rfl) rfl ?_
  obtain ⟨hc3, h⟩ := chk_inv h
  obtain ⟨μ4, hf4, h⟩ := Option.bind_eq_some_iff.mp h
  refine GM_callV0 (pc := 45) [] (tX11_advance l hf4) cwX11_advance 11 (Nat.le_of_ble_eq_true rfl) rfl kv_X11_advance ke_X11_advance km_X11_154 hc3 ⟨Nat.le_of_ble_eq_true rfl, Nat.le_of_ble_eq_true rfl⟩ (Nat.le_of_ble_eq_true rfl) (Nat.le_of_ble_eq_true rfl) (daX11_numbered_0 25 rfl) ?_
  refine GM_iload_n (pc := 48) 3 rfl (daX11_numbered_0 26 rfl) rfl ?_
  refine GM_iload_n (pc := 49) 1 rfl (daX11_numbered_0 27 rfl) rfl ?_
  refine GM_iload_n (pc := 50) 2 rfl (daX11_numbered_0 28 rfl) rfl ?_
  refine GM_callS0 (pc := 51) [(0, v3), (0, v1), (0, v2)] (tX11_isIn l (fX11_isIn_eq v3 v1 v2)) cwX11_isIn ks_X11_isIn km_X11_147 ⟨Nat.le_of_ble_eq_true rfl, Nat.le_of_ble_eq_true rfl⟩ (Nat.le_of_ble_eq_true rfl) (Nat.le_of_ble_eq_true rfl) (daX11_numbered_0 29 rfl) ?_
  refine GM_if_eq (pc := 54) 61 (daX11_numbered_0 30 rfl) rfl (fun c5 => ?_) (fun c5 => ?_)
  · skip
    rw [if_pos c5] at h
    refine GM_iload_n (pc := 61) 1 rfl (daX11_numbered_0 33 rfl) rfl ?_
    cases h
    exact GM_iret (pc := 62) (daX11_numbered_0 34 rfl) rfl hK
  · skip
    rw [if_neg c5] at h
    refine GM_iload_n (pc := 57) 3 rfl (daX11_numbered_0 31 rfl) rfl ?_
    refine GM_goto (pc := 58) 62 (daX11_numbered_0 32 rfl) rfl ?_
    cases h
    exact GM_iret (pc := 62) (daX11_numbered_0 34 rfl) rfl hK
set_option maxRecDepth 20000 in
theorem gX11_numbered_0 (l : Launch) {F : FI} {v0 v1 v2 : Int} {μ : Mm} {t : (Int × Mm)} (h : fX11_numbered v0 v1 v2 μ = some t) (hK : F.1 = [(0, t.1)] ∧ F.2.1 = t.2) : GM l mX11_numbered F 0 0 0 [(0, (3, v0)), (1, (0, v1)), (2, (0, v2))] [] μ := by
  unfold fX11_numbered at h
  refine GM_aload_n (pc := 0) 0 rfl (daX11_numbered_0 0 rfl) rfl ?_
  obtain ⟨hc6, h⟩ := chk_inv h
  refine GM_getf (pc := 1) 11 11 0 11 kf_X11_140 (Nat.le_of_ble_eq_true rfl) (Nat.le_of_ble_eq_true rfl) rfl (daX11_numbered_0 1 rfl) hc6 rfl ?_
  refine GM_if_ne (pc := 4) 15 (daX11_numbered_0 2 rfl) rfl (fun c7 => ?_) (fun c7 => ?_)
  · skip
    rw [if_neg c7] at h
    refine GM_pick [0, 1] rfl ?_
    exact gX11_numbered_15 l h hK
  · skip
    rw [if_pos c7] at h
    refine GM_aload_n (pc := 7) 0 rfl (daX11_numbered_0 3 rfl) rfl ?_
    refine GM_getf (pc := 8) 11 8 0 8 kf_X11_118 (Nat.le_of_ble_eq_true rfl) (Nat.le_of_ble_eq_true rfl) rfl (daX11_numbered_0 4 rfl) hc6 rfl ?_
    refine GM_iconst (pc := 11) 1 (daX11_numbered_0 5 rfl) rfl (R32_b rfl) ?_
    refine GM_icmp_eq (pc := 12) 21 (daX11_numbered_0 6 rfl) rfl (fun c8 => ?_) (fun c8 => ?_)
    · skip
      rw [if_pos c8] at h
      refine GM_aload_n (pc := 21) 0 rfl (daX11_numbered_0 11 rfl) rfl ?_
      refine GM_getf (pc := 22) 11 9 0 9 kf_X11_137 (Nat.le_of_ble_eq_true rfl) (Nat.le_of_ble_eq_true rfl) rfl (daX11_numbered_0 12 rfl) hc6 rfl ?_
      refine GM_istore_n (L' := [(3, (0, μ v0 9)), (0, (3, v0)), (1, (0, v1)), (2, (0, v2))]) (pc := 25) (daX11_numbered_0 13 rfl) rfl (Nat.le_of_ble_eq_true rfl) rfl ?_
      refine GM_iload_n (pc := 26) 0 rfl (daX11_numbered_0 14 rfl) rfl ?_
      refine GM_iload_n (pc := 27) 2 rfl (daX11_numbered_0 15 rfl) rfl ?_
      refine GM_iload_n (pc := 28) 3 rfl (daX11_numbered_0 16 rfl) rfl ?_
      refine GM_callS0 (pc := 29) [(0, μ v0 9), (0, v1), (0, v2)] (tX11_isIn l (fX11_isIn_eq (μ v0 9) v1 v2)) cwX11_isIn ks_X11_isIn km_X11_147 ⟨Nat.le_of_ble_eq_true rfl, Nat.le_of_ble_eq_true rfl⟩ (Nat.le_of_ble_eq_true rfl) (Nat.le_of_ble_eq_true rfl) (daX11_numbered_0 17 rfl) ?_
      refine GM_if_ne (pc := 32) 44 (daX11_numbered_0 18 rfl) rfl (fun c9 => ?_) (fun c9 => ?_)
      · skip
        rw [if_neg c9] at h
        refine GM_pick [1, 2, 3, 0] rfl ?_
        exact gX11_numbered_44 l h hK
      · skip
        rw [if_pos c9] at h
        refine GM_aload_n (pc := 35) 1 rfl (daX11_numbered_0 19 rfl) rfl ?_
        refine GM_iconst (pc := 36) 2 (daX11_numbered_0 20 rfl) rfl (R32_b rfl) ?_
        refine GM_aload_n (pc := 37) 1 rfl (daX11_numbered_0 21 rfl) rfl ?_
        refine GM_getf (pc := 38) 11 7 0 7 kf_X11_115 (Nat.le_of_ble_eq_true rfl) (Nat.le_of_ble_eq_true rfl) rfl (daX11_numbered_0 22 rfl) hc6 rfl ?_
        obtain ⟨μ10, hf10, h⟩ := Option.bind_eq_some_iff.mp h
        refine GM_callV0 (pc := 41) [(0, 2), (0, μ v0 7)] (tX11_also l hf10) cwX11_also 11 (Nat.le_of_ble_eq_true rfl) rfl kv_X11_also ke_X11_also km_X11_151 hc6 ⟨Nat.le_of_ble_eq_true rfl, Nat.le_of_ble_eq_true rfl⟩ (Nat.le_of_ble_eq_true rfl) (Nat.le_of_ble_eq_true rfl) (daX11_numbered_0 23 rfl) ?_
        refine GM_pick [1, 2, 3, 0] rfl ?_
        exact gX11_numbered_44 l h hK
    · skip
      rw [if_neg c8] at h
      refine GM_pick [0, 1] rfl ?_
      exact gX11_numbered_15 l h hK
theorem tX11_numbered (l : Launch) {v0 v1 v2 : Int} {μ : Mm} {t : (Int × Mm)} (h : fX11_numbered v0 v1 v2 μ = some t) : Ct l yX11_numbered mX11_numbered [(3, v0), (0, v1), (0, v2)] μ ([(0, t.1)], t.2, 0, 0) :=
  Ct_of (by decide +kernel) rfl rfl (Nat.le_of_ble_eq_true rfl) (fun _ _ _ => trivial) (gX11_numbered_0 l h ⟨rfl, rfl⟩)
def mX11_takes : MI := (RX11, cX11_takes, 4, (some .int), "takes", 3, 67, fun _ _ _ => True)
theorem cwX11_takes : CWd yX11_takes mX11_takes 1 := ⟨ki_X11, kk_X11_takes, ⟨by decide, by decide⟩, rfl⟩
def dtX11_takes_0 : List (Nat × Instr × Nat) := [(0, .aload_n 0, 1), (1, .getfield 118, 3), (4, .iconst 3, 1), (5, .if_icmp .ne 32, 3), (8, .iload_n 1, 1), (9, .ifCond .eq 15, 3), (12, .aload_n 0, 1), (13, .getfield 131, 3), (16, .bipush 7, 2), (18, .if_icmp .gt 19, 3), (21, .goto 12, 3), (24, .aload_n 0, 1), (25, .getfield 131, 3), (28, .bipush 11, 2), (30, .if_icmp .lt 7, 3), (33, .iconst 1, 1), (34, .goto 4, 3), (37, .iconst 0, 1), (38, .istore_n 2, 1), (39, .aload_n 0, 1), (40, .getfield 140, 3), (43, .ifCond .ne 7, 3), (46, .iload_n 2, 1), (47, .ifCond .ne 9, 3), (50, .aload_n 0, 1), (51, .invokevirtual 144, 3), (54, .iconst 0, 1), (55, .ireturn, 1), (56, .aload_n 0, 1), (57, .getfield 131, 3), (60, .istore_n 3, 1), (61, .aload_n 0, 1), (62, .invokevirtual 154, 3), (65, .iload_n 3, 1), (66, .ireturn, 1)]
theorem ddX11_takes_0 : (dtX11_takes_0.all fun e => decide (decode mX11_takes.2.1 e.1 = .ok (e.2.1, e.2.2))) = true := by decide +kernel
theorem daX11_takes_0 (j : Nat) {pc n : Nat} {i : Instr} (h : dtX11_takes_0[j]? = some (pc, i, n)) : decode mX11_takes.2.1 pc = .ok (i, n) := dec_of (c := mX11_takes.2.1) ddX11_takes_0 h
def jX11_takes_50 (v0 : Int) (μ : Mm) : Option (Int × Mm) :=
  chk (KD v0 = 11) (
  (fX11_ends v0 μ).bind fun μ2 =>
  some (0, μ2))
def jX11_takes_38 (v0 s0 : Int) (μ : Mm) : Option (Int × Mm) :=
  chk (KD v0 = 11) (
  if μ v0 11 = 0 then
    if s0 = 0 then
      jX11_takes_50 v0 μ
    else
      (fX11_advance v0 μ).bind fun μ6 =>
      some (μ v0 10, μ6)
  else
    jX11_takes_50 v0 μ)
def jX11_takes_37 (v0 : Int) (μ : Mm) : Option (Int × Mm) :=
  jX11_takes_38 v0 0 μ
def jX11_takes_33 (v0 : Int) (μ : Mm) : Option (Int × Mm) :=
  jX11_takes_38 v0 1 μ
def fX11_takes (v0 v1 : Int) (μ : Mm) : Option (Int × Mm) :=
  chk (KD v0 = 11) (
  if μ v0 8 = 3 then
    if v1 = 0 then
      if μ v0 10 < 11 then
        jX11_takes_37 v0 μ
      else
        jX11_takes_33 v0 μ
    else
      if 7 < μ v0 10 then
        jX11_takes_37 v0 μ
      else
        jX11_takes_33 v0 μ
  else
    jX11_takes_37 v0 μ)
set_option maxRecDepth 20000 in
theorem gX11_takes_50 (l : Launch) {F : FI} {v0 : Int} {μ : Mm} {t : (Int × Mm)} (h : jX11_takes_50 v0 μ = some t) (hK : F.1 = [(0, t.1)] ∧ F.2.1 = t.2) : GM l mX11_takes F 0 0 50 [(0, (3, v0))] [] μ := by
  unfold jX11_takes_50 at h
  refine GM_aload_n (pc := 50) 0 rfl (daX11_takes_0 24 rfl) rfl ?_
  obtain ⟨hc1, h⟩ := chk_inv h
  obtain ⟨μ2, hf2, h⟩ := Option.bind_eq_some_iff.mp h
  refine GM_callV0 (pc := 51) [] (tX11_ends l hf2) cwX11_ends 11 (Nat.le_of_ble_eq_true rfl) rfl kv_X11_ends ke_X11_ends km_X11_144 hc1 ⟨Nat.le_of_ble_eq_true rfl, Nat.le_of_ble_eq_true rfl⟩ (Nat.le_of_ble_eq_true rfl) (Nat.le_of_ble_eq_true rfl) (daX11_takes_0 25 rfl) ?_
  refine GM_iconst (pc := 54) 0 (daX11_takes_0 26 rfl) rfl (R32_b rfl) ?_
  cases h
  exact GM_iret (pc := 55) (daX11_takes_0 27 rfl) rfl hK
set_option maxRecDepth 20000 in
theorem gX11_takes_38 (l : Launch) {F : FI} {v0 s0 : Int} {μ : Mm} {t : (Int × Mm)} (h : jX11_takes_38 v0 s0 μ = some t) (hK : F.1 = [(0, t.1)] ∧ F.2.1 = t.2) : GM l mX11_takes F 0 0 38 [(0, (3, v0))] [(0, s0)] μ := by
  unfold jX11_takes_38 at h
  refine GM_istore_n (L' := [(2, (0, s0)), (0, (3, v0))]) (pc := 38) (daX11_takes_0 18 rfl) rfl (Nat.le_of_ble_eq_true rfl) rfl ?_
  refine GM_aload_n (pc := 39) 1 rfl (daX11_takes_0 19 rfl) rfl ?_
  obtain ⟨hc3, h⟩ := chk_inv h
  refine GM_getf (pc := 40) 11 11 0 11 kf_X11_140 (Nat.le_of_ble_eq_true rfl) (Nat.le_of_ble_eq_true rfl) rfl (daX11_takes_0 20 rfl) hc3 rfl ?_
  refine GM_if_ne (pc := 43) 50 (daX11_takes_0 21 rfl) rfl (fun c4 => ?_) (fun c4 => ?_)
  · skip
    rw [if_neg c4] at h
    refine GM_pick [1] rfl ?_
    exact gX11_takes_50 l h hK
  · skip
    rw [if_pos c4] at h
    refine GM_iload_n (pc := 46) 0 rfl (daX11_takes_0 22 rfl) rfl ?_
    refine GM_if_ne (pc := 47) 56 (daX11_takes_0 23 rfl) rfl (fun c5 => ?_) (fun c5 => ?_)
    · skip
      rw [if_neg c5] at h
      refine GM_aload_n (pc := 56) 1 rfl (daX11_takes_0 28 rfl) rfl ?_
      refine GM_getf (pc := 57) 11 10 0 10 kf_X11_131 (Nat.le_of_ble_eq_true rfl) (Nat.le_of_ble_eq_true rfl) rfl (daX11_takes_0 29 rfl) hc3 rfl ?_
      refine GM_istore_n (L' := [(3, (0, μ v0 10)), (2, (0, s0)), (0, (3, v0))]) (pc := 60) (daX11_takes_0 30 rfl) rfl (Nat.le_of_ble_eq_true rfl) rfl ?_
      refine GM_aload_n (pc := 61) 2 rfl (daX11_takes_0 31 rfl) rfl ?_
      obtain ⟨μ6, hf6, h⟩ := Option.bind_eq_some_iff.mp h
      refine GM_callV0 (pc := 62) [] (tX11_advance l hf6) cwX11_advance 11 (Nat.le_of_ble_eq_true rfl) rfl kv_X11_advance ke_X11_advance km_X11_154 hc3 ⟨Nat.le_of_ble_eq_true rfl, Nat.le_of_ble_eq_true rfl⟩ (Nat.le_of_ble_eq_true rfl) (Nat.le_of_ble_eq_true rfl) (daX11_takes_0 32 rfl) ?_
      refine GM_iload_n (pc := 65) 0 rfl (daX11_takes_0 33 rfl) rfl ?_
      cases h
      exact GM_iret (pc := 66) (daX11_takes_0 34 rfl) rfl hK
    · skip
      rw [if_pos c5] at h
      refine GM_pick [1] rfl ?_
      exact gX11_takes_50 l h hK
set_option maxRecDepth 20000 in
theorem gX11_takes_37 (l : Launch) {F : FI} {v0 : Int} {μ : Mm} {t : (Int × Mm)} (h : jX11_takes_37 v0 μ = some t) (hK : F.1 = [(0, t.1)] ∧ F.2.1 = t.2) : GM l mX11_takes F 0 0 37 [(0, (3, v0))] [] μ := by
  unfold jX11_takes_37 at h
  refine GM_iconst (pc := 37) 0 (daX11_takes_0 17 rfl) rfl (R32_b rfl) ?_
  exact gX11_takes_38 l h hK
set_option maxRecDepth 20000 in
theorem gX11_takes_33 (l : Launch) {F : FI} {v0 : Int} {μ : Mm} {t : (Int × Mm)} (h : jX11_takes_33 v0 μ = some t) (hK : F.1 = [(0, t.1)] ∧ F.2.1 = t.2) : GM l mX11_takes F 0 0 33 [(0, (3, v0))] [] μ := by
  unfold jX11_takes_33 at h
  refine GM_iconst (pc := 33) 1 (daX11_takes_0 15 rfl) rfl (R32_b rfl) ?_
  refine GM_goto (pc := 34) 38 (daX11_takes_0 16 rfl) rfl ?_
  exact gX11_takes_38 l h hK
set_option maxRecDepth 20000 in
theorem gX11_takes_0 (l : Launch) {F : FI} {v0 v1 : Int} {μ : Mm} {t : (Int × Mm)} (h : fX11_takes v0 v1 μ = some t) (hK : F.1 = [(0, t.1)] ∧ F.2.1 = t.2) : GM l mX11_takes F 0 0 0 [(0, (3, v0)), (1, (0, v1))] [] μ := by
  unfold fX11_takes at h
  refine GM_aload_n (pc := 0) 0 rfl (daX11_takes_0 0 rfl) rfl ?_
  obtain ⟨hc7, h⟩ := chk_inv h
  refine GM_getf (pc := 1) 11 8 0 8 kf_X11_118 (Nat.le_of_ble_eq_true rfl) (Nat.le_of_ble_eq_true rfl) rfl (daX11_takes_0 1 rfl) hc7 rfl ?_
  refine GM_iconst (pc := 4) 3 (daX11_takes_0 2 rfl) rfl (R32_b rfl) ?_
  refine GM_icmp_ne (pc := 5) 37 (daX11_takes_0 3 rfl) rfl (fun c8 => ?_) (fun c8 => ?_)
  · skip
    rw [if_neg c8] at h
    refine GM_pick [0] rfl ?_
    exact gX11_takes_37 l h hK
  · skip
    rw [if_pos c8] at h
    refine GM_iload_n (pc := 8) 1 rfl (daX11_takes_0 4 rfl) rfl ?_
    refine GM_if_eq (pc := 9) 24 (daX11_takes_0 5 rfl) rfl (fun c9 => ?_) (fun c9 => ?_)
    · skip
      rw [if_pos c9] at h
      refine GM_aload_n (pc := 24) 0 rfl (daX11_takes_0 11 rfl) rfl ?_
      refine GM_getf (pc := 25) 11 10 0 10 kf_X11_131 (Nat.le_of_ble_eq_true rfl) (Nat.le_of_ble_eq_true rfl) rfl (daX11_takes_0 12 rfl) hc7 rfl ?_
      refine GM_bipush (pc := 28) 11 (daX11_takes_0 13 rfl) rfl (R32_b rfl) ?_
      refine GM_icmp_lt (pc := 30) 37 (daX11_takes_0 14 rfl) rfl (fun c10 => ?_) (fun c10 => ?_)
      · skip
        rw [if_pos c10] at h
        refine GM_pick [0] rfl ?_
        exact gX11_takes_37 l h hK
      · skip
        rw [if_neg c10] at h
        refine GM_pick [0] rfl ?_
        exact gX11_takes_33 l h hK
    · skip
      rw [if_neg c9] at h
      refine GM_aload_n (pc := 12) 0 rfl (daX11_takes_0 6 rfl) rfl ?_
      refine GM_getf (pc := 13) 11 10 0 10 kf_X11_131 (Nat.le_of_ble_eq_true rfl) (Nat.le_of_ble_eq_true rfl) rfl (daX11_takes_0 7 rfl) hc7 rfl ?_
      refine GM_bipush (pc := 16) 7 (daX11_takes_0 8 rfl) rfl (R32_b rfl) ?_
      refine GM_icmp_gt (pc := 18) 37 (daX11_takes_0 9 rfl) rfl (fun c11 => ?_) (fun c11 => ?_)
      · skip
        rw [if_pos c11] at h
        refine GM_pick [0] rfl ?_
        exact gX11_takes_37 l h hK
      · skip
        rw [if_neg c11] at h
        refine GM_goto (pc := 21) 33 (daX11_takes_0 10 rfl) rfl ?_
        refine GM_pick [0] rfl ?_
        exact gX11_takes_33 l h hK
theorem tX11_takes (l : Launch) {v0 v1 : Int} {μ : Mm} {t : (Int × Mm)} (h : fX11_takes v0 v1 μ = some t) : Ct l yX11_takes mX11_takes [(3, v0), (0, v1)] μ ([(0, t.1)], t.2, 0, 0) :=
  Ct_of (by decide +kernel) rfl rfl (Nat.le_of_ble_eq_true rfl) (fun _ _ _ => trivial) (gX11_takes_0 l h ⟨rfl, rfl⟩)
def mX11_endsLine : MI := (RX11, cX11_endsLine, 1, none, "endsLine", 3, 67, fun _ _ _ => True)
theorem cwX11_endsLine : CWd yX11_endsLine mX11_endsLine 0 := ⟨ki_X11, kk_X11_endsLine, ⟨by decide, by decide⟩, rfl⟩
def dtX11_endsLine_0 : List (Nat × Instr × Nat) := [(0, .aload_n 0, 1), (1, .getfield 140, 3), (4, .ifCond .ne 18, 3), (7, .aload_n 0, 1), (8, .getfield 118, 3), (11, .iconst 2, 1), (12, .if_icmp .ne 10, 3), (15, .aload_n 0, 1), (16, .invokevirtual 154, 3), (19, .goto 7, 3), (22, .aload_n 0, 1), (23, .invokevirtual 144, 3), (26, .return_, 1)]
theorem ddX11_endsLine_0 : (dtX11_endsLine_0.all fun e => decide (decode mX11_endsLine.2.1 e.1 = .ok (e.2.1, e.2.2))) = true := by decide +kernel
theorem daX11_endsLine_0 (j : Nat) {pc n : Nat} {i : Instr} (h : dtX11_endsLine_0[j]? = some (pc, i, n)) : decode mX11_endsLine.2.1 pc = .ok (i, n) := dec_of (c := mX11_endsLine.2.1) ddX11_endsLine_0 h
def jX11_endsLine_22 (v0 : Int) (μ : Mm) : Option Mm :=
  chk (KD v0 = 11) (
  (fX11_ends v0 μ).bind fun μ2 =>
  some μ2)
def fX11_endsLine (v0 : Int) (μ : Mm) : Option Mm :=
  chk (KD v0 = 11) (
  if μ v0 11 = 0 then
    if μ v0 8 = 2 then
      (fX11_advance v0 μ).bind fun μ6 =>
      some μ6
    else
      jX11_endsLine_22 v0 μ
  else
    jX11_endsLine_22 v0 μ)
set_option maxRecDepth 20000 in
theorem gX11_endsLine_22 (l : Launch) {F : FI} {v0 : Int} {μ : Mm} {t : Mm} (h : jX11_endsLine_22 v0 μ = some t) (hK : F.1 = [] ∧ F.2.1 = t) : GM l mX11_endsLine F 0 0 22 [(0, (3, v0))] [] μ := by
  unfold jX11_endsLine_22 at h
  refine GM_aload_n (pc := 22) 0 rfl (daX11_endsLine_0 10 rfl) rfl ?_
  obtain ⟨hc1, h⟩ := chk_inv h
  obtain ⟨μ2, hf2, h⟩ := Option.bind_eq_some_iff.mp h
  refine GM_callV0 (pc := 23) [] (tX11_ends l hf2) cwX11_ends 11 (Nat.le_of_ble_eq_true rfl) rfl kv_X11_ends ke_X11_ends km_X11_144 hc1 ⟨Nat.le_of_ble_eq_true rfl, Nat.le_of_ble_eq_true rfl⟩ (Nat.le_of_ble_eq_true rfl) (Nat.le_of_ble_eq_true rfl) (daX11_endsLine_0 11 rfl) ?_
  cases h
  exact GM_vret (pc := 26) (daX11_endsLine_0 12 rfl) rfl hK
set_option maxRecDepth 20000 in
theorem gX11_endsLine_0 (l : Launch) {F : FI} {v0 : Int} {μ : Mm} {t : Mm} (h : fX11_endsLine v0 μ = some t) (hK : F.1 = [] ∧ F.2.1 = t) : GM l mX11_endsLine F 0 0 0 [(0, (3, v0))] [] μ := by
  unfold fX11_endsLine at h
  refine GM_aload_n (pc := 0) 0 rfl (daX11_endsLine_0 0 rfl) rfl ?_
  obtain ⟨hc3, h⟩ := chk_inv h
  refine GM_getf (pc := 1) 11 11 0 11 kf_X11_140 (Nat.le_of_ble_eq_true rfl) (Nat.le_of_ble_eq_true rfl) rfl (daX11_endsLine_0 1 rfl) hc3 rfl ?_
  refine GM_if_ne (pc := 4) 22 (daX11_endsLine_0 2 rfl) rfl (fun c4 => ?_) (fun c4 => ?_)
  · skip
    rw [if_neg c4] at h
    exact gX11_endsLine_22 l h hK
  · skip
    rw [if_pos c4] at h
    refine GM_aload_n (pc := 7) 0 rfl (daX11_endsLine_0 3 rfl) rfl ?_
    refine GM_getf (pc := 8) 11 8 0 8 kf_X11_118 (Nat.le_of_ble_eq_true rfl) (Nat.le_of_ble_eq_true rfl) rfl (daX11_endsLine_0 4 rfl) hc3 rfl ?_
    refine GM_iconst (pc := 11) 2 (daX11_endsLine_0 5 rfl) rfl (R32_b rfl) ?_
    refine GM_icmp_ne (pc := 12) 22 (daX11_endsLine_0 6 rfl) rfl (fun c5 => ?_) (fun c5 => ?_)
    · skip
      rw [if_neg c5] at h
      exact gX11_endsLine_22 l h hK
    · skip
      rw [if_pos c5] at h
      refine GM_aload_n (pc := 15) 0 rfl (daX11_endsLine_0 7 rfl) rfl ?_
      obtain ⟨μ6, hf6, h⟩ := Option.bind_eq_some_iff.mp h
      refine GM_callV0 (pc := 16) [] (tX11_advance l hf6) cwX11_advance 11 (Nat.le_of_ble_eq_true rfl) rfl kv_X11_advance ke_X11_advance km_X11_154 hc3 ⟨Nat.le_of_ble_eq_true rfl, Nat.le_of_ble_eq_true rfl⟩ (Nat.le_of_ble_eq_true rfl) (Nat.le_of_ble_eq_true rfl) (daX11_endsLine_0 8 rfl) ?_
      refine GM_goto (pc := 19) 26 (daX11_endsLine_0 9 rfl) rfl ?_
      cases h
      exact GM_vret (pc := 26) (daX11_endsLine_0 12 rfl) rfl hK
theorem tX11_endsLine (l : Launch) {v0 : Int} {μ : Mm} {t : Mm} (h : fX11_endsLine v0 μ = some t) : Ct l yX11_endsLine mX11_endsLine [(3, v0)] μ ([], t, 0, 0) :=
  Ct_of (by decide +kernel) rfl rfl (Nat.le_of_ble_eq_true rfl) (fun _ _ _ => trivial) (gX11_endsLine_0 l h ⟨rfl, rfl⟩)
def mX11_readHeights : MI := (RX11, cX11_readHeights, 3, none, "readHeights", 4, 90, fun _ _ _ => True)
theorem cwX11_readHeights : CWd yX11_readHeights mX11_readHeights 0 := ⟨ki_X11, kk_X11_readHeights, ⟨by decide, by decide⟩, rfl⟩
def dtX11_readHeights_0 : List (Nat × Instr × Nat) := [(0, .iconst 1, 1), (1, .istore_n 1, 1), (2, .aload_n 0, 1), (3, .getfield 140, 3), (6, .ifCond .ne 89, 3), (9, .iload_n 1, 1), (10, .ifCond .ne 11, 3), (13, .aload_n 0, 1), (14, .getfield 118, 3), (17, .iconst 1, 1), (18, .if_icmp .ne 77, 3), (21, .aload_n 0, 1), (22, .getfield 157, 3), (25, .sipush 144, 3), (28, .if_icmp .lt 20, 3), (31, .aload_n 0, 1), (32, .getfield 118, 3), (35, .iconst 1, 1), (36, .if_icmp .ne 12, 3), (39, .aload_n 0, 1), (40, .iconst 3, 1), (41, .aload_n 0, 1), (42, .getfield 115, 3), (45, .invokevirtual 151, 3), (48, .aload_n 0, 1), (49, .iconst 0, 1), (50, .sipush 999, 3), (53, .invokevirtual 160, 3), (56, .istore_n 2, 1), (57, .aload_n 0, 1), (58, .getfield 157, 3), (61, .sipush 144, 3), (64, .if_icmp .ge 16, 3), (67, .aload_n 0, 1), (68, .getfield 23, 3), (71, .bipush 6, 2), (73, .aload_n 0, 1), (74, .getfield 157, 3), (77, .iadd, 1), (78, .iload_n 2, 1), (79, .iastore, 1), (80, .aload_n 0, 1), (81, .dup, 1), (82, .getfield 157, 3), (85, .iconst 1, 1), (86, .iadd, 1), (87, .putfield 157, 3), (90, .iconst 0, 1), (91, .istore_n 1, 1), (92, .goto (-90), 3), (95, .return_, 1)]
theorem ddX11_readHeights_0 : (dtX11_readHeights_0.all fun e => decide (decode mX11_readHeights.2.1 e.1 = .ok (e.2.1, e.2.2))) = true := by decide +kernel
theorem daX11_readHeights_0 (j : Nat) {pc n : Nat} {i : Instr} (h : dtX11_readHeights_0[j]? = some (pc, i, n)) : decode mX11_readHeights.2.1 pc = .ok (i, n) := dec_of (c := mX11_readHeights.2.1) ddX11_readHeights_0 h
def jX11_readHeights_80 (v0 : Int) (μ : Mm) : Option ((Int × Mm) ⊕ Mm) :=
  chk (KD v0 = 11) (
  lm (mst μ v0 12 (w32 ((μ v0 12) + 1))) fun μ2 =>
  some (.inl (0, μ2)))
def jX11_readHeights_48 (v0 : Int) (μ : Mm) : Option ((Int × Mm) ⊕ Mm) :=
  chk (KD v0 = 11) (
  (fX11_numbered v0 0 999 μ).bind fun (r4, μ4) =>
  if 144 ≤ μ4 v0 12 then
    jX11_readHeights_80 v0 μ4
  else
    chk (KD (μ4 v0 13) = 12 ∧ 0 ≤ w32 (6 + (μ4 v0 12)) ∧ w32 (6 + (μ4 v0 12)) < LN (μ4 v0 13)) (
    lm (mst μ4 (μ4 v0 13) (w32 (6 + (μ4 v0 12))) r4) fun μ7 =>
    jX11_readHeights_80 v0 μ7))
def jX11_readHeights_21 (v0 : Int) (μ : Mm) : Option ((Int × Mm) ⊕ Mm) :=
  chk (KD v0 = 11) (
  if μ v0 12 < 144 then
    jX11_readHeights_48 v0 μ
  else
    if μ v0 8 = 1 then
      (fX11_also v0 3 (μ v0 7) μ).bind fun μ11 =>
      jX11_readHeights_48 v0 μ11
    else
      jX11_readHeights_48 v0 μ)
def zX11_readHeights_2 (l : Launch) (F : FI) (v0 : Int) (k n : Nat) : (Int × Mm) ⊕ Mm → Prop
  | .inl (v1, μ) => GM l mX11_readHeights F k n 2 [(0, (3, v0)), (1, (0, v1))] [] μ
  | .inr μ => GM l mX11_readHeights F k n 95 [] [] μ
def sX11_readHeights_2 (v0 : Int) : (Int × Mm) → Option ((Int × Mm) ⊕ Mm) := fun (v1, μ) =>
  chk (KD v0 = 11) (
  if μ v0 11 = 0 then
    if v1 = 0 then
      if μ v0 8 = 1 then
        jX11_readHeights_21 v0 μ
      else
        some (.inr μ)
    else
      jX11_readHeights_21 v0 μ
  else
    some (.inr μ))
def fX11_readHeights (v0 : Int) (μ : Mm) : Option Mm :=
  (lop (sX11_readHeights_2 v0) FU (1, μ)).bind fun μ_17 =>
    some μ_17
set_option maxRecDepth 20000 in
theorem gX11_readHeights_80 (l : Launch) {F : FI} {v0 : Int} {μ : Mm} {t : ((Int × Mm) ⊕ Mm)} {k n : Nat} (h : jX11_readHeights_80 v0 μ = some t) (hK : zX11_readHeights_2 l F v0 k n t) : GM l mX11_readHeights F k n 80 [(0, (3, v0))] [] μ := by
  unfold jX11_readHeights_80 at h
  refine GM_aload_n (pc := 80) 0 rfl (daX11_readHeights_0 41 rfl) rfl ?_
  refine GM_dup (pc := 81) (daX11_readHeights_0 42 rfl) (Nat.ne_of_beq_eq_false rfl) ?_
  obtain ⟨hc1, h⟩ := chk_inv h
  refine GM_getf (pc := 82) 11 12 0 12 kf_X11_157 (Nat.le_of_ble_eq_true rfl) (Nat.le_of_ble_eq_true rfl) rfl (daX11_readHeights_0 43 rfl) hc1 rfl ?_
  refine GM_iconst (pc := 85) 1 (daX11_readHeights_0 44 rfl) rfl (R32_b rfl) ?_
  refine GM_iadd (pc := 86) (daX11_readHeights_0 45 rfl) ?_
  obtain ⟨μ2, hμ2, h⟩ := lm_inv h
  refine GM_putf (pc := 87) 11 12 0 kf_X11_157 (Nat.le_of_ble_eq_true rfl) (Nat.le_of_ble_eq_true rfl) rfl rfl (daX11_readHeights_0 46 rfl) hc1 (fun q => absurd q (by decide)) ?_
  refine GM_mem hμ2 ?_
  refine GM_iconst (pc := 90) 0 (daX11_readHeights_0 47 rfl) rfl (R32_b rfl) ?_
  refine GM_istore_n (L' := [(1, (0, 0)), (0, (3, v0))]) (pc := 91) (daX11_readHeights_0 48 rfl) rfl (Nat.le_of_ble_eq_true rfl) rfl ?_
  refine GM_goto (pc := 92) 2 (daX11_readHeights_0 49 rfl) rfl ?_
  refine GM_pick [1, 0] rfl ?_
  cases h
  exact hK
set_option maxRecDepth 20000 in
theorem gX11_readHeights_48 (l : Launch) {F : FI} {v0 : Int} {μ : Mm} {t : ((Int × Mm) ⊕ Mm)} {k n : Nat} (h : jX11_readHeights_48 v0 μ = some t) (hK : zX11_readHeights_2 l F v0 k n t) : GM l mX11_readHeights F k n 48 [(0, (3, v0))] [] μ := by
  unfold jX11_readHeights_48 at h
  refine GM_aload_n (pc := 48) 0 rfl (daX11_readHeights_0 24 rfl) rfl ?_
  refine GM_iconst (pc := 49) 0 (daX11_readHeights_0 25 rfl) rfl (R32_b rfl) ?_
  refine GM_sipush (pc := 50) 999 (daX11_readHeights_0 26 rfl) rfl (R32_b rfl) ?_
  obtain ⟨hc3, h⟩ := chk_inv h
  obtain ⟨⟨r4, μ4⟩, hf4, h⟩ := Option.bind_eq_some_iff.mp h
  dsimp only at h
  refine GM_callV0 (pc := 53) [(0, 0), (0, 999)] (tX11_numbered l hf4) cwX11_numbered 11 (Nat.le_of_ble_eq_true rfl) rfl kv_X11_numbered ke_X11_numbered km_X11_160 hc3 ⟨Nat.le_of_ble_eq_true rfl, Nat.le_of_ble_eq_true rfl⟩ (Nat.le_of_ble_eq_true rfl) (Nat.le_of_ble_eq_true rfl) (daX11_readHeights_0 27 rfl) ?_
  refine GM_istore_n (L' := [(2, (0, r4)), (0, (3, v0))]) (pc := 56) (daX11_readHeights_0 28 rfl) rfl (Nat.le_of_ble_eq_true rfl) rfl ?_
  refine GM_aload_n (pc := 57) 1 rfl (daX11_readHeights_0 29 rfl) rfl ?_
  refine GM_getf (pc := 58) 11 12 0 12 kf_X11_157 (Nat.le_of_ble_eq_true rfl) (Nat.le_of_ble_eq_true rfl) rfl (daX11_readHeights_0 30 rfl) hc3 rfl ?_
  refine GM_sipush (pc := 61) 144 (daX11_readHeights_0 31 rfl) rfl (R32_b rfl) ?_
  refine GM_icmp_ge (pc := 64) 80 (daX11_readHeights_0 32 rfl) rfl (fun c5 => ?_) (fun c5 => ?_)
  · skip
    rw [if_pos c5] at h
    refine GM_pick [1] rfl ?_
    exact gX11_readHeights_80 l h hK
  · skip
    rw [if_neg c5] at h
    refine GM_aload_n (pc := 67) 1 rfl (daX11_readHeights_0 33 rfl) rfl ?_
    refine GM_getf (pc := 68) 11 13 3 13 kf_X11_23 (Nat.le_of_ble_eq_true rfl) (Nat.le_of_ble_eq_true rfl) rfl (daX11_readHeights_0 34 rfl) hc3 rfl ?_
    refine GM_bipush (pc := 71) 6 (daX11_readHeights_0 35 rfl) rfl (R32_b rfl) ?_
    refine GM_aload_n (pc := 73) 1 rfl (daX11_readHeights_0 36 rfl) rfl ?_
    refine GM_getf (pc := 74) 11 12 0 12 kf_X11_157 (Nat.le_of_ble_eq_true rfl) (Nat.le_of_ble_eq_true rfl) rfl (daX11_readHeights_0 37 rfl) hc3 rfl ?_
    refine GM_iadd (pc := 77) (daX11_readHeights_0 38 rfl) ?_
    refine GM_iload_n (pc := 78) 0 rfl (daX11_readHeights_0 39 rfl) rfl ?_
    obtain ⟨hc6, h⟩ := chk_inv h
    obtain ⟨μ7, hμ7, h⟩ := lm_inv h
    refine GM_iast (pc := 79) (daX11_readHeights_0 40 rfl) hc6.1 hc6.2.1 hc6.2.2 ?_
    refine GM_mem hμ7 ?_
    refine GM_pick [1] rfl ?_
    exact gX11_readHeights_80 l h hK
set_option maxRecDepth 20000 in
theorem gX11_readHeights_21 (l : Launch) {F : FI} {v0 : Int} {μ : Mm} {t : ((Int × Mm) ⊕ Mm)} {k n : Nat} (h : jX11_readHeights_21 v0 μ = some t) (hK : zX11_readHeights_2 l F v0 k n t) : GM l mX11_readHeights F k n 21 [(0, (3, v0))] [] μ := by
  unfold jX11_readHeights_21 at h
  refine GM_aload_n (pc := 21) 0 rfl (daX11_readHeights_0 11 rfl) rfl ?_
  obtain ⟨hc8, h⟩ := chk_inv h
  refine GM_getf (pc := 22) 11 12 0 12 kf_X11_157 (Nat.le_of_ble_eq_true rfl) (Nat.le_of_ble_eq_true rfl) rfl (daX11_readHeights_0 12 rfl) hc8 rfl ?_
  refine GM_sipush (pc := 25) 144 (daX11_readHeights_0 13 rfl) rfl (R32_b rfl) ?_
  refine GM_icmp_lt (pc := 28) 48 (daX11_readHeights_0 14 rfl) rfl (fun c9 => ?_) (fun c9 => ?_)
  · skip
    rw [if_pos c9] at h
    exact gX11_readHeights_48 l h hK
  · skip
    rw [if_neg c9] at h
    refine GM_aload_n (pc := 31) 0 rfl (daX11_readHeights_0 15 rfl) rfl ?_
    refine GM_getf (pc := 32) 11 8 0 8 kf_X11_118 (Nat.le_of_ble_eq_true rfl) (Nat.le_of_ble_eq_true rfl) rfl (daX11_readHeights_0 16 rfl) hc8 rfl ?_
    refine GM_iconst (pc := 35) 1 (daX11_readHeights_0 17 rfl) rfl (R32_b rfl) ?_
    refine GM_icmp_ne (pc := 36) 48 (daX11_readHeights_0 18 rfl) rfl (fun c10 => ?_) (fun c10 => ?_)
    · skip
      rw [if_neg c10] at h
      exact gX11_readHeights_48 l h hK
    · skip
      rw [if_pos c10] at h
      refine GM_aload_n (pc := 39) 0 rfl (daX11_readHeights_0 19 rfl) rfl ?_
      refine GM_iconst (pc := 40) 3 (daX11_readHeights_0 20 rfl) rfl (R32_b rfl) ?_
      refine GM_aload_n (pc := 41) 0 rfl (daX11_readHeights_0 21 rfl) rfl ?_
      refine GM_getf (pc := 42) 11 7 0 7 kf_X11_115 (Nat.le_of_ble_eq_true rfl) (Nat.le_of_ble_eq_true rfl) rfl (daX11_readHeights_0 22 rfl) hc8 rfl ?_
      obtain ⟨μ11, hf11, h⟩ := Option.bind_eq_some_iff.mp h
      refine GM_callV0 (pc := 45) [(0, 3), (0, μ v0 7)] (tX11_also l hf11) cwX11_also 11 (Nat.le_of_ble_eq_true rfl) rfl kv_X11_also ke_X11_also km_X11_151 hc8 ⟨Nat.le_of_ble_eq_true rfl, Nat.le_of_ble_eq_true rfl⟩ (Nat.le_of_ble_eq_true rfl) (Nat.le_of_ble_eq_true rfl) (daX11_readHeights_0 23 rfl) ?_
      exact gX11_readHeights_48 l h hK
set_option maxRecDepth 20000 in
theorem qX11_readHeights_2 (l : Launch) (F : FI) (v0 : Int) (k n : Nat) : ∀ (q : (Int × Mm)) (t : ((Int × Mm) ⊕ Mm)), sX11_readHeights_2 v0 q = some t → zX11_readHeights_2 l F v0 k n t → zX11_readHeights_2 l F v0 k n (.inl q) := by
  intro q t h hK
  obtain ⟨v1, μ⟩ := q
  unfold sX11_readHeights_2 at h
  try dsimp only at h
  show GM l mX11_readHeights F k n 2 [(0, (3, v0)), (1, (0, v1))] [] μ
  refine GM_aload_n (pc := 2) 0 rfl (daX11_readHeights_0 2 rfl) rfl ?_
  obtain ⟨hc12, h⟩ := chk_inv h
  refine GM_getf (pc := 3) 11 11 0 11 kf_X11_140 (Nat.le_of_ble_eq_true rfl) (Nat.le_of_ble_eq_true rfl) rfl (daX11_readHeights_0 3 rfl) hc12 rfl ?_
  refine GM_if_ne (pc := 6) 95 (daX11_readHeights_0 4 rfl) rfl (fun c13 => ?_) (fun c13 => ?_)
  · skip
    rw [if_neg c13] at h
    refine GM_pick [] rfl ?_
    cases h
    exact hK
  · skip
    rw [if_pos c13] at h
    refine GM_iload_n (pc := 9) 1 rfl (daX11_readHeights_0 5 rfl) rfl ?_
    refine GM_if_ne (pc := 10) 21 (daX11_readHeights_0 6 rfl) rfl (fun c14 => ?_) (fun c14 => ?_)
    · skip
      rw [if_neg c14] at h
      refine GM_pick [0] rfl ?_
      exact gX11_readHeights_21 l h hK
    · skip
      rw [if_pos c14] at h
      refine GM_aload_n (pc := 13) 0 rfl (daX11_readHeights_0 7 rfl) rfl ?_
      refine GM_getf (pc := 14) 11 8 0 8 kf_X11_118 (Nat.le_of_ble_eq_true rfl) (Nat.le_of_ble_eq_true rfl) rfl (daX11_readHeights_0 8 rfl) hc12 rfl ?_
      refine GM_iconst (pc := 17) 1 (daX11_readHeights_0 9 rfl) rfl (R32_b rfl) ?_
      refine GM_icmp_ne (pc := 18) 95 (daX11_readHeights_0 10 rfl) rfl (fun c15 => ?_) (fun c15 => ?_)
      · skip
        rw [if_neg c15] at h
        refine GM_pick [] rfl ?_
        cases h
        exact hK
      · skip
        rw [if_pos c15] at h
        refine GM_pick [0] rfl ?_
        exact gX11_readHeights_21 l h hK
set_option maxRecDepth 20000 in
theorem gX11_readHeights_0 (l : Launch) {F : FI} {v0 : Int} {μ : Mm} {t : Mm} (h : fX11_readHeights v0 μ = some t) (hK : F.1 = [] ∧ F.2.1 = t) : GM l mX11_readHeights F 0 0 0 [(0, (3, v0))] [] μ := by
  unfold fX11_readHeights at h
  refine GM_iconst (pc := 0) 1 (daX11_readHeights_0 0 rfl) rfl (R32_b rfl) ?_
  refine GM_istore_n (L' := [(1, (0, 1)), (0, (3, v0))]) (pc := 1) (daX11_readHeights_0 1 rfl) rfl (Nat.le_of_ble_eq_true rfl) rfl ?_
  refine GM_pick [1, 0] rfl ?_
  obtain ⟨x16, hqx16, h⟩ := Option.bind_eq_some_iff.mp h
  refine lop_ind (zX11_readHeights_2 l F v0 0 0) (qX11_readHeights_2 l F v0 0 0) FU _ x16 hqx16 ?_
  obtain ⟨μ_17, hqq⟩ : ∃ z, z = x16 := ⟨x16, rfl⟩
  subst hqq
  show GM l mX11_readHeights F 0 0 95 [] [] μ_17
  cases h
  exact GM_vret (pc := 95) (daX11_readHeights_0 50 rfl) rfl hK
theorem tX11_readHeights (l : Launch) {v0 : Int} {μ : Mm} {t : Mm} (h : fX11_readHeights v0 μ = some t) : Ct l yX11_readHeights mX11_readHeights [(3, v0)] μ ([], t, 0, 0) :=
  Ct_of (by decide +kernel) rfl rfl (Nat.le_of_ble_eq_true rfl) (fun _ _ _ => trivial) (gX11_readHeights_0 l h ⟨rfl, rfl⟩)
def mX11_thing : MI := (RX11, cX11_thing, 7, none, "thing", 4, 90, fun _ _ _ => True)
theorem cwX11_thing : CWd yX11_thing mX11_thing 2 := ⟨ki_X11, kk_X11_thing, ⟨by decide, by decide⟩, rfl⟩
def dtX11_thing_0 : List (Nat × Instr × Nat) := [(0, .aload_n 0, 1), (1, .getfield 23, 3), (4, .iconst 5, 1), (5, .iaload, 1), (6, .bipush 12, 2), (8, .if_icmp .lt 9, 3), (11, .aload_n 0, 1), (12, .iconst 3, 1), (13, .iload_n 2, 1), (14, .invokevirtual 151, 3), (17, .aload_n 0, 1), (18, .iconst 0, 1), (19, .sipush 143, 3), (22, .invokevirtual 160, 3), (25, .istore_n 3, 1), (26, .iload_n 1, 1), (27, .ifCond .eq 13, 3), (30, .aload_n 0, 1), (31, .iconst 0, 1), (32, .bipush 99, 2), (34, .invokevirtual 160, 3), (37, .goto 4, 3), (40, .iconst 0, 1), (41, .istore 4, 2), (43, .iload_n 1, 1), (44, .ifCond .eq 14, 3), (47, .aload_n 0, 1), (48, .iload 4, 2), (50, .bipush 99, 2), (52, .invokevirtual 160, 3), (55, .goto 5, 3), (58, .bipush 99, 2), (60, .istore 5, 2), (62, .aload_n 0, 1), (63, .getfield 23, 3), (66, .iconst 5, 1), (67, .iaload, 1), (68, .bipush 12, 2), (70, .if_icmp .ge 65, 3), (73, .sipush 150, 3), (76, .iconst 4, 1), (77, .aload_n 0, 1), (78, .getfield 23, 3), (81, .iconst 5, 1), (82, .iaload, 1), (83, .imul, 1), (84, .iadd, 1), (85, .istore 6, 2), (87, .aload_n 0, 1), (88, .getfield 23, 3), (91, .iload 6, 2), (93, .iload_n 1, 1), (94, .ifCond .eq 7, 3), (97, .iconst 1, 1), (98, .goto 4, 3), (101, .iconst 0, 1), (102, .iastore, 1), (103, .aload_n 0, 1), (104, .getfield 23, 3), (107, .iload 6, 2), (109, .iconst 1, 1), (110, .iadd, 1), (111, .iload_n 3, 1), (112, .iastore, 1)]
theorem ddX11_thing_0 : (dtX11_thing_0.all fun e => decide (decode mX11_thing.2.1 e.1 = .ok (e.2.1, e.2.2))) = true := by decide +kernel
theorem daX11_thing_0 (j : Nat) {pc n : Nat} {i : Instr} (h : dtX11_thing_0[j]? = some (pc, i, n)) : decode mX11_thing.2.1 pc = .ok (i, n) := dec_of (c := mX11_thing.2.1) ddX11_thing_0 h
def dtX11_thing_1 : List (Nat × Instr × Nat) := [(113, .aload_n 0, 1), (114, .getfield 23, 3), (117, .iload 6, 2), (119, .iconst 2, 1), (120, .iadd, 1), (121, .iload 4, 2), (123, .iastore, 1), (124, .aload_n 0, 1), (125, .getfield 23, 3), (128, .iload 6, 2), (130, .iconst 3, 1), (131, .iadd, 1), (132, .iload 5, 2), (134, .iastore, 1), (135, .aload_n 0, 1), (136, .getfield 23, 3), (139, .iconst 5, 1), (140, .dup2, 1), (141, .iaload, 1), (142, .iconst 1, 1), (143, .iadd, 1), (144, .iastore, 1), (145, .return_, 1)]
theorem ddX11_thing_1 : (dtX11_thing_1.all fun e => decide (decode mX11_thing.2.1 e.1 = .ok (e.2.1, e.2.2))) = true := by decide +kernel
theorem daX11_thing_1 (j : Nat) {pc n : Nat} {i : Instr} (h : dtX11_thing_1[j]? = some (pc, i, n)) : decode mX11_thing.2.1 pc = .ok (i, n) := dec_of (c := mX11_thing.2.1) ddX11_thing_1 h
def jX11_thing_102 (v0 v3 v4 v5 v6 s0 s1 s2 : Int) (μ : Mm) : Option Mm :=
  chk (KD s2 = 12 ∧ 0 ≤ s1 ∧ s1 < LN s2) (
  lm (mst μ s2 s1 s0) fun μ2 =>
  chk (KD v0 = 11) (
  chk (KD (μ2 v0 13) = 12 ∧ 0 ≤ w32 (v6 + 1) ∧ w32 (v6 + 1) < LN (μ2 v0 13)) (
  lm (mst μ2 (μ2 v0 13) (w32 (v6 + 1)) v3) fun μ5 =>
  chk (KD (μ5 v0 13) = 12 ∧ 0 ≤ w32 (v6 + 2) ∧ w32 (v6 + 2) < LN (μ5 v0 13)) (
  lm (mst μ5 (μ5 v0 13) (w32 (v6 + 2)) v4) fun μ7 =>
  chk (KD (μ7 v0 13) = 12 ∧ 0 ≤ w32 (v6 + 3) ∧ w32 (v6 + 3) < LN (μ7 v0 13)) (
  lm (mst μ7 (μ7 v0 13) (w32 (v6 + 3)) v5) fun μ9 =>
  chk (KD (μ9 v0 13) = 12 ∧ 5 < LN (μ9 v0 13)) (
  lm (mst μ9 (μ9 v0 13) 5 (w32 ((μ9 (μ9 v0 13) 5) + 1))) fun μ11 =>
  some μ11))))))
def jX11_thing_60 (v0 v1 v3 v4 s0 : Int) (μ : Mm) : Option Mm :=
  chk (KD v0 = 11) (
  chk (KD (μ v0 13) = 12 ∧ 5 < LN (μ v0 13)) (
  if 12 ≤ μ (μ v0 13) 5 then
    lm (mst μ (μ v0 13) 5 (w32 ((μ (μ v0 13) 5) + 1))) fun μ15 =>
    some μ15
  else
    lt (w32 (150 + (w32 (4 * (μ (μ v0 13) 5))))) fun y16 =>
    if v1 = 0 then
      jX11_thing_102 v0 v3 v4 s0 y16 0 y16 (μ v0 13) μ
    else
      jX11_thing_102 v0 v3 v4 s0 y16 1 y16 (μ v0 13) μ))
def jX11_thing_41 (v0 v1 v3 s0 : Int) (μ : Mm) : Option Mm :=
  if v1 = 0 then
    jX11_thing_60 v0 v1 v3 s0 99 μ
  else
    chk (KD v0 = 11) (
    (fX11_numbered v0 s0 99 μ).bind fun (r20, μ20) =>
    jX11_thing_60 v0 v1 v3 s0 r20 μ20)
def jX11_thing_17 (v0 v1 : Int) (μ : Mm) : Option Mm :=
  chk (KD v0 = 11) (
  (fX11_numbered v0 0 143 μ).bind fun (r22, μ22) =>
  if v1 = 0 then
    jX11_thing_41 v0 v1 r22 0 μ22
  else
    (fX11_numbered v0 0 99 μ22).bind fun (r24, μ24) =>
    jX11_thing_41 v0 v1 r22 r24 μ24)
def fX11_thing (v0 v1 v2 : Int) (μ : Mm) : Option Mm :=
  chk (KD v0 = 11) (
  chk (KD (μ v0 13) = 12 ∧ 5 < LN (μ v0 13)) (
  if μ (μ v0 13) 5 < 12 then
    jX11_thing_17 v0 v1 μ
  else
    (fX11_also v0 3 v2 μ).bind fun μ28 =>
    jX11_thing_17 v0 v1 μ28))
set_option maxRecDepth 20000 in
theorem gX11_thing_102 (l : Launch) {F : FI} {v0 v3 v4 v5 v6 s0 s1 s2 : Int} {μ : Mm} {t : Mm} (h : jX11_thing_102 v0 v3 v4 v5 v6 s0 s1 s2 μ = some t) (hK : F.1 = [] ∧ F.2.1 = t) : GM l mX11_thing F 0 0 102 [(0, (3, v0)), (3, (0, v3)), (4, (0, v4)), (5, (0, v5)), (6, (0, v6))] [(0, s0), (0, s1), (3, s2)] μ := by
  unfold jX11_thing_102 at h
  obtain ⟨hc1, h⟩ := chk_inv h
  obtain ⟨μ2, hμ2, h⟩ := lm_inv h
  refine GM_iast (pc := 102) (daX11_thing_0 56 rfl) hc1.1 hc1.2.1 hc1.2.2 ?_
  refine GM_mem hμ2 ?_
  refine GM_aload_n (pc := 103) 0 rfl (daX11_thing_0 57 rfl) rfl ?_
  obtain ⟨hc3, h⟩ := chk_inv h
  refine GM_getf (pc := 104) 11 13 3 13 kf_X11_23 (Nat.le_of_ble_eq_true rfl) (Nat.le_of_ble_eq_true rfl) rfl (daX11_thing_0 58 rfl) hc3 rfl ?_
  refine GM_iload (pc := 107) 4 rfl (daX11_thing_0 59 rfl) ?_
  refine GM_iconst (pc := 109) 1 (daX11_thing_0 60 rfl) rfl (R32_b rfl) ?_
  refine GM_iadd (pc := 110) (daX11_thing_0 61 rfl) ?_
  refine GM_iload_n (pc := 111) 1 rfl (daX11_thing_0 62 rfl) rfl ?_
  obtain ⟨hc4, h⟩ := chk_inv h
  obtain ⟨μ5, hμ5, h⟩ := lm_inv h
  refine GM_iast (pc := 112) (daX11_thing_0 63 rfl) hc4.1 hc4.2.1 hc4.2.2 ?_
  refine GM_mem hμ5 ?_
  refine GM_aload_n (pc := 113) 0 rfl (daX11_thing_1 0 rfl) rfl ?_
  refine GM_getf (pc := 114) 11 13 3 13 kf_X11_23 (Nat.le_of_ble_eq_true rfl) (Nat.le_of_ble_eq_true rfl) rfl (daX11_thing_1 1 rfl) hc3 rfl ?_
  refine GM_iload (pc := 117) 4 rfl (daX11_thing_1 2 rfl) ?_
  refine GM_iconst (pc := 119) 2 (daX11_thing_1 3 rfl) rfl (R32_b rfl) ?_
  refine GM_iadd (pc := 120) (daX11_thing_1 4 rfl) ?_
  refine GM_iload (pc := 121) 2 rfl (daX11_thing_1 5 rfl) ?_
  obtain ⟨hc6, h⟩ := chk_inv h
  obtain ⟨μ7, hμ7, h⟩ := lm_inv h
  refine GM_iast (pc := 123) (daX11_thing_1 6 rfl) hc6.1 hc6.2.1 hc6.2.2 ?_
  refine GM_mem hμ7 ?_
  refine GM_aload_n (pc := 124) 0 rfl (daX11_thing_1 7 rfl) rfl ?_
  refine GM_getf (pc := 125) 11 13 3 13 kf_X11_23 (Nat.le_of_ble_eq_true rfl) (Nat.le_of_ble_eq_true rfl) rfl (daX11_thing_1 8 rfl) hc3 rfl ?_
  refine GM_iload (pc := 128) 4 rfl (daX11_thing_1 9 rfl) ?_
  refine GM_iconst (pc := 130) 3 (daX11_thing_1 10 rfl) rfl (R32_b rfl) ?_
  refine GM_iadd (pc := 131) (daX11_thing_1 11 rfl) ?_
  refine GM_iload (pc := 132) 3 rfl (daX11_thing_1 12 rfl) ?_
  obtain ⟨hc8, h⟩ := chk_inv h
  obtain ⟨μ9, hμ9, h⟩ := lm_inv h
  refine GM_iast (pc := 134) (daX11_thing_1 13 rfl) hc8.1 hc8.2.1 hc8.2.2 ?_
  refine GM_mem hμ9 ?_
  refine GM_aload_n (pc := 135) 0 rfl (daX11_thing_1 14 rfl) rfl ?_
  refine GM_getf (pc := 136) 11 13 3 13 kf_X11_23 (Nat.le_of_ble_eq_true rfl) (Nat.le_of_ble_eq_true rfl) rfl (daX11_thing_1 15 rfl) hc3 rfl ?_
  refine GM_iconst (pc := 139) 5 (daX11_thing_1 16 rfl) rfl (R32_b rfl) ?_
  refine GM_dup2 (pc := 140) (daX11_thing_1 17 rfl) (Nat.ne_of_beq_eq_false rfl) (Nat.ne_of_beq_eq_false rfl) ?_
  obtain ⟨hc10, h⟩ := chk_inv h
  refine GM_iald (pc := 141) (daX11_thing_1 18 rfl) hc10.1 (by decide) hc10.2 ?_
  refine GM_iconst (pc := 142) 1 (daX11_thing_1 19 rfl) rfl (R32_b rfl) ?_
  refine GM_iadd (pc := 143) (daX11_thing_1 20 rfl) ?_
  obtain ⟨μ11, hμ11, h⟩ := lm_inv h
  refine GM_iast (pc := 144) (daX11_thing_1 21 rfl) hc10.1 (by decide) hc10.2 ?_
  refine GM_mem hμ11 ?_
  cases h
  exact GM_vret (pc := 145) (daX11_thing_1 22 rfl) rfl hK
set_option maxRecDepth 20000 in
theorem gX11_thing_60 (l : Launch) {F : FI} {v0 v1 v3 v4 s0 : Int} {μ : Mm} {t : Mm} (h : jX11_thing_60 v0 v1 v3 v4 s0 μ = some t) (hK : F.1 = [] ∧ F.2.1 = t) : GM l mX11_thing F 0 0 60 [(0, (3, v0)), (1, (0, v1)), (3, (0, v3)), (4, (0, v4))] [(0, s0)] μ := by
  unfold jX11_thing_60 at h
  refine GM_istore (L' := [(5, (0, s0)), (0, (3, v0)), (1, (0, v1)), (3, (0, v3)), (4, (0, v4))]) (pc := 60) (daX11_thing_0 32 rfl) (Nat.le_of_ble_eq_true rfl) rfl ?_
  refine GM_aload_n (pc := 62) 1 rfl (daX11_thing_0 33 rfl) rfl ?_
  obtain ⟨hc12, h⟩ := chk_inv h
  refine GM_getf (pc := 63) 11 13 3 13 kf_X11_23 (Nat.le_of_ble_eq_true rfl) (Nat.le_of_ble_eq_true rfl) rfl (daX11_thing_0 34 rfl) hc12 rfl ?_
  refine GM_iconst (pc := 66) 5 (daX11_thing_0 35 rfl) rfl (R32_b rfl) ?_
  obtain ⟨hc13, h⟩ := chk_inv h
  refine GM_iald (pc := 67) (daX11_thing_0 36 rfl) hc13.1 (by decide) hc13.2 ?_
  refine GM_bipush (pc := 68) 12 (daX11_thing_0 37 rfl) rfl (R32_b rfl) ?_
  refine GM_icmp_ge (pc := 70) 135 (daX11_thing_0 38 rfl) rfl (fun c14 => ?_) (fun c14 => ?_)
  · skip
    rw [if_pos c14] at h
    refine GM_aload_n (pc := 135) 1 rfl (daX11_thing_1 14 rfl) rfl ?_
    refine GM_getf (pc := 136) 11 13 3 13 kf_X11_23 (Nat.le_of_ble_eq_true rfl) (Nat.le_of_ble_eq_true rfl) rfl (daX11_thing_1 15 rfl) hc12 rfl ?_
    refine GM_iconst (pc := 139) 5 (daX11_thing_1 16 rfl) rfl (R32_b rfl) ?_
    refine GM_dup2 (pc := 140) (daX11_thing_1 17 rfl) (Nat.ne_of_beq_eq_false rfl) (Nat.ne_of_beq_eq_false rfl) ?_
    refine GM_iald (pc := 141) (daX11_thing_1 18 rfl) hc13.1 (by decide) hc13.2 ?_
    refine GM_iconst (pc := 142) 1 (daX11_thing_1 19 rfl) rfl (R32_b rfl) ?_
    refine GM_iadd (pc := 143) (daX11_thing_1 20 rfl) ?_
    obtain ⟨μ15, hμ15, h⟩ := lm_inv h
    refine GM_iast (pc := 144) (daX11_thing_1 21 rfl) hc13.1 (by decide) hc13.2 ?_
    refine GM_mem hμ15 ?_
    cases h
    exact GM_vret (pc := 145) (daX11_thing_1 22 rfl) rfl hK
  · skip
    rw [if_neg c14] at h
    refine GM_sipush (pc := 73) 150 (daX11_thing_0 39 rfl) rfl (R32_b rfl) ?_
    refine GM_iconst (pc := 76) 4 (daX11_thing_0 40 rfl) rfl (R32_b rfl) ?_
    refine GM_aload_n (pc := 77) 1 rfl (daX11_thing_0 41 rfl) rfl ?_
    refine GM_getf (pc := 78) 11 13 3 13 kf_X11_23 (Nat.le_of_ble_eq_true rfl) (Nat.le_of_ble_eq_true rfl) rfl (daX11_thing_0 42 rfl) hc12 rfl ?_
    refine GM_iconst (pc := 81) 5 (daX11_thing_0 43 rfl) rfl (R32_b rfl) ?_
    refine GM_iald (pc := 82) (daX11_thing_0 44 rfl) hc13.1 (by decide) hc13.2 ?_
    refine GM_imul (pc := 83) (daX11_thing_0 45 rfl) ?_
    refine GM_iadd (pc := 84) (daX11_thing_0 46 rfl) ?_
    obtain ⟨y16, hy16, h⟩ := lt_inv h
    refine GM_top hy16 ?_
    refine GM_istore (L' := [(6, (0, y16)), (5, (0, s0)), (0, (3, v0)), (1, (0, v1)), (3, (0, v3)), (4, (0, v4))]) (pc := 85) (daX11_thing_0 47 rfl) (Nat.le_of_ble_eq_true rfl) rfl ?_
    refine GM_aload_n (pc := 87) 2 rfl (daX11_thing_0 48 rfl) rfl ?_
    refine GM_getf (pc := 88) 11 13 3 13 kf_X11_23 (Nat.le_of_ble_eq_true rfl) (Nat.le_of_ble_eq_true rfl) rfl (daX11_thing_0 49 rfl) hc12 rfl ?_
    refine GM_iload (pc := 91) 0 rfl (daX11_thing_0 50 rfl) ?_
    refine GM_iload_n (pc := 93) 3 rfl (daX11_thing_0 51 rfl) rfl ?_
    refine GM_if_eq (pc := 94) 101 (daX11_thing_0 52 rfl) rfl (fun c17 => ?_) (fun c17 => ?_)
    · skip
      rw [if_pos c17] at h
      refine GM_iconst (pc := 101) 0 (daX11_thing_0 55 rfl) rfl (R32_b rfl) ?_
      refine GM_pick [2, 4, 5, 1, 0] rfl ?_
      exact gX11_thing_102 l h hK
    · skip
      rw [if_neg c17] at h
      refine GM_iconst (pc := 97) 1 (daX11_thing_0 53 rfl) rfl (R32_b rfl) ?_
      refine GM_goto (pc := 98) 102 (daX11_thing_0 54 rfl) rfl ?_
      refine GM_pick [2, 4, 5, 1, 0] rfl ?_
      exact gX11_thing_102 l h hK
set_option maxRecDepth 20000 in
theorem gX11_thing_41 (l : Launch) {F : FI} {v0 v1 v3 s0 : Int} {μ : Mm} {t : Mm} (h : jX11_thing_41 v0 v1 v3 s0 μ = some t) (hK : F.1 = [] ∧ F.2.1 = t) : GM l mX11_thing F 0 0 41 [(0, (3, v0)), (1, (0, v1)), (3, (0, v3))] [(0, s0)] μ := by
  unfold jX11_thing_41 at h
  refine GM_istore (L' := [(4, (0, s0)), (0, (3, v0)), (1, (0, v1)), (3, (0, v3))]) (pc := 41) (daX11_thing_0 23 rfl) (Nat.le_of_ble_eq_true rfl) rfl ?_
  refine GM_iload_n (pc := 43) 2 rfl (daX11_thing_0 24 rfl) rfl ?_
  refine GM_if_eq (pc := 44) 58 (daX11_thing_0 25 rfl) rfl (fun c18 => ?_) (fun c18 => ?_)
  · skip
    rw [if_pos c18] at h
    refine GM_bipush (pc := 58) 99 (daX11_thing_0 31 rfl) rfl (R32_b rfl) ?_
    refine GM_pick [1, 2, 3, 0] rfl ?_
    exact gX11_thing_60 l h hK
  · skip
    rw [if_neg c18] at h
    refine GM_aload_n (pc := 47) 1 rfl (daX11_thing_0 26 rfl) rfl ?_
    refine GM_iload (pc := 48) 0 rfl (daX11_thing_0 27 rfl) ?_
    refine GM_bipush (pc := 50) 99 (daX11_thing_0 28 rfl) rfl (R32_b rfl) ?_
    obtain ⟨hc19, h⟩ := chk_inv h
    obtain ⟨⟨r20, μ20⟩, hf20, h⟩ := Option.bind_eq_some_iff.mp h
    dsimp only at h
    refine GM_callV0 (pc := 52) [(0, s0), (0, 99)] (tX11_numbered l hf20) cwX11_numbered 11 (Nat.le_of_ble_eq_true rfl) rfl kv_X11_numbered ke_X11_numbered km_X11_160 hc19 ⟨Nat.le_of_ble_eq_true rfl, Nat.le_of_ble_eq_true rfl⟩ (Nat.le_of_ble_eq_true rfl) (Nat.le_of_ble_eq_true rfl) (daX11_thing_0 29 rfl) ?_
    refine GM_goto (pc := 55) 60 (daX11_thing_0 30 rfl) rfl ?_
    refine GM_pick [1, 2, 3, 0] rfl ?_
    exact gX11_thing_60 l h hK
set_option maxRecDepth 20000 in
theorem gX11_thing_17 (l : Launch) {F : FI} {v0 v1 : Int} {μ : Mm} {t : Mm} (h : jX11_thing_17 v0 v1 μ = some t) (hK : F.1 = [] ∧ F.2.1 = t) : GM l mX11_thing F 0 0 17 [(0, (3, v0)), (1, (0, v1))] [] μ := by
  unfold jX11_thing_17 at h
  refine GM_aload_n (pc := 17) 0 rfl (daX11_thing_0 10 rfl) rfl ?_
  refine GM_iconst (pc := 18) 0 (daX11_thing_0 11 rfl) rfl (R32_b rfl) ?_
  refine GM_sipush (pc := 19) 143 (daX11_thing_0 12 rfl) rfl (R32_b rfl) ?_
  obtain ⟨hc21, h⟩ := chk_inv h
  obtain ⟨⟨r22, μ22⟩, hf22, h⟩ := Option.bind_eq_some_iff.mp h
  dsimp only at h
  refine GM_callV0 (pc := 22) [(0, 0), (0, 143)] (tX11_numbered l hf22) cwX11_numbered 11 (Nat.le_of_ble_eq_true rfl) rfl kv_X11_numbered ke_X11_numbered km_X11_160 hc21 ⟨Nat.le_of_ble_eq_true rfl, Nat.le_of_ble_eq_true rfl⟩ (Nat.le_of_ble_eq_true rfl) (Nat.le_of_ble_eq_true rfl) (daX11_thing_0 13 rfl) ?_
  refine GM_istore_n (L' := [(3, (0, r22)), (0, (3, v0)), (1, (0, v1))]) (pc := 25) (daX11_thing_0 14 rfl) rfl (Nat.le_of_ble_eq_true rfl) rfl ?_
  refine GM_iload_n (pc := 26) 2 rfl (daX11_thing_0 15 rfl) rfl ?_
  refine GM_if_eq (pc := 27) 40 (daX11_thing_0 16 rfl) rfl (fun c23 => ?_) (fun c23 => ?_)
  · skip
    rw [if_pos c23] at h
    refine GM_iconst (pc := 40) 0 (daX11_thing_0 22 rfl) rfl (R32_b rfl) ?_
    refine GM_pick [1, 2, 0] rfl ?_
    exact gX11_thing_41 l h hK
  · skip
    rw [if_neg c23] at h
    refine GM_aload_n (pc := 30) 1 rfl (daX11_thing_0 17 rfl) rfl ?_
    refine GM_iconst (pc := 31) 0 (daX11_thing_0 18 rfl) rfl (R32_b rfl) ?_
    refine GM_bipush (pc := 32) 99 (daX11_thing_0 19 rfl) rfl (R32_b rfl) ?_
    obtain ⟨⟨r24, μ24⟩, hf24, h⟩ := Option.bind_eq_some_iff.mp h
    dsimp only at h
    refine GM_callV0 (pc := 34) [(0, 0), (0, 99)] (tX11_numbered l hf24) cwX11_numbered 11 (Nat.le_of_ble_eq_true rfl) rfl kv_X11_numbered ke_X11_numbered km_X11_160 hc21 ⟨Nat.le_of_ble_eq_true rfl, Nat.le_of_ble_eq_true rfl⟩ (Nat.le_of_ble_eq_true rfl) (Nat.le_of_ble_eq_true rfl) (daX11_thing_0 20 rfl) ?_
    refine GM_goto (pc := 37) 41 (daX11_thing_0 21 rfl) rfl ?_
    refine GM_pick [1, 2, 0] rfl ?_
    exact gX11_thing_41 l h hK
set_option maxRecDepth 20000 in
theorem gX11_thing_0 (l : Launch) {F : FI} {v0 v1 v2 : Int} {μ : Mm} {t : Mm} (h : fX11_thing v0 v1 v2 μ = some t) (hK : F.1 = [] ∧ F.2.1 = t) : GM l mX11_thing F 0 0 0 [(0, (3, v0)), (1, (0, v1)), (2, (0, v2))] [] μ := by
  unfold fX11_thing at h
  refine GM_aload_n (pc := 0) 0 rfl (daX11_thing_0 0 rfl) rfl ?_
  obtain ⟨hc25, h⟩ := chk_inv h
  refine GM_getf (pc := 1) 11 13 3 13 kf_X11_23 (Nat.le_of_ble_eq_true rfl) (Nat.le_of_ble_eq_true rfl) rfl (daX11_thing_0 1 rfl) hc25 rfl ?_
  refine GM_iconst (pc := 4) 5 (daX11_thing_0 2 rfl) rfl (R32_b rfl) ?_
  obtain ⟨hc26, h⟩ := chk_inv h
  refine GM_iald (pc := 5) (daX11_thing_0 3 rfl) hc26.1 (by decide) hc26.2 ?_
  refine GM_bipush (pc := 6) 12 (daX11_thing_0 4 rfl) rfl (R32_b rfl) ?_
  refine GM_icmp_lt (pc := 8) 17 (daX11_thing_0 5 rfl) rfl (fun c27 => ?_) (fun c27 => ?_)
  · skip
    rw [if_pos c27] at h
    refine GM_pick [0, 1] rfl ?_
    exact gX11_thing_17 l h hK
  · skip
    rw [if_neg c27] at h
    refine GM_aload_n (pc := 11) 0 rfl (daX11_thing_0 6 rfl) rfl ?_
    refine GM_iconst (pc := 12) 3 (daX11_thing_0 7 rfl) rfl (R32_b rfl) ?_
    refine GM_iload_n (pc := 13) 2 rfl (daX11_thing_0 8 rfl) rfl ?_
    obtain ⟨μ28, hf28, h⟩ := Option.bind_eq_some_iff.mp h
    refine GM_callV0 (pc := 14) [(0, 3), (0, v2)] (tX11_also l hf28) cwX11_also 11 (Nat.le_of_ble_eq_true rfl) rfl kv_X11_also ke_X11_also km_X11_151 hc25 ⟨Nat.le_of_ble_eq_true rfl, Nat.le_of_ble_eq_true rfl⟩ (Nat.le_of_ble_eq_true rfl) (Nat.le_of_ble_eq_true rfl) (daX11_thing_0 9 rfl) ?_
    refine GM_pick [0, 1] rfl ?_
    exact gX11_thing_17 l h hK
theorem tX11_thing (l : Launch) {v0 v1 v2 : Int} {μ : Mm} {t : Mm} (h : fX11_thing v0 v1 v2 μ = some t) : Ct l yX11_thing mX11_thing [(3, v0), (0, v1), (0, v2)] μ ([], t, 0, 0) :=
  Ct_of (by decide +kernel) rfl rfl (Nat.le_of_ble_eq_true rfl) (fun _ _ _ => trivial) (gX11_thing_0 l h ⟨rfl, rfl⟩)
def mX11_landLine : MI := (RX11, cX11_landLine, 3, none, "landLine", 5, 116, fun _ _ _ => True)
theorem cwX11_landLine : CWd yX11_landLine mX11_landLine 0 := ⟨ki_X11, kk_X11_landLine, ⟨by decide, by decide⟩, rfl⟩
def dtX11_landLine_0 : List (Nat × Instr × Nat) := [(0, .aload_n 0, 1), (1, .getfield 115, 3), (4, .istore_n 1, 1), (5, .aload_n 0, 1), (6, .iconst 1, 1), (7, .invokevirtual 164, 3), (10, .istore_n 2, 1), (11, .iload_n 2, 1), (12, .iconst 1, 1), (13, .if_icmp .ne 29, 3), (16, .aload_n 0, 1), (17, .getfield 23, 3), (20, .iconst 0, 1), (21, .aload_n 0, 1), (22, .iconst 2, 1), (23, .bipush 12, 2), (25, .invokevirtual 160, 3), (28, .iastore, 1), (29, .aload_n 0, 1), (30, .getfield 23, 3), (33, .iconst 1, 1), (34, .aload_n 0, 1), (35, .iconst 2, 1), (36, .bipush 12, 2), (38, .invokevirtual 160, 3), (41, .iastore, 1), (42, .iload_n 2, 1), (43, .iconst 2, 1), (44, .if_icmp .ne 7, 3), (47, .aload_n 0, 1), (48, .invokevirtual 168, 3), (51, .iload_n 2, 1), (52, .iconst 3, 1), (53, .if_icmp .ne 16, 3), (56, .aload_n 0, 1), (57, .getfield 23, 3), (60, .iconst 2, 1), (61, .aload_n 0, 1), (62, .iconst 0, 1), (63, .bipush 9, 2), (65, .invokevirtual 160, 3), (68, .iastore, 1), (69, .iload_n 2, 1), (70, .iconst 4, 1), (71, .if_icmp .ne 16, 3), (74, .aload_n 0, 1), (75, .getfield 23, 3), (78, .iconst 3, 1), (79, .aload_n 0, 1), (80, .iconst 0, 1), (81, .bipush 99, 2), (83, .invokevirtual 160, 3), (86, .iastore, 1), (87, .iload_n 2, 1), (88, .iconst 5, 1), (89, .if_icmp .ne 17, 3), (92, .aload_n 0, 1), (93, .getfield 23, 3), (96, .iconst 4, 1), (97, .aload_n 0, 1), (98, .iconst 1, 1), (99, .sipush 999, 3), (102, .invokevirtual 160, 3), (105, .iastore, 1)]
theorem ddX11_landLine_0 : (dtX11_landLine_0.all fun e => decide (decode mX11_landLine.2.1 e.1 = .ok (e.2.1, e.2.2))) = true := by decide +kernel
theorem daX11_landLine_0 (j : Nat) {pc n : Nat} {i : Instr} (h : dtX11_landLine_0[j]? = some (pc, i, n)) : decode mX11_landLine.2.1 pc = .ok (i, n) := dec_of (c := mX11_landLine.2.1) ddX11_landLine_0 h
def dtX11_landLine_1 : List (Nat × Instr × Nat) := [(106, .iload_n 2, 1), (107, .bipush 6, 2), (109, .if_icmp .eq 9, 3), (112, .iload_n 2, 1), (113, .bipush 7, 2), (115, .if_icmp .ne 19, 3), (118, .aload_n 0, 1), (119, .iload_n 2, 1), (120, .bipush 7, 2), (122, .if_icmp .ne 7, 3), (125, .iconst 1, 1), (126, .goto 4, 3), (129, .iconst 0, 1), (130, .iload_n 1, 1), (131, .invokevirtual 171, 3), (134, .aload_n 0, 1), (135, .invokevirtual 175, 3), (138, .return_, 1)]
theorem ddX11_landLine_1 : (dtX11_landLine_1.all fun e => decide (decode mX11_landLine.2.1 e.1 = .ok (e.2.1, e.2.2))) = true := by decide +kernel
theorem daX11_landLine_1 (j : Nat) {pc n : Nat} {i : Instr} (h : dtX11_landLine_1[j]? = some (pc, i, n)) : decode mX11_landLine.2.1 pc = .ok (i, n) := dec_of (c := mX11_landLine.2.1) ddX11_landLine_1 h
def jX11_landLine_134 (v0 : Int) (μ : Mm) : Option Mm :=
  chk (KD v0 = 11) (
  (fX11_endsLine v0 μ).bind fun μ2 =>
  some μ2)
def jX11_landLine_130 (v0 v1 s0 s1 : Int) (μ : Mm) : Option Mm :=
  chk (KD s1 = 11) (
  (fX11_thing s1 s0 v1 μ).bind fun μ4 =>
  jX11_landLine_134 v0 μ4)
def jX11_landLine_118 (v0 v1 v2 : Int) (μ : Mm) : Option Mm :=
  if v2 = 7 then
    jX11_landLine_130 v0 v1 1 v0 μ
  else
    jX11_landLine_130 v0 v1 0 v0 μ
def jX11_landLine_106 (v0 v1 v2 : Int) (μ : Mm) : Option Mm :=
  if v2 = 6 then
    jX11_landLine_118 v0 v1 v2 μ
  else
    if v2 = 7 then
      jX11_landLine_118 v0 v1 v2 μ
    else
      jX11_landLine_134 v0 μ
def jX11_landLine_87 (v0 v1 v2 : Int) (μ : Mm) : Option Mm :=
  if v2 = 5 then
    chk (KD v0 = 11) (
    (fX11_numbered v0 1 999 μ).bind fun (r10, μ10) =>
    chk (KD (μ v0 13) = 12 ∧ 4 < LN (μ v0 13)) (
    lm (mst μ10 (μ v0 13) 4 r10) fun μ12 =>
    jX11_landLine_106 v0 v1 v2 μ12))
  else
    jX11_landLine_106 v0 v1 v2 μ
def jX11_landLine_69 (v0 v1 v2 : Int) (μ : Mm) : Option Mm :=
  if v2 = 4 then
    chk (KD v0 = 11) (
    (fX11_numbered v0 0 99 μ).bind fun (r15, μ15) =>
    chk (KD (μ v0 13) = 12 ∧ 3 < LN (μ v0 13)) (
    lm (mst μ15 (μ v0 13) 3 r15) fun μ17 =>
    jX11_landLine_87 v0 v1 v2 μ17))
  else
    jX11_landLine_87 v0 v1 v2 μ
def jX11_landLine_51 (v0 v1 v2 : Int) (μ : Mm) : Option Mm :=
  if v2 = 3 then
    chk (KD v0 = 11) (
    (fX11_numbered v0 0 9 μ).bind fun (r20, μ20) =>
    chk (KD (μ v0 13) = 12 ∧ 2 < LN (μ v0 13)) (
    lm (mst μ20 (μ v0 13) 2 r20) fun μ22 =>
    jX11_landLine_69 v0 v1 v2 μ22))
  else
    jX11_landLine_69 v0 v1 v2 μ
def jX11_landLine_42 (v0 v1 v2 : Int) (μ : Mm) : Option Mm :=
  if v2 = 2 then
    chk (KD v0 = 11) (
    (fX11_readHeights v0 μ).bind fun μ25 =>
    jX11_landLine_51 v0 v1 v2 μ25)
  else
    jX11_landLine_51 v0 v1 v2 μ
def fX11_landLine (v0 : Int) (μ : Mm) : Option Mm :=
  chk (KD v0 = 11) (
  (fX11_takes v0 1 μ).bind fun (r27, μ27) =>
  if r27 = 1 then
    (fX11_numbered v0 2 12 μ27).bind fun (r29, μ29) =>
    chk (KD (μ27 v0 13) = 12 ∧ 0 < LN (μ27 v0 13)) (
    lm (mst μ29 (μ27 v0 13) 0 r29) fun μ31 =>
    (fX11_numbered v0 2 12 μ31).bind fun (r32, μ32) =>
    chk (KD (μ31 v0 13) = 12 ∧ 1 < LN (μ31 v0 13)) (
    lm (mst μ32 (μ31 v0 13) 1 r32) fun μ34 =>
    jX11_landLine_42 v0 (μ v0 7) r27 μ34))
  else
    jX11_landLine_42 v0 (μ v0 7) r27 μ27)
set_option maxRecDepth 20000 in
theorem gX11_landLine_134 (l : Launch) {F : FI} {v0 : Int} {μ : Mm} {t : Mm} (h : jX11_landLine_134 v0 μ = some t) (hK : F.1 = [] ∧ F.2.1 = t) : GM l mX11_landLine F 0 0 134 [(0, (3, v0))] [] μ := by
  unfold jX11_landLine_134 at h
  refine GM_aload_n (pc := 134) 0 rfl (daX11_landLine_1 15 rfl) rfl ?_
  obtain ⟨hc1, h⟩ := chk_inv h
  obtain ⟨μ2, hf2, h⟩ := Option.bind_eq_some_iff.mp h
  refine GM_callV0 (pc := 135) [] (tX11_endsLine l hf2) cwX11_endsLine 11 (Nat.le_of_ble_eq_true rfl) rfl kv_X11_endsLine ke_X11_endsLine km_X11_175 hc1 ⟨Nat.le_of_ble_eq_true rfl, Nat.le_of_ble_eq_true rfl⟩ (Nat.le_of_ble_eq_true rfl) (Nat.le_of_ble_eq_true rfl) (daX11_landLine_1 16 rfl) ?_
  cases h
  exact GM_vret (pc := 138) (daX11_landLine_1 17 rfl) rfl hK
set_option maxRecDepth 20000 in
theorem gX11_landLine_130 (l : Launch) {F : FI} {v0 v1 s0 s1 : Int} {μ : Mm} {t : Mm} (h : jX11_landLine_130 v0 v1 s0 s1 μ = some t) (hK : F.1 = [] ∧ F.2.1 = t) : GM l mX11_landLine F 0 0 130 [(0, (3, v0)), (1, (0, v1))] [(0, s0), (3, s1)] μ := by
  unfold jX11_landLine_130 at h
  refine GM_iload_n (pc := 130) 1 rfl (daX11_landLine_1 13 rfl) rfl ?_
  obtain ⟨hc3, h⟩ := chk_inv h
  obtain ⟨μ4, hf4, h⟩ := Option.bind_eq_some_iff.mp h
  refine GM_callV0 (pc := 131) [(0, s0), (0, v1)] (tX11_thing l hf4) cwX11_thing 11 (Nat.le_of_ble_eq_true rfl) rfl kv_X11_thing ke_X11_thing km_X11_171 hc3 ⟨Nat.le_of_ble_eq_true rfl, Nat.le_of_ble_eq_true rfl⟩ (Nat.le_of_ble_eq_true rfl) (Nat.le_of_ble_eq_true rfl) (daX11_landLine_1 14 rfl) ?_
  refine GM_pick [0] rfl ?_
  exact gX11_landLine_134 l h hK
set_option maxRecDepth 20000 in
theorem gX11_landLine_118 (l : Launch) {F : FI} {v0 v1 v2 : Int} {μ : Mm} {t : Mm} (h : jX11_landLine_118 v0 v1 v2 μ = some t) (hK : F.1 = [] ∧ F.2.1 = t) : GM l mX11_landLine F 0 0 118 [(0, (3, v0)), (1, (0, v1)), (2, (0, v2))] [] μ := by
  unfold jX11_landLine_118 at h
  refine GM_aload_n (pc := 118) 0 rfl (daX11_landLine_1 6 rfl) rfl ?_
  refine GM_iload_n (pc := 119) 2 rfl (daX11_landLine_1 7 rfl) rfl ?_
  refine GM_bipush (pc := 120) 7 (daX11_landLine_1 8 rfl) rfl (R32_b rfl) ?_
  refine GM_icmp_ne (pc := 122) 129 (daX11_landLine_1 9 rfl) rfl (fun c5 => ?_) (fun c5 => ?_)
  · skip
    rw [if_neg c5] at h
    refine GM_iconst (pc := 129) 0 (daX11_landLine_1 12 rfl) rfl (R32_b rfl) ?_
    refine GM_pick [0, 1] rfl ?_
    exact gX11_landLine_130 l h hK
  · skip
    rw [if_pos c5] at h
    refine GM_iconst (pc := 125) 1 (daX11_landLine_1 10 rfl) rfl (R32_b rfl) ?_
    refine GM_goto (pc := 126) 130 (daX11_landLine_1 11 rfl) rfl ?_
    refine GM_pick [0, 1] rfl ?_
    exact gX11_landLine_130 l h hK
set_option maxRecDepth 20000 in
theorem gX11_landLine_106 (l : Launch) {F : FI} {v0 v1 v2 : Int} {μ : Mm} {t : Mm} (h : jX11_landLine_106 v0 v1 v2 μ = some t) (hK : F.1 = [] ∧ F.2.1 = t) : GM l mX11_landLine F 0 0 106 [(0, (3, v0)), (1, (0, v1)), (2, (0, v2))] [] μ := by
  unfold jX11_landLine_106 at h
  refine GM_iload_n (pc := 106) 2 rfl (daX11_landLine_1 0 rfl) rfl ?_
  refine GM_bipush (pc := 107) 6 (daX11_landLine_1 1 rfl) rfl (R32_b rfl) ?_
  refine GM_icmp_eq (pc := 109) 118 (daX11_landLine_1 2 rfl) rfl (fun c6 => ?_) (fun c6 => ?_)
  · skip
    rw [if_pos c6] at h
    exact gX11_landLine_118 l h hK
  · skip
    rw [if_neg c6] at h
    refine GM_iload_n (pc := 112) 2 rfl (daX11_landLine_1 3 rfl) rfl ?_
    refine GM_bipush (pc := 113) 7 (daX11_landLine_1 4 rfl) rfl (R32_b rfl) ?_
    refine GM_icmp_ne (pc := 115) 134 (daX11_landLine_1 5 rfl) rfl (fun c7 => ?_) (fun c7 => ?_)
    · skip
      rw [if_neg c7] at h
      refine GM_pick [0] rfl ?_
      exact gX11_landLine_134 l h hK
    · skip
      rw [if_pos c7] at h
      exact gX11_landLine_118 l h hK
set_option maxRecDepth 20000 in
theorem gX11_landLine_87 (l : Launch) {F : FI} {v0 v1 v2 : Int} {μ : Mm} {t : Mm} (h : jX11_landLine_87 v0 v1 v2 μ = some t) (hK : F.1 = [] ∧ F.2.1 = t) : GM l mX11_landLine F 0 0 87 [(0, (3, v0)), (1, (0, v1)), (2, (0, v2))] [] μ := by
  unfold jX11_landLine_87 at h
  refine GM_iload_n (pc := 87) 2 rfl (daX11_landLine_0 53 rfl) rfl ?_
  refine GM_iconst (pc := 88) 5 (daX11_landLine_0 54 rfl) rfl (R32_b rfl) ?_
  refine GM_icmp_ne (pc := 89) 106 (daX11_landLine_0 55 rfl) rfl (fun c8 => ?_) (fun c8 => ?_)
  · skip
    rw [if_neg c8] at h
    exact gX11_landLine_106 l h hK
  · skip
    rw [if_pos c8] at h
    refine GM_aload_n (pc := 92) 0 rfl (daX11_landLine_0 56 rfl) rfl ?_
    obtain ⟨hc9, h⟩ := chk_inv h
    refine GM_getf (pc := 93) 11 13 3 13 kf_X11_23 (Nat.le_of_ble_eq_true rfl) (Nat.le_of_ble_eq_true rfl) rfl (daX11_landLine_0 57 rfl) hc9 rfl ?_
    refine GM_iconst (pc := 96) 4 (daX11_landLine_0 58 rfl) rfl (R32_b rfl) ?_
    refine GM_aload_n (pc := 97) 0 rfl (daX11_landLine_0 59 rfl) rfl ?_
    refine GM_iconst (pc := 98) 1 (daX11_landLine_0 60 rfl) rfl (R32_b rfl) ?_
    refine GM_sipush (pc := 99) 999 (daX11_landLine_0 61 rfl) rfl (R32_b rfl) ?_
    obtain ⟨⟨r10, μ10⟩, hf10, h⟩ := Option.bind_eq_some_iff.mp h
    dsimp only at h
    refine GM_callV0 (pc := 102) [(0, 1), (0, 999)] (tX11_numbered l hf10) cwX11_numbered 11 (Nat.le_of_ble_eq_true rfl) rfl kv_X11_numbered ke_X11_numbered km_X11_160 hc9 ⟨Nat.le_of_ble_eq_true rfl, Nat.le_of_ble_eq_true rfl⟩ (Nat.le_of_ble_eq_true rfl) (Nat.le_of_ble_eq_true rfl) (daX11_landLine_0 62 rfl) ?_
    obtain ⟨hc11, h⟩ := chk_inv h
    obtain ⟨μ12, hμ12, h⟩ := lm_inv h
    refine GM_iast (pc := 105) (daX11_landLine_0 63 rfl) hc11.1 (by decide) hc11.2 ?_
    refine GM_mem hμ12 ?_
    exact gX11_landLine_106 l h hK
set_option maxRecDepth 20000 in
theorem gX11_landLine_69 (l : Launch) {F : FI} {v0 v1 v2 : Int} {μ : Mm} {t : Mm} (h : jX11_landLine_69 v0 v1 v2 μ = some t) (hK : F.1 = [] ∧ F.2.1 = t) : GM l mX11_landLine F 0 0 69 [(0, (3, v0)), (1, (0, v1)), (2, (0, v2))] [] μ := by
  unfold jX11_landLine_69 at h
  refine GM_iload_n (pc := 69) 2 rfl (daX11_landLine_0 42 rfl) rfl ?_
  refine GM_iconst (pc := 70) 4 (daX11_landLine_0 43 rfl) rfl (R32_b rfl) ?_
  refine GM_icmp_ne (pc := 71) 87 (daX11_landLine_0 44 rfl) rfl (fun c13 => ?_) (fun c13 => ?_)
  · skip
    rw [if_neg c13] at h
    exact gX11_landLine_87 l h hK
  · skip
    rw [if_pos c13] at h
    refine GM_aload_n (pc := 74) 0 rfl (daX11_landLine_0 45 rfl) rfl ?_
    obtain ⟨hc14, h⟩ := chk_inv h
    refine GM_getf (pc := 75) 11 13 3 13 kf_X11_23 (Nat.le_of_ble_eq_true rfl) (Nat.le_of_ble_eq_true rfl) rfl (daX11_landLine_0 46 rfl) hc14 rfl ?_
    refine GM_iconst (pc := 78) 3 (daX11_landLine_0 47 rfl) rfl (R32_b rfl) ?_
    refine GM_aload_n (pc := 79) 0 rfl (daX11_landLine_0 48 rfl) rfl ?_
    refine GM_iconst (pc := 80) 0 (daX11_landLine_0 49 rfl) rfl (R32_b rfl) ?_
    refine GM_bipush (pc := 81) 99 (daX11_landLine_0 50 rfl) rfl (R32_b rfl) ?_
    obtain ⟨⟨r15, μ15⟩, hf15, h⟩ := Option.bind_eq_some_iff.mp h
    dsimp only at h
    refine GM_callV0 (pc := 83) [(0, 0), (0, 99)] (tX11_numbered l hf15) cwX11_numbered 11 (Nat.le_of_ble_eq_true rfl) rfl kv_X11_numbered ke_X11_numbered km_X11_160 hc14 ⟨Nat.le_of_ble_eq_true rfl, Nat.le_of_ble_eq_true rfl⟩ (Nat.le_of_ble_eq_true rfl) (Nat.le_of_ble_eq_true rfl) (daX11_landLine_0 51 rfl) ?_
    obtain ⟨hc16, h⟩ := chk_inv h
    obtain ⟨μ17, hμ17, h⟩ := lm_inv h
    refine GM_iast (pc := 86) (daX11_landLine_0 52 rfl) hc16.1 (by decide) hc16.2 ?_
    refine GM_mem hμ17 ?_
    exact gX11_landLine_87 l h hK
set_option maxRecDepth 20000 in
theorem gX11_landLine_51 (l : Launch) {F : FI} {v0 v1 v2 : Int} {μ : Mm} {t : Mm} (h : jX11_landLine_51 v0 v1 v2 μ = some t) (hK : F.1 = [] ∧ F.2.1 = t) : GM l mX11_landLine F 0 0 51 [(0, (3, v0)), (1, (0, v1)), (2, (0, v2))] [] μ := by
  unfold jX11_landLine_51 at h
  refine GM_iload_n (pc := 51) 2 rfl (daX11_landLine_0 31 rfl) rfl ?_
  refine GM_iconst (pc := 52) 3 (daX11_landLine_0 32 rfl) rfl (R32_b rfl) ?_
  refine GM_icmp_ne (pc := 53) 69 (daX11_landLine_0 33 rfl) rfl (fun c18 => ?_) (fun c18 => ?_)
  · skip
    rw [if_neg c18] at h
    exact gX11_landLine_69 l h hK
  · skip
    rw [if_pos c18] at h
    refine GM_aload_n (pc := 56) 0 rfl (daX11_landLine_0 34 rfl) rfl ?_
    obtain ⟨hc19, h⟩ := chk_inv h
    refine GM_getf (pc := 57) 11 13 3 13 kf_X11_23 (Nat.le_of_ble_eq_true rfl) (Nat.le_of_ble_eq_true rfl) rfl (daX11_landLine_0 35 rfl) hc19 rfl ?_
    refine GM_iconst (pc := 60) 2 (daX11_landLine_0 36 rfl) rfl (R32_b rfl) ?_
    refine GM_aload_n (pc := 61) 0 rfl (daX11_landLine_0 37 rfl) rfl ?_
    refine GM_iconst (pc := 62) 0 (daX11_landLine_0 38 rfl) rfl (R32_b rfl) ?_
    refine GM_bipush (pc := 63) 9 (daX11_landLine_0 39 rfl) rfl (R32_b rfl) ?_
    obtain ⟨⟨r20, μ20⟩, hf20, h⟩ := Option.bind_eq_some_iff.mp h
    dsimp only at h
    refine GM_callV0 (pc := 65) [(0, 0), (0, 9)] (tX11_numbered l hf20) cwX11_numbered 11 (Nat.le_of_ble_eq_true rfl) rfl kv_X11_numbered ke_X11_numbered km_X11_160 hc19 ⟨Nat.le_of_ble_eq_true rfl, Nat.le_of_ble_eq_true rfl⟩ (Nat.le_of_ble_eq_true rfl) (Nat.le_of_ble_eq_true rfl) (daX11_landLine_0 40 rfl) ?_
    obtain ⟨hc21, h⟩ := chk_inv h
    obtain ⟨μ22, hμ22, h⟩ := lm_inv h
    refine GM_iast (pc := 68) (daX11_landLine_0 41 rfl) hc21.1 (by decide) hc21.2 ?_
    refine GM_mem hμ22 ?_
    exact gX11_landLine_69 l h hK
set_option maxRecDepth 20000 in
theorem gX11_landLine_42 (l : Launch) {F : FI} {v0 v1 v2 : Int} {μ : Mm} {t : Mm} (h : jX11_landLine_42 v0 v1 v2 μ = some t) (hK : F.1 = [] ∧ F.2.1 = t) : GM l mX11_landLine F 0 0 42 [(0, (3, v0)), (1, (0, v1)), (2, (0, v2))] [] μ := by
  unfold jX11_landLine_42 at h
  refine GM_iload_n (pc := 42) 2 rfl (daX11_landLine_0 26 rfl) rfl ?_
  refine GM_iconst (pc := 43) 2 (daX11_landLine_0 27 rfl) rfl (R32_b rfl) ?_
  refine GM_icmp_ne (pc := 44) 51 (daX11_landLine_0 28 rfl) rfl (fun c23 => ?_) (fun c23 => ?_)
  · skip
    rw [if_neg c23] at h
    exact gX11_landLine_51 l h hK
  · skip
    rw [if_pos c23] at h
    refine GM_aload_n (pc := 47) 0 rfl (daX11_landLine_0 29 rfl) rfl ?_
    obtain ⟨hc24, h⟩ := chk_inv h
    obtain ⟨μ25, hf25, h⟩ := Option.bind_eq_some_iff.mp h
    refine GM_callV0 (pc := 48) [] (tX11_readHeights l hf25) cwX11_readHeights 11 (Nat.le_of_ble_eq_true rfl) rfl kv_X11_readHeights ke_X11_readHeights km_X11_168 hc24 ⟨Nat.le_of_ble_eq_true rfl, Nat.le_of_ble_eq_true rfl⟩ (Nat.le_of_ble_eq_true rfl) (Nat.le_of_ble_eq_true rfl) (daX11_landLine_0 30 rfl) ?_
    exact gX11_landLine_51 l h hK
set_option maxRecDepth 20000 in
theorem gX11_landLine_0 (l : Launch) {F : FI} {v0 : Int} {μ : Mm} {t : Mm} (h : fX11_landLine v0 μ = some t) (hK : F.1 = [] ∧ F.2.1 = t) : GM l mX11_landLine F 0 0 0 [(0, (3, v0))] [] μ := by
  unfold fX11_landLine at h
  refine GM_aload_n (pc := 0) 0 rfl (daX11_landLine_0 0 rfl) rfl ?_
  obtain ⟨hc26, h⟩ := chk_inv h
  refine GM_getf (pc := 1) 11 7 0 7 kf_X11_115 (Nat.le_of_ble_eq_true rfl) (Nat.le_of_ble_eq_true rfl) rfl (daX11_landLine_0 1 rfl) hc26 rfl ?_
  refine GM_istore_n (L' := [(1, (0, μ v0 7)), (0, (3, v0))]) (pc := 4) (daX11_landLine_0 2 rfl) rfl (Nat.le_of_ble_eq_true rfl) rfl ?_
  refine GM_aload_n (pc := 5) 1 rfl (daX11_landLine_0 3 rfl) rfl ?_
  refine GM_iconst (pc := 6) 1 (daX11_landLine_0 4 rfl) rfl (R32_b rfl) ?_
  obtain ⟨⟨r27, μ27⟩, hf27, h⟩ := Option.bind_eq_some_iff.mp h
  dsimp only at h
  refine GM_callV0 (pc := 7) [(0, 1)] (tX11_takes l hf27) cwX11_takes 11 (Nat.le_of_ble_eq_true rfl) rfl kv_X11_takes ke_X11_takes km_X11_164 hc26 ⟨Nat.le_of_ble_eq_true rfl, Nat.le_of_ble_eq_true rfl⟩ (Nat.le_of_ble_eq_true rfl) (Nat.le_of_ble_eq_true rfl) (daX11_landLine_0 5 rfl) ?_
  refine GM_istore_n (L' := [(2, (0, r27)), (1, (0, μ v0 7)), (0, (3, v0))]) (pc := 10) (daX11_landLine_0 6 rfl) rfl (Nat.le_of_ble_eq_true rfl) rfl ?_
  refine GM_iload_n (pc := 11) 0 rfl (daX11_landLine_0 7 rfl) rfl ?_
  refine GM_iconst (pc := 12) 1 (daX11_landLine_0 8 rfl) rfl (R32_b rfl) ?_
  refine GM_icmp_ne (pc := 13) 42 (daX11_landLine_0 9 rfl) rfl (fun c28 => ?_) (fun c28 => ?_)
  · skip
    rw [if_neg c28] at h
    refine GM_pick [2, 1, 0] rfl ?_
    exact gX11_landLine_42 l h hK
  · skip
    rw [if_pos c28] at h
    refine GM_aload_n (pc := 16) 2 rfl (daX11_landLine_0 10 rfl) rfl ?_
    refine GM_getf (pc := 17) 11 13 3 13 kf_X11_23 (Nat.le_of_ble_eq_true rfl) (Nat.le_of_ble_eq_true rfl) rfl (daX11_landLine_0 11 rfl) hc26 rfl ?_
    refine GM_iconst (pc := 20) 0 (daX11_landLine_0 12 rfl) rfl (R32_b rfl) ?_
    refine GM_aload_n (pc := 21) 2 rfl (daX11_landLine_0 13 rfl) rfl ?_
    refine GM_iconst (pc := 22) 2 (daX11_landLine_0 14 rfl) rfl (R32_b rfl) ?_
    refine GM_bipush (pc := 23) 12 (daX11_landLine_0 15 rfl) rfl (R32_b rfl) ?_
    obtain ⟨⟨r29, μ29⟩, hf29, h⟩ := Option.bind_eq_some_iff.mp h
    dsimp only at h
    refine GM_callV0 (pc := 25) [(0, 2), (0, 12)] (tX11_numbered l hf29) cwX11_numbered 11 (Nat.le_of_ble_eq_true rfl) rfl kv_X11_numbered ke_X11_numbered km_X11_160 hc26 ⟨Nat.le_of_ble_eq_true rfl, Nat.le_of_ble_eq_true rfl⟩ (Nat.le_of_ble_eq_true rfl) (Nat.le_of_ble_eq_true rfl) (daX11_landLine_0 16 rfl) ?_
    obtain ⟨hc30, h⟩ := chk_inv h
    obtain ⟨μ31, hμ31, h⟩ := lm_inv h
    refine GM_iast (pc := 28) (daX11_landLine_0 17 rfl) hc30.1 (by decide) hc30.2 ?_
    refine GM_mem hμ31 ?_
    refine GM_aload_n (pc := 29) 2 rfl (daX11_landLine_0 18 rfl) rfl ?_
    refine GM_getf (pc := 30) 11 13 3 13 kf_X11_23 (Nat.le_of_ble_eq_true rfl) (Nat.le_of_ble_eq_true rfl) rfl (daX11_landLine_0 19 rfl) hc26 rfl ?_
    refine GM_iconst (pc := 33) 1 (daX11_landLine_0 20 rfl) rfl (R32_b rfl) ?_
    refine GM_aload_n (pc := 34) 2 rfl (daX11_landLine_0 21 rfl) rfl ?_
    refine GM_iconst (pc := 35) 2 (daX11_landLine_0 22 rfl) rfl (R32_b rfl) ?_
    refine GM_bipush (pc := 36) 12 (daX11_landLine_0 23 rfl) rfl (R32_b rfl) ?_
    obtain ⟨⟨r32, μ32⟩, hf32, h⟩ := Option.bind_eq_some_iff.mp h
    dsimp only at h
    refine GM_callV0 (pc := 38) [(0, 2), (0, 12)] (tX11_numbered l hf32) cwX11_numbered 11 (Nat.le_of_ble_eq_true rfl) rfl kv_X11_numbered ke_X11_numbered km_X11_160 hc26 ⟨Nat.le_of_ble_eq_true rfl, Nat.le_of_ble_eq_true rfl⟩ (Nat.le_of_ble_eq_true rfl) (Nat.le_of_ble_eq_true rfl) (daX11_landLine_0 24 rfl) ?_
    obtain ⟨hc33, h⟩ := chk_inv h
    obtain ⟨μ34, hμ34, h⟩ := lm_inv h
    refine GM_iast (pc := 41) (daX11_landLine_0 25 rfl) hc33.1 (by decide) hc33.2 ?_
    refine GM_mem hμ34 ?_
    refine GM_pick [2, 1, 0] rfl ?_
    exact gX11_landLine_42 l h hK
theorem tX11_landLine (l : Launch) {v0 : Int} {μ : Mm} {t : Mm} (h : fX11_landLine v0 μ = some t) : Ct l yX11_landLine mX11_landLine [(3, v0)] μ ([], t, 0, 0) :=
  Ct_of (by decide +kernel) rfl rfl (Nat.le_of_ble_eq_true rfl) (fun _ _ _ => trivial) (gX11_landLine_0 l h ⟨rfl, rfl⟩)
def mX11_hump0 : MI := (RX11, cX11_hump0, 5, none, "hump0", 4, 90, fun _ _ _ => True)
theorem cwX11_hump0 : CWd yX11_hump0 mX11_hump0 1 := ⟨ki_X11, kk_X11_hump0, ⟨by decide, by decide⟩, rfl⟩
def dtX11_hump0_0 : List (Nat × Instr × Nat) := [(0, .aload_n 0, 1), (1, .getfield 23, 3), (4, .iconst 0, 1), (5, .iaload, 1), (6, .bipush 12, 2), (8, .if_icmp .lt 9, 3), (11, .aload_n 0, 1), (12, .iconst 3, 1), (13, .iload_n 1, 1), (14, .invokevirtual 151, 3), (17, .aload_n 0, 1), (18, .iconst 1, 1), (19, .bipush 99, 2), (21, .invokevirtual 160, 3), (24, .istore_n 2, 1), (25, .iconst 0, 1), (26, .istore_n 3, 1), (27, .aload_n 0, 1), (28, .getfield 140, 3), (31, .ifCond .ne 99, 3), (34, .aload_n 0, 1), (35, .getfield 118, 3), (38, .iconst 3, 1), (39, .if_icmp .ne 91, 3), (42, .aload_n 0, 1), (43, .getfield 131, 3), (46, .bipush 6, 2), (48, .bipush 8, 2), (50, .invokestatic 147, 3), (53, .ifCond .eq 77, 3), (56, .aload_n 0, 1), (57, .getfield 131, 3), (60, .bipush 6, 2), (62, .if_icmp .ne 7, 3), (65, .iconst 1, 1), (66, .goto 17, 3), (69, .aload_n 0, 1), (70, .getfield 131, 3), (73, .bipush 7, 2), (75, .if_icmp .ne 7, 3), (78, .iconst 2, 1), (79, .goto 4, 3), (82, .iconst 4, 1), (83, .istore 4, 2), (85, .iload 4, 2), (87, .iconst 2, 1), (88, .if_icmp .ne 9, 3), (91, .iload_n 3, 1), (92, .iconst 4, 1), (93, .iand, 1), (94, .ifCond .ne 15, 3), (97, .iload 4, 2), (99, .iconst 4, 1), (100, .if_icmp .ne 18, 3), (103, .iload_n 3, 1), (104, .iconst 2, 1), (105, .iand, 1), (106, .ifCond .eq 12, 3), (109, .aload_n 0, 1), (110, .iconst 2, 1), (111, .aload_n 0, 1), (112, .getfield 115, 3), (115, .invokevirtual 151, 3), (118, .iload_n 3, 1)]
theorem ddX11_hump0_0 : (dtX11_hump0_0.all fun e => decide (decode mX11_hump0.2.1 e.1 = .ok (e.2.1, e.2.2))) = true := by decide +kernel
theorem daX11_hump0_0 (j : Nat) {pc n : Nat} {i : Instr} (h : dtX11_hump0_0[j]? = some (pc, i, n)) : decode mX11_hump0.2.1 pc = .ok (i, n) := dec_of (c := mX11_hump0.2.1) ddX11_hump0_0 h
def dtX11_hump0_1 : List (Nat × Instr × Nat) := [(119, .iload 4, 2), (121, .ior, 1), (122, .istore_n 3, 1), (123, .aload_n 0, 1), (124, .invokevirtual 154, 3), (127, .goto (-100), 3), (130, .aload_n 0, 1), (131, .getfield 23, 3), (134, .iconst 0, 1), (135, .iaload, 1), (136, .bipush 12, 2), (138, .if_icmp .ge 33, 3), (141, .aload_n 0, 1), (142, .getfield 23, 3), (145, .bipush 7, 2), (147, .aload_n 0, 1), (148, .getfield 23, 3), (151, .iconst 0, 1), (152, .iaload, 1), (153, .iadd, 1), (154, .iload_n 2, 1), (155, .iastore, 1), (156, .aload_n 0, 1), (157, .getfield 23, 3), (160, .bipush 19, 2), (162, .aload_n 0, 1), (163, .getfield 23, 3), (166, .iconst 0, 1), (167, .iaload, 1), (168, .iadd, 1), (169, .iload_n 3, 1), (170, .iastore, 1), (171, .aload_n 0, 1), (172, .getfield 23, 3), (175, .iconst 0, 1), (176, .dup2, 1), (177, .iaload, 1), (178, .iconst 1, 1), (179, .iadd, 1), (180, .iastore, 1), (181, .return_, 1)]
theorem ddX11_hump0_1 : (dtX11_hump0_1.all fun e => decide (decode mX11_hump0.2.1 e.1 = .ok (e.2.1, e.2.2))) = true := by decide +kernel
theorem daX11_hump0_1 (j : Nat) {pc n : Nat} {i : Instr} (h : dtX11_hump0_1[j]? = some (pc, i, n)) : decode mX11_hump0.2.1 pc = .ok (i, n) := dec_of (c := mX11_hump0.2.1) ddX11_hump0_1 h
def jX11_hump0_118 (v0 v2 v3 v4 : Int) (μ : Mm) : Option ((Int × Mm) ⊕ (Int × Mm)) :=
  chk (KD v0 = 11) (
  (fX11_advance v0 μ).bind fun μ2 =>
  some (.inl (ior v3 v4, μ2)))
def jX11_hump0_109 (v0 v2 v3 v4 : Int) (μ : Mm) : Option ((Int × Mm) ⊕ (Int × Mm)) :=
  chk (KD v0 = 11) (
  (fX11_also v0 2 (μ v0 7) μ).bind fun μ4 =>
  jX11_hump0_118 v0 v2 v3 v4 μ4)
def jX11_hump0_97 (v0 v2 v3 v4 : Int) (μ : Mm) : Option ((Int × Mm) ⊕ (Int × Mm)) :=
  if v4 = 4 then
    if iand v3 2 = 0 then
      jX11_hump0_118 v0 v2 v3 v4 μ
    else
      jX11_hump0_109 v0 v2 v3 v4 μ
  else
    jX11_hump0_118 v0 v2 v3 v4 μ
def jX11_hump0_83 (v0 v2 v3 s0 : Int) (μ : Mm) : Option ((Int × Mm) ⊕ (Int × Mm)) :=
  if s0 = 2 then
    if iand v3 4 = 0 then
      jX11_hump0_97 v0 v2 v3 s0 μ
    else
      jX11_hump0_109 v0 v2 v3 s0 μ
  else
    jX11_hump0_97 v0 v2 v3 s0 μ
def zX11_hump0_27 (l : Launch) (F : FI) (v0 v2 : Int) (k n : Nat) : (Int × Mm) ⊕ (Int × Mm) → Prop
  | .inl (v3, μ) => GM l mX11_hump0 F k n 27 [(0, (3, v0)), (2, (0, v2)), (3, (0, v3))] [] μ
  | .inr (v3, μ) => GM l mX11_hump0 F k n 130 [(0, (3, v0)), (2, (0, v2)), (3, (0, v3))] [] μ
def sX11_hump0_27 (v0 v2 : Int) : (Int × Mm) → Option ((Int × Mm) ⊕ (Int × Mm)) := fun (v3, μ) =>
  chk (KD v0 = 11) (
  if μ v0 11 = 0 then
    if μ v0 8 = 3 then
      if isIn (μ v0 10) 6 8 = 0 then
        some (.inr (v3, μ))
      else
        if μ v0 10 = 6 then
          jX11_hump0_83 v0 v2 v3 1 μ
        else
          if μ v0 10 = 7 then
            jX11_hump0_83 v0 v2 v3 2 μ
          else
            jX11_hump0_83 v0 v2 v3 4 μ
    else
      some (.inr (v3, μ))
  else
    some (.inr (v3, μ)))
def jX11_hump0_17 (v0 : Int) (μ : Mm) : Option Mm :=
  chk (KD v0 = 11) (
  (fX11_numbered v0 1 99 μ).bind fun (r16, μ16) =>
  (lop (sX11_hump0_27 v0 r16) FU (0, μ16)).bind fun x17 =>
    match x17 with
    | (v3_18, μ_18) =>
      chk (KD (μ_18 v0 13) = 12 ∧ 0 < LN (μ_18 v0 13)) (
      if 12 ≤ μ_18 (μ_18 v0 13) 0 then
        lm (mst μ_18 (μ_18 v0 13) 0 (w32 ((μ_18 (μ_18 v0 13) 0) + 1))) fun μ21 =>
        some μ21
      else
        chk (0 ≤ w32 (7 + (μ_18 (μ_18 v0 13) 0)) ∧ w32 (7 + (μ_18 (μ_18 v0 13) 0)) < LN (μ_18 v0 13)) (
        lm (mst μ_18 (μ_18 v0 13) (w32 (7 + (μ_18 (μ_18 v0 13) 0))) r16) fun μ23 =>
        chk (KD (μ23 v0 13) = 12 ∧ 0 < LN (μ23 v0 13)) (
        chk (0 ≤ w32 (19 + (μ23 (μ23 v0 13) 0)) ∧ w32 (19 + (μ23 (μ23 v0 13) 0)) < LN (μ23 v0 13)) (
        lm (mst μ23 (μ23 v0 13) (w32 (19 + (μ23 (μ23 v0 13) 0))) v3_18) fun μ26 =>
        chk (KD (μ26 v0 13) = 12 ∧ 0 < LN (μ26 v0 13)) (
        lm (mst μ26 (μ26 v0 13) 0 (w32 ((μ26 (μ26 v0 13) 0) + 1))) fun μ28 =>
        some μ28))))))
def fX11_hump0 (v0 v1 : Int) (μ : Mm) : Option Mm :=
  chk (KD v0 = 11) (
  chk (KD (μ v0 13) = 12 ∧ 0 < LN (μ v0 13)) (
  if μ (μ v0 13) 0 < 12 then
    jX11_hump0_17 v0 μ
  else
    (fX11_also v0 3 v1 μ).bind fun μ32 =>
    jX11_hump0_17 v0 μ32))
set_option maxRecDepth 20000 in
theorem gX11_hump0_118 (l : Launch) {F : FI} {v0 v2 v3 v4 : Int} {μ : Mm} {t : ((Int × Mm) ⊕ (Int × Mm))} {k n : Nat} (h : jX11_hump0_118 v0 v2 v3 v4 μ = some t) (hK : zX11_hump0_27 l F v0 v2 k n t) : GM l mX11_hump0 F k n 118 [(0, (3, v0)), (2, (0, v2)), (3, (0, v3)), (4, (0, v4))] [] μ := by
  unfold jX11_hump0_118 at h
  refine GM_iload_n (pc := 118) 2 rfl (daX11_hump0_0 63 rfl) rfl ?_
  refine GM_iload (pc := 119) 3 rfl (daX11_hump0_1 0 rfl) ?_
  refine GM_ior (pc := 121) (daX11_hump0_1 1 rfl) ?_
  refine GM_istore_n (L' := [(3, (0, ior v3 v4)), (0, (3, v0)), (2, (0, v2)), (4, (0, v4))]) (pc := 122) (daX11_hump0_1 2 rfl) rfl (Nat.le_of_ble_eq_true rfl) rfl ?_
  refine GM_aload_n (pc := 123) 1 rfl (daX11_hump0_1 3 rfl) rfl ?_
  obtain ⟨hc1, h⟩ := chk_inv h
  obtain ⟨μ2, hf2, h⟩ := Option.bind_eq_some_iff.mp h
  refine GM_callV0 (pc := 124) [] (tX11_advance l hf2) cwX11_advance 11 (Nat.le_of_ble_eq_true rfl) rfl kv_X11_advance ke_X11_advance km_X11_154 hc1 ⟨Nat.le_of_ble_eq_true rfl, Nat.le_of_ble_eq_true rfl⟩ (Nat.le_of_ble_eq_true rfl) (Nat.le_of_ble_eq_true rfl) (daX11_hump0_1 4 rfl) ?_
  refine GM_goto (pc := 127) 27 (daX11_hump0_1 5 rfl) rfl ?_
  refine GM_pick [1, 2, 0] rfl ?_
  cases h
  exact hK
set_option maxRecDepth 20000 in
theorem gX11_hump0_109 (l : Launch) {F : FI} {v0 v2 v3 v4 : Int} {μ : Mm} {t : ((Int × Mm) ⊕ (Int × Mm))} {k n : Nat} (h : jX11_hump0_109 v0 v2 v3 v4 μ = some t) (hK : zX11_hump0_27 l F v0 v2 k n t) : GM l mX11_hump0 F k n 109 [(0, (3, v0)), (2, (0, v2)), (3, (0, v3)), (4, (0, v4))] [] μ := by
  unfold jX11_hump0_109 at h
  refine GM_aload_n (pc := 109) 0 rfl (daX11_hump0_0 58 rfl) rfl ?_
  refine GM_iconst (pc := 110) 2 (daX11_hump0_0 59 rfl) rfl (R32_b rfl) ?_
  refine GM_aload_n (pc := 111) 0 rfl (daX11_hump0_0 60 rfl) rfl ?_
  obtain ⟨hc3, h⟩ := chk_inv h
  refine GM_getf (pc := 112) 11 7 0 7 kf_X11_115 (Nat.le_of_ble_eq_true rfl) (Nat.le_of_ble_eq_true rfl) rfl (daX11_hump0_0 61 rfl) hc3 rfl ?_
  obtain ⟨μ4, hf4, h⟩ := Option.bind_eq_some_iff.mp h
  refine GM_callV0 (pc := 115) [(0, 2), (0, μ v0 7)] (tX11_also l hf4) cwX11_also 11 (Nat.le_of_ble_eq_true rfl) rfl kv_X11_also ke_X11_also km_X11_151 hc3 ⟨Nat.le_of_ble_eq_true rfl, Nat.le_of_ble_eq_true rfl⟩ (Nat.le_of_ble_eq_true rfl) (Nat.le_of_ble_eq_true rfl) (daX11_hump0_0 62 rfl) ?_
  exact gX11_hump0_118 l h hK
set_option maxRecDepth 20000 in
theorem gX11_hump0_97 (l : Launch) {F : FI} {v0 v2 v3 v4 : Int} {μ : Mm} {t : ((Int × Mm) ⊕ (Int × Mm))} {k n : Nat} (h : jX11_hump0_97 v0 v2 v3 v4 μ = some t) (hK : zX11_hump0_27 l F v0 v2 k n t) : GM l mX11_hump0 F k n 97 [(0, (3, v0)), (2, (0, v2)), (3, (0, v3)), (4, (0, v4))] [] μ := by
  unfold jX11_hump0_97 at h
  refine GM_iload (pc := 97) 3 rfl (daX11_hump0_0 51 rfl) ?_
  refine GM_iconst (pc := 99) 4 (daX11_hump0_0 52 rfl) rfl (R32_b rfl) ?_
  refine GM_icmp_ne (pc := 100) 118 (daX11_hump0_0 53 rfl) rfl (fun c5 => ?_) (fun c5 => ?_)
  · skip
    rw [if_neg c5] at h
    exact gX11_hump0_118 l h hK
  · skip
    rw [if_pos c5] at h
    refine GM_iload_n (pc := 103) 2 rfl (daX11_hump0_0 54 rfl) rfl ?_
    refine GM_iconst (pc := 104) 2 (daX11_hump0_0 55 rfl) rfl (R32_b rfl) ?_
    refine GM_iand (pc := 105) (daX11_hump0_0 56 rfl) ?_
    refine GM_if_eq (pc := 106) 118 (daX11_hump0_0 57 rfl) rfl (fun c6 => ?_) (fun c6 => ?_)
    · skip
      rw [if_pos c6] at h
      exact gX11_hump0_118 l h hK
    · skip
      rw [if_neg c6] at h
      exact gX11_hump0_109 l h hK
set_option maxRecDepth 20000 in
theorem gX11_hump0_83 (l : Launch) {F : FI} {v0 v2 v3 s0 : Int} {μ : Mm} {t : ((Int × Mm) ⊕ (Int × Mm))} {k n : Nat} (h : jX11_hump0_83 v0 v2 v3 s0 μ = some t) (hK : zX11_hump0_27 l F v0 v2 k n t) : GM l mX11_hump0 F k n 83 [(0, (3, v0)), (2, (0, v2)), (3, (0, v3))] [(0, s0)] μ := by
  unfold jX11_hump0_83 at h
  refine GM_istore (L' := [(4, (0, s0)), (0, (3, v0)), (2, (0, v2)), (3, (0, v3))]) (pc := 83) (daX11_hump0_0 43 rfl) (Nat.le_of_ble_eq_true rfl) rfl ?_
  refine GM_iload (pc := 85) 0 rfl (daX11_hump0_0 44 rfl) ?_
  refine GM_iconst (pc := 87) 2 (daX11_hump0_0 45 rfl) rfl (R32_b rfl) ?_
  refine GM_icmp_ne (pc := 88) 97 (daX11_hump0_0 46 rfl) rfl (fun c7 => ?_) (fun c7 => ?_)
  · skip
    rw [if_neg c7] at h
    refine GM_pick [1, 2, 3, 0] rfl ?_
    exact gX11_hump0_97 l h hK
  · skip
    rw [if_pos c7] at h
    refine GM_iload_n (pc := 91) 3 rfl (daX11_hump0_0 47 rfl) rfl ?_
    refine GM_iconst (pc := 92) 4 (daX11_hump0_0 48 rfl) rfl (R32_b rfl) ?_
    refine GM_iand (pc := 93) (daX11_hump0_0 49 rfl) ?_
    refine GM_if_ne (pc := 94) 109 (daX11_hump0_0 50 rfl) rfl (fun c8 => ?_) (fun c8 => ?_)
    · skip
      rw [if_neg c8] at h
      refine GM_pick [1, 2, 3, 0] rfl ?_
      exact gX11_hump0_109 l h hK
    · skip
      rw [if_pos c8] at h
      refine GM_pick [1, 2, 3, 0] rfl ?_
      exact gX11_hump0_97 l h hK
set_option maxRecDepth 20000 in
theorem qX11_hump0_27 (l : Launch) (F : FI) (v0 v2 : Int) (k n : Nat) : ∀ (q : (Int × Mm)) (t : ((Int × Mm) ⊕ (Int × Mm))), sX11_hump0_27 v0 v2 q = some t → zX11_hump0_27 l F v0 v2 k n t → zX11_hump0_27 l F v0 v2 k n (.inl q) := by
  intro q t h hK
  obtain ⟨v3, μ⟩ := q
  unfold sX11_hump0_27 at h
  try dsimp only at h
  show GM l mX11_hump0 F k n 27 [(0, (3, v0)), (2, (0, v2)), (3, (0, v3))] [] μ
  refine GM_aload_n (pc := 27) 0 rfl (daX11_hump0_0 17 rfl) rfl ?_
  obtain ⟨hc9, h⟩ := chk_inv h
  refine GM_getf (pc := 28) 11 11 0 11 kf_X11_140 (Nat.le_of_ble_eq_true rfl) (Nat.le_of_ble_eq_true rfl) rfl (daX11_hump0_0 18 rfl) hc9 rfl ?_
  refine GM_if_ne (pc := 31) 130 (daX11_hump0_0 19 rfl) rfl (fun c10 => ?_) (fun c10 => ?_)
  · skip
    rw [if_neg c10] at h
    cases h
    exact hK
  · skip
    rw [if_pos c10] at h
    refine GM_aload_n (pc := 34) 0 rfl (daX11_hump0_0 20 rfl) rfl ?_
    refine GM_getf (pc := 35) 11 8 0 8 kf_X11_118 (Nat.le_of_ble_eq_true rfl) (Nat.le_of_ble_eq_true rfl) rfl (daX11_hump0_0 21 rfl) hc9 rfl ?_
    refine GM_iconst (pc := 38) 3 (daX11_hump0_0 22 rfl) rfl (R32_b rfl) ?_
    refine GM_icmp_ne (pc := 39) 130 (daX11_hump0_0 23 rfl) rfl (fun c11 => ?_) (fun c11 => ?_)
    · skip
      rw [if_neg c11] at h
      cases h
      exact hK
    · skip
      rw [if_pos c11] at h
      refine GM_aload_n (pc := 42) 0 rfl (daX11_hump0_0 24 rfl) rfl ?_
      refine GM_getf (pc := 43) 11 10 0 10 kf_X11_131 (Nat.le_of_ble_eq_true rfl) (Nat.le_of_ble_eq_true rfl) rfl (daX11_hump0_0 25 rfl) hc9 rfl ?_
      refine GM_bipush (pc := 46) 6 (daX11_hump0_0 26 rfl) rfl (R32_b rfl) ?_
      refine GM_bipush (pc := 48) 8 (daX11_hump0_0 27 rfl) rfl (R32_b rfl) ?_
      refine GM_callS0 (pc := 50) [(0, μ v0 10), (0, 6), (0, 8)] (tX11_isIn l (fX11_isIn_eq (μ v0 10) 6 8)) cwX11_isIn ks_X11_isIn km_X11_147 ⟨Nat.le_of_ble_eq_true rfl, Nat.le_of_ble_eq_true rfl⟩ (Nat.le_of_ble_eq_true rfl) (Nat.le_of_ble_eq_true rfl) (daX11_hump0_0 28 rfl) ?_
      refine GM_if_eq (pc := 53) 130 (daX11_hump0_0 29 rfl) rfl (fun c12 => ?_) (fun c12 => ?_)
      · skip
        rw [if_pos c12] at h
        cases h
        exact hK
      · skip
        rw [if_neg c12] at h
        refine GM_aload_n (pc := 56) 0 rfl (daX11_hump0_0 30 rfl) rfl ?_
        refine GM_getf (pc := 57) 11 10 0 10 kf_X11_131 (Nat.le_of_ble_eq_true rfl) (Nat.le_of_ble_eq_true rfl) rfl (daX11_hump0_0 31 rfl) hc9 rfl ?_
        refine GM_bipush (pc := 60) 6 (daX11_hump0_0 32 rfl) rfl (R32_b rfl) ?_
        refine GM_icmp_ne (pc := 62) 69 (daX11_hump0_0 33 rfl) rfl (fun c13 => ?_) (fun c13 => ?_)
        · skip
          rw [if_neg c13] at h
          refine GM_aload_n (pc := 69) 0 rfl (daX11_hump0_0 36 rfl) rfl ?_
          refine GM_getf (pc := 70) 11 10 0 10 kf_X11_131 (Nat.le_of_ble_eq_true rfl) (Nat.le_of_ble_eq_true rfl) rfl (daX11_hump0_0 37 rfl) hc9 rfl ?_
          refine GM_bipush (pc := 73) 7 (daX11_hump0_0 38 rfl) rfl (R32_b rfl) ?_
          refine GM_icmp_ne (pc := 75) 82 (daX11_hump0_0 39 rfl) rfl (fun c14 => ?_) (fun c14 => ?_)
          · skip
            rw [if_neg c14] at h
            refine GM_iconst (pc := 82) 4 (daX11_hump0_0 42 rfl) rfl (R32_b rfl) ?_
            exact gX11_hump0_83 l h hK
          · skip
            rw [if_pos c14] at h
            refine GM_iconst (pc := 78) 2 (daX11_hump0_0 40 rfl) rfl (R32_b rfl) ?_
            refine GM_goto (pc := 79) 83 (daX11_hump0_0 41 rfl) rfl ?_
            exact gX11_hump0_83 l h hK
        · skip
          rw [if_pos c13] at h
          refine GM_iconst (pc := 65) 1 (daX11_hump0_0 34 rfl) rfl (R32_b rfl) ?_
          refine GM_goto (pc := 66) 83 (daX11_hump0_0 35 rfl) rfl ?_
          exact gX11_hump0_83 l h hK
set_option maxRecDepth 20000 in
theorem gX11_hump0_17 (l : Launch) {F : FI} {v0 : Int} {μ : Mm} {t : Mm} (h : jX11_hump0_17 v0 μ = some t) (hK : F.1 = [] ∧ F.2.1 = t) : GM l mX11_hump0 F 0 0 17 [(0, (3, v0))] [] μ := by
  unfold jX11_hump0_17 at h
  refine GM_aload_n (pc := 17) 0 rfl (daX11_hump0_0 10 rfl) rfl ?_
  refine GM_iconst (pc := 18) 1 (daX11_hump0_0 11 rfl) rfl (R32_b rfl) ?_
  refine GM_bipush (pc := 19) 99 (daX11_hump0_0 12 rfl) rfl (R32_b rfl) ?_
  obtain ⟨hc15, h⟩ := chk_inv h
  obtain ⟨⟨r16, μ16⟩, hf16, h⟩ := Option.bind_eq_some_iff.mp h
  dsimp only at h
  refine GM_callV0 (pc := 21) [(0, 1), (0, 99)] (tX11_numbered l hf16) cwX11_numbered 11 (Nat.le_of_ble_eq_true rfl) rfl kv_X11_numbered ke_X11_numbered km_X11_160 hc15 ⟨Nat.le_of_ble_eq_true rfl, Nat.le_of_ble_eq_true rfl⟩ (Nat.le_of_ble_eq_true rfl) (Nat.le_of_ble_eq_true rfl) (daX11_hump0_0 13 rfl) ?_
  refine GM_istore_n (L' := [(2, (0, r16)), (0, (3, v0))]) (pc := 24) (daX11_hump0_0 14 rfl) rfl (Nat.le_of_ble_eq_true rfl) rfl ?_
  refine GM_iconst (pc := 25) 0 (daX11_hump0_0 15 rfl) rfl (R32_b rfl) ?_
  refine GM_istore_n (L' := [(3, (0, 0)), (2, (0, r16)), (0, (3, v0))]) (pc := 26) (daX11_hump0_0 16 rfl) rfl (Nat.le_of_ble_eq_true rfl) rfl ?_
  refine GM_pick [2, 1, 0] rfl ?_
  obtain ⟨x17, hqx17, h⟩ := Option.bind_eq_some_iff.mp h
  refine lop_ind (zX11_hump0_27 l F v0 r16 0 0) (qX11_hump0_27 l F v0 r16 0 0) FU _ x17 hqx17 ?_
  obtain ⟨v3_18, μ_18⟩ := x17
  dsimp only at h
  show GM l mX11_hump0 F 0 0 130 [(0, (3, v0)), (2, (0, r16)), (3, (0, v3_18))] [] μ_18
  refine GM_aload_n (pc := 130) 0 rfl (daX11_hump0_1 6 rfl) rfl ?_
  refine GM_getf (pc := 131) 11 13 3 13 kf_X11_23 (Nat.le_of_ble_eq_true rfl) (Nat.le_of_ble_eq_true rfl) rfl (daX11_hump0_1 7 rfl) hc15 rfl ?_
  refine GM_iconst (pc := 134) 0 (daX11_hump0_1 8 rfl) rfl (R32_b rfl) ?_
  obtain ⟨hc19, h⟩ := chk_inv h
  refine GM_iald (pc := 135) (daX11_hump0_1 9 rfl) hc19.1 (by decide) hc19.2 ?_
  refine GM_bipush (pc := 136) 12 (daX11_hump0_1 10 rfl) rfl (R32_b rfl) ?_
  refine GM_icmp_ge (pc := 138) 171 (daX11_hump0_1 11 rfl) rfl (fun c20 => ?_) (fun c20 => ?_)
  · skip
    rw [if_pos c20] at h
    refine GM_aload_n (pc := 171) 0 rfl (daX11_hump0_1 32 rfl) rfl ?_
    refine GM_getf (pc := 172) 11 13 3 13 kf_X11_23 (Nat.le_of_ble_eq_true rfl) (Nat.le_of_ble_eq_true rfl) rfl (daX11_hump0_1 33 rfl) hc15 rfl ?_
    refine GM_iconst (pc := 175) 0 (daX11_hump0_1 34 rfl) rfl (R32_b rfl) ?_
    refine GM_dup2 (pc := 176) (daX11_hump0_1 35 rfl) (Nat.ne_of_beq_eq_false rfl) (Nat.ne_of_beq_eq_false rfl) ?_
    refine GM_iald (pc := 177) (daX11_hump0_1 36 rfl) hc19.1 (by decide) hc19.2 ?_
    refine GM_iconst (pc := 178) 1 (daX11_hump0_1 37 rfl) rfl (R32_b rfl) ?_
    refine GM_iadd (pc := 179) (daX11_hump0_1 38 rfl) ?_
    obtain ⟨μ21, hμ21, h⟩ := lm_inv h
    refine GM_iast (pc := 180) (daX11_hump0_1 39 rfl) hc19.1 (by decide) hc19.2 ?_
    refine GM_mem hμ21 ?_
    cases h
    exact GM_vret (pc := 181) (daX11_hump0_1 40 rfl) rfl hK
  · skip
    rw [if_neg c20] at h
    refine GM_aload_n (pc := 141) 0 rfl (daX11_hump0_1 12 rfl) rfl ?_
    refine GM_getf (pc := 142) 11 13 3 13 kf_X11_23 (Nat.le_of_ble_eq_true rfl) (Nat.le_of_ble_eq_true rfl) rfl (daX11_hump0_1 13 rfl) hc15 rfl ?_
    refine GM_bipush (pc := 145) 7 (daX11_hump0_1 14 rfl) rfl (R32_b rfl) ?_
    refine GM_aload_n (pc := 147) 0 rfl (daX11_hump0_1 15 rfl) rfl ?_
    refine GM_getf (pc := 148) 11 13 3 13 kf_X11_23 (Nat.le_of_ble_eq_true rfl) (Nat.le_of_ble_eq_true rfl) rfl (daX11_hump0_1 16 rfl) hc15 rfl ?_
    refine GM_iconst (pc := 151) 0 (daX11_hump0_1 17 rfl) rfl (R32_b rfl) ?_
    refine GM_iald (pc := 152) (daX11_hump0_1 18 rfl) hc19.1 (by decide) hc19.2 ?_
    refine GM_iadd (pc := 153) (daX11_hump0_1 19 rfl) ?_
    refine GM_iload_n (pc := 154) 1 rfl (daX11_hump0_1 20 rfl) rfl ?_
    obtain ⟨hc22, h⟩ := chk_inv h
    obtain ⟨μ23, hμ23, h⟩ := lm_inv h
    refine GM_iast (pc := 155) (daX11_hump0_1 21 rfl) hc19.1 hc22.1 hc22.2 ?_
    refine GM_mem hμ23 ?_
    refine GM_aload_n (pc := 156) 0 rfl (daX11_hump0_1 22 rfl) rfl ?_
    refine GM_getf (pc := 157) 11 13 3 13 kf_X11_23 (Nat.le_of_ble_eq_true rfl) (Nat.le_of_ble_eq_true rfl) rfl (daX11_hump0_1 23 rfl) hc15 rfl ?_
    refine GM_bipush (pc := 160) 19 (daX11_hump0_1 24 rfl) rfl (R32_b rfl) ?_
    refine GM_aload_n (pc := 162) 0 rfl (daX11_hump0_1 25 rfl) rfl ?_
    refine GM_getf (pc := 163) 11 13 3 13 kf_X11_23 (Nat.le_of_ble_eq_true rfl) (Nat.le_of_ble_eq_true rfl) rfl (daX11_hump0_1 26 rfl) hc15 rfl ?_
    refine GM_iconst (pc := 166) 0 (daX11_hump0_1 27 rfl) rfl (R32_b rfl) ?_
    obtain ⟨hc24, h⟩ := chk_inv h
    refine GM_iald (pc := 167) (daX11_hump0_1 28 rfl) hc24.1 (by decide) hc24.2 ?_
    refine GM_iadd (pc := 168) (daX11_hump0_1 29 rfl) ?_
    refine GM_iload_n (pc := 169) 2 rfl (daX11_hump0_1 30 rfl) rfl ?_
    obtain ⟨hc25, h⟩ := chk_inv h
    obtain ⟨μ26, hμ26, h⟩ := lm_inv h
    refine GM_iast (pc := 170) (daX11_hump0_1 31 rfl) hc24.1 hc25.1 hc25.2 ?_
    refine GM_mem hμ26 ?_
    refine GM_aload_n (pc := 171) 0 rfl (daX11_hump0_1 32 rfl) rfl ?_
    refine GM_getf (pc := 172) 11 13 3 13 kf_X11_23 (Nat.le_of_ble_eq_true rfl) (Nat.le_of_ble_eq_true rfl) rfl (daX11_hump0_1 33 rfl) hc15 rfl ?_
    refine GM_iconst (pc := 175) 0 (daX11_hump0_1 34 rfl) rfl (R32_b rfl) ?_
    refine GM_dup2 (pc := 176) (daX11_hump0_1 35 rfl) (Nat.ne_of_beq_eq_false rfl) (Nat.ne_of_beq_eq_false rfl) ?_
    obtain ⟨hc27, h⟩ := chk_inv h
    refine GM_iald (pc := 177) (daX11_hump0_1 36 rfl) hc27.1 (by decide) hc27.2 ?_
    refine GM_iconst (pc := 178) 1 (daX11_hump0_1 37 rfl) rfl (R32_b rfl) ?_
    refine GM_iadd (pc := 179) (daX11_hump0_1 38 rfl) ?_
    obtain ⟨μ28, hμ28, h⟩ := lm_inv h
    refine GM_iast (pc := 180) (daX11_hump0_1 39 rfl) hc27.1 (by decide) hc27.2 ?_
    refine GM_mem hμ28 ?_
    cases h
    exact GM_vret (pc := 181) (daX11_hump0_1 40 rfl) rfl hK
set_option maxRecDepth 20000 in
theorem gX11_hump0_0 (l : Launch) {F : FI} {v0 v1 : Int} {μ : Mm} {t : Mm} (h : fX11_hump0 v0 v1 μ = some t) (hK : F.1 = [] ∧ F.2.1 = t) : GM l mX11_hump0 F 0 0 0 [(0, (3, v0)), (1, (0, v1))] [] μ := by
  unfold fX11_hump0 at h
  refine GM_aload_n (pc := 0) 0 rfl (daX11_hump0_0 0 rfl) rfl ?_
  obtain ⟨hc29, h⟩ := chk_inv h
  refine GM_getf (pc := 1) 11 13 3 13 kf_X11_23 (Nat.le_of_ble_eq_true rfl) (Nat.le_of_ble_eq_true rfl) rfl (daX11_hump0_0 1 rfl) hc29 rfl ?_
  refine GM_iconst (pc := 4) 0 (daX11_hump0_0 2 rfl) rfl (R32_b rfl) ?_
  obtain ⟨hc30, h⟩ := chk_inv h
  refine GM_iald (pc := 5) (daX11_hump0_0 3 rfl) hc30.1 (by decide) hc30.2 ?_
  refine GM_bipush (pc := 6) 12 (daX11_hump0_0 4 rfl) rfl (R32_b rfl) ?_
  refine GM_icmp_lt (pc := 8) 17 (daX11_hump0_0 5 rfl) rfl (fun c31 => ?_) (fun c31 => ?_)
  · skip
    rw [if_pos c31] at h
    refine GM_pick [0] rfl ?_
    exact gX11_hump0_17 l h hK
  · skip
    rw [if_neg c31] at h
    refine GM_aload_n (pc := 11) 0 rfl (daX11_hump0_0 6 rfl) rfl ?_
    refine GM_iconst (pc := 12) 3 (daX11_hump0_0 7 rfl) rfl (R32_b rfl) ?_
    refine GM_iload_n (pc := 13) 1 rfl (daX11_hump0_0 8 rfl) rfl ?_
    obtain ⟨μ32, hf32, h⟩ := Option.bind_eq_some_iff.mp h
    refine GM_callV0 (pc := 14) [(0, 3), (0, v1)] (tX11_also l hf32) cwX11_also 11 (Nat.le_of_ble_eq_true rfl) rfl kv_X11_also ke_X11_also km_X11_151 hc29 ⟨Nat.le_of_ble_eq_true rfl, Nat.le_of_ble_eq_true rfl⟩ (Nat.le_of_ble_eq_true rfl) (Nat.le_of_ble_eq_true rfl) (daX11_hump0_0 9 rfl) ?_
    refine GM_pick [0] rfl ?_
    exact gX11_hump0_17 l h hK
theorem tX11_hump0 (l : Launch) {v0 v1 : Int} {μ : Mm} {t : Mm} (h : fX11_hump0 v0 v1 μ = some t) : Ct l yX11_hump0 mX11_hump0 [(3, v0), (0, v1)] μ ([], t, 0, 0) :=
  Ct_of (by decide +kernel) rfl rfl (Nat.le_of_ble_eq_true rfl) (fun _ _ _ => trivial) (gX11_hump0_0 l h ⟨rfl, rfl⟩)
def mX11_sketchLine : MI := (RX11, cX11_sketchLine, 3, none, "sketchLine", 5, 114, fun _ _ _ => True)
theorem cwX11_sketchLine : CWd yX11_sketchLine mX11_sketchLine 0 := ⟨ki_X11, kk_X11_sketchLine, ⟨by decide, by decide⟩, rfl⟩
def dtX11_sketchLine_0 : List (Nat × Instr × Nat) := [(0, .aload_n 0, 1), (1, .getfield 115, 3), (4, .istore_n 1, 1), (5, .aload_n 0, 1), (6, .iconst 0, 1), (7, .invokevirtual 164, 3), (10, .istore_n 2, 1), (11, .iload_n 2, 1), (12, .bipush 11, 2), (14, .if_icmp .ne 8, 3), (17, .aload_n 0, 1), (18, .iload_n 1, 1), (19, .invokevirtual 178, 3), (22, .iload_n 2, 1), (23, .bipush 12, 2), (25, .if_icmp .ne 16, 3), (28, .aload_n 0, 1), (29, .getfield 23, 3), (32, .iconst 1, 1), (33, .aload_n 0, 1), (34, .iconst 0, 1), (35, .bipush 99, 2), (37, .invokevirtual 160, 3), (40, .iastore, 1), (41, .iload_n 2, 1), (42, .bipush 13, 2), (44, .if_icmp .eq 9, 3), (47, .iload_n 2, 1), (48, .bipush 14, 2), (50, .if_icmp .ne 20, 3), (53, .aload_n 0, 1), (54, .getfield 23, 3), (57, .iconst 2, 1), (58, .iload_n 2, 1), (59, .bipush 14, 2), (61, .if_icmp .ne 7, 3), (64, .iconst 1, 1), (65, .goto 4, 3), (68, .iconst 0, 1), (69, .iastore, 1), (70, .iload_n 2, 1), (71, .bipush 15, 2), (73, .if_icmp .eq 9, 3), (76, .iload_n 2, 1), (77, .bipush 16, 2), (79, .if_icmp .ne 20, 3), (82, .aload_n 0, 1), (83, .getfield 23, 3), (86, .iconst 3, 1), (87, .iload_n 2, 1), (88, .bipush 16, 2), (90, .if_icmp .ne 7, 3), (93, .iconst 1, 1), (94, .goto 4, 3), (97, .iconst 0, 1), (98, .iastore, 1), (99, .iload_n 2, 1), (100, .bipush 17, 2), (102, .if_icmp .ne 10, 3), (105, .aload_n 0, 1), (106, .getfield 23, 3), (109, .iconst 4, 1), (110, .iconst 1, 1), (111, .iastore, 1)]
theorem ddX11_sketchLine_0 : (dtX11_sketchLine_0.all fun e => decide (decode mX11_sketchLine.2.1 e.1 = .ok (e.2.1, e.2.2))) = true := by decide +kernel
theorem daX11_sketchLine_0 (j : Nat) {pc n : Nat} {i : Instr} (h : dtX11_sketchLine_0[j]? = some (pc, i, n)) : decode mX11_sketchLine.2.1 pc = .ok (i, n) := dec_of (c := mX11_sketchLine.2.1) ddX11_sketchLine_0 h
def dtX11_sketchLine_1 : List (Nat × Instr × Nat) := [(112, .iload_n 2, 1), (113, .bipush 18, 2), (115, .if_icmp .ne 35, 3), (118, .aload_n 0, 1), (119, .getfield 23, 3), (122, .iconst 5, 1), (123, .aload_n 0, 1), (124, .iconst 0, 1), (125, .bipush 99, 2), (127, .invokevirtual 160, 3), (130, .iastore, 1), (131, .aload_n 0, 1), (132, .getfield 23, 3), (135, .bipush 6, 2), (137, .aload_n 0, 1), (138, .aload_n 0, 1), (139, .getfield 23, 3), (142, .iconst 5, 1), (143, .iaload, 1), (144, .bipush 99, 2), (146, .invokevirtual 160, 3), (149, .iastore, 1), (150, .aload_n 0, 1), (151, .invokevirtual 175, 3), (154, .return_, 1)]
theorem ddX11_sketchLine_1 : (dtX11_sketchLine_1.all fun e => decide (decode mX11_sketchLine.2.1 e.1 = .ok (e.2.1, e.2.2))) = true := by decide +kernel
theorem daX11_sketchLine_1 (j : Nat) {pc n : Nat} {i : Instr} (h : dtX11_sketchLine_1[j]? = some (pc, i, n)) : decode mX11_sketchLine.2.1 pc = .ok (i, n) := dec_of (c := mX11_sketchLine.2.1) ddX11_sketchLine_1 h
def jX11_sketchLine_150 (v0 : Int) (μ : Mm) : Option Mm :=
  chk (KD v0 = 11) (
  (fX11_endsLine v0 μ).bind fun μ2 =>
  some μ2)
def jX11_sketchLine_112 (v0 v2 : Int) (μ : Mm) : Option Mm :=
  if v2 = 18 then
    chk (KD v0 = 11) (
    (fX11_numbered v0 0 99 μ).bind fun (r5, μ5) =>
    chk (KD (μ v0 13) = 12 ∧ 5 < LN (μ v0 13)) (
    lm (mst μ5 (μ v0 13) 5 r5) fun μ7 =>
    chk (KD (μ7 v0 13) = 12 ∧ 5 < LN (μ7 v0 13)) (
    (fX11_numbered v0 (μ7 (μ7 v0 13) 5) 99 μ7).bind fun (r9, μ9) =>
    chk (6 < LN (μ7 v0 13)) (
    lm (mst μ9 (μ7 v0 13) 6 r9) fun μ11 =>
    jX11_sketchLine_150 v0 μ11))))
  else
    jX11_sketchLine_150 v0 μ
def jX11_sketchLine_99 (v0 v2 : Int) (μ : Mm) : Option Mm :=
  if v2 = 17 then
    chk (KD v0 = 11) (
    chk (KD (μ v0 13) = 12 ∧ 4 < LN (μ v0 13)) (
    lm (mst μ (μ v0 13) 4 1) fun μ15 =>
    jX11_sketchLine_112 v0 v2 μ15))
  else
    jX11_sketchLine_112 v0 v2 μ
def jX11_sketchLine_98 (v0 v2 s0 s1 s2 : Int) (μ : Mm) : Option Mm :=
  chk (KD s2 = 12 ∧ 0 ≤ s1 ∧ s1 < LN s2) (
  lm (mst μ s2 s1 s0) fun μ17 =>
  jX11_sketchLine_99 v0 v2 μ17)
def jX11_sketchLine_82 (v0 v2 : Int) (μ : Mm) : Option Mm :=
  chk (KD v0 = 11) (
  if v2 = 16 then
    jX11_sketchLine_98 v0 v2 1 3 (μ v0 13) μ
  else
    jX11_sketchLine_98 v0 v2 0 3 (μ v0 13) μ)
def jX11_sketchLine_70 (v0 v2 : Int) (μ : Mm) : Option Mm :=
  if v2 = 15 then
    jX11_sketchLine_82 v0 v2 μ
  else
    if v2 = 16 then
      jX11_sketchLine_82 v0 v2 μ
    else
      jX11_sketchLine_99 v0 v2 μ
def jX11_sketchLine_69 (v0 v2 s0 s1 s2 : Int) (μ : Mm) : Option Mm :=
  chk (KD s2 = 12 ∧ 0 ≤ s1 ∧ s1 < LN s2) (
  lm (mst μ s2 s1 s0) fun μ23 =>
  jX11_sketchLine_70 v0 v2 μ23)
def jX11_sketchLine_53 (v0 v2 : Int) (μ : Mm) : Option Mm :=
  chk (KD v0 = 11) (
  if v2 = 14 then
    jX11_sketchLine_69 v0 v2 1 2 (μ v0 13) μ
  else
    jX11_sketchLine_69 v0 v2 0 2 (μ v0 13) μ)
def jX11_sketchLine_41 (v0 v2 : Int) (μ : Mm) : Option Mm :=
  if v2 = 13 then
    jX11_sketchLine_53 v0 v2 μ
  else
    if v2 = 14 then
      jX11_sketchLine_53 v0 v2 μ
    else
      jX11_sketchLine_70 v0 v2 μ
def jX11_sketchLine_22 (v0 v2 : Int) (μ : Mm) : Option Mm :=
  if v2 = 12 then
    chk (KD v0 = 11) (
    (fX11_numbered v0 0 99 μ).bind fun (r30, μ30) =>
    chk (KD (μ v0 13) = 12 ∧ 1 < LN (μ v0 13)) (
    lm (mst μ30 (μ v0 13) 1 r30) fun μ32 =>
    jX11_sketchLine_41 v0 v2 μ32))
  else
    jX11_sketchLine_41 v0 v2 μ
def fX11_sketchLine (v0 : Int) (μ : Mm) : Option Mm :=
  chk (KD v0 = 11) (
  (fX11_takes v0 0 μ).bind fun (r34, μ34) =>
  if r34 = 11 then
    (fX11_hump0 v0 (μ v0 7) μ34).bind fun μ36 =>
    jX11_sketchLine_22 v0 r34 μ36
  else
    jX11_sketchLine_22 v0 r34 μ34)
set_option maxRecDepth 20000 in
theorem gX11_sketchLine_150 (l : Launch) {F : FI} {v0 : Int} {μ : Mm} {t : Mm} (h : jX11_sketchLine_150 v0 μ = some t) (hK : F.1 = [] ∧ F.2.1 = t) : GM l mX11_sketchLine F 0 0 150 [(0, (3, v0))] [] μ := by
  unfold jX11_sketchLine_150 at h
  refine GM_aload_n (pc := 150) 0 rfl (daX11_sketchLine_1 22 rfl) rfl ?_
  obtain ⟨hc1, h⟩ := chk_inv h
  obtain ⟨μ2, hf2, h⟩ := Option.bind_eq_some_iff.mp h
  refine GM_callV0 (pc := 151) [] (tX11_endsLine l hf2) cwX11_endsLine 11 (Nat.le_of_ble_eq_true rfl) rfl kv_X11_endsLine ke_X11_endsLine km_X11_175 hc1 ⟨Nat.le_of_ble_eq_true rfl, Nat.le_of_ble_eq_true rfl⟩ (Nat.le_of_ble_eq_true rfl) (Nat.le_of_ble_eq_true rfl) (daX11_sketchLine_1 23 rfl) ?_
  cases h
  exact GM_vret (pc := 154) (daX11_sketchLine_1 24 rfl) rfl hK
set_option maxRecDepth 20000 in
theorem gX11_sketchLine_112 (l : Launch) {F : FI} {v0 v2 : Int} {μ : Mm} {t : Mm} (h : jX11_sketchLine_112 v0 v2 μ = some t) (hK : F.1 = [] ∧ F.2.1 = t) : GM l mX11_sketchLine F 0 0 112 [(0, (3, v0)), (2, (0, v2))] [] μ := by
  unfold jX11_sketchLine_112 at h
  refine GM_iload_n (pc := 112) 1 rfl (daX11_sketchLine_1 0 rfl) rfl ?_
  refine GM_bipush (pc := 113) 18 (daX11_sketchLine_1 1 rfl) rfl (R32_b rfl) ?_
  refine GM_icmp_ne (pc := 115) 150 (daX11_sketchLine_1 2 rfl) rfl (fun c3 => ?_) (fun c3 => ?_)
  · skip
    rw [if_neg c3] at h
    refine GM_pick [0] rfl ?_
    exact gX11_sketchLine_150 l h hK
  · skip
    rw [if_pos c3] at h
    refine GM_aload_n (pc := 118) 0 rfl (daX11_sketchLine_1 3 rfl) rfl ?_
    obtain ⟨hc4, h⟩ := chk_inv h
    refine GM_getf (pc := 119) 11 13 3 13 kf_X11_23 (Nat.le_of_ble_eq_true rfl) (Nat.le_of_ble_eq_true rfl) rfl (daX11_sketchLine_1 4 rfl) hc4 rfl ?_
    refine GM_iconst (pc := 122) 5 (daX11_sketchLine_1 5 rfl) rfl (R32_b rfl) ?_
    refine GM_aload_n (pc := 123) 0 rfl (daX11_sketchLine_1 6 rfl) rfl ?_
    refine GM_iconst (pc := 124) 0 (daX11_sketchLine_1 7 rfl) rfl (R32_b rfl) ?_
    refine GM_bipush (pc := 125) 99 (daX11_sketchLine_1 8 rfl) rfl (R32_b rfl) ?_
    obtain ⟨⟨r5, μ5⟩, hf5, h⟩ := Option.bind_eq_some_iff.mp h
    dsimp only at h
    refine GM_callV0 (pc := 127) [(0, 0), (0, 99)] (tX11_numbered l hf5) cwX11_numbered 11 (Nat.le_of_ble_eq_true rfl) rfl kv_X11_numbered ke_X11_numbered km_X11_160 hc4 ⟨Nat.le_of_ble_eq_true rfl, Nat.le_of_ble_eq_true rfl⟩ (Nat.le_of_ble_eq_true rfl) (Nat.le_of_ble_eq_true rfl) (daX11_sketchLine_1 9 rfl) ?_
    obtain ⟨hc6, h⟩ := chk_inv h
    obtain ⟨μ7, hμ7, h⟩ := lm_inv h
    refine GM_iast (pc := 130) (daX11_sketchLine_1 10 rfl) hc6.1 (by decide) hc6.2 ?_
    refine GM_mem hμ7 ?_
    refine GM_aload_n (pc := 131) 0 rfl (daX11_sketchLine_1 11 rfl) rfl ?_
    refine GM_getf (pc := 132) 11 13 3 13 kf_X11_23 (Nat.le_of_ble_eq_true rfl) (Nat.le_of_ble_eq_true rfl) rfl (daX11_sketchLine_1 12 rfl) hc4 rfl ?_
    refine GM_bipush (pc := 135) 6 (daX11_sketchLine_1 13 rfl) rfl (R32_b rfl) ?_
    refine GM_aload_n (pc := 137) 0 rfl (daX11_sketchLine_1 14 rfl) rfl ?_
    refine GM_aload_n (pc := 138) 0 rfl (daX11_sketchLine_1 15 rfl) rfl ?_
    refine GM_getf (pc := 139) 11 13 3 13 kf_X11_23 (Nat.le_of_ble_eq_true rfl) (Nat.le_of_ble_eq_true rfl) rfl (daX11_sketchLine_1 16 rfl) hc4 rfl ?_
    refine GM_iconst (pc := 142) 5 (daX11_sketchLine_1 17 rfl) rfl (R32_b rfl) ?_
    obtain ⟨hc8, h⟩ := chk_inv h
    refine GM_iald (pc := 143) (daX11_sketchLine_1 18 rfl) hc8.1 (by decide) hc8.2 ?_
    refine GM_bipush (pc := 144) 99 (daX11_sketchLine_1 19 rfl) rfl (R32_b rfl) ?_
    obtain ⟨⟨r9, μ9⟩, hf9, h⟩ := Option.bind_eq_some_iff.mp h
    dsimp only at h
    refine GM_callV0 (pc := 146) [(0, μ7 (μ7 v0 13) 5), (0, 99)] (tX11_numbered l hf9) cwX11_numbered 11 (Nat.le_of_ble_eq_true rfl) rfl kv_X11_numbered ke_X11_numbered km_X11_160 hc4 ⟨Nat.le_of_ble_eq_true rfl, Nat.le_of_ble_eq_true rfl⟩ (Nat.le_of_ble_eq_true rfl) (Nat.le_of_ble_eq_true rfl) (daX11_sketchLine_1 20 rfl) ?_
    obtain ⟨hc10, h⟩ := chk_inv h
    obtain ⟨μ11, hμ11, h⟩ := lm_inv h
    refine GM_iast (pc := 149) (daX11_sketchLine_1 21 rfl) hc8.1 (by decide) hc10 ?_
    refine GM_mem hμ11 ?_
    refine GM_pick [0] rfl ?_
    exact gX11_sketchLine_150 l h hK
set_option maxRecDepth 20000 in
theorem gX11_sketchLine_99 (l : Launch) {F : FI} {v0 v2 : Int} {μ : Mm} {t : Mm} (h : jX11_sketchLine_99 v0 v2 μ = some t) (hK : F.1 = [] ∧ F.2.1 = t) : GM l mX11_sketchLine F 0 0 99 [(0, (3, v0)), (2, (0, v2))] [] μ := by
  unfold jX11_sketchLine_99 at h
  refine GM_iload_n (pc := 99) 1 rfl (daX11_sketchLine_0 56 rfl) rfl ?_
  refine GM_bipush (pc := 100) 17 (daX11_sketchLine_0 57 rfl) rfl (R32_b rfl) ?_
  refine GM_icmp_ne (pc := 102) 112 (daX11_sketchLine_0 58 rfl) rfl (fun c12 => ?_) (fun c12 => ?_)
  · skip
    rw [if_neg c12] at h
    exact gX11_sketchLine_112 l h hK
  · skip
    rw [if_pos c12] at h
    refine GM_aload_n (pc := 105) 0 rfl (daX11_sketchLine_0 59 rfl) rfl ?_
    obtain ⟨hc13, h⟩ := chk_inv h
    refine GM_getf (pc := 106) 11 13 3 13 kf_X11_23 (Nat.le_of_ble_eq_true rfl) (Nat.le_of_ble_eq_true rfl) rfl (daX11_sketchLine_0 60 rfl) hc13 rfl ?_
    refine GM_iconst (pc := 109) 4 (daX11_sketchLine_0 61 rfl) rfl (R32_b rfl) ?_
    refine GM_iconst (pc := 110) 1 (daX11_sketchLine_0 62 rfl) rfl (R32_b rfl) ?_
    obtain ⟨hc14, h⟩ := chk_inv h
    obtain ⟨μ15, hμ15, h⟩ := lm_inv h
    refine GM_iast (pc := 111) (daX11_sketchLine_0 63 rfl) hc14.1 (by decide) hc14.2 ?_
    refine GM_mem hμ15 ?_
    exact gX11_sketchLine_112 l h hK
set_option maxRecDepth 20000 in
theorem gX11_sketchLine_98 (l : Launch) {F : FI} {v0 v2 s0 s1 s2 : Int} {μ : Mm} {t : Mm} (h : jX11_sketchLine_98 v0 v2 s0 s1 s2 μ = some t) (hK : F.1 = [] ∧ F.2.1 = t) : GM l mX11_sketchLine F 0 0 98 [(0, (3, v0)), (2, (0, v2))] [(0, s0), (0, s1), (3, s2)] μ := by
  unfold jX11_sketchLine_98 at h
  obtain ⟨hc16, h⟩ := chk_inv h
  obtain ⟨μ17, hμ17, h⟩ := lm_inv h
  refine GM_iast (pc := 98) (daX11_sketchLine_0 55 rfl) hc16.1 hc16.2.1 hc16.2.2 ?_
  refine GM_mem hμ17 ?_
  exact gX11_sketchLine_99 l h hK
set_option maxRecDepth 20000 in
theorem gX11_sketchLine_82 (l : Launch) {F : FI} {v0 v2 : Int} {μ : Mm} {t : Mm} (h : jX11_sketchLine_82 v0 v2 μ = some t) (hK : F.1 = [] ∧ F.2.1 = t) : GM l mX11_sketchLine F 0 0 82 [(0, (3, v0)), (2, (0, v2))] [] μ := by
  unfold jX11_sketchLine_82 at h
  refine GM_aload_n (pc := 82) 0 rfl (daX11_sketchLine_0 46 rfl) rfl ?_
  obtain ⟨hc18, h⟩ := chk_inv h
  refine GM_getf (pc := 83) 11 13 3 13 kf_X11_23 (Nat.le_of_ble_eq_true rfl) (Nat.le_of_ble_eq_true rfl) rfl (daX11_sketchLine_0 47 rfl) hc18 rfl ?_
  refine GM_iconst (pc := 86) 3 (daX11_sketchLine_0 48 rfl) rfl (R32_b rfl) ?_
  refine GM_iload_n (pc := 87) 1 rfl (daX11_sketchLine_0 49 rfl) rfl ?_
  refine GM_bipush (pc := 88) 16 (daX11_sketchLine_0 50 rfl) rfl (R32_b rfl) ?_
  refine GM_icmp_ne (pc := 90) 97 (daX11_sketchLine_0 51 rfl) rfl (fun c19 => ?_) (fun c19 => ?_)
  · skip
    rw [if_neg c19] at h
    refine GM_iconst (pc := 97) 0 (daX11_sketchLine_0 54 rfl) rfl (R32_b rfl) ?_
    exact gX11_sketchLine_98 l h hK
  · skip
    rw [if_pos c19] at h
    refine GM_iconst (pc := 93) 1 (daX11_sketchLine_0 52 rfl) rfl (R32_b rfl) ?_
    refine GM_goto (pc := 94) 98 (daX11_sketchLine_0 53 rfl) rfl ?_
    exact gX11_sketchLine_98 l h hK
set_option maxRecDepth 20000 in
theorem gX11_sketchLine_70 (l : Launch) {F : FI} {v0 v2 : Int} {μ : Mm} {t : Mm} (h : jX11_sketchLine_70 v0 v2 μ = some t) (hK : F.1 = [] ∧ F.2.1 = t) : GM l mX11_sketchLine F 0 0 70 [(0, (3, v0)), (2, (0, v2))] [] μ := by
  unfold jX11_sketchLine_70 at h
  refine GM_iload_n (pc := 70) 1 rfl (daX11_sketchLine_0 40 rfl) rfl ?_
  refine GM_bipush (pc := 71) 15 (daX11_sketchLine_0 41 rfl) rfl (R32_b rfl) ?_
  refine GM_icmp_eq (pc := 73) 82 (daX11_sketchLine_0 42 rfl) rfl (fun c20 => ?_) (fun c20 => ?_)
  · skip
    rw [if_pos c20] at h
    exact gX11_sketchLine_82 l h hK
  · skip
    rw [if_neg c20] at h
    refine GM_iload_n (pc := 76) 1 rfl (daX11_sketchLine_0 43 rfl) rfl ?_
    refine GM_bipush (pc := 77) 16 (daX11_sketchLine_0 44 rfl) rfl (R32_b rfl) ?_
    refine GM_icmp_ne (pc := 79) 99 (daX11_sketchLine_0 45 rfl) rfl (fun c21 => ?_) (fun c21 => ?_)
    · skip
      rw [if_neg c21] at h
      exact gX11_sketchLine_99 l h hK
    · skip
      rw [if_pos c21] at h
      exact gX11_sketchLine_82 l h hK
set_option maxRecDepth 20000 in
theorem gX11_sketchLine_69 (l : Launch) {F : FI} {v0 v2 s0 s1 s2 : Int} {μ : Mm} {t : Mm} (h : jX11_sketchLine_69 v0 v2 s0 s1 s2 μ = some t) (hK : F.1 = [] ∧ F.2.1 = t) : GM l mX11_sketchLine F 0 0 69 [(0, (3, v0)), (2, (0, v2))] [(0, s0), (0, s1), (3, s2)] μ := by
  unfold jX11_sketchLine_69 at h
  obtain ⟨hc22, h⟩ := chk_inv h
  obtain ⟨μ23, hμ23, h⟩ := lm_inv h
  refine GM_iast (pc := 69) (daX11_sketchLine_0 39 rfl) hc22.1 hc22.2.1 hc22.2.2 ?_
  refine GM_mem hμ23 ?_
  exact gX11_sketchLine_70 l h hK
set_option maxRecDepth 20000 in
theorem gX11_sketchLine_53 (l : Launch) {F : FI} {v0 v2 : Int} {μ : Mm} {t : Mm} (h : jX11_sketchLine_53 v0 v2 μ = some t) (hK : F.1 = [] ∧ F.2.1 = t) : GM l mX11_sketchLine F 0 0 53 [(0, (3, v0)), (2, (0, v2))] [] μ := by
  unfold jX11_sketchLine_53 at h
  refine GM_aload_n (pc := 53) 0 rfl (daX11_sketchLine_0 30 rfl) rfl ?_
  obtain ⟨hc24, h⟩ := chk_inv h
  refine GM_getf (pc := 54) 11 13 3 13 kf_X11_23 (Nat.le_of_ble_eq_true rfl) (Nat.le_of_ble_eq_true rfl) rfl (daX11_sketchLine_0 31 rfl) hc24 rfl ?_
  refine GM_iconst (pc := 57) 2 (daX11_sketchLine_0 32 rfl) rfl (R32_b rfl) ?_
  refine GM_iload_n (pc := 58) 1 rfl (daX11_sketchLine_0 33 rfl) rfl ?_
  refine GM_bipush (pc := 59) 14 (daX11_sketchLine_0 34 rfl) rfl (R32_b rfl) ?_
  refine GM_icmp_ne (pc := 61) 68 (daX11_sketchLine_0 35 rfl) rfl (fun c25 => ?_) (fun c25 => ?_)
  · skip
    rw [if_neg c25] at h
    refine GM_iconst (pc := 68) 0 (daX11_sketchLine_0 38 rfl) rfl (R32_b rfl) ?_
    exact gX11_sketchLine_69 l h hK
  · skip
    rw [if_pos c25] at h
    refine GM_iconst (pc := 64) 1 (daX11_sketchLine_0 36 rfl) rfl (R32_b rfl) ?_
    refine GM_goto (pc := 65) 69 (daX11_sketchLine_0 37 rfl) rfl ?_
    exact gX11_sketchLine_69 l h hK
set_option maxRecDepth 20000 in
theorem gX11_sketchLine_41 (l : Launch) {F : FI} {v0 v2 : Int} {μ : Mm} {t : Mm} (h : jX11_sketchLine_41 v0 v2 μ = some t) (hK : F.1 = [] ∧ F.2.1 = t) : GM l mX11_sketchLine F 0 0 41 [(0, (3, v0)), (2, (0, v2))] [] μ := by
  unfold jX11_sketchLine_41 at h
  refine GM_iload_n (pc := 41) 1 rfl (daX11_sketchLine_0 24 rfl) rfl ?_
  refine GM_bipush (pc := 42) 13 (daX11_sketchLine_0 25 rfl) rfl (R32_b rfl) ?_
  refine GM_icmp_eq (pc := 44) 53 (daX11_sketchLine_0 26 rfl) rfl (fun c26 => ?_) (fun c26 => ?_)
  · skip
    rw [if_pos c26] at h
    exact gX11_sketchLine_53 l h hK
  · skip
    rw [if_neg c26] at h
    refine GM_iload_n (pc := 47) 1 rfl (daX11_sketchLine_0 27 rfl) rfl ?_
    refine GM_bipush (pc := 48) 14 (daX11_sketchLine_0 28 rfl) rfl (R32_b rfl) ?_
    refine GM_icmp_ne (pc := 50) 70 (daX11_sketchLine_0 29 rfl) rfl (fun c27 => ?_) (fun c27 => ?_)
    · skip
      rw [if_neg c27] at h
      exact gX11_sketchLine_70 l h hK
    · skip
      rw [if_pos c27] at h
      exact gX11_sketchLine_53 l h hK
set_option maxRecDepth 20000 in
theorem gX11_sketchLine_22 (l : Launch) {F : FI} {v0 v2 : Int} {μ : Mm} {t : Mm} (h : jX11_sketchLine_22 v0 v2 μ = some t) (hK : F.1 = [] ∧ F.2.1 = t) : GM l mX11_sketchLine F 0 0 22 [(0, (3, v0)), (2, (0, v2))] [] μ := by
  unfold jX11_sketchLine_22 at h
  refine GM_iload_n (pc := 22) 1 rfl (daX11_sketchLine_0 13 rfl) rfl ?_
  refine GM_bipush (pc := 23) 12 (daX11_sketchLine_0 14 rfl) rfl (R32_b rfl) ?_
  refine GM_icmp_ne (pc := 25) 41 (daX11_sketchLine_0 15 rfl) rfl (fun c28 => ?_) (fun c28 => ?_)
  · skip
    rw [if_neg c28] at h
    exact gX11_sketchLine_41 l h hK
  · skip
    rw [if_pos c28] at h
    refine GM_aload_n (pc := 28) 0 rfl (daX11_sketchLine_0 16 rfl) rfl ?_
    obtain ⟨hc29, h⟩ := chk_inv h
    refine GM_getf (pc := 29) 11 13 3 13 kf_X11_23 (Nat.le_of_ble_eq_true rfl) (Nat.le_of_ble_eq_true rfl) rfl (daX11_sketchLine_0 17 rfl) hc29 rfl ?_
    refine GM_iconst (pc := 32) 1 (daX11_sketchLine_0 18 rfl) rfl (R32_b rfl) ?_
    refine GM_aload_n (pc := 33) 0 rfl (daX11_sketchLine_0 19 rfl) rfl ?_
    refine GM_iconst (pc := 34) 0 (daX11_sketchLine_0 20 rfl) rfl (R32_b rfl) ?_
    refine GM_bipush (pc := 35) 99 (daX11_sketchLine_0 21 rfl) rfl (R32_b rfl) ?_
    obtain ⟨⟨r30, μ30⟩, hf30, h⟩ := Option.bind_eq_some_iff.mp h
    dsimp only at h
    refine GM_callV0 (pc := 37) [(0, 0), (0, 99)] (tX11_numbered l hf30) cwX11_numbered 11 (Nat.le_of_ble_eq_true rfl) rfl kv_X11_numbered ke_X11_numbered km_X11_160 hc29 ⟨Nat.le_of_ble_eq_true rfl, Nat.le_of_ble_eq_true rfl⟩ (Nat.le_of_ble_eq_true rfl) (Nat.le_of_ble_eq_true rfl) (daX11_sketchLine_0 22 rfl) ?_
    obtain ⟨hc31, h⟩ := chk_inv h
    obtain ⟨μ32, hμ32, h⟩ := lm_inv h
    refine GM_iast (pc := 40) (daX11_sketchLine_0 23 rfl) hc31.1 (by decide) hc31.2 ?_
    refine GM_mem hμ32 ?_
    exact gX11_sketchLine_41 l h hK
set_option maxRecDepth 20000 in
theorem gX11_sketchLine_0 (l : Launch) {F : FI} {v0 : Int} {μ : Mm} {t : Mm} (h : fX11_sketchLine v0 μ = some t) (hK : F.1 = [] ∧ F.2.1 = t) : GM l mX11_sketchLine F 0 0 0 [(0, (3, v0))] [] μ := by
  unfold fX11_sketchLine at h
  refine GM_aload_n (pc := 0) 0 rfl (daX11_sketchLine_0 0 rfl) rfl ?_
  obtain ⟨hc33, h⟩ := chk_inv h
  refine GM_getf (pc := 1) 11 7 0 7 kf_X11_115 (Nat.le_of_ble_eq_true rfl) (Nat.le_of_ble_eq_true rfl) rfl (daX11_sketchLine_0 1 rfl) hc33 rfl ?_
  refine GM_istore_n (L' := [(1, (0, μ v0 7)), (0, (3, v0))]) (pc := 4) (daX11_sketchLine_0 2 rfl) rfl (Nat.le_of_ble_eq_true rfl) rfl ?_
  refine GM_aload_n (pc := 5) 1 rfl (daX11_sketchLine_0 3 rfl) rfl ?_
  refine GM_iconst (pc := 6) 0 (daX11_sketchLine_0 4 rfl) rfl (R32_b rfl) ?_
  obtain ⟨⟨r34, μ34⟩, hf34, h⟩ := Option.bind_eq_some_iff.mp h
  dsimp only at h
  refine GM_callV0 (pc := 7) [(0, 0)] (tX11_takes l hf34) cwX11_takes 11 (Nat.le_of_ble_eq_true rfl) rfl kv_X11_takes ke_X11_takes km_X11_164 hc33 ⟨Nat.le_of_ble_eq_true rfl, Nat.le_of_ble_eq_true rfl⟩ (Nat.le_of_ble_eq_true rfl) (Nat.le_of_ble_eq_true rfl) (daX11_sketchLine_0 5 rfl) ?_
  refine GM_istore_n (L' := [(2, (0, r34)), (1, (0, μ v0 7)), (0, (3, v0))]) (pc := 10) (daX11_sketchLine_0 6 rfl) rfl (Nat.le_of_ble_eq_true rfl) rfl ?_
  refine GM_iload_n (pc := 11) 0 rfl (daX11_sketchLine_0 7 rfl) rfl ?_
  refine GM_bipush (pc := 12) 11 (daX11_sketchLine_0 8 rfl) rfl (R32_b rfl) ?_
  refine GM_icmp_ne (pc := 14) 22 (daX11_sketchLine_0 9 rfl) rfl (fun c35 => ?_) (fun c35 => ?_)
  · skip
    rw [if_neg c35] at h
    refine GM_pick [2, 0] rfl ?_
    exact gX11_sketchLine_22 l h hK
  · skip
    rw [if_pos c35] at h
    refine GM_aload_n (pc := 17) 2 rfl (daX11_sketchLine_0 10 rfl) rfl ?_
    refine GM_iload_n (pc := 18) 1 rfl (daX11_sketchLine_0 11 rfl) rfl ?_
    obtain ⟨μ36, hf36, h⟩ := Option.bind_eq_some_iff.mp h
    refine GM_callV0 (pc := 19) [(0, μ v0 7)] (tX11_hump0 l hf36) cwX11_hump0 11 (Nat.le_of_ble_eq_true rfl) rfl kv_X11_hump0 ke_X11_hump0 km_X11_178 hc33 ⟨Nat.le_of_ble_eq_true rfl, Nat.le_of_ble_eq_true rfl⟩ (Nat.le_of_ble_eq_true rfl) (Nat.le_of_ble_eq_true rfl) (daX11_sketchLine_0 12 rfl) ?_
    refine GM_pick [2, 0] rfl ?_
    exact gX11_sketchLine_22 l h hK
theorem tX11_sketchLine (l : Launch) {v0 : Int} {μ : Mm} {t : Mm} (h : fX11_sketchLine v0 μ = some t) : Ct l yX11_sketchLine mX11_sketchLine [(3, v0)] μ ([], t, 0, 0) :=
  Ct_of (by decide +kernel) rfl rfl (Nat.le_of_ble_eq_true rfl) (fun _ _ _ => trivial) (gX11_sketchLine_0 l h ⟨rfl, rfl⟩)
def mX11_placeOf : MI := (RX11, cX11_placeOf, 2, (some .int), "placeOf", 0, 0, fun _ _ _ => True)
theorem cwX11_placeOf : CWd yX11_placeOf mX11_placeOf 2 := ⟨ki_X11, kk_X11_placeOf, ⟨by decide, by decide⟩, rfl⟩
def dtX11_placeOf_0 : List (Nat × Instr × Nat) := [(0, .iload_n 0, 1), (1, .ifCond .ne 15, 3), (4, .sipush 710, 3), (7, .sipush 200, 3), (10, .iload_n 1, 1), (11, .imul, 1), (12, .iadd, 1), (13, .goto 11, 3), (16, .sipush 1110, 3), (19, .bipush 32, 2), (21, .iload_n 1, 1), (22, .imul, 1), (23, .iadd, 1), (24, .ireturn, 1)]
theorem ddX11_placeOf_0 : (dtX11_placeOf_0.all fun e => decide (decode mX11_placeOf.2.1 e.1 = .ok (e.2.1, e.2.2))) = true := by decide +kernel
theorem daX11_placeOf_0 (j : Nat) {pc n : Nat} {i : Instr} (h : dtX11_placeOf_0[j]? = some (pc, i, n)) : decode mX11_placeOf.2.1 pc = .ok (i, n) := dec_of (c := mX11_placeOf.2.1) ddX11_placeOf_0 h
def fX11_placeOf (v0 v1 : Int) : Option Int :=
  if v0 = 0 then
    some (w32 (710 + (w32 (200 * v1))))
  else
    some (w32 (1110 + (w32 (32 * v1))))
set_option maxRecDepth 20000 in
theorem gX11_placeOf_0 (l : Launch) {F : FI} {v0 v1 : Int} {μ : Mm} {t : Int} (h : fX11_placeOf v0 v1 = some t) (hK : F.1 = [(0, t)] ∧ F.2.1 = μ) : GM l mX11_placeOf F 0 0 0 [(0, (0, v0)), (1, (0, v1))] [] μ := by
  unfold fX11_placeOf at h
  refine GM_iload_n (pc := 0) 0 rfl (daX11_placeOf_0 0 rfl) rfl ?_
  refine GM_if_ne (pc := 1) 16 (daX11_placeOf_0 1 rfl) rfl (fun c1 => ?_) (fun c1 => ?_)
  · skip
    rw [if_neg c1] at h
    refine GM_sipush (pc := 16) 1110 (daX11_placeOf_0 8 rfl) rfl (R32_b rfl) ?_
    refine GM_bipush (pc := 19) 32 (daX11_placeOf_0 9 rfl) rfl (R32_b rfl) ?_
    refine GM_iload_n (pc := 21) 1 rfl (daX11_placeOf_0 10 rfl) rfl ?_
    refine GM_imul (pc := 22) (daX11_placeOf_0 11 rfl) ?_
    refine GM_iadd (pc := 23) (daX11_placeOf_0 12 rfl) ?_
    cases h
    exact GM_iret (pc := 24) (daX11_placeOf_0 13 rfl) rfl hK
  · skip
    rw [if_pos c1] at h
    refine GM_sipush (pc := 4) 710 (daX11_placeOf_0 2 rfl) rfl (R32_b rfl) ?_
    refine GM_sipush (pc := 7) 200 (daX11_placeOf_0 3 rfl) rfl (R32_b rfl) ?_
    refine GM_iload_n (pc := 10) 1 rfl (daX11_placeOf_0 4 rfl) rfl ?_
    refine GM_imul (pc := 11) (daX11_placeOf_0 5 rfl) ?_
    refine GM_iadd (pc := 12) (daX11_placeOf_0 6 rfl) ?_
    refine GM_goto (pc := 13) 24 (daX11_placeOf_0 7 rfl) rfl ?_
    cases h
    exact GM_iret (pc := 24) (daX11_placeOf_0 13 rfl) rfl hK
theorem tX11_placeOf (l : Launch) {v0 v1 : Int} {μ : Mm} {t : Int} (h : fX11_placeOf v0 v1 = some t) : Ct l yX11_placeOf mX11_placeOf [(0, v0), (0, v1)] μ ([(0, t)], μ, 0, 0) :=
  Ct_of (by decide +kernel) rfl rfl (Nat.le_of_ble_eq_true rfl) (fun _ _ _ => trivial) (gX11_placeOf_0 l h ⟨rfl, rfl⟩)
def mX11_isOf : MI := (RX11, cX11_isOf, 3, (some .boolean), "isOf", 1, 22, fun _ _ _ => True)
theorem cwX11_isOf : CWd yX11_isOf mX11_isOf 2 := ⟨ki_X11, kk_X11_isOf, ⟨by decide, by decide⟩, rfl⟩
def dtX11_isOf_0 : List (Nat × Instr × Nat) := [(0, .iload_n 2, 1), (1, .iconst 0, 1), (2, .aload_n 0, 1), (3, .getfield 7, 3), (6, .iload_n 1, 1), (7, .iaload, 1), (8, .iconst 1, 1), (9, .isub, 1), (10, .invokestatic 147, 3), (13, .ireturn, 1)]
theorem ddX11_isOf_0 : (dtX11_isOf_0.all fun e => decide (decode mX11_isOf.2.1 e.1 = .ok (e.2.1, e.2.2))) = true := by decide +kernel
theorem daX11_isOf_0 (j : Nat) {pc n : Nat} {i : Instr} (h : dtX11_isOf_0[j]? = some (pc, i, n)) : decode mX11_isOf.2.1 pc = .ok (i, n) := dec_of (c := mX11_isOf.2.1) ddX11_isOf_0 h
def fX11_isOf (v0 v1 v2 : Int) (μ : Mm) : Option Int :=
  chk (KD v0 = 11) (
  chk (KD (μ v0 0) = 12 ∧ 0 ≤ v1 ∧ v1 < LN (μ v0 0)) (
  some (isIn v2 0 (w32 ((μ (μ v0 0) v1) - 1)))))
set_option maxRecDepth 20000 in
theorem gX11_isOf_0 (l : Launch) {F : FI} {v0 v1 v2 : Int} {μ : Mm} {t : Int} (h : fX11_isOf v0 v1 v2 μ = some t) (hK : F.1 = [(0, t)] ∧ F.2.1 = μ) : GM l mX11_isOf F 0 0 0 [(0, (3, v0)), (1, (0, v1)), (2, (0, v2))] [] μ := by
  unfold fX11_isOf at h
  refine GM_iload_n (pc := 0) 2 rfl (daX11_isOf_0 0 rfl) rfl ?_
  refine GM_iconst (pc := 1) 0 (daX11_isOf_0 1 rfl) rfl (R32_b rfl) ?_
  refine GM_aload_n (pc := 2) 0 rfl (daX11_isOf_0 2 rfl) rfl ?_
  obtain ⟨hc1, h⟩ := chk_inv h
  refine GM_getf (pc := 3) 11 0 3 0 kf_X11_7 (Nat.le_of_ble_eq_true rfl) (Nat.le_of_ble_eq_true rfl) rfl (daX11_isOf_0 3 rfl) hc1 rfl ?_
  refine GM_iload_n (pc := 6) 1 rfl (daX11_isOf_0 4 rfl) rfl ?_
  obtain ⟨hc2, h⟩ := chk_inv h
  refine GM_iald (pc := 7) (daX11_isOf_0 5 rfl) hc2.1 hc2.2.1 hc2.2.2 ?_
  refine GM_iconst (pc := 8) 1 (daX11_isOf_0 6 rfl) rfl (R32_b rfl) ?_
  refine GM_isub (pc := 9) (daX11_isOf_0 7 rfl) ?_
  refine GM_callS0 (pc := 10) [(0, v2), (0, 0), (0, w32 ((μ (μ v0 0) v1) - 1))] (tX11_isIn l (fX11_isIn_eq v2 0 (w32 ((μ (μ v0 0) v1) - 1)))) cwX11_isIn ks_X11_isIn km_X11_147 ⟨Nat.le_of_ble_eq_true rfl, Nat.le_of_ble_eq_true rfl⟩ (Nat.le_of_ble_eq_true rfl) (Nat.le_of_ble_eq_true rfl) (daX11_isOf_0 8 rfl) ?_
  cases h
  exact GM_zret (pc := 13) (daX11_isOf_0 9 rfl) rfl (isIn_01 _ _ _) hK
theorem tX11_isOf (l : Launch) {v0 v1 v2 : Int} {μ : Mm} {t : Int} (h : fX11_isOf v0 v1 v2 μ = some t) : Ct l yX11_isOf mX11_isOf [(3, v0), (0, v1), (0, v2)] μ ([(0, t)], μ, 0, 0) :=
  Ct_of (by decide +kernel) rfl rfl (Nat.le_of_ble_eq_true rfl) (fun _ _ _ => trivial) (gX11_isOf_0 l h ⟨rfl, rfl⟩)
def mX11_isFree : MI := (RX11, cX11_isFree, 3, (some .boolean), "isFree", 2, 44, fun _ _ _ => True)
theorem cwX11_isFree : CWd yX11_isFree mX11_isFree 2 := ⟨ki_X11, kk_X11_isFree, ⟨by decide, by decide⟩, rfl⟩
def dtX11_isFree_0 : List (Nat × Instr × Nat) := [(0, .iload_n 2, 1), (1, .iconst (-1), 1), (2, .if_icmp .ne 29, 3), (5, .aload_n 0, 1), (6, .getfield 7, 3), (9, .iload_n 1, 1), (10, .iaload, 1), (11, .iload_n 1, 1), (12, .ifCond .ne 7, 3), (15, .iconst 2, 1), (16, .goto 4, 3), (19, .iconst 4, 1), (20, .if_icmp .ge 7, 3), (23, .iconst 1, 1), (24, .goto 13, 3), (27, .iconst 0, 1), (28, .goto 9, 3), (31, .aload_n 0, 1), (32, .iload_n 1, 1), (33, .iload_n 2, 1), (34, .invokevirtual 182, 3), (37, .ireturn, 1)]
theorem ddX11_isFree_0 : (dtX11_isFree_0.all fun e => decide (decode mX11_isFree.2.1 e.1 = .ok (e.2.1, e.2.2))) = true := by decide +kernel
theorem daX11_isFree_0 (j : Nat) {pc n : Nat} {i : Instr} (h : dtX11_isFree_0[j]? = some (pc, i, n)) : decode mX11_isFree.2.1 pc = .ok (i, n) := dec_of (c := mX11_isFree.2.1) ddX11_isFree_0 h
def jX11_isFree_20 (s0 s1 : Int) (μ : Mm) : Option Int :=
  if s0 ≤ s1 then
    some 0
  else
    some 1
def fX11_isFree (v0 v1 v2 : Int) (μ : Mm) : Option Int :=
  if v2 = (-1) then
    chk (KD v0 = 11) (
    chk (KD (μ v0 0) = 12 ∧ 0 ≤ v1 ∧ v1 < LN (μ v0 0)) (
    if v1 = 0 then
      jX11_isFree_20 2 (μ (μ v0 0) v1) μ
    else
      jX11_isFree_20 4 (μ (μ v0 0) v1) μ))
  else
    chk (KD v0 = 11) (
    (fX11_isOf v0 v1 v2 μ).bind fun r4 =>
    chk ((r4 = 0 ∨ r4 = 1)) (
    some r4))
set_option maxRecDepth 20000 in
theorem gX11_isFree_20 (l : Launch) {F : FI} {s0 s1 : Int} {μ : Mm} {t : Int} (h : jX11_isFree_20 s0 s1 μ = some t) (hK : F.1 = [(0, t)] ∧ F.2.1 = μ) : GM l mX11_isFree F 0 0 20 [] [(0, s0), (0, s1)] μ := by
  unfold jX11_isFree_20 at h
  refine GM_icmp_ge (pc := 20) 27 (daX11_isFree_0 12 rfl) rfl (fun c1 => ?_) (fun c1 => ?_)
  · skip
    rw [if_pos c1] at h
    refine GM_iconst (pc := 27) 0 (daX11_isFree_0 15 rfl) rfl (R32_b rfl) ?_
    refine GM_goto (pc := 28) 37 (daX11_isFree_0 16 rfl) rfl ?_
    cases h
    exact GM_zret (pc := 37) (daX11_isFree_0 21 rfl) rfl (Or.inl rfl) hK
  · skip
    rw [if_neg c1] at h
    refine GM_iconst (pc := 23) 1 (daX11_isFree_0 13 rfl) rfl (R32_b rfl) ?_
    refine GM_goto (pc := 24) 37 (daX11_isFree_0 14 rfl) rfl ?_
    cases h
    exact GM_zret (pc := 37) (daX11_isFree_0 21 rfl) rfl (Or.inr rfl) hK
set_option maxRecDepth 20000 in
theorem gX11_isFree_0 (l : Launch) {F : FI} {v0 v1 v2 : Int} {μ : Mm} {t : Int} (h : fX11_isFree v0 v1 v2 μ = some t) (hK : F.1 = [(0, t)] ∧ F.2.1 = μ) : GM l mX11_isFree F 0 0 0 [(0, (3, v0)), (1, (0, v1)), (2, (0, v2))] [] μ := by
  unfold fX11_isFree at h
  refine GM_iload_n (pc := 0) 2 rfl (daX11_isFree_0 0 rfl) rfl ?_
  refine GM_iconst (pc := 1) (-1) (daX11_isFree_0 1 rfl) rfl (R32_b rfl) ?_
  refine GM_icmp_ne (pc := 2) 31 (daX11_isFree_0 2 rfl) rfl (fun c2 => ?_) (fun c2 => ?_)
  · skip
    rw [if_neg c2] at h
    refine GM_aload_n (pc := 31) 0 rfl (daX11_isFree_0 17 rfl) rfl ?_
    refine GM_iload_n (pc := 32) 1 rfl (daX11_isFree_0 18 rfl) rfl ?_
    refine GM_iload_n (pc := 33) 2 rfl (daX11_isFree_0 19 rfl) rfl ?_
    obtain ⟨hc3, h⟩ := chk_inv h
    obtain ⟨r4, hf4, h⟩ := Option.bind_eq_some_iff.mp h
    refine GM_callV0 (pc := 34) [(0, v1), (0, v2)] (tX11_isOf l hf4) cwX11_isOf 11 (Nat.le_of_ble_eq_true rfl) rfl kv_X11_isOf ke_X11_isOf km_X11_182 hc3 ⟨Nat.le_of_ble_eq_true rfl, Nat.le_of_ble_eq_true rfl⟩ (Nat.le_of_ble_eq_true rfl) (Nat.le_of_ble_eq_true rfl) (daX11_isFree_0 20 rfl) ?_
    obtain ⟨hc5, h⟩ := chk_inv h
    cases h
    exact GM_zret (pc := 37) (daX11_isFree_0 21 rfl) rfl hc5 hK
  · skip
    rw [if_pos c2] at h
    refine GM_aload_n (pc := 5) 0 rfl (daX11_isFree_0 3 rfl) rfl ?_
    obtain ⟨hc6, h⟩ := chk_inv h
    refine GM_getf (pc := 6) 11 0 3 0 kf_X11_7 (Nat.le_of_ble_eq_true rfl) (Nat.le_of_ble_eq_true rfl) rfl (daX11_isFree_0 4 rfl) hc6 rfl ?_
    refine GM_iload_n (pc := 9) 1 rfl (daX11_isFree_0 5 rfl) rfl ?_
    obtain ⟨hc7, h⟩ := chk_inv h
    refine GM_iald (pc := 10) (daX11_isFree_0 6 rfl) hc7.1 hc7.2.1 hc7.2.2 ?_
    refine GM_iload_n (pc := 11) 1 rfl (daX11_isFree_0 7 rfl) rfl ?_
    refine GM_if_ne (pc := 12) 19 (daX11_isFree_0 8 rfl) rfl (fun c8 => ?_) (fun c8 => ?_)
    · skip
      rw [if_neg c8] at h
      refine GM_iconst (pc := 19) 4 (daX11_isFree_0 11 rfl) rfl (R32_b rfl) ?_
      refine GM_pick [] rfl ?_
      exact gX11_isFree_20 l h hK
    · skip
      rw [if_pos c8] at h
      refine GM_iconst (pc := 15) 2 (daX11_isFree_0 9 rfl) rfl (R32_b rfl) ?_
      refine GM_goto (pc := 16) 20 (daX11_isFree_0 10 rfl) rfl ?_
      refine GM_pick [] rfl ?_
      exact gX11_isFree_20 l h hK
theorem tX11_isFree (l : Launch) {v0 v1 v2 : Int} {μ : Mm} {t : Int} (h : fX11_isFree v0 v1 v2 μ = some t) : Ct l yX11_isFree mX11_isFree [(3, v0), (0, v1), (0, v2)] μ ([(0, t)], μ, 0, 0) :=
  Ct_of (by decide +kernel) rfl rfl (Nat.le_of_ble_eq_true rfl) (fun _ _ _ => trivial) (gX11_isFree_0 l h ⟨rfl, rfl⟩)
def mX11_keeps : MI := (RX11, cX11_keeps, 3, (some .int), "keeps", 0, 0, fun _ _ _ => True)
theorem cwX11_keeps : CWd yX11_keeps mX11_keeps 2 := ⟨ki_X11, kk_X11_keeps, ⟨by decide, by decide⟩, rfl⟩
def dtX11_keeps_0 : List (Nat × Instr × Nat) := [(0, .iload_n 2, 1), (1, .iconst (-1), 1), (2, .if_icmp .eq 5, 3), (5, .iload_n 2, 1), (6, .ireturn, 1), (7, .aload_n 0, 1), (8, .getfield 7, 3), (11, .iload_n 1, 1), (12, .dup2, 1), (13, .iaload, 1), (14, .iconst 1, 1), (15, .iadd, 1), (16, .iastore, 1), (17, .aload_n 0, 1), (18, .getfield 7, 3), (21, .iload_n 1, 1), (22, .iaload, 1), (23, .iconst 1, 1), (24, .isub, 1), (25, .ireturn, 1)]
theorem ddX11_keeps_0 : (dtX11_keeps_0.all fun e => decide (decode mX11_keeps.2.1 e.1 = .ok (e.2.1, e.2.2))) = true := by decide +kernel
theorem daX11_keeps_0 (j : Nat) {pc n : Nat} {i : Instr} (h : dtX11_keeps_0[j]? = some (pc, i, n)) : decode mX11_keeps.2.1 pc = .ok (i, n) := dec_of (c := mX11_keeps.2.1) ddX11_keeps_0 h
def fX11_keeps (v0 v1 v2 : Int) (μ : Mm) : Option (Int × Mm) :=
  if v2 = (-1) then
    chk (KD v0 = 11) (
    chk (KD (μ v0 0) = 12 ∧ 0 ≤ v1 ∧ v1 < LN (μ v0 0)) (
    lm (mst μ (μ v0 0) v1 (w32 ((μ (μ v0 0) v1) + 1))) fun μ4 =>
    chk (KD (μ4 v0 0) = 12 ∧ v1 < LN (μ4 v0 0)) (
    some (w32 ((μ4 (μ4 v0 0) v1) - 1), μ4))))
  else
    some (v2, μ)
set_option maxRecDepth 20000 in
theorem gX11_keeps_0 (l : Launch) {F : FI} {v0 v1 v2 : Int} {μ : Mm} {t : (Int × Mm)} (h : fX11_keeps v0 v1 v2 μ = some t) (hK : F.1 = [(0, t.1)] ∧ F.2.1 = t.2) : GM l mX11_keeps F 0 0 0 [(0, (3, v0)), (1, (0, v1)), (2, (0, v2))] [] μ := by
  unfold fX11_keeps at h
  refine GM_iload_n (pc := 0) 2 rfl (daX11_keeps_0 0 rfl) rfl ?_
  refine GM_iconst (pc := 1) (-1) (daX11_keeps_0 1 rfl) rfl (R32_b rfl) ?_
  refine GM_icmp_eq (pc := 2) 7 (daX11_keeps_0 2 rfl) rfl (fun c1 => ?_) (fun c1 => ?_)
  · skip
    rw [if_pos c1] at h
    refine GM_aload_n (pc := 7) 0 rfl (daX11_keeps_0 5 rfl) rfl ?_
    obtain ⟨hc2, h⟩ := chk_inv h
    refine GM_getf (pc := 8) 11 0 3 0 kf_X11_7 (Nat.le_of_ble_eq_true rfl) (Nat.le_of_ble_eq_true rfl) rfl (daX11_keeps_0 6 rfl) hc2 rfl ?_
    refine GM_iload_n (pc := 11) 1 rfl (daX11_keeps_0 7 rfl) rfl ?_
    refine GM_dup2 (pc := 12) (daX11_keeps_0 8 rfl) (Nat.ne_of_beq_eq_false rfl) (Nat.ne_of_beq_eq_false rfl) ?_
    obtain ⟨hc3, h⟩ := chk_inv h
    refine GM_iald (pc := 13) (daX11_keeps_0 9 rfl) hc3.1 hc3.2.1 hc3.2.2 ?_
    refine GM_iconst (pc := 14) 1 (daX11_keeps_0 10 rfl) rfl (R32_b rfl) ?_
    refine GM_iadd (pc := 15) (daX11_keeps_0 11 rfl) ?_
    obtain ⟨μ4, hμ4, h⟩ := lm_inv h
    refine GM_iast (pc := 16) (daX11_keeps_0 12 rfl) hc3.1 hc3.2.1 hc3.2.2 ?_
    refine GM_mem hμ4 ?_
    refine GM_aload_n (pc := 17) 0 rfl (daX11_keeps_0 13 rfl) rfl ?_
    refine GM_getf (pc := 18) 11 0 3 0 kf_X11_7 (Nat.le_of_ble_eq_true rfl) (Nat.le_of_ble_eq_true rfl) rfl (daX11_keeps_0 14 rfl) hc2 rfl ?_
    refine GM_iload_n (pc := 21) 1 rfl (daX11_keeps_0 15 rfl) rfl ?_
    obtain ⟨hc5, h⟩ := chk_inv h
    refine GM_iald (pc := 22) (daX11_keeps_0 16 rfl) hc5.1 hc3.2.1 hc5.2 ?_
    refine GM_iconst (pc := 23) 1 (daX11_keeps_0 17 rfl) rfl (R32_b rfl) ?_
    refine GM_isub (pc := 24) (daX11_keeps_0 18 rfl) ?_
    cases h
    exact GM_iret (pc := 25) (daX11_keeps_0 19 rfl) rfl hK
  · skip
    rw [if_neg c1] at h
    refine GM_iload_n (pc := 5) 2 rfl (daX11_keeps_0 3 rfl) rfl ?_
    cases h
    exact GM_iret (pc := 6) (daX11_keeps_0 4 rfl) rfl hK
theorem tX11_keeps (l : Launch) {v0 v1 v2 : Int} {μ : Mm} {t : (Int × Mm)} (h : fX11_keeps v0 v1 v2 μ = some t) : Ct l yX11_keeps mX11_keeps [(3, v0), (0, v1), (0, v2)] μ ([(0, t.1)], t.2, 0, 0) :=
  Ct_of (by decide +kernel) rfl rfl (Nat.le_of_ble_eq_true rfl) (fun _ _ _ => trivial) (gX11_keeps_0 l h ⟨rfl, rfl⟩)
def mX11_begins : MI := (RX11, cX11_begins, 3, none, "begins", 0, 0, fun _ _ _ => True)
theorem cwX11_begins : CWd yX11_begins mX11_begins 1 := ⟨ki_X11, kk_X11_begins, ⟨by decide, by decide⟩, rfl⟩
def dtX11_begins_0 : List (Nat × Instr × Nat) := [(0, .iconst 0, 1), (1, .istore_n 2, 1), (2, .iload_n 2, 1), (3, .sipush 200, 3), (6, .if_icmp .ge 16, 3), (9, .aload_n 0, 1), (10, .getfield 23, 3), (13, .iload_n 2, 1), (14, .iconst 0, 1), (15, .iastore, 1), (16, .iinc 2 1, 3), (19, .goto (-17), 3), (22, .aload_n 0, 1), (23, .iconst 0, 1), (24, .putfield 157, 3), (27, .iload_n 1, 1), (28, .ifCond .ne 29, 3), (31, .aload_n 0, 1), (32, .getfield 23, 3), (35, .iconst 0, 1), (36, .iconst 4, 1), (37, .iastore, 1), (38, .aload_n 0, 1), (39, .getfield 23, 3), (42, .iconst 1, 1), (43, .iconst 4, 1), (44, .iastore, 1), (45, .aload_n 0, 1), (46, .getfield 23, 3), (49, .iconst 4, 1), (50, .sipush 999, 3), (53, .iastore, 1), (54, .goto 12, 3), (57, .aload_n 0, 1), (58, .getfield 23, 3), (61, .bipush 6, 2), (63, .bipush 99, 2), (65, .iastore, 1), (66, .return_, 1)]
theorem ddX11_begins_0 : (dtX11_begins_0.all fun e => decide (decode mX11_begins.2.1 e.1 = .ok (e.2.1, e.2.2))) = true := by decide +kernel
theorem daX11_begins_0 (j : Nat) {pc n : Nat} {i : Instr} (h : dtX11_begins_0[j]? = some (pc, i, n)) : decode mX11_begins.2.1 pc = .ok (i, n) := dec_of (c := mX11_begins.2.1) ddX11_begins_0 h
def zX11_begins_2 (l : Launch) (F : FI) (v0 v1 : Int) (k n : Nat) : (Int × Mm) ⊕ Mm → Prop
  | .inl (v2, μ) => GM l mX11_begins F k n 2 [(0, (3, v0)), (1, (0, v1)), (2, (0, v2))] [] μ
  | .inr μ => GM l mX11_begins F k n 22 [(0, (3, v0)), (1, (0, v1))] [] μ
def sX11_begins_2 (v0 v1 : Int) : (Int × Mm) → Option ((Int × Mm) ⊕ Mm) := fun (v2, μ) =>
  if 200 ≤ v2 then
    some (.inr μ)
  else
    chk (KD v0 = 11) (
    chk (KD (μ v0 13) = 12 ∧ 0 ≤ v2 ∧ v2 < LN (μ v0 13)) (
    lm (mst μ (μ v0 13) v2 0) fun μ4 =>
    some (.inl (w32 (v2 + 1), μ4))))
def fX11_begins (v0 v1 : Int) (μ : Mm) : Option Mm :=
  (lop (sX11_begins_2 v0 v1) FU (0, μ)).bind fun μ_6 =>
    chk (KD v0 = 11) (
    lm (mst μ_6 v0 12 0) fun μ8 =>
    if v1 = 0 then
      chk (KD (μ8 v0 13) = 12 ∧ 0 < LN (μ8 v0 13)) (
      lm (mst μ8 (μ8 v0 13) 0 4) fun μ13 =>
      chk (KD (μ13 v0 13) = 12 ∧ 1 < LN (μ13 v0 13)) (
      lm (mst μ13 (μ13 v0 13) 1 4) fun μ15 =>
      chk (KD (μ15 v0 13) = 12 ∧ 4 < LN (μ15 v0 13)) (
      lm (mst μ15 (μ15 v0 13) 4 999) fun μ17 =>
      some μ17)))
    else
      chk (KD (μ8 v0 13) = 12 ∧ 6 < LN (μ8 v0 13)) (
      lm (mst μ8 (μ8 v0 13) 6 99) fun μ11 =>
      some μ11))
set_option maxRecDepth 20000 in
theorem qX11_begins_2 (l : Launch) (F : FI) (v0 v1 : Int) (k n : Nat) : ∀ (q : (Int × Mm)) (t : ((Int × Mm) ⊕ Mm)), sX11_begins_2 v0 v1 q = some t → zX11_begins_2 l F v0 v1 k n t → zX11_begins_2 l F v0 v1 k n (.inl q) := by
  intro q t h hK
  obtain ⟨v2, μ⟩ := q
  unfold sX11_begins_2 at h
  try dsimp only at h
  show GM l mX11_begins F k n 2 [(0, (3, v0)), (1, (0, v1)), (2, (0, v2))] [] μ
  refine GM_iload_n (pc := 2) 2 rfl (daX11_begins_0 2 rfl) rfl ?_
  refine GM_sipush (pc := 3) 200 (daX11_begins_0 3 rfl) rfl (R32_b rfl) ?_
  refine GM_icmp_ge (pc := 6) 22 (daX11_begins_0 4 rfl) rfl (fun c1 => ?_) (fun c1 => ?_)
  · skip
    rw [if_pos c1] at h
    refine GM_pick [0, 1] rfl ?_
    cases h
    exact hK
  · skip
    rw [if_neg c1] at h
    refine GM_aload_n (pc := 9) 0 rfl (daX11_begins_0 5 rfl) rfl ?_
    obtain ⟨hc2, h⟩ := chk_inv h
    refine GM_getf (pc := 10) 11 13 3 13 kf_X11_23 (Nat.le_of_ble_eq_true rfl) (Nat.le_of_ble_eq_true rfl) rfl (daX11_begins_0 6 rfl) hc2 rfl ?_
    refine GM_iload_n (pc := 13) 2 rfl (daX11_begins_0 7 rfl) rfl ?_
    refine GM_iconst (pc := 14) 0 (daX11_begins_0 8 rfl) rfl (R32_b rfl) ?_
    obtain ⟨hc3, h⟩ := chk_inv h
    obtain ⟨μ4, hμ4, h⟩ := lm_inv h
    refine GM_iast (pc := 15) (daX11_begins_0 9 rfl) hc3.1 hc3.2.1 hc3.2.2 ?_
    refine GM_mem hμ4 ?_
    refine GM_iinc (L' := [(2, (0, w32 (v2 + 1))), (0, (3, v0)), (1, (0, v1))]) (pc := 16) 2 rfl (daX11_begins_0 10 rfl) (Nat.le_of_ble_eq_true rfl) rfl ?_
    refine GM_goto (pc := 19) 2 (daX11_begins_0 11 rfl) rfl ?_
    refine GM_pick [1, 2, 0] rfl ?_
    cases h
    exact hK
set_option maxRecDepth 20000 in
theorem gX11_begins_0 (l : Launch) {F : FI} {v0 v1 : Int} {μ : Mm} {t : Mm} (h : fX11_begins v0 v1 μ = some t) (hK : F.1 = [] ∧ F.2.1 = t) : GM l mX11_begins F 0 0 0 [(0, (3, v0)), (1, (0, v1))] [] μ := by
  unfold fX11_begins at h
  refine GM_iconst (pc := 0) 0 (daX11_begins_0 0 rfl) rfl (R32_b rfl) ?_
  refine GM_istore_n (L' := [(2, (0, 0)), (0, (3, v0)), (1, (0, v1))]) (pc := 1) (daX11_begins_0 1 rfl) rfl (Nat.le_of_ble_eq_true rfl) rfl ?_
  refine GM_pick [1, 2, 0] rfl ?_
  obtain ⟨x5, hqx5, h⟩ := Option.bind_eq_some_iff.mp h
  refine lop_ind (zX11_begins_2 l F v0 v1 0 0) (qX11_begins_2 l F v0 v1 0 0) FU _ x5 hqx5 ?_
  obtain ⟨μ_6, hqq⟩ : ∃ z, z = x5 := ⟨x5, rfl⟩
  subst hqq
  show GM l mX11_begins F 0 0 22 [(0, (3, v0)), (1, (0, v1))] [] μ_6
  refine GM_aload_n (pc := 22) 0 rfl (daX11_begins_0 12 rfl) rfl ?_
  refine GM_iconst (pc := 23) 0 (daX11_begins_0 13 rfl) rfl (R32_b rfl) ?_
  obtain ⟨hc7, h⟩ := chk_inv h
  obtain ⟨μ8, hμ8, h⟩ := lm_inv h
  refine GM_putf (pc := 24) 11 12 0 kf_X11_157 (Nat.le_of_ble_eq_true rfl) (Nat.le_of_ble_eq_true rfl) rfl rfl (daX11_begins_0 14 rfl) hc7 (fun q => absurd q (by decide)) ?_
  refine GM_mem hμ8 ?_
  refine GM_iload_n (pc := 27) 1 rfl (daX11_begins_0 15 rfl) rfl ?_
  refine GM_if_ne (pc := 28) 57 (daX11_begins_0 16 rfl) rfl (fun c9 => ?_) (fun c9 => ?_)
  · skip
    rw [if_neg c9] at h
    refine GM_aload_n (pc := 57) 0 rfl (daX11_begins_0 33 rfl) rfl ?_
    refine GM_getf (pc := 58) 11 13 3 13 kf_X11_23 (Nat.le_of_ble_eq_true rfl) (Nat.le_of_ble_eq_true rfl) rfl (daX11_begins_0 34 rfl) hc7 rfl ?_
    refine GM_bipush (pc := 61) 6 (daX11_begins_0 35 rfl) rfl (R32_b rfl) ?_
    refine GM_bipush (pc := 63) 99 (daX11_begins_0 36 rfl) rfl (R32_b rfl) ?_
    obtain ⟨hc10, h⟩ := chk_inv h
    obtain ⟨μ11, hμ11, h⟩ := lm_inv h
    refine GM_iast (pc := 65) (daX11_begins_0 37 rfl) hc10.1 (by decide) hc10.2 ?_
    refine GM_mem hμ11 ?_
    cases h
    exact GM_vret (pc := 66) (daX11_begins_0 38 rfl) rfl hK
  · skip
    rw [if_pos c9] at h
    refine GM_aload_n (pc := 31) 0 rfl (daX11_begins_0 17 rfl) rfl ?_
    refine GM_getf (pc := 32) 11 13 3 13 kf_X11_23 (Nat.le_of_ble_eq_true rfl) (Nat.le_of_ble_eq_true rfl) rfl (daX11_begins_0 18 rfl) hc7 rfl ?_
    refine GM_iconst (pc := 35) 0 (daX11_begins_0 19 rfl) rfl (R32_b rfl) ?_
    refine GM_iconst (pc := 36) 4 (daX11_begins_0 20 rfl) rfl (R32_b rfl) ?_
    obtain ⟨hc12, h⟩ := chk_inv h
    obtain ⟨μ13, hμ13, h⟩ := lm_inv h
    refine GM_iast (pc := 37) (daX11_begins_0 21 rfl) hc12.1 (by decide) hc12.2 ?_
    refine GM_mem hμ13 ?_
    refine GM_aload_n (pc := 38) 0 rfl (daX11_begins_0 22 rfl) rfl ?_
    refine GM_getf (pc := 39) 11 13 3 13 kf_X11_23 (Nat.le_of_ble_eq_true rfl) (Nat.le_of_ble_eq_true rfl) rfl (daX11_begins_0 23 rfl) hc7 rfl ?_
    refine GM_iconst (pc := 42) 1 (daX11_begins_0 24 rfl) rfl (R32_b rfl) ?_
    refine GM_iconst (pc := 43) 4 (daX11_begins_0 25 rfl) rfl (R32_b rfl) ?_
    obtain ⟨hc14, h⟩ := chk_inv h
    obtain ⟨μ15, hμ15, h⟩ := lm_inv h
    refine GM_iast (pc := 44) (daX11_begins_0 26 rfl) hc14.1 (by decide) hc14.2 ?_
    refine GM_mem hμ15 ?_
    refine GM_aload_n (pc := 45) 0 rfl (daX11_begins_0 27 rfl) rfl ?_
    refine GM_getf (pc := 46) 11 13 3 13 kf_X11_23 (Nat.le_of_ble_eq_true rfl) (Nat.le_of_ble_eq_true rfl) rfl (daX11_begins_0 28 rfl) hc7 rfl ?_
    refine GM_iconst (pc := 49) 4 (daX11_begins_0 29 rfl) rfl (R32_b rfl) ?_
    refine GM_sipush (pc := 50) 999 (daX11_begins_0 30 rfl) rfl (R32_b rfl) ?_
    obtain ⟨hc16, h⟩ := chk_inv h
    obtain ⟨μ17, hμ17, h⟩ := lm_inv h
    refine GM_iast (pc := 53) (daX11_begins_0 31 rfl) hc16.1 (by decide) hc16.2 ?_
    refine GM_mem hμ17 ?_
    refine GM_goto (pc := 54) 66 (daX11_begins_0 32 rfl) rfl ?_
    cases h
    exact GM_vret (pc := 66) (daX11_begins_0 38 rfl) rfl hK
theorem tX11_begins (l : Launch) {v0 v1 : Int} {μ : Mm} {t : Mm} (h : fX11_begins v0 v1 μ = some t) : Ct l yX11_begins mX11_begins [(3, v0), (0, v1)] μ ([], t, 0, 0) :=
  Ct_of (by decide +kernel) rfl rfl (Nat.le_of_ble_eq_true rfl) (fun _ _ _ => trivial) (gX11_begins_0 l h ⟨rfl, rfl⟩)
def mX11_last : MI := (RX11, cX11_last, 5, none, "last", 1, 22, fun _ _ _ => True)
theorem cwX11_last : CWd yX11_last mX11_last 1 := ⟨ki_X11, kk_X11_last, ⟨by decide, by decide⟩, rfl⟩
def dtX11_last_0 : List (Nat × Instr × Nat) := [(0, .iload_n 1, 1), (1, .iconst 1, 1), (2, .if_icmp .ne 16, 3), (5, .aload_n 0, 1), (6, .getfield 23, 3), (9, .iconst 0, 1), (10, .iaload, 1), (11, .ifCond .ne 7, 3), (14, .iconst 1, 1), (15, .goto 4, 3), (18, .iconst 0, 1), (19, .istore_n 2, 1), (20, .iload_n 1, 1), (21, .ifCond .ne 87, 3), (24, .aload_n 0, 1), (25, .getfield 23, 3), (28, .iconst 0, 1), (29, .iaload, 1), (30, .aload_n 0, 1), (31, .getfield 23, 3), (34, .iconst 1, 1), (35, .iaload, 1), (36, .imul, 1), (37, .istore_n 3, 1), (38, .aload_n 0, 1), (39, .getfield 157, 3), (42, .iload_n 3, 1), (43, .if_icmp .le 7, 3), (46, .iconst 1, 1), (47, .goto 4, 3), (50, .iconst 0, 1), (51, .istore_n 2, 1), (52, .iconst 0, 1), (53, .istore 4, 2), (55, .iload 4, 2), (57, .aload_n 0, 1), (58, .getfield 23, 3), (61, .iconst 5, 1), (62, .iaload, 1), (63, .if_icmp .ge 45, 3), (66, .iload 4, 2), (68, .bipush 12, 2), (70, .if_icmp .ge 38, 3), (73, .iload_n 2, 1), (74, .ifCond .ne 22, 3), (77, .aload_n 0, 1), (78, .getfield 23, 3), (81, .sipush 150, 3), (84, .iconst 4, 1), (85, .iload 4, 2), (87, .imul, 1), (88, .iadd, 1), (89, .iconst 1, 1), (90, .iadd, 1), (91, .iaload, 1), (92, .iload_n 3, 1), (93, .if_icmp .lt 7, 3), (96, .iconst 1, 1), (97, .goto 4, 3), (100, .iconst 0, 1), (101, .istore_n 2, 1), (102, .iinc 4 1, 3), (105, .goto (-50), 3), (108, .iload_n 2, 1)]
theorem ddX11_last_0 : (dtX11_last_0.all fun e => decide (decode mX11_last.2.1 e.1 = .ok (e.2.1, e.2.2))) = true := by decide +kernel
theorem daX11_last_0 (j : Nat) {pc n : Nat} {i : Instr} (h : dtX11_last_0[j]? = some (pc, i, n)) : decode mX11_last.2.1 pc = .ok (i, n) := dec_of (c := mX11_last.2.1) ddX11_last_0 h
def dtX11_last_1 : List (Nat × Instr × Nat) := [(109, .ifCond .eq 12, 3), (112, .aload_n 0, 1), (113, .iconst 4, 1), (114, .aload_n 0, 1), (115, .getfield 115, 3), (118, .invokevirtual 151, 3), (121, .return_, 1)]
theorem ddX11_last_1 : (dtX11_last_1.all fun e => decide (decode mX11_last.2.1 e.1 = .ok (e.2.1, e.2.2))) = true := by decide +kernel
theorem daX11_last_1 (j : Nat) {pc n : Nat} {i : Instr} (h : dtX11_last_1[j]? = some (pc, i, n)) : decode mX11_last.2.1 pc = .ok (i, n) := dec_of (c := mX11_last.2.1) ddX11_last_1 h
def zX11_last_55 (l : Launch) (F : FI) (v0 v3 : Int) (μ : Mm) (k n : Nat) : (Int × Int) ⊕ Int → Prop
  | .inl (v2, v4) => GM l mX11_last F k n 55 [(0, (3, v0)), (2, (0, v2)), (3, (0, v3)), (4, (0, v4))] [] μ
  | .inr v2 => GM l mX11_last F k n 108 [(0, (3, v0)), (2, (0, v2))] [] μ
def sX11_last_55 (v0 v3 : Int) (μ : Mm) : (Int × Int) → Option ((Int × Int) ⊕ Int) := fun (v2, v4) =>
  chk (KD v0 = 11) (
  chk (KD (μ v0 13) = 12 ∧ 5 < LN (μ v0 13)) (
  if μ (μ v0 13) 5 ≤ v4 then
    some (.inr v2)
  else
    if 12 ≤ v4 then
      some (.inr v2)
    else
      if v2 = 0 then
        chk (0 ≤ w32 ((w32 (150 + (w32 (4 * v4)))) + 1) ∧ w32 ((w32 (150 + (w32 (4 * v4)))) + 1) < LN (μ v0 13)) (
        if μ (μ v0 13) (w32 ((w32 (150 + (w32 (4 * v4)))) + 1)) < v3 then
          some (.inl (0, w32 (v4 + 1)))
        else
          some (.inl (1, w32 (v4 + 1))))
      else
        some (.inl (1, w32 (v4 + 1)))))
def jX11_last_108 (v0 v2 : Int) (μ : Mm) : Option Mm :=
  if v2 = 0 then
    some μ
  else
    chk (KD v0 = 11) (
    (fX11_also v0 4 (μ v0 7) μ).bind fun μ10 =>
    some μ10)
def jX11_last_51 (v0 v3 s0 : Int) (μ : Mm) : Option Mm :=
  (lop (sX11_last_55 v0 v3 μ) FU (s0, 0)).bind fun v2_12 =>
    jX11_last_108 v0 v2_12 μ
def jX11_last_19 (v0 v1 s0 : Int) (μ : Mm) : Option Mm :=
  if v1 = 0 then
    chk (KD v0 = 11) (
    chk (KD (μ v0 13) = 12 ∧ 0 < LN (μ v0 13)) (
    chk (1 < LN (μ v0 13)) (
    lt (w32 ((μ (μ v0 13) 0) * (μ (μ v0 13) 1))) fun y17 =>
    if μ v0 12 ≤ y17 then
      jX11_last_51 v0 y17 0 μ
    else
      jX11_last_51 v0 y17 1 μ)))
  else
    jX11_last_108 v0 s0 μ
def jX11_last_18 (v0 v1 : Int) (μ : Mm) : Option Mm :=
  jX11_last_19 v0 v1 0 μ
def fX11_last (v0 v1 : Int) (μ : Mm) : Option Mm :=
  if v1 = 1 then
    chk (KD v0 = 11) (
    chk (KD (μ v0 13) = 12 ∧ 0 < LN (μ v0 13)) (
    if μ (μ v0 13) 0 = 0 then
      jX11_last_19 v0 v1 1 μ
    else
      jX11_last_18 v0 v1 μ))
  else
    jX11_last_18 v0 v1 μ
set_option maxRecDepth 20000 in
theorem qX11_last_55 (l : Launch) (F : FI) (v0 v3 : Int) (μ : Mm) (k n : Nat) : ∀ (q : (Int × Int)) (t : ((Int × Int) ⊕ Int)), sX11_last_55 v0 v3 μ q = some t → zX11_last_55 l F v0 v3 μ k n t → zX11_last_55 l F v0 v3 μ k n (.inl q) := by
  intro q t h hK
  obtain ⟨v2, v4⟩ := q
  unfold sX11_last_55 at h
  try dsimp only at h
  show GM l mX11_last F k n 55 [(0, (3, v0)), (2, (0, v2)), (3, (0, v3)), (4, (0, v4))] [] μ
  refine GM_iload (pc := 55) 3 rfl (daX11_last_0 34 rfl) ?_
  refine GM_aload_n (pc := 57) 0 rfl (daX11_last_0 35 rfl) rfl ?_
  obtain ⟨hc1, h⟩ := chk_inv h
  refine GM_getf (pc := 58) 11 13 3 13 kf_X11_23 (Nat.le_of_ble_eq_true rfl) (Nat.le_of_ble_eq_true rfl) rfl (daX11_last_0 36 rfl) hc1 rfl ?_
  refine GM_iconst (pc := 61) 5 (daX11_last_0 37 rfl) rfl (R32_b rfl) ?_
  obtain ⟨hc2, h⟩ := chk_inv h
  refine GM_iald (pc := 62) (daX11_last_0 38 rfl) hc2.1 (by decide) hc2.2 ?_
  refine GM_icmp_ge (pc := 63) 108 (daX11_last_0 39 rfl) rfl (fun c3 => ?_) (fun c3 => ?_)
  · skip
    rw [if_pos c3] at h
    refine GM_pick [0, 1] rfl ?_
    cases h
    exact hK
  · skip
    rw [if_neg c3] at h
    refine GM_iload (pc := 66) 3 rfl (daX11_last_0 40 rfl) ?_
    refine GM_bipush (pc := 68) 12 (daX11_last_0 41 rfl) rfl (R32_b rfl) ?_
    refine GM_icmp_ge (pc := 70) 108 (daX11_last_0 42 rfl) rfl (fun c4 => ?_) (fun c4 => ?_)
    · skip
      rw [if_pos c4] at h
      refine GM_pick [0, 1] rfl ?_
      cases h
      exact hK
    · skip
      rw [if_neg c4] at h
      refine GM_iload_n (pc := 73) 1 rfl (daX11_last_0 43 rfl) rfl ?_
      refine GM_if_ne (pc := 74) 96 (daX11_last_0 44 rfl) rfl (fun c5 => ?_) (fun c5 => ?_)
      · skip
        rw [if_neg c5] at h
        refine GM_iconst (pc := 96) 1 (daX11_last_0 57 rfl) rfl (R32_b rfl) ?_
        refine GM_goto (pc := 97) 101 (daX11_last_0 58 rfl) rfl ?_
        refine GM_istore_n (L' := [(2, (0, 1)), (0, (3, v0)), (3, (0, v3)), (4, (0, v4))]) (pc := 101) (daX11_last_0 60 rfl) rfl (Nat.le_of_ble_eq_true rfl) rfl ?_
        refine GM_iinc (L' := [(4, (0, w32 (v4 + 1))), (2, (0, 1)), (0, (3, v0)), (3, (0, v3))]) (pc := 102) 3 rfl (daX11_last_0 61 rfl) (Nat.le_of_ble_eq_true rfl) rfl ?_
        refine GM_goto (pc := 105) 55 (daX11_last_0 62 rfl) rfl ?_
        refine GM_pick [2, 1, 3, 0] rfl ?_
        cases h
        exact hK
      · skip
        rw [if_pos c5] at h
        refine GM_aload_n (pc := 77) 0 rfl (daX11_last_0 45 rfl) rfl ?_
        refine GM_getf (pc := 78) 11 13 3 13 kf_X11_23 (Nat.le_of_ble_eq_true rfl) (Nat.le_of_ble_eq_true rfl) rfl (daX11_last_0 46 rfl) hc1 rfl ?_
        refine GM_sipush (pc := 81) 150 (daX11_last_0 47 rfl) rfl (R32_b rfl) ?_
        refine GM_iconst (pc := 84) 4 (daX11_last_0 48 rfl) rfl (R32_b rfl) ?_
        refine GM_iload (pc := 85) 3 rfl (daX11_last_0 49 rfl) ?_
        refine GM_imul (pc := 87) (daX11_last_0 50 rfl) ?_
        refine GM_iadd (pc := 88) (daX11_last_0 51 rfl) ?_
        refine GM_iconst (pc := 89) 1 (daX11_last_0 52 rfl) rfl (R32_b rfl) ?_
        refine GM_iadd (pc := 90) (daX11_last_0 53 rfl) ?_
        obtain ⟨hc6, h⟩ := chk_inv h
        refine GM_iald (pc := 91) (daX11_last_0 54 rfl) hc2.1 hc6.1 hc6.2 ?_
        refine GM_iload_n (pc := 92) 2 rfl (daX11_last_0 55 rfl) rfl ?_
        refine GM_icmp_lt (pc := 93) 100 (daX11_last_0 56 rfl) rfl (fun c7 => ?_) (fun c7 => ?_)
        · skip
          rw [if_pos c7] at h
          refine GM_iconst (pc := 100) 0 (daX11_last_0 59 rfl) rfl (R32_b rfl) ?_
          refine GM_istore_n (L' := [(2, (0, 0)), (0, (3, v0)), (3, (0, v3)), (4, (0, v4))]) (pc := 101) (daX11_last_0 60 rfl) rfl (Nat.le_of_ble_eq_true rfl) rfl ?_
          refine GM_iinc (L' := [(4, (0, w32 (v4 + 1))), (2, (0, 0)), (0, (3, v0)), (3, (0, v3))]) (pc := 102) 3 rfl (daX11_last_0 61 rfl) (Nat.le_of_ble_eq_true rfl) rfl ?_
          refine GM_goto (pc := 105) 55 (daX11_last_0 62 rfl) rfl ?_
          refine GM_pick [2, 1, 3, 0] rfl ?_
          cases h
          exact hK
        · skip
          rw [if_neg c7] at h
          refine GM_iconst (pc := 96) 1 (daX11_last_0 57 rfl) rfl (R32_b rfl) ?_
          refine GM_goto (pc := 97) 101 (daX11_last_0 58 rfl) rfl ?_
          refine GM_istore_n (L' := [(2, (0, 1)), (0, (3, v0)), (3, (0, v3)), (4, (0, v4))]) (pc := 101) (daX11_last_0 60 rfl) rfl (Nat.le_of_ble_eq_true rfl) rfl ?_
          refine GM_iinc (L' := [(4, (0, w32 (v4 + 1))), (2, (0, 1)), (0, (3, v0)), (3, (0, v3))]) (pc := 102) 3 rfl (daX11_last_0 61 rfl) (Nat.le_of_ble_eq_true rfl) rfl ?_
          refine GM_goto (pc := 105) 55 (daX11_last_0 62 rfl) rfl ?_
          refine GM_pick [2, 1, 3, 0] rfl ?_
          cases h
          exact hK
set_option maxRecDepth 20000 in
theorem gX11_last_108 (l : Launch) {F : FI} {v0 v2 : Int} {μ : Mm} {t : Mm} (h : jX11_last_108 v0 v2 μ = some t) (hK : F.1 = [] ∧ F.2.1 = t) : GM l mX11_last F 0 0 108 [(0, (3, v0)), (2, (0, v2))] [] μ := by
  unfold jX11_last_108 at h
  refine GM_iload_n (pc := 108) 1 rfl (daX11_last_0 63 rfl) rfl ?_
  refine GM_if_eq (pc := 109) 121 (daX11_last_1 0 rfl) rfl (fun c8 => ?_) (fun c8 => ?_)
  · skip
    rw [if_pos c8] at h
    cases h
    exact GM_vret (pc := 121) (daX11_last_1 6 rfl) rfl hK
  · skip
    rw [if_neg c8] at h
    refine GM_aload_n (pc := 112) 0 rfl (daX11_last_1 1 rfl) rfl ?_
    refine GM_iconst (pc := 113) 4 (daX11_last_1 2 rfl) rfl (R32_b rfl) ?_
    refine GM_aload_n (pc := 114) 0 rfl (daX11_last_1 3 rfl) rfl ?_
    obtain ⟨hc9, h⟩ := chk_inv h
    refine GM_getf (pc := 115) 11 7 0 7 kf_X11_115 (Nat.le_of_ble_eq_true rfl) (Nat.le_of_ble_eq_true rfl) rfl (daX11_last_1 4 rfl) hc9 rfl ?_
    obtain ⟨μ10, hf10, h⟩ := Option.bind_eq_some_iff.mp h
    refine GM_callV0 (pc := 118) [(0, 4), (0, μ v0 7)] (tX11_also l hf10) cwX11_also 11 (Nat.le_of_ble_eq_true rfl) rfl kv_X11_also ke_X11_also km_X11_151 hc9 ⟨Nat.le_of_ble_eq_true rfl, Nat.le_of_ble_eq_true rfl⟩ (Nat.le_of_ble_eq_true rfl) (Nat.le_of_ble_eq_true rfl) (daX11_last_1 5 rfl) ?_
    cases h
    exact GM_vret (pc := 121) (daX11_last_1 6 rfl) rfl hK
set_option maxRecDepth 20000 in
theorem gX11_last_51 (l : Launch) {F : FI} {v0 v3 s0 : Int} {μ : Mm} {t : Mm} (h : jX11_last_51 v0 v3 s0 μ = some t) (hK : F.1 = [] ∧ F.2.1 = t) : GM l mX11_last F 0 0 51 [(0, (3, v0)), (3, (0, v3))] [(0, s0)] μ := by
  unfold jX11_last_51 at h
  refine GM_istore_n (L' := [(2, (0, s0)), (0, (3, v0)), (3, (0, v3))]) (pc := 51) (daX11_last_0 31 rfl) rfl (Nat.le_of_ble_eq_true rfl) rfl ?_
  refine GM_iconst (pc := 52) 0 (daX11_last_0 32 rfl) rfl (R32_b rfl) ?_
  refine GM_istore (L' := [(4, (0, 0)), (2, (0, s0)), (0, (3, v0)), (3, (0, v3))]) (pc := 53) (daX11_last_0 33 rfl) (Nat.le_of_ble_eq_true rfl) rfl ?_
  refine GM_pick [2, 1, 3, 0] rfl ?_
  obtain ⟨x11, hqx11, h⟩ := Option.bind_eq_some_iff.mp h
  refine lop_ind (zX11_last_55 l F v0 v3 μ 0 0) (qX11_last_55 l F v0 v3 μ 0 0) FU _ x11 hqx11 ?_
  obtain ⟨v2_12, hqq⟩ : ∃ z, z = x11 := ⟨x11, rfl⟩
  subst hqq
  show GM l mX11_last F 0 0 108 [(0, (3, v0)), (2, (0, v2_12))] [] μ
  exact gX11_last_108 l h hK
set_option maxRecDepth 20000 in
theorem gX11_last_19 (l : Launch) {F : FI} {v0 v1 s0 : Int} {μ : Mm} {t : Mm} (h : jX11_last_19 v0 v1 s0 μ = some t) (hK : F.1 = [] ∧ F.2.1 = t) : GM l mX11_last F 0 0 19 [(0, (3, v0)), (1, (0, v1))] [(0, s0)] μ := by
  unfold jX11_last_19 at h
  refine GM_istore_n (L' := [(2, (0, s0)), (0, (3, v0)), (1, (0, v1))]) (pc := 19) (daX11_last_0 11 rfl) rfl (Nat.le_of_ble_eq_true rfl) rfl ?_
  refine GM_iload_n (pc := 20) 2 rfl (daX11_last_0 12 rfl) rfl ?_
  refine GM_if_ne (pc := 21) 108 (daX11_last_0 13 rfl) rfl (fun c13 => ?_) (fun c13 => ?_)
  · skip
    rw [if_neg c13] at h
    refine GM_pick [1, 0] rfl ?_
    exact gX11_last_108 l h hK
  · skip
    rw [if_pos c13] at h
    refine GM_aload_n (pc := 24) 1 rfl (daX11_last_0 14 rfl) rfl ?_
    obtain ⟨hc14, h⟩ := chk_inv h
    refine GM_getf (pc := 25) 11 13 3 13 kf_X11_23 (Nat.le_of_ble_eq_true rfl) (Nat.le_of_ble_eq_true rfl) rfl (daX11_last_0 15 rfl) hc14 rfl ?_
    refine GM_iconst (pc := 28) 0 (daX11_last_0 16 rfl) rfl (R32_b rfl) ?_
    obtain ⟨hc15, h⟩ := chk_inv h
    refine GM_iald (pc := 29) (daX11_last_0 17 rfl) hc15.1 (by decide) hc15.2 ?_
    refine GM_aload_n (pc := 30) 1 rfl (daX11_last_0 18 rfl) rfl ?_
    refine GM_getf (pc := 31) 11 13 3 13 kf_X11_23 (Nat.le_of_ble_eq_true rfl) (Nat.le_of_ble_eq_true rfl) rfl (daX11_last_0 19 rfl) hc14 rfl ?_
    refine GM_iconst (pc := 34) 1 (daX11_last_0 20 rfl) rfl (R32_b rfl) ?_
    obtain ⟨hc16, h⟩ := chk_inv h
    refine GM_iald (pc := 35) (daX11_last_0 21 rfl) hc15.1 (by decide) hc16 ?_
    refine GM_imul (pc := 36) (daX11_last_0 22 rfl) ?_
    obtain ⟨y17, hy17, h⟩ := lt_inv h
    refine GM_top hy17 ?_
    refine GM_istore_n (L' := [(3, (0, y17)), (2, (0, s0)), (0, (3, v0)), (1, (0, v1))]) (pc := 37) (daX11_last_0 23 rfl) rfl (Nat.le_of_ble_eq_true rfl) rfl ?_
    refine GM_aload_n (pc := 38) 2 rfl (daX11_last_0 24 rfl) rfl ?_
    refine GM_getf (pc := 39) 11 12 0 12 kf_X11_157 (Nat.le_of_ble_eq_true rfl) (Nat.le_of_ble_eq_true rfl) rfl (daX11_last_0 25 rfl) hc14 rfl ?_
    refine GM_iload_n (pc := 42) 0 rfl (daX11_last_0 26 rfl) rfl ?_
    refine GM_icmp_le (pc := 43) 50 (daX11_last_0 27 rfl) rfl (fun c18 => ?_) (fun c18 => ?_)
    · skip
      rw [if_pos c18] at h
      refine GM_iconst (pc := 50) 0 (daX11_last_0 30 rfl) rfl (R32_b rfl) ?_
      refine GM_pick [2, 0] rfl ?_
      exact gX11_last_51 l h hK
    · skip
      rw [if_neg c18] at h
      refine GM_iconst (pc := 46) 1 (daX11_last_0 28 rfl) rfl (R32_b rfl) ?_
      refine GM_goto (pc := 47) 51 (daX11_last_0 29 rfl) rfl ?_
      refine GM_pick [2, 0] rfl ?_
      exact gX11_last_51 l h hK
set_option maxRecDepth 20000 in
theorem gX11_last_18 (l : Launch) {F : FI} {v0 v1 : Int} {μ : Mm} {t : Mm} (h : jX11_last_18 v0 v1 μ = some t) (hK : F.1 = [] ∧ F.2.1 = t) : GM l mX11_last F 0 0 18 [(0, (3, v0)), (1, (0, v1))] [] μ := by
  unfold jX11_last_18 at h
  refine GM_iconst (pc := 18) 0 (daX11_last_0 10 rfl) rfl (R32_b rfl) ?_
  exact gX11_last_19 l h hK
set_option maxRecDepth 20000 in
theorem gX11_last_0 (l : Launch) {F : FI} {v0 v1 : Int} {μ : Mm} {t : Mm} (h : fX11_last v0 v1 μ = some t) (hK : F.1 = [] ∧ F.2.1 = t) : GM l mX11_last F 0 0 0 [(0, (3, v0)), (1, (0, v1))] [] μ := by
  unfold fX11_last at h
  refine GM_iload_n (pc := 0) 1 rfl (daX11_last_0 0 rfl) rfl ?_
  refine GM_iconst (pc := 1) 1 (daX11_last_0 1 rfl) rfl (R32_b rfl) ?_
  refine GM_icmp_ne (pc := 2) 18 (daX11_last_0 2 rfl) rfl (fun c19 => ?_) (fun c19 => ?_)
  · skip
    rw [if_neg c19] at h
    exact gX11_last_18 l h hK
  · skip
    rw [if_pos c19] at h
    refine GM_aload_n (pc := 5) 0 rfl (daX11_last_0 3 rfl) rfl ?_
    obtain ⟨hc20, h⟩ := chk_inv h
    refine GM_getf (pc := 6) 11 13 3 13 kf_X11_23 (Nat.le_of_ble_eq_true rfl) (Nat.le_of_ble_eq_true rfl) rfl (daX11_last_0 4 rfl) hc20 rfl ?_
    refine GM_iconst (pc := 9) 0 (daX11_last_0 5 rfl) rfl (R32_b rfl) ?_
    obtain ⟨hc21, h⟩ := chk_inv h
    refine GM_iald (pc := 10) (daX11_last_0 6 rfl) hc21.1 (by decide) hc21.2 ?_
    refine GM_if_ne (pc := 11) 18 (daX11_last_0 7 rfl) rfl (fun c22 => ?_) (fun c22 => ?_)
    · skip
      rw [if_neg c22] at h
      exact gX11_last_18 l h hK
    · skip
      rw [if_pos c22] at h
      refine GM_iconst (pc := 14) 1 (daX11_last_0 8 rfl) rfl (R32_b rfl) ?_
      refine GM_goto (pc := 15) 19 (daX11_last_0 9 rfl) rfl ?_
      exact gX11_last_19 l h hK
theorem tX11_last (l : Launch) {v0 v1 : Int} {μ : Mm} {t : Mm} (h : fX11_last v0 v1 μ = some t) : Ct l yX11_last mX11_last [(3, v0), (0, v1)] μ ([], t, 0, 0) :=
  Ct_of (by decide +kernel) rfl rfl (Nat.le_of_ble_eq_true rfl) (fun _ _ _ => trivial) (gX11_last_0 l h ⟨rfl, rfl⟩)
def mX11_text : MI := (RX11, cX11_text, 6, (some .int), "text", 6, 138, fun _ _ _ => True)
theorem cwX11_text : CWd yX11_text mX11_text 2 := ⟨ki_X11, kk_X11_text, ⟨by decide, by decide⟩, rfl⟩
def dtX11_text_0 : List (Nat × Instr × Nat) := [(0, .aload_n 0, 1), (1, .aload_n 0, 1), (2, .getfield 7, 3), (5, .iconst 2, 1), (6, .iaload, 1), (7, .putfield 85, 3), (10, .aload_n 0, 1), (11, .getfield 7, 3), (14, .iconst 2, 1), (15, .iconst 0, 1), (16, .iastore, 1), (17, .aload_n 0, 1), (18, .iconst 0, 1), (19, .putfield 108, 3), (22, .aload_n 0, 1), (23, .getfield 7, 3), (26, .iconst 3, 1), (27, .iconst 0, 1), (28, .iastore, 1), (29, .aload_n 0, 1), (30, .getfield 7, 3), (33, .iconst 4, 1), (34, .iconst (-1), 1), (35, .iastore, 1), (36, .aload_n 0, 1), (37, .iconst 0, 1), (38, .putfield 140, 3), (41, .iload_n 1, 1), (42, .iconst 0, 1), (43, .iconst 1, 1), (44, .invokestatic 147, 3), (47, .ifCond .eq 12, 3), (50, .aload_n 0, 1), (51, .iload_n 1, 1), (52, .iload_n 2, 1), (53, .invokevirtual 186, 3), (56, .ifCond .ne 6, 3), (59, .bipush (-2), 2), (61, .ireturn, 1), (62, .aload_n 0, 1), (63, .iload_n 1, 1), (64, .invokevirtual 189, 3), (67, .aload_n 0, 1), (68, .invokevirtual 154, 3), (71, .aload_n 0, 1), (72, .getfield 140, 3), (75, .ifCond .ne 28, 3), (78, .aload_n 0, 1), (79, .getfield 118, 3), (82, .ifCond .eq 21, 3), (85, .iload_n 1, 1), (86, .ifCond .ne 10, 3), (89, .aload_n 0, 1), (90, .invokevirtual 192, 3), (93, .goto (-22), 3), (96, .aload_n 0, 1), (97, .invokevirtual 195, 3), (100, .goto (-29), 3), (103, .aload_n 0, 1), (104, .getfield 7, 3), (107, .iconst 3, 1), (108, .iaload, 1), (109, .ifCond .ne 8, 3), (112, .aload_n 0, 1)]
theorem ddX11_text_0 : (dtX11_text_0.all fun e => decide (decode mX11_text.2.1 e.1 = .ok (e.2.1, e.2.2))) = true := by decide +kernel
theorem daX11_text_0 (j : Nat) {pc n : Nat} {i : Instr} (h : dtX11_text_0[j]? = some (pc, i, n)) : decode mX11_text.2.1 pc = .ok (i, n) := dec_of (c := mX11_text.2.1) ddX11_text_0 h
def dtX11_text_1 : List (Nat × Instr × Nat) := [(113, .iload_n 1, 1), (114, .invokevirtual 198, 3), (117, .aload_n 0, 1), (118, .getfield 7, 3), (121, .iconst 3, 1), (122, .iaload, 1), (123, .ifCond .eq 5, 3), (126, .iconst (-1), 1), (127, .ireturn, 1), (128, .aload_n 0, 1), (129, .iload_n 1, 1), (130, .iload_n 2, 1), (131, .invokevirtual 201, 3), (134, .istore_n 3, 1), (135, .iload_n 1, 1), (136, .ifCond .ne 9, 3), (139, .sipush 200, 3), (142, .goto 5, 3), (145, .bipush 32, 2), (147, .istore 4, 2), (149, .iconst 0, 1), (150, .istore 5, 2), (152, .iload 5, 2), (154, .iload 4, 2), (156, .if_icmp .ge 29, 3), (159, .aload_n 0, 1), (160, .getfield 7, 3), (163, .iload_n 1, 1), (164, .iload_n 3, 1), (165, .invokestatic 204, 3), (168, .iload 5, 2), (170, .iadd, 1), (171, .aload_n 0, 1), (172, .getfield 23, 3), (175, .iload 5, 2), (177, .iaload, 1), (178, .iastore, 1), (179, .iinc 5 1, 3), (182, .goto (-30), 3), (185, .iload_n 3, 1), (186, .ireturn, 1)]
theorem ddX11_text_1 : (dtX11_text_1.all fun e => decide (decode mX11_text.2.1 e.1 = .ok (e.2.1, e.2.2))) = true := by decide +kernel
theorem daX11_text_1 (j : Nat) {pc n : Nat} {i : Instr} (h : dtX11_text_1[j]? = some (pc, i, n)) : decode mX11_text.2.1 pc = .ok (i, n) := dec_of (c := mX11_text.2.1) ddX11_text_1 h
def zX11_text_71 (l : Launch) (F : FI) (v0 v1 v2 : Int) (k n : Nat) : Mm ⊕ Mm → Prop
  | .inl μ => GM l mX11_text F k n 71 [(0, (3, v0)), (1, (0, v1)), (2, (0, v2))] [] μ
  | .inr μ => GM l mX11_text F k n 103 [(0, (3, v0)), (1, (0, v1)), (2, (0, v2))] [] μ
def sX11_text_71 (v0 v1 v2 : Int) : Mm → Option (Mm ⊕ Mm) := fun μ =>
  chk (KD v0 = 11) (
  if μ v0 11 = 0 then
    if μ v0 8 = 0 then
      some (.inr μ)
    else
      if v1 = 0 then
        (fX11_landLine v0 μ).bind fun μ6 =>
        some (.inl μ6)
      else
        (fX11_sketchLine v0 μ).bind fun μ5 =>
        some (.inl μ5)
  else
    some (.inr μ))
def zX11_text_152 (l : Launch) (F : FI) (v0 v1 v3 v4 : Int) (k n : Nat) : (Int × Mm) ⊕ Mm → Prop
  | .inl (v5, μ) => GM l mX11_text F k n 152 [(0, (3, v0)), (1, (0, v1)), (3, (0, v3)), (4, (0, v4)), (5, (0, v5))] [] μ
  | .inr μ => GM l mX11_text F k n 185 [(3, (0, v3))] [] μ
def sX11_text_152 (v0 v1 v3 v4 : Int) : (Int × Mm) → Option ((Int × Mm) ⊕ Mm) := fun (v5, μ) =>
  if v4 ≤ v5 then
    some (.inr μ)
  else
    chk (KD v0 = 11) (
    (fX11_placeOf v1 v3).bind fun r9 =>
    chk (KD (μ v0 13) = 12 ∧ 0 ≤ v5 ∧ v5 < LN (μ v0 13)) (
    chk (KD (μ v0 0) = 12 ∧ 0 ≤ w32 (r9 + v5) ∧ w32 (r9 + v5) < LN (μ v0 0)) (
    lm (mst μ (μ v0 0) (w32 (r9 + v5)) (μ (μ v0 13) v5)) fun μ12 =>
    some (.inl (w32 (v5 + 1), μ12)))))
def jX11_text_147 (v0 v1 v3 s0 : Int) (μ : Mm) : Option (Int × Mm) :=
  (lop (sX11_text_152 v0 v1 v3 s0) FU (0, μ)).bind fun μ_14 =>
    some (v3, μ_14)
def jX11_text_117 (v0 v1 v2 : Int) (μ : Mm) : Option (Int × Mm) :=
  chk (KD v0 = 11) (
  chk (KD (μ v0 0) = 12 ∧ 3 < LN (μ v0 0)) (
  if μ (μ v0 0) 3 = 0 then
    (fX11_keeps v0 v1 v2 μ).bind fun (r18, μ18) =>
    if v1 = 0 then
      jX11_text_147 v0 v1 r18 200 μ18
    else
      jX11_text_147 v0 v1 r18 32 μ18
  else
    some ((-1), μ)))
def fX11_text (v0 v1 v2 : Int) (μ : Mm) : Option (Int × Mm) :=
  chk (KD v0 = 11) (
  chk (KD (μ v0 0) = 12 ∧ 2 < LN (μ v0 0)) (
  lm (mst μ v0 5 (μ (μ v0 0) 2)) fun μ22 =>
  chk (KD (μ22 v0 0) = 12 ∧ 2 < LN (μ22 v0 0)) (
  lm (mst μ22 (μ22 v0 0) 2 0) fun μ24 =>
  lm (mst μ24 v0 6 0) fun μ25 =>
  chk (KD (μ25 v0 0) = 12 ∧ 3 < LN (μ25 v0 0)) (
  lm (mst μ25 (μ25 v0 0) 3 0) fun μ27 =>
  chk (KD (μ27 v0 0) = 12 ∧ 4 < LN (μ27 v0 0)) (
  lm (mst μ27 (μ27 v0 0) 4 (-1)) fun μ29 =>
  lm (mst μ29 v0 11 0) fun μ30 =>
  if isIn v1 0 1 = 0 then
    some ((-2), μ30)
  else
    (fX11_isFree v0 v1 v2 μ30).bind fun r32 =>
    if r32 = 0 then
      some ((-2), μ30)
    else
      (fX11_begins v0 v1 μ30).bind fun μ34 =>
      (fX11_advance v0 μ34).bind fun μ35 =>
      (lop (sX11_text_71 v0 v1 v2) FU μ35).bind fun μ_37 =>
        chk (KD (μ_37 v0 0) = 12 ∧ 3 < LN (μ_37 v0 0)) (
        if μ_37 (μ_37 v0 0) 3 = 0 then
          (fX11_last v0 v1 μ_37).bind fun μ40 =>
          jX11_text_117 v0 v1 v2 μ40
        else
          jX11_text_117 v0 v1 v2 μ_37))))))
set_option maxRecDepth 20000 in
theorem qX11_text_71 (l : Launch) (F : FI) (v0 v1 v2 : Int) (k n : Nat) : ∀ (q : Mm) (t : (Mm ⊕ Mm)), sX11_text_71 v0 v1 v2 q = some t → zX11_text_71 l F v0 v1 v2 k n t → zX11_text_71 l F v0 v1 v2 k n (.inl q) := by
  intro q t h hK
  obtain ⟨μ, hqq⟩ : ∃ z, z = q := ⟨q, rfl⟩
  subst hqq
  unfold sX11_text_71 at h
  try dsimp only at h
  show GM l mX11_text F k n 71 [(0, (3, v0)), (1, (0, v1)), (2, (0, v2))] [] μ
  refine GM_aload_n (pc := 71) 0 rfl (daX11_text_0 44 rfl) rfl ?_
  obtain ⟨hc1, h⟩ := chk_inv h
  refine GM_getf (pc := 72) 11 11 0 11 kf_X11_140 (Nat.le_of_ble_eq_true rfl) (Nat.le_of_ble_eq_true rfl) rfl (daX11_text_0 45 rfl) hc1 rfl ?_
  refine GM_if_ne (pc := 75) 103 (daX11_text_0 46 rfl) rfl (fun c2 => ?_) (fun c2 => ?_)
  · skip
    rw [if_neg c2] at h
    cases h
    exact hK
  · skip
    rw [if_pos c2] at h
    refine GM_aload_n (pc := 78) 0 rfl (daX11_text_0 47 rfl) rfl ?_
    refine GM_getf (pc := 79) 11 8 0 8 kf_X11_118 (Nat.le_of_ble_eq_true rfl) (Nat.le_of_ble_eq_true rfl) rfl (daX11_text_0 48 rfl) hc1 rfl ?_
    refine GM_if_eq (pc := 82) 103 (daX11_text_0 49 rfl) rfl (fun c3 => ?_) (fun c3 => ?_)
    · skip
      rw [if_pos c3] at h
      cases h
      exact hK
    · skip
      rw [if_neg c3] at h
      refine GM_iload_n (pc := 85) 1 rfl (daX11_text_0 50 rfl) rfl ?_
      refine GM_if_ne (pc := 86) 96 (daX11_text_0 51 rfl) rfl (fun c4 => ?_) (fun c4 => ?_)
      · skip
        rw [if_neg c4] at h
        refine GM_aload_n (pc := 96) 0 rfl (daX11_text_0 55 rfl) rfl ?_
        obtain ⟨μ5, hf5, h⟩ := Option.bind_eq_some_iff.mp h
        refine GM_callV0 (pc := 97) [] (tX11_sketchLine l hf5) cwX11_sketchLine 11 (Nat.le_of_ble_eq_true rfl) rfl kv_X11_sketchLine ke_X11_sketchLine km_X11_195 hc1 ⟨Nat.le_of_ble_eq_true rfl, Nat.le_of_ble_eq_true rfl⟩ (Nat.le_of_ble_eq_true rfl) (Nat.le_of_ble_eq_true rfl) (daX11_text_0 56 rfl) ?_
        refine GM_goto (pc := 100) 71 (daX11_text_0 57 rfl) rfl ?_
        cases h
        exact hK
      · skip
        rw [if_pos c4] at h
        refine GM_aload_n (pc := 89) 0 rfl (daX11_text_0 52 rfl) rfl ?_
        obtain ⟨μ6, hf6, h⟩ := Option.bind_eq_some_iff.mp h
        refine GM_callV0 (pc := 90) [] (tX11_landLine l hf6) cwX11_landLine 11 (Nat.le_of_ble_eq_true rfl) rfl kv_X11_landLine ke_X11_landLine km_X11_192 hc1 ⟨Nat.le_of_ble_eq_true rfl, Nat.le_of_ble_eq_true rfl⟩ (Nat.le_of_ble_eq_true rfl) (Nat.le_of_ble_eq_true rfl) (daX11_text_0 53 rfl) ?_
        refine GM_goto (pc := 93) 71 (daX11_text_0 54 rfl) rfl ?_
        cases h
        exact hK
set_option maxRecDepth 20000 in
theorem qX11_text_152 (l : Launch) (F : FI) (v0 v1 v3 v4 : Int) (k n : Nat) : ∀ (q : (Int × Mm)) (t : ((Int × Mm) ⊕ Mm)), sX11_text_152 v0 v1 v3 v4 q = some t → zX11_text_152 l F v0 v1 v3 v4 k n t → zX11_text_152 l F v0 v1 v3 v4 k n (.inl q) := by
  intro q t h hK
  obtain ⟨v5, μ⟩ := q
  unfold sX11_text_152 at h
  try dsimp only at h
  show GM l mX11_text F k n 152 [(0, (3, v0)), (1, (0, v1)), (3, (0, v3)), (4, (0, v4)), (5, (0, v5))] [] μ
  refine GM_iload (pc := 152) 4 rfl (daX11_text_1 22 rfl) ?_
  refine GM_iload (pc := 154) 3 rfl (daX11_text_1 23 rfl) ?_
  refine GM_icmp_ge (pc := 156) 185 (daX11_text_1 24 rfl) rfl (fun c7 => ?_) (fun c7 => ?_)
  · skip
    rw [if_pos c7] at h
    refine GM_pick [2] rfl ?_
    cases h
    exact hK
  · skip
    rw [if_neg c7] at h
    refine GM_aload_n (pc := 159) 0 rfl (daX11_text_1 25 rfl) rfl ?_
    obtain ⟨hc8, h⟩ := chk_inv h
    refine GM_getf (pc := 160) 11 0 3 0 kf_X11_7 (Nat.le_of_ble_eq_true rfl) (Nat.le_of_ble_eq_true rfl) rfl (daX11_text_1 26 rfl) hc8 rfl ?_
    refine GM_iload_n (pc := 163) 1 rfl (daX11_text_1 27 rfl) rfl ?_
    refine GM_iload_n (pc := 164) 2 rfl (daX11_text_1 28 rfl) rfl ?_
    obtain ⟨r9, hf9, h⟩ := Option.bind_eq_some_iff.mp h
    refine GM_callS0 (pc := 165) [(0, v1), (0, v3)] (tX11_placeOf l hf9) cwX11_placeOf ks_X11_placeOf km_X11_204 ⟨Nat.le_of_ble_eq_true rfl, Nat.le_of_ble_eq_true rfl⟩ (Nat.le_of_ble_eq_true rfl) (Nat.le_of_ble_eq_true rfl) (daX11_text_1 29 rfl) ?_
    refine GM_iload (pc := 168) 4 rfl (daX11_text_1 30 rfl) ?_
    refine GM_iadd (pc := 170) (daX11_text_1 31 rfl) ?_
    refine GM_aload_n (pc := 171) 0 rfl (daX11_text_1 32 rfl) rfl ?_
    refine GM_getf (pc := 172) 11 13 3 13 kf_X11_23 (Nat.le_of_ble_eq_true rfl) (Nat.le_of_ble_eq_true rfl) rfl (daX11_text_1 33 rfl) hc8 rfl ?_
    refine GM_iload (pc := 175) 4 rfl (daX11_text_1 34 rfl) ?_
    obtain ⟨hc10, h⟩ := chk_inv h
    refine GM_iald (pc := 177) (daX11_text_1 35 rfl) hc10.1 hc10.2.1 hc10.2.2 ?_
    obtain ⟨hc11, h⟩ := chk_inv h
    obtain ⟨μ12, hμ12, h⟩ := lm_inv h
    refine GM_iast (pc := 178) (daX11_text_1 36 rfl) hc11.1 hc11.2.1 hc11.2.2 ?_
    refine GM_mem hμ12 ?_
    refine GM_iinc (L' := [(5, (0, w32 (v5 + 1))), (0, (3, v0)), (1, (0, v1)), (3, (0, v3)), (4, (0, v4))]) (pc := 179) 4 rfl (daX11_text_1 37 rfl) (Nat.le_of_ble_eq_true rfl) rfl ?_
    refine GM_goto (pc := 182) 152 (daX11_text_1 38 rfl) rfl ?_
    refine GM_pick [1, 2, 3, 4, 0] rfl ?_
    cases h
    exact hK
set_option maxRecDepth 20000 in
theorem gX11_text_147 (l : Launch) {F : FI} {v0 v1 v3 s0 : Int} {μ : Mm} {t : (Int × Mm)} (h : jX11_text_147 v0 v1 v3 s0 μ = some t) (hK : F.1 = [(0, t.1)] ∧ F.2.1 = t.2) : GM l mX11_text F 0 0 147 [(0, (3, v0)), (1, (0, v1)), (3, (0, v3))] [(0, s0)] μ := by
  unfold jX11_text_147 at h
  refine GM_istore (L' := [(4, (0, s0)), (0, (3, v0)), (1, (0, v1)), (3, (0, v3))]) (pc := 147) (daX11_text_1 19 rfl) (Nat.le_of_ble_eq_true rfl) rfl ?_
  refine GM_iconst (pc := 149) 0 (daX11_text_1 20 rfl) rfl (R32_b rfl) ?_
  refine GM_istore (L' := [(5, (0, 0)), (4, (0, s0)), (0, (3, v0)), (1, (0, v1)), (3, (0, v3))]) (pc := 150) (daX11_text_1 21 rfl) (Nat.le_of_ble_eq_true rfl) rfl ?_
  refine GM_pick [2, 3, 4, 1, 0] rfl ?_
  obtain ⟨x13, hqx13, h⟩ := Option.bind_eq_some_iff.mp h
  refine lop_ind (zX11_text_152 l F v0 v1 v3 s0 0 0) (qX11_text_152 l F v0 v1 v3 s0 0 0) FU _ x13 hqx13 ?_
  obtain ⟨μ_14, hqq⟩ : ∃ z, z = x13 := ⟨x13, rfl⟩
  subst hqq
  show GM l mX11_text F 0 0 185 [(3, (0, v3))] [] μ_14
  refine GM_iload_n (pc := 185) 0 rfl (daX11_text_1 39 rfl) rfl ?_
  cases h
  exact GM_iret (pc := 186) (daX11_text_1 40 rfl) rfl hK
set_option maxRecDepth 20000 in
theorem gX11_text_117 (l : Launch) {F : FI} {v0 v1 v2 : Int} {μ : Mm} {t : (Int × Mm)} (h : jX11_text_117 v0 v1 v2 μ = some t) (hK : F.1 = [(0, t.1)] ∧ F.2.1 = t.2) : GM l mX11_text F 0 0 117 [(0, (3, v0)), (1, (0, v1)), (2, (0, v2))] [] μ := by
  unfold jX11_text_117 at h
  refine GM_aload_n (pc := 117) 0 rfl (daX11_text_1 2 rfl) rfl ?_
  obtain ⟨hc15, h⟩ := chk_inv h
  refine GM_getf (pc := 118) 11 0 3 0 kf_X11_7 (Nat.le_of_ble_eq_true rfl) (Nat.le_of_ble_eq_true rfl) rfl (daX11_text_1 3 rfl) hc15 rfl ?_
  refine GM_iconst (pc := 121) 3 (daX11_text_1 4 rfl) rfl (R32_b rfl) ?_
  obtain ⟨hc16, h⟩ := chk_inv h
  refine GM_iald (pc := 122) (daX11_text_1 5 rfl) hc16.1 (by decide) hc16.2 ?_
  refine GM_if_eq (pc := 123) 128 (daX11_text_1 6 rfl) rfl (fun c17 => ?_) (fun c17 => ?_)
  · skip
    rw [if_pos c17] at h
    refine GM_aload_n (pc := 128) 0 rfl (daX11_text_1 9 rfl) rfl ?_
    refine GM_iload_n (pc := 129) 1 rfl (daX11_text_1 10 rfl) rfl ?_
    refine GM_iload_n (pc := 130) 2 rfl (daX11_text_1 11 rfl) rfl ?_
    obtain ⟨⟨r18, μ18⟩, hf18, h⟩ := Option.bind_eq_some_iff.mp h
    dsimp only at h
    refine GM_callV0 (pc := 131) [(0, v1), (0, v2)] (tX11_keeps l hf18) cwX11_keeps 11 (Nat.le_of_ble_eq_true rfl) rfl kv_X11_keeps ke_X11_keeps km_X11_201 hc15 ⟨Nat.le_of_ble_eq_true rfl, Nat.le_of_ble_eq_true rfl⟩ (Nat.le_of_ble_eq_true rfl) (Nat.le_of_ble_eq_true rfl) (daX11_text_1 12 rfl) ?_
    refine GM_istore_n (L' := [(3, (0, r18)), (0, (3, v0)), (1, (0, v1)), (2, (0, v2))]) (pc := 134) (daX11_text_1 13 rfl) rfl (Nat.le_of_ble_eq_true rfl) rfl ?_
    refine GM_iload_n (pc := 135) 2 rfl (daX11_text_1 14 rfl) rfl ?_
    refine GM_if_ne (pc := 136) 145 (daX11_text_1 15 rfl) rfl (fun c19 => ?_) (fun c19 => ?_)
    · skip
      rw [if_neg c19] at h
      refine GM_bipush (pc := 145) 32 (daX11_text_1 18 rfl) rfl (R32_b rfl) ?_
      refine GM_pick [1, 2, 0] rfl ?_
      exact gX11_text_147 l h hK
    · skip
      rw [if_pos c19] at h
      refine GM_sipush (pc := 139) 200 (daX11_text_1 16 rfl) rfl (R32_b rfl) ?_
      refine GM_goto (pc := 142) 147 (daX11_text_1 17 rfl) rfl ?_
      refine GM_pick [1, 2, 0] rfl ?_
      exact gX11_text_147 l h hK
  · skip
    rw [if_neg c17] at h
    refine GM_iconst (pc := 126) (-1) (daX11_text_1 7 rfl) rfl (R32_b rfl) ?_
    cases h
    exact GM_iret (pc := 127) (daX11_text_1 8 rfl) rfl hK
set_option maxRecDepth 20000 in
theorem gX11_text_0 (l : Launch) {F : FI} {v0 v1 v2 : Int} {μ : Mm} {t : (Int × Mm)} (h : fX11_text v0 v1 v2 μ = some t) (hK : F.1 = [(0, t.1)] ∧ F.2.1 = t.2) : GM l mX11_text F 0 0 0 [(0, (3, v0)), (1, (0, v1)), (2, (0, v2))] [] μ := by
  unfold fX11_text at h
  refine GM_aload_n (pc := 0) 0 rfl (daX11_text_0 0 rfl) rfl ?_
  refine GM_aload_n (pc := 1) 0 rfl (daX11_text_0 1 rfl) rfl ?_
  obtain ⟨hc20, h⟩ := chk_inv h
  refine GM_getf (pc := 2) 11 0 3 0 kf_X11_7 (Nat.le_of_ble_eq_true rfl) (Nat.le_of_ble_eq_true rfl) rfl (daX11_text_0 2 rfl) hc20 rfl ?_
  refine GM_iconst (pc := 5) 2 (daX11_text_0 3 rfl) rfl (R32_b rfl) ?_
  obtain ⟨hc21, h⟩ := chk_inv h
  refine GM_iald (pc := 6) (daX11_text_0 4 rfl) hc21.1 (by decide) hc21.2 ?_
  obtain ⟨μ22, hμ22, h⟩ := lm_inv h
  refine GM_putf (pc := 7) 11 5 0 kf_X11_85 (Nat.le_of_ble_eq_true rfl) (Nat.le_of_ble_eq_true rfl) rfl rfl (daX11_text_0 5 rfl) hc20 (fun q => absurd q (by decide)) ?_
  refine GM_mem hμ22 ?_
  refine GM_aload_n (pc := 10) 0 rfl (daX11_text_0 6 rfl) rfl ?_
  refine GM_getf (pc := 11) 11 0 3 0 kf_X11_7 (Nat.le_of_ble_eq_true rfl) (Nat.le_of_ble_eq_true rfl) rfl (daX11_text_0 7 rfl) hc20 rfl ?_
  refine GM_iconst (pc := 14) 2 (daX11_text_0 8 rfl) rfl (R32_b rfl) ?_
  refine GM_iconst (pc := 15) 0 (daX11_text_0 9 rfl) rfl (R32_b rfl) ?_
  obtain ⟨hc23, h⟩ := chk_inv h
  obtain ⟨μ24, hμ24, h⟩ := lm_inv h
  refine GM_iast (pc := 16) (daX11_text_0 10 rfl) hc23.1 (by decide) hc23.2 ?_
  refine GM_mem hμ24 ?_
  refine GM_aload_n (pc := 17) 0 rfl (daX11_text_0 11 rfl) rfl ?_
  refine GM_iconst (pc := 18) 0 (daX11_text_0 12 rfl) rfl (R32_b rfl) ?_
  obtain ⟨μ25, hμ25, h⟩ := lm_inv h
  refine GM_putf (pc := 19) 11 6 0 kf_X11_108 (Nat.le_of_ble_eq_true rfl) (Nat.le_of_ble_eq_true rfl) rfl rfl (daX11_text_0 13 rfl) hc20 (fun q => absurd q (by decide)) ?_
  refine GM_mem hμ25 ?_
  refine GM_aload_n (pc := 22) 0 rfl (daX11_text_0 14 rfl) rfl ?_
  refine GM_getf (pc := 23) 11 0 3 0 kf_X11_7 (Nat.le_of_ble_eq_true rfl) (Nat.le_of_ble_eq_true rfl) rfl (daX11_text_0 15 rfl) hc20 rfl ?_
  refine GM_iconst (pc := 26) 3 (daX11_text_0 16 rfl) rfl (R32_b rfl) ?_
  refine GM_iconst (pc := 27) 0 (daX11_text_0 17 rfl) rfl (R32_b rfl) ?_
  obtain ⟨hc26, h⟩ := chk_inv h
  obtain ⟨μ27, hμ27, h⟩ := lm_inv h
  refine GM_iast (pc := 28) (daX11_text_0 18 rfl) hc26.1 (by decide) hc26.2 ?_
  refine GM_mem hμ27 ?_
  refine GM_aload_n (pc := 29) 0 rfl (daX11_text_0 19 rfl) rfl ?_
  refine GM_getf (pc := 30) 11 0 3 0 kf_X11_7 (Nat.le_of_ble_eq_true rfl) (Nat.le_of_ble_eq_true rfl) rfl (daX11_text_0 20 rfl) hc20 rfl ?_
  refine GM_iconst (pc := 33) 4 (daX11_text_0 21 rfl) rfl (R32_b rfl) ?_
  refine GM_iconst (pc := 34) (-1) (daX11_text_0 22 rfl) rfl (R32_b rfl) ?_
  obtain ⟨hc28, h⟩ := chk_inv h
  obtain ⟨μ29, hμ29, h⟩ := lm_inv h
  refine GM_iast (pc := 35) (daX11_text_0 23 rfl) hc28.1 (by decide) hc28.2 ?_
  refine GM_mem hμ29 ?_
  refine GM_aload_n (pc := 36) 0 rfl (daX11_text_0 24 rfl) rfl ?_
  refine GM_iconst (pc := 37) 0 (daX11_text_0 25 rfl) rfl (R32_b rfl) ?_
  obtain ⟨μ30, hμ30, h⟩ := lm_inv h
  refine GM_putf (pc := 38) 11 11 0 kf_X11_140 (Nat.le_of_ble_eq_true rfl) (Nat.le_of_ble_eq_true rfl) rfl rfl (daX11_text_0 26 rfl) hc20 (fun _ => Or.inl rfl) ?_
  refine GM_mem hμ30 ?_
  refine GM_iload_n (pc := 41) 1 rfl (daX11_text_0 27 rfl) rfl ?_
  refine GM_iconst (pc := 42) 0 (daX11_text_0 28 rfl) rfl (R32_b rfl) ?_
  refine GM_iconst (pc := 43) 1 (daX11_text_0 29 rfl) rfl (R32_b rfl) ?_
  refine GM_callS0 (pc := 44) [(0, v1), (0, 0), (0, 1)] (tX11_isIn l (fX11_isIn_eq v1 0 1)) cwX11_isIn ks_X11_isIn km_X11_147 ⟨Nat.le_of_ble_eq_true rfl, Nat.le_of_ble_eq_true rfl⟩ (Nat.le_of_ble_eq_true rfl) (Nat.le_of_ble_eq_true rfl) (daX11_text_0 30 rfl) ?_
  refine GM_if_eq (pc := 47) 59 (daX11_text_0 31 rfl) rfl (fun c31 => ?_) (fun c31 => ?_)
  · skip
    rw [if_pos c31] at h
    refine GM_bipush (pc := 59) (-2) (daX11_text_0 37 rfl) rfl (R32_b rfl) ?_
    cases h
    exact GM_iret (pc := 61) (daX11_text_0 38 rfl) rfl hK
  · skip
    rw [if_neg c31] at h
    refine GM_aload_n (pc := 50) 0 rfl (daX11_text_0 32 rfl) rfl ?_
    refine GM_iload_n (pc := 51) 1 rfl (daX11_text_0 33 rfl) rfl ?_
    refine GM_iload_n (pc := 52) 2 rfl (daX11_text_0 34 rfl) rfl ?_
    obtain ⟨r32, hf32, h⟩ := Option.bind_eq_some_iff.mp h
    refine GM_callV0 (pc := 53) [(0, v1), (0, v2)] (tX11_isFree l hf32) cwX11_isFree 11 (Nat.le_of_ble_eq_true rfl) rfl kv_X11_isFree ke_X11_isFree km_X11_186 hc20 ⟨Nat.le_of_ble_eq_true rfl, Nat.le_of_ble_eq_true rfl⟩ (Nat.le_of_ble_eq_true rfl) (Nat.le_of_ble_eq_true rfl) (daX11_text_0 35 rfl) ?_
    refine GM_if_ne (pc := 56) 62 (daX11_text_0 36 rfl) rfl (fun c33 => ?_) (fun c33 => ?_)
    · skip
      rw [if_neg c33] at h
      refine GM_aload_n (pc := 62) 0 rfl (daX11_text_0 39 rfl) rfl ?_
      refine GM_iload_n (pc := 63) 1 rfl (daX11_text_0 40 rfl) rfl ?_
      obtain ⟨μ34, hf34, h⟩ := Option.bind_eq_some_iff.mp h
      refine GM_callV0 (pc := 64) [(0, v1)] (tX11_begins l hf34) cwX11_begins 11 (Nat.le_of_ble_eq_true rfl) rfl kv_X11_begins ke_X11_begins km_X11_189 hc20 ⟨Nat.le_of_ble_eq_true rfl, Nat.le_of_ble_eq_true rfl⟩ (Nat.le_of_ble_eq_true rfl) (Nat.le_of_ble_eq_true rfl) (daX11_text_0 41 rfl) ?_
      refine GM_aload_n (pc := 67) 0 rfl (daX11_text_0 42 rfl) rfl ?_
      obtain ⟨μ35, hf35, h⟩ := Option.bind_eq_some_iff.mp h
      refine GM_callV0 (pc := 68) [] (tX11_advance l hf35) cwX11_advance 11 (Nat.le_of_ble_eq_true rfl) rfl kv_X11_advance ke_X11_advance km_X11_154 hc20 ⟨Nat.le_of_ble_eq_true rfl, Nat.le_of_ble_eq_true rfl⟩ (Nat.le_of_ble_eq_true rfl) (Nat.le_of_ble_eq_true rfl) (daX11_text_0 43 rfl) ?_
      obtain ⟨x36, hqx36, h⟩ := Option.bind_eq_some_iff.mp h
      refine lop_ind (zX11_text_71 l F v0 v1 v2 0 0) (qX11_text_71 l F v0 v1 v2 0 0) FU _ x36 hqx36 ?_
      obtain ⟨μ_37, hqq⟩ : ∃ z, z = x36 := ⟨x36, rfl⟩
      subst hqq
      show GM l mX11_text F 0 0 103 [(0, (3, v0)), (1, (0, v1)), (2, (0, v2))] [] μ_37
      refine GM_aload_n (pc := 103) 0 rfl (daX11_text_0 58 rfl) rfl ?_
      refine GM_getf (pc := 104) 11 0 3 0 kf_X11_7 (Nat.le_of_ble_eq_true rfl) (Nat.le_of_ble_eq_true rfl) rfl (daX11_text_0 59 rfl) hc20 rfl ?_
      refine GM_iconst (pc := 107) 3 (daX11_text_0 60 rfl) rfl (R32_b rfl) ?_
      obtain ⟨hc38, h⟩ := chk_inv h
      refine GM_iald (pc := 108) (daX11_text_0 61 rfl) hc38.1 (by decide) hc38.2 ?_
      refine GM_if_ne (pc := 109) 117 (daX11_text_0 62 rfl) rfl (fun c39 => ?_) (fun c39 => ?_)
      · skip
        rw [if_neg c39] at h
        exact gX11_text_117 l h hK
      · skip
        rw [if_pos c39] at h
        refine GM_aload_n (pc := 112) 0 rfl (daX11_text_0 63 rfl) rfl ?_
        refine GM_iload_n (pc := 113) 1 rfl (daX11_text_1 0 rfl) rfl ?_
        obtain ⟨μ40, hf40, h⟩ := Option.bind_eq_some_iff.mp h
        refine GM_callV0 (pc := 114) [(0, v1)] (tX11_last l hf40) cwX11_last 11 (Nat.le_of_ble_eq_true rfl) rfl kv_X11_last ke_X11_last km_X11_198 hc20 ⟨Nat.le_of_ble_eq_true rfl, Nat.le_of_ble_eq_true rfl⟩ (Nat.le_of_ble_eq_true rfl) (Nat.le_of_ble_eq_true rfl) (daX11_text_1 1 rfl) ?_
        exact gX11_text_117 l h hK
    · skip
      rw [if_pos c33] at h
      refine GM_bipush (pc := 59) (-2) (daX11_text_0 37 rfl) rfl (R32_b rfl) ?_
      cases h
      exact GM_iret (pc := 61) (daX11_text_0 38 rfl) rfl hK
theorem tX11_text (l : Launch) {v0 v1 v2 : Int} {μ : Mm} {t : (Int × Mm)} (h : fX11_text v0 v1 v2 μ = some t) : Ct l yX11_text mX11_text [(3, v0), (0, v1), (0, v2)] μ ([(0, t.1)], t.2, 0, 0) :=
  Ct_of (by decide +kernel) rfl rfl (Nat.le_of_ble_eq_true rfl) (fun _ _ _ => trivial) (gX11_text_0 l h ⟨rfl, rfl⟩)
