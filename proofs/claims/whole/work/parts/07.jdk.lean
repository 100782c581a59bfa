theorem kk_obj : Cond.code objectInit ⟨#[0xb1]⟩ 1 none ∈ Wt := memC1 29 rfl rfl
def mJ9_max_7cf53 : MI := (RJ9, cJ9_max_7cf53, 2, (some .int), "max", 0, 0, fun _ _ _ => True)
theorem cwJ9_max_7cf53 : CWd yJ9_max_7cf53 mJ9_max_7cf53 2 := ⟨ki_J9, kk_J9_max_7cf53, ⟨by decide, by decide⟩, rfl⟩
def dtJ9_max_7cf53_0 : List (Nat × Instr × Nat) := [(0, .iload_n 0, 1), (1, .iload_n 1, 1), (2, .if_icmp .lt 7, 3), (5, .iload_n 0, 1), (6, .goto 4, 3), (9, .iload_n 1, 1), (10, .ireturn, 1)]
theorem ddJ9_max_7cf53_0 : (dtJ9_max_7cf53_0.all fun e => decide (decode mJ9_max_7cf53.2.1 e.1 = .ok (e.2.1, e.2.2))) = true := by decide +kernel
theorem daJ9_max_7cf53_0 (j : Nat) {pc n : Nat} {i : Instr} (h : dtJ9_max_7cf53_0[j]? = some (pc, i, n)) : decode mJ9_max_7cf53.2.1 pc = .ok (i, n) := dec_of (c := mJ9_max_7cf53.2.1) ddJ9_max_7cf53_0 h
def fJ9_max_7cf53 (v0 v1 : Int) : Option Int :=
  if v0 < v1 then
    some v1
  else
    some v0
set_option maxRecDepth 20000 in
theorem gJ9_max_7cf53_0 (l : Launch) {F : FI} {v0 v1 : Int} {μ : Mm} {t : Int} (h : fJ9_max_7cf53 v0 v1 = some t) (hK : F.1 = [(0, t)] ∧ F.2.1 = μ) : GM l mJ9_max_7cf53 F 0 0 0 [(0, (0, v0)), (1, (0, v1))] [] μ := by
  unfold fJ9_max_7cf53 at h
  refine GM_iload_n (pc := 0) 0 rfl (daJ9_max_7cf53_0 0 rfl) rfl ?_
  refine GM_iload_n (pc := 1) 1 rfl (daJ9_max_7cf53_0 1 rfl) rfl ?_
  refine GM_icmp_lt (pc := 2) 9 (daJ9_max_7cf53_0 2 rfl) rfl (fun c1 => ?_) (fun c1 => ?_)
  · skip
    rw [if_pos c1] at h
    refine GM_iload_n (pc := 9) 1 rfl (daJ9_max_7cf53_0 5 rfl) rfl ?_
    cases h
    exact GM_iret (pc := 10) (daJ9_max_7cf53_0 6 rfl) rfl hK
  · skip
    rw [if_neg c1] at h
    refine GM_iload_n (pc := 5) 0 rfl (daJ9_max_7cf53_0 3 rfl) rfl ?_
    refine GM_goto (pc := 6) 10 (daJ9_max_7cf53_0 4 rfl) rfl ?_
    cases h
    exact GM_iret (pc := 10) (daJ9_max_7cf53_0 6 rfl) rfl hK
theorem tJ9_max_7cf53 (l : Launch) {v0 v1 : Int} {μ : Mm} {t : Int} (h : fJ9_max_7cf53 v0 v1 = some t) : Ct l yJ9_max_7cf53 mJ9_max_7cf53 [(0, v0), (0, v1)] μ ([(0, t)], μ, 0, 0) :=
  Ct_of (by decide +kernel) rfl rfl (Nat.le_of_ble_eq_true rfl) (fun _ _ _ => trivial) (gJ9_max_7cf53_0 l h ⟨rfl, rfl⟩)
def mJ9_min_7cf53 : MI := (RJ9, cJ9_min_7cf53, 2, (some .int), "min", 0, 0, fun _ _ _ => True)
theorem cwJ9_min_7cf53 : CWd yJ9_min_7cf53 mJ9_min_7cf53 2 := ⟨ki_J9, kk_J9_min_7cf53, ⟨by decide, by decide⟩, rfl⟩
def dtJ9_min_7cf53_0 : List (Nat × Instr × Nat) := [(0, .iload_n 0, 1), (1, .iload_n 1, 1), (2, .if_icmp .gt 7, 3), (5, .iload_n 0, 1), (6, .goto 4, 3), (9, .iload_n 1, 1), (10, .ireturn, 1)]
theorem ddJ9_min_7cf53_0 : (dtJ9_min_7cf53_0.all fun e => decide (decode mJ9_min_7cf53.2.1 e.1 = .ok (e.2.1, e.2.2))) = true := by decide +kernel
theorem daJ9_min_7cf53_0 (j : Nat) {pc n : Nat} {i : Instr} (h : dtJ9_min_7cf53_0[j]? = some (pc, i, n)) : decode mJ9_min_7cf53.2.1 pc = .ok (i, n) := dec_of (c := mJ9_min_7cf53.2.1) ddJ9_min_7cf53_0 h
def fJ9_min_7cf53 (v0 v1 : Int) : Option Int :=
  if v1 < v0 then
    some v1
  else
    some v0
set_option maxRecDepth 20000 in
theorem gJ9_min_7cf53_0 (l : Launch) {F : FI} {v0 v1 : Int} {μ : Mm} {t : Int} (h : fJ9_min_7cf53 v0 v1 = some t) (hK : F.1 = [(0, t)] ∧ F.2.1 = μ) : GM l mJ9_min_7cf53 F 0 0 0 [(0, (0, v0)), (1, (0, v1))] [] μ := by
  unfold fJ9_min_7cf53 at h
  refine GM_iload_n (pc := 0) 0 rfl (daJ9_min_7cf53_0 0 rfl) rfl ?_
  refine GM_iload_n (pc := 1) 1 rfl (daJ9_min_7cf53_0 1 rfl) rfl ?_
  refine GM_icmp_gt (pc := 2) 9 (daJ9_min_7cf53_0 2 rfl) rfl (fun c1 => ?_) (fun c1 => ?_)
  · skip
    rw [if_pos c1] at h
    refine GM_iload_n (pc := 9) 1 rfl (daJ9_min_7cf53_0 5 rfl) rfl ?_
    cases h
    exact GM_iret (pc := 10) (daJ9_min_7cf53_0 6 rfl) rfl hK
  · skip
    rw [if_neg c1] at h
    refine GM_iload_n (pc := 5) 0 rfl (daJ9_min_7cf53_0 3 rfl) rfl ?_
    refine GM_goto (pc := 6) 10 (daJ9_min_7cf53_0 4 rfl) rfl ?_
    cases h
    exact GM_iret (pc := 10) (daJ9_min_7cf53_0 6 rfl) rfl hK
theorem tJ9_min_7cf53 (l : Launch) {v0 v1 : Int} {μ : Mm} {t : Int} (h : fJ9_min_7cf53 v0 v1 = some t) : Ct l yJ9_min_7cf53 mJ9_min_7cf53 [(0, v0), (0, v1)] μ ([(0, t)], μ, 0, 0) :=
  Ct_of (by decide +kernel) rfl rfl (Nat.le_of_ble_eq_true rfl) (fun _ _ _ => trivial) (gJ9_min_7cf53_0 l h ⟨rfl, rfl⟩)
def mJ9_abs_0f7a4 : MI := (RJ9, cJ9_abs_0f7a4, 1, (some .int), "abs", 0, 0, fun _ _ _ => True)
theorem cwJ9_abs_0f7a4 : CWd yJ9_abs_0f7a4 mJ9_abs_0f7a4 1 := ⟨ki_J9, kk_J9_abs_0f7a4, ⟨by decide, by decide⟩, rfl⟩
def dtJ9_abs_0f7a4_0 : List (Nat × Instr × Nat) := [(0, .iload_n 0, 1), (1, .ifCond .ge 8, 3), (4, .iload_n 0, 1), (5, .ineg, 1), (6, .goto 4, 3), (9, .iload_n 0, 1), (10, .ireturn, 1)]
theorem ddJ9_abs_0f7a4_0 : (dtJ9_abs_0f7a4_0.all fun e => decide (decode mJ9_abs_0f7a4.2.1 e.1 = .ok (e.2.1, e.2.2))) = true := by decide +kernel
theorem daJ9_abs_0f7a4_0 (j : Nat) {pc n : Nat} {i : Instr} (h : dtJ9_abs_0f7a4_0[j]? = some (pc, i, n)) : decode mJ9_abs_0f7a4.2.1 pc = .ok (i, n) := dec_of (c := mJ9_abs_0f7a4.2.1) ddJ9_abs_0f7a4_0 h
def fJ9_abs_0f7a4 (v0 : Int) : Option Int :=
  if 0 ≤ v0 then
    some v0
  else
    some (w32 (-v0))
set_option maxRecDepth 20000 in
theorem gJ9_abs_0f7a4_0 (l : Launch) {F : FI} {v0 : Int} {μ : Mm} {t : Int} (h : fJ9_abs_0f7a4 v0 = some t) (hK : F.1 = [(0, t)] ∧ F.2.1 = μ) : GM l mJ9_abs_0f7a4 F 0 0 0 [(0, (0, v0))] [] μ := by
  unfold fJ9_abs_0f7a4 at h
  refine GM_iload_n (pc := 0) 0 rfl (daJ9_abs_0f7a4_0 0 rfl) rfl ?_
  refine GM_if_ge (pc := 1) 9 (daJ9_abs_0f7a4_0 1 rfl) rfl (fun c1 => ?_) (fun c1 => ?_)
  · skip
    rw [if_pos c1] at h
    refine GM_iload_n (pc := 9) 0 rfl (daJ9_abs_0f7a4_0 5 rfl) rfl ?_
    cases h
    exact GM_iret (pc := 10) (daJ9_abs_0f7a4_0 6 rfl) rfl hK
  · skip
    rw [if_neg c1] at h
    refine GM_iload_n (pc := 4) 0 rfl (daJ9_abs_0f7a4_0 2 rfl) rfl ?_
    refine GM_ineg (pc := 5) (daJ9_abs_0f7a4_0 3 rfl) ?_
    refine GM_goto (pc := 6) 10 (daJ9_abs_0f7a4_0 4 rfl) rfl ?_
    cases h
    exact GM_iret (pc := 10) (daJ9_abs_0f7a4_0 6 rfl) rfl hK
theorem tJ9_abs_0f7a4 (l : Launch) {v0 : Int} {μ : Mm} {t : Int} (h : fJ9_abs_0f7a4 v0 = some t) : Ct l yJ9_abs_0f7a4 mJ9_abs_0f7a4 [(0, v0)] μ ([(0, t)], μ, 0, 0) :=
  Ct_of (by decide +kernel) rfl rfl (Nat.le_of_ble_eq_true rfl) (fun _ _ _ => trivial) (gJ9_abs_0f7a4_0 l h ⟨rfl, rfl⟩)
def mJ9_abs_067f4 : MI := (RJ9, cJ9_abs_067f4, 2, (some .long), "abs", 0, 0, fun _ _ _ => True)
theorem cwJ9_abs_067f4 : CWd yJ9_abs_067f4 mJ9_abs_067f4 1 := ⟨ki_J9, kk_J9_abs_067f4, ⟨by decide, by decide⟩, rfl⟩
def dtJ9_abs_067f4_0 : List (Nat × Instr × Nat) := [(0, .lload_n 0, 1), (1, .lconst 0, 1), (2, .lcmp, 1), (3, .ifCond .ge 8, 3), (6, .lload_n 0, 1), (7, .lneg, 1), (8, .goto 4, 3), (11, .lload_n 0, 1), (12, .lreturn, 1)]
theorem ddJ9_abs_067f4_0 : (dtJ9_abs_067f4_0.all fun e => decide (decode mJ9_abs_067f4.2.1 e.1 = .ok (e.2.1, e.2.2))) = true := by decide +kernel
theorem daJ9_abs_067f4_0 (j : Nat) {pc n : Nat} {i : Instr} (h : dtJ9_abs_067f4_0[j]? = some (pc, i, n)) : decode mJ9_abs_067f4.2.1 pc = .ok (i, n) := dec_of (c := mJ9_abs_067f4.2.1) ddJ9_abs_067f4_0 h
def fJ9_abs_067f4 (v0 : Int) : Option Int :=
  if 0 ≤ v0 then
    some v0
  else
    some (w64 (-v0))
set_option maxRecDepth 20000 in
theorem gJ9_abs_067f4_0 (l : Launch) {F : FI} {v0 : Int} {μ : Mm} {t : Int} (h : fJ9_abs_067f4 v0 = some t) (hK : F.1 = [(2, t)] ∧ F.2.1 = μ) : GM l mJ9_abs_067f4 F 0 0 0 [(0, (2, v0))] [] μ := by
  unfold fJ9_abs_067f4 at h
  refine GM_lload_n (pc := 0) 0 rfl (daJ9_abs_067f4_0 0 rfl) rfl ?_
  refine GM_lconst (pc := 1) 0 (daJ9_abs_067f4_0 1 rfl) rfl (R64_b rfl) ?_
  refine GM_lcmp (pc := 2) (daJ9_abs_067f4_0 2 rfl) ?_
  refine GM_if_ge (pc := 3) 11 (daJ9_abs_067f4_0 3 rfl) rfl (fun c1 => ?_) (fun c1 => ?_)
  · skip
    have c1 := lcmp_ge.mp c1
    rw [if_pos c1] at h
    refine GM_lload_n (pc := 11) 0 rfl (daJ9_abs_067f4_0 7 rfl) rfl ?_
    cases h
    exact GM_lret (pc := 12) (daJ9_abs_067f4_0 8 rfl) rfl hK
  · skip
    have c1 := (not_congr lcmp_ge).mp c1
    rw [if_neg c1] at h
    refine GM_lload_n (pc := 6) 0 rfl (daJ9_abs_067f4_0 4 rfl) rfl ?_
    refine GM_lneg (pc := 7) (daJ9_abs_067f4_0 5 rfl) ?_
    refine GM_goto (pc := 8) 12 (daJ9_abs_067f4_0 6 rfl) rfl ?_
    cases h
    exact GM_lret (pc := 12) (daJ9_abs_067f4_0 8 rfl) rfl hK
theorem tJ9_abs_067f4 (l : Launch) {v0 : Int} {μ : Mm} {t : Int} (h : fJ9_abs_067f4 v0 = some t) : Ct l yJ9_abs_067f4 mJ9_abs_067f4 [(2, v0)] μ ([(2, t)], μ, 0, 0) :=
  Ct_of (by decide +kernel) rfl rfl (Nat.le_of_ble_eq_true rfl) (fun _ _ _ => trivial) (gJ9_abs_067f4_0 l h ⟨rfl, rfl⟩)
def mJ6_bitCount_0f7a4 : MI := (RJ6, cJ6_bitCount_0f7a4, 1, (some .int), "bitCount", 0, 0, fun _ _ _ => True)
theorem cwJ6_bitCount_0f7a4 : CWd yJ6_bitCount_0f7a4 mJ6_bitCount_0f7a4 1 := ⟨ki_J6, kk_J6_bitCount_0f7a4, ⟨by decide, by decide⟩, rfl⟩
def dtJ6_bitCount_0f7a4_0 : List (Nat × Instr × Nat) := [(0, .iload_n 0, 1), (1, .iload_n 0, 1), (2, .iconst 1, 1), (3, .iushr, 1), (4, .ldc_w 265, 3), (7, .iand, 1), (8, .isub, 1), (9, .istore_n 0, 1), (10, .iload_n 0, 1), (11, .ldc_w 266, 3), (14, .iand, 1), (15, .iload_n 0, 1), (16, .iconst 2, 1), (17, .iushr, 1), (18, .ldc_w 266, 3), (21, .iand, 1), (22, .iadd, 1), (23, .istore_n 0, 1), (24, .iload_n 0, 1), (25, .iload_n 0, 1), (26, .iconst 4, 1), (27, .iushr, 1), (28, .iadd, 1), (29, .ldc_w 267, 3), (32, .iand, 1), (33, .istore_n 0, 1), (34, .iload_n 0, 1), (35, .iload_n 0, 1), (36, .bipush 8, 2), (38, .iushr, 1), (39, .iadd, 1), (40, .istore_n 0, 1), (41, .iload_n 0, 1), (42, .iload_n 0, 1), (43, .bipush 16, 2), (45, .iushr, 1), (46, .iadd, 1), (47, .istore_n 0, 1), (48, .iload_n 0, 1), (49, .bipush 63, 2), (51, .iand, 1), (52, .ireturn, 1)]
theorem ddJ6_bitCount_0f7a4_0 : (dtJ6_bitCount_0f7a4_0.all fun e => decide (decode mJ6_bitCount_0f7a4.2.1 e.1 = .ok (e.2.1, e.2.2))) = true := by decide +kernel
theorem daJ6_bitCount_0f7a4_0 (j : Nat) {pc n : Nat} {i : Instr} (h : dtJ6_bitCount_0f7a4_0[j]? = some (pc, i, n)) : decode mJ6_bitCount_0f7a4.2.1 pc = .ok (i, n) := dec_of (c := mJ6_bitCount_0f7a4.2.1) ddJ6_bitCount_0f7a4_0 h
def jJ6_bitCount_0f7a4_48 (v0 : Int) : Option Int :=
  some (iand v0 63)
def jJ6_bitCount_0f7a4_41 (v0 : Int) : Option Int :=
  jJ6_bitCount_0f7a4_48 (w32 (v0 + (iushr v0 16)))
def jJ6_bitCount_0f7a4_34 (v0 : Int) : Option Int :=
  jJ6_bitCount_0f7a4_41 (w32 (v0 + (iushr v0 8)))
def jJ6_bitCount_0f7a4_24 (v0 : Int) : Option Int :=
  lt (iand (w32 (v0 + (iushr v0 4))) 252645135) fun y1 =>
  jJ6_bitCount_0f7a4_34 y1
def jJ6_bitCount_0f7a4_10 (v0 : Int) : Option Int :=
  lt (w32 ((iand v0 858993459) + (iand (iushr v0 2) 858993459))) fun y2 =>
  jJ6_bitCount_0f7a4_24 y2
def fJ6_bitCount_0f7a4 (v0 : Int) : Option Int :=
  lt (w32 (v0 - (iand (iushr v0 1) 1431655765))) fun y3 =>
  jJ6_bitCount_0f7a4_10 y3
set_option maxRecDepth 20000 in
theorem gJ6_bitCount_0f7a4_48 (l : Launch) {F : FI} {v0 : Int} {μ : Mm} {t : Int} (h : jJ6_bitCount_0f7a4_48 v0 = some t) (hK : F.1 = [(0, t)] ∧ F.2.1 = μ) : GM l mJ6_bitCount_0f7a4 F 0 0 48 [(0, (0, v0))] [] μ := by
  unfold jJ6_bitCount_0f7a4_48 at h
  refine GM_iload_n (pc := 48) 0 rfl (daJ6_bitCount_0f7a4_0 38 rfl) rfl ?_
  refine GM_bipush (pc := 49) 63 (daJ6_bitCount_0f7a4_0 39 rfl) rfl (R32_b rfl) ?_
  refine GM_iand (pc := 51) (daJ6_bitCount_0f7a4_0 40 rfl) ?_
  cases h
  exact GM_iret (pc := 52) (daJ6_bitCount_0f7a4_0 41 rfl) rfl hK
set_option maxRecDepth 20000 in
theorem gJ6_bitCount_0f7a4_41 (l : Launch) {F : FI} {v0 : Int} {μ : Mm} {t : Int} (h : jJ6_bitCount_0f7a4_41 v0 = some t) (hK : F.1 = [(0, t)] ∧ F.2.1 = μ) : GM l mJ6_bitCount_0f7a4 F 0 0 41 [(0, (0, v0))] [] μ := by
  unfold jJ6_bitCount_0f7a4_41 at h
  refine GM_iload_n (pc := 41) 0 rfl (daJ6_bitCount_0f7a4_0 32 rfl) rfl ?_
  refine GM_iload_n (pc := 42) 0 rfl (daJ6_bitCount_0f7a4_0 33 rfl) rfl ?_
  refine GM_bipush (pc := 43) 16 (daJ6_bitCount_0f7a4_0 34 rfl) rfl (R32_b rfl) ?_
  refine GM_iushr (pc := 45) (daJ6_bitCount_0f7a4_0 35 rfl) ?_
  refine GM_iadd (pc := 46) (daJ6_bitCount_0f7a4_0 36 rfl) ?_
  refine GM_istore_n (L' := [(0, (0, w32 (v0 + (iushr v0 16))))]) (pc := 47) (daJ6_bitCount_0f7a4_0 37 rfl) rfl (Nat.le_of_ble_eq_true rfl) rfl ?_
  exact gJ6_bitCount_0f7a4_48 l h hK
set_option maxRecDepth 20000 in
theorem gJ6_bitCount_0f7a4_34 (l : Launch) {F : FI} {v0 : Int} {μ : Mm} {t : Int} (h : jJ6_bitCount_0f7a4_34 v0 = some t) (hK : F.1 = [(0, t)] ∧ F.2.1 = μ) : GM l mJ6_bitCount_0f7a4 F 0 0 34 [(0, (0, v0))] [] μ := by
  unfold jJ6_bitCount_0f7a4_34 at h
  refine GM_iload_n (pc := 34) 0 rfl (daJ6_bitCount_0f7a4_0 26 rfl) rfl ?_
  refine GM_iload_n (pc := 35) 0 rfl (daJ6_bitCount_0f7a4_0 27 rfl) rfl ?_
  refine GM_bipush (pc := 36) 8 (daJ6_bitCount_0f7a4_0 28 rfl) rfl (R32_b rfl) ?_
  refine GM_iushr (pc := 38) (daJ6_bitCount_0f7a4_0 29 rfl) ?_
  refine GM_iadd (pc := 39) (daJ6_bitCount_0f7a4_0 30 rfl) ?_
  refine GM_istore_n (L' := [(0, (0, w32 (v0 + (iushr v0 8))))]) (pc := 40) (daJ6_bitCount_0f7a4_0 31 rfl) rfl (Nat.le_of_ble_eq_true rfl) rfl ?_
  exact gJ6_bitCount_0f7a4_41 l h hK
set_option maxRecDepth 20000 in
theorem gJ6_bitCount_0f7a4_24 (l : Launch) {F : FI} {v0 : Int} {μ : Mm} {t : Int} (h : jJ6_bitCount_0f7a4_24 v0 = some t) (hK : F.1 = [(0, t)] ∧ F.2.1 = μ) : GM l mJ6_bitCount_0f7a4 F 0 0 24 [(0, (0, v0))] [] μ := by
  unfold jJ6_bitCount_0f7a4_24 at h
  refine GM_iload_n (pc := 24) 0 rfl (daJ6_bitCount_0f7a4_0 18 rfl) rfl ?_
  refine GM_iload_n (pc := 25) 0 rfl (daJ6_bitCount_0f7a4_0 19 rfl) rfl ?_
  refine GM_iconst (pc := 26) 4 (daJ6_bitCount_0f7a4_0 20 rfl) rfl (R32_b rfl) ?_
  refine GM_iushr (pc := 27) (daJ6_bitCount_0f7a4_0 21 rfl) ?_
  refine GM_iadd (pc := 28) (daJ6_bitCount_0f7a4_0 22 rfl) ?_
  refine GM_ldcw (pc := 29) 252645135 kq_J6_267 (daJ6_bitCount_0f7a4_0 23 rfl) (R32_b rfl) ?_
  refine GM_iand (pc := 32) (daJ6_bitCount_0f7a4_0 24 rfl) ?_
  obtain ⟨y1, hy1, h⟩ := lt_inv h
  refine GM_top hy1 ?_
  refine GM_istore_n (L' := [(0, (0, y1))]) (pc := 33) (daJ6_bitCount_0f7a4_0 25 rfl) rfl (Nat.le_of_ble_eq_true rfl) rfl ?_
  exact gJ6_bitCount_0f7a4_34 l h hK
set_option maxRecDepth 20000 in
theorem gJ6_bitCount_0f7a4_10 (l : Launch) {F : FI} {v0 : Int} {μ : Mm} {t : Int} (h : jJ6_bitCount_0f7a4_10 v0 = some t) (hK : F.1 = [(0, t)] ∧ F.2.1 = μ) : GM l mJ6_bitCount_0f7a4 F 0 0 10 [(0, (0, v0))] [] μ := by
  unfold jJ6_bitCount_0f7a4_10 at h
  refine GM_iload_n (pc := 10) 0 rfl (daJ6_bitCount_0f7a4_0 8 rfl) rfl ?_
  refine GM_ldcw (pc := 11) 858993459 kq_J6_266 (daJ6_bitCount_0f7a4_0 9 rfl) (R32_b rfl) ?_
  refine GM_iand (pc := 14) (daJ6_bitCount_0f7a4_0 10 rfl) ?_
  refine GM_iload_n (pc := 15) 0 rfl (daJ6_bitCount_0f7a4_0 11 rfl) rfl ?_
  refine GM_iconst (pc := 16) 2 (daJ6_bitCount_0f7a4_0 12 rfl) rfl (R32_b rfl) ?_
  refine GM_iushr (pc := 17) (daJ6_bitCount_0f7a4_0 13 rfl) ?_
  refine GM_ldcw (pc := 18) 858993459 kq_J6_266 (daJ6_bitCount_0f7a4_0 14 rfl) (R32_b rfl) ?_
  refine GM_iand (pc := 21) (daJ6_bitCount_0f7a4_0 15 rfl) ?_
  refine GM_iadd (pc := 22) (daJ6_bitCount_0f7a4_0 16 rfl) ?_
  obtain ⟨y2, hy2, h⟩ := lt_inv h
  refine GM_top hy2 ?_
  refine GM_istore_n (L' := [(0, (0, y2))]) (pc := 23) (daJ6_bitCount_0f7a4_0 17 rfl) rfl (Nat.le_of_ble_eq_true rfl) rfl ?_
  exact gJ6_bitCount_0f7a4_24 l h hK
set_option maxRecDepth 20000 in
theorem gJ6_bitCount_0f7a4_0 (l : Launch) {F : FI} {v0 : Int} {μ : Mm} {t : Int} (h : fJ6_bitCount_0f7a4 v0 = some t) (hK : F.1 = [(0, t)] ∧ F.2.1 = μ) : GM l mJ6_bitCount_0f7a4 F 0 0 0 [(0, (0, v0))] [] μ := by
  unfold fJ6_bitCount_0f7a4 at h
  refine GM_iload_n (pc := 0) 0 rfl (daJ6_bitCount_0f7a4_0 0 rfl) rfl ?_
  refine GM_iload_n (pc := 1) 0 rfl (daJ6_bitCount_0f7a4_0 1 rfl) rfl ?_
  refine GM_iconst (pc := 2) 1 (daJ6_bitCount_0f7a4_0 2 rfl) rfl (R32_b rfl) ?_
  refine GM_iushr (pc := 3) (daJ6_bitCount_0f7a4_0 3 rfl) ?_
  refine GM_ldcw (pc := 4) 1431655765 kq_J6_265 (daJ6_bitCount_0f7a4_0 4 rfl) (R32_b rfl) ?_
  refine GM_iand (pc := 7) (daJ6_bitCount_0f7a4_0 5 rfl) ?_
  refine GM_isub (pc := 8) (daJ6_bitCount_0f7a4_0 6 rfl) ?_
  obtain ⟨y3, hy3, h⟩ := lt_inv h
  refine GM_top hy3 ?_
  refine GM_istore_n (L' := [(0, (0, y3))]) (pc := 9) (daJ6_bitCount_0f7a4_0 7 rfl) rfl (Nat.le_of_ble_eq_true rfl) rfl ?_
  exact gJ6_bitCount_0f7a4_10 l h hK
theorem tJ6_bitCount_0f7a4 (l : Launch) {v0 : Int} {μ : Mm} {t : Int} (h : fJ6_bitCount_0f7a4 v0 = some t) : Ct l yJ6_bitCount_0f7a4 mJ6_bitCount_0f7a4 [(0, v0)] μ ([(0, t)], μ, 0, 0) :=
  Ct_of (by decide +kernel) rfl rfl (Nat.le_of_ble_eq_true rfl) (fun _ _ _ => trivial) (gJ6_bitCount_0f7a4_0 l h ⟨rfl, rfl⟩)
def mJ13_bitCount_95d88 : MI := (RJ13, cJ13_bitCount_95d88, 2, (some .int), "bitCount", 0, 0, fun _ _ _ => True)
theorem cwJ13_bitCount_95d88 : CWd yJ13_bitCount_95d88 mJ13_bitCount_95d88 1 := ⟨ki_J13, kk_J13_bitCount_95d88, ⟨by decide, by decide⟩, rfl⟩
def dtJ13_bitCount_95d88_0 : List (Nat × Instr × Nat) := [(0, .lload_n 0, 1), (1, .lload_n 0, 1), (2, .iconst 1, 1), (3, .lushr, 1), (4, .ldc2_w 314, 3), (7, .land, 1), (8, .lsub, 1), (9, .lstore_n 0, 1), (10, .lload_n 0, 1), (11, .ldc2_w 316, 3), (14, .land, 1), (15, .lload_n 0, 1), (16, .iconst 2, 1), (17, .lushr, 1), (18, .ldc2_w 316, 3), (21, .land, 1), (22, .ladd, 1), (23, .lstore_n 0, 1), (24, .lload_n 0, 1), (25, .lload_n 0, 1), (26, .iconst 4, 1), (27, .lushr, 1), (28, .ladd, 1), (29, .ldc2_w 318, 3), (32, .land, 1), (33, .lstore_n 0, 1), (34, .lload_n 0, 1), (35, .lload_n 0, 1), (36, .bipush 8, 2), (38, .lushr, 1), (39, .ladd, 1), (40, .lstore_n 0, 1), (41, .lload_n 0, 1), (42, .lload_n 0, 1), (43, .bipush 16, 2), (45, .lushr, 1), (46, .ladd, 1), (47, .lstore_n 0, 1), (48, .lload_n 0, 1), (49, .lload_n 0, 1), (50, .bipush 32, 2), (52, .lushr, 1), (53, .ladd, 1), (54, .lstore_n 0, 1), (55, .lload_n 0, 1), (56, .l2i, 1), (57, .bipush 127, 2), (59, .iand, 1), (60, .ireturn, 1)]
theorem ddJ13_bitCount_95d88_0 : (dtJ13_bitCount_95d88_0.all fun e => decide (decode mJ13_bitCount_95d88.2.1 e.1 = .ok (e.2.1, e.2.2))) = true := by decide +kernel
theorem daJ13_bitCount_95d88_0 (j : Nat) {pc n : Nat} {i : Instr} (h : dtJ13_bitCount_95d88_0[j]? = some (pc, i, n)) : decode mJ13_bitCount_95d88.2.1 pc = .ok (i, n) := dec_of (c := mJ13_bitCount_95d88.2.1) ddJ13_bitCount_95d88_0 h
def jJ13_bitCount_95d88_55 (v0 : Int) : Option Int :=
  some (iand (w32 v0) 127)
def jJ13_bitCount_95d88_48 (v0 : Int) : Option Int :=
  jJ13_bitCount_95d88_55 (w64 (v0 + (lushr v0 32)))
def jJ13_bitCount_95d88_41 (v0 : Int) : Option Int :=
  jJ13_bitCount_95d88_48 (w64 (v0 + (lushr v0 16)))
def jJ13_bitCount_95d88_34 (v0 : Int) : Option Int :=
  jJ13_bitCount_95d88_41 (w64 (v0 + (lushr v0 8)))
def jJ13_bitCount_95d88_24 (v0 : Int) : Option Int :=
  lt (land (w64 (v0 + (lushr v0 4))) 1085102592571150095) fun y1 =>
  jJ13_bitCount_95d88_34 y1
def jJ13_bitCount_95d88_10 (v0 : Int) : Option Int :=
  lt (w64 ((land v0 3689348814741910323) + (land (lushr v0 2) 3689348814741910323))) fun y2 =>
  jJ13_bitCount_95d88_24 y2
def fJ13_bitCount_95d88 (v0 : Int) : Option Int :=
  lt (w64 (v0 - (land (lushr v0 1) 6148914691236517205))) fun y3 =>
  jJ13_bitCount_95d88_10 y3
set_option maxRecDepth 20000 in
theorem gJ13_bitCount_95d88_55 (l : Launch) {F : FI} {v0 : Int} {μ : Mm} {t : Int} (h : jJ13_bitCount_95d88_55 v0 = some t) (hK : F.1 = [(0, t)] ∧ F.2.1 = μ) : GM l mJ13_bitCount_95d88 F 0 0 55 [(0, (2, v0))] [] μ := by
  unfold jJ13_bitCount_95d88_55 at h
  refine GM_lload_n (pc := 55) 0 rfl (daJ13_bitCount_95d88_0 44 rfl) rfl ?_
  refine GM_l2i (pc := 56) (daJ13_bitCount_95d88_0 45 rfl) ?_
  refine GM_bipush (pc := 57) 127 (daJ13_bitCount_95d88_0 46 rfl) rfl (R32_b rfl) ?_
  refine GM_iand (pc := 59) (daJ13_bitCount_95d88_0 47 rfl) ?_
  cases h
  exact GM_iret (pc := 60) (daJ13_bitCount_95d88_0 48 rfl) rfl hK
set_option maxRecDepth 20000 in
theorem gJ13_bitCount_95d88_48 (l : Launch) {F : FI} {v0 : Int} {μ : Mm} {t : Int} (h : jJ13_bitCount_95d88_48 v0 = some t) (hK : F.1 = [(0, t)] ∧ F.2.1 = μ) : GM l mJ13_bitCount_95d88 F 0 0 48 [(0, (2, v0))] [] μ := by
  unfold jJ13_bitCount_95d88_48 at h
  refine GM_lload_n (pc := 48) 0 rfl (daJ13_bitCount_95d88_0 38 rfl) rfl ?_
  refine GM_lload_n (pc := 49) 0 rfl (daJ13_bitCount_95d88_0 39 rfl) rfl ?_
  refine GM_bipush (pc := 50) 32 (daJ13_bitCount_95d88_0 40 rfl) rfl (R32_b rfl) ?_
  refine GM_lushr (pc := 52) (daJ13_bitCount_95d88_0 41 rfl) ?_
  refine GM_ladd (pc := 53) (daJ13_bitCount_95d88_0 42 rfl) ?_
  refine GM_lstore_n (L' := [(0, (2, w64 (v0 + (lushr v0 32))))]) (pc := 54) (daJ13_bitCount_95d88_0 43 rfl) rfl (Nat.le_of_ble_eq_true rfl) rfl ?_
  exact gJ13_bitCount_95d88_55 l h hK
set_option maxRecDepth 20000 in
theorem gJ13_bitCount_95d88_41 (l : Launch) {F : FI} {v0 : Int} {μ : Mm} {t : Int} (h : jJ13_bitCount_95d88_41 v0 = some t) (hK : F.1 = [(0, t)] ∧ F.2.1 = μ) : GM l mJ13_bitCount_95d88 F 0 0 41 [(0, (2, v0))] [] μ := by
  unfold jJ13_bitCount_95d88_41 at h
  refine GM_lload_n (pc := 41) 0 rfl (daJ13_bitCount_95d88_0 32 rfl) rfl ?_
  refine GM_lload_n (pc := 42) 0 rfl (daJ13_bitCount_95d88_0 33 rfl) rfl ?_
  refine GM_bipush (pc := 43) 16 (daJ13_bitCount_95d88_0 34 rfl) rfl (R32_b rfl) ?_
  refine GM_lushr (pc := 45) (daJ13_bitCount_95d88_0 35 rfl) ?_
  refine GM_ladd (pc := 46) (daJ13_bitCount_95d88_0 36 rfl) ?_
  refine GM_lstore_n (L' := [(0, (2, w64 (v0 + (lushr v0 16))))]) (pc := 47) (daJ13_bitCount_95d88_0 37 rfl) rfl (Nat.le_of_ble_eq_true rfl) rfl ?_
  exact gJ13_bitCount_95d88_48 l h hK
set_option maxRecDepth 20000 in
theorem gJ13_bitCount_95d88_34 (l : Launch) {F : FI} {v0 : Int} {μ : Mm} {t : Int} (h : jJ13_bitCount_95d88_34 v0 = some t) (hK : F.1 = [(0, t)] ∧ F.2.1 = μ) : GM l mJ13_bitCount_95d88 F 0 0 34 [(0, (2, v0))] [] μ := by
  unfold jJ13_bitCount_95d88_34 at h
  refine GM_lload_n (pc := 34) 0 rfl (daJ13_bitCount_95d88_0 26 rfl) rfl ?_
  refine GM_lload_n (pc := 35) 0 rfl (daJ13_bitCount_95d88_0 27 rfl) rfl ?_
  refine GM_bipush (pc := 36) 8 (daJ13_bitCount_95d88_0 28 rfl) rfl (R32_b rfl) ?_
  refine GM_lushr (pc := 38) (daJ13_bitCount_95d88_0 29 rfl) ?_
  refine GM_ladd (pc := 39) (daJ13_bitCount_95d88_0 30 rfl) ?_
  refine GM_lstore_n (L' := [(0, (2, w64 (v0 + (lushr v0 8))))]) (pc := 40) (daJ13_bitCount_95d88_0 31 rfl) rfl (Nat.le_of_ble_eq_true rfl) rfl ?_
  exact gJ13_bitCount_95d88_41 l h hK
set_option maxRecDepth 20000 in
theorem gJ13_bitCount_95d88_24 (l : Launch) {F : FI} {v0 : Int} {μ : Mm} {t : Int} (h : jJ13_bitCount_95d88_24 v0 = some t) (hK : F.1 = [(0, t)] ∧ F.2.1 = μ) : GM l mJ13_bitCount_95d88 F 0 0 24 [(0, (2, v0))] [] μ := by
  unfold jJ13_bitCount_95d88_24 at h
  refine GM_lload_n (pc := 24) 0 rfl (daJ13_bitCount_95d88_0 18 rfl) rfl ?_
  refine GM_lload_n (pc := 25) 0 rfl (daJ13_bitCount_95d88_0 19 rfl) rfl ?_
  refine GM_iconst (pc := 26) 4 (daJ13_bitCount_95d88_0 20 rfl) rfl (R32_b rfl) ?_
  refine GM_lushr (pc := 27) (daJ13_bitCount_95d88_0 21 rfl) ?_
  refine GM_ladd (pc := 28) (daJ13_bitCount_95d88_0 22 rfl) ?_
  refine GM_ldc2 (pc := 29) 1085102592571150095 kq_J13_318 (daJ13_bitCount_95d88_0 23 rfl) (R64_b rfl) ?_
  refine GM_land (pc := 32) (daJ13_bitCount_95d88_0 24 rfl) ?_
  obtain ⟨y1, hy1, h⟩ := lt_inv h
  refine GM_top hy1 ?_
  refine GM_lstore_n (L' := [(0, (2, y1))]) (pc := 33) (daJ13_bitCount_95d88_0 25 rfl) rfl (Nat.le_of_ble_eq_true rfl) rfl ?_
  exact gJ13_bitCount_95d88_34 l h hK
set_option maxRecDepth 20000 in
theorem gJ13_bitCount_95d88_10 (l : Launch) {F : FI} {v0 : Int} {μ : Mm} {t : Int} (h : jJ13_bitCount_95d88_10 v0 = some t) (hK : F.1 = [(0, t)] ∧ F.2.1 = μ) : GM l mJ13_bitCount_95d88 F 0 0 10 [(0, (2, v0))] [] μ := by
  unfold jJ13_bitCount_95d88_10 at h
  refine GM_lload_n (pc := 10) 0 rfl (daJ13_bitCount_95d88_0 8 rfl) rfl ?_
  refine GM_ldc2 (pc := 11) 3689348814741910323 kq_J13_316 (daJ13_bitCount_95d88_0 9 rfl) (R64_b rfl) ?_
  refine GM_land (pc := 14) (daJ13_bitCount_95d88_0 10 rfl) ?_
  refine GM_lload_n (pc := 15) 0 rfl (daJ13_bitCount_95d88_0 11 rfl) rfl ?_
  refine GM_iconst (pc := 16) 2 (daJ13_bitCount_95d88_0 12 rfl) rfl (R32_b rfl) ?_
  refine GM_lushr (pc := 17) (daJ13_bitCount_95d88_0 13 rfl) ?_
  refine GM_ldc2 (pc := 18) 3689348814741910323 kq_J13_316 (daJ13_bitCount_95d88_0 14 rfl) (R64_b rfl) ?_
  refine GM_land (pc := 21) (daJ13_bitCount_95d88_0 15 rfl) ?_
  refine GM_ladd (pc := 22) (daJ13_bitCount_95d88_0 16 rfl) ?_
  obtain ⟨y2, hy2, h⟩ := lt_inv h
  refine GM_top hy2 ?_
  refine GM_lstore_n (L' := [(0, (2, y2))]) (pc := 23) (daJ13_bitCount_95d88_0 17 rfl) rfl (Nat.le_of_ble_eq_true rfl) rfl ?_
  exact gJ13_bitCount_95d88_24 l h hK
set_option maxRecDepth 20000 in
theorem gJ13_bitCount_95d88_0 (l : Launch) {F : FI} {v0 : Int} {μ : Mm} {t : Int} (h : fJ13_bitCount_95d88 v0 = some t) (hK : F.1 = [(0, t)] ∧ F.2.1 = μ) : GM l mJ13_bitCount_95d88 F 0 0 0 [(0, (2, v0))] [] μ := by
  unfold fJ13_bitCount_95d88 at h
  refine GM_lload_n (pc := 0) 0 rfl (daJ13_bitCount_95d88_0 0 rfl) rfl ?_
  refine GM_lload_n (pc := 1) 0 rfl (daJ13_bitCount_95d88_0 1 rfl) rfl ?_
  refine GM_iconst (pc := 2) 1 (daJ13_bitCount_95d88_0 2 rfl) rfl (R32_b rfl) ?_
  refine GM_lushr (pc := 3) (daJ13_bitCount_95d88_0 3 rfl) ?_
  refine GM_ldc2 (pc := 4) 6148914691236517205 kq_J13_314 (daJ13_bitCount_95d88_0 4 rfl) (R64_b rfl) ?_
  refine GM_land (pc := 7) (daJ13_bitCount_95d88_0 5 rfl) ?_
  refine GM_lsub (pc := 8) (daJ13_bitCount_95d88_0 6 rfl) ?_
  obtain ⟨y3, hy3, h⟩ := lt_inv h
  refine GM_top hy3 ?_
  refine GM_lstore_n (L' := [(0, (2, y3))]) (pc := 9) (daJ13_bitCount_95d88_0 7 rfl) rfl (Nat.le_of_ble_eq_true rfl) rfl ?_
  exact gJ13_bitCount_95d88_10 l h hK
theorem tJ13_bitCount_95d88 (l : Launch) {v0 : Int} {μ : Mm} {t : Int} (h : fJ13_bitCount_95d88 v0 = some t) : Ct l yJ13_bitCount_95d88 mJ13_bitCount_95d88 [(2, v0)] μ ([(0, t)], μ, 0, 0) :=
  Ct_of (by decide +kernel) rfl rfl (Nat.le_of_ble_eq_true rfl) (fun _ _ _ => trivial) (gJ13_bitCount_95d88_0 l h ⟨rfl, rfl⟩)
def mJ7_fill_53178 : MI := (RJ7, cJ7_fill_53178, 4, none, "fill", 0, 0, fun _ _ _ => True)
theorem cwJ7_fill_53178 : CWd yJ7_fill_53178 mJ7_fill_53178 2 := ⟨ki_J7, kk_J7_fill_53178, ⟨by decide, by decide⟩, rfl⟩
def dtJ7_fill_53178_0 : List (Nat × Instr × Nat) := [(0, .iconst 0, 1), (1, .istore_n 2, 1), (2, .aload_n 0, 1), (3, .arraylength, 1), (4, .istore_n 3, 1), (5, .iload_n 2, 1), (6, .iload_n 3, 1), (7, .if_icmp .ge 13, 3), (10, .aload_n 0, 1), (11, .iload_n 2, 1), (12, .iload_n 1, 1), (13, .iastore, 1), (14, .iinc 2 1, 3), (17, .goto (-12), 3), (20, .return_, 1)]
theorem ddJ7_fill_53178_0 : (dtJ7_fill_53178_0.all fun e => decide (decode mJ7_fill_53178.2.1 e.1 = .ok (e.2.1, e.2.2))) = true := by decide +kernel
theorem daJ7_fill_53178_0 (j : Nat) {pc n : Nat} {i : Instr} (h : dtJ7_fill_53178_0[j]? = some (pc, i, n)) : decode mJ7_fill_53178.2.1 pc = .ok (i, n) := dec_of (c := mJ7_fill_53178.2.1) ddJ7_fill_53178_0 h
def zJ7_fill_53178_5 (l : Launch) (F : FI) (v0 v1 v3 : Int) (k n : Nat) : (Int × Mm) ⊕ Mm → Prop
  | .inl (v2, μ) => GM l mJ7_fill_53178 F k n 5 [(0, (3, v0)), (1, (0, v1)), (2, (0, v2)), (3, (0, v3))] [] μ
  | .inr μ => GM l mJ7_fill_53178 F k n 20 [] [] μ
def sJ7_fill_53178_5 (v0 v1 v3 : Int) : (Int × Mm) → Option ((Int × Mm) ⊕ Mm) := fun (v2, μ) =>
  if v3 ≤ v2 then
    some (.inr μ)
  else
    chk (KD v0 = 12 ∧ 0 ≤ v2 ∧ v2 < LN v0) (
    lm (mst μ v0 v2 v1) fun μ3 =>
    some (.inl (w32 (v2 + 1), μ3)))
def fJ7_fill_53178 (v0 v1 : Int) (μ : Mm) : Option Mm :=
  chk (KD v0 = 12 ∧ 0 ≤ LN v0 ∧ LN v0 < 2147483648) (
  (lop (sJ7_fill_53178_5 v0 v1 (LN v0)) FU (0, μ)).bind fun μ_6 =>
    some μ_6)
set_option maxRecDepth 20000 in
theorem qJ7_fill_53178_5 (l : Launch) (F : FI) (v0 v1 v3 : Int) (k n : Nat) : ∀ (q : (Int × Mm)) (t : ((Int × Mm) ⊕ Mm)), sJ7_fill_53178_5 v0 v1 v3 q = some t → zJ7_fill_53178_5 l F v0 v1 v3 k n t → zJ7_fill_53178_5 l F v0 v1 v3 k n (.inl q) := by
  intro q t h hK
  obtain ⟨v2, μ⟩ := q
  unfold sJ7_fill_53178_5 at h
  try dsimp only at h
  show GM l mJ7_fill_53178 F k n 5 [(0, (3, v0)), (1, (0, v1)), (2, (0, v2)), (3, (0, v3))] [] μ
  refine GM_iload_n (pc := 5) 2 rfl (daJ7_fill_53178_0 5 rfl) rfl ?_
  refine GM_iload_n (pc := 6) 3 rfl (daJ7_fill_53178_0 6 rfl) rfl ?_
  refine GM_icmp_ge (pc := 7) 20 (daJ7_fill_53178_0 7 rfl) rfl (fun c1 => ?_) (fun c1 => ?_)
  · skip
    rw [if_pos c1] at h
    refine GM_pick [] rfl ?_
    cases h
    exact hK
  · skip
    rw [if_neg c1] at h
    refine GM_aload_n (pc := 10) 0 rfl (daJ7_fill_53178_0 8 rfl) rfl ?_
    refine GM_iload_n (pc := 11) 2 rfl (daJ7_fill_53178_0 9 rfl) rfl ?_
    refine GM_iload_n (pc := 12) 1 rfl (daJ7_fill_53178_0 10 rfl) rfl ?_
    obtain ⟨hc2, h⟩ := chk_inv h
    obtain ⟨μ3, hμ3, h⟩ := lm_inv h
    refine GM_iast (pc := 13) (daJ7_fill_53178_0 11 rfl) hc2.1 hc2.2.1 hc2.2.2 ?_
    refine GM_mem hμ3 ?_
    refine GM_iinc (L' := [(2, (0, w32 (v2 + 1))), (0, (3, v0)), (1, (0, v1)), (3, (0, v3))]) (pc := 14) 2 rfl (daJ7_fill_53178_0 12 rfl) (Nat.le_of_ble_eq_true rfl) rfl ?_
    refine GM_goto (pc := 17) 5 (daJ7_fill_53178_0 13 rfl) rfl ?_
    refine GM_pick [1, 2, 0, 3] rfl ?_
    cases h
    exact hK
set_option maxRecDepth 20000 in
theorem gJ7_fill_53178_0 (l : Launch) {F : FI} {v0 v1 : Int} {μ : Mm} {t : Mm} (h : fJ7_fill_53178 v0 v1 μ = some t) (hK : F.1 = [] ∧ F.2.1 = t) : GM l mJ7_fill_53178 F 0 0 0 [(0, (3, v0)), (1, (0, v1))] [] μ := by
  unfold fJ7_fill_53178 at h
  refine GM_iconst (pc := 0) 0 (daJ7_fill_53178_0 0 rfl) rfl (R32_b rfl) ?_
  refine GM_istore_n (L' := [(2, (0, 0)), (0, (3, v0)), (1, (0, v1))]) (pc := 1) (daJ7_fill_53178_0 1 rfl) rfl (Nat.le_of_ble_eq_true rfl) rfl ?_
  refine GM_aload_n (pc := 2) 1 rfl (daJ7_fill_53178_0 2 rfl) rfl ?_
  obtain ⟨hc4, h⟩ := chk_inv h
  refine GM_ileni (pc := 3) (daJ7_fill_53178_0 3 rfl) hc4.1 hc4.2.1 hc4.2.2 ?_
  refine GM_istore_n (L' := [(3, (0, LN v0)), (2, (0, 0)), (0, (3, v0)), (1, (0, v1))]) (pc := 4) (daJ7_fill_53178_0 4 rfl) rfl (Nat.le_of_ble_eq_true rfl) rfl ?_
  refine GM_pick [2, 3, 1, 0] rfl ?_
  obtain ⟨x5, hqx5, h⟩ := Option.bind_eq_some_iff.mp h
  refine lop_ind (zJ7_fill_53178_5 l F v0 v1 (LN v0) 0 0) (qJ7_fill_53178_5 l F v0 v1 (LN v0) 0 0) FU _ x5 hqx5 ?_
  obtain ⟨μ_6, hqq⟩ : ∃ z, z = x5 := ⟨x5, rfl⟩
  subst hqq
  show GM l mJ7_fill_53178 F 0 0 20 [] [] μ_6
  cases h
  exact GM_vret (pc := 20) (daJ7_fill_53178_0 14 rfl) rfl hK
theorem tJ7_fill_53178 (l : Launch) {v0 v1 : Int} {μ : Mm} {t : Mm} (h : fJ7_fill_53178 v0 v1 μ = some t) : Ct l yJ7_fill_53178 mJ7_fill_53178 [(3, v0), (0, v1)] μ ([], t, 0, 0) :=
  Ct_of (by decide +kernel) rfl rfl (Nat.le_of_ble_eq_true rfl) (fun _ _ _ => trivial) (gJ7_fill_53178_0 l h ⟨rfl, rfl⟩)
def mJ7_fill_d0a16 : MI := (RJ7, cJ7_fill_d0a16, 5, none, "fill", 0, 0, fun _ _ _ => True)
theorem cwJ7_fill_d0a16 : CWd yJ7_fill_d0a16 mJ7_fill_d0a16 2 := ⟨ki_J7, kk_J7_fill_d0a16, ⟨by decide, by decide⟩, rfl⟩
def dtJ7_fill_d0a16_0 : List (Nat × Instr × Nat) := [(0, .iconst 0, 1), (1, .istore_n 3, 1), (2, .aload_n 0, 1), (3, .arraylength, 1), (4, .istore 4, 2), (6, .iload_n 3, 1), (7, .iload 4, 2), (9, .if_icmp .ge 13, 3), (12, .aload_n 0, 1), (13, .iload_n 3, 1), (14, .lload_n 1, 1), (15, .lastore, 1), (16, .iinc 3 1, 3), (19, .goto (-13), 3), (22, .return_, 1)]
theorem ddJ7_fill_d0a16_0 : (dtJ7_fill_d0a16_0.all fun e => decide (decode mJ7_fill_d0a16.2.1 e.1 = .ok (e.2.1, e.2.2))) = true := by decide +kernel
theorem daJ7_fill_d0a16_0 (j : Nat) {pc n : Nat} {i : Instr} (h : dtJ7_fill_d0a16_0[j]? = some (pc, i, n)) : decode mJ7_fill_d0a16.2.1 pc = .ok (i, n) := dec_of (c := mJ7_fill_d0a16.2.1) ddJ7_fill_d0a16_0 h
def zJ7_fill_d0a16_6 (l : Launch) (F : FI) (v0 v1 v4 : Int) (k n : Nat) : (Int × Mm) ⊕ Mm → Prop
  | .inl (v3, μ) => GM l mJ7_fill_d0a16 F k n 6 [(0, (3, v0)), (1, (2, v1)), (3, (0, v3)), (4, (0, v4))] [] μ
  | .inr μ => GM l mJ7_fill_d0a16 F k n 22 [] [] μ
def sJ7_fill_d0a16_6 (v0 v1 v4 : Int) : (Int × Mm) → Option ((Int × Mm) ⊕ Mm) := fun (v3, μ) =>
  if v4 ≤ v3 then
    some (.inr μ)
  else
    chk (KD v0 = 13 ∧ 0 ≤ v3 ∧ v3 < LN v0) (
    lm (mst μ v0 v3 v1) fun μ3 =>
    some (.inl (w32 (v3 + 1), μ3)))
def fJ7_fill_d0a16 (v0 v1 : Int) (μ : Mm) : Option Mm :=
  chk (KD v0 = 13 ∧ 0 ≤ LN v0 ∧ LN v0 < 2147483648) (
  (lop (sJ7_fill_d0a16_6 v0 v1 (LN v0)) FU (0, μ)).bind fun μ_6 =>
    some μ_6)
set_option maxRecDepth 20000 in
theorem qJ7_fill_d0a16_6 (l : Launch) (F : FI) (v0 v1 v4 : Int) (k n : Nat) : ∀ (q : (Int × Mm)) (t : ((Int × Mm) ⊕ Mm)), sJ7_fill_d0a16_6 v0 v1 v4 q = some t → zJ7_fill_d0a16_6 l F v0 v1 v4 k n t → zJ7_fill_d0a16_6 l F v0 v1 v4 k n (.inl q) := by
  intro q t h hK
  obtain ⟨v3, μ⟩ := q
  unfold sJ7_fill_d0a16_6 at h
  try dsimp only at h
  show GM l mJ7_fill_d0a16 F k n 6 [(0, (3, v0)), (1, (2, v1)), (3, (0, v3)), (4, (0, v4))] [] μ
  refine GM_iload_n (pc := 6) 2 rfl (daJ7_fill_d0a16_0 5 rfl) rfl ?_
  refine GM_iload (pc := 7) 3 rfl (daJ7_fill_d0a16_0 6 rfl) ?_
  refine GM_icmp_ge (pc := 9) 22 (daJ7_fill_d0a16_0 7 rfl) rfl (fun c1 => ?_) (fun c1 => ?_)
  · skip
    rw [if_pos c1] at h
    refine GM_pick [] rfl ?_
    cases h
    exact hK
  · skip
    rw [if_neg c1] at h
    refine GM_aload_n (pc := 12) 0 rfl (daJ7_fill_d0a16_0 8 rfl) rfl ?_
    refine GM_iload_n (pc := 13) 2 rfl (daJ7_fill_d0a16_0 9 rfl) rfl ?_
    refine GM_lload_n (pc := 14) 1 rfl (daJ7_fill_d0a16_0 10 rfl) rfl ?_
    obtain ⟨hc2, h⟩ := chk_inv h
    obtain ⟨μ3, hμ3, h⟩ := lm_inv h
    refine GM_last (pc := 15) (daJ7_fill_d0a16_0 11 rfl) hc2.1 hc2.2.1 hc2.2.2 ?_
    refine GM_mem hμ3 ?_
    refine GM_iinc (L' := [(3, (0, w32 (v3 + 1))), (0, (3, v0)), (1, (2, v1)), (4, (0, v4))]) (pc := 16) 2 rfl (daJ7_fill_d0a16_0 12 rfl) (Nat.le_of_ble_eq_true rfl) rfl ?_
    refine GM_goto (pc := 19) 6 (daJ7_fill_d0a16_0 13 rfl) rfl ?_
    refine GM_pick [1, 2, 0, 3] rfl ?_
    cases h
    exact hK
set_option maxRecDepth 20000 in
theorem gJ7_fill_d0a16_0 (l : Launch) {F : FI} {v0 v1 : Int} {μ : Mm} {t : Mm} (h : fJ7_fill_d0a16 v0 v1 μ = some t) (hK : F.1 = [] ∧ F.2.1 = t) : GM l mJ7_fill_d0a16 F 0 0 0 [(0, (3, v0)), (1, (2, v1))] [] μ := by
  unfold fJ7_fill_d0a16 at h
  refine GM_iconst (pc := 0) 0 (daJ7_fill_d0a16_0 0 rfl) rfl (R32_b rfl) ?_
  refine GM_istore_n (L' := [(3, (0, 0)), (0, (3, v0)), (1, (2, v1))]) (pc := 1) (daJ7_fill_d0a16_0 1 rfl) rfl (Nat.le_of_ble_eq_true rfl) rfl ?_
  refine GM_aload_n (pc := 2) 1 rfl (daJ7_fill_d0a16_0 2 rfl) rfl ?_
  obtain ⟨hc4, h⟩ := chk_inv h
  refine GM_llen (pc := 3) (daJ7_fill_d0a16_0 3 rfl) hc4.1 hc4.2.1 hc4.2.2 ?_
  refine GM_istore (L' := [(4, (0, LN v0)), (3, (0, 0)), (0, (3, v0)), (1, (2, v1))]) (pc := 4) (daJ7_fill_d0a16_0 4 rfl) (Nat.le_of_ble_eq_true rfl) rfl ?_
  refine GM_pick [2, 3, 1, 0] rfl ?_
  obtain ⟨x5, hqx5, h⟩ := Option.bind_eq_some_iff.mp h
  refine lop_ind (zJ7_fill_d0a16_6 l F v0 v1 (LN v0) 0 0) (qJ7_fill_d0a16_6 l F v0 v1 (LN v0) 0 0) FU _ x5 hqx5 ?_
  obtain ⟨μ_6, hqq⟩ : ∃ z, z = x5 := ⟨x5, rfl⟩
  subst hqq
  show GM l mJ7_fill_d0a16 F 0 0 22 [] [] μ_6
  cases h
  exact GM_vret (pc := 22) (daJ7_fill_d0a16_0 14 rfl) rfl hK
theorem tJ7_fill_d0a16 (l : Launch) {v0 v1 : Int} {μ : Mm} {t : Mm} (h : fJ7_fill_d0a16 v0 v1 μ = some t) : Ct l yJ7_fill_d0a16 mJ7_fill_d0a16 [(3, v0), (2, v1)] μ ([], t, 0, 0) :=
  Ct_of (by decide +kernel) rfl rfl (Nat.le_of_ble_eq_true rfl) (fun _ _ _ => trivial) (gJ7_fill_d0a16_0 l h ⟨rfl, rfl⟩)
