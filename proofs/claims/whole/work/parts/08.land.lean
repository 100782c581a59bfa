def imax (x y : Int) : Int := if x < y then y else x
def imin (x y : Int) : Int := if y < x then y else x
def iabs (x : Int) : Int := if 0 ≤ x then x else w32 (-x)
def labs (x : Int) : Int := if 0 ≤ x then x else w64 (-x)
theorem fJ9_max_eq (x y : Int) : fJ9_max_7cf53 x y = some (imax x y) := by unfold fJ9_max_7cf53 imax; split <;> rfl
theorem fJ9_min_eq (x y : Int) : fJ9_min_7cf53 x y = some (imin x y) := by unfold fJ9_min_7cf53 imin; split <;> rfl
theorem fJ9_absI_eq (x : Int) : fJ9_abs_0f7a4 x = some (iabs x) := by unfold fJ9_abs_0f7a4 iabs; split <;> rfl
theorem fJ9_absJ_eq (x : Int) : fJ9_abs_067f4 x = some (labs x) := by unfold fJ9_abs_067f4 labs; split <;> rfl
def ibits (x : Int) : Int := (fJ6_bitCount_0f7a4 x).getD 0
def lbits (x : Int) : Int := (fJ13_bitCount_95d88 x).getD 0
theorem fJ6_bits_eq (x : Int) : fJ6_bitCount_0f7a4 x = some (ibits x) := rfl
theorem fJ13_bits_eq (x : Int) : fJ13_bitCount_95d88 x = some (lbits x) := rfl
def mX2_init : MI := (RX2, cX2_init, 1, none, "<init>", 1, 16, fun _ _ _ => True)
theorem cwX2_init : CWd yX2_init mX2_init 0 := ⟨ki_X2, kk_X2_init, ⟨by decide, by decide⟩, rfl⟩
def dtX2_init_0 : List (Nat × Instr × Nat) := [(0, .aload_n 0, 1), (1, .invokespecial 3, 3), (4, .aload_n 0, 1), (5, .iconst 4, 1), (6, .putfield 9, 3), (9, .aload_n 0, 1), (10, .iconst 4, 1), (11, .putfield 15, 3), (14, .aload_n 0, 1), (15, .sipush 999, 3), (18, .putfield 18, 3), (21, .aload_n 0, 1), (22, .sipush 144, 3), (25, .newarray .int, 2), (27, .putfield 21, 3), (30, .aload_n 0, 1), (31, .bipush 12, 2), (33, .newarray .int, 2), (35, .putfield 25, 3), (38, .aload_n 0, 1), (39, .bipush 12, 2), (41, .newarray .boolean, 2), (43, .putfield 28, 3), (46, .aload_n 0, 1), (47, .bipush 12, 2), (49, .newarray .int, 2), (51, .putfield 32, 3), (54, .aload_n 0, 1), (55, .bipush 12, 2), (57, .newarray .int, 2), (59, .putfield 35, 3), (62, .return_, 1)]
theorem ddX2_init_0 : (dtX2_init_0.all fun e => decide (decode mX2_init.2.1 e.1 = .ok (e.2.1, e.2.2))) = true := by decide +kernel
theorem daX2_init_0 (j : Nat) {pc n : Nat} {i : Instr} (h : dtX2_init_0[j]? = some (pc, i, n)) : decode mX2_init.2.1 pc = .ok (i, n) := dec_of (c := mX2_init.2.1) ddX2_init_0 h
def fX2_init (v0 : Int) (μ : Mm) : Option (Mm × Nat × Nat) :=
  chk (v0 ≠ 0) (
  chk (KD v0 = 2) (
  lm (mst μ v0 0 4) fun μ3 =>
  lm (mst μ3 v0 1 4) fun μ4 =>
  lm (mst μ4 v0 4 999) fun μ5 =>
  chk (KD (v0 + 1) = 12 ∧ LN (v0 + 1) = 144 ∧ μ5 0 (v0 + 1) = 0) (
  pay 1 144 (
  lm (mnw μ5 (v0 + 1)) fun μ8 =>
  lm (mst μ8 v0 6 (v0 + 1)) fun μ9 =>
  chk (KD (v0 + 2) = 12 ∧ LN (v0 + 2) = 12 ∧ μ9 0 (v0 + 2) = 0) (
  pay 1 12 (
  lm (mnw μ9 (v0 + 2)) fun μ12 =>
  lm (mst μ12 v0 7 (v0 + 2)) fun μ13 =>
  chk (KD (v0 + 3) = 14 ∧ LN (v0 + 3) = 12 ∧ μ13 0 (v0 + 3) = 0) (
  pay 1 12 (
  lm (mnw μ13 (v0 + 3)) fun μ16 =>
  lm (mst μ16 v0 8 (v0 + 3)) fun μ17 =>
  chk (KD (v0 + 4) = 12 ∧ LN (v0 + 4) = 12 ∧ μ17 0 (v0 + 4) = 0) (
  pay 1 12 (
  lm (mnw μ17 (v0 + 4)) fun μ20 =>
  lm (mst μ20 v0 9 (v0 + 4)) fun μ21 =>
  chk (KD (v0 + 5) = 12 ∧ LN (v0 + 5) = 12 ∧ μ21 0 (v0 + 5) = 0) (
  pay 1 12 (
  lm (mnw μ21 (v0 + 5)) fun μ24 =>
  lm (mst μ24 v0 10 (v0 + 5)) fun μ25 =>
  some (μ25, 0, 0)))))))))))))
set_option maxRecDepth 20000 in
theorem gX2_init_0 (l : Launch) {F : FI} {v0 : Int} {μ : Mm} {t : Mm} {c0 n0 k n : Nat} (h : fX2_init v0 μ = some (t, c0, n0)) (hK : F.1 = [] ∧ F.2.1 = t) : GM l mX2_init F (c0 + k) (n0 + n) 0 [(0, (3, v0))] [] μ := by
  unfold fX2_init at h
  refine GM_aload_n (pc := 0) 0 rfl (daX2_init_0 0 rfl) rfl ?_
  obtain ⟨hc1, h⟩ := chk_inv h
  refine GM_objInit (pc := 1) km_X2_3 kv__java_lang_Object__init____V_ kk_obj (daX2_init_0 1 rfl) hc1 ⟨Nat.le_of_ble_eq_true rfl, Nat.le_of_ble_eq_true rfl⟩ ?_
  refine GM_aload_n (pc := 4) 0 rfl (daX2_init_0 2 rfl) rfl ?_
  refine GM_iconst (pc := 5) 4 (daX2_init_0 3 rfl) rfl (R32_b rfl) ?_
  obtain ⟨hc2, h⟩ := chk_inv h
  obtain ⟨μ3, hμ3, h⟩ := lm_inv h
  refine GM_putf (pc := 6) 2 0 0 kf_X2_9 (Nat.le_of_ble_eq_true rfl) (Nat.le_of_ble_eq_true rfl) rfl rfl (daX2_init_0 4 rfl) hc2 (fun q => absurd q (by decide)) ?_
  refine GM_mem hμ3 ?_
  refine GM_aload_n (pc := 9) 0 rfl (daX2_init_0 5 rfl) rfl ?_
  refine GM_iconst (pc := 10) 4 (daX2_init_0 6 rfl) rfl (R32_b rfl) ?_
  obtain ⟨μ4, hμ4, h⟩ := lm_inv h
  refine GM_putf (pc := 11) 2 1 0 kf_X2_15 (Nat.le_of_ble_eq_true rfl) (Nat.le_of_ble_eq_true rfl) rfl rfl (daX2_init_0 7 rfl) hc2 (fun q => absurd q (by decide)) ?_
  refine GM_mem hμ4 ?_
  refine GM_aload_n (pc := 14) 0 rfl (daX2_init_0 8 rfl) rfl ?_
  refine GM_sipush (pc := 15) 999 (daX2_init_0 9 rfl) rfl (R32_b rfl) ?_
  obtain ⟨μ5, hμ5, h⟩ := lm_inv h
  refine GM_putf (pc := 18) 2 4 0 kf_X2_18 (Nat.le_of_ble_eq_true rfl) (Nat.le_of_ble_eq_true rfl) rfl rfl (daX2_init_0 10 rfl) hc2 (fun q => absurd q (by decide)) ?_
  refine GM_mem hμ5 ?_
  refine GM_aload_n (pc := 21) 0 rfl (daX2_init_0 11 rfl) rfl ?_
  refine GM_sipush (pc := 22) 144 (daX2_init_0 12 rfl) rfl (R32_b rfl) ?_
  obtain ⟨hc6, h⟩ := chk_inv h
  obtain ⟨c7, n7, hp, e1, e2⟩ := pay_inv h
  subst e1 e2
  replace h := hp
  clear hp
  rw [Nat.add_assoc, Nat.add_assoc]
  obtain ⟨μ8, hμ8, h⟩ := lm_inv h
  refine GM_newi (pc := 25) (N := 144) (v0 + 1) (daX2_init_0 13 rfl) hc6.1 hc6.2.1 (Nat.le_of_ble_eq_true rfl) hc6.2.2 ?_
  refine GM_mem hμ8 ?_
  obtain ⟨μ9, hμ9, h⟩ := lm_inv h
  refine GM_putF (pc := 27) 2 6 3 kf_X2_21 (Nat.le_of_ble_eq_true rfl) (Nat.le_of_ble_eq_true rfl) rfl rfl rfl rfl (daX2_init_0 14 rfl) hc2 (fun q => absurd q (by decide)) ?_
  refine GM_mem hμ9 ?_
  refine GM_aload_n (pc := 30) 0 rfl (daX2_init_0 15 rfl) rfl ?_
  refine GM_bipush (pc := 31) 12 (daX2_init_0 16 rfl) rfl (R32_b rfl) ?_
  obtain ⟨hc10, h⟩ := chk_inv h
  obtain ⟨c11, n11, hp, e1, e2⟩ := pay_inv h
  subst e1 e2
  replace h := hp
  clear hp
  rw [Nat.add_assoc, Nat.add_assoc]
  obtain ⟨μ12, hμ12, h⟩ := lm_inv h
  refine GM_newi (pc := 33) (N := 12) (v0 + 2) (daX2_init_0 17 rfl) hc10.1 hc10.2.1 (Nat.le_of_ble_eq_true rfl) hc10.2.2 ?_
  refine GM_mem hμ12 ?_
  obtain ⟨μ13, hμ13, h⟩ := lm_inv h
  refine GM_putF (pc := 35) 2 7 3 kf_X2_25 (Nat.le_of_ble_eq_true rfl) (Nat.le_of_ble_eq_true rfl) rfl rfl rfl rfl (daX2_init_0 18 rfl) hc2 (fun q => absurd q (by decide)) ?_
  refine GM_mem hμ13 ?_
  refine GM_aload_n (pc := 38) 0 rfl (daX2_init_0 19 rfl) rfl ?_
  refine GM_bipush (pc := 39) 12 (daX2_init_0 20 rfl) rfl (R32_b rfl) ?_
  obtain ⟨hc14, h⟩ := chk_inv h
  obtain ⟨c15, n15, hp, e1, e2⟩ := pay_inv h
  subst e1 e2
  replace h := hp
  clear hp
  rw [Nat.add_assoc, Nat.add_assoc]
  obtain ⟨μ16, hμ16, h⟩ := lm_inv h
  refine GM_newz (pc := 41) (N := 12) (v0 + 3) (daX2_init_0 21 rfl) hc14.1 hc14.2.1 (Nat.le_of_ble_eq_true rfl) hc14.2.2 ?_
  refine GM_mem hμ16 ?_
  obtain ⟨μ17, hμ17, h⟩ := lm_inv h
  refine GM_putF (pc := 43) 2 8 3 kf_X2_28 (Nat.le_of_ble_eq_true rfl) (Nat.le_of_ble_eq_true rfl) rfl rfl rfl rfl (daX2_init_0 22 rfl) hc2 (fun q => absurd q (by decide)) ?_
  refine GM_mem hμ17 ?_
  refine GM_aload_n (pc := 46) 0 rfl (daX2_init_0 23 rfl) rfl ?_
  refine GM_bipush (pc := 47) 12 (daX2_init_0 24 rfl) rfl (R32_b rfl) ?_
  obtain ⟨hc18, h⟩ := chk_inv h
  obtain ⟨c19, n19, hp, e1, e2⟩ := pay_inv h
  subst e1 e2
  replace h := hp
  clear hp
  rw [Nat.add_assoc, Nat.add_assoc]
  obtain ⟨μ20, hμ20, h⟩ := lm_inv h
  refine GM_newi (pc := 49) (N := 12) (v0 + 4) (daX2_init_0 25 rfl) hc18.1 hc18.2.1 (Nat.le_of_ble_eq_true rfl) hc18.2.2 ?_
  refine GM_mem hμ20 ?_
  obtain ⟨μ21, hμ21, h⟩ := lm_inv h
  refine GM_putF (pc := 51) 2 9 3 kf_X2_32 (Nat.le_of_ble_eq_true rfl) (Nat.le_of_ble_eq_true rfl) rfl rfl rfl rfl (daX2_init_0 26 rfl) hc2 (fun q => absurd q (by decide)) ?_
  refine GM_mem hμ21 ?_
  refine GM_aload_n (pc := 54) 0 rfl (daX2_init_0 27 rfl) rfl ?_
  refine GM_bipush (pc := 55) 12 (daX2_init_0 28 rfl) rfl (R32_b rfl) ?_
  obtain ⟨hc22, h⟩ := chk_inv h
  obtain ⟨c23, n23, hp, e1, e2⟩ := pay_inv h
  subst e1 e2
  replace h := hp
  clear hp
  rw [Nat.add_assoc, Nat.add_assoc]
  obtain ⟨μ24, hμ24, h⟩ := lm_inv h
  refine GM_newi (pc := 57) (N := 12) (v0 + 5) (daX2_init_0 29 rfl) hc22.1 hc22.2.1 (Nat.le_of_ble_eq_true rfl) hc22.2.2 ?_
  refine GM_mem hμ24 ?_
  obtain ⟨μ25, hμ25, h⟩ := lm_inv h
  refine GM_putF (pc := 59) 2 10 3 kf_X2_35 (Nat.le_of_ble_eq_true rfl) (Nat.le_of_ble_eq_true rfl) rfl rfl rfl rfl (daX2_init_0 30 rfl) hc2 (fun q => absurd q (by decide)) ?_
  refine GM_mem hμ25 ?_
  cases h
  exact GM_vret (pc := 62) (daX2_init_0 31 rfl) rfl hK
theorem tX2_init (l : Launch) {v0 : Int} {μ : Mm} {t : Mm} {c0 n0 : Nat} (h : fX2_init v0 μ = some (t, c0, n0)) : Ct l yX2_init mX2_init [(3, v0)] μ ([], t, c0, n0) :=
  Ct_of (by decide +kernel) rfl rfl (Nat.le_of_ble_eq_true rfl) (fun _ _ _ => trivial) (gX2_init_0 (k := 0) (n := 0) l h ⟨rfl, rfl⟩)
def mX2_clear : MI := (RX2, cX2_clear, 1, none, "clear", 1, 23, fun _ _ _ => True)
theorem cwX2_clear : CWd yX2_clear mX2_clear 0 := ⟨ki_X2, kk_X2_clear, ⟨by decide, by decide⟩, rfl⟩
def dtX2_clear_0 : List (Nat × Instr × Nat) := [(0, .aload_n 0, 1), (1, .iconst 4, 1), (2, .putfield 9, 3), (5, .aload_n 0, 1), (6, .iconst 4, 1), (7, .putfield 15, 3), (10, .aload_n 0, 1), (11, .iconst 0, 1), (12, .putfield 38, 3), (15, .aload_n 0, 1), (16, .iconst 0, 1), (17, .putfield 41, 3), (20, .aload_n 0, 1), (21, .sipush 999, 3), (24, .putfield 18, 3), (27, .aload_n 0, 1), (28, .iconst 0, 1), (29, .putfield 44, 3), (32, .aload_n 0, 1), (33, .getfield 21, 3), (36, .iconst 0, 1), (37, .invokestatic 47, 3), (40, .return_, 1)]
theorem ddX2_clear_0 : (dtX2_clear_0.all fun e => decide (decode mX2_clear.2.1 e.1 = .ok (e.2.1, e.2.2))) = true := by decide +kernel
theorem daX2_clear_0 (j : Nat) {pc n : Nat} {i : Instr} (h : dtX2_clear_0[j]? = some (pc, i, n)) : decode mX2_clear.2.1 pc = .ok (i, n) := dec_of (c := mX2_clear.2.1) ddX2_clear_0 h
def fX2_clear (v0 : Int) (μ : Mm) : Option Mm :=
  chk (KD v0 = 2) (
  lm (mst μ v0 0 4) fun μ2 =>
  lm (mst μ2 v0 1 4) fun μ3 =>
  lm (mst μ3 v0 2 0) fun μ4 =>
  lm (mst μ4 v0 3 0) fun μ5 =>
  lm (mst μ5 v0 4 999) fun μ6 =>
  lm (mst μ6 v0 5 0) fun μ7 =>
  (fJ7_fill_53178 (μ7 v0 6) 0 μ7).bind fun μ8 =>
  some μ8)
set_option maxRecDepth 20000 in
theorem gX2_clear_0 (l : Launch) {F : FI} {v0 : Int} {μ : Mm} {t : Mm} (h : fX2_clear v0 μ = some t) (hK : F.1 = [] ∧ F.2.1 = t) : GM l mX2_clear F 0 0 0 [(0, (3, v0))] [] μ := by
  unfold fX2_clear at h
  refine GM_aload_n (pc := 0) 0 rfl (daX2_clear_0 0 rfl) rfl ?_
  refine GM_iconst (pc := 1) 4 (daX2_clear_0 1 rfl) rfl (R32_b rfl) ?_
  obtain ⟨hc1, h⟩ := chk_inv h
  obtain ⟨μ2, hμ2, h⟩ := lm_inv h
  refine GM_putf (pc := 2) 2 0 0 kf_X2_9 (Nat.le_of_ble_eq_true rfl) (Nat.le_of_ble_eq_true rfl) rfl rfl (daX2_clear_0 2 rfl) hc1 (fun q => absurd q (by decide)) ?_
  refine GM_mem hμ2 ?_
  refine GM_aload_n (pc := 5) 0 rfl (daX2_clear_0 3 rfl) rfl ?_
  refine GM_iconst (pc := 6) 4 (daX2_clear_0 4 rfl) rfl (R32_b rfl) ?_
  obtain ⟨μ3, hμ3, h⟩ := lm_inv h
  refine GM_putf (pc := 7) 2 1 0 kf_X2_15 (Nat.le_of_ble_eq_true rfl) (Nat.le_of_ble_eq_true rfl) rfl rfl (daX2_clear_0 5 rfl) hc1 (fun q => absurd q (by decide)) ?_
  refine GM_mem hμ3 ?_
  refine GM_aload_n (pc := 10) 0 rfl (daX2_clear_0 6 rfl) rfl ?_
  refine GM_iconst (pc := 11) 0 (daX2_clear_0 7 rfl) rfl (R32_b rfl) ?_
  obtain ⟨μ4, hμ4, h⟩ := lm_inv h
  refine GM_putf (pc := 12) 2 2 0 kf_X2_38 (Nat.le_of_ble_eq_true rfl) (Nat.le_of_ble_eq_true rfl) rfl rfl (daX2_clear_0 8 rfl) hc1 (fun q => absurd q (by decide)) ?_
  refine GM_mem hμ4 ?_
  refine GM_aload_n (pc := 15) 0 rfl (daX2_clear_0 9 rfl) rfl ?_
  refine GM_iconst (pc := 16) 0 (daX2_clear_0 10 rfl) rfl (R32_b rfl) ?_
  obtain ⟨μ5, hμ5, h⟩ := lm_inv h
  refine GM_putf (pc := 17) 2 3 0 kf_X2_41 (Nat.le_of_ble_eq_true rfl) (Nat.le_of_ble_eq_true rfl) rfl rfl (daX2_clear_0 11 rfl) hc1 (fun q => absurd q (by decide)) ?_
  refine GM_mem hμ5 ?_
  refine GM_aload_n (pc := 20) 0 rfl (daX2_clear_0 12 rfl) rfl ?_
  refine GM_sipush (pc := 21) 999 (daX2_clear_0 13 rfl) rfl (R32_b rfl) ?_
  obtain ⟨μ6, hμ6, h⟩ := lm_inv h
  refine GM_putf (pc := 24) 2 4 0 kf_X2_18 (Nat.le_of_ble_eq_true rfl) (Nat.le_of_ble_eq_true rfl) rfl rfl (daX2_clear_0 14 rfl) hc1 (fun q => absurd q (by decide)) ?_
  refine GM_mem hμ6 ?_
  refine GM_aload_n (pc := 27) 0 rfl (daX2_clear_0 15 rfl) rfl ?_
  refine GM_iconst (pc := 28) 0 (daX2_clear_0 16 rfl) rfl (R32_b rfl) ?_
  obtain ⟨μ7, hμ7, h⟩ := lm_inv h
  refine GM_putf (pc := 29) 2 5 0 kf_X2_44 (Nat.le_of_ble_eq_true rfl) (Nat.le_of_ble_eq_true rfl) rfl rfl (daX2_clear_0 17 rfl) hc1 (fun q => absurd q (by decide)) ?_
  refine GM_mem hμ7 ?_
  refine GM_aload_n (pc := 32) 0 rfl (daX2_clear_0 18 rfl) rfl ?_
  refine GM_getf (pc := 33) 2 6 3 6 kf_X2_21 (Nat.le_of_ble_eq_true rfl) (Nat.le_of_ble_eq_true rfl) rfl (daX2_clear_0 19 rfl) hc1 rfl ?_
  refine GM_iconst (pc := 36) 0 (daX2_clear_0 20 rfl) rfl (R32_b rfl) ?_
  obtain ⟨μ8, hf8, h⟩ := Option.bind_eq_some_iff.mp h
  refine GM_callS0 (pc := 37) [(3, μ7 v0 6), (0, 0)] (tJ7_fill_53178 l hf8) cwJ7_fill_53178 ks_J7_fill_53178 km_X2_47 ⟨Nat.le_of_ble_eq_true rfl, Nat.le_of_ble_eq_true rfl⟩ (Nat.le_of_ble_eq_true rfl) (Nat.le_of_ble_eq_true rfl) (daX2_clear_0 21 rfl) ?_
  cases h
  exact GM_vret (pc := 40) (daX2_clear_0 22 rfl) rfl hK
theorem tX2_clear (l : Launch) {v0 : Int} {μ : Mm} {t : Mm} (h : fX2_clear v0 μ = some t) : Ct l yX2_clear mX2_clear [(3, v0)] μ ([], t, 0, 0) :=
  Ct_of (by decide +kernel) rfl rfl (Nat.le_of_ble_eq_true rfl) (fun _ _ _ => trivial) (gX2_clear_0 l h ⟨rfl, rfl⟩)
def mX2_take : MI := (RX2, cX2_take, 3, none, "take", 1, 60, fun _ _ _ => True)
theorem cwX2_take : CWd yX2_take mX2_take 1 := ⟨ki_X2, kk_X2_take, ⟨by decide, by decide⟩, rfl⟩
def dtX2_take_0 : List (Nat × Instr × Nat) := [(0, .aload_n 0, 1), (1, .aload_n 1, 1), (2, .getfield 9, 3), (5, .putfield 9, 3), (8, .aload_n 0, 1), (9, .aload_n 1, 1), (10, .getfield 15, 3), (13, .putfield 15, 3), (16, .aload_n 0, 1), (17, .aload_n 1, 1), (18, .getfield 38, 3), (21, .putfield 38, 3), (24, .aload_n 0, 1), (25, .aload_n 1, 1), (26, .getfield 41, 3), (29, .putfield 41, 3), (32, .aload_n 0, 1), (33, .aload_n 1, 1), (34, .getfield 18, 3), (37, .putfield 18, 3), (40, .aload_n 0, 1), (41, .aload_n 1, 1), (42, .getfield 44, 3), (45, .putfield 44, 3), (48, .aload_n 1, 1), (49, .getfield 21, 3), (52, .iconst 0, 1), (53, .aload_n 0, 1), (54, .getfield 21, 3), (57, .iconst 0, 1), (58, .sipush 144, 3), (61, .invokestatic 53, 3), (64, .aload_n 1, 1), (65, .getfield 25, 3), (68, .iconst 0, 1), (69, .aload_n 0, 1), (70, .getfield 25, 3), (73, .iconst 0, 1), (74, .bipush 12, 2), (76, .invokestatic 53, 3), (79, .aload_n 1, 1), (80, .getfield 32, 3), (83, .iconst 0, 1), (84, .aload_n 0, 1), (85, .getfield 32, 3), (88, .iconst 0, 1), (89, .bipush 12, 2), (91, .invokestatic 53, 3), (94, .aload_n 1, 1), (95, .getfield 35, 3), (98, .iconst 0, 1), (99, .aload_n 0, 1), (100, .getfield 35, 3), (103, .iconst 0, 1), (104, .bipush 12, 2), (106, .invokestatic 53, 3), (109, .iconst 0, 1), (110, .istore_n 2, 1), (111, .iload_n 2, 1), (112, .bipush 12, 2), (114, .if_icmp .ge 21, 3), (117, .aload_n 0, 1), (118, .getfield 28, 3), (121, .iload_n 2, 1)]
theorem ddX2_take_0 : (dtX2_take_0.all fun e => decide (decode mX2_take.2.1 e.1 = .ok (e.2.1, e.2.2))) = true := by decide +kernel
theorem daX2_take_0 (j : Nat) {pc n : Nat} {i : Instr} (h : dtX2_take_0[j]? = some (pc, i, n)) : decode mX2_take.2.1 pc = .ok (i, n) := dec_of (c := mX2_take.2.1) ddX2_take_0 h
def dtX2_take_1 : List (Nat × Instr × Nat) := [(122, .aload_n 1, 1), (123, .getfield 28, 3), (126, .iload_n 2, 1), (127, .baload, 1), (128, .bastore, 1), (129, .iinc 2 1, 3), (132, .goto (-21), 3), (135, .return_, 1)]
theorem ddX2_take_1 : (dtX2_take_1.all fun e => decide (decode mX2_take.2.1 e.1 = .ok (e.2.1, e.2.2))) = true := by decide +kernel
theorem daX2_take_1 (j : Nat) {pc n : Nat} {i : Instr} (h : dtX2_take_1[j]? = some (pc, i, n)) : decode mX2_take.2.1 pc = .ok (i, n) := dec_of (c := mX2_take.2.1) ddX2_take_1 h
def zX2_take_111 (l : Launch) (F : FI) (v0 v1 : Int) (k n : Nat) : (Int × Mm) ⊕ Mm → Prop
  | .inl (v2, μ) => GM l mX2_take F k n 111 [(0, (3, v0)), (1, (3, v1)), (2, (0, v2))] [] μ
  | .inr μ => GM l mX2_take F k n 135 [] [] μ
def sX2_take_111 (v0 v1 : Int) : (Int × Mm) → Option ((Int × Mm) ⊕ Mm) := fun (v2, μ) =>
  if 12 ≤ v2 then
    some (.inr μ)
  else
    chk (KD v0 = 2) (
    chk (KD v1 = 2) (
    chk (KD (μ v1 8) = 14 ∧ 0 ≤ v2 ∧ v2 < LN (μ v1 8)) (
    chk (KD (μ v0 8) = 14 ∧ v2 < LN (μ v0 8) ∧ (μ (μ v1 8) v2 = 0 ∨ μ (μ v1 8) v2 = 1)) (
    lm (mst μ (μ v0 8) v2 (μ (μ v1 8) v2)) fun μ6 =>
    some (.inl (w32 (v2 + 1), μ6))))))
def fX2_take (v0 v1 : Int) (μ : Mm) : Option Mm :=
  chk (KD v1 = 2) (
  chk (KD v0 = 2) (
  lm (mst μ v0 0 (μ v1 0)) fun μ9 =>
  lm (mst μ9 v0 1 (μ9 v1 1)) fun μ10 =>
  lm (mst μ10 v0 2 (μ10 v1 2)) fun μ11 =>
  lm (mst μ11 v0 3 (μ11 v1 3)) fun μ12 =>
  lm (mst μ12 v0 4 (μ12 v1 4)) fun μ13 =>
  lm (mst μ13 v0 5 (μ13 v1 5)) fun μ14 =>
  chk (KD (μ14 v1 6) = 12 ∧ KD (μ14 v0 6) = 12 ∧ ((0 : Int) ≤ 0 ∧ (0 : Int) ≤ 0 ∧ (0 : Int) ≤ 144) ∧ 0 + 144 ≤ LN (μ14 v1 6) ∧ 0 + 144 ≤ LN (μ14 v0 6)) (
  lm (mcp μ14 (μ14 v1 6) 0 (μ14 v0 6) 0 144) fun μ16 =>
  chk (KD (μ16 v1 7) = 12 ∧ KD (μ16 v0 7) = 12 ∧ ((0 : Int) ≤ 0 ∧ (0 : Int) ≤ 0 ∧ (0 : Int) ≤ 12) ∧ 0 + 12 ≤ LN (μ16 v1 7) ∧ 0 + 12 ≤ LN (μ16 v0 7)) (
  lm (mcp μ16 (μ16 v1 7) 0 (μ16 v0 7) 0 12) fun μ18 =>
  chk (KD (μ18 v1 9) = 12 ∧ KD (μ18 v0 9) = 12 ∧ 0 + 12 ≤ LN (μ18 v1 9) ∧ 0 + 12 ≤ LN (μ18 v0 9)) (
  lm (mcp μ18 (μ18 v1 9) 0 (μ18 v0 9) 0 12) fun μ20 =>
  chk (KD (μ20 v1 10) = 12 ∧ KD (μ20 v0 10) = 12 ∧ 0 + 12 ≤ LN (μ20 v1 10) ∧ 0 + 12 ≤ LN (μ20 v0 10)) (
  lm (mcp μ20 (μ20 v1 10) 0 (μ20 v0 10) 0 12) fun μ22 =>
  (lop (sX2_take_111 v0 v1) FU (0, μ22)).bind fun μ_24 =>
    some μ_24))))))
set_option maxRecDepth 20000 in
theorem qX2_take_111 (l : Launch) (F : FI) (v0 v1 : Int) (k n : Nat) : ∀ (q : (Int × Mm)) (t : ((Int × Mm) ⊕ Mm)), sX2_take_111 v0 v1 q = some t → zX2_take_111 l F v0 v1 k n t → zX2_take_111 l F v0 v1 k n (.inl q) := by
  intro q t h hK
  obtain ⟨v2, μ⟩ := q
  unfold sX2_take_111 at h
  try dsimp only at h
  show GM l mX2_take F k n 111 [(0, (3, v0)), (1, (3, v1)), (2, (0, v2))] [] μ
  refine GM_iload_n (pc := 111) 2 rfl (daX2_take_0 58 rfl) rfl ?_
  refine GM_bipush (pc := 112) 12 (daX2_take_0 59 rfl) rfl (R32_b rfl) ?_
  refine GM_icmp_ge (pc := 114) 135 (daX2_take_0 60 rfl) rfl (fun c1 => ?_) (fun c1 => ?_)
  · skip
    rw [if_pos c1] at h
    refine GM_pick [] rfl ?_
    cases h
    exact hK
  · skip
    rw [if_neg c1] at h
    refine GM_aload_n (pc := 117) 0 rfl (daX2_take_0 61 rfl) rfl ?_
    obtain ⟨hc2, h⟩ := chk_inv h
    refine GM_getf (pc := 118) 2 8 3 8 kf_X2_28 (Nat.le_of_ble_eq_true rfl) (Nat.le_of_ble_eq_true rfl) rfl (daX2_take_0 62 rfl) hc2 rfl ?_
    refine GM_iload_n (pc := 121) 2 rfl (daX2_take_0 63 rfl) rfl ?_
    refine GM_aload_n (pc := 122) 1 rfl (daX2_take_1 0 rfl) rfl ?_
    obtain ⟨hc3, h⟩ := chk_inv h
    refine GM_getf (pc := 123) 2 8 3 8 kf_X2_28 (Nat.le_of_ble_eq_true rfl) (Nat.le_of_ble_eq_true rfl) rfl (daX2_take_1 1 rfl) hc3 rfl ?_
    refine GM_iload_n (pc := 126) 2 rfl (daX2_take_1 2 rfl) rfl ?_
    obtain ⟨hc4, h⟩ := chk_inv h
    refine GM_zald (pc := 127) (daX2_take_1 3 rfl) hc4.1 hc4.2.1 hc4.2.2 ?_
    obtain ⟨hc5, h⟩ := chk_inv h
    obtain ⟨μ6, hμ6, h⟩ := lm_inv h
    refine GM_zast (pc := 128) (daX2_take_1 4 rfl) hc5.1 hc4.2.1 hc5.2.1 hc5.2.2 ?_
    refine GM_mem hμ6 ?_
    refine GM_iinc (L' := [(2, (0, w32 (v2 + 1))), (0, (3, v0)), (1, (3, v1))]) (pc := 129) 2 rfl (daX2_take_1 5 rfl) (Nat.le_of_ble_eq_true rfl) rfl ?_
    refine GM_goto (pc := 132) 111 (daX2_take_1 6 rfl) rfl ?_
    refine GM_pick [1, 2, 0] rfl ?_
    cases h
    exact hK
set_option maxRecDepth 20000 in
theorem gX2_take_0 (l : Launch) {F : FI} {v0 v1 : Int} {μ : Mm} {t : Mm} (h : fX2_take v0 v1 μ = some t) (hK : F.1 = [] ∧ F.2.1 = t) : GM l mX2_take F 0 0 0 [(0, (3, v0)), (1, (3, v1))] [] μ := by
  unfold fX2_take at h
  refine GM_aload_n (pc := 0) 0 rfl (daX2_take_0 0 rfl) rfl ?_
  refine GM_aload_n (pc := 1) 1 rfl (daX2_take_0 1 rfl) rfl ?_
  obtain ⟨hc7, h⟩ := chk_inv h
  refine GM_getf (pc := 2) 2 0 0 0 kf_X2_9 (Nat.le_of_ble_eq_true rfl) (Nat.le_of_ble_eq_true rfl) rfl (daX2_take_0 2 rfl) hc7 rfl ?_
  obtain ⟨hc8, h⟩ := chk_inv h
  obtain ⟨μ9, hμ9, h⟩ := lm_inv h
  refine GM_putf (pc := 5) 2 0 0 kf_X2_9 (Nat.le_of_ble_eq_true rfl) (Nat.le_of_ble_eq_true rfl) rfl rfl (daX2_take_0 3 rfl) hc8 (fun q => absurd q (by decide)) ?_
  refine GM_mem hμ9 ?_
  refine GM_aload_n (pc := 8) 0 rfl (daX2_take_0 4 rfl) rfl ?_
  refine GM_aload_n (pc := 9) 1 rfl (daX2_take_0 5 rfl) rfl ?_
  refine GM_getf (pc := 10) 2 1 0 1 kf_X2_15 (Nat.le_of_ble_eq_true rfl) (Nat.le_of_ble_eq_true rfl) rfl (daX2_take_0 6 rfl) hc7 rfl ?_
  obtain ⟨μ10, hμ10, h⟩ := lm_inv h
  refine GM_putf (pc := 13) 2 1 0 kf_X2_15 (Nat.le_of_ble_eq_true rfl) (Nat.le_of_ble_eq_true rfl) rfl rfl (daX2_take_0 7 rfl) hc8 (fun q => absurd q (by decide)) ?_
  refine GM_mem hμ10 ?_
  refine GM_aload_n (pc := 16) 0 rfl (daX2_take_0 8 rfl) rfl ?_
  refine GM_aload_n (pc := 17) 1 rfl (daX2_take_0 9 rfl) rfl ?_
  refine GM_getf (pc := 18) 2 2 0 2 kf_X2_38 (Nat.le_of_ble_eq_true rfl) (Nat.le_of_ble_eq_true rfl) rfl (daX2_take_0 10 rfl) hc7 rfl ?_
  obtain ⟨μ11, hμ11, h⟩ := lm_inv h
  refine GM_putf (pc := 21) 2 2 0 kf_X2_38 (Nat.le_of_ble_eq_true rfl) (Nat.le_of_ble_eq_true rfl) rfl rfl (daX2_take_0 11 rfl) hc8 (fun q => absurd q (by decide)) ?_
  refine GM_mem hμ11 ?_
  refine GM_aload_n (pc := 24) 0 rfl (daX2_take_0 12 rfl) rfl ?_
  refine GM_aload_n (pc := 25) 1 rfl (daX2_take_0 13 rfl) rfl ?_
  refine GM_getf (pc := 26) 2 3 0 3 kf_X2_41 (Nat.le_of_ble_eq_true rfl) (Nat.le_of_ble_eq_true rfl) rfl (daX2_take_0 14 rfl) hc7 rfl ?_
  obtain ⟨μ12, hμ12, h⟩ := lm_inv h
  refine GM_putf (pc := 29) 2 3 0 kf_X2_41 (Nat.le_of_ble_eq_true rfl) (Nat.le_of_ble_eq_true rfl) rfl rfl (daX2_take_0 15 rfl) hc8 (fun q => absurd q (by decide)) ?_
  refine GM_mem hμ12 ?_
  refine GM_aload_n (pc := 32) 0 rfl (daX2_take_0 16 rfl) rfl ?_
  refine GM_aload_n (pc := 33) 1 rfl (daX2_take_0 17 rfl) rfl ?_
  refine GM_getf (pc := 34) 2 4 0 4 kf_X2_18 (Nat.le_of_ble_eq_true rfl) (Nat.le_of_ble_eq_true rfl) rfl (daX2_take_0 18 rfl) hc7 rfl ?_
  obtain ⟨μ13, hμ13, h⟩ := lm_inv h
  refine GM_putf (pc := 37) 2 4 0 kf_X2_18 (Nat.le_of_ble_eq_true rfl) (Nat.le_of_ble_eq_true rfl) rfl rfl (daX2_take_0 19 rfl) hc8 (fun q => absurd q (by decide)) ?_
  refine GM_mem hμ13 ?_
  refine GM_aload_n (pc := 40) 0 rfl (daX2_take_0 20 rfl) rfl ?_
  refine GM_aload_n (pc := 41) 1 rfl (daX2_take_0 21 rfl) rfl ?_
  refine GM_getf (pc := 42) 2 5 0 5 kf_X2_44 (Nat.le_of_ble_eq_true rfl) (Nat.le_of_ble_eq_true rfl) rfl (daX2_take_0 22 rfl) hc7 rfl ?_
  obtain ⟨μ14, hμ14, h⟩ := lm_inv h
  refine GM_putf (pc := 45) 2 5 0 kf_X2_44 (Nat.le_of_ble_eq_true rfl) (Nat.le_of_ble_eq_true rfl) rfl rfl (daX2_take_0 23 rfl) hc8 (fun q => absurd q (by decide)) ?_
  refine GM_mem hμ14 ?_
  refine GM_aload_n (pc := 48) 1 rfl (daX2_take_0 24 rfl) rfl ?_
  refine GM_getf (pc := 49) 2 6 3 6 kf_X2_21 (Nat.le_of_ble_eq_true rfl) (Nat.le_of_ble_eq_true rfl) rfl (daX2_take_0 25 rfl) hc7 rfl ?_
  refine GM_iconst (pc := 52) 0 (daX2_take_0 26 rfl) rfl (R32_b rfl) ?_
  refine GM_aload_n (pc := 53) 0 rfl (daX2_take_0 27 rfl) rfl ?_
  refine GM_getf (pc := 54) 2 6 3 6 kf_X2_21 (Nat.le_of_ble_eq_true rfl) (Nat.le_of_ble_eq_true rfl) rfl (daX2_take_0 28 rfl) hc8 rfl ?_
  refine GM_iconst (pc := 57) 0 (daX2_take_0 29 rfl) rfl (R32_b rfl) ?_
  refine GM_sipush (pc := 58) 144 (daX2_take_0 30 rfl) rfl (R32_b rfl) ?_
  obtain ⟨hc15, h⟩ := chk_inv h
  obtain ⟨μ16, hμ16, h⟩ := lm_inv h
  refine GM_copyi (pc := 61) km_X2_53 ks__java_lang_System_arraycopy__Ljava_lang_Object_ILjava_lang_Object_II_V_ ki_J10 kt_arraycopy (daX2_take_0 31 rfl) ⟨Nat.le_of_ble_eq_true rfl, Nat.le_of_ble_eq_true rfl⟩ hc15.1 hc15.2.1 hc15.2.2.1 hc15.2.2.2.1 hc15.2.2.2.2 ?_
  refine GM_mem hμ16 ?_
  refine GM_aload_n (pc := 64) 1 rfl (daX2_take_0 32 rfl) rfl ?_
  refine GM_getf (pc := 65) 2 7 3 7 kf_X2_25 (Nat.le_of_ble_eq_true rfl) (Nat.le_of_ble_eq_true rfl) rfl (daX2_take_0 33 rfl) hc7 rfl ?_
  refine GM_iconst (pc := 68) 0 (daX2_take_0 34 rfl) rfl (R32_b rfl) ?_
  refine GM_aload_n (pc := 69) 0 rfl (daX2_take_0 35 rfl) rfl ?_
  refine GM_getf (pc := 70) 2 7 3 7 kf_X2_25 (Nat.le_of_ble_eq_true rfl) (Nat.le_of_ble_eq_true rfl) rfl (daX2_take_0 36 rfl) hc8 rfl ?_
  refine GM_iconst (pc := 73) 0 (daX2_take_0 37 rfl) rfl (R32_b rfl) ?_
  refine GM_bipush (pc := 74) 12 (daX2_take_0 38 rfl) rfl (R32_b rfl) ?_
  obtain ⟨hc17, h⟩ := chk_inv h
  obtain ⟨μ18, hμ18, h⟩ := lm_inv h
  refine GM_copyi (pc := 76) km_X2_53 ks__java_lang_System_arraycopy__Ljava_lang_Object_ILjava_lang_Object_II_V_ ki_J10 kt_arraycopy (daX2_take_0 39 rfl) ⟨Nat.le_of_ble_eq_true rfl, Nat.le_of_ble_eq_true rfl⟩ hc17.1 hc17.2.1 hc17.2.2.1 hc17.2.2.2.1 hc17.2.2.2.2 ?_
  refine GM_mem hμ18 ?_
  refine GM_aload_n (pc := 79) 1 rfl (daX2_take_0 40 rfl) rfl ?_
  refine GM_getf (pc := 80) 2 9 3 9 kf_X2_32 (Nat.le_of_ble_eq_true rfl) (Nat.le_of_ble_eq_true rfl) rfl (daX2_take_0 41 rfl) hc7 rfl ?_
  refine GM_iconst (pc := 83) 0 (daX2_take_0 42 rfl) rfl (R32_b rfl) ?_
  refine GM_aload_n (pc := 84) 0 rfl (daX2_take_0 43 rfl) rfl ?_
  refine GM_getf (pc := 85) 2 9 3 9 kf_X2_32 (Nat.le_of_ble_eq_true rfl) (Nat.le_of_ble_eq_true rfl) rfl (daX2_take_0 44 rfl) hc8 rfl ?_
  refine GM_iconst (pc := 88) 0 (daX2_take_0 45 rfl) rfl (R32_b rfl) ?_
  refine GM_bipush (pc := 89) 12 (daX2_take_0 46 rfl) rfl (R32_b rfl) ?_
  obtain ⟨hc19, h⟩ := chk_inv h
  obtain ⟨μ20, hμ20, h⟩ := lm_inv h
  refine GM_copyi (pc := 91) km_X2_53 ks__java_lang_System_arraycopy__Ljava_lang_Object_ILjava_lang_Object_II_V_ ki_J10 kt_arraycopy (daX2_take_0 47 rfl) ⟨Nat.le_of_ble_eq_true rfl, Nat.le_of_ble_eq_true rfl⟩ hc19.1 hc19.2.1 hc17.2.2.1 hc19.2.2.1 hc19.2.2.2 ?_
  refine GM_mem hμ20 ?_
  refine GM_aload_n (pc := 94) 1 rfl (daX2_take_0 48 rfl) rfl ?_
  refine GM_getf (pc := 95) 2 10 3 10 kf_X2_35 (Nat.le_of_ble_eq_true rfl) (Nat.le_of_ble_eq_true rfl) rfl (daX2_take_0 49 rfl) hc7 rfl ?_
  refine GM_iconst (pc := 98) 0 (daX2_take_0 50 rfl) rfl (R32_b rfl) ?_
  refine GM_aload_n (pc := 99) 0 rfl (daX2_take_0 51 rfl) rfl ?_
  refine GM_getf (pc := 100) 2 10 3 10 kf_X2_35 (Nat.le_of_ble_eq_true rfl) (Nat.le_of_ble_eq_true rfl) rfl (daX2_take_0 52 rfl) hc8 rfl ?_
  refine GM_iconst (pc := 103) 0 (daX2_take_0 53 rfl) rfl (R32_b rfl) ?_
  refine GM_bipush (pc := 104) 12 (daX2_take_0 54 rfl) rfl (R32_b rfl) ?_
  obtain ⟨hc21, h⟩ := chk_inv h
  obtain ⟨μ22, hμ22, h⟩ := lm_inv h
  refine GM_copyi (pc := 106) km_X2_53 ks__java_lang_System_arraycopy__Ljava_lang_Object_ILjava_lang_Object_II_V_ ki_J10 kt_arraycopy (daX2_take_0 55 rfl) ⟨Nat.le_of_ble_eq_true rfl, Nat.le_of_ble_eq_true rfl⟩ hc21.1 hc21.2.1 hc17.2.2.1 hc21.2.2.1 hc21.2.2.2 ?_
  refine GM_mem hμ22 ?_
  refine GM_iconst (pc := 109) 0 (daX2_take_0 56 rfl) rfl (R32_b rfl) ?_
  refine GM_istore_n (L' := [(2, (0, 0)), (0, (3, v0)), (1, (3, v1))]) (pc := 110) (daX2_take_0 57 rfl) rfl (Nat.le_of_ble_eq_true rfl) rfl ?_
  refine GM_pick [1, 2, 0] rfl ?_
  obtain ⟨x23, hqx23, h⟩ := Option.bind_eq_some_iff.mp h
  refine lop_ind (zX2_take_111 l F v0 v1 0 0) (qX2_take_111 l F v0 v1 0 0) FU _ x23 hqx23 ?_
  obtain ⟨μ_24, hqq⟩ : ∃ z, z = x23 := ⟨x23, rfl⟩
  subst hqq
  show GM l mX2_take F 0 0 135 [] [] μ_24
  cases h
  exact GM_vret (pc := 135) (daX2_take_1 7 rfl) rfl hK
theorem tX2_take (l : Launch) {v0 v1 : Int} {μ : Mm} {t : Mm} (h : fX2_take v0 v1 μ = some t) : Ct l yX2_take mX2_take [(3, v0), (3, v1)] μ ([], t, 0, 0) :=
  Ct_of (by decide +kernel) rfl rfl (Nat.le_of_ble_eq_true rfl) (fun _ _ _ => trivial) (gX2_take_0 l h ⟨rfl, rfl⟩)
def mX2_addThing : MI := (RX2, cX2_addThing, 5, none, "addThing", 0, 0, fun _ _ _ => True)
theorem cwX2_addThing : CWd yX2_addThing mX2_addThing 4 := ⟨ki_X2, kk_X2_addThing, ⟨by decide, by decide⟩, rfl⟩
def dtX2_addThing_0 : List (Nat × Instr × Nat) := [(0, .aload_n 0, 1), (1, .getfield 44, 3), (4, .bipush 12, 2), (6, .if_icmp .ge 54, 3), (9, .aload_n 0, 1), (10, .getfield 25, 3), (13, .aload_n 0, 1), (14, .getfield 44, 3), (17, .iload_n 1, 1), (18, .iastore, 1), (19, .aload_n 0, 1), (20, .getfield 28, 3), (23, .aload_n 0, 1), (24, .getfield 44, 3), (27, .iload_n 2, 1), (28, .bastore, 1), (29, .aload_n 0, 1), (30, .getfield 32, 3), (33, .aload_n 0, 1), (34, .getfield 44, 3), (37, .iload_n 3, 1), (38, .iastore, 1), (39, .aload_n 0, 1), (40, .getfield 35, 3), (43, .aload_n 0, 1), (44, .getfield 44, 3), (47, .iload 4, 2), (49, .iastore, 1), (50, .aload_n 0, 1), (51, .dup, 1), (52, .getfield 44, 3), (55, .iconst 1, 1), (56, .iadd, 1), (57, .putfield 44, 3), (60, .return_, 1)]
theorem ddX2_addThing_0 : (dtX2_addThing_0.all fun e => decide (decode mX2_addThing.2.1 e.1 = .ok (e.2.1, e.2.2))) = true := by decide +kernel
theorem daX2_addThing_0 (j : Nat) {pc n : Nat} {i : Instr} (h : dtX2_addThing_0[j]? = some (pc, i, n)) : decode mX2_addThing.2.1 pc = .ok (i, n) := dec_of (c := mX2_addThing.2.1) ddX2_addThing_0 h
def fX2_addThing (v0 v1 v2 v3 v4 : Int) (μ : Mm) : Option Mm :=
  chk (KD v0 = 2) (
  if 12 ≤ μ v0 5 then
    some μ
  else
    chk (KD (μ v0 7) = 12 ∧ 0 ≤ μ v0 5 ∧ μ v0 5 < LN (μ v0 7)) (
    lm (mst μ (μ v0 7) (μ v0 5) v1) fun μ4 =>
    chk (KD (μ4 v0 8) = 14 ∧ 0 ≤ μ4 v0 5 ∧ μ4 v0 5 < LN (μ4 v0 8) ∧ (v2 = 0 ∨ v2 = 1)) (
    lm (mst μ4 (μ4 v0 8) (μ4 v0 5) v2) fun μ6 =>
    chk (KD (μ6 v0 9) = 12 ∧ 0 ≤ μ6 v0 5 ∧ μ6 v0 5 < LN (μ6 v0 9)) (
    lm (mst μ6 (μ6 v0 9) (μ6 v0 5) v3) fun μ8 =>
    chk (KD (μ8 v0 10) = 12 ∧ 0 ≤ μ8 v0 5 ∧ μ8 v0 5 < LN (μ8 v0 10)) (
    lm (mst μ8 (μ8 v0 10) (μ8 v0 5) v4) fun μ10 =>
    lm (mst μ10 v0 5 (w32 ((μ10 v0 5) + 1))) fun μ11 =>
    some μ11)))))
set_option maxRecDepth 20000 in
theorem gX2_addThing_0 (l : Launch) {F : FI} {v0 v1 v2 v3 v4 : Int} {μ : Mm} {t : Mm} (h : fX2_addThing v0 v1 v2 v3 v4 μ = some t) (hK : F.1 = [] ∧ F.2.1 = t) : GM l mX2_addThing F 0 0 0 [(0, (3, v0)), (1, (0, v1)), (2, (0, v2)), (3, (0, v3)), (4, (0, v4))] [] μ := by
  unfold fX2_addThing at h
  refine GM_aload_n (pc := 0) 0 rfl (daX2_addThing_0 0 rfl) rfl ?_
  obtain ⟨hc1, h⟩ := chk_inv h
  refine GM_getf (pc := 1) 2 5 0 5 kf_X2_44 (Nat.le_of_ble_eq_true rfl) (Nat.le_of_ble_eq_true rfl) rfl (daX2_addThing_0 1 rfl) hc1 rfl ?_
  refine GM_bipush (pc := 4) 12 (daX2_addThing_0 2 rfl) rfl (R32_b rfl) ?_
  refine GM_icmp_ge (pc := 6) 60 (daX2_addThing_0 3 rfl) rfl (fun c2 => ?_) (fun c2 => ?_)
  · skip
    rw [if_pos c2] at h
    cases h
    exact GM_vret (pc := 60) (daX2_addThing_0 34 rfl) rfl hK
  · skip
    rw [if_neg c2] at h
    refine GM_aload_n (pc := 9) 0 rfl (daX2_addThing_0 4 rfl) rfl ?_
    refine GM_getf (pc := 10) 2 7 3 7 kf_X2_25 (Nat.le_of_ble_eq_true rfl) (Nat.le_of_ble_eq_true rfl) rfl (daX2_addThing_0 5 rfl) hc1 rfl ?_
    refine GM_aload_n (pc := 13) 0 rfl (daX2_addThing_0 6 rfl) rfl ?_
    refine GM_getf (pc := 14) 2 5 0 5 kf_X2_44 (Nat.le_of_ble_eq_true rfl) (Nat.le_of_ble_eq_true rfl) rfl (daX2_addThing_0 7 rfl) hc1 rfl ?_
    refine GM_iload_n (pc := 17) 1 rfl (daX2_addThing_0 8 rfl) rfl ?_
    obtain ⟨hc3, h⟩ := chk_inv h
    obtain ⟨μ4, hμ4, h⟩ := lm_inv h
    refine GM_iast (pc := 18) (daX2_addThing_0 9 rfl) hc3.1 hc3.2.1 hc3.2.2 ?_
    refine GM_mem hμ4 ?_
    refine GM_aload_n (pc := 19) 0 rfl (daX2_addThing_0 10 rfl) rfl ?_
    refine GM_getf (pc := 20) 2 8 3 8 kf_X2_28 (Nat.le_of_ble_eq_true rfl) (Nat.le_of_ble_eq_true rfl) rfl (daX2_addThing_0 11 rfl) hc1 rfl ?_
    refine GM_aload_n (pc := 23) 0 rfl (daX2_addThing_0 12 rfl) rfl ?_
    refine GM_getf (pc := 24) 2 5 0 5 kf_X2_44 (Nat.le_of_ble_eq_true rfl) (Nat.le_of_ble_eq_true rfl) rfl (daX2_addThing_0 13 rfl) hc1 rfl ?_
    refine GM_iload_n (pc := 27) 2 rfl (daX2_addThing_0 14 rfl) rfl ?_
    obtain ⟨hc5, h⟩ := chk_inv h
    obtain ⟨μ6, hμ6, h⟩ := lm_inv h
    refine GM_zast (pc := 28) (daX2_addThing_0 15 rfl) hc5.1 hc5.2.1 hc5.2.2.1 hc5.2.2.2 ?_
    refine GM_mem hμ6 ?_
    refine GM_aload_n (pc := 29) 0 rfl (daX2_addThing_0 16 rfl) rfl ?_
    refine GM_getf (pc := 30) 2 9 3 9 kf_X2_32 (Nat.le_of_ble_eq_true rfl) (Nat.le_of_ble_eq_true rfl) rfl (daX2_addThing_0 17 rfl) hc1 rfl ?_
    refine GM_aload_n (pc := 33) 0 rfl (daX2_addThing_0 18 rfl) rfl ?_
    refine GM_getf (pc := 34) 2 5 0 5 kf_X2_44 (Nat.le_of_ble_eq_true rfl) (Nat.le_of_ble_eq_true rfl) rfl (daX2_addThing_0 19 rfl) hc1 rfl ?_
    refine GM_iload_n (pc := 37) 3 rfl (daX2_addThing_0 20 rfl) rfl ?_
    obtain ⟨hc7, h⟩ := chk_inv h
    obtain ⟨μ8, hμ8, h⟩ := lm_inv h
    refine GM_iast (pc := 38) (daX2_addThing_0 21 rfl) hc7.1 hc7.2.1 hc7.2.2 ?_
    refine GM_mem hμ8 ?_
    refine GM_aload_n (pc := 39) 0 rfl (daX2_addThing_0 22 rfl) rfl ?_
    refine GM_getf (pc := 40) 2 10 3 10 kf_X2_35 (Nat.le_of_ble_eq_true rfl) (Nat.le_of_ble_eq_true rfl) rfl (daX2_addThing_0 23 rfl) hc1 rfl ?_
    refine GM_aload_n (pc := 43) 0 rfl (daX2_addThing_0 24 rfl) rfl ?_
    refine GM_getf (pc := 44) 2 5 0 5 kf_X2_44 (Nat.le_of_ble_eq_true rfl) (Nat.le_of_ble_eq_true rfl) rfl (daX2_addThing_0 25 rfl) hc1 rfl ?_
    refine GM_iload (pc := 47) 4 rfl (daX2_addThing_0 26 rfl) ?_
    obtain ⟨hc9, h⟩ := chk_inv h
    obtain ⟨μ10, hμ10, h⟩ := lm_inv h
    refine GM_iast (pc := 49) (daX2_addThing_0 27 rfl) hc9.1 hc9.2.1 hc9.2.2 ?_
    refine GM_mem hμ10 ?_
    refine GM_aload_n (pc := 50) 0 rfl (daX2_addThing_0 28 rfl) rfl ?_
    refine GM_dup (pc := 51) (daX2_addThing_0 29 rfl) (Nat.ne_of_beq_eq_false rfl) ?_
    refine GM_getf (pc := 52) 2 5 0 5 kf_X2_44 (Nat.le_of_ble_eq_true rfl) (Nat.le_of_ble_eq_true rfl) rfl (daX2_addThing_0 30 rfl) hc1 rfl ?_
    refine GM_iconst (pc := 55) 1 (daX2_addThing_0 31 rfl) rfl (R32_b rfl) ?_
    refine GM_iadd (pc := 56) (daX2_addThing_0 32 rfl) ?_
    obtain ⟨μ11, hμ11, h⟩ := lm_inv h
    refine GM_putf (pc := 57) 2 5 0 kf_X2_44 (Nat.le_of_ble_eq_true rfl) (Nat.le_of_ble_eq_true rfl) rfl rfl (daX2_addThing_0 33 rfl) hc1 (fun q => absurd q (by decide)) ?_
    refine GM_mem hμ11 ?_
    cases h
    exact GM_vret (pc := 60) (daX2_addThing_0 34 rfl) rfl hK
theorem tX2_addThing (l : Launch) {v0 v1 v2 v3 v4 : Int} {μ : Mm} {t : Mm} (h : fX2_addThing v0 v1 v2 v3 v4 μ = some t) : Ct l yX2_addThing mX2_addThing [(3, v0), (0, v1), (0, v2), (0, v3), (0, v4)] μ ([], t, 0, 0) :=
  Ct_of (by decide +kernel) rfl rfl (Nat.le_of_ble_eq_true rfl) (fun _ _ _ => trivial) (gX2_addThing_0 l h ⟨rfl, rfl⟩)
def mX2_hasThing : MI := (RX2, cX2_hasThing, 2, (some .boolean), "hasThing", 0, 0, fun _ _ _ => True)
theorem cwX2_hasThing : CWd yX2_hasThing mX2_hasThing 1 := ⟨ki_X2, kk_X2_hasThing, ⟨by decide, by decide⟩, rfl⟩
def dtX2_hasThing_0 : List (Nat × Instr × Nat) := [(0, .iload_n 1, 1), (1, .ifCond .lt 21, 3), (4, .iload_n 1, 1), (5, .aload_n 0, 1), (6, .getfield 44, 3), (9, .if_icmp .ge 13, 3), (12, .iload_n 1, 1), (13, .bipush 12, 2), (15, .if_icmp .ge 7, 3), (18, .iconst 1, 1), (19, .goto 4, 3), (22, .iconst 0, 1), (23, .ireturn, 1)]
theorem ddX2_hasThing_0 : (dtX2_hasThing_0.all fun e => decide (decode mX2_hasThing.2.1 e.1 = .ok (e.2.1, e.2.2))) = true := by decide +kernel
theorem daX2_hasThing_0 (j : Nat) {pc n : Nat} {i : Instr} (h : dtX2_hasThing_0[j]? = some (pc, i, n)) : decode mX2_hasThing.2.1 pc = .ok (i, n) := dec_of (c := mX2_hasThing.2.1) ddX2_hasThing_0 h
def fX2_hasThing (v0 v1 : Int) (μ : Mm) : Option Int :=
  if v1 < 0 then
    some 0
  else
    chk (KD v0 = 2) (
    if μ v0 5 ≤ v1 then
      some 0
    else
      if 12 ≤ v1 then
        some 0
      else
        some 1)
set_option maxRecDepth 20000 in
theorem gX2_hasThing_0 (l : Launch) {F : FI} {v0 v1 : Int} {μ : Mm} {t : Int} (h : fX2_hasThing v0 v1 μ = some t) (hK : F.1 = [(0, t)] ∧ F.2.1 = μ) : GM l mX2_hasThing F 0 0 0 [(0, (3, v0)), (1, (0, v1))] [] μ := by
  unfold fX2_hasThing at h
  refine GM_iload_n (pc := 0) 1 rfl (daX2_hasThing_0 0 rfl) rfl ?_
  refine GM_if_lt (pc := 1) 22 (daX2_hasThing_0 1 rfl) rfl (fun c1 => ?_) (fun c1 => ?_)
  · skip
    rw [if_pos c1] at h
    refine GM_iconst (pc := 22) 0 (daX2_hasThing_0 11 rfl) rfl (R32_b rfl) ?_
    cases h
    exact GM_zret (pc := 23) (daX2_hasThing_0 12 rfl) rfl (Or.inl rfl) hK
  · skip
    rw [if_neg c1] at h
    refine GM_iload_n (pc := 4) 1 rfl (daX2_hasThing_0 2 rfl) rfl ?_
    refine GM_aload_n (pc := 5) 0 rfl (daX2_hasThing_0 3 rfl) rfl ?_
    obtain ⟨hc2, h⟩ := chk_inv h
    refine GM_getf (pc := 6) 2 5 0 5 kf_X2_44 (Nat.le_of_ble_eq_true rfl) (Nat.le_of_ble_eq_true rfl) rfl (daX2_hasThing_0 4 rfl) hc2 rfl ?_
    refine GM_icmp_ge (pc := 9) 22 (daX2_hasThing_0 5 rfl) rfl (fun c3 => ?_) (fun c3 => ?_)
    · skip
      rw [if_pos c3] at h
      refine GM_iconst (pc := 22) 0 (daX2_hasThing_0 11 rfl) rfl (R32_b rfl) ?_
      cases h
      exact GM_zret (pc := 23) (daX2_hasThing_0 12 rfl) rfl (Or.inl rfl) hK
    · skip
      rw [if_neg c3] at h
      refine GM_iload_n (pc := 12) 1 rfl (daX2_hasThing_0 6 rfl) rfl ?_
      refine GM_bipush (pc := 13) 12 (daX2_hasThing_0 7 rfl) rfl (R32_b rfl) ?_
      refine GM_icmp_ge (pc := 15) 22 (daX2_hasThing_0 8 rfl) rfl (fun c4 => ?_) (fun c4 => ?_)
      · skip
        rw [if_pos c4] at h
        refine GM_iconst (pc := 22) 0 (daX2_hasThing_0 11 rfl) rfl (R32_b rfl) ?_
        cases h
        exact GM_zret (pc := 23) (daX2_hasThing_0 12 rfl) rfl (Or.inl rfl) hK
      · skip
        rw [if_neg c4] at h
        refine GM_iconst (pc := 18) 1 (daX2_hasThing_0 9 rfl) rfl (R32_b rfl) ?_
        refine GM_goto (pc := 19) 23 (daX2_hasThing_0 10 rfl) rfl ?_
        cases h
        exact GM_zret (pc := 23) (daX2_hasThing_0 12 rfl) rfl (Or.inr rfl) hK
theorem tX2_hasThing (l : Launch) {v0 v1 : Int} {μ : Mm} {t : Int} (h : fX2_hasThing v0 v1 μ = some t) : Ct l yX2_hasThing mX2_hasThing [(3, v0), (0, v1)] μ ([(0, t)], μ, 0, 0) :=
  Ct_of (by decide +kernel) rfl rfl (Nat.le_of_ble_eq_true rfl) (fun _ _ _ => trivial) (gX2_hasThing_0 l h ⟨rfl, rfl⟩)
def mX2_tellThing : MI := (RX2, cX2_tellThing, 2, (some .int), "tellThing", 1, 21, fun _ _ _ => True)
theorem cwX2_tellThing : CWd yX2_tellThing mX2_tellThing 1 := ⟨ki_X2, kk_X2_tellThing, ⟨by decide, by decide⟩, rfl⟩
def dtX2_tellThing_0 : List (Nat × Instr × Nat) := [(0, .aload_n 0, 1), (1, .iload_n 1, 1), (2, .bipush 10, 2), (4, .isub, 1), (5, .invokevirtual 59, 3), (8, .ifCond .eq 13, 3), (11, .aload_n 0, 1), (12, .getfield 25, 3), (15, .iload_n 1, 1), (16, .bipush 10, 2), (18, .isub, 1), (19, .iaload, 1), (20, .ireturn, 1), (21, .aload_n 0, 1), (22, .iload_n 1, 1), (23, .bipush 30, 2), (25, .isub, 1), (26, .invokevirtual 59, 3), (29, .ifCond .eq 21, 3), (32, .aload_n 0, 1), (33, .getfield 28, 3), (36, .iload_n 1, 1), (37, .bipush 30, 2), (39, .isub, 1), (40, .baload, 1), (41, .ifCond .eq 7, 3), (44, .iconst 1, 1), (45, .goto 4, 3), (48, .iconst 0, 1), (49, .ireturn, 1), (50, .aload_n 0, 1), (51, .iload_n 1, 1), (52, .bipush 50, 2), (54, .isub, 1), (55, .invokevirtual 59, 3), (58, .ifCond .eq 13, 3), (61, .aload_n 0, 1), (62, .getfield 32, 3), (65, .iload_n 1, 1), (66, .bipush 50, 2), (68, .isub, 1), (69, .iaload, 1), (70, .ireturn, 1), (71, .aload_n 0, 1), (72, .iload_n 1, 1), (73, .bipush 70, 2), (75, .isub, 1), (76, .invokevirtual 59, 3), (79, .ifCond .eq 15, 3), (82, .aload_n 0, 1), (83, .getfield 35, 3), (86, .iload_n 1, 1), (87, .bipush 70, 2), (89, .isub, 1), (90, .iaload, 1), (91, .goto 4, 3), (94, .iconst (-1), 1), (95, .ireturn, 1)]
theorem ddX2_tellThing_0 : (dtX2_tellThing_0.all fun e => decide (decode mX2_tellThing.2.1 e.1 = .ok (e.2.1, e.2.2))) = true := by decide +kernel
theorem daX2_tellThing_0 (j : Nat) {pc n : Nat} {i : Instr} (h : dtX2_tellThing_0[j]? = some (pc, i, n)) : decode mX2_tellThing.2.1 pc = .ok (i, n) := dec_of (c := mX2_tellThing.2.1) ddX2_tellThing_0 h
def fX2_tellThing (v0 v1 : Int) (μ : Mm) : Option Int :=
  chk (KD v0 = 2) (
  (fX2_hasThing v0 (w32 (v1 - 10)) μ).bind fun r2 =>
  if r2 = 0 then
    (fX2_hasThing v0 (w32 (v1 - 30)) μ).bind fun r4 =>
    if r4 = 0 then
      (fX2_hasThing v0 (w32 (v1 - 50)) μ).bind fun r6 =>
      if r6 = 0 then
        (fX2_hasThing v0 (w32 (v1 - 70)) μ).bind fun r8 =>
        if r8 = 0 then
          some (-1)
        else
          chk (KD (μ v0 10) = 12 ∧ 0 ≤ w32 (v1 - 70) ∧ w32 (v1 - 70) < LN (μ v0 10)) (
          some (μ (μ v0 10) (w32 (v1 - 70))))
      else
        chk (KD (μ v0 9) = 12 ∧ 0 ≤ w32 (v1 - 50) ∧ w32 (v1 - 50) < LN (μ v0 9)) (
        some (μ (μ v0 9) (w32 (v1 - 50))))
    else
      chk (KD (μ v0 8) = 14 ∧ 0 ≤ w32 (v1 - 30) ∧ w32 (v1 - 30) < LN (μ v0 8)) (
      if μ (μ v0 8) (w32 (v1 - 30)) = 0 then
        some 0
      else
        some 1)
  else
    chk (KD (μ v0 7) = 12 ∧ 0 ≤ w32 (v1 - 10) ∧ w32 (v1 - 10) < LN (μ v0 7)) (
    some (μ (μ v0 7) (w32 (v1 - 10)))))
set_option maxRecDepth 20000 in
theorem gX2_tellThing_0 (l : Launch) {F : FI} {v0 v1 : Int} {μ : Mm} {t : Int} (h : fX2_tellThing v0 v1 μ = some t) (hK : F.1 = [(0, t)] ∧ F.2.1 = μ) : GM l mX2_tellThing F 0 0 0 [(0, (3, v0)), (1, (0, v1))] [] μ := by
  unfold fX2_tellThing at h
  refine GM_aload_n (pc := 0) 0 rfl (daX2_tellThing_0 0 rfl) rfl ?_
  refine GM_iload_n (pc := 1) 1 rfl (daX2_tellThing_0 1 rfl) rfl ?_
  refine GM_bipush (pc := 2) 10 (daX2_tellThing_0 2 rfl) rfl (R32_b rfl) ?_
  refine GM_isub (pc := 4) (daX2_tellThing_0 3 rfl) ?_
  obtain ⟨hc1, h⟩ := chk_inv h
  obtain ⟨r2, hf2, h⟩ := Option.bind_eq_some_iff.mp h
  refine GM_callV0 (pc := 5) [(0, w32 (v1 - 10))] (tX2_hasThing l hf2) cwX2_hasThing 2 (Nat.le_of_ble_eq_true rfl) rfl kv_X2_hasThing ke_X2_hasThing km_X2_59 hc1 ⟨Nat.le_of_ble_eq_true rfl, Nat.le_of_ble_eq_true rfl⟩ (Nat.le_of_ble_eq_true rfl) (Nat.le_of_ble_eq_true rfl) (daX2_tellThing_0 4 rfl) ?_
  refine GM_if_eq (pc := 8) 21 (daX2_tellThing_0 5 rfl) rfl (fun c3 => ?_) (fun c3 => ?_)
  · skip
    rw [if_pos c3] at h
    refine GM_aload_n (pc := 21) 0 rfl (daX2_tellThing_0 13 rfl) rfl ?_
    refine GM_iload_n (pc := 22) 1 rfl (daX2_tellThing_0 14 rfl) rfl ?_
    refine GM_bipush (pc := 23) 30 (daX2_tellThing_0 15 rfl) rfl (R32_b rfl) ?_
    refine GM_isub (pc := 25) (daX2_tellThing_0 16 rfl) ?_
    obtain ⟨r4, hf4, h⟩ := Option.bind_eq_some_iff.mp h
    refine GM_callV0 (pc := 26) [(0, w32 (v1 - 30))] (tX2_hasThing l hf4) cwX2_hasThing 2 (Nat.le_of_ble_eq_true rfl) rfl kv_X2_hasThing ke_X2_hasThing km_X2_59 hc1 ⟨Nat.le_of_ble_eq_true rfl, Nat.le_of_ble_eq_true rfl⟩ (Nat.le_of_ble_eq_true rfl) (Nat.le_of_ble_eq_true rfl) (daX2_tellThing_0 17 rfl) ?_
    refine GM_if_eq (pc := 29) 50 (daX2_tellThing_0 18 rfl) rfl (fun c5 => ?_) (fun c5 => ?_)
    · skip
      rw [if_pos c5] at h
      refine GM_aload_n (pc := 50) 0 rfl (daX2_tellThing_0 30 rfl) rfl ?_
      refine GM_iload_n (pc := 51) 1 rfl (daX2_tellThing_0 31 rfl) rfl ?_
      refine GM_bipush (pc := 52) 50 (daX2_tellThing_0 32 rfl) rfl (R32_b rfl) ?_
      refine GM_isub (pc := 54) (daX2_tellThing_0 33 rfl) ?_
      obtain ⟨r6, hf6, h⟩ := Option.bind_eq_some_iff.mp h
      refine GM_callV0 (pc := 55) [(0, w32 (v1 - 50))] (tX2_hasThing l hf6) cwX2_hasThing 2 (Nat.le_of_ble_eq_true rfl) rfl kv_X2_hasThing ke_X2_hasThing km_X2_59 hc1 ⟨Nat.le_of_ble_eq_true rfl, Nat.le_of_ble_eq_true rfl⟩ (Nat.le_of_ble_eq_true rfl) (Nat.le_of_ble_eq_true rfl) (daX2_tellThing_0 34 rfl) ?_
      refine GM_if_eq (pc := 58) 71 (daX2_tellThing_0 35 rfl) rfl (fun c7 => ?_) (fun c7 => ?_)
      · skip
        rw [if_pos c7] at h
        refine GM_aload_n (pc := 71) 0 rfl (daX2_tellThing_0 43 rfl) rfl ?_
        refine GM_iload_n (pc := 72) 1 rfl (daX2_tellThing_0 44 rfl) rfl ?_
        refine GM_bipush (pc := 73) 70 (daX2_tellThing_0 45 rfl) rfl (R32_b rfl) ?_
        refine GM_isub (pc := 75) (daX2_tellThing_0 46 rfl) ?_
        obtain ⟨r8, hf8, h⟩ := Option.bind_eq_some_iff.mp h
        refine GM_callV0 (pc := 76) [(0, w32 (v1 - 70))] (tX2_hasThing l hf8) cwX2_hasThing 2 (Nat.le_of_ble_eq_true rfl) rfl kv_X2_hasThing ke_X2_hasThing km_X2_59 hc1 ⟨Nat.le_of_ble_eq_true rfl, Nat.le_of_ble_eq_true rfl⟩ (Nat.le_of_ble_eq_true rfl) (Nat.le_of_ble_eq_true rfl) (daX2_tellThing_0 47 rfl) ?_
        refine GM_if_eq (pc := 79) 94 (daX2_tellThing_0 48 rfl) rfl (fun c9 => ?_) (fun c9 => ?_)
        · skip
          rw [if_pos c9] at h
          refine GM_iconst (pc := 94) (-1) (daX2_tellThing_0 56 rfl) rfl (R32_b rfl) ?_
          cases h
          exact GM_iret (pc := 95) (daX2_tellThing_0 57 rfl) rfl hK
        · skip
          rw [if_neg c9] at h
          refine GM_aload_n (pc := 82) 0 rfl (daX2_tellThing_0 49 rfl) rfl ?_
          refine GM_getf (pc := 83) 2 10 3 10 kf_X2_35 (Nat.le_of_ble_eq_true rfl) (Nat.le_of_ble_eq_true rfl) rfl (daX2_tellThing_0 50 rfl) hc1 rfl ?_
          refine GM_iload_n (pc := 86) 1 rfl (daX2_tellThing_0 51 rfl) rfl ?_
          refine GM_bipush (pc := 87) 70 (daX2_tellThing_0 52 rfl) rfl (R32_b rfl) ?_
          refine GM_isub (pc := 89) (daX2_tellThing_0 53 rfl) ?_
          obtain ⟨hc10, h⟩ := chk_inv h
          refine GM_iald (pc := 90) (daX2_tellThing_0 54 rfl) hc10.1 hc10.2.1 hc10.2.2 ?_
          refine GM_goto (pc := 91) 95 (daX2_tellThing_0 55 rfl) rfl ?_
          cases h
          exact GM_iret (pc := 95) (daX2_tellThing_0 57 rfl) rfl hK
      · skip
        rw [if_neg c7] at h
        refine GM_aload_n (pc := 61) 0 rfl (daX2_tellThing_0 36 rfl) rfl ?_
        refine GM_getf (pc := 62) 2 9 3 9 kf_X2_32 (Nat.le_of_ble_eq_true rfl) (Nat.le_of_ble_eq_true rfl) rfl (daX2_tellThing_0 37 rfl) hc1 rfl ?_
        refine GM_iload_n (pc := 65) 1 rfl (daX2_tellThing_0 38 rfl) rfl ?_
        refine GM_bipush (pc := 66) 50 (daX2_tellThing_0 39 rfl) rfl (R32_b rfl) ?_
        refine GM_isub (pc := 68) (daX2_tellThing_0 40 rfl) ?_
        obtain ⟨hc11, h⟩ := chk_inv h
        refine GM_iald (pc := 69) (daX2_tellThing_0 41 rfl) hc11.1 hc11.2.1 hc11.2.2 ?_
        cases h
        exact GM_iret (pc := 70) (daX2_tellThing_0 42 rfl) rfl hK
    · skip
      rw [if_neg c5] at h
      refine GM_aload_n (pc := 32) 0 rfl (daX2_tellThing_0 19 rfl) rfl ?_
      refine GM_getf (pc := 33) 2 8 3 8 kf_X2_28 (Nat.le_of_ble_eq_true rfl) (Nat.le_of_ble_eq_true rfl) rfl (daX2_tellThing_0 20 rfl) hc1 rfl ?_
      refine GM_iload_n (pc := 36) 1 rfl (daX2_tellThing_0 21 rfl) rfl ?_
      refine GM_bipush (pc := 37) 30 (daX2_tellThing_0 22 rfl) rfl (R32_b rfl) ?_
      refine GM_isub (pc := 39) (daX2_tellThing_0 23 rfl) ?_
      obtain ⟨hc12, h⟩ := chk_inv h
      refine GM_zald (pc := 40) (daX2_tellThing_0 24 rfl) hc12.1 hc12.2.1 hc12.2.2 ?_
      refine GM_if_eq (pc := 41) 48 (daX2_tellThing_0 25 rfl) rfl (fun c13 => ?_) (fun c13 => ?_)
      · skip
        rw [if_pos c13] at h
        refine GM_iconst (pc := 48) 0 (daX2_tellThing_0 28 rfl) rfl (R32_b rfl) ?_
        cases h
        exact GM_iret (pc := 49) (daX2_tellThing_0 29 rfl) rfl hK
      · skip
        rw [if_neg c13] at h
        refine GM_iconst (pc := 44) 1 (daX2_tellThing_0 26 rfl) rfl (R32_b rfl) ?_
        refine GM_goto (pc := 45) 49 (daX2_tellThing_0 27 rfl) rfl ?_
        cases h
        exact GM_iret (pc := 49) (daX2_tellThing_0 29 rfl) rfl hK
  · skip
    rw [if_neg c3] at h
    refine GM_aload_n (pc := 11) 0 rfl (daX2_tellThing_0 6 rfl) rfl ?_
    refine GM_getf (pc := 12) 2 7 3 7 kf_X2_25 (Nat.le_of_ble_eq_true rfl) (Nat.le_of_ble_eq_true rfl) rfl (daX2_tellThing_0 7 rfl) hc1 rfl ?_
    refine GM_iload_n (pc := 15) 1 rfl (daX2_tellThing_0 8 rfl) rfl ?_
    refine GM_bipush (pc := 16) 10 (daX2_tellThing_0 9 rfl) rfl (R32_b rfl) ?_
    refine GM_isub (pc := 18) (daX2_tellThing_0 10 rfl) ?_
    obtain ⟨hc14, h⟩ := chk_inv h
    refine GM_iald (pc := 19) (daX2_tellThing_0 11 rfl) hc14.1 hc14.2.1 hc14.2.2 ?_
    cases h
    exact GM_iret (pc := 20) (daX2_tellThing_0 12 rfl) rfl hK
theorem tX2_tellThing (l : Launch) {v0 v1 : Int} {μ : Mm} {t : Int} (h : fX2_tellThing v0 v1 μ = some t) : Ct l yX2_tellThing mX2_tellThing [(3, v0), (0, v1)] μ ([(0, t)], μ, 0, 0) :=
  Ct_of (by decide +kernel) rfl rfl (Nat.le_of_ble_eq_true rfl) (fun _ _ _ => trivial) (gX2_tellThing_0 l h ⟨rfl, rfl⟩)
def mX2_places : MI := (RX2, cX2_places, 2, (some .int), "places", 0, 0, fun _ _ _ => True)
theorem cwX2_places : CWd yX2_places mX2_places 0 := ⟨ki_X2, kk_X2_places, ⟨by decide, by decide⟩, rfl⟩
def dtX2_places_0 : List (Nat × Instr × Nat) := [(0, .aload_n 0, 1), (1, .getfield 9, 3), (4, .aload_n 0, 1), (5, .getfield 15, 3), (8, .imul, 1), (9, .istore_n 1, 1), (10, .iload_n 1, 1), (11, .sipush 144, 3), (14, .if_icmp .ge 7, 3), (17, .iload_n 1, 1), (18, .goto 6, 3), (21, .sipush 144, 3), (24, .ireturn, 1)]
theorem ddX2_places_0 : (dtX2_places_0.all fun e => decide (decode mX2_places.2.1 e.1 = .ok (e.2.1, e.2.2))) = true := by decide +kernel
theorem daX2_places_0 (j : Nat) {pc n : Nat} {i : Instr} (h : dtX2_places_0[j]? = some (pc, i, n)) : decode mX2_places.2.1 pc = .ok (i, n) := dec_of (c := mX2_places.2.1) ddX2_places_0 h
def fX2_places (v0 : Int) (μ : Mm) : Option Int :=
  chk (KD v0 = 2) (
  lt (w32 ((μ v0 0) * (μ v0 1))) fun y2 =>
  if 144 ≤ y2 then
    some 144
  else
    some y2)
set_option maxRecDepth 20000 in
theorem gX2_places_0 (l : Launch) {F : FI} {v0 : Int} {μ : Mm} {t : Int} (h : fX2_places v0 μ = some t) (hK : F.1 = [(0, t)] ∧ F.2.1 = μ) : GM l mX2_places F 0 0 0 [(0, (3, v0))] [] μ := by
  unfold fX2_places at h
  refine GM_aload_n (pc := 0) 0 rfl (daX2_places_0 0 rfl) rfl ?_
  obtain ⟨hc1, h⟩ := chk_inv h
  refine GM_getf (pc := 1) 2 0 0 0 kf_X2_9 (Nat.le_of_ble_eq_true rfl) (Nat.le_of_ble_eq_true rfl) rfl (daX2_places_0 1 rfl) hc1 rfl ?_
  refine GM_aload_n (pc := 4) 0 rfl (daX2_places_0 2 rfl) rfl ?_
  refine GM_getf (pc := 5) 2 1 0 1 kf_X2_15 (Nat.le_of_ble_eq_true rfl) (Nat.le_of_ble_eq_true rfl) rfl (daX2_places_0 3 rfl) hc1 rfl ?_
  refine GM_imul (pc := 8) (daX2_places_0 4 rfl) ?_
  obtain ⟨y2, hy2, h⟩ := lt_inv h
  refine GM_top hy2 ?_
  refine GM_istore_n (L' := [(1, (0, y2)), (0, (3, v0))]) (pc := 9) (daX2_places_0 5 rfl) rfl (Nat.le_of_ble_eq_true rfl) rfl ?_
  refine GM_iload_n (pc := 10) 0 rfl (daX2_places_0 6 rfl) rfl ?_
  refine GM_sipush (pc := 11) 144 (daX2_places_0 7 rfl) rfl (R32_b rfl) ?_
  refine GM_icmp_ge (pc := 14) 21 (daX2_places_0 8 rfl) rfl (fun c3 => ?_) (fun c3 => ?_)
  · skip
    rw [if_pos c3] at h
    refine GM_sipush (pc := 21) 144 (daX2_places_0 11 rfl) rfl (R32_b rfl) ?_
    cases h
    exact GM_iret (pc := 24) (daX2_places_0 12 rfl) rfl hK
  · skip
    rw [if_neg c3] at h
    refine GM_iload_n (pc := 17) 0 rfl (daX2_places_0 9 rfl) rfl ?_
    refine GM_goto (pc := 18) 24 (daX2_places_0 10 rfl) rfl ?_
    cases h
    exact GM_iret (pc := 24) (daX2_places_0 12 rfl) rfl hK
theorem tX2_places (l : Launch) {v0 : Int} {μ : Mm} {t : Int} (h : fX2_places v0 μ = some t) : Ct l yX2_places mX2_places [(3, v0)] μ ([(0, t)], μ, 0, 0) :=
  Ct_of (by decide +kernel) rfl rfl (Nat.le_of_ble_eq_true rfl) (fun _ _ _ => trivial) (gX2_places_0 l h ⟨rfl, rfl⟩)
def mX2_has : MI := (RX2, cX2_has, 2, (some .boolean), "has", 1, 21, fun _ _ _ => True)
theorem cwX2_has : CWd yX2_has mX2_has 1 := ⟨ki_X2, kk_X2_has, ⟨by decide, by decide⟩, rfl⟩
def dtX2_has_0 : List (Nat × Instr × Nat) := [(0, .iload_n 1, 1), (1, .ifCond .lt 15, 3), (4, .iload_n 1, 1), (5, .aload_n 0, 1), (6, .invokevirtual 63, 3), (9, .if_icmp .ge 7, 3), (12, .iconst 1, 1), (13, .goto 4, 3), (16, .iconst 0, 1), (17, .ireturn, 1)]
theorem ddX2_has_0 : (dtX2_has_0.all fun e => decide (decode mX2_has.2.1 e.1 = .ok (e.2.1, e.2.2))) = true := by decide +kernel
theorem daX2_has_0 (j : Nat) {pc n : Nat} {i : Instr} (h : dtX2_has_0[j]? = some (pc, i, n)) : decode mX2_has.2.1 pc = .ok (i, n) := dec_of (c := mX2_has.2.1) ddX2_has_0 h
def fX2_has (v0 v1 : Int) (μ : Mm) : Option Int :=
  if v1 < 0 then
    some 0
  else
    chk (KD v0 = 2) (
    (fX2_places v0 μ).bind fun r3 =>
    if r3 ≤ v1 then
      some 0
    else
      some 1)
set_option maxRecDepth 20000 in
theorem gX2_has_0 (l : Launch) {F : FI} {v0 v1 : Int} {μ : Mm} {t : Int} (h : fX2_has v0 v1 μ = some t) (hK : F.1 = [(0, t)] ∧ F.2.1 = μ) : GM l mX2_has F 0 0 0 [(0, (3, v0)), (1, (0, v1))] [] μ := by
  unfold fX2_has at h
  refine GM_iload_n (pc := 0) 1 rfl (daX2_has_0 0 rfl) rfl ?_
  refine GM_if_lt (pc := 1) 16 (daX2_has_0 1 rfl) rfl (fun c1 => ?_) (fun c1 => ?_)
  · skip
    rw [if_pos c1] at h
    refine GM_iconst (pc := 16) 0 (daX2_has_0 8 rfl) rfl (R32_b rfl) ?_
    cases h
    exact GM_zret (pc := 17) (daX2_has_0 9 rfl) rfl (Or.inl rfl) hK
  · skip
    rw [if_neg c1] at h
    refine GM_iload_n (pc := 4) 1 rfl (daX2_has_0 2 rfl) rfl ?_
    refine GM_aload_n (pc := 5) 0 rfl (daX2_has_0 3 rfl) rfl ?_
    obtain ⟨hc2, h⟩ := chk_inv h
    obtain ⟨r3, hf3, h⟩ := Option.bind_eq_some_iff.mp h
    refine GM_callV0 (pc := 6) [] (tX2_places l hf3) cwX2_places 2 (Nat.le_of_ble_eq_true rfl) rfl kv_X2_places ke_X2_places km_X2_63 hc2 ⟨Nat.le_of_ble_eq_true rfl, Nat.le_of_ble_eq_true rfl⟩ (Nat.le_of_ble_eq_true rfl) (Nat.le_of_ble_eq_true rfl) (daX2_has_0 4 rfl) ?_
    refine GM_icmp_ge (pc := 9) 16 (daX2_has_0 5 rfl) rfl (fun c4 => ?_) (fun c4 => ?_)
    · skip
      rw [if_pos c4] at h
      refine GM_iconst (pc := 16) 0 (daX2_has_0 8 rfl) rfl (R32_b rfl) ?_
      cases h
      exact GM_zret (pc := 17) (daX2_has_0 9 rfl) rfl (Or.inl rfl) hK
    · skip
      rw [if_neg c4] at h
      refine GM_iconst (pc := 12) 1 (daX2_has_0 6 rfl) rfl (R32_b rfl) ?_
      refine GM_goto (pc := 13) 17 (daX2_has_0 7 rfl) rfl ?_
      cases h
      exact GM_zret (pc := 17) (daX2_has_0 9 rfl) rfl (Or.inr rfl) hK
theorem tX2_has (l : Launch) {v0 v1 : Int} {μ : Mm} {t : Int} (h : fX2_has v0 v1 μ = some t) : Ct l yX2_has mX2_has [(3, v0), (0, v1)] μ ([(0, t)], μ, 0, 0) :=
  Ct_of (by decide +kernel) rfl rfl (Nat.le_of_ble_eq_true rfl) (fun _ _ _ => trivial) (gX2_has_0 l h ⟨rfl, rfl⟩)
def mX2_column : MI := (RX2, cX2_column, 2, (some .int), "column", 0, 0, fun _ _ _ => True)
theorem cwX2_column : CWd yX2_column mX2_column 1 := ⟨ki_X2, kk_X2_column, ⟨by decide, by decide⟩, rfl⟩
def dtX2_column_0 : List (Nat × Instr × Nat) := [(0, .aload_n 0, 1), (1, .getfield 9, 3), (4, .ifCond .le 12, 3), (7, .iload_n 1, 1), (8, .aload_n 0, 1), (9, .getfield 9, 3), (12, .irem, 1), (13, .goto 4, 3), (16, .iconst 0, 1), (17, .ireturn, 1)]
theorem ddX2_column_0 : (dtX2_column_0.all fun e => decide (decode mX2_column.2.1 e.1 = .ok (e.2.1, e.2.2))) = true := by decide +kernel
theorem daX2_column_0 (j : Nat) {pc n : Nat} {i : Instr} (h : dtX2_column_0[j]? = some (pc, i, n)) : decode mX2_column.2.1 pc = .ok (i, n) := dec_of (c := mX2_column.2.1) ddX2_column_0 h
def fX2_column (v0 v1 : Int) (μ : Mm) : Option Int :=
  chk (KD v0 = 2) (
  if μ v0 0 ≤ 0 then
    some 0
  else
    chk (μ v0 0 ≠ 0) (
    some (v1.tmod (μ v0 0))))
set_option maxRecDepth 20000 in
theorem gX2_column_0 (l : Launch) {F : FI} {v0 v1 : Int} {μ : Mm} {t : Int} (h : fX2_column v0 v1 μ = some t) (hK : F.1 = [(0, t)] ∧ F.2.1 = μ) : GM l mX2_column F 0 0 0 [(0, (3, v0)), (1, (0, v1))] [] μ := by
  unfold fX2_column at h
  refine GM_aload_n (pc := 0) 0 rfl (daX2_column_0 0 rfl) rfl ?_
  obtain ⟨hc1, h⟩ := chk_inv h
  refine GM_getf (pc := 1) 2 0 0 0 kf_X2_9 (Nat.le_of_ble_eq_true rfl) (Nat.le_of_ble_eq_true rfl) rfl (daX2_column_0 1 rfl) hc1 rfl ?_
  refine GM_if_le (pc := 4) 16 (daX2_column_0 2 rfl) rfl (fun c2 => ?_) (fun c2 => ?_)
  · skip
    rw [if_pos c2] at h
    refine GM_iconst (pc := 16) 0 (daX2_column_0 8 rfl) rfl (R32_b rfl) ?_
    cases h
    exact GM_iret (pc := 17) (daX2_column_0 9 rfl) rfl hK
  · skip
    rw [if_neg c2] at h
    refine GM_iload_n (pc := 7) 1 rfl (daX2_column_0 3 rfl) rfl ?_
    refine GM_aload_n (pc := 8) 0 rfl (daX2_column_0 4 rfl) rfl ?_
    refine GM_getf (pc := 9) 2 0 0 0 kf_X2_9 (Nat.le_of_ble_eq_true rfl) (Nat.le_of_ble_eq_true rfl) rfl (daX2_column_0 5 rfl) hc1 rfl ?_
    obtain ⟨hc3, h⟩ := chk_inv h
    refine GM_irem (pc := 12) (daX2_column_0 6 rfl) hc3 ?_
    refine GM_goto (pc := 13) 17 (daX2_column_0 7 rfl) rfl ?_
    cases h
    exact GM_iret (pc := 17) (daX2_column_0 9 rfl) rfl hK
theorem tX2_column (l : Launch) {v0 v1 : Int} {μ : Mm} {t : Int} (h : fX2_column v0 v1 μ = some t) : Ct l yX2_column mX2_column [(3, v0), (0, v1)] μ ([(0, t)], μ, 0, 0) :=
  Ct_of (by decide +kernel) rfl rfl (Nat.le_of_ble_eq_true rfl) (fun _ _ _ => trivial) (gX2_column_0 l h ⟨rfl, rfl⟩)
def mX2_row : MI := (RX2, cX2_row, 2, (some .int), "row", 0, 0, fun _ _ _ => True)
theorem cwX2_row : CWd yX2_row mX2_row 1 := ⟨ki_X2, kk_X2_row, ⟨by decide, by decide⟩, rfl⟩
def dtX2_row_0 : List (Nat × Instr × Nat) := [(0, .aload_n 0, 1), (1, .getfield 9, 3), (4, .ifCond .le 12, 3), (7, .iload_n 1, 1), (8, .aload_n 0, 1), (9, .getfield 9, 3), (12, .idiv, 1), (13, .goto 4, 3), (16, .iconst 0, 1), (17, .ireturn, 1)]
theorem ddX2_row_0 : (dtX2_row_0.all fun e => decide (decode mX2_row.2.1 e.1 = .ok (e.2.1, e.2.2))) = true := by decide +kernel
theorem daX2_row_0 (j : Nat) {pc n : Nat} {i : Instr} (h : dtX2_row_0[j]? = some (pc, i, n)) : decode mX2_row.2.1 pc = .ok (i, n) := dec_of (c := mX2_row.2.1) ddX2_row_0 h
def fX2_row (v0 v1 : Int) (μ : Mm) : Option Int :=
  chk (KD v0 = 2) (
  if μ v0 0 ≤ 0 then
    some 0
  else
    chk (μ v0 0 ≠ 0) (
    some (w32 (v1.tdiv (μ v0 0)))))
set_option maxRecDepth 20000 in
theorem gX2_row_0 (l : Launch) {F : FI} {v0 v1 : Int} {μ : Mm} {t : Int} (h : fX2_row v0 v1 μ = some t) (hK : F.1 = [(0, t)] ∧ F.2.1 = μ) : GM l mX2_row F 0 0 0 [(0, (3, v0)), (1, (0, v1))] [] μ := by
  unfold fX2_row at h
  refine GM_aload_n (pc := 0) 0 rfl (daX2_row_0 0 rfl) rfl ?_
  obtain ⟨hc1, h⟩ := chk_inv h
  refine GM_getf (pc := 1) 2 0 0 0 kf_X2_9 (Nat.le_of_ble_eq_true rfl) (Nat.le_of_ble_eq_true rfl) rfl (daX2_row_0 1 rfl) hc1 rfl ?_
  refine GM_if_le (pc := 4) 16 (daX2_row_0 2 rfl) rfl (fun c2 => ?_) (fun c2 => ?_)
  · skip
    rw [if_pos c2] at h
    refine GM_iconst (pc := 16) 0 (daX2_row_0 8 rfl) rfl (R32_b rfl) ?_
    cases h
    exact GM_iret (pc := 17) (daX2_row_0 9 rfl) rfl hK
  · skip
    rw [if_neg c2] at h
    refine GM_iload_n (pc := 7) 1 rfl (daX2_row_0 3 rfl) rfl ?_
    refine GM_aload_n (pc := 8) 0 rfl (daX2_row_0 4 rfl) rfl ?_
    refine GM_getf (pc := 9) 2 0 0 0 kf_X2_9 (Nat.le_of_ble_eq_true rfl) (Nat.le_of_ble_eq_true rfl) rfl (daX2_row_0 5 rfl) hc1 rfl ?_
    obtain ⟨hc3, h⟩ := chk_inv h
    refine GM_idiv (pc := 12) (daX2_row_0 6 rfl) hc3 ?_
    refine GM_goto (pc := 13) 17 (daX2_row_0 7 rfl) rfl ?_
    cases h
    exact GM_iret (pc := 17) (daX2_row_0 9 rfl) rfl hK
theorem tX2_row (l : Launch) {v0 v1 : Int} {μ : Mm} {t : Int} (h : fX2_row v0 v1 μ = some t) : Ct l yX2_row mX2_row [(3, v0), (0, v1)] μ ([(0, t)], μ, 0, 0) :=
  Ct_of (by decide +kernel) rfl rfl (Nat.le_of_ble_eq_true rfl) (fun _ _ _ => trivial) (gX2_row_0 l h ⟨rfl, rfl⟩)
def mX2_apart : MI := (RX2, cX2_apart, 5, (some .int), "apart", 1, 21, fun _ _ _ => True)
theorem cwX2_apart : CWd yX2_apart mX2_apart 2 := ⟨ki_X2, kk_X2_apart, ⟨by decide, by decide⟩, rfl⟩
def dtX2_apart_0 : List (Nat × Instr × Nat) := [(0, .aload_n 0, 1), (1, .iload_n 1, 1), (2, .invokevirtual 67, 3), (5, .aload_n 0, 1), (6, .iload_n 2, 1), (7, .invokevirtual 67, 3), (10, .isub, 1), (11, .istore_n 3, 1), (12, .aload_n 0, 1), (13, .iload_n 1, 1), (14, .invokevirtual 71, 3), (17, .aload_n 0, 1), (18, .iload_n 2, 1), (19, .invokevirtual 71, 3), (22, .isub, 1), (23, .istore 4, 2), (25, .iload_n 3, 1), (26, .iload_n 3, 1), (27, .imul, 1), (28, .iload 4, 2), (30, .iload 4, 2), (32, .imul, 1), (33, .iadd, 1), (34, .ireturn, 1)]
theorem ddX2_apart_0 : (dtX2_apart_0.all fun e => decide (decode mX2_apart.2.1 e.1 = .ok (e.2.1, e.2.2))) = true := by decide +kernel
theorem daX2_apart_0 (j : Nat) {pc n : Nat} {i : Instr} (h : dtX2_apart_0[j]? = some (pc, i, n)) : decode mX2_apart.2.1 pc = .ok (i, n) := dec_of (c := mX2_apart.2.1) ddX2_apart_0 h
def fX2_apart (v0 v1 v2 : Int) (μ : Mm) : Option Int :=
  chk (KD v0 = 2) (
  (fX2_column v0 v1 μ).bind fun r2 =>
  (fX2_column v0 v2 μ).bind fun r3 =>
  (fX2_row v0 v1 μ).bind fun r4 =>
  (fX2_row v0 v2 μ).bind fun r5 =>
  some (w32 ((w32 ((w32 (r2 - r3)) * (w32 (r2 - r3)))) + (w32 ((w32 (r4 - r5)) * (w32 (r4 - r5)))))))
set_option maxRecDepth 20000 in
theorem gX2_apart_0 (l : Launch) {F : FI} {v0 v1 v2 : Int} {μ : Mm} {t : Int} (h : fX2_apart v0 v1 v2 μ = some t) (hK : F.1 = [(0, t)] ∧ F.2.1 = μ) : GM l mX2_apart F 0 0 0 [(0, (3, v0)), (1, (0, v1)), (2, (0, v2))] [] μ := by
  unfold fX2_apart at h
  refine GM_aload_n (pc := 0) 0 rfl (daX2_apart_0 0 rfl) rfl ?_
  refine GM_iload_n (pc := 1) 1 rfl (daX2_apart_0 1 rfl) rfl ?_
  obtain ⟨hc1, h⟩ := chk_inv h
  obtain ⟨r2, hf2, h⟩ := Option.bind_eq_some_iff.mp h
  refine GM_callV0 (pc := 2) [(0, v1)] (tX2_column l hf2) cwX2_column 2 (Nat.le_of_ble_eq_true rfl) rfl kv_X2_column ke_X2_column km_X2_67 hc1 ⟨Nat.le_of_ble_eq_true rfl, Nat.le_of_ble_eq_true rfl⟩ (Nat.le_of_ble_eq_true rfl) (Nat.le_of_ble_eq_true rfl) (daX2_apart_0 2 rfl) ?_
  refine GM_aload_n (pc := 5) 0 rfl (daX2_apart_0 3 rfl) rfl ?_
  refine GM_iload_n (pc := 6) 2 rfl (daX2_apart_0 4 rfl) rfl ?_
  obtain ⟨r3, hf3, h⟩ := Option.bind_eq_some_iff.mp h
  refine GM_callV0 (pc := 7) [(0, v2)] (tX2_column l hf3) cwX2_column 2 (Nat.le_of_ble_eq_true rfl) rfl kv_X2_column ke_X2_column km_X2_67 hc1 ⟨Nat.le_of_ble_eq_true rfl, Nat.le_of_ble_eq_true rfl⟩ (Nat.le_of_ble_eq_true rfl) (Nat.le_of_ble_eq_true rfl) (daX2_apart_0 5 rfl) ?_
  refine GM_isub (pc := 10) (daX2_apart_0 6 rfl) ?_
  refine GM_istore_n (L' := [(3, (0, w32 (r2 - r3))), (0, (3, v0)), (1, (0, v1)), (2, (0, v2))]) (pc := 11) (daX2_apart_0 7 rfl) rfl (Nat.le_of_ble_eq_true rfl) rfl ?_
  refine GM_aload_n (pc := 12) 1 rfl (daX2_apart_0 8 rfl) rfl ?_
  refine GM_iload_n (pc := 13) 2 rfl (daX2_apart_0 9 rfl) rfl ?_
  obtain ⟨r4, hf4, h⟩ := Option.bind_eq_some_iff.mp h
  refine GM_callV0 (pc := 14) [(0, v1)] (tX2_row l hf4) cwX2_row 2 (Nat.le_of_ble_eq_true rfl) rfl kv_X2_row ke_X2_row km_X2_71 hc1 ⟨Nat.le_of_ble_eq_true rfl, Nat.le_of_ble_eq_true rfl⟩ (Nat.le_of_ble_eq_true rfl) (Nat.le_of_ble_eq_true rfl) (daX2_apart_0 10 rfl) ?_
  refine GM_aload_n (pc := 17) 1 rfl (daX2_apart_0 11 rfl) rfl ?_
  refine GM_iload_n (pc := 18) 3 rfl (daX2_apart_0 12 rfl) rfl ?_
  obtain ⟨r5, hf5, h⟩ := Option.bind_eq_some_iff.mp h
  refine GM_callV0 (pc := 19) [(0, v2)] (tX2_row l hf5) cwX2_row 2 (Nat.le_of_ble_eq_true rfl) rfl kv_X2_row ke_X2_row km_X2_71 hc1 ⟨Nat.le_of_ble_eq_true rfl, Nat.le_of_ble_eq_true rfl⟩ (Nat.le_of_ble_eq_true rfl) (Nat.le_of_ble_eq_true rfl) (daX2_apart_0 13 rfl) ?_
  refine GM_isub (pc := 22) (daX2_apart_0 14 rfl) ?_
  refine GM_istore (L' := [(4, (0, w32 (r4 - r5))), (3, (0, w32 (r2 - r3))), (0, (3, v0)), (1, (0, v1)), (2, (0, v2))]) (pc := 23) (daX2_apart_0 15 rfl) (Nat.le_of_ble_eq_true rfl) rfl ?_
  refine GM_iload_n (pc := 25) 1 rfl (daX2_apart_0 16 rfl) rfl ?_
  refine GM_iload_n (pc := 26) 1 rfl (daX2_apart_0 17 rfl) rfl ?_
  refine GM_imul (pc := 27) (daX2_apart_0 18 rfl) ?_
  refine GM_iload (pc := 28) 0 rfl (daX2_apart_0 19 rfl) ?_
  refine GM_iload (pc := 30) 0 rfl (daX2_apart_0 20 rfl) ?_
  refine GM_imul (pc := 32) (daX2_apart_0 21 rfl) ?_
  refine GM_iadd (pc := 33) (daX2_apart_0 22 rfl) ?_
  cases h
  exact GM_iret (pc := 34) (daX2_apart_0 23 rfl) rfl hK
theorem tX2_apart (l : Launch) {v0 v1 v2 : Int} {μ : Mm} {t : Int} (h : fX2_apart v0 v1 v2 μ = some t) : Ct l yX2_apart mX2_apart [(3, v0), (0, v1), (0, v2)] μ ([(0, t)], μ, 0, 0) :=
  Ct_of (by decide +kernel) rfl rfl (Nat.le_of_ble_eq_true rfl) (fun _ _ _ => trivial) (gX2_apart_0 l h ⟨rfl, rfl⟩)
def mX2_lift : MI := (RX2, cX2_lift, 4, (some .int), "lift", 0, 0, fun _ _ _ => True)
theorem cwX2_lift : CWd yX2_lift mX2_lift 3 := ⟨ki_X2, kk_X2_lift, ⟨by decide, by decide⟩, rfl⟩
def dtX2_lift_0 : List (Nat × Instr × Nat) := [(0, .iload_n 1, 1), (1, .ifCond .lt 21, 3), (4, .iload_n 1, 1), (5, .sipush 144, 3), (8, .if_icmp .ge 14, 3), (11, .iload_n 2, 1), (12, .ifCond .lt 10, 3), (15, .iload_n 2, 1), (16, .sipush 144, 3), (19, .if_icmp .lt 5, 3), (22, .iconst 0, 1), (23, .ireturn, 1), (24, .aload_n 0, 1), (25, .getfield 21, 3), (28, .iload_n 2, 1), (29, .iaload, 1), (30, .aload_n 0, 1), (31, .getfield 41, 3), (34, .iload_n 3, 1), (35, .imul, 1), (36, .bipush 100, 2), (38, .idiv, 1), (39, .isub, 1), (40, .aload_n 0, 1), (41, .getfield 21, 3), (44, .iload_n 1, 1), (45, .iaload, 1), (46, .isub, 1), (47, .aload_n 0, 1), (48, .getfield 38, 3), (51, .isub, 1), (52, .ireturn, 1)]
theorem ddX2_lift_0 : (dtX2_lift_0.all fun e => decide (decode mX2_lift.2.1 e.1 = .ok (e.2.1, e.2.2))) = true := by decide +kernel
theorem daX2_lift_0 (j : Nat) {pc n : Nat} {i : Instr} (h : dtX2_lift_0[j]? = some (pc, i, n)) : decode mX2_lift.2.1 pc = .ok (i, n) := dec_of (c := mX2_lift.2.1) ddX2_lift_0 h
def fX2_lift (v0 v1 v2 v3 : Int) (μ : Mm) : Option Int :=
  if v1 < 0 then
    some 0
  else
    if 144 ≤ v1 then
      some 0
    else
      if v2 < 0 then
        some 0
      else
        if v2 < 144 then
          chk (KD v0 = 2) (
          chk (KD (μ v0 6) = 12 ∧ 0 ≤ v2 ∧ v2 < LN (μ v0 6)) (
          chk (0 ≤ v1 ∧ v1 < LN (μ v0 6)) (
          some (w32 ((w32 ((w32 ((μ (μ v0 6) v2) - (w32 ((w32 ((μ v0 3) * v3)).tdiv 100)))) - (μ (μ v0 6) v1))) - (μ v0 2))))))
        else
          some 0
set_option maxRecDepth 20000 in
theorem gX2_lift_0 (l : Launch) {F : FI} {v0 v1 v2 v3 : Int} {μ : Mm} {t : Int} (h : fX2_lift v0 v1 v2 v3 μ = some t) (hK : F.1 = [(0, t)] ∧ F.2.1 = μ) : GM l mX2_lift F 0 0 0 [(0, (3, v0)), (1, (0, v1)), (2, (0, v2)), (3, (0, v3))] [] μ := by
  unfold fX2_lift at h
  refine GM_iload_n (pc := 0) 1 rfl (daX2_lift_0 0 rfl) rfl ?_
  refine GM_if_lt (pc := 1) 22 (daX2_lift_0 1 rfl) rfl (fun c1 => ?_) (fun c1 => ?_)
  · skip
    rw [if_pos c1] at h
    refine GM_iconst (pc := 22) 0 (daX2_lift_0 10 rfl) rfl (R32_b rfl) ?_
    cases h
    exact GM_iret (pc := 23) (daX2_lift_0 11 rfl) rfl hK
  · skip
    rw [if_neg c1] at h
    refine GM_iload_n (pc := 4) 1 rfl (daX2_lift_0 2 rfl) rfl ?_
    refine GM_sipush (pc := 5) 144 (daX2_lift_0 3 rfl) rfl (R32_b rfl) ?_
    refine GM_icmp_ge (pc := 8) 22 (daX2_lift_0 4 rfl) rfl (fun c2 => ?_) (fun c2 => ?_)
    · skip
      rw [if_pos c2] at h
      refine GM_iconst (pc := 22) 0 (daX2_lift_0 10 rfl) rfl (R32_b rfl) ?_
      cases h
      exact GM_iret (pc := 23) (daX2_lift_0 11 rfl) rfl hK
    · skip
      rw [if_neg c2] at h
      refine GM_iload_n (pc := 11) 2 rfl (daX2_lift_0 5 rfl) rfl ?_
      refine GM_if_lt (pc := 12) 22 (daX2_lift_0 6 rfl) rfl (fun c3 => ?_) (fun c3 => ?_)
      · skip
        rw [if_pos c3] at h
        refine GM_iconst (pc := 22) 0 (daX2_lift_0 10 rfl) rfl (R32_b rfl) ?_
        cases h
        exact GM_iret (pc := 23) (daX2_lift_0 11 rfl) rfl hK
      · skip
        rw [if_neg c3] at h
        refine GM_iload_n (pc := 15) 2 rfl (daX2_lift_0 7 rfl) rfl ?_
        refine GM_sipush (pc := 16) 144 (daX2_lift_0 8 rfl) rfl (R32_b rfl) ?_
        refine GM_icmp_lt (pc := 19) 24 (daX2_lift_0 9 rfl) rfl (fun c4 => ?_) (fun c4 => ?_)
        · skip
          rw [if_pos c4] at h
          refine GM_aload_n (pc := 24) 0 rfl (daX2_lift_0 12 rfl) rfl ?_
          obtain ⟨hc5, h⟩ := chk_inv h
          refine GM_getf (pc := 25) 2 6 3 6 kf_X2_21 (Nat.le_of_ble_eq_true rfl) (Nat.le_of_ble_eq_true rfl) rfl (daX2_lift_0 13 rfl) hc5 rfl ?_
          refine GM_iload_n (pc := 28) 2 rfl (daX2_lift_0 14 rfl) rfl ?_
          obtain ⟨hc6, h⟩ := chk_inv h
          refine GM_iald (pc := 29) (daX2_lift_0 15 rfl) hc6.1 hc6.2.1 hc6.2.2 ?_
          refine GM_aload_n (pc := 30) 0 rfl (daX2_lift_0 16 rfl) rfl ?_
          refine GM_getf (pc := 31) 2 3 0 3 kf_X2_41 (Nat.le_of_ble_eq_true rfl) (Nat.le_of_ble_eq_true rfl) rfl (daX2_lift_0 17 rfl) hc5 rfl ?_
          refine GM_iload_n (pc := 34) 3 rfl (daX2_lift_0 18 rfl) rfl ?_
          refine GM_imul (pc := 35) (daX2_lift_0 19 rfl) ?_
          refine GM_bipush (pc := 36) 100 (daX2_lift_0 20 rfl) rfl (R32_b rfl) ?_
          refine GM_idiv (pc := 38) (daX2_lift_0 21 rfl) (by decide) ?_
          refine GM_isub (pc := 39) (daX2_lift_0 22 rfl) ?_
          refine GM_aload_n (pc := 40) 0 rfl (daX2_lift_0 23 rfl) rfl ?_
          refine GM_getf (pc := 41) 2 6 3 6 kf_X2_21 (Nat.le_of_ble_eq_true rfl) (Nat.le_of_ble_eq_true rfl) rfl (daX2_lift_0 24 rfl) hc5 rfl ?_
          refine GM_iload_n (pc := 44) 1 rfl (daX2_lift_0 25 rfl) rfl ?_
          obtain ⟨hc7, h⟩ := chk_inv h
          refine GM_iald (pc := 45) (daX2_lift_0 26 rfl) hc6.1 hc7.1 hc7.2 ?_
          refine GM_isub (pc := 46) (daX2_lift_0 27 rfl) ?_
          refine GM_aload_n (pc := 47) 0 rfl (daX2_lift_0 28 rfl) rfl ?_
          refine GM_getf (pc := 48) 2 2 0 2 kf_X2_38 (Nat.le_of_ble_eq_true rfl) (Nat.le_of_ble_eq_true rfl) rfl (daX2_lift_0 29 rfl) hc5 rfl ?_
          refine GM_isub (pc := 51) (daX2_lift_0 30 rfl) ?_
          cases h
          exact GM_iret (pc := 52) (daX2_lift_0 31 rfl) rfl hK
        · skip
          rw [if_neg c4] at h
          refine GM_iconst (pc := 22) 0 (daX2_lift_0 10 rfl) rfl (R32_b rfl) ?_
          cases h
          exact GM_iret (pc := 23) (daX2_lift_0 11 rfl) rfl hK
theorem tX2_lift (l : Launch) {v0 v1 v2 v3 : Int} {μ : Mm} {t : Int} (h : fX2_lift v0 v1 v2 v3 μ = some t) : Ct l yX2_lift mX2_lift [(3, v0), (0, v1), (0, v2), (0, v3)] μ ([(0, t)], μ, 0, 0) :=
  Ct_of (by decide +kernel) rfl rfl (Nat.le_of_ble_eq_true rfl) (fun _ _ _ => trivial) (gX2_lift_0 l h ⟨rfl, rfl⟩)
def mX2_neighbour : MI := (RX2, cX2_neighbour, 3, (some .int), "neighbour", 1, 21, fun _ _ _ => True)
theorem cwX2_neighbour : CWd yX2_neighbour mX2_neighbour 2 := ⟨ki_X2, kk_X2_neighbour, ⟨by decide, by decide⟩, rfl⟩
def dtX2_neighbour_0 : List (Nat × Instr × Nat) := [(0, .iload_n 2, 1), (1, .tableswitch 93 0 2 #[27, 46, 68], 27), (28, .aload_n 0, 1), (29, .iload_n 1, 1), (30, .invokevirtual 71, 3), (33, .ifCond .le 12, 3), (36, .iload_n 1, 1), (37, .aload_n 0, 1), (38, .getfield 9, 3), (41, .isub, 1), (42, .goto 4, 3), (45, .iconst (-1), 1), (46, .ireturn, 1), (47, .aload_n 0, 1), (48, .iload_n 1, 1), (49, .invokevirtual 67, 3), (52, .aload_n 0, 1), (53, .getfield 9, 3), (56, .iconst 1, 1), (57, .isub, 1), (58, .if_icmp .ge 9, 3), (61, .iload_n 1, 1), (62, .iconst 1, 1), (63, .iadd, 1), (64, .goto 4, 3), (67, .iconst (-1), 1), (68, .ireturn, 1), (69, .aload_n 0, 1), (70, .iload_n 1, 1), (71, .invokevirtual 71, 3), (74, .aload_n 0, 1), (75, .getfield 15, 3), (78, .iconst 1, 1), (79, .isub, 1), (80, .if_icmp .ge 12, 3), (83, .iload_n 1, 1), (84, .aload_n 0, 1), (85, .getfield 9, 3), (88, .iadd, 1), (89, .goto 4, 3), (92, .iconst (-1), 1), (93, .ireturn, 1), (94, .aload_n 0, 1), (95, .iload_n 1, 1), (96, .invokevirtual 67, 3), (99, .ifCond .le 9, 3), (102, .iload_n 1, 1), (103, .iconst 1, 1), (104, .isub, 1), (105, .goto 4, 3), (108, .iconst (-1), 1), (109, .ireturn, 1)]
theorem ddX2_neighbour_0 : (dtX2_neighbour_0.all fun e => decide (decode mX2_neighbour.2.1 e.1 = .ok (e.2.1, e.2.2))) = true := by decide +kernel
theorem daX2_neighbour_0 (j : Nat) {pc n : Nat} {i : Instr} (h : dtX2_neighbour_0[j]? = some (pc, i, n)) : decode mX2_neighbour.2.1 pc = .ok (i, n) := dec_of (c := mX2_neighbour.2.1) ddX2_neighbour_0 h
def fX2_neighbour (v0 v1 v2 : Int) (μ : Mm) : Option Int :=
  if v2 = 0 then
    chk (KD v0 = 2) (
    (fX2_row v0 v1 μ).bind fun r3 =>
    if r3 ≤ 0 then
      some (-1)
    else
      some (w32 (v1 - (μ v0 0))))
  else
  if v2 = 1 then
    chk (KD v0 = 2) (
    (fX2_column v0 v1 μ).bind fun r7 =>
    if w32 ((μ v0 0) - 1) ≤ r7 then
      some (-1)
    else
      some (w32 (v1 + 1)))
  else
  if v2 = 2 then
    chk (KD v0 = 2) (
    (fX2_row v0 v1 μ).bind fun r11 =>
    if w32 ((μ v0 1) - 1) ≤ r11 then
      some (-1)
    else
      some (w32 (v1 + (μ v0 0))))
  else
    chk (KD v0 = 2) (
    (fX2_column v0 v1 μ).bind fun r14 =>
    if r14 ≤ 0 then
      some (-1)
    else
      some (w32 (v1 - 1)))
set_option maxRecDepth 20000 in
theorem gX2_neighbour_0 (l : Launch) {F : FI} {v0 v1 v2 : Int} {μ : Mm} {t : Int} (h : fX2_neighbour v0 v1 v2 μ = some t) (hK : F.1 = [(0, t)] ∧ F.2.1 = μ) : GM l mX2_neighbour F 0 0 0 [(0, (3, v0)), (1, (0, v1)), (2, (0, v2))] [] μ := by
  unfold fX2_neighbour at h
  refine GM_iload_n (pc := 0) 2 rfl (daX2_neighbour_0 0 rfl) rfl ?_
  by_cases c1 : v2 = 0
  · rw [if_pos c1] at h
    refine GM_tableIn (pc := 1) 28 (daX2_neighbour_0 1 rfl) (by omega) (by omega) (by rw [c1]; rfl) rfl ?_
    refine GM_aload_n (pc := 28) 0 rfl (daX2_neighbour_0 2 rfl) rfl ?_
    refine GM_iload_n (pc := 29) 1 rfl (daX2_neighbour_0 3 rfl) rfl ?_
    obtain ⟨hc2, h⟩ := chk_inv h
    obtain ⟨r3, hf3, h⟩ := Option.bind_eq_some_iff.mp h
    refine GM_callV0 (pc := 30) [(0, v1)] (tX2_row l hf3) cwX2_row 2 (Nat.le_of_ble_eq_true rfl) rfl kv_X2_row ke_X2_row km_X2_71 hc2 ⟨Nat.le_of_ble_eq_true rfl, Nat.le_of_ble_eq_true rfl⟩ (Nat.le_of_ble_eq_true rfl) (Nat.le_of_ble_eq_true rfl) (daX2_neighbour_0 4 rfl) ?_
    refine GM_if_le (pc := 33) 45 (daX2_neighbour_0 5 rfl) rfl (fun c4 => ?_) (fun c4 => ?_)
    · skip
      rw [if_pos c4] at h
      refine GM_iconst (pc := 45) (-1) (daX2_neighbour_0 11 rfl) rfl (R32_b rfl) ?_
      cases h
      exact GM_iret (pc := 46) (daX2_neighbour_0 12 rfl) rfl hK
    · skip
      rw [if_neg c4] at h
      refine GM_iload_n (pc := 36) 1 rfl (daX2_neighbour_0 6 rfl) rfl ?_
      refine GM_aload_n (pc := 37) 0 rfl (daX2_neighbour_0 7 rfl) rfl ?_
      refine GM_getf (pc := 38) 2 0 0 0 kf_X2_9 (Nat.le_of_ble_eq_true rfl) (Nat.le_of_ble_eq_true rfl) rfl (daX2_neighbour_0 8 rfl) hc2 rfl ?_
      refine GM_isub (pc := 41) (daX2_neighbour_0 9 rfl) ?_
      refine GM_goto (pc := 42) 46 (daX2_neighbour_0 10 rfl) rfl ?_
      cases h
      exact GM_iret (pc := 46) (daX2_neighbour_0 12 rfl) rfl hK
  rw [if_neg c1] at h
  by_cases c5 : v2 = 1
  · rw [if_pos c5] at h
    refine GM_tableIn (pc := 1) 47 (daX2_neighbour_0 1 rfl) (by omega) (by omega) (by rw [c5]; rfl) rfl ?_
    refine GM_aload_n (pc := 47) 0 rfl (daX2_neighbour_0 13 rfl) rfl ?_
    refine GM_iload_n (pc := 48) 1 rfl (daX2_neighbour_0 14 rfl) rfl ?_
    obtain ⟨hc6, h⟩ := chk_inv h
    obtain ⟨r7, hf7, h⟩ := Option.bind_eq_some_iff.mp h
    refine GM_callV0 (pc := 49) [(0, v1)] (tX2_column l hf7) cwX2_column 2 (Nat.le_of_ble_eq_true rfl) rfl kv_X2_column ke_X2_column km_X2_67 hc6 ⟨Nat.le_of_ble_eq_true rfl, Nat.le_of_ble_eq_true rfl⟩ (Nat.le_of_ble_eq_true rfl) (Nat.le_of_ble_eq_true rfl) (daX2_neighbour_0 15 rfl) ?_
    refine GM_aload_n (pc := 52) 0 rfl (daX2_neighbour_0 16 rfl) rfl ?_
    refine GM_getf (pc := 53) 2 0 0 0 kf_X2_9 (Nat.le_of_ble_eq_true rfl) (Nat.le_of_ble_eq_true rfl) rfl (daX2_neighbour_0 17 rfl) hc6 rfl ?_
    refine GM_iconst (pc := 56) 1 (daX2_neighbour_0 18 rfl) rfl (R32_b rfl) ?_
    refine GM_isub (pc := 57) (daX2_neighbour_0 19 rfl) ?_
    refine GM_icmp_ge (pc := 58) 67 (daX2_neighbour_0 20 rfl) rfl (fun c8 => ?_) (fun c8 => ?_)
    · skip
      rw [if_pos c8] at h
      refine GM_iconst (pc := 67) (-1) (daX2_neighbour_0 25 rfl) rfl (R32_b rfl) ?_
      cases h
      exact GM_iret (pc := 68) (daX2_neighbour_0 26 rfl) rfl hK
    · skip
      rw [if_neg c8] at h
      refine GM_iload_n (pc := 61) 1 rfl (daX2_neighbour_0 21 rfl) rfl ?_
      refine GM_iconst (pc := 62) 1 (daX2_neighbour_0 22 rfl) rfl (R32_b rfl) ?_
      refine GM_iadd (pc := 63) (daX2_neighbour_0 23 rfl) ?_
      refine GM_goto (pc := 64) 68 (daX2_neighbour_0 24 rfl) rfl ?_
      cases h
      exact GM_iret (pc := 68) (daX2_neighbour_0 26 rfl) rfl hK
  rw [if_neg c5] at h
  by_cases c9 : v2 = 2
  · rw [if_pos c9] at h
    refine GM_tableIn (pc := 1) 69 (daX2_neighbour_0 1 rfl) (by omega) (by omega) (by rw [c9]; rfl) rfl ?_
    refine GM_aload_n (pc := 69) 0 rfl (daX2_neighbour_0 27 rfl) rfl ?_
    refine GM_iload_n (pc := 70) 1 rfl (daX2_neighbour_0 28 rfl) rfl ?_
    obtain ⟨hc10, h⟩ := chk_inv h
    obtain ⟨r11, hf11, h⟩ := Option.bind_eq_some_iff.mp h
    refine GM_callV0 (pc := 71) [(0, v1)] (tX2_row l hf11) cwX2_row 2 (Nat.le_of_ble_eq_true rfl) rfl kv_X2_row ke_X2_row km_X2_71 hc10 ⟨Nat.le_of_ble_eq_true rfl, Nat.le_of_ble_eq_true rfl⟩ (Nat.le_of_ble_eq_true rfl) (Nat.le_of_ble_eq_true rfl) (daX2_neighbour_0 29 rfl) ?_
    refine GM_aload_n (pc := 74) 0 rfl (daX2_neighbour_0 30 rfl) rfl ?_
    refine GM_getf (pc := 75) 2 1 0 1 kf_X2_15 (Nat.le_of_ble_eq_true rfl) (Nat.le_of_ble_eq_true rfl) rfl (daX2_neighbour_0 31 rfl) hc10 rfl ?_
    refine GM_iconst (pc := 78) 1 (daX2_neighbour_0 32 rfl) rfl (R32_b rfl) ?_
    refine GM_isub (pc := 79) (daX2_neighbour_0 33 rfl) ?_
    refine GM_icmp_ge (pc := 80) 92 (daX2_neighbour_0 34 rfl) rfl (fun c12 => ?_) (fun c12 => ?_)
    · skip
      rw [if_pos c12] at h
      refine GM_iconst (pc := 92) (-1) (daX2_neighbour_0 40 rfl) rfl (R32_b rfl) ?_
      cases h
      exact GM_iret (pc := 93) (daX2_neighbour_0 41 rfl) rfl hK
    · skip
      rw [if_neg c12] at h
      refine GM_iload_n (pc := 83) 1 rfl (daX2_neighbour_0 35 rfl) rfl ?_
      refine GM_aload_n (pc := 84) 0 rfl (daX2_neighbour_0 36 rfl) rfl ?_
      refine GM_getf (pc := 85) 2 0 0 0 kf_X2_9 (Nat.le_of_ble_eq_true rfl) (Nat.le_of_ble_eq_true rfl) rfl (daX2_neighbour_0 37 rfl) hc10 rfl ?_
      refine GM_iadd (pc := 88) (daX2_neighbour_0 38 rfl) ?_
      refine GM_goto (pc := 89) 93 (daX2_neighbour_0 39 rfl) rfl ?_
      cases h
      exact GM_iret (pc := 93) (daX2_neighbour_0 41 rfl) rfl hK
  rw [if_neg c9] at h
  refine GM_tableOut (pc := 1) 94 (daX2_neighbour_0 1 rfl) (by omega) rfl ?_
  refine GM_aload_n (pc := 94) 0 rfl (daX2_neighbour_0 42 rfl) rfl ?_
  refine GM_iload_n (pc := 95) 1 rfl (daX2_neighbour_0 43 rfl) rfl ?_
  obtain ⟨hc13, h⟩ := chk_inv h
  obtain ⟨r14, hf14, h⟩ := Option.bind_eq_some_iff.mp h
  refine GM_callV0 (pc := 96) [(0, v1)] (tX2_column l hf14) cwX2_column 2 (Nat.le_of_ble_eq_true rfl) rfl kv_X2_column ke_X2_column km_X2_67 hc13 ⟨Nat.le_of_ble_eq_true rfl, Nat.le_of_ble_eq_true rfl⟩ (Nat.le_of_ble_eq_true rfl) (Nat.le_of_ble_eq_true rfl) (daX2_neighbour_0 44 rfl) ?_
  refine GM_if_le (pc := 99) 108 (daX2_neighbour_0 45 rfl) rfl (fun c15 => ?_) (fun c15 => ?_)
  · skip
    rw [if_pos c15] at h
    refine GM_iconst (pc := 108) (-1) (daX2_neighbour_0 50 rfl) rfl (R32_b rfl) ?_
    cases h
    exact GM_iret (pc := 109) (daX2_neighbour_0 51 rfl) rfl hK
  · skip
    rw [if_neg c15] at h
    refine GM_iload_n (pc := 102) 1 rfl (daX2_neighbour_0 46 rfl) rfl ?_
    refine GM_iconst (pc := 103) 1 (daX2_neighbour_0 47 rfl) rfl (R32_b rfl) ?_
    refine GM_isub (pc := 104) (daX2_neighbour_0 48 rfl) ?_
    refine GM_goto (pc := 105) 109 (daX2_neighbour_0 49 rfl) rfl ?_
    cases h
    exact GM_iret (pc := 109) (daX2_neighbour_0 51 rfl) rfl hK
theorem tX2_neighbour (l : Launch) {v0 v1 v2 : Int} {μ : Mm} {t : Int} (h : fX2_neighbour v0 v1 v2 μ = some t) : Ct l yX2_neighbour mX2_neighbour [(3, v0), (0, v1), (0, v2)] μ ([(0, t)], μ, 0, 0) :=
  Ct_of (by decide +kernel) rfl rfl (Nat.le_of_ble_eq_true rfl) (fun _ _ _ => trivial) (gX2_neighbour_0 l h ⟨rfl, rfl⟩)
def mX2_isPeak : MI := (RX2, cX2_isPeak, 4, (some .boolean), "isPeak", 2, 43, fun _ _ _ => True)
theorem cwX2_isPeak : CWd yX2_isPeak mX2_isPeak 1 := ⟨ki_X2, kk_X2_isPeak, ⟨by decide, by decide⟩, rfl⟩
def dtX2_isPeak_0 : List (Nat × Instr × Nat) := [(0, .iconst 0, 1), (1, .istore_n 2, 1), (2, .iload_n 2, 1), (3, .iconst 4, 1), (4, .if_icmp .ge 49, 3), (7, .aload_n 0, 1), (8, .iload_n 1, 1), (9, .iload_n 2, 1), (10, .invokevirtual 74, 3), (13, .istore_n 3, 1), (14, .aload_n 0, 1), (15, .iload_n 1, 1), (16, .invokevirtual 78, 3), (19, .ifCond .eq 28, 3), (22, .aload_n 0, 1), (23, .iload_n 3, 1), (24, .invokevirtual 78, 3), (27, .ifCond .eq 20, 3), (30, .aload_n 0, 1), (31, .getfield 21, 3), (34, .iload_n 3, 1), (35, .iaload, 1), (36, .aload_n 0, 1), (37, .getfield 21, 3), (40, .iload_n 1, 1), (41, .iaload, 1), (42, .if_icmp .lt 5, 3), (45, .iconst 0, 1), (46, .ireturn, 1), (47, .iinc 2 1, 3), (50, .goto (-48), 3), (53, .iconst 1, 1), (54, .ireturn, 1)]
theorem ddX2_isPeak_0 : (dtX2_isPeak_0.all fun e => decide (decode mX2_isPeak.2.1 e.1 = .ok (e.2.1, e.2.2))) = true := by decide +kernel
theorem daX2_isPeak_0 (j : Nat) {pc n : Nat} {i : Instr} (h : dtX2_isPeak_0[j]? = some (pc, i, n)) : decode mX2_isPeak.2.1 pc = .ok (i, n) := dec_of (c := mX2_isPeak.2.1) ddX2_isPeak_0 h
def zX2_isPeak_2 (l : Launch) (F : FI) (v0 v1 : Int) (μ : Mm) (k n : Nat) : Int ⊕ (Unit ⊕ Unit) → Prop
  | .inl v2 => GM l mX2_isPeak F k n 2 [(0, (3, v0)), (1, (0, v1)), (2, (0, v2))] [] μ
  | .inr (.inl ()) => GM l mX2_isPeak F k n 53 [] [] μ
  | .inr (.inr ()) => GM l mX2_isPeak F k n 45 [] [] μ
def sX2_isPeak_2 (v0 v1 : Int) (μ : Mm) : Int → Option (Int ⊕ (Unit ⊕ Unit)) := fun v2 =>
  if 4 ≤ v2 then
    some (.inr (.inl ()))
  else
    chk (KD v0 = 2) (
    (fX2_neighbour v0 v1 v2 μ).bind fun r3 =>
    (fX2_has v0 v1 μ).bind fun r4 =>
    if r4 = 0 then
      some (.inl (w32 (v2 + 1)))
    else
      (fX2_has v0 r3 μ).bind fun r6 =>
      if r6 = 0 then
        some (.inl (w32 (v2 + 1)))
      else
        chk (KD (μ v0 6) = 12 ∧ 0 ≤ r3 ∧ r3 < LN (μ v0 6)) (
        chk (0 ≤ v1 ∧ v1 < LN (μ v0 6)) (
        if μ (μ v0 6) r3 < μ (μ v0 6) v1 then
          some (.inl (w32 (v2 + 1)))
        else
          some (.inr (.inr ())))))
def fX2_isPeak (v0 v1 : Int) (μ : Mm) : Option Int :=
  (lop (sX2_isPeak_2 v0 v1 μ) FU 0).bind fun x11 =>
    match x11 with
    | (.inl ()) =>
        some 1
    | (.inr ()) =>
        some 0
set_option maxRecDepth 20000 in
theorem qX2_isPeak_2 (l : Launch) (F : FI) (v0 v1 : Int) (μ : Mm) (k n : Nat) : ∀ (q : Int) (t : (Int ⊕ (Unit ⊕ Unit))), sX2_isPeak_2 v0 v1 μ q = some t → zX2_isPeak_2 l F v0 v1 μ k n t → zX2_isPeak_2 l F v0 v1 μ k n (.inl q) := by
  intro q t h hK
  obtain ⟨v2, hqq⟩ : ∃ z, z = q := ⟨q, rfl⟩
  subst hqq
  unfold sX2_isPeak_2 at h
  try dsimp only at h
  show GM l mX2_isPeak F k n 2 [(0, (3, v0)), (1, (0, v1)), (2, (0, v2))] [] μ
  refine GM_iload_n (pc := 2) 2 rfl (daX2_isPeak_0 2 rfl) rfl ?_
  refine GM_iconst (pc := 3) 4 (daX2_isPeak_0 3 rfl) rfl (R32_b rfl) ?_
  refine GM_icmp_ge (pc := 4) 53 (daX2_isPeak_0 4 rfl) rfl (fun c1 => ?_) (fun c1 => ?_)
  · skip
    rw [if_pos c1] at h
    refine GM_pick [] rfl ?_
    cases h
    exact hK
  · skip
    rw [if_neg c1] at h
    refine GM_aload_n (pc := 7) 0 rfl (daX2_isPeak_0 5 rfl) rfl ?_
    refine GM_iload_n (pc := 8) 1 rfl (daX2_isPeak_0 6 rfl) rfl ?_
    refine GM_iload_n (pc := 9) 2 rfl (daX2_isPeak_0 7 rfl) rfl ?_
    obtain ⟨hc2, h⟩ := chk_inv h
    obtain ⟨r3, hf3, h⟩ := Option.bind_eq_some_iff.mp h
    refine GM_callV0 (pc := 10) [(0, v1), (0, v2)] (tX2_neighbour l hf3) cwX2_neighbour 2 (Nat.le_of_ble_eq_true rfl) rfl kv_X2_neighbour ke_X2_neighbour km_X2_74 hc2 ⟨Nat.le_of_ble_eq_true rfl, Nat.le_of_ble_eq_true rfl⟩ (Nat.le_of_ble_eq_true rfl) (Nat.le_of_ble_eq_true rfl) (daX2_isPeak_0 8 rfl) ?_
    refine GM_istore_n (L' := [(3, (0, r3)), (0, (3, v0)), (1, (0, v1)), (2, (0, v2))]) (pc := 13) (daX2_isPeak_0 9 rfl) rfl (Nat.le_of_ble_eq_true rfl) rfl ?_
    refine GM_aload_n (pc := 14) 1 rfl (daX2_isPeak_0 10 rfl) rfl ?_
    refine GM_iload_n (pc := 15) 2 rfl (daX2_isPeak_0 11 rfl) rfl ?_
    obtain ⟨r4, hf4, h⟩ := Option.bind_eq_some_iff.mp h
    refine GM_callV0 (pc := 16) [(0, v1)] (tX2_has l hf4) cwX2_has 2 (Nat.le_of_ble_eq_true rfl) rfl kv_X2_has ke_X2_has km_X2_78 hc2 ⟨Nat.le_of_ble_eq_true rfl, Nat.le_of_ble_eq_true rfl⟩ (Nat.le_of_ble_eq_true rfl) (Nat.le_of_ble_eq_true rfl) (daX2_isPeak_0 12 rfl) ?_
    refine GM_if_eq (pc := 19) 47 (daX2_isPeak_0 13 rfl) rfl (fun c5 => ?_) (fun c5 => ?_)
    · skip
      rw [if_pos c5] at h
      refine GM_iinc (L' := [(2, (0, w32 (v2 + 1))), (3, (0, r3)), (0, (3, v0)), (1, (0, v1))]) (pc := 47) 3 rfl (daX2_isPeak_0 29 rfl) (Nat.le_of_ble_eq_true rfl) rfl ?_
      refine GM_goto (pc := 50) 2 (daX2_isPeak_0 30 rfl) rfl ?_
      refine GM_pick [2, 3, 0] rfl ?_
      cases h
      exact hK
    · skip
      rw [if_neg c5] at h
      refine GM_aload_n (pc := 22) 1 rfl (daX2_isPeak_0 14 rfl) rfl ?_
      refine GM_iload_n (pc := 23) 0 rfl (daX2_isPeak_0 15 rfl) rfl ?_
      obtain ⟨r6, hf6, h⟩ := Option.bind_eq_some_iff.mp h
      refine GM_callV0 (pc := 24) [(0, r3)] (tX2_has l hf6) cwX2_has 2 (Nat.le_of_ble_eq_true rfl) rfl kv_X2_has ke_X2_has km_X2_78 hc2 ⟨Nat.le_of_ble_eq_true rfl, Nat.le_of_ble_eq_true rfl⟩ (Nat.le_of_ble_eq_true rfl) (Nat.le_of_ble_eq_true rfl) (daX2_isPeak_0 16 rfl) ?_
      refine GM_if_eq (pc := 27) 47 (daX2_isPeak_0 17 rfl) rfl (fun c7 => ?_) (fun c7 => ?_)
      · skip
        rw [if_pos c7] at h
        refine GM_iinc (L' := [(2, (0, w32 (v2 + 1))), (3, (0, r3)), (0, (3, v0)), (1, (0, v1))]) (pc := 47) 3 rfl (daX2_isPeak_0 29 rfl) (Nat.le_of_ble_eq_true rfl) rfl ?_
        refine GM_goto (pc := 50) 2 (daX2_isPeak_0 30 rfl) rfl ?_
        refine GM_pick [2, 3, 0] rfl ?_
        cases h
        exact hK
      · skip
        rw [if_neg c7] at h
        refine GM_aload_n (pc := 30) 1 rfl (daX2_isPeak_0 18 rfl) rfl ?_
        refine GM_getf (pc := 31) 2 6 3 6 kf_X2_21 (Nat.le_of_ble_eq_true rfl) (Nat.le_of_ble_eq_true rfl) rfl (daX2_isPeak_0 19 rfl) hc2 rfl ?_
        refine GM_iload_n (pc := 34) 0 rfl (daX2_isPeak_0 20 rfl) rfl ?_
        obtain ⟨hc8, h⟩ := chk_inv h
        refine GM_iald (pc := 35) (daX2_isPeak_0 21 rfl) hc8.1 hc8.2.1 hc8.2.2 ?_
        refine GM_aload_n (pc := 36) 1 rfl (daX2_isPeak_0 22 rfl) rfl ?_
        refine GM_getf (pc := 37) 2 6 3 6 kf_X2_21 (Nat.le_of_ble_eq_true rfl) (Nat.le_of_ble_eq_true rfl) rfl (daX2_isPeak_0 23 rfl) hc2 rfl ?_
        refine GM_iload_n (pc := 40) 2 rfl (daX2_isPeak_0 24 rfl) rfl ?_
        obtain ⟨hc9, h⟩ := chk_inv h
        refine GM_iald (pc := 41) (daX2_isPeak_0 25 rfl) hc8.1 hc9.1 hc9.2 ?_
        refine GM_icmp_lt (pc := 42) 47 (daX2_isPeak_0 26 rfl) rfl (fun c10 => ?_) (fun c10 => ?_)
        · skip
          rw [if_pos c10] at h
          refine GM_iinc (L' := [(2, (0, w32 (v2 + 1))), (3, (0, r3)), (0, (3, v0)), (1, (0, v1))]) (pc := 47) 3 rfl (daX2_isPeak_0 29 rfl) (Nat.le_of_ble_eq_true rfl) rfl ?_
          refine GM_goto (pc := 50) 2 (daX2_isPeak_0 30 rfl) rfl ?_
          refine GM_pick [2, 3, 0] rfl ?_
          cases h
          exact hK
        · skip
          rw [if_neg c10] at h
          refine GM_pick [] rfl ?_
          cases h
          exact hK
set_option maxRecDepth 20000 in
theorem gX2_isPeak_0 (l : Launch) {F : FI} {v0 v1 : Int} {μ : Mm} {t : Int} (h : fX2_isPeak v0 v1 μ = some t) (hK : F.1 = [(0, t)] ∧ F.2.1 = μ) : GM l mX2_isPeak F 0 0 0 [(0, (3, v0)), (1, (0, v1))] [] μ := by
  unfold fX2_isPeak at h
  refine GM_iconst (pc := 0) 0 (daX2_isPeak_0 0 rfl) rfl (R32_b rfl) ?_
  refine GM_istore_n (L' := [(2, (0, 0)), (0, (3, v0)), (1, (0, v1))]) (pc := 1) (daX2_isPeak_0 1 rfl) rfl (Nat.le_of_ble_eq_true rfl) rfl ?_
  refine GM_pick [1, 2, 0] rfl ?_
  obtain ⟨x11, hqx11, h⟩ := Option.bind_eq_some_iff.mp h
  refine lop_ind (zX2_isPeak_2 l F v0 v1 μ 0 0) (qX2_isPeak_2 l F v0 v1 μ 0 0) FU _ x11 hqx11 ?_
  rcases x11 with _ | _
  · dsimp only at h
    show GM l mX2_isPeak F 0 0 53 [] [] μ
    refine GM_iconst (pc := 53) 1 (daX2_isPeak_0 31 rfl) rfl (R32_b rfl) ?_
    cases h
    exact GM_zret (pc := 54) (daX2_isPeak_0 32 rfl) rfl (Or.inr rfl) hK
  · dsimp only at h
    show GM l mX2_isPeak F 0 0 45 [] [] μ
    refine GM_iconst (pc := 45) 0 (daX2_isPeak_0 27 rfl) rfl (R32_b rfl) ?_
    cases h
    exact GM_zret (pc := 46) (daX2_isPeak_0 28 rfl) rfl (Or.inl rfl) hK
theorem tX2_isPeak (l : Launch) {v0 v1 : Int} {μ : Mm} {t : Int} (h : fX2_isPeak v0 v1 μ = some t) : Ct l yX2_isPeak mX2_isPeak [(3, v0), (0, v1)] μ ([(0, t)], μ, 0, 0) :=
  Ct_of (by decide +kernel) rfl rfl (Nat.le_of_ble_eq_true rfl) (fun _ _ _ => trivial) (gX2_isPeak_0 l h ⟨rfl, rfl⟩)
def mX2_hasTower : MI := (RX2, cX2_hasTower, 4, (some .boolean), "hasTower", 0, 0, fun _ _ _ => True)
theorem cwX2_hasTower : CWd yX2_hasTower mX2_hasTower 2 := ⟨ki_X2, kk_X2_hasTower, ⟨by decide, by decide⟩, rfl⟩
def dtX2_hasTower_0 : List (Nat × Instr × Nat) := [(0, .iconst 0, 1), (1, .istore_n 3, 1), (2, .iload_n 3, 1), (3, .aload_n 0, 1), (4, .getfield 44, 3), (7, .if_icmp .ge 56, 3), (10, .iload_n 3, 1), (11, .bipush 12, 2), (13, .if_icmp .ge 50, 3), (16, .aload_n 0, 1), (17, .getfield 28, 3), (20, .iload_n 3, 1), (21, .baload, 1), (22, .ifCond .eq 35, 3), (25, .aload_n 0, 1), (26, .getfield 25, 3), (29, .iload_n 3, 1), (30, .iaload, 1), (31, .iload_n 1, 1), (32, .if_icmp .ne 25, 3), (35, .aload_n 0, 1), (36, .getfield 32, 3), (39, .iload_n 3, 1), (40, .iaload, 1), (41, .iload_n 2, 1), (42, .if_icmp .gt 15, 3), (45, .iload_n 2, 1), (46, .aload_n 0, 1), (47, .getfield 35, 3), (50, .iload_n 3, 1), (51, .iaload, 1), (52, .if_icmp .gt 5, 3), (55, .iconst 1, 1), (56, .ireturn, 1), (57, .iinc 3 1, 3), (60, .goto (-58), 3), (63, .iconst 0, 1), (64, .ireturn, 1)]
theorem ddX2_hasTower_0 : (dtX2_hasTower_0.all fun e => decide (decode mX2_hasTower.2.1 e.1 = .ok (e.2.1, e.2.2))) = true := by decide +kernel
theorem daX2_hasTower_0 (j : Nat) {pc n : Nat} {i : Instr} (h : dtX2_hasTower_0[j]? = some (pc, i, n)) : decode mX2_hasTower.2.1 pc = .ok (i, n) := dec_of (c := mX2_hasTower.2.1) ddX2_hasTower_0 h
def zX2_hasTower_2 (l : Launch) (F : FI) (v0 v1 v2 : Int) (μ : Mm) (k n : Nat) : Int ⊕ (Unit ⊕ Unit) → Prop
  | .inl v3 => GM l mX2_hasTower F k n 2 [(0, (3, v0)), (1, (0, v1)), (2, (0, v2)), (3, (0, v3))] [] μ
  | .inr (.inl ()) => GM l mX2_hasTower F k n 63 [] [] μ
  | .inr (.inr ()) => GM l mX2_hasTower F k n 55 [] [] μ
def sX2_hasTower_2 (v0 v1 v2 : Int) (μ : Mm) : Int → Option (Int ⊕ (Unit ⊕ Unit)) := fun v3 =>
  chk (KD v0 = 2) (
  if μ v0 5 ≤ v3 then
    some (.inr (.inl ()))
  else
    if 12 ≤ v3 then
      some (.inr (.inl ()))
    else
      chk (KD (μ v0 8) = 14 ∧ 0 ≤ v3 ∧ v3 < LN (μ v0 8)) (
      if μ (μ v0 8) v3 = 0 then
        some (.inl (w32 (v3 + 1)))
      else
        chk (KD (μ v0 7) = 12 ∧ v3 < LN (μ v0 7)) (
        if μ (μ v0 7) v3 = v1 then
          chk (KD (μ v0 9) = 12 ∧ v3 < LN (μ v0 9)) (
          if v2 < μ (μ v0 9) v3 then
            some (.inl (w32 (v3 + 1)))
          else
            chk (KD (μ v0 10) = 12 ∧ v3 < LN (μ v0 10)) (
            if μ (μ v0 10) v3 < v2 then
              some (.inl (w32 (v3 + 1)))
            else
              some (.inr (.inr ()))))
        else
          some (.inl (w32 (v3 + 1))))))
def fX2_hasTower (v0 v1 v2 : Int) (μ : Mm) : Option Int :=
  (lop (sX2_hasTower_2 v0 v1 v2 μ) FU 0).bind fun x12 =>
    match x12 with
    | (.inl ()) =>
        some 0
    | (.inr ()) =>
        some 1
set_option maxRecDepth 20000 in
theorem qX2_hasTower_2 (l : Launch) (F : FI) (v0 v1 v2 : Int) (μ : Mm) (k n : Nat) : ∀ (q : Int) (t : (Int ⊕ (Unit ⊕ Unit))), sX2_hasTower_2 v0 v1 v2 μ q = some t → zX2_hasTower_2 l F v0 v1 v2 μ k n t → zX2_hasTower_2 l F v0 v1 v2 μ k n (.inl q) := by
  intro q t h hK
  obtain ⟨v3, hqq⟩ : ∃ z, z = q := ⟨q, rfl⟩
  subst hqq
  unfold sX2_hasTower_2 at h
  try dsimp only at h
  show GM l mX2_hasTower F k n 2 [(0, (3, v0)), (1, (0, v1)), (2, (0, v2)), (3, (0, v3))] [] μ
  refine GM_iload_n (pc := 2) 3 rfl (daX2_hasTower_0 2 rfl) rfl ?_
  refine GM_aload_n (pc := 3) 0 rfl (daX2_hasTower_0 3 rfl) rfl ?_
  obtain ⟨hc1, h⟩ := chk_inv h
  refine GM_getf (pc := 4) 2 5 0 5 kf_X2_44 (Nat.le_of_ble_eq_true rfl) (Nat.le_of_ble_eq_true rfl) rfl (daX2_hasTower_0 4 rfl) hc1 rfl ?_
  refine GM_icmp_ge (pc := 7) 63 (daX2_hasTower_0 5 rfl) rfl (fun c2 => ?_) (fun c2 => ?_)
  · skip
    rw [if_pos c2] at h
    refine GM_pick [] rfl ?_
    cases h
    exact hK
  · skip
    rw [if_neg c2] at h
    refine GM_iload_n (pc := 10) 3 rfl (daX2_hasTower_0 6 rfl) rfl ?_
    refine GM_bipush (pc := 11) 12 (daX2_hasTower_0 7 rfl) rfl (R32_b rfl) ?_
    refine GM_icmp_ge (pc := 13) 63 (daX2_hasTower_0 8 rfl) rfl (fun c3 => ?_) (fun c3 => ?_)
    · skip
      rw [if_pos c3] at h
      refine GM_pick [] rfl ?_
      cases h
      exact hK
    · skip
      rw [if_neg c3] at h
      refine GM_aload_n (pc := 16) 0 rfl (daX2_hasTower_0 9 rfl) rfl ?_
      refine GM_getf (pc := 17) 2 8 3 8 kf_X2_28 (Nat.le_of_ble_eq_true rfl) (Nat.le_of_ble_eq_true rfl) rfl (daX2_hasTower_0 10 rfl) hc1 rfl ?_
      refine GM_iload_n (pc := 20) 3 rfl (daX2_hasTower_0 11 rfl) rfl ?_
      obtain ⟨hc4, h⟩ := chk_inv h
      refine GM_zald (pc := 21) (daX2_hasTower_0 12 rfl) hc4.1 hc4.2.1 hc4.2.2 ?_
      refine GM_if_eq (pc := 22) 57 (daX2_hasTower_0 13 rfl) rfl (fun c5 => ?_) (fun c5 => ?_)
      · skip
        rw [if_pos c5] at h
        refine GM_iinc (L' := [(3, (0, w32 (v3 + 1))), (0, (3, v0)), (1, (0, v1)), (2, (0, v2))]) (pc := 57) 3 rfl (daX2_hasTower_0 34 rfl) (Nat.le_of_ble_eq_true rfl) rfl ?_
        refine GM_goto (pc := 60) 2 (daX2_hasTower_0 35 rfl) rfl ?_
        refine GM_pick [1, 2, 3, 0] rfl ?_
        cases h
        exact hK
      · skip
        rw [if_neg c5] at h
        refine GM_aload_n (pc := 25) 0 rfl (daX2_hasTower_0 14 rfl) rfl ?_
        refine GM_getf (pc := 26) 2 7 3 7 kf_X2_25 (Nat.le_of_ble_eq_true rfl) (Nat.le_of_ble_eq_true rfl) rfl (daX2_hasTower_0 15 rfl) hc1 rfl ?_
        refine GM_iload_n (pc := 29) 3 rfl (daX2_hasTower_0 16 rfl) rfl ?_
        obtain ⟨hc6, h⟩ := chk_inv h
        refine GM_iald (pc := 30) (daX2_hasTower_0 17 rfl) hc6.1 hc4.2.1 hc6.2 ?_
        refine GM_iload_n (pc := 31) 1 rfl (daX2_hasTower_0 18 rfl) rfl ?_
        refine GM_icmp_ne (pc := 32) 57 (daX2_hasTower_0 19 rfl) rfl (fun c7 => ?_) (fun c7 => ?_)
        · skip
          rw [if_neg c7] at h
          refine GM_iinc (L' := [(3, (0, w32 (v3 + 1))), (0, (3, v0)), (1, (0, v1)), (2, (0, v2))]) (pc := 57) 3 rfl (daX2_hasTower_0 34 rfl) (Nat.le_of_ble_eq_true rfl) rfl ?_
          refine GM_goto (pc := 60) 2 (daX2_hasTower_0 35 rfl) rfl ?_
          refine GM_pick [1, 2, 3, 0] rfl ?_
          cases h
          exact hK
        · skip
          rw [if_pos c7] at h
          refine GM_aload_n (pc := 35) 0 rfl (daX2_hasTower_0 20 rfl) rfl ?_
          refine GM_getf (pc := 36) 2 9 3 9 kf_X2_32 (Nat.le_of_ble_eq_true rfl) (Nat.le_of_ble_eq_true rfl) rfl (daX2_hasTower_0 21 rfl) hc1 rfl ?_
          refine GM_iload_n (pc := 39) 3 rfl (daX2_hasTower_0 22 rfl) rfl ?_
          obtain ⟨hc8, h⟩ := chk_inv h
          refine GM_iald (pc := 40) (daX2_hasTower_0 23 rfl) hc8.1 hc4.2.1 hc8.2 ?_
          refine GM_iload_n (pc := 41) 2 rfl (daX2_hasTower_0 24 rfl) rfl ?_
          refine GM_icmp_gt (pc := 42) 57 (daX2_hasTower_0 25 rfl) rfl (fun c9 => ?_) (fun c9 => ?_)
          · skip
            rw [if_pos c9] at h
            refine GM_iinc (L' := [(3, (0, w32 (v3 + 1))), (0, (3, v0)), (1, (0, v1)), (2, (0, v2))]) (pc := 57) 3 rfl (daX2_hasTower_0 34 rfl) (Nat.le_of_ble_eq_true rfl) rfl ?_
            refine GM_goto (pc := 60) 2 (daX2_hasTower_0 35 rfl) rfl ?_
            refine GM_pick [1, 2, 3, 0] rfl ?_
            cases h
            exact hK
          · skip
            rw [if_neg c9] at h
            refine GM_iload_n (pc := 45) 2 rfl (daX2_hasTower_0 26 rfl) rfl ?_
            refine GM_aload_n (pc := 46) 0 rfl (daX2_hasTower_0 27 rfl) rfl ?_
            refine GM_getf (pc := 47) 2 10 3 10 kf_X2_35 (Nat.le_of_ble_eq_true rfl) (Nat.le_of_ble_eq_true rfl) rfl (daX2_hasTower_0 28 rfl) hc1 rfl ?_
            refine GM_iload_n (pc := 50) 3 rfl (daX2_hasTower_0 29 rfl) rfl ?_
            obtain ⟨hc10, h⟩ := chk_inv h
            refine GM_iald (pc := 51) (daX2_hasTower_0 30 rfl) hc10.1 hc4.2.1 hc10.2 ?_
            refine GM_icmp_gt (pc := 52) 57 (daX2_hasTower_0 31 rfl) rfl (fun c11 => ?_) (fun c11 => ?_)
            · skip
              rw [if_pos c11] at h
              refine GM_iinc (L' := [(3, (0, w32 (v3 + 1))), (0, (3, v0)), (1, (0, v1)), (2, (0, v2))]) (pc := 57) 3 rfl (daX2_hasTower_0 34 rfl) (Nat.le_of_ble_eq_true rfl) rfl ?_
              refine GM_goto (pc := 60) 2 (daX2_hasTower_0 35 rfl) rfl ?_
              refine GM_pick [1, 2, 3, 0] rfl ?_
              cases h
              exact hK
            · skip
              rw [if_neg c11] at h
              refine GM_pick [] rfl ?_
              cases h
              exact hK
set_option maxRecDepth 20000 in
theorem gX2_hasTower_0 (l : Launch) {F : FI} {v0 v1 v2 : Int} {μ : Mm} {t : Int} (h : fX2_hasTower v0 v1 v2 μ = some t) (hK : F.1 = [(0, t)] ∧ F.2.1 = μ) : GM l mX2_hasTower F 0 0 0 [(0, (3, v0)), (1, (0, v1)), (2, (0, v2))] [] μ := by
  unfold fX2_hasTower at h
  refine GM_iconst (pc := 0) 0 (daX2_hasTower_0 0 rfl) rfl (R32_b rfl) ?_
  refine GM_istore_n (L' := [(3, (0, 0)), (0, (3, v0)), (1, (0, v1)), (2, (0, v2))]) (pc := 1) (daX2_hasTower_0 1 rfl) rfl (Nat.le_of_ble_eq_true rfl) rfl ?_
  refine GM_pick [1, 2, 3, 0] rfl ?_
  obtain ⟨x12, hqx12, h⟩ := Option.bind_eq_some_iff.mp h
  refine lop_ind (zX2_hasTower_2 l F v0 v1 v2 μ 0 0) (qX2_hasTower_2 l F v0 v1 v2 μ 0 0) FU _ x12 hqx12 ?_
  rcases x12 with _ | _
  · dsimp only at h
    show GM l mX2_hasTower F 0 0 63 [] [] μ
    refine GM_iconst (pc := 63) 0 (daX2_hasTower_0 36 rfl) rfl (R32_b rfl) ?_
    cases h
    exact GM_zret (pc := 64) (daX2_hasTower_0 37 rfl) rfl (Or.inl rfl) hK
  · dsimp only at h
    show GM l mX2_hasTower F 0 0 55 [] [] μ
    refine GM_iconst (pc := 55) 1 (daX2_hasTower_0 32 rfl) rfl (R32_b rfl) ?_
    cases h
    exact GM_zret (pc := 56) (daX2_hasTower_0 33 rfl) rfl (Or.inr rfl) hK
theorem tX2_hasTower (l : Launch) {v0 v1 v2 : Int} {μ : Mm} {t : Int} (h : fX2_hasTower v0 v1 v2 μ = some t) : Ct l yX2_hasTower mX2_hasTower [(3, v0), (0, v1), (0, v2)] μ ([(0, t)], μ, 0, 0) :=
  Ct_of (by decide +kernel) rfl rfl (Nat.le_of_ble_eq_true rfl) (fun _ _ _ => trivial) (gX2_hasTower_0 l h ⟨rfl, rfl⟩)
