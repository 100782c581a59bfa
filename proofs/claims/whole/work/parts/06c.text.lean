theorem dec_of {c : ByteArray} {tab : List (Nat × Instr × Nat)} (h : (tab.all fun e => decide (decode c e.1 = .ok (e.2.1, e.2.2))) = true) {j pc n : Nat} {i : Instr} (hj : tab[j]? = some (pc, i, n)) : decode c pc = .ok (i, n) := of_decide_eq_true (List.all_eq_true.mp h (pc, i, n) (List.mem_of_getElem? hj))
theorem kf_J0_9 : Cond.fieldLink RJ0 9 "java/lang/String" "value" "[B" ∈ Wt := memC9 10 rfl rfl
theorem kf_J0_15 : Cond.fieldLink RJ0 15 "java/lang/String" "coder" "B" ∈ Wt := memC9 11 rfl rfl
theorem kf_J0_38 : Cond.fieldLink RJ0 38 "java/lang/String" "COMPACT_STRINGS" "Z" ∈ Wt := memC3 62 rfl rfl
theorem kf_J0_1053 : Cond.fieldLink RJ0 1053 "jdk/internal/util/Preconditions" "SIOOBE_FORMATTER" "Ljava/util/function/BiFunction;" ∈ Wt := memC3 78 rfl rfl
def mJ0_coder_7d493 : MI := (RJ0, cJ0_coder_7d493, 1, (some .byte), "coder", 0, 0, fun _ _ _ => True)
theorem cwJ0_coder_7d493 : CWd yJ0_coder_7d493 mJ0_coder_7d493 0 := ⟨ki_J0, kk_J0_coder_7d493, ⟨by decide, by decide⟩, rfl⟩
def dtJ0_coder_7d493_0 : List (Nat × Instr × Nat) := [(0, .getstatic 38, 3), (3, .ifCond .eq 10, 3), (6, .aload_n 0, 1), (7, .getfield 15, 3), (10, .goto 4, 3), (13, .iconst 1, 1), (14, .ireturn, 1)]
theorem ddJ0_coder_7d493_0 : (dtJ0_coder_7d493_0.all fun e => decide (decode mJ0_coder_7d493.2.1 e.1 = .ok (e.2.1, e.2.2))) = true := by decide +kernel
theorem daJ0_coder_7d493_0 (j : Nat) {pc n : Nat} {i : Instr} (h : dtJ0_coder_7d493_0[j]? = some (pc, i, n)) : decode mJ0_coder_7d493.2.1 pc = .ok (i, n) := dec_of (c := mJ0_coder_7d493.2.1) ddJ0_coder_7d493_0 h
def fJ0_coder_7d493 (v0 : Int) : Option Int :=
  chk ((1 ≤ v0 ∧ v0 ≤ 16)) (
  some 0)
set_option maxRecDepth 20000 in
theorem gJ0_coder_7d493_0 (l : Launch) {F : FI} {v0 : Int} {μ : Mm} {t : Int} (h : fJ0_coder_7d493 v0 = some t) (hK : F.1 = [(0, t)] ∧ F.2.1 = μ) : GM l mJ0_coder_7d493 F 0 0 0 [(0, (3, v0))] [] μ := by
  unfold fJ0_coder_7d493 at h
  refine GM_gets (pc := 0) kf_J0_38 (daJ0_coder_7d493_0 0 rfl) ?_
  refine GM_if_eq (pc := 3) 13 (daJ0_coder_7d493_0 1 rfl) rfl (fun q => absurd q (by decide)) (fun _ => ?_)
  refine GM_aload_n (pc := 6) 0 rfl (daJ0_coder_7d493_0 2 rfl) rfl ?_
  obtain ⟨hc2, h⟩ := chk_inv h
  refine GM_scod (pc := 7) kf_J0_15 hc2 (daJ0_coder_7d493_0 3 rfl) ?_
  refine GM_goto (pc := 10) 14 (daJ0_coder_7d493_0 4 rfl) rfl ?_
  cases h
  exact GM_bret (pc := 14) (daJ0_coder_7d493_0 6 rfl) rfl (Or.inl rfl) hK
theorem tJ0_coder_7d493 (l : Launch) {v0 : Int} {μ : Mm} {t : Int} (h : fJ0_coder_7d493 v0 = some t) : Ct l yJ0_coder_7d493 mJ0_coder_7d493 [(3, v0)] μ ([(0, t)], μ, 0, 0) :=
  Ct_of (by decide +kernel) rfl rfl (Nat.le_of_ble_eq_true rfl) (fun _ _ _ => trivial) (gJ0_coder_7d493_0 l h ⟨rfl, rfl⟩)
def mJ0_length_8abf5 : MI := (RJ0, cJ0_length_8abf5, 1, (some .int), "length", 1, 20, fun _ _ _ => True)
theorem cwJ0_length_8abf5 : CWd yJ0_length_8abf5 mJ0_length_8abf5 0 := ⟨ki_J0, kk_J0_length_8abf5, ⟨by decide, by decide⟩, rfl⟩
def dtJ0_length_8abf5_0 : List (Nat × Instr × Nat) := [(0, .aload_n 0, 1), (1, .getfield 9, 3), (4, .arraylength, 1), (5, .aload_n 0, 1), (6, .invokevirtual 335, 3), (9, .ishr, 1), (10, .ireturn, 1)]
theorem ddJ0_length_8abf5_0 : (dtJ0_length_8abf5_0.all fun e => decide (decode mJ0_length_8abf5.2.1 e.1 = .ok (e.2.1, e.2.2))) = true := by decide +kernel
theorem daJ0_length_8abf5_0 (j : Nat) {pc n : Nat} {i : Instr} (h : dtJ0_length_8abf5_0[j]? = some (pc, i, n)) : decode mJ0_length_8abf5.2.1 pc = .ok (i, n) := dec_of (c := mJ0_length_8abf5.2.1) ddJ0_length_8abf5_0 h
def fJ0_length_8abf5 (v0 : Int) : Option Int :=
  chk ((1 ≤ v0 ∧ v0 ≤ 16)) (
  chk ((17 ≤ v0 + 16 ∧ v0 + 16 ≤ 32)) (
  (fJ0_coder_7d493 v0).bind fun r3 =>
  some (ishr (slB (v0 + 16)) r3)))
set_option maxRecDepth 20000 in
theorem gJ0_length_8abf5_0 (l : Launch) {F : FI} {v0 : Int} {μ : Mm} {t : Int} (h : fJ0_length_8abf5 v0 = some t) (hK : F.1 = [(0, t)] ∧ F.2.1 = μ) : GM l mJ0_length_8abf5 F 0 0 0 [(0, (3, v0))] [] μ := by
  unfold fJ0_length_8abf5 at h
  refine GM_aload_n (pc := 0) 0 rfl (daJ0_length_8abf5_0 0 rfl) rfl ?_
  obtain ⟨hc1, h⟩ := chk_inv h
  refine GM_sval (pc := 1) kf_J0_9 hc1 (daJ0_length_8abf5_0 1 rfl) ?_
  obtain ⟨hc2, h⟩ := chk_inv h
  refine GM_blen (pc := 4) hc2 (daJ0_length_8abf5_0 2 rfl) ?_
  refine GM_aload_n (pc := 5) 0 rfl (daJ0_length_8abf5_0 3 rfl) rfl ?_
  obtain ⟨r3, hf3, h⟩ := Option.bind_eq_some_iff.mp h
  refine GM_callVs0 (pc := 6) [] (tJ0_coder_7d493 l hf3) cwJ0_coder_7d493 rfl kv_J0_coder_7d493 ke_J0_coder_7d493 km_J0_335 hc1 ⟨Nat.le_of_ble_eq_true rfl, Nat.le_of_ble_eq_true rfl⟩ (Nat.le_of_ble_eq_true rfl) (Nat.le_of_ble_eq_true rfl) (daJ0_length_8abf5_0 4 rfl) ?_
  refine GM_ishr (pc := 9) (daJ0_length_8abf5_0 5 rfl) ?_
  cases h
  exact GM_iret (pc := 10) (daJ0_length_8abf5_0 6 rfl) rfl hK
theorem tJ0_length_8abf5 (l : Launch) {v0 : Int} {μ : Mm} {t : Int} (h : fJ0_length_8abf5 v0 = some t) : Ct l yJ0_length_8abf5 mJ0_length_8abf5 [(3, v0)] μ ([(0, t)], μ, 0, 0) :=
  Ct_of (by decide +kernel) rfl rfl (Nat.le_of_ble_eq_true rfl) (fun _ _ _ => trivial) (gJ0_length_8abf5_0 l h ⟨rfl, rfl⟩)
def mJ0_isLatin1_aae02 : MI := (RJ0, cJ0_isLatin1_aae02, 1, (some .boolean), "isLatin1", 0, 0, fun _ _ _ => True)
theorem cwJ0_isLatin1_aae02 : CWd yJ0_isLatin1_aae02 mJ0_isLatin1_aae02 0 := ⟨ki_J0, kk_J0_isLatin1_aae02, ⟨by decide, by decide⟩, rfl⟩
def dtJ0_isLatin1_aae02_0 : List (Nat × Instr × Nat) := [(0, .getstatic 38, 3), (3, .ifCond .eq 14, 3), (6, .aload_n 0, 1), (7, .getfield 15, 3), (10, .ifCond .ne 7, 3), (13, .iconst 1, 1), (14, .goto 4, 3), (17, .iconst 0, 1), (18, .ireturn, 1)]
theorem ddJ0_isLatin1_aae02_0 : (dtJ0_isLatin1_aae02_0.all fun e => decide (decode mJ0_isLatin1_aae02.2.1 e.1 = .ok (e.2.1, e.2.2))) = true := by decide +kernel
theorem daJ0_isLatin1_aae02_0 (j : Nat) {pc n : Nat} {i : Instr} (h : dtJ0_isLatin1_aae02_0[j]? = some (pc, i, n)) : decode mJ0_isLatin1_aae02.2.1 pc = .ok (i, n) := dec_of (c := mJ0_isLatin1_aae02.2.1) ddJ0_isLatin1_aae02_0 h
def fJ0_isLatin1_aae02 (v0 : Int) : Option Int :=
  chk ((1 ≤ v0 ∧ v0 ≤ 16)) (
  some 1)
set_option maxRecDepth 20000 in
theorem gJ0_isLatin1_aae02_0 (l : Launch) {F : FI} {v0 : Int} {μ : Mm} {t : Int} (h : fJ0_isLatin1_aae02 v0 = some t) (hK : F.1 = [(0, t)] ∧ F.2.1 = μ) : GM l mJ0_isLatin1_aae02 F 0 0 0 [(0, (3, v0))] [] μ := by
  unfold fJ0_isLatin1_aae02 at h
  refine GM_gets (pc := 0) kf_J0_38 (daJ0_isLatin1_aae02_0 0 rfl) ?_
  refine GM_if_eq (pc := 3) 17 (daJ0_isLatin1_aae02_0 1 rfl) rfl (fun q => absurd q (by decide)) (fun _ => ?_)
  refine GM_aload_n (pc := 6) 0 rfl (daJ0_isLatin1_aae02_0 2 rfl) rfl ?_
  obtain ⟨hc2, h⟩ := chk_inv h
  refine GM_scod (pc := 7) kf_J0_15 hc2 (daJ0_isLatin1_aae02_0 3 rfl) ?_
  refine GM_if_ne (pc := 10) 17 (daJ0_isLatin1_aae02_0 4 rfl) rfl (fun q => absurd q (by decide)) (fun _ => ?_)
  refine GM_iconst (pc := 13) 1 (daJ0_isLatin1_aae02_0 5 rfl) rfl (R32_b rfl) ?_
  refine GM_goto (pc := 14) 18 (daJ0_isLatin1_aae02_0 6 rfl) rfl ?_
  cases h
  exact GM_zret (pc := 18) (daJ0_isLatin1_aae02_0 8 rfl) rfl (Or.inr rfl) hK
theorem tJ0_isLatin1_aae02 (l : Launch) {v0 : Int} {μ : Mm} {t : Int} (h : fJ0_isLatin1_aae02 v0 = some t) : Ct l yJ0_isLatin1_aae02 mJ0_isLatin1_aae02 [(3, v0)] μ ([(0, t)], μ, 0, 0) :=
  Ct_of (by decide +kernel) rfl rfl (Nat.le_of_ble_eq_true rfl) (fun _ _ _ => trivial) (gJ0_isLatin1_aae02_0 l h ⟨rfl, rfl⟩)
def mJ3_checkIndex_8e157 : MI := (RJ3, cJ3_checkIndex_8e157, 3, (some .int), "checkIndex", 0, 0, fun _ _ _ => True)
theorem cwJ3_checkIndex_8e157 : CWd yJ3_checkIndex_8e157 mJ3_checkIndex_8e157 3 := ⟨ki_J3, kk_J3_checkIndex_8e157, ⟨by decide, by decide⟩, rfl⟩
def dtJ3_checkIndex_8e157_0 : List (Nat × Instr × Nat) := [(0, .iload_n 0, 1), (1, .ifCond .lt 8, 3), (4, .iload_n 0, 1), (5, .iload_n 1, 1), (6, .if_icmp .lt 10, 3), (9, .aload_n 2, 1), (10, .iload_n 0, 1), (11, .iload_n 1, 1), (12, .invokestatic 95, 3), (15, .athrow, 1), (16, .iload_n 0, 1), (17, .ireturn, 1)]
theorem ddJ3_checkIndex_8e157_0 : (dtJ3_checkIndex_8e157_0.all fun e => decide (decode mJ3_checkIndex_8e157.2.1 e.1 = .ok (e.2.1, e.2.2))) = true := by decide +kernel
theorem daJ3_checkIndex_8e157_0 (j : Nat) {pc n : Nat} {i : Instr} (h : dtJ3_checkIndex_8e157_0[j]? = some (pc, i, n)) : decode mJ3_checkIndex_8e157.2.1 pc = .ok (i, n) := dec_of (c := mJ3_checkIndex_8e157.2.1) ddJ3_checkIndex_8e157_0 h
def fJ3_checkIndex_8e157 (v0 v1 : Int) : Option Int :=
  if v0 < 0 then
    none
  else
    if v0 < v1 then
      some v0
    else
      none
set_option maxRecDepth 20000 in
theorem gJ3_checkIndex_8e157_0 (l : Launch) {F : FI} {v0 v1 v2 : Int} {μ : Mm} {t : Int} (h : fJ3_checkIndex_8e157 v0 v1 = some t) (hK : F.1 = [(0, t)] ∧ F.2.1 = μ) : GM l mJ3_checkIndex_8e157 F 0 0 0 [(0, (0, v0)), (1, (0, v1)), (2, (3, v2))] [] μ := by
  unfold fJ3_checkIndex_8e157 at h
  refine GM_iload_n (pc := 0) 0 rfl (daJ3_checkIndex_8e157_0 0 rfl) rfl ?_
  refine GM_if_lt (pc := 1) 9 (daJ3_checkIndex_8e157_0 1 rfl) rfl (fun c1 => ?_) (fun c1 => ?_)
  · skip
    rw [if_pos c1] at h
    cases h
  · skip
    rw [if_neg c1] at h
    refine GM_iload_n (pc := 4) 0 rfl (daJ3_checkIndex_8e157_0 2 rfl) rfl ?_
    refine GM_iload_n (pc := 5) 1 rfl (daJ3_checkIndex_8e157_0 3 rfl) rfl ?_
    refine GM_icmp_lt (pc := 6) 16 (daJ3_checkIndex_8e157_0 4 rfl) rfl (fun c2 => ?_) (fun c2 => ?_)
    · skip
      rw [if_pos c2] at h
      refine GM_iload_n (pc := 16) 0 rfl (daJ3_checkIndex_8e157_0 10 rfl) rfl ?_
      cases h
      exact GM_iret (pc := 17) (daJ3_checkIndex_8e157_0 11 rfl) rfl hK
    · skip
      rw [if_neg c2] at h
      cases h
theorem tJ3_checkIndex_8e157 (l : Launch) {v0 v1 v2 : Int} {μ : Mm} {t : Int} (h : fJ3_checkIndex_8e157 v0 v1 = some t) : Ct l yJ3_checkIndex_8e157 mJ3_checkIndex_8e157 [(0, v0), (0, v1), (3, v2)] μ ([(0, t)], μ, 0, 0) :=
  Ct_of (by decide +kernel) rfl rfl (Nat.le_of_ble_eq_true rfl) (fun _ _ _ => trivial) (gJ3_checkIndex_8e157_0 l h ⟨rfl, rfl⟩)
def mJ0_checkIndex_df160 : MI := (RJ0, cJ0_checkIndex_df160, 2, none, "checkIndex", 1, 22, fun _ _ _ => True)
theorem cwJ0_checkIndex_df160 : CWd yJ0_checkIndex_df160 mJ0_checkIndex_df160 2 := ⟨ki_J0, kk_J0_checkIndex_df160, ⟨by decide, by decide⟩, rfl⟩
def dtJ0_checkIndex_df160_0 : List (Nat × Instr × Nat) := [(0, .iload_n 0, 1), (1, .iload_n 1, 1), (2, .getstatic 1053, 3), (5, .invokestatic 1059, 3), (8, .pop, 1), (9, .return_, 1)]
theorem ddJ0_checkIndex_df160_0 : (dtJ0_checkIndex_df160_0.all fun e => decide (decode mJ0_checkIndex_df160.2.1 e.1 = .ok (e.2.1, e.2.2))) = true := by decide +kernel
theorem daJ0_checkIndex_df160_0 (j : Nat) {pc n : Nat} {i : Instr} (h : dtJ0_checkIndex_df160_0[j]? = some (pc, i, n)) : decode mJ0_checkIndex_df160.2.1 pc = .ok (i, n) := dec_of (c := mJ0_checkIndex_df160.2.1) ddJ0_checkIndex_df160_0 h
def fJ0_checkIndex_df160 (v0 v1 : Int) : Option Unit :=
  (fJ3_checkIndex_8e157 v0 v1).bind fun r2 =>
  some ()
set_option maxRecDepth 20000 in
theorem gJ0_checkIndex_df160_0 (l : Launch) {F : FI} {v0 v1 : Int} {μ : Mm} {t : Unit} (h : fJ0_checkIndex_df160 v0 v1 = some t) (hK : F.1 = [] ∧ F.2.1 = μ) : GM l mJ0_checkIndex_df160 F 0 0 0 [(0, (0, v0)), (1, (0, v1))] [] μ := by
  unfold fJ0_checkIndex_df160 at h
  refine GM_iload_n (pc := 0) 0 rfl (daJ0_checkIndex_df160_0 0 rfl) rfl ?_
  refine GM_iload_n (pc := 1) 1 rfl (daJ0_checkIndex_df160_0 1 rfl) rfl ?_
  refine GM_getsF (pc := 2) kf_J0_1053 (daJ0_checkIndex_df160_0 2 rfl) (fun z1 => ?_)
  obtain ⟨r2, hf2, h⟩ := Option.bind_eq_some_iff.mp h
  refine GM_callS0 (pc := 5) [(0, v0), (0, v1), (3, z1)] (tJ3_checkIndex_8e157 l hf2) cwJ3_checkIndex_8e157 ks_J3_checkIndex_8e157 km_J0_1059 ⟨Nat.le_of_ble_eq_true rfl, Nat.le_of_ble_eq_true rfl⟩ (Nat.le_of_ble_eq_true rfl) (Nat.le_of_ble_eq_true rfl) (daJ0_checkIndex_df160_0 3 rfl) ?_
  refine GM_pop (pc := 8) (Nat.ne_of_beq_eq_false rfl) (daJ0_checkIndex_df160_0 4 rfl) ?_
  cases h
  exact GM_vret (pc := 9) (daJ0_checkIndex_df160_0 5 rfl) rfl hK
theorem tJ0_checkIndex_df160 (l : Launch) {v0 v1 : Int} {μ : Mm} {t : Unit} (h : fJ0_checkIndex_df160 v0 v1 = some t) : Ct l yJ0_checkIndex_df160 mJ0_checkIndex_df160 [(0, v0), (0, v1)] μ ([], μ, 0, 0) :=
  Ct_of (by decide +kernel) rfl rfl (Nat.le_of_ble_eq_true rfl) (fun _ _ _ => trivial) (gJ0_checkIndex_df160_0 l h ⟨rfl, rfl⟩)
def mJ1_charAt_3b067 : MI := (RJ1, cJ1_charAt_3b067, 2, (some .char), "charAt", 2, 43, fun _ _ _ => True)
theorem cwJ1_charAt_3b067 : CWd yJ1_charAt_3b067 mJ1_charAt_3b067 2 := ⟨ki_J1, kk_J1_charAt_3b067, ⟨by decide, by decide⟩, rfl⟩
def dtJ1_charAt_3b067_0 : List (Nat × Instr × Nat) := [(0, .iload_n 1, 1), (1, .aload_n 0, 1), (2, .arraylength, 1), (3, .invokestatic 9, 3), (6, .aload_n 0, 1), (7, .iload_n 1, 1), (8, .baload, 1), (9, .sipush 255, 3), (12, .iand, 1), (13, .i2c, 1), (14, .ireturn, 1)]
theorem ddJ1_charAt_3b067_0 : (dtJ1_charAt_3b067_0.all fun e => decide (decode mJ1_charAt_3b067.2.1 e.1 = .ok (e.2.1, e.2.2))) = true := by decide +kernel
theorem daJ1_charAt_3b067_0 (j : Nat) {pc n : Nat} {i : Instr} (h : dtJ1_charAt_3b067_0[j]? = some (pc, i, n)) : decode mJ1_charAt_3b067.2.1 pc = .ok (i, n) := dec_of (c := mJ1_charAt_3b067.2.1) ddJ1_charAt_3b067_0 h
def fJ1_charAt_3b067 (v0 v1 : Int) : Option Int :=
  chk ((17 ≤ v0 ∧ v0 ≤ 32)) (
  (fJ0_checkIndex_df160 v1 (slB v0)).bind fun _ =>
  chk (0 ≤ v1 ∧ v1 < slB v0) (
  chk ((0 ≤ i2c (iand (sby v0 v1) 255) ∧ i2c (iand (sby v0 v1) 255) < 65536)) (
  some (i2c (iand (sby v0 v1) 255)))))
set_option maxRecDepth 20000 in
theorem gJ1_charAt_3b067_0 (l : Launch) {F : FI} {v0 v1 : Int} {μ : Mm} {t : Int} (h : fJ1_charAt_3b067 v0 v1 = some t) (hK : F.1 = [(0, t)] ∧ F.2.1 = μ) : GM l mJ1_charAt_3b067 F 0 0 0 [(0, (3, v0)), (1, (0, v1))] [] μ := by
  unfold fJ1_charAt_3b067 at h
  refine GM_iload_n (pc := 0) 1 rfl (daJ1_charAt_3b067_0 0 rfl) rfl ?_
  refine GM_aload_n (pc := 1) 0 rfl (daJ1_charAt_3b067_0 1 rfl) rfl ?_
  obtain ⟨hc1, h⟩ := chk_inv h
  refine GM_blen (pc := 2) hc1 (daJ1_charAt_3b067_0 2 rfl) ?_
  obtain ⟨r2, hf2, h⟩ := Option.bind_eq_some_iff.mp h
  refine GM_callS0 (pc := 3) [(0, v1), (0, slB v0)] (tJ0_checkIndex_df160 l hf2) cwJ0_checkIndex_df160 ks_J0_checkIndex_df160 km_J1_9 ⟨Nat.le_of_ble_eq_true rfl, Nat.le_of_ble_eq_true rfl⟩ (Nat.le_of_ble_eq_true rfl) (Nat.le_of_ble_eq_true rfl) (daJ1_charAt_3b067_0 3 rfl) ?_
  refine GM_aload_n (pc := 6) 0 rfl (daJ1_charAt_3b067_0 4 rfl) rfl ?_
  refine GM_iload_n (pc := 7) 1 rfl (daJ1_charAt_3b067_0 5 rfl) rfl ?_
  obtain ⟨hc3, h⟩ := chk_inv h
  refine GM_bald (pc := 8) hc1 hc3.1 hc3.2 (daJ1_charAt_3b067_0 6 rfl) ?_
  refine GM_sipush (pc := 9) 255 (daJ1_charAt_3b067_0 7 rfl) rfl (R32_b rfl) ?_
  refine GM_iand (pc := 12) (daJ1_charAt_3b067_0 8 rfl) ?_
  refine GM_i2c (pc := 13) (daJ1_charAt_3b067_0 9 rfl) ?_
  obtain ⟨hc4, h⟩ := chk_inv h
  cases h
  exact GM_cret (pc := 14) (daJ1_charAt_3b067_0 10 rfl) rfl hc4 hK
theorem tJ1_charAt_3b067 (l : Launch) {v0 v1 : Int} {μ : Mm} {t : Int} (h : fJ1_charAt_3b067 v0 v1 = some t) : Ct l yJ1_charAt_3b067 mJ1_charAt_3b067 [(3, v0), (0, v1)] μ ([(0, t)], μ, 0, 0) :=
  Ct_of (by decide +kernel) rfl rfl (Nat.le_of_ble_eq_true rfl) (fun _ _ _ => trivial) (gJ1_charAt_3b067_0 l h ⟨rfl, rfl⟩)
def mJ0_charAt_5068e : MI := (RJ0, cJ0_charAt_5068e, 2, (some .char), "charAt", 3, 64, fun _ _ _ => True)
theorem cwJ0_charAt_5068e : CWd yJ0_charAt_5068e mJ0_charAt_5068e 1 := ⟨ki_J0, kk_J0_charAt_5068e, ⟨by decide, by decide⟩, rfl⟩
def dtJ0_charAt_5068e_0 : List (Nat × Instr × Nat) := [(0, .aload_n 0, 1), (1, .invokevirtual 492, 3), (4, .ifCond .eq 12, 3), (7, .aload_n 0, 1), (8, .getfield 9, 3), (11, .iload_n 1, 1), (12, .invokestatic 495, 3), (15, .ireturn, 1), (16, .aload_n 0, 1), (17, .getfield 9, 3), (20, .iload_n 1, 1), (21, .invokestatic 498, 3), (24, .ireturn, 1)]
theorem ddJ0_charAt_5068e_0 : (dtJ0_charAt_5068e_0.all fun e => decide (decode mJ0_charAt_5068e.2.1 e.1 = .ok (e.2.1, e.2.2))) = true := by decide +kernel
theorem daJ0_charAt_5068e_0 (j : Nat) {pc n : Nat} {i : Instr} (h : dtJ0_charAt_5068e_0[j]? = some (pc, i, n)) : decode mJ0_charAt_5068e.2.1 pc = .ok (i, n) := dec_of (c := mJ0_charAt_5068e.2.1) ddJ0_charAt_5068e_0 h
def fJ0_charAt_5068e (v0 v1 : Int) : Option Int :=
  chk ((1 ≤ v0 ∧ v0 ≤ 16)) (
  (fJ0_isLatin1_aae02 v0).bind fun r2 =>
  if r2 = 0 then
    none
  else
    (fJ1_charAt_3b067 (v0 + 16) v1).bind fun r4 =>
    chk ((0 ≤ r4 ∧ r4 < 65536)) (
    some r4))
set_option maxRecDepth 20000 in
theorem gJ0_charAt_5068e_0 (l : Launch) {F : FI} {v0 v1 : Int} {μ : Mm} {t : Int} (h : fJ0_charAt_5068e v0 v1 = some t) (hK : F.1 = [(0, t)] ∧ F.2.1 = μ) : GM l mJ0_charAt_5068e F 0 0 0 [(0, (3, v0)), (1, (0, v1))] [] μ := by
  unfold fJ0_charAt_5068e at h
  refine GM_aload_n (pc := 0) 0 rfl (daJ0_charAt_5068e_0 0 rfl) rfl ?_
  obtain ⟨hc1, h⟩ := chk_inv h
  obtain ⟨r2, hf2, h⟩ := Option.bind_eq_some_iff.mp h
  refine GM_callVs0 (pc := 1) [] (tJ0_isLatin1_aae02 l hf2) cwJ0_isLatin1_aae02 rfl kv_J0_isLatin1_aae02 ke_J0_isLatin1_aae02 km_J0_492 hc1 ⟨Nat.le_of_ble_eq_true rfl, Nat.le_of_ble_eq_true rfl⟩ (Nat.le_of_ble_eq_true rfl) (Nat.le_of_ble_eq_true rfl) (daJ0_charAt_5068e_0 1 rfl) ?_
  refine GM_if_eq (pc := 4) 16 (daJ0_charAt_5068e_0 2 rfl) rfl (fun c3 => ?_) (fun c3 => ?_)
  · skip
    rw [if_pos c3] at h
    cases h
  · skip
    rw [if_neg c3] at h
    refine GM_aload_n (pc := 7) 0 rfl (daJ0_charAt_5068e_0 3 rfl) rfl ?_
    refine GM_sval (pc := 8) kf_J0_9 hc1 (daJ0_charAt_5068e_0 4 rfl) ?_
    refine GM_iload_n (pc := 11) 1 rfl (daJ0_charAt_5068e_0 5 rfl) rfl ?_
    obtain ⟨r4, hf4, h⟩ := Option.bind_eq_some_iff.mp h
    refine GM_callS0 (pc := 12) [(3, v0 + 16), (0, v1)] (tJ1_charAt_3b067 l hf4) cwJ1_charAt_3b067 ks_J1_charAt_3b067 km_J0_495 ⟨Nat.le_of_ble_eq_true rfl, Nat.le_of_ble_eq_true rfl⟩ (Nat.le_of_ble_eq_true rfl) (Nat.le_of_ble_eq_true rfl) (daJ0_charAt_5068e_0 6 rfl) ?_
    obtain ⟨hc5, h⟩ := chk_inv h
    cases h
    exact GM_cret (pc := 15) (daJ0_charAt_5068e_0 7 rfl) rfl hc5 hK
theorem tJ0_charAt_5068e (l : Launch) {v0 v1 : Int} {μ : Mm} {t : Int} (h : fJ0_charAt_5068e v0 v1 = some t) : Ct l yJ0_charAt_5068e mJ0_charAt_5068e [(3, v0), (0, v1)] μ ([(0, t)], μ, 0, 0) :=
  Ct_of (by decide +kernel) rfl rfl (Nat.le_of_ble_eq_true rfl) (fun _ _ _ => trivial) (gJ0_charAt_5068e_0 l h ⟨rfl, rfl⟩)
def slen (x : Int) : Int := slB (x + 16)
def schar (x j : Int) : Int := i2c (iand (sby (x + 16) j) 255)
theorem fJ0_len_all : ∀ j : Nat, j < 16 → fJ0_length_8abf5 ((j : Int) + 1) = some (slen ((j : Int) + 1)) := by decide +kernel
theorem fJ0_len_eq {x : Int} (h : 1 ≤ x ∧ x ≤ 16) : fJ0_length_8abf5 x = some (slen x) := by
  obtain ⟨j, hj, rfl⟩ := str_i h
  exact fJ0_len_all j hj
theorem fJ0_chr_all : ∀ j : Nat, j < 16 → ∀ i : Nat, i < 8 → (i : Int) < slen ((j : Int) + 1) → fJ0_charAt_5068e ((j : Int) + 1) (i : Int) = some (schar ((j : Int) + 1) (i : Int)) := by decide +kernel
theorem slen_8 : ∀ j : Nat, j < 16 → slen ((j : Int) + 1) ≤ 8 := by decide +kernel
theorem fJ0_chr_eq {x i : Int} (h : 1 ≤ x ∧ x ≤ 16) (h0 : 0 ≤ i) (h1 : i < slen x) : fJ0_charAt_5068e x i = some (schar x i) := by
  obtain ⟨j, hj, rfl⟩ := str_i h
  have h8 := slen_8 j hj
  obtain ⟨k, rfl⟩ : ∃ k : Nat, i = (k : Int) := ⟨i.toNat, by omega⟩
  exact fJ0_chr_all j hj k (by omega) h1
