/-! ===== bytes of a word ===== -/
theorem e255 (z : Int) : iand z 255 = z % 256 := by
  unfold iand
  show (Int32.ofInt z &&& Int32.ofInt 255).toBitVec.toInt = _
  have en : (Int32.ofInt z &&& Int32.ofInt 255).toBitVec.toNat = (BitVec.ofInt 32 z).toNat &&& 255 := rfl
  have m : (BitVec.ofInt 32 z).toNat &&& 255 = (BitVec.ofInt 32 z).toNat % 256 := Nat.and_two_pow_sub_one_eq_mod _ 8
  have zz : ((BitVec.ofInt 32 z).toNat : Int) = z % 4294967296 := by
    rw [BitVec.toNat_ofInt]
    have : (0 : Int) ≤ z % ((2 ^ 32 : Nat) : Int) := Int.emod_nonneg _ (by decide)
    rw [Int.toNat_of_nonneg this]; rfl
  rw [BitVec.toInt_eq_toNat_of_lt (by rw [en, m]; omega), en, m]
  omega
theorem bv_n (v : Int) : ((BitVec.ofInt 32 v).toNat : Int) = v % 4294967296 := by
  rw [BitVec.toNat_ofInt]
  have : (0 : Int) ≤ v % ((2 ^ 32 : Nat) : Int) := Int.emod_nonneg _ (by decide)
  rw [Int.toNat_of_nonneg this]; rfl
theorem bv_m (x : BitVec 32) : x.toInt % 256 = ((x.toNat % 256 : Nat) : Int) := by
  rw [BitVec.toInt_eq_toNat_cond]; split <;> omega
def by8 (v i : Int) : Int := if i = 0 then v / 16777216 % 256 else if i = 1 then v / 65536 % 256 else if i = 2 then v / 256 % 256 else v % 256
theorem by8_b (v i : Int) : 0 ≤ by8 v i ∧ by8 v i ≤ 255 := by
  unfold by8; split
  · omega
  · split
    · omega
    · split <;> omega
theorem us_e {v t : Int} {n : Nat} (e : (Int32.ofInt v).toUInt32 >>> ((Int32.ofInt t).toUInt32 &&& Int32.toUInt32 31) = UInt32.ofBitVec ((BitVec.ofInt 32 v) >>> n)) : iushr v t % 256 = (((v % 4294967296).toNat / 2 ^ n % 256 : Nat) : Int) := by
  unfold iushr
  rw [e]
  show ((BitVec.ofInt 32 v) >>> n).toInt % 256 = _
  rw [bv_m, BitVec.toNat_ushiftRight, Nat.shiftRight_eq_div_pow]
  have h := bv_n v
  have : (BitVec.ofInt 32 v).toNat = (v % 4294967296).toNat := by omega
  rw [this]
theorem ss_e {v t : Int} {n : Nat} (e : (Int32.ofInt v >>> (Int32.ofInt t &&& 31)).toBitVec = (BitVec.ofInt 32 v).sshiftRight n) (hv : R32 v) : ishr v t = v / ((2 ^ n : Nat) : Int) := by
  have h : ishr v t = ((BitVec.ofInt 32 v).sshiftRight n).toInt := by
    unfold ishr; rw [← e]; rfl
  rw [h, BitVec.toInt_sshiftRight, Int.shiftRight_eq_div_pow]
  have : (BitVec.ofInt 32 v).toInt = v := i32_R hv
  rw [this]
theorem byU {v t : Int} (ht : t = 24 ∨ t = 16 ∨ t = 8 ∨ t = 0) : iand (iushr v t) 255 = by8 v ((24 - t) / 8) := by
  rw [e255]
  rcases ht with e | e | e | e
  · subst e; rw [us_e (n := 24) rfl]; unfold by8; rw [if_pos (by decide)]; omega
  · subst e; rw [us_e (n := 16) rfl]; unfold by8; rw [if_neg (by decide), if_pos (by decide)]; omega
  · subst e; rw [us_e (n := 8) rfl]; unfold by8; rw [if_neg (by decide), if_neg (by decide), if_pos (by decide)]; omega
  · subst e; rw [us_e (n := 0) rfl]; unfold by8; rw [if_neg (by decide), if_neg (by decide), if_neg (by decide)]; omega
theorem byS {v t : Int} (hv : R32 v) (ht : t = 24 ∨ t = 16 ∨ t = 8 ∨ t = 0) : iand (ishr v t) 255 = by8 v ((24 - t) / 8) := by
  rw [e255]
  rcases ht with e | e | e | e
  · subst e; rw [ss_e (n := 24) rfl hv]; unfold by8; rw [if_pos (by decide)]; omega
  · subst e; rw [ss_e (n := 16) rfl hv]; unfold by8; rw [if_neg (by decide), if_pos (by decide)]; omega
  · subst e; rw [ss_e (n := 8) rfl hv]; unfold by8; rw [if_neg (by decide), if_neg (by decide), if_pos (by decide)]; omega
  · subst e; rw [ss_e (n := 0) rfl hv]; unfold by8; rw [if_neg (by decide), if_neg (by decide), if_neg (by decide)]; omega
theorem K1001 : KD 1001 = 12 := by decide
theorem N1001 : LN 1001 = 700 := by decide
section
variable {μ μ' μ1 μ2 : Mm} {b b' : Int → Int} {vb vb' n k L v : Int}
theorem lg_t (h : ∀ x, 710 ≤ x → x < 1110 → b' x = b x) (hn : 0 ≤ n ∧ n < 2) : lg b' n = lg b n := by
  funext i
  unfold lg gl
  split
  · exact h _ (by omega) (by omega)
  · rfl
theorem ls_t (h : ∀ x, 1110 ≤ x → x < 1240 → b' x = b x) (hn : 0 ≤ n ∧ n < 4) : ls b' n = ls b n := by
  funext i
  unfold ls gl
  split
  · exact h _ (by omega) (by omega)
  · rfl
theorem Md.w (h : Md μ) (e : μ1 20000 = μ 20000) : Md μ1 := by unfold Md at h ⊢; rw [e]; exact h
theorem Dt.w (h : Dt μ) (e : μ1 20000 = μ 20000) (e3 : μ1 20003 = μ 20003) (e4 : μ1 20004 = μ 20004) : Dt μ1 := by unfold Dt at h ⊢; rw [e, e3, e4]; exact h
/-- the tape and the fault are others -/
theorem Nw_tape (hW : Nw μ b) (f : Fw (fun x => x = 1000 ∨ x = 1001) μ μ') (h0 : ∀ j, j ≠ 1 → j ≠ 2 → j ≠ 3 → μ' 1000 j = μ 1000 j) (e1 : μ' 1000 1 = b' 2) (e2 : μ' 1000 2 = b' 3) (e3 : μ' 1000 3 = b' 4) (et : ∀ i, 0 ≤ i → i < 700 → μ' 1001 i = b' (10 + i)) (ho : ∀ x, 0 ≤ x → x < 1240 → x < 2 ∨ 710 ≤ x → b' x = b x) (a2 : 0 ≤ b' 2 ∧ b' 2 ≤ 700) (a3 : ∀ i, 0 ≤ i → i < 700 → 0 ≤ b' (10 + i) ∧ b' (10 + i) ≤ 255) (a6 : -1000 ≤ b' 3 ∧ b' 3 ≤ 1000 ∧ -1000 ≤ b' 4 ∧ b' 4 ≤ 1000) : Nw μ' b' := by
  obtain ⟨hX, hK, hF, ⟨t1, t2, t3, t4, t5⟩, tt, tl, ts, hA⟩ := hW
  have b0 : b' 0 = b 0 := ho 0 (by omega) (by omega) (by omega)
  have b1 : b' 1 = b 1 := ho 1 (by omega) (by omega) (by omega)
  have hg : ∀ n, 0 ≤ n → n < 2 → lg b' n = lg b n := fun n n0 n1 => lg_t (fun x x0 x1 => ho x (by omega) (by omega) (by omega)) ⟨n0, n1⟩
  have hs : ∀ n, 0 ≤ n → n < 4 → ls b' n = ls b n := fun n n0 n1 => ls_t (fun x x0 x1 => ho x (by omega) (by omega) (by omega)) ⟨n0, n1⟩
  have a0 := hA.1; have a1 := hA.2.1
  refine ⟨?_, hK, ?_, ?_, et, fun n n0 n1 => ?_, fun n n0 n1 => ?_, ?_, ?_, a2, a3, fun n n0 n1 => ?_, fun n n0 n1 => ?_, a6⟩
  · unfold X10F; rw [f 100 (by omega)]; exact hX
  · refine ⟨?_, fun n n0 n1 => ?_, fun n n0 n1 => ?_⟩
    · rw [h0 0 (by decide) (by decide) (by decide), h0 6 (by decide) (by decide) (by decide), h0 7 (by decide) (by decide) (by decide)]; exact hF.1
    · have := hF.2.1 n n0 n1
      unfold LaF; rw [f (1000 + 2) (by omega), f (1000 + 10 + 10 * n) (by omega), f (1000 + 10 + 10 * n + 3) (by omega)]; exact this
    · have := hF.2.2 n n0 n1
      unfold SkF SkB; rw [f (1000 + 3) (by omega), f (1000 + 40 + 10 * n) (by omega)]; exact this
  · rw [h0 4 (by decide) (by decide) (by decide), h0 5 (by decide) (by decide) (by decide), b0, b1]; exact ⟨e1, e2, e3, t4, t5⟩
  · rw [b0] at n1; rw [hg n n0 (by omega)]; exact (tl n n0 n1).fw f (fun x x0 x1 => by omega)
  · rw [b1] at n1; rw [hs n n0 (by omega)]; exact (ts n n0 n1).fw f (fun x x0 x1 => by omega)
  · rw [b0]; exact a0
  · rw [b1]; exact a1
  · rw [b0] at n1; rw [hg n n0 (by omega)]; exact hA.2.2.2.2.1 n n0 n1
  · rw [b1] at n1; rw [hs n n0 (by omega)]; exact hA.2.2.2.2.2.1 n n0 n1
/-- a call that makes another state, but no other images -/
theorem LI_go (h : LI μ vb) (f1 : Fw (fun x => ¬(x = 101 ∨ 1100 ≤ x ∧ x < 1400)) μ μ1) (R1 : RdI μ1) (N1 : Nw μ1 (μ2 20001)) (C1 : Ca μ1 (μ2 20001) vb') (f2 : ∀ x, x < 20000 → μ2 x = μ1 x) (e1 : ∀ x, 1240 ≤ x → x < 4960 → μ2 20001 x = μ 20001 x) (e2 : μ2 20002 = μ 20002) (M2 : Md μ2) (D2 : Dt μ2) (hv : 0 ≤ vb') : LI μ2 vb' := by
  obtain ⟨hN, hC, hI, hR, hM, h0⟩ := h
  have ff : Fw (fun x => 20000 ≤ x) μ1 μ2 := fun x hx => f2 x (by omega)
  have f12 : Fw (fun x => ¬(x = 101 ∨ 1100 ≤ x ∧ x < 1400)) μ μ2 := f1.tr (ff.mo (fun x hx => by omega))
  refine ⟨N1.fw ff (by omega) (fun x a b => by omega), ?_, fun k k0 k1 => ?_, ?_, ⟨M2, D2⟩, hv⟩
  · exact ⟨C1.1.fw ff (by omega) (by omega) (by omega) (by omega) (by omega) (ff 101 (by omega)) (fun x a b => by rw [ff 0 (by omega)]), fun m m0 m1 => (C1.2 m m0 m1).fw ff (by rw [ff 102 (by omega)]) (fun x a b => by omega) (fun x a b => by rw [ff 0 (by omega)])⟩
  · exact (hI k k0 k1).e ⟨k0, k1⟩ (f12 101 (by omega)) e2 (fun x x0 x1 => f12 x (by omega)) (fun x x0 x1 => e1 x (by omega) x1)
  · unfold RdI LaF SkF SkB at R1 ⊢
    rw [ff 200 (by omega), ff 210 (by omega), ff 213 (by omega), ff 220 (by omega)]; exact R1
theorem RdI.fw {R : Int → Prop} (h : RdI μ) (f : Fw R μ μ') (h0 : ∀ x, 200 ≤ x → x < 230 → ¬R x) : RdI μ' := by
  unfold RdI LaF SkF SkB at h ⊢
  rw [f 200 (h0 _ (by omega) (by omega)), f 210 (h0 _ (by omega) (by omega)), f 213 (h0 _ (by omega) (by omega)), f 220 (h0 _ (by omega) (by omega))]; exact h
theorem Bd_go (f2 : ∀ x, x < 20000 → μ2 x = μ1 x) : Bd μ2 = Bd μ1 := Bd_e (f2 _ (by omega)) (f2 _ (by omega)) (f2 _ (by omega)) (f2 _ (by omega))
/-- what is to be shown of each call: the answers are the same, and all holds afterwards -/
def Wd (vb' : Int) (x : Mm → Option (Int × Mm)) (r : Int × Mm) (b' : Int) : Prop := Ev (x r.2) (fun t => r.1 = t.1 ∧ LI t.2 vb' ∧ b' = Bd t.2)
theorem fr_lo {R L : List Int} (f : Fr R L μ1 μ2) (hR : R.all (fun x => decide (20000 ≤ x)) = true) : ∀ x, x < 20000 → μ2 x = μ1 x := fun x hx => f.1 x (by omega) (fun hm => by
  have := of_decide_eq_true (List.all_eq_true.mp hR x hm); omega)
/-! ===== feed, end ===== -/
theorem LI.t1 (h : LI μ vb) : μ 1000 1 = μ 20001 2 := h.1.2.2.2.1.1
theorem LI.t0 (h : LI μ vb) : μ 1000 0 = 1001 := h.1.2.2.1.1.1
theorem LI.a2 (h : LI μ vb) : 0 ≤ μ 20001 2 ∧ μ 20001 2 ≤ 700 := h.ok.2.2.1
theorem LI_tape (h : LI μ vb) (f1 : Fw (fun x => x = 1000 ∨ x = 1001) μ μ1) (h0 : ∀ j, j ≠ 1 → j ≠ 2 → j ≠ 3 → μ1 1000 j = μ 1000 j) (f2 : Fr [20001] [] μ1 μ2) (e1 : μ1 1000 1 = μ2 20001 2) (e2 : μ1 1000 2 = μ2 20001 3) (e3 : μ1 1000 3 = μ2 20001 4) (et : ∀ i, 0 ≤ i → i < 700 → μ1 1001 i = μ2 20001 (10 + i)) (ho : ∀ x, 0 ≤ x → x < 4960 → x < 2 ∨ 710 ≤ x → μ2 20001 x = μ 20001 x) (a2 : 0 ≤ μ2 20001 2 ∧ μ2 20001 2 ≤ 700) (a3 : ∀ i, 0 ≤ i → i < 700 → 0 ≤ μ2 20001 (10 + i) ∧ μ2 20001 (10 + i) ≤ 255) (a6 : -1000 ≤ μ2 20001 3 ∧ μ2 20001 3 ≤ 1000 ∧ -1000 ≤ μ2 20001 4 ∧ μ2 20001 4 ≤ 1000) (hv : vb ≤ vb') : LI μ2 vb' ∧ Bd μ2 = Bd μ := by
  have lo := fr_lo f2 (by decide)
  have fn : Fw nR0 μ μ1 := f1.mo (fun x hx => by unfold nR0; omega)
  have M1 : Md μ1 := h.md.w (f1 20000 (by omega))
  have D2 : Dt μ2 := (h.dt.w (f1 20000 (by omega)) (f1 20003 (by omega)) (f1 20004 (by omega))).fr f2 (by decide) (by decide) (by decide)
  have v0 := h.v0
  refine ⟨LI_go h (f1.mo (fun x hx => by omega)) (h.2.2.2.1.fw f1 (fun x a b => by omega)) ?_ ?_ lo (fun x x0 x1 => ho x (by omega) x1 (by omega)) ?_ (f2.md M1 (by decide)) D2 (by omega), ?_⟩
  · exact Nw_tape h.nw f1 h0 e1 e2 e3 et (fun x x0 x1 x2 => ho x x0 (by omega) x2) a2 a3 a6
  · exact Ca_v hv (Ca_c (fun n n0 n1 => lg_t (fun x x0 x1 => ho x (by omega) (by omega) (by omega)) ⟨n0, n1⟩) (ho 0 (by omega) (by omega) (by omega)) (h.ca.n0 fn))
  · exact (f2.1 20002 (by decide) (by decide)).trans (f1 20002 (by omega))
  · rw [Bd_go lo, Bd_n0 fn]
theorem LI_v (h : LI μ vb) (hv : vb ≤ vb') : LI μ vb' := by
  have v0 := h.v0
  exact ⟨h.1, Ca_v hv h.2.1, h.2.2.1, h.2.2.2.1, h.2.2.2.2.1, by omega⟩
theorem w_end (h : LI μ vb) (hv : vb ≤ vb') (n : Int) : Ev (fX10_end 100 n μ) (fun r => Wd vb' (fX11_end 20000 n) r (Bd μ)) := by
  have a2 := h.a2
  have hX := h.nw.1
  have ok := h.ok
  have st := h.nw.2.2.2.1
  unfold fX10_end
  by_cases q : n < 0
  · rw [if_pos q]
    refine Ev_some ?_
    unfold Wd fX11_end
    rw [if_pos q]
    refine Ev_some ⟨rfl, ?_⟩
    exact ⟨LI_v h hv, rfl⟩
  · rw [if_neg q]
    simp (disch := omega) only [w32_eq, w64_eq, chk_T, chk_t, lt, lm, ob, Int.add_zero, Int.zero_add, true_and, and_true, if_true, if_false, K100, K101, K102, K103, K104, K200, K201, K230, K231, K232, K233, K234, K235, K236, K237, K250, K251, K252, K253, K254, K300, K301, K302, K303, K304, N101, N102, N103, N104, N201, N232, N233, N234, N235, N236, N237, N251, N252, N253, N254, N301, N302, N303, N304, X10F.f0 hX, X10F.f1 hX, X10F.f2 hX, X10F.f3 hX, X10F.f4 hX, X10F.f5 hX, X10F.f6 hX, X10F.f7 hX, X10F.f8 hX, X10F.f9 hX, X10F.f10 hX, K1000, h.t1]
    refine Ev_ite (fun z => ?_) (fun z => ?_)
    · refine Ev_some ?_
      unfold Wd fX11_end
      dsimp only
      have e0 : mst μ 1000 1 n 20000 = μ 20000 := mst_n (by decide)
      have e1 : mst μ 1000 1 n 20001 = μ 20001 := mst_n (by decide)
      rw [if_neg q]
      simp (disch := omega) only [w32_eq, w64_eq, chk_T, chk_t, lt, lm, ob, Int.add_zero, Int.zero_add, true_and, and_true, if_true, if_false, K20000, K20001, K20002, K20003, K20004, K20005, K20006, K20007, K20008, K20009, K20010, K20011, K20012, K20013, K20014, K20015, K20016, K20017, K20018, K20019, N20001, N20002, N20003, N20004, N20005, N20006, N20007, N20008, N20009, N20010, N20011, N20012, N20013, N20014, N20015, N20016, N20017, N20018, N20019, e0, e1, Md_0 h.md]
      rw [if_pos z]
      refine Ev_some ⟨rfl, ?_⟩
      dsimp only
      have k := LI_tape (vb' := vb') h (μ1 := mst μ 1000 1 n) (μ2 := mst (mst μ 1000 1 n) 20001 2 n) (Fw.s0 (.inl rfl)) (fun j h1 _ _ => mst_j h1) (Fr.row rfl rfl (by decide) (by decide)) (by rw [mst_s, mst_s]) (by rw [mst_j (by decide), mst_j (by decide), e1]; exact st.2.1) (by rw [mst_j (by decide), mst_j (by decide), e1]; exact st.2.2.1) (fun i i0 i1 => by rw [mst_n (by decide), mst_j (by omega), e1]; exact h.nw.2.2.2.2.1 i i0 i1) (fun x x0 x1 x2 => by rw [mst_j (by omega), e1]) (by rw [mst_s]; omega) (fun i i0 i1 => by rw [mst_j (by omega), e1]; exact ok.2.2.2.1 i i0 i1) (by rw [mst_j (by decide), mst_j (by decide), e1]; exact ok.2.2.2.2.2.2) hv
      exact ⟨k.1, k.2.symm⟩
    · refine Ev_some ?_
      unfold Wd fX11_end
      dsimp only
      rw [if_neg q]
      simp (disch := omega) only [w32_eq, w64_eq, chk_T, chk_t, lt, lm, ob, Int.add_zero, Int.zero_add, true_and, and_true, if_true, if_false, K20000, K20001, K20002, K20003, K20004, K20005, K20006, K20007, K20008, K20009, K20010, K20011, K20012, K20013, K20014, K20015, K20016, K20017, K20018, K20019, N20001, N20002, N20003, N20004, N20005, N20006, N20007, N20008, N20009, N20010, N20011, N20012, N20013, N20014, N20015, N20016, N20017, N20018, N20019, Md_0 h.md]
      rw [if_neg z]
      refine Ev_some ⟨rfl, ?_⟩
      exact ⟨LI_v h hv, rfl⟩
theorem c_append (h0 : μ 1000 0 = 1001) (h1 : μ 1000 1 = L) (hL : 0 ≤ L ∧ L + 4 ≤ 700) (v : Int) : Ev (fX8_append 1000 v μ) (fun μ' => Fw (fun x => x = 1000 ∨ x = 1001) μ μ' ∧ μ' 1000 1 = L + 4 ∧ (∀ j, j ≠ 1 → μ' 1000 j = μ 1000 j) ∧ (∀ i, 0 ≤ i → i < 4 → μ' 1001 (L + i) = by8 v i) ∧ ∀ j, j < L ∨ L + 4 ≤ j → μ' 1001 j = μ 1001 j) := by
  unfold fX8_append
  refine Ev_bind (Ev_lop (P := fun μ' => Fw (fun x => x = 1000 ∨ x = 1001) μ μ' ∧ μ' 1000 1 = L + 4 ∧ (∀ j, j ≠ 1 → μ' 1000 j = μ 1000 j) ∧ (∀ i, 0 ≤ i → i < 4 → μ' 1001 (L + i) = by8 v i) ∧ ∀ j, j < L ∨ L + 4 ≤ j → μ' 1001 j = μ 1001 j) (fun t => ((t.1 = 24 ∨ t.1 = 16 ∨ t.1 = 8 ∨ t.1 = 0) ∨ t.1 = -8) ∧ Fw (fun x => x = 1000 ∨ x = 1001) μ t.2 ∧ t.2 1000 1 = L + (24 - t.1) / 8 ∧ (∀ j, j ≠ 1 → t.2 1000 j = μ 1000 j) ∧ (∀ i, 0 ≤ i → i < (24 - t.1) / 8 → t.2 1001 (L + i) = by8 v i) ∧ ∀ j, j < L ∨ L + (24 - t.1) / 8 ≤ j → t.2 1001 j = μ 1001 j) (fun t => (t.1 + 8).toNat) ⟨(by first | omega | (dsimp only; omega) | (dsimp only)), Fw.rf, by dsimp only; omega, fun _ _ => rfl, fun i i0 i1 => by dsimp only at i1; omega, fun _ _ => rfl⟩ (by unfold FU; dsimp only; omega) ?_) (fun μ1 h => Ev_some h)
  rintro ⟨v2, μ1⟩ ⟨q1, q2, q3, q4, q5, q6⟩
  dsimp only at q1 q2 q3 q4 q5 q6 ⊢
  unfold sX8_append_3
  dsimp only
  refine Ev_ite (fun w => Ev_out ?_) (fun w => ?_)
  · have : v2 = -8 := by omega
    subst this
    exact ⟨q2, q3, q4, q5, q6⟩
  · have q1' : v2 = 24 ∨ v2 = 16 ∨ v2 = 8 ∨ v2 = 0 := by omega
    clear q1
    have e0 : μ1 1000 0 = 1001 := (q4 0 (by decide)).trans h0
    rw [byU q1']
    have hk : 0 ≤ (24 - v2) / 8 ∧ (24 - v2) / 8 < 4 ∧ (24 - (v2 + -8)) / 8 = (24 - v2) / 8 + 1 := by omega
    generalize (24 - v2) / 8 = k at *
    simp (disch := omega) only [w32_eq, w64_eq, chk_T, chk_t, lt, lm, ob, Int.add_zero, Int.zero_add, true_and, and_true, if_true, if_false, K1000, e0, q3, K1001, N1001]
    rw [if_neg (by omega), mst_n (by decide)]
    simp (disch := omega) only [w32_eq, w64_eq, chk_T, chk_t, lt, lm, ob, Int.add_zero, Int.zero_add, true_and, and_true, if_true, if_false, q3]
    refine Ev_in ⟨by dsimp only; omega, (q2.st (.inr rfl)).st (.inl rfl), ?_, fun j hj => ?_, fun i i0 i1 => ?_, fun j hj => ?_⟩ (by first | omega | (dsimp only; omega) | (dsimp only))
    · dsimp only; rw [mst_s, hk.2.2]; omega
    · dsimp only; rw [mst_j hj, mst_n (by decide)]; exact q4 j hj
    · dsimp only at i1 ⊢
      rw [hk.2.2] at i1
      rw [mst_n (by decide)]
      by_cases e : i = k
      · subst e; rw [mst_s]
      · rw [mst_j (by omega)]; exact q5 i i0 (by omega)
    · dsimp only at hj ⊢
      rw [hk.2.2] at hj
      rw [mst_n (by decide), mst_j (by omega)]; exact q6 j (by omega)
def fw5 (a b c d e i : Int) : Int := if i < 4 then a else if i < 8 then b else if i < 12 then c else if i < 16 then d else e
theorem r_feed {a c d e m : Int} (hM : Md μ) (hb : μ 20001 = b) (ha : R32 a) (hm : R32 m) (hc : R32 c) (hd : R32 d) (he : R32 e) (hL : 0 ≤ b 2 ∧ b 2 + 20 ≤ 700) : Ev (fX11_feed 20000 a m c d e μ) (fun r => r.1 = b 2 + 20 ∧ Fr [20001] [] μ r.2 ∧ r.2 20001 2 = b 2 + 20 ∧ (∀ i, 0 ≤ i → i < 20 → r.2 20001 (10 + b 2 + i) = by8 (fw5 a m c d e i) (i % 4)) ∧ ∀ x, x ≠ 2 → x < 10 + b 2 ∨ 30 + b 2 ≤ x → r.2 20001 x = b x) := by
  unfold fX11_feed
  simp (disch := omega) only [w32_eq, w64_eq, chk_T, chk_t, lt, lm, ob, Int.add_zero, Int.zero_add, true_and, and_true, if_true, if_false, K20000, K20001, K20002, K20003, K20004, K20005, K20006, K20007, K20008, K20009, K20010, K20011, K20012, K20013, K20014, K20015, K20016, K20017, K20018, K20019, N20001, N20002, N20003, N20004, N20005, N20006, N20007, N20008, N20009, N20010, N20011, N20012, N20013, N20014, N20015, N20016, N20017, N20018, N20019, Md_0 hM, hb]
  rw [if_pos (by omega)]
  refine Ev_bind (Ev_lopF (pj := pjX11_feed_20) (P := fun μ' => Fr [20001] [] μ μ' ∧ μ' 20001 2 = b 2 + 20 ∧ (∀ i, 0 ≤ i → i < 20 → μ' 20001 (10 + b 2 + i) = by8 (fw5 a m c d e i) (i % 4)) ∧ ∀ x, x ≠ 2 → x < 10 + b 2 ∨ 30 + b 2 ≤ x → μ' 20001 x = b x) (fun s t h hM => frsX11_feed_20 h hM) (by decide) hM (fun t => (0 ≤ t.1 ∧ t.1 ≤ 20) ∧ t.2 20001 2 = b 2 + t.1 ∧ (∀ i, 0 ≤ i → i < t.1 → t.2 20001 (10 + b 2 + i) = by8 (fw5 a m c d e i) (i % 4)) ∧ ∀ x, x ≠ 2 → x < 10 + b 2 ∨ 10 + b 2 + t.1 ≤ x → t.2 20001 x = b x) (fun t => (20 - t.1).toNat) ⟨(by first | omega | (dsimp only; omega) | (dsimp only)), by dsimp only; rw [hb]; omega, fun i i0 i1 => by dsimp only at i1; omega, fun x _ _ => by dsimp only; rw [hb]⟩ (by unfold FU; dsimp only; omega) ?_) ?_
  · rintro ⟨v6, μ1⟩ M1 F1 ⟨q1, q2, q3, q4⟩
    replace M1 : Md μ1 := M1
    dsimp only at q1 q2 q3 q4 ⊢
    have key : ∀ w, R32 w → w = fw5 a m c d e v6 → v6 < 20 → Ev (jX11_feed_73 20000 a m c d e v6 w μ1) (Nx (fun t => (0 ≤ t.1 ∧ t.1 ≤ 20) ∧ t.2 20001 2 = b 2 + t.1 ∧ (∀ i, 0 ≤ i → i < t.1 → t.2 20001 (10 + b 2 + i) = by8 (fw5 a m c d e i) (i % 4)) ∧ ∀ x, x ≠ 2 → x < 10 + b 2 ∨ 10 + b 2 + t.1 ≤ x → t.2 20001 x = b x) (fun t => (20 - t.1).toNat) (fun r => Fr [20001] [] (pjX11_feed_20 (.inl (0, μ))) (pjX11_feed_20 (.inr r)) → Fr [20001] [] μ r ∧ r 20001 2 = b 2 + 20 ∧ (∀ i, 0 ≤ i → i < 20 → r 20001 (10 + b 2 + i) = by8 (fw5 a m c d e i) (i % 4)) ∧ ∀ x, x ≠ 2 → x < 10 + b 2 ∨ 30 + b 2 ≤ x → r 20001 x = b x) (20 - v6).toNat) := by
      intro w hw ew hv
      unfold jX11_feed_73
      rw [tmod_nn q1.1]
      have tt : 24 - 8 * (v6 % 4) = 24 ∨ 24 - 8 * (v6 % 4) = 16 ∨ 24 - 8 * (v6 % 4) = 8 ∨ 24 - 8 * (v6 % 4) = 0 := by omega
      have ek : (24 - (24 - 8 * (v6 % 4))) / 8 = v6 % 4 := by omega
      have m0 : 0 ≤ v6 % 4 ∧ v6 % 4 < 4 := by omega
      simp (disch := omega) only [w32_eq, w64_eq, chk_T, chk_t, lt, lm, ob, Int.add_zero, Int.zero_add, true_and, and_true, if_true, if_false, K20000, K20001, K20002, K20003, K20004, K20005, K20006, K20007, K20008, K20009, K20010, K20011, K20012, K20013, K20014, K20015, K20016, K20017, K20018, K20019, N20001, N20002, N20003, N20004, N20005, N20006, N20007, N20008, N20009, N20010, N20011, N20012, N20013, N20014, N20015, N20016, N20017, N20018, N20019, Md_0 M1, q2, mst_n, mst_j, byS hw tt, ek]
      refine Ev_in ⟨(by first | omega | (dsimp only; omega) | (dsimp only)), ?_, fun i i0 i1 => ?_, fun x x0 x1 => ?_⟩ (by first | omega | (dsimp only; omega) | (dsimp only))
      · dsimp only; rw [mst_s]; omega
      · dsimp only at i1 ⊢
        rw [mst_j (by omega)]
        by_cases ei : i = v6
        · subst ei; rw [show 10 + b 2 + i = 10 + (b 2 + i) by omega, mst_s, ew]
        · rw [mst_j (by omega)]; exact q3 i i0 (by omega)
      · dsimp only at x1 ⊢
        rw [mst_j x0, mst_j (by omega)]; exact q4 x x0 (by omega)
    unfold sX11_feed_20
    dsimp only
    refine Ev_ite (fun w => Ev_out (fun f => ⟨f, by rw [q2]; omega, fun i i0 i1 => q3 i i0 (by omega), fun x x0 x1 => q4 x x0 (by omega)⟩)) (fun w => ?_)
    refine Ev_ite (fun w1 => Ev_ite (fun w2 => Ev_ite (fun w3 => Ev_ite (fun w4 => key e he ?_ (by omega)) (fun w4 => key d hd ?_ (by omega))) (fun w3 => key c hc ?_ (by omega))) (fun w2 => key m hm ?_ (by omega))) (fun w1 => key a ha ?_ (by omega)) <;> (unfold fw5; simp (disch := omega) only [if_pos, if_neg])
  · rintro μ1 ⟨f1, h1, h2, h3⟩
    have M1 := f1.md hM (by decide)
    simp (disch := omega) only [w32_eq, w64_eq, chk_T, chk_t, lt, lm, ob, Int.add_zero, Int.zero_add, true_and, and_true, if_true, if_false, K20000, K20001, K20002, K20003, K20004, K20005, K20006, K20007, K20008, K20009, K20010, K20011, K20012, K20013, K20014, K20015, K20016, K20017, K20018, K20019, N20001, N20002, N20003, N20004, N20005, N20006, N20007, N20008, N20009, N20010, N20011, N20012, N20013, N20014, N20015, N20016, N20017, N20018, N20019, Md_0 M1, h1]
    exact Ev_some ⟨rfl, f1, h1, h2, h3⟩
end
