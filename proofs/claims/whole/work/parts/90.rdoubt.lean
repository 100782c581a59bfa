/-! ===== doubt of the reference ===== -/
def hfF (v : Nat) : Bool := decide (ishr (v : Int) 1 = ((v / 2 : Nat) : Int)) && decide (iand (v : Int) 1 = ((v % 2 : Nat) : Int))
theorem hf_all : upTo hfF 256 = true := by decide +kernel
theorem hf_v {v : Int} (h : 0 ≤ v ∧ v < 256) : ishr v 1 = v / 2 ∧ iand v 1 = v % 2 := by
  have h1 := upTo_e hf_all (show v.toNat < 256 by omega)
  unfold hfF at h1
  rw [Bool.and_eq_true] at h1
  have a := of_decide_eq_true h1.1; have b := of_decide_eq_true h1.2
  rw [show ((v.toNat : Nat) : Int) = v by omega] at a b
  rw [a, b]; omega
def s8 (x : Nat) : Nat := x / 1 % 2 + x / 2 % 2 + x / 4 % 2 + x / 8 % 2 + x / 16 % 2 + x / 32 % 2 + x / 64 % 2 + x / 128 % 2
theorem s8_pc (x : Nat) : ((s8 x : Nat) : Int) = pc x := pc_ct8 x
theorem s8_all : upTo (fun v => decide (s8 v = v % 2 + s8 (v / 2))) 256 = true := by decide +kernel
theorem pc_hf {v : Int} (h : 0 ≤ v ∧ v < 256) : pc v = v % 2 + pc (v / 2) := by
  have a := s8_pc v.toNat; have b := s8_pc (v.toNat / 2)
  have c := of_decide_eq_true (upTo_e s8_all (show v.toNat < 256 by omega))
  rw [show ((v.toNat : Nat) : Int) = v by omega] at a
  rw [show ((v.toNat / 2 : Nat) : Int) = v / 2 by omega] at b
  rw [← a, ← b, c]
  generalize s8 (v.toNat / 2) = w
  omega
theorem r_bits {x : Int} (h : 0 ≤ x ∧ x < 256) : fX11_bits x = some (pc x) := by
  apply Ev.eq
  unfold fX11_bits
  refine Ev_bind (Ev_lop (P := fun r => r = pc x) (fun t => (0 ≤ t.2 ∧ t.2 < 256) ∧ t.1 + pc t.2 = pc x) (fun t => t.2.toNat) ⟨h, by dsimp only; omega⟩ (by unfold FU; dsimp only; omega) ?_) (fun r h => Ev_some h)
  rintro ⟨v1, v2⟩ ⟨k1, k2⟩
  dsimp only at k1 k2 ⊢
  unfold sX11_bits_4
  dsimp only
  have p0 : pc 0 = 0 := ct_z2 8 (fun i _ _ => mb_0)
  have pb := pc_b x; have pb2 := pc_b v2
  refine Ev_ite (fun w => Ev_out ?_) (fun w => ?_)
  · have : v2 = 0 := by omega
    rw [this, p0] at k2; omega
  · have hv := hf_v k1; have hp := pc_hf k1; have pb3 := pc_b (v2 / 2)
    rw [hv.1, hv.2, w32_eq (by omega) (by omega)]
    exact Ev_in ⟨(by first | omega | (dsimp only; omega) | (dsimp only)), by dsimp only; omega⟩ (by first | omega | (dsimp only; omega) | (dsimp only))
theorem mb_lt {x N : Int} (hx : 0 ≤ x) (hN : 0 ≤ N) : (∀ i, 0 ≤ i → mb x i → i < N) ↔ x < ((2 ^ N.toNat : Nat) : Int) := by
  constructor
  · intro h
    have : x.toNat < 2 ^ N.toNat := by
      apply Nat.lt_pow_two_of_testBit
      intro i hi
      apply Classical.byContradiction; intro q
      have := h i (by omega) (by unfold mb; rw [Int.toNat_natCast]; simpa using q)
      omega
    omega
  · intro h i i0 hi
    apply Classical.byContradiction; intro ng
    unfold mb at hi
    have hle : 2 ^ N.toNat ≤ 2 ^ i.toNat := Nat.pow_le_pow_right (by decide) (by omega)
    rw [Nat.testBit_lt_two_pow (Nat.lt_of_lt_of_le (show x.toNat < 2 ^ N.toNat by omega) hle)] at hi
    cases hi
section
variable {μ μ' : Mm} {b : Int → Int} {n p st l z y : Int} {g s : Int → Int}
theorem r_isFewer {x : Int} (hM : Md μ) (hx : 0 ≤ x ∧ x < 256) (hv : μ 20000 24 = -1 ∨ 0 ≤ μ 20000 24 ∧ μ 20000 24 < 256) : fX11_isFewer 20000 x μ = some (bi (μ 20000 24 = -1 ∨ kp x < kp (μ 20000 24))) := by
  unfold fX11_isFewer
  simp (disch := omega) only [w32_eq, w64_eq, chk_T, chk_t, lt, lm, ob, Int.add_zero, Int.zero_add, true_and, and_true, if_true, if_false, K20000, K20001, K20002, K20003, K20004, K20005, K20006, K20007, K20008, K20009, K20010, K20011, K20012, K20013, K20014, K20015, K20016, K20017, K20018, K20019, N20001, N20002, N20003, N20004, N20005, N20006, N20007, N20008, N20009, N20010, N20011, N20012, N20013, N20014, N20015, N20016, N20017, N20018, N20019, ]
  by_cases e : μ 20000 24 = -1
  · rw [if_pos (by omega), bi_t (.inl e)]
  · have hv2 : 0 ≤ μ 20000 24 ∧ μ 20000 24 < 256 := by omega
    rw [if_neg (by omega), r_bits hx, r_bits hv2]
    simp only [ob]
    unfold kp
    by_cases z : pc x < pc (μ 20000 24)
    · rw [if_pos z, bi_t (.inr (by omega))]
    · rw [if_neg z]
      by_cases w : pc x = pc (μ 20000 24)
      · rw [if_pos w]
        by_cases u : μ 20000 24 ≤ x
        · rw [if_pos u, bi_f (by omega)]
        · rw [if_neg u, bi_t (.inr (by omega))]
      · rw [if_neg w, bi_f (by omega)]
/-- the clashes with earlier ones are noted -/
def Au (μ : Mm) (g s : Int → Int) (p st m : Int) : Prop := ∀ i, 0 ≤ i → i < m → (0 ≤ μ 20012 i ∧ μ 20012 i < 256) ∧ ∀ k, 0 ≤ k → (mb (μ 20012 i) k ↔ k < i ∧ ¬ar g s p st k i)
theorem r_isEnough {x a : Int} (hM : Md μ) (hA : Au μ g s p st (s 0)) (h8 : 0 ≤ s 0 ∧ s 0 ≤ 8) (hx : 0 ≤ x ∧ x < 256) (hx2 : ∀ i, 0 ≤ i → mb x i → i < s 0) (ha : 0 ≤ a ∧ a < 256) (ha2 : ∀ i, 0 ≤ i → (mb a i ↔ i < s 0 ∧ ¬(lok g s p st i ∧ tok g s p st y i))) : fX11_isEnough 20000 (s 0) a x μ = some (bi (En g s p st y x)) := by
  apply Ev.eq
  unfold fX11_isEnough
  have s0 := sub_0 ha hx
  have key : ∀ v, v = bi (∀ i, 0 ≤ i → mb a i → mb x i) → Ev (jX11_isEnough_13 20000 (s 0) x v μ) (fun r => r = bi (En g s p st y x)) := by
    intro v hv
    unfold jX11_isEnough_13
    refine Ev_bind (Ev_lop (P := fun r => r = bi (En g s p st y x)) (fun t => (0 ≤ t.2 ∧ t.2 ≤ s 0) ∧ t.1 = bi ((∀ i, 0 ≤ i → mb a i → mb x i) ∧ ∀ i, 0 ≤ i → i < t.2 → mb x i ∨ ∀ k, 0 ≤ k → k < i → mb x k ∨ ar g s p st k i)) (fun t => (s 0 - t.2).toNat) ⟨(by first | omega | (dsimp only; omega) | (dsimp only)), ?_⟩ (by unfold FU; dsimp only; omega) ?_) (fun r hr => ?_)
    · dsimp only; rw [hv]
      exact bi_c ⟨fun w => ⟨w, fun i a b => by omega⟩, fun w => w.1⟩
    · rintro ⟨v4, v5⟩ ⟨k1, k2⟩
      dsimp only at k1 k2 ⊢
      have toEn : ((∀ i, 0 ≤ i → mb a i → mb x i) ∧ ∀ i, 0 ≤ i → i < s 0 → mb x i ∨ ∀ k, 0 ≤ k → k < i → mb x k ∨ ar g s p st k i) ↔ En g s p st y x := by
        constructor
        · rintro ⟨w1, w2⟩
          refine ⟨hx2, fun i i0 i1 => ?_⟩
          by_cases q : mb x i
          · exact .inl q
          · right
            refine ⟨?_, ?_⟩
            · apply Classical.byContradiction; intro u
              exact q (w1 i i0 ((ha2 i i0).mpr ⟨i1, u⟩))
            · rcases w2 i i0 i1 with u | u
              · exact absurd u q
              · exact u
        · rintro ⟨_, w2⟩
          refine ⟨fun i i0 h => ?_, fun i i0 i1 => ?_⟩
          · obtain ⟨u1, u2⟩ := (ha2 i i0).mp h
            rcases w2 i i0 u1 with u | u
            · exact u
            · exact absurd u.1 u2
          · rcases w2 i i0 i1 with u | u
            · exact .inl u
            · exact .inr u.2
      unfold sX11_isEnough_18
      dsimp only
      refine Ev_ite (fun w => Ev_out ?_) (fun w => ?_)
      · have e : v5 = s 0 := by omega
        rw [e] at k2; rw [k2]; exact bi_c toEn
      refine Ev_ite (fun w0 => Ev_out ?_) (fun w0 => ?_)
      · rw [w0] at k2 ⊢
        refine (bi_f (fun h => bi_0.mp k2.symm ?_)).symm
        have := toEn.mpr h
        exact ⟨this.1, fun i a b => this.2 i a (by omega)⟩
      · have v1 : v4 = 1 := by
          rcases bi_b ((∀ i, 0 ≤ i → mb a i → mb x i) ∧ ∀ i, 0 ≤ i → i < v5 → mb x i ∨ ∀ k, 0 ≤ k → k < i → mb x k ∨ ar g s p st k i) with w | w <;> omega
        have old := bi_1.mp (k2.symm.trans v1)
        have av := hA v5 k1.1 (by omega)
        have sv := sub_0 av.1 hx
        have cv : (∀ i, 0 ≤ i → mb (μ 20012 v5) i → mb x i) ↔ ∀ k, 0 ≤ k → k < v5 → mb x k ∨ ar g s p st k v5 := by
          constructor
          · intro h k k0 k1
            by_cases q : ar g s p st k v5
            · exact .inr q
            · exact .inl (h k k0 ((av.2 k k0).mpr ⟨k1, q⟩))
          · intro h i i0 q
            obtain ⟨q1, q2⟩ := (av.2 i i0).mp q
            rcases h i i0 q1 with u | u
            · exact u
            · exact absurd u q2
        have yes : (mb x v5 ∨ ∀ k, 0 ≤ k → k < v5 → mb x k ∨ ar g s p st k v5) → Ev (some (Sum.inl (1, v5 + 1) : (Int × Int) ⊕ Int)) (Nx (fun t => (0 ≤ t.2 ∧ t.2 ≤ s 0) ∧ t.1 = bi ((∀ i, 0 ≤ i → mb a i → mb x i) ∧ ∀ i, 0 ≤ i → i < t.2 → mb x i ∨ ∀ k, 0 ≤ k → k < i → mb x k ∨ ar g s p st k i)) (fun t => (s 0 - t.2).toNat) (fun r => r = bi (En g s p st y x)) (s 0 - v5).toNat) := by
          intro hh
          refine Ev_in ⟨(by first | omega | (dsimp only; omega) | (dsimp only)), (bi_t ⟨old.1, fun i i0 i1 => ?_⟩).symm⟩ (by first | omega | (dsimp only; omega) | (dsimp only))
          dsimp only at i1
          by_cases e : i = v5
          · subst e; exact hh
          · exact old.2 i i0 (by omega)
        simp (disch := omega) only [w32_eq, w64_eq, chk_T, chk_t, lt, lm, ob, Int.add_zero, Int.zero_add, true_and, and_true, if_true, if_false, K20000, K20001, K20002, K20003, K20004, K20005, K20006, K20007, K20008, K20009, K20010, K20011, K20012, K20013, K20014, K20015, K20016, K20017, K20018, K20019, N20001, N20002, N20003, N20004, N20005, N20006, N20007, N20008, N20009, N20010, N20011, N20012, N20013, N20014, N20015, N20016, N20017, N20018, N20019, ]
        refine Ev_ite (fun u => yes (.inl ((bit_1 hx (by omega)).mp u))) (fun u => ?_)
        simp (disch := omega) only [w32_eq, w64_eq, chk_T, chk_t, lt, lm, ob, Int.add_zero, Int.zero_add, true_and, and_true, if_true, if_false, K20000, K20001, K20002, K20003, K20004, K20005, K20006, K20007, K20008, K20009, K20010, K20011, K20012, K20013, K20014, K20015, K20016, K20017, K20018, K20019, N20001, N20002, N20003, N20004, N20005, N20006, N20007, N20008, N20009, N20010, N20011, N20012, N20013, N20014, N20015, N20016, N20017, N20018, N20019, Md_23 hM]
        refine Ev_ite (fun q => yes (.inr (cv.mp (sv.mp q)))) (fun q => ?_)
        refine Ev_in ⟨(by first | omega | (dsimp only; omega) | (dsimp only)), (bi_f (fun h => ?_)).symm⟩ (by first | omega | (dsimp only; omega) | (dsimp only))
        rcases h.2 v5 k1.1 (by dsimp only; omega) with u2 | u2
        · exact u ((bit_1 hx (by omega)).mpr u2)
        · exact q (sv.mpr (cv.mpr u2))
    · rw [hr, chk_t (bi_b _)]; exact Ev_some rfl
  refine Ev_ite (fun q => key 1 (bi_t (s0.mp q)).symm) (fun q => key 0 (bi_f (fun h => q (s0.mpr h))).symm)
theorem r_clash (hM : Md μ) (hG : G μ l g) (hS : Gs μ z s) (hO : SkOk s) (hL : LdOk g) (hp : Pl g p) (hH : Hp μ g p) (hc : cb g s p) (hs : 0 ≤ st ∧ st < hN g p) (h8 : s 0 ≤ 8) : Ev (lop (sX11_doubts_11 20000 l z p st (s 0)) FU (0, μ)) (fun μ' => Fr [20012] [] μ μ' ∧ Au μ' g s p st (s 0)) := by
  have o := hO.1
  refine Ev_lop (fun t => (0 ≤ t.1 ∧ t.1 ≤ s 0) ∧ Fr [20012] [] μ t.2 ∧ Au t.2 g s p st t.1) (fun t => (s 0 - t.1).toNat) ⟨(by first | omega | (dsimp only; omega) | (dsimp only)), Fr.rf, fun i a b => by dsimp only at b; omega⟩ (by unfold FU; dsimp only; omega) ?_
  rintro ⟨v6, μ1⟩ ⟨k1, f1, k2⟩
  dsimp only at k1 f1 k2 ⊢
  have M1 := f1.md hM (by decide)
  unfold sX11_doubts_11
  dsimp only
  refine Ev_ite (fun w => Ev_out ⟨f1, fun i a b => k2 i a (by omega)⟩) (fun w => ?_)
  simp (disch := omega) only [w32_eq, w64_eq, chk_T, chk_t, lt, lm, ob, Int.add_zero, Int.zero_add, true_and, and_true, if_true, if_false, K20000, K20001, K20002, K20003, K20004, K20005, K20006, K20007, K20008, K20009, K20010, K20011, K20012, K20013, K20014, K20015, K20016, K20017, K20018, K20019, N20001, N20002, N20003, N20004, N20005, N20006, N20007, N20008, N20009, N20010, N20011, N20012, N20013, N20014, N20015, N20016, N20017, N20018, N20019, Md_23 M1]
  have f2 : Fr [20012] [] μ (mst μ1 20012 v6 0) := f1.tr (Fr.row rfl rfl (by decide) (by decide))
  refine Ev_bind (Ev_lop (P := fun μ' => Fr [20012] [] μ μ' ∧ Au μ' g s p st (v6 + 1)) (fun t => (0 ≤ t.1 ∧ t.1 ≤ v6) ∧ Fr [20012] [] μ t.2 ∧ ((0 ≤ t.2 20012 v6 ∧ t.2 20012 v6 < 256) ∧ ∀ k, 0 ≤ k → (mb (t.2 20012 v6) k ↔ k < t.1 ∧ ¬ar g s p st k v6)) ∧ ∀ i, i ≠ v6 → t.2 20012 i = μ1 20012 i) (fun t => (v6 - t.1).toNat) ⟨(by first | omega | (dsimp only; omega) | (dsimp only)), f2, ⟨by dsimp only; rw [mst_s]; omega, fun k a => by dsimp only; rw [mst_s]; exact ⟨fun w => absurd w mb_0, fun w => by omega⟩⟩, fun i hi => by dsimp only; exact mst_j hi⟩ (by unfold FU; dsimp only; omega) ?_) ?_
  · rintro ⟨v7, μ3⟩ ⟨a1, f3, ⟨a2, a3⟩, a4⟩
    dsimp only at a1 f3 a2 a3 a4 ⊢
    have M3 := f3.md hM (by decide)
    unfold sX11_doubts_29
    dsimp only
    refine Ev_ite (fun q => Ev_out ⟨f3, fun i i0 i1 => ?_⟩) (fun q => ?_)
    · by_cases e : i = v6
      · rw [e]
        refine ⟨a2, fun k k0 => ?_⟩
        rw [a3 k k0]
        exact ⟨fun u => ⟨by omega, u.2⟩, fun u => ⟨by omega, u.2⟩⟩
      · rw [a4 i e]; exact k2 i i0 (by omega)
    simp (disch := omega) only [w32_eq, w64_eq, chk_T, chk_t, lt, lm, ob, Int.add_zero, Int.zero_add, true_and, and_true, if_true, if_false, K20000, K20001, K20002, K20003, K20004, K20005, K20006, K20007, K20008, K20009, K20010, K20011, K20012, K20013, K20014, K20015, K20016, K20017, K20018, K20019, N20001, N20002, N20003, N20004, N20005, N20006, N20007, N20008, N20009, N20010, N20011, N20012, N20013, N20014, N20015, N20016, N20017, N20018, N20019, Md_23 M3]
    rw [r_areRight M3 (hG.fr f3 (by decide)) (hS.fr f3 (by decide)) hO hL hp (hH.fr f3 (by decide) (by decide)) hc hs (by omega) (by omega)]
    simp only [ob, bi_if]
    have b8 := ishl_b (i := v7) (by omega)
    by_cases u : ar g s p st v7 v6
    · rw [sel_t u]
      have e0 : ior (μ3 20012 v6) 0 = μ3 20012 v6 := by
        refine mb_ext (ior_b a2 (by omega)).1 a2.1 (fun i _ => ?_)
        rw [ior_m a2 (by omega)]
        exact ⟨fun w => by rcases w with w | w; exact w; exact absurd w mb_0, .inl⟩
      simp (disch := omega) only [w32_eq, w64_eq, chk_T, chk_t, lt, lm, ob, Int.add_zero, Int.zero_add, true_and, and_true, if_true, if_false, K20000, K20001, K20002, K20003, K20004, K20005, K20006, K20007, K20008, K20009, K20010, K20011, K20012, K20013, K20014, K20015, K20016, K20017, K20018, K20019, N20001, N20002, N20003, N20004, N20005, N20006, N20007, N20008, N20009, N20010, N20011, N20012, N20013, N20014, N20015, N20016, N20017, N20018, N20019, e0]
      refine Ev_in ⟨(by first | omega | (dsimp only; omega) | (dsimp only)), f3.tr (Fr.row rfl rfl (by decide) (by decide)), ⟨by dsimp only; rw [mst_s]; exact a2, fun k k0 => ?_⟩, fun i hi => by dsimp only; rw [mst_j hi]; exact a4 i hi⟩ (by first | omega | (dsimp only; omega) | (dsimp only))
      dsimp only
      rw [mst_s, a3 k k0]
      refine ⟨fun w => ⟨by omega, w.2⟩, fun w => ⟨?_, w.2⟩⟩
      by_cases e : k = v7
      · subst e; exact absurd u w.2
      · omega
    · rw [sel_f u]
      try simp (disch := omega) only [w32_eq, w64_eq, chk_T, chk_t, lt, lm, ob, Int.add_zero, Int.zero_add, true_and, and_true, if_true, if_false, ]
      refine Ev_in ⟨(by first | omega | (dsimp only; omega) | (dsimp only)), f3.tr (Fr.row rfl rfl (by decide) (by decide)), ⟨by dsimp only; rw [mst_s]; exact ior_b a2 b8, fun k k0 => ?_⟩, fun i hi => by dsimp only; rw [mst_j hi]; exact a4 i hi⟩ (by first | omega | (dsimp only; omega) | (dsimp only))
      dsimp only
      rw [mst_s, ior_m a2 b8, a3 k k0, ishl_m (by omega) k0]
      constructor
      · intro w; rcases w with w | w
        · exact ⟨by omega, w.2⟩
        · subst w; exact ⟨by omega, u⟩
      · intro w
        by_cases e : k = v7
        · exact .inr e
        · exact .inl ⟨by omega, w.2⟩
  · intro μ3 ⟨f3, A3⟩
    try simp (disch := omega) only [w32_eq, w64_eq, chk_T, chk_t, lt, lm, ob, Int.add_zero, Int.zero_add, true_and, and_true, if_true, if_false, ]
    exact Ev_in ⟨(by first | omega | (dsimp only; omega) | (dsimp only)), f3, A3⟩ (by first | omega | (dsimp only; omega) | (dsimp only))
theorem mk_tl {i : Int} : mk g s p st i y ↔ lok g s p st i ∧ tok g s p st y i := by
  unfold mk lok tok
  exact ⟨fun h => ⟨h.2.2, h.1, h.2.1⟩, fun h => ⟨h.2.1, h.2.2, h.1⟩⟩
theorem r_alone (hM : Md μ) (hG : G μ l g) (hS : Gs μ z s) (hO : SkOk s) (hL : LdOk g) (hp : Pl g p) (hH : Hp μ g p) (hc : cb g s p) (hs : 0 ≤ st ∧ st < hN g p) (h8 : s 0 ≤ 8) (y : Int) : Ev (lop (sX11_doubts_112 20000 l z p st (s 0) y μ) FU (0, 0)) (fun a => (0 ≤ a ∧ a < 256) ∧ ∀ i, 0 ≤ i → (mb a i ↔ i < s 0 ∧ ¬(lok g s p st i ∧ tok g s p st y i))) := by
  have o := hO.1
  refine Ev_lop (fun t => (0 ≤ t.2 ∧ t.2 ≤ s 0) ∧ (0 ≤ t.1 ∧ t.1 < 256) ∧ ∀ i, 0 ≤ i → (mb t.1 i ↔ i < t.2 ∧ ¬(lok g s p st i ∧ tok g s p st y i))) (fun t => (s 0 - t.2).toNat) ⟨(by first | omega | (dsimp only; omega) | (dsimp only)), (by first | omega | (dsimp only; omega) | (dsimp only)), fun i a => ⟨fun w => absurd w mb_0, fun w => by dsimp only at w; omega⟩⟩ (by unfold FU; dsimp only; omega) ?_
  rintro ⟨v7, v8⟩ ⟨k1, k3, k4⟩
  dsimp only at k1 k3 k4 ⊢
  unfold sX11_doubts_112
  dsimp only
  refine Ev_ite (fun w => Ev_out ?_) (fun w => ?_)
  · have e : v8 = s 0 := by omega
    refine ⟨k3, ?_⟩
    rw [← e]; exact k4
  simp (disch := omega) only [w32_eq, w64_eq, chk_T, chk_t, lt, lm, ob, Int.add_zero, Int.zero_add, true_and, and_true, if_true, if_false, K20000, K20001, K20002, K20003, K20004, K20005, K20006, K20007, K20008, K20009, K20010, K20011, K20012, K20013, K20014, K20015, K20016, K20017, K20018, K20019, N20001, N20002, N20003, N20004, N20005, N20006, N20007, N20008, N20009, N20010, N20011, N20012, N20013, N20014, N20015, N20016, N20017, N20018, N20019, ]
  rw [r_isMarked hM hG hS hO hL hp hH hc hs (i := v8) (by omega)]
  simp only [ob, bi_if]
  have b8 := ishl_b (i := v8) (by omega)
  by_cases u : mk g s p st v8 y
  · rw [sel_t u]
    have e0 : ior v7 0 = v7 := by
      refine mb_ext (ior_b k3 (by omega)).1 k3.1 (fun i _ => ?_)
      rw [ior_m k3 (by omega)]
      exact ⟨fun w => by rcases w with w | w; exact w; exact absurd w mb_0, .inl⟩
    rw [e0]
    try simp (disch := omega) only [w32_eq, w64_eq, chk_T, chk_t, lt, lm, ob, Int.add_zero, Int.zero_add, true_and, and_true, if_true, if_false, ]
    refine Ev_in ⟨(by first | omega | (dsimp only; omega) | (dsimp only)), k3, fun i a => ?_⟩ (by first | omega | (dsimp only; omega) | (dsimp only))
    dsimp only
    rw [k4 i a]
    refine ⟨fun q => ⟨by omega, q.2⟩, fun q => ⟨?_, q.2⟩⟩
    by_cases e : i = v8
    · subst e; exact absurd (mk_tl.mp u) q.2
    · omega
  · rw [sel_f u]
    try simp (disch := omega) only [w32_eq, w64_eq, chk_T, chk_t, lt, lm, ob, Int.add_zero, Int.zero_add, true_and, and_true, if_true, if_false, ]
    refine Ev_in ⟨(by first | omega | (dsimp only; omega) | (dsimp only)), ior_b k3 b8, fun i a => ?_⟩ (by first | omega | (dsimp only; omega) | (dsimp only))
    dsimp only
    rw [ior_m k3 b8, k4 i a, ishl_m (by omega) a]
    constructor
    · intro q; rcases q with q | q
      · exact ⟨by omega, q.2⟩
      · subst q; exact ⟨by omega, fun w => u (mk_tl.mpr w)⟩
    · intro q
      by_cases e : i = v8
      · exact .inr e
      · exact .inl ⟨by omega, q.2⟩
theorem r_sets {a : Int} {C : Int → Prop} (hM : Md μ) (hA : Au μ g s p st (s 0)) (h8 : 0 ≤ s 0 ∧ s 0 ≤ 8) (ha : 0 ≤ a ∧ a < 256) (ha2 : ∀ i, 0 ≤ i → (mb a i ↔ i < s 0 ∧ ¬(lok g s p st i ∧ tok g s p st y i))) (hv : DB C (μ 20000 24)) : Ev (lop (sX11_doubts_157 20000 l z p st (s 0) y a) FU (0, μ)) (fun μ' => Fr [] [24] μ μ' ∧ DB (fun x => C x ∨ En g s p st y x) (μ' 20000 24)) := by
  have sh := ishl_n (i := s 0) (by omega)
  have le : 2 ^ (s 0).toNat ≤ 2 ^ 8 := Nat.pow_le_pow_right (by decide) (by omega)
  have l1 : ∀ x, 0 ≤ x → ((∀ i, 0 ≤ i → mb x i → i < s 0) ↔ x < ishl 1 (s 0)) := fun x x0 => by rw [sh]; exact mb_lt x0 h8.1
  have bd : 0 ≤ ishl 1 (s 0) ∧ ishl 1 (s 0) ≤ 256 := by
    rw [sh]
    generalize 2 ^ (s 0).toNat = w at le ⊢
    have : (2 : Nat) ^ 8 = 256 := rfl
    omega
  generalize hw : ishl 1 (s 0) = w at l1 bd
  refine Ev_lop (fun t => (0 ≤ t.1 ∧ t.1 ≤ w) ∧ Fr [] [24] μ t.2 ∧ DB (fun x => C x ∨ (x < t.1 ∧ En g s p st y x)) (t.2 20000 24)) (fun t => (w - t.1).toNat) ⟨(by first | omega | (dsimp only; omega) | (dsimp only)), Fr.rf, DB_c hv (fun x a _ => ⟨.inl, fun q => by rcases q with q | q; exact q; dsimp only at q; omega⟩)⟩ (by unfold FU; dsimp only; omega) ?_
  rintro ⟨v8, μ1⟩ ⟨k1, f1, k2⟩
  dsimp only at k1 f1 k2 ⊢
  have M1 := f1.md hM (by decide)
  have A1 : Au μ1 g s p st (s 0) := by unfold Au; rw [f1.1 20012 (by decide) (by decide)]; exact hA
  unfold sX11_doubts_157
  dsimp only
  rw [hw]
  refine Ev_ite (fun q => Ev_out ⟨f1, DB_c k2 (fun x x0 _ => ?_)⟩) (fun q => ?_)
  · constructor
    · intro u; rcases u with u | u
      · exact .inl u
      · exact .inr u.2
    · intro u; rcases u with u | u
      · exact .inl u
      · exact .inr ⟨by have := (l1 x x0).mp u.1; omega, u⟩
  have hx : 0 ≤ v8 ∧ v8 < 256 := by omega
  have bv : μ1 20000 24 = -1 ∨ 0 ≤ μ1 20000 24 ∧ μ1 20000 24 < 256 := by rcases k2 with u | u; exact .inl u.1; exact .inr u.1
  simp (disch := omega) only [w32_eq, w64_eq, chk_T, chk_t, lt, lm, ob, Int.add_zero, Int.zero_add, true_and, and_true, if_true, if_false, K20000, K20001, K20002, K20003, K20004, K20005, K20006, K20007, K20008, K20009, K20010, K20011, K20012, K20013, K20014, K20015, K20016, K20017, K20018, K20019, N20001, N20002, N20003, N20004, N20005, N20006, N20007, N20008, N20009, N20010, N20011, N20012, N20013, N20014, N20015, N20016, N20017, N20018, N20019, ]
  rw [r_isFewer M1 hx bv]
  simp only [ob, bi_if]
  have old : (¬En g s p st y v8 ∨ (μ1 20000 24 ≠ -1 ∧ kp (μ1 20000 24) ≤ kp v8)) → DB (fun x => C x ∨ (x < v8 + 1 ∧ En g s p st y x)) (μ1 20000 24) := by
    intro hh
    rcases k2 with ⟨e, u⟩ | ⟨e, u1, u2⟩
    · refine .inl ⟨e, fun x x0 x1 u3 => ?_⟩
      rcases u3 with u3 | u3
      · exact u x x0 x1 (.inl u3)
      · by_cases z : x = v8
        · subst z; rcases hh with hh | hh; exact hh u3.2; exact hh.1 e
        · exact u x x0 x1 (.inr ⟨by omega, u3.2⟩)
    · refine .inr ⟨e, ?_, fun x x0 x1 u3 => ?_⟩
      · rcases u1 with u1 | u1
        · exact .inl u1
        · exact .inr ⟨by omega, u1.2⟩
      · rcases u3 with u3 | u3
        · exact u2 x x0 x1 (.inl u3)
        · by_cases z : x = v8
          · subst z; rcases hh with hh | hh; exact absurd u3.2 hh; exact hh.2
          · exact u2 x x0 x1 (.inr ⟨by omega, u3.2⟩)
  by_cases u : μ1 20000 24 = -1 ∨ kp v8 < kp (μ1 20000 24)
  · rw [sel_t u, r_isEnough (y := y) M1 A1 h8 hx ((l1 v8 k1.1).mpr (by omega)) ha ha2]
    simp only [ob, bi_if]
    by_cases v : En g s p st y v8
    · rw [sel_t v]
      try simp (disch := omega) only [w32_eq, w64_eq, chk_T, chk_t, lt, lm, ob, Int.add_zero, Int.zero_add, true_and, and_true, if_true, if_false, ]
      refine Ev_in ⟨(by first | omega | (dsimp only; omega) | (dsimp only)), f1.tr (Fr.fld rfl (by decide)), ?_⟩ (by first | omega | (dsimp only; omega) | (dsimp only))
      dsimp only
      rw [mst_s]
      refine .inr ⟨hx, .inr ⟨by omega, v⟩, fun x x0 x1 u3 => ?_⟩
      rcases u with u | u
      · rcases k2 with ⟨e, u4⟩ | ⟨e, u1, u2⟩
        · rcases u3 with u3 | u3
          · exact absurd (.inl u3) (u4 x x0 x1)
          · by_cases z : x = v8
            · rw [z]; exact Int.le_refl _
            · exact absurd (.inr ⟨by omega, u3.2⟩) (u4 x x0 x1)
        · omega
      · rcases k2 with ⟨e, u4⟩ | ⟨e, u1, u2⟩
        · rcases u3 with u3 | u3
          · exact absurd (.inl u3) (u4 x x0 x1)
          · by_cases z : x = v8
            · rw [z]; exact Int.le_refl _
            · exact absurd (.inr ⟨by omega, u3.2⟩) (u4 x x0 x1)
        · rcases u3 with u3 | u3
          · have := u2 x x0 x1 (.inl u3); omega
          · by_cases z : x = v8
            · rw [z]; exact Int.le_refl _
            · have := u2 x x0 x1 (.inr ⟨by omega, u3.2⟩); omega
    · rw [sel_f v]
      try simp (disch := omega) only [w32_eq, w64_eq, chk_T, chk_t, lt, lm, ob, Int.add_zero, Int.zero_add, true_and, and_true, if_true, if_false, ]
      exact Ev_in ⟨(by first | omega | (dsimp only; omega) | (dsimp only)), f1, old (.inl v)⟩ (by first | omega | (dsimp only; omega) | (dsimp only))
  · rw [sel_f u]
    try simp (disch := omega) only [w32_eq, w64_eq, chk_T, chk_t, lt, lm, ob, Int.add_zero, Int.zero_add, true_and, and_true, if_true, if_false, ]
    exact Ev_in ⟨(by first | omega | (dsimp only; omega) | (dsimp only)), f1, old (.inr ⟨fun e => u (.inl e), by have : ¬kp v8 < kp (μ1 20000 24) := fun e => u (.inr e); omega⟩)⟩ (by first | omega | (dsimp only; omega) | (dsimp only))
theorem r_doubts {C : Int → Prop} (hM : Md μ) (hG : G μ l g) (hS : Gs μ z s) (hO : SkOk s) (hL : LdOk g) (hp : Pl g p) (hH : Hp μ g p) (hc : cb g s p) (hs : 0 ≤ st ∧ st < hN g p) (h8 : s 0 ≤ 8) (hv : DB C (μ 20000 24)) : Ev (fX11_doubts 20000 l z p st μ) (fun μ' => Fr [20012] [24] μ μ' ∧ DB (fun x => C x ∨ ∃ y, (s 5 ≤ y ∧ y ≤ s 6) ∧ En g s p st y x) (μ' 20000 24)) := by
  suffices hh : Ev (fX11_doubts 20000 l z p st μ) (fun μ' => DB (fun x => C x ∨ ∃ y, (s 5 ≤ y ∧ y ≤ s 6) ∧ En g s p st y x) (μ' 20000 24)) by
    obtain ⟨r, e, h1⟩ := hh
    exact ⟨r, e, frfX11_doubts e hM, h1⟩
  have hz := hS.1; have o := hO.1; have o6 := hO.2.2.2.2.2.1
  unfold fX11_doubts
  simp (disch := omega) only [w32_eq, w64_eq, chk_T, chk_t, lt, lm, ob, Int.add_zero, Int.zero_add, true_and, and_true, if_true, if_false, K20000, K20001, K20002, K20003, K20004, K20005, K20006, K20007, K20008, K20009, K20010, K20011, K20012, K20013, K20014, K20015, K20016, K20017, K20018, K20019, N20001, N20002, N20003, N20004, N20005, N20006, N20007, N20008, N20009, N20010, N20011, N20012, N20013, N20014, N20015, N20016, N20017, N20018, N20019, Md_0 hM, hS.r0]
  refine Ev_bind (r_clash hM hG hS hO hL hp hH hc hs h8) (fun μ1 ⟨f1, A1⟩ => ?_)
  have M1 := f1.md hM (by decide)
  have S1 := hS.fr f1 (by decide); have G1 := hG.fr f1 (by decide)
  have H1 := hH.fr f1 (by decide) (by decide)
  simp (disch := omega) only [w32_eq, w64_eq, chk_T, chk_t, lt, lm, ob, Int.add_zero, Int.zero_add, true_and, and_true, if_true, if_false, K20000, K20001, K20002, K20003, K20004, K20005, K20006, K20007, K20008, K20009, K20010, K20011, K20012, K20013, K20014, K20015, K20016, K20017, K20018, K20019, N20001, N20002, N20003, N20004, N20005, N20006, N20007, N20008, N20009, N20010, N20011, N20012, N20013, N20014, N20015, N20016, N20017, N20018, N20019, Md_0 M1, S1.rd]
  refine Ev_bind (Ev_lopI (P := fun μ' => DB (fun x => C x ∨ ∃ y, (s 5 ≤ y ∧ y ≤ s 6) ∧ En g s p st y x) (μ' 20000 24)) (fun m t => (m = (100 - t.1).toNat ∧ s 5 ≤ t.1 ∧ t.1 ≤ 100) ∧ Fr [] [24] μ1 t.2 ∧ DB (fun x => C x ∨ ∃ y, (s 5 ≤ y ∧ y ≤ s 6 ∧ y < t.1) ∧ En g s p st y x) (t.2 20000 24)) (100 - s 5).toNat ⟨(by first | omega | (dsimp only; omega) | (dsimp only)), Fr.rf, ?_⟩ (by unfold FU; omega) ?_) (fun r h => Ev_some h)
  · dsimp only
    rw [f1.2 24 (by decide)]
    exact DB_c hv (fun x _ _ => ⟨.inl, fun q => by rcases q with q | ⟨y, q, _⟩; exact q; omega⟩)
  · rintro m ⟨v6, μ2⟩ ⟨h1, f2, d2⟩
    dsimp only at h1 f2 d2 ⊢
    have M2 := f2.md M1 (by decide)
    have S2 := S1.fr f2 (by decide); have G2 := G1.fr f2 (by decide)
    have H2 := H1.fr f2 (by decide) (by decide)
    have A2 : Au μ2 g s p st (s 0) := by unfold Au; rw [f2.1 20012 (by decide) (by decide)]; exact A1
    unfold sX11_doubts_92
    dsimp only
    simp (disch := omega) only [w32_eq, w64_eq, chk_T, chk_t, lt, lm, ob, Int.add_zero, Int.zero_add, true_and, and_true, if_true, if_false, K20000, K20001, K20002, K20003, K20004, K20005, K20006, K20007, K20008, K20009, K20010, K20011, K20012, K20013, K20014, K20015, K20016, K20017, K20018, K20019, N20001, N20002, N20003, N20004, N20005, N20006, N20007, N20008, N20009, N20010, N20011, N20012, N20013, N20014, N20015, N20016, N20017, N20018, N20019, Md_0 M2, S2.rd]
    refine Ev_ite (fun w => Ev_outi ?_) (fun w => ?_)
    · exact DB_c d2 (fun x _ _ => ⟨fun q => by rcases q with q | ⟨y, q, q2⟩; exact .inl q; exact .inr ⟨y, by omega, q2⟩, fun q => by rcases q with q | ⟨y, q, q2⟩; exact .inl q; exact .inr ⟨y, by omega, q2⟩⟩)
    refine Ev_bind (r_alone M2 G2 S2 hO hL hp H2 hc hs h8 v6) (fun a ⟨a1, a2⟩ => ?_)
    refine Ev_bind (r_sets M2 A2 (by omega) a1 a2 d2) (fun μ3 ⟨f3, d3⟩ => ?_)
    have M3 := f3.md M2 (by decide)
    refine Ev_bind (r_nextYear M3 (G2.fr f3 (by decide)) hL (y := v6) (by omega)) (fun r ⟨n1, n2, n3⟩ => ?_)
    refine Ev_ini (100 - r).toNat ⟨⟨rfl, by dsimp only; omega, n2⟩, f2.tr f3, ?_⟩ (by omega)
    dsimp only
    refine DB_c d3 (fun x _ _ => ?_)
    have eq : ∀ y, v6 ≤ y → y < r → (En g s p st y x ↔ En g s p st v6 x) := fun y y0 y1 => by
      have te : ∀ i, tok g s p st y i ↔ tok g s p st v6 i := fun i => by
        have e := NY_tw (q := hl g s p st i) n3 y0 y1
        unfold tok; rw [e]
      exact ⟨En_t (fun i _ _ => te i), En_t (fun i _ _ => (te i).symm)⟩
    constructor
    · intro q; rcases q with (q | ⟨y, q, q2⟩) | q
      · exact .inl q
      · exact .inr ⟨y, by omega, q2⟩
      · exact .inr ⟨v6, by omega, q⟩
    · intro q; rcases q with q | ⟨y, q, q2⟩
      · exact .inl (.inl q)
      · by_cases e : y < v6
        · exact .inl (.inr ⟨y, by omega, q2⟩)
        · exact .inr ((eq y (by omega) (by omega)).mp q2)
theorem rr_doubt (hM : Md μ) (hDt : Dt μ) (hb : μ 20001 = b) (hA : AOk b) (n k : Int) : Ev (fX11_doubt 20000 n k μ) (fun r => ZDoubt b n k r.1) := by
  unfold fX11_doubt
  simp (disch := omega) only [w32_eq, w64_eq, chk_T, chk_t, lt, lm, ob, Int.add_zero, Int.zero_add, true_and, and_true, if_true, if_false, K20000, K20001, K20002, K20003, K20004, K20005, K20006, K20007, K20008, K20009, K20010, K20011, K20012, K20013, K20014, K20015, K20016, K20017, K20018, K20019, N20001, N20002, N20003, N20004, N20005, N20006, N20007, N20008, N20009, N20010, N20011, N20012, N20013, N20014, N20015, N20016, N20017, N20018, N20019, r_areBoth hM hb hA, bi_if]
  by_cases h : isL b n ∧ isS b k
  · obtain ⟨nn, kk, hD, hO, hG, hS⟩ := r_two hb hA h
    have o := hO.1; have hz := hS.1; have nb := np_b hD
    rw [sel_t h, r_placeOf1 kk]
    simp (disch := omega) only [w32_eq, w64_eq, chk_T, chk_t, lt, lm, ob, Int.add_zero, Int.zero_add, true_and, and_true, if_true, if_false, K20000, K20001, K20002, K20003, K20004, K20005, K20006, K20007, K20008, K20009, K20010, K20011, K20012, K20013, K20014, K20015, K20016, K20017, K20018, K20019, N20001, N20002, N20003, N20004, N20005, N20006, N20007, N20008, N20009, N20010, N20011, N20012, N20013, N20014, N20015, N20016, N20017, N20018, N20019, Md_0 hM, hS.r0]
    refine Ev_ite (fun h8 => ?_) (fun h8 => Ev_some (.inr ⟨fun u => h8 u.2, rfl⟩))
    rw [r_placeOf nn]
    simp only [ob]
    generalize 710 + 200 * n = l at *
    generalize 1110 + 32 * k = z at *
    refine Ev_bind (r_survey hM hG hDt hD) (fun μ1 ⟨f1, H1⟩ => ?_)
    have M1 := f1.md hM (by decide)
    have f2 : Fr [20006, 20007, 20008] [14, 24] μ (mst μ1 20000 24 (-1)) := (f1.mo (by decide) (by decide)).tr (Fr.fld rfl (by decide))
    have f12 : Fr [20012] [24] μ1 (mst μ1 20000 24 (-1)) := Fr.fld rfl (by decide)
    try simp (disch := omega) only [w32_eq, w64_eq, chk_T, chk_t, lt, lm, ob, Int.add_zero, Int.zero_add, true_and, and_true, if_true, if_false, ]
    refine Ev_bind (Ev_lop (P := fun μ' => DB (fun x => ∃ p, Pl (lg b n) p ∧ Cd (lg b n) (ls b k) p x) (μ' 20000 24)) (fun t => (0 ≤ t.1 ∧ t.1 ≤ np (lg b n)) ∧ Fr [20012] [24] μ1 t.2 ∧ DB (fun x => ∃ p, (0 ≤ p ∧ p < t.1) ∧ Cd (lg b n) (ls b k) p x) (t.2 20000 24)) (fun t => (np (lg b n) - t.1).toNat) ⟨(by first | omega | (dsimp only; omega) | (dsimp only)), f12, ?_⟩ (by unfold FU; dsimp only; omega) ?_) (fun r hr => Ev_some (.inl ⟨⟨h, h8⟩, hr⟩))
    · dsimp only; rw [mst_s]
      exact .inl ⟨rfl, fun x _ _ ⟨p, hp, _⟩ => by omega⟩
    · rintro ⟨v5, μ3⟩ ⟨k1, f3, d3⟩
      dsimp only at k1 f3 d3 ⊢
      have M3 := f3.md M1 (by decide)
      have G3 := (hG.fr f1 (by decide)).fr f3 (by decide); have S3 := (hS.fr f1 (by decide)).fr f3 (by decide)
      unfold sX11_doubt_52
      dsimp only
      simp (disch := omega) only [w32_eq, w64_eq, chk_T, chk_t, lt, lm, ob, Int.add_zero, Int.zero_add, true_and, and_true, if_true, if_false, K20000, K20001, K20002, K20003, K20004, K20005, K20006, K20007, K20008, K20009, K20010, K20011, K20012, K20013, K20014, K20015, K20016, K20017, K20018, K20019, N20001, N20002, N20003, N20004, N20005, N20006, N20007, N20008, N20009, N20010, N20011, N20012, N20013, N20014, N20015, N20016, N20017, N20018, N20019, r_placesOf M3 G3 hD]
      refine Ev_ite (fun w => Ev_out ?_) (fun w => ?_)
      · exact DB_c d3 (fun x _ _ => ⟨fun ⟨p, hp, q⟩ => ⟨p, ⟨hp.1, by omega⟩, q⟩, fun ⟨p, hp, q⟩ => ⟨p, ⟨hp.1, by have := hp.2; omega⟩, q⟩⟩)
      have hp : Pl (lg b n) v5 := ⟨k1.1, by omega⟩
      have bp := Pl.i hD hp; have hbb := hN_b hD hp
      have H3 := (H1 v5 hp).fr f3 (by decide) (by decide)
      refine Ev_bind (Ev_lop (P := fun μ' => Fr [20012] [24] μ3 μ' ∧ DB (fun x => (∃ p, (0 ≤ p ∧ p < v5) ∧ Cd (lg b n) (ls b k) p x) ∨ Cd (lg b n) (ls b k) v5 x) (μ' 20000 24)) (fun t => (0 ≤ t.1 ∧ t.1 ≤ hN (lg b n) v5) ∧ Fr [20012] [24] μ3 t.2 ∧ DB (fun x => (∃ p, (0 ≤ p ∧ p < v5) ∧ Cd (lg b n) (ls b k) p x) ∨ (cb (lg b n) (ls b k) v5 ∧ ∃ st y, (0 ≤ st ∧ st < t.1) ∧ (ls b k 5 ≤ y ∧ y ≤ ls b k 6) ∧ En (lg b n) (ls b k) v5 st y x)) (t.2 20000 24)) (fun t => (hN (lg b n) v5 - t.1).toNat) ⟨(by first | omega | (dsimp only; omega) | (dsimp only)), Fr.rf, DB_c d3 (fun x _ _ => ⟨.inl, fun q => by rcases q with q | ⟨_, st, y, q, _⟩; exact q; dsimp only at q; omega⟩)⟩ (by unfold FU; dsimp only; omega) ?_) ?_
      · rintro ⟨v6, μ4⟩ ⟨a1, f4, d4⟩
        dsimp only at a1 f4 d4 ⊢
        have M4 := f4.md M3 (by decide)
        have G4 := G3.fr f4 (by decide); have S4 := S3.fr f4 (by decide)
        have H4 := H3.fr f4 (by decide) (by decide)
        unfold sX11_doubt_65
        dsimp only
        simp (disch := omega) only [w32_eq, w64_eq, chk_T, chk_t, lt, lm, ob, Int.add_zero, Int.zero_add, true_and, and_true, if_true, if_false, K20000, K20001, K20002, K20003, K20004, K20005, K20006, K20007, K20008, K20009, K20010, K20011, K20012, K20013, K20014, K20015, K20016, K20017, K20018, K20019, N20001, N20002, N20003, N20004, N20005, N20006, N20007, N20008, N20009, N20010, N20011, N20012, N20013, N20014, N20015, N20016, N20017, N20018, N20019, Md_16 M4, H4.1]
        refine Ev_ite (fun w => Ev_out ⟨f4, ?_⟩) (fun w => ?_)
        · have e : v6 = hN (lg b n) v5 := by omega
          rw [e] at d4; exact d4
        rw [r_canBe M4 S4 hO hD hp H4]
        simp only [ob, bi_if]
        by_cases hc : cb (lg b n) (ls b k) v5
        · rw [sel_t hc]
          refine Ev_ite (fun w0 => Ev_out ⟨f4, ?_⟩) (fun w0 => ?_)
          · rw [w0] at d4 ⊢
            refine DB_0 d4 (fun x _ _ q => ?_)
            rcases q with q | ⟨q, st, y, u, u2⟩
            · exact .inl q
            · exact .inr ⟨q, st, y, by omega, u2⟩
          refine Ev_bind (r_doubts M4 G4 S4 hO hD hp H4 hc (st := v6) (by omega) h8 d4) (fun μ5 ⟨f5, d5⟩ => ?_)
          try simp (disch := omega) only [w32_eq, w64_eq, chk_T, chk_t, lt, lm, ob, Int.add_zero, Int.zero_add, true_and, and_true, if_true, if_false, ]
          refine Ev_in ⟨(by first | omega | (dsimp only; omega) | (dsimp only)), f4.tr f5, DB_c d5 (fun x _ _ => ?_)⟩ (by first | omega | (dsimp only; omega) | (dsimp only))
          dsimp only
          constructor
          · intro q; rcases q with (q | ⟨q, st, y, u, u2⟩) | ⟨y, u, u2⟩
            · exact .inl q
            · exact .inr ⟨q, st, y, by omega, u2⟩
            · exact .inr ⟨hc, v6, y, by omega, u, u2⟩
          · intro q; rcases q with q | ⟨q, st, y, u, u2, u3⟩
            · exact .inl (.inl q)
            · by_cases e : st = v6
              · subst e; exact .inr ⟨y, u2, u3⟩
              · exact .inl (.inr ⟨q, st, y, by omega, u2, u3⟩)
        · rw [sel_f hc]
          refine Ev_out ⟨f4, DB_c d4 (fun x _ _ => ⟨fun q => ?_, fun q => ?_⟩)⟩
          · rcases q with q | q
            · exact .inl q
            · exact absurd q.1 hc
          · rcases q with q | q
            · exact .inl q
            · exact absurd q.1 hc
      · intro μ4 ⟨f4, d4⟩
        try simp (disch := omega) only [w32_eq, w64_eq, chk_T, chk_t, lt, lm, ob, Int.add_zero, Int.zero_add, true_and, and_true, if_true, if_false, ]
        refine Ev_in ⟨(by first | omega | (dsimp only; omega) | (dsimp only)), f3.tr f4, DB_c d4 (fun x _ _ => ?_)⟩ (by first | omega | (dsimp only; omega) | (dsimp only))
        dsimp only
        constructor
        · intro q; rcases q with ⟨p, hp, q⟩ | q
          · exact ⟨p, by omega, q⟩
          · exact ⟨v5, by omega, q⟩
        · rintro ⟨p, hp, q⟩
          by_cases e : p = v5
          · subst e; exact .inr q
          · exact .inl ⟨p, by omega, q⟩
  · rw [sel_f h]; exact Ev_some (.inr ⟨fun u => h u.1, rfl⟩)
end
