/-! ===== image, again ===== -/
section
variable {μ μ' μ1 μ2 : Mm} {b b' : Int → Int} {vb vb' n k c t s L v bb : Int} {g g' : Int → Int} {ok : Prop}
theorem ImI.e1 (h : ImI μ b k) (hk : 0 ≤ k ∧ k < 3) (e1 : μ' 101 k = μ 101 k) (e2 : μ' 20002 k = μ 20002 k) (e4 : ∀ x, 1100 + 100 * k ≤ x → x < 1200 + 100 * k → μ' x = μ x) (e5 : ∀ x, 1240 * (k + 1) ≤ x → x < 1240 * (k + 2) → b' x = b x) : ImI μ' b' k := by
  unfold ImI
  rw [e1, e2]
  rcases h with ⟨a, d⟩ | ⟨a, d, e⟩
  · exact .inl ⟨a, d⟩
  · refine .inr ⟨a, d, ?_⟩
    have f : Fw (fun x => x < 1100 + 100 * k ∨ 1200 + 100 * k ≤ x) μ μ' := fun x hx => e4 x (by omega) (by omega)
    exact St_c (b := fun i => b (1240 * (k + 1) + i)) (fun x x0 x1 => e5 _ (by omega) (by omega)) (e.fw f (fun x a b => by omega))
theorem Bd_img (hk : k = 0 ∨ k = 1 ∨ k = 2) (h : μ 101 k = 0) (h' : μ' 101 k ≠ 0) (ho : ∀ j, j ≠ k → μ' 101 j = μ 101 j) (h2 : μ' 102 = μ 102) (h3 : μ' 10002 = μ 10002) (h4 : μ' 12002 = μ 12002) : Bd μ' = Bd μ - 8000 := by
  have s0 : ∀ n, n = 0 ∨ n = 1 → sb μ' n = sb μ n := by
    intro n hn
    unfold sb; rw [h2]
    rcases hn with e | e
    · subst e; rw [show (10002 : Int) + 2000 * 0 = 10002 by decide, h3]
    · subst e; rw [show (10002 : Int) + 2000 * 1 = 12002 by decide, h4]
  have i0 : ∀ j, j ≠ k → ib μ' j = ib μ j := fun j hj => by unfold ib; rw [ho j hj]
  have i1 : ib μ k = 20 := by unfold ib; rw [if_pos h]
  have i2 : ib μ' k = 0 := by unfold ib; rw [if_neg h']
  unfold Bd
  rw [s0 0 (.inl rfl), s0 1 (.inr rfl)]
  rcases hk with e | e | e
  · subst e; rw [i1, i2, i0 1 (by decide), i0 2 (by decide)]; omega
  · subst e; rw [i1, i2, i0 0 (by decide), i0 2 (by decide)]; omega
  · subst e; rw [i1, i2, i0 0 (by decide), i0 1 (by decide)]; omega
theorem c_image (hW : Nw μ b) (hZ : IZ μ) (hI : ImI μ b' k) (hk : 0 ≤ k ∧ k < 3) : Ec (fX10_image 100 k μ) (Bd μ) (fun r b0 => b0 = Bd r.2 ∧ r.1 = 1 ∧ Fw (fun x => x = 0 ∨ x = 101 ∨ 1100 + 100 * k ≤ x ∧ x < 1200 + 100 * k) μ r.2 ∧ (∀ j, j < 1100 + 100 * k ∨ 1200 + 100 * k ≤ j → r.2 0 j = μ 0 j) ∧ r.2 101 k = 1100 + 100 * k ∧ (∀ j, j ≠ k → r.2 101 j = μ 101 j) ∧ St r.2 (1100 + 100 * k) b) := by
  have hX := hW.1
  have hK : StK (1100 + 100 * k) := StK_c (by omega)
  unfold fX10_image
  rw [if_neg (by omega), if_pos (by omega)]
  simp (disch := omega) only [w32_eq, w64_eq, chk_T, chk_t, lt, lm, ob, Int.add_zero, Int.zero_add, true_and, and_true, if_true, if_false, K100, K101, K102, K103, K104, K200, K201, K230, K231, K232, K233, K234, K235, K236, K237, K250, K251, K252, K253, K254, K300, K301, K302, K303, K304, N101, N102, N103, N104, N201, N232, N233, N234, N235, N236, N237, N251, N252, N253, N254, N301, N302, N303, N304, X10F.f0 hX, X10F.f1 hX, X10F.f2 hX, X10F.f3 hX, X10F.f4 hX, X10F.f5 hX, X10F.f6 hX, X10F.f7 hX, X10F.f8 hX, X10F.f9 hX, X10F.f10 hX]
  by_cases z : μ 101 k = 0
  · rw [if_pos z]
    have zz := hZ k hk.1 hk.2 z
    have y0 := zz (1100 + 100 * k) (by omega) (by omega)
    simp (disch := omega) only [w32_eq, w64_eq, chk_T, chk_t, lt, lm, ob, Int.add_zero, Int.zero_add, true_and, and_true, if_true, if_false, hK.1, y0, ne_eq]
    have hz' : ∀ i, 1100 + 100 * k < i → i < 1100 + 100 * k + 100 → mnw μ (1100 + 100 * k) 0 i = 0 := by
      intro i i0 i1; rw [nw_z (by omega) (by omega)]; exact zz i (by omega) (by omega)
    refine Ec_pay (b1 := Bd μ - 10) ?_ (by omega) (by omega)
    refine Ec_bind (c_stInit (bb := Bd μ - 10) hK (by omega) hz' (fun i => nw_s)) ?_
    rintro μ3 b3 ⟨hb3, f3, F3, v3, t3, o3⟩ cc nn
    refine ⟨_, rfl, ?_⟩
    simp (disch := omega) only [w32_eq, w64_eq, chk_T, chk_t, lt, lm, ob, Int.add_zero, Int.zero_add, true_and, and_true, if_true, if_false, ]
    generalize hm : mst μ3 101 k (1100 + 100 * k) = μ4
    have fA : Fw (fun x => x = 0 ∨ x = 101 ∨ 1100 + 100 * k ≤ x ∧ x < 1200 + 100 * k) μ μ4 := by
      rw [← hm]
      exact ((Fw.nw (R := fun x => x = 0 ∨ x = 101 ∨ 1100 + 100 * k ≤ x ∧ x < 1200 + 100 * k) (Fw.rf (μ := μ)) (a := 1100 + 100 * k) (by omega) (by omega)).tr (f3.mo (fun x hx => by omega))).st (by omega)
    have e101 : μ4 101 k = 1100 + 100 * k := by rw [← hm, mst_s]
    have o101 : ∀ j, j ≠ k → μ4 101 j = μ 101 j := fun j hj => by rw [← hm, mst_j hj, f3 101 (by omega), nw_n (by omega) (by omega)]
    have z4 : ∀ j, j < 1100 + 100 * k ∨ 1200 + 100 * k ≤ j → μ4 0 j = μ 0 j := fun j hj => by
      rw [← hm, mst_n (by omega), o3 j (by omega), nw_z (by omega) (by omega)]
    have F4 : StF μ4 (1100 + 100 * k) := F3.fw (μ' := μ4) (R := fun x => x = 101) (by rw [← hm]; exact Fw.s0 rfl) (fun x a b => by omega)
    have X4 : X10F μ4 := by unfold X10F; rw [fA 100 (by omega)]; exact hX
    have S4 : St μ4 1000 b := hW.2.fw fA (fun x a b => by omega)
    unfold jX10_image_33
    simp (disch := omega) only [w32_eq, w64_eq, chk_T, chk_t, lt, lm, ob, Int.add_zero, Int.zero_add, true_and, and_true, if_true, if_false, K100, K101, K102, K103, K104, K200, K201, K230, K231, K232, K233, K234, K235, K236, K237, K250, K251, K252, K253, K254, K300, K301, K302, K303, K304, N101, N102, N103, N104, N201, N232, N233, N234, N235, N236, N237, N251, N252, N253, N254, N301, N302, N303, N304, X10F.f0 X4, X10F.f1 X4, X10F.f2 X4, X10F.f3 X4, X10F.f4 X4, X10F.f5 X4, X10F.f6 X4, X10F.f7 X4, X10F.f8 X4, X10F.f9 X4, X10F.f10 X4, e101, hK.1]
    refine Ec_bindE (c_take8 hK F4 S4 (by omega)) (fun μ5 ⟨f5, S5⟩ => ?_)
    have r101 : μ5 101 = μ4 101 := f5 101 (by omega)
    have hB : Bd μ5 = Bd μ - 8000 := Bd_img (k := k) (by omega) z (by rw [r101, e101]; omega) (fun j hj => by rw [r101]; exact o101 j hj) ((f5 102 (by omega)).trans (fA 102 (by omega))) ((f5 10002 (by omega)).trans (fA 10002 (by omega))) ((f5 12002 (by omega)).trans (fA 12002 (by omega)))
    refine ⟨_, 0, 0, Bd μ5, rfl, ⟨rfl, rfl, fA.tr (f5.mo (fun x hx => by omega)), fun j hj => ?_, by dsimp only; rw [r101]; exact e101, fun j hj => by dsimp only; rw [r101]; exact o101 j hj, S5⟩, by omega, by omega⟩
    dsimp only
    rw [f5 0 (by omega)]; exact z4 j hj
  · rw [if_neg z]
    rcases hI with ⟨a, _⟩ | ⟨a, _, S⟩
    · exact absurd a z
    · unfold jX10_image_33
      simp (disch := omega) only [w32_eq, w64_eq, chk_T, chk_t, lt, lm, ob, Int.add_zero, Int.zero_add, true_and, and_true, if_true, if_false, K100, K101, K102, K103, K104, K200, K201, K230, K231, K232, K233, K234, K235, K236, K237, K250, K251, K252, K253, K254, K300, K301, K302, K303, K304, N101, N102, N103, N104, N201, N232, N233, N234, N235, N236, N237, N251, N252, N253, N254, N301, N302, N303, N304, X10F.f0 hX, X10F.f1 hX, X10F.f2 hX, X10F.f3 hX, X10F.f4 hX, X10F.f5 hX, X10F.f6 hX, X10F.f7 hX, X10F.f8 hX, X10F.f9 hX, X10F.f10 hX, a, hK.1]
      refine Ec_bindE (c_take8 hK S.2.1 hW.2 (by omega)) (fun μ5 ⟨f5, S5⟩ => ?_)
      refine Ec_some ⟨(Bd_e (f5 101 (by omega)) (f5 102 (by omega)) (f5 10002 (by omega)) (f5 12002 (by omega))).symm, rfl, f5.mo (fun x hx => by omega), fun j hj => by dsimp only; rw [f5 0 (by omega)], by dsimp only; rw [f5 101 (by omega)]; exact a, fun j hj => by dsimp only; rw [f5 101 (by omega)], S5⟩
theorem r_image (hM : Md μ) (hk : 0 ≤ k ∧ k < 3) : Ev (fX11_image 20000 k μ) (fun r => r.1 = 1 ∧ Fr [20001, 20002] [] μ r.2 ∧ (r.2 20002 k = 1 ∧ ∀ j, j ≠ k → r.2 20002 j = μ 20002 j) ∧ (∀ i, 0 ≤ i → i < 1240 → r.2 20001 (1240 * (k + 1) + i) = μ 20001 i) ∧ ∀ x, x < 1240 * (k + 1) ∨ 1240 * (k + 2) ≤ x → r.2 20001 x = μ 20001 x) := by
  unfold fX11_image
  rw [isIn_t hk.1 (by omega), if_neg (by decide)]
  simp (disch := omega) only [w32_eq, w64_eq, chk_T, chk_t, lt, lm, ob, Int.add_zero, Int.zero_add, true_and, and_true, if_true, if_false, K20000, K20001, K20002, K20003, K20004, K20005, K20006, K20007, K20008, K20009, K20010, K20011, K20012, K20013, K20014, K20015, K20016, K20017, K20018, K20019, N20001, N20002, N20003, N20004, N20005, N20006, N20007, N20008, N20009, N20010, N20011, N20012, N20013, N20014, N20015, N20016, N20017, N20018, N20019, Md_1 hM]
  have f0 : Fr [20001, 20002] [] μ (mst μ 20002 k 1) := Fr.row rfl rfl (by decide) (by decide)
  have M0 : Md (mst μ 20002 k 1) := f0.md hM (by decide)
  have e1 : mst μ 20002 k 1 20001 = μ 20001 := mst_n (by decide)
  have e2 : mst μ 20002 k 1 20002 k = 1 := mst_s
  have e3 : ∀ j, j ≠ k → mst μ 20002 k 1 20002 j = μ 20002 j := fun j hj => mst_j hj
  generalize mst μ 20002 k 1 = ν at *
  refine Ev_bind (Ev_lopF (pj := pjX11_image_20) (P := fun μ' => Fr [20001] [] ν μ' ∧ (∀ i, 0 ≤ i → i < 1240 → μ' 20001 (1240 * (k + 1) + i) = μ 20001 i) ∧ ∀ x, x < 1240 * (k + 1) ∨ 1240 * (k + 2) ≤ x → μ' 20001 x = μ 20001 x) (fun s t h hM => frsX11_image_20 h hM) (by decide) M0 (fun t => (0 ≤ t.1 ∧ t.1 ≤ 1240) ∧ (∀ i, 0 ≤ i → i < t.1 → t.2 20001 (1240 * (k + 1) + i) = μ 20001 i) ∧ ∀ x, x < 1240 * (k + 1) ∨ 1240 * (k + 1) + t.1 ≤ x → t.2 20001 x = μ 20001 x) (fun t => (1240 - t.1).toNat) ⟨(by first | omega | (dsimp only; omega) | (dsimp only)), fun i i0 i1 => by dsimp only at i1; omega, fun x _ => by dsimp only; rw [e1]⟩ (by unfold FU; dsimp only; omega) ?_) ?_
  · rintro ⟨v2, μ1⟩ M1 F1 ⟨q1, q2, q3⟩
    replace M1 : Md μ1 := M1
    dsimp only at q1 q2 q3 ⊢
    unfold sX11_image_20
    dsimp only
    refine Ev_ite (fun w => Ev_out (fun f => ⟨f, fun i i0 i1 => q2 i i0 (by omega), fun x hx => q3 x (by omega)⟩)) (fun w => ?_)
    simp (disch := omega) only [w32_eq, w64_eq, chk_T, chk_t, lt, lm, ob, Int.add_zero, Int.zero_add, true_and, and_true, if_true, if_false, K20000, K20001, K20002, K20003, K20004, K20005, K20006, K20007, K20008, K20009, K20010, K20011, K20012, K20013, K20014, K20015, K20016, K20017, K20018, K20019, N20001, N20002, N20003, N20004, N20005, N20006, N20007, N20008, N20009, N20010, N20011, N20012, N20013, N20014, N20015, N20016, N20017, N20018, N20019, Md_0 M1]
    refine Ev_in ⟨(by first | omega | (dsimp only; omega) | (dsimp only)), fun i i0 i1 => ?_, fun x hx => ?_⟩ (by first | omega | (dsimp only; omega) | (dsimp only))
    · dsimp only at i1 ⊢
      by_cases e : i = v2
      · subst e; rw [mst_s]; exact q3 i (by omega)
      · rw [mst_j (by omega)]; exact q2 i i0 (by omega)
    · dsimp only at hx ⊢
      rw [mst_j (by omega)]; exact q3 x (by omega)
  · rintro μ3 ⟨f3, h3, o3⟩
    have r2 : μ3 20002 = ν 20002 := f3.1 20002 (by decide) (by decide)
    exact Ev_some ⟨rfl, f0.tr (f3.mo (by decide) (by decide)), ⟨by dsimp only; rw [r2]; exact e2, fun j hj => by dsimp only; rw [r2]; exact e3 j hj⟩, h3, o3⟩
theorem w_image (h : LI μ vb) (hv : vb ≤ vb') (k : Int) : Ec (fX10_image 100 k μ) (Bd μ) (fun r b0 => Wd vb' (fX11_image 20000 k) r b0) := by
  by_cases hk : 0 ≤ k ∧ k < 3
  · obtain ⟨hN, hC, hI, hR, hM, h0⟩ := h
    refine Ec_mono (c_image hN hC.1.2.2.2.2.2 (hI k hk.1 hk.2) hk) ?_
    rintro ⟨r, μ1⟩ b0 ⟨hb, hr, f1, z1, e1, o1, S1⟩
    dsimp only at hb hr f1 z1 e1 o1 S1
    unfold Wd
    dsimp only
    have M1 : Md μ1 := hM.1.w (f1 20000 (by omega))
    have b1 : μ1 20001 = μ 20001 := f1 20001 (by omega)
    refine Ev_mono (r_image M1 hk) ?_
    rintro ⟨r', μ2⟩ ⟨hr', f2, ⟨e2, o2⟩, c2, d2⟩
    dsimp only at hr' f2 e2 o2 c2 d2 ⊢
    rw [b1] at c2 d2
    have lo := fr_lo f2 (by decide)
    have ff : Fw (fun x => 20000 ≤ x) μ1 μ2 := fun x hx => lo x (by omega)
    have f12 : Fw (fun x => x = 0 ∨ x = 101 ∨ 1100 + 100 * k ≤ x ∧ x < 1200 + 100 * k ∨ 20000 ≤ x) μ μ2 := (f1.mo (fun x hx => by omega)).tr (ff.mo (fun x hx => by omega))
    have g0 : ∀ x, 0 ≤ x → x < 1240 → μ2 20001 x = μ 20001 x := fun x x0 x1 => d2 x (by omega)
    have e20002 : μ1 20002 = μ 20002 := f1 20002 (by omega)
    refine ⟨by rw [hr, hr'], ⟨⟨?_, ?_⟩, ?_, fun k' k0 k1 => ?_, hR.fw f12 (fun x a b => by omega), ⟨f2.md M1 (by decide), (hM.2.w (f1 20000 (by omega)) (f1 20003 (by omega)) (f1 20004 (by omega))).fr f2 (by decide) (by decide) (by decide)⟩, by omega⟩, ?_⟩
    · unfold X10F; rw [f12 100 (by omega)]; exact hN.1
    · exact St_c g0 (hN.2.fw f12 (fun x a b => by omega))
    · refine Ca_v hv (Ca_c (fun n n0 n1 => lg_c g0 ⟨n0, n1⟩) (g0 0 (by omega) (by omega)) ?_)
      obtain ⟨⟨a1, a2, a3, a4, a5, a6⟩, hs⟩ := hC
      refine ⟨⟨a1.fw f12 (fun x a b => by omega), a2.fw f12 (by omega), ?_, ?_, ?_, fun k' k0 k1 hk' x x0 x1 => ?_⟩, fun n n0 n1 => (hs n n0 n1).fw f12 (by rw [f12 102 (by omega)]) (fun x a b => by omega) (fun x a b => by rw [lo 0 (by omega)]; exact z1 x (by omega))⟩
      · unfold FtF; rw [f12 250 (by omega)]; exact a3
      · unfold WkF; rw [f12 300 (by omega)]; exact a4
      · unfold SkF; rw [f12 290 (by omega)]; exact a5
      · rw [lo 101 (by omega)] at hk'
        have ne : k' ≠ k := fun e => by subst e; rw [e1] at hk'; omega
        rw [lo 0 (by omega), z1 x (by omega)]
        rw [o1 k' ne] at hk'
        exact a6 k' k0 k1 hk' x x0 x1
    · by_cases e : k' = k
      · subst e
        refine .inr ⟨by rw [lo 101 (by omega)]; exact e1, e2, ?_⟩
        exact St_c (b := μ 20001) (fun x x0 x1 => c2 x x0 x1) (S1.fw ff (fun x a b => by omega))
      · refine (hI k' k0 k1).e1 ⟨k0, k1⟩ (by rw [lo 101 (by omega)]; exact o1 k' e) (by rw [o2 k' e, e20002]) (fun x x0 x1 => f12 x (by omega)) (fun x x0 x1 => d2 x (by omega))
    · rw [Bd_go lo]; exact hb
  · unfold fX10_image
    have : Wd vb' (fX11_image 20000 k) (0, μ) (Bd μ) := by
      unfold Wd fX11_image
      dsimp only
      rw [isIn_f (by omega), if_pos rfl]
      exact Ev_some ⟨rfl, LI_v h hv, rfl⟩
    refine Ec_ite (fun z => Ec_some this) (fun z => ?_)
    rw [if_neg (by omega)]; exact Ec_some this
theorem r_again (hM : Md μ) (hk : 0 ≤ k ∧ k < 3) (hi : μ 20002 k = 1) : Ev (fX11_again 20000 k μ) (fun r => r.1 = 1 ∧ Fr [20001] [] μ r.2 ∧ (∀ i, 0 ≤ i → i < 1240 → r.2 20001 i = μ 20001 (1240 * (k + 1) + i)) ∧ ∀ x, 1240 ≤ x → r.2 20001 x = μ 20001 x) := by
  unfold fX11_again
  rw [isIn_t hk.1 (by omega), if_neg (by decide)]
  simp (disch := omega) only [w32_eq, w64_eq, chk_T, chk_t, lt, lm, ob, Int.add_zero, Int.zero_add, true_and, and_true, if_true, if_false, K20000, K20001, K20002, K20003, K20004, K20005, K20006, K20007, K20008, K20009, K20010, K20011, K20012, K20013, K20014, K20015, K20016, K20017, K20018, K20019, N20001, N20002, N20003, N20004, N20005, N20006, N20007, N20008, N20009, N20010, N20011, N20012, N20013, N20014, N20015, N20016, N20017, N20018, N20019, Md_1 hM, hi]
  rw [if_neg (by decide)]
  refine Ev_bind (Ev_lopF (pj := pjX11_again_22) (P := fun μ' => Fr [20001] [] μ μ' ∧ (∀ i, 0 ≤ i → i < 1240 → μ' 20001 i = μ 20001 (1240 * (k + 1) + i)) ∧ ∀ x, 1240 ≤ x → μ' 20001 x = μ 20001 x) (fun s t h hM => frsX11_again_22 h hM) (by decide) hM (fun t => (0 ≤ t.1 ∧ t.1 ≤ 1240) ∧ (∀ i, 0 ≤ i → i < t.1 → t.2 20001 i = μ 20001 (1240 * (k + 1) + i)) ∧ ∀ x, t.1 ≤ x → t.2 20001 x = μ 20001 x) (fun t => (1240 - t.1).toNat) ⟨(by first | omega | (dsimp only; omega) | (dsimp only)), fun i i0 i1 => by dsimp only at i1; omega, fun x _ => rfl⟩ (by unfold FU; dsimp only; omega) ?_) ?_
  · rintro ⟨v2, μ1⟩ M1 F1 ⟨q1, q2, q3⟩
    replace M1 : Md μ1 := M1
    dsimp only at q1 q2 q3 ⊢
    unfold sX11_again_22
    dsimp only
    refine Ev_ite (fun w => Ev_out (fun f => ⟨f, fun i i0 i1 => q2 i i0 (by omega), fun x hx => q3 x (by omega)⟩)) (fun w => ?_)
    simp (disch := omega) only [w32_eq, w64_eq, chk_T, chk_t, lt, lm, ob, Int.add_zero, Int.zero_add, true_and, and_true, if_true, if_false, K20000, K20001, K20002, K20003, K20004, K20005, K20006, K20007, K20008, K20009, K20010, K20011, K20012, K20013, K20014, K20015, K20016, K20017, K20018, K20019, N20001, N20002, N20003, N20004, N20005, N20006, N20007, N20008, N20009, N20010, N20011, N20012, N20013, N20014, N20015, N20016, N20017, N20018, N20019, Md_0 M1]
    refine Ev_in ⟨(by first | omega | (dsimp only; omega) | (dsimp only)), fun i i0 i1 => ?_, fun x hx => ?_⟩ (by first | omega | (dsimp only; omega) | (dsimp only))
    · dsimp only at i1 ⊢
      by_cases e : i = v2
      · subst e; rw [mst_s]; exact q3 _ (by omega)
      · rw [mst_j e]; exact q2 i i0 (by omega)
    · dsimp only at hx ⊢
      rw [mst_j (by omega)]; exact q3 x (by omega)
  · rintro μ3 ⟨f3, h3, o3⟩
    exact Ev_some ⟨rfl, f3, h3, o3⟩
theorem w_again (h : LI μ vb) (hv : vb + 1 ≤ vb') (hvb : vb < 1000000000) (k : Int) : Ev (fX10_again 100 k μ) (fun r => Wd vb' (fX11_again 20000 k) r (Bd μ)) := by
  have hX := h.nw.1
  have v0 := h.v0
  have no : (¬(0 ≤ k ∧ k < 3) ∨ (0 ≤ k ∧ k < 3) ∧ μ 20002 k = 0) → Wd vb' (fX11_again 20000 k) (0, μ) (Bd μ) := by
    intro z
    unfold Wd fX11_again
    dsimp only
    rcases z with z | ⟨z1, z2⟩
    · rw [isIn_f (by omega), if_pos rfl]
      exact Ev_some ⟨rfl, LI_v h (by omega), rfl⟩
    · rw [isIn_t z1.1 (by omega), if_neg (by decide)]
      simp (disch := omega) only [w32_eq, w64_eq, chk_T, chk_t, lt, lm, ob, Int.add_zero, Int.zero_add, true_and, and_true, if_true, if_false, K20000, K20001, K20002, K20003, K20004, K20005, K20006, K20007, K20008, K20009, K20010, K20011, K20012, K20013, K20014, K20015, K20016, K20017, K20018, K20019, N20001, N20002, N20003, N20004, N20005, N20006, N20007, N20008, N20009, N20010, N20011, N20012, N20013, N20014, N20015, N20016, N20017, N20018, N20019, Md_1 h.md, z2]
      exact Ev_some ⟨rfl, LI_v h (by omega), rfl⟩
  unfold fX10_again
  refine Ev_ite (fun w => Ev_some (no (.inl (by omega)))) (fun w => ?_)
  refine Ev_ite (fun w2 => Ev_some (no (.inl (by omega)))) (fun w2 => ?_)
  have hk : 0 ≤ k ∧ k < 3 := by omega
  simp (disch := omega) only [w32_eq, w64_eq, chk_T, chk_t, lt, lm, ob, Int.add_zero, Int.zero_add, true_and, and_true, if_true, if_false, K100, K101, K102, K103, K104, K200, K201, K230, K231, K232, K233, K234, K235, K236, K237, K250, K251, K252, K253, K254, K300, K301, K302, K303, K304, N101, N102, N103, N104, N201, N232, N233, N234, N235, N236, N237, N251, N252, N253, N254, N301, N302, N303, N304, X10F.f0 hX, X10F.f1 hX, X10F.f2 hX, X10F.f3 hX, X10F.f4 hX, X10F.f5 hX, X10F.f6 hX, X10F.f7 hX, X10F.f8 hX, X10F.f9 hX, X10F.f10 hX]
  rcases h.2.2.1 k hk.1 hk.2 with ⟨a, d⟩ | ⟨a, d, S⟩
  · rw [if_pos a]; exact Ev_some (no (.inr ⟨hk, d⟩))
  · rw [a, if_neg (by omega)]
    simp (disch := omega) only [w32_eq, w64_eq, chk_T, chk_t, lt, lm, ob, Int.add_zero, Int.zero_add, true_and, and_true, if_true, if_false, K1000]
    refine Ev_bind (c_take8 (StK_c (.inl rfl)) h.nw.2.2.1 S (by omega)) (fun μ1 ⟨f1, S1⟩ => ?_)
    have fn : Fw nR0 μ μ1 := f1.mo (fun x hx => by unfold nR0; omega)
    have C1 := h.ca.n0 fn
    have X1 : X10F μ1 := by unfold X10F; rw [f1 100 (by omega)]; exact hX
    refine Ev_bind (Ev_lop (P := fun μ' => Fw (fun x => x = 10000 ∨ x = 12000) μ1 μ' ∧ ∀ n, 0 ≤ n → n < 2 → ∀ g' ok', SI μ' n g' ok' (vb + 1)) (fun t => (0 ≤ t.1 ∧ t.1 ≤ 2) ∧ Fw (fun x => x = 10000 ∨ x = 12000) μ1 t.2 ∧ (∀ n, 0 ≤ n → n < t.1 → ∀ g' ok', SI t.2 n g' ok' (vb + 1)) ∧ ∀ n, t.1 ≤ n → n < 2 → SI t.2 n (lg (μ 20001) n) (n < μ 20001 0) vb) (fun t => (2 - t.1).toNat) ⟨(by first | omega | (dsimp only; omega) | (dsimp only)), Fw.rf, fun n n0 n1 => by dsimp only at n1; omega, fun n n0 n1 => C1.2 n n0 n1⟩ (by unfold FU; dsimp only; omega) ?_) ?_
    · rintro ⟨v2, μ3⟩ ⟨q1, q2, q3, q4⟩
      dsimp only at q1 q2 q3 q4 ⊢
      unfold sX10_again_35
      dsimp only
      refine Ev_ite (fun w => Ev_out ⟨q2, fun n n0 n1 => q3 n n0 (by omega)⟩) (fun w => ?_)
      have X3 : X10F μ3 := by unfold X10F; rw [q2 100 (by omega)]; exact X1
      simp (disch := omega) only [w32_eq, w64_eq, chk_T, chk_t, lt, lm, ob, Int.add_zero, Int.zero_add, true_and, and_true, if_true, if_false, K100, K101, K102, K103, K104, K200, K201, K230, K231, K232, K233, K234, K235, K236, K237, K250, K251, K252, K253, K254, K300, K301, K302, K303, K304, N101, N102, N103, N104, N201, N232, N233, N234, N235, N236, N237, N251, N252, N253, N254, N301, N302, N303, N304, ]
      refine Ev_bind (c_forget X3 (n := v2) (by omega) (q4 v2 (Int.le_refl _) (by omega)) hvb) (fun μ5 ⟨f5, S5⟩ => ?_)
      try simp (disch := omega) only [w32_eq, w64_eq, chk_T, chk_t, lt, lm, ob, Int.add_zero, Int.zero_add, true_and, and_true, if_true, if_false, ]
      have f5' : Fw (fun x => x = 10000 ∨ x = 12000) μ3 μ5 := f5.mo (fun x hx => by omega)
      refine Ev_in ⟨(by first | omega | (dsimp only; omega) | (dsimp only)), q2.tr f5', fun n n0 n1 g' ok' => ?_, fun n n0 n1 => ?_⟩ (by first | omega | (dsimp only; omega) | (dsimp only))
      · dsimp only at n1 ⊢
        by_cases e : n = v2
        · subst e; exact S5 g' ok'
        · exact (q3 n n0 (by omega) g' ok').fw f5 (by rw [f5 102 (by omega)]) (fun x a b => by omega) (fun x a b => by rw [f5 0 (by omega)])
      · dsimp only at n0 ⊢
        exact (q4 n (by omega) n1).fw f5 (by rw [f5 102 (by omega)]) (fun x a b => by omega) (fun x a b => by rw [f5 0 (by omega)])
    · rintro μ3 ⟨f3, S3⟩
      refine Ev_some ?_
      have f13 : Fw (fun x => 1000 ≤ x ∧ x < 1100 ∨ x = 10000 ∨ x = 12000) μ μ3 := (f1.mo (fun x hx => by omega)).tr (f3.mo (fun x hx => by omega))
      unfold Wd
      dsimp only
      have M3 : Md μ3 := h.md.w (f13 20000 (by omega))
      have b3 : μ3 20001 = μ 20001 := f13 20001 (by omega)
      have i3 : μ3 20002 = μ 20002 := f13 20002 (by omega)
      refine Ev_mono (r_again M3 hk (by rw [i3]; exact d)) ?_
      rintro ⟨r', μ4⟩ ⟨hr', f4, c4, d4⟩
      dsimp only at hr' f4 c4 d4 ⊢
      rw [b3] at c4 d4
      have lo := fr_lo f4 (by decide)
      refine ⟨hr'.symm, LI_go h (f13.mo (fun x hx => by omega)) (h.2.2.2.1.fw f13 (fun x a b => by omega)) ⟨?_, ?_⟩ ?_ lo (fun x x0 x1 => d4 x x0) ?_ (f4.md M3 (by decide)) ?_ (by omega), ?_⟩
      · unfold X10F; rw [f13 100 (by omega)]; exact hX
      · exact St_c (b := fun i => μ 20001 (1240 * (k + 1) + i)) c4 (S1.fw f3 (fun x a b => by omega))
      · refine Ca_v hv ⟨C1.1.fw f3 (by omega) (by omega) (by omega) (by omega) (by omega) (f3 101 (by omega)) (fun x a b => by rw [f3 0 (by omega)]), fun n n0 n1 => S3 n n0 n1 _ _⟩
      · exact (f4.1 20002 (by decide) (by decide)).trans i3
      · exact (h.dt.w (f13 20000 (by omega)) (f13 20003 (by omega)) (f13 20004 (by omega))).fr f4 (by decide) (by decide) (by decide)
      · rw [Bd_go lo]; exact (Bd_e (f13 101 (by omega)) (f13 102 (by omega)) (f13 10002 (by omega)) (f13 12002 (by omega))).symm
end
