/-! ===== a land is another; mend ===== -/
/-- the row after land k is g -/
def Ul (b b' : Int → Int) (k : Int) (g : Int → Int) : Prop := (∀ x, 0 ≤ x → x < 1240 → x ≠ 0 → x < 710 + 200 * k ∨ 910 + 200 * k ≤ x → b' x = b x) ∧ b' 0 = (if b 0 ≤ k then k + 1 else b 0) ∧ ∀ i, 0 ≤ i → i < 200 → b' (710 + 200 * k + i) = g i
section
variable {μ μ' μ1 μ2 : Mm} {b b' : Int → Int} {vb vb' n k c L v : Int} {g g' : Int → Int} {ok : Prop}
theorem La_e (hO : LdOk g) (h : ∀ i, 0 ≤ i → i < 200 → g' i = g i) (hS : La μ c g) : La μ c g' := by
  have o := hO.t
  obtain ⟨x, y, z, w, u⟩ := hS
  unfold La
  rw [h 0 (by omega) (by omega), h 1 (by omega) (by omega), h 2 (by omega) (by omega), h 3 (by omega) (by omega), h 4 (by omega) (by omega), h 5 (by omega) (by omega)]
  refine ⟨x, y, z, fun p p0 p1 => ?_, fun i i0 i1 => ?_⟩
  · rw [h _ (by omega) (by omega)]; exact w p p0 p1
  · rw [h _ (by omega) (by omega), h _ (by omega) (by omega), h _ (by omega) (by omega), h _ (by omega) (by omega)]; exact u i i0 i1
theorem LdOk_e (hO : LdOk g) (h : ∀ i, 0 ≤ i → i < 200 → g' i = g i) : LdOk g' := by
  have o := hO.t
  obtain ⟨a0, a1, a2, a3, a4, a5, a6, a7⟩ := hO
  unfold LdOk
  rw [h 0 (by omega) (by omega), h 1 (by omega) (by omega), h 2 (by omega) (by omega), h 3 (by omega) (by omega), h 4 (by omega) (by omega), h 5 (by omega) (by omega)]
  refine ⟨a0, a1, a2, a3, a4, a5, fun p p0 p1 => ?_, fun i i0 i1 => ?_⟩
  · rw [h _ (by omega) (by omega)]; exact a6 p p0 p1
  · rw [h _ (by omega) (by omega), h _ (by omega) (by omega), h _ (by omega) (by omega), h _ (by omega) (by omega)]; exact a7 i i0 i1
theorem Ul_lg (hU : Ul b b' k g) (hk : 0 ≤ k ∧ k < 2) (hn : 0 ≤ n ∧ n < 2) (hne : n ≠ k) : lg b' n = lg b n := by
  funext i
  unfold lg gl
  split
  · exact hU.1 _ (by omega) (by omega) (by omega) (by omega)
  · rfl
theorem Ul_ls (hU : Ul b b' k g) (hk : 0 ≤ k ∧ k < 2) (hn : 0 ≤ n ∧ n < 4) : ls b' n = ls b n := by
  funext i
  unfold ls gl
  split
  · exact hU.1 _ (by omega) (by omega) (by omega) (by omega)
  · rfl
theorem Ul_k (hU : Ul b b' k g) : ∀ i, 0 ≤ i → i < 200 → lg b' k i = g i := fun i i0 i1 => by
  unfold lg; rw [gl_t i0 i1]; exact hU.2.2 i i0 i1
theorem Ul_ok (hU : Ul b b' k g) (hk : 0 ≤ k ∧ k < 2) (hb : k ≤ b 0) (hO : LdOk g) (hA : AOk b) : AOk b' := by
  obtain ⟨a0, a1, a2, a3, a4, a5, a6⟩ := hA
  have e1 := hU.2.1
  refine ⟨?_, ?_, ?_, fun i i0 i1 => ?_, fun n n0 n1 => ?_, fun n n0 n1 => ?_, ?_⟩
  · rw [e1]; split <;> omega
  · rw [hU.1 1 (by omega) (by omega) (by omega) (by omega)]; exact a1
  · rw [hU.1 2 (by omega) (by omega) (by omega) (by omega)]; exact a2
  · rw [hU.1 _ (by omega) (by omega) (by omega) (by omega)]; exact a3 i i0 i1
  · by_cases e : n = k
    · rw [e]; exact LdOk_e hO (Ul_k hU)
    · rw [e1] at n1
      have : n < b 0 := by split at n1 <;> omega
      rw [Ul_lg hU hk (by omega) e]; exact a4 n n0 this
  · rw [hU.1 1 (by omega) (by omega) (by omega) (by omega)] at n1
    rw [Ul_ls hU hk (by omega)]; exact a5 n n0 n1
  · rw [hU.1 3 (by omega) (by omega) (by omega) (by omega), hU.1 4 (by omega) (by omega) (by omega) (by omega)]; exact a6
theorem Nw_land (hW : Nw μ b) (hk : 0 ≤ k ∧ k < 2) (hb : k ≤ b 0) (f : Fw (fun x => x = 1000 ∨ 1010 + 10 * k ≤ x ∧ x ≤ 1015 + 10 * k) μ μ') (h0 : ∀ j, j ≠ 4 → μ' 1000 j = μ 1000 j) (h4 : μ' 1000 4 = (if b 0 ≤ k then k + 1 else b 0)) (hL : La μ' (1010 + 10 * k) g) (hO : LdOk g) (hT : ∀ i, 0 ≤ i → i < 12 → μ' (1010 + 10 * k + 3) i = 0 ∨ μ' (1010 + 10 * k + 3) i = 1) (hU : Ul b b' k g) : Nw μ' b' := by
  obtain ⟨hX, hK, hF, ⟨t1, t2, t3, t4, t5⟩, tt, tl, ts, hA⟩ := hW
  have a0 := hA.1; have a1 := hA.2.1
  refine ⟨?_, hK, ?_, ?_, fun i i0 i1 => ?_, fun n n0 n1 => ?_, fun n n0 n1 => ?_, Ul_ok hU hk hb hO hA⟩
  · unfold X10F; rw [f 100 (by omega)]; exact hX
  · refine ⟨?_, fun n n0 n1 => ?_, fun n n0 n1 => ?_⟩
    · rw [h0 0 (by decide), h0 6 (by decide), h0 7 (by decide)]; exact hF.1
    · have o := hF.2.1 n n0 n1
      rw [f (1000 + 2) (by omega)]
      by_cases e : n = k
      · subst e
        refine ⟨o.1, ?_, ?_⟩
        · rw [show (1000 : Int) + 10 + 10 * n = 1010 + 10 * n by omega]; exact hL.2.1
        · rw [show (1000 : Int) + 10 + 10 * n + 3 = 1010 + 10 * n + 3 by omega]; exact hT
      · unfold LaF at o ⊢
        rw [f (1000 + 10 + 10 * n) (by omega), f (1000 + 10 + 10 * n + 3) (by omega)]; exact o
    · have o := hF.2.2 n n0 n1
      unfold SkF SkB at o ⊢; rw [f (1000 + 3) (by omega), f (1000 + 40 + 10 * n) (by omega)]; exact o
  · rw [h0 1 (by decide), h0 2 (by decide), h0 3 (by decide), h4, h0 5 (by decide), hU.2.1, hU.1 1 (by omega) (by omega) (by omega) (by omega), hU.1 2 (by omega) (by omega) (by omega) (by omega), hU.1 3 (by omega) (by omega) (by omega) (by omega), hU.1 4 (by omega) (by omega) (by omega) (by omega)]
    exact ⟨t1, t2, t3, rfl, t5⟩
  · rw [f (1000 + 1) (by omega), hU.1 _ (by omega) (by omega) (by omega) (by omega)]; exact tt i i0 i1
  · by_cases e : n = k
    · subst e
      refine La_e hO (Ul_k hU) ?_
      rw [show (1000 : Int) + 10 + 10 * n = 1010 + 10 * n by omega]; exact hL
    · rw [hU.2.1] at n1
      have : n < b 0 := by split at n1 <;> omega
      rw [Ul_lg hU hk (by omega) e]
      exact (tl n n0 this).fw f (fun x a c => by omega)
  · rw [hU.1 1 (by omega) (by omega) (by omega) (by omega)] at n1
    rw [Ul_ls hU hk (by omega)]
    exact (ts n n0 n1).fw f (fun x a c => by omega)
/-! what was looked at is old -/
theorem c_forget (hX : X10F μ) (hn : n = 0 ∨ n = 1) (hS : SI μ n g ok vb) (hvb : vb < 1000000000) : Ev (fX10_forget 100 n μ) (fun μ' => Fw (fun x => x = 10000 + 2000 * n) μ μ' ∧ ∀ g' ok', SI μ' n g' ok' (vb + 1)) := by
  unfold fX10_forget
  rw [if_neg (by omega), if_neg (by omega)]
  simp (disch := omega) only [w32_eq, w64_eq, chk_T, chk_t, lt, lm, ob, Int.add_zero, Int.zero_add, true_and, and_true, if_true, if_false, K100, K101, K102, K103, K104, K200, K201, K230, K231, K232, K233, K234, K235, K236, K237, K250, K251, K252, K253, K254, K300, K301, K302, K303, K304, N101, N102, N103, N104, N201, N232, N233, N234, N235, N236, N237, N251, N252, N253, N254, N301, N302, N303, N304, X10F.f0 hX, X10F.f1 hX, X10F.f2 hX, X10F.f3 hX, X10F.f4 hX, X10F.f5 hX, X10F.f6 hX, X10F.f7 hX, X10F.f8 hX, X10F.f9 hX, X10F.f10 hX]
  rcases hS with ⟨a, d⟩ | ⟨a, hF, hv, hl, hg⟩
  · rw [if_pos a]
    exact Ev_some ⟨Fw.rf, fun g' ok' => .inl ⟨a, d⟩⟩
  · rw [a, if_neg (by omega)]
    have hK := ScK_q (q := 10000 + 2000 * n) (by omega)
    simp (disch := omega) only [w32_eq, w64_eq, chk_T, chk_t, lt, lm, ob, Int.add_zero, Int.zero_add, true_and, and_true, if_true, if_false, hK.1]
    generalize hq : 10000 + 2000 * n = q at *
    have f1 : Fw (fun x => x = q) μ (mst μ q 1 (μ q 1 + 1)) := Fw.s0 rfl
    refine Ev_some ⟨f1, fun g' ok' => .inr ?_⟩
    rw [hq]
    refine ⟨by rw [f1 102 (by omega)]; exact a, ?_, by rw [mst_s]; omega, fun p p0 p1 => ?_, ?_⟩
    · unfold ScF at hF ⊢
      rw [mst_j (by decide), mst_j (by decide), mst_j (by decide), mst_j (by decide), mst_j (by decide), mst_j (by decide), mst_j (by decide)]; exact hF
    · have old := hl p p0 p1
      unfold LnI LiF at old ⊢
      rw [f1 (q + 2) (by omega), f1 (q + 100 + 10 * p) (by omega), f1 0 (by omega), mst_s]
      rcases old with o | ⟨o1, o2, o3, o4⟩
      · exact .inl o
      · exact .inr ⟨o1, o2, by omega, fun z => by omega⟩
    · rw [mst_s, mst_j (by decide)]
      exact ⟨by omega, fun z => by omega⟩
theorem Ca_forgot (hC : Ca μ b vb) (hn : n = 0 ∨ n = 1) (hb : n ≤ b 0) (f : Fw (fun x => x = 10000 + 2000 * n) μ μ') (hS : ∀ g' ok', SI μ' n g' ok' (vb + 1)) (hU : Ul b b' n g) : Ca μ' b' (vb + 1) := by
  refine ⟨hC.1.fw f (by omega) (by omega) (by omega) (by omega) (by omega) (f 101 (by omega)) (fun x a b => by rw [f 0 (by omega)]), fun m m0 m1 => ?_⟩
  by_cases e : m = n
  · subst e; exact hS _ _
  · have hC' := Ca_v (vb' := vb + 1) (by omega) hC
    have o := (hC'.2 m m0 m1).fw f (by rw [f 102 (by omega)]) (fun x a b => by omega) (fun x a b => by rw [f 0 (by omega)])
    rw [Ul_lg hU (by omega) ⟨m0, m1⟩ e]
    have : (m < b' 0) = (m < b 0) := by
      rw [hU.2.1]; apply propext; split <;> omega
    rw [this]; exact o
theorem w_mend (h : LI μ vb) (hv : vb + 1 ≤ vb') (hvb : vb < 1000000000) (n p t : Int) : Ev (fX10_mend 100 n p t μ) (fun r => Wd vb' (fX11_mend 20000 n p t) r (Bd μ)) := by
  have hW := h.nw
  have hX := hW.1
  have hA := h.ok
  have n0 := hW.n0
  have v0 := h.v0
  have no : (¬isP (μ 20001) n p ∨ ¬(0 ≤ t ∧ t ≤ 999)) → Wd vb' (fX11_mend 20000 n p t) (0, μ) (Bd μ) := by
    intro z
    unfold Wd fX11_mend
    dsimp only
    simp (disch := omega) only [w32_eq, w64_eq, chk_T, chk_t, lt, lm, ob, Int.add_zero, Int.zero_add, true_and, and_true, if_true, if_false, K20000, K20001, K20002, K20003, K20004, K20005, K20006, K20007, K20008, K20009, K20010, K20011, K20012, K20013, K20014, K20015, K20016, K20017, K20018, K20019, N20001, N20002, N20003, N20004, N20005, N20006, N20007, N20008, N20009, N20010, N20011, N20012, N20013, N20014, N20015, N20016, N20017, N20018, N20019, r_isPlace h.md rfl hA, bi_if]
    by_cases y : isP (μ 20001) n p
    · rw [sel_t y, isIn_f (by rcases z with z | z; exact absurd y z; exact z), if_pos rfl]
      exact Ev_some ⟨rfl, LI_v h (by omega), rfl⟩
    · rw [sel_f y]; exact Ev_some ⟨rfl, LI_v h (by omega), rfl⟩
  unfold fX10_mend
  simp (disch := omega) only [w32_eq, w64_eq, chk_T, chk_t, lt, lm, ob, Int.add_zero, Int.zero_add, true_and, and_true, if_true, if_false, K100, K101, K102, K103, K104, K200, K201, K230, K231, K232, K233, K234, K235, K236, K237, K250, K251, K252, K253, K254, K300, K301, K302, K303, K304, N101, N102, N103, N104, N201, N232, N233, N234, N235, N236, N237, N251, N252, N253, N254, N301, N302, N303, N304, ]
  rw [c_landAt hW]
  simp only [ob]
  by_cases y : isL (μ 20001) n
  · have y1 := y.1; have y2 := y.2
    rw [sel_t y, if_neg (by omega)]
    have hD := hW.ld y1 y2
    have hL := hW.la y1 y2
    simp (disch := omega) only [w32_eq, w64_eq, chk_T, chk_t, lt, lm, ob, Int.add_zero, Int.zero_add, true_and, and_true, if_true, if_false, La_k hL, c_has hL hD, bi_if]
    by_cases z : Pl (lg (μ 20001) n) p
    · have b1 := Pl.i hD z
      rw [sel_t z]
      refine Ev_ite (fun w => Ev_some (no (.inr (by omega)))) (fun w => ?_)
      refine Ev_ite (fun w2 => ?_) (fun w2 => Ev_some (no (.inr (by omega))))
      simp (disch := omega) only [w32_eq, w64_eq, chk_T, chk_t, lt, lm, ob, Int.add_zero, Int.zero_add, true_and, and_true, if_true, if_false, La_k hL, La_k1 hL, La_n1 hL, La_k2 hL, La_n2 hL, La_k3 hL, La_n3 hL, La_k4 hL, La_n4 hL, La_k5 hL, La_n5 hL, La_f6 hL, La_f7 hL, La_f8 hL, La_f9 hL, La_f10 hL, La_0 hL, La_1 hL, La_2 hL, La_3 hL, La_4 hL, La_5 hL, La_h hL, La_a hL, La_t hL, La_fr hL, La_to hL]
      have nn : n = 0 ∨ n = 1 := by omega
      have f1 : Fw nR0 μ (mst μ (1010 + 10 * n + 1) p t) := Fw.s0 (by unfold nR0; omega)
      have C1 := h.ca.n0 f1
      have X1 : X10F (mst μ (1010 + 10 * n + 1) p t) := by unfold X10F; rw [f1 100 (by unfold nR0; omega)]; exact hX
      refine Ev_bind (c_forget X1 nn (C1.2 n y1 (by omega)) hvb) (fun μ2 ⟨f2, S2⟩ => ?_)
      refine Ev_some ?_
      have f12 : Fw (fun x => x = 1010 + 10 * n + 1 ∨ x = 10000 + 2000 * n) μ μ2 := (Fw.s0 (R := fun x => x = 1010 + 10 * n + 1 ∨ x = 10000 + 2000 * n) (.inl rfl)).tr (f2.mo (fun x hx => .inr hx))
      have M2 : Md μ2 := h.md.w (f12 20000 (by omega))
      have e1 : μ2 20001 = μ 20001 := f12 20001 (by omega)
      unfold Wd fX11_mend
      dsimp only
      have hi : isIn t 0 999 = 1 := isIn_t (by omega) (by omega)
      simp (disch := omega) only [w32_eq, w64_eq, chk_T, chk_t, lt, lm, ob, Int.add_zero, Int.zero_add, true_and, and_true, if_true, if_false, K20000, K20001, K20002, K20003, K20004, K20005, K20006, K20007, K20008, K20009, K20010, K20011, K20012, K20013, K20014, K20015, K20016, K20017, K20018, K20019, N20001, N20002, N20003, N20004, N20005, N20006, N20007, N20008, N20009, N20010, N20011, N20012, N20013, N20014, N20015, N20016, N20017, N20018, N20019, r_isPlace M2 e1 hA, bi_if, hi, r_placeOf nn]
      rw [sel_t ⟨y, z⟩, if_neg (by decide)]
      simp (disch := omega) only [w32_eq, w64_eq, chk_T, chk_t, lt, lm, ob, Int.add_zero, Int.zero_add, true_and, and_true, if_true, if_false, K20000, K20001, K20002, K20003, K20004, K20005, K20006, K20007, K20008, K20009, K20010, K20011, K20012, K20013, K20014, K20015, K20016, K20017, K20018, K20019, N20001, N20002, N20003, N20004, N20005, N20006, N20007, N20008, N20009, N20010, N20011, N20012, N20013, N20014, N20015, N20016, N20017, N20018, N20019, Md_0 M2]
      have hU : Ul (μ 20001) (mst μ2 20001 (710 + 200 * n + 6 + p) t 20001) n (gc (lg (μ 20001) n) p t) := by
        refine ⟨fun x x0 x1 x2 x3 => ?_, ?_, fun i i0 i1 => ?_⟩
        · rw [mst_j (by omega), e1]
        · rw [mst_j (by omega), e1, if_neg (by omega)]
        · by_cases ei : i = 6 + p
          · rw [ei, gc_s, show 710 + 200 * n + (6 + p) = 710 + 200 * n + 6 + p by omega, mst_s]
          · rw [gc_n ei, mst_j (by omega), e1]; unfold lg; rw [gl_t i0 i1]
      have fr : Fr [20001] [] μ2 (mst μ2 20001 (710 + 200 * n + 6 + p) t) := Fr.row rfl rfl (by decide) (by decide)
      have lo := fr_lo fr (by decide)
      refine Ev_some ⟨rfl, ?_, ?_⟩
      · dsimp only
        refine LI_go h (f12.mo (fun x hx => by omega)) (h.2.2.2.1.fw f12 (fun x a b => by omega)) ?_ ?_ lo ?_ ?_ (fr.md M2 (by decide)) ?_ (by omega)
        · refine (Nw_land hW (k := n) (g := gc (lg (μ 20001) n) p t) ⟨y1, by omega⟩ (by omega) (Fw.s0 (by omega)) (fun j _ => by rw [mst_n (by omega)]) ?_ (La_gc hL b1) (gc_ok hD b1 (by omega)) (fun i i0 i1 => ?_) hU).fw f2 (by omega) (fun x a b => by omega)
          · rw [mst_n (by omega), if_neg (by omega)]; exact hW.2.2.2.1.2.2.2.1
          · rw [mst_n (by omega)]
            have := (hW.2.2.1.2.1 n y1 (by omega)).2.2 i i0 i1
            rw [show (1000 : Int) + 10 + 10 * n + 3 = 1010 + 10 * n + 3 by omega] at this; exact this
        · exact Ca_v hv (Ca_forgot C1 nn (by omega) f2 S2 hU)
        · intro x x0 x1; rw [mst_j (by omega), e1]
        · exact (fr.1 20002 (by decide) (by decide)).trans (f12 20002 (by omega))
        · exact (h.dt.w (f12 20000 (by omega)) (f12 20003 (by omega)) (f12 20004 (by omega))).fr fr (by decide) (by decide) (by decide)
      · dsimp only
        rw [Bd_go lo]
        exact (Bd_e (f12 101 (by omega)) (f12 102 (by omega)) (f12 10002 (by omega)) (f12 12002 (by omega))).symm
    · rw [sel_f z]; exact Ev_some (no (.inl (fun q => z q.2)))
  · rw [sel_f y, if_pos rfl]; exact Ev_some (no (.inl (fun q => y q.1)))
end
