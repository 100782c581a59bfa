/-! ===== the class: a land's scene, a place's skyline ===== -/
theorem ct_all {P : Int → Prop} : ∀ n : Nat, (∀ i : Int, 0 ≤ i → i < n → P i) → ct P n = n
  | 0, _ => rfl
  | n + 1, h => by
    show ct P n + bi (P n) = _
    rw [ct_all n (fun i a b => h i a (by omega)), bi_t (h n (by omega) (by omega))]; omega
theorem c_sceneInit {μ : Mm} {q n : Int} (hq : q = 10000 ∨ q = 12000) (h0 : ∀ i, μ q i = 0) (hz : ∀ x, q < x → x < q + 2000 → μ 0 x = 0) : ∃ μ', fX4_init q (1010 + 10 * n) 230 μ = some (μ', 11, 931) ∧ Fw (fun x => x = 0 ∨ q ≤ x ∧ x < q + 17) μ μ' ∧ ScF μ' q n ∧ μ' q 1 = 0 ∧ μ' q 9 = -1 ∧ (∀ p, μ' (q + 2) p = 0) ∧ ∀ j, j < q ∨ q + 17 ≤ j → μ' 0 j = μ 0 j := by
  have hK := ScK_q hq
  have z1 := hz (q + 1) (by omega) (by omega); have z10 := hz (q + 10) (by omega) (by omega); have z2 := hz (q + 2) (by omega) (by omega); have z3 := hz (q + 3) (by omega) (by omega); have z4 := hz (q + 4) (by omega) (by omega)
  unfold fX4_init
  simp (disch := omega) only [w32_eq, w64_eq, chk_T, chk_t, lt, lm, ob, Int.add_zero, Int.zero_add, true_and, and_true, if_true, if_false, hK.1, hK.2.1.1, hK.2.1.2, hK.2.2.2.2.2.1.k, mst_n, mst_s, mst_j, nw_n, nw_s, nw_z, ne_eq, z1, z10]
  obtain ⟨μ1, e1, f1, L1, v1, w1⟩ := c_lineInit (μ := mnw (mst (mnw μ (q + 1)) q 2 (q + 1)) (q + 10)) hK.2.2.2.2.2.1 (by omega) (by
    intro i i0 i1; simp (disch := omega) only [mst_n, mst_s, mst_j, nw_n, nw_s, nw_z, ]; exact hz i (by omega) (by omega))
  have x2 : μ1 0 (q + 2) = 0 := by rw [w1 _ (by omega)]; simp (disch := omega) only [mst_n, mst_s, mst_j, nw_n, nw_s, nw_z, ]; exact z2
  have x3 : μ1 0 (q + 3) = 0 := by rw [w1 _ (by omega)]; simp (disch := omega) only [mst_n, mst_s, mst_j, nw_n, nw_s, nw_z, ]; exact z3
  have x4 : μ1 0 (q + 4) = 0 := by rw [w1 _ (by omega)]; simp (disch := omega) only [mst_n, mst_s, mst_j, nw_n, nw_s, nw_z, ]; exact z4
  have rq : μ1 q = mst (mnw μ (q + 1)) q 2 (q + 1) q := by rw [f1 q (by omega)]; simp (disch := omega) only [mst_n, mst_s, mst_j, nw_n, nw_s, nw_z, ]
  rw [e1]
  simp (disch := omega) only [w32_eq, w64_eq, chk_T, chk_t, lt, lm, ob, Int.add_zero, Int.zero_add, true_and, and_true, if_true, if_false, hK.2.2.1.1, hK.2.2.1.2, hK.2.2.2.1.1, hK.2.2.2.1.2, hK.2.2.2.2.1.1, hK.2.2.2.2.1.2, mst_n, mst_s, mst_j, nw_n, nw_s, nw_z, ne_eq, x2, x3, x4, py]
  refine ⟨_, rfl, ?_, ?_, ?_, ?_, ?_, ?_⟩
  · have g1 : Fw (fun x => x = 0 ∨ q ≤ x ∧ x < q + 17) μ μ1 := by
      refine Fw.tr ?_ (f1.mo (fun x hx => by omega))
      exact ((Fw.nw Fw.rf (by omega) (by omega)).st (by omega)).nw (by omega) (by omega)
    repeat first
      | exact g1
      | apply Fw.st
      | apply Fw.nw
      | omega
  · unfold ScF; simp (disch := omega) only [mst_n, mst_s, mst_j, nw_n, nw_s, nw_z, rq]; exact ⟨trivial, trivial, trivial, trivial, trivial, trivial, trivial⟩
  · simp (disch := omega) only [mst_n, mst_s, mst_j, nw_n, nw_s, nw_z, rq, h0]
  · simp (disch := omega) only [mst_n, mst_s, mst_j, nw_n, nw_s, nw_z, ]
  · intro p; simp (disch := omega) only [mst_n, mst_s, mst_j, nw_n, nw_s, nw_z, ]
  · intro j hj; simp (disch := omega) only [mst_n, mst_s, mst_j, nw_n, nw_s, nw_z, ]; rw [w1 j (by omega)]; simp (disch := omega) only [mst_n, mst_s, mst_j, nw_n, nw_s, nw_z, ]
def scR (n x : Int) : Prop := x = 0 ∨ x = 102 ∨ 10000 + 2000 * n ≤ x ∧ x < 12000 + 2000 * n
theorem c_sceneAt {μ : Mm} {n vb : Int} {b : Int → Int} (hN : Nw μ b) (hC : Ca μ b vb) (hvb : 0 ≤ vb) : Ec (fX10_sceneAt 100 n μ) (Bd μ) (fun r b' => b' = Bd r.2 ∧ r.1 = sel (isL b n) (10000 + 2000 * n) 0 ∧ Fw (scR n) μ r.2 ∧ Ca r.2 b vb ∧ (isL b n → r.2 102 n ≠ 0) ∧ (¬isL b n → r.2 = μ)) := by
  have n0 := hN.n0
  unfold fX10_sceneAt
  simp (disch := omega) only [w32_eq, w64_eq, chk_T, chk_t, lt, lm, ob, Int.add_zero, Int.zero_add, true_and, and_true, if_true, if_false, K100, K101, K102, K103, K104, K200, K201, K230, K231, K232, K233, K234, K235, K236, K237, K250, K251, K252, K253, K254, K300, K301, K302, K303, K304, N101, N102, N103, N104, N201, N232, N233, N234, N235, N236, N237, N251, N252, N253, N254, N301, N302, N303, N304, X10F.f0 hN.1, X10F.f1 hN.1, X10F.f2 hN.1, X10F.f3 hN.1, X10F.f4 hN.1, X10F.f5 hN.1, X10F.f6 hN.1, X10F.f7 hN.1, X10F.f8 hN.1, X10F.f9 hN.1, X10F.f10 hN.1, c_landAt hN]
  by_cases hn : isL b n
  · have nn : n = 0 ∨ n = 1 := by have := hn.1; have := hn.2; omega
    have hn2 : 0 ≤ n ∧ n < 2 := by omega
    rw [sel_t hn, if_neg (by omega), if_neg (by omega), if_pos (by omega), sel_t hn]
    have hq : 10000 + 2000 * n = 10000 ∨ 10000 + 2000 * n = 12000 := by omega
    have hK := ScK_q hq
    by_cases hs : μ 102 n = 0
    · have hz : ∀ x, 10000 + 2000 * n ≤ x → x < 12000 + 2000 * n → μ 0 x = 0 := by
        rcases hC.2 n hn2.1 hn2.2 with ⟨_, z⟩ | ⟨z, _⟩
        · exact z
        · omega
      have y0 := hz (10000 + 2000 * n) (by omega) (by omega)
      rw [if_pos hs]
      obtain ⟨μ1, e1, f1, F1, v1, g1, l1, w1⟩ := c_sceneInit (μ := mnw μ (10000 + 2000 * n)) (n := n) hq (fun i => nw_s) (fun x x0 x1 => by rw [nw_z (by omega) (by omega)]; exact hz x (by omega) (by omega))
      simp (disch := omega) only [w32_eq, w64_eq, chk_T, chk_t, lt, lm, ob, Int.add_zero, Int.zero_add, true_and, and_true, if_true, if_false, K100, K101, K102, K103, K104, K200, K201, K230, K231, K232, K233, K234, K235, K236, K237, K250, K251, K252, K253, K254, K300, K301, K302, K303, K304, N101, N102, N103, N104, N201, N232, N233, N234, N235, N236, N237, N251, N252, N253, N254, N301, N302, N303, N304, hK.1, X10F.f0 hN.1, X10F.f1 hN.1, X10F.f2 hN.1, X10F.f3 hN.1, X10F.f4 hN.1, X10F.f5 hN.1, X10F.f6 hN.1, X10F.f7 hN.1, X10F.f8 hN.1, X10F.f9 hN.1, X10F.f10 hN.1, y0, ne_eq, nw_n]
      rw [e1]
      have f2 : Fw (scR n) μ (mst μ1 102 n (10000 + 2000 * n)) := by
        have := (Fw.nw (R := scR n) (Fw.rf (μ := μ)) (a := 10000 + 2000 * n) (by unfold scR; omega) (by unfold scR; omega)).tr (f1.mo (fun x hx => by unfold scR; omega))
        exact this.st (by unfold scR; omega)
      have r100 : μ1 100 4 = 102 := by rw [f1 100 (by omega), nw_n (by omega) (by omega)]; exact hN.1.f4
      simp (disch := omega) only [w32_eq, w64_eq, chk_T, chk_t, lt, lm, ob, Int.add_zero, Int.zero_add, true_and, and_true, if_true, if_false, K100, K101, K102, K103, K104, K200, K201, K230, K231, K232, K233, K234, K235, K236, K237, K250, K251, K252, K253, K254, K300, K301, K302, K303, K304, N101, N102, N103, N104, N201, N232, N233, N234, N235, N236, N237, N251, N252, N253, N254, N301, N302, N303, N304, mst_n, mst_s, r100]
      refine Ec_pay (b1 := Bd μ - 11) (Ec_pay (b1 := Bd μ - 4400) (Ec_some ⟨?_, rfl, f2, ?_, fun _ => ?_, fun z => absurd hn z⟩) (by omega) (by omega)) (by omega) (by omega)
      · dsimp only
        have a1 : mst μ1 102 n (10000 + 2000 * n) 101 = μ 101 := f2 101 (by unfold scR; omega)
        have e : sb (mst μ1 102 n (10000 + 2000 * n)) n = 144 := by
          unfold sb; rw [mst_s, if_neg (by omega)]
          exact ct_all 144 (fun i _ _ => by rw [mst_n (by omega), show 10002 + 2000 * n = 10000 + 2000 * n + 2 by omega]; exact l1 i)
        have e0 : sb μ n = 155 := by unfold sb; rw [if_pos hs]
        have other : ∀ m, m = 0 ∨ m = 1 → m ≠ n → sb (mst μ1 102 n (10000 + 2000 * n)) m = sb μ m := by
          intro m hm hmn
          unfold sb
          rw [mst_j hmn, f1 102 (by omega), nw_n (by omega) (by omega), mst_n (by omega), f1 _ (by omega), nw_n (by omega) (by omega)]
        have ee : ∀ k, ib (mst μ1 102 n (10000 + 2000 * n)) k = ib μ k := by intro k; unfold ib; rw [a1]
        unfold Bd; rw [ee, ee, ee]
        rcases nn with z | z
        · subst z; rw [e, e0, other 1 (by omega) (by omega)]; omega
        · subst z; rw [e, e0, other 0 (by omega) (by omega)]; omega
      · dsimp only
        refine ⟨hC.1.fw f2 (by unfold scR; omega) (by unfold scR; omega) (by unfold scR; omega) (by unfold scR; omega) (by unfold scR; omega) (f2 101 (by unfold scR; omega)) (fun x a b => by rw [mst_n (by omega), w1 x (by omega), nw_z (by omega) (by omega)]), fun m m0 m1 => ?_⟩
        by_cases hm : m = n
        · subst hm
          refine .inr ⟨mst_s, ?_, ?_, fun p p0 p1 => ?_, ?_⟩
          · unfold ScF; rw [mst_n (by omega)]; exact F1
          · rw [mst_n (by omega), v1]; omega
          · refine .inl ⟨by rw [mst_n (by omega)]; exact l1 p, fun i i0 i1 => ?_⟩
            rw [mst_n (by omega), w1 i (by omega), nw_z (by omega) (by omega)]; exact hz i (by omega) (by omega)
          · rw [mst_n (by omega), v1, g1]; exact ⟨by omega, fun z => by omega⟩
        · refine (hC.2 m m0 m1).fw f2 ?_ (fun x a b => by unfold scR; omega) (fun x a b => ?_)
          · rw [mst_j hm, f1 102 (by omega), nw_n (by omega) (by omega)]
          · rw [mst_n (by omega), w1 x (by omega), nw_z (by omega) (by omega)]
      · dsimp only; rw [mst_s]; omega
    · have e := (hC.sn hn2 hs).1
      rw [if_neg hs, e]
      exact Ec_some ⟨rfl, rfl, Fw.rf, hC, fun _ => hs, fun z => absurd hn z⟩
  · rw [sel_f hn, if_pos rfl, sel_f hn]
    exact Ec_some ⟨rfl, rfl, Fw.rf, hC, fun z => absurd z hn, fun _ => rfl⟩
def isP (b : Int → Int) (n p : Int) : Prop := isL b n ∧ Pl (lg b n) p
def lnA (n x : Int) : Prop := (0 ≤ n ∧ n < 2) ∧ (scR n x ∨ sR0 x)
theorem c_lineAt2 {μ : Mm} {n p vb : Int} {b : Int → Int} (hN : Nw μ b) (hC : Ca μ b vb) (hvb : 0 ≤ vb) : Ec (fX10_lineAt 100 n p μ) (Bd μ) (fun r b' => b' = Bd r.2 ∧ r.1 = sel (isP b n p) (10100 + 2000 * n + 10 * p) 0 ∧ Fw (lnA n) μ r.2 ∧ Ca r.2 b vb ∧ (isP b n p → Li r.2 r.1 (lg b n) p) ∧ (isL b n → r.2 102 n ≠ 0)) := by
  have n0 := hN.n0
  unfold fX10_lineAt
  simp (disch := omega) only [w32_eq, w64_eq, chk_T, chk_t, lt, lm, ob, Int.add_zero, Int.zero_add, true_and, and_true, if_true, if_false, K100, K101, K102, K103, K104, K200, K201, K230, K231, K232, K233, K234, K235, K236, K237, K250, K251, K252, K253, K254, K300, K301, K302, K303, K304, N101, N102, N103, N104, N201, N232, N233, N234, N235, N236, N237, N251, N252, N253, N254, N301, N302, N303, N304, ]
  refine Ec_bind (c_sceneAt hN hC hvb) ?_
  rintro ⟨r, μ1⟩ b1 ⟨hb1, hr, f1, C1, s1, sn⟩ cc nn
  dsimp only at hb1 hr f1 C1 s1 sn
  refine ⟨_, rfl, ?_⟩
  dsimp only
  subst hb1 hr
  by_cases hn : isL b n
  · have hn' := hn
    obtain ⟨h1, h2⟩ := hn'
    have N1 : Nw μ1 b := hN.fw f1 (by unfold scR; omega) (fun x a b => by unfold scR; omega)
    rw [sel_t hn]
    obtain ⟨e102, hS⟩ := C1.sn (n := n) (by omega) (s1 hn)
    have hD := N1.ld h1 h2; have hA := N1.la h1 h2
    have hK := ScK_q (q := 10000 + 2000 * n) (by omega)
    have s0 := hS.1.1
    rw [if_neg (by omega)]
    simp (disch := omega) only [w32_eq, w64_eq, chk_T, chk_t, lt, lm, ob, Int.add_zero, Int.zero_add, true_and, and_true, if_true, if_false, hK.1, s0, La_k hA, c_has hA hD]
    by_cases hp : Pl (lg b n) p
    · rw [bi_t hp, if_neg (by decide), sel_t ⟨hn, hp⟩]
      have b1 := Pl.i hD hp
      refine Ec_bind (c_lineOf N1 C1 hn (s1 hn) hp) ?_
      rintro ⟨r2, μ2⟩ b2 ⟨hb2, hr2, f2, C2, L2⟩ cc nn
      dsimp only at hb2 hr2 f2 C2 L2
      refine ⟨_, rfl, Ec_some ⟨hb2, hr2, ?_, C2, fun _ => by rw [hr2]; exact L2, fun _ => by dsimp only; rw [f2 102 (by unfold lnR sR0; omega)]; exact s1 hn⟩⟩
      exact (f1.mo (fun x hx => ⟨by omega, .inl hx⟩)).tr (f2.mo (fun x hx => by unfold lnR sR0 at hx; unfold lnA scR sR0; omega))
    · rw [bi_f hp, if_pos rfl, sel_f (fun z => hp z.2)]
      exact Ec_some ⟨rfl, rfl, f1.mo (fun x hx => ⟨by omega, .inl hx⟩), C1, fun z => absurd z.2 hp, s1⟩
  · rw [sel_f hn, if_pos rfl, sel_f (fun z => hn z.1)]
    have e := sn hn
    subst e
    exact Ec_some ⟨rfl, rfl, Fw.rf, C1, fun z => absurd z.1 hn, s1⟩
theorem c_lineAt {μ : Mm} {n p vb : Int} {b : Int → Int} (hN : Nw μ b) (hC : Ca μ b vb) (hvb : 0 ≤ vb) : Ec (fX10_lineAt 100 n p μ) (Bd μ) (fun r b' => b' = Bd r.2 ∧ r.1 = sel (isP b n p) (10100 + 2000 * n + 10 * p) 0 ∧ Fw (lnA n) μ r.2 ∧ Ca r.2 b vb ∧ (isP b n p → Li r.2 r.1 (lg b n) p)) := Ec_mono (c_lineAt2 hN hC hvb) (fun _ _ h => ⟨h.1, h.2.1, h.2.2.1, h.2.2.2.1, h.2.2.2.2.1⟩)
/-! the reference: lands and places -/
/-- the reference's rows -/
def RI (μ : Mm) : Prop := Md μ ∧ Dt μ
theorem r_isOf {μ : Mm} {b : Int → Int} (hM : Md μ) (hb : μ 20001 = b) {i k : Int} (h0 : 0 ≤ i) (h1 : i < 5000) (h2 : -1000 ≤ b i) (h3 : b i ≤ 1000) : fX11_isOf 20000 i k μ = some (bi (0 ≤ k ∧ k < b i)) := by
  unfold fX11_isOf
  simp (disch := omega) only [w32_eq, w64_eq, chk_T, chk_t, lt, lm, ob, Int.add_zero, Int.zero_add, true_and, and_true, if_true, if_false, K20000, K20001, K20002, K20003, K20004, K20005, K20006, K20007, K20008, K20009, K20010, K20011, K20012, K20013, K20014, K20015, K20016, K20017, K20018, K20019, N20001, N20002, N20003, N20004, N20005, N20006, N20007, N20008, N20009, N20010, N20011, N20012, N20013, N20014, N20015, N20016, N20017, N20018, N20019, Md_0 hM, hb]
  unfold isIn
  by_cases z : 0 ≤ k ∧ k < b i
  · rw [if_pos (by omega), bi_t z]
  · rw [if_neg (by omega), bi_f z]
theorem G_lg {μ : Mm} {b : Int → Int} (hb : μ 20001 = b) {n : Int} (h : n = 0 ∨ n = 1) : G μ (710 + 200 * n) (lg b n) := by
  refine ⟨by omega, fun i i0 i1 => ?_⟩
  rw [hb]; unfold lg; rw [gl_t i0 i1]
theorem r_placeOf {n : Int} (h : n = 0 ∨ n = 1) : fX11_placeOf 0 n = some (710 + 200 * n) := by
  unfold fX11_placeOf; rw [if_pos rfl]; simp (disch := omega) only [w32_eq, w64_eq, chk_T, chk_t, lt, lm, ob, Int.add_zero, Int.zero_add, true_and, and_true, if_true, if_false, ]
theorem r_isPlace {μ : Mm} {b : Int → Int} (hM : Md μ) (hb : μ 20001 = b) (hA : AOk b) {n p : Int} : fX11_isPlace 20000 n p μ = some (bi (isP b n p)) := by
  have a0 := hA.1
  unfold fX11_isPlace
  simp (disch := omega) only [w32_eq, w64_eq, chk_T, chk_t, lt, lm, ob, Int.add_zero, Int.zero_add, true_and, and_true, if_true, if_false, K20000, K20001, K20002, K20003, K20004, K20005, K20006, K20007, K20008, K20009, K20010, K20011, K20012, K20013, K20014, K20015, K20016, K20017, K20018, K20019, N20001, N20002, N20003, N20004, N20005, N20006, N20007, N20008, N20009, N20010, N20011, N20012, N20013, N20014, N20015, N20016, N20017, N20018, N20019, r_isOf hM hb]
  by_cases z : 0 ≤ n ∧ n < b 0
  · have nn : n = 0 ∨ n = 1 := by omega
    have hD := hA.2.2.2.2.1 n z.1 z.2
    have nb := np_b hD
    rw [bi_t z, if_neg (by decide), r_placeOf nn]
    simp only [ob]
    rw [r_placesOf hM (G_lg hb nn) hD]
    simp (disch := omega) only [w32_eq, w64_eq, chk_T, chk_t, lt, lm, ob, Int.add_zero, Int.zero_add, true_and, and_true, if_true, if_false, isIn_0]
    by_cases q : Pl (lg b n) p
    · rw [if_neg (by have := q.1; have := q.2; omega), bi_t ⟨z, q⟩]
    · rw [if_pos (fun y => q ⟨y.1, by omega⟩), bi_f (fun y => q y.2)]
  · rw [bi_f z, if_pos rfl, bi_f (fun y => z y.1)]
theorem r_areTwo {μ : Mm} {b : Int → Int} (hM : Md μ) (hb : μ 20001 = b) (hA : AOk b) {n p q : Int} : fX11_areTwo 20000 n p q μ = some (bi (isP b n p ∧ Pl (lg b n) q ∧ p ≠ q)) := by
  unfold fX11_areTwo
  simp (disch := omega) only [w32_eq, w64_eq, chk_T, chk_t, lt, lm, ob, Int.add_zero, Int.zero_add, true_and, and_true, if_true, if_false, K20000, K20001, K20002, K20003, K20004, K20005, K20006, K20007, K20008, K20009, K20010, K20011, K20012, K20013, K20014, K20015, K20016, K20017, K20018, K20019, N20001, N20002, N20003, N20004, N20005, N20006, N20007, N20008, N20009, N20010, N20011, N20012, N20013, N20014, N20015, N20016, N20017, N20018, N20019, r_isPlace hM hb hA]
  by_cases z : isP b n p
  · rw [bi_t z, if_neg (by decide)]
    by_cases y : Pl (lg b n) q
    · rw [bi_t (c := isP b n q) ⟨z.1, y⟩, if_neg (by decide)]
      by_cases x : p = q
      · rw [if_pos x, bi_f (fun w => w.2.2 x)]
      · rw [if_neg x, bi_t ⟨z, y, x⟩]
    · rw [bi_f (c := isP b n q) (fun w => y w.2), if_pos rfl, bi_f (fun w => y w.2.1)]
  · rw [bi_f z, if_pos rfl, bi_f (fun w => z w.1)]
