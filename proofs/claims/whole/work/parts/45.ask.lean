/-! ===== the class answers: what is seen ===== -/
def Rq (x : Int) : Prop := x = 0 ∨ 102 ≤ x ∧ x ≤ 104 ∨ 230 ≤ x ∧ x < 400 ∨ 10000 ≤ x ∧ x < 14000
def QP (μ : Mm) (b : Int → Int) (vb : Int) (P : Int → Prop) (r : Int × Mm) (b' : Int) : Prop := b' = Bd r.2 ∧ Fw Rq μ r.2 ∧ Ca r.2 b vb ∧ P r.1
theorem Rq_sc {n x : Int} (hn : 0 ≤ n ∧ n < 2) (h : scR n x) : Rq x := by unfold scR at h; unfold Rq; omega
theorem Rq_l {n x : Int} (h : lnA n x) : Rq x := by unfold lnA scR sR0 at h; unfold Rq; omega
theorem Nw.q {μ μ' : Mm} {b : Int → Int} (h : Nw μ b) (f : Fw Rq μ μ') : Nw μ' b := h.fw f (by unfold Rq; omega) (fun x a b => by unfold Rq; omega)
section
variable {μ : Mm} {s p : Int} {g : Int → Int}
theorem c_topOfRay (h : Li μ s g p) (hL : LdOk g) (hp : Pl g p) (k : Int) : fX7_topOfRay s k μ = some (sel (0 ≤ k ∧ k < nR g p) (T g p k) (-1)) := by
  obtain ⟨hK, hF, ⟨h1, h2, h3⟩, hT, hI, hl, hS⟩ := h
  have nb := nR_b hL hp
  unfold fX7_topOfRay
  simp (disch := omega) only [w32_eq, w64_eq, chk_T, chk_t, lt, lm, ob, Int.add_zero, Int.zero_add, true_and, and_true, if_true, if_false, LiK.k hK, LiK.k1 hK, LiK.n1 hK, LiK.k2 hK, LiK.n2 hK, LiK.k3 hK, LiK.n3 hK, LiK.k4 hK, LiK.n4 hK, LiK.k5 hK, LiK.n5 hK, LiK.k6 hK, LiK.n6 hK, LiF.f4 hF, LiF.f5 hF, LiF.f6 hF, LiF.f7 hF, LiF.f8 hF, LiF.f9 hF, h1]
  by_cases z : 0 ≤ k ∧ k < nR g p
  · rw [if_neg (by omega), if_neg (by omega), if_neg (by omega), sel_t z]
    try simp (disch := omega) only [w32_eq, w64_eq, chk_T, chk_t, lt, lm, ob, Int.add_zero, Int.zero_add, true_and, and_true, if_true, if_false, ]
    rw [(hT k z.1 z.2).1]
  · rw [sel_f z]
    by_cases y : k < 0
    · rw [if_pos y]
    · rw [if_neg y, if_pos (by omega)]
theorem c_hasHump (h : Li μ s g p) (hL : LdOk g) (hp : Pl g p) (k : Int) : fX7_hasHump s k μ = some (bi (0 ≤ k ∧ k < hN g p)) := by
  obtain ⟨hK, hF, ⟨h1, h2, h3⟩, hT, hI, hl, hS⟩ := h
  have nb := hN_b hL hp
  unfold fX7_hasHump
  simp (disch := omega) only [w32_eq, w64_eq, chk_T, chk_t, lt, lm, ob, Int.add_zero, Int.zero_add, true_and, and_true, if_true, if_false, LiK.k hK, LiK.k1 hK, LiK.n1 hK, LiK.k2 hK, LiK.n2 hK, LiK.k3 hK, LiK.n3 hK, LiK.k4 hK, LiK.n4 hK, LiK.k5 hK, LiK.n5 hK, LiK.k6 hK, LiK.n6 hK, LiF.f4 hF, LiF.f5 hF, LiF.f6 hF, LiF.f7 hF, LiF.f8 hF, LiF.f9 hF, h2]
  by_cases z : 0 ≤ k ∧ k < hN g p
  · rw [if_neg (by omega), if_neg (by omega), if_neg (by omega), bi_t z]
  · rw [bi_f z]
    by_cases y : k < 0
    · rw [if_pos y]
    · rw [if_neg y, if_pos (by omega)]
theorem c_topOfHump (h : Li μ s g p) (hL : LdOk g) (hp : Pl g p) (k : Int) : fX7_topOfHump s k μ = some (sel (0 ≤ k ∧ k < hN g p) (hT g p k) (-1)) := by
  have hh := c_hasHump h hL hp k
  have ht := fun k => c_topOfRay h hL hp k
  obtain ⟨hK, hF, ⟨h1, h2, h3⟩, hT', hI', hl, hS⟩ := h
  have nb := hN_b hL hp
  unfold fX7_topOfHump
  simp (disch := omega) only [w32_eq, w64_eq, chk_T, chk_t, lt, lm, ob, Int.add_zero, Int.zero_add, true_and, and_true, if_true, if_false, LiK.k hK, LiK.k1 hK, LiK.n1 hK, LiK.k2 hK, LiK.n2 hK, LiK.k3 hK, LiK.n3 hK, LiK.k4 hK, LiK.n4 hK, LiK.k5 hK, LiK.n5 hK, LiK.k6 hK, LiK.n6 hK, hh]
  by_cases z : 0 ≤ k ∧ k < hN g p
  · have i := hI_ok hL hp z.1 z.2
    rw [bi_t z, if_neg (by decide), sel_t z]
    simp (disch := omega) only [w32_eq, w64_eq, chk_T, chk_t, lt, lm, ob, Int.add_zero, Int.zero_add, true_and, and_true, if_true, if_false, LiK.k hK, LiK.k1 hK, LiK.n1 hK, LiK.k2 hK, LiK.n2 hK, LiK.k3 hK, LiK.n3 hK, LiK.k4 hK, LiK.n4 hK, LiK.k5 hK, LiK.n5 hK, LiK.k6 hK, LiK.n6 hK, LiF.f4 hF, LiF.f5 hF, LiF.f6 hF, LiF.f7 hF, LiF.f8 hF, LiF.f9 hF, hI' k z.1 z.2, ht]
    rw [sel_t i.1]; rfl
  · rw [bi_f z, if_pos rfl, sel_f z]
theorem c_rayOfHump (h : Li μ s g p) (hL : LdOk g) (hp : Pl g p) {k : Int} (h0 : 0 ≤ k) (h1 : k < 2 * hN g p) : fX7_rayOfHump s k μ = some (hI g p (k % hN g p)) := by
  have hh := fun k => c_hasHump h hL hp k
  obtain ⟨hK, hF, ⟨_, h2, h3⟩, hT', hI', hl, hS⟩ := h
  have nb := hN_b hL hp
  unfold fX7_rayOfHump jX7_rayOfHump_18
  simp (disch := omega) only [w32_eq, w64_eq, chk_T, chk_t, lt, lm, ob, Int.add_zero, Int.zero_add, true_and, and_true, if_true, if_false, LiK.k hK, LiK.k1 hK, LiK.n1 hK, LiK.k2 hK, LiK.n2 hK, LiK.k3 hK, LiK.n3 hK, LiK.k4 hK, LiK.n4 hK, LiK.k5 hK, LiK.n5 hK, LiK.k6 hK, LiK.n6 hK, LiF.f4 hF, LiF.f5 hF, LiF.f6 hF, LiF.f7 hF, LiF.f8 hF, LiF.f9 hF, h2, hh]
  by_cases z : k < hN g p
  · rw [if_pos z, bi_t ⟨h0, z⟩, if_neg (by decide), Int.emod_eq_of_lt h0 z]
    rw [hI' k h0 z]
  · have e : k % hN g p = k - hN g p := by
      have : k % hN g p = (k - hN g p) % hN g p := (Int.sub_emod_right k (hN g p)).symm
      rw [this, Int.emod_eq_of_lt (by omega) (by omega)]
    have y : 0 ≤ k - hN g p ∧ k - hN g p < hN g p := by omega
    rw [if_neg z, bi_t y, if_neg (by decide), e]
    rw [hI' _ y.1 y.2]
end
noncomputable def zzRise (b : Int → Int) (n p q : Int) : Int := sel (isP b n p ∧ Pl (lg b n) q ∧ p ≠ q) (zR (lg b n) p q) (-10000)
theorem q_rise {μ : Mm} {b : Int → Int} (hW : Nw μ b) (n p q : Int) : fX10_rise 100 n p q μ = some (zzRise b n p q) := by
  unfold fX10_rise zzRise
  simp (disch := omega) only [w32_eq, w64_eq, chk_T, chk_t, lt, lm, ob, Int.add_zero, Int.zero_add, true_and, and_true, if_true, if_false, K100, K101, K102, K103, K104, K200, K201, K230, K231, K232, K233, K234, K235, K236, K237, K250, K251, K252, K253, K254, K300, K301, K302, K303, K304, N101, N102, N103, N104, N201, N232, N233, N234, N235, N236, N237, N251, N252, N253, N254, N301, N302, N303, N304, c_landAt hW]
  by_cases hn : isL b n
  · have hD := hW.ld hn.1 hn.2; have hA := hW.la hn.1 hn.2
    rw [sel_t hn, if_neg (by have := hn.1; omega)]
    simp (disch := omega) only [w32_eq, w64_eq, chk_T, chk_t, lt, lm, ob, Int.add_zero, Int.zero_add, true_and, and_true, if_true, if_false, K100, K101, K102, K103, K104, K200, K201, K230, K231, K232, K233, K234, K235, K236, K237, K250, K251, K252, K253, K254, K300, K301, K302, K303, K304, N101, N102, N103, N104, N201, N232, N233, N234, N235, N236, N237, N251, N252, N253, N254, N301, N302, N303, N304, La_k hA, La_k1 hA, La_n1 hA, La_k2 hA, La_n2 hA, La_k3 hA, La_n3 hA, La_k4 hA, La_n4 hA, La_k5 hA, La_n5 hA, La_f6 hA, La_f7 hA, La_f8 hA, La_f9 hA, La_f10 hA, La_0 hA, La_1 hA, La_2 hA, La_3 hA, La_4 hA, La_5 hA, La_h hA, La_a hA, La_t hA, La_fr hA, La_to hA, c_has hA hD]
    by_cases hp : Pl (lg b n) p
    · rw [bi_t hp, if_neg (by decide)]
      by_cases hq : Pl (lg b n) q
      · rw [bi_t hq, if_neg (by decide)]
        by_cases e : p = q
        · rw [if_pos e, sel_f (fun z => z.2.2 e)]
        · rw [if_neg e, sel_t ⟨⟨hn, hp⟩, hq, e⟩, c_apart hA hD hp hq]
          simp only [ob]
          rw [c_lift hA hD hp hq rfl]
          simp only [ob]
      · rw [bi_f hq, if_pos rfl, sel_f (fun z => hq z.2.1)]
    · rw [bi_f hp, if_pos rfl, sel_f (fun z => hp z.1.2)]
  · rw [sel_f hn, if_pos rfl, sel_f (fun z => hn z.1.1)]
noncomputable def zzSeen (b : Int → Int) (n p q : Int) : Int := sel (isP b n p ∧ Pl (lg b n) q ∧ p ≠ q) (bi (zSeen (lg b n) p q)) (-1)
theorem bi_if {α : Type} {c : Prop} {x y : α} : (if bi c = 0 then x else y) = sel c y x := by
  by_cases h : c
  · rw [bi_t h, if_neg (by decide), sel_t h]
  · rw [bi_f h, if_pos rfl, sel_f h]
theorem q_seen {μ : Mm} {b : Int → Int} {vb : Int} (hW : Nw μ b) (hC : Ca μ b vb) (hvb : 0 ≤ vb) (n p q : Int) : Ec (fX10_seen 100 n p q μ) (Bd μ) (QP μ b vb (fun r => r = zzSeen b n p q)) := by
  have n0 := hW.n0
  unfold fX10_seen
  simp (disch := omega) only [w32_eq, w64_eq, chk_T, chk_t, lt, lm, ob, Int.add_zero, Int.zero_add, true_and, and_true, if_true, if_false, K100, K101, K102, K103, K104, K200, K201, K230, K231, K232, K233, K234, K235, K236, K237, K250, K251, K252, K253, K254, K300, K301, K302, K303, K304, N101, N102, N103, N104, N201, N232, N233, N234, N235, N236, N237, N251, N252, N253, N254, N301, N302, N303, N304, c_landAt hW]
  refine Ec_bind (c_lineAt hW hC hvb) ?_
  rintro ⟨r, μ1⟩ b1 ⟨hb, hr, f1, C1, L1⟩ cc nn
  refine ⟨_, rfl, ?_⟩
  dsimp only at hb hr f1 C1 L1 ⊢
  have fq : Fw Rq μ μ1 := f1.mo (fun x hx => Rq_l hx)
  have N1 := hW.q fq
  unfold zzSeen
  by_cases hn : isL b n
  · have hn2 : 0 ≤ n ∧ n < 2 := by have := hn.1; have := hn.2; omega
    have hD := N1.ld hn.1 hn.2; have hA := N1.la hn.1 hn.2
    rw [sel_t hn, if_neg (by omega)]
    by_cases hp : Pl (lg b n) p
    · have hP : isP b n p := ⟨hn, hp⟩
      have b2 := Pl.i hD hp
      have L := L1 hP
      rw [hr, sel_t hP] at L ⊢
      rw [if_neg (by omega)]
      refine Ec_ite (fun e => Ec_some ⟨hb, fq, C1, by rw [sel_f (fun z => z.2.2 e)]⟩) (fun e => ?_)
      simp (disch := omega) only [w32_eq, w64_eq, chk_T, chk_t, lt, lm, ob, Int.add_zero, Int.zero_add, true_and, and_true, if_true, if_false, K100, K101, K102, K103, K104, K200, K201, K230, K231, K232, K233, K234, K235, K236, K237, K250, K251, K252, K253, K254, K300, K301, K302, K303, K304, N101, N102, N103, N104, N201, N232, N233, N234, N235, N236, N237, N251, N252, N253, N254, N301, N302, N303, N304, La_k hA, La_k1 hA, La_n1 hA, La_k2 hA, La_n2 hA, La_k3 hA, La_n3 hA, La_k4 hA, La_n4 hA, La_k5 hA, La_n5 hA, La_f6 hA, La_f7 hA, La_f8 hA, La_f9 hA, La_f10 hA, La_0 hA, La_1 hA, La_2 hA, La_3 hA, La_4 hA, La_5 hA, La_h hA, La_a hA, La_t hA, La_fr hA, La_to hA, c_has hA hD, L.1.k, bi_if]
      by_cases hq : Pl (lg b n) q
      · have b3 := Pl.i hD hq
        rw [sel_t hq, sel_t ⟨hP, hq, e⟩, c_shows L.1 L.2.1 L.2.2.2.2.2.2 b3.1 (by omega)]
        simp only [ob, bi_if]
        have ee : vS (lg b n) p q ↔ zSeen (lg b n) p q := ⟨fun z => z.2.2, fun z => ⟨hq, Ne.symm e, z⟩⟩
        by_cases y : zSeen (lg b n) p q
        · rw [sel_t (ee.mpr y)]; exact Ec_some ⟨hb, fq, C1, (bi_t y).symm⟩
        · rw [sel_f (fun z => y (ee.mp z))]; exact Ec_some ⟨hb, fq, C1, (bi_f y).symm⟩
      · rw [sel_f hq, sel_f (fun z => hq z.2.1)]
        exact Ec_some ⟨hb, fq, C1, rfl⟩
    · rw [hr, sel_f (fun z => hp z.2), if_pos rfl, sel_f (fun z => hp z.1.2)]
      exact Ec_some ⟨hb, fq, C1, rfl⟩
  · rw [sel_f hn, if_pos rfl, sel_f (fun z => hn z.1.1)]
    exact Ec_some ⟨hb, fq, C1, rfl⟩
/-- a question about one skyline: what is asked, given the line -/
theorem q_line {μ : Mm} {b : Int → Int} {vb : Int} (hW : Nw μ b) (hC : Ca μ b vb) (hvb : 0 ≤ vb) {n p : Int} {P : Int → Prop} {f : ((Int × Mm) × Nat × Nat) → Option ((Int × Mm) × Nat × Nat)} (h0 : ¬isP b n p → ∃ v, P v ∧ ∀ μ1 cc nn, f ((0, μ1), cc, nn) = pay cc nn (some ((v, μ1), 0, 0))) (h1 : isP b n p → ∀ μ1, Nw μ1 b → Fw Rq μ μ1 → Ca μ1 b vb → LdOk (lg b n) → Li μ1 (10100 + 2000 * n + 10 * p) (lg b n) p → ∀ cc nn, ∃ y, f ((10100 + 2000 * n + 10 * p, μ1), cc, nn) = pay cc nn y ∧ Ec y (Bd μ1) (QP μ b vb P)) : Ec ((fX10_lineAt 100 n p μ).bind f) (Bd μ) (QP μ b vb P) := by
  refine Ec_bind (c_lineAt hW hC hvb) ?_
  rintro ⟨r, μ1⟩ b1 ⟨hb, hr, f1, C1, L1⟩ cc nn
  dsimp only at hb hr f1 C1 L1
  have fq : Fw Rq μ μ1 := f1.mo (fun x hx => Rq_l hx)
  have N1 := hW.q fq
  rw [hb]
  by_cases hP : isP b n p
  · have L := L1 hP
    rw [hr, sel_t hP] at L
    rw [hr, sel_t hP]
    exact h1 hP μ1 N1 fq C1 (N1.ld hP.1.1 hP.1.2) L cc nn
  · obtain ⟨v, hv, e⟩ := h0 hP
    rw [hr, sel_f hP]
    exact ⟨_, e μ1 cc nn, Ec_some ⟨rfl, fq, C1, hv⟩⟩
theorem nz {n p : Int} (h : 0 ≤ n ∧ 0 ≤ p) : ¬(10100 + 2000 * n + 10 * p = 0) := by omega
noncomputable def zzRay (b : Int → Int) (n p k : Int) : Int := sel (isP b n p) (if k = -1 then nR (lg b n) p else sel (0 ≤ k ∧ k < nR (lg b n) p) (T (lg b n) p k) (-1)) (-1)
theorem q_ray {μ : Mm} {b : Int → Int} {vb : Int} (hW : Nw μ b) (hC : Ca μ b vb) (hvb : 0 ≤ vb) (n p k : Int) : Ec (fX10_ray 100 n p k μ) (Bd μ) (QP μ b vb (fun r => r = zzRay b n p k)) := by
  unfold fX10_ray zzRay
  simp (disch := omega) only [w32_eq, w64_eq, chk_T, chk_t, lt, lm, ob, Int.add_zero, Int.zero_add, true_and, and_true, if_true, if_false, K100, K101, K102, K103, K104, K200, K201, K230, K231, K232, K233, K234, K235, K236, K237, K250, K251, K252, K253, K254, K300, K301, K302, K303, K304, N101, N102, N103, N104, N201, N232, N233, N234, N235, N236, N237, N251, N252, N253, N254, N301, N302, N303, N304, ]
  refine q_line hW hC hvb (fun z => ⟨_, rfl, fun μ1 cc nn => by dsimp only; rw [if_pos rfl, sel_f z]⟩) (fun hP μ1 N1 fq C1 hD L cc nn => ⟨_, rfl, ?_⟩)
  dsimp only
  rw [if_neg (nz ⟨hP.1.1, hP.2.1⟩), sel_t hP]
  refine Ec_ite (fun e => ?_) (fun e => ?_)
  · rw [if_pos e]; exact Ec_chk L.1.k (Ec_some ⟨rfl, fq, C1, L.2.2.1.1⟩)
  · rw [if_neg e, c_topOfRay L hD hP.2]
    simp only [ob]
    exact Ec_chk L.1.k (Ec_some ⟨rfl, fq, C1, rfl⟩)
noncomputable def zzHump (b : Int → Int) (n p k : Int) : Int := sel (isP b n p) (if k = -1 then hN (lg b n) p else sel (0 ≤ k ∧ k < hN (lg b n) p) (hT (lg b n) p k) (-1)) (-1)
theorem q_hump {μ : Mm} {b : Int → Int} {vb : Int} (hW : Nw μ b) (hC : Ca μ b vb) (hvb : 0 ≤ vb) (n p k : Int) : Ec (fX10_hump 100 n p k μ) (Bd μ) (QP μ b vb (fun r => r = zzHump b n p k)) := by
  unfold fX10_hump zzHump
  simp (disch := omega) only [w32_eq, w64_eq, chk_T, chk_t, lt, lm, ob, Int.add_zero, Int.zero_add, true_and, and_true, if_true, if_false, K100, K101, K102, K103, K104, K200, K201, K230, K231, K232, K233, K234, K235, K236, K237, K250, K251, K252, K253, K254, K300, K301, K302, K303, K304, N101, N102, N103, N104, N201, N232, N233, N234, N235, N236, N237, N251, N252, N253, N254, N301, N302, N303, N304, ]
  refine q_line hW hC hvb (fun z => ⟨_, rfl, fun μ1 cc nn => by dsimp only; rw [if_pos rfl, sel_f z]⟩) (fun hP μ1 N1 fq C1 hD L cc nn => ⟨_, rfl, ?_⟩)
  dsimp only
  rw [if_neg (nz ⟨hP.1.1, hP.2.1⟩), sel_t hP]
  refine Ec_ite (fun e => ?_) (fun e => ?_)
  · rw [if_pos e]; exact Ec_chk L.1.k (Ec_some ⟨rfl, fq, C1, L.2.2.1.2.1⟩)
  · rw [if_neg e, c_topOfHump L hD hP.2]
    simp only [ob]
    exact Ec_chk L.1.k (Ec_some ⟨rfl, fq, C1, rfl⟩)
noncomputable def zzSteeper (b : Int → Int) (n p i k : Int) : Int := sel (isP b n p ∧ (0 ≤ i ∧ i < hN (lg b n) p) ∧ 0 ≤ k ∧ k < hN (lg b n) p) (sg (zT (lg b n) p (hT (lg b n) p i) (hT (lg b n) p k))) (-2)
theorem q_steeper {μ : Mm} {b : Int → Int} {vb : Int} (hW : Nw μ b) (hC : Ca μ b vb) (hvb : 0 ≤ vb) (n p i k : Int) : Ec (fX10_steeper 100 n p i k μ) (Bd μ) (QP μ b vb (fun r => r = zzSteeper b n p i k)) := by
  unfold fX10_steeper zzSteeper
  simp (disch := omega) only [w32_eq, w64_eq, chk_T, chk_t, lt, lm, ob, Int.add_zero, Int.zero_add, true_and, and_true, if_true, if_false, K100, K101, K102, K103, K104, K200, K201, K230, K231, K232, K233, K234, K235, K236, K237, K250, K251, K252, K253, K254, K300, K301, K302, K303, K304, N101, N102, N103, N104, N201, N232, N233, N234, N235, N236, N237, N251, N252, N253, N254, N301, N302, N303, N304, ]
  refine q_line hW hC hvb (fun z => ⟨_, rfl, fun μ1 cc nn => by dsimp only; rw [if_pos rfl, sel_f (fun y => z y.1)]⟩) (fun hP μ1 N1 fq C1 hD L cc nn => ⟨_, rfl, ?_⟩)
  dsimp only
  rw [if_neg (nz ⟨hP.1.1, hP.2.1⟩)]
  simp only [c_hasHump L hD hP.2, ob, bi_if]
  refine Ec_chk L.1.k ?_
  by_cases h1 : 0 ≤ i ∧ i < hN (lg b n) p
  · rw [sel_t h1]
    by_cases h2 : 0 ≤ k ∧ k < hN (lg b n) p
    · have nb := hN_b hD hP.2
      rw [sel_t h2, sel_t ⟨hP, h1, h2⟩]
      have i1 := hI_ok hD hP.2 h1.1 h1.2; have i2 := hI_ok hD hP.2 h2.1 h2.2
      have e1 := L.2.2.2.2.1 i h1.1 h1.2; have e2 := L.2.2.2.2.1 k h2.1 h2.2
      simp (disch := omega) only [w32_eq, w64_eq, chk_T, chk_t, lt, lm, ob, Int.add_zero, Int.zero_add, true_and, and_true, if_true, if_false, LiK.k L.1, LiK.k1 L.1, LiK.n1 L.1, LiK.k2 L.1, LiK.n2 L.1, LiK.k3 L.1, LiK.n3 L.1, LiK.k4 L.1, LiK.n4 L.1, LiK.k5 L.1, LiK.n5 L.1, LiK.k6 L.1, LiK.n6 L.1, LiF.f4 L.2.1, LiF.f5 L.2.1, LiF.f6 L.2.1, LiF.f7 L.2.1, LiF.f8 L.2.1, LiF.f9 L.2.1, e1, e2, c_weigh L.1 L.2.1 L.2.2.2.1 hD hP.2 i1.1 i2.1]
      exact Ec_some ⟨rfl, fq, C1, rfl⟩
    · rw [sel_f h2, sel_f (fun z => h2 z.2.2)]; exact Ec_some ⟨rfl, fq, C1, rfl⟩
  · rw [sel_f h1, sel_f (fun z => h1 z.2.1)]; exact Ec_some ⟨rfl, fq, C1, rfl⟩
noncomputable def cS (g : Int → Int) (p : Int) : Int := ct (vS g p) 144
theorem vS_144 {g : Int → Int} {p q : Int} (hL : LdOk g) (h : 144 ≤ q) : ¬vS g p q := fun z => by have := Pl.i hL z.1; omega
theorem c_cS {μ : Mm} {s p : Int} {g : Int → Int} (L : Li μ s g p) (hL : LdOk g) : fX7_countShown s μ = some (cS g p) := c_countShown L.1 L.2.1 L.2.2.2.2.2.2 (fun q h => vS_144 hL h)
noncomputable def zzSees (b : Int → Int) (n p : Int) : Int := sel (isP b n p) (cS (lg b n) p) (-1)
theorem q_sees {μ : Mm} {b : Int → Int} {vb : Int} (hW : Nw μ b) (hC : Ca μ b vb) (hvb : 0 ≤ vb) (n p : Int) : Ec (fX10_sees 100 n p μ) (Bd μ) (QP μ b vb (fun r => r = zzSees b n p)) := by
  unfold fX10_sees zzSees
  simp (disch := omega) only [w32_eq, w64_eq, chk_T, chk_t, lt, lm, ob, Int.add_zero, Int.zero_add, true_and, and_true, if_true, if_false, K100, K101, K102, K103, K104, K200, K201, K230, K231, K232, K233, K234, K235, K236, K237, K250, K251, K252, K253, K254, K300, K301, K302, K303, K304, N101, N102, N103, N104, N201, N232, N233, N234, N235, N236, N237, N251, N252, N253, N254, N301, N302, N303, N304, ]
  refine q_line hW hC hvb (fun z => ⟨_, rfl, fun μ1 cc nn => by dsimp only; rw [if_pos rfl, sel_f z]⟩) (fun hP μ1 N1 fq C1 hD L cc nn => ⟨_, rfl, ?_⟩)
  dsimp only
  rw [if_neg (nz ⟨hP.1.1, hP.2.1⟩), sel_t hP, c_cS L hD]
  simp only [ob]
  exact Ec_chk L.1.k (Ec_some ⟨rfl, fq, C1, rfl⟩)
/-- a question about all skylines of a land: the scene -/
theorem q_scene {μ : Mm} {b : Int → Int} {vb : Int} (hW : Nw μ b) (hC : Ca μ b vb) (hvb : 0 ≤ vb) {n : Int} {P : Int → Prop} {f : ((Int × Mm) × Nat × Nat) → Option ((Int × Mm) × Nat × Nat)} (h0 : ¬isL b n → ∃ v, P v ∧ ∀ μ1 cc nn, f ((0, μ1), cc, nn) = pay cc nn (some ((v, μ1), 0, 0))) (h1 : isL b n → ∀ μ1, Nw μ1 b → Fw Rq μ μ1 → Ca μ1 b vb → LdOk (lg b n) → μ1 102 n ≠ 0 → ∀ cc nn, ∃ y, f ((10000 + 2000 * n, μ1), cc, nn) = pay cc nn y ∧ Ec y (Bd μ1) (QP μ b vb P)) : Ec ((fX10_sceneAt 100 n μ).bind f) (Bd μ) (QP μ b vb P) := by
  have n0 := hW.n0
  refine Ec_bind (c_sceneAt hW hC hvb) ?_
  rintro ⟨r, μ1⟩ b1 ⟨hb, hr, f1, C1, s1, sn⟩ cc nn
  dsimp only at hb hr f1 C1 s1 sn
  rw [hb]
  by_cases hL : isL b n
  · have hn2 : 0 ≤ n ∧ n < 2 := by have := hL.1; have := hL.2; omega
    have fq : Fw Rq μ μ1 := f1.mo (fun x hx => Rq_sc hn2 hx)
    have N1 := hW.q fq
    rw [hr, sel_t hL]
    exact h1 hL μ1 N1 fq C1 (N1.ld hL.1 hL.2) (s1 hL) cc nn
  · obtain ⟨v, hv, e⟩ := h0 hL
    have z := sn hL
    subst z
    rw [hr, sel_f hL]
    exact ⟨_, e μ1 cc nn, Ec_some ⟨rfl, Fw.rf, C1, hv⟩⟩
/-- what a scene in use tells -/
theorem sc_k {μ : Mm} {b : Int → Int} {vb n : Int} (hW : Nw μ b) (hC : Ca μ b vb) (hL : isL b n) (hs : μ 102 n ≠ 0) : KD (10000 + 2000 * n) = 4 ∧ μ (10000 + 2000 * n) 0 = 1010 + 10 * n ∧ KD (1010 + 10 * n) = 2 ∧ fX2_places (1010 + 10 * n) μ = some (np (lg b n)) := by
  have n0 := hW.n0
  have hn2 : 0 ≤ n ∧ n < 2 := by have := hL.1; have := hL.2; omega
  obtain ⟨e, S⟩ := hC.sn hn2 hs
  have hA := hW.la hL.1 hL.2
  exact ⟨(ScK_q (by omega)).1, S.1.1, La_k hA, c_places hA (hW.ld hL.1 hL.2)⟩
theorem lnR_q {n p x : Int} (hn : 0 ≤ n ∧ n < 2) (hp : 0 ≤ p ∧ p < 144) (h : lnR (10000 + 2000 * n) p x) : Rq x := by unfold lnR sR0 at h; unfold Rq; omega
/-- one line after the other -/
theorem c_ln {μ0 μ : Mm} {b : Int → Int} {vb n p : Int} (hW : Nw μ b) (hC : Ca μ b vb) (f0 : Fw Rq μ0 μ) (hL : isL b n) (hs : μ 102 n ≠ 0) (hp : Pl (lg b n) p) : Ec (fX4_lineOf (10000 + 2000 * n) p μ) (Bd μ) (fun r b' => b' = Bd r.2 ∧ r.1 = 10100 + 2000 * n + 10 * p ∧ Fw Rq μ0 r.2 ∧ Nw r.2 b ∧ Ca r.2 b vb ∧ r.2 102 n ≠ 0 ∧ Li r.2 (10100 + 2000 * n + 10 * p) (lg b n) p) := by
  have n0 := hW.n0
  have hn2 : 0 ≤ n ∧ n < 2 := by have := hL.1; have := hL.2; omega
  have b1 := Pl.i (hW.ld hL.1 hL.2) hp
  refine Ec_mono (c_lineOf hW hC hL hs hp) ?_
  rintro ⟨r, μ1⟩ b' ⟨h1, h2, h3, h4, h5⟩
  have fq : Fw Rq μ μ1 := h3.mo (fun x hx => lnR_q hn2 b1 hx)
  refine ⟨h1, h2, f0.tr fq, hW.q fq, h4, ?_, h5⟩
  have := h3 102 (by unfold lnR sR0; omega)
  dsimp only at this ⊢; rw [this]; exact hs
/-- the first place from which most is seen -/
def Mx (g : Int → Int) (n r : Int) : Prop := (0 ≤ r ∧ r < n) ∧ (∀ q, 0 ≤ q → q < r → cS g q < cS g r) ∧ ∀ q, 0 ≤ q → q < n → cS g q ≤ cS g r
theorem Mx_u {g : Int → Int} {n r s : Int} (h : Mx g n r) (k : Mx g n s) : r = s := by
  rcases Int.lt_trichotomy r s with z | z | z
  · have := k.2.1 r h.1.1 z; have := h.2.2 s k.1.1 k.1.2; omega
  · exact z
  · have := h.2.1 s k.1.1 z; have := k.2.2 r h.1.1 h.1.2; omega
def ZMost (b : Int → Int) (n r : Int) : Prop := (isL b n ∧ Mx (lg b n) (np (lg b n)) r) ∨ (¬isL b n ∧ r = -1)
theorem q_most {μ : Mm} {b : Int → Int} {vb : Int} (hW : Nw μ b) (hC : Ca μ b vb) (hvb : 0 ≤ vb) (n : Int) : Ec (fX10_most 100 n μ) (Bd μ) (QP μ b vb (ZMost b n)) := by
  unfold fX10_most
  simp (disch := omega) only [w32_eq, w64_eq, chk_T, chk_t, lt, lm, ob, Int.add_zero, Int.zero_add, true_and, and_true, if_true, if_false, K100, K101, K102, K103, K104, K200, K201, K230, K231, K232, K233, K234, K235, K236, K237, K250, K251, K252, K253, K254, K300, K301, K302, K303, K304, N101, N102, N103, N104, N201, N232, N233, N234, N235, N236, N237, N251, N252, N253, N254, N301, N302, N303, N304, ]
  refine q_scene hW hC hvb (fun z => ⟨-1, .inr ⟨z, rfl⟩, fun μ1 cc nn => by dsimp only; rw [if_pos rfl]⟩) (fun hL μ1 N1 fq C1 hD hs cc nn => ⟨_, rfl, ?_⟩)
  dsimp only
  have nb := np_b hD
  rw [if_neg (by have := hL.1; omega)]
  refine Ec_bind (Ec_lop (P := fun r b' => b' = Bd r.2 ∧ Fw Rq μ r.2 ∧ Ca r.2 b vb ∧ Mx (lg b n) (np (lg b n)) r.1) (fun t b' => b' = Bd t.2.2 ∧ Fw Rq μ t.2.2 ∧ Nw t.2.2 b ∧ Ca t.2.2 b vb ∧ t.2.2 102 n ≠ 0 ∧ (1 ≤ t.2.1 ∧ t.2.1 ≤ np (lg b n)) ∧ Mx (lg b n) t.2.1 t.1) (fun t => (np (lg b n) - t.2.1).toNat) ⟨rfl, fq, N1, C1, hs, (by first | omega | (dsimp only; omega) | (dsimp only)), (by first | omega | (dsimp only; omega) | (dsimp only)), ?_, ?_⟩ (by unfold FU; dsimp only; omega) ?_) ?_
  · intro q a b; dsimp only at b; omega
  · intro q a b; dsimp only at b; have : q = 0 := by omega
    subst this; exact Int.le_refl _
  · rintro ⟨v3, v4, μ2⟩ b2 ⟨hb, f2, N2, C2, s2, h4, hM⟩
    dsimp only at hb f2 N2 C2 s2 h4 hM ⊢
    obtain ⟨k1, k2, k3, k4⟩ := sc_k N2 C2 hL s2
    unfold sX10_most_17
    simp (disch := omega) only [w32_eq, w64_eq, chk_T, chk_t, lt, lm, ob, Int.add_zero, Int.zero_add, true_and, and_true, if_true, if_false, k1, k2, k3, k4]
    rw [hb]
    refine Ec_ite (fun z => Ec_outA ⟨rfl, f2, C2, ?_⟩) (fun z => ?_)
    · have e : v4 = np (lg b n) := by omega
      rw [e] at hM; exact hM
    · refine Ec_bind (c_ln N2 C2 f2 hL s2 (p := v4) ⟨by omega, by omega⟩) ?_
      rintro ⟨r5, μ5⟩ b5 ⟨hb5, hr5, f5, N5, C5, s5, L5⟩ cc nn
      refine ⟨_, rfl, ?_⟩
      dsimp only at hb5 hr5 f5 N5 C5 s5 L5 ⊢
      subst hb5 hr5
      rw [c_cS L5 hD]
      simp only [ob]
      refine Ec_chk L5.1.k ?_
      refine Ec_bind (c_ln N5 C5 f5 hL s5 (p := v3) ⟨by have := hM.1; omega, by have := hM.1; omega⟩) ?_
      rintro ⟨r6, μ6⟩ b6 ⟨hb6, hr6, f6, N6, C6, s6, L6⟩ cc nn
      refine ⟨_, rfl, ?_⟩
      dsimp only at hb6 hr6 f6 N6 C6 s6 L6 ⊢
      subst hb6 hr6
      rw [c_cS L6 hD]
      simp only [ob]
      refine Ec_chk L6.1.k ?_
      refine Ec_ite (fun y => Ec_inA ⟨rfl, f6, N6, C6, s6, (by first | omega | (dsimp only; omega) | (dsimp only)), ?_⟩ (by first | omega | (dsimp only; omega) | (dsimp only))) (fun y => Ec_inA ⟨rfl, f6, N6, C6, s6, (by first | omega | (dsimp only; omega) | (dsimp only)), ?_⟩ (by first | omega | (dsimp only; omega) | (dsimp only)))
      · have hm1 := hM.1
        refine ⟨⟨(by first | omega | (dsimp only; omega) | (dsimp only)), (by first | omega | (dsimp only; omega) | (dsimp only))⟩, hM.2.1, fun q a c => ?_⟩
        dsimp only at c ⊢
        by_cases e : q = v4
        · subst e; exact y
        · exact hM.2.2 q a (by omega)
      · refine ⟨⟨(by first | omega | (dsimp only; omega) | (dsimp only)), (by first | omega | (dsimp only; omega) | (dsimp only))⟩, fun q a c => ?_, fun q a c => ?_⟩
        · dsimp only at c ⊢; have := hM.2.2 q a c; omega
        · dsimp only at c ⊢
          by_cases e : q = v4
          · subst e; exact Int.le_refl _
          · have := hM.2.2 q a (by omega); omega
  · rintro ⟨r, μ2⟩ b2 ⟨h1, h2, h3, h4⟩ cc nn
    exact ⟨_, rfl, Ec_some ⟨h1, h2, h3, .inl ⟨hL, h4⟩⟩⟩
def hid (g : Int → Int) (q : Int) : Prop := ¬∃ p, Pl g p ∧ vS g p q
theorem c_isShown {μ0 μ : Mm} {b : Int → Int} {vb n q : Int} (hW : Nw μ b) (hC : Ca μ b vb) (f0 : Fw Rq μ0 μ) (hL : isL b n) (hD : LdOk (lg b n)) (hs : μ 102 n ≠ 0) (hq : Pl (lg b n) q) : Ec (fX10_isShown (10000 + 2000 * n) q μ) (Bd μ) (fun r b' => b' = Bd r.2 ∧ Fw Rq μ0 r.2 ∧ Nw r.2 b ∧ Ca r.2 b vb ∧ r.2 102 n ≠ 0 ∧ r.1 = bi (¬hid (lg b n) q)) := by
  have nb := np_b hD
  have bq := Pl.i hD hq
  unfold fX10_isShown
  refine Ec_bind (Ec_lop (P := fun r b' => ∃ μ', (r = .inl μ' ∧ hid (lg b n) q ∨ r = .inr μ' ∧ ¬hid (lg b n) q) ∧ b' = Bd μ' ∧ Fw Rq μ0 μ' ∧ Nw μ' b ∧ Ca μ' b vb ∧ μ' 102 n ≠ 0) (fun t b' => b' = Bd t.2 ∧ Fw Rq μ0 t.2 ∧ Nw t.2 b ∧ Ca t.2 b vb ∧ t.2 102 n ≠ 0 ∧ (0 ≤ t.1 ∧ t.1 ≤ np (lg b n)) ∧ ∀ p, 0 ≤ p → p < t.1 → ¬vS (lg b n) p q) (fun t => (np (lg b n) - t.1).toNat) ⟨rfl, f0, hW, hC, hs, (by first | omega | (dsimp only; omega) | (dsimp only)), fun p a b => by dsimp only at b; omega⟩ (by unfold FU; dsimp only; omega) ?_) ?_
  · rintro ⟨v2, μ2⟩ b2 ⟨hb, f2, N2, C2, s2, h4, hM⟩
    dsimp only at hb f2 N2 C2 s2 h4 hM ⊢
    obtain ⟨k1, k2, k3, k4⟩ := sc_k N2 C2 hL s2
    unfold sX10_isShown_2
    simp (disch := omega) only [w32_eq, w64_eq, chk_T, chk_t, lt, lm, ob, Int.add_zero, Int.zero_add, true_and, and_true, if_true, if_false, k1, k2, k3, k4]
    rw [hb]
    refine Ec_ite (fun z => Ec_outA ⟨μ2, .inl ⟨rfl, ?_⟩, rfl, f2, N2, C2, s2⟩) (fun z => ?_)
    · rintro ⟨p, hp, hv⟩; exact hM p hp.1 (by have := hp.2; omega) hv
    · have hp2 : Pl (lg b n) v2 := ⟨by omega, by omega⟩
      refine Ec_bind (c_ln N2 C2 f2 hL s2 hp2) ?_
      rintro ⟨r5, μ5⟩ b5 ⟨hb5, hr5, f5, N5, C5, s5, L5⟩ cc nn
      refine ⟨_, rfl, ?_⟩
      dsimp only at hb5 hr5 f5 N5 C5 s5 L5 ⊢
      subst hb5 hr5
      rw [c_shows L5.1 L5.2.1 L5.2.2.2.2.2.2 bq.1 (by omega)]
      simp only [ob, bi_if]
      refine Ec_chk L5.1.k ?_
      by_cases y : vS (lg b n) v2 q
      · rw [sel_t y]; exact Ec_outA ⟨μ5, .inr ⟨rfl, fun h => h ⟨v2, hp2, y⟩⟩, rfl, f5, N5, C5, s5⟩
      · rw [sel_f y]
        refine Ec_inA ⟨rfl, f5, N5, C5, s5, (by first | omega | (dsimp only; omega) | (dsimp only)), fun p a c => ?_⟩ (by first | omega | (dsimp only; omega) | (dsimp only))
        dsimp only at c
        by_cases e : p = v2
        · subst e; exact y
        · exact hM p a (by omega)
  · rintro r b2 ⟨μ', hr, h1, h2, h3, h4, h5⟩ cc nn
    rcases hr with ⟨e, hh⟩ | ⟨e, hh⟩
    · subst e; exact ⟨_, rfl, Ec_some ⟨h1, h2, h3, h4, h5, (bi_f (fun z => z hh)).symm⟩⟩
    · subst e; exact ⟨_, rfl, Ec_some ⟨h1, h2, h3, h4, h5, (bi_t hh).symm⟩⟩
noncomputable def zzHidden (b : Int → Int) (n : Int) : Int := sel (isL b n) (ct (hid (lg b n)) (np (lg b n)).toNat) (-1)
theorem q_hidden {μ : Mm} {b : Int → Int} {vb : Int} (hW : Nw μ b) (hC : Ca μ b vb) (hvb : 0 ≤ vb) (n : Int) : Ec (fX10_hidden 100 n μ) (Bd μ) (QP μ b vb (fun r => r = zzHidden b n)) := by
  unfold fX10_hidden zzHidden
  simp (disch := omega) only [w32_eq, w64_eq, chk_T, chk_t, lt, lm, ob, Int.add_zero, Int.zero_add, true_and, and_true, if_true, if_false, K100, K101, K102, K103, K104, K200, K201, K230, K231, K232, K233, K234, K235, K236, K237, K250, K251, K252, K253, K254, K300, K301, K302, K303, K304, N101, N102, N103, N104, N201, N232, N233, N234, N235, N236, N237, N251, N252, N253, N254, N301, N302, N303, N304, ]
  refine q_scene hW hC hvb (fun z => ⟨_, rfl, fun μ1 cc nn => by dsimp only; rw [if_pos rfl, sel_f z]⟩) (fun hL μ1 N1 fq C1 hD hs cc nn => ⟨_, rfl, ?_⟩)
  dsimp only
  have nb := np_b hD
  rw [if_neg (by have := hL.1; omega), sel_t hL]
  refine Ec_bind (Ec_lop (P := fun r b' => b' = Bd r.2 ∧ Fw Rq μ r.2 ∧ Ca r.2 b vb ∧ r.1 = ct (hid (lg b n)) (np (lg b n)).toNat) (fun t b' => b' = Bd t.2.2 ∧ Fw Rq μ t.2.2 ∧ Nw t.2.2 b ∧ Ca t.2.2 b vb ∧ t.2.2 102 n ≠ 0 ∧ (0 ≤ t.2.1 ∧ t.2.1 ≤ np (lg b n)) ∧ t.1 = ct (hid (lg b n)) t.2.1.toNat) (fun t => (np (lg b n) - t.2.1).toNat) ⟨rfl, fq, N1, C1, hs, (by first | omega | (dsimp only; omega) | (dsimp only)), rfl⟩ (by unfold FU; dsimp only; omega) ?_) ?_
  · rintro ⟨v3, v4, μ2⟩ b2 ⟨hb, f2, N2, C2, s2, h4, hM⟩
    dsimp only at hb f2 N2 C2 s2 h4 hM ⊢
    obtain ⟨k1, k2, k3, k4⟩ := sc_k N2 C2 hL s2
    have cb := ct_b (hid (lg b n)) v4.toNat
    unfold sX10_hidden_17
    simp (disch := omega) only [w32_eq, w64_eq, chk_T, chk_t, lt, lm, ob, Int.add_zero, Int.zero_add, true_and, and_true, if_true, if_false, k1, k2, k3, k4]
    rw [hb]
    refine Ec_ite (fun z => Ec_outA ⟨rfl, f2, C2, ?_⟩) (fun z => ?_)
    · have e : v4 = np (lg b n) := by omega
      rw [e] at hM; exact hM
    · refine Ec_bind (c_isShown N2 C2 f2 hL hD s2 (q := v4) ⟨by omega, by omega⟩) ?_
      rintro ⟨r5, μ5⟩ b5 ⟨hb5, f5, N5, C5, s5, hr5⟩ cc nn
      refine ⟨_, rfl, ?_⟩
      dsimp only at hb5 hr5 f5 N5 C5 s5 ⊢
      subst hb5 hr5
      have es := ct_s (P := hid (lg b n)) h4.1
      rw [bi_if]
      by_cases y : hid (lg b n) v4
      · rw [sel_f (fun q => q y)]
        rw [bi_t y] at es
        exact Ec_inA ⟨rfl, f5, N5, C5, s5, (by first | omega | (dsimp only; omega) | (dsimp only)), (by first | omega | (dsimp only; omega) | (dsimp only))⟩ (by first | omega | (dsimp only; omega) | (dsimp only))
      · rw [sel_t y]
        rw [bi_f y] at es
        exact Ec_inA ⟨rfl, f5, N5, C5, s5, (by first | omega | (dsimp only; omega) | (dsimp only)), (by first | omega | (dsimp only; omega) | (dsimp only))⟩ (by first | omega | (dsimp only; omega) | (dsimp only))
  · rintro ⟨r, μ2⟩ b2 ⟨h1, h2, h3, h4⟩ cc nn
    exact ⟨_, rfl, Ec_some ⟨h1, h2, h3, h4⟩⟩
