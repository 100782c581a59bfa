/-! ===== what the class keeps of its looks ===== -/
def W1 (g : Int → Int) (a q : Int) : Prop := q = a ∨ vS g a q
def Cov (g : Int → Int) (a b c : Int) : Prop := ∀ q, Pl g q → W1 g a q ∨ W1 g b q ∨ W1 g c q
/-- the fewest guards and the first row of them -/
def GdS (g : Int → Int) (r t0 t1 t2 : Int) : Prop :=
  (r = 1 ∧ (0 ≤ t0 ∧ t0 < np g) ∧ Cov g t0 t0 t0 ∧ ∀ a, 0 ≤ a → a < t0 → ¬Cov g a a a) ∨
  (r = 2 ∧ (∀ a, Pl g a → ¬Cov g a a a) ∧ (0 ≤ t0 ∧ t0 < t1 ∧ t1 < np g) ∧ Cov g t0 t1 t1 ∧ ∀ a b, 0 ≤ a → a < b → b < np g → (a < t0 ∨ a = t0 ∧ b < t1) → ¬Cov g a b b) ∨
  (r = 3 ∧ (∀ a, Pl g a → ¬Cov g a a a) ∧ (∀ a b, 0 ≤ a → a < b → b < np g → ¬Cov g a b b) ∧ (0 ≤ t0 ∧ t0 < t1 ∧ t1 < t2 ∧ t2 < np g) ∧ Cov g t0 t1 t2 ∧ ∀ a b c, 0 ≤ a → a < b → b < c → c < np g → (a < t0 ∨ a = t0 ∧ (b < t1 ∨ b = t1 ∧ c < t2)) → ¬Cov g a b c) ∨
  (r = -1 ∧ (∀ a, Pl g a → ¬Cov g a a a) ∧ (∀ a b, 0 ≤ a → a < b → b < np g → ¬Cov g a b b) ∧ ∀ a b c, 0 ≤ a → a < b → b < c → c < np g → ¬Cov g a b c)
def ScF (μ : Mm) (q n : Int) : Prop := μ q 0 = 1010 + 10 * n ∧ μ q 2 = q + 1 ∧ μ q 3 = 230 ∧ μ q 4 = q + 10 ∧ μ q 5 = q + 2 ∧ μ q 6 = q + 3 ∧ μ q 7 = q + 4
def LnI (μ : Mm) (q : Int) (g : Int → Int) (ok : Prop) (p : Int) : Prop := (μ (q + 2) p = 0 ∧ ∀ i, q + 100 + 10 * p ≤ i → i ≤ q + 106 + 10 * p → μ 0 i = 0) ∨ (μ (q + 2) p = q + 100 + 10 * p ∧ LiF μ (q + 100 + 10 * p) ∧ μ (q + 100 + 10 * p) 0 ≤ μ q 1 ∧ (μ (q + 100 + 10 * p) 0 = μ q 1 → ok ∧ Pl g p ∧ Li μ (q + 100 + 10 * p) g p))
def Sn (μ : Mm) (q n : Int) (g : Int → Int) (ok : Prop) (vb : Int) : Prop := ScF μ q n ∧ (0 ≤ μ q 1 ∧ μ q 1 ≤ vb) ∧ (∀ p, 0 ≤ p → p < 144 → LnI μ q g ok p) ∧ (μ q 9 ≤ μ q 1 ∧ (μ q 9 = μ q 1 → ok ∧ GdS g (μ q 8) (μ (q + 1) 0) (μ (q + 1) 1) (μ (q + 1) 2)))
def SI (μ : Mm) (n : Int) (g : Int → Int) (ok : Prop) (vb : Int) : Prop := (μ 102 n = 0 ∧ ∀ x, 10000 + 2000 * n ≤ x → x < 12000 + 2000 * n → μ 0 x = 0) ∨ (μ 102 n = 10000 + 2000 * n ∧ Sn μ (10000 + 2000 * n) n g ok vb)
def FtF (μ : Mm) : Prop := μ 250 4 = 251 ∧ μ 250 9 = 252 ∧ μ 250 10 = 253 ∧ μ 250 11 = 254
def WkF (μ : Mm) : Prop := μ 300 2 = 301 ∧ μ 300 3 = 302 ∧ μ 300 4 = 303 ∧ μ 300 5 = 304
/-- the images that are not there yet -/
def IZ (μ : Mm) : Prop := ∀ k, 0 ≤ k → k < 3 → μ 101 k = 0 → ∀ x, 1100 + 100 * k ≤ x → x < 1200 + 100 * k → μ 0 x = 0
theorem IZ.e {μ μ' : Mm} (h : IZ μ) (e1 : μ' 101 = μ 101) (e2 : ∀ x, 1100 ≤ x → x < 1400 → μ' 0 x = μ 0 x) : IZ μ' := fun k k0 k1 hk x x0 x1 => by
  rw [e2 x (by omega) (by omega)]; rw [e1] at hk; exact h k k0 k1 hk x x0 x1
def Scr (μ : Mm) : Prop := SiF μ ∧ LiF μ 240 ∧ FtF μ ∧ WkF μ ∧ SkF μ 290 ∧ IZ μ
def Ca (μ : Mm) (b : Int → Int) (vb : Int) : Prop := Scr μ ∧ ∀ n, 0 ≤ n → n < 2 → SI μ n (lg b n) (n < b 0) vb
theorem LnI.fw {R : Int → Prop} {μ μ' : Mm} {q p : Int} {g : Int → Int} {ok : Prop} (h : LnI μ q g ok p) (f : Fw R μ μ') (hq : ¬R q) (h2 : ¬R (q + 2)) (hl : ∀ x, q + 100 + 10 * p ≤ x → x ≤ q + 106 + 10 * p → ¬R x) (h0 : ∀ i, q + 100 + 10 * p ≤ i → i ≤ q + 106 + 10 * p → μ' 0 i = μ 0 i) : LnI μ' q g ok p := by
  have e := f (q + 100 + 10 * p) (hl _ (by omega) (by omega))
  unfold LnI LiF; rw [f q hq, f (q + 2) h2, e]
  rcases h with ⟨a, b⟩ | ⟨a, b, c, d⟩
  · exact .inl ⟨a, fun i i0 i1 => (h0 i i0 i1).trans (b i i0 i1)⟩
  · refine .inr ⟨a, b, c, fun z => ⟨(d z).1, (d z).2.1, (d z).2.2.fw f (fun x a b => hl x a (by omega))⟩⟩
theorem SI.fw {R : Int → Prop} {μ μ' : Mm} {n vb : Int} {g : Int → Int} {ok : Prop} (h : SI μ n g ok vb) (f : Fw R μ μ') (h2 : μ' 102 n = μ 102 n) (hq : ∀ x, 10000 + 2000 * n ≤ x → x < 12000 + 2000 * n → ¬R x) (h0 : ∀ x, 10000 + 2000 * n ≤ x → x < 12000 + 2000 * n → μ' 0 x = μ 0 x) : SI μ' n g ok vb := by
  unfold SI; rw [h2]
  rcases h with ⟨a, b⟩ | ⟨a, b, c, d, e⟩
  · exact .inl ⟨a, fun x x0 x1 => (h0 x x0 x1).trans (b x x0 x1)⟩
  · refine .inr ⟨a, ?_, ?_, fun p p0 p1 => (d p p0 p1).fw f (hq _ (by omega) (by omega)) (hq _ (by omega) (by omega)) (fun x a b => hq x (by omega) (by omega)) (fun x a b => h0 x (by omega) (by omega)), ?_⟩
    · unfold ScF; rw [f _ (hq _ (by omega) (by omega))]; exact b
    · rw [f _ (hq _ (by omega) (by omega))]; exact c
    · rw [f (10000 + 2000 * n) (hq _ (by omega) (by omega)), f (10000 + 2000 * n + 1) (hq _ (by omega) (by omega))]; exact e
theorem Scr.fw {R : Int → Prop} {μ μ' : Mm} (h : Scr μ) (f : Fw R μ μ') (h1 : ¬R 230 ∧ ¬R 231 ∧ ¬R 232 ∧ ¬R 233) (h2 : ¬R 240) (h3 : ¬R 250) (h4 : ¬R 300) (h5 : ¬R 290) (h6 : μ' 101 = μ 101) (h7 : ∀ x, 1100 ≤ x → x < 1400 → μ' 0 x = μ 0 x) : Scr μ' := by
  obtain ⟨a, b, c, d, e, i⟩ := h
  refine ⟨a.fw f (fun x x0 x1 => ?_), b.fw f h2, ?_, ?_, ?_, i.e h6 h7⟩
  · have : x = 230 ∨ x = 231 ∨ x = 232 ∨ x = 233 := by omega
    rcases this with z | z | z | z <;> (subst z; first | exact h1.1 | exact h1.2.1 | exact h1.2.2.1 | exact h1.2.2.2)
  · unfold FtF; rw [f _ h3]; exact c
  · unfold WkF; rw [f _ h4]; exact d
  · unfold SkF; rw [f _ h5]; exact e
/-- what may still be made -/
noncomputable def sb (μ : Mm) (n : Int) : Int := if μ 102 n = 0 then 155 else ct (fun p => μ (10002 + 2000 * n) p = 0) 144
noncomputable def ib (μ : Mm) (k : Int) : Int := if μ 101 k = 0 then 20 else 0
noncomputable def Bd (μ : Mm) : Int := 400 * (sb μ 0 + sb μ 1 + ib μ 0 + ib μ 1 + ib μ 2)
theorem Bd_e {μ μ' : Mm} (h1 : μ' 101 = μ 101) (h2 : μ' 102 = μ 102) (h3 : μ' 10002 = μ 10002) (h4 : μ' 12002 = μ 12002) : Bd μ' = Bd μ := by
  unfold Bd sb ib; rw [h1, h2, show (10002 : Int) + 2000 * 0 = 10002 by decide, show (10002 : Int) + 2000 * 1 = 12002 by decide, h3, h4]
theorem ct_upd {P Q : Int → Prop} {k : Int} : ∀ n : Nat, (∀ i, i ≠ k → (P i ↔ Q i)) → 0 ≤ k → k < n → P k → ¬Q k → ct Q n = ct P n - 1
  | 0, _, h0, h1, _, _ => by omega
  | n + 1, h, h0, h1, hp, hq => by
    show ct Q n + bi (Q n) = ct P n + bi (P n) - 1
    by_cases z : k = n
    · have : ct Q n = ct P n := ct_c n (fun i i0 i1 => (h i (by omega)).symm)
      rw [this, ← z, bi_t hp, bi_f hq]; omega
    · rw [ct_upd n h h0 (by omega) hp hq, bi_c (h n (Ne.symm z))]; omega
theorem Bd_line {μ μ' : Mm} {n p : Int} (hn : n = 0 ∨ n = 1) (h1 : μ' 101 = μ 101) (h2 : μ' 102 = μ 102) (hs : μ 102 n ≠ 0) (hp : 0 ≤ p ∧ p < 144) (h3 : ∀ i, i ≠ p → μ' (10002 + 2000 * n) i = μ (10002 + 2000 * n) i) (h4 : ∀ m, m ≠ n → μ' (10002 + 2000 * m) = μ (10002 + 2000 * m)) (h5 : μ (10002 + 2000 * n) p = 0) (h6 : μ' (10002 + 2000 * n) p ≠ 0) : Bd μ' = Bd μ - 400 := by
  have key : sb μ' n = sb μ n - 1 := by
    unfold sb; rw [h2, if_neg hs, if_neg hs]
    exact ct_upd 144 (fun i hi => by rw [h3 i hi]) hp.1 (by omega) h5 h6
  have other : ∀ m, m ≠ n → sb μ' m = sb μ m := by
    intro m hm; unfold sb; rw [h2, h4 m hm]
  have e : ∀ k, ib μ' k = ib μ k := by intro k; unfold ib; rw [h1]
  unfold Bd
  rw [e, e, e]
  rcases hn with z | z
  · subst z; rw [key, other 1 (by decide)]; omega
  · subst z; rw [key, other 0 (by decide)]; omega
theorem c_line38 {μ : Mm} {q n p bb : Int} {b : Int → Int} (hN : Nw μ b) (hSF : SiF μ) (hn : isL b n) (hq : q = 10000 + 2000 * n) (hF : ScF μ q n) (hp : Pl (lg b n) p) (e2 : μ (q + 2) p = q + 100 + 10 * p) (hL : LiF μ (q + 100 + 10 * p)) (hv : μ (q + 100 + 10 * p) 0 = μ q 1 → Li μ (q + 100 + 10 * p) (lg b n) p) : Ec (jX4_lineOf_38 q p μ) bb (fun r b' => b' = bb ∧ r.1 = q + 100 + 10 * p ∧ Fw (fun x => sR0 x ∨ q + 100 + 10 * p ≤ x ∧ x ≤ q + 106 + 10 * p) μ r.2 ∧ SiF r.2 ∧ Li r.2 (q + 100 + 10 * p) (lg b n) p ∧ r.2 (q + 100 + 10 * p) 0 = μ q 1) := by
  have n0 := hN.n0
  have nn : n = 0 ∨ n = 1 := by have := hn.1; have := hn.2; omega
  have hq' : q = 10000 ∨ q = 12000 := by omega
  have hK := ScK_q hq'
  have hD := hN.ld hn.1 hn.2
  have hA := hN.la hn.1 hn.2
  have b1 := Pl.i hD hp
  have lK := hK.2.2.2.2.2.2 p b1.1 b1.2
  unfold jX4_lineOf_38
  obtain ⟨s0, s2, s3, s4, s5, s6, s7⟩ := hF
  simp (disch := omega) only [w32_eq, w64_eq, chk_T, chk_t, lt, lm, ob, Int.add_zero, Int.zero_add, true_and, and_true, if_true, if_false, K100, K101, K102, K103, K104, K200, K201, K230, K231, K232, K233, K234, K235, K236, K237, K250, K251, K252, K253, K254, K300, K301, K302, K303, K304, N101, N102, N103, N104, N201, N232, N233, N234, N235, N236, N237, N251, N252, N253, N254, N301, N302, N303, N304, hK.1, hK.2.2.1.1, hK.2.2.1.2, s0, s3, s5, e2, lK.k]
  refine Ec_ite (fun z => Ec_some ⟨rfl, rfl, Fw.rf, hSF, hv z, z⟩) (fun z => ?_)
  refine Ec_bindE (c_aim hA (by omega) hSF hD hp) (fun μ1 ⟨f1, F1, S1⟩ => ?_)
  have eq1 : μ1 q = μ q := f1 q (by unfold sR0; omega)
  have A1 : La μ1 (1010 + 10 * n) (lg b n) := hA.fw f1 (fun x a b => by unfold sR0; omega)
  have L1 : LiF μ1 (q + 100 + 10 * p) := hL.fw f1 (by unfold sR0; omega)
  simp (disch := omega) only [w32_eq, w64_eq, chk_T, chk_t, lt, lm, ob, Int.add_zero, Int.zero_add, true_and, and_true, if_true, if_false, K100, K101, K102, K103, K104, K200, K201, K230, K231, K232, K233, K234, K235, K236, K237, K250, K251, K252, K253, K254, K300, K301, K302, K303, K304, N101, N102, N103, N104, N201, N232, N233, N234, N235, N236, N237, N251, N252, N253, N254, N301, N302, N303, N304, eq1, s3, s0]
  refine Ec_bindE (c_look A1 lK L1 F1 S1 hD hp (by omega) (by omega)) (fun μ2 ⟨f2, v2, L2⟩ => ?_)
  have eq2 : μ2 q = μ q := (f2 q (by omega)).trans eq1
  rw [eq2]
  refine Ec_some ⟨rfl, rfl, ?_, ?_, ?_, mst_s⟩
  · exact ((f1.mo (fun x hx => .inl hx)).tr (f2.mo (fun x hx => .inr (by omega)))).st (.inr (by omega))
  · exact (F1.fw f2 (fun x a b => by omega)).st (by omega)
  · obtain ⟨k1, k2, k3, k4, k5, k6, k7⟩ := L2
    refine ⟨k1, k2.st (.inr (by omega)), ?_, ?_, ?_, ?_, ?_⟩
    · simp (disch := omega) only [mst_n, mst_s, mst_j, ]; exact k3
    · unfold LiT; simp (disch := omega) only [mst_n, mst_s, mst_j, ]; exact k4
    · simp (disch := omega) only [mst_n, mst_s, mst_j, ]; exact k5
    · simp (disch := omega) only [mst_n, mst_s, mst_j, ]; exact k6
    · unfold Sb; simp (disch := omega) only [mst_n, mst_s, mst_j, ]; exact k7
def lnR (q p x : Int) : Prop := x = 0 ∨ x = q + 2 ∨ sR0 x ∨ q + 100 + 10 * p ≤ x ∧ x ≤ q + 106 + 10 * p
theorem Ca.sn {μ : Mm} {b : Int → Int} {vb n : Int} (h : Ca μ b vb) (hn : 0 ≤ n ∧ n < 2) (hs : μ 102 n ≠ 0) : μ 102 n = 10000 + 2000 * n ∧ Sn μ (10000 + 2000 * n) n (lg b n) (n < b 0) vb := by
  rcases h.2 n hn.1 hn.2 with ⟨a, _⟩ | z
  · exact absurd a hs
  · exact z
theorem c_lineOf {μ : Mm} {n p vb : Int} {b : Int → Int} (hN : Nw μ b) (hC : Ca μ b vb) (hn : isL b n) (hs : μ 102 n ≠ 0) (hp : Pl (lg b n) p) : Ec (fX4_lineOf (10000 + 2000 * n) p μ) (Bd μ) (fun r b' => b' = Bd r.2 ∧ r.1 = 10100 + 2000 * n + 10 * p ∧ Fw (lnR (10000 + 2000 * n) p) μ r.2 ∧ Ca r.2 b vb ∧ Li r.2 (10100 + 2000 * n + 10 * p) (lg b n) p) := by
  have n0 := hN.n0
  have nn : n = 0 ∨ n = 1 := by have := hn.1; have := hn.2; omega
  have hn2 : 0 ≤ n ∧ n < 2 := by omega
  obtain ⟨e102, hSn⟩ := hC.sn hn2 hs
  have hD := hN.ld hn.1 hn.2
  have b1 := Pl.i hD hp
  obtain ⟨hF, hv, hl, hg⟩ := hSn
  generalize hq : 10000 + 2000 * n = q at *
  have hq' : q = 10000 ∨ q = 12000 := by omega
  have hK := ScK_q hq'
  have lK := hK.2.2.2.2.2.2 p b1.1 b1.2
  have eL : 10100 + 2000 * n + 10 * p = q + 100 + 10 * p := by omega
  rw [eL]
  obtain ⟨s0, s2, s3, s4, s5, s6, s7⟩ := hF
  -- putting Ca together again
  have ca : ∀ μ2 : Mm, Fw (lnR q p) μ μ2 → SiF μ2 → (∀ j, j < q + 100 + 10 * p ∨ q + 106 + 10 * p < j → μ2 0 j = μ 0 j) → (∀ i, i ≠ p → μ2 (q + 2) i = μ (q + 2) i) → μ2 (q + 2) p = q + 100 + 10 * p → Li μ2 (q + 100 + 10 * p) (lg b n) p → μ2 (q + 100 + 10 * p) 0 = μ q 1 → Ca μ2 b vb := by
    intro μ2 f2 F2 z2 k2 e2 L2 v2
    refine ⟨⟨F2, ?_, ?_, ?_, ?_, hC.1.2.2.2.2.2.e (f2 101 (by unfold lnR sR0; omega)) (fun x a b => z2 x (by omega))⟩, fun m m0 m1 => ?_⟩
    · exact hC.1.2.1.fw f2 (by unfold lnR sR0; omega)
    · unfold FtF; rw [f2 250 (by unfold lnR sR0; omega)]; exact hC.1.2.2.1
    · unfold WkF; rw [f2 300 (by unfold lnR sR0; omega)]; exact hC.1.2.2.2.1
    · unfold SkF; rw [f2 290 (by unfold lnR sR0; omega)]; exact hC.1.2.2.2.2.1
    · have r102 : μ2 102 = μ 102 := f2 102 (by unfold lnR sR0; omega)
      by_cases hm : m = n
      · subst hm
        have rq : μ2 q = μ q := f2 q (by unfold lnR sR0; omega)
        have rq1 : μ2 (q + 1) = μ (q + 1) := f2 (q + 1) (by unfold lnR sR0; omega)
        refine .inr ?_
        rw [hq, r102]
        refine ⟨e102, ?_, ?_, fun p' p0 p1 => ?_, ?_⟩
        · unfold ScF; rw [rq]; exact ⟨s0, s2, s3, s4, s5, s6, s7⟩
        · rw [rq]; exact hv
        · by_cases hpp : p' = p
          · subst hpp
            refine .inr ⟨e2, L2.2.1, by rw [v2, rq]; exact Int.le_refl _, fun _ => ⟨hn.2, hp, L2⟩⟩
          · have old := hl p' p0 p1
            unfold LnI at old ⊢
            have e3 : μ2 (q + 100 + 10 * p') = μ (q + 100 + 10 * p') := f2 _ (by unfold lnR sR0; omega)
            have e4 : LiF μ2 (q + 100 + 10 * p') = LiF μ (q + 100 + 10 * p') := by unfold LiF; rw [e3]
            rw [k2 p' hpp, rq, e3, e4]
            rcases old with ⟨a, c⟩ | ⟨a, c, d, e⟩
            · exact .inl ⟨a, fun i i0 i1 => (z2 i (by omega)).trans (c i i0 i1)⟩
            · exact .inr ⟨a, c, d, fun z => ⟨(e z).1, (e z).2.1, (e z).2.2.fw f2 (fun x a b => by unfold lnR sR0; omega)⟩⟩
        · rw [rq, rq1]; exact hg
      · exact (hC.2 m m0 m1).fw f2 (by rw [r102]) (fun x a b => by unfold lnR sR0; omega) (fun x a b => z2 x (by omega))
  unfold fX4_lineOf
  rw [if_neg (by omega), if_pos (by omega)]
  rcases hl p b1.1 b1.2 with ⟨z0, z1⟩ | ⟨z0, zF, zv, zL⟩
  · have y0 := z1 (q + 100 + 10 * p) (by omega) (by omega)
    simp (disch := omega) only [w32_eq, w64_eq, chk_T, chk_t, lt, lm, ob, Int.add_zero, Int.zero_add, true_and, and_true, if_true, if_false, hK.1, hK.2.2.1.1, hK.2.2.1.2, s5, z0, lK.k, y0, ne_eq]
    have hz : ∀ i, q + 100 + 10 * p < i → i ≤ q + 100 + 10 * p + 6 → mnw μ (q + 100 + 10 * p) 0 i = 0 := by
      intro i i0 i1; rw [nw_z (by omega) (by omega)]; exact z1 i (by omega) (by omega)
    obtain ⟨μ1, e1, f1, L1, v1, w1⟩ := c_lineInit lK (by omega) hz
    rw [e1]
    simp only [ob]
    have f2 : Fw (fun x => x = 0 ∨ x = q + 2 ∨ q + 100 + 10 * p ≤ x ∧ x ≤ q + 106 + 10 * p) μ (mst μ1 (q + 2) p (q + 100 + 10 * p)) := by
      have := (Fw.nw (R := fun x => x = 0 ∨ x = q + 2 ∨ q + 100 + 10 * p ≤ x ∧ x ≤ q + 106 + 10 * p) (Fw.rf (μ := μ)) (a := q + 100 + 10 * p) (by omega) (by omega)).tr (f1.mo (fun x hx => by omega))
      exact this.st (by omega)
    have N2 : Nw (mst μ1 (q + 2) p (q + 100 + 10 * p)) b := hN.fw f2 (by omega) (fun x a b => by omega)
    have F2 : SiF (mst μ1 (q + 2) p (q + 100 + 10 * p)) := hC.1.1.fw f2 (fun x a b => by omega)
    have rq : mst μ1 (q + 2) p (q + 100 + 10 * p) q = μ q := f2 q (by omega)
    have k38 := c_line38 (bb := Bd μ - 400) N2 F2 hn hq.symm (by unfold ScF; rw [rq]; exact ⟨s0, s2, s3, s4, s5, s6, s7⟩) hp mst_s (L1.st (.inl (by omega))) (by
      intro z; rw [mst_n (by omega), v1, rq] at z; omega)
    refine Ec_pay (b1 := Bd μ - 10) (Ec_pay (b1 := Bd μ - 400) (Ec_mono k38 ?_) (by omega) (by omega)) (by omega) (by omega)
    rintro ⟨r, μ3⟩ b' ⟨hb, hr, f3, F3, L3, v3⟩
    dsimp only at hb hr f3 F3 L3 v3 ⊢
    have f23 : Fw (lnR q p) μ μ3 := (f2.mo (fun x hx => by unfold lnR; omega)).tr (f3.mo (fun x hx => by unfold lnR; unfold sR0 at *; omega))
    have r0 : μ3 0 = mst μ1 (q + 2) p (q + 100 + 10 * p) 0 := f3 0 (by unfold sR0; omega)
    have rq2 : μ3 (q + 2) = mst μ1 (q + 2) p (q + 100 + 10 * p) (q + 2) := f3 (q + 2) (by unfold sR0; omega)
    have o2 : ∀ i, i ≠ p → μ3 (q + 2) i = μ (q + 2) i := by
      intro i hi; rw [rq2, mst_j hi, f1 (q + 2) (by omega), nw_n (by omega) (by omega)]
    refine ⟨?_, hr, f23, ca μ3 f23 F3 ?_ o2 (by rw [rq2, mst_s]) L3 (by rw [v3, rq]), L3⟩
    · rw [hb]
      have e : ∀ m, 10002 + 2000 * m = q + 2 + 2000 * (m - n) := by intro m; omega
      refine (Bd_line (n := n) (p := p) nn (f23 101 (by unfold lnR sR0; omega)) (f23 102 (by unfold lnR sR0; omega)) hs b1 ?_ ?_ ?_ ?_).symm
      · intro i hi; rw [show 10002 + 2000 * n = q + 2 by omega]; exact o2 i hi
      · intro m hm; rw [e]; exact f23 _ (by unfold lnR sR0; omega)
      · rw [show 10002 + 2000 * n = q + 2 by omega]; exact z0
      · rw [show 10002 + 2000 * n = q + 2 by omega, rq2, mst_s]; omega
    · intro j hj; rw [r0, mst_n (by omega), w1 j (by omega), nw_z (by omega) (by omega)]
  · simp (disch := omega) only [w32_eq, w64_eq, chk_T, chk_t, lt, lm, ob, Int.add_zero, Int.zero_add, true_and, and_true, if_true, if_false, hK.1, hK.2.2.1.1, hK.2.2.1.2, s5, z0]
    rw [if_neg (by omega)]
    have k38 := c_line38 (bb := Bd μ) hN hC.1.1 hn hq.symm ⟨s0, s2, s3, s4, s5, s6, s7⟩ hp z0 zF (fun z => (zL z).2.2)
    refine Ec_mono k38 ?_
    rintro ⟨r, μ3⟩ b' ⟨hb, hr, f3, F3, L3, v3⟩
    dsimp only at hb hr f3 F3 L3 v3 ⊢
    have f23 : Fw (lnR q p) μ μ3 := f3.mo (fun x hx => by unfold lnR; unfold sR0 at *; omega)
    have r0 : μ3 0 = μ 0 := f3 0 (by unfold sR0; omega)
    have rq2 : μ3 (q + 2) = μ (q + 2) := f3 (q + 2) (by unfold sR0; omega)
    refine ⟨?_, hr, f23, ca μ3 f23 F3 (fun j _ => by rw [r0]) (fun i _ => by rw [rq2]) (by rw [rq2]; exact z0) L3 v3, L3⟩
    rw [hb]
    have rr : ∀ m : Int, m = 0 ∨ m = 1 → μ3 (10002 + 2000 * m) = μ (10002 + 2000 * m) := by
      intro m hm
      by_cases z : 10002 + 2000 * m = q + 2
      · rw [z]; exact rq2
      · exact f23 _ (by unfold lnR sR0; omega)
    exact (Bd_e (f23 101 (by unfold lnR sR0; omega)) (f23 102 (by unfold lnR sR0; omega)) (rr 0 (.inl rfl)) (rr 1 (.inr rfl))).symm
