/-! ===== the class looks along its rays ===== -/
theorem ray_ct {g : Int → Int} {p k : Int} (hL : LdOk g) (hp : Pl g p) (hk : 0 ≤ k ∧ k < 336) : ∀ t : Nat, t ≤ 11 → (t = 0 ∨ iR g p k t) → ct (oC g p) (11 * k + t).toNat = ct (oC g p) (11 * k).toNat + t
  | 0, _, _ => by simp
  | t + 1, h, hr => by
    have hr : iR g p k ((t : Int) + 1) := by
      rcases hr with z | z
      · omega
      · exact z
    have ih := ray_ct hL hp hk t (by omega) (by
      by_cases z : t = 0
      · exact .inl z
      · exact .inr (iR_mono hL hp hk hr (by omega) (by omega)))
    have oc : oC g p (11 * k + t) := by
      unfold oC; rw [show (11 * k + (t : Int)) / 11 = k by omega, show (11 * k + (t : Int)) % 11 + 1 = (t : Int) + 1 by omega]; exact hr
    have es := ct_s (P := oC g p) (i := 11 * k + t) (by omega)
    rw [bi_t oc] at es
    rw [show 11 * k + ((t + 1 : Nat) : Int) = 11 * k + t + 1 by omega, es, ih]; omega
theorem rP_inj {g : Int → Int} {p k t u : Int} (hL : LdOk g) (hp : Pl g p) (hk : 0 ≤ k ∧ k < 336) (ht : 0 < t) (hu : 0 < u) (h1 : iL g p k t) (h2 : iL g p k u) (e : rP g p k t = rP g p k u) : t = u := by
  have a := (rP_u hk ht h1 hL hp).2; have b := (rP_u hk hu h2 hL hp).2
  rw [e] at a; omega
def lR (s x : Int) : Prop := x = s + 1 ∨ x = s + 2 ∨ x = s + 3 ∨ x = s + 6
/-- after t places of ray k, bits -/
def lQ (g : Int → Int) (p k : Int) (P : Int → Prop) (t x : Int) : Prop := (∃ u, 0 < u ∧ u ≤ t ∧ sR g p k u ∧ x = rP g p k u) ∨ ((∀ u, 0 < u → u ≤ t → x ≠ rP g p k u) ∧ P x)
theorem lQ_s {g : Int → Int} {p k : Int} {P : Int → Prop} {t b : Int} (hL : LdOk g) (hp : Pl g p) (hk : 0 ≤ k ∧ k < 336) (ht : 0 ≤ t) (hr : iR g p k (t + 1)) (hb : b ≠ 0 ↔ sR g p k (t + 1)) (x : Int) : (x = rP g p k (t + 1) ∧ b ≠ 0 ∨ x ≠ rP g p k (t + 1) ∧ lQ g p k P t x) ↔ lQ g p k P (t + 1) x := by
  have mono : ∀ u, 0 < u → u ≤ t + 1 → iL g p k u := fun u h0 h1 => iL_mono hL hp hr.1 (by omega) h1
  have ne : ∀ u, 0 < u → u ≤ t → rP g p k u ≠ rP g p k (t + 1) := fun u h0 h1 e => by
    have := rP_inj hL hp hk h0 (by omega) (mono u h0 (by omega)) (mono _ (by omega) (Int.le_refl _)) e; omega
  constructor
  · rintro (⟨e, z⟩ | ⟨e, (⟨u, u0, u1, u2, u3⟩ | ⟨h1, h2⟩)⟩)
    · exact .inl ⟨t + 1, by omega, Int.le_refl _, hb.mp z, e⟩
    · exact .inl ⟨u, u0, by omega, u2, u3⟩
    · refine .inr ⟨fun u u0 u1 => ?_, h2⟩
      by_cases z : u = t + 1
      · subst z; exact e
      · exact h1 u u0 (by omega)
  · rintro (⟨u, u0, u1, u2, u3⟩ | ⟨h1, h2⟩)
    · by_cases z : u = t + 1
      · subst z; exact .inl ⟨u3, hb.mpr u2⟩
      · exact .inr ⟨by rw [u3]; exact ne u u0 (by omega), .inl ⟨u, u0, by omega, u2, u3⟩⟩
    · exact .inr ⟨h1 _ (by omega) (Int.le_refl _), .inr ⟨fun u u0 u1 => h1 u u0 (by omega), h2⟩⟩
theorem lQ_e {g : Int → Int} {p k : Int} {P : Int → Prop} {t : Int} (hL : LdOk g) (hp : Pl g p) (hk : 0 ≤ k ∧ k < 336) (ht : 0 < t) (hr : iR g p k t) (hn : ¬iR g p k (t + 1)) (x : Int) : lQ g p k P t x ↔ (∃ u, 0 < u ∧ sR g p k u ∧ x = rP g p k u) ∨ ((∀ u, 0 < u → iR g p k u → x ≠ rP g p k u) ∧ P x) := by
  have up : ∀ u, 0 < u → iR g p k u → u ≤ t := fun u u0 h => by
    apply Classical.byContradiction; intro z; exact hn (iR_mono hL hp hk h (by omega) (by omega))
  constructor
  · rintro (⟨u, u0, u1, u2, u3⟩ | ⟨h1, h2⟩)
    · exact .inl ⟨u, u0, u2, u3⟩
    · exact .inr ⟨fun u u0 h => h1 u u0 (up u u0 h), h2⟩
  · rintro (⟨u, u0, u2, u3⟩ | ⟨h1, h2⟩)
    · exact .inl ⟨u, u0, up u u0 u2.1, u2, u3⟩
    · exact .inr ⟨fun u u0 h => h1 u u0 (iR_mono hL hp hk hr (by omega) h), h2⟩
theorem zV_w {g : Int → Int} {p q : Int} (hL : LdOk g) (hp : Pl g p) (hq : Pl g q) : w32 (zR g p q * iabs (zR g p q)) = zV g p q := by
  have b := zR_b hL hp hq; have v := zV_b hL hp hq
  unfold zV zQ at *
  unfold iabs
  by_cases z : 0 ≤ zR g p q
  · simp only [if_pos z] at v ⊢; rw [w32_eq (by omega) (by omega)]
  · simp only [if_neg z] at v ⊢; rw [w32_eq (x := -zR g p q) (by omega) (by omega), w32_eq (by omega) (by omega)]
theorem c_lookAlong {μ : Mm} {c s p j : Int} {g : Int → Int} {P : Int → Prop} (hA : La μ c g) (hK : LiK s) (hF : LiF μ s) (hSF : SiF μ) (hSi : Si μ g p) (hL : LdOk g) (hp : Pl g p) (hj : 0 ≤ j ∧ j < nR g p) (hB : Sb μ s P) (ds : s + 6 < 230 ∨ 237 < s) (dc : c + 5 < s ∨ s + 6 < c) : Ev (fX5_lookAlong 230 c s j μ) (fun μ' => Fw (lR s) μ μ' ∧ (μ' (s + 1) j = T g p j ∧ μ' (s + 2) j = zV g p (T g p j) ∧ μ' (s + 3) j = zF g p (T g p j)) ∧ (∀ i, i ≠ j → μ' (s + 1) i = μ (s + 1) i ∧ μ' (s + 2) i = μ (s + 2) i ∧ μ' (s + 3) i = μ (s + 3) i) ∧ Sb μ' s (fun x => (∃ u, 0 < u ∧ sR g p (rI g p j) u ∧ x = rP g p (rI g p j) u) ∨ ((∀ u, 0 < u → iR g p (rI g p j) u → x ≠ rP g p (rI g p j) u) ∧ P x))) := by
  obtain ⟨hk, hct, hcj⟩ := rI_ok hj.1 hj.2
  have nb := nR_b hL hp
  have eT : T g p j = tp g p (rI g p j) := rfl
  rw [eT]
  generalize rI g p j = k at *
  have es := ct_s (P := cT g p) hk.1
  rw [bi_t hct, hcj] at es
  have g0 := hSi.2.2 k hk.1 (by omega)
  have g1 := hSi.2.2 (k + 1) (by omega) (by omega)
  rw [hcj] at g0; rw [es] at g1
  obtain ⟨o1, o2, o3, o4, o5⟩ := hSi.1
  have c143 := fun (n : Nat) h => oC_143 hL hp (n := n) h
  unfold fX5_lookAlong
  rw [if_neg (by omega), if_pos (by omega)]
  simp (disch := omega) only [w32_eq, w64_eq, chk_T, chk_t, lt, lm, ob, Int.add_zero, Int.zero_add, true_and, and_true, if_true, if_false, K100, K101, K102, K103, K104, K200, K201, K230, K231, K232, K233, K234, K235, K236, K237, K250, K251, K252, K253, K254, K300, K301, K302, K303, K304, N101, N102, N103, N104, N201, N232, N233, N234, N235, N236, N237, N251, N252, N253, N254, N301, N302, N303, N304, SiF.f0 hSF, SiF.f1 hSF, SiF.f2 hSF, SiF.f3 hSF, SiF.f4 hSF, SiF.g0 hSF, SiF.g1 hSF, SiF.e hSF, SiF.s hSF, g0]
  refine Ev_bind (Ev_lopI (P := fun μ' => Fw (lR s) μ μ' ∧ (μ' (s + 1) j = tp g p k ∧ μ' (s + 2) j = zV g p (tp g p k) ∧ μ' (s + 3) j = zF g p (tp g p k)) ∧ (∀ i, i ≠ j → μ' (s + 1) i = μ (s + 1) i ∧ μ' (s + 2) i = μ (s + 2) i ∧ μ' (s + 3) i = μ (s + 3) i) ∧ Sb μ' s (fun x => (∃ u, 0 < u ∧ sR g p k u ∧ x = rP g p k u) ∨ ((∀ u, 0 < u → iR g p k u → x ≠ rP g p k u) ∧ P x))) (fun m st => ∃ t : Nat, m + t = 12 ∧ (t = 0 ∨ iR g p k t) ∧ st.1 = ct (oC g p) (11 * k + t).toNat ∧ Fw (lR s) μ st.2 ∧ (0 < t → st.2 (s + 1) j = tN g p k t ∧ st.2 (s + 2) j = zV g p (tN g p k t) ∧ st.2 (s + 3) j = zF g p (tN g p k t)) ∧ (∀ i, i ≠ j → st.2 (s + 1) i = μ (s + 1) i ∧ st.2 (s + 2) i = μ (s + 2) i ∧ st.2 (s + 3) i = μ (s + 3) i) ∧ Sb st.2 s (lQ g p k P t)) 12 ⟨0, rfl, .inl rfl, ?_, Fw.rf, fun h => absurd h (by omega), fun _ _ => ⟨rfl, rfl, rfl⟩, ?_⟩ (by unfold FU; omega) ?_) (fun r h => Ev_some h)
  · dsimp only; rw [show 11 * k + ((0 : Nat) : Int) = 11 * k by omega]
  · refine hB.c (fun q _ _ => ⟨fun h => .inr ⟨fun u u0 u1 => by omega, h⟩, ?_⟩)
    rintro (⟨u, u0, u1, _⟩ | ⟨_, h⟩)
    · omega
    · exact h
  · rintro m ⟨v4, μ1⟩ ⟨t, hm, ht, e4, f1, h1, h2, h3⟩
    dsimp only at e4 f1 h1 h2 h3
    have t11 : (t : Int) ≤ 11 := by
      rcases ht with z | z
      · omega
      · exact iL_11 hL hp hk (by omega) z.1
    have A1 : La μ1 c g := hA.fw f1 (fun x a b => by unfold lR; omega)
    have F1 : SiF μ1 := hSF.fw f1 (fun x a b => by unfold lR; omega)
    have L1 : LiF μ1 s := hF.fw f1 (by unfold lR; omega)
    have r230 : μ1 230 = μ 230 := f1 230 (by unfold lR; omega)
    have r235 : μ1 235 = μ 235 := f1 235 (by unfold lR; omega)
    have r236 : μ1 236 = μ 236 := f1 236 (by unfold lR; omega)
    have r237 : μ1 237 = μ 237 := f1 237 (by unfold lR; omega)
    have g0' : μ1 237 j = ct (oC g p) (11 * k).toNat := by rw [r237]; exact g0
    have g1' : μ1 237 (j + 1) = ct (oC g p) (11 * (k + 1)).toNat := by rw [r237]; exact g1
    have p1 : μ1 230 5 = p := by rw [r230]; exact o1
    have cb := ct_b (oC g p) (11 * k + t).toNat
    have c1 := c143 (11 * k + t).toNat (by omega)
    have rc := ray_ct hL hp hk t (by omega) ht
    unfold sX5_lookAlong_19
    dsimp only
    simp (disch := omega) only [w32_eq, w64_eq, chk_T, chk_t, lt, lm, ob, Int.add_zero, Int.zero_add, true_and, and_true, if_true, if_false, K100, K101, K102, K103, K104, K200, K201, K230, K231, K232, K233, K234, K235, K236, K237, K250, K251, K252, K253, K254, K300, K301, K302, K303, K304, N101, N102, N103, N104, N201, N232, N233, N234, N235, N236, N237, N251, N252, N253, N254, N301, N302, N303, N304, SiF.f0 F1, SiF.f1 F1, SiF.f2 F1, SiF.f3 F1, SiF.f4 F1, SiF.g0 F1, SiF.g1 F1, SiF.e F1, SiF.s F1, g1']
    refine Ev_ite (fun q => Ev_outi ?_) (fun q => ?_)
    · have hn : ¬iR g p k ((t : Int) + 1) := by
        intro z
        have := iL_11 hL hp hk (by omega) z.1
        have oc : oC g p (11 * k + t) := by
          unfold oC; rw [show (11 * k + (t : Int)) / 11 = k by omega, show (11 * k + (t : Int)) % 11 + 1 = (t : Int) + 1 by omega]; exact z
        have := ct_lt (c := oC g p) (i := 11 * k + t) (j := 11 * (k + 1)) (by omega) (by omega) oc
        omega
      have t0 : 0 < t := by
        rcases Nat.eq_zero_or_pos t with z | z
        · subst z; exact absurd hct hn
        · exact z
      have hr : iR g p k t := by
        rcases ht with z | z
        · omega
        · exact z
      have eN : tN g p k t = tp g p k := (tN_stop hL hp hk hn 11 (by omega)).symm
      rw [← eN]
      exact ⟨f1, h1 t0, h2, h3.c (fun x _ _ => lQ_e hL hp hk (by omega) hr hn x)⟩
    · have hr : iR g p k ((t : Int) + 1) := by
        apply Classical.byContradiction; intro z
        have flat := (ct_flat (c := oC g p) (v := fun k => k) (a := (11 * k + t).toNat) (11 * (k + 1)).toNat (by omega) (fun i i0 i1 y => z (by
          unfold oC at y; rw [show i / 11 = k by omega] at y
          exact iR_mono hL hp hk y (by omega) (by omega)))).1
        omega
      have t10 := iL_11 hL hp hk (by omega) hr.1
      have oc : oC g p (11 * k + t) := by
        unfold oC; rw [show (11 * k + (t : Int)) / 11 = k by omega, show (11 * k + (t : Int)) % 11 + 1 = (t : Int) + 1 by omega]; exact hr
      have cl := ct_lt (c := oC g p) (i := 11 * k + t) (j := 3696) (by omega) (by omega) oc
      rw [show (3696 : Int).toNat = 3696 by decide] at cl
      have hPl := rP_P hr.1
      have hb := Pl.i hL hPl
      have hf := rP_F hr.1
      have ord : μ1 235 v4 = rP g p k ((t : Int) + 1) := by
        rw [r235, e4, (o3 _ cb.1 cl).1, fa_vi (by omega) (by omega) oc]
        unfold oP; rw [show (11 * k + (t : Int)) / 11 = k by omega, show (11 * k + (t : Int)) % 11 + 1 = (t : Int) + 1 by omega]
      have dst : μ1 236 v4 = zF g p (rP g p k ((t : Int) + 1)) := by
        rw [r236, e4, (o3 _ cb.1 cl).2, fa_vi (by omega) (by omega) oc, hf]
        unfold oD; rw [show (11 * k + (t : Int)) / 11 = k by omega, show (11 * k + (t : Int)) % 11 + 1 = (t : Int) + 1 by omega]
      have zv := zV_w hL hp hPl
      have st := sR_tN hL hp hk hr
      rw [if_neg (by omega), if_neg (by omega)]
      have lft := c_lift A1 hL hp hPl rfl
      simp (disch := omega) only [w32_eq, w64_eq, chk_T, chk_t, lt, lm, ob, Int.add_zero, Int.zero_add, true_and, and_true, if_true, if_false, K100, K101, K102, K103, K104, K200, K201, K230, K231, K232, K233, K234, K235, K236, K237, K250, K251, K252, K253, K254, K300, K301, K302, K303, K304, N101, N102, N103, N104, N201, N232, N233, N234, N235, N236, N237, N251, N252, N253, N254, N301, N302, N303, N304, SiF.f0 F1, SiF.f1 F1, SiF.f2 F1, SiF.f3 F1, SiF.f4 F1, SiF.g0 F1, SiF.g1 F1, SiF.e F1, SiF.s F1, La_k A1, La_k1 A1, La_n1 A1, La_k2 A1, La_n2 A1, La_k3 A1, La_n3 A1, La_k4 A1, La_n4 A1, La_k5 A1, La_n5 A1, La_f6 A1, La_f7 A1, La_f8 A1, La_f9 A1, La_f10 A1, La_0 A1, La_1 A1, La_2 A1, La_3 A1, La_4 A1, La_5 A1, La_h A1, La_a A1, La_t A1, La_fr A1, La_to A1, ord, dst, p1, lft, g0', zv]
      have tNs : tN g p k (t + 1) = sel (iR g p k ((t : Int) + 1) ∧ (tN g p k t < 0 ∨ 0 < zT g p (rP g p k ((t : Int) + 1)) (tN g p k t))) (rP g p k ((t : Int) + 1)) (tN g p k t) := rfl
      have fin : ∀ (b : Int) (μ2 : Mm), (b ≠ 0 ↔ sR g p k ((t : Int) + 1)) → Fw (lR s) μ μ2 → μ2 (s + 6) = μ1 (s + 6) → (μ2 (s + 1) j = tN g p k (t + 1) ∧ μ2 (s + 2) j = zV g p (tN g p k (t + 1)) ∧ μ2 (s + 3) j = zF g p (tN g p k (t + 1))) → (∀ i, i ≠ j → μ2 (s + 1) i = μ (s + 1) i ∧ μ2 (s + 2) i = μ (s + 2) i ∧ μ2 (s + 3) i = μ (s + 3) i) → Ev (jX5_lookAlong_162 230 c s j v4 b μ2) (Nxi (fun m st => ∃ t : Nat, m + t = 12 ∧ (t = 0 ∨ iR g p k t) ∧ st.1 = ct (oC g p) (11 * k + t).toNat ∧ Fw (lR s) μ st.2 ∧ (0 < t → st.2 (s + 1) j = tN g p k t ∧ st.2 (s + 2) j = zV g p (tN g p k t) ∧ st.2 (s + 3) j = zF g p (tN g p k t)) ∧ (∀ i, i ≠ j → st.2 (s + 1) i = μ (s + 1) i ∧ st.2 (s + 2) i = μ (s + 2) i ∧ st.2 (s + 3) i = μ (s + 3) i) ∧ Sb st.2 s (lQ g p k P t)) (fun μ' => Fw (lR s) μ μ' ∧ (μ' (s + 1) j = tp g p k ∧ μ' (s + 2) j = zV g p (tp g p k) ∧ μ' (s + 3) j = zF g p (tp g p k)) ∧ (∀ i, i ≠ j → μ' (s + 1) i = μ (s + 1) i ∧ μ' (s + 2) i = μ (s + 2) i ∧ μ' (s + 3) i = μ (s + 3) i) ∧ Sb μ' s (fun x => (∃ u, 0 < u ∧ sR g p k u ∧ x = rP g p k u) ∨ ((∀ u, 0 < u → iR g p k u → x ≠ rP g p k u) ∧ P x))) m) := by
        intro b μ2 hb2 f2 e6 k1 k2
        have F2 : SiF μ2 := hSF.fw f2 (fun x a b => by unfold lR; omega)
        have L2 : LiF μ2 s := hF.fw f2 (by unfold lR; omega)
        have ord2 : μ2 235 v4 = rP g p k ((t : Int) + 1) := by
          rw [f2 235 (by unfold lR; omega), ← r235]; exact ord
        have S2 : Sb μ2 s (lQ g p k P t) := by unfold Sb; rw [e6]; exact h3
        unfold jX5_lookAlong_162
        simp (disch := omega) only [w32_eq, w64_eq, chk_T, chk_t, lt, lm, ob, Int.add_zero, Int.zero_add, true_and, and_true, if_true, if_false, K100, K101, K102, K103, K104, K200, K201, K230, K231, K232, K233, K234, K235, K236, K237, K250, K251, K252, K253, K254, K300, K301, K302, K303, K304, N101, N102, N103, N104, N201, N232, N233, N234, N235, N236, N237, N251, N252, N253, N254, N301, N302, N303, N304, SiF.f0 F2, SiF.f1 F2, SiF.f2 F2, SiF.f3 F2, SiF.f4 F2, SiF.g0 F2, SiF.g1 F2, SiF.e F2, SiF.s F2, LiK.k hK, LiK.k1 hK, LiK.n1 hK, LiK.k2 hK, LiK.n2 hK, LiK.k3 hK, LiK.n3 hK, LiK.k4 hK, LiK.n4 hK, LiK.k5 hK, LiK.n5 hK, LiK.k6 hK, LiK.n6 hK, ord2]
        refine Ev_bind (c_show hK L2 S2 hb.1 hb.2) (fun μ3 ⟨f3, S3⟩ => ?_)
        have n1 := f3 (s + 1) (by omega); have n2 := f3 (s + 2) (by omega); have n3 := f3 (s + 3) (by omega)
        refine Ev_ini (m - 1) ⟨t + 1, by omega, .inr hr, ?_, f2.tr (f3.mo (fun x hx => by unfold lR; omega)), fun _ => ?_, ?_, ?_⟩ (by omega)
        · dsimp only
          have esc := ct_s (P := oC g p) (i := 11 * k + t) (by omega)
          rw [bi_t oc] at esc
          rw [show 11 * k + ((t + 1 : Nat) : Int) = 11 * k + t + 1 by omega, esc, e4]
        · dsimp only; rw [n1, n2, n3]; exact k1
        · dsimp only; rw [n1, n2, n3]; exact k2
        · exact S3.c (fun x _ _ => lQ_s hL hp hk (by omega) hr hb2 x)
      have yes : sR g p k ((t : Int) + 1) → Ev (jX5_lookAlong_121 230 c s j v4 (zV g p (rP g p k ((t : Int) + 1))) 1 μ1) (Nxi (fun m st => ∃ t : Nat, m + t = 12 ∧ (t = 0 ∨ iR g p k t) ∧ st.1 = ct (oC g p) (11 * k + t).toNat ∧ Fw (lR s) μ st.2 ∧ (0 < t → st.2 (s + 1) j = tN g p k t ∧ st.2 (s + 2) j = zV g p (tN g p k t) ∧ st.2 (s + 3) j = zF g p (tN g p k t)) ∧ (∀ i, i ≠ j → st.2 (s + 1) i = μ (s + 1) i ∧ st.2 (s + 2) i = μ (s + 2) i ∧ st.2 (s + 3) i = μ (s + 3) i) ∧ Sb st.2 s (lQ g p k P t)) (fun μ' => Fw (lR s) μ μ' ∧ (μ' (s + 1) j = tp g p k ∧ μ' (s + 2) j = zV g p (tp g p k) ∧ μ' (s + 3) j = zF g p (tp g p k)) ∧ (∀ i, i ≠ j → μ' (s + 1) i = μ (s + 1) i ∧ μ' (s + 2) i = μ (s + 2) i ∧ μ' (s + 3) i = μ (s + 3) i) ∧ Sb μ' s (fun x => (∃ u, 0 < u ∧ sR g p k u ∧ x = rP g p k u) ∨ ((∀ u, 0 < u → iR g p k u → x ≠ rP g p k u) ∧ P x))) m) := by
        intro hs
        have eN : tN g p k (t + 1) = rP g p k ((t : Int) + 1) := by rw [tNs, sel_t ⟨hr, st.mp hs⟩]
        unfold jX5_lookAlong_121
        rw [if_neg (by decide)]
        simp (disch := omega) only [w32_eq, w64_eq, chk_T, chk_t, lt, lm, ob, Int.add_zero, Int.zero_add, true_and, and_true, if_true, if_false, K100, K101, K102, K103, K104, K200, K201, K230, K231, K232, K233, K234, K235, K236, K237, K250, K251, K252, K253, K254, K300, K301, K302, K303, K304, N101, N102, N103, N104, N201, N232, N233, N234, N235, N236, N237, N251, N252, N253, N254, N301, N302, N303, N304, SiF.f0 F1, SiF.f1 F1, SiF.f2 F1, SiF.f3 F1, SiF.f4 F1, SiF.g0 F1, SiF.g1 F1, SiF.e F1, SiF.s F1, LiK.k hK, LiK.k1 hK, LiK.n1 hK, LiK.k2 hK, LiK.n2 hK, LiK.k3 hK, LiK.n3 hK, LiK.k4 hK, LiK.n4 hK, LiK.k5 hK, LiK.n5 hK, LiK.k6 hK, LiK.n6 hK, LiF.f4 L1, LiF.f5 L1, LiF.f6 L1, LiF.f7 L1, LiF.f8 L1, LiF.f9 L1, ord, dst, mst_n]
        refine fin 1 _ ⟨fun _ => hs, fun _ => by decide⟩ ?_ ?_ ?_ ?_
        · refine ((f1.st ?_).st ?_).st ?_ <;> (unfold lR; omega)
        · simp (disch := omega) only [mst_n, mst_s, mst_j, ]
        · rw [eN]; simp (disch := omega) only [mst_n, mst_s, mst_j, ]; exact ⟨trivial, trivial, trivial⟩
        · intro i hi; simp (disch := omega) only [mst_n, mst_s, mst_j, ]; exact h2 i hi
      refine Ev_ite (fun q2 => ?_) (fun q2 => ?_)
      · have t0 : t = 0 := by omega
        unfold jX5_lookAlong_116
        apply yes; rw [st]; left; subst t0; show tN g p k 0 < 0; unfold tN; omega
      · have t0 : 0 < t := by omega
        have hrt : iR g p k t := by
          rcases ht with z | z
          · omega
          · exact z
        obtain ⟨k1, k2, k3⟩ := h1 t0
        have hN : Pl g (tN g p k t) := by
          rcases tN_ok hL hp hk t with ⟨_, z⟩ | ⟨s1, _, _, s3, z, _⟩
          · exact absurd hrt (z t (by omega) (by omega))
          · rw [z]; exact rP_P s3.1
        have z1 := zVF_b hL hp hPl hN; have z2 := zVF_b hL hp hN hPl
        simp (disch := omega) only [w32_eq, w64_eq, chk_T, chk_t, lt, lm, ob, Int.add_zero, Int.zero_add, true_and, and_true, if_true, if_false, K100, K101, K102, K103, K104, K200, K201, K230, K231, K232, K233, K234, K235, K236, K237, K250, K251, K252, K253, K254, K300, K301, K302, K303, K304, N101, N102, N103, N104, N201, N232, N233, N234, N235, N236, N237, N251, N252, N253, N254, N301, N302, N303, N304, LiK.k hK, LiK.k1 hK, LiK.n1 hK, LiK.k2 hK, LiK.n2 hK, LiK.k3 hK, LiK.n3 hK, LiK.k4 hK, LiK.n4 hK, LiK.k5 hK, LiK.n5 hK, LiK.k6 hK, LiK.n6 hK, LiF.f4 L1, LiF.f5 L1, LiF.f6 L1, LiF.f7 L1, LiF.f8 L1, LiF.f9 L1, k2, k3]
        refine Ev_ite (fun q3 => ?_) (fun q3 => ?_)
        · unfold jX5_lookAlong_121
          rw [if_pos rfl]
          have hs : ¬sR g p k ((t : Int) + 1) := by
            rw [st]; intro z; rcases z with z | z
            · have := hN.1; omega
            · unfold zT at z; omega
          have eN : tN g p k (t + 1) = tN g p k t := by rw [tNs, sel_f (fun z => hs (st.mpr z.2))]
          refine fin 0 μ1 ⟨fun z => absurd rfl z, fun z => absurd z hs⟩ f1 rfl ?_ h2
          rw [eN]; exact ⟨k1, k2, k3⟩
        · unfold jX5_lookAlong_116
          apply yes; rw [st]; right; unfold zT; omega
