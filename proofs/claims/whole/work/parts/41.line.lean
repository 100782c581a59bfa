/-! ===== the class looks around: humps, lakes ===== -/
def vS (g : Int → Int) (p q : Int) : Prop := Pl g q ∧ q ≠ p ∧ zSeen g p q
noncomputable def ry (g : Int → Int) (p q : Int) : Int := ct (cT g p) (rK g p q).toNat
def lc (g : Int → Int) (p k : Int) : Prop := g (150 + 4 * k) = 0 ∧ vS g p (g (151 + 4 * k))
noncomputable def lkN (g : Int → Int) (p : Int) : Int := ct (lc g p) (g 5).toNat
noncomputable def lkI (g : Int → Int) (p j : Int) : Int := (fa (lc g p) (fun k => ry g p (g (151 + 4 * k))) (g 5).toNat).2 j
def LiT (μ : Mm) (s : Int) (g : Int → Int) (p : Int) : Prop := ∀ i, 0 ≤ i → i < nR g p → μ (s + 1) i = T g p i ∧ μ (s + 2) i = zV g p (T g p i) ∧ μ (s + 3) i = zF g p (T g p i)
/-- the skyline s is that of g from p -/
def Li (μ : Mm) (s : Int) (g : Int → Int) (p : Int) : Prop := LiK s ∧ LiF μ s ∧ (μ s 1 = nR g p ∧ μ s 2 = hN g p ∧ μ s 3 = lkN g p) ∧ LiT μ s g p ∧ (∀ j, 0 ≤ j → j < hN g p → μ (s + 4) j = hI g p j) ∧ (∀ j, 0 ≤ j → j < lkN g p → μ (s + 5) j = lkI g p j) ∧ Sb μ s (vS g p)
theorem Li.fw {R : Int → Prop} {μ μ' : Mm} {s p : Int} {g : Int → Int} (h : Li μ s g p) (f : Fw R μ μ') (h0 : ∀ x, s ≤ x → x ≤ s + 6 → ¬R x) : Li μ' s g p := by
  have e0 := f s (h0 _ (by omega) (by omega)); have e1 := f (s + 1) (h0 _ (by omega) (by omega)); have e2 := f (s + 2) (h0 _ (by omega) (by omega)); have e3 := f (s + 3) (h0 _ (by omega) (by omega)); have e4 := f (s + 4) (h0 _ (by omega) (by omega)); have e5 := f (s + 5) (h0 _ (by omega) (by omega)); have e6 := f (s + 6) (h0 _ (by omega) (by omega))
  unfold Li LiF LiT Sb; rw [e0, e1, e2, e3, e4, e5, e6]; exact h
noncomputable def sg (x : Int) : Int := if x ≤ 0 then (if 0 ≤ x then 0 else -1) else 1
theorem sg_le {x : Int} : sg x ≤ 0 ↔ x ≤ 0 := by unfold sg; split <;> (try split) <;> omega
theorem sg_lt {x : Int} : sg x < 0 ↔ x < 0 := by unfold sg; split <;> (try split) <;> omega
theorem sg_b (x : Int) : sg x = 0 ∨ sg x = 1 ∨ sg x = -1 := by unfold sg; split <;> (try split) <;> omega
theorem c_weigh {μ : Mm} {s p a b : Int} {g : Int → Int} (hK : LiK s) (hF : LiF μ s) (hT : LiT μ s g p) (hL : LdOk g) (hp : Pl g p) (ha : 0 ≤ a ∧ a < nR g p) (hb : 0 ≤ b ∧ b < nR g p) : fX7_weigh s a b μ = some (sg (zT g p (T g p a) (T g p b))) := by
  have nb := nR_b hL hp
  have A := T_P hL hp ha.1 ha.2; have B := T_P hL hp hb.1 hb.2
  have z1 := zVF_b hL hp A.1 B.1; have z2 := zVF_b hL hp B.1 A.1
  obtain ⟨a1, a2, a3⟩ := hT a ha.1 ha.2; obtain ⟨b1, b2, b3⟩ := hT b hb.1 hb.2
  unfold fX7_weigh
  rw [if_neg (by omega), if_neg (by omega), if_neg (by omega), if_pos (by omega)]
  simp (disch := omega) only [w32_eq, w64_eq, chk_T, chk_t, lt, lm, ob, Int.add_zero, Int.zero_add, true_and, and_true, if_true, if_false, LiK.k hK, LiK.k1 hK, LiK.n1 hK, LiK.k2 hK, LiK.n2 hK, LiK.k3 hK, LiK.n3 hK, LiK.k4 hK, LiK.n4 hK, LiK.k5 hK, LiK.n5 hK, LiK.k6 hK, LiK.n6 hK, LiF.f4 hF, LiF.f5 hF, LiF.f6 hF, LiF.f7 hF, LiF.f8 hF, LiF.f9 hF, a2, a3, b2, b3]
  unfold sg zT
  split
  · split <;> rfl
  · rfl
theorem c_pickHumps {μ : Mm} {s p : Int} {g : Int → Int} (hK : LiK s) (hF : LiF μ s) (hT : LiT μ s g p) (hL : LdOk g) (hp : Pl g p) (h1 : μ s 1 = nR g p) : Ev (fX5_pickHumps 230 s μ) (fun μ' => Fw (fun x => x = s ∨ x = s + 4) μ μ' ∧ (∀ i, i ≠ 2 → μ' s i = μ s i) ∧ μ' s 2 = hN g p ∧ ∀ j, 0 ≤ j → j < hN g p → μ' (s + 4) j = hI g p j) := by
  have nb := nR_b hL hp; have hb := hN_b hL hp
  unfold fX5_pickHumps
  simp (disch := omega) only [w32_eq, w64_eq, chk_T, chk_t, lt, lm, ob, Int.add_zero, Int.zero_add, true_and, and_true, if_true, if_false, K100, K101, K102, K103, K104, K200, K201, K230, K231, K232, K233, K234, K235, K236, K237, K250, K251, K252, K253, K254, K300, K301, K302, K303, K304, N101, N102, N103, N104, N201, N232, N233, N234, N235, N236, N237, N251, N252, N253, N254, N301, N302, N303, N304, LiK.k hK, LiK.k1 hK, LiK.n1 hK, LiK.k2 hK, LiK.n2 hK, LiK.k3 hK, LiK.n3 hK, LiK.k4 hK, LiK.n4 hK, LiK.k5 hK, LiK.n5 hK, LiK.k6 hK, LiK.n6 hK, mst_j, h1]
  refine Ev_ite (fun q => ?_) (fun q => ?_)
  · refine Ev_bind (Ev_lop (P := fun μ' => Fw (fun x => x = s ∨ x = s + 4) μ μ' ∧ (∀ i, i ≠ 2 → μ' s i = μ s i) ∧ μ' s 2 = hN g p ∧ ∀ j, 0 ≤ j → j < hN g p → μ' (s + 4) j = hI g p j) (fun t => (0 ≤ t.2.1 ∧ t.2.1 ≤ nR g p) ∧ t.1 = pv g p t.2.1 ∧ Fw (fun x => x = s ∨ x = s + 4) μ t.2.2 ∧ (∀ i, i ≠ 2 → t.2.2 s i = μ s i) ∧ t.2.2 s 2 = ct (hc g p) t.2.1.toNat ∧ ∀ j, 0 ≤ j → j < ct (hc g p) t.2.1.toNat → t.2.2 (s + 4) j = (fa (hc g p) (fun k => k) t.2.1.toNat).2 j) (fun t => (nR g p - t.2.1).toNat) ⟨(by first | omega | (dsimp only; omega) | (dsimp only)), ?_, Fw.s0 (.inl rfl), ?_, ?_, ?_⟩ (by unfold FU; dsimp only; omega) ?_) (fun r h => Ev_some h)
    · dsimp only; unfold pv; rw [if_pos rfl]
    · intro i hi; dsimp only; rw [mst_j hi]
    · dsimp only; rw [mst_s]; rfl
    · intro j j0 j1; dsimp only at j1; exfalso
      have : ct (hc g p) 0 = 0 := rfl
      simp only [Int.toNat_zero] at j1; omega
    · rintro ⟨v2, v3, μ1⟩ ⟨r1, r2, f1, r3, r4, r5⟩
      dsimp only at r1 r2 f1 r3 r4 r5 ⊢
      have F1 : LiF μ1 s := by unfold LiF; rw [r3 4 (by decide), r3 5 (by decide), r3 6 (by decide), r3 7 (by decide), r3 8 (by decide), r3 9 (by decide)]; exact hF
      have T1 : LiT μ1 s g p := by unfold LiT; rw [f1 (s + 1) (by omega), f1 (s + 2) (by omega), f1 (s + 3) (by omega)]; exact hT
      have n1 : μ1 s 1 = nR g p := (r3 1 (by decide)).trans h1
      have cb := ct_b (hc g p) v3.toNat
      have cm := ct_mono (hc g p) v3.toNat (nR g p).toNat (by omega)
      have cm' : ct (hc g p) v3.toNat ≤ 45 := Int.le_trans cm hb.2.1
      unfold sX5_pickHumps_23
      dsimp only
      simp (disch := omega) only [w32_eq, w64_eq, chk_T, chk_t, lt, lm, ob, Int.add_zero, Int.zero_add, true_and, and_true, if_true, if_false, K100, K101, K102, K103, K104, K200, K201, K230, K231, K232, K233, K234, K235, K236, K237, K250, K251, K252, K253, K254, K300, K301, K302, K303, K304, N101, N102, N103, N104, N201, N232, N233, N234, N235, N236, N237, N251, N252, N253, N254, N301, N302, N303, N304, LiK.k hK, LiK.k1 hK, LiK.n1 hK, LiK.k2 hK, LiK.n2 hK, LiK.k3 hK, LiK.n3 hK, LiK.k4 hK, LiK.n4 hK, LiK.k5 hK, LiK.n5 hK, LiK.k6 hK, LiK.n6 hK, n1]
      refine Ev_ite (fun q1 => Ev_out ?_) (fun q1 => ?_)
      · have e : v3.toNat = (nR g p).toNat := by omega
        rw [e] at r4 r5
        exact ⟨f1, r3, r4, r5⟩
      · rw [if_neg (by omega)]
        have hv : 0 ≤ v3 ∧ v3 < nR g p := by omega
        have es := ct_s (P := hc g p) hv.1
        have pb : 0 ≤ pv g p v3 ∧ pv g p v3 < nR g p := by unfold pv; split <;> omega
        have pv1 : v3 = pv g p (v3 + 1) := by unfold pv; rw [if_neg (by omega)]; omega
        have key : ∀ b : Int, 0 ≤ b → b < nR g p → b = nx g p v3 → Ev (jX5_pickHumps_54 s v2 v3 b μ1) (Nx (fun t => (0 ≤ t.2.1 ∧ t.2.1 ≤ nR g p) ∧ t.1 = pv g p t.2.1 ∧ Fw (fun x => x = s ∨ x = s + 4) μ t.2.2 ∧ (∀ i, i ≠ 2 → t.2.2 s i = μ s i) ∧ t.2.2 s 2 = ct (hc g p) t.2.1.toNat ∧ ∀ j, 0 ≤ j → j < ct (hc g p) t.2.1.toNat → t.2.2 (s + 4) j = (fa (hc g p) (fun k => k) t.2.1.toNat).2 j) (fun t => (nR g p - t.2.1).toNat) (fun μ' => Fw (fun x => x = s ∨ x = s + 4) μ μ' ∧ (∀ i, i ≠ 2 → μ' s i = μ s i) ∧ μ' s 2 = hN g p ∧ ∀ j, 0 ≤ j → j < hN g p → μ' (s + 4) j = hI g p j) (nR g p - v3).toNat) := by
          intro b b0 b1 eb
          have w1 := c_weigh hK F1 T1 hL hp hv pb
          have w2 := c_weigh hK F1 T1 hL hp hv ⟨b0, b1⟩
          have skip : ¬hc g p v3 → Ev (some (Sum.inl (v3, v3 + 1, μ1)) : Option ((Int × Int × Mm) ⊕ Mm)) (Nx (fun t => (0 ≤ t.2.1 ∧ t.2.1 ≤ nR g p) ∧ t.1 = pv g p t.2.1 ∧ Fw (fun x => x = s ∨ x = s + 4) μ t.2.2 ∧ (∀ i, i ≠ 2 → t.2.2 s i = μ s i) ∧ t.2.2 s 2 = ct (hc g p) t.2.1.toNat ∧ ∀ j, 0 ≤ j → j < ct (hc g p) t.2.1.toNat → t.2.2 (s + 4) j = (fa (hc g p) (fun k => k) t.2.1.toNat).2 j) (fun t => (nR g p - t.2.1).toNat) (fun μ' => Fw (fun x => x = s ∨ x = s + 4) μ μ' ∧ (∀ i, i ≠ 2 → μ' s i = μ s i) ∧ μ' s 2 = hN g p ∧ ∀ j, 0 ≤ j → j < hN g p → μ' (s + 4) j = hI g p j) (nR g p - v3).toNat) := by
            intro hn
            rw [bi_f hn, Int.add_zero] at es
            refine Ev_in ⟨(by first | omega | (dsimp only; omega) | (dsimp only)), pv1, f1, r3, ?_, ?_⟩ (by first | omega | (dsimp only; omega) | (dsimp only))
            · dsimp only; rw [es]; exact r4
            · intro j j0 j1; dsimp only at j1 ⊢
              rw [fa_s hv.1, sel_f hn]; exact r5 j j0 (by omega)
          unfold jX5_pickHumps_54
          rw [r2]
          simp (disch := omega) only [w32_eq, w64_eq, chk_T, chk_t, lt, lm, ob, Int.add_zero, Int.zero_add, true_and, and_true, if_true, if_false, K100, K101, K102, K103, K104, K200, K201, K230, K231, K232, K233, K234, K235, K236, K237, K250, K251, K252, K253, K254, K300, K301, K302, K303, K304, N101, N102, N103, N104, N201, N232, N233, N234, N235, N236, N237, N251, N252, N253, N254, N301, N302, N303, N304, LiK.k hK, LiK.k1 hK, LiK.n1 hK, LiK.k2 hK, LiK.n2 hK, LiK.k3 hK, LiK.n3 hK, LiK.k4 hK, LiK.n4 hK, LiK.k5 hK, LiK.n5 hK, LiK.k6 hK, LiK.n6 hK, w1, w2]
          refine Ev_ite (fun q2 => skip ?_) (fun q2 => Ev_ite (fun q3 => skip ?_) (fun q3 => ?_))
          · intro z; have := z.2.1; rw [sg_le] at q2; omega
          · intro z; have := z.2.2; rw [← eb] at this; rw [sg_lt] at q3; omega
          · have hh : hc g p v3 := by
              rw [sg_le] at q2; rw [sg_lt] at q3
              exact ⟨by omega, by omega, by rw [← eb]; omega⟩
            rw [bi_t hh] at es
            have lt45 := ct_mono (hc g p) (v3 + 1).toNat (nR g p).toNat (by omega)
            have lt45' : ct (hc g p) (v3 + 1).toNat ≤ 45 := Int.le_trans lt45 hb.2.1
            unfold fX7_addHump
            simp (disch := omega) only [w32_eq, w64_eq, chk_T, chk_t, lt, lm, ob, Int.add_zero, Int.zero_add, true_and, and_true, if_true, if_false, K100, K101, K102, K103, K104, K200, K201, K230, K231, K232, K233, K234, K235, K236, K237, K250, K251, K252, K253, K254, K300, K301, K302, K303, K304, N101, N102, N103, N104, N201, N232, N233, N234, N235, N236, N237, N251, N252, N253, N254, N301, N302, N303, N304, LiK.k hK, LiK.k1 hK, LiK.n1 hK, LiK.k2 hK, LiK.n2 hK, LiK.k3 hK, LiK.n3 hK, LiK.k4 hK, LiK.n4 hK, LiK.k5 hK, LiK.n5 hK, LiK.k6 hK, LiK.n6 hK, LiF.f4 F1, LiF.f5 F1, LiF.f6 F1, LiF.f7 F1, LiF.f8 F1, LiF.f9 F1, r4, if_neg]
            simp (disch := omega) only [mst_n, mst_s, mst_j, r4]
            try simp (disch := omega) only [w32_eq, w64_eq, chk_T, chk_t, lt, lm, ob, Int.add_zero, Int.zero_add, true_and, and_true, if_true, if_false, ]
            refine Ev_in ⟨(by first | omega | (dsimp only; omega) | (dsimp only)), pv1, ?_, ?_, ?_, ?_⟩ (by first | omega | (dsimp only; omega) | (dsimp only))
            · dsimp only; exact (f1.st (.inr rfl)).st (.inl rfl)
            · intro i hi; dsimp only; simp (disch := omega) only [mst_n, mst_s, mst_j, ]; exact r3 i hi
            · dsimp only; rw [mst_s, es]
            · intro j j0 j1; dsimp only at j1 ⊢
              rw [fa_s hv.1, sel_t hh]
              unfold psh; dsimp only
              rw [fa_n]
              by_cases z : j = ct (hc g p) v3.toNat
              · rw [if_pos z, z]; simp (disch := omega) only [mst_n, mst_s, mst_j, ]
              · rw [if_neg z]; simp (disch := omega) only [mst_n, mst_s, mst_j, ]; exact r5 j j0 (by omega)
        refine Ev_ite (fun q2 => ?_) (fun q2 => ?_)
        · exact key 0 (by omega) (by omega) (by unfold nx; rw [if_pos (by omega)])
        · exact key (v3 + 1) (by omega) (by omega) (by unfold nx; rw [if_neg (by omega)])
  · have z0 : hN g p = 0 := by
      have := ct_flat (c := hc g p) (v := fun k => k) (a := 0) (nR g p).toNat (by omega) (fun i _ _ hi => by have := hi.1; omega)
      exact this.1
    refine Ev_some ⟨Fw.s0 (.inl rfl), fun i hi => mst_j hi, ?_, fun j j0 j1 => by omega⟩
    rw [mst_s, z0]
theorem Si_ray {μ : Mm} {g : Int → Int} {p q : Int} (hS : Si μ g p) (hL : LdOk g) (hp : Pl g p) (hq : Pl g q) (hn : q ≠ p) : (iR g p (rK g p q) (rT g p q) → μ 234 q = ry g p q) ∧ (¬iR g p (rK g p q) (rT g p q) → μ 234 q = -1) := by
  obtain ⟨hk, ht, hi, e⟩ := rK_ok hL hp hq (Ne.symm hn)
  have t11 := iL_11 hL hp hk (by omega) hi
  have b := Pl.i hL hq
  obtain ⟨⟨_, _, _, o4, o5⟩, _⟩ := hS
  constructor
  · intro hr
    have e1 : (11 * rK g p q + rT g p q - 1) / 11 = rK g p q := by omega
    have e2 : (11 * rK g p q + rT g p q - 1) % 11 + 1 = rT g p q := by omega
    have oc : oC g p (11 * rK g p q + rT g p q - 1) := by unfold oC; rw [e1, e2]; exact hr
    have := o4 _ (by omega) (by omega) oc
    rw [e1] at this
    unfold oP at this; rw [e1, e2, e] at this
    exact this
  · intro hr
    apply o5 q b.1 b.2
    intro f f0 f1 fc fe
    have u := rP_u (g := g) (p := p) (k := f / 11) (t := f % 11 + 1) (by omega) (by omega) fc.1 hL hp
    unfold oP at fe; rw [fe] at u
    apply hr; rw [u.1, u.2]; exact fc
theorem c_pickLakes {μ : Mm} {c s p : Int} {g : Int → Int} (hA : La μ c g) (hK : LiK s) (hF : LiF μ s) (hSF : SiF μ) (hSi : Si μ g p) (hB : Sb μ s (vS g p)) (hL : LdOk g) (hp : Pl g p) (ds : s + 6 < 230 ∨ 237 < s) (dc : c + 5 < s ∨ s + 6 < c) : Ev (fX5_pickLakes 230 c s μ) (fun μ' => Fw (fun x => x = s ∨ x = s + 5) μ μ' ∧ (∀ i, i ≠ 3 → μ' s i = μ s i) ∧ μ' s 3 = lkN g p ∧ ∀ j, 0 ≤ j → j < lkN g p → μ' (s + 5) j = lkI g p j) := by
  have t := hL.t
  unfold fX5_pickLakes
  simp (disch := omega) only [w32_eq, w64_eq, chk_T, chk_t, lt, lm, ob, Int.add_zero, Int.zero_add, true_and, and_true, if_true, if_false, K100, K101, K102, K103, K104, K200, K201, K230, K231, K232, K233, K234, K235, K236, K237, K250, K251, K252, K253, K254, K300, K301, K302, K303, K304, N101, N102, N103, N104, N201, N232, N233, N234, N235, N236, N237, N251, N252, N253, N254, N301, N302, N303, N304, LiK.k hK, LiK.k1 hK, LiK.n1 hK, LiK.k2 hK, LiK.n2 hK, LiK.k3 hK, LiK.n3 hK, LiK.k4 hK, LiK.n4 hK, LiK.k5 hK, LiK.n5 hK, LiK.k6 hK, LiK.n6 hK]
  refine Ev_bind (Ev_lop (P := fun μ' => Fw (fun x => x = s ∨ x = s + 5) μ μ' ∧ (∀ i, i ≠ 3 → μ' s i = μ s i) ∧ μ' s 3 = lkN g p ∧ ∀ j, 0 ≤ j → j < lkN g p → μ' (s + 5) j = lkI g p j) (fun t => (0 ≤ t.1 ∧ t.1 ≤ g 5) ∧ Fw (fun x => x = s ∨ x = s + 5) μ t.2 ∧ (∀ i, i ≠ 3 → t.2 s i = μ s i) ∧ t.2 s 3 = ct (lc g p) t.1.toNat ∧ ∀ j, 0 ≤ j → j < ct (lc g p) t.1.toNat → t.2 (s + 5) j = (fa (lc g p) (fun k => ry g p (g (151 + 4 * k))) t.1.toNat).2 j) (fun t => (g 5 - t.1).toNat) ⟨(by first | omega | (dsimp only; omega) | (dsimp only)), Fw.s0 (.inl rfl), ?_, ?_, ?_⟩ (by unfold FU; dsimp only; omega) ?_) (fun r h => Ev_some h)
  · intro i hi; dsimp only; rw [mst_j hi]
  · dsimp only; rw [mst_s]; rfl
  · intro j j0 j1; dsimp only at j1; exfalso
    have : ct (lc g p) 0 = 0 := rfl
    simp only [Int.toNat_zero] at j1; omega
  · rintro ⟨v3, μ1⟩ ⟨r1, f1, r3, r4, r5⟩
    dsimp only at r1 f1 r3 r4 r5 ⊢
    have F1 : LiF μ1 s := by unfold LiF; rw [r3 4 (by decide), r3 5 (by decide), r3 6 (by decide), r3 7 (by decide), r3 8 (by decide), r3 9 (by decide)]; exact hF
    have A1 : La μ1 c g := hA.fw f1 (fun x a b => by omega)
    have G1 : SiF μ1 := hSF.fw f1 (fun x a b => by omega)
    have B1 : Sb μ1 s (vS g p) := hB.fw f1 (by omega)
    have r234 : μ1 234 = μ 234 := f1 234 (by omega)
    have cb := ct_b (lc g p) v3.toNat
    unfold sX5_pickLakes_7
    dsimp only
    simp (disch := omega) only [w32_eq, w64_eq, chk_T, chk_t, lt, lm, ob, Int.add_zero, Int.zero_add, true_and, and_true, if_true, if_false, K100, K101, K102, K103, K104, K200, K201, K230, K231, K232, K233, K234, K235, K236, K237, K250, K251, K252, K253, K254, K300, K301, K302, K303, K304, N101, N102, N103, N104, N201, N232, N233, N234, N235, N236, N237, N251, N252, N253, N254, N301, N302, N303, N304, La_k A1, La_k1 A1, La_n1 A1, La_k2 A1, La_n2 A1, La_k3 A1, La_n3 A1, La_k4 A1, La_n4 A1, La_k5 A1, La_n5 A1, La_f6 A1, La_f7 A1, La_f8 A1, La_f9 A1, La_f10 A1, La_0 A1, La_1 A1, La_2 A1, La_3 A1, La_4 A1, La_5 A1, La_h A1, La_a A1, La_t A1, La_fr A1, La_to A1]
    refine Ev_ite (fun q1 => Ev_out ?_) (fun q1 => ?_)
    · have e : v3.toNat = (g 5).toNat := by omega
      rw [e] at r4 r5
      exact ⟨f1, r3, r4, r5⟩
    · rw [if_neg (by omega)]
      have hv : 0 ≤ v3 ∧ v3 < g 5 := by omega
      have tt := hL.tt hv.1 hv.2
      have es := ct_s (P := lc g p) hv.1
      have hPl : Pl g (g (151 + 4 * v3)) := ⟨tt.2.1.1, tt.2.1.2⟩
      have b := Pl.i hL hPl
      have skip : ¬lc g p v3 → Ev (some (Sum.inl (v3 + 1, μ1)) : Option ((Int × Mm) ⊕ Mm)) (Nx (fun t => (0 ≤ t.1 ∧ t.1 ≤ g 5) ∧ Fw (fun x => x = s ∨ x = s + 5) μ t.2 ∧ (∀ i, i ≠ 3 → t.2 s i = μ s i) ∧ t.2 s 3 = ct (lc g p) t.1.toNat ∧ ∀ j, 0 ≤ j → j < ct (lc g p) t.1.toNat → t.2 (s + 5) j = (fa (lc g p) (fun k => ry g p (g (151 + 4 * k))) t.1.toNat).2 j) (fun t => (g 5 - t.1).toNat) (fun μ' => Fw (fun x => x = s ∨ x = s + 5) μ μ' ∧ (∀ i, i ≠ 3 → μ' s i = μ s i) ∧ μ' s 3 = lkN g p ∧ ∀ j, 0 ≤ j → j < lkN g p → μ' (s + 5) j = lkI g p j) (g 5 - v3).toNat) := by
        intro hn
        rw [bi_f hn, Int.add_zero] at es
        refine Ev_in ⟨(by first | omega | (dsimp only; omega) | (dsimp only)), f1, r3, ?_, ?_⟩ (by first | omega | (dsimp only; omega) | (dsimp only))
        · dsimp only; rw [es]; exact r4
        · intro j j0 j1; dsimp only at j1 ⊢
          rw [fa_s hv.1, sel_f hn]; exact r5 j j0 (by omega)
      have sh := c_shows hK F1 B1 b.1 (show g (151 + 4 * v3) < 192 by omega)
      simp (disch := omega) only [w32_eq, w64_eq, chk_T, chk_t, lt, lm, ob, Int.add_zero, Int.zero_add, true_and, and_true, if_true, if_false, K100, K101, K102, K103, K104, K200, K201, K230, K231, K232, K233, K234, K235, K236, K237, K250, K251, K252, K253, K254, K300, K301, K302, K303, K304, N101, N102, N103, N104, N201, N232, N233, N234, N235, N236, N237, N251, N252, N253, N254, N301, N302, N303, N304, La_k A1, La_k1 A1, La_n1 A1, La_k2 A1, La_n2 A1, La_k3 A1, La_n3 A1, La_k4 A1, La_n4 A1, La_k5 A1, La_n5 A1, La_f6 A1, La_f7 A1, La_f8 A1, La_f9 A1, La_f10 A1, La_0 A1, La_1 A1, La_2 A1, La_3 A1, La_4 A1, La_5 A1, La_h A1, La_a A1, La_t A1, La_fr A1, La_to A1, LiK.k hK, LiK.k1 hK, LiK.n1 hK, LiK.k2 hK, LiK.n2 hK, LiK.k3 hK, LiK.n3 hK, LiK.k4 hK, LiK.n4 hK, LiK.k5 hK, LiK.n5 hK, LiK.k6 hK, LiK.n6 hK, SiF.f0 G1, SiF.f1 G1, SiF.f2 G1, SiF.f3 G1, SiF.f4 G1, SiF.g0 G1, SiF.g1 G1, SiF.e G1, SiF.s G1, sh, if_neg]
      refine Ev_ite (fun q2 => ?_) (fun q2 => skip (fun z => q2 z.1))
      refine Ev_ite (fun q3 => skip (fun z => bi_0.mp q3 z.2)) (fun q3 => ?_)
      have hv2 : vS g p (g (151 + 4 * v3)) := by
        apply Classical.byContradiction; intro z; exact q3 (bi_f z)
      have hl : lc g p v3 := ⟨q2, hv2⟩
      have hry : μ1 234 (g (151 + 4 * v3)) = ry g p (g (151 + 4 * v3)) := by rw [r234]; exact (Si_ray hSi hL hp hv2.1 hv2.2.1).1 hv2.2.2.1
      rw [bi_t hl] at es
      unfold fX7_addLake
      simp (disch := omega) only [w32_eq, w64_eq, chk_T, chk_t, lt, lm, ob, Int.add_zero, Int.zero_add, true_and, and_true, if_true, if_false, K100, K101, K102, K103, K104, K200, K201, K230, K231, K232, K233, K234, K235, K236, K237, K250, K251, K252, K253, K254, K300, K301, K302, K303, K304, N101, N102, N103, N104, N201, N232, N233, N234, N235, N236, N237, N251, N252, N253, N254, N301, N302, N303, N304, LiK.k hK, LiK.k1 hK, LiK.n1 hK, LiK.k2 hK, LiK.n2 hK, LiK.k3 hK, LiK.n3 hK, LiK.k4 hK, LiK.n4 hK, LiK.k5 hK, LiK.n5 hK, LiK.k6 hK, LiK.n6 hK, LiF.f4 F1, LiF.f5 F1, LiF.f6 F1, LiF.f7 F1, LiF.f8 F1, LiF.f9 F1, r4, if_neg, hry]
      simp (disch := omega) only [mst_n, mst_s, mst_j, r4]
      try simp (disch := omega) only [w32_eq, w64_eq, chk_T, chk_t, lt, lm, ob, Int.add_zero, Int.zero_add, true_and, and_true, if_true, if_false, ]
      refine Ev_in ⟨(by first | omega | (dsimp only; omega) | (dsimp only)), ?_, ?_, ?_, ?_⟩ (by first | omega | (dsimp only; omega) | (dsimp only))
      · dsimp only; exact (f1.st (.inr rfl)).st (.inl rfl)
      · intro i hi; dsimp only; simp (disch := omega) only [mst_n, mst_s, mst_j, ]; exact r3 i hi
      · dsimp only; rw [mst_s, es]
      · intro j j0 j1; dsimp only at j1 ⊢
        rw [fa_s hv.1, sel_t hl]
        unfold psh; dsimp only
        rw [fa_n]
        by_cases z : j = ct (lc g p) v3.toNat
        · rw [if_pos z, z]; simp (disch := omega) only [mst_n, mst_s, mst_j, ]
        · rw [if_neg z]; simp (disch := omega) only [mst_n, mst_s, mst_j, ]; exact r5 j j0 (by omega)
theorem vS_iff {g : Int → Int} {p q : Int} (hL : LdOk g) (hp : Pl g p) : (∃ i, 0 ≤ i ∧ i < nR g p ∧ ∃ u, 0 < u ∧ sR g p (rI g p i) u ∧ q = rP g p (rI g p i) u) ↔ vS g p q := by
  constructor
  · rintro ⟨i, i0, i1, u, u0, hs, e⟩
    have hk := (rI_ok i0 i1).1
    have a := rP_u hk u0 hs.1.1 hL hp
    subst e
    refine ⟨rP_P hs.1.1, rP_ne hk u0 hs.1.1, ?_⟩
    unfold zSeen; rw [a.1, a.2]; exact hs
  · rintro ⟨h1, h2, h3⟩
    obtain ⟨hk, ht, hi, e⟩ := rK_ok hL hp h1 (Ne.symm h2)
    have hc : cT g p (rK g p q) := iR_mono hL hp hk h3.1 (by omega) (by omega)
    have r := rI_of hk.1 hk.2 hc
    exact ⟨_, r.2.1, r.2.2, rT g p q, ht, by rw [r.1]; exact h3, by rw [r.1, e]⟩
theorem c_look {μ : Mm} {c s p : Int} {g : Int → Int} (hA : La μ c g) (hK : LiK s) (hF : LiF μ s) (hSF : SiF μ) (hSi : Si μ g p) (hL : LdOk g) (hp : Pl g p) (ds : s + 6 < 230 ∨ 237 < s) (dc : c + 5 < s ∨ s + 6 < c) : Ev (fX5_look 230 c s μ) (fun μ' => Fw (fun x => s ≤ x ∧ x ≤ s + 6) μ μ' ∧ μ' s 0 = μ s 0 ∧ Li μ' s g p) := by
  have nb := nR_b hL hp
  have n6 := hSi.2.1
  rw [show (336 : Int).toNat = 336 by decide] at n6
  have n6' : μ 230 6 = nR g p := n6
  unfold fX5_look
  simp (disch := omega) only [w32_eq, w64_eq, chk_T, chk_t, lt, lm, ob, Int.add_zero, Int.zero_add, true_and, and_true, if_true, if_false, K100, K101, K102, K103, K104, K200, K201, K230, K231, K232, K233, K234, K235, K236, K237, K250, K251, K252, K253, K254, K300, K301, K302, K303, K304, N101, N102, N103, N104, N201, N232, N233, N234, N235, N236, N237, N251, N252, N253, N254, N301, N302, N303, N304, LiK.k hK, LiK.k1 hK, LiK.n1 hK, LiK.k2 hK, LiK.n2 hK, LiK.k3 hK, LiK.n3 hK, LiK.k4 hK, LiK.n4 hK, LiK.k5 hK, LiK.n5 hK, LiK.k6 hK, LiK.n6 hK, n6']
  have L1 : LiF (mst μ s 1 (nR g p)) s := hF.st (.inr (by decide))
  rw [L1.f9]
  refine Ev_bind (c_fillL (a := s + 6) hK.k6 (by rw [hK.n6]; decide)) (fun μ1 ⟨f1, a1, _⟩ => ?_)
  rw [hK.n6] at a1
  have f1' : Fw (fun x => s ≤ x ∧ x ≤ s + 6) μ μ1 := (Fw.s0 (by omega)).tr (f1.mo (fun x hx => by omega))
  have es : μ1 s = (mst μ s 1 (nR g p)) s := f1 s (by omega)
  have LF1 : LiF μ1 s := by unfold LiF; rw [es]; exact L1
  have B1 : Sb μ1 s (fun _ => False) := by
    refine ⟨fun w w0 w1 => by rw [a1 w w0 w1]; exact R64_0, fun q q0 q1 => ?_⟩
    rw [a1 _ (by omega) (by omega), bw_0]; simp
  refine Ev_bind (Ev_lop (P := fun μ' => Fw (fun x => s ≤ x ∧ x ≤ s + 6) μ μ' ∧ μ' s = mst μ s 1 (nR g p) s ∧ LiT μ' s g p ∧ Sb μ' s (vS g p)) (fun t => (0 ≤ t.1 ∧ t.1 ≤ nR g p) ∧ Fw (fun x => s ≤ x ∧ x ≤ s + 6) μ t.2 ∧ t.2 s = mst μ s 1 (nR g p) s ∧ (∀ i, 0 ≤ i → i < t.1 → t.2 (s + 1) i = T g p i ∧ t.2 (s + 2) i = zV g p (T g p i) ∧ t.2 (s + 3) i = zF g p (T g p i)) ∧ Sb t.2 s (fun q => ∃ i, 0 ≤ i ∧ i < t.1 ∧ ∃ u, 0 < u ∧ sR g p (rI g p i) u ∧ q = rP g p (rI g p i) u)) (fun t => (nR g p - t.1).toNat) ⟨(by first | omega | (dsimp only; omega) | (dsimp only)), f1', es, fun i i0 i1 => by dsimp only at i1; omega, B1.c (fun q _ _ => ⟨fun z => z.elim, fun ⟨i, i0, i1, _⟩ => by dsimp only at i1; omega⟩)⟩ (by unfold FU; dsimp only; omega) ?_) ?_
  · rintro ⟨v3, μ2⟩ ⟨r1, f2, e2, r3, r4⟩
    dsimp only at r1 f2 e2 r3 r4 ⊢
    have A2 : La μ2 c g := hA.fw f2 (fun x a b => by omega)
    have G2 : SiF μ2 := hSF.fw f2 (fun x a b => by omega)
    have S2 : Si μ2 g p := by
      unfold Si SiP SiB; rw [f2 230 (by omega), f2 234 (by omega), f2 235 (by omega), f2 236 (by omega), f2 237 (by omega)]; exact hSi
    have n2 : μ2 230 6 = nR g p := by rw [f2 230 (by omega)]; exact n6'
    have LF2 : LiF μ2 s := by unfold LiF; rw [e2]; exact L1
    unfold sX5_look_18
    dsimp only
    simp (disch := omega) only [w32_eq, w64_eq, chk_T, chk_t, lt, lm, ob, Int.add_zero, Int.zero_add, true_and, and_true, if_true, if_false, K100, K101, K102, K103, K104, K200, K201, K230, K231, K232, K233, K234, K235, K236, K237, K250, K251, K252, K253, K254, K300, K301, K302, K303, K304, N101, N102, N103, N104, N201, N232, N233, N234, N235, N236, N237, N251, N252, N253, N254, N301, N302, N303, N304, n2]
    refine Ev_ite (fun q => Ev_out ⟨f2, e2, fun i i0 i1 => r3 i i0 (by omega), ?_⟩) (fun q => ?_)
    · have this : v3 = nR g p := by omega
      rw [this] at r4
      exact r4.c (fun x _ _ => vS_iff hL hp)
    · have hv : 0 ≤ v3 ∧ v3 < nR g p := by omega
      refine Ev_bind (c_lookAlong A2 hK LF2 G2 S2 hL hp hv r4 ds dc) (fun μ3 ⟨f3, t3, k3, s3⟩ => ?_)
      refine Ev_in ⟨(by first | omega | (dsimp only; omega) | (dsimp only)), f2.tr (f3.mo (fun x hx => by unfold lR at hx; omega)), ?_, ?_, ?_⟩ (by first | omega | (dsimp only; omega) | (dsimp only))
      · dsimp only; rw [f3 s (by unfold lR; omega)]; exact e2
      · intro i i0 i1; dsimp only at i1 ⊢
        by_cases z : i = v3
        · subst z; exact t3
        · rw [(k3 i z).1, (k3 i z).2.1, (k3 i z).2.2]; exact r3 i i0 (by omega)
      · refine s3.c (fun x _ _ => ?_)
        dsimp only
        have hk := (rI_ok hv.1 hv.2).1
        constructor
        · rintro (⟨u, u0, us, ue⟩ | ⟨_, i, i0, i1, h⟩)
          · exact ⟨v3, hv.1, by omega, u, u0, us, ue⟩
          · exact ⟨i, i0, by omega, h⟩
        · rintro ⟨i, i0, i1, u, u0, us, ue⟩
          by_cases z : i = v3
          · subst z; exact .inl ⟨u, u0, us, ue⟩
          · refine .inr ⟨fun w w0 wr we => ?_, i, i0, by omega, u, u0, us, ue⟩
            have hi := rI_ok i0 (show i < nR g p by omega)
            have a := rP_u hi.1 u0 us.1.1 hL hp
            have b := rP_u hk w0 wr.1 hL hp
            rw [← ue, we, b.1] at a
            have := rI_lt i0 (show i < v3 by omega) hv.2
            omega
  · rintro μ2 ⟨f2, e2, t2, s2⟩
    have A2 : La μ2 c g := hA.fw f2 (fun x a b => by omega)
    have LF2 : LiF μ2 s := by unfold LiF; rw [e2]; exact L1
    have n2 : μ2 s 1 = nR g p := by rw [e2, mst_s]
    refine Ev_bind (c_pickHumps hK LF2 t2 hL hp n2) (fun μ3 ⟨f3, k3, h3, i3⟩ => ?_)
    have f3' : Fw (fun x => s ≤ x ∧ x ≤ s + 6) μ μ3 := f2.tr (f3.mo (fun x hx => by omega))
    have A3 : La μ3 c g := hA.fw f3' (fun x a b => by omega)
    have G3 : SiF μ3 := hSF.fw f3' (fun x a b => by omega)
    have S3 : Si μ3 g p := by
      unfold Si SiP SiB; rw [f3' 230 (by omega), f3' 234 (by omega), f3' 235 (by omega), f3' 236 (by omega), f3' 237 (by omega)]; exact hSi
    have LF3 : LiF μ3 s := by unfold LiF; rw [k3 4 (by decide), k3 5 (by decide), k3 6 (by decide), k3 7 (by decide), k3 8 (by decide), k3 9 (by decide)]; exact LF2
    have B3 : Sb μ3 s (vS g p) := s2.fw f3 (by omega)
    refine Ev_bind (c_pickLakes A3 hK LF3 G3 S3 B3 hL hp ds dc) (fun μ4 ⟨f4, k4, h4, i4⟩ => ?_)
    refine Ev_some ⟨f3'.tr (f4.mo (fun x hx => by omega)), ?_, hK, ?_, ⟨?_, ?_, h4⟩, ?_, ?_, i4, B3.fw f4 (by omega)⟩
    · rw [k4 0 (by decide), k3 0 (by decide), e2, mst_j (by decide)]
    · unfold LiF; rw [k4 4 (by decide), k4 5 (by decide), k4 6 (by decide), k4 7 (by decide), k4 8 (by decide), k4 9 (by decide)]; exact LF3
    · rw [k4 1 (by decide), k3 1 (by decide)]; exact n2
    · rw [k4 2 (by decide)]; exact h3
    · unfold LiT; rw [f4 (s + 1) (by omega), f4 (s + 2) (by omega), f4 (s + 3) (by omega), f3 (s + 1) (by omega), f3 (s + 2) (by omega), f3 (s + 3) (by omega)]; exact t2
    · rw [f4 (s + 4) (by omega)]; exact i3
