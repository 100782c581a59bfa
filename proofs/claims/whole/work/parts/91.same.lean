/-! ===== lands that look alike from a place ===== -/
def Sg (g1 g2 : Int → Int) : Prop := ∀ i, i < 6 ∨ 150 ≤ i → g1 i = g2 i
section
variable {g g1 g2 s : Int → Int} {p k c h : Int}
theorem Sg_y (H : Sg g1 g2) : Sg g2 g1 := fun i hi => (H i hi).symm
theorem Sg_X (H : Sg g1 g2) : cX g1 = cX g2 := by funext q; unfold cX; rw [H 0 (by omega)]
theorem Sg_Y (H : Sg g1 g2) : cY g1 = cY g2 := by funext q; unfold cY; rw [H 0 (by omega)]
theorem Sg_n (H : Sg g1 g2) : np g1 = np g2 := by unfold np; rw [H 0 (by omega), H 1 (by omega)]
theorem Sg_P (H : Sg g1 g2) : Pl g1 = Pl g2 := by funext q; unfold Pl; rw [Sg_n H]
theorem Sg_E (H : Sg g1 g2) : zE g1 = zE g2 := by funext a q; unfold zE; rw [Sg_X H]
theorem Sg_S (H : Sg g1 g2) : zS g1 = zS g2 := by funext a q; unfold zS; rw [Sg_Y H]
theorem Sg_F (H : Sg g1 g2) : zF g1 = zF g2 := by funext a q; unfold zF; rw [Sg_E H, Sg_S H]
theorem Sg_iX (H : Sg g1 g2) : iX g1 = iX g2 := by funext a k t; unfold iX; rw [Sg_X H]
theorem Sg_iY (H : Sg g1 g2) : iY g1 = iY g2 := by funext a k t; unfold iY; rw [Sg_Y H]
theorem Sg_iL (H : Sg g1 g2) : iL g1 = iL g2 := by funext a k t; unfold iL; rw [Sg_iX H, Sg_iY H, H 0 (by omega), H 1 (by omega)]
theorem Sg_iR (H : Sg g1 g2) : iR g1 = iR g2 := by funext a k t; unfold iR; rw [Sg_iL H, H 4 (by omega)]
theorem Sg_rP (H : Sg g1 g2) : rP g1 = rP g2 := by funext a k t; unfold rP at0; rw [Sg_iX H, Sg_iY H, H 0 (by omega)]
theorem Sg_cT (H : Sg g1 g2) : cT g1 = cT g2 := by funext a k; unfold cT; rw [Sg_iR H]
theorem Sg_nR (H : Sg g1 g2) : nR g1 = nR g2 := by funext a; unfold nR; rw [Sg_cT H]
theorem Sg_rI (H : Sg g1 g2) : rI g1 = rI g2 := by funext a j; unfold rI; rw [Sg_cT H]
theorem Sg_rK (H : Sg g1 g2) : rK g1 = rK g2 := by funext a q; unfold rK; rw [Sg_E H, Sg_S H]
theorem Sg_rT (H : Sg g1 g2) : rT g1 = rT g2 := by funext a q; unfold rT; rw [Sg_E H, Sg_S H]
theorem Sg_ry (H : Sg g1 g2) : ry g1 = ry g2 := by funext a q; unfold ry; rw [Sg_cT H, Sg_rK H]
theorem Sg_oC (H : Sg g1 g2) : oC g1 = oC g2 := by funext a e; unfold oC; rw [Sg_iR H]
theorem Sg_oP (H : Sg g1 g2) : oP g1 = oP g2 := by funext a e; unfold oP; rw [Sg_rP H]
theorem Sg_Si {μ : Mm} (H : Sg g1 g2) (S : Si μ g1 p) : Si μ g2 p := by
  unfold Si SiP SiB at *; rw [Sg_oC H, Sg_oP H, Sg_cT H] at S; exact S
theorem Sg_gc (hc : 0 ≤ c ∧ c < 144) : Sg g (gc g c h) := fun i hi => (gc_n (by omega)).symm
theorem zR_gc {q : Int} (hc : 0 ≤ c ∧ c < 144) (hq : q ≠ c) (hp : p ≠ c) : zR (gc g c h) p q = zR g p q := by
  unfold zR
  rw [gc_n (by omega), gc_n (by omega), gc_n (by omega), gc_n (by omega), Sg_F (Sg_y (Sg_gc (g := g) (h := h) hc))]
theorem zT_gc {q r : Int} (hc : 0 ≤ c ∧ c < 144) (hq : q ≠ c) (hr : r ≠ c) (hp : p ≠ c) : zT (gc g c h) p q r = zT g p q r := by
  unfold zT zV
  rw [zR_gc hc hq hp, zR_gc hc hr hp, Sg_F (Sg_y (Sg_gc (g := g) (h := h) hc))]
/-- a ray on which c does not lie -/
def av (g : Int → Int) (p k c : Int) : Prop := ∀ u, 0 < u → iR g p k u → rP g p k u ≠ c
theorem tN_gc (hL : LdOk g) (hp : Pl g p) (hk : 0 ≤ k ∧ k < 336) (hc : 0 ≤ c ∧ c < 144) (hpc : p ≠ c) (ha : av g p k c) : ∀ n : Nat, tN (gc g c h) p k n = tN g p k n
  | 0 => rfl
  | n + 1 => by
    have ih := tN_gc hL hp hk hc hpc ha n
    have H : Sg g (gc g c h) := Sg_gc hc
    show sel _ _ _ = sel _ _ _
    rw [ih, ← Sg_iR H, ← Sg_rP H]
    have : (iR g p k ((n : Int) + 1) ∧ (tN g p k n < 0 ∨ 0 < zT (gc g c h) p (rP g p k ((n : Int) + 1)) (tN g p k n))) ↔ (iR g p k ((n : Int) + 1) ∧ (tN g p k n < 0 ∨ 0 < zT g p (rP g p k ((n : Int) + 1)) (tN g p k n))) := by
      rcases tN_ok hL hp hk n with ⟨e, _⟩ | ⟨t, t0, t1, t2, e, _⟩
      · rw [e]; constructor <;> (intro w; exact ⟨w.1, .inl (by omega)⟩)
      · constructor
        · intro w
          rw [e, zT_gc hc (ha _ (by omega) w.1) (ha t (by omega) t2) hpc] at w
          rw [e]; exact w
        · intro w
          rw [e] at w ⊢
          rw [zT_gc hc (ha _ (by omega) w.1) (ha t (by omega) t2) hpc]; exact w
    rw [propext this]
theorem sR_gc {t : Int} (hL : LdOk g) (hp : Pl g p) (hk : 0 ≤ k ∧ k < 336) (hc : 0 ≤ c ∧ c < 144) (hpc : p ≠ c) (ha : av g p k c) (ht : 0 < t) : sR (gc g c h) p k t ↔ sR g p k t := by
  have H : Sg g (gc g c h) := Sg_gc hc
  unfold sR
  rw [← Sg_iR H, ← Sg_rP H]
  constructor
  · rintro ⟨a, b⟩
    refine ⟨a, fun s s0 s1 => ?_⟩
    have := b s s0 s1
    rw [zT_gc hc (ha s s0 (iR_mono hL hp hk a (by omega) (by omega))) (ha t ht a) hpc] at this; exact this
  · rintro ⟨a, b⟩
    refine ⟨a, fun s s0 s1 => ?_⟩
    rw [zT_gc hc (ha s s0 (iR_mono hL hp hk a (by omega) (by omega))) (ha t ht a) hpc]
    exact b s s0 s1
theorem T_gc {j : Int} (hL : LdOk g) (hp : Pl g p) (hc : 0 ≤ c ∧ c < 144) (hpc : p ≠ c) (hj : 0 ≤ j ∧ j < nR g p) (ha : av g p (rI g p j) c) : T (gc g c h) p j = T g p j ∧ zR (gc g c h) p (T g p j) = zR g p (T g p j) := by
  have H : Sg g (gc g c h) := Sg_gc hc
  have hk := (rI_ok hj.1 hj.2).1
  obtain ⟨t, t0, t1, t2, _⟩ := T_ok hL hp hj.1 hj.2
  refine ⟨?_, zR_gc hc (by rw [t2]; exact ha t t0 t1) hpc⟩
  unfold T tp
  rw [← Sg_rI H]
  exact tN_gc hL hp hk hc hpc ha 11
/-- seen alike -/
def Sm (g1 g2 : Int → Int) (p : Int) : Prop := Sg g1 g2 ∧ (∀ j, 0 ≤ j → j < nR g1 p → T g1 p j = T g2 p j ∧ zR g1 p (T g1 p j) = zR g2 p (T g2 p j)) ∧ ∀ q, vS g1 p q ↔ vS g2 p q
theorem Sm_zT {a d : Int} (H : Sm g1 g2 p) (ha : 0 ≤ a ∧ a < nR g1 p) (hd : 0 ≤ d ∧ d < nR g1 p) : zT g1 p (T g1 p a) (T g1 p d) = zT g2 p (T g2 p a) (T g2 p d) := by
  have e1 := H.2.1 a ha.1 ha.2; have e2 := H.2.1 d hd.1 hd.2
  unfold zT zV
  rw [e1.2, e2.2, e1.1, e2.1, Sg_F H.1]
theorem Sm_hc {j : Int} (H : Sm g1 g2 p) (hj : 0 ≤ j ∧ j < nR g1 p) : hc g1 p j ↔ hc g2 p j := by
  have en : nR g1 p = nR g2 p := by rw [Sg_nR H.1]
  have ep : pv g1 p j = pv g2 p j := by unfold pv; rw [en]
  have ex : nx g1 p j = nx g2 p j := by unfold nx; rw [en]
  unfold hc
  by_cases z : 2 < nR g1 p
  · have b1 : 0 ≤ pv g1 p j ∧ pv g1 p j < nR g1 p := by unfold pv; split <;> omega
    have b2 : 0 ≤ nx g1 p j ∧ nx g1 p j < nR g1 p := by unfold nx; split <;> omega
    rw [Sm_zT H hj b1, Sm_zT H hj b2, ep, ex, en]
  · exact ⟨fun w => absurd w.1 z, fun w => absurd (by have := w.1; omega) z⟩
theorem Sm_hN (hb : 0 ≤ nR g1 p) (H : Sm g1 g2 p) : hN g1 p = hN g2 p := by
  unfold hN
  rw [← Sg_nR H.1]
  exact ct_c _ (fun i a b => Sm_hc H ⟨a, by omega⟩)
theorem Sm_hI (hb : 0 ≤ nR g1 p) (H : Sm g1 g2 p) (j : Int) : hI g1 p j = hI g2 p j := by
  unfold hI
  rw [← Sg_nR H.1, fa_c (d := hc g2 p) (w := fun k => k) _ (fun i a b => ⟨Sm_hc H ⟨a, by omega⟩, rfl⟩)]
theorem Sm_hT {j : Int} (hL : LdOk g1) (hp : Pl g1 p) (H : Sm g1 g2 p) (hj : 0 ≤ j ∧ j < hN g1 p) : hT g1 p j = hT g2 p j ∧ zR g1 p (hT g1 p j) = zR g2 p (hT g2 p j) := by
  have nb := nR_b hL hp
  have b := (hI_ok hL hp hj.1 hj.2).1
  unfold hT
  rw [← Sm_hI nb.1 H j]
  exact H.2.1 _ b.1 b.2
theorem Sm_lc {j : Int} (H : Sm g1 g2 p) (hj : 0 ≤ j) : lc g1 p j ↔ lc g2 p j := by
  unfold lc
  rw [H.1 (150 + 4 * j) (by omega), H.1 (151 + 4 * j) (by omega), H.2.2]
theorem Sm_lkN (H : Sm g1 g2 p) : lkN g1 p = lkN g2 p := by
  unfold lkN
  rw [H.1 5 (by omega)]
  exact ct_c _ (fun i a b => Sm_lc H a)
theorem Sm_lkI (H : Sm g1 g2 p) (j : Int) : lkI g1 p j = lkI g2 p j := by
  unfold lkI
  rw [H.1 5 (by omega), fa_c (d := lc g2 p) (w := fun k => ry g2 p (g2 (151 + 4 * k))) _ (fun i a b => ⟨Sm_lc H a, by rw [Sg_ry H.1, H.1 (151 + 4 * i) (by omega)]⟩)]
theorem Sm_tw {q y : Int} (H : Sg g1 g2) : tw g1 q y ↔ tw g2 q y := by
  unfold tw
  rw [H 5 (by omega)]
  constructor
  · rintro ⟨k, k0, k1, a⟩
    rw [H (150 + 4 * k) (by omega), H (151 + 4 * k) (by omega), H (152 + 4 * k) (by omega), H (153 + 4 * k) (by omega)] at a
    exact ⟨k, k0, k1, a⟩
  · rintro ⟨k, k0, k1, a⟩
    rw [← H (150 + 4 * k) (by omega), ← H (151 + 4 * k) (by omega), ← H (152 + 4 * k) (by omega), ← H (153 + 4 * k) (by omega)] at a
    exact ⟨k, k0, k1, a⟩
theorem Sm_lk {a d : Int} (H : Sm g1 g2 p) : lk g1 p a d ↔ lk g2 p a d := by
  have eb : ∀ q, btw g1 p a q d = btw g2 p a q d := fun q => by unfold btw; rw [Sg_E H.1, Sg_S H.1]
  unfold lk
  rw [H.1 5 (by omega)]
  constructor
  · rintro ⟨k, k0, k1, x, y⟩
    exact ⟨k, k0, k1, (Sm_lc H k0).mp x, by rw [← H.1 (151 + 4 * k) (by omega), ← eb]; exact y⟩
  · rintro ⟨k, k0, k1, x, y⟩
    exact ⟨k, k0, k1, (Sm_lc H k0).mpr x, by rw [H.1 (151 + 4 * k) (by omega), eb]; exact y⟩
theorem Sm_cb (hL : LdOk g1) (hp : Pl g1 p) (H : Sm g1 g2 p) : cb g1 s p ↔ cb g2 s p := by unfold cb; rw [Sm_hN (nR_b hL hp).1 H]
theorem Sm_fO {st yr : Int} (hL : LdOk g1) (hp : Pl g1 p) (H : Sm g1 g2 p) : fO g1 s p st yr = fO g2 s p st yr := by
  have nb := nR_b hL hp
  have eN := Sm_hN nb.1 H
  have fi : ∀ y, fI g1 s p st y = fI g2 s p st y := by
    intro y
    unfold fI
    by_cases hc : cb g1 s p
    · have hc2 := (Sm_cb hL hp H).mp hc
      rw [sel_t hc, sel_t hc2]
      have hlE : ∀ i, hl g1 s p st i = hl g2 s p st i ∧ zR g1 p (hl g1 s p st i) = zR g2 p (hl g2 s p st i) := by
        intro i
        unfold hl
        have b := hx_b (s := s) (st := st) (i := i) hc.1
        rw [← eN]
        exact Sm_hT hL hp H b
      have arE : ∀ k i, ar g1 s p st k i ↔ ar g2 s p st k i := by
        intro k i
        have z : zT g1 p (hl g1 s p st i) (hl g1 s p st k) = zT g2 p (hl g2 s p st i) (hl g2 s p st k) := by
          unfold zT zV; rw [(hlE i).2, (hlE k).2, (hlE i).1, (hlE k).1, Sg_F H.1]
        have aE : ∀ k i, aL g1 s p st k i = aL g2 s p st k i := fun k i => by unfold aL; rw [(hlE k).2, (hlE i).1, Sg_F H.1]
        unfold ar
        rw [z, (hlE i).2, (hlE k).2, aE, aE]
      apply ld_c
      intro i i0 i1
      unfold okk mk
      have e1 := (hlE i).1; have e2 := (hlE (i - 1)).1
      rw [e1, e2]
      constructor
      · rintro ⟨⟨a, b, c⟩, d⟩
        refine ⟨⟨fun w => (Sm_tw H.1).mp (a w), fun w q => b w ((Sm_tw H.1).mpr q), fun w q => ⟨fun u => (Sm_lk H).mp ((c w q).1 u), fun u => (Sm_lk H).mp ((c w q).2 u)⟩⟩, fun k k0 k1 => (arE k i).mp (d k k0 k1)⟩
      · rintro ⟨⟨a, b, c⟩, d⟩
        refine ⟨⟨fun w => (Sm_tw H.1).mpr (a w), fun w q => b w ((Sm_tw H.1).mp q), fun w q => ⟨fun u => (Sm_lk H).mpr ((c w q).1 u), fun u => (Sm_lk H).mpr ((c w q).2 u)⟩⟩, fun k k0 k1 => (arE k i).mpr (d k k0 k1)⟩
    · rw [sel_f hc, sel_f (fun w => hc ((Sm_cb hL hp H).mpr w))]
  unfold fO
  have : fI g1 s p st = fI g2 s p st := funext fi
  rw [this]
theorem Sm_ft {yr : Int} (hL : LdOk g1) (hp : Pl g1 p) (H : Sm g1 g2 p) : ftp g1 s yr p ↔ ftp g2 s yr p := by
  unfold ftp
  rw [Sg_P H.1, Sm_hN (nR_b hL hp).1 H]
  constructor
  · rintro ⟨a, b, st, s0, s1, e⟩
    exact ⟨a, (Sm_cb hL hp H).mp b, st, s0, s1, by rw [← Sm_fO hL hp H]; exact e⟩
  · rintro ⟨a, b, st, s0, s1, e⟩
    exact ⟨a, (Sm_cb hL hp H).mpr b, st, s0, s1, by rw [Sm_fO hL hp H]; exact e⟩
theorem sq_lt {a b : Int} (h : a < b) (h0 : 0 ≤ a) : a * a < b * b := by
  have h1 := Int.mul_le_mul_of_nonneg_left (show a ≤ b by omega) h0
  have h2 := Int.mul_lt_mul_of_pos_right h (show 0 < b by omega)
  omega
theorem zQ_inj {x y : Int} (h : zQ x = zQ y) : x = y := by
  have mono : ∀ a b : Int, a < b → zQ a < zQ b := by
    intro a b hab
    unfold zQ
    by_cases ha : 0 ≤ a
    · rw [if_pos ha, if_pos (by omega)]
      exact sq_lt hab ha
    · rw [if_neg ha]
      have na := Int.mul_pos (show 0 < -a by omega) (show 0 < -a by omega)
      rw [Int.neg_mul] at na
      by_cases hb : 0 ≤ b
      · rw [if_pos hb]
        have := Int.mul_nonneg hb hb
        omega
      · rw [if_neg hb]
        have h1 := sq_lt (show -b < -a by omega) (by omega)
        rw [Int.neg_mul, Int.neg_mul] at h1
        omega
  rcases Int.lt_trichotomy x y with q | q | q
  · have := mono x y q; omega
  · exact q
  · have := mono y x q; omega
end
