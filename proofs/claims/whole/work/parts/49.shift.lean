/-! ===== a height as if it were another ===== -/
def gc (g : Int → Int) (c h : Int) : Int → Int := fun i => if i = 6 + c then h else g i
theorem gc_n {g : Int → Int} {c h i : Int} (hi : i ≠ 6 + c) : gc g c h i = g i := by unfold gc; rw [if_neg hi]
theorem gc_s {g : Int → Int} {c h : Int} : gc g c h (6 + c) = h := by unfold gc; rw [if_pos rfl]
theorem gc_gc {g : Int → Int} {c h k : Int} : gc (gc g c h) c k = gc g c k := by
  funext i; unfold gc; split <;> rfl
theorem gc_same {g : Int → Int} {c : Int} : gc g c (g (6 + c)) = g := by
  funext i; unfold gc; split
  · next e => rw [e]
  · rfl
theorem gc_np {g : Int → Int} {c h : Int} (hc : 0 ≤ c) : np (gc g c h) = np g := by unfold np; rw [gc_n (by omega), gc_n (by omega)]
theorem gc_Pl {g : Int → Int} {c h p : Int} (hc : 0 ≤ c) : Pl (gc g c h) p ↔ Pl g p := by unfold Pl; rw [gc_np hc]
theorem gc_ok {g : Int → Int} {c h : Int} (hL : LdOk g) (hc : 0 ≤ c ∧ c < 144) (hh : 0 ≤ h ∧ h ≤ 999) : LdOk (gc g c h) := by
  obtain ⟨h0, h1, h2, h3, h4, h5, h6, h7⟩ := hL
  unfold LdOk
  rw [gc_n (i := 0) (by omega), gc_n (i := 1) (by omega), gc_n (i := 2) (by omega), gc_n (i := 3) (by omega), gc_n (i := 4) (by omega), gc_n (i := 5) (by omega)]
  refine ⟨h0, h1, h2, h3, h4, h5, fun p p0 p1 => ?_, fun k k0 k1 => ?_⟩
  · by_cases e : p = c
    · subst e; rw [gc_s]; exact hh
    · rw [gc_n (by omega)]; exact h6 p p0 p1
  · rw [gc_n (by omega), gc_n (by omega), gc_n (by omega), gc_n (by omega)]; exact h7 k k0 k1
theorem La_gc {μ : Mm} {l c h : Int} {g : Int → Int} (hA : La μ l g) (hc : 0 ≤ c ∧ c < 144) : La (mst μ (l + 1) c h) l (gc g c h) := by
  obtain ⟨hk, hf, ⟨v0, v1, v2, v3, v4, v5⟩, vh, vt⟩ := hA
  refine ⟨hk, ?_, ?_, fun p p0 p1 => ?_, fun k k0 k1 => ?_⟩
  · unfold LaF; rw [mst_n (by omega)]; exact hf
  · rw [mst_n (by omega), gc_n (by omega), gc_n (by omega), gc_n (by omega), gc_n (by omega), gc_n (by omega), gc_n (by omega)]; exact ⟨v0, v1, v2, v3, v4, v5⟩
  · by_cases e : p = c
    · subst e; rw [mst_s, gc_s]
    · rw [mst_j e, gc_n (by omega)]; exact vh p p0 p1
  · rw [gc_n (i := 5) (by omega)] at k1
    rw [mst_n (by omega), mst_n (by omega), mst_n (by omega), mst_n (by omega), gc_n (by omega), gc_n (by omega), gc_n (by omega), gc_n (by omega)]; exact vt k k0 k1
theorem G_gc {μ : Mm} {l c h : Int} {g : Int → Int} (hG : G μ l g) (hc : 0 ≤ c ∧ c < 144) : G (mst μ 20001 (l + 6 + c) h) l (gc g c h) := by
  refine ⟨hG.1, fun i i0 i1 => ?_⟩
  by_cases e : i = 6 + c
  · subst e; rw [gc_s, show l + (6 + c) = l + 6 + c by omega, mst_s]
  · rw [mst_j (by omega), gc_n e]; exact hG.2 i i0 i1
theorem LiK_240 : LiK 240 := ⟨by decide, ⟨by decide, by decide⟩, ⟨by decide, by decide⟩, ⟨by decide, by decide⟩, ⟨by decide, by decide⟩, ⟨by decide, by decide⟩, ⟨by decide, by decide⟩⟩
theorem K240 : KD 240 = 7 := by decide
def tR (x : Int) : Prop := sR0 x ∨ 240 ≤ x ∧ x ≤ 246
theorem mst_back {μ : Mm} {a i v w : Int} (h : μ a i = w) (μ1 : Mm) (e : μ1 a = mst μ a i v a) : mst μ1 a i w a = μ a := by
  funext j
  by_cases z : j = i
  · subst z; rw [mst_s]; exact h.symm
  · rw [mst_j z, e, mst_j z]
theorem c_lookWith {μ : Mm} {n p c h : Int} {b : Int → Int} (hW : Nw μ b) (hS : Scr μ) (hL : isL b n) (hp : Pl (lg b n) p) (hc : Pl (lg b n) c) (hh : 0 ≤ h ∧ h ≤ 999) : Ev (fX10_lookWith 100 (1010 + 10 * n) p c h μ) (fun μ' => Fw tR μ μ' ∧ SiF μ' ∧ Li μ' 240 (gc (lg b n) c h) p) := by
  have n0 := hW.n0
  have hn2 : 0 ≤ n ∧ n < 2 := by have := hL.1; have := hL.2; omega
  have hD := hW.ld hL.1 hL.2; have hA := hW.la hL.1 hL.2
  have bc := Pl.i hD hc; have bp := Pl.i hD hp
  have A1 := La_gc (h := h) hA bc
  have hD' := gc_ok hD bc hh
  have hp' : Pl (gc (lg b n) c h) p := (gc_Pl bc.1).mpr hp
  have F1 : SiF (mst μ (1010 + 10 * n + 1) c h) := hS.1.st (by omega)
  have X1 : X10F (mst μ (1010 + 10 * n + 1) c h) := by unfold X10F; rw [mst_n (by omega)]; exact hW.1
  have L1 : LiF (mst μ (1010 + 10 * n + 1) c h) 240 := hS.2.1.st (.inl (by omega))
  unfold fX10_lookWith
  simp (disch := omega) only [w32_eq, w64_eq, chk_T, chk_t, lt, lm, ob, Int.add_zero, Int.zero_add, true_and, and_true, if_true, if_false, K100, K101, K102, K103, K104, K200, K201, K230, K231, K232, K233, K234, K235, K236, K237, K250, K251, K252, K253, K254, K300, K301, K302, K303, K304, N101, N102, N103, N104, N201, N232, N233, N234, N235, N236, N237, N251, N252, N253, N254, N301, N302, N303, N304, La_k hA, La_k1 hA, La_n1 hA, La_k2 hA, La_n2 hA, La_k3 hA, La_n3 hA, La_k4 hA, La_n4 hA, La_k5 hA, La_n5 hA, La_f6 hA, La_f7 hA, La_f8 hA, La_f9 hA, La_f10 hA, La_0 hA, La_1 hA, La_2 hA, La_3 hA, La_4 hA, La_5 hA, La_h hA, La_a hA, La_t hA, La_fr hA, La_to hA, c_has hA hD, bi_if]
  rw [sel_t hc]
  simp (disch := omega) only [w32_eq, w64_eq, chk_T, chk_t, lt, lm, ob, Int.add_zero, Int.zero_add, true_and, and_true, if_true, if_false, K100, K101, K102, K103, K104, K200, K201, K230, K231, K232, K233, K234, K235, K236, K237, K250, K251, K252, K253, K254, K300, K301, K302, K303, K304, N101, N102, N103, N104, N201, N232, N233, N234, N235, N236, N237, N251, N252, N253, N254, N301, N302, N303, N304, La_k hA, La_k1 hA, La_n1 hA, La_k2 hA, La_n2 hA, La_k3 hA, La_n3 hA, La_k4 hA, La_n4 hA, La_k5 hA, La_n5 hA, La_f6 hA, La_f7 hA, La_f8 hA, La_f9 hA, La_f10 hA, La_0 hA, La_1 hA, La_2 hA, La_3 hA, La_4 hA, La_5 hA, La_h hA, La_a hA, La_t hA, La_fr hA, La_to hA, X10F.f0 X1, X10F.f1 X1, X10F.f2 X1, X10F.f3 X1, X10F.f4 X1, X10F.f5 X1, X10F.f6 X1, X10F.f7 X1, X10F.f8 X1, X10F.f9 X1, X10F.f10 X1]
  refine Ev_bind (c_aim A1 (by omega) F1 hD' hp') (fun μ2 ⟨f2, F2, S2⟩ => ?_)
  have A2 : La μ2 (1010 + 10 * n) (gc (lg b n) c h) := A1.fw f2 (fun x a b => by unfold sR0; omega)
  have X2 : X10F μ2 := by unfold X10F; rw [f2 100 (by unfold sR0; omega)]; exact X1
  have L2 : LiF μ2 240 := L1.fw f2 (by unfold sR0; omega)
  simp (disch := omega) only [w32_eq, w64_eq, chk_T, chk_t, lt, lm, ob, Int.add_zero, Int.zero_add, true_and, and_true, if_true, if_false, K100, K101, K102, K103, K104, K200, K201, K230, K231, K232, K233, K234, K235, K236, K237, K250, K251, K252, K253, K254, K300, K301, K302, K303, K304, N101, N102, N103, N104, N201, N232, N233, N234, N235, N236, N237, N251, N252, N253, N254, N301, N302, N303, N304, X10F.f0 X2, X10F.f1 X2, X10F.f2 X2, X10F.f3 X2, X10F.f4 X2, X10F.f5 X2, X10F.f6 X2, X10F.f7 X2, X10F.f8 X2, X10F.f9 X2, X10F.f10 X2]
  refine Ev_bind (c_look A2 LiK_240 L2 F2 S2 hD' hp' (by omega) (by omega)) (fun μ3 ⟨f3, _, L3⟩ => ?_)
  have A3 : La μ3 (1010 + 10 * n) (gc (lg b n) c h) := A2.fw f3 (fun x a b => by omega)
  simp (disch := omega) only [w32_eq, w64_eq, chk_T, chk_t, lt, lm, ob, Int.add_zero, Int.zero_add, true_and, and_true, if_true, if_false, K100, K101, K102, K103, K104, K200, K201, K230, K231, K232, K233, K234, K235, K236, K237, K250, K251, K252, K253, K254, K300, K301, K302, K303, K304, N101, N102, N103, N104, N201, N232, N233, N234, N235, N236, N237, N251, N252, N253, N254, N301, N302, N303, N304, La_k A3, La_k1 A3, La_n1 A3, La_k2 A3, La_n2 A3, La_k3 A3, La_n3 A3, La_k4 A3, La_n4 A3, La_k5 A3, La_n5 A3, La_f6 A3, La_f7 A3, La_f8 A3, La_f9 A3, La_f10 A3, La_0 A3, La_1 A3, La_2 A3, La_3 A3, La_4 A3, La_5 A3, La_h A3, La_a A3, La_t A3, La_fr A3, La_to A3]
  have er : μ3 (1010 + 10 * n + 1) = mst μ (1010 + 10 * n + 1) c h (1010 + 10 * n + 1) := by
    rw [f3 _ (by omega), f2 _ (by unfold sR0; omega)]
  have eh := La_h hA bc.1 bc.2
  refine Ev_some ⟨fun x hx => ?_, ?_, ?_⟩
  · by_cases e : x = 1010 + 10 * n + 1
    · subst e; exact mst_back eh μ3 er
    · rw [mst_n e, f3 x (fun z => hx (.inr (by omega))), f2 x (fun z => hx (.inl z)), mst_n e]
  · exact (F2.fw f3 (fun x a b => by omega)).st (by omega)
  · exact L3.fw (R := fun x => x = 1010 + 10 * n + 1) (Fw.s0 rfl) (fun x a b => by omega)
theorem Ca.trl {μ μ' : Mm} {b : Int → Int} {vb : Int} (hC : Ca μ b vb) (f : Fw tR μ μ') (F : SiF μ') (L : LiF μ' 240) : Ca μ' b vb := by
  refine ⟨⟨F, L, ?_, ?_, ?_, hC.1.2.2.2.2.2.e (f 101 (by unfold tR sR0; omega)) (fun x a b => by rw [f 0 (by unfold tR sR0; omega)])⟩, fun n h0 h1 => (hC.2 n h0 h1).fw f (by rw [f 102 (by unfold tR sR0; omega)]) (fun x a b => by unfold tR sR0; omega) (fun x a b => by rw [f 0 (by unfold tR sR0; omega)])⟩
  · unfold FtF; rw [f 250 (by unfold tR sR0; omega)]; exact hC.1.2.2.1
  · unfold WkF; rw [f 300 (by unfold tR sR0; omega)]; exact hC.1.2.2.2.1
  · unfold SkF; rw [f 290 (by unfold tR sR0; omega)]; exact hC.1.2.2.2.2.1
theorem Bd_tR {μ μ' : Mm} (f : Fw tR μ μ') : Bd μ' = Bd μ := Bd_e (f 101 (by unfold tR sR0; omega)) (f 102 (by unfold tR sR0; omega)) (f 10002 (by unfold tR sR0; omega)) (f 12002 (by unfold tR sR0; omega))
theorem tR_q {x : Int} (h : tR x) : Rq x := by unfold tR sR0 at h; unfold Rq; omega
noncomputable def zzShift (b : Int → Int) (n c h : Int) : Int := sel (isP b n c ∧ 0 ≤ h ∧ h ≤ 999) (ct (fun p => hN (lg b n) p ≠ hN (gc (lg b n) c h) p) (np (lg b n)).toNat) (-1)
theorem q_shift {μ : Mm} {b : Int → Int} {vb : Int} (hW : Nw μ b) (hC : Ca μ b vb) (hvb : 0 ≤ vb) (n c h : Int) : Ec (fX10_shift 100 n c h μ) (Bd μ) (QP μ b vb (fun r => r = zzShift b n c h)) := by
  unfold fX10_shift zzShift
  simp (disch := omega) only [w32_eq, w64_eq, chk_T, chk_t, lt, lm, ob, Int.add_zero, Int.zero_add, true_and, and_true, if_true, if_false, K100, K101, K102, K103, K104, K200, K201, K230, K231, K232, K233, K234, K235, K236, K237, K250, K251, K252, K253, K254, K300, K301, K302, K303, K304, N101, N102, N103, N104, N201, N232, N233, N234, N235, N236, N237, N251, N252, N253, N254, N301, N302, N303, N304, ]
  refine q_scene hW hC hvb (fun z => ⟨_, rfl, fun μ1 cc nn => by dsimp only; rw [if_pos rfl, sel_f (fun y => z y.1.1)]⟩) (fun hL μ1 N1 fq C1 hD hs cc nn => ⟨_, rfl, ?_⟩)
  dsimp only
  obtain ⟨k1, k2, k3, k4⟩ := sc_k N1 C1 hL hs
  have hA := N1.la hL.1 hL.2
  have nbb := np_b hD
  rw [if_neg (by have := hL.1; omega)]
  simp (disch := omega) only [w32_eq, w64_eq, chk_T, chk_t, lt, lm, ob, Int.add_zero, Int.zero_add, true_and, and_true, if_true, if_false, k1, k2, k3, c_has hA hD, bi_if]
  by_cases hc : Pl (lg b n) c
  · have bc := Pl.i hD hc
    rw [sel_t hc]
    by_cases hh : 0 ≤ h ∧ h ≤ 999
    · rw [if_neg (by omega), if_pos (by omega), sel_t ⟨⟨hL, hc⟩, hh⟩]
      refine Ec_bind (Ec_lop (P := fun r b' => b' = Bd r.2 ∧ Fw Rq μ r.2 ∧ Ca r.2 b vb ∧ r.1 = ct (fun p => hN (lg b n) p ≠ hN (gc (lg b n) c h) p) (np (lg b n)).toNat) (fun t b' => b' = Bd t.2.2 ∧ Fw Rq μ t.2.2 ∧ Nw t.2.2 b ∧ Ca t.2.2 b vb ∧ t.2.2 102 n ≠ 0 ∧ (0 ≤ t.2.1 ∧ t.2.1 ≤ np (lg b n)) ∧ t.1 = ct (fun p => hN (lg b n) p ≠ hN (gc (lg b n) c h) p) t.2.1.toNat) (fun t => (np (lg b n) - t.2.1).toNat) ⟨rfl, fq, N1, C1, hs, (by first | omega | (dsimp only; omega) | (dsimp only)), rfl⟩ (by unfold FU; dsimp only; omega) ?_) ?_
      · rintro ⟨v5, v6, μ2⟩ b2 ⟨hb, f2, N2, C2, s2, h4, hM⟩
        dsimp only at hb f2 N2 C2 s2 h4 hM ⊢
        obtain ⟨k1, k2, k3, k4⟩ := sc_k N2 C2 hL s2
        have cb := ct_b (fun p => hN (lg b n) p ≠ hN (gc (lg b n) c h) p) v6.toNat
        unfold sX10_shift_43
        simp (disch := omega) only [w32_eq, w64_eq, chk_T, chk_t, lt, lm, ob, Int.add_zero, Int.zero_add, true_and, and_true, if_true, if_false, k1, k2, k3, k4]
        rw [hb]
        refine Ec_ite (fun z => Ec_outA ⟨rfl, f2, C2, ?_⟩) (fun z => ?_)
        · have e : v6 = np (lg b n) := by omega
          rw [e] at hM; exact hM
        · have hp : Pl (lg b n) v6 := ⟨by omega, by omega⟩
          refine Ec_bind (c_ln N2 C2 f2 hL s2 hp) ?_
          rintro ⟨r5, μ5⟩ b5 ⟨hb5, hr5, f5, N5, C5, s5, L5⟩ cc nn
          refine ⟨_, rfl, ?_⟩
          dsimp only at hb5 hr5 f5 N5 C5 s5 L5 ⊢
          subst hb5 hr5
          obtain ⟨_, k6, _, _⟩ := sc_k N5 C5 hL s5
          rw [k6]
          refine Ec_chk L5.1.k (Ec_chk (by decide) ?_)
          refine Ec_bindE (c_lookWith N5 C5.1 hL hp hc hh) (fun μ6 ⟨f6, F6, L6⟩ => ?_)
          have fq6 : Fw Rq μ5 μ6 := f6.mo (fun x hx => tR_q hx)
          have N6 := N5.q fq6
          have e5 := L5.2.2.1.2.1
          have e6 := L6.2.2.1.2.1
          simp (disch := omega) only [w32_eq, w64_eq, chk_T, chk_t, lt, lm, ob, Int.add_zero, Int.zero_add, true_and, and_true, if_true, if_false, K100, K101, K102, K103, K104, K200, K201, K230, K231, K232, K233, K234, K235, K236, K237, K250, K251, K252, K253, K254, K300, K301, K302, K303, K304, N101, N102, N103, N104, N201, N232, N233, N234, N235, N236, N237, N251, N252, N253, N254, N301, N302, N303, N304, X10F.f0 N6.1, X10F.f1 N6.1, X10F.f2 N6.1, X10F.f3 N6.1, X10F.f4 N6.1, X10F.f5 N6.1, X10F.f6 N6.1, X10F.f7 N6.1, X10F.f8 N6.1, X10F.f9 N6.1, X10F.f10 N6.1, K240, e5, e6]
          have es := ct_s (P := fun p => hN (lg b n) p ≠ hN (gc (lg b n) c h) p) h4.1
          rw [← Bd_tR f6]
          have C6 : Ca μ6 b vb := C5.trl f6 F6 L6.2.1
          have s6 : μ6 102 n ≠ 0 := by rw [f6 102 (by unfold tR sR0; omega)]; exact s5
          refine Ec_ite (fun y => ?_) (fun y => ?_)
          · rw [bi_f (fun w => w y.symm)] at es
            exact Ec_inA ⟨rfl, f5.tr fq6, N6, C6, s6, (by first | omega | (dsimp only; omega) | (dsimp only)), (by first | omega | (dsimp only; omega) | (dsimp only))⟩ (by first | omega | (dsimp only; omega) | (dsimp only))
          · rw [bi_t (fun w => y w.symm)] at es
            exact Ec_inA ⟨rfl, f5.tr fq6, N6, C6, s6, (by first | omega | (dsimp only; omega) | (dsimp only)), (by first | omega | (dsimp only; omega) | (dsimp only))⟩ (by first | omega | (dsimp only; omega) | (dsimp only))
      · rintro ⟨r, μ2⟩ b2 ⟨h1, h2, h3, h4⟩ cc nn
        exact ⟨_, rfl, Ec_some ⟨h1, h2, h3, h4⟩⟩
    · rw [sel_f (fun z => hh z.2)]
      refine Ec_ite (fun z => Ec_some ⟨rfl, fq, C1, rfl⟩) (fun z => ?_)
      rw [if_neg (by omega)]; exact Ec_some ⟨rfl, fq, C1, rfl⟩
  · rw [sel_f hc, sel_f (fun z => hc z.1.2)]
    exact Ec_some ⟨rfl, fq, C1, rfl⟩
/-! the reference: differs, shift -/
theorem rr_differs {μ : Mm} {b : Int → Int} (hM : Md μ) (hDt : Dt μ) (hb : μ 20001 = b) (hA : AOk b) (n m p : Int) : Ev (fX11_differs 20000 n m p μ) (fun r => r.1 = zzDiffers b n m p) := by
  have a0 := hA.1
  unfold fX11_differs zzDiffers
  simp (disch := omega) only [w32_eq, w64_eq, chk_T, chk_t, lt, lm, ob, Int.add_zero, Int.zero_add, true_and, and_true, if_true, if_false, K20000, K20001, K20002, K20003, K20004, K20005, K20006, K20007, K20008, K20009, K20010, K20011, K20012, K20013, K20014, K20015, K20016, K20017, K20018, K20019, N20001, N20002, N20003, N20004, N20005, N20006, N20007, N20008, N20009, N20010, N20011, N20012, N20013, N20014, N20015, N20016, N20017, N20018, N20019, r_isPlace hM hb hA, bi_if]
  by_cases h1 : isP b n p
  · rw [sel_t h1]
    by_cases h2 : isP b m p
    · have nn : n = 0 ∨ n = 1 := by have := h1.1.1; have := h1.1.2; omega
      have mm : m = 0 ∨ m = 1 := by have := h2.1.1; have := h2.1.2; omega
      have D1 := hA.2.2.2.2.1 n h1.1.1 h1.1.2; have D2 := hA.2.2.2.2.1 m h2.1.1 h2.1.2
      have bp := Pl.i D1 h1.2
      have hb1 := hN_b D1 h1.2; have hb2 := hN_b D2 h2.2
      rw [sel_t h2, sel_t ⟨h1, h2⟩]
      simp (disch := omega) only [w32_eq, w64_eq, chk_T, chk_t, lt, lm, ob, Int.add_zero, Int.zero_add, true_and, and_true, if_true, if_false, K20000, K20001, K20002, K20003, K20004, K20005, K20006, K20007, K20008, K20009, K20010, K20011, K20012, K20013, K20014, K20015, K20016, K20017, K20018, K20019, N20001, N20002, N20003, N20004, N20005, N20006, N20007, N20008, N20009, N20010, N20011, N20012, N20013, N20014, N20015, N20016, N20017, N20018, N20019, r_placeOf nn, r_placeOf mm]
      refine Ev_bind (r_surveyAt hM (G_lg hb mm) hDt D2 h2.2) (fun μ1 ⟨f1, H1, _⟩ => ?_)
      have M1 := f1.md hM (by decide)
      -- wiped
      refine Ev_bind (Ev_lopF (pj := pjX11_differs_33) (P := fun μ' => Fr [20011] [] μ1 μ' ∧ ∀ q, 0 ≤ q → q < 144 → μ' 20011 q = 0) (fun s t h hM => frsX11_differs_33 h hM) (by decide) M1 (fun s => (0 ≤ s.1 ∧ s.1 ≤ 144) ∧ ∀ q, 0 ≤ q → q < s.1 → s.2 20011 q = 0) (fun s => (144 - s.1).toNat) ⟨(by first | omega | (dsimp only; omega) | (dsimp only)), fun q a b => by dsimp only at b; omega⟩ (by unfold FU; dsimp only; omega) ?_) (fun μ2 ⟨f2, w2⟩ => ?_)
      · rintro ⟨v4, μ3⟩ M3 F3 ⟨r1, r2⟩
        replace M3 : Md μ3 := M3
        dsimp only at r1 r2 ⊢
        unfold sX11_differs_33
        dsimp only
        refine Ev_ite (fun z => Ev_out (fun f => ⟨f, fun q a c => r2 q a (by omega)⟩)) (fun z => ?_)
        simp (disch := omega) only [w32_eq, w64_eq, chk_T, chk_t, lt, lm, ob, Int.add_zero, Int.zero_add, true_and, and_true, if_true, if_false, K20000, K20001, K20002, K20003, K20004, K20005, K20006, K20007, K20008, K20009, K20010, K20011, K20012, K20013, K20014, K20015, K20016, K20017, K20018, K20019, N20001, N20002, N20003, N20004, N20005, N20006, N20007, N20008, N20009, N20010, N20011, N20012, N20013, N20014, N20015, N20016, N20017, N20018, N20019, Md_22 M3]
        refine Ev_in ⟨(by first | omega | (dsimp only; omega) | (dsimp only)), fun q a c => ?_⟩ (by first | omega | (dsimp only; omega) | (dsimp only))
        dsimp only at c ⊢
        by_cases e : q = v4
        · subst e; exact mst_s
        · rw [mst_j e]; exact r2 q a (by omega)
      -- marked
      have M2 := f2.md M1 (by decide)
      have H2 : Hp μ2 (lg b m) p := by unfold Hp; rw [f2.1 20007 (by decide) (by decide), f2.1 20008 (by decide) (by decide)]; exact H1
      refine Ev_bind (Ev_lopF (pj := pjX11_differs_58) (P := fun μ' => Fr [20011] [] μ2 μ' ∧ ∀ q, 0 ≤ q → q < 144 → μ' 20011 q = bi (hasT (lg b m) p q)) (fun s t h hM => frsX11_differs_58 h hM) (by decide) M2 (fun s => (0 ≤ s.1 ∧ s.1 ≤ hN (lg b m) p) ∧ ∀ q, 0 ≤ q → q < 144 → s.2 20011 q = bi (∃ j, 0 ≤ j ∧ j < s.1 ∧ hT (lg b m) p j = q)) (fun s => (hN (lg b m) p - s.1).toNat) ⟨(by first | omega | (dsimp only; omega) | (dsimp only)), fun q a c => by dsimp only; rw [w2 q a c, bi_f]; rintro ⟨j, j0, j1, _⟩; omega⟩ (by unfold FU; dsimp only; omega) ?_) (fun μ3 ⟨f3, w3⟩ => ?_)
      · rintro ⟨v4, μ3⟩ M3 F3 ⟨r1, r2⟩
        replace M3 : Md μ3 := M3
        replace F3 : Fr [20011] [] μ2 μ3 := F3
        have H3 : Hp μ3 (lg b m) p := by unfold Hp; rw [F3.1 20007 (by decide) (by decide), F3.1 20008 (by decide) (by decide)]; exact H2
        dsimp only at r1 r2 ⊢
        unfold sX11_differs_58
        dsimp only
        simp (disch := omega) only [w32_eq, w64_eq, chk_T, chk_t, lt, lm, ob, Int.add_zero, Int.zero_add, true_and, and_true, if_true, if_false, K20000, K20001, K20002, K20003, K20004, K20005, K20006, K20007, K20008, K20009, K20010, K20011, K20012, K20013, K20014, K20015, K20016, K20017, K20018, K20019, N20001, N20002, N20003, N20004, N20005, N20006, N20007, N20008, N20009, N20010, N20011, N20012, N20013, N20014, N20015, N20016, N20017, N20018, N20019, Md_16 M3, H3.1]
        refine Ev_ite (fun z => Ev_out (fun f => ⟨f, fun q a c => ?_⟩)) (fun z => ?_)
        · rw [r2 q a c]; apply bi_c
          constructor
          · rintro ⟨j, j0, j1, e⟩; exact ⟨j, j0, by omega, e⟩
          · rintro ⟨j, j0, j1, e⟩; exact ⟨j, j0, by omega, e⟩
        · have TP := hT_P D2 h2.2 r1.1 (show v4 < hN (lg b m) p by omega)
          have bT := Pl.i D2 TP.1
          simp (disch := omega) only [w32_eq, w64_eq, chk_T, chk_t, lt, lm, ob, Int.add_zero, Int.zero_add, true_and, and_true, if_true, if_false, K20000, K20001, K20002, K20003, K20004, K20005, K20006, K20007, K20008, K20009, K20010, K20011, K20012, K20013, K20014, K20015, K20016, K20017, K20018, K20019, N20001, N20002, N20003, N20004, N20005, N20006, N20007, N20008, N20009, N20010, N20011, N20012, N20013, N20014, N20015, N20016, N20017, N20018, N20019, Md_17 M3, Md_22 M3, H3.2 v4 r1.1 (by omega)]
          refine Ev_in ⟨(by first | omega | (dsimp only; omega) | (dsimp only)), fun q a c => ?_⟩ (by first | omega | (dsimp only; omega) | (dsimp only))
          dsimp only
          by_cases e : q = hT (lg b m) p v4
          · rw [e, mst_s, bi_t]; exact ⟨v4, r1.1, by omega, rfl⟩
          · rw [mst_j e, r2 q a c]; apply bi_c
            constructor
            · rintro ⟨j, j0, j1, ej⟩; exact ⟨j, j0, by omega, ej⟩
            · rintro ⟨j, j0, j1, ej⟩
              by_cases y : j = v4
              · subst y; exact absurd ej.symm e
              · exact ⟨j, j0, by omega, ej⟩
      have M3 := f3.md M2 (by decide)
      have F03 : Fr [20006, 20007, 20008, 20011] [14] μ μ3 := ((f1.mo (by decide) (by decide)).tr (f2.mo (by decide) (by decide))).tr (f3.mo (by decide) (by decide))
      refine Ev_bind (r_surveyAt M3 ((G_lg hb nn).fr F03 (by decide)) (hDt.fr F03 (by decide) (by decide) (by decide)) D1 h1.2) (fun μ4 ⟨f4, H4, _⟩ => ?_)
      have M4 := f4.md M3 (by decide)
      have w4 : ∀ q, 0 ≤ q → q < 144 → μ4 20011 q = bi (hasT (lg b m) p q) := by rw [f4.1 20011 (by decide) (by decide)]; exact w3
      refine Ev_bind (Ev_cnt (P := fun k => ¬hasT (lg b m) p (hT (lg b n) p k)) (n := hN (lg b n) p) (by omega) (by omega) (fun i a i0 i1 a0 a1 => ?_) (fun a a0 a1 => ?_)) (fun r h => Ev_some h)
      · have TP := hT_P D1 h1.2 i0 i1
        have bT := Pl.i D1 TP.1
        unfold sX11_differs_109
        dsimp only
        simp (disch := omega) only [w32_eq, w64_eq, chk_T, chk_t, lt, lm, ob, Int.add_zero, Int.zero_add, true_and, and_true, if_true, if_false, K20000, K20001, K20002, K20003, K20004, K20005, K20006, K20007, K20008, K20009, K20010, K20011, K20012, K20013, K20014, K20015, K20016, K20017, K20018, K20019, N20001, N20002, N20003, N20004, N20005, N20006, N20007, N20008, N20009, N20010, N20011, N20012, N20013, N20014, N20015, N20016, N20017, N20018, N20019, Md_16 M4, Md_17 M4, Md_22 M4, H4.1, H4.2 i i0 i1, w4 _ bT.1 bT.2, bi_if]
        rw [if_neg (by omega)]
        by_cases y : hasT (lg b m) p (hT (lg b n) p i)
        · rw [sel_t y, bi_f (fun w => w y), Int.add_zero]; exact Ev_some rfl
        · rw [sel_f y, bi_t y]; exact Ev_some rfl
      · unfold sX11_differs_109
        dsimp only
        simp (disch := omega) only [w32_eq, w64_eq, chk_T, chk_t, lt, lm, ob, Int.add_zero, Int.zero_add, true_and, and_true, if_true, if_false, K20000, K20001, K20002, K20003, K20004, K20005, K20006, K20007, K20008, K20009, K20010, K20011, K20012, K20013, K20014, K20015, K20016, K20017, K20018, K20019, N20001, N20002, N20003, N20004, N20005, N20006, N20007, N20008, N20009, N20010, N20011, N20012, N20013, N20014, N20015, N20016, N20017, N20018, N20019, Md_16 M4, H4.1]
        rw [if_pos (by omega)]; exact Ev_some rfl
    · rw [sel_f h2, sel_f (fun z => h2 z.2)]; exact Ev_some rfl
  · rw [sel_f h1, sel_f (fun z => h1 z.1)]; exact Ev_some rfl
theorem rr_shift {μ : Mm} {b : Int → Int} (hM : Md μ) (hDt : Dt μ) (hb : μ 20001 = b) (hA : AOk b) (n c h : Int) : Ev (fX11_shift 20000 n c h μ) (fun r => r.1 = zzShift b n c h ∧ r.2 20001 = μ 20001) := by
  have a0 := hA.1
  unfold fX11_shift zzShift
  simp (disch := omega) only [w32_eq, w64_eq, chk_T, chk_t, lt, lm, ob, Int.add_zero, Int.zero_add, true_and, and_true, if_true, if_false, K20000, K20001, K20002, K20003, K20004, K20005, K20006, K20007, K20008, K20009, K20010, K20011, K20012, K20013, K20014, K20015, K20016, K20017, K20018, K20019, N20001, N20002, N20003, N20004, N20005, N20006, N20007, N20008, N20009, N20010, N20011, N20012, N20013, N20014, N20015, N20016, N20017, N20018, N20019, r_isPlace hM hb hA, bi_if]
  by_cases h1 : isP b n c
  · rw [sel_t h1]
    by_cases hh : 0 ≤ h ∧ h ≤ 999
    · have nn : n = 0 ∨ n = 1 := by have := h1.1.1; have := h1.1.2; omega
      have hD := hA.2.2.2.2.1 n h1.1.1 h1.1.2
      have bc := Pl.i hD h1.2
      have nb := np_b hD
      have hG := G_lg hb nn
      have hl := hG.1
      rw [isIn_t hh.1 hh.2, if_neg (by decide), sel_t ⟨h1, hh⟩]
      simp (disch := omega) only [w32_eq, w64_eq, chk_T, chk_t, lt, lm, ob, Int.add_zero, Int.zero_add, true_and, and_true, if_true, if_false, K20000, K20001, K20002, K20003, K20004, K20005, K20006, K20007, K20008, K20009, K20010, K20011, K20012, K20013, K20014, K20015, K20016, K20017, K20018, K20019, N20001, N20002, N20003, N20004, N20005, N20006, N20007, N20008, N20009, N20010, N20011, N20012, N20013, N20014, N20015, N20016, N20017, N20018, N20019, r_placeOf nn]
      generalize 710 + 200 * n = l at *
      refine Ev_bind (r_survey hM hG hDt hD) (fun μ1 ⟨f1, H1⟩ => ?_)
      have M1 := f1.md hM (by decide)
      refine Ev_bind (Ev_lopF (pj := pjX11_shift_38) (P := fun μ' => Fr [20019] [] μ1 μ' ∧ ∀ q, 0 ≤ q → q < 144 → μ' 20019 q = μ1 20007 q) (fun s t h hM => frsX11_shift_38 h hM) (by decide) M1 (fun s => (0 ≤ s.1 ∧ s.1 ≤ 144) ∧ ∀ q, 0 ≤ q → q < s.1 → s.2 20019 q = μ1 20007 q) (fun s => (144 - s.1).toNat) ⟨(by first | omega | (dsimp only; omega) | (dsimp only)), fun q a b => by dsimp only at b; omega⟩ (by unfold FU; dsimp only; omega) ?_) (fun μ2 ⟨f2, w2⟩ => ?_)
      · rintro ⟨v4, μ3⟩ M3 F3 ⟨r1, r2⟩
        replace M3 : Md μ3 := M3
        replace F3 : Fr [20019] [] μ1 μ3 := F3
        dsimp only at r1 r2 ⊢
        unfold sX11_shift_38
        dsimp only
        refine Ev_ite (fun z => Ev_out (fun f => ⟨f, fun q a c => r2 q a (by omega)⟩)) (fun z => ?_)
        simp (disch := omega) only [w32_eq, w64_eq, chk_T, chk_t, lt, lm, ob, Int.add_zero, Int.zero_add, true_and, and_true, if_true, if_false, K20000, K20001, K20002, K20003, K20004, K20005, K20006, K20007, K20008, K20009, K20010, K20011, K20012, K20013, K20014, K20015, K20016, K20017, K20018, K20019, N20001, N20002, N20003, N20004, N20005, N20006, N20007, N20008, N20009, N20010, N20011, N20012, N20013, N20014, N20015, N20016, N20017, N20018, N20019, Md_16 M3, Md_33 M3]
        refine Ev_in ⟨(by first | omega | (dsimp only; omega) | (dsimp only)), fun q a c => ?_⟩ (by first | omega | (dsimp only; omega) | (dsimp only))
        dsimp only at c ⊢
        by_cases e : q = v4
        · subst e; rw [mst_s, F3.1 20007 (by decide) (by decide)]
        · rw [mst_j e]; exact r2 q a (by omega)
      have M2 := f2.md M1 (by decide)
      have F02 : Fr [20006, 20007, 20008, 20019] [14] μ μ2 := (f1.mo (by decide) (by decide)).tr (f2.mo (by decide) (by decide))
      have G2 := hG.fr F02 (by decide)
      simp (disch := omega) only [w32_eq, w64_eq, chk_T, chk_t, lt, lm, ob, Int.add_zero, Int.zero_add, true_and, and_true, if_true, if_false, K20000, K20001, K20002, K20003, K20004, K20005, K20006, K20007, K20008, K20009, K20010, K20011, K20012, K20013, K20014, K20015, K20016, K20017, K20018, K20019, N20001, N20002, N20003, N20004, N20005, N20006, N20007, N20008, N20009, N20010, N20011, N20012, N20013, N20014, N20015, N20016, N20017, N20018, N20019, Md_0 M2]
      have f3 : Fr [20001] [] μ2 (mst μ2 20001 (l + 6 + c) h) := Fr.row rfl rfl (by decide) (by decide)
      have M3 := f3.md M2 (by decide)
      have F03 : Fr [20001, 20006, 20007, 20008, 20019] [14] μ (mst μ2 20001 (l + 6 + c) h) := (F02.mo (by decide) (by decide)).tr (f3.mo (by decide) (by decide))
      have D3 := hDt.fr F03 (by decide) (by decide) (by decide)
      have hD' := gc_ok hD bc hh
      refine Ev_bind (r_survey M3 (G_gc G2 bc) D3 hD') (fun μ4 ⟨f4, H4⟩ => ?_)
      have M4 := f4.md M3 (by decide)
      simp (disch := omega) only [w32_eq, w64_eq, chk_T, chk_t, lt, lm, ob, Int.add_zero, Int.zero_add, true_and, and_true, if_true, if_false, K20000, K20001, K20002, K20003, K20004, K20005, K20006, K20007, K20008, K20009, K20010, K20011, K20012, K20013, K20014, K20015, K20016, K20017, K20018, K20019, N20001, N20002, N20003, N20004, N20005, N20006, N20007, N20008, N20009, N20010, N20011, N20012, N20013, N20014, N20015, N20016, N20017, N20018, N20019, Md_0 M4]
      have f5 : Fr [20001] [] μ4 (mst μ4 20001 (l + 6 + c) (μ2 20001 (l + 6 + c))) := Fr.row rfl rfl (by decide) (by decide)
      have M5 := f5.md M4 (by decide)
      have e1 : mst μ4 20001 (l + 6 + c) (μ2 20001 (l + 6 + c)) 20001 = μ 20001 := by
        have := mst_back (μ := μ2) (a := 20001) (i := l + 6 + c) (v := h) rfl μ4 (f4.1 20001 (by decide) (by decide))
        rw [this]; exact F02.1 20001 (by decide) (by decide)
      have G5 : G (mst μ4 20001 (l + 6 + c) (μ2 20001 (l + 6 + c))) l (lg b n) := ⟨hG.1, fun i i0 i1 => by rw [e1]; exact hG.2 i i0 i1⟩
      have w5 : ∀ q, Pl (lg b n) q → mst μ4 20001 (l + 6 + c) (μ2 20001 (l + 6 + c)) 20019 q = hN (lg b n) q := by
        intro q hq
        have bq := Pl.i hD hq
        rw [mst_n (by decide), f4.1 20019 (by decide) (by decide), mst_n (by decide), w2 q bq.1 bq.2]; exact (H1 q hq).1
      have u5 : ∀ q, Pl (lg b n) q → mst μ4 20001 (l + 6 + c) (μ2 20001 (l + 6 + c)) 20007 q = hN (gc (lg b n) c h) q := by
        intro q hq
        rw [mst_n (by decide)]; exact (H4 q ((gc_Pl bc.1).mpr hq)).1
      generalize mst μ4 20001 (l + 6 + c) (μ2 20001 (l + 6 + c)) = μ5 at *
      refine Ev_bind (Ev_cnt (P := fun p => hN (lg b n) p ≠ hN (gc (lg b n) c h) p) (n := np (lg b n)) (by omega) (by omega) (fun i a i0 i1 a0 a1 => ?_) (fun a a0 a1 => ?_)) (fun r h => Ev_some ⟨h, e1⟩)
      · unfold sX11_shift_119
        dsimp only
        simp (disch := omega) only [w32_eq, w64_eq, chk_T, chk_t, lt, lm, ob, Int.add_zero, Int.zero_add, true_and, and_true, if_true, if_false, K20000, K20001, K20002, K20003, K20004, K20005, K20006, K20007, K20008, K20009, K20010, K20011, K20012, K20013, K20014, K20015, K20016, K20017, K20018, K20019, N20001, N20002, N20003, N20004, N20005, N20006, N20007, N20008, N20009, N20010, N20011, N20012, N20013, N20014, N20015, N20016, N20017, N20018, N20019, r_placesOf M5 G5 hD, Md_16 M5, Md_33 M5, w5 i ⟨i0, i1⟩, u5 i ⟨i0, i1⟩]
        rw [if_neg (by omega)]
        refine Ev_ite (fun e => ?_) (fun e => ?_)
        · rw [bi_f (fun w => w e), Int.add_zero]; exact Ev_some rfl
        · rw [bi_t e]; exact Ev_some rfl
      · unfold sX11_shift_119
        dsimp only
        simp (disch := omega) only [w32_eq, w64_eq, chk_T, chk_t, lt, lm, ob, Int.add_zero, Int.zero_add, true_and, and_true, if_true, if_false, K20000, K20001, K20002, K20003, K20004, K20005, K20006, K20007, K20008, K20009, K20010, K20011, K20012, K20013, K20014, K20015, K20016, K20017, K20018, K20019, N20001, N20002, N20003, N20004, N20005, N20006, N20007, N20008, N20009, N20010, N20011, N20012, N20013, N20014, N20015, N20016, N20017, N20018, N20019, r_placesOf M5 G5 hD]
        rw [if_pos (by omega)]; exact Ev_some rfl
    · rw [isIn_f hh, if_pos rfl, sel_f (fun z => hh z.2)]; exact Ev_some ⟨rfl, rfl⟩
  · rw [sel_f h1, sel_f (fun z => h1 z.1)]; exact Ev_some ⟨rfl, rfl⟩
