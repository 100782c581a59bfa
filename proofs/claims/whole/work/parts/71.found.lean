/-! ===== found ===== -/
noncomputable def rvS (g s : Int → Int) (p : Int) : Int := ct (fun q => ftp g s (-1) q ∧ q ≠ p) 144
def hit (g : Int → Int) (p st m seed e al w : Int) : Prop := ftp g (sw (dw g p st m) (w32 (seed + w)) e) (-1) p ∧ (al ≠ 0 → rvS g (sw (dw g p st m) (w32 (seed + w)) e) p = 0)
def fdC (b : Int → Int) (n p st m e w : Int) : Prop := cD b n p st m 9 ∧ (0 ≤ e ∧ e ≤ 20) ∧ 1 ≤ w ∧ w ≤ 8
noncomputable def zzFound (b : Int → Int) (n p st m seed e w al : Int) : Int := sel (fdC b n p st m e w) (ct (hit (lg b n) p st m seed e al) w.toNat) (-1)
theorem cD_12 {b : Int → Int} {n p st m : Int} (h : cD b n p st m 9) : 1 ≤ m ∧ m ≤ 12 ∧ m ≤ hN (lg b n) p := ⟨h.2.2.1, by have := h.2.2.2.2; omega, h.2.2.2.1⟩
theorem rr_found {μ : Mm} {b : Int → Int} (hM : Md μ) (hDt : Dt μ) (hb : μ 20001 = b) (hA : AOk b) (n p st m seed e w al : Int) : Ev (fX11_found 20000 n p st m seed e w al μ) (fun r => r.1 = zzFound b n p st m seed e w al ∧ ∀ x, x < 4960 → r.2 20001 x = b x) := by
  have a0 := hA.1
  unfold fX11_found zzFound
  by_cases he : 0 ≤ e ∧ e ≤ 20
  · rw [isIn_t he.1 he.2, if_neg (by decide)]
    by_cases hw : 1 ≤ w ∧ w ≤ 8
    · rw [isIn_t hw.1 hw.2, if_neg (by decide)]
      simp (disch := omega) only [w32_eq, w64_eq, chk_T, chk_t, lt, lm, ob, Int.add_zero, Int.zero_add, true_and, and_true, if_true, if_false, K20000, K20001, K20002, K20003, K20004, K20005, K20006, K20007, K20008, K20009, K20010, K20011, K20012, K20013, K20014, K20015, K20016, K20017, K20018, K20019, N20001, N20002, N20003, N20004, N20005, N20006, N20007, N20008, N20009, N20010, N20011, N20012, N20013, N20014, N20015, N20016, N20017, N20018, N20019, ]
      refine Ev_bind (r_canDraw hM hDt hb hA n p st m 9) ?_
      rintro ⟨r, μ1⟩ ⟨f1, e1, h1⟩
      dsimp only at f1 e1 h1 ⊢
      subst e1
      rw [bi_if]
      have e1' : μ1 20001 = b := (f1.1 20001 (by decide) (by decide)).trans hb
      by_cases c : cD b n p st m 9
      · have nn : n = 0 ∨ n = 1 := by have := c.1.1.1; have := c.1.1.2; omega
        have hD := hA.2.2.2.2.1 n c.1.1.1 c.1.1.2
        have hp := c.1.2
        have M1 := f1.md hM (by decide)
        have D1 := hDt.fr f1 (by decide) (by decide) (by decide)
        have hG := G_lg e1' nn
        have c12 := cD_12 c
        rw [sel_t c, sel_t (c := fdC b n p st m e w) ⟨c, he, hw⟩, r_placeOf nn]
        simp only [ob]
        generalize 710 + 200 * n = l at *
        refine Ev_bind (r_survey M1 hG D1 hD) (fun μ2 ⟨f2, H2⟩ => ?_)
        have M2 := f2.md M1 (by decide)
        have G2 := hG.fr f2 (by decide)
        have e2 : μ2 20001 = b := (f2.1 20001 (by decide) (by decide)).trans e1'
        refine Ev_bind (Ev_lopF (pj := pjX11_found_57) (P := fun r => r.1 = ct (hit (lg b n) p st m seed e al) w.toNat ∧ ∀ x, x < 4960 → r.2 20001 x = b x) (fun s t h hM => frsX11_found_57 h hM) (by decide) M2 (fun t => (0 ≤ t.2.1 ∧ t.2.1 ≤ w) ∧ t.1 = ct (hit (lg b n) p st m seed e al) t.2.1.toNat ∧ ∀ x, x < 4960 → t.2.2 20001 x = b x) (fun t => (w - t.2.1).toNat) ⟨(by first | omega | (dsimp only; omega) | (dsimp only)), rfl, fun x _ => by dsimp only; rw [e2]⟩ (by unfold FU; dsimp only; omega) ?_) (fun r h => Ev_some h)
        rintro ⟨v10, v11, μ3⟩ M3 F3 ⟨q1, q2, q3⟩
        replace M3 : Md μ3 := M3
        replace F3 : Fr [20001, 20009] [18, 29] μ2 μ3 := F3
        dsimp only at q1 q2 q3 ⊢
        have H3 : ∀ q, Pl (lg b n) q → Hp μ3 (lg b n) q := fun q hq => (H2 q hq).fr F3 (by decide) (by decide)
        have G3 : G μ3 l (lg b n) := G_keep G2 (fun x hx => by rw [q3 x (by omega), e2])
        have cb1 := ct_b (hit (lg b n) p st m seed e al) v11.toNat
        have cs := ct_s (P := hit (lg b n) p st m seed e al) q1.1
        unfold sX11_found_57
        dsimp only
        refine Ev_ite (fun z => Ev_out (fun _ => ⟨?_, q3⟩)) (fun z => ?_)
        · dsimp only; rw [q2, show v11 = w by omega]
        · simp (disch := omega) only [w32_eq, w64_eq, chk_T, chk_t, lt, lm, ob, Int.add_zero, Int.zero_add, true_and, and_true, if_true, if_false, K20000, K20001, K20002, K20003, K20004, K20005, K20006, K20007, K20008, K20009, K20010, K20011, K20012, K20013, K20014, K20015, K20016, K20017, K20018, K20019, N20001, N20002, N20003, N20004, N20005, N20006, N20007, N20008, N20009, N20010, N20011, N20012, N20013, N20014, N20015, N20016, N20017, N20018, N20019, ]
          refine Ev_bind (r_scrawls (z := 4960) (seed := w32 (seed + v11)) (e := e) M3 G3 hD hp (H3 p hp) c.2.1 c12 (by decide) he) (fun μ4 ⟨f4, S4, o4⟩ => ?_)
          have M4 := f4.md M3 (by decide)
          have G4 : G μ4 l (lg b n) := G_keep G3 (fun x hx => o4 x (by omega))
          have H4 : ∀ q, Pl (lg b n) q → Hp μ4 (lg b n) q := fun q hq => (H3 q hq).fr f4 (by decide) (by decide)
          have SO := sw_ok (seed := w32 (seed + v11)) (e := e) (dw_ok (g := lg b n) (p := p) (st := st) (n := m) ⟨c12.1, c12.2.1⟩) he
          have q4 : ∀ x, x < 4960 → μ4 20001 x = b x := fun x hx => by rw [o4 x (by omega)]; exact q3 x hx
          refine Ev_bind (r_fitsAt (yr := -1) M4 G4 S4 SO hD hp (H4 p hp)) (fun r hr => ?_)
          have hf := FtA_p hp hr
          refine Ev_ite (fun v => ?_) (fun v => ?_)
          · unfold jX11_found_103
            rw [if_pos rfl]
            have nh : ¬hit (lg b n) p st m seed e al v11 := fun x => by have := hf.mpr x.1; omega
            rw [bi_f nh] at cs
            try simp (disch := omega) only [w32_eq, w64_eq, chk_T, chk_t, lt, lm, ob, Int.add_zero, Int.zero_add, true_and, and_true, if_true, if_false, ]
            refine Ev_in ⟨(by first | omega | (dsimp only; omega) | (dsimp only)), ?_, q4⟩ (by first | omega | (dsimp only; omega) | (dsimp only))
            dsimp only; omega
          · have yf : ftp (lg b n) (sw (dw (lg b n) p st m) (w32 (seed + v11)) e) (-1) p := hf.mp (by omega)
            unfold jX11_found_103
            rw [if_neg (by decide)]
            refine Ev_ite (fun u => ?_) (fun u => ?_)
            · have nh : hit (lg b n) p st m seed e al v11 := ⟨yf, fun x => absurd u x⟩
              rw [bi_t nh] at cs
              try simp (disch := omega) only [w32_eq, w64_eq, chk_T, chk_t, lt, lm, ob, Int.add_zero, Int.zero_add, true_and, and_true, if_true, if_false, ]
              refine Ev_in ⟨(by first | omega | (dsimp only; omega) | (dsimp only)), ?_, q4⟩ (by first | omega | (dsimp only; omega) | (dsimp only))
              dsimp only; omega
            · simp (disch := omega) only [w32_eq, w64_eq, chk_T, chk_t, lt, lm, ob, Int.add_zero, Int.zero_add, true_and, and_true, if_true, if_false, K20000, K20001, K20002, K20003, K20004, K20005, K20006, K20007, K20008, K20009, K20010, K20011, K20012, K20013, K20014, K20015, K20016, K20017, K20018, K20019, N20001, N20002, N20003, N20004, N20005, N20006, N20007, N20008, N20009, N20010, N20011, N20012, N20013, N20014, N20015, N20016, N20017, N20018, N20019, ]
              refine Ev_bind (r_rivalsOf (p := p) M4 G4 S4 SO hD H4) ?_
              rintro ⟨r4, μ5⟩ ⟨f5, e5⟩
              dsimp only at f5 e5 ⊢
              have q5 : ∀ x, x < 4960 → μ5 20001 x = b x := fun x hx => by rw [f5.1 20001 (by decide) (by decide)]; exact q4 x hx
              refine Ev_ite (fun k => ?_) (fun k => ?_)
              · have nh : hit (lg b n) p st m seed e al v11 := ⟨yf, fun x => by unfold rvS; omega⟩
                rw [bi_t nh] at cs
                try simp (disch := omega) only [w32_eq, w64_eq, chk_T, chk_t, lt, lm, ob, Int.add_zero, Int.zero_add, true_and, and_true, if_true, if_false, ]
                refine Ev_in ⟨(by first | omega | (dsimp only; omega) | (dsimp only)), ?_, q5⟩ (by first | omega | (dsimp only; omega) | (dsimp only))
                dsimp only; omega
              · have nh : ¬hit (lg b n) p st m seed e al v11 := fun x => k (by rw [e5]; exact x.2 u)
                rw [bi_f nh] at cs
                try simp (disch := omega) only [w32_eq, w64_eq, chk_T, chk_t, lt, lm, ob, Int.add_zero, Int.zero_add, true_and, and_true, if_true, if_false, ]
                refine Ev_in ⟨(by first | omega | (dsimp only; omega) | (dsimp only)), ?_, q5⟩ (by first | omega | (dsimp only; omega) | (dsimp only))
                dsimp only; omega
      · rw [sel_f c, sel_f (fun x => c x.1)]; exact Ev_some ⟨rfl, fun x _ => by dsimp only; rw [e1']⟩
    · rw [isIn_f hw, if_pos rfl, sel_f (fun x => hw x.2.2)]; exact Ev_some ⟨rfl, fun x _ => by dsimp only; rw [hb]⟩
  · rw [isIn_f he, if_pos rfl, sel_f (fun x => he x.2.1)]; exact Ev_some ⟨rfl, fun x _ => by dsimp only; rw [hb]⟩
theorem cf_rvS {g s : Int → Int} {p : Int} (hL : LdOk g) : ct (cfP g s (fun q st' => fO g s q st' (-1)) p) (np g).toNat = rvS g s p := by
  have nb := np_b hL
  unfold rvS
  have fl := (ct_flat (c := fun q => ftp g s (-1) q ∧ q ≠ p) (v := fun k => k) (a := (np g).toNat) 144 (by omega) (fun i i0 i1 w => by have := w.1.1.2; omega)).1
  rw [fl]
  apply ct_c
  intro i i0 i1
  exact ⟨fun w => ⟨w.2, w.1⟩, fun w => ⟨w.2, w.1⟩⟩
section
variable {μ : Mm} {b : Int → Int} {vb : Int}
theorem q_found (hW : Nw μ b) (hC : Ca μ b vb) (hvb : 0 ≤ vb) (n p st m seed e w al : Int) : Ec (fX10_found 100 n p st m seed e w al μ) (Bd μ) (QP μ b vb (fun r => r = zzFound b n p st m seed e w al)) := by
  have n0 := hW.n0
  unfold fX10_found zzFound
  simp (disch := omega) only [w32_eq, w64_eq, chk_T, chk_t, lt, lm, ob, Int.add_zero, Int.zero_add, true_and, and_true, if_true, if_false, K100, K101, K102, K103, K104, K200, K201, K230, K231, K232, K233, K234, K235, K236, K237, K250, K251, K252, K253, K254, K300, K301, K302, K303, K304, N101, N102, N103, N104, N201, N232, N233, N234, N235, N236, N237, N251, N252, N253, N254, N301, N302, N303, N304, ]
  refine Ec_bind (c_sceneAt hW hC hvb) ?_
  rintro ⟨r2, μ2⟩ b2 ⟨hb2, hr2, f2, C2, s2, sn2⟩ cc nn
  refine ⟨_, rfl, ?_⟩
  dsimp only at hb2 hr2 f2 C2 s2 sn2 ⊢
  have fq2 : Fw Rq μ μ2 := by
    by_cases hL : isL b n
    · have hn1 := hL.1; have hn2 := hL.2
      exact f2.mo (fun x hx => Rq_sc (by omega) hx)
    · rw [sn2 hL]; exact Fw.rf
  have N2 := hW.q fq2
  rw [hb2]
  refine Ec_bind (c_lineAt2 N2 C2 hvb) ?_
  rintro ⟨r4, μ4⟩ b4 ⟨hb4, hr4, f4, C4, L4, s4⟩ cc nn
  refine ⟨_, rfl, ?_⟩
  dsimp only at hb4 hr4 f4 C4 L4 s4 ⊢
  have fq4 : Fw Rq μ μ4 := fq2.tr (f4.mo (fun x hx => Rq_l hx))
  have N4 := hW.q fq4
  by_cases hL : isL b n
  · have hn1 := hL.1; have hn2 := hL.2
    have hD := N4.ld hn1 hn2
    have nb := np_b hD
    rw [hr2, sel_t hL, if_neg (by omega), c_canDraw (b := b) (n := n) (p := p) (st := st) (most := 9) (fun _ => hD) hr4 L4 m]
    simp only [ob, bi_if]
    by_cases c : cD b n p st m 9
    · have L := L4 c.1
      have hp := c.1.2
      have bp := Pl.i hD hp
      have c12 := cD_12 c
      rw [hr4, sel_t c.1] at L
      rw [sel_t c, hr4, sel_t c.1]
      by_cases h1 : e < 0
      · rw [if_pos h1, sel_f (fun x => by have := x.2.1; omega)]; exact Ec_some ⟨hb4, fq4, C4, rfl⟩
      by_cases h2 : 20 < e
      · rw [if_neg h1, if_pos h2, sel_f (fun x => by have := x.2.1; omega)]; exact Ec_some ⟨hb4, fq4, C4, rfl⟩
      by_cases h3 : w < 1
      · rw [if_neg h1, if_neg h2, if_pos h3, sel_f (fun x => by have := x.2.2; omega)]; exact Ec_some ⟨hb4, fq4, C4, rfl⟩
      by_cases h4 : w ≤ 8
      · rw [if_neg h1, if_neg h2, if_neg h3, if_pos h4, sel_t (c := fdC b n p st m e w) ⟨c, by omega, by omega⟩, hb4]
        have he : 0 ≤ e ∧ e ≤ 20 := by omega
        refine Ec_bind (Ec_lop (P := fun t b' => b' = Bd t.2 ∧ Fw Rq μ t.2 ∧ Ca t.2 b vb ∧ t.1 = ct (hit (lg b n) p st m seed e al) w.toNat) (fun t b' => b' = Bd t.2.2 ∧ Fw Rq μ t.2.2 ∧ Nw t.2.2 b ∧ Ca t.2.2 b vb ∧ t.2.2 102 n ≠ 0 ∧ Li t.2.2 (10100 + 2000 * n + 10 * p) (lg b n) p ∧ (0 ≤ t.2.1 ∧ t.2.1 ≤ w) ∧ t.1 = ct (hit (lg b n) p st m seed e al) t.2.1.toNat) (fun t => (w - t.2.1).toNat) ⟨rfl, fq4, N4, C4, s4 hL, L, (by first | omega | (dsimp only; omega) | (dsimp only)), rfl⟩ (by unfold FU; dsimp only; omega) ?_) ?_
        · rintro ⟨v11, v12, μ5⟩ b5 ⟨hb5, f5, N5, C5, s5, L5, q1, q2⟩
          dsimp only at hb5 f5 N5 C5 s5 L5 q1 q2 ⊢
          have cb1 := ct_b (hit (lg b n) p st m seed e al) v12.toNat
          have cs := ct_s (P := hit (lg b n) p st m seed e al) q1.1
          unfold sX10_found_68
          dsimp only
          rw [hb5]
          refine Ec_ite (fun z => Ec_outA ⟨rfl, f5, C5, ?_⟩) (fun z => ?_)
          · dsimp only; rw [q2, show v12 = w by omega]
          simp (disch := omega) only [w32_eq, w64_eq, chk_T, chk_t, lt, lm, ob, Int.add_zero, Int.zero_add, true_and, and_true, if_true, if_false, K100, K101, K102, K103, K104, K200, K201, K230, K231, K232, K233, K234, K235, K236, K237, K250, K251, K252, K253, K254, K300, K301, K302, K303, K304, N101, N102, N103, N104, N201, N232, N233, N234, N235, N236, N237, N251, N252, N253, N254, N301, N302, N303, N304, X10F.f0 N5.1, X10F.f1 N5.1, X10F.f2 N5.1, X10F.f3 N5.1, X10F.f4 N5.1, X10F.f5 N5.1, X10F.f6 N5.1, X10F.f7 N5.1, X10F.f8 N5.1, X10F.f9 N5.1, X10F.f10 N5.1, K290]
          refine Ec_bindE (c_drawFrom C5.1.2.2.2.2.1 L5 hD hp c.2.1 c12 (by omega)) (fun μ6 ⟨f6, S6, B6⟩ => ?_)
          have N6 := N5.dr f6
          have C6 := C5.dr f6 S6.2.1
          have L6 : Li μ6 (10100 + 2000 * n + 10 * p) (lg b n) p := L5.fw f6 (fun x a b => by unfold dR; omega)
          have dO := dw_ok (g := lg b n) (p := p) (st := st) (n := m) ⟨c12.1, c12.2.1⟩
          simp (disch := omega) only [w32_eq, w64_eq, chk_T, chk_t, lt, lm, ob, Int.add_zero, Int.zero_add, true_and, and_true, if_true, if_false, K100, K101, K102, K103, K104, K200, K201, K230, K231, K232, K233, K234, K235, K236, K237, K250, K251, K252, K253, K254, K300, K301, K302, K303, K304, N101, N102, N103, N104, N201, N232, N233, N234, N235, N236, N237, N251, N252, N253, N254, N301, N302, N303, N304, X10F.f0 N6.1, X10F.f1 N6.1, X10F.f2 N6.1, X10F.f3 N6.1, X10F.f4 N6.1, X10F.f5 N6.1, X10F.f6 N6.1, X10F.f7 N6.1, X10F.f8 N6.1, X10F.f9 N6.1, X10F.f10 N6.1, K290]
          refine Ec_bindE (c_scrawlOver (seed := w32 (seed + v12)) (e := e) S6 B6 dO (fun i a c => ((dO.2.2.2.2.2.2 i a c).1).2) he) (fun μ7 ⟨f7, S7, B7⟩ => ?_)
          have N7 := N6.dr f7
          have C7 := C6.dr f7 S7.2.1
          have L7 : Li μ7 (10100 + 2000 * n + 10 * p) (lg b n) p := L6.fw f7 (fun x a b => by unfold dR; omega)
          have SO := sw_ok (seed := w32 (seed + v12)) (e := e) dO he
          have s7 : μ7 102 n ≠ 0 := by rw [f7 102 (by unfold dR; omega), f6 102 (by unfold dR; omega)]; exact s5
          obtain ⟨t1, t2, t3, t4⟩ := sc_k N7 C7 hL s7
          simp (disch := omega) only [w32_eq, w64_eq, chk_T, chk_t, lt, lm, ob, Int.add_zero, Int.zero_add, true_and, and_true, if_true, if_false, K100, K101, K102, K103, K104, K200, K201, K230, K231, K232, K233, K234, K235, K236, K237, K250, K251, K252, K253, K254, K300, K301, K302, K303, K304, N101, N102, N103, N104, N201, N232, N233, N234, N235, N236, N237, N251, N252, N253, N254, N301, N302, N303, N304, X10F.f0 N7.1, X10F.f1 N7.1, X10F.f2 N7.1, X10F.f3 N7.1, X10F.f4 N7.1, X10F.f5 N7.1, X10F.f6 N7.1, X10F.f7 N7.1, X10F.f8 N7.1, X10F.f9 N7.1, X10F.f10 N7.1, t1, t2]
          refine Ec_bindE (c_holdD N7 C7 hL S7 SO) (fun μ8 ⟨f8, mm, hz⟩ => ?_)
          have f8' := aR_f5 f8
          have L8 : Li μ8 (10100 + 2000 * n + 10 * p) (lg b n) p := L7.fw f8 (fun x a b => by unfold aR; omega)
          have fq8 : Fw Rq μ μ8 := ((f5.tr (f6.mo (fun x hx => Rq_dr hx))).tr (f7.mo (fun x hx => Rq_dr hx))).tr (f8'.mo (fun x hx => Rq_ft hx))
          have s8 : μ8 102 n ≠ 0 := by rw [f8 102 (by unfold aR; omega)]; exact s7
          obtain ⟨z9, t9, b9, f9⟩ := hz.face hp L8 (by omega)
          simp (disch := omega) only [w32_eq, w64_eq, chk_T, chk_t, lt, lm, ob, Int.add_zero, Int.zero_add, true_and, and_true, if_true, if_false, K100, K101, K102, K103, K104, K200, K201, K230, K231, K232, K233, K234, K235, K236, K237, K250, K251, K252, K253, K254, K300, K301, K302, K303, K304, N101, N102, N103, N104, N201, N232, N233, N234, N235, N236, N237, N251, N252, N253, N254, N301, N302, N303, N304, X10F.f0 hz.1.1, X10F.f1 hz.1.1, X10F.f2 hz.1.1, X10F.f3 hz.1.1, X10F.f4 hz.1.1, X10F.f5 hz.1.1, X10F.f6 hz.1.1, X10F.f7 hz.1.1, X10F.f8 hz.1.1, X10F.f9 hz.1.1, X10F.f10 hz.1.1, X10F.f0 z9.1.1, X10F.f1 z9.1.1, X10F.f2 z9.1.1, X10F.f3 z9.1.1, X10F.f4 z9.1.1, X10F.f5 z9.1.1, X10F.f6 z9.1.1, X10F.f7 z9.1.1, X10F.f8 z9.1.1, X10F.f9 z9.1.1, X10F.f10 z9.1.1]
          generalize e9 : mst μ8 250 2 (10100 + 2000 * n + 10 * p) = μ9 at *
          refine Ec_bindE (c_leastStart t9 (z9.rch t9 (by decide))) ?_
          rintro ⟨r10, μ10⟩ ⟨f10, h10⟩
          dsimp only at f10 h10 ⊢
          have z10 := z9.sp f10
          have f10' : Fw f5R μ9 μ10 := f10.mo (fun x hx => by unfold sp2 at hx; unfold f5R; omega)
          have fq10 : Fw Rq μ μ10 := (fq8.tr (f9.mo (fun x hx => Rq_ft hx))).tr (f10.mo (fun x hx => Rq_sp hx))
          have L10 : Li μ10 (10100 + 2000 * n + 10 * p) (lg b n) p := (L8.fw f9 (fun x a b => by unfold f5R; omega)).fw f10 (fun x a b => by unfold sp2; omega)
          have s10 : μ10 102 n ≠ 0 := by rw [f10 102 (by unfold sp2; omega), f9 102 (by unfold f5R; omega)]; exact s8
          have bb : Bd μ5 = Bd μ10 := by rw [Bd_ft f10', b9, Bd_ft f8', Bd_dr f7, Bd_dr f6]
          rw [bb]
          have ls := LsA_p h10
          refine Ec_ite (fun v => ?_) (fun v => ?_)
          · have nh : ¬hit (lg b n) p st m seed e al v12 := fun x => by
              rcases ls with ⟨_, no⟩ | ⟨h, _⟩
              · exact no x.1.2
              · omega
            rw [bi_f nh] at cs
            try simp (disch := omega) only [w32_eq, w64_eq, chk_T, chk_t, lt, lm, ob, Int.add_zero, Int.zero_add, true_and, and_true, if_true, if_false, ]
            refine Ec_inA ⟨rfl, fq10, z10.1, z10.2.1, s10, L10, (by first | omega | (dsimp only; omega) | (dsimp only)), ?_⟩ (by first | omega | (dsimp only; omega) | (dsimp only))
            dsimp only; omega
          · have yf : ftp (lg b n) (sw (dw (lg b n) p st m) (w32 (seed + v12)) e) (-1) p := by
              rcases ls with ⟨h, _⟩ | ⟨_, yes⟩
              · exact absurd h v
              · exact ⟨hp, yes⟩
            refine Ec_ite (fun u => ?_) (fun u => ?_)
            · have nh : hit (lg b n) p st m seed e al v12 := ⟨yf, fun x => absurd u x⟩
              rw [bi_t nh] at cs
              try simp (disch := omega) only [w32_eq, w64_eq, chk_T, chk_t, lt, lm, ob, Int.add_zero, Int.zero_add, true_and, and_true, if_true, if_false, ]
              refine Ec_inA ⟨rfl, fq10, z10.1, z10.2.1, s10, L10, (by first | omega | (dsimp only; omega) | (dsimp only)), ?_⟩ (by first | omega | (dsimp only; omega) | (dsimp only))
              dsimp only; omega
            · refine Ec_bind (c_count (F := fun q st' => fO (lg b n) (sw (dw (lg b n) p st m) (w32 (seed + v12)) e) q st' (-1)) (but := p) (most := 1) z10 rfl (fun μ1 q L a1 _ a3 => a1.rch a3 (by decide)) (by decide) fq10 s10) ?_
              rintro ⟨r11, μ11⟩ b11 ⟨hb11, fq11, z11, _, s11, e11, li11⟩ cc nn
              refine ⟨_, rfl, ?_⟩
              dsimp only at hb11 fq11 z11 s11 e11 li11 ⊢
              have L11 := li11 p bp.1 bp.2 L10
              rw [cf_rvS hD] at e11
              have rb : 0 ≤ rvS (lg b n) (sw (dw (lg b n) p st m) (w32 (seed + v12)) e) p := (ct_b _ _).1
              have iff : 0 < r11 ↔ rvS (lg b n) (sw (dw (lg b n) p st m) (w32 (seed + v12)) e) p ≠ 0 := by rw [e11]; split <;> omega
              refine Ec_ite (fun k => ?_) (fun k => ?_)
              · have nh : ¬hit (lg b n) p st m seed e al v12 := fun x => iff.mp k (x.2 u)
                rw [bi_f nh] at cs
                try simp (disch := omega) only [w32_eq, w64_eq, chk_T, chk_t, lt, lm, ob, Int.add_zero, Int.zero_add, true_and, and_true, if_true, if_false, ]
                refine Ec_inA ⟨hb11, fq11, z11.1, z11.2.1, s11, L11, (by first | omega | (dsimp only; omega) | (dsimp only)), ?_⟩ (by first | omega | (dsimp only; omega) | (dsimp only))
                dsimp only; omega
              · have nh : hit (lg b n) p st m seed e al v12 := ⟨yf, fun x => Classical.byContradiction fun y => k (iff.mpr y)⟩
                rw [bi_t nh] at cs
                try simp (disch := omega) only [w32_eq, w64_eq, chk_T, chk_t, lt, lm, ob, Int.add_zero, Int.zero_add, true_and, and_true, if_true, if_false, ]
                refine Ec_inA ⟨hb11, fq11, z11.1, z11.2.1, s11, L11, (by first | omega | (dsimp only; omega) | (dsimp only)), ?_⟩ (by first | omega | (dsimp only; omega) | (dsimp only))
                dsimp only; omega
        · rintro ⟨r, μ5⟩ b5 ⟨h1, h2, h3, h4⟩ cc nn
          exact ⟨_, rfl, Ec_some ⟨h1, h2, h3, h4⟩⟩
      · rw [if_neg h1, if_neg h2, if_neg h3, if_neg h4, sel_f (fun x => by have := x.2.2; omega)]; exact Ec_some ⟨hb4, fq4, C4, rfl⟩
    · rw [sel_f c, sel_f (fun x => c x.1)]; exact Ec_some ⟨hb4, fq4, C4, rfl⟩
  · rw [hr2, sel_f hL, if_pos rfl, sel_f (fun c => hL c.1.1.1)]
    exact Ec_some ⟨hb4, fq4, C4, rfl⟩
end
