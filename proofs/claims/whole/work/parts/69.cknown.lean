/-! ===== known: the class ===== -/
section
variable {μ : Mm} {b : Int → Int} {vb : Int}
theorem q_known (hW : Nw μ b) (hC : Ca μ b vb) (hvb : 0 ≤ vb) (n p : Int) : Ec (fX10_known 100 n p μ) (Bd μ) (QP μ b vb (ZKnown b n p)) := by
  have n0 := hW.n0
  unfold fX10_known
  simp (disch := omega) only [w32_eq, w64_eq, chk_T, chk_t, lt, lm, ob, Int.add_zero, Int.zero_add, true_and, and_true, if_true, if_false, K100, K101, K102, K103, K104, K200, K201, K230, K231, K232, K233, K234, K235, K236, K237, K250, K251, K252, K253, K254, K300, K301, K302, K303, K304, N101, N102, N103, N104, N201, N232, N233, N234, N235, N236, N237, N251, N252, N253, N254, N301, N302, N303, N304, ]
  refine Ec_bind (c_sceneAt hW hC hvb) ?_
  rintro ⟨r2, μ2⟩ b2 ⟨hb2, hr2, f2, C2, s2, sn2⟩ cc nn
  refine ⟨_, rfl, ?_⟩
  dsimp only at hb2 hr2 f2 C2 s2 sn2 ⊢
  have fq2 : Fw Rq μ μ2 := by
    by_cases hL : isL b n
    · have hn1 := hL.1; have hn2 := hL.2
      exact f2.mo (fun x hx => Rq_sc (by omega) hx)
    · rw [sn2 hL]; exact Fw.rf
  have N2 := hW.q fq2
  rw [hb2]
  refine Ec_bind (c_lineAt2 N2 C2 hvb) ?_
  rintro ⟨r4, μ4⟩ b4 ⟨hb4, hr4, f4, C4, L4, s4⟩ cc nn
  refine ⟨_, rfl, ?_⟩
  dsimp only at hb4 hr4 f4 C4 L4 s4 ⊢
  have fq4 : Fw Rq μ μ4 := fq2.tr (f4.mo (fun x hx => Rq_l hx))
  have N4 := hW.q fq4
  by_cases hL : isL b n
  · have hn1 := hL.1; have hn2 := hL.2
    have hD := N4.ld hn1 hn2
    have nb := np_b hD
    rw [hr2, sel_t hL, if_neg (by omega)]
    by_cases hp : Pl (lg b n) p
    · have hP : isP b n p := ⟨hL, hp⟩
      have L := L4 hP
      have bp := Pl.i hD hp; have hbb := hN_b hD hp
      rw [hr4, sel_t hP] at L
      rw [hr4, sel_t hP, if_neg (by omega), hb4]
      refine Ec_bind (Ec_lop (P := fun x b' => (∃ μ', x = .inl μ' ∧ b' = Bd μ' ∧ Fw Rq μ μ' ∧ Ca μ' b vb ∧ KnS (lg b n) p (-1)) ∨ ∃ r μ', x = .inr (r, μ') ∧ b' = Bd μ' ∧ Fw Rq μ μ' ∧ Ca μ' b vb ∧ KnS (lg b n) p r) (fun t b' => b' = Bd t.2 ∧ Fw Rq μ t.2 ∧ Nw t.2 b ∧ Ca t.2 b vb ∧ t.2 102 n ≠ 0 ∧ Li t.2 (10100 + 2000 * n + 10 * p) (lg b n) p ∧ (1 ≤ t.1 ∧ t.1 ≤ 13 ∧ t.1 ≤ hN (lg b n) p + 1) ∧ ∀ m, 1 ≤ m → m < t.1 → ∀ st, 0 ≤ st → st < hN (lg b n) p → rv (lg b n) p st m ≠ 0) (fun t => (14 - t.1).toNat) ⟨rfl, fq4, N4, C4, s4 hL, L, (by first | omega | (dsimp only; omega) | (dsimp only)), fun m a c => by dsimp only at c; omega⟩ (by unfold FU; dsimp only; omega) ?_) ?_
      · rintro ⟨v5, μ5⟩ b5 ⟨hb5, f5, N5, C5, s5, L5, k1, k3⟩
        dsimp only at hb5 f5 N5 C5 s5 L5 k1 k3 ⊢
        have e2 := L5.2.2.1.2.1
        unfold sX10_known_28
        dsimp only
        simp (disch := omega) only [w32_eq, w64_eq, chk_T, chk_t, lt, lm, ob, Int.add_zero, Int.zero_add, true_and, and_true, if_true, if_false, L5.1.k, e2]
        rw [hb5]
        refine Ec_ite (fun w => Ec_outA (.inl ⟨μ5, rfl, rfl, f5, C5, .inr ⟨rfl, fun m a c d => k3 m a (by omega)⟩⟩)) (fun w => Ec_ite (fun w2 => Ec_outA (.inl ⟨μ5, rfl, rfl, f5, C5, .inr ⟨rfl, fun m a c d => k3 m a (by omega)⟩⟩)) (fun w2 => ?_))
        refine Ec_bind (Ec_lop (P := fun x b' => (∃ μ', x = .inl μ' ∧ b' = Bd μ' ∧ Fw Rq μ μ' ∧ Nw μ' b ∧ Ca μ' b vb ∧ μ' 102 n ≠ 0 ∧ Li μ' (10100 + 2000 * n + 10 * p) (lg b n) p ∧ ∀ st, 0 ≤ st → st < hN (lg b n) p → rv (lg b n) p st v5 ≠ 0) ∨ ∃ μ', x = .inr μ' ∧ b' = Bd μ' ∧ Fw Rq μ μ' ∧ Ca μ' b vb ∧ ∃ st, 0 ≤ st ∧ st < hN (lg b n) p ∧ rv (lg b n) p st v5 = 0) (fun t b' => b' = Bd t.2 ∧ Fw Rq μ t.2 ∧ Nw t.2 b ∧ Ca t.2 b vb ∧ t.2 102 n ≠ 0 ∧ Li t.2 (10100 + 2000 * n + 10 * p) (lg b n) p ∧ (0 ≤ t.1 ∧ t.1 ≤ hN (lg b n) p) ∧ ∀ st, 0 ≤ st → st < t.1 → rv (lg b n) p st v5 ≠ 0) (fun t => (hN (lg b n) p - t.1).toNat) ⟨rfl, f5, N5, C5, s5, L5, (by first | omega | (dsimp only; omega) | (dsimp only)), fun st a c => by dsimp only at c; omega⟩ (by unfold FU; dsimp only; omega) ?_) ?_
        · rintro ⟨v6, μ6⟩ b6 ⟨hb6, f6, N6, C6, s6, L6, q1, q3⟩
          dsimp only at hb6 f6 N6 C6 s6 L6 q1 q3 ⊢
          have e2' := L6.2.2.1.2.1
          unfold sX10_known_48
          dsimp only
          simp (disch := omega) only [w32_eq, w64_eq, chk_T, chk_t, lt, lm, ob, Int.add_zero, Int.zero_add, true_and, and_true, if_true, if_false, L6.1.k, e2']
          rw [hb6]
          refine Ec_ite (fun u => Ec_outA (.inl ⟨μ6, rfl, rfl, f6, N6, C6, s6, L6, fun st a c => q3 st a (by omega)⟩)) (fun u => ?_)
          simp (disch := omega) only [w32_eq, w64_eq, chk_T, chk_t, lt, lm, ob, Int.add_zero, Int.zero_add, true_and, and_true, if_true, if_false, K100, K101, K102, K103, K104, K200, K201, K230, K231, K232, K233, K234, K235, K236, K237, K250, K251, K252, K253, K254, K300, K301, K302, K303, K304, N101, N102, N103, N104, N201, N232, N233, N234, N235, N236, N237, N251, N252, N253, N254, N301, N302, N303, N304, X10F.f0 N6.1, X10F.f1 N6.1, X10F.f2 N6.1, X10F.f3 N6.1, X10F.f4 N6.1, X10F.f5 N6.1, X10F.f6 N6.1, X10F.f7 N6.1, X10F.f8 N6.1, X10F.f9 N6.1, X10F.f10 N6.1, K290]
          refine Ec_bindE (c_drawFrom C6.1.2.2.2.2.1 L6 hD hp (st := v6) (n := v5) (by omega) (by omega) (by omega)) (fun μ7 ⟨f7, S7, _⟩ => ?_)
          have N7 := N6.dr f7
          have C7 := C6.dr f7 S7.2.1
          have s7 : μ7 102 n ≠ 0 := by rw [f7 102 (by unfold dR; omega)]; exact s6
          have L7 : Li μ7 (10100 + 2000 * n + 10 * p) (lg b n) p := L6.fw f7 (fun x a b => by unfold dR; omega)
          obtain ⟨t1, t2, t3, t4⟩ := sc_k N7 C7 hL s7
          simp (disch := omega) only [w32_eq, w64_eq, chk_T, chk_t, lt, lm, ob, Int.add_zero, Int.zero_add, true_and, and_true, if_true, if_false, K100, K101, K102, K103, K104, K200, K201, K230, K231, K232, K233, K234, K235, K236, K237, K250, K251, K252, K253, K254, K300, K301, K302, K303, K304, N101, N102, N103, N104, N201, N232, N233, N234, N235, N236, N237, N251, N252, N253, N254, N301, N302, N303, N304, X10F.f0 N7.1, X10F.f1 N7.1, X10F.f2 N7.1, X10F.f3 N7.1, X10F.f4 N7.1, X10F.f5 N7.1, X10F.f6 N7.1, X10F.f7 N7.1, X10F.f8 N7.1, X10F.f9 N7.1, X10F.f10 N7.1, t1, t2]
          refine Ec_bindE (c_holdD N7 C7 hL S7 (dw_ok (by omega))) (fun μ8 ⟨f8, m, hz⟩ => ?_)
          have f8' := aR_f5 f8
          have fq8 : Fw Rq μ μ8 := (f6.tr (f7.mo (fun x hx => Rq_dr hx))).tr (f8'.mo (fun x hx => Rq_ft hx))
          have s8 : μ8 102 n ≠ 0 := by rw [f8 102 (by unfold aR; omega)]; exact s7
          have L8 : Li μ8 (10100 + 2000 * n + 10 * p) (lg b n) p := L7.fw f8 (fun x a b => by unfold aR; omega)
          have bb : Bd μ6 = Bd μ8 := by rw [Bd_ft f8', Bd_dr f7]
          rw [bb]
          refine Ec_bind (c_count (F := fun q st' => fO (lg b n) (dw (lg b n) p v6 v5) q st' (-1)) (but := p) (most := 1) hz rfl (fun μ1 q L a1 _ a3 => a1.rch a3 (by decide)) (by decide) fq8 s8) ?_
          rintro ⟨r9, μ9⟩ b9 ⟨hb9, fq9, z9, _, s9, e9, li9⟩ cc nn
          refine ⟨_, rfl, ?_⟩
          dsimp only at hb9 fq9 z9 s9 e9 li9 ⊢
          have L9 := li9 p bp.1 bp.2 L8
          rw [cf_rv hD] at e9
          have rb : 0 ≤ rv (lg b n) p v6 v5 := (ct_b _ _).1
          have iff : r9 = 0 ↔ rv (lg b n) p v6 v5 = 0 := by rw [e9]; split <;> omega
          refine Ec_ite (fun v => Ec_outA (.inr ⟨μ9, rfl, hb9, fq9, z9.2.1, v6, q1.1, by omega, iff.mp v⟩)) (fun v => ?_)
          refine Ec_inA ⟨hb9, fq9, z9.1, z9.2.1, s9, L9, (by first | omega | (dsimp only; omega) | (dsimp only)), fun st a c => ?_⟩ (by first | omega | (dsimp only; omega) | (dsimp only))
          dsimp only at c
          by_cases e : st = v6
          · rw [e]; exact fun w => v (iff.mpr w)
          · exact q3 st a (by omega)
        · rintro x b6 (⟨μ', e, h1, h2, h3, h4, h5, h6, no⟩ | ⟨μ', e, h1, h2, h3, yes⟩) cc nn
          · subst e
            refine ⟨_, rfl, ?_⟩
            dsimp only
            refine Ec_inA ⟨h1, h2, h3, h4, h5, h6, (by first | omega | (dsimp only; omega) | (dsimp only)), fun m a c => ?_⟩ (by first | omega | (dsimp only; omega) | (dsimp only))
            dsimp only at c
            by_cases v : m = v5
            · rw [v]; exact no
            · exact k3 m a (by omega)
          · subst e
            exact ⟨_, rfl, Ec_outA (.inr ⟨v5, μ', rfl, h1, h2, h3, .inl ⟨by omega, yes, k3⟩⟩)⟩
      · rintro x b6 (⟨μ', e, h1, h2, h3, h4⟩ | ⟨r, μ', e, h1, h2, h3, h4⟩) cc nn
        · subst e; exact ⟨_, rfl, Ec_some ⟨h1, h2, h3, .inl ⟨hP, h4⟩⟩⟩
        · subst e; exact ⟨_, rfl, Ec_some ⟨h1, h2, h3, .inl ⟨hP, h4⟩⟩⟩
    · rw [hr4, sel_f (fun w => hp w.2), if_pos rfl]
      exact Ec_some ⟨hb4, fq4, C4, .inr ⟨fun w => hp w.2, rfl⟩⟩
  · rw [hr2, sel_f hL, if_pos rfl]
    exact Ec_some ⟨hb4, fq4, C4, .inr ⟨fun w => hL w.1, rfl⟩⟩
end
