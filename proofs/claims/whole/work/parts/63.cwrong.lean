/-! ===== wrong, nearest: the class ===== -/
section
variable {μ μ' : Mm} {c k n p st i j y m lim : Int} {g s : Int → Int}
theorem c_stand (h : Ft μ c k n g s p) (hc : cb g s p) (hs : 0 ≤ st ∧ st < hN g p) : Ev (fX1_stand 250 st μ) (fun μ' => Fw sp2 μ μ' ∧ Spt μ' g s p st (s 0)) := by
  have o := h.2.2.2.2.1.2.1.1
  unfold fX1_stand
  refine Ev_bind (Ev_lop (P := fun μ' => Fw sp2 μ μ' ∧ Spt μ' g s p st (s 0)) (fun t => (0 ≤ t.1 ∧ t.1 ≤ s 0) ∧ Fw sp2 μ t.2 ∧ Spt t.2 g s p st t.1) (fun t => (s 0 - t.1).toNat) ⟨(by first | omega | (dsimp only; omega) | (dsimp only)), Fw.rf, fun i a b => by dsimp only at b; omega⟩ (by unfold FU; dsimp only; omega) ?_) (fun r h => Ev_some h)
  rintro ⟨v2, μ1⟩ ⟨k1, f1, S1⟩
  dsimp only at k1 f1 S1 ⊢
  have H1 : Ft μ1 c k n g s p := h.fw f1 (fun x hx => by unfold sp2 at hx; omega)
  have e1 := H1.1.2.2.1; have hS := H1.2.2.1
  unfold sX1_stand_2
  dsimp only
  simp (disch := omega) only [w32_eq, w64_eq, chk_T, chk_t, lt, lm, ob, Int.add_zero, Int.zero_add, true_and, and_true, if_true, if_false, K100, K101, K102, K103, K104, K200, K201, K230, K231, K232, K233, K234, K235, K236, K237, K250, K251, K252, K253, K254, K300, K301, K302, K303, K304, N101, N102, N103, N104, N201, N232, N233, N234, N235, N236, N237, N251, N252, N253, N254, N301, N302, N303, N304, e1, hS.1.1, hS.2.2.1.1]
  refine Ev_ite (fun z => Ev_out ⟨f1, fun i a b => S1 i a (by omega)⟩) (fun z => ?_)
  rw [if_neg (by omega)]
  simp (disch := omega) only [w32_eq, w64_eq, chk_T, chk_t, lt, lm, ob, Int.add_zero, Int.zero_add, true_and, and_true, if_true, if_false, K100, K101, K102, K103, K104, K200, K201, K230, K231, K232, K233, K234, K235, K236, K237, K250, K251, K252, K253, K254, K300, K301, K302, K303, K304, N101, N102, N103, N104, N201, N232, N233, N234, N235, N236, N237, N251, N252, N253, N254, N301, N302, N303, N304, c_rayFor H1 hc hs (i := v2) (by omega), H1.1.1.2.1]
  refine Ev_in ⟨(by first | omega | (dsimp only; omega) | (dsimp only)), f1.st rfl, fun i a b => ?_⟩ (by first | omega | (dsimp only; omega) | (dsimp only))
  dsimp only at b ⊢
  by_cases e : i = v2
  · subst e; exact mst_s
  · rw [mst_j e]; exact S1 i a (by omega)
theorem c_countWrong (h : Ft μ c k n g s p) (hc : cb g s p) (hs : 0 ≤ st ∧ st < hN g p) (hl : 0 ≤ lim ∧ lim ≤ 1000) : Ev (fX1_countWrong 250 st lim μ) (fun r => Fw sp2 μ r.2 ∧ r.1 = if wrs g s p st ≤ lim then wrs g s p st else lim) := by
  have hO := h.2.2.2.2.1.2.1
  have o := hO.1
  unfold fX1_countWrong
  simp (disch := omega) only [w32_eq, w64_eq, chk_T, chk_t, lt, lm, ob, Int.add_zero, Int.zero_add, true_and, and_true, if_true, if_false, K100, K101, K102, K103, K104, K200, K201, K230, K231, K232, K233, K234, K235, K236, K237, K250, K251, K252, K253, K254, K300, K301, K302, K303, K304, N101, N102, N103, N104, N201, N232, N233, N234, N235, N236, N237, N251, N252, N253, N254, N301, N302, N303, N304, ]
  refine Ev_bind (c_stand h hc hs) (fun μ1 ⟨f1, S1⟩ => ?_)
  have H1 : Ft μ1 c k n g s p := h.fw f1 (fun x hx => by unfold sp2 at hx; omega)
  have e1 := H1.1.2.2.1; have hS := H1.2.2.1
  have wn : ∀ i : Int, 0 ≤ i → 0 ≤ wf g s p st i := fun i a => (wf_b a).1
  refine Ev_bind (Ev_lop (P := fun r => r = if wrs g s p st ≤ lim then wrs g s p st else lim) (fun t => (1 ≤ t.2 ∧ t.2 ≤ s 0) ∧ t.1 = if sm (wf g s p st) t.2.toNat ≤ lim then sm (wf g s p st) t.2.toNat else lim) (fun t => (s 0 - t.2).toNat) ⟨(by first | omega | (dsimp only; omega) | (dsimp only)), ?_⟩ (by unfold FU; dsimp only; omega) ?_) (fun r h => Ev_some ⟨f1, h⟩)
  · have : sm (wf g s p st) (1 : Int).toNat = 0 := rfl
    dsimp only; rw [this, if_pos hl.1]
  · rintro ⟨v3, v4⟩ ⟨k1, k2⟩
    dsimp only at k1 k2 ⊢
    have sb := sm_b (f := wf g s p st) v4.toNat (fun i a b => by have := wf_b (g := g) (s := s) (p := p) (st := st) a; omega)
    unfold sX1_countWrong_10
    dsimp only
    simp (disch := omega) only [w32_eq, w64_eq, chk_T, chk_t, lt, lm, ob, Int.add_zero, Int.zero_add, true_and, and_true, if_true, if_false, K100, K101, K102, K103, K104, K200, K201, K230, K231, K232, K233, K234, K235, K236, K237, K250, K251, K252, K253, K254, K300, K301, K302, K303, K304, N101, N102, N103, N104, N201, N232, N233, N234, N235, N236, N237, N251, N252, N253, N254, N301, N302, N303, N304, e1, hS.1.1, hS.2.2.1.1]
    refine Ev_ite (fun z => Ev_out ?_) (fun z => ?_)
    · have e : v4 = s 0 := by omega
      rw [e] at k2; exact k2
    · rw [if_neg (by omega)]
      have es := sm_s (f := wf g s p st) (i := v4) (by omega)
      refine Ev_bind (Ev_lop (P := fun r => r = if sm (wf g s p st) (v4 + 1).toNat ≤ lim then sm (wf g s p st) (v4 + 1).toNat else lim) (fun t => (0 ≤ t.2 ∧ t.2 ≤ v4) ∧ t.1 = if sm (wf g s p st) v4.toNat + ct (fun k => ¬ar g s p st k v4) t.2.toNat ≤ lim then sm (wf g s p st) v4.toNat + ct (fun k => ¬ar g s p st k v4) t.2.toNat else lim) (fun t => (v4 - t.2).toNat) ⟨(by first | omega | (dsimp only; omega) | (dsimp only)), ?_⟩ (by unfold FU; dsimp only; omega) ?_) (fun r hr => ?_)
      · have : ct (fun k => ¬ar g s p st k v4) (0 : Int).toNat = 0 := rfl
        dsimp only; rw [this, Int.add_zero]; exact k2
      · rintro ⟨a, v5⟩ ⟨q1, q2⟩
        dsimp only at q1 q2 ⊢
        have cb1 := ct_b (fun k => ¬ar g s p st k v4) v5.toNat
        have cm := ct_mono (fun k => ¬ar g s p st k v4) v5.toNat v4.toNat (by omega)
        have ew : wf g s p st v4 = ct (fun k => ¬ar g s p st k v4) v4.toNat := rfl
        unfold sX1_countWrong_32
        dsimp only
        refine Ev_ite (fun w => Ev_out ?_) (fun w => Ev_ite (fun w2 => Ev_out ?_) (fun w2 => ?_))
        · have e : v5 = v4 := by omega
          rw [e] at q2; rw [es, ew]; exact q2
        · rw [es, ew]
          by_cases u : sm (wf g s p st) v4.toNat + ct (fun k => ¬ar g s p st k v4) v5.toNat ≤ lim
          · rw [if_pos u] at q2
            by_cases u2 : sm (wf g s p st) v4.toNat + ct (fun k => ¬ar g s p st k v4) v4.toNat ≤ lim
            · rw [if_pos u2]; omega
            · rw [if_neg u2]; omega
          · rw [if_neg u] at q2; rw [if_neg (by omega)]; exact q2
        · have u : sm (wf g s p st) v4.toNat + ct (fun k => ¬ar g s p st k v4) v5.toNat ≤ lim := by
            apply Classical.byContradiction; intro v; rw [if_neg v] at q2; omega
          rw [if_pos u] at q2
          have e2 := ct_s (P := fun k => ¬ar g s p st k v4) q1.1
          simp (disch := omega) only [w32_eq, w64_eq, chk_T, chk_t, lt, lm, ob, Int.add_zero, Int.zero_add, true_and, and_true, if_true, if_false, K100, K101, K102, K103, K104, K200, K201, K230, K231, K232, K233, K234, K235, K236, K237, K250, K251, K252, K253, K254, K300, K301, K302, K303, K304, N101, N102, N103, N104, N201, N232, N233, N234, N235, N236, N237, N251, N252, N253, N254, N301, N302, N303, N304, c_agree H1 hc S1 (i := v4) (j := v5) (by omega) (by omega) (by omega) (by omega), bi_if]
          by_cases r : ar g s p st v5 v4
          · rw [sel_t r]
            rw [bi_f (fun v => v r)] at e2
            exact Ev_in ⟨(by first | omega | (dsimp only; omega) | (dsimp only)), by dsimp only; rw [if_pos (by omega)]; omega⟩ (by first | omega | (dsimp only; omega) | (dsimp only))
          · rw [sel_f r]
            rw [bi_t r] at e2
            exact Ev_in ⟨(by first | omega | (dsimp only; omega) | (dsimp only)), by dsimp only; rw [if_pos (by omega)]; omega⟩ (by first | omega | (dsimp only; omega) | (dsimp only))
      · rw [hr]
        exact Ev_in ⟨(by first | omega | (dsimp only; omega) | (dsimp only)), by dsimp only⟩ (by first | omega | (dsimp only; omega) | (dsimp only))
theorem c_leastWrong (h : Ft μ c k n g s p) (hl : 0 ≤ lim ∧ lim ≤ 1000) : Ev (fX1_leastWrong 250 lim μ) (fun r => Fw sp2 μ r.2 ∧ (0 ≤ r.1 ∧ r.1 ≤ lim) ∧ (cb g s p → ∀ st, 0 ≤ st → st < hN g p → r.1 ≤ wrs g s p st) ∧ (r.1 = lim ∨ (cb g s p ∧ ∃ st, 0 ≤ st ∧ st < hN g p ∧ r.1 = wrs g s p st))) := by
  have hO := h.2.2.2.2.1.2.1; have hD := h.2.2.2.2.1.1; have hp := h.2.2.2.2.1.2.2
  have hb := hN_b hD hp
  unfold fX1_leastWrong
  refine Ev_bind (Ev_lop (P := fun r => Fw sp2 μ r.2 ∧ (0 ≤ r.1 ∧ r.1 ≤ lim) ∧ (cb g s p → ∀ st, 0 ≤ st → st < hN g p → r.1 ≤ wrs g s p st) ∧ (r.1 = lim ∨ (cb g s p ∧ ∃ st, 0 ≤ st ∧ st < hN g p ∧ r.1 = wrs g s p st))) (fun t => (0 ≤ t.2.1 ∧ t.2.1 ≤ hN g p) ∧ Fw sp2 μ t.2.2 ∧ (0 ≤ t.1 ∧ t.1 ≤ lim) ∧ (cb g s p → ∀ st, 0 ≤ st → st < t.2.1 → t.1 ≤ wrs g s p st) ∧ (t.1 = lim ∨ (cb g s p ∧ ∃ st, 0 ≤ st ∧ st < hN g p ∧ t.1 = wrs g s p st))) (fun t => (hN g p - t.2.1).toNat) ⟨(by first | omega | (dsimp only; omega) | (dsimp only)), Fw.rf, (by first | omega | (dsimp only; omega) | (dsimp only)), fun _ st a b => by dsimp only at b; omega, .inl rfl⟩ (by unfold FU; dsimp only; omega) ?_) ?_
  · rintro ⟨v2, v3, μ1⟩ ⟨k1, f1, k3, k4, k5⟩
    dsimp only at k1 f1 k3 k4 k5 ⊢
    have H1 : Ft μ1 c k n g s p := h.fw f1 (fun x hx => by unfold sp2 at hx; omega)
    have e2 := H1.1.2.2.2; have hL := H1.2.2.2.1
    unfold sX1_leastWrong_4
    dsimp only
    simp (disch := omega) only [w32_eq, w64_eq, chk_T, chk_t, lt, lm, ob, Int.add_zero, Int.zero_add, true_and, and_true, if_true, if_false, K100, K101, K102, K103, K104, K200, K201, K230, K231, K232, K233, K234, K235, K236, K237, K250, K251, K252, K253, K254, K300, K301, K302, K303, K304, N101, N102, N103, N104, N201, N232, N233, N234, N235, N236, N237, N251, N252, N253, N254, N301, N302, N303, N304, e2, hL.1.k, hL.2.2.1.2.1, c_canBe H1, bi_if]
    refine Ev_ite (fun z => Ev_out ⟨f1, k3, fun hc st a b => k4 hc st a (by clear k5; omega), k5⟩) (fun z => ?_)
    by_cases hc : cb g s p
    · rw [sel_t hc]
      refine Ev_bind (c_countWrong (st := v3) (lim := v2) H1 hc (by clear k5; omega) (by clear k5; omega)) ?_
      rintro ⟨r, μ2⟩ ⟨f2, e⟩
      dsimp only at f2 e ⊢
      have wb := wrs_b (g := g) (p := p) (st := v3) hO
      have im : imin v2 r = if wrs g s p v3 ≤ v2 then wrs g s p v3 else v2 := by
        unfold imin; rw [e]; clear k5
        by_cases q : wrs g s p v3 ≤ v2
        · rw [if_pos q]; split <;> omega
        · rw [if_neg q]; split <;> omega
      rw [im]
      by_cases q : wrs g s p v3 ≤ v2
      · rw [if_pos q]
        refine Ev_in ⟨by clear k5; dsimp only; omega, f1.tr f2, by clear k5; dsimp only; omega, fun _ st a b => ?_, .inr ⟨hc, v3, k1.1, by clear k5; omega, rfl⟩⟩ (by clear k5; dsimp only; omega)
        dsimp only at b ⊢
        by_cases w : st = v3
        · rw [w]; exact Int.le_refl _
        · have := k4 hc st a (by clear k5; omega); clear k5; omega
      · rw [if_neg q]
        refine Ev_in ⟨by clear k5; dsimp only; omega, f1.tr f2, k3, fun _ st a b => ?_, k5⟩ (by clear k5; dsimp only; omega)
        dsimp only at b ⊢
        by_cases w : st = v3
        · rw [w]; clear k5; omega
        · exact k4 hc st a (by clear k5; omega)
    · rw [sel_f hc]; exact Ev_out ⟨f1, k3, fun w => absurd w hc, k5⟩
  · rintro ⟨r, μ1⟩ hr; exact Ev_some hr
end
section
variable {μ : Mm} {b : Int → Int} {vb : Int}
theorem q_wrong (hW : Nw μ b) (hC : Ca μ b vb) (hvb : 0 ≤ vb) (n k p st : Int) : Ec (fX10_wrong 100 n k p st μ) (Bd μ) (QP μ b vb (fun r => r = zzWrong b n k p st)) := by
  unfold fX10_wrong zzWrong
  simp (disch := omega) only [w32_eq, w64_eq, chk_T, chk_t, lt, lm, ob, Int.add_zero, Int.zero_add, true_and, and_true, if_true, if_false, K100, K101, K102, K103, K104, K200, K201, K230, K231, K232, K233, K234, K235, K236, K237, K250, K251, K252, K253, K254, K300, K301, K302, K303, K304, N101, N102, N103, N104, N201, N232, N233, N234, N235, N236, N237, N251, N252, N253, N254, N301, N302, N303, N304, ]
  refine Ec_bind (c_faces hW hC hvb n k p (-1)) ?_
  rintro ⟨r, μ1⟩ b1 ⟨hb, fq, h⟩ cc nn
  refine ⟨_, rfl, ?_⟩
  dsimp only at hb fq h ⊢
  rcases h with ⟨e, w, m, hz, hf⟩ | ⟨e, w, C1⟩
  · subst e
    rw [if_neg (by decide)]
    have e2 := hf.1.2.2.2; have hL := hf.2.2.2.1; have hO := hf.2.2.2.2.1.2.1
    unfold fX1_canStand
    simp (disch := omega) only [w32_eq, w64_eq, chk_T, chk_t, lt, lm, ob, Int.add_zero, Int.zero_add, true_and, and_true, if_true, if_false, K100, K101, K102, K103, K104, K200, K201, K230, K231, K232, K233, K234, K235, K236, K237, K250, K251, K252, K253, K254, K300, K301, K302, K303, K304, N101, N102, N103, N104, N201, N232, N233, N234, N235, N236, N237, N251, N252, N253, N254, N301, N302, N303, N304, X10F.f0 hz.1.1, X10F.f1 hz.1.1, X10F.f2 hz.1.1, X10F.f3 hz.1.1, X10F.f4 hz.1.1, X10F.f5 hz.1.1, X10F.f6 hz.1.1, X10F.f7 hz.1.1, X10F.f8 hz.1.1, X10F.f9 hz.1.1, X10F.f10 hz.1.1, c_canBe hf, e2, hL.1.k, c_hasHump hL hf.2.2.2.2.1.1 hf.2.2.2.2.1.2.2, bi_if]
    by_cases hc : cb (lg b n) (ls b k) p
    · rw [sel_t hc]
      by_cases v : 0 ≤ st ∧ st < hN (lg b n) p
      · rw [sel_t v, ob, if_neg (by decide), sel_t ⟨⟨w.2.1, w.2.2, v⟩, hc⟩]
        refine Ec_bindE (c_countWrong hf hc v (lim := 1000) (by decide)) ?_
        rintro ⟨r, μ2⟩ ⟨f2, e⟩
        have wb := wrs_b (g := lg b n) (p := p) (st := st) hO
        rw [if_pos (by omega)] at e
        exact Ec_some ⟨by rw [Bd_ft (sp_f5 f2)]; exact hb, fq.tr (f2.mo (fun x hx => Rq_sp hx)), (hz.sp f2).2.1, e⟩
      · rw [sel_f v, ob, if_pos rfl, sel_f (fun u => v u.1.2.2)]; exact Ec_some ⟨hb, fq, hz.2.1, rfl⟩
    · rw [sel_f hc, ob, if_pos rfl, sel_f (fun u => hc u.2)]; exact Ec_some ⟨hb, fq, hz.2.1, rfl⟩
  · subst e
    rw [if_pos rfl, sel_f (fun u => w ⟨by decide, u.1.1, u.1.2.1⟩)]
    exact Ec_some ⟨hb, fq, C1, rfl⟩
theorem q_nearest (hW : Nw μ b) (hC : Ca μ b vb) (hvb : 0 ≤ vb) (n k u : Int) : Ec (fX10_nearest 100 n k u μ) (Bd μ) (QP μ b vb (ZNear b n k u)) := by
  unfold fX10_nearest
  simp (disch := omega) only [w32_eq, w64_eq, chk_T, chk_t, lt, lm, ob, Int.add_zero, Int.zero_add, true_and, and_true, if_true, if_false, K100, K101, K102, K103, K104, K200, K201, K230, K231, K232, K233, K234, K235, K236, K237, K250, K251, K252, K253, K254, K300, K301, K302, K303, K304, N101, N102, N103, N104, N201, N232, N233, N234, N235, N236, N237, N251, N252, N253, N254, N301, N302, N303, N304, ]
  refine q_scene hW hC hvb (fun z => ⟨-1, .inr ⟨fun w => z w.1, rfl⟩, fun μ1 cc nn => by dsimp only; rw [if_pos rfl]⟩) (fun hL μ1 N1 fq C1 hD hs cc nn => ⟨_, rfl, ?_⟩)
  dsimp only
  have hn1 := hL.1; have nb := np_b hD
  rw [if_neg (by omega)]
  refine Ec_bindE (c_takesUp N1 C1 n k (-1)) ?_
  rintro ⟨t, μ2⟩ (⟨e, w, f2, m, hz⟩ | ⟨e, w, e2⟩)
  · dsimp only at e f2 hz ⊢
    subst e
    rw [if_neg (by decide)]
    have f2' := aR_f5 f2
    have fq2 : Fw Rq μ μ2 := fq.tr (f2'.mo (fun x hx => Rq_ft hx))
    have bb : Bd μ2 = Bd μ1 := Bd_ft f2'
    have s2 : μ2 102 n ≠ 0 := by rw [f2 102 (by unfold aR; omega)]; exact hs
    have hO := hz.2.2.2.2.1.2.1
    rw [← bb]
    refine Ec_bind (Ec_lop (P := fun x b' => b' = Bd x.2.2 ∧ Fw Rq μ x.2.2 ∧ Ca x.2.2 b vb ∧ NrS (lg b n) (ls b k) (np (lg b n)) x.1 x.2.1) (fun t b' => b' = Bd t.2.2.2 ∧ Fw Rq μ t.2.2.2 ∧ Fz t.2.2.2 b vb n (1040 + 10 * k) (ls b k) (-1) m 0 (m - 1) ∧ t.2.2.2 102 n ≠ 0 ∧ (0 ≤ t.2.2.1 ∧ t.2.2.1 ≤ np (lg b n)) ∧ (0 ≤ t.2.1 ∧ t.2.1 ≤ 1000 ∧ (t.1 = -1 → t.2.1 = 1000)) ∧ NrS (lg b n) (ls b k) t.2.2.1 t.1 t.2.1) (fun t => (np (lg b n) - t.2.2.1).toNat) ⟨rfl, fq2, hz, s2, (by first | omega | (dsimp only; omega) | (dsimp only)), ⟨(by first | omega | (dsimp only; omega) | (dsimp only)), (by first | omega | (dsimp only; omega) | (dsimp only)), fun _ => rfl⟩, .inl ⟨rfl, fun p a c => by dsimp only at c; omega⟩⟩ (by unfold FU; dsimp only; omega) ?_) ?_
    · rintro ⟨v5, v6, v7, μ4⟩ b4 ⟨hb4, f4, z4, s4, h4, l4, w4⟩
      dsimp only at hb4 f4 z4 s4 h4 l4 w4 ⊢
      obtain ⟨k1, k2, k3, k4⟩ := sc_k z4.1 z4.2.1 hL s4
      unfold sX10_nearest_35
      simp (disch := omega) only [w32_eq, w64_eq, chk_T, chk_t, lt, lm, ob, Int.add_zero, Int.zero_add, true_and, and_true, if_true, if_false, k1, k2, k3, k4]
      rw [hb4]
      refine Ec_ite (fun y => Ec_outA ⟨rfl, f4, z4.2.1, ?_⟩) (fun y => Ec_ite (fun y2 => Ec_outA ⟨rfl, f4, z4.2.1, ?_⟩) (fun y2 => ?_))
      · have e : v7 = np (lg b n) := by clear w4; omega
        rw [e] at w4; exact w4
      · dsimp only
        rcases w4 with ⟨e, q⟩ | ⟨a, c, d, e, f⟩
        · have := l4.2.2 e; omega
        · refine .inr ⟨by clear d; omega, c, d, fun p st x x' hc' s0 s1 => ?_, f⟩
          have := (wrs_b (g := lg b n) (p := p) (st := st) hO).1; clear d; omega
      · have hp : Pl (lg b n) v7 := ⟨by clear w4; omega, by clear w4; omega⟩
        simp (disch := omega) only [w32_eq, w64_eq, chk_T, chk_t, lt, lm, ob, Int.add_zero, Int.zero_add, true_and, and_true, if_true, if_false, K100, K101, K102, K103, K104, K200, K201, K230, K231, K232, K233, K234, K235, K236, K237, K250, K251, K252, K253, K254, K300, K301, K302, K303, K304, N101, N102, N103, N104, N201, N232, N233, N234, N235, N236, N237, N251, N252, N253, N254, N301, N302, N303, N304, ]
        refine Ec_bind (c_lnF z4 f4 s4 hp) ?_
        rintro ⟨r5, μ5⟩ b5 ⟨hb5, hr5, f5, e100, s5, z5, t5, g5, li5⟩ cc nn
        refine ⟨_, rfl, ?_⟩
        dsimp only at hb5 hr5 f5 e100 s5 z5 t5 g5 ⊢
        simp (disch := omega) only [w32_eq, w64_eq, chk_T, chk_t, lt, lm, ob, Int.add_zero, Int.zero_add, true_and, and_true, if_true, if_false, K100, K101, K102, K103, K104, K200, K201, K230, K231, K232, K233, K234, K235, K236, K237, K250, K251, K252, K253, K254, K300, K301, K302, K303, K304, N101, N102, N103, N104, N201, N232, N233, N234, N235, N236, N237, N251, N252, N253, N254, N301, N302, N303, N304, X10F.f0 z4.1.1, X10F.f1 z4.1.1, X10F.f2 z4.1.1, X10F.f3 z4.1.1, X10F.f4 z4.1.1, X10F.f5 z4.1.1, X10F.f6 z4.1.1, X10F.f7 z4.1.1, X10F.f8 z4.1.1, X10F.f9 z4.1.1, X10F.f10 z4.1.1, X10F.f0 z5.1.1, X10F.f1 z5.1.1, X10F.f2 z5.1.1, X10F.f3 z5.1.1, X10F.f4 z5.1.1, X10F.f5 z5.1.1, X10F.f6 z5.1.1, X10F.f7 z5.1.1, X10F.f8 z5.1.1, X10F.f9 z5.1.1, X10F.f10 z5.1.1]
        refine Ec_bindE (c_leastWrong (lim := v6) t5 ⟨l4.1, l4.2.1⟩) ?_
        rintro ⟨r6, μ6⟩ ⟨f6, r1, r2, r3⟩
        dsimp only at f6 r1 r2 r3 ⊢
        have z6 := z5.sp f6
        have s6 : μ6 102 n ≠ 0 := by rw [f6 102 (by unfold sp2; omega), mst_n (by decide)]; exact s5
        have bb6 : b5 = Bd μ6 := by rw [Bd_ft (sp_f5 f6)]; exact hb5
        have fq6 : Fw Rq μ μ6 := f5.tr (f6.mo (fun x hx => Rq_sp hx))
        refine Ec_ite (fun q => ?_) (fun q => ?_)
        · have e6 : r6 = v6 := by clear w4 r3; omega
          refine Ec_inA ⟨bb6, fq6, z6, s6, by clear w4 r3; dsimp only; omega, l4, ?_⟩ (by clear w4 r3; dsimp only; omega)
          dsimp only
          rcases w4 with ⟨e, q⟩ | ⟨a, c, d, e, f⟩
          · refine .inl ⟨e, fun p x x' => ?_⟩
            by_cases v : p = v7
            · subst v; intro hc
              have := r2 hc 0 (Int.le_refl _) hc.1
              have := (wrs_b (g := lg b n) (p := p) (st := 0) hO).2
              have := l4.2.2 e
              clear r3; omega
            · exact q p x (by clear r3; omega)
          · refine .inr ⟨by clear r3 d; omega, c, d, fun p st x x' hc s0 s1 => ?_, f⟩
            by_cases v : p = v7
            · subst v; have := r2 hc st s0 s1; clear r3 d; omega
            · exact e p st x (by clear r3 d; omega) hc s0 s1
        · have hc : cb (lg b n) (ls b k) v7 ∧ ∃ st, 0 ≤ st ∧ st < hN (lg b n) v7 ∧ r6 = wrs (lg b n) (ls b k) v7 st := by
            rcases r3 with r3 | r3
            · clear w4; omega
            · exact r3
          obtain ⟨hcb, st0, q0, q1, q2⟩ := hc
          clear r3
          refine Ec_inA ⟨bb6, fq6, z6, s6, by clear w4; dsimp only; omega, ⟨by clear w4; dsimp only; omega, by clear w4; dsimp only; omega, fun e => by clear w4; dsimp only at e; omega⟩, .inr ⟨by clear w4; dsimp only; omega, hcb, ⟨st0, q0, q1, q2.symm⟩, ?_, ?_⟩⟩ (by clear w4; dsimp only; omega)
          · dsimp only
            intro p st x x' hc s0 s1
            by_cases v : p = v7
            · subst v; exact r2 hc st s0 s1
            · rcases w4 with ⟨e, q⟩ | ⟨a, c, d, e, f⟩
              · exact absurd hc (q p x (by omega))
              · have := e p st x (by clear d; omega) hc s0 s1; clear d; omega
          · dsimp only
            intro p st x x' hc s0 s1
            rcases w4 with ⟨e, q⟩ | ⟨a, c, d, e, f⟩
            · exact absurd hc (q p x (by omega))
            · have := e p st x (by clear d; omega) hc s0 s1; clear d; omega
    · rintro ⟨v5, v6, μ4⟩ b4 ⟨h1, h2, h3, h4⟩ cc nn
      refine ⟨_, rfl, ?_⟩
      dsimp only at h1 h2 h3 h4 ⊢
      refine Ec_ite (fun q => Ec_some ⟨h1, h2, h3, .inl ⟨w.1, v5, v6, h4, ?_⟩⟩) (fun q => Ec_ite (fun q2 => Ec_some ⟨h1, h2, h3, .inl ⟨w.1, v5, v6, h4, ?_⟩⟩) (fun q2 => Ec_some ⟨h1, h2, h3, .inl ⟨w.1, v5, v6, h4, ?_⟩⟩))
      · dsimp only; rw [if_pos q]
      · dsimp only; rw [if_neg q, if_pos q2, q2]
      · dsimp only; rw [if_neg q, if_neg q2]
  · dsimp only at e e2 ⊢
    subst e e2
    rw [if_pos rfl]
    exact Ec_some ⟨rfl, fq, C1, .inr ⟨fun v => w ⟨v, by decide⟩, rfl⟩⟩
end
