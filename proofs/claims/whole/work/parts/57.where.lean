/-! ===== the class answers: where, hills, sure, bars ===== -/
def mR (x : Int) : Prop := x = 103 ∨ x = 104
theorem c_wipe {a : Int} {μ : Mm} (ha : a = 103 ∨ a = 104 ∨ a = 301) : Ev (fX10_wipe a μ) (fun μ' => Fw (fun x => x = a) μ μ' ∧ ∀ q, 0 ≤ q → q < 144 → μ' a q = 0) := by
  have hk : KD a = 14 ∧ LN a = 144 := by rcases ha with e | e | e <;> (subst e; decide)
  unfold fX10_wipe
  refine Ev_bind (Ev_lop (P := fun μ' => Fw (fun x => x = a) μ μ' ∧ ∀ q, 0 ≤ q → q < 144 → μ' a q = 0) (fun t => (0 ≤ t.1 ∧ t.1 ≤ 144) ∧ Fw (fun x => x = a) μ t.2 ∧ ∀ q, 0 ≤ q → q < t.1 → t.2 a q = 0) (fun t => (144 - t.1).toNat) ⟨(by first | omega | (dsimp only; omega) | (dsimp only)), Fw.rf, fun q x y => by dsimp only at y; omega⟩ (by unfold FU; dsimp only; omega) ?_) (fun r h => Ev_some h)
  rintro ⟨v1, μ1⟩ ⟨h1, h2, h3⟩
  dsimp only at h1 h2 h3 ⊢
  unfold sX10_wipe_2
  dsimp only
  simp (disch := omega) only [w32_eq, w64_eq, chk_T, chk_t, lt, lm, ob, Int.add_zero, Int.zero_add, true_and, and_true, if_true, if_false, hk.1, hk.2]
  refine Ev_ite (fun z => Ev_out ⟨h2, fun q x y => h3 q x (by omega)⟩) (fun z => ?_)
  refine Ev_in ⟨(by first | omega | (dsimp only; omega) | (dsimp only)), h2.st rfl, fun q x y => ?_⟩ (by first | omega | (dsimp only; omega) | (dsimp only))
  dsimp only at y ⊢
  by_cases e : q = v1
  · subst e; exact mst_s
  · rw [mst_j e]; exact h3 q x (by omega)
theorem c_tell {a k : Int} {μ : Mm} {P : Int → Prop} (ha : a = 103 ∨ a = 104) (hP : ∀ q, 0 ≤ q → q < 144 → μ a q = bi (P q)) : fX10_tellMarked a k μ = some (tellS P 144 k) := by
  have hk : KD a = 14 ∧ LN a = 144 := by rcases ha with e | e <;> (subst e; decide)
  have t144 : (144 : Int).toNat = 144 := by decide
  apply Ev.eq
  unfold fX10_tellMarked
  refine Ev_bind (Ev_lop (P := fun x => (x = .inl (ct P 144) ∧ ¬(0 ≤ k ∧ k < ct P 144)) ∨ ∃ v, x = .inr v ∧ (0 ≤ k ∧ k < ct P 144) ∧ v = (fa P (fun i => i) 144).2 k) (fun t => (0 ≤ t.2 ∧ t.2 ≤ 144) ∧ t.1 = ct P t.2.toNat ∧ ¬(0 ≤ k ∧ k < ct P t.2.toNat)) (fun t => (144 - t.2).toNat) ⟨(by first | omega | (dsimp only; omega) | (dsimp only)), rfl, fun w => by have : ct P 0 = 0 := rfl; dsimp only at w; simp only [Int.toNat_zero] at w; omega⟩ (by unfold FU; dsimp only; omega) ?_) ?_
  · rintro ⟨v2, v3⟩ ⟨h1, h2, h3⟩
    dsimp only at h1 h2 h3 ⊢
    have cb1 := ct_b P v3.toNat
    unfold sX10_tellMarked_4
    dsimp only
    simp (disch := omega) only [w32_eq, w64_eq, chk_T, chk_t, lt, lm, ob, Int.add_zero, Int.zero_add, true_and, and_true, if_true, if_false, hk.1, hk.2]
    refine Ev_ite (fun z => Ev_out (.inl ?_)) (fun z => ?_)
    · have e : v3.toNat = 144 := by omega
      rw [e] at h2 h3; rw [h2]; exact ⟨rfl, h3⟩
    · rw [hP v3 h1.1 (by omega), bi_if]
      have es := ct_s (P := P) h1.1
      by_cases q : P v3
      · rw [sel_t q]
        rw [bi_t q] at es
        refine Ev_ite (fun e => Ev_out (.inr ⟨v3, rfl, ?_, ?_⟩)) (fun e => Ev_in ⟨(by first | omega | (dsimp only; omega) | (dsimp only)), (by first | omega | (dsimp only; omega) | (dsimp only)), ?_⟩ (by first | omega | (dsimp only; omega) | (dsimp only)))
        · have := ct_lt (c := P) (i := v3) (j := 144) h1.1 (by omega) q
          rw [t144] at this; omega
        · have := fa_vi (c := P) (v := fun i => i) (n := 144) h1.1 (by omega) q
          rw [← h2, e] at this; exact this.symm
        · dsimp only; rw [es]; omega
      · rw [sel_f q]
        rw [bi_f q] at es
        exact Ev_in ⟨(by first | omega | (dsimp only; omega) | (dsimp only)), (by first | omega | (dsimp only; omega) | (dsimp only)), by dsimp only; rw [es]; omega⟩ (by first | omega | (dsimp only; omega) | (dsimp only))
  · have cb1 := ct_b P 144
    rintro x (⟨e, w⟩ | ⟨v, e, w, ev⟩)
    · subst e
      dsimp only
      unfold tellS
      refine Ev_ite (fun q => Ev_some (by rw [if_pos q])) (fun q => Ev_some (by rw [if_neg q, sel_f w]))
    · subst e
      unfold tellS
      exact Ev_some (by rw [if_neg (by omega), sel_t w]; exact ev)
section
variable {μ μ' : Mm} {b : Int → Int} {vb n kk yr m lo hi p k : Int} {s : Int → Int}
theorem Ca.mk (h : Ca μ b vb) (f : Fw mR μ μ') : Ca μ' b vb := ⟨h.1.fw f (by unfold mR; omega) (by unfold mR; omega) (by unfold mR; omega) (by unfold mR; omega) (by unfold mR; omega) (f 101 (by unfold mR; omega)) (fun x a b => by rw [f 0 (by unfold mR; omega)]), fun n h0 h1 => (h.2 n h0 h1).fw f (by rw [f 102 (by unfold mR; omega)]) (fun x a b => by unfold mR; omega) (fun x a b => by rw [f 0 (by unfold mR; omega)])⟩
theorem Fz.mk (h : Fz μ b vb n kk s yr m lo hi) (f : Fw mR μ μ') : Fz μ' b vb n kk s yr m lo hi := by
  obtain ⟨h1, h2, h3, h4, h5, h6, h7⟩ := h
  have r : μ' 250 = μ 250 := f 250 (by unfold mR; omega)
  exact ⟨h1.fw f (by unfold mR; omega) (fun x a b => by unfold mR; omega), h2.mk f, h3, by rw [r]; exact h4, ⟨h5.1.fw f (fun x a b => by unfold mR; have := h5.2.2; omega), h5.2⟩, h6.e (fun i _ _ _ => by rw [r]) (f 251 (by unfold mR; omega)), by rw [r]; exact h7⟩
theorem Ft.mk {c k n p : Int} {g s : Int → Int} (h : Ft μ c k n g s p) (f : Fw mR μ μ') (hr : 200 ≤ c ∧ 200 ≤ k ∧ 200 ≤ n) : Ft μ' c k n g s p := by
  obtain ⟨h1, h2, h3, h4, h5, d1, d2, d3⟩ := h
  refine ⟨?_, h2.fw f (fun x a b => by unfold mR; omega), h3.fw f (fun x a b => by unfold mR; omega), h4.fw f (fun x a b => by unfold mR; omega), h5, d1, d2, d3⟩
  unfold FtF; rw [f 250 (by unfold mR; omega)]; exact h1
theorem Bd_mk (f : Fw mR μ μ') : Bd μ' = Bd μ := Bd_e (f 101 (by unfold mR; omega)) (f 102 (by unfold mR; omega)) (f 10002 (by unfold mR; omega)) (f 12002 (by unfold mR; omega))
theorem Rq_mk {x : Int} (h : mR x) : Rq x := by unfold mR at h; unfold Rq; omega
theorem sp_f5 (f : Fw sp2 μ μ') : Fw f5R μ μ' := f.mo (fun x hx => by unfold sp2 at hx; unfold f5R; omega)
theorem aR_f5 (f : Fw aR μ μ') : Fw f5R μ μ' := f.mo (fun x hx => by unfold aR at hx; unfold f5R; omega)
theorem c_marks {a : Int} (ha : a = 103 ∨ a = 104) (hW : Nw μ b) (hC : Ca μ b vb) (hvb : 0 ≤ vb) (n k yr : Int) : Ec (fX10_marksFitting 100 n k yr a μ) (Bd μ) (fun r b' => b' = Bd r.2 ∧ Fw Rq μ r.2 ∧ Ca r.2 b vb ∧ r.2 (207 - a) = μ (207 - a) ∧ ((r.1 = 1 ∧ ((isL b n ∧ isS b k) ∧ -1 ≤ yr ∧ yr ≤ 99) ∧ ∀ q, 0 ≤ q → q < 144 → r.2 a q = bi (ftp (lg b n) (ls b k) yr q)) ∨ (r.1 = 0 ∧ ¬((isL b n ∧ isS b k) ∧ -1 ≤ yr ∧ yr ≤ 99)))) := by
  have hk : KD a = 14 ∧ LN a = 144 := by rcases ha with e | e <;> (subst e; decide)
  have n0 := hW.n0
  unfold fX10_marksFitting
  simp (disch := omega) only [w32_eq, w64_eq, chk_T, chk_t, lt, lm, ob, Int.add_zero, Int.zero_add, true_and, and_true, if_true, if_false, K100, K101, K102, K103, K104, K200, K201, K230, K231, K232, K233, K234, K235, K236, K237, K250, K251, K252, K253, K254, K300, K301, K302, K303, K304, N101, N102, N103, N104, N201, N232, N233, N234, N235, N236, N237, N251, N252, N253, N254, N301, N302, N303, N304, ]
  refine Ec_bind (c_sceneAt hW hC hvb) ?_
  rintro ⟨r, μ1⟩ b1 ⟨hb, hr, f1, C1, s1, sn⟩ cc nn
  refine ⟨_, rfl, ?_⟩
  dsimp only at hb hr f1 C1 s1 sn ⊢
  by_cases hL : isL b n
  · have hn1 := hL.1; have hn2 := hL.2
    have fq1 : Fw Rq μ μ1 := f1.mo (fun x hx => Rq_sc (by omega) hx)
    have N1 := hW.q fq1
    rw [hr, sel_t hL, if_neg (by omega)]
    refine Ec_bindE (c_takesUp N1 C1 n k yr) ?_
    rintro ⟨t, μ2⟩ (⟨e, w, f2, m, hz⟩ | ⟨e, w, e2⟩)
    · dsimp only at e f2 hz ⊢
      subst e
      rw [if_neg (by decide)]
      have f2' := aR_f5 f2
      refine Ec_bindE (c_wipe (a := a) (by omega)) (fun μ3 ⟨f3, w3⟩ => ?_)
      have f3' : Fw mR μ2 μ3 := f3.mo (fun x hx => by unfold mR; omega)
      have fq3 : Fw Rq μ μ3 := (fq1.tr (f2'.mo (fun x hx => Rq_ft hx))).tr (f3'.mo (fun x hx => Rq_mk hx))
      have hz3 := hz.mk f3'
      have hD := N1.ld hn1 hn2
      have nb := np_b hD
      have s3 : μ3 102 n ≠ 0 := by rw [f3 102 (by omega), f2 102 (by unfold aR; omega)]; exact s1 hL
      have o3 : μ3 (207 - a) = μ (207 - a) := by
        rw [f3 _ (by omega), f2 _ (by unfold aR; omega), f1 _ (by unfold scR; omega)]
      have bb : b1 = Bd μ3 := by rw [Bd_mk f3', Bd_ft f2']; exact hb
      rw [bb]
      refine Ec_bind (Ec_lop (P := fun μ' b' => b' = Bd μ' ∧ Fw Rq μ μ' ∧ Ca μ' b vb ∧ μ' (207 - a) = μ (207 - a) ∧ ∀ q, 0 ≤ q → q < 144 → μ' a q = bi (ftp (lg b n) (ls b k) yr q)) (fun t b' => b' = Bd t.2 ∧ Fw Rq μ t.2 ∧ Fz t.2 b vb n (1040 + 10 * k) (ls b k) yr m 0 (m - 1) ∧ t.2 102 n ≠ 0 ∧ t.2 (207 - a) = μ (207 - a) ∧ (0 ≤ t.1 ∧ t.1 ≤ np (lg b n)) ∧ ∀ q, 0 ≤ q → q < 144 → t.2 a q = bi (q < t.1 ∧ ftp (lg b n) (ls b k) yr q)) (fun t => (np (lg b n) - t.1).toNat) ⟨rfl, fq3, hz3, s3, o3, (by first | omega | (dsimp only; omega) | (dsimp only)), fun q x y => by dsimp only; rw [w3 q x y, bi_f (fun v => by omega)]⟩ (by unfold FU; dsimp only; omega) ?_) ?_
      · rintro ⟨v6, μ4⟩ b4 ⟨hb4, f4, z4, s4, o4, h4, w4⟩
        dsimp only at hb4 f4 z4 s4 o4 h4 w4 ⊢
        obtain ⟨k1, k2, k3, k4⟩ := sc_k z4.1 z4.2.1 hL s4
        unfold sX10_marksFitting_32
        simp (disch := omega) only [w32_eq, w64_eq, chk_T, chk_t, lt, lm, ob, Int.add_zero, Int.zero_add, true_and, and_true, if_true, if_false, k1, k2, k3, k4, hk.1, hk.2]
        rw [hb4]
        refine Ec_ite (fun y => Ec_outA ⟨rfl, f4, z4.2.1, o4, fun q x x' => ?_⟩) (fun y => ?_)
        · rw [w4 q x x']; apply bi_c
          exact ⟨fun v => v.2, fun v => ⟨by have := v.1.2; omega, v⟩⟩
        · have hp : Pl (lg b n) v6 := ⟨by omega, by omega⟩
          rw [if_neg (by omega)]
          simp (disch := omega) only [w32_eq, w64_eq, chk_T, chk_t, lt, lm, ob, Int.add_zero, Int.zero_add, true_and, and_true, if_true, if_false, K100, K101, K102, K103, K104, K200, K201, K230, K231, K232, K233, K234, K235, K236, K237, K250, K251, K252, K253, K254, K300, K301, K302, K303, K304, N101, N102, N103, N104, N201, N232, N233, N234, N235, N236, N237, N251, N252, N253, N254, N301, N302, N303, N304, ]
          refine Ec_bind (c_lnF z4 f4 s4 hp) ?_
          rintro ⟨r5, μ5⟩ b5 ⟨hb5, hr5, f5, e100, s5, z5, t5, g5, li5⟩ cc nn
          refine ⟨_, rfl, ?_⟩
          dsimp only at hb5 hr5 f5 e100 s5 z5 t5 g5 ⊢
          simp (disch := omega) only [w32_eq, w64_eq, chk_T, chk_t, lt, lm, ob, Int.add_zero, Int.zero_add, true_and, and_true, if_true, if_false, K100, K101, K102, K103, K104, K200, K201, K230, K231, K232, K233, K234, K235, K236, K237, K250, K251, K252, K253, K254, K300, K301, K302, K303, K304, N101, N102, N103, N104, N201, N232, N233, N234, N235, N236, N237, N251, N252, N253, N254, N301, N302, N303, N304, X10F.f0 z4.1.1, X10F.f1 z4.1.1, X10F.f2 z4.1.1, X10F.f3 z4.1.1, X10F.f4 z4.1.1, X10F.f5 z4.1.1, X10F.f6 z4.1.1, X10F.f7 z4.1.1, X10F.f8 z4.1.1, X10F.f9 z4.1.1, X10F.f10 z4.1.1, X10F.f0 z5.1.1, X10F.f1 z5.1.1, X10F.f2 z5.1.1, X10F.f3 z5.1.1, X10F.f4 z5.1.1, X10F.f5 z5.1.1, X10F.f6 z5.1.1, X10F.f7 z5.1.1, X10F.f8 z5.1.1, X10F.f9 z5.1.1, X10F.f10 z5.1.1]
          refine Ec_bindE (c_leastStart t5 (z5.rch t5 w.2)) ?_
          rintro ⟨r6, μ6⟩ ⟨f6, h6⟩
          dsimp only at f6 h6 ⊢
          have hf : r6 = -1 ∨ 0 ≤ r6 := by
            rcases h6 with ⟨_, u | u⟩ | ⟨_, u⟩
            · exact .inr u.1
            · exact .inl u.1
            · exact .inl u
          have hft := FtA_p (yr := yr) hp h6
          have o6 : μ6 (207 - a) = μ (207 - a) := by
            rw [f6 _ (by unfold sp2; omega), g5 _ (by omega)]; exact o4
          have a6 : μ6 a = μ4 a := by rw [f6 _ (by unfold sp2; omega), g5 _ (by omega)]
          have z6 := z5.sp f6
          have s6 : μ6 102 n ≠ 0 := by rw [f6 102 (by unfold sp2; omega), mst_n (by decide)]; exact s5
          have fin : ∀ v : Int, v = bi (ftp (lg b n) (ls b k) yr v6) → Ec (some ((Sum.inl (v6 + 1, mst μ6 a v6 v) : (Int × Mm) ⊕ Mm), 0, 0)) b5 (NxA (fun t b' => b' = Bd t.2 ∧ Fw Rq μ t.2 ∧ Fz t.2 b vb n (1040 + 10 * k) (ls b k) yr m 0 (m - 1) ∧ t.2 102 n ≠ 0 ∧ t.2 (207 - a) = μ (207 - a) ∧ (0 ≤ t.1 ∧ t.1 ≤ np (lg b n)) ∧ ∀ q, 0 ≤ q → q < 144 → t.2 a q = bi (q < t.1 ∧ ftp (lg b n) (ls b k) yr q)) (fun t => (np (lg b n) - t.1).toNat) (fun μ' b' => b' = Bd μ' ∧ Fw Rq μ μ' ∧ Ca μ' b vb ∧ μ' (207 - a) = μ (207 - a) ∧ ∀ q, 0 ≤ q → q < 144 → μ' a q = bi (ftp (lg b n) (ls b k) yr q)) (np (lg b n) - v6).toNat) := by
            intro v hv
            have f7 : Fw mR μ6 (mst μ6 a v6 v) := Fw.s0 (by unfold mR; omega)
            refine Ec_inA ⟨?_, (f5.tr (f6.mo (fun x hx => Rq_sp hx))).tr (f7.mo (fun x hx => Rq_mk hx)), z6.mk f7, ?_, ?_, (by first | omega | (dsimp only; omega) | (dsimp only)), fun q x y => ?_⟩ (by first | omega | (dsimp only; omega) | (dsimp only))
            · dsimp only; rw [Bd_mk f7, Bd_ft (sp_f5 f6)]; exact hb5
            · dsimp only; rw [mst_n (by omega)]; exact s6
            · dsimp only; rw [mst_n (by omega)]; exact o6
            · dsimp only
              by_cases e : q = v6
              · subst e; rw [mst_s, hv]; apply bi_c
                exact ⟨fun u => ⟨by omega, u⟩, fun u => u.2⟩
              · rw [mst_j e, a6, w4 q x y]; apply bi_c
                exact ⟨fun u => ⟨by omega, u.2⟩, fun u => ⟨by omega, u.2⟩⟩
          refine Ec_ite (fun e => fin 0 ?_) (fun e => fin 1 ?_)
          · rw [bi_f (fun u => by have := hft.mpr u; omega)]
          · rw [bi_t (hft.mp (by omega))]
      · rintro μ4 b4 ⟨h1, h2, h3, h4, h5⟩ cc nn
        exact ⟨_, rfl, Ec_some ⟨h1, h2, h3, h4, .inl ⟨rfl, w, h5⟩⟩⟩
    · dsimp only at e e2 ⊢
      subst e e2
      rw [if_pos rfl]
      exact Ec_some ⟨hb, fq1, C1, f1 _ (by unfold scR; omega), .inr ⟨rfl, w⟩⟩
  · have e := sn hL
    subst e
    rw [hr, sel_f hL, if_pos rfl]
    exact Ec_some ⟨hb, Fw.rf, C1, rfl, .inr ⟨rfl, fun v => hL v.1.1⟩⟩
theorem q_where (hW : Nw μ b) (hC : Ca μ b vb) (hvb : 0 ≤ vb) (n k yr j : Int) : Ec (fX10_where 100 n k yr j μ) (Bd μ) (QP μ b vb (fun r => r = zzWhere b n k yr j)) := by
  unfold fX10_where zzWhere
  simp (disch := omega) only [w32_eq, w64_eq, chk_T, chk_t, lt, lm, ob, Int.add_zero, Int.zero_add, true_and, and_true, if_true, if_false, K100, K101, K102, K103, K104, K200, K201, K230, K231, K232, K233, K234, K235, K236, K237, K250, K251, K252, K253, K254, K300, K301, K302, K303, K304, N101, N102, N103, N104, N201, N232, N233, N234, N235, N236, N237, N251, N252, N253, N254, N301, N302, N303, N304, X10F.f0 hW.1, X10F.f1 hW.1, X10F.f2 hW.1, X10F.f3 hW.1, X10F.f4 hW.1, X10F.f5 hW.1, X10F.f6 hW.1, X10F.f7 hW.1, X10F.f8 hW.1, X10F.f9 hW.1, X10F.f10 hW.1]
  refine Ec_bind (c_marks (.inl rfl) hW hC hvb n k yr) ?_
  rintro ⟨r, μ1⟩ b1 ⟨hb, fq, C1, _, h⟩ cc nn
  refine ⟨_, rfl, ?_⟩
  dsimp only at hb fq C1 h ⊢
  have N1 := hW.q fq
  rcases h with ⟨e, w, hP⟩ | ⟨e, w⟩
  · subst e
    rw [if_neg (by decide), N1.1.f9, c_tell (.inl rfl) hP, sel_t w]
    simp only [ob]
    exact Ec_some ⟨hb, fq, C1, rfl⟩
  · subst e
    rw [if_pos rfl, sel_f w]; exact Ec_some ⟨hb, fq, C1, rfl⟩
/-- the greatest reach of all starts -/
theorem c_greatest {c k n : Int} {g : Int → Int} {F : Int → Int} (h : Ft μ c k n g s p) (hR : Rch μ g p F) (hF : ∀ st, 0 ≤ F st ∧ F st ≤ s 0) (hc0 : ¬cb g s p → ∀ st, F st = 0) : Ev (fX1_greatestReach 250 μ) (fun r => Fw sp2 μ r.2 ∧ r.1 = my F 0 (hN g p).toNat) := by
  have hO := h.2.2.2.2.1.2.1; have hD := h.2.2.2.2.1.1; have hp := h.2.2.2.2.1.2.2
  have hb := hN_b hD hp
  unfold fX1_greatestReach
  refine Ev_bind (Ev_lop (P := fun x => Fw sp2 μ x.2 ∧ x.1 = my F 0 (hN g p).toNat) (fun t => (0 ≤ t.2.1 ∧ t.2.1 ≤ hN g p) ∧ Fw sp2 μ t.2.2 ∧ (0 ≤ t.1 ∧ t.1 ≤ s 0) ∧ (∀ st, 0 ≤ st → st < t.2.1 → F st ≤ t.1) ∧ (t.1 = 0 ∨ ∃ st, 0 ≤ st ∧ st < t.2.1 ∧ F st = t.1)) (fun t => (hN g p - t.2.1).toNat) ⟨(by first | omega | (dsimp only; omega) | (dsimp only)), Fw.rf, by dsimp only; have := hO.1; omega, fun i a b => by dsimp only at b; omega, .inl rfl⟩ (by unfold FU; dsimp only; omega) ?_) ?_
  · rintro ⟨v1, v2, μ1⟩ ⟨k1, f1, k3, k4, k5⟩
    dsimp only at k1 f1 k3 k4 k5 ⊢
    have H1 : Ft μ1 c k n g s p := h.fw f1 (fun x hx => by unfold sp2 at hx; omega)
    have e2 := H1.1.2.2.2; have hL := H1.2.2.2.1; have e1 := H1.1.2.2.1; have hS := H1.2.2.1
    unfold sX1_greatestReach_4
    dsimp only
    simp (disch := omega) only [w32_eq, w64_eq, chk_T, chk_t, lt, lm, ob, Int.add_zero, Int.zero_add, true_and, and_true, if_true, if_false, K100, K101, K102, K103, K104, K200, K201, K230, K231, K232, K233, K234, K235, K236, K237, K250, K251, K252, K253, K254, K300, K301, K302, K303, K304, N101, N102, N103, N104, N201, N232, N233, N234, N235, N236, N237, N251, N252, N253, N254, N301, N302, N303, N304, e1, e2, hL.1.k, hL.2.2.1.2.1, hS.1.1, hS.2.2.1.1, c_canBe H1, bi_if]
    have at0' : ∀ (P : Prop), (∃ st, 0 ≤ st ∧ st < v2 ∧ F st = v1) → (∃ st, 0 ≤ st ∧ st < 0 + ((hN g p).toNat : Int) ∧ F st = v1) := fun _ ⟨st, a, b, e⟩ => ⟨st, a, by omega, e⟩
    refine Ev_ite (fun z => Ev_out ⟨f1, my_u k3.1 (fun y a b => k4 y a (by omega)) (k5.imp id (at0' True))⟩) (fun z => Ev_ite (fun z2 => Ev_out ⟨f1, my_u k3.1 (fun y a b => by have := (hF y).2; omega) (k5.imp id (at0' True))⟩) (fun z2 => ?_))
    by_cases hc : cb g s p
    · rw [sel_t hc]
      refine Ev_bind (hR μ1 f1 v2 k1.1 (by omega)) ?_
      rintro ⟨r, μ2⟩ ⟨f2, e⟩
      dsimp only at f2 e ⊢
      subst e
      have fb := hF v2
      have im : imax v1 (F v2) = if v1 < F v2 then F v2 else v1 := rfl
      rw [im]
      refine Ev_in ⟨(by first | omega | (dsimp only; omega) | (dsimp only)), f2, by dsimp only; clear k5; split <;> omega, fun st a b => ?_, ?_⟩ (by first | omega | (dsimp only; omega) | (dsimp only))
      · dsimp only at b ⊢
        by_cases e : st = v2
        · subst e; clear k5; split <;> omega
        · have := k4 st a (by omega); clear k5; split <;> omega
      · dsimp only
        by_cases q : v1 < F v2
        · rw [if_pos q]; exact .inr ⟨v2, k1.1, by omega, rfl⟩
        · rw [if_neg q]
          rcases k5 with e | ⟨st, a, b, e⟩
          · exact .inl e
          · exact .inr ⟨st, a, by omega, e⟩
    · rw [sel_f hc]
      exact Ev_out ⟨f1, my_u k3.1 (fun y a b => by rw [hc0 hc]; omega) (k5.imp id (at0' True))⟩
  · rintro ⟨r, μ1⟩ ⟨f, e⟩
    exact Ev_some ⟨f, e⟩
noncomputable def zzBars (b : Int → Int) (n k i : Int) : Int := sel ((isL b n ∧ isS b k) ∧ 0 ≤ i ∧ i < ls b k 0) (ct (fun p => my (fun st => fO (lg b n) (ls b k) p st (-1)) 0 (hN (lg b n) p).toNat = i) (np (lg b n)).toNat) (-1)
theorem q_bars (hW : Nw μ b) (hC : Ca μ b vb) (hvb : 0 ≤ vb) (n k i : Int) : Ec (fX10_bars 100 n k i μ) (Bd μ) (QP μ b vb (fun r => r = zzBars b n k i)) := by
  unfold fX10_bars zzBars
  simp (disch := omega) only [w32_eq, w64_eq, chk_T, chk_t, lt, lm, ob, Int.add_zero, Int.zero_add, true_and, and_true, if_true, if_false, K100, K101, K102, K103, K104, K200, K201, K230, K231, K232, K233, K234, K235, K236, K237, K250, K251, K252, K253, K254, K300, K301, K302, K303, K304, N101, N102, N103, N104, N201, N232, N233, N234, N235, N236, N237, N251, N252, N253, N254, N301, N302, N303, N304, ]
  refine q_scene hW hC hvb (fun z => ⟨_, rfl, fun μ1 cc nn => by dsimp only; rw [if_pos rfl, sel_f (fun y => z y.1.1)]⟩) (fun hL μ1 N1 fq C1 hD hs cc nn => ⟨_, rfl, ?_⟩)
  dsimp only
  have hn1 := hL.1; have nb := np_b hD
  rw [if_neg (by omega)]
  refine Ec_bindE (c_takesUp N1 C1 n k (-1)) ?_
  rintro ⟨t, μ2⟩ (⟨e, w, f2, m, hz⟩ | ⟨e, w, e2⟩)
  · dsimp only at e f2 hz ⊢
    subst e
    rw [if_neg (by decide)]
    have f2' := aR_f5 f2
    have fq2 : Fw Rq μ μ2 := fq.tr (f2'.mo (fun x hx => Rq_ft hx))
    have bb : Bd μ2 = Bd μ1 := Bd_ft f2'
    have s2 : μ2 102 n ≠ 0 := by rw [f2 102 (by unfold aR; omega)]; exact hs
    have e1 := hz.2.2.2.1.2; have hS := hz.2.2.2.2.1.1; have hO := hz.2.2.2.2.1.2.1
    simp (disch := omega) only [w32_eq, w64_eq, chk_T, chk_t, lt, lm, ob, Int.add_zero, Int.zero_add, true_and, and_true, if_true, if_false, K100, K101, K102, K103, K104, K200, K201, K230, K231, K232, K233, K234, K235, K236, K237, K250, K251, K252, K253, K254, K300, K301, K302, K303, K304, N101, N102, N103, N104, N201, N232, N233, N234, N235, N236, N237, N251, N252, N253, N254, N301, N302, N303, N304, X10F.f0 hz.1.1, X10F.f1 hz.1.1, X10F.f2 hz.1.1, X10F.f3 hz.1.1, X10F.f4 hz.1.1, X10F.f5 hz.1.1, X10F.f6 hz.1.1, X10F.f7 hz.1.1, X10F.f8 hz.1.1, X10F.f9 hz.1.1, X10F.f10 hz.1.1, e1, hS.1.1, hS.2.2.1.1]
    by_cases hi : 0 ≤ i ∧ i < ls b k 0
    · rw [if_neg (by omega), if_pos (by omega), sel_t ⟨w.1, hi⟩, ← bb]
      refine Ec_bind (Ec_lop (P := fun r b' => b' = Bd r.2 ∧ Fw Rq μ r.2 ∧ Ca r.2 b vb ∧ r.1 = ct (fun p => my (fun st => fO (lg b n) (ls b k) p st (-1)) 0 (hN (lg b n) p).toNat = i) (np (lg b n)).toNat) (fun t b' => b' = Bd t.2.2 ∧ Fw Rq μ t.2.2 ∧ Fz t.2.2 b vb n (1040 + 10 * k) (ls b k) (-1) m 0 (m - 1) ∧ t.2.2 102 n ≠ 0 ∧ (0 ≤ t.2.1 ∧ t.2.1 ≤ np (lg b n)) ∧ t.1 = ct (fun p => my (fun st => fO (lg b n) (ls b k) p st (-1)) 0 (hN (lg b n) p).toNat = i) t.2.1.toNat) (fun t => (np (lg b n) - t.2.1).toNat) ⟨rfl, fq2, hz, s2, (by first | omega | (dsimp only; omega) | (dsimp only)), rfl⟩ (by unfold FU; dsimp only; omega) ?_) ?_
      · rintro ⟨v5, v6, μ4⟩ b4 ⟨hb4, f4, z4, s4, h4, w4⟩
        dsimp only at hb4 f4 z4 s4 h4 w4 ⊢
        obtain ⟨k1, k2, k3, k4⟩ := sc_k z4.1 z4.2.1 hL s4
        have cb1 := ct_b (fun p => my (fun st => fO (lg b n) (ls b k) p st (-1)) 0 (hN (lg b n) p).toNat = i) v6.toNat
        unfold sX10_bars_48
        simp (disch := omega) only [w32_eq, w64_eq, chk_T, chk_t, lt, lm, ob, Int.add_zero, Int.zero_add, true_and, and_true, if_true, if_false, k1, k2, k3, k4]
        rw [hb4]
        refine Ec_ite (fun y => Ec_outA ⟨rfl, f4, z4.2.1, ?_⟩) (fun y => ?_)
        · have e : v6 = np (lg b n) := by omega
          rw [e] at w4; exact w4
        · have hp : Pl (lg b n) v6 := ⟨by omega, by omega⟩
          simp (disch := omega) only [w32_eq, w64_eq, chk_T, chk_t, lt, lm, ob, Int.add_zero, Int.zero_add, true_and, and_true, if_true, if_false, K100, K101, K102, K103, K104, K200, K201, K230, K231, K232, K233, K234, K235, K236, K237, K250, K251, K252, K253, K254, K300, K301, K302, K303, K304, N101, N102, N103, N104, N201, N232, N233, N234, N235, N236, N237, N251, N252, N253, N254, N301, N302, N303, N304, ]
          refine Ec_bind (c_lnF z4 f4 s4 hp) ?_
          rintro ⟨r5, μ5⟩ b5 ⟨hb5, hr5, f5, e100, s5, z5, t5, g5, li5⟩ cc nn
          refine ⟨_, rfl, ?_⟩
          dsimp only at hb5 hr5 f5 e100 s5 z5 t5 g5 ⊢
          simp (disch := omega) only [w32_eq, w64_eq, chk_T, chk_t, lt, lm, ob, Int.add_zero, Int.zero_add, true_and, and_true, if_true, if_false, K100, K101, K102, K103, K104, K200, K201, K230, K231, K232, K233, K234, K235, K236, K237, K250, K251, K252, K253, K254, K300, K301, K302, K303, K304, N101, N102, N103, N104, N201, N232, N233, N234, N235, N236, N237, N251, N252, N253, N254, N301, N302, N303, N304, X10F.f0 z4.1.1, X10F.f1 z4.1.1, X10F.f2 z4.1.1, X10F.f3 z4.1.1, X10F.f4 z4.1.1, X10F.f5 z4.1.1, X10F.f6 z4.1.1, X10F.f7 z4.1.1, X10F.f8 z4.1.1, X10F.f9 z4.1.1, X10F.f10 z4.1.1, X10F.f0 z5.1.1, X10F.f1 z5.1.1, X10F.f2 z5.1.1, X10F.f3 z5.1.1, X10F.f4 z5.1.1, X10F.f5 z5.1.1, X10F.f6 z5.1.1, X10F.f7 z5.1.1, X10F.f8 z5.1.1, X10F.f9 z5.1.1, X10F.f10 z5.1.1]
          refine Ec_bindE (c_greatest t5 (z5.rch t5 (by decide)) (fun st => fO_b hO) (fun hc st => fO_nc hc)) ?_
          rintro ⟨r6, μ6⟩ ⟨f6, h6⟩
          dsimp only at f6 h6 ⊢
          have z6 := z5.sp f6
          have s6 : μ6 102 n ≠ 0 := by rw [f6 102 (by unfold sp2; omega), mst_n (by decide)]; exact s5
          have es := ct_s (P := fun p => my (fun st => fO (lg b n) (ls b k) p st (-1)) 0 (hN (lg b n) p).toNat = i) h4.1
          have bb6 : b5 = Bd μ6 := by rw [Bd_ft (sp_f5 f6)]; exact hb5
          have fq6 : Fw Rq μ μ6 := f5.tr (f6.mo (fun x hx => Rq_sp hx))
          refine Ec_ite (fun e => ?_) (fun e => ?_)
          · rw [bi_t (h6.symm.trans e)] at es
            exact Ec_inA ⟨bb6, fq6, z6, s6, (by first | omega | (dsimp only; omega) | (dsimp only)), (by first | omega | (dsimp only; omega) | (dsimp only))⟩ (by first | omega | (dsimp only; omega) | (dsimp only))
          · rw [bi_f (fun v => e (h6.trans v))] at es
            exact Ec_inA ⟨bb6, fq6, z6, s6, (by first | omega | (dsimp only; omega) | (dsimp only)), (by first | omega | (dsimp only; omega) | (dsimp only))⟩ (by first | omega | (dsimp only; omega) | (dsimp only))
      · rintro ⟨r, μ4⟩ b4 ⟨h1, h2, h3, h4⟩ cc nn
        exact ⟨_, rfl, Ec_some ⟨h1, h2, h3, h4⟩⟩
    · rw [sel_f (fun v => hi v.2), ← bb]
      refine Ec_ite (fun z => Ec_some ⟨rfl, fq2, hz.2.1, rfl⟩) (fun z => ?_)
      rw [if_neg (by omega)]; exact Ec_some ⟨rfl, fq2, hz.2.1, rfl⟩
  · dsimp only at e e2 ⊢
    subst e e2
    rw [if_pos rfl, sel_f (fun v => w ⟨v.1, by decide⟩)]
    exact Ec_some ⟨rfl, fq, C1, rfl⟩
end
