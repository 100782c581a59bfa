/-! ===== doubt: the call ===== -/
def Cd (g s : Int → Int) (p x : Int) : Prop := cb g s p ∧ ∃ st y, (0 ≤ st ∧ st < hN g p) ∧ (s 5 ≤ y ∧ y ≤ s 6) ∧ En g s p st y x
section
variable {μ μ' : Mm} {b : Int → Int} {vb c k n p st i j y m lo hi kk yr : Int} {g s : Int → Int}
theorem EK_En {nd x : Int} (hn : ∀ i, 0 ≤ i → (mb nd i ↔ (i < s 0 ∧ ¬lok g s p st i) ∨ (i < s 0 ∧ ¬tok g s p st y i))) : EK (s 0) nd (cls g s p st) x ↔ En g s p st y x := by
  constructor
  · rintro ⟨a, c, d⟩
    refine ⟨a, fun i i0 i1 => ?_⟩
    by_cases w : mb x i
    · exact .inl w
    · right
      refine ⟨⟨?_, ?_⟩, fun k k0 k1 => ?_⟩
      · apply Classical.byContradiction; intro q; exact w (c i i0 ((hn i i0).mpr (.inl ⟨i1, q⟩)))
      · apply Classical.byContradiction; intro q; exact w (c i i0 ((hn i i0).mpr (.inr ⟨i1, q⟩)))
      · by_cases q : ar g s p st k i
        · exact .inr q
        · rcases d i k i0 i1 k0 (by omega) (.inl ⟨k1, q⟩) with u | u
          · exact absurd u w
          · exact .inl u
  · rintro ⟨a, c⟩
    refine ⟨a, fun i i0 h => ?_, fun i j i0 i1 j0 j1 q => ?_⟩
    · rcases (hn i i0).mp h with w | w
      · rcases c i i0 w.1 with u | u
        · exact u
        · exact absurd u.1.1 w.2
      · rcases c i i0 w.1 with u | u
        · exact u
        · exact absurd u.1.2 w.2
    · rcases q with q | q
      · rcases c i i0 i1 with u | u
        · exact .inl u
        · rcases u.2 j j0 q.1 with v | v
          · exact .inr v
          · exact absurd v q.2
      · rcases c j j0 j1 with u | u
        · exact .inr u
        · rcases u.2 i i0 q.1 with v | v
          · exact .inl v
          · exact absurd v q.2
theorem sp_tok (hO : SkOk s) (hP : Spn μ g s yr m (g 5)) (hy : y0 s yr ≤ y ∧ y ≤ y9 s yr) : ∃ j, 0 ≤ j ∧ j < m ∧ ∀ p st i, 0 ≤ i → i < s 0 → (tok g s p st y i ↔ tok g s p st (μ 251 j) i) := by
  obtain ⟨⟨p3, p7, p8⟩, pm, pS, p0, pb, pc⟩ := hP
  by_cases hb : byY s
  · by_cases hyr : yr = -1
    · have key : ∀ q : Nat, 1 ≤ q → (q : Int) ≤ m → ∃ j : Int, 0 ≤ j ∧ j < q ∧ μ 251 j ≤ y ∧ ∀ i : Int, 0 ≤ i → i < q → μ 251 i ≤ y → i ≤ j := by
        intro q
        induction q with
        | zero => intro h _; omega
        | succ q ih =>
          intro h1 h2
          by_cases w : μ 251 (q : Int) ≤ y
          · exact ⟨q, by omega, by omega, w, fun i a b _ => by omega⟩
          · by_cases w2 : q = 0
            · subst w2; exfalso; rw [show ((0 : Nat) : Int) = 0 by rfl, p0] at w; omega
            · obtain ⟨j, j0, j1, j2, j3⟩ := ih (by omega) (by omega)
              refine ⟨j, j0, by omega, j2, fun i a b c => ?_⟩
              by_cases e : i = q
              · subst e; exact absurd c w
              · exact j3 i a (by omega) c
      obtain ⟨j, j0, j1, j2, j3⟩ := key m.toNat (by omega) (by omega)
      refine ⟨j, j0, by omega, ?_⟩
      have bj := pb j j0 (by omega)
      have ny : NY g (μ 251 j) (y + 1) := by
        intro k k0 k1 kt
        obtain ⟨w1, w2⟩ := pc hb hyr k k0 k1 kt
        refine ⟨fun w => ?_, fun w => ?_⟩
        · obtain ⟨i, i0, i1, e⟩ := w1 (by clear w1 w2; omega) (by clear w1 w2; omega)
          clear w1 w2
          have l := j3 i i0 (by omega) (by omega)
          by_cases q : i = j
          · subst q; omega
          · have := pS i j i0 (by omega) (by omega); omega
        · obtain ⟨i, i0, i1, e⟩ := w2 (by clear w1 w2; omega) (by clear w1 w2; omega)
          clear w1 w2
          have l := j3 i i0 (by omega) (by omega)
          by_cases q : i = j
          · subst q; omega
          · have := pS i j i0 (by omega) (by omega); omega
      intro p st i _ _
      have e := NY_tw (q := hl g s p st i) ny j2 (by omega)
      unfold tok; rw [e]
    · have : y = yr := by unfold y0 y9 at hy; rw [if_neg hyr, if_neg hyr] at hy; omega
      refine ⟨0, by omega, by omega, ?_⟩
      rw [p0, this]; unfold y0; rw [if_neg hyr]
      exact fun _ _ _ _ _ => Iff.rfl
  · exact ⟨0, by omega, by omega, fun p st i i0 i1 => ⟨fun _ => tok_nb hO hb ⟨i0, i1⟩, fun _ => tok_nb hO hb ⟨i0, i1⟩⟩⟩
theorem En_t {y' x : Int} (h : ∀ i, 0 ≤ i → i < s 0 → (tok g s p st y i ↔ tok g s p st y' i)) (k : En g s p st y x) : En g s p st y' x := by
  refine ⟨k.1, fun i i0 i1 => ?_⟩
  rcases k.2 i i0 i1 with w | w
  · exact .inl w
  · exact .inr ⟨⟨w.1.1, (h i i0 i1).mp w.1.2⟩, w.2⟩
theorem c_doubted {v : Int} {C : Int → Prop} (h : Ft μ c k n g s p) (hP : Spn μ g s (-1) m (g 5)) (h5 : μ 250 5 = 0) (h6 : μ 250 6 = m - 1) (h8 : s 0 ≤ 8) (hv : DB C v) : Ev (fX1_doubted 250 v μ) (fun r => Fw d4R μ r.2 ∧ DB (fun x => C x ∨ Cd g s p x) r.1) := by
  have hO := h.2.2.2.2.1.2.1; have hD := h.2.2.2.2.1.1; have hp := h.2.2.2.2.1.2.2
  have o := hO.1; have tl := hD.t; have hb := hN_b hD hp
  have o6 := hO.2.2.2.2.2.1
  have pm := hP.2.1
  have e0 : y0 s (-1) = s 5 := by unfold y0; rw [if_pos rfl]
  have e9 : y9 s (-1) = s 6 := by unfold y9; rw [if_pos rfl]
  unfold fX1_doubted
  refine Ev_bind (Ev_lop (P := fun r => Fw d4R μ r.2 ∧ DB (fun x => C x ∨ Cd g s p x) r.1) (fun t => (0 ≤ t.2.1 ∧ t.2.1 ≤ hN g p) ∧ Fw d4R μ t.2.2 ∧ DB (fun x => C x ∨ (cb g s p ∧ ∃ st y, (0 ≤ st ∧ st < t.2.1) ∧ (s 5 ≤ y ∧ y ≤ s 6) ∧ En g s p st y x)) t.1) (fun t => (hN g p - t.2.1).toNat) ⟨(by first | omega | (dsimp only; omega) | (dsimp only)), Fw.rf, DB_c hv (fun x _ _ => ⟨.inl, fun w => by rcases w with w | ⟨_, st, y, w, _⟩; exact w; dsimp only at w; omega⟩)⟩ (by unfold FU; dsimp only; omega) ?_) (fun r h => Ev_some h)
  rintro ⟨v2, v3, μ1⟩ ⟨k1, f1, k2⟩
  dsimp only at k1 f1 k2 ⊢
  have H1 : Ft μ1 c k n g s p := h.fw f1 (fun x hx => by unfold d4R at hx; omega)
  have r250 : μ1 250 = μ 250 := f1 250 (by unfold d4R; omega)
  have r251 : μ1 251 = μ 251 := f1 251 (by unfold d4R; omega)
  unfold sX1_doubted_4
  dsimp only
  have hL := H1.2.2.2.1; have e2 := H1.1.2.2.2
  simp (disch := omega) only [w32_eq, w64_eq, chk_T, chk_t, lt, lm, ob, Int.add_zero, Int.zero_add, true_and, and_true, if_true, if_false, K100, K101, K102, K103, K104, K200, K201, K230, K231, K232, K233, K234, K235, K236, K237, K250, K251, K252, K253, K254, K300, K301, K302, K303, K304, N101, N102, N103, N104, N201, N232, N233, N234, N235, N236, N237, N251, N252, N253, N254, N301, N302, N303, N304, e2, hL.1.k, hL.2.2.1.2.1]
  refine Ev_ite (fun z => Ev_out ⟨f1, ?_⟩) (fun z => ?_)
  · have e : v3 = hN g p := by omega
    rw [e] at k2; exact k2
  rw [c_canBe H1]
  simp only [ob, bi_if]
  by_cases hc : cb g s p
  · rw [sel_t hc]
    refine Ev_ite (fun z0 => Ev_out ⟨f1, ?_⟩) (fun z0 => ?_)
    · dsimp only; rw [z0] at k2 ⊢
      refine DB_0 k2 (fun x _ _ w => ?_)
      rcases w with w | ⟨w, st, y, u, u2⟩
      · exact .inl w
      · exact .inr ⟨w, st, y, by omega, u2⟩
    have hs : 0 ≤ v3 ∧ v3 < hN g p := by omega
    refine Ev_bind (c_stand H1 hc hs) (fun μ2 ⟨f2, S2⟩ => ?_)
    have H2 : Ft μ2 c k n g s p := H1.fw f2 (fun x hx => by unfold sp2 at hx; omega)
    refine Ev_bind (c_findClashes H2 hc hs h8 S2) ?_
    rintro ⟨L, μ3⟩ ⟨f3, A3, L3, l3⟩
    dsimp only at f3 A3 L3 l3 ⊢
    have H3 : Ft μ3 c k n g s p := H2.fw f3 (fun x hx => by omega)
    have S3 : Spt μ3 g s p v3 (s 0) := by unfold Spt; rw [f3 252 (by omega)]; exact S2
    have q250 : μ3 250 = μ 250 := by rw [f3 250 (by omega), f2 250 (by unfold sp2; omega), r250]
    have q251 : μ3 251 = μ 251 := by rw [f3 251 (by omega), f2 251 (by unfold sp2; omega), r251]
    have f03 : Fw d4R μ μ3 := (f1.tr (f2.mo (fun x hx => by unfold sp2 at hx; unfold d4R; omega))).tr (f3.mo (fun x hx => by unfold d4R; omega))
    rw [q250, h5]
    refine Ev_bind (Ev_lop (P := fun r => Fw (fun x => x = 254) μ3 r.2 ∧ DB (fun x => (C x ∨ (cb g s p ∧ ∃ st y, (0 ≤ st ∧ st < v3) ∧ (s 5 ≤ y ∧ y ≤ s 6) ∧ En g s p st y x)) ∨ ∃ j, (0 ≤ j ∧ j < m) ∧ En g s p v3 (μ 251 j) x) r.1) (fun t => (0 ≤ t.2.1 ∧ t.2.1 ≤ m) ∧ Fw (fun x => x = 254) μ3 t.2.2 ∧ DB (fun x => (C x ∨ (cb g s p ∧ ∃ st y, (0 ≤ st ∧ st < v3) ∧ (s 5 ≤ y ∧ y ≤ s 6) ∧ En g s p st y x)) ∨ ∃ j, (0 ≤ j ∧ j < t.2.1) ∧ En g s p v3 (μ 251 j) x) t.1) (fun t => (m - t.2.1).toNat) ⟨(by first | omega | (dsimp only; omega) | (dsimp only)), Fw.rf, DB_c k2 (fun x _ _ => ⟨.inl, fun w => by rcases w with w | ⟨j, w, _⟩; exact w; dsimp only at w; omega⟩)⟩ (by unfold FU; dsimp only; omega) ?_) ?_
    · rintro ⟨w2, v5, μ4⟩ ⟨a1, f4, a2⟩
      dsimp only at a1 f4 a2 ⊢
      have H4 : Ft μ4 c k n g s p := H3.fw f4 (fun x hx => by omega)
      have S4 : Spt μ4 g s p v3 (s 0) := by unfold Spt; rw [f4 252 (by omega)]; exact S3
      have A4 : Ag μ4 (cls g s p v3) (s 0) := by unfold Ag; rw [f4 253 (by omega)]; exact A3
      have p250 : μ4 250 = μ 250 := (f4 250 (by omega)).trans q250
      have p251 : μ4 251 = μ 251 := (f4 251 (by omega)).trans q251
      unfold sX1_doubted_43
      dsimp only
      simp (disch := omega) only [w32_eq, w64_eq, chk_T, chk_t, lt, lm, ob, Int.add_zero, Int.zero_add, true_and, and_true, if_true, if_false, K100, K101, K102, K103, K104, K200, K201, K230, K231, K232, K233, K234, K235, K236, K237, K250, K251, K252, K253, K254, K300, K301, K302, K303, K304, N101, N102, N103, N104, N201, N232, N233, N234, N235, N236, N237, N251, N252, N253, N254, N301, N302, N303, N304, p250, h6]
      refine Ev_ite (fun z => Ev_out ⟨f4, ?_⟩) (fun z => ?_)
      · have e : v5 = m := by omega
        rw [e] at a2; exact a2
      rw [c_yearFrom (m := m) H4.1.1 (by rw [p250]; exact hP.1.1) (by omega) (by omega), p251]
      simp only [ob]
      refine Ev_bind (c_withoutTower H4 hc h8 S4 (μ 251 v5)) (fun w ⟨w1, w2'⟩ => ?_)
      have nb := ior_b L3 w1
      have nm : ∀ i, 0 ≤ i → (mb (ior L w) i ↔ (i < s 0 ∧ ¬lok g s p v3 i) ∨ (i < s 0 ∧ ¬tok g s p v3 (μ 251 v5) i)) := fun i a => by rw [ior_m L3 w1, l3 i a, w2' i a]
      have hk2 : k < 250 ∨ 254 < k := by
        have := H4.2.2.2.2.2.2.1; unfold far5 at this; omega
      refine Ev_bind (c_fewestWith H4.1.1 H4.1.2.2.1 H4.2.2.1.1.1 hk2 H4.2.2.1.2.2.1.1 (by omega) A4 (fun i j q => cls_s q) nb (fun i a q => by rcases (nm i a).mp q with u | u <;> exact u.1) a2) ?_
      rintro ⟨r, μ5⟩ ⟨f5, d5⟩
      dsimp only at f5 d5 ⊢
      try simp (disch := omega) only [w32_eq, w64_eq, chk_T, chk_t, lt, lm, ob, Int.add_zero, Int.zero_add, true_and, and_true, if_true, if_false, ]
      refine Ev_in ⟨(by first | omega | (dsimp only; omega) | (dsimp only)), f4.tr f5, DB_c d5 (fun x _ _ => ?_)⟩ (by first | omega | (dsimp only; omega) | (dsimp only))
      dsimp only
      rw [EK_En nm]
      constructor
      · intro q; rcases q with (q | ⟨j, hj, q⟩) | q
        · exact .inl q
        · exact .inr ⟨j, by omega, q⟩
        · exact .inr ⟨v5, by omega, q⟩
      · intro q; rcases q with q | ⟨j, hj, q⟩
        · exact .inl (.inl q)
        · by_cases e : j = v5
          · subst e; exact .inr q
          · exact .inl (.inr ⟨j, by omega, q⟩)
    · rintro ⟨r, μ4⟩ ⟨f4, d4⟩
      dsimp only at f4 d4 ⊢
      try simp (disch := omega) only [w32_eq, w64_eq, chk_T, chk_t, lt, lm, ob, Int.add_zero, Int.zero_add, true_and, and_true, if_true, if_false, ]
      refine Ev_in ⟨(by first | omega | (dsimp only; omega) | (dsimp only)), f03.tr (f4.mo (fun x hx => by unfold d4R; omega)), DB_c d4 (fun x _ _ => ?_)⟩ (by first | omega | (dsimp only; omega) | (dsimp only))
      dsimp only
      constructor
      · intro q; rcases q with (q | ⟨q, st, y, u, u2⟩) | ⟨j, hj, q⟩
        · exact .inl q
        · exact .inr ⟨q, st, y, by omega, u2⟩
        · have pb := hP.2.2.2.2.1 j hj.1 hj.2
          rw [e0, e9] at pb
          exact .inr ⟨hc, v3, μ 251 j, by omega, pb, q⟩
      · intro q; rcases q with q | ⟨q, st, y, u, u2, u3⟩
        · exact .inl (.inl q)
        · by_cases e : st = v3
          · subst e
            obtain ⟨j, j0, j1, j2⟩ := sp_tok (y := y) hO hP (by rw [e0, e9]; exact u2)
            exact .inr ⟨j, ⟨j0, j1⟩, En_t (fun i a b' => j2 p st i a b') u3⟩
          · exact .inl (.inr ⟨q, st, y, by omega, u2, u3⟩)
  · rw [sel_f hc]
    refine Ev_out ⟨f1, DB_c k2 (fun x _ _ => ⟨fun w => ?_, fun w => ?_⟩)⟩
    · rcases w with w | w
      · exact .inl w
      · exact absurd w.1 hc
    · rcases w with w | w
      · exact .inl w
      · exact absurd w.1 hc
def ZDoubt (b : Int → Int) (n k r : Int) : Prop := (((isL b n ∧ isS b k) ∧ ls b k 0 ≤ 8) ∧ DB (fun x => ∃ p, Pl (lg b n) p ∧ Cd (lg b n) (ls b k) p x) r) ∨ (¬((isL b n ∧ isS b k) ∧ ls b k 0 ≤ 8) ∧ r = -1)
theorem ZDoubt_u {r t : Int} (h : ZDoubt b n k r) (h2 : ZDoubt b n k t) : r = t := by
  rcases h with ⟨a, d⟩ | ⟨a, d⟩ <;> rcases h2 with ⟨a2, d2⟩ | ⟨a2, d2⟩
  · exact DB_u d d2
  · exact absurd a a2
  · exact absurd a2 a
  · omega
theorem q_doubt (hW : Nw μ b) (hC : Ca μ b vb) (hvb : 0 ≤ vb) (n k : Int) : Ec (fX10_doubt 100 n k μ) (Bd μ) (QP μ b vb (ZDoubt b n k)) := by
  unfold fX10_doubt
  simp (disch := omega) only [w32_eq, w64_eq, chk_T, chk_t, lt, lm, ob, Int.add_zero, Int.zero_add, true_and, and_true, if_true, if_false, K100, K101, K102, K103, K104, K200, K201, K230, K231, K232, K233, K234, K235, K236, K237, K250, K251, K252, K253, K254, K300, K301, K302, K303, K304, N101, N102, N103, N104, N201, N232, N233, N234, N235, N236, N237, N251, N252, N253, N254, N301, N302, N303, N304, ]
  refine q_scene hW hC hvb (fun z => ⟨-1, .inr ⟨fun w => z w.1.1, rfl⟩, fun μ1 cc nn => by dsimp only; rw [if_pos rfl]⟩) (fun hL μ1 N1 fq C1 hD hs cc nn => ⟨_, rfl, ?_⟩)
  dsimp only
  have hn1 := hL.1; have nb := np_b hD
  rw [if_neg (by omega)]
  refine Ec_bindE (c_takesUp N1 C1 n k (-1)) ?_
  rintro ⟨t, μ2⟩ (⟨e, w, f2, m, hz⟩ | ⟨e, w, e2⟩)
  · dsimp only at e f2 hz ⊢
    subst e
    rw [if_neg (by decide)]
    have f2' := aR_f5 f2
    have fq2 : Fw Rq μ μ2 := fq.tr (f2'.mo (fun x hx => Rq_ft hx))
    have bb : Bd μ2 = Bd μ1 := Bd_ft f2'
    have s2 : μ2 102 n ≠ 0 := by rw [f2 102 (by unfold aR; omega)]; exact hs
    have hO := hz.2.2.2.2.1.2.1
    have hS := hz.2.2.2.2.1.1
    rw [← bb]
    simp (disch := omega) only [w32_eq, w64_eq, chk_T, chk_t, lt, lm, ob, Int.add_zero, Int.zero_add, true_and, and_true, if_true, if_false, K100, K101, K102, K103, K104, K200, K201, K230, K231, K232, K233, K234, K235, K236, K237, K250, K251, K252, K253, K254, K300, K301, K302, K303, K304, N101, N102, N103, N104, N201, N232, N233, N234, N235, N236, N237, N251, N252, N253, N254, N301, N302, N303, N304, X10F.f0 hz.1.1, X10F.f1 hz.1.1, X10F.f2 hz.1.1, X10F.f3 hz.1.1, X10F.f4 hz.1.1, X10F.f5 hz.1.1, X10F.f6 hz.1.1, X10F.f7 hz.1.1, X10F.f8 hz.1.1, X10F.f9 hz.1.1, X10F.f10 hz.1.1, hz.2.2.2.1.2, hS.1.1, hS.2.2.1.1]
    refine Ec_ite (fun h8 => ?_) (fun h8 => Ec_some ⟨rfl, fq2, hz.2.1, .inr ⟨fun u => h8 u.2, rfl⟩⟩)
    refine Ec_bind (Ec_lop (P := fun x b' => b' = Bd x.2 ∧ Fw Rq μ x.2 ∧ Ca x.2 b vb ∧ DB (fun x => ∃ p, Pl (lg b n) p ∧ Cd (lg b n) (ls b k) p x) x.1) (fun t b' => b' = Bd t.2.2 ∧ Fw Rq μ t.2.2 ∧ Fz t.2.2 b vb n (1040 + 10 * k) (ls b k) (-1) m 0 (m - 1) ∧ t.2.2 102 n ≠ 0 ∧ (0 ≤ t.2.1 ∧ t.2.1 ≤ np (lg b n)) ∧ DB (fun x => ∃ p, (0 ≤ p ∧ p < t.2.1) ∧ Cd (lg b n) (ls b k) p x) t.1) (fun t => (np (lg b n) - t.2.1).toNat) ⟨rfl, fq2, hz, s2, (by first | omega | (dsimp only; omega) | (dsimp only)), .inl ⟨rfl, fun x _ _ ⟨p, hp, _⟩ => by dsimp only at hp; omega⟩⟩ (by unfold FU; dsimp only; omega) ?_) ?_
    · rintro ⟨v4, v5, μ4⟩ b4 ⟨hb4, f4, z4, s4, h4, w4⟩
      dsimp only at hb4 f4 z4 s4 h4 w4 ⊢
      obtain ⟨k1, k2, k3, k4⟩ := sc_k z4.1 z4.2.1 hL s4
      unfold sX10_doubt_43
      simp (disch := omega) only [w32_eq, w64_eq, chk_T, chk_t, lt, lm, ob, Int.add_zero, Int.zero_add, true_and, and_true, if_true, if_false, k1, k2, k3, k4]
      rw [hb4]
      refine Ec_ite (fun y => Ec_outA ⟨rfl, f4, z4.2.1, ?_⟩) (fun y => Ec_ite (fun y2 => Ec_outA ⟨rfl, f4, z4.2.1, ?_⟩) (fun y2 => ?_))
      · refine DB_c w4 (fun x _ _ => ⟨fun ⟨p, hp, q⟩ => ⟨p, ⟨hp.1, by omega⟩, q⟩, fun ⟨p, hp, q⟩ => ⟨p, ⟨hp.1, by have := hp.2; omega⟩, q⟩⟩)
      · dsimp only; rw [y2] at w4 ⊢
        exact DB_0 w4 (fun x _ _ ⟨p, hp, q⟩ => ⟨p, ⟨hp.1, by omega⟩, q⟩)
      · have hp : Pl (lg b n) v5 := ⟨by omega, by omega⟩
        simp (disch := omega) only [w32_eq, w64_eq, chk_T, chk_t, lt, lm, ob, Int.add_zero, Int.zero_add, true_and, and_true, if_true, if_false, K100, K101, K102, K103, K104, K200, K201, K230, K231, K232, K233, K234, K235, K236, K237, K250, K251, K252, K253, K254, K300, K301, K302, K303, K304, N101, N102, N103, N104, N201, N232, N233, N234, N235, N236, N237, N251, N252, N253, N254, N301, N302, N303, N304, ]
        refine Ec_bind (c_lnF z4 f4 s4 hp) ?_
        rintro ⟨r5, μ5⟩ b5 ⟨hb5, hr5, f5, e100, s5, z5, t5, g5, li5⟩ cc nn
        refine ⟨_, rfl, ?_⟩
        dsimp only at hb5 hr5 f5 e100 s5 z5 t5 g5 ⊢
        simp (disch := omega) only [w32_eq, w64_eq, chk_T, chk_t, lt, lm, ob, Int.add_zero, Int.zero_add, true_and, and_true, if_true, if_false, K100, K101, K102, K103, K104, K200, K201, K230, K231, K232, K233, K234, K235, K236, K237, K250, K251, K252, K253, K254, K300, K301, K302, K303, K304, N101, N102, N103, N104, N201, N232, N233, N234, N235, N236, N237, N251, N252, N253, N254, N301, N302, N303, N304, X10F.f0 z4.1.1, X10F.f1 z4.1.1, X10F.f2 z4.1.1, X10F.f3 z4.1.1, X10F.f4 z4.1.1, X10F.f5 z4.1.1, X10F.f6 z4.1.1, X10F.f7 z4.1.1, X10F.f8 z4.1.1, X10F.f9 z4.1.1, X10F.f10 z4.1.1, X10F.f0 z5.1.1, X10F.f1 z5.1.1, X10F.f2 z5.1.1, X10F.f3 z5.1.1, X10F.f4 z5.1.1, X10F.f5 z5.1.1, X10F.f6 z5.1.1, X10F.f7 z5.1.1, X10F.f8 z5.1.1, X10F.f9 z5.1.1, X10F.f10 z5.1.1]
        refine Ec_bindE (c_doubted t5 z5.2.2.2.2.2.1 z5.2.2.2.2.2.2.1 z5.2.2.2.2.2.2.2 h8 w4) ?_
        rintro ⟨r6, μ6⟩ ⟨f6, d6⟩
        dsimp only at f6 d6 ⊢
        have z6 := z5.d4 f6
        have f6' : Fw f5R (mst μ5 250 2 r5) μ6 := f6.mo (fun x hx => by unfold d4R at hx; unfold f5R; omega)
        have s6 : μ6 102 n ≠ 0 := by rw [f6 102 (by unfold d4R; omega), mst_n (by decide)]; exact s5
        have bb6 : b5 = Bd μ6 := by rw [Bd_ft f6']; exact hb5
        have fq6 : Fw Rq μ μ6 := f5.tr (f6'.mo (fun x hx => Rq_ft hx))
        try simp (disch := omega) only [w32_eq, w64_eq, chk_T, chk_t, lt, lm, ob, Int.add_zero, Int.zero_add, true_and, and_true, if_true, if_false, ]
        refine Ec_inA ⟨bb6, fq6, z6, s6, (by first | omega | (dsimp only; omega) | (dsimp only)), DB_c d6 (fun x _ _ => ?_)⟩ (by first | omega | (dsimp only; omega) | (dsimp only))
        dsimp only
        constructor
        · intro q; rcases q with ⟨p, hp, q⟩ | q
          · exact ⟨p, by omega, q⟩
          · exact ⟨v5, by omega, q⟩
        · rintro ⟨p, hp, q⟩
          by_cases e : p = v5
          · subst e; exact .inr q
          · exact .inl ⟨p, by omega, q⟩
    · rintro ⟨r, μ4⟩ b4 ⟨hb4, f4, c4, d4⟩ cc nn
      refine ⟨_, rfl, ?_⟩
      dsimp only at hb4 f4 c4 d4 ⊢
      exact Ec_some ⟨hb4, f4, c4, .inl ⟨⟨w.1, h8⟩, d4⟩⟩
  · dsimp only at e e2 ⊢
    subst e e2
    rw [if_pos rfl]
    exact Ec_some ⟨rfl, fq, C1, .inr ⟨fun u => w ⟨u.1, by omega, by omega⟩, rfl⟩⟩
end
