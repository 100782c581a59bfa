/-! ===== the class: way, sneak ===== -/
section
variable {μ μ' : Mm} {b : Int → Int} {vb c cl n p q : Int} {g : Int → Int} {sh S T D : Int → Prop}
theorem c_begin (hW : Ws μ c cl g sh) (hL : LdOk g) (hQ : Wq (We g cl sh) S (μ 302) (μ 303) (μ 300 6) D) (hp : Pl g p) (hs : ¬sh p → S p) : Ev (fX9_begin 300 p μ) (fun μ' => Fw wQ μ μ' ∧ Ws μ' c cl g sh ∧ ∀ D' : Int → Prop, (∀ x, D' x → D x ∨ x = p ∧ ¬sh p) → Wq (We g cl sh) S (μ' 302) (μ' 303) (μ' 300 6) D') := by
  have bp := Pl.i hL hp
  unfold fX9_begin
  simp (disch := omega) only [w32_eq, w64_eq, chk_T, chk_t, lt, lm, ob, Int.add_zero, Int.zero_add, true_and, and_true, if_true, if_false, K100, K101, K102, K103, K104, K200, K201, K230, K231, K232, K233, K234, K235, K236, K237, K250, K251, K252, K253, K254, K300, K301, K302, K303, K304, N101, N102, N103, N104, N201, N232, N233, N234, N235, N236, N237, N251, N252, N253, N254, N301, N302, N303, N304, ]
  by_cases hn : ¬sh p ∧ μ 302 p = -1
  · have rm := Bf_room hQ.1 bp hn.2
    have ll := Bf_len hQ.1
    rw [c_enqYes hW hL hp hn.1 hn.2 (by omega)]
    simp only [ob]
    refine Ev_some ⟨Fw.rf.enq, Ws.enq (j := 0) hW, fun D' hD => ?_⟩
    rw [mst_s]
    exact Wq_step hQ bp (hs hn.1) hn.2 (by simp (disch := omega) only [mst_n, mst_s, mst_j, ]) (fun x hx => by simp (disch := omega) only [mst_n, mst_s, mst_j, ]) (by simp (disch := omega) only [mst_n, mst_s, mst_j, ]) (fun x hx => by simp (disch := omega) only [mst_n, mst_s, mst_j, ]) (fun x hx => by
      rcases hD x hx with w | w
      · exact .inl w
      · exact .inr w.1)
  · rw [c_enqNo hW hL (by
      by_cases z : sh p
      · exact .inr (.inl z)
      · exact .inr (.inr (fun w => hn ⟨z, w⟩)))]
    simp only [ob]
    refine Ev_some ⟨Fw.rf, hW, fun D' hD => Wq_no hQ (fun x hx => ?_)⟩
    rcases hD x hx with w | ⟨w, w2⟩
    · exact .inl w
    · subst w; exact .inr ⟨bp, fun e => hn ⟨w2, e⟩⟩
end
def ZWay (b : Int → Int) (n k j c r : Int) : Prop := (((0 ≤ c ∧ c ≤ 999) ∧ (isL b n ∧ isS b k) ∧ isS b j) ∧ DG (We (lg b n) c (fun _ => False)) (ftp (lg b n) (ls b k) (-1)) (ftp (lg b n) (ls b j) (-1)) r) ∨ (¬((0 ≤ c ∧ c ≤ 999) ∧ (isL b n ∧ isS b k) ∧ isS b j) ∧ r = -1)
theorem ZWay_u {b : Int → Int} {n k j c r s : Int} (h : ZWay b n k j c r) (h2 : ZWay b n k j c s) : r = s := by
  rcases h with ⟨a, d⟩ | ⟨a, d⟩ <;> rcases h2 with ⟨a2, d2⟩ | ⟨a2, d2⟩
  · exact DG_u d d2
  · exact absurd a a2
  · exact absurd a2 a
  · omega
def shS (g : Int → Int) (p q : Int) : Prop := q = p ∨ vS g p q
def ZSneak (b : Int → Int) (n x y p r : Int) : Prop := ((isP b n x ∧ isP b n y ∧ isP b n p) ∧ DG (We (lg b n) 999 (shS (lg b n) p)) (fun q => q = x ∧ ¬shS (lg b n) p x) (fun q => q = y) r) ∨ (¬(isP b n x ∧ isP b n y ∧ isP b n p) ∧ r = -1)
theorem ZSneak_u {b : Int → Int} {n x y p r s : Int} (h : ZSneak b n x y p r) (h2 : ZSneak b n x y p s) : r = s := by
  rcases h with ⟨a, d⟩ | ⟨a, d⟩ <;> rcases h2 with ⟨a2, d2⟩ | ⟨a2, d2⟩
  · exact DG_u d d2
  · exact absurd a a2
  · exact absurd a2 a
  · omega
section
variable {μ : Mm} {b : Int → Int} {vb : Int}
theorem q_way (hW : Nw μ b) (hC : Ca μ b vb) (hvb : 0 ≤ vb) (n k j c : Int) : Ec (fX10_way 100 n k j c μ) (Bd μ) (QP μ b vb (ZWay b n k j c)) := by
  have n0 := hW.n0
  unfold fX10_way
  simp (disch := omega) only [w32_eq, w64_eq, chk_T, chk_t, lt, lm, ob, Int.add_zero, Int.zero_add, true_and, and_true, if_true, if_false, K100, K101, K102, K103, K104, K200, K201, K230, K231, K232, K233, K234, K235, K236, K237, K250, K251, K252, K253, K254, K300, K301, K302, K303, K304, N101, N102, N103, N104, N201, N232, N233, N234, N235, N236, N237, N251, N252, N253, N254, N301, N302, N303, N304, c_landAt hW]
  by_cases hL : isL b n
  · have hn1 := hL.1; have hn2 := hL.2
    rw [sel_t hL, if_neg (by omega)]
    by_cases hd : 0 ≤ c ∧ c ≤ 999
    · rw [if_neg (by omega), if_pos (by omega)]
      simp (disch := omega) only [w32_eq, w64_eq, chk_T, chk_t, lt, lm, ob, Int.add_zero, Int.zero_add, true_and, and_true, if_true, if_false, K100, K101, K102, K103, K104, K200, K201, K230, K231, K232, K233, K234, K235, K236, K237, K250, K251, K252, K253, K254, K300, K301, K302, K303, K304, N101, N102, N103, N104, N201, N232, N233, N234, N235, N236, N237, N251, N252, N253, N254, N301, N302, N303, N304, X10F.f0 hW.1, X10F.f1 hW.1, X10F.f2 hW.1, X10F.f3 hW.1, X10F.f4 hW.1, X10F.f5 hW.1, X10F.f6 hW.1, X10F.f7 hW.1, X10F.f8 hW.1, X10F.f9 hW.1, X10F.f10 hW.1]
      refine Ec_bind (c_marks (.inl rfl) hW hC hvb n k (-1)) ?_
      rintro ⟨r, μ1⟩ b1 ⟨hb, fq, C1, _, h⟩ cc nn
      refine ⟨_, rfl, ?_⟩
      dsimp only at hb fq C1 h ⊢
      have N1 := hW.q fq
      rcases h with ⟨e, w, hP⟩ | ⟨e, w⟩
      · subst e
        rw [if_neg (by decide), N1.1.f10, hb]
        refine Ec_bind (c_marks (.inr rfl) N1 C1 hvb n j (-1)) ?_
        rintro ⟨r, μ2⟩ b2 ⟨hb2, fq2, C2, o2, h2⟩ cc nn
        refine ⟨_, rfl, ?_⟩
        dsimp only at hb2 fq2 C2 o2 h2 ⊢
        have N2 := N1.q fq2
        have fq12 := fq.tr fq2
        have r103 : μ2 103 = μ1 103 := o2
        rcases h2 with ⟨e2, w2, hP2⟩ | ⟨e2, w2⟩
        · subst e2
          have hD := N2.ld hn1 hn2; have hA := N2.la hn1 hn2
          have nb := np_b hD
          have P1 : ∀ q, 0 ≤ q → q < 144 → μ2 103 q = bi (ftp (lg b n) (ls b k) (-1) q) := by rw [r103]; exact hP
          rw [if_neg (by decide)]
          simp (disch := omega) only [w32_eq, w64_eq, chk_T, chk_t, lt, lm, ob, Int.add_zero, Int.zero_add, true_and, and_true, if_true, if_false, K100, K101, K102, K103, K104, K200, K201, K230, K231, K232, K233, K234, K235, K236, K237, K250, K251, K252, K253, K254, K300, K301, K302, K303, K304, N101, N102, N103, N104, N201, N232, N233, N234, N235, N236, N237, N251, N252, N253, N254, N301, N302, N303, N304, X10F.f0 N2.1, X10F.f1 N2.1, X10F.f2 N2.1, X10F.f3 N2.1, X10F.f4 N2.1, X10F.f5 N2.1, X10F.f6 N2.1, X10F.f7 N2.1, X10F.f8 N2.1, X10F.f9 N2.1, X10F.f10 N2.1]
          refine Ec_bindE (c_ready (c := 1010 + 10 * n) (cl := c) C2.1.2.2.2.1) (fun μ3 ⟨f3, F3, e3, l3, s3, t3⟩ => ?_)
          have W3 : Ws μ3 (1010 + 10 * n) c (lg b n) (fun _ => False) := ⟨F3, e3, hA.fw f3 (fun x a b => by unfold wR; omega), by omega, fun q a b => by rw [s3 q a b, bi_f (fun z => z)]⟩
          refine Ec_bindE (Ev_lop (P := fun μ' => Fw wQ μ3 μ' ∧ Ws μ' (1010 + 10 * n) c (lg b n) (fun _ => False) ∧ Wq (We (lg b n) c (fun _ => False)) (ftp (lg b n) (ls b k) (-1)) (μ' 302) (μ' 303) (μ' 300 6) (ftp (lg b n) (ls b k) (-1))) (fun t => (0 ≤ t.1 ∧ t.1 ≤ np (lg b n)) ∧ Fw wQ μ3 t.2 ∧ Ws t.2 (1010 + 10 * n) c (lg b n) (fun _ => False) ∧ Wq (We (lg b n) c (fun _ => False)) (ftp (lg b n) (ls b k) (-1)) (t.2 302) (t.2 303) (t.2 300 6) (fun x => x < t.1 ∧ ftp (lg b n) (ls b k) (-1) x)) (fun t => (np (lg b n) - t.1).toNat) ⟨(by first | omega | (dsimp only; omega) | (dsimp only)), Fw.rf, W3, by dsimp only; rw [l3]; exact ⟨Bf_start t3, fun i a b => by omega, fun q w => by have := w.2.1.1; omega⟩⟩ (by unfold FU; dsimp only; omega) ?_) ?_
          · rintro ⟨v6, μ4⟩ ⟨h4, f4, W4, Q4⟩
            dsimp only at h4 f4 W4 Q4 ⊢
            have A4 := W4.2.2.1
            have f34 : Fw wR μ2 μ4 := f3.tr (f4.mo (fun x hx => wQR hx))
            have r103 : μ4 103 = μ2 103 := f34 103 (by unfold wR; omega)
            have X4 : X10F μ4 := by unfold X10F; rw [f34 100 (by unfold wR; omega)]; exact N2.1
            unfold sX10_way_71
            dsimp only
            simp (disch := omega) only [w32_eq, w64_eq, chk_T, chk_t, lt, lm, ob, Int.add_zero, Int.zero_add, true_and, and_true, if_true, if_false, K100, K101, K102, K103, K104, K200, K201, K230, K231, K232, K233, K234, K235, K236, K237, K250, K251, K252, K253, K254, K300, K301, K302, K303, K304, N101, N102, N103, N104, N201, N232, N233, N234, N235, N236, N237, N251, N252, N253, N254, N301, N302, N303, N304, La_k A4, c_places A4 hD, X10F.f0 X4, X10F.f1 X4, X10F.f2 X4, X10F.f3 X4, X10F.f4 X4, X10F.f5 X4, X10F.f6 X4, X10F.f7 X4, X10F.f8 X4, X10F.f9 X4, X10F.f10 X4]
            refine Ev_ite (fun y => Ev_out ⟨f4, W4, Wq_no Q4 (fun x hx => .inl ⟨by have := hx.1.2; omega, hx⟩)⟩) (fun y => ?_)
            have hp : Pl (lg b n) v6 := ⟨by omega, by omega⟩
            rw [r103, P1 v6 (by omega) (by omega)]
            by_cases z : ftp (lg b n) (ls b k) (-1) v6
            · rw [bi_t z, if_neg (by decide)]
              refine Ev_bind (c_begin W4 hD Q4 hp (fun _ => z)) (fun μ5 ⟨f5, W5, Q5⟩ => ?_)
              try simp (disch := omega) only [w32_eq, w64_eq, chk_T, chk_t, lt, lm, ob, Int.add_zero, Int.zero_add, true_and, and_true, if_true, if_false, ]
              refine Ev_in ⟨(by first | omega | (dsimp only; omega) | (dsimp only)), f4.tr f5, W5, Q5 _ (fun x hx => ?_)⟩ (by first | omega | (dsimp only; omega) | (dsimp only))
              dsimp only at hx ⊢
              by_cases e : x = v6
              · exact .inr ⟨e, fun q => q⟩
              · exact .inl ⟨by omega, hx.2⟩
            · rw [bi_f z, if_pos rfl]
              try simp (disch := omega) only [w32_eq, w64_eq, chk_T, chk_t, lt, lm, ob, Int.add_zero, Int.zero_add, true_and, and_true, if_true, if_false, ]
              refine Ev_in ⟨(by first | omega | (dsimp only; omega) | (dsimp only)), f4, W4, Wq_no Q4 (fun x hx => .inl ?_)⟩ (by first | omega | (dsimp only; omega) | (dsimp only))
              dsimp only at hx ⊢
              refine ⟨?_, hx.2⟩
              by_cases e : x = v6
              · subst e; exact absurd hx.2 z
              · omega
          · intro μ4 ⟨f4, W4, Q4⟩
            have f34 : Fw wR μ2 μ4 := f3.tr (f4.mo (fun x hx => wQR hx))
            have X4 : X10F μ4 := by unfold X10F; rw [f34 100 (by unfold wR; omega)]; exact N2.1
            have P4 : ∀ q, 0 ≤ q → q < 144 → μ4 104 q = bi (ftp (lg b n) (ls b j) (-1) q) := by rw [f34 104 (by unfold wR; omega)]; exact hP2
            simp (disch := omega) only [w32_eq, w64_eq, chk_T, chk_t, lt, lm, ob, Int.add_zero, Int.zero_add, true_and, and_true, if_true, if_false, K100, K101, K102, K103, K104, K200, K201, K230, K231, K232, K233, K234, K235, K236, K237, K250, K251, K252, K253, K254, K300, K301, K302, K303, K304, N101, N102, N103, N104, N201, N232, N233, N234, N235, N236, N237, N251, N252, N253, N254, N301, N302, N303, N304, X10F.f0 X4, X10F.f1 X4, X10F.f2 X4, X10F.f3 X4, X10F.f4 X4, X10F.f5 X4, X10F.f6 X4, X10F.f7 X4, X10F.f8 X4, X10F.f9 X4, X10F.f10 X4]
            refine Ec_bindE (c_walkTo W4 hD (fun q w => w.1) (Wq_v Q4) P4) ?_
            rintro ⟨r, μ5⟩ ⟨f5, F5, d5⟩
            dsimp only at f5 F5 d5 ⊢
            have f25 := f34.tr f5
            refine Ec_some ⟨?_, fq12.tr (f25.mo (fun x hx => Rq_wk hx)), C2.wk f25 F5, .inl ⟨⟨hd, w.1, w2.1.2⟩, d5⟩⟩
            dsimp only
            rw [Bd_wk f25]; exact hb2
        · subst e2
          rw [if_pos rfl]
          exact Ec_some ⟨hb2, fq12, C2, .inr ⟨fun u => w2 ⟨⟨hL, u.2.2⟩, by omega, by omega⟩, rfl⟩⟩
      · subst e
        rw [if_pos rfl]
        exact Ec_some ⟨hb, fq, C1, .inr ⟨fun u => w ⟨u.2.1, by omega, by omega⟩, rfl⟩⟩
    · have no : Ec (some (((-1 : Int), μ), 0, 0)) (Bd μ) (QP μ b vb (ZWay b n k j c)) := Ec_some ⟨rfl, Fw.rf, hC, .inr ⟨fun u => hd u.1, rfl⟩⟩
      by_cases z : c < 0
      · rw [if_pos z]; exact no
      · rw [if_neg z, if_neg (by omega)]; exact no
  · rw [sel_f hL, if_pos rfl]
    exact Ec_some ⟨rfl, Fw.rf, hC, .inr ⟨fun u => hL u.2.1.1, rfl⟩⟩
theorem c_shutSeen {μ : Mm} {s p : Int} {g : Int → Int} (hF : WkF μ) (h : Li μ s g p) (h1 : 1000 ≤ s) : Ev (fX9_shutSeen 300 s p μ) (fun μ' => Fw (fun x => x = 301) μ μ' ∧ ∀ q, 0 ≤ q → q < 144 → μ' 301 q = bi (shS g p q)) := by
  unfold fX9_shutSeen
  refine Ev_bind (Ev_lop (P := fun μ' => Fw (fun x => x = 301) μ μ' ∧ ∀ q, 0 ≤ q → q < 144 → μ' 301 q = bi (shS g p q)) (fun t => (0 ≤ t.1 ∧ t.1 ≤ 144) ∧ Fw (fun x => x = 301) μ t.2 ∧ ∀ q, 0 ≤ q → q < t.1 → t.2 301 q = bi (shS g p q)) (fun t => (144 - t.1).toNat) ⟨(by first | omega | (dsimp only; omega) | (dsimp only)), Fw.rf, fun q a b => by dsimp only at b; omega⟩ (by unfold FU; dsimp only; omega) ?_) (fun r h => Ev_some h)
  rintro ⟨v3, μ1⟩ ⟨k1, f1, k2⟩
  dsimp only at k1 f1 k2 ⊢
  have L1 : Li μ1 s g p := h.fw f1 (fun x a b => by omega)
  have w2 : μ1 300 2 = 301 := by rw [f1 300 (by omega)]; exact hF.1
  unfold sX9_shutSeen_2
  dsimp only
  refine Ev_ite (fun y => Ev_out ⟨f1, fun q a b => k2 q a (by omega)⟩) (fun y => ?_)
  have go : ∀ v, v = bi (shS g p v3) → Ev (some (Sum.inl (v3 + 1, mst μ1 301 v3 v) : (Int × Mm) ⊕ Mm)) (Nx (fun t => (0 ≤ t.1 ∧ t.1 ≤ 144) ∧ Fw (fun x => x = 301) μ t.2 ∧ ∀ q, 0 ≤ q → q < t.1 → t.2 301 q = bi (shS g p q)) (fun t => (144 - t.1).toNat) (fun μ' => Fw (fun x => x = 301) μ μ' ∧ ∀ q, 0 ≤ q → q < 144 → μ' 301 q = bi (shS g p q)) (144 - v3).toNat) := by
    intro v hv
    refine Ev_in ⟨(by first | omega | (dsimp only; omega) | (dsimp only)), f1.st (by omega), fun q a b => ?_⟩ (by first | omega | (dsimp only; omega) | (dsimp only))
    dsimp only at b ⊢
    by_cases e : q = v3
    · subst e; rw [mst_s, hv]
    · rw [mst_j e]; exact k2 q a (by omega)
  simp (disch := omega) only [w32_eq, w64_eq, chk_T, chk_t, lt, lm, ob, Int.add_zero, Int.zero_add, true_and, and_true, if_true, if_false, K100, K101, K102, K103, K104, K200, K201, K230, K231, K232, K233, K234, K235, K236, K237, K250, K251, K252, K253, K254, K300, K301, K302, K303, K304, N101, N102, N103, N104, N201, N232, N233, N234, N235, N236, N237, N251, N252, N253, N254, N301, N302, N303, N304, w2]
  by_cases e : v3 = p
  · rw [if_pos e]
    exact go 1 (bi_t (.inl e)).symm
  · rw [if_neg e]
    simp (disch := omega) only [w32_eq, w64_eq, chk_T, chk_t, lt, lm, ob, Int.add_zero, Int.zero_add, true_and, and_true, if_true, if_false, K100, K101, K102, K103, K104, K200, K201, K230, K231, K232, K233, K234, K235, K236, K237, K250, K251, K252, K253, K254, K300, K301, K302, K303, K304, N101, N102, N103, N104, N201, N232, N233, N234, N235, N236, N237, N251, N252, N253, N254, N301, N302, N303, N304, L1.1.k]
    rw [c_shows L1.1 L1.2.1 L1.2.2.2.2.2.2 k1.1 (by omega)]
    simp only [ob, bi_if]
    by_cases z : vS g p v3
    · rw [sel_t z]
      exact go 1 (bi_t (.inr z)).symm
    · rw [sel_f z]
      exact go 0 (bi_f (fun w => by rcases w with w | w; exact e w; exact z w)).symm
theorem q_sneak (hW : Nw μ b) (hC : Ca μ b vb) (hvb : 0 ≤ vb) (n x y p : Int) : Ec (fX10_sneak 100 n x y p μ) (Bd μ) (QP μ b vb (ZSneak b n x y p)) := by
  have n0 := hW.n0
  unfold fX10_sneak
  simp (disch := omega) only [w32_eq, w64_eq, chk_T, chk_t, lt, lm, ob, Int.add_zero, Int.zero_add, true_and, and_true, if_true, if_false, K100, K101, K102, K103, K104, K200, K201, K230, K231, K232, K233, K234, K235, K236, K237, K250, K251, K252, K253, K254, K300, K301, K302, K303, K304, N101, N102, N103, N104, N201, N232, N233, N234, N235, N236, N237, N251, N252, N253, N254, N301, N302, N303, N304, c_landAt hW]
  refine Ec_bind (c_lineAt hW hC hvb) ?_
  rintro ⟨r, μ1⟩ b1 ⟨hb, hr, f1, C1, L1⟩ cc nn
  refine ⟨_, rfl, ?_⟩
  dsimp only at hb hr f1 C1 L1 ⊢
  have fq : Fw Rq μ μ1 := f1.mo (fun x hx => Rq_l hx)
  have N1 := hW.q fq
  have no : ¬(isP b n x ∧ isP b n y ∧ isP b n p) → Ec (some (((-1 : Int), μ1), 0, 0)) b1 (QP μ b vb (ZSneak b n x y p)) := fun h => Ec_some ⟨hb, fq, C1, .inr ⟨h, rfl⟩⟩
  by_cases hn : isL b n
  · have hn1 := hn.1; have hn2 := hn.2
    have hD := N1.ld hn.1 hn.2; have hA := N1.la hn.1 hn.2
    rw [sel_t hn, if_neg (by omega)]
    by_cases hp : Pl (lg b n) p
    · have hP : isP b n p := ⟨hn, hp⟩
      have b2 := Pl.i hD hp
      have L := L1 hP
      rw [hr, sel_t hP] at L ⊢
      rw [if_neg (by omega)]
      simp (disch := omega) only [w32_eq, w64_eq, chk_T, chk_t, lt, lm, ob, Int.add_zero, Int.zero_add, true_and, and_true, if_true, if_false, K100, K101, K102, K103, K104, K200, K201, K230, K231, K232, K233, K234, K235, K236, K237, K250, K251, K252, K253, K254, K300, K301, K302, K303, K304, N101, N102, N103, N104, N201, N232, N233, N234, N235, N236, N237, N251, N252, N253, N254, N301, N302, N303, N304, La_k hA, La_k1 hA, La_n1 hA, La_k2 hA, La_n2 hA, La_k3 hA, La_n3 hA, La_k4 hA, La_n4 hA, La_k5 hA, La_n5 hA, La_f6 hA, La_f7 hA, La_f8 hA, La_f9 hA, La_f10 hA, La_0 hA, La_1 hA, La_2 hA, La_3 hA, La_4 hA, La_5 hA, La_h hA, La_a hA, La_t hA, La_fr hA, La_to hA, c_has hA hD, bi_if]
      by_cases hx : Pl (lg b n) x
      · rw [sel_t hx]
        by_cases hy : Pl (lg b n) y
        · have b3 := Pl.i hD hy
          rw [sel_t hy]
          simp (disch := omega) only [w32_eq, w64_eq, chk_T, chk_t, lt, lm, ob, Int.add_zero, Int.zero_add, true_and, and_true, if_true, if_false, K100, K101, K102, K103, K104, K200, K201, K230, K231, K232, K233, K234, K235, K236, K237, K250, K251, K252, K253, K254, K300, K301, K302, K303, K304, N101, N102, N103, N104, N201, N232, N233, N234, N235, N236, N237, N251, N252, N253, N254, N301, N302, N303, N304, X10F.f0 N1.1, X10F.f1 N1.1, X10F.f2 N1.1, X10F.f3 N1.1, X10F.f4 N1.1, X10F.f5 N1.1, X10F.f6 N1.1, X10F.f7 N1.1, X10F.f8 N1.1, X10F.f9 N1.1, X10F.f10 N1.1]
          refine Ec_bindE (c_ready (c := 1010 + 10 * n) (cl := 999) C1.1.2.2.2.1) (fun μ3 ⟨f3, F3, e3, l3, s3, t3⟩ => ?_)
          have X3 : X10F μ3 := by unfold X10F; rw [f3 100 (by unfold wR; omega)]; exact N1.1
          simp (disch := omega) only [w32_eq, w64_eq, chk_T, chk_t, lt, lm, ob, Int.add_zero, Int.zero_add, true_and, and_true, if_true, if_false, K100, K101, K102, K103, K104, K200, K201, K230, K231, K232, K233, K234, K235, K236, K237, K250, K251, K252, K253, K254, K300, K301, K302, K303, K304, N101, N102, N103, N104, N201, N232, N233, N234, N235, N236, N237, N251, N252, N253, N254, N301, N302, N303, N304, X10F.f0 X3, X10F.f1 X3, X10F.f2 X3, X10F.f3 X3, X10F.f4 X3, X10F.f5 X3, X10F.f6 X3, X10F.f7 X3, X10F.f8 X3, X10F.f9 X3, X10F.f10 X3]
          refine Ec_bindE (c_shutSeen F3 (L.fw f3 (fun x a b => by unfold wR; omega)) (by omega)) (fun μ4 ⟨f4, s4⟩ => ?_)
          have f14 : Fw wR μ1 μ4 := f3.tr (f4.mo (fun x hx => by unfold wR; omega))
          have X4 : X10F μ4 := by unfold X10F; rw [f4 100 (by omega)]; exact X3
          rw [X4.f10]
          refine Ec_bindE (c_wipe (a := 104) (by omega)) (fun μ5 ⟨f5, s5⟩ => ?_)
          have X5 : X10F μ5 := by unfold X10F; rw [f5 100 (by omega)]; exact X4
          simp (disch := omega) only [w32_eq, w64_eq, chk_T, chk_t, lt, lm, ob, Int.add_zero, Int.zero_add, true_and, and_true, if_true, if_false, K100, K101, K102, K103, K104, K200, K201, K230, K231, K232, K233, K234, K235, K236, K237, K250, K251, K252, K253, K254, K300, K301, K302, K303, K304, N101, N102, N103, N104, N201, N232, N233, N234, N235, N236, N237, N251, N252, N253, N254, N301, N302, N303, N304, X10F.f0 X5, X10F.f1 X5, X10F.f2 X5, X10F.f3 X5, X10F.f4 X5, X10F.f5 X5, X10F.f6 X5, X10F.f7 X5, X10F.f8 X5, X10F.f9 X5, X10F.f10 X5, mst_n]
          have f6 : Fw (fun x => wR x ∨ x = 104) μ1 (mst μ5 104 y 1) := ((f14.mo (fun x hx => .inl hx)).tr (f5.mo (fun x hx => .inr hx))).st (.inr rfl)
          have A6 : La (mst μ5 104 y 1) (1010 + 10 * n) (lg b n) := hA.fw f6 (fun x a b => by unfold wR; omega)
          have r300 : mst μ5 104 y 1 300 = μ3 300 := by rw [mst_n (by omega), f5 300 (by omega), f4 300 (by omega)]
          have r302 : mst μ5 104 y 1 302 = μ3 302 := by rw [mst_n (by omega), f5 302 (by omega), f4 302 (by omega)]
          have r301 : mst μ5 104 y 1 301 = μ4 301 := by rw [mst_n (by omega), f5 301 (by omega)]
          have W6 : Ws (mst μ5 104 y 1) (1010 + 10 * n) 999 (lg b n) (shS (lg b n) p) := ⟨by unfold WkF; rw [r300]; exact F3, by rw [r300]; exact e3, A6, by omega, by rw [r301]; exact s4⟩
          refine Ec_bindE (c_begin (S := fun q => q = x ∧ ¬shS (lg b n) p x) (D := fun _ => False) W6 hD (by rw [r300, l3, r302]; exact ⟨Bf_start t3, fun i a b => by omega, fun q w => w.elim⟩) hx (fun w => ⟨rfl, w⟩)) (fun μ7 ⟨f7, W7, Q7⟩ => ?_)
          have X7 : X10F μ7 := by unfold X10F; rw [f7 100 (by unfold wQ; omega), mst_n (by omega)]; exact X5
          simp (disch := omega) only [w32_eq, w64_eq, chk_T, chk_t, lt, lm, ob, Int.add_zero, Int.zero_add, true_and, and_true, if_true, if_false, K100, K101, K102, K103, K104, K200, K201, K230, K231, K232, K233, K234, K235, K236, K237, K250, K251, K252, K253, K254, K300, K301, K302, K303, K304, N101, N102, N103, N104, N201, N232, N233, N234, N235, N236, N237, N251, N252, N253, N254, N301, N302, N303, N304, X10F.f0 X7, X10F.f1 X7, X10F.f2 X7, X10F.f3 X7, X10F.f4 X7, X10F.f5 X7, X10F.f6 X7, X10F.f7 X7, X10F.f8 X7, X10F.f9 X7, X10F.f10 X7]
          refine Ec_bindE (c_walkTo (T := fun q => q = y) W7 hD (fun q w => by rw [w.1]; exact hx) (Wq_v (Q7 _ (fun q w => .inr w))) (fun q a c => ?_)) ?_
          · rw [f7 104 (by unfold wQ; omega)]
            by_cases e : q = y
            · rw [e, mst_s, bi_t rfl]
            · rw [mst_j e, s5 q a c, bi_f e]
          · rintro ⟨r, μ8⟩ ⟨f8, F8, d8⟩
            dsimp only at f8 F8 d8 ⊢
            have f18 : Fw (fun x => wR x ∨ x = 104) μ1 μ8 := (f6.tr (f7.mo (fun x hx => .inl (wQR hx)))).tr (f8.mo (fun x hx => .inl hx))
            have C6 : Ca (mst μ5 104 y 1) b vb := Ca.mk (Ca.wk C1 f14 (by unfold WkF; rw [f4 300 (by omega)]; exact F3)) ((f5.mo (fun x hx => by unfold mR; omega)).st (by unfold mR; omega))
            have C8 : Ca μ8 b vb := Ca.wk C6 ((f7.mo (fun x hx => wQR hx)).tr f8) F8
            refine Ec_some ⟨?_, fq.tr (f18.mo (fun x hx => by rcases hx with hx | hx; exact Rq_wk hx; unfold Rq; omega)), C8, .inl ⟨⟨⟨hn, hx⟩, ⟨hn, hy⟩, hP⟩, d8⟩⟩
            dsimp only
            rw [hb]
            exact (Bd_e (f18 101 (by unfold wR; omega)) (f18 102 (by unfold wR; omega)) (f18 10002 (by unfold wR; omega)) (f18 12002 (by unfold wR; omega))).symm
        · rw [sel_f hy]; exact no (fun u => hy u.2.1.2)
      · rw [sel_f hx]; exact no (fun u => hx u.1.2)
    · rw [hr, sel_f (fun z => hp z.2), if_pos rfl]; exact no (fun u => hp u.2.2.2)
  · rw [sel_f hn, if_pos rfl]; exact no (fun u => hn u.1.1)
end
