/-! ===== lacks: the call ===== -/
section
variable {μ μ' : Mm} {b : Int → Int} {vb l p c h n k kk m : Int} {g sk : Int → Int}
theorem LsA_q {r : Int} (hp : Pl g p) (hL : LsA g sk p (fun st => fO g sk p st (-1)) r) : (r = -1 ∧ ¬ftp g sk (-1) p) ∨ (0 ≤ r ∧ ftp g sk (-1) p) := by
  have f : FtA g sk p (-1) r := hL
  have q := FtA_p hp f
  rcases f with ⟨_, ⟨a, _⟩ | ⟨a, _⟩⟩ | ⟨_, a⟩
  · exact .inr ⟨a, q.mp a⟩
  · exact .inl ⟨a, fun w => by have := q.mpr w; omega⟩
  · exact .inl ⟨a, fun w => by have := q.mpr w; omega⟩
theorem Spn_gc {yr : Int} (hc : 0 ≤ c ∧ c < 144) (hP : Spn μ g sk yr m (g 5)) : Spn μ (gc g c h) sk yr m (gc g c h 5) := by
  obtain ⟨a, d, e, f, i, j⟩ := hP
  rw [gc_n (by omega)]
  refine ⟨a, d, e, f, i, fun x y k k0 k1 => ?_⟩
  rw [gc_n (by omega), gc_n (by omega), gc_n (by omega)]
  exact j x y k k0 k1
/-- what leastFitting touches -/
def lkR (l x : Int) : Prop := x = l + 1 ∨ tR x ∨ f5R x
def LkS (μ0 μ : Mm) (l kk m : Int) (g sk : Int → Int) (p c h : Int) : Prop := Fw (lkR l) μ0 μ ∧ (∀ i, i ≠ c → μ (l + 1) i = μ0 (l + 1) i) ∧ (SiF μ ∧ Si μ g p) ∧ Ft μ l kk 240 (gc g c h) sk p ∧ Spn μ g sk (-1) m (g 5) ∧ μ 250 5 = 0 ∧ μ 250 6 = m - 1
theorem LkS_ls {μ0 : Mm} (hL : LdOk g) (hp : Pl g p) (hc : 0 ≤ c ∧ c < 144) (S : LkS μ0 μ l kk m g sk p c h) : Ev (fX1_leastStart 250 μ) (fun r => LkS μ0 r.2 l kk m g sk p c h ∧ ((r.1 = -1 ∧ ¬ftp (gc g c h) sk (-1) p) ∨ (0 ≤ r.1 ∧ ftp (gc g c h) sk (-1) p))) := by
  obtain ⟨f, o, ⟨SF, Sg1⟩, F, P, h5, h6⟩ := S
  have R := c_rch F (by omega) (Spn_gc (h := h) hc P) h5 h6
  refine Ev_mono (c_leastStart F R) ?_
  rintro ⟨r, μ1⟩ ⟨f1, la⟩
  dsimp only at f1 la ⊢
  have r250 : μ1 250 = μ 250 := f1 250 (by unfold sp2; omega)
  have d1 := F.2.2.2.2.2.1
  have r : l + 1 ≠ 252 := by unfold far5 at d1; omega
  refine ⟨⟨f.tr (f1.mo (fun x hx => .inr (.inr (by unfold sp2 at hx; unfold f5R; omega)))), fun i hi => ?_, ⟨SF.fw f1 (fun x a b => by unfold sp2; omega), ?_⟩, F.fw f1 (fun x hx => by unfold sp2 at hx; omega), P.e (fun i _ _ _ => by rw [r250]) (f1 251 (by unfold sp2; omega)), by rw [r250]; exact h5, by rw [r250]; exact h6⟩, LsA_q ((gc_Pl hc.1).mpr hp) la⟩
  · rw [f1 (l + 1) (by unfold sp2; exact r)]; exact o i hi
  · unfold Si SiP SiB at Sg1 ⊢
    rw [f1 230 (by unfold sp2; omega), f1 234 (by unfold sp2; omega), f1 235 (by unfold sp2; omega), f1 236 (by unfold sp2; omega), f1 237 (by unfold sp2; omega)]; exact Sg1
theorem c_leastFitting (hW : Nw μ b) (hC : Ca μ b vb) (hn : isL b n) (hz : Fz μ b vb n kk sk (-1) m 0 (m - 1)) (hk : 1040 ≤ kk ∧ kk < 1090) (hp : Pl (lg b n) p) (hc : Pl (lg b n) c) (hpc : p ≠ c) : Ev (fX10_leastFitting 100 (1010 + 10 * n) p c μ) (fun r => (Fw (lkR (1010 + 10 * n)) μ r.2 ∧ (∀ i, i ≠ c → r.2 (1010 + 10 * n + 1) i = μ (1010 + 10 * n + 1) i) ∧ SiF r.2 ∧ LiF r.2 240 ∧ FtF r.2) ∧ Fi (fun h => ftp (gc (lg b n) c h) sk (-1) p) 1000 r.1) := by
  have n0 := hW.n0; have hn1 := hn.1; have hn2 := hn.2
  have hD := hW.ld hn1 hn2; have hA := hW.la hn1 hn2
  have bc := Pl.i hD hc; have bp := Pl.i hD hp
  have hO := hz.2.2.2.2.1.2.1
  have fin : ∀ (μ2 : Mm) (h : Int), LkS μ μ2 (1010 + 10 * n) kk m (lg b n) sk p c h → Fw (lkR (1010 + 10 * n)) μ μ2 ∧ (∀ i, i ≠ c → μ2 (1010 + 10 * n + 1) i = μ (1010 + 10 * n + 1) i) ∧ SiF μ2 ∧ LiF μ2 240 ∧ FtF μ2 := fun μ2 h S => ⟨S.1, S.2.1, S.2.2.1.1, S.2.2.2.1.2.2.2.1.2.1, S.2.2.2.1.1.1⟩
  have A1 := La_gc (h := 0) hA bc
  have hD' := gc_ok (h := 0) hD bc (by omega)
  have hp' : Pl (gc (lg b n) c 0) p := (gc_Pl bc.1).mpr hp
  have F1 : SiF (mst μ (1010 + 10 * n + 1) c 0) := hC.1.1.st (by omega)
  have X1 : X10F (mst μ (1010 + 10 * n + 1) c 0) := by unfold X10F; rw [mst_n (by omega)]; exact hW.1
  have L1 : LiF (mst μ (1010 + 10 * n + 1) c 0) 240 := hC.1.2.1.st (.inl (by omega))
  unfold fX10_leastFitting
  simp (disch := omega) only [w32_eq, w64_eq, chk_T, chk_t, lt, lm, ob, Int.add_zero, Int.zero_add, true_and, and_true, if_true, if_false, K100, K101, K102, K103, K104, K200, K201, K230, K231, K232, K233, K234, K235, K236, K237, K250, K251, K252, K253, K254, K300, K301, K302, K303, K304, N101, N102, N103, N104, N201, N232, N233, N234, N235, N236, N237, N251, N252, N253, N254, N301, N302, N303, N304, La_k hA, La_k1 hA, La_n1 hA, La_k2 hA, La_n2 hA, La_k3 hA, La_n3 hA, La_k4 hA, La_n4 hA, La_k5 hA, La_n5 hA, La_f6 hA, La_f7 hA, La_f8 hA, La_f9 hA, La_f10 hA, La_0 hA, La_1 hA, La_2 hA, La_3 hA, La_4 hA, La_5 hA, La_h hA, La_a hA, La_t hA, La_fr hA, La_to hA, c_has hA hD, bi_if]
  rw [sel_t hc]
  simp (disch := omega) only [w32_eq, w64_eq, chk_T, chk_t, lt, lm, ob, Int.add_zero, Int.zero_add, true_and, and_true, if_true, if_false, K100, K101, K102, K103, K104, K200, K201, K230, K231, K232, K233, K234, K235, K236, K237, K250, K251, K252, K253, K254, K300, K301, K302, K303, K304, N101, N102, N103, N104, N201, N232, N233, N234, N235, N236, N237, N251, N252, N253, N254, N301, N302, N303, N304, La_k hA, La_k1 hA, La_n1 hA, La_k2 hA, La_n2 hA, La_k3 hA, La_n3 hA, La_k4 hA, La_n4 hA, La_k5 hA, La_n5 hA, La_f6 hA, La_f7 hA, La_f8 hA, La_f9 hA, La_f10 hA, La_0 hA, La_1 hA, La_2 hA, La_3 hA, La_4 hA, La_5 hA, La_h hA, La_a hA, La_t hA, La_fr hA, La_to hA, X10F.f0 X1, X10F.f1 X1, X10F.f2 X1, X10F.f3 X1, X10F.f4 X1, X10F.f5 X1, X10F.f6 X1, X10F.f7 X1, X10F.f8 X1, X10F.f9 X1, X10F.f10 X1]
  refine Ev_bind (c_aim A1 (by omega) F1 hD' hp') (fun μ2 ⟨f2, F2, S2⟩ => ?_)
  have A2 : La μ2 (1010 + 10 * n) (gc (lg b n) c 0) := A1.fw f2 (fun x a b => by unfold sR0; omega)
  have X2 : X10F μ2 := by unfold X10F; rw [f2 100 (by unfold sR0; omega)]; exact X1
  have L2 : LiF μ2 240 := L1.fw f2 (by unfold sR0; omega)
  simp (disch := omega) only [w32_eq, w64_eq, chk_T, chk_t, lt, lm, ob, Int.add_zero, Int.zero_add, true_and, and_true, if_true, if_false, K100, K101, K102, K103, K104, K200, K201, K230, K231, K232, K233, K234, K235, K236, K237, K250, K251, K252, K253, K254, K300, K301, K302, K303, K304, N101, N102, N103, N104, N201, N232, N233, N234, N235, N236, N237, N251, N252, N253, N254, N301, N302, N303, N304, X10F.f0 X2, X10F.f1 X2, X10F.f2 X2, X10F.f3 X2, X10F.f4 X2, X10F.f5 X2, X10F.f6 X2, X10F.f7 X2, X10F.f8 X2, X10F.f9 X2, X10F.f10 X2]
  refine Ev_bind (c_look A2 LiK_240 L2 F2 S2 hD' hp' (by omega) (by omega)) (fun μ3 ⟨f3, _, L3⟩ => ?_)
  have X3 : X10F μ3 := by unfold X10F; rw [f3 100 (by omega)]; exact X2
  simp (disch := omega) only [w32_eq, w64_eq, chk_T, chk_t, lt, lm, ob, Int.add_zero, Int.zero_add, true_and, and_true, if_true, if_false, K100, K101, K102, K103, K104, K200, K201, K230, K231, K232, K233, K234, K235, K236, K237, K250, K251, K252, K253, K254, K300, K301, K302, K303, K304, N101, N102, N103, N104, N201, N232, N233, N234, N235, N236, N237, N251, N252, N253, N254, N301, N302, N303, N304, X10F.f0 X3, X10F.f1 X3, X10F.f2 X3, X10F.f3 X3, X10F.f4 X3, X10F.f5 X3, X10F.f6 X3, X10F.f7 X3, X10F.f8 X3, X10F.f9 X3, X10F.f10 X3]
  have X4 : X10F (mst μ3 250 2 240) := by unfold X10F; rw [mst_n (by omega)]; exact X3
  simp (disch := omega) only [w32_eq, w64_eq, chk_T, chk_t, lt, lm, ob, Int.add_zero, Int.zero_add, true_and, and_true, if_true, if_false, K100, K101, K102, K103, K104, K200, K201, K230, K231, K232, K233, K234, K235, K236, K237, K250, K251, K252, K253, K254, K300, K301, K302, K303, K304, N101, N102, N103, N104, N201, N232, N233, N234, N235, N236, N237, N251, N252, N253, N254, N301, N302, N303, N304, X10F.f0 X4, X10F.f1 X4, X10F.f2 X4, X10F.f3 X4, X10F.f4 X4, X10F.f5 X4, X10F.f6 X4, X10F.f7 X4, X10F.f8 X4, X10F.f9 X4, X10F.f10 X4]
  -- the fitter faces the trial line
  have f04 : Fw (lkR (1010 + 10 * n)) μ (mst μ3 250 2 240) := by
    have a : Fw (lkR (1010 + 10 * n)) μ (mst μ (1010 + 10 * n + 1) c 0) := Fw.s0 (.inl rfl)
    exact ((a.tr (f2.mo (fun x hx => .inr (.inl (.inl hx))))).tr (f3.mo (fun x hx => .inr (.inl (.inr (by omega)))))).st (.inr (.inr (by unfold f5R; omega)))
  have f3r : Fw (fun x => x = 1010 + 10 * n + 1 ∨ tR x) μ μ3 := by
    have a : Fw (fun x => x = 1010 + 10 * n + 1 ∨ tR x) μ (mst μ (1010 + 10 * n + 1) c 0) := Fw.s0 (.inl rfl)
    exact (a.tr (f2.mo (fun x hx => .inr (.inl hx)))).tr (f3.mo (fun x hx => .inr (.inr (by omega))))
  have r250 : μ3 250 = μ 250 := f3r 250 (by unfold tR sR0; omega)
  have r251 : μ3 251 = μ 251 := f3r 251 (by unfold tR sR0; omega)
  have A4 : La (mst μ3 250 2 240) (1010 + 10 * n) (gc (lg b n) c 0) := (A2.fw f3 (fun x a b => by omega)).fw (R := fun x => x = 250) (Fw.s0 rfl) (fun x a b => by omega)
  have S0 : LkS μ (mst μ3 250 2 240) (1010 + 10 * n) kk m (lg b n) sk p c 0 := by
    refine ⟨f04, fun i hi => ?_, ⟨?_, ?_⟩, ⟨⟨?_, ?_, ?_, mst_s⟩, A4, ?_, ?_, ⟨hD', hO, hp'⟩, ?_, ?_, ?_⟩, ?_, ?_, ?_⟩
    · rw [mst_n (by omega), f3 _ (by omega), f2 _ (by unfold sR0; omega), mst_j hi]
    · exact (F2.fw f3 (fun x a b => by omega)).st (by omega)
    · have S3 := Sg_Si (Sg_y (Sg_gc (g := lg b n) (h := 0) bc)) S2
      unfold Si SiP SiB at S3 ⊢
      rw [mst_n (by omega), mst_n (by omega), mst_n (by omega), mst_n (by omega), mst_n (by omega), f3 230 (by omega), f3 234 (by omega), f3 235 (by omega), f3 236 (by omega), f3 237 (by omega)]; exact S3
    · unfold FtF; rw [mst_j (by omega), mst_j (by omega), mst_j (by omega), mst_j (by omega), r250]; exact hC.1.2.2.1
    · rw [mst_j (by omega), r250]; exact hz.2.2.2.1.1
    · rw [mst_j (by omega), r250]; exact hz.2.2.2.1.2
    · exact (hz.2.2.2.2.1.1.fw f3r (fun x a b => by unfold tR sR0; omega)).fw (R := fun x => x = 250) (Fw.s0 rfl) (fun x a b => by omega)
    · exact L3.fw (R := fun x => x = 250) (Fw.s0 rfl) (fun x a b => by omega)
    · unfold far5; omega
    · unfold far5; omega
    · unfold far5; omega
    · exact hz.2.2.2.2.2.1.e (fun i i2 _ _ => by rw [mst_j i2, r250]) (by rw [mst_n (by omega), r251])
    · rw [mst_j (by omega), r250]; exact hz.2.2.2.2.2.2.1
    · rw [mst_j (by omega), r250]; exact hz.2.2.2.2.2.2.2
  refine Ev_bind (LkS_ls hD hp bc S0) ?_
  rintro ⟨r, μ5⟩ ⟨S5, hr⟩
  dsimp only at S5 hr ⊢
  have X5 : ∀ (μ6 : Mm) (h : Int), LkS μ μ6 (1010 + 10 * n) kk m (lg b n) sk p c h → X10F μ6 := fun μ6 h S => by unfold X10F; rw [S.1 100 (by unfold lkR tR sR0 f5R; omega)]; exact hW.1
  rcases hr with ⟨e, nf⟩ | ⟨e, yf⟩
  · rw [if_pos e]
    have x5 := X5 _ _ S5
    simp (disch := omega) only [w32_eq, w64_eq, chk_T, chk_t, lt, lm, ob, Int.add_zero, Int.zero_add, true_and, and_true, if_true, if_false, K100, K101, K102, K103, K104, K200, K201, K230, K231, K232, K233, K234, K235, K236, K237, K250, K251, K252, K253, K254, K300, K301, K302, K303, K304, N101, N102, N103, N104, N201, N232, N233, N234, N235, N236, N237, N251, N252, N253, N254, N301, N302, N303, N304, X10F.f0 x5, X10F.f1 x5, X10F.f2 x5, X10F.f3 x5, X10F.f4 x5, X10F.f5 x5, X10F.f6 x5, X10F.f7 x5, X10F.f8 x5, X10F.f9 x5, X10F.f10 x5, SiF.f0 S5.2.2.1.1, SiF.f1 S5.2.2.1.1, SiF.f2 S5.2.2.1.1, SiF.f3 S5.2.2.1.1, SiF.f4 S5.2.2.1.1, SiF.g0 S5.2.2.1.1, SiF.g1 S5.2.2.1.1, SiF.e S5.2.2.1.1, SiF.s S5.2.2.1.1]
    have ray := Si_ray S5.2.2.1.2 hD hp hc (fun z => hpc z.symm)
    by_cases hr : iR (lg b n) p (rK (lg b n) p c) (rT (lg b n) p c)
    · rw [ray.1 hr]
      have jb := (ray_c hD hp hc hpc hr).1
      refine Ev_bind (Ev_lop (P := fun x => match x with | .inl μ' => (∃ h, LkS μ μ' (1010 + 10 * n) kk m (lg b n) sk p c h) ∧ ∀ h, 0 ≤ h → h < 1000 → ¬ftp (gc (lg b n) c h) sk (-1) p | .inr (h, μ') => (∃ h, LkS μ μ' (1010 + 10 * n) kk m (lg b n) sk p c h) ∧ (0 ≤ h ∧ h < 1000) ∧ ftp (gc (lg b n) c h) sk (-1) p ∧ ∀ h', 0 ≤ h' → h' < h → ¬ftp (gc (lg b n) c h') sk (-1) p) (fun t => (1 ≤ t.1 ∧ t.1 ≤ 1000) ∧ LkS μ t.2 (1010 + 10 * n) kk m (lg b n) sk p c (t.1 - 1) ∧ ∀ h', 0 ≤ h' → h' < t.1 → ¬ftp (gc (lg b n) c h') sk (-1) p) (fun t => (1000 - t.1).toNat) ⟨(by first | omega | (dsimp only; omega) | (dsimp only)), S5, fun h' a d => ?_⟩ (by unfold FU; dsimp only; omega) ?_) ?_
      · dsimp only at d
        have : h' = 0 := by omega
        rw [this]; exact nf
      · rintro ⟨v5, μ6⟩ ⟨k1, S6, no⟩
        dsimp only at k1 S6 no ⊢
        unfold sX10_leastFitting_76
        dsimp only
        refine Ev_ite (fun y => Ev_out ⟨⟨_, S6⟩, fun h a d => no h a (by omega)⟩) (fun y => ?_)
        rw [if_neg (by omega)]
        have A6 := S6.2.2.2.1.2.1
        have x6 := X5 _ _ S6
        have x7 : X10F (mst μ6 (1010 + 10 * n + 1) c v5) := by unfold X10F; rw [mst_n (by omega)]; exact x6
        simp (disch := omega) only [w32_eq, w64_eq, chk_T, chk_t, lt, lm, ob, Int.add_zero, Int.zero_add, true_and, and_true, if_true, if_false, K100, K101, K102, K103, K104, K200, K201, K230, K231, K232, K233, K234, K235, K236, K237, K250, K251, K252, K253, K254, K300, K301, K302, K303, K304, N101, N102, N103, N104, N201, N232, N233, N234, N235, N236, N237, N251, N252, N253, N254, N301, N302, N303, N304, La_k A6, La_k1 A6, La_n1 A6, La_k2 A6, La_n2 A6, La_k3 A6, La_n3 A6, La_k4 A6, La_n4 A6, La_k5 A6, La_n5 A6, La_f6 A6, La_f7 A6, La_f8 A6, La_f9 A6, La_f10 A6, La_0 A6, La_1 A6, La_2 A6, La_3 A6, La_4 A6, La_5 A6, La_h A6, La_a A6, La_t A6, La_fr A6, La_to A6, X10F.f0 x7, X10F.f1 x7, X10F.f2 x7, X10F.f3 x7, X10F.f4 x7, X10F.f5 x7, X10F.f6 x7, X10F.f7 x7, X10F.f8 x7, X10F.f9 x7, X10F.f10 x7]
        have A7 := La_gc (h := v5) A6 bc
        have hD6 := gc_ok (h := v5 - 1) hD bc (by omega)
        have hp6 : Pl (gc (lg b n) c (v5 - 1)) p := (gc_Pl bc.1).mpr hp
        have hc6 : Pl (gc (lg b n) c (v5 - 1)) c := (gc_Pl bc.1).mpr hc
        have H6 : Sg (lg b n) (gc (lg b n) c (v5 - 1)) := Sg_gc bc
        have fm : Fw (fun x => x = 1010 + 10 * n + 1) μ6 (mst μ6 (1010 + 10 * n + 1) c v5) := Fw.s0 rfl
        have ch := c_changes (s := 240) (h := v5) A7 (S6.2.2.2.1.2.2.2.1.fw fm (fun x a b => by omega)) (S6.2.2.1.1.fw fm (fun x a b => by omega)) (by
          have S3 := Sg_Si H6 S6.2.2.1.2
          unfold Si SiP SiB at S3 ⊢
          rw [mst_n (by omega), mst_n (by omega), mst_n (by omega), mst_n (by omega), mst_n (by omega)]; exact S3) hD6 hp6 hc6 hpc (by omega) (by rw [← Sg_iR H6, ← Sg_rK H6, ← Sg_rT H6]; exact hr) (by omega) (by omega)
        rw [← Sg_ry H6] at ch
        refine Ev_bind ch ?_
        rintro ⟨r8, μ8⟩ ⟨f8, L8, h8⟩
        dsimp only at f8 L8 h8 ⊢
        rw [gc_gc] at L8 h8
        have g250 : μ8 250 = μ6 250 := by rw [f8 250 (by omega), mst_n (by omega)]
        have S8 : LkS μ μ8 (1010 + 10 * n) kk m (lg b n) sk p c v5 := by
          obtain ⟨q1, q2, ⟨q3, q4⟩, ⟨q5, q6, q7, q8, q9, q10⟩, q11, q12, q13⟩ := S6
          have f68 : Fw (fun x => x = 1010 + 10 * n + 1 ∨ 240 ≤ x ∧ x ≤ 246) μ6 μ8 := (fm.mo (fun x hx => .inl hx)).tr (f8.mo (fun x hx => .inr (by omega)))
          rw [gc_gc] at A7
          refine ⟨q1.tr (f68.mo (fun x hx => by rcases hx with hx | hx; exact .inl hx; exact .inr (.inl (.inr hx)))), fun i hi => ?_, ⟨q3.fw f68 (fun x a b => by omega), ?_⟩, ⟨?_, A7.fw f8 (fun x a b => by omega), q7.fw f68 (fun x a b => by omega), L8, ⟨gc_ok hD bc (by omega), q9.2.1, (gc_Pl bc.1).mpr hp⟩, q10⟩, q11.e (fun i _ _ _ => by rw [g250]) (by rw [f8 251 (by omega), mst_n (by omega)]), by rw [g250]; exact q12, by rw [g250]; exact q13⟩
          · rw [f8 _ (by omega), mst_j hi]; exact q2 i hi
          · unfold Si SiP SiB at q4 ⊢
            rw [f68 230 (by omega), f68 234 (by omega), f68 235 (by omega), f68 236 (by omega), f68 237 (by omega)]; exact q4
          · unfold FtF at q5 ⊢; rw [g250]; exact q5
        have nx : ¬ftp (gc (lg b n) c v5) sk (-1) p → ∀ h', 0 ≤ h' → h' < v5 + 1 → ¬ftp (gc (lg b n) c h') sk (-1) p := fun q h' a d => by
          by_cases e : h' = v5
          · rw [e]; exact q
          · exact no h' a (by omega)
        have x8 := X5 _ _ S8
        rcases h8 with e8 | ⟨e8, sm⟩
        · rw [e8, if_neg (by decide)]
          simp (disch := omega) only [w32_eq, w64_eq, chk_T, chk_t, lt, lm, ob, Int.add_zero, Int.zero_add, true_and, and_true, if_true, if_false, K100, K101, K102, K103, K104, K200, K201, K230, K231, K232, K233, K234, K235, K236, K237, K250, K251, K252, K253, K254, K300, K301, K302, K303, K304, N101, N102, N103, N104, N201, N232, N233, N234, N235, N236, N237, N251, N252, N253, N254, N301, N302, N303, N304, X10F.f0 x8, X10F.f1 x8, X10F.f2 x8, X10F.f3 x8, X10F.f4 x8, X10F.f5 x8, X10F.f6 x8, X10F.f7 x8, X10F.f8 x8, X10F.f9 x8, X10F.f10 x8]
          refine Ev_bind (LkS_ls hD hp bc S8) ?_
          rintro ⟨r9, μ9⟩ ⟨S9, h9⟩
          dsimp only at S9 h9 ⊢
          rcases h9 with ⟨e9, n9⟩ | ⟨e9, y9'⟩
          · rw [if_pos e9]
            try simp (disch := omega) only [w32_eq, w64_eq, chk_T, chk_t, lt, lm, ob, Int.add_zero, Int.zero_add, true_and, and_true, if_true, if_false, ]
            refine Ev_in ⟨(by first | omega | (dsimp only; omega) | (dsimp only)), ?_, nx n9⟩ (by first | omega | (dsimp only; omega) | (dsimp only))
            dsimp only; rw [show v5 + 1 - 1 = v5 by omega]; exact S9
          · rw [if_neg (by omega)]
            exact Ev_out ⟨⟨_, S9⟩, by omega, y9', no⟩
        · rw [e8, if_pos rfl]
          try simp (disch := omega) only [w32_eq, w64_eq, chk_T, chk_t, lt, lm, ob, Int.add_zero, Int.zero_add, true_and, and_true, if_true, if_false, ]
          refine Ev_in ⟨(by first | omega | (dsimp only; omega) | (dsimp only)), ?_, nx (fun q => no (v5 - 1) (by omega) (by omega) ((Sm_ft hD6 hp6 sm).mpr q))⟩ (by first | omega | (dsimp only; omega) | (dsimp only))
          dsimp only; rw [show v5 + 1 - 1 = v5 by omega]; exact S8
      · intro x hx
        rcases x with μ6 | ⟨h, μ6⟩
        · dsimp only at hx ⊢
          obtain ⟨⟨h, S6⟩, no⟩ := hx
          exact Ev_some ⟨fin _ _ S6, .inr ⟨rfl, no⟩⟩
        · dsimp only at hx ⊢
          obtain ⟨⟨h', S6⟩, hb, yes, no⟩ := hx
          exact Ev_some ⟨fin _ _ S6, .inl ⟨hb.1, hb.2, yes, no⟩⟩
    · rw [ray.2 hr]
      refine Ev_bind (Ev_lop (P := fun x => match x with | .inl μ' => LkS μ μ' (1010 + 10 * n) kk m (lg b n) sk p c 0 | .inr (h, μ') => False) (fun t => t.1 = 1 ∧ LkS μ t.2 (1010 + 10 * n) kk m (lg b n) sk p c 0) (fun t => 0) ⟨rfl, S5⟩ (by unfold FU; omega) ?_) ?_
      · rintro ⟨v5, μ6⟩ ⟨k1, S6⟩
        dsimp only at k1 S6 ⊢
        unfold sX10_leastFitting_76
        dsimp only
        rw [if_neg (by omega), if_pos rfl]
        exact Ev_out S6
      · intro x hx
        rcases x with μ6 | ⟨h, μ6⟩
        · dsimp only at hx ⊢
          refine Ev_some ⟨fin _ _ hx, .inr ⟨rfl, fun h a d q => nf ?_⟩⟩
          have s1 := Sm_none (h := 0) hD hp hc hpc (by omega) hr
          have s2 := Sm_none (h := h) hD hp hc hpc (by omega) hr
          exact (Sm_ft hD hp s1).mp ((Sm_ft hD hp s2).mpr q)
        · exact absurd hx (fun z => z)
  · rw [if_neg (by omega)]
    exact Ev_some ⟨fin _ _ S5, .inl ⟨by dsimp only; omega, by dsimp only; omega, yf, fun i a d => by dsimp only at d; omega⟩⟩
theorem Ca.lk (hC : Ca μ b vb) (f : Fw (fun x => tR x ∨ f5R x) μ μ') (F : SiF μ') (L : LiF μ' 240) (G : FtF μ') : Ca μ' b vb := by
  refine ⟨⟨F, L, G, ?_, ?_, hC.1.2.2.2.2.2.e (f 101 (by unfold tR sR0 f5R; omega)) (fun x a b => by rw [f 0 (by unfold tR sR0 f5R; omega)])⟩, fun n h0 h1 => (hC.2 n h0 h1).fw f (by rw [f 102 (by unfold tR sR0 f5R; omega)]) (fun x a b => by unfold tR sR0 f5R; omega) (fun x a b => by rw [f 0 (by unfold tR sR0 f5R; omega)])⟩
  · unfold WkF; rw [f 300 (by unfold tR sR0 f5R; omega)]; exact hC.1.2.2.2.1
  · unfold SkF; rw [f 290 (by unfold tR sR0 f5R; omega)]; exact hC.1.2.2.2.2.1
def ZLacks (b : Int → Int) (n k p c r : Int) : Prop := (((isL b n ∧ isS b k) ∧ Pl (lg b n) p ∧ Pl (lg b n) c ∧ p ≠ c) ∧ Fi (fun h => ftp (gc (lg b n) c h) (ls b k) (-1) p) 1000 r) ∨ (¬((isL b n ∧ isS b k) ∧ Pl (lg b n) p ∧ Pl (lg b n) c ∧ p ≠ c) ∧ r = -1)
theorem ZLacks_u {r t : Int} (h : ZLacks b n k p c r) (h2 : ZLacks b n k p c t) : r = t := by
  rcases h with ⟨a, d⟩ | ⟨a, d⟩ <;> rcases h2 with ⟨a2, d2⟩ | ⟨a2, d2⟩
  · exact Fi_u d d2
  · exact absurd a a2
  · exact absurd a2 a
  · omega
theorem q_lacks (hW : Nw μ b) (hC : Ca μ b vb) (n k p c : Int) : Ev (fX10_lacks 100 n k p c μ) (fun r => QP μ b vb (ZLacks b n k p c) r (Bd μ)) := by
  have n0 := hW.n0; have n1 := hW.n1
  unfold fX10_lacks
  simp (disch := omega) only [w32_eq, w64_eq, chk_T, chk_t, lt, lm, ob, Int.add_zero, Int.zero_add, true_and, and_true, if_true, if_false, K100, K101, K102, K103, K104, K200, K201, K230, K231, K232, K233, K234, K235, K236, K237, K250, K251, K252, K253, K254, K300, K301, K302, K303, K304, N101, N102, N103, N104, N201, N232, N233, N234, N235, N236, N237, N251, N252, N253, N254, N301, N302, N303, N304, c_landAt hW]
  have no : ¬((isL b n ∧ isS b k) ∧ Pl (lg b n) p ∧ Pl (lg b n) c ∧ p ≠ c) → Ev (some ((-1 : Int), μ)) (fun r => QP μ b vb (ZLacks b n k p c) r (Bd μ)) := fun h => Ev_some ⟨rfl, Fw.rf, hC, .inr ⟨h, rfl⟩⟩
  by_cases hn : isL b n
  · have hn1 := hn.1; have hn2 := hn.2
    have hD := hW.ld hn1 hn2; have hA := hW.la hn1 hn2
    rw [sel_t hn, if_neg (by omega)]
    simp (disch := omega) only [w32_eq, w64_eq, chk_T, chk_t, lt, lm, ob, Int.add_zero, Int.zero_add, true_and, and_true, if_true, if_false, K100, K101, K102, K103, K104, K200, K201, K230, K231, K232, K233, K234, K235, K236, K237, K250, K251, K252, K253, K254, K300, K301, K302, K303, K304, N101, N102, N103, N104, N201, N232, N233, N234, N235, N236, N237, N251, N252, N253, N254, N301, N302, N303, N304, La_k hA, c_has hA hD, bi_if]
    by_cases hp : Pl (lg b n) p
    · rw [sel_t hp]
      by_cases hc : Pl (lg b n) c
      · have bc := Pl.i hD hc
        rw [sel_t hc]
        refine Ev_ite (fun e => no (fun u => u.2.2.2 e)) (fun e => ?_)
        refine Ev_bind (c_takesUp hW hC n k (-1)) ?_
        rintro ⟨t, μ2⟩ (⟨e1, w, f2, m, hz⟩ | ⟨e1, w, e2⟩)
        · dsimp only at e1 f2 hz ⊢
          subst e1
          rw [if_neg (by decide)]
          have kb : 0 ≤ k ∧ k < 4 := by have := w.1.2.1; have := w.1.2.2; omega
          have A2 := hz.1.la hn1 hn2
          have f2' := aR_f5 f2
          simp (disch := omega) only [w32_eq, w64_eq, chk_T, chk_t, lt, lm, ob, Int.add_zero, Int.zero_add, true_and, and_true, if_true, if_false, K100, K101, K102, K103, K104, K200, K201, K230, K231, K232, K233, K234, K235, K236, K237, K250, K251, K252, K253, K254, K300, K301, K302, K303, K304, N101, N102, N103, N104, N201, N232, N233, N234, N235, N236, N237, N251, N252, N253, N254, N301, N302, N303, N304, La_k A2, La_k1 A2, La_n1 A2, La_k2 A2, La_n2 A2, La_k3 A2, La_n3 A2, La_k4 A2, La_n4 A2, La_k5 A2, La_n5 A2, La_f6 A2, La_f7 A2, La_f8 A2, La_f9 A2, La_f10 A2, La_0 A2, La_1 A2, La_2 A2, La_3 A2, La_4 A2, La_5 A2, La_h A2, La_a A2, La_t A2, La_fr A2, La_to A2]
          refine Ev_bind (c_leastFitting hz.1 hz.2.1 hn hz (by omega) hp hc e) ?_
          rintro ⟨r, μ3⟩ ⟨⟨f3, o3, SF3, L3, F3⟩, fi⟩
          dsimp only at f3 o3 SF3 L3 F3 fi ⊢
          have q6 : μ3 (1010 + 10 * n) 6 = 1010 + 10 * n + 1 := by rw [f3 _ (by unfold lkR tR sR0 f5R; omega)]; exact La_f6 A2
          simp (disch := omega) only [w32_eq, w64_eq, chk_T, chk_t, lt, lm, ob, Int.add_zero, Int.zero_add, true_and, and_true, if_true, if_false, K100, K101, K102, K103, K104, K200, K201, K230, K231, K232, K233, K234, K235, K236, K237, K250, K251, K252, K253, K254, K300, K301, K302, K303, K304, N101, N102, N103, N104, N201, N232, N233, N234, N235, N236, N237, N251, N252, N253, N254, N301, N302, N303, N304, q6, La_k1 A2, La_n1 A2]
          have eh := La_h A2 bc.1 bc.2
          have fr : Fw (fun x => tR x ∨ f5R x) μ2 (mst μ3 (1010 + 10 * n + 1) c (lg b n (6 + c))) := fun x hx => by
            by_cases z : x = 1010 + 10 * n + 1
            · subst z
              funext i
              by_cases e : i = c
              · rw [e, mst_s, eh]
              · rw [mst_j e]; exact o3 i e
            · rw [mst_n z]; exact f3 x (fun q => by rcases q with q | q; exact z q; exact hx q)
          have fa : Fw (fun x => tR x ∨ f5R x) μ (mst μ3 (1010 + 10 * n + 1) c (lg b n (6 + c))) := (f2'.mo (fun x hx => .inr hx)).tr fr
          refine Ev_some ⟨?_, fa.mo (fun x hx => by rcases hx with hx | hx; exact tR_q hx; exact Rq_ft hx), hC.lk fa (SF3.st (by omega)) (L3.st (.inl (by omega))) ?_, .inl ⟨⟨w.1, hp, hc, e⟩, fi⟩⟩
          · exact (Bd_e (fa 101 (by unfold tR sR0 f5R; omega)) (fa 102 (by unfold tR sR0 f5R; omega)) (fa 10002 (by unfold tR sR0 f5R; omega)) (fa 12002 (by unfold tR sR0 f5R; omega))).symm
          · unfold FtF; dsimp only; rw [mst_n (by omega)]; exact F3
        · dsimp only at e1 e2 ⊢
          subst e1 e2
          rw [if_pos rfl]
          exact no (fun u => w ⟨u.1, by omega, by omega⟩)
      · rw [sel_f hc]; exact no (fun u => hc u.2.2.1)
    · rw [sel_f hp]; exact no (fun u => hp u.2.1)
  · rw [sel_f hn, if_pos rfl]; exact no (fun u => hn u.1.1)
end
