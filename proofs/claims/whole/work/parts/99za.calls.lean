/-! ===== each call: the class against the reference ===== -/
def GdR (μ1 μ2 : Mm) : Prop := (∀ x, x < 20000 → μ2 x = μ1 x) ∧ μ2 20002 = μ1 20002 ∧ (Md μ1 → Md μ2) ∧ (Dt μ1 → Dt μ2)
theorem GdR_fr {R L : List Int} {μ1 μ2 : Mm} (f : Fr R L μ1 μ2) (hR : R.all (fun x => decide (x = 20001) || decide (20005 ≤ x)) = true) (hL : L.all (fun j => !([0, 1, 3, 4, 13, 15, 16, 17, 19, 21, 22, 23, 25, 27, 28, 30, 31, 32, 33] : List Int).contains j) = true) (h2 : 2 ∉ L) : GdR μ1 μ2 := by
  have key : ∀ x, x ∈ R → x = 20001 ∨ 20005 ≤ x := fun x hx => by
    have := List.all_eq_true.mp hR x hx
    rw [Bool.or_eq_true, decide_eq_true_eq, decide_eq_true_eq] at this; exact this
  refine ⟨fun x hx => f.1 x (by omega) (fun hm => by have := key x hm; omega), f.1 20002 (by decide) (fun hm => by have := key _ hm; omega), fun hM => f.md hM hL, fun hD => hD.fr f (fun hm => by have := key _ hm; omega) (fun hm => by have := key _ hm; omega) h2⟩
def WdI (vb' : Int) (x : Mm → Option Int) (r : Int × Mm) (b' : Int) : Prop := Ev (x r.2) (fun t => r.1 = t ∧ LI r.2 vb' ∧ b' = Bd r.2)
section
variable {μ : Mm} {vb vb' : Int}
theorem w_q {x : Option ((Int × Mm) × Nat × Nat)} {y : Mm → Option (Int × Mm)} {P : Int → Prop} (h : LI μ vb) (hv : vb ≤ vb') (hx : Ec x (Bd μ) (QP μ (μ 20001) vb P)) (hy : ∀ μ1, Md μ1 → Dt μ1 → μ1 20001 = μ 20001 → Ev (y μ1) (fun r => P r.1 ∧ ∀ z, 0 ≤ z → z < 4960 → r.2 20001 z = μ 20001 z)) (hf : ∀ μ1 t, y μ1 = some t → Md μ1 → GdR μ1 t.2) (hu : ∀ r s, P r → P s → r = s) : Ec x (Bd μ) (fun r b0 => Wd vb' y r b0) := by
  refine Ec_mono hx ?_
  rintro ⟨r, μ1⟩ b0 ⟨hb, f1, C1, p1⟩
  dsimp only at hb f1 C1 p1
  have M1 : Md μ1 := h.md.w (f1 20000 (by unfold Rq; omega))
  have D1 : Dt μ1 := h.dt.w (f1 20000 (by unfold Rq; omega)) (f1 20003 (by unfold Rq; omega)) (f1 20004 (by unfold Rq; omega))
  obtain ⟨⟨r2, μ2⟩, e, p2, k2⟩ := hy μ1 M1 D1 (f1 20001 (by unfold Rq; omega))
  dsimp only at p2 k2
  obtain ⟨g1, g2, g3, g4⟩ := hf μ1 _ e M1
  dsimp only at g1 g2 g3 g4
  refine ⟨(r2, μ2), e, hu _ _ p1 p2, LI_keep h f1 C1 g1 k2 (g2.trans (f1 20002 (by unfold Rq; omega))) (g3 M1) (g4 D1) hv, ?_⟩
  rw [hb]; exact (Bd_go g1).symm
theorem w_e {x : Option (Int × Mm)} {y : Mm → Option (Int × Mm)} {P : Int → Prop} (h : LI μ vb) (hv : vb ≤ vb') (hx : Ev x (fun r => QP μ (μ 20001) vb P r (Bd μ))) (hy : ∀ μ1, Md μ1 → Dt μ1 → μ1 20001 = μ 20001 → Ev (y μ1) (fun r => P r.1 ∧ ∀ z, 0 ≤ z → z < 4960 → r.2 20001 z = μ 20001 z)) (hf : ∀ μ1 t, y μ1 = some t → Md μ1 → GdR μ1 t.2) (hu : ∀ r s, P r → P s → r = s) : Ev x (fun r => Wd vb' y r (Bd μ)) := by
  refine Ev_mono hx ?_
  rintro ⟨r, μ1⟩ ⟨hb, f1, C1, p1⟩
  dsimp only at hb f1 C1 p1
  have M1 : Md μ1 := h.md.w (f1 20000 (by unfold Rq; omega))
  have D1 : Dt μ1 := h.dt.w (f1 20000 (by unfold Rq; omega)) (f1 20003 (by unfold Rq; omega)) (f1 20004 (by unfold Rq; omega))
  obtain ⟨⟨r2, μ2⟩, e, p2, k2⟩ := hy μ1 M1 D1 (f1 20001 (by unfold Rq; omega))
  dsimp only at p2 k2
  obtain ⟨g1, g2, g3, g4⟩ := hf μ1 _ e M1
  dsimp only at g1 g2 g3 g4
  refine ⟨(r2, μ2), e, hu _ _ p1 p2, LI_keep h f1 C1 g1 k2 (g2.trans (f1 20002 (by unfold Rq; omega))) (g3 M1) (g4 D1) hv, ?_⟩
  rw [hb]; exact (Bd_go g1).symm
theorem w_i {x : Option ((Int × Mm) × Nat × Nat)} {y : Mm → Option Int} {P : Int → Prop} (h : LI μ vb) (hv : vb ≤ vb') (hx : Ec x (Bd μ) (QP μ (μ 20001) vb P)) (hy : ∀ μ1, Md μ1 → μ1 20001 = μ 20001 → Ev (y μ1) P) (hu : ∀ r s, P r → P s → r = s) : Ec x (Bd μ) (fun r b0 => WdI vb' y r b0) := by
  refine Ec_mono hx ?_
  rintro ⟨r, μ1⟩ b0 ⟨hb, f1, C1, p1⟩
  dsimp only at hb f1 C1 p1
  have M1 : Md μ1 := h.md.w (f1 20000 (by unfold Rq; omega))
  have D1 : Dt μ1 := h.dt.w (f1 20000 (by unfold Rq; omega)) (f1 20003 (by unfold Rq; omega)) (f1 20004 (by unfold Rq; omega))
  have e1 : μ1 20001 = μ 20001 := f1 20001 (by unfold Rq; omega)
  obtain ⟨r2, e, p2⟩ := hy μ1 M1 e1
  exact ⟨r2, e, hu _ _ p1 p2, LI_keep h f1 C1 (fun _ _ => rfl) (fun _ _ _ => by dsimp only; rw [e1]) (f1 20002 (by unfold Rq; omega)) M1 D1 hv, hb⟩
theorem w_D {x : Option ((Int × Mm) × Nat × Nat)} {y : Mm → Option (Int × Mm)} {ok : Prop} {a : Int} {s : Int → Int} (h : LI μ vb) (hv : vb ≤ vb') (hx : Ec x (Bd μ) (DP μ (μ 20001) vb ok a s)) (hy : ∀ μ1, Md μ1 → Dt μ1 → μ1 20001 = μ 20001 → Ev (y μ1) (DQ μ1 (μ 20001) ok a s)) (hf : ∀ μ1 t, y μ1 = some t → Md μ1 → GdR μ1 t.2) : Ec x (Bd μ) (fun r b0 => Wd vb' y r b0) := by
  refine Ec_mono hx ?_
  rintro ⟨r, μ1⟩ b0 ⟨hb, f1, hc⟩
  dsimp only at hb f1 hc
  have v0 := h.v0
  have M1 : Md μ1 := h.md.w (f1 20000 (by unfold Rq nR0; omega))
  have D1 : Dt μ1 := h.dt.w (f1 20000 (by unfold Rq nR0; omega)) (f1 20003 (by unfold Rq nR0; omega)) (f1 20004 (by unfold Rq nR0; omega))
  have e1 : μ1 20001 = μ 20001 := f1 20001 (by unfold Rq nR0; omega)
  obtain ⟨⟨r2, μ2⟩, e, hq⟩ := hy μ1 M1 D1 e1
  obtain ⟨g1, g2, g3, g4⟩ := hf μ1 _ e M1
  dsimp only at g1 g2 g3 g4
  have bb : b0 = Bd μ2 := by rw [hb]; exact (Bd_go g1).symm
  have e2 : μ2 20002 = μ 20002 := g2.trans (f1 20002 (by unfold Rq nR0; omega))
  refine ⟨(r2, μ2), e, ?_⟩
  rcases hc with ⟨c1, c2, c3, c4⟩ | ⟨c1, c2, c3⟩ <;> rcases hq with ⟨d1, d2, d3⟩ | ⟨d1, d2, d3, d4⟩
  · exact ⟨c2.trans d2.symm, LI_keep h c3 c4 g1 (fun z _ _ => by dsimp only at d3 ⊢; rw [d3, e1]) e2 (g3 M1) (g4 D1) hv, bb⟩
  · exact absurd d1 c1
  · exact absurd c1 d1
  · dsimp only at c2 d2 d3 d4
    rw [d2, ← c2] at d3
    obtain ⟨N1, C1⟩ := c3 _ d3
    exact ⟨c2.trans d2.symm, LI_go h (f1.mo (fun x hx => by unfold Rq nR0 at hx; omega)) (h.2.2.2.1.fw f1 (fun x a b => by unfold Rq nR0; omega)) N1 (Ca_v hv C1) g1 (fun x x0 x1 => d4 x x0) e2 (g3 M1) (g4 D1) (by omega), bb⟩
theorem ZMost_u {b : Int → Int} {n r s : Int} (h : ZMost b n r) (k : ZMost b n s) : r = s := by
  rcases h with ⟨a, c⟩ | ⟨a, c⟩ <;> rcases k with ⟨d, e⟩ | ⟨d, e⟩
  · exact Mx_u c e
  · exact absurd a d
  · exact absurd d a
  · rw [c, e]
theorem ZFits_u {b : Int → Int} {n k p yr r s : Int} (h : ZFits b n k p yr r) (k' : ZFits b n k p yr s) : r = s := by
  rcases h with ⟨a, c⟩ | ⟨a, c⟩ <;> rcases k' with ⟨d, e⟩ | ⟨d, e⟩
  · exact FtA_u c e
  · exact absurd a d
  · exact absurd d a
  · rw [c, e]
theorem ZSince_u {b : Int → Int} {n k u r s : Int} (h : ZSince b n k u r) (k' : ZSince b n k u s) : r = s := by
  rcases h with ⟨a, c⟩ | ⟨a, c⟩ <;> rcases k' with ⟨d, e⟩ | ⟨d, e⟩
  · exact ZS_u c e
  · exact absurd a d
  · exact absurd d a
  · rw [c, e]
theorem ZKnown_u {b : Int → Int} {n p r s : Int} (h : ZKnown b n p r) (k' : ZKnown b n p s) : r = s := by
  rcases h with ⟨a, c⟩ | ⟨a, c⟩ <;> rcases k' with ⟨d, e⟩ | ⟨d, e⟩
  · exact KnS_u c e
  · exact absurd a d
  · exact absurd d a
  · rw [c, e]
theorem w_ray (h : LI μ vb) (hv : vb ≤ vb') (n p k : Int) : Ec (fX10_ray 100 n p k μ) (Bd μ) (fun r b0 => Wd vb' (fX11_ray 20000 n p k) r b0) := by
  refine w_q (P := fun r => r = zzRay (μ 20001) n p k) h hv (q_ray h.nw h.ca h.v0 n p k) (fun μ1 M1 D1 e1 => ?_) (fun μ1 t e M1 => GdR_fr (frfX11_ray e M1) (by decide) (by decide) (by decide)) (fun r s hr hs => hr.trans hs.symm)
  obtain ⟨t, e, hp⟩ := rr_ray M1 D1 e1 h.ok n p k
  exact ⟨t, e, hp, fun z _ _ => by rw [(frfX11_ray e M1).1 20001 (by decide) (by decide), e1]⟩
theorem w_hump (h : LI μ vb) (hv : vb ≤ vb') (n p k : Int) : Ec (fX10_hump 100 n p k μ) (Bd μ) (fun r b0 => Wd vb' (fX11_hump 20000 n p k) r b0) := by
  refine w_q (P := fun r => r = zzHump (μ 20001) n p k) h hv (q_hump h.nw h.ca h.v0 n p k) (fun μ1 M1 D1 e1 => ?_) (fun μ1 t e M1 => GdR_fr (frfX11_hump e M1) (by decide) (by decide) (by decide)) (fun r s hr hs => hr.trans hs.symm)
  obtain ⟨t, e, hp⟩ := rr_hump M1 D1 e1 h.ok n p k
  exact ⟨t, e, hp, fun z _ _ => by rw [(frfX11_hump e M1).1 20001 (by decide) (by decide), e1]⟩
theorem w_steeper (h : LI μ vb) (hv : vb ≤ vb') (n p i k : Int) : Ec (fX10_steeper 100 n p i k μ) (Bd μ) (fun r b0 => Wd vb' (fX11_steeper 20000 n p i k) r b0) := by
  refine w_q (P := fun r => r = zzSteeper (μ 20001) n p i k) h hv (q_steeper h.nw h.ca h.v0 n p i k) (fun μ1 M1 D1 e1 => ?_) (fun μ1 t e M1 => GdR_fr (frfX11_steeper e M1) (by decide) (by decide) (by decide)) (fun r s hr hs => hr.trans hs.symm)
  obtain ⟨t, e, hp⟩ := rr_steeper M1 D1 e1 h.ok n p i k
  exact ⟨t, e, hp, fun z _ _ => by rw [(frfX11_steeper e M1).1 20001 (by decide) (by decide), e1]⟩
theorem w_first (h : LI μ vb) (hv : vb ≤ vb') (n k p st yr : Int) : Ec (fX10_first 100 n k p st yr μ) (Bd μ) (fun r b0 => Wd vb' (fX11_first 20000 n k p st yr) r b0) := by
  refine w_q (P := fun r => r = zzFirst (μ 20001) n k p st yr) h hv (q_first h.nw h.ca h.v0 n k p st yr) (fun μ1 M1 D1 e1 => ?_) (fun μ1 t e M1 => GdR_fr (frfX11_first e M1) (by decide) (by decide) (by decide)) (fun r s hr hs => hr.trans hs.symm)
  obtain ⟨t, e, hp⟩ := rr_first M1 D1 e1 h.ok n k p st yr
  exact ⟨t, e, hp, fun z _ _ => by rw [(frfX11_first e M1).1 20001 (by decide) (by decide), e1]⟩
theorem w_fits (h : LI μ vb) (hv : vb ≤ vb') (n k p yr : Int) : Ec (fX10_fits 100 n k p yr μ) (Bd μ) (fun r b0 => Wd vb' (fX11_fits 20000 n k p yr) r b0) := by
  refine w_q (P := ZFits (μ 20001) n k p yr) h hv (q_fits h.nw h.ca h.v0 n k p yr) (fun μ1 M1 D1 e1 => ?_) (fun μ1 t e M1 => GdR_fr (frfX11_fits e M1) (by decide) (by decide) (by decide)) (fun r s hr hs => ZFits_u hr hs)
  obtain ⟨t, e, hp⟩ := rr_fits M1 D1 e1 h.ok n k p yr
  exact ⟨t, e, hp, fun z _ _ => by rw [(frfX11_fits e M1).1 20001 (by decide) (by decide), e1]⟩
theorem w_where (h : LI μ vb) (hv : vb ≤ vb') (n k yr j : Int) : Ec (fX10_where 100 n k yr j μ) (Bd μ) (fun r b0 => Wd vb' (fX11_where 20000 n k yr j) r b0) := by
  refine w_q (P := fun r => r = zzWhere (μ 20001) n k yr j) h hv (q_where h.nw h.ca h.v0 n k yr j) (fun μ1 M1 D1 e1 => ?_) (fun μ1 t e M1 => GdR_fr (frfX11_where e M1) (by decide) (by decide) (by decide)) (fun r s hr hs => hr.trans hs.symm)
  obtain ⟨t, e, hp⟩ := rr_where M1 D1 e1 h.ok n k yr j
  exact ⟨t, e, hp, fun z _ _ => by rw [(frfX11_where e M1).1 20001 (by decide) (by decide), e1]⟩
theorem w_hills (h : LI μ vb) (hv : vb ≤ vb') (n k i j : Int) : Ec (fX10_hills 100 n k i j μ) (Bd μ) (fun r b0 => Wd vb' (fX11_hills 20000 n k i j) r b0) := by
  refine w_q (P := fun r => r = zzHills (μ 20001) n k i j) h hv (q_hills h.nw h.ca h.v0 n k i j) (fun μ1 M1 D1 e1 => ?_) (fun μ1 t e M1 => GdR_fr (frfX11_hills e M1) (by decide) (by decide) (by decide)) (fun r s hr hs => hr.trans hs.symm)
  obtain ⟨t, e, hp⟩ := rr_hills M1 D1 e1 h.ok n k i j
  exact ⟨t, e, hp, fun z _ _ => by rw [(frfX11_hills e M1).1 20001 (by decide) (by decide), e1]⟩
theorem w_sure (h : LI μ vb) (hv : vb ≤ vb') (n k i : Int) : Ec (fX10_sure 100 n k i μ) (Bd μ) (fun r b0 => Wd vb' (fX11_sure 20000 n k i) r b0) := by
  refine w_q (P := fun r => r = zzSure (μ 20001) n k i) h hv (q_sure h.nw h.ca h.v0 n k i) (fun μ1 M1 D1 e1 => ?_) (fun μ1 t e M1 => GdR_fr (frfX11_sure e M1) (by decide) (by decide) (by decide)) (fun r s hr hs => hr.trans hs.symm)
  obtain ⟨t, e, hp⟩ := rr_sure M1 D1 e1 h.ok n k i
  exact ⟨t, e, hp, fun z _ _ => by rw [(frfX11_sure e M1).1 20001 (by decide) (by decide), e1]⟩
theorem w_bars (h : LI μ vb) (hv : vb ≤ vb') (n k i : Int) : Ec (fX10_bars 100 n k i μ) (Bd μ) (fun r b0 => Wd vb' (fX11_bars 20000 n k i) r b0) := by
  refine w_q (P := fun r => r = zzBars (μ 20001) n k i) h hv (q_bars h.nw h.ca h.v0 n k i) (fun μ1 M1 D1 e1 => ?_) (fun μ1 t e M1 => GdR_fr (frfX11_bars e M1) (by decide) (by decide) (by decide)) (fun r s hr hs => hr.trans hs.symm)
  obtain ⟨t, e, hp⟩ := rr_bars M1 D1 e1 h.ok n k i
  exact ⟨t, e, hp, fun z _ _ => by rw [(frfX11_bars e M1).1 20001 (by decide) (by decide), e1]⟩
theorem w_doubt (h : LI μ vb) (hv : vb ≤ vb') (n k : Int) : Ec (fX10_doubt 100 n k μ) (Bd μ) (fun r b0 => Wd vb' (fX11_doubt 20000 n k) r b0) := by
  refine w_q (P := ZDoubt (μ 20001) n k) h hv (q_doubt h.nw h.ca h.v0 n k) (fun μ1 M1 D1 e1 => ?_) (fun μ1 t e M1 => GdR_fr (frfX11_doubt e M1) (by decide) (by decide) (by decide)) (fun r s hr hs => ZDoubt_u hr hs)
  obtain ⟨t, e, hp⟩ := rr_doubt M1 D1 e1 h.ok n k
  exact ⟨t, e, hp, fun z _ _ => by rw [(frfX11_doubt e M1).1 20001 (by decide) (by decide), e1]⟩
theorem w_since (h : LI μ vb) (hv : vb ≤ vb') (n k u : Int) : Ec (fX10_since 100 n k u μ) (Bd μ) (fun r b0 => Wd vb' (fX11_since 20000 n k u) r b0) := by
  refine w_q (P := ZSince (μ 20001) n k u) h hv (q_since h.nw h.ca h.v0 n k u) (fun μ1 M1 D1 e1 => ?_) (fun μ1 t e M1 => GdR_fr (frfX11_since e M1) (by decide) (by decide) (by decide)) (fun r s hr hs => ZSince_u hr hs)
  obtain ⟨t, e, hp⟩ := rr_since M1 D1 e1 h.ok n k u
  exact ⟨t, e, hp, fun z _ _ => by rw [(frfX11_since e M1).1 20001 (by decide) (by decide), e1]⟩
theorem w_pairs (h : LI μ vb) (hv : vb ≤ vb') (n k j d : Int) : Ec (fX10_pairs 100 n k j d μ) (Bd μ) (fun r b0 => Wd vb' (fX11_pairs 20000 n k j d) r b0) := by
  refine w_q (P := fun r => r = zzPairs (μ 20001) n k j d) h hv (q_pairs h.nw h.ca h.v0 n k j d) (fun μ1 M1 D1 e1 => ?_) (fun μ1 t e M1 => GdR_fr (frfX11_pairs e M1) (by decide) (by decide) (by decide)) (fun r s hr hs => hr.trans hs.symm)
  obtain ⟨t, e, hp⟩ := rr_pairs M1 D1 e1 h.ok n k j d
  exact ⟨t, e, hp, fun z _ _ => by rw [(frfX11_pairs e M1).1 20001 (by decide) (by decide), e1]⟩
theorem w_way (h : LI μ vb) (hv : vb ≤ vb') (n k j c : Int) : Ec (fX10_way 100 n k j c μ) (Bd μ) (fun r b0 => Wd vb' (fX11_way 20000 n k j c) r b0) := by
  refine w_q (P := ZWay (μ 20001) n k j c) h hv (q_way h.nw h.ca h.v0 n k j c) (fun μ1 M1 D1 e1 => ?_) (fun μ1 t e M1 => GdR_fr (frfX11_way e M1) (by decide) (by decide) (by decide)) (fun r s hr hs => ZWay_u hr hs)
  obtain ⟨t, e, hp⟩ := rr_way M1 D1 e1 h.ok n k j c
  exact ⟨t, e, hp, fun z _ _ => by rw [(frfX11_way e M1).1 20001 (by decide) (by decide), e1]⟩
theorem w_rivals (h : LI μ vb) (hv : vb ≤ vb') (n p st m : Int) : Ec (fX10_rivals 100 n p st m μ) (Bd μ) (fun r b0 => Wd vb' (fX11_rivals 20000 n p st m) r b0) := by
  refine w_q (P := fun r => r = zzRivals (μ 20001) n p st m) h hv (q_rivals h.nw h.ca h.v0 n p st m) (fun μ1 M1 D1 e1 => ?_) (fun μ1 t e M1 => GdR_fr (frfX11_rivals e M1) (by decide) (by decide) (by decide)) (fun r s hr hs => hr.trans hs.symm)
  obtain ⟨t, e, hp⟩ := rr_rivals M1 D1 e1 h.ok n p st m
  exact ⟨t, e, hp.1, fun z _ z1 => hp.2 z z1⟩
theorem w_known (h : LI μ vb) (hv : vb ≤ vb') (n p : Int) : Ec (fX10_known 100 n p μ) (Bd μ) (fun r b0 => Wd vb' (fX11_known 20000 n p) r b0) := by
  refine w_q (P := ZKnown (μ 20001) n p) h hv (q_known h.nw h.ca h.v0 n p) (fun μ1 M1 D1 e1 => ?_) (fun μ1 t e M1 => GdR_fr (frfX11_known e M1) (by decide) (by decide) (by decide)) (fun r s hr hs => ZKnown_u hr hs)
  obtain ⟨t, e, hp⟩ := rr_known M1 D1 e1 h.ok n p
  exact ⟨t, e, hp.1, fun z _ z1 => hp.2 z z1⟩
theorem w_shift (h : LI μ vb) (hv : vb ≤ vb') (n c h' : Int) : Ec (fX10_shift 100 n c h' μ) (Bd μ) (fun r b0 => Wd vb' (fX11_shift 20000 n c h') r b0) := by
  refine w_q (P := fun r => r = zzShift (μ 20001) n c h') h hv (q_shift h.nw h.ca h.v0 n c h') (fun μ1 M1 D1 e1 => ?_) (fun μ1 t e M1 => GdR_fr (frfX11_shift e M1) (by decide) (by decide) (by decide)) (fun r s hr hs => hr.trans hs.symm)
  obtain ⟨t, e, hp⟩ := rr_shift M1 D1 e1 h.ok n c h'
  exact ⟨t, e, hp.1, fun z _ _ => by rw [hp.2, e1]⟩
theorem w_stretch (h : LI μ vb) (hv : vb ≤ vb') (n k p st mo un : Int) : Ec (fX10_stretch 100 n k p st mo un μ) (Bd μ) (fun r b0 => Wd vb' (fX11_stretch 20000 n k p st mo un) r b0) := by
  refine w_q (P := fun r => r = zzStretch (μ 20001) n k p st mo un) h hv (q_stretch h.nw h.ca h.v0 n k p st mo un) (fun μ1 M1 D1 e1 => ?_) (fun μ1 t e M1 => GdR_fr (frfX11_stretch e M1) (by decide) (by decide) (by decide)) (fun r s hr hs => hr.trans hs.symm)
  obtain ⟨t, e, hp⟩ := rr_stretch M1 D1 e1 h.ok n k p st mo un
  exact ⟨t, e, hp, fun z _ _ => by rw [(frfX11_stretch e M1).1 20001 (by decide) (by decide), e1]⟩
theorem w_wrong (h : LI μ vb) (hv : vb ≤ vb') (n k p st : Int) : Ec (fX10_wrong 100 n k p st μ) (Bd μ) (fun r b0 => Wd vb' (fX11_wrong 20000 n k p st) r b0) := by
  refine w_q (P := fun r => r = zzWrong (μ 20001) n k p st) h hv (q_wrong h.nw h.ca h.v0 n k p st) (fun μ1 M1 D1 e1 => ?_) (fun μ1 t e M1 => GdR_fr (frfX11_wrong e M1) (by decide) (by decide) (by decide)) (fun r s hr hs => hr.trans hs.symm)
  obtain ⟨t, e, hp⟩ := rr_wrong M1 D1 e1 h.ok n k p st
  exact ⟨t, e, hp, fun z _ _ => by rw [(frfX11_wrong e M1).1 20001 (by decide) (by decide), e1]⟩
theorem w_nearest (h : LI μ vb) (hv : vb ≤ vb') (n k u : Int) : Ec (fX10_nearest 100 n k u μ) (Bd μ) (fun r b0 => Wd vb' (fX11_nearest 20000 n k u) r b0) := by
  refine w_q (P := ZNear (μ 20001) n k u) h hv (q_nearest h.nw h.ca h.v0 n k u) (fun μ1 M1 D1 e1 => ?_) (fun μ1 t e M1 => GdR_fr (frfX11_nearest e M1) (by decide) (by decide) (by decide)) (fun r s hr hs => ZNear_u hr hs)
  obtain ⟨t, e, hp⟩ := rr_nearest M1 D1 e1 h.ok n k u
  exact ⟨t, e, hp, fun z _ _ => by rw [(frfX11_nearest e M1).1 20001 (by decide) (by decide), e1]⟩
theorem w_found (h : LI μ vb) (hv : vb ≤ vb') (n p st m seed e' w al : Int) : Ec (fX10_found 100 n p st m seed e' w al μ) (Bd μ) (fun r b0 => Wd vb' (fX11_found 20000 n p st m seed e' w al) r b0) := by
  refine w_q (P := fun r => r = zzFound (μ 20001) n p st m seed e' w al) h hv (q_found h.nw h.ca h.v0 n p st m seed e' w al) (fun μ1 M1 D1 e1 => ?_) (fun μ1 t e M1 => GdR_fr (frfX11_found e M1) (by decide) (by decide) (by decide)) (fun r s hr hs => hr.trans hs.symm)
  obtain ⟨t, e, hp⟩ := rr_found M1 D1 e1 h.ok n p st m seed e' w al
  exact ⟨t, e, hp.1, fun z _ z1 => hp.2 z z1⟩
theorem w_differs (h : LI μ vb) (hv : vb ≤ vb') (n m p : Int) : Ec (fX10_differs 100 n m p μ) (Bd μ) (fun r b0 => Wd vb' (fX11_differs 20000 n m p) r b0) := by
  refine w_q (P := fun r => r = zzDiffers (μ 20001) n m p) h hv (q_differs h.nw h.ca h.v0 n m p) (fun μ1 M1 D1 e1 => ?_) (fun μ1 t e M1 => GdR_fr (frfX11_differs e M1) (by decide) (by decide) (by decide)) (fun r s hr hs => hr.trans hs.symm)
  obtain ⟨t, e, hp⟩ := rr_differs M1 D1 e1 h.ok n m p
  exact ⟨t, e, hp, fun z _ _ => by rw [(frfX11_differs e M1).1 20001 (by decide) (by decide), e1]⟩
theorem w_guards (h : LI μ vb) (hv : vb ≤ vb') (n k : Int) : Ec (fX10_guards 100 n k μ) (Bd μ) (fun r b0 => Wd vb' (fX11_guards 20000 n k) r b0) := by
  refine w_q (P := ZGuards (μ 20001) n k) h hv (q_guards h.nw h.ca h.v0 n k) (fun μ1 M1 D1 e1 => ?_) (fun μ1 t e M1 => GdR_fr (frfX11_guards e M1) (by decide) (by decide) (by decide)) (fun r s hr hs => ZGuards_u hr hs)
  obtain ⟨t, e, hp⟩ := rr_guards M1 e1 h.ok n k
  exact ⟨t, e, hp, fun z _ _ => by rw [(frfX11_guards e M1).1 20001 (by decide) (by decide), e1]⟩
theorem w_sneak (h : LI μ vb) (hv : vb ≤ vb') (n x y p : Int) : Ec (fX10_sneak 100 n x y p μ) (Bd μ) (fun r b0 => Wd vb' (fX11_sneak 20000 n x y p) r b0) := by
  refine w_q (P := ZSneak (μ 20001) n x y p) h hv (q_sneak h.nw h.ca h.v0 n x y p) (fun μ1 M1 D1 e1 => ?_) (fun μ1 t e M1 => GdR_fr (frfX11_sneak e M1) (by decide) (by decide) (by decide)) (fun r s hr hs => ZSneak_u hr hs)
  obtain ⟨t, e, hp⟩ := rr_sneak M1 e1 h.ok n x y p
  exact ⟨t, e, hp, fun z _ _ => by rw [(frfX11_sneak e M1).1 20001 (by decide) (by decide), e1]⟩
theorem w_proud (h : LI μ vb) (hv : vb ≤ vb') (n p : Int) : Ev (fX10_proud 100 n p μ) (fun r => Wd vb' (fX11_proud 20000 n p) r (Bd μ)) := by
  refine w_e (P := ZProud (μ 20001) n p) h hv (q_proud h.nw h.ca n p) (fun μ1 M1 D1 e1 => ?_) (fun μ1 t e M1 => GdR_fr (frfX11_proud e M1) (by decide) (by decide) (by decide)) (fun r s hr hs => ZProud_u h.ok hr hs)
  obtain ⟨t, e, hp⟩ := rr_proud M1 e1 h.ok n p
  exact ⟨t, e, hp, fun z _ _ => by rw [(frfX11_proud e M1).1 20001 (by decide) (by decide), e1]⟩
theorem w_lacks (h : LI μ vb) (hv : vb ≤ vb') (n k p c : Int) : Ev (fX10_lacks 100 n k p c μ) (fun r => Wd vb' (fX11_lacks 20000 n k p c) r (Bd μ)) := by
  refine w_e (P := ZLacks (μ 20001) n k p c) h hv (q_lacks h.nw h.ca n k p c) (fun μ1 M1 D1 e1 => ?_) (fun μ1 t e M1 => GdR_fr (frfX11_lacks e M1) (by decide) (by decide) (by decide)) (fun r s hr hs => ZLacks_u hr hs)
  obtain ⟨t, e, hp⟩ := rr_lacks M1 D1 e1 h.ok n k p c
  exact ⟨t, e, hp.1, fun z _ _ => by rw [hp.2, e1]⟩
theorem w_seen (h : LI μ vb) (hv : vb ≤ vb') (n p q : Int) : Ec (fX10_seen 100 n p q μ) (Bd μ) (fun r b0 => WdI vb' (fX11_seen 20000 n p q) r b0) :=
  w_i (P := fun r => r = zzSeen (μ 20001) n p q) h hv (q_seen h.nw h.ca h.v0 n p q) (fun μ1 M1 e1 => ⟨_, rr_seen M1 e1 h.ok n p q, rfl⟩) (fun r s hr hs => hr.trans hs.symm)
theorem w_sees (h : LI μ vb) (hv : vb ≤ vb') (n p : Int) : Ec (fX10_sees 100 n p μ) (Bd μ) (fun r b0 => WdI vb' (fX11_sees 20000 n p) r b0) :=
  w_i (P := fun r => r = zzSees (μ 20001) n p) h hv (q_sees h.nw h.ca h.v0 n p) (fun μ1 M1 e1 => ⟨_, rr_sees M1 e1 h.ok n p, rfl⟩) (fun r s hr hs => hr.trans hs.symm)
theorem w_most (h : LI μ vb) (hv : vb ≤ vb') (n : Int) : Ec (fX10_most 100 n μ) (Bd μ) (fun r b0 => WdI vb' (fX11_most 20000 n) r b0) :=
  w_i (P := ZMost (μ 20001) n) h hv (q_most h.nw h.ca h.v0 n) (fun μ1 M1 e1 => rr_most M1 e1 h.ok n) (fun r s hr hs => ZMost_u hr hs)
theorem w_hidden (h : LI μ vb) (hv : vb ≤ vb') (n : Int) : Ec (fX10_hidden 100 n μ) (Bd μ) (fun r b0 => WdI vb' (fX11_hidden 20000 n) r b0) :=
  w_i (P := fun r => r = zzHidden (μ 20001) n) h hv (q_hidden h.nw h.ca h.v0 n) (fun μ1 M1 e1 => ⟨_, rr_hidden M1 e1 h.ok n, rfl⟩) (fun r s hr hs => hr.trans hs.symm)
theorem w_draw (h : LI μ vb) (hv : vb ≤ vb') (n p st m a : Int) : Ec (fX10_draw 100 n p st m a μ) (Bd μ) (fun r b0 => Wd vb' (fX11_draw 20000 n p st m a) r b0) :=
  w_D h hv (q_draw h.nw h.ca h.v0 n p st m a) (fun μ1 M1 D1 e1 => rr_draw M1 D1 e1 h.ok n p st m a) (fun μ1 t e M1 => GdR_fr (frfX11_draw e M1) (by decide) (by decide) (by decide))
theorem w_scrawl (h : LI μ vb) (hv : vb ≤ vb') (n p st m seed e' a : Int) : Ec (fX10_scrawl 100 n p st m seed e' a μ) (Bd μ) (fun r b0 => Wd vb' (fX11_scrawl 20000 n p st m seed e' a) r b0) :=
  w_D h hv (q_scrawl h.nw h.ca h.v0 n p st m seed e' a) (fun μ1 M1 D1 e1 => rr_scrawl M1 D1 e1 h.ok n p st m seed e' a) (fun μ1 t e M1 => GdR_fr (frfX11_scrawl e M1) (by decide) (by decide) (by decide))
end
