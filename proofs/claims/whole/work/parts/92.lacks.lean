/-! ===== lacks of the class ===== -/
section
variable {μ μ' : Mm} {b : Int → Int} {vb l s p c h j n kk m : Int} {g g1 : Int → Int} {sk : Int → Int}
theorem ray_c (hL : LdOk g) (hp : Pl g p) (hc : Pl g c) (hpc : p ≠ c) (hr : iR g p (rK g p c) (rT g p c)) : (0 ≤ ry g p c ∧ ry g p c < nR g p) ∧ rI g p (ry g p c) = rK g p c ∧ ∀ i, 0 ≤ i → i < nR g p → i ≠ ry g p c → av g p (rI g p i) c := by
  obtain ⟨hk, ht, hi, e⟩ := rK_ok hL hp hc hpc
  have hct : cT g p (rK g p c) := iR_mono hL hp hk hr (by omega) (by omega)
  have r := rI_of hk.1 hk.2 hct
  refine ⟨r.2, r.1, fun i i0 i1 ne u u0 hu q => ne ?_⟩
  have ok := rI_ok i0 i1
  have a := (rP_u ok.1 u0 hu.1 hL hp).1
  rw [q] at a
  unfold ry; rw [a]; exact ok.2.2.symm
theorem Sm_none (hL : LdOk g) (hp : Pl g p) (hc : Pl g c) (hpc : p ≠ c) (hh : 0 ≤ h ∧ h ≤ 999) (hr : ¬iR g p (rK g p c) (rT g p c)) : Sm g (gc g c h) p := by
  have bc := Pl.i hL hc
  have H : Sg g (gc g c h) := Sg_gc bc
  have hL2 := gc_ok hL bc hh
  have hp2 : Pl (gc g c h) p := (gc_Pl bc.1).mpr hp
  have al : ∀ i, 0 ≤ i → i < nR g p → av g p (rI g p i) c := fun i i0 i1 u u0 hu q => by
    have ok := rI_ok i0 i1
    have a := rP_u ok.1 u0 hu.1 hL hp
    rw [q] at a
    rw [a.1, a.2] at hr
    exact hr hu
  refine ⟨H, fun i i0 i1 => ?_, fun q => ?_⟩
  · have t := T_gc (h := h) hL hp bc hpc ⟨i0, i1⟩ (al i i0 i1)
    rw [t.1]; exact ⟨rfl, t.2.symm⟩
  · rw [← vS_iff hL hp, ← vS_iff hL2 hp2, ← Sg_nR H, ← Sg_rI H, ← Sg_rP H]
    constructor
    · rintro ⟨i, i0, i1, u, u0, hu, e⟩
      exact ⟨i, i0, i1, u, u0, (sR_gc hL hp (rI_ok i0 i1).1 bc hpc (al i i0 i1) u0).mpr hu, e⟩
    · rintro ⟨i, i0, i1, u, u0, hu, e⟩
      exact ⟨i, i0, i1, u, u0, (sR_gc hL hp (rI_ok i0 i1).1 bc hpc (al i i0 i1) u0).mp hu, e⟩
theorem c_changes (hA : La μ l (gc g1 c h)) (hLi : Li μ s g1 p) (hSF : SiF μ) (hSi : Si μ g1 p) (hL : LdOk g1) (hp : Pl g1 p) (hc : Pl g1 c) (hpc : p ≠ c) (hh : 0 ≤ h ∧ h ≤ 999) (hr : iR g1 p (rK g1 p c) (rT g1 p c)) (ds : s + 6 < 230 ∨ 237 < s) (dc : l + 5 < s ∨ s + 6 < l) : Ev (fX5_changes 230 l s (ry g1 p c) μ) (fun r => Fw (fun x => s ≤ x ∧ x ≤ s + 6) μ r.2 ∧ Li r.2 s (gc g1 c h) p ∧ (r.1 = 1 ∨ r.1 = 0 ∧ Sm g1 (gc g1 c h) p)) := by
  have bc := Pl.i hL hc
  have H : Sg g1 (gc g1 c h) := Sg_gc bc
  have hL2 := gc_ok hL bc hh
  have hp2 : Pl (gc g1 c h) p := (gc_Pl bc.1).mpr hp
  have hSi2 := Sg_Si H hSi
  obtain ⟨jb, jr, jav⟩ := ray_c hL hp hc hpc hr
  generalize hj : ry g1 p c = j at *
  obtain ⟨hK, hF, ⟨l1, l2, l3⟩, lT, lH, lK, lS⟩ := hLi
  have nb := nR_b hL hp
  have en : nR g1 p = nR (gc g1 c h) p := by rw [Sg_nR H]
  have e6 : μ 230 6 = nR g1 p := hSi.2.1
  unfold fX5_changes
  rw [if_neg (by omega)]
  simp (disch := omega) only [w32_eq, w64_eq, chk_T, chk_t, lt, lm, ob, Int.add_zero, Int.zero_add, true_and, and_true, if_true, if_false, K100, K101, K102, K103, K104, K200, K201, K230, K231, K232, K233, K234, K235, K236, K237, K250, K251, K252, K253, K254, K300, K301, K302, K303, K304, N101, N102, N103, N104, N201, N232, N233, N234, N235, N236, N237, N251, N252, N253, N254, N301, N302, N303, N304, e6]
  rw [if_neg (by omega), if_pos (by omega)]
  simp (disch := omega) only [w32_eq, w64_eq, chk_T, chk_t, lt, lm, ob, Int.add_zero, Int.zero_add, true_and, and_true, if_true, if_false, K100, K101, K102, K103, K104, K200, K201, K230, K231, K232, K233, K234, K235, K236, K237, K250, K251, K252, K253, K254, K300, K301, K302, K303, K304, N101, N102, N103, N104, N201, N232, N233, N234, N235, N236, N237, N251, N252, N253, N254, N301, N302, N303, N304, LiK.k hK, LiK.k1 hK, LiK.n1 hK, LiK.k2 hK, LiK.n2 hK, LiK.k3 hK, LiK.n3 hK, LiK.k4 hK, LiK.n4 hK, LiK.k5 hK, LiK.n5 hK, LiK.k6 hK, LiK.n6 hK, LiF.f4 hF, LiF.f5 hF, LiF.f6 hF, LiF.f7 hF, LiF.f8 hF, LiF.f9 hF]
  refine Ev_bind (c_lookAlong hA hK hF hSF hSi2 hL2 hp2 (j := j) (by rw [← en]; exact jb) lS ds dc) (fun μ1 ⟨f1, t1, o1, S1⟩ => ?_)
  have rs : μ1 s = μ s := f1 s (by unfold lR; omega)
  have F1 : LiF μ1 s := by unfold LiF; rw [rs]; exact hF
  have fs : Fw (fun x => s ≤ x ∧ x ≤ s + 6) μ μ1 := f1.mo (fun x hx => by unfold lR at hx; omega)
  have SF1 : SiF μ1 := hSF.fw f1 (fun x a b => by unfold lR; omega)
  have Si1 : Si μ1 (gc g1 c h) p := by
    unfold Si SiP SiB at hSi2 ⊢
    rw [f1 230 (by unfold lR; omega), f1 234 (by unfold lR; omega), f1 235 (by unfold lR; omega), f1 236 (by unfold lR; omega), f1 237 (by unfold lR; omega)]; exact hSi2
  have A1 : La μ1 l (gc g1 c h) := hA.fw f1 (fun x a b => by unfold lR; omega)
  have T1 : LiT μ1 s (gc g1 c h) p := by
    intro i i0 i1
    by_cases e : i = j
    · rw [e]; exact t1
    · rw [← en] at i1
      have t := T_gc (h := h) hL hp bc hpc ⟨i0, i1⟩ (jav i i0 i1 e)
      have o := o1 i e; have q := lT i i0 i1
      rw [o.1, o.2.1, o.2.2, q.1, q.2.1, q.2.2, t.1]
      unfold zV; rw [t.2, Sg_F H]; exact ⟨rfl, rfl, rfl⟩
  have B1 : Sb μ1 s (vS (gc g1 c h) p) := by
    refine S1.c (fun x _ _ => ?_)
    rw [← vS_iff hL2 hp2, ← Sg_nR H, ← Sg_rI H, ← Sg_rP H, ← Sg_iR H]
    constructor
    · rintro (⟨u, u0, hu, e⟩ | ⟨nt, hv⟩)
      · exact ⟨j, jb.1, jb.2, u, u0, hu, e⟩
      · rw [← vS_iff hL hp] at hv
        obtain ⟨i, i0, i1, u, u0, hu, e⟩ := hv
        by_cases z : i = j
        · subst z; exact absurd e (nt u u0 hu.1)
        · exact ⟨i, i0, i1, u, u0, (sR_gc hL hp (rI_ok i0 i1).1 bc hpc (jav i i0 i1 z) u0).mpr hu, e⟩
    · rintro ⟨i, i0, i1, u, u0, hu, e⟩
      by_cases z : i = j
      · subst z; exact .inl ⟨u, u0, hu, e⟩
      · right
        have hu1 := (sR_gc hL hp (rI_ok i0 i1).1 bc hpc (jav i i0 i1 z) u0).mp hu
        refine ⟨fun v v0 hv q => z ?_, (vS_iff hL hp).mp ⟨i, i0, i1, u, u0, hu1, e⟩⟩
        have a1 := (rP_u (rI_ok i0 i1).1 u0 hu1.1.1 hL hp).1
        have a2 := (rP_u (rI_ok jb.1 jb.2).1 v0 hv.1 hL hp).1
        rw [← e, q] at a1
        have e2 : rI g1 p i = rI g1 p j := a1.symm.trans a2
        rw [← (rI_ok i0 i1).2.2, ← (rI_ok jb.1 jb.2).2.2, e2]
  have go : Ev (jX5_changes_129 230 l s μ1) (fun r => Fw (fun x => s ≤ x ∧ x ≤ s + 6) μ r.2 ∧ Li r.2 s (gc g1 c h) p ∧ (r.1 = 1 ∨ r.1 = 0 ∧ Sm g1 (gc g1 c h) p)) := by
    unfold jX5_changes_129 jX5_changes_130
    rw [if_pos rfl]
    simp (disch := omega) only [w32_eq, w64_eq, chk_T, chk_t, lt, lm, ob, Int.add_zero, Int.zero_add, true_and, and_true, if_true, if_false, K100, K101, K102, K103, K104, K200, K201, K230, K231, K232, K233, K234, K235, K236, K237, K250, K251, K252, K253, K254, K300, K301, K302, K303, K304, N101, N102, N103, N104, N201, N232, N233, N234, N235, N236, N237, N251, N252, N253, N254, N301, N302, N303, N304, ]
    refine Ev_bind (c_pickHumps hK F1 T1 hL2 hp2 (by rw [rs, l1, en])) (fun μ2 ⟨f2, a2, b2, d2⟩ => ?_)
    have F2 : LiF μ2 s := by
      unfold LiF
      rw [a2 4 (by omega), a2 5 (by omega), a2 6 (by omega), a2 7 (by omega), a2 8 (by omega), a2 9 (by omega)]; exact F1
    have A2 : La μ2 l (gc g1 c h) := A1.fw f2 (fun x a b => by omega)
    have SF2 : SiF μ2 := SF1.fw f2 (fun x a b => by omega)
    have Si2 : Si μ2 (gc g1 c h) p := by
      unfold Si SiP SiB at Si1 ⊢
      rw [f2 230 (by omega), f2 234 (by omega), f2 235 (by omega), f2 236 (by omega), f2 237 (by omega)]; exact Si1
    refine Ev_bind (c_pickLakes A2 hK F2 SF2 Si2 (B1.fw f2 (by omega)) hL2 hp2 ds dc) (fun μ3 ⟨f3, a3, b3, d3⟩ => ?_)
    unfold jX5_changes_148
    rw [if_pos rfl]
    refine Ev_some ⟨(fs.tr (f2.mo (fun x hx => by omega))).tr (f3.mo (fun x hx => by omega)), ?_, .inl rfl⟩
    refine ⟨hK, ?_, ⟨?_, ?_, b3⟩, ?_, ?_, d3, ?_⟩
    · unfold LiF; dsimp only
      rw [a3 4 (by omega), a3 5 (by omega), a3 6 (by omega), a3 7 (by omega), a3 8 (by omega), a3 9 (by omega)]; exact F2
    · dsimp only; rw [a3 1 (by omega), a2 1 (by omega), rs, l1, en]
    · dsimp only; rw [a3 2 (by omega)]; exact b2
    · unfold LiT; dsimp only
      rw [f3 (s + 1) (by omega), f3 (s + 2) (by omega), f3 (s + 3) (by omega), f2 (s + 1) (by omega), f2 (s + 2) (by omega), f2 (s + 3) (by omega)]; exact T1
    · dsimp only; rw [f3 (s + 4) (by omega)]; exact d2
    · exact (B1.fw f2 (by omega)).fw f3 (by omega)
  simp (disch := omega) only [w32_eq, w64_eq, chk_T, chk_t, lt, lm, ob, Int.add_zero, Int.zero_add, true_and, and_true, if_true, if_false, K100, K101, K102, K103, K104, K200, K201, K230, K231, K232, K233, K234, K235, K236, K237, K250, K251, K252, K253, K254, K300, K301, K302, K303, K304, N101, N102, N103, N104, N201, N232, N233, N234, N235, N236, N237, N251, N252, N253, N254, N301, N302, N303, N304, rs, LiK.k hK, LiK.k1 hK, LiK.n1 hK, LiK.k2 hK, LiK.n2 hK, LiK.k3 hK, LiK.n3 hK, LiK.k4 hK, LiK.n4 hK, LiK.k5 hK, LiK.n5 hK, LiK.k6 hK, LiK.n6 hK, LiF.f4 hF, LiF.f5 hF, LiF.f6 hF, LiF.f7 hF, LiF.f8 hF, LiF.f9 hF]
  refine Ev_ite (fun q1 => ?_) (fun _ => go)
  refine Ev_ite (fun q2 => ?_) (fun _ => go)
  refine Ev_ite (fun q3 => ?_) (fun _ => go)
  refine Ev_ite (fun q4 => ?_) (fun _ => go)
  refine Ev_ite (fun q5 => ?_) (fun _ => go)
  have sm : Sm g1 (gc g1 c h) p := by
    refine ⟨H, fun i i0 i1 => ?_, fun x => ?_⟩
    · by_cases e : i = j
      · subst e
        have a := lT i i0 i1; have d := T1 i i0 (by rw [← en]; exact i1)
        have e1 : T g1 p i = T (gc g1 c h) p i := by rw [← a.1, ← d.1]; exact q1
        have e2 : zV g1 p (T g1 p i) = zV (gc g1 c h) p (T (gc g1 c h) p i) := by rw [← a.2.1, ← d.2.1]; exact q2
        exact ⟨e1, zQ_inj e2⟩
      · have t := T_gc (h := h) hL hp bc hpc ⟨i0, i1⟩ (jav i i0 i1 e)
        rw [t.1]; exact ⟨rfl, t.2.symm⟩
    · by_cases z : 0 ≤ x ∧ x < 144
      · refine Sb.d lS B1 (fun w w0 w1 => ?_) x z.1 (by omega)
        have : w = 0 ∨ w = 1 ∨ w = 2 := by omega
        rcases this with e | e | e
        · subst e; exact q3
        · subst e; exact q4
        · subst e; exact q5
      · exact ⟨fun w => absurd (Pl.i hL w.1) z, fun w => absurd (Pl.i hL2 w.1) z⟩
  unfold jX5_changes_130
  rw [if_neg (by decide)]
  unfold jX5_changes_148
  rw [if_neg (by decide)]
  refine Ev_some ⟨fs, ⟨hK, F1, ⟨?_, ?_, ?_⟩, T1, fun j a d => ?_, fun j a d => ?_, B1⟩, .inr ⟨rfl, sm⟩⟩
  · dsimp only; rw [rs, l1, en]
  · dsimp only; rw [rs, l2, Sm_hN nb.1 sm]
  · dsimp only; rw [rs, l3, Sm_lkN sm]
  · dsimp only
    rw [← Sm_hN nb.1 sm] at d
    rw [f1 (s + 4) (by unfold lR; omega), ← Sm_hI nb.1 sm]; exact lH j a d
  · dsimp only
    rw [← Sm_lkN sm] at d
    rw [f1 (s + 5) (by unfold lR; omega), ← Sm_lkI sm]; exact lK j a d
end
