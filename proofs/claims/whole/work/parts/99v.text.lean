/-! ===== text ===== -/
def b18 (b : Int → Int) : Int → Int := us (us (us b 2 0) 3 0) 4 (-1)
def r30 (m : Mm) : Mm := mst (mst (mst (mst (mst (mst m 20000 5 (m 20001 2)) 20001 2 0) 20000 6 0) 20001 3 0) 20001 4 (-1)) 20000 11 0
def m18 (μ : Mm) : Mm := mst (mst (mst μ 1000 1 0) 1000 2 0) 1000 3 (-1)
section
variable {μ μ' μ1 μ2 m ν ν' ρ ρ' : Mm} {b b' t : Int → Int} {vb vb' n k c a so : Int} {g : Int → Int}
theorem b18_o {x : Int} (h : x ≠ 2 ∧ x ≠ 3 ∧ x ≠ 4) : b18 b x = b x := by unfold b18; rw [us_n h.2.2, us_n h.2.1, us_n h.1]
theorem b18_2 : b18 b 2 = 0 := by unfold b18; rw [us_n (by decide), us_n (by decide), us_s]
theorem b18_3 : b18 b 3 = 0 := by unfold b18; rw [us_n (by decide), us_s]
theorem b18_4 : b18 b 4 = -1 := by unfold b18; rw [us_s]
theorem r30_r (m : Mm) : r30 m 20001 = b18 (m 20001) := by
  unfold r30 b18
  rw [mst_n (by decide), mst_r, mst_r, mst_n (by decide), mst_r, mst_n (by decide)]
theorem r30_f (m : Mm) : Fr [20001] [5, 6, 11] m (r30 m) := by
  unfold r30
  exact (((((Fr.fld rfl (by decide)).tr (Fr.row rfl rfl (by decide) (by decide))).tr (Fr.fld rfl (by decide))).tr (Fr.row rfl rfl (by decide) (by decide))).tr (Fr.row rfl rfl (by decide) (by decide))).tr (Fr.fld rfl (by decide))
theorem r30_B (hM : Md m) (hb : m 20001 = b) (hA : AOk b) : RB (r30 m) (b18 b) (fun i => b (10 + i)) (b 2) := by
  have f := r30_f m
  have r := r30_r m
  rw [hb] at r
  have e5 : r30 m 20000 5 = b 2 := by unfold r30; simp (disch := decide) only [mst_j, mst_n, mst_s]; rw [hb]
  have e6 : r30 m 20000 6 = 0 := by unfold r30; simp (disch := decide) only [mst_j, mst_n, mst_s]
  have e11 : r30 m 20000 11 = 0 := by unfold r30; simp (disch := decide) only [mst_s]
  refine ⟨⟨f.md hM (by decide), e5, hA.2.2.1, fun i i0 i1 => ⟨?_, hA.2.2.2.1 i i0 i1⟩⟩, e6, e11, by rw [r]; exact b18_3, by rw [r]; exact b18_4, fun x => by rw [r]⟩
  rw [r, b18_o (by omega)]
theorem r_text0 (hM : Md m) (so a : Int) : fX11_text 20000 so a m = if isIn so 0 1 = 0 then some (-2, r30 m) else (fX11_isFree 20000 so a (r30 m)).bind fun r32 => if r32 = 0 then some (-2, r30 m) else (fX11_begins 20000 so (r30 m)).bind fun μ34 => (fX11_advance 20000 μ34).bind fun μ35 => (lop (sX11_text_71 20000 so a) FU μ35).bind fun μ_37 => chk (KD (μ_37 20000 0) = 12 ∧ 3 < LN (μ_37 20000 0)) (if μ_37 (μ_37 20000 0) 3 = 0 then (fX11_last 20000 so μ_37).bind fun μ40 => jX11_text_117 20000 so a μ40 else jX11_text_117 20000 so a μ_37) := by
  unfold fX11_text r30
  simp (disch := decide) only [lm, mst_j, mst_n, Md_0 hM]
  rw [chk_t K20000, chk_t (show KD 20001 = 12 ∧ 2 < LN 20001 by decide), chk_t (show KD 20001 = 12 ∧ 2 < LN 20001 by decide), chk_t (show KD 20001 = 12 ∧ 3 < LN 20001 by decide), chk_t (show KD 20001 = 12 ∧ 4 < LN 20001 by decide)]
theorem r_text1 (hM : Md ρ) (h : refRead so a ρ = some ρ') : ((fX11_begins 20000 so ρ).bind fun μ34 => (fX11_advance 20000 μ34).bind fun μ35 => (lop (sX11_text_71 20000 so a) FU μ35).bind fun μ_37 => chk (KD (μ_37 20000 0) = 12 ∧ 3 < LN (μ_37 20000 0)) (if μ_37 (μ_37 20000 0) 3 = 0 then (fX11_last 20000 so μ_37).bind fun μ40 => jX11_text_117 20000 so a μ40 else jX11_text_117 20000 so a μ_37)) = jX11_text_117 20000 so a ρ' := by
  unfold refRead at h
  obtain ⟨x1, h1, h⟩ := Option.bind_eq_some_iff.mp h
  obtain ⟨x2, h2, h⟩ := Option.bind_eq_some_iff.mp h
  obtain ⟨x3, h3, h⟩ := Option.bind_eq_some_iff.mp h
  have M1 := (frfX11_begins h1 hM).md hM (by decide)
  have M2 := (frfX11_advance h2 M1).md M1 (by decide)
  have F3 := lop_rel pjX11_text_71 (by decide) (fun _ _ => frsX11_text_71) _ _ _ h3 M2
  have M3 : Md x3 := Fr.md (show Fr [20001, 20005] [6, 7, 8, 9, 10, 11, 12] x2 x3 from F3) M2 (by decide)
  rw [h1]; simp only [ob]
  rw [h2]; simp only [ob]
  rw [h3]; simp only [ob]
  rw [Md_0 M3, chk_t (show KD 20001 = 12 ∧ 3 < LN 20001 by decide)]
  by_cases z : x3 20001 3 = 0
  · rw [if_pos z] at h ⊢
    rw [h]; simp only [ob]
  · rw [if_neg z] at h ⊢
    cases h; rfl
theorem m18_f (μ : Mm) : Fw (fun x => x = 1000 ∨ x = 1001) μ (m18 μ) := by
  unfold m18; exact Fw.st (Fw.st (Fw.st Fw.rf (.inl rfl)) (.inl rfl)) (.inl rfl)
theorem m18_n (h : LI μ vb) : Nw (m18 μ) (b18 (μ 20001)) := by
  have ok := h.ok
  refine Nw_tape h.nw (m18_f μ) (fun j h1 h2 h3 => ?_) ?_ ?_ ?_ (fun i i0 i1 => ?_) (fun x x0 x1 x2 => b18_o (by omega)) (by rw [b18_2]; omega) (fun i i0 i1 => ?_) (by rw [b18_3, b18_4]; omega)
  · unfold m18; rw [mst_j h3, mst_j h2, mst_j h1]
  · unfold m18; rw [mst_j (by decide), mst_j (by decide), mst_s, b18_2]
  · unfold m18; rw [mst_j (by decide), mst_s, b18_3]
  · unfold m18; rw [mst_s, b18_4]
  · rw [b18_o (by omega)]; unfold m18
    rw [mst_n (by decide), mst_n (by decide), mst_n (by decide)]; exact h.nw.2.2.2.2.1 i i0 i1
  · rw [b18_o (by omega)]; exact ok.2.2.2.1 i i0 i1
theorem Ca.rd (h : Ca μ b vb) (f : Fw rdR μ μ') : Ca μ' b vb := ⟨h.1.fw f (by unfold rdR; omega) (by unfold rdR; omega) (by unfold rdR; omega) (by unfold rdR; omega) (by unfold rdR; omega) (f 101 (by unfold rdR; omega)) (fun x a b => by rw [f 0 (by unfold rdR; omega)]), fun n h0 h1 => (h.2 n h0 h1).fw f (by rw [f 102 (by unfold rdR; omega)]) (fun x a b => by unfold rdR; omega) (fun x a b => by rw [f 0 (by unfold rdR; omega)])⟩
theorem m18_c (h : LI μ vb) : Ca (m18 μ) (b18 (μ 20001)) vb := Ca_c (fun n n0 n1 => lg_t (fun x x0 x1 => b18_o (by omega)) ⟨n0, n1⟩) (b18_o (by omega)) (h.ca.n0 ((m18_f μ).mo (fun x hx => by unfold nR0; omega)))
theorem LI_text (h : LI μ vb) (f1 : Fw (fun x => nR0 x ∨ rdR x ∨ x = 10000 ∨ x = 12000) μ μ1) (R1 : RdI μ1) (N1 : Nw μ1 (μ2 20001)) (C1 : Ca μ1 (μ2 20001) vb') (f2 : Fr [20001, 20005] [5, 6, 7, 8, 9, 10, 11, 12] μ1 μ2) (e1 : ∀ x, 1240 ≤ x → x < 4960 → μ2 20001 x = μ 20001 x) (hv : 0 ≤ vb') : LI μ2 vb' ∧ Bd μ = Bd μ2 := by
  have lo := fr_lo f2 (by decide)
  have M1 : Md μ1 := h.md.w (f1 20000 (by unfold nR0 rdR; omega))
  refine ⟨LI_go h (f1.mo (fun x hx => by unfold nR0 rdR at hx; omega)) R1 N1 C1 lo e1 ?_ (f2.md M1 (by decide)) ?_ hv, ?_⟩
  · exact (f2.1 20002 (by decide) (by decide)).trans (f1 20002 (by unfold nR0 rdR; omega))
  · exact (h.dt.w (f1 20000 (by unfold nR0 rdR; omega)) (f1 20003 (by unfold nR0 rdR; omega)) (f1 20004 (by unfold nR0 rdR; omega))).fr f2 (by decide) (by decide) (by decide)
  · rw [Bd_go lo]; exact (Bd_e (f1 101 (by unfold nR0 rdR; omega)) (f1 102 (by unfold nR0 rdR; omega)) (f1 10002 (by unfold nR0 rdR; omega)) (f1 12002 (by unfold nR0 rdR; omega))).symm
/-- a text that is not read -/
theorem text_no (h : LI μ vb) (hv : vb ≤ vb') (hs : isIn so 0 1 = 0 ∨ fX11_isFree 20000 so a (r30 (m18 μ)) = some 0) : Wd vb' (fX11_text 20000 so a) (-2, m18 μ) (Bd μ) := by
  unfold Wd
  dsimp only
  have f1 := m18_f μ
  have M1 : Md (m18 μ) := h.md.w (f1 20000 (by decide))
  have e1 : m18 μ 20001 = μ 20001 := f1 20001 (by decide)
  have v0 := h.v0
  have e : fX11_text 20000 so a (m18 μ) = some (-2, r30 (m18 μ)) := by
    rw [r_text0 M1]
    rcases hs with z | z
    · rw [if_pos z]
    · by_cases y : isIn so 0 1 = 0
      · rw [if_pos y]
      · rw [if_neg y, z]; simp only [ob, if_true]
  rw [e]
  have rr : r30 (m18 μ) 20001 = b18 (μ 20001) := by rw [r30_r, e1]
  refine Ev_some ⟨rfl, ?_⟩
  dsimp only
  refine LI_text h (f1.mo (fun x hx => by unfold nR0; omega)) (h.2.2.2.1.fw f1 (fun x a b => by omega)) (by rw [rr]; exact m18_n h) (by rw [rr]; exact Ca_v hv (m18_c h)) ((r30_f _).mo (by decide) (by decide)) (fun x x0 x1 => by rw [rr, b18_o (by omega)]) (by omega)
/-- a text that has a fault -/
theorem text_bad (h : LI μ vb) (hv : vb ≤ vb') (f1 : Fw rdR (m18 μ) ν) (hR : RdI ν) (hF : ν 200 2 ≠ 0) (hb : 0 ≤ ν 200 2 ∧ ν 200 2 ≤ 4 ∧ -1 ≤ ν 200 3 ∧ ν 200 3 ≤ 700) (hfr : ∀ μf, (∀ x, 20000 ≤ x → μf x = μ x) → fX11_isFree 20000 so a (r30 μf) = some 1) (hin : isIn so 0 1 = 1) (hrd : ∀ μf, Md μf → μf 20001 = μ 20001 → ∃ ρ', refRead so a (r30 μf) = some ρ' ∧ Md ρ' ∧ (∀ x, x ≠ 3 → x ≠ 4 → ρ' 20001 x = b18 (μ 20001) x) ∧ ρ' 20001 3 = ν 200 2 ∧ ρ' 20001 4 = ν 200 3) : Wd vb' (fX11_text 20000 so a) (-1, mst (mst ν 1000 2 (ν 200 2)) 1000 3 (ν 200 3)) (Bd μ) := by
  unfold Wd
  dsimp only
  have ff : Fw (fun x => x = 1000 ∨ x = 1001) ν (mst (mst ν 1000 2 (ν 200 2)) 1000 3 (ν 200 3)) := Fw.st (Fw.st Fw.rf (.inl rfl)) (.inl rfl)
  have o : ∀ j, j ≠ 2 → j ≠ 3 → mst (mst ν 1000 2 (ν 200 2)) 1000 3 (ν 200 3) 1000 j = ν 1000 j := fun j h2 h3 => by rw [mst_j h3, mst_j h2]
  have e2 : mst (mst ν 1000 2 (ν 200 2)) 1000 3 (ν 200 3) 1000 2 = ν 200 2 := by rw [mst_j (by decide), mst_s]
  have e3 : mst (mst ν 1000 2 (ν 200 2)) 1000 3 (ν 200 3) 1000 3 = ν 200 3 := mst_s
  have t1001 : mst (mst ν 1000 2 (ν 200 2)) 1000 3 (ν 200 3) 1001 = ν 1001 := by rw [mst_n (by decide), mst_n (by decide)]
  generalize mst (mst ν 1000 2 (ν 200 2)) 1000 3 (ν 200 3) = μf at *
  have v0 := h.v0
  have f18 := m18_f μ
  have fall : Fw (fun x => nR0 x ∨ rdR x ∨ x = 10000 ∨ x = 12000) μ μf := ((f18.mo (fun x hx => by unfold nR0; omega)).tr (f1.mo (fun x hx => .inr (.inl hx)))).tr (ff.mo (fun x hx => by unfold nR0; omega))
  have Mf : Md μf := h.md.w (fall 20000 (by unfold nR0 rdR; omega))
  have bf : μf 20001 = μ 20001 := fall 20001 (by unfold nR0 rdR; omega)
  obtain ⟨ρ', er, Mr, rx, r3, r4⟩ := hrd μf Mf bf
  have et : fX11_text 20000 so a μf = some (-1, ρ') := by
    rw [r_text0 Mf, if_neg (by rw [hin]; decide), hfr μf (fun x hx => fall x (by unfold nR0 rdR; omega))]
    simp only [ob]
    rw [if_neg (by decide), r_text1 ((r30_f μf).md Mf (by decide)) er, r_117N Mr (by rw [r3]; exact hF)]
  have fr := frfX11_text et Mf
  rw [et]
  refine Ev_some ⟨rfl, ?_⟩
  dsimp only at fr ⊢
  have N18 := (m18_n h).fw f1 (by unfold rdR; omega) (fun x a b => by unfold rdR; omega)
  have C18 := (m18_c h).rd f1
  have lgE : ∀ n, 0 ≤ n → n < 2 → lg (ρ' 20001) n = lg (b18 (μ 20001)) n := fun n n0 n1 => lg_t (fun x x0 x1 => rx x (by omega) (by omega)) ⟨n0, n1⟩
  have ok := N18.2.2.2.2.2.2.2
  refine LI_text h fall (hR.fw ff (fun x a b => by omega)) ?_ ?_ fr (fun x x0 x1 => by rw [rx x (by omega) (by omega), b18_o (by omega)]) (by omega)
  · refine Nw_tape N18 ff (fun j _ h2 h3 => o j h2 h3) ?_ (by rw [e2, r3]) (by rw [e3, r4]) (fun i i0 i1 => ?_) (fun x x0 x1 x2 => rx x (by omega) (by omega)) ?_ (fun i i0 i1 => ?_) (by rw [r3, r4]; omega)
    · rw [o 1 (by decide) (by decide), rx 2 (by decide) (by decide)]; exact N18.2.2.2.1.1
    · rw [t1001, rx _ (by omega) (by omega)]; exact N18.2.2.2.2.1 i i0 i1
    · rw [rx 2 (by decide) (by decide)]; exact ok.2.2.1
    · rw [rx _ (by omega) (by omega)]; exact ok.2.2.2.1 i i0 i1
  · exact Ca_v hv (Ca_c lgE (rx 0 (by decide) (by decide)) (C18.n0 (ff.mo (fun x hx => by unfold nR0; omega))))
end
