/-! ===== text: the class against the reference ===== -/
section
variable {μ μ' μ1 μ2 m ν ν' ρ ρ' : Mm} {b b' t : Int → Int} {vb vb' n k c a so : Int} {g : Int → Int}
theorem c_text0 (hX : X10F μ) (h0 : μ 1000 0 = 1001) (so a : Int) : fX10_text 100 so a μ = (fX10_slotFor 100 so a (m18 μ)).bind fun r19 => if r19 = -2 then some (-2, m18 μ) else if so = 0 then (fX3_readLand 200 1001 (μ 1000 1) (m18 μ)).bind fun μ27 => jX10_text_87 100 so r19 μ27 else (fX3_readSketch 200 1001 (μ 1000 1) (m18 μ)).bind fun μ24 => jX10_text_87 100 so r19 μ24 := by
  have x2 := hX.f2
  have x0 := hX.f0
  unfold fX10_text m18
  simp (disch := decide) only [lm, mst_j, mst_n, x0, x2, h0]
  simp only [chk_t K100, chk_t K1000, chk_t K200]
theorem c_87bad (hX : X10F ν) (hF : ν 200 2 ≠ 0) (so k : Int) : jX10_text_87 100 so k ν = some (-1, mst (mst ν 1000 2 (ν 200 2)) 1000 3 (ν 200 3)) := by
  have x2 := hX.f2
  have x0 := hX.f0
  unfold jX10_text_87
  rw [chk_t K100, x2, chk_t K200, if_neg hF, x0, chk_t K1000]
  simp (disch := decide) only [lm, mst_j, mst_n, x0, x2]
  simp only [chk_t K1000, chk_t K200]
theorem hT18 (h : LI μ vb) : ∀ i, 0 ≤ i → i < 700 → m18 μ 1001 i = μ 20001 (10 + i) ∧ 0 ≤ μ 20001 (10 + i) ∧ μ 20001 (10 + i) ≤ 255 := fun i i0 i1 => by
  refine ⟨?_, h.ok.2.2.2.1 i i0 i1⟩
  unfold m18
  rw [mst_n (by decide), mst_n (by decide), mst_n (by decide)]; exact h.nw.2.2.2.2.1 i i0 i1
theorem row_eq {C : Mm → Mm → Prop} {ν0 : Mm} (h : PR ν0 (b18 b) C ν ρ) (hF : ν 200 2 = 0) : ρ 20001 = b18 b := by
  obtain ⟨h1, ⟨h2, h3⟩, ⟨h4, h5⟩, h6, h7⟩ := h
  funext x
  by_cases e3 : x = 3
  · subst e3; rw [h4, hF, b18_3]
  · by_cases e4 : x = 4
    · subst e4; rw [h5, h6.2.2.2.2 hF, b18_4]
    · exact h3 x e3 e4
theorem w_text (h : LI μ vb) (hv : vb + 1 ≤ vb') (hvb : vb < 1000000000) (so a : Int) : Ev (fX10_text 100 so a μ) (fun r => Wd vb' (fX11_text 20000 so a) r (Bd μ)) := by
  have hX := h.nw.1
  have ok := h.ok
  have v0 := h.v0
  have f18 := m18_f μ
  have N18 := m18_n h
  have C18 := m18_c h
  have ok18 := N18.2.2.2.2.2.2.2
  have R18 : RdI (m18 μ) := h.2.2.2.1.fw f18 (fun x a b => by omega)
  have hT := hT18 h
  have hn := h.a2
  have e0 : b18 (μ 20001) 0 = μ 20001 0 := b18_o (by omega)
  have e1 : b18 (μ 20001) 1 = μ 20001 1 := b18_o (by omega)
  have M18 : Md (m18 μ) := h.md.w (f18 20000 (by decide))
  have rM : ∀ m, Md m → Md (r30 m) := fun m hM => (r30_f m).md hM (by decide)
  have rR : ∀ m, m 20001 = μ 20001 → r30 m 20001 = b18 (μ 20001) := fun m e => by rw [r30_r, e]
  rw [c_text0 hX h.t0, h.t1]
  by_cases s0 : so = 0
  · subst s0
    rw [c_slotFor0 N18]
    simp only [ob]
    have fre : ∀ m, Md m → m 20001 = μ 20001 → fX11_isFree 20000 0 a (r30 m) = some (bi (sl0 (b18 (μ 20001) 0) a ≠ -2)) := fun m hM e => r_isFree0 (rM m hM) (rR m e) ok18.1 a
    by_cases z : sl0 (b18 (μ 20001) 0) a = -2
    · rw [if_pos z]
      exact Ev_some (text_no h (by omega) (.inr (by rw [fre _ M18 (f18 20001 (by decide)), bi_f (fun y => y z)])))
    · rw [if_neg z, if_pos trivial]
      have sb := sl0_b ok18.1 z
      have rd := fun m (hM : Md m) (e : m 20001 = μ 20001) => rdL (ν0 := m18 μ) R18 hT hn (r30_B hM e ok) a
      obtain ⟨ν, ρx, ec, er, P⟩ := rd (m18 μ) M18 (f18 20001 (by decide))
      rw [ec]
      simp only [ob]
      obtain ⟨⟨p1, p2⟩, p3, p4, p5, p6⟩ := P
      have X2 : X10F ν := by unfold X10F; rw [p1 100 (by unfold rdR; omega), f18 100 (by decide)]; exact hX
      by_cases hF : ν 200 2 = 0
      · have N2 : Nw ν (b18 (μ 20001)) := N18.fw p1 (by unfold rdR; omega) (fun x a b => by unfold rdR; omega)
        have C2 := C18.rd p1
        unfold jX10_text_87
        rw [chk_t K100, X2.f2, chk_t K200, if_pos hF, if_pos rfl]
        refine Ev_bind (c_keepLand N2 C2 hvb p2 sb.1 sb.2) (fun μf ⟨ff, hk⟩ => ?_)
        refine Ev_some ?_
        have fall : Fw (fun x => nR0 x ∨ rdR x ∨ x = 10000 ∨ x = 12000) μ μf := ((f18.mo (fun x hx => by unfold nR0; omega)).tr (p1.mo (fun x hx => .inr (.inl hx)))).tr (ff.mo (fun x hx => by
          rcases hx with y | y
          · exact .inl y
          · omega))
        have Mf : Md μf := h.md.w (fall 20000 (by unfold nR0 rdR; omega))
        have bf : μf 20001 = μ 20001 := fall 20001 (by unfold nR0 rdR; omega)
        obtain ⟨ν', ρ', ec', er', P'⟩ := rd μf Mf bf
        rw [ec] at ec'
        cases ec'
        have re := row_eq P' hF
        have Cc := P'.2.2.2.2 hF
        have Mr := P'.2.1.1
        unfold Wd
        dsimp only
        obtain ⟨⟨r, μ9⟩, e9, y1, y2, y3, y4⟩ := r_117L (a := a) Mr re ok18.1 b18_3 z
        have et : fX11_text 20000 0 a μf = some (r, μ9) := by
          rw [r_text0 Mf, if_neg (by decide), fre μf Mf bf, bi_t z]
          simp only [ob]
          rw [if_neg (by decide), r_text1 (rM μf Mf) er']
          exact e9
        have fr := frfX11_text et Mf
        rw [et]
        dsimp only at fr y1 y2 y3 y4
        rw [y2] at y3
        obtain ⟨N9, C9⟩ := hk (ρ' 20005) (μ9 20001) Cc.1 Cc.2 y3
        refine Ev_some ⟨y2.symm, ?_⟩
        dsimp only
        refine LI_text h fall (p2.fw ff (fun x a b => by unfold nR0; omega)) N9 (Ca_v hv C9) fr (fun x x0 x1 => by rw [y4 x x0, b18_o (by omega)]) (by omega)
      · rw [c_87bad X2 hF]
        refine Ev_some (text_bad h (by omega) p1 p2 hF ⟨p5.1, p5.2.1, p5.2.2.1, p5.2.2.2.1⟩ (fun μf hx => ?_) (by decide) (fun μf hM e => ?_))
        · have hM : Md μf := h.md.w (hx 20000 (by omega))
          rw [fre μf hM (hx 20001 (by omega)), bi_t z]
        · obtain ⟨ν', ρ', ec', er', P'⟩ := rd μf hM e
          rw [ec] at ec'
          cases ec'
          exact ⟨ρ', er', P'.2.1.1, P'.2.1.2, P'.2.2.1.1, P'.2.2.1.2⟩
  · by_cases s1 : so = 1
    · subst s1
      rw [c_slotFor N18]
      simp only [ob]
      have fre : ∀ m, Md m → m 20001 = μ 20001 → fX11_isFree 20000 1 a (r30 m) = some (bi (slt (b18 (μ 20001) 1) a ≠ -2)) := fun m hM e => r_isFree1' (rM m hM) (rR m e) ok18.2.1 a
      by_cases z : slt (b18 (μ 20001) 1) a = -2
      · rw [if_pos z]
        exact Ev_some (text_no h (by omega) (.inr (by rw [fre _ M18 (f18 20001 (by decide)), bi_f (fun y => y z)])))
      · rw [if_neg z, if_neg (by decide)]
        have sb := slt_b ok18.2.1 z
        have rd := fun m (hM : Md m) (e : m 20001 = μ 20001) => rdS (ν0 := m18 μ) R18 hT hn (r30_B hM e ok) a
        obtain ⟨ν, ρx, ec, er, P⟩ := rd (m18 μ) M18 (f18 20001 (by decide))
        rw [ec]
        simp only [ob]
        obtain ⟨⟨p1, p2⟩, p3, p4, p5, p6⟩ := P
        have X2 : X10F ν := by unfold X10F; rw [p1 100 (by unfold rdR; omega), f18 100 (by decide)]; exact hX
        by_cases hF : ν 200 2 = 0
        · have N2 : Nw ν (b18 (μ 20001)) := N18.fw p1 (by unfold rdR; omega) (fun x a b => by unfold rdR; omega)
          have C2 := C18.rd p1
          have x1 : ν 200 1 = 220 := p2.1.2
          unfold jX10_text_87
          rw [chk_t K100, X2.f2, chk_t K200, if_pos hF, if_neg (by decide), x1]
          refine Ev_bind (c_keepSketchG N2 sb.1 sb.2 p2) (fun μf ⟨ff, hk⟩ => ?_)
          refine Ev_some ?_
          have fall : Fw (fun x => nR0 x ∨ rdR x ∨ x = 10000 ∨ x = 12000) μ μf := ((f18.mo (fun x hx => by unfold nR0; omega)).tr (p1.mo (fun x hx => .inr (.inl hx)))).tr (ff.mo (fun x hx => .inl hx))
          have Mf : Md μf := h.md.w (fall 20000 (by unfold nR0 rdR; omega))
          have bf : μf 20001 = μ 20001 := fall 20001 (by unfold nR0 rdR; omega)
          obtain ⟨ν', ρ', ec', er', P'⟩ := rd μf Mf bf
          rw [ec] at ec'
          cases ec'
          have re := row_eq P' hF
          have Cc := P'.2.2.2.2 hF
          have Mr := P'.2.1.1
          unfold Wd
          dsimp only
          obtain ⟨⟨r, μ9⟩, e9, y1, y2, y3, y4⟩ := r_117S (a := a) Mr re ok18 b18_3 z
          have et : fX11_text 20000 1 a μf = some (r, μ9) := by
            rw [r_text0 Mf, if_neg (by decide), fre μf Mf bf, bi_t z]
            simp only [ob]
            rw [if_neg (by decide), r_text1 (rM μf Mf) er']
            exact e9
          have fr := frfX11_text et Mf
          rw [et]
          dsimp only at fr y1 y2 y3 y4
          rw [y2] at y3
          have N9 := hk (ρ' 20005) (μ9 20001) Cc.1 Cc.2 y3
          have C9 : Ca μf (μ9 20001) vb := Ca_c (fun n n0 n1 => Us_lg y3 sb.1 ⟨n0, n1⟩) (y3.1 0 (by omega) (by omega) (by omega) (by omega)) (C2.n0 ff)
          refine Ev_some ⟨y2.symm, ?_⟩
          dsimp only
          refine LI_text h fall (p2.fw ff (fun x a b => by unfold nR0; omega)) N9 (Ca_v (by omega) C9) fr (fun x x0 x1 => by rw [y4 x x0, b18_o (by omega)]) (by omega)
        · rw [c_87bad X2 hF]
          refine Ev_some (text_bad h (by omega) p1 p2 hF ⟨p5.1, p5.2.1, p5.2.2.1, p5.2.2.2.1⟩ (fun μf hx => ?_) (by decide) (fun μf hM e => ?_))
          · have hM : Md μf := h.md.w (hx 20000 (by omega))
            rw [fre μf hM (hx 20001 (by omega)), bi_t z]
          · obtain ⟨ν', ρ', ec', er', P'⟩ := rd μf hM e
            rw [ec] at ec'
            cases ec'
            exact ⟨ρ', er', P'.2.1.1, P'.2.1.2, P'.2.2.1.1, P'.2.2.1.2⟩
    · rw [c_slotForX s0 s1]
      simp only [ob, if_true]
      exact Ev_some (text_no h (by omega) (.inl (isIn_f (by omega))))
end
