/-! ===== the law returns 1 ===== -/
theorem law_loop {Ls : Nat} {xs : Nat → Int32} {μ2 : Mm} {b2 : Int} (hL : Ls ≤ 4608) (hI : LI μ2 0) (hb : Bd μ2 ≤ b2) : Ec (lopA (sL_law_18 Ls xs 100 20000) FU (0, μ2)) b2 lawE := by
  have m0 : lawM Ls (0, μ2) < FU := by unfold FU lawM; dsimp only; omega
  have L0 : Ec (lopA (sL_law_18 Ls xs 100 20000) FU (0, μ2)) (Bd μ2) lawE := by
    refine Ec_lop (P := lawE) (lawI Ls) (lawM Ls) ⟨rfl, hI, by dsimp only; omega, by dsimp only; omega⟩ m0 ?_
    rintro ⟨v3, ν⟩ b ⟨q1, q2, q3, q4⟩
    dsimp only at q1 q2 q3 q4
    rw [q1]
    exact law_step hL q2 q3 q4
  obtain ⟨r, cc, nn, b', e, hp, a1, a2⟩ := L0
  exact ⟨r, cc, nn, b', e, hp, by omega, by omega⟩
theorem Ec_lm {α : Type} {m : Mm} {f : Mm → Option (α × Nat × Nat)} {b : Int} {P : α → Int → Prop} (h : ∀ μ', μ' = m → Ec (f μ') b P) : Ec (lm m f) b P := h m rfl
theorem law_key {Ls : Nat} {xs : Nat → Int32} (hL : Ls ≤ 4608) : Ec (fL_law Ls xs (fun _ _ => 0)) 300000 (fun r b => r.1 = 1 ∧ 0 ≤ b) := by
  have z100 : mnw (fun _ _ => 0) 100 100 = fun _ => 0 := by funext i; exact nw_s
  have zz : ∀ i, i ≠ 100 → mnw (fun _ _ => 0) 100 0 i = 0 := fun i hi => by rw [nw_z (by decide) hi]
  unfold fL_law
  refine Ec_chk ⟨K100, rfl⟩ ?_
  refine Ec_pay (b1 := 299000) ?_ (by omega) (by omega)
  refine Ec_lm (fun μ0 e0 => ?_)
  rw [← e0] at z100 zz
  refine Ec_bind (c_start (bb := 299000) (μ := μ0) zz (fun i => by rw [z100])) ?_
  rintro μ1 b1 ⟨hb, hC⟩ c n
  refine ⟨_, rfl, ?_⟩
  have hz := hC.2.2.2.2.2.2.2.2.2.2
  refine Ec_chk ⟨K20000, hz 20000 (by decide)⟩ ?_
  refine Ec_pay (b1 := 288000) ?_ (by omega) (by omega)
  have y1 : ∀ i, 20000 < i → i ≤ 20019 → mnw μ1 20000 0 i = 0 := fun i i0 i1 => by rw [nw_z (by decide) (by omega)]; exact hz i (by omega)
  have y2 : ∀ i, mnw μ1 20000 20000 i = 0 := fun i => nw_s
  have y3 : ∀ x, x ≠ 0 → x < 20000 → mnw μ1 20000 x = μ1 x := fun x x0 x1 => nw_n (by omega) x0
  have y4 : ∀ j, j < 20000 → mnw μ1 20000 0 j = μ1 0 j := fun j hj => nw_z (by decide) (by omega)
  refine Ec_lm (fun μ1' e1 => ?_)
  rw [← e1] at y1 y2 y3 y4
  refine Ec_bind (r_alloc (bb := 288000) (μ := μ1') y1 y2) ?_
  rintro μ2 b2 ⟨hb2, lo, l0, hM, hD, h1, h4, h2⟩ c' n'
  refine ⟨_, rfl, ?_⟩
  obtain ⟨hI, hB⟩ := LI_start (μ := μ1) (μ' := μ2) hC (fun x x0 x1 => by rw [lo x x0 x1, y3 x x0 x1]) (fun j hj => by rw [l0 j hj, y4 j hj]) hM hD h1 h4 h2
  refine Ec_bind (law_loop hL hI (by omega)) ?_
  intro μ3 b3 hb3 c3 n3
  refine ⟨_, rfl, ?_⟩
  exact Ec_some ⟨rfl, hb3⟩
theorem law_total : LawTotal := by
  intro Ls xs hL
  obtain ⟨⟨r, μf⟩, c, n, b', e, ⟨h1, h2⟩, a1, a2⟩ := law_key (xs := xs) hL
  dsimp only at h1
  rw [h1] at e
  exact ⟨μf, c, n, e, by omega, by omega⟩
