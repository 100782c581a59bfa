/-! ===== fewest; guards of the reference ===== -/
section
variable {μ μ' : Mm} {b : Int → Int} {n p l s : Int} {g : Int → Int}
theorem r_f61 {x y c0 : Int} (hM : Md μ) (hG : Gd μ g) (hL : LdOk g) (hs : s = 1 ∨ s = 2 ∨ s = 3) (hx : Pl g x) (hy : Pl g y) (hxy : (s = 1 ∧ y = x) ∨ (2 ≤ s ∧ x < y)) (h0 : (s ≤ 2 ∧ c0 = y) ∨ (s = 3 ∧ c0 = y + 1)) : Ev (lop (sX11_fewest_61 20000 (np g) s x y μ) FU c0) (fun r => match r with | .inl _ => ∀ z, Rw s (np g) x y z → ¬Cov g x y z | .inr c => Rw s (np g) x y c ∧ Cov g x y c ∧ ∀ z, z < c → Rw s (np g) x y z → ¬Cov g x y z) := by
  have nb := np_b hL
  have i1 := Pl.i hL hx; have i2 := Pl.i hL hy; have hy2 := hy.2; have hx2 := hx.2
  refine Ev_lop (fun c => (c0 ≤ c ∧ c ≤ np g) ∧ ∀ z, z < c → Rw s (np g) x y z → ¬Cov g x y z) (fun c => (np g - c).toNat) ⟨by omega, fun z hz r => by unfold Rw at r; omega⟩ (by unfold FU; omega) ?_
  intro v5 ⟨k1, k2⟩
  unfold sX11_fewest_61
  have key : ∀ t, (s ≤ 2 ∧ t = y + 1) ∨ (s = 3 ∧ t = np g) → Ev (jX11_fewest_76 20000 (np g) s x y v5 t v5 μ) (Nx (fun c => (c0 ≤ c ∧ c ≤ np g) ∧ ∀ z, z < c → Rw s (np g) x y z → ¬Cov g x y z) (fun c => (np g - c).toNat) (fun r => match r with | .inl _ => ∀ z, Rw s (np g) x y z → ¬Cov g x y z | .inr c => Rw s (np g) x y c ∧ Cov g x y c ∧ ∀ z, z < c → Rw s (np g) x y z → ¬Cov g x y z) (np g - v5).toNat) := by
    intro t ht
    unfold jX11_fewest_76
    refine Ev_ite (fun w => Ev_out (fun z r => k2 z (by unfold Rw at r; omega) r)) (fun w => ?_)
    have h5 : Pl g v5 := ⟨by omega, by omega⟩
    simp (disch := omega) only [w32_eq, w64_eq, chk_T, chk_t, lt, lm, ob, Int.add_zero, Int.zero_add, true_and, and_true, if_true, if_false, K20000, K20001, K20002, K20003, K20004, K20005, K20006, K20007, K20008, K20009, K20010, K20011, K20012, K20013, K20014, K20015, K20016, K20017, K20018, K20019, N20001, N20002, N20003, N20004, N20005, N20006, N20007, N20008, N20009, N20010, N20011, N20012, N20013, N20014, N20015, N20016, N20017, N20018, N20019, ]
    rw [r_isWhole hM hG hL hx hy h5]
    simp only [ob, bi_if]
    by_cases u : Cov g x y v5
    · rw [sel_t u]
      refine Ev_out ⟨?_, u, k2⟩
      unfold Rw; omega
    · rw [sel_f u]
      try simp (disch := omega) only [w32_eq, w64_eq, chk_T, chk_t, lt, lm, ob, Int.add_zero, Int.zero_add, true_and, and_true, if_true, if_false, ]
      refine Ev_in ⟨by omega, fun z hz r => ?_⟩ (by omega)
      by_cases e : z = v5
      · subst e; exact u
      · exact k2 z (by omega) r
  refine Ev_ite (fun w => ?_) (fun w => key _ (.inr ⟨by omega, rfl⟩))
  try simp (disch := omega) only [w32_eq, w64_eq, chk_T, chk_t, lt, lm, ob, Int.add_zero, Int.zero_add, true_and, and_true, if_true, if_false, ]
  exact key _ (.inl ⟨w, rfl⟩)
theorem r_f28 {x c0 : Int} (hM : Md μ) (hG : Gd μ g) (hL : LdOk g) (hs : s = 1 ∨ s = 2 ∨ s = 3) (hx : Pl g x) (h0 : (s = 1 ∧ c0 = x) ∨ (2 ≤ s ∧ c0 = x + 1)) : Ev (lop (sX11_fewest_28 20000 (np g) s x μ) FU c0) (fun r => match r with | .inl _ => ∀ y z, Rw s (np g) x y z → ¬Cov g x y z | .inr (b, c) => Rw s (np g) x b c ∧ Cov g x b c ∧ ∀ y z, y < b ∨ y = b ∧ z < c → Rw s (np g) x y z → ¬Cov g x y z) := by
  have nb := np_b hL
  have i1 := Pl.i hL hx; have hx2 := hx.2
  refine Ev_lop (fun c => (c0 ≤ c ∧ c ≤ np g) ∧ ∀ y z, y < c → Rw s (np g) x y z → ¬Cov g x y z) (fun c => (np g - c).toNat) ⟨by omega, fun y z hz r => by unfold Rw at r; omega⟩ (by unfold FU; omega) ?_
  intro v4 ⟨k1, k2⟩
  unfold sX11_fewest_28
  have key : ∀ t, (s = 1 ∧ t = x + 1) ∨ (2 ≤ s ∧ t = np g) → Ev (jX11_fewest_42 20000 (np g) s x v4 t v4 μ) (Nx (fun c => (c0 ≤ c ∧ c ≤ np g) ∧ ∀ y z, y < c → Rw s (np g) x y z → ¬Cov g x y z) (fun c => (np g - c).toNat) (fun r => match r with | .inl _ => ∀ y z, Rw s (np g) x y z → ¬Cov g x y z | .inr (b, c) => Rw s (np g) x b c ∧ Cov g x b c ∧ ∀ y z, y < b ∨ y = b ∧ z < c → Rw s (np g) x y z → ¬Cov g x y z) (np g - v4).toNat) := by
    intro t ht
    unfold jX11_fewest_42
    refine Ev_ite (fun w => Ev_out (fun y z r => k2 y z (by unfold Rw at r; omega) r)) (fun w => ?_)
    have h5 : Pl g v4 := ⟨by omega, by omega⟩
    have go : ∀ c1, (s ≤ 2 ∧ c1 = v4) ∨ (s = 3 ∧ c1 = v4 + 1) → Ev (jX11_fewest_59 20000 (np g) s x v4 c1 μ) (Nx (fun c => (c0 ≤ c ∧ c ≤ np g) ∧ ∀ y z, y < c → Rw s (np g) x y z → ¬Cov g x y z) (fun c => (np g - c).toNat) (fun r => match r with | .inl _ => ∀ y z, Rw s (np g) x y z → ¬Cov g x y z | .inr (b, c) => Rw s (np g) x b c ∧ Cov g x b c ∧ ∀ y z, y < b ∨ y = b ∧ z < c → Rw s (np g) x y z → ¬Cov g x y z) (np g - v4).toNat) := by
      intro c1 hc
      unfold jX11_fewest_59
      refine Ev_bind (r_f61 hM hG hL hs hx h5 (by omega) hc) (fun r hr => ?_)
      rcases r with u | c
      · dsimp only at hr ⊢
        cases u
        try simp (disch := omega) only [w32_eq, w64_eq, chk_T, chk_t, lt, lm, ob, Int.add_zero, Int.zero_add, true_and, and_true, if_true, if_false, ]
        refine Ev_in ⟨by omega, fun y z hz r => ?_⟩ (by omega)
        by_cases e : y = v4
        · subst e; exact hr z r
        · exact k2 y z (by omega) r
      · dsimp only at hr ⊢
        refine Ev_out ⟨hr.1, hr.2.1, fun y z hz r => ?_⟩
        by_cases e : y = v4
        · subst e; exact hr.2.2 z (by omega) r
        · exact k2 y z (by omega) r
    refine Ev_ite (fun u => go _ (.inl ⟨u, rfl⟩)) (fun u => ?_)
    try simp (disch := omega) only [w32_eq, w64_eq, chk_T, chk_t, lt, lm, ob, Int.add_zero, Int.zero_add, true_and, and_true, if_true, if_false, ]
    exact go _ (.inr ⟨by omega, rfl⟩)
  refine Ev_ite (fun w => ?_) (fun w => key _ (.inr ⟨by omega, rfl⟩))
  try simp (disch := omega) only [w32_eq, w64_eq, chk_T, chk_t, lt, lm, ob, Int.add_zero, Int.zero_add, true_and, and_true, if_true, if_false, ]
  exact key _ (.inl ⟨by omega, rfl⟩)
theorem r_f9 (hM : Md μ) (hG : Gd μ g) (hL : LdOk g) (hs : s = 1 ∨ s = 2 ∨ s = 3) : Ev (lop (sX11_fewest_9 20000 (np g) s μ) FU 0) (fun r => match r with | .inl _ => RwN g s | .inr (a, b, c) => RwF g s a b c) := by
  have nb := np_b hL
  refine Ev_lop (fun c => (0 ≤ c ∧ c ≤ np g) ∧ ∀ x y z, x < c → Rw s (np g) x y z → ¬Cov g x y z) (fun c => (np g - c).toNat) ⟨by omega, fun x y z hz r => by unfold Rw at r; omega⟩ (by unfold FU; omega) ?_
  intro v3 ⟨k1, k2⟩
  unfold sX11_fewest_9
  refine Ev_ite (fun w => Ev_out (fun x y z r => k2 x y z (by unfold Rw at r; omega) r)) (fun w => ?_)
  have h5 : Pl g v3 := ⟨by omega, by omega⟩
  have go : ∀ c1, (s = 1 ∧ c1 = v3) ∨ (2 ≤ s ∧ c1 = v3 + 1) → Ev (jX11_fewest_26 20000 (np g) s v3 c1 μ) (Nx (fun c => (0 ≤ c ∧ c ≤ np g) ∧ ∀ x y z, x < c → Rw s (np g) x y z → ¬Cov g x y z) (fun c => (np g - c).toNat) (fun r => match r with | .inl _ => RwN g s | .inr (a, b, c) => RwF g s a b c) (np g - v3).toNat) := by
    intro c1 hc
    unfold jX11_fewest_26
    refine Ev_bind (r_f28 hM hG hL hs h5 hc) (fun r hr => ?_)
    rcases r with u | ⟨b, c⟩
    · dsimp only at hr ⊢
      cases u
      try simp (disch := omega) only [w32_eq, w64_eq, chk_T, chk_t, lt, lm, ob, Int.add_zero, Int.zero_add, true_and, and_true, if_true, if_false, ]
      refine Ev_in ⟨by omega, fun x y z hz r => ?_⟩ (by omega)
      by_cases e : x = v3
      · subst e; exact hr y z r
      · exact k2 x y z (by omega) r
    · dsimp only at hr ⊢
      refine Ev_out ⟨hr.1, hr.2.1, fun x y z hz r => ?_⟩
      by_cases e : x = v3
      · subst e; exact hr.2.2 y z (by omega) r
      · exact k2 x y z (by omega) r
  refine Ev_ite (fun u => go _ (.inl ⟨by omega, rfl⟩)) (fun u => ?_)
  try simp (disch := omega) only [w32_eq, w64_eq, chk_T, chk_t, lt, lm, ob, Int.add_zero, Int.zero_add, true_and, and_true, if_true, if_false, ]
  exact go _ (.inr ⟨by omega, rfl⟩)
theorem r_fewest (hM : Md μ) (hG : Gd μ g) (hL : LdOk g) : Ev (fX11_fewest 20000 (np g) μ) (fun r => Md r.2 ∧ ((r.1 = 0 ∧ GdS g (-1) (r.2 20018 0) (r.2 20018 1) (r.2 20018 2)) ∨ (1 ≤ r.1 ∧ GdS g r.1 (r.2 20018 0) (r.2 20018 1) (r.2 20018 2)))) := by
  unfold fX11_fewest
  refine Ev_bind (Ev_lop (P := fun r => match r with | .inl _ => GdS g (-1) (μ 20018 0) (μ 20018 1) (μ 20018 2) | .inr (s, a, b, c) => 1 ≤ s ∧ GdS g s a b c) (fun s => (1 ≤ s ∧ s ≤ 4) ∧ ∀ s', 1 ≤ s' → s' < s → RwN g s') (fun s => (4 - s).toNat) ⟨by omega, fun s' a b => by omega⟩ (by unfold FU; omega) ?_) ?_
  · intro v2 ⟨k1, k2⟩
    unfold sX11_fewest_2
    refine Ev_ite (fun w => Ev_out (GdS_none (fun s' a b => k2 s' a (by omega)))) (fun w => ?_)
    refine Ev_bind (r_f9 hM hG hL (s := v2) (by omega)) (fun r hr => ?_)
    rcases r with u | ⟨a, b, c⟩
    · dsimp only at hr ⊢
      cases u
      try simp (disch := omega) only [w32_eq, w64_eq, chk_T, chk_t, lt, lm, ob, Int.add_zero, Int.zero_add, true_and, and_true, if_true, if_false, ]
      refine Ev_in ⟨by omega, fun s' a b => ?_⟩ (by omega)
      by_cases e : s' = v2
      · subst e; exact hr
      · exact k2 s' a (by omega)
    · dsimp only at hr ⊢
      exact Ev_out ⟨k1.1, GdS_of (by omega) k2 hr rfl (fun _ => rfl) (fun _ => rfl)⟩
  · intro r hr
    rcases r with u | ⟨s, a, b, c⟩
    · cases u
      dsimp only at hr ⊢
      exact Ev_some ⟨hM, .inl ⟨rfl, hr⟩⟩
    · dsimp only at hr ⊢
      simp (disch := omega) only [w32_eq, w64_eq, chk_T, chk_t, lt, lm, ob, Int.add_zero, Int.zero_add, true_and, and_true, if_true, if_false, K20000, K20001, K20002, K20003, K20004, K20005, K20006, K20007, K20008, K20009, K20010, K20011, K20012, K20013, K20014, K20015, K20016, K20017, K20018, K20019, N20001, N20002, N20003, N20004, N20005, N20006, N20007, N20008, N20009, N20010, N20011, N20012, N20013, N20014, N20015, N20016, N20017, N20018, N20019, Md_32 hM, mst_n]
      have f : Fr [20018] [] μ (mst (mst (mst μ 20018 0 a) 20018 1 b) 20018 2 c) := ((Fr.row rfl rfl (by decide) (by decide)).tr (Fr.row rfl rfl (by decide) (by decide))).tr (Fr.row rfl rfl (by decide) (by decide))
      refine Ev_some ⟨f.md hM (by decide), .inr ⟨hr.1, ?_⟩⟩
      dsimp only
      simp (disch := omega) only [mst_s, mst_j]
      exact hr.2
theorem rr_guards (hM : Md μ) (hb : μ 20001 = b) (hA : AOk b) (n k : Int) : Ev (fX11_guards 20000 n k μ) (fun r => ZGuards b n k r.1) := by
  have a0 := hA.1
  unfold fX11_guards
  simp (disch := omega) only [w32_eq, w64_eq, chk_T, chk_t, lt, lm, ob, Int.add_zero, Int.zero_add, true_and, and_true, if_true, if_false, K20000, K20001, K20002, K20003, K20004, K20005, K20006, K20007, K20008, K20009, K20010, K20011, K20012, K20013, K20014, K20015, K20016, K20017, K20018, K20019, N20001, N20002, N20003, N20004, N20005, N20006, N20007, N20008, N20009, N20010, N20011, N20012, N20013, N20014, N20015, N20016, N20017, N20018, N20019, r_isOf hM hb]
  by_cases z : 0 ≤ n ∧ n < b 0
  · have nn : n = 0 ∨ n = 1 := by omega
    have hD := hA.2.2.2.2.1 n z.1 z.2
    have hG : G μ (710 + 200 * n) (lg b n) := G_lg hb nn
    rw [bi_t z, if_neg (by decide), r_placeOf nn]
    simp only [ob]
    refine Ev_bind (r_guardsOf hM hG hD) (fun μ1 ⟨f1, g1⟩ => ?_)
    have M1 := f1.md hM (by decide)
    rw [r_placesOf M1 (hG.fr f1 (by decide)) hD]
    simp only [ob]
    refine Ev_bind (r_fewest M1 g1 hD) ?_
    rintro ⟨r, μ2⟩ ⟨M2, h2⟩
    dsimp only at M2 h2 ⊢
    rcases h2 with ⟨e, d⟩ | ⟨e, d⟩
    · rw [if_pos e]
      refine Ev_some (.inl ⟨z, -1, _, _, _, d, ?_⟩)
      dsimp only; omega
    · have c3 := GdS_c d
      rw [if_neg (by omega)]
      refine Ev_ite (fun w => Ev_some (.inl ⟨z, r, _, _, _, d, .inl ⟨w, rfl⟩⟩)) (fun w => ?_)
      simp (disch := omega) only [w32_eq, w64_eq, chk_T, chk_t, lt, lm, ob, Int.add_zero, Int.zero_add, true_and, and_true, if_true, if_false, K20000, K20001, K20002, K20003, K20004, K20005, K20006, K20007, K20008, K20009, K20010, K20011, K20012, K20013, K20014, K20015, K20016, K20017, K20018, K20019, N20001, N20002, N20003, N20004, N20005, N20006, N20007, N20008, N20009, N20010, N20011, N20012, N20013, N20014, N20015, N20016, N20017, N20018, N20019, isIn_0]
      refine Ev_ite (fun u => Ev_some (.inl ⟨z, r, _, _, _, d, .inr (.inr (.inr (.inr ⟨w, by omega, rfl⟩)))⟩)) (fun u => ?_)
      simp (disch := omega) only [w32_eq, w64_eq, chk_T, chk_t, lt, lm, ob, Int.add_zero, Int.zero_add, true_and, and_true, if_true, if_false, K20000, K20001, K20002, K20003, K20004, K20005, K20006, K20007, K20008, K20009, K20010, K20011, K20012, K20013, K20014, K20015, K20016, K20017, K20018, K20019, N20001, N20002, N20003, N20004, N20005, N20006, N20007, N20008, N20009, N20010, N20011, N20012, N20013, N20014, N20015, N20016, N20017, N20018, N20019, Md_32 M2]
      refine Ev_some (.inl ⟨z, r, _, _, _, d, ?_⟩)
      dsimp only
      have : k = 0 ∨ k = 1 ∨ k = 2 := by omega
      rcases this with e | e | e
      · subst e; exact .inr (.inl ⟨rfl, by omega, rfl⟩)
      · subst e; exact .inr (.inr (.inl ⟨rfl, by omega, rfl⟩))
      · subst e; exact .inr (.inr (.inr (.inl ⟨rfl, by omega, rfl⟩)))
  · rw [bi_f z, if_pos rfl]; exact Ev_some (.inr ⟨z, rfl⟩)
end
