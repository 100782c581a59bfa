/-! ===== scrawl of the reference ===== -/
section
variable {μ μ' : Mm} {b b' : Int → Int} {vb : Int}
theorem isIn_b (v a c : Int) : isIn v a c = bi (a ≤ v ∧ v ≤ c) := by
  by_cases h : a ≤ v ∧ v ≤ c
  · rw [bi_t h, isIn_t h.1 h.2]
  · rw [bi_f h, isIn_f h]
theorem rr_scrawl (hM : Md μ) (hDt : Dt μ) (hb : μ 20001 = b) (hA : AOk b) (n p st m seed e a : Int) : Ev (fX11_scrawl 20000 n p st m seed e a μ) (DQ μ b (slt (b 1) a ≠ -2 ∧ cD b n p st m 9 ∧ 0 ≤ e ∧ e ≤ 20) a (sw (dw (lg b n) p st m) seed e)) := by
  have a1 := hA.2.1
  unfold fX11_scrawl
  simp (disch := omega) only [w32_eq, w64_eq, chk_T, chk_t, lt, lm, ob, Int.add_zero, Int.zero_add, true_and, and_true, if_true, if_false, K20000, K20001, K20002, K20003, K20004, K20005, K20006, K20007, K20008, K20009, K20010, K20011, K20012, K20013, K20014, K20015, K20016, K20017, K20018, K20019, N20001, N20002, N20003, N20004, N20005, N20006, N20007, N20008, N20009, N20010, N20011, N20012, N20013, N20014, N20015, N20016, N20017, N20018, N20019, r_isFree1 hM hb hA, bi_if]
  by_cases z : slt (b 1) a ≠ -2
  · rw [sel_t z]
    have sb := slt_b (by omega) z
    rw [isIn_b]
    by_cases he : 0 ≤ e ∧ e ≤ 20
    · rw [bi_t he, if_neg (by decide)]
      refine Ev_bind (r_canDraw hM hDt hb hA n p st m 9) ?_
      rintro ⟨r, μ1⟩ ⟨f1, e1, H1⟩
      dsimp only at f1 e1 H1 ⊢
      have M1 := f1.md hM (by decide)
      have b1 : μ1 20001 = b := (f1.1 20001 (by decide) (by decide)).trans hb
      by_cases c : cD b n p st m 9
      · have nn : n = 0 ∨ n = 1 := by have := hA.1; have := c.1.1.1; have := c.1.1.2; omega
        have hD := hA.2.2.2.2.1 n c.1.1.1 c.1.1.2
        have m1 := c.2.2.1; have m2 := c.2.2.2.1; have m3 := c.2.2.2.2
        rw [e1, bi_t c, if_neg (by decide)]
        refine Ev_bind (r_keeps1 M1 b1 hA z) ?_
        rintro ⟨k, μ2⟩ ⟨f2, e2, u1, u2⟩
        dsimp only at f2 e2 u1 u2 ⊢
        rw [← e2] at sb
        have M2 := f2.md M1 (by decide)
        have G1 := G_lg b1 nn
        have G2 : G μ2 (710 + 200 * n) (lg b n) := ⟨G1.1, fun i i0 i1 => by rw [u2 _ (by omega)]; have q := G1.2 i i0 i1; rw [b1] at q; exact q⟩
        rw [r_placeOf nn, r_placeOf1 sb.1]
        simp only [ob]
        refine Ev_bind (r_scrawls M2 G2 hD c.1.2 ((H1 c.1).fr f2 (by decide) (by decide)) c.2.1 (by omega) (z := 1110 + 32 * k) (by omega) he) (fun μ3 ⟨f3, S3, o3⟩ => ?_)
        refine Ev_some (.inr ⟨⟨z, c, he⟩, e2, ⟨fun x x0 x1 x2 x3 => ?_, ?_, fun i i0 i1 => S3.2 i i0 i1⟩, fun x x0 => ?_⟩)
        · dsimp only; rw [o3 x (by omega)]; exact u2 x x2
        · dsimp only; rw [o3 1 (by omega)]; exact u1
        · dsimp only; rw [o3 x (by omega)]; exact u2 x (by omega)
      · rw [e1, bi_f c, if_pos rfl]
        exact Ev_some (.inl ⟨fun u => c u.2.1, rfl, f1.1 20001 (by decide) (by decide)⟩)
    · rw [bi_f he, if_pos rfl]; exact Ev_some (.inl ⟨fun u => he u.2.2, rfl, rfl⟩)
  · rw [sel_f z]; exact Ev_some (.inl ⟨fun u => z u.1, rfl, rfl⟩)
end
