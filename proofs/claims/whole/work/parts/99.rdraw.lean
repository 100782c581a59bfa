/-! ===== draw, scrawl of the reference ===== -/
section
variable {μ μ' : Mm} {b b' : Int → Int} {vb : Int}
theorem r_isFree1 (hM : Md μ) (hb : μ 20001 = b) (hA : AOk b) (a : Int) : fX11_isFree 20000 1 a μ = some (bi (slt (b 1) a ≠ -2)) := by
  have a1 := hA.2.1
  unfold fX11_isFree jX11_isFree_20 slt
  by_cases h1 : a = -1
  · rw [if_pos h1, if_pos h1]
    simp (disch := omega) only [w32_eq, w64_eq, chk_T, chk_t, lt, lm, ob, Int.add_zero, Int.zero_add, true_and, and_true, if_true, if_false, K20000, K20001, K20002, K20003, K20004, K20005, K20006, K20007, K20008, K20009, K20010, K20011, K20012, K20013, K20014, K20015, K20016, K20017, K20018, K20019, N20001, N20002, N20003, N20004, N20005, N20006, N20007, N20008, N20009, N20010, N20011, N20012, N20013, N20014, N20015, N20016, N20017, N20018, N20019, Md_0 hM, hb]
    rw [if_neg (by decide)]
    by_cases h2 : 4 ≤ b 1
    · rw [if_pos h2, if_pos h2, bi_f (fun z => z rfl)]
    · rw [if_neg h2, if_neg h2, bi_t (by omega)]
  · rw [if_neg h1, if_neg h1]
    simp (disch := omega) only [w32_eq, w64_eq, chk_T, chk_t, lt, lm, ob, Int.add_zero, Int.zero_add, true_and, and_true, if_true, if_false, K20000, K20001, K20002, K20003, K20004, K20005, K20006, K20007, K20008, K20009, K20010, K20011, K20012, K20013, K20014, K20015, K20016, K20017, K20018, K20019, N20001, N20002, N20003, N20004, N20005, N20006, N20007, N20008, N20009, N20010, N20011, N20012, N20013, N20014, N20015, N20016, N20017, N20018, N20019, r_isOf hM hb]
    rw [chk_t (bi_b _)]
    by_cases h2 : 0 ≤ a ∧ a < b 1
    · rw [bi_t h2, if_neg (by omega), if_neg (by omega), bi_t (by omega)]
    · rw [bi_f h2]
      by_cases h3 : a < 0
      · rw [if_pos h3, bi_f (fun z => z rfl)]
      · rw [if_neg h3, if_pos (by omega), bi_f (fun z => z rfl)]
/-- what the reference does -/
def DQ (μ : Mm) (b : Int → Int) (ok : Prop) (a : Int) (s : Int → Int) (r : Int × Mm) : Prop := (¬ok ∧ r.1 = -1 ∧ r.2 20001 = μ 20001) ∨ (ok ∧ r.1 = slt (b 1) a ∧ Us b (r.2 20001) r.1 s ∧ ∀ x, 1240 ≤ x → r.2 20001 x = b x)
theorem r_keeps1 (hM : Md μ) (hb : μ 20001 = b) (hA : AOk b) {a : Int} (h : slt (b 1) a ≠ -2) : Ev (fX11_keeps 20000 1 a μ) (fun r => Fr [20001] [] μ r.2 ∧ r.1 = slt (b 1) a ∧ r.2 20001 1 = (if b 1 ≤ r.1 then r.1 + 1 else b 1) ∧ ∀ x, x ≠ 1 → r.2 20001 x = b x) := by
  have a1 := hA.2.1
  have sb := slt_b (by omega) h
  unfold slt at h sb ⊢
  unfold fX11_keeps
  by_cases h1 : a = -1
  · rw [if_pos h1] at h sb ⊢
    rw [if_pos h1]
    rw [if_neg (fun z => h (by rw [if_pos z]))] at sb ⊢
    simp (disch := omega) only [w32_eq, w64_eq, chk_T, chk_t, lt, lm, ob, Int.add_zero, Int.zero_add, true_and, and_true, if_true, if_false, K20000, K20001, K20002, K20003, K20004, K20005, K20006, K20007, K20008, K20009, K20010, K20011, K20012, K20013, K20014, K20015, K20016, K20017, K20018, K20019, N20001, N20002, N20003, N20004, N20005, N20006, N20007, N20008, N20009, N20010, N20011, N20012, N20013, N20014, N20015, N20016, N20017, N20018, N20019, Md_0 hM, hb, mst_n, mst_s]
    refine Ev_some ⟨Fr.row rfl rfl (by decide) (by decide), by dsimp only; omega, ?_, fun x hx => ?_⟩
    · dsimp only; rw [mst_s, if_pos (by omega)]; omega
    · dsimp only; rw [mst_j hx, hb]
  · rw [if_neg h1] at h sb ⊢
    rw [if_neg h1]
    by_cases h2 : a < 0
    · rw [if_pos h2] at h; exact absurd rfl h
    · rw [if_neg h2] at h sb ⊢
      by_cases h3 : b 1 ≤ a
      · rw [if_pos h3] at h; exact absurd rfl h
      · rw [if_neg h3] at sb ⊢
        refine Ev_some ⟨Fr.rf, rfl, ?_, fun x _ => by dsimp only; rw [hb]⟩
        dsimp only; rw [if_neg h3, hb]
theorem rr_draw (hM : Md μ) (hDt : Dt μ) (hb : μ 20001 = b) (hA : AOk b) (n p st m a : Int) : Ev (fX11_draw 20000 n p st m a μ) (DQ μ b (slt (b 1) a ≠ -2 ∧ cD b n p st m 12) a (dw (lg b n) p st m)) := by
  have a1 := hA.2.1
  unfold fX11_draw
  simp (disch := omega) only [w32_eq, w64_eq, chk_T, chk_t, lt, lm, ob, Int.add_zero, Int.zero_add, true_and, and_true, if_true, if_false, K20000, K20001, K20002, K20003, K20004, K20005, K20006, K20007, K20008, K20009, K20010, K20011, K20012, K20013, K20014, K20015, K20016, K20017, K20018, K20019, N20001, N20002, N20003, N20004, N20005, N20006, N20007, N20008, N20009, N20010, N20011, N20012, N20013, N20014, N20015, N20016, N20017, N20018, N20019, r_isFree1 hM hb hA, bi_if]
  by_cases z : slt (b 1) a ≠ -2
  · rw [sel_t z]
    have sb := slt_b (by omega) z
    refine Ev_bind (r_canDraw hM hDt hb hA n p st m 12) ?_
    rintro ⟨r, μ1⟩ ⟨f1, e1, H1⟩
    dsimp only at f1 e1 H1 ⊢
    have M1 := f1.md hM (by decide)
    have b1 : μ1 20001 = b := (f1.1 20001 (by decide) (by decide)).trans hb
    by_cases c : cD b n p st m 12
    · have nn : n = 0 ∨ n = 1 := by have := hA.1; have := c.1.1.1; have := c.1.1.2; omega
      have hD := hA.2.2.2.2.1 n c.1.1.1 c.1.1.2
      rw [e1, bi_t c, if_neg (by decide)]
      refine Ev_bind (r_keeps1 M1 b1 hA z) ?_
      rintro ⟨k, μ2⟩ ⟨f2, e2, u1, u2⟩
      dsimp only at f2 e2 u1 u2 ⊢
      rw [← e2] at sb
      have M2 := f2.md M1 (by decide)
      have G1 := G_lg b1 nn
      have G2 : G μ2 (710 + 200 * n) (lg b n) := ⟨G1.1, fun i i0 i1 => by rw [u2 _ (by omega)]; have q := G1.2 i i0 i1; rw [b1] at q; exact q⟩
      · rw [r_placeOf nn, r_placeOf1 sb.1]
        simp only [ob]
        refine Ev_bind (r_draws M2 G2 hD c.1.2 ((H1 c.1).fr f2 (by decide) (by decide)) c.2.1 ⟨c.2.2.1, c.2.2.2.2, c.2.2.2.1⟩ (z := 1110 + 32 * k) (by omega)) (fun μ3 ⟨f3, S3, o3⟩ => ?_)
        refine Ev_some (.inr ⟨⟨z, c⟩, e2, ⟨fun x x0 x1 x2 x3 => ?_, ?_, fun i i0 i1 => S3.2 i i0 i1⟩, fun x x0 => ?_⟩)
        · dsimp only; rw [o3 x (by omega)]; exact u2 x x2
        · dsimp only; rw [o3 1 (by omega)]; exact u1
        · dsimp only; rw [o3 x (by omega)]; exact u2 x (by omega)
    · rw [e1, bi_f c, if_pos rfl]
      exact Ev_some (.inl ⟨fun u => c u.2, rfl, f1.1 20001 (by decide) (by decide)⟩)
  · rw [sel_f z]; exact Ev_some (.inl ⟨fun u => z u.1, rfl, rfl⟩)
end
