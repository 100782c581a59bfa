/-! ===== draw, scrawl of the reference ===== -/
section
variable {μ μ' : Mm} {b b' : Int → Int} {vb : Int}
theorem r_isFree1 (hM : Md μ) (hb : μ 20001 = b) (hA : AOk b) (a : Int) : fX11_isFree 20000 1 a μ = some (bi (slt (b 1) a ≠ -2)) := by
  have a1 := hA.2.1
  unfold fX11_isFree jX11_isFree_20 slt
  by_cases h1 : a = -1
  · rw [if_pos h1, if_pos h1]
    simp (disch := omega) only [w32_eq, w64_eq, chk_T, chk_t, lt, lm, ob, Int.add_zero, Int.zero_add, true_and, and_true, if_true, if_false, K20000, K20001, K20002, K20003, K20004, K20005, K20006, K20007, K20008, K20009, K20010, K20011, K20012, K20013, K20014, K20015, K20016, K20017, K20018, K20019, N20001, N20002, N20003, N20004, N20005, N20006, N20007, N20008, N20009, N20010, N20011, N20012, N20013, N20014, N20015, N20016, N20017, N20018, N20019, Md_0 hM, hb]
    rw [if_neg (by decide)]
    by_cases h2 : 4 ≤ b 1
    · rw [if_pos h2, if_pos h2, bi_f (fun z => z rfl)]
    · rw [if_neg h2, if_neg h2, bi_t (by omega)]
  · rw [if_neg h1, if_neg h1]
    simp (disch := omega) only [w32_eq, w64_eq, chk_T, chk_t, lt, lm, ob, Int.add_zero, Int.zero_add, true_and, and_true, if_true, if_false, K20000, K20001, K20002, K20003, K20004, K20005, K20006, K20007, K20008, K20009, K20010, K20011, K20012, K20013, K20014, K20015, K20016, K20017, K20018, K20019, N20001, N20002, N20003, N20004, N20005, N20006, N20007, N20008, N20009, N20010, N20011, N20012, N20013, N20014, N20015, N20016, N20017, N20018, N20019, r_isOf hM hb]
    rw [chk_t (bi_b _)]
    by_cases h2 : 0 ≤ a ∧ a < b 1
    · rw [bi_t h2, if_neg (by omega), if_neg (by omega), bi_t (by omega)]
    · rw [bi_f h2]
      by_cases h3 : a < 0
      · rw [if_pos h3, bi_f (fun z => z rfl)]
      · rw [if_neg h3, if_pos (by omega), bi_f (fun z => z rfl)]
/-- what the reference does -/
def DQ (μ : Mm) (b : Int → Int) (ok : Prop) (a : Int) (s : Int → Int) (r : Int × Mm) : Prop := (¬ok ∧ r.1 = -1 ∧ r.2 20001 = μ 20001) ∨ (ok ∧ r.1 = slt (b 1) a ∧ Us b (r.2 20001) r.1 s ∧ ∀ x, 1240 ≤ x → r.2 20001 x = b x)
theorem r_keeps1 (hM : Md μ) (hb : μ 20001 = b) (hA : AOk b) {a : Int} (h : slt (b 1) a ≠ -2) : Ev (fX11_keeps 20000 1 a μ) (fun r => Fr [20001] [] μ r.2 ∧ r.1 = slt (b 1) a ∧ r.2 20001 1 = (if b 1 ≤ r.1 then r.1 + 1 else b 1) ∧ ∀ x, x ≠ 1 → r.2 20001 x = b x) := by
  have a1 := hA.2.1
  have sb := slt_b (by omega) h
  unfold slt at h sb ⊢
  unfold fX11_keeps
  by_cases h1 : a = -1
  · rw [if_pos h1] at h sb ⊢
    rw [if_pos h1]
    rw [if_neg (fun z => h (by rw [if_pos z]))] at sb ⊢
    simp (disch := omega) only [w32_eq, w64_eq, chk_T, chk_t, lt, lm, ob, Int.add_zero, Int.zero_add, true_and, and_true, if_true, if_false, K20000, K20001, K20002, K20003, K20004, K20005, K20006, K20007, K20008, K20009, K20010, K20011, K20012, K20013, K20014, K20015, K20016, K20017, K20018, K20019, N20001, N20002, N20003, N20004, N20005, N20006, N20007, N20008, N20009, N20010, N20011, N20012, N20013, N20014, N20015, N20016, N20017, N20018, N20019, Md_0 hM, hb, mst_n, mst_s]
    refine Ev_some ⟨Fr.row rfl rfl (by decide) (by decide), by dsimp only; omega, ?_, fun x hx => ?_⟩
    · dsimp only; rw [mst_s, if_pos (by omega)]; omega
    · dsimp only; rw [mst_j hx, hb]
  · rw [if_neg h1] at h sb ⊢
    rw [if_neg h1]
    by_cases h2 : a < 0
    · rw [if_pos h2] at h; exact absurd rfl h
    · rw [if_neg h2] at h sb ⊢
      by_cases h3 : b 1 ≤ a
      · rw [if_pos h3] at h; exact absurd rfl h
      · rw [if_neg h3] at sb ⊢
        refine Ev_some ⟨Fr.rf, rfl, ?_, fun x _ => by dsimp only; rw [hb]⟩
        dsimp only; rw [if_neg h3, hb]
end
