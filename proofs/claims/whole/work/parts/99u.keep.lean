/-! ===== what is read is kept ===== -/
def sl0 (m at' : Int) : Int := if at' = -1 then (if 2 ≤ m then -2 else m) else if at' < 0 then -2 else if m ≤ at' then -2 else at'
section
variable {μ μ' μ1 ν ν' ρ ρ' : Mm} {b b' t : Int → Int} {vb vb' n k c a : Int} {g : Int → Int}
theorem sl0_b {m : Int} (hb : 0 ≤ m ∧ m ≤ 2) (h : sl0 m a ≠ -2) : (0 ≤ sl0 m a ∧ sl0 m a < 2) ∧ sl0 m a ≤ m := by
  unfold sl0 at *
  split at h
  · split at h
    · exact absurd rfl h
    · rw [if_pos (by assumption), if_neg (by assumption)]; omega
  · split at h
    · exact absurd rfl h
    · split at h
      · exact absurd rfl h
      · rw [if_neg (by assumption), if_neg (by assumption), if_neg (by assumption)]; omega
theorem c_slotFor0 (hW : Nw μ b) (a : Int) : fX10_slotFor 100 0 a μ = some (sl0 (b 0) a) := by
  have t4 : μ 1000 4 = b 0 := hW.2.2.2.1.2.2.2.1
  unfold fX10_slotFor jX10_slotFor_12 jX10_slotFor_33 jX10_slotFor_43 sl0
  rw [if_pos rfl, if_pos rfl, if_pos rfl]
  simp (disch := omega) only [w32_eq, w64_eq, chk_T, chk_t, lt, lm, ob, Int.add_zero, Int.zero_add, true_and, and_true, if_true, if_false, K100, K101, K102, K103, K104, K200, K201, K230, K231, K232, K233, K234, K235, K236, K237, K250, K251, K252, K253, K254, K300, K301, K302, K303, K304, N101, N102, N103, N104, N201, N232, N233, N234, N235, N236, N237, N251, N252, N253, N254, N301, N302, N303, N304, X10F.f0 hW.1, X10F.f1 hW.1, X10F.f2 hW.1, X10F.f3 hW.1, X10F.f4 hW.1, X10F.f5 hW.1, X10F.f6 hW.1, X10F.f7 hW.1, X10F.f8 hW.1, X10F.f9 hW.1, X10F.f10 hW.1, K1000, t4]
  by_cases h1 : a = -1
  · rw [if_pos h1, if_pos h1]; split <;> rfl
  · rw [if_neg h1, if_neg h1]; split
    · rfl
    · split <;> rfl
theorem c_slotForX {so : Int} (h0 : so ≠ 0) (h1 : so ≠ 1) (a : Int) : fX10_slotFor 100 so a μ = some (-2) := by
  unfold fX10_slotFor; rw [if_neg h0, if_neg h1]
theorem r_isFree0 (hM : Md μ) (hb : μ 20001 = b) (hA : 0 ≤ b 0 ∧ b 0 ≤ 2) (a : Int) : fX11_isFree 20000 0 a μ = some (bi (sl0 (b 0) a ≠ -2)) := by
  unfold fX11_isFree jX11_isFree_20 sl0
  by_cases h1 : a = -1
  · rw [if_pos h1, if_pos h1]
    simp (disch := omega) only [w32_eq, w64_eq, chk_T, chk_t, lt, lm, ob, Int.add_zero, Int.zero_add, true_and, and_true, if_true, if_false, K20000, K20001, K20002, K20003, K20004, K20005, K20006, K20007, K20008, K20009, K20010, K20011, K20012, K20013, K20014, K20015, K20016, K20017, K20018, K20019, N20001, N20002, N20003, N20004, N20005, N20006, N20007, N20008, N20009, N20010, N20011, N20012, N20013, N20014, N20015, N20016, N20017, N20018, N20019, Md_0 hM, hb]
    by_cases h2 : 2 ≤ b 0
    · rw [if_pos h2, if_pos h2, bi_f (fun z => z rfl)]
    · rw [if_neg h2, if_neg h2, bi_t (by omega)]
  · rw [if_neg h1, if_neg h1]
    simp (disch := omega) only [w32_eq, w64_eq, chk_T, chk_t, lt, lm, ob, Int.add_zero, Int.zero_add, true_and, and_true, if_true, if_false, K20000, K20001, K20002, K20003, K20004, K20005, K20006, K20007, K20008, K20009, K20010, K20011, K20012, K20013, K20014, K20015, K20016, K20017, K20018, K20019, N20001, N20002, N20003, N20004, N20005, N20006, N20007, N20008, N20009, N20010, N20011, N20012, N20013, N20014, N20015, N20016, N20017, N20018, N20019, r_isOf hM hb]
    rw [chk_t (bi_b _)]
    by_cases h2 : 0 ≤ a ∧ a < b 0
    · rw [bi_t h2, if_neg (by omega), if_neg (by omega), bi_t (by omega)]
    · rw [bi_f h2]
      by_cases h3 : a < 0
      · rw [if_pos h3, bi_f (fun z => z rfl)]
      · rw [if_neg h3, if_pos (by omega), bi_f (fun z => z rfl)]
theorem r_isFree1' (hM : Md μ) (hb : μ 20001 = b) (hA : 0 ≤ b 1 ∧ b 1 ≤ 4) (a : Int) : fX11_isFree 20000 1 a μ = some (bi (slt (b 1) a ≠ -2)) := by
  unfold fX11_isFree jX11_isFree_20 slt
  by_cases h1 : a = -1
  · rw [if_pos h1, if_pos h1]
    simp (disch := omega) only [w32_eq, w64_eq, chk_T, chk_t, lt, lm, ob, Int.add_zero, Int.zero_add, true_and, and_true, if_true, if_false, K20000, K20001, K20002, K20003, K20004, K20005, K20006, K20007, K20008, K20009, K20010, K20011, K20012, K20013, K20014, K20015, K20016, K20017, K20018, K20019, N20001, N20002, N20003, N20004, N20005, N20006, N20007, N20008, N20009, N20010, N20011, N20012, N20013, N20014, N20015, N20016, N20017, N20018, N20019, Md_0 hM, hb]
    rw [if_neg (by decide)]
    by_cases h2 : 4 ≤ b 1
    · rw [if_pos h2, if_pos h2, bi_f (fun z => z rfl)]
    · rw [if_neg h2, if_neg h2, bi_t (by omega)]
  · rw [if_neg h1, if_neg h1]
    simp (disch := omega) only [w32_eq, w64_eq, chk_T, chk_t, lt, lm, ob, Int.add_zero, Int.zero_add, true_and, and_true, if_true, if_false, K20000, K20001, K20002, K20003, K20004, K20005, K20006, K20007, K20008, K20009, K20010, K20011, K20012, K20013, K20014, K20015, K20016, K20017, K20018, K20019, N20001, N20002, N20003, N20004, N20005, N20006, N20007, N20008, N20009, N20010, N20011, N20012, N20013, N20014, N20015, N20016, N20017, N20018, N20019, r_isOf hM hb]
    rw [chk_t (bi_b _)]
    by_cases h2 : 0 ≤ a ∧ a < b 1
    · rw [bi_t h2, if_neg (by omega), if_neg (by omega), bi_t (by omega)]
    · rw [bi_f h2]
      by_cases h3 : a < 0
      · rw [if_pos h3, bi_f (fun z => z rfl)]
      · rw [if_neg h3, if_pos (by omega), bi_f (fun z => z rfl)]
theorem r_keeps0 (hM : Md μ) (hb : μ 20001 = b) (hA : 0 ≤ b 0 ∧ b 0 ≤ 2) (h : sl0 (b 0) a ≠ -2) : Ev (fX11_keeps 20000 0 a μ) (fun r => Fr [20001] [] μ r.2 ∧ r.1 = sl0 (b 0) a ∧ r.2 20001 0 = (if b 0 ≤ r.1 then r.1 + 1 else b 0) ∧ ∀ x, x ≠ 0 → r.2 20001 x = b x) := by
  have sb := sl0_b (by omega) h
  unfold sl0 at h sb ⊢
  unfold fX11_keeps
  by_cases h1 : a = -1
  · rw [if_pos h1] at h sb ⊢
    rw [if_pos h1]
    rw [if_neg (fun z => h (by rw [if_pos z]))] at sb ⊢
    simp (disch := omega) only [w32_eq, w64_eq, chk_T, chk_t, lt, lm, ob, Int.add_zero, Int.zero_add, true_and, and_true, if_true, if_false, K20000, K20001, K20002, K20003, K20004, K20005, K20006, K20007, K20008, K20009, K20010, K20011, K20012, K20013, K20014, K20015, K20016, K20017, K20018, K20019, N20001, N20002, N20003, N20004, N20005, N20006, N20007, N20008, N20009, N20010, N20011, N20012, N20013, N20014, N20015, N20016, N20017, N20018, N20019, Md_0 hM, hb, mst_n, mst_s]
    refine Ev_some ⟨Fr.row rfl rfl (by decide) (by decide), by dsimp only; omega, ?_, fun x hx => ?_⟩
    · dsimp only; rw [mst_s, if_pos (by omega)]; omega
    · dsimp only; rw [mst_j hx, hb]
  · rw [if_neg h1] at h sb ⊢
    rw [if_neg h1]
    by_cases h2 : a < 0
    · rw [if_pos h2] at h; exact absurd rfl h
    · rw [if_neg h2] at h sb ⊢
      by_cases h3 : b 0 ≤ a
      · rw [if_pos h3] at h; exact absurd rfl h
      · rw [if_neg h3] at sb ⊢
        refine Ev_some ⟨Fr.rf, rfl, ?_, fun x _ => by dsimp only; rw [hb]⟩
        dsimp only; rw [if_neg h3, hb]
theorem r_copy {v1 k n B : Int} (hM : Md ρ) (hp : fX11_placeOf v1 k = some B) (hB : 0 ≤ B ∧ B + n ≤ 5000) (hn : 0 ≤ n ∧ n ≤ 200) : Ev (lop (sX11_text_152 20000 v1 k n) FU (0, ρ)) (fun ρ' => Fr [20001] [] ρ ρ' ∧ (∀ i, 0 ≤ i → i < n → ρ' 20001 (B + i) = ρ 20005 i) ∧ ∀ x, x < B ∨ B + n ≤ x → ρ' 20001 x = ρ 20001 x) := by
  refine Ev_lopF (pj := pjX11_text_152) (P := fun ρ' => Fr [20001] [] ρ ρ' ∧ (∀ i, 0 ≤ i → i < n → ρ' 20001 (B + i) = ρ 20005 i) ∧ ∀ x, x < B ∨ B + n ≤ x → ρ' 20001 x = ρ 20001 x) (fun s t h hM => frsX11_text_152 h hM) (by decide) hM (fun x => (0 ≤ x.1 ∧ x.1 ≤ n) ∧ (∀ i, 0 ≤ i → i < x.1 → x.2 20001 (B + i) = ρ 20005 i) ∧ ∀ y, y < B ∨ B + x.1 ≤ y → x.2 20001 y = ρ 20001 y) (fun x => (n - x.1).toNat) ⟨(by first | omega | (dsimp only; omega) | (dsimp only)), fun i i0 i1 => by dsimp only at i1; omega, fun y _ => rfl⟩ (by unfold FU; dsimp only; omega) ?_
  rintro ⟨v5, μ1⟩ M1 F1 ⟨q1, q2, q3⟩
  replace M1 : Md μ1 := M1
  have F1' : Fr [20001] [] ρ μ1 := F1
  have e5 : μ1 20005 = ρ 20005 := F1'.1 20005 (by decide) (by decide)
  dsimp only at q1 q2 q3 ⊢
  unfold sX11_text_152
  dsimp only
  refine Ev_ite (fun w => Ev_out (fun f => ⟨f, fun i i0 i1 => q2 i i0 (by omega), fun y hy => q3 y (by omega)⟩)) (fun w => ?_)
  rw [hp]
  simp (disch := omega) only [w32_eq, w64_eq, chk_T, chk_t, lt, lm, ob, Int.add_zero, Int.zero_add, true_and, and_true, if_true, if_false, K20000, K20001, K20002, K20003, K20004, K20005, K20006, K20007, K20008, K20009, K20010, K20011, K20012, K20013, K20014, K20015, K20016, K20017, K20018, K20019, N20001, N20002, N20003, N20004, N20005, N20006, N20007, N20008, N20009, N20010, N20011, N20012, N20013, N20014, N20015, N20016, N20017, N20018, N20019, Md_0 M1, Md_13 M1, e5]
  refine Ev_in ⟨(by first | omega | (dsimp only; omega) | (dsimp only)), fun i i0 i1 => ?_, fun y hy => ?_⟩ (by first | omega | (dsimp only; omega) | (dsimp only))
  · dsimp only at i1 ⊢
    by_cases e : i = v5
    · subst e; rw [mst_s]
    · rw [mst_j (by omega)]; exact q2 i i0 (by omega)
  · dsimp only at hy ⊢
    rw [mst_j (by omega)]; exact q3 y (by omega)
/-- the reference keeps a land -/
theorem r_117L (hM : Md ρ) (hb : ρ 20001 = b) (hA : 0 ≤ b 0 ∧ b 0 ≤ 2) (h3 : b 3 = 0) (h : sl0 (b 0) a ≠ -2) : Ev (jX11_text_117 20000 0 a ρ) (fun r => Fr [20001] [] ρ r.2 ∧ r.1 = sl0 (b 0) a ∧ Ul b (r.2 20001) r.1 (ρ 20005) ∧ ∀ x, 1240 ≤ x → r.2 20001 x = b x) := by
  have sb := sl0_b hA h
  unfold jX11_text_117
  simp (disch := omega) only [w32_eq, w64_eq, chk_T, chk_t, lt, lm, ob, Int.add_zero, Int.zero_add, true_and, and_true, if_true, if_false, K20000, K20001, K20002, K20003, K20004, K20005, K20006, K20007, K20008, K20009, K20010, K20011, K20012, K20013, K20014, K20015, K20016, K20017, K20018, K20019, N20001, N20002, N20003, N20004, N20005, N20006, N20007, N20008, N20009, N20010, N20011, N20012, N20013, N20014, N20015, N20016, N20017, N20018, N20019, Md_0 hM, hb, h3]
  refine Ev_bind (r_keeps0 hM hb hA h) ?_
  rintro ⟨k, ρ1⟩ ⟨f1, e1, e2, e3⟩
  dsimp only at f1 e1 e2 e3 ⊢
  rw [← e1] at sb
  have M1 := f1.md hM (by decide)
  have r5 : ρ1 20005 = ρ 20005 := f1.1 20005 (by decide) (by decide)
  unfold jX11_text_147
  refine Ev_bind (r_copy (v1 := 0) (k := k) (n := 200) (B := 710 + 200 * k) M1 (r_placeOf (by omega)) (by omega) (by omega)) (fun ρ2 ⟨f2, c2, o2⟩ => ?_)
  refine Ev_some ⟨f1.tr f2, e1, ⟨fun x x0 x1 x2 x3 => ?_, ?_, fun i i0 i1 => ?_⟩, fun x x0 => ?_⟩
  · dsimp only; rw [o2 x (by omega)]; exact e3 x x2
  · dsimp only; rw [o2 0 (by omega)]; exact e2
  · dsimp only; rw [c2 i i0 i1, r5]
  · dsimp only; rw [o2 x (by omega)]; exact e3 x (by omega)
theorem r_117S (hM : Md ρ) (hb : ρ 20001 = b) (hA : AOk b) (h3 : b 3 = 0) (h : slt (b 1) a ≠ -2) : Ev (jX11_text_117 20000 1 a ρ) (fun r => Fr [20001] [] ρ r.2 ∧ r.1 = slt (b 1) a ∧ Us b (r.2 20001) r.1 (ρ 20005) ∧ ∀ x, 1240 ≤ x → r.2 20001 x = b x) := by
  have sb := slt_b hA.2.1 h
  unfold jX11_text_117
  simp (disch := omega) only [w32_eq, w64_eq, chk_T, chk_t, lt, lm, ob, Int.add_zero, Int.zero_add, true_and, and_true, if_true, if_false, K20000, K20001, K20002, K20003, K20004, K20005, K20006, K20007, K20008, K20009, K20010, K20011, K20012, K20013, K20014, K20015, K20016, K20017, K20018, K20019, N20001, N20002, N20003, N20004, N20005, N20006, N20007, N20008, N20009, N20010, N20011, N20012, N20013, N20014, N20015, N20016, N20017, N20018, N20019, Md_0 hM, hb, h3]
  refine Ev_bind (r_keeps1 hM hb hA h) ?_
  rintro ⟨k, ρ1⟩ ⟨f1, e1, e2, e3⟩
  dsimp only at f1 e1 e2 e3 ⊢
  rw [← e1] at sb
  have M1 := f1.md hM (by decide)
  have r5 : ρ1 20005 = ρ 20005 := f1.1 20005 (by decide) (by decide)
  rw [if_neg (by decide)]
  unfold jX11_text_147
  refine Ev_bind (r_copy (v1 := 1) (k := k) (n := 32) (B := 1110 + 32 * k) M1 (r_placeOf1 sb.1) (by omega) (by omega)) (fun ρ2 ⟨f2, c2, o2⟩ => ?_)
  refine Ev_some ⟨f1.tr f2, e1, ⟨fun x x0 x1 x2 x3 => ?_, ?_, fun i i0 i1 => ?_⟩, fun x x0 => ?_⟩
  · dsimp only; rw [o2 x (by omega)]; exact e3 x x2
  · dsimp only; rw [o2 1 (by omega)]; exact e2
  · dsimp only; rw [c2 i i0 i1, r5]
  · dsimp only; rw [o2 x (by omega)]; exact e3 x (by omega)
theorem r_117N (hM : Md ρ) (h3 : ρ 20001 3 ≠ 0) (v1 : Int) : jX11_text_117 20000 v1 a ρ = some (-1, ρ) := by
  unfold jX11_text_117
  simp (disch := omega) only [w32_eq, w64_eq, chk_T, chk_t, lt, lm, ob, Int.add_zero, Int.zero_add, true_and, and_true, if_true, if_false, K20000, K20001, K20002, K20003, K20004, K20005, K20006, K20007, K20008, K20009, K20010, K20011, K20012, K20013, K20014, K20015, K20016, K20017, K20018, K20019, N20001, N20002, N20003, N20004, N20005, N20006, N20007, N20008, N20009, N20010, N20011, N20012, N20013, N20014, N20015, N20016, N20017, N20018, N20019, Md_0 hM]
  rw [if_neg h3]
/-! the class keeps -/
theorem c_keepLand (hW : Nw μ b) (hC : Ca μ b vb) (hvb : vb < 1000000000) (hr : RdI μ) (hk : 0 ≤ k ∧ k < 2) (hb : k ≤ b 0) : Ev (fX10_keepLand 100 k μ) (fun μ' => Fw (fun x => nR0 x ∨ x = 10000 + 2000 * k) μ μ' ∧ ∀ g b', La μ 210 g → LdOk g → Ul b b' k g → Nw μ' b' ∧ Ca μ' b' (vb + 1)) := by
  obtain ⟨hX, hKS, hSF, ⟨t1, t2, t3, t4, t5⟩, tt, tl, ts, hA⟩ := id hW
  obtain ⟨k1, k2, k3⟩ := hSF.2.1 k hk.1 hk.2
  have kk := hKS.2.2.2.2.1 k hk.1 hk.2
  have e6 : μ 1000 6 = 1002 := hSF.1.2.1
  rw [show (1000 : Int) + 2 = 1002 by decide, show (1000 : Int) + 10 + 10 * k = 1010 + 10 * k by omega] at k1
  rw [show (1000 : Int) + 10 + 10 * k = 1010 + 10 * k by omega] at k2 k3 kk
  have a0 : μ 200 0 = 210 := hr.1.1
  have n0 := hW.n0
  unfold fX10_keepLand
  rw [if_neg (by omega), if_pos (by omega)]
  simp (disch := omega) only [w32_eq, w64_eq, chk_T, chk_t, lt, lm, ob, Int.add_zero, Int.zero_add, true_and, and_true, if_true, if_false, K100, K101, K102, K103, K104, K200, K201, K230, K231, K232, K233, K234, K235, K236, K237, K250, K251, K252, K253, K254, K300, K301, K302, K303, K304, N101, N102, N103, N104, N201, N232, N233, N234, N235, N236, N237, N251, N252, N253, N254, N301, N302, N303, N304, X10F.f0 hX, X10F.f1 hX, X10F.f2 hX, X10F.f3 hX, X10F.f4 hX, X10F.f5 hX, X10F.f6 hX, X10F.f7 hX, X10F.f8 hX, X10F.f9 hX, X10F.f10 hX, K1000, K1002, N1002, e6, k1, kk.1, a0]
  refine Ev_bind (c_take2 kk (LaK_c (by omega)) k2 hr.2.1.1 hr.2.1.2 (by omega)) (fun μ1 ⟨f1, g1⟩ => ?_)
  have r100 : μ1 100 = μ 100 := f1 100 (by omega)
  have r1000 : μ1 1000 = μ 1000 := f1 1000 (by omega)
  simp (disch := omega) only [w32_eq, w64_eq, chk_T, chk_t, lt, lm, ob, Int.add_zero, Int.zero_add, true_and, and_true, if_true, if_false, K100, K101, K102, K103, K104, K200, K201, K230, K231, K232, K233, K234, K235, K236, K237, K250, K251, K252, K253, K254, K300, K301, K302, K303, K304, N101, N102, N103, N104, N201, N232, N233, N234, N235, N236, N237, N251, N252, N253, N254, N301, N302, N303, N304, r100, X10F.f0 hX, X10F.f1 hX, X10F.f2 hX, X10F.f3 hX, X10F.f4 hX, X10F.f5 hX, X10F.f6 hX, X10F.f7 hX, X10F.f8 hX, X10F.f9 hX, X10F.f10 hX, K1000, r1000, t4]
  have im : imax (b 0) (k + 1) = if b 0 ≤ k then k + 1 else b 0 := by
    unfold imax; split <;> split <;> omega
  rw [im]
  have f2 : Fw (fun x => x = 1000 ∨ 1010 + 10 * k ≤ x ∧ x ≤ 1015 + 10 * k) μ (mst μ1 1000 4 (if b 0 ≤ k then k + 1 else b 0)) := (f1.mo (fun x hx => .inr (by omega))).st (.inl rfl)
  have o2 : ∀ j, j ≠ 4 → mst μ1 1000 4 (if b 0 ≤ k then k + 1 else b 0) 1000 j = μ 1000 j := fun j hj => by rw [mst_j hj, r1000]
  have s2 : mst μ1 1000 4 (if b 0 ≤ k then k + 1 else b 0) 1000 4 = (if b 0 ≤ k then k + 1 else b 0) := mst_s
  have g2 : ∀ x, x ≠ 1000 → mst μ1 1000 4 (if b 0 ≤ k then k + 1 else b 0) x = μ1 x := fun x hx => mst_n hx
  generalize mst μ1 1000 4 (if b 0 ≤ k then k + 1 else b 0) = μ2 at *
  have fn : Fw nR0 μ μ2 := f2.mo (fun x hx => by unfold nR0; omega)
  have C2 := hC.n0 fn
  have X2 : X10F μ2 := by unfold X10F; rw [f2 100 (by omega)]; exact hX
  refine Ev_bind (c_forget X2 (n := k) (by omega) (C2.2 k hk.1 hk.2) hvb) (fun μ3 ⟨f3, S3⟩ => ?_)
  refine Ev_some ⟨(fn.mo (fun x hx => .inl hx)).tr (f3.mo (fun x hx => .inr hx)), fun g b' hL hO hU => ⟨?_, Ca_forgot C2 (by omega) hb f3 S3 hU⟩⟩
  have L1 := La_C g1 kk hL hO.t.2
  refine (Nw_land hW hk hb (g := g) f2 o2 s2 ?_ hO (fun i i0 i1 => ?_) hU).fw f3 (by omega) (fun x a b => by omega)
  · obtain ⟨x1, x2, x3, x4, x5⟩ := L1
    refine ⟨x1, ?_, ?_, ?_, ?_⟩
    · unfold LaF; rw [g2 _ (by omega)]; exact x2
    · rw [g2 _ (by omega)]; exact x3
    · rw [g2 _ (by omega)]; exact x4
    · rw [g2 _ (by omega), g2 _ (by omega), g2 _ (by omega), g2 _ (by omega)]; exact x5
  · rw [g2 _ (by omega), (g1.2.2.1 i i0 i1).2.1]; exact hr.2.1.2 i i0 i1
theorem c_keepSketchG (hW : Nw μ b) (hk : 0 ≤ k ∧ k < 4) (hb : k ≤ b 1) (hr : RdI μ) : Ev (fX10_keepSketch 100 k 220 μ) (fun μ' => Fw nR0 μ μ' ∧ ∀ s b', Sk μ 220 s → SkOk s → Us b b' k s → Nw μ' b') := by
  obtain ⟨hX, hKS, hSF, ⟨t1, t2, t3, t4, t5⟩, tt, tl, ts, hA⟩ := hW
  obtain ⟨k1, k2⟩ := hSF.2.2 k hk.1 hk.2
  have hF := hSF.1
  have a1 := hA.2.1
  have kk := hKS.2.2.2.2.2 k hk.1 hk.2
  have hB := hr.2.2.2
  have K2 : SkK 220 := ⟨by decide, ⟨by decide, by decide⟩, by decide, by decide⟩
  unfold fX10_keepSketch
  rw [if_neg (by omega), if_pos (by omega)]
  have e7 : μ 1000 7 = 1003 := hF.2.2
  rw [show (1000 : Int) + 3 = 1003 by decide, show (1000 : Int) + 40 + 10 * k = 1040 + 10 * k by omega] at k1
  rw [show (1000 : Int) + 40 + 10 * k = 1040 + 10 * k by omega] at k2 kk
  simp (disch := omega) only [w32_eq, w64_eq, chk_T, chk_t, lt, lm, ob, Int.add_zero, Int.zero_add, true_and, and_true, if_true, if_false, K100, K101, K102, K103, K104, K200, K201, K230, K231, K232, K233, K234, K235, K236, K237, K250, K251, K252, K253, K254, K300, K301, K302, K303, K304, N101, N102, N103, N104, N201, N232, N233, N234, N235, N236, N237, N251, N252, N253, N254, N301, N302, N303, N304, X10F.f0 hX, X10F.f1 hX, X10F.f2 hX, X10F.f3 hX, X10F.f4 hX, X10F.f5 hX, X10F.f6 hX, X10F.f7 hX, X10F.f8 hX, X10F.f9 hX, X10F.f10 hX, K1000, K1003, N1003, e7, k1, kk.1]
  refine Ev_bind (c_take6 kk K2 k2.1 hr.2.2.1 hB (by omega)) (fun μ1 ⟨f1, g1, g2, g3⟩ => ?_)
  have r100 : μ1 100 = μ 100 := f1 100 (by omega)
  have r1000 : μ1 1000 = μ 1000 := f1 1000 (by omega)
  simp (disch := omega) only [w32_eq, w64_eq, chk_T, chk_t, lt, lm, ob, Int.add_zero, Int.zero_add, true_and, and_true, if_true, if_false, K100, K101, K102, K103, K104, K200, K201, K230, K231, K232, K233, K234, K235, K236, K237, K250, K251, K252, K253, K254, K300, K301, K302, K303, K304, N101, N102, N103, N104, N201, N232, N233, N234, N235, N236, N237, N251, N252, N253, N254, N301, N302, N303, N304, r100, X10F.f0 hX, X10F.f1 hX, X10F.f2 hX, X10F.f3 hX, X10F.f4 hX, X10F.f5 hX, X10F.f6 hX, X10F.f7 hX, X10F.f8 hX, X10F.f9 hX, X10F.f10 hX, K1000, r1000, t5]
  have im : imax (b 1) (k + 1) = if b 1 ≤ k then k + 1 else b 1 := by
    unfold imax; split <;> split <;> omega
  rw [im]
  have f2 : Fw (fun x => x = 1000 ∨ 1040 + 10 * k ≤ x ∧ x ≤ 1042 + 10 * k) μ (mst μ1 1000 5 (if b 1 ≤ k then k + 1 else b 1)) := (f1.mo (fun x hx => .inr (by omega))).st (.inl rfl)
  refine Ev_some ⟨f2.mo (fun x hx => by unfold nR0; omega), fun s b' hS hO hU => ⟨?_, hKS, ?_, ?_, fun i i0 i1 => ?_, fun n n0 n1 => ?_, fun n n0 n1 => ?_, Us_ok hU hk hb hO hA⟩⟩
  · unfold X10F; rw [f2 100 (by omega)]; exact hX
  · refine ⟨?_, fun n n0 n1 => ?_, fun n n0 n1 => ?_⟩
    · rw [mst_j (by omega), mst_j (by omega), mst_j (by omega), r1000]; exact hF
    · have o := hSF.2.1 n n0 n1
      rw [f2 (1000 + 2) (by omega), f2 (1000 + 10 + 10 * n + 3) (by omega)]
      unfold LaF at o ⊢
      rw [f2 (1000 + 10 + 10 * n) (by omega)]; exact o
    · have o := hSF.2.2 n n0 n1
      rw [f2 (1000 + 3) (by omega)]
      by_cases e : n = k
      · subst e
        refine ⟨o.1, ?_, ?_⟩
        · unfold SkF at g3 ⊢
          rw [show (1000 : Int) + 40 + 10 * n = 1040 + 10 * n by omega, mst_n (by omega)]; exact g3
        · unfold SkB at hB ⊢
          rw [show (1000 : Int) + 40 + 10 * n = 1040 + 10 * n by omega, mst_n (by omega), g1 2 (by omega) (by omega), g1 3 (by omega) (by omega), g1 4 (by omega) (by omega)]; exact hB
      · unfold SkF SkB at o ⊢
        rw [f2 (1000 + 40 + 10 * n) (by omega)]; exact o
  · rw [mst_j (by omega), mst_j (by omega), mst_j (by omega), mst_j (by omega), mst_s, r1000, hU.2.1, hU.1 2 (by omega) (by omega) (by omega) (by omega), hU.1 3 (by omega) (by omega) (by omega) (by omega), hU.1 4 (by omega) (by omega) (by omega) (by omega), hU.1 0 (by omega) (by omega) (by omega) (by omega)]
    exact ⟨t1, t2, t3, t4, rfl⟩
  · rw [f2 (1000 + 1) (by omega), hU.1 _ (by omega) (by omega) (by omega) (by omega)]; exact tt i i0 i1
  · rw [hU.1 0 (by omega) (by omega) (by omega) (by omega)] at n1
    have a0 := hA.1
    rw [Us_lg hU hk (by omega)]
    exact (tl n n0 n1).fw f2 (fun x a c => by omega)
  · by_cases e : n = k
    · subst e
      refine Sk_e hO (Us_k hU) ?_
      rw [show (1000 : Int) + 40 + 10 * n = 1040 + 10 * n by omega]
      refine ⟨kk, ?_, ?_, fun i i0 i1 => ?_⟩
      · unfold SkF at g3 ⊢; rw [mst_n (by omega)]; exact g3
      · rw [mst_n (by omega), g1 0 (by omega) (by omega), g1 1 (by omega) (by omega), g1 2 (by omega) (by omega), g1 3 (by omega) (by omega), g1 4 (by omega) (by omega), g1 5 (by omega) (by omega), g1 6 (by omega) (by omega)]; exact hS.2.2.1
      · have o := hO.1
        have q := g2 i i0 (by omega)
        rw [mst_n (by omega), mst_n (by omega), q.1, q.2]; exact hS.2.2.2 i i0 i1
    · rw [hU.2.1] at n1
      have : n < b 1 := by split at n1 <;> omega
      rw [Us_ls hU hk (by omega) e]
      exact (ts n n0 this).fw f2 (fun x a c => by omega)
end
