/-! ===== what has been told: both sides; peaks ===== -/
section
variable {μ : Mm} {b : Int → Int}
noncomputable def zzFault (b : Int → Int) (w : Int) : Int := if w = 0 then b 3 else if w = 1 then b 4 else -1
theorem q_fault (hW : Nw μ b) (w : Int) : fX10_fault 100 w μ = some (zzFault b w) := by
  have e2 : μ 1000 2 = b 3 := hW.2.2.2.1.2.1
  have e3 : μ 1000 3 = b 4 := hW.2.2.2.1.2.2.1
  unfold fX10_fault zzFault
  simp (disch := omega) only [w32_eq, w64_eq, chk_T, chk_t, lt, lm, ob, Int.add_zero, Int.zero_add, true_and, and_true, if_true, if_false, K100, K101, K102, K103, K104, K200, K201, K230, K231, K232, K233, K234, K235, K236, K237, K250, K251, K252, K253, K254, K300, K301, K302, K303, K304, N101, N102, N103, N104, N201, N232, N233, N234, N235, N236, N237, N251, N252, N253, N254, N301, N302, N303, N304, X10F.f0 hW.1, X10F.f1 hW.1, X10F.f2 hW.1, X10F.f3 hW.1, X10F.f4 hW.1, X10F.f5 hW.1, X10F.f6 hW.1, X10F.f7 hW.1, X10F.f8 hW.1, X10F.f9 hW.1, X10F.f10 hW.1, K1000, e2, e3]
  split
  · rfl
  · split <;> rfl
theorem rr_fault (hM : Md μ) (hb : μ 20001 = b) (w : Int) : fX11_fault 20000 w μ = some (zzFault b w) := by
  unfold fX11_fault zzFault
  simp (disch := omega) only [w32_eq, w64_eq, chk_T, chk_t, lt, lm, ob, Int.add_zero, Int.zero_add, true_and, and_true, if_true, if_false, K20000, K20001, K20002, K20003, K20004, K20005, K20006, K20007, K20008, K20009, K20010, K20011, K20012, K20013, K20014, K20015, K20016, K20017, K20018, K20019, N20001, N20002, N20003, N20004, N20005, N20006, N20007, N20008, N20009, N20010, N20011, N20012, N20013, N20014, N20015, N20016, N20017, N20018, N20019, Md_0 hM, hb]
  split
  · rfl
  · split <;> rfl
noncomputable def zzCount (b : Int → Int) (w : Int) : Int := if w = 0 then b 0 else if w = 1 then b 1 else -2
theorem q_count (hW : Nw μ b) (w : Int) : fX10_count 100 w μ = some (zzCount b w) := by
  have e2 : μ 1000 4 = b 0 := hW.2.2.2.1.2.2.2.1
  have e3 : μ 1000 5 = b 1 := hW.2.2.2.1.2.2.2.2
  unfold fX10_count zzCount
  simp (disch := omega) only [w32_eq, w64_eq, chk_T, chk_t, lt, lm, ob, Int.add_zero, Int.zero_add, true_and, and_true, if_true, if_false, K100, K101, K102, K103, K104, K200, K201, K230, K231, K232, K233, K234, K235, K236, K237, K250, K251, K252, K253, K254, K300, K301, K302, K303, K304, N101, N102, N103, N104, N201, N232, N233, N234, N235, N236, N237, N251, N252, N253, N254, N301, N302, N303, N304, X10F.f0 hW.1, X10F.f1 hW.1, X10F.f2 hW.1, X10F.f3 hW.1, X10F.f4 hW.1, X10F.f5 hW.1, X10F.f6 hW.1, X10F.f7 hW.1, X10F.f8 hW.1, X10F.f9 hW.1, X10F.f10 hW.1, K1000, e2, e3]
  split
  · rfl
  · split <;> rfl
theorem rr_count (hM : Md μ) (hb : μ 20001 = b) (w : Int) : fX11_count 20000 w μ = some (zzCount b w) := by
  unfold fX11_count zzCount
  by_cases h0 : w = 0
  · subst h0; simp (disch := omega) only [w32_eq, w64_eq, chk_T, chk_t, lt, lm, ob, Int.add_zero, Int.zero_add, true_and, and_true, if_true, if_false, K20000, K20001, K20002, K20003, K20004, K20005, K20006, K20007, K20008, K20009, K20010, K20011, K20012, K20013, K20014, K20015, K20016, K20017, K20018, K20019, N20001, N20002, N20003, N20004, N20005, N20006, N20007, N20008, N20009, N20010, N20011, N20012, N20013, N20014, N20015, N20016, N20017, N20018, N20019, Md_0 hM, hb, isIn_t]; rw [if_neg (by decide)]
  · by_cases h1 : w = 1
    · subst h1; simp (disch := omega) only [w32_eq, w64_eq, chk_T, chk_t, lt, lm, ob, Int.add_zero, Int.zero_add, true_and, and_true, if_true, if_false, K20000, K20001, K20002, K20003, K20004, K20005, K20006, K20007, K20008, K20009, K20010, K20011, K20012, K20013, K20014, K20015, K20016, K20017, K20018, K20019, N20001, N20002, N20003, N20004, N20005, N20006, N20007, N20008, N20009, N20010, N20011, N20012, N20013, N20014, N20015, N20016, N20017, N20018, N20019, Md_0 hM, hb, isIn_t]; rw [if_neg (by decide), if_neg (by decide)]
    · rw [isIn_f (by omega), if_pos rfl, if_neg h0, if_neg h1]
noncomputable def zzHeight (b : Int → Int) (n p : Int) : Int := sel (isP b n p) (lg b n (6 + p)) (-1)
theorem q_height (hW : Nw μ b) (n p : Int) : fX10_height 100 n p μ = some (zzHeight b n p) := by
  unfold fX10_height zzHeight
  simp (disch := omega) only [w32_eq, w64_eq, chk_T, chk_t, lt, lm, ob, Int.add_zero, Int.zero_add, true_and, and_true, if_true, if_false, K100, K101, K102, K103, K104, K200, K201, K230, K231, K232, K233, K234, K235, K236, K237, K250, K251, K252, K253, K254, K300, K301, K302, K303, K304, N101, N102, N103, N104, N201, N232, N233, N234, N235, N236, N237, N251, N252, N253, N254, N301, N302, N303, N304, c_landAt hW]
  by_cases hn : isL b n
  · have hD := hW.ld hn.1 hn.2; have hA := hW.la hn.1 hn.2
    rw [sel_t hn, if_neg (by have := hn.1; omega)]
    simp (disch := omega) only [w32_eq, w64_eq, chk_T, chk_t, lt, lm, ob, Int.add_zero, Int.zero_add, true_and, and_true, if_true, if_false, K100, K101, K102, K103, K104, K200, K201, K230, K231, K232, K233, K234, K235, K236, K237, K250, K251, K252, K253, K254, K300, K301, K302, K303, K304, N101, N102, N103, N104, N201, N232, N233, N234, N235, N236, N237, N251, N252, N253, N254, N301, N302, N303, N304, La_k hA, La_k1 hA, La_n1 hA, La_k2 hA, La_n2 hA, La_k3 hA, La_n3 hA, La_k4 hA, La_n4 hA, La_k5 hA, La_n5 hA, La_f6 hA, La_f7 hA, La_f8 hA, La_f9 hA, La_f10 hA, La_0 hA, La_1 hA, La_2 hA, La_3 hA, La_4 hA, La_5 hA, La_h hA, La_a hA, La_t hA, La_fr hA, La_to hA, c_has hA hD, bi_if]
    by_cases hp : Pl (lg b n) p
    · have bp := Pl.i hD hp
      rw [sel_t hp, sel_t ⟨hn, hp⟩]
      simp (disch := omega) only [w32_eq, w64_eq, chk_T, chk_t, lt, lm, ob, Int.add_zero, Int.zero_add, true_and, and_true, if_true, if_false, La_k hA, La_k1 hA, La_n1 hA, La_k2 hA, La_n2 hA, La_k3 hA, La_n3 hA, La_k4 hA, La_n4 hA, La_k5 hA, La_n5 hA, La_f6 hA, La_f7 hA, La_f8 hA, La_f9 hA, La_f10 hA, La_0 hA, La_1 hA, La_2 hA, La_3 hA, La_4 hA, La_5 hA, La_h hA, La_a hA, La_t hA, La_fr hA, La_to hA]
    · rw [sel_f hp, sel_f (fun z => hp z.2)]
  · rw [sel_f hn, if_pos rfl, sel_f (fun z => hn z.1)]
theorem rr_height (hM : Md μ) (hb : μ 20001 = b) (hA : AOk b) (n p : Int) : fX11_height 20000 n p μ = some (zzHeight b n p) := by
  apply Ev.eq
  unfold fX11_height zzHeight
  refine r_at hM hb hA (fun z => Ev_some (by rw [sel_f z])) (fun z hD hG nn => ?_)
  have bp := Pl.i hD z.2
  have e := hG.rd (i := 6 + p) (by omega) (by omega)
  rw [← Int.add_assoc] at e
  rw [sel_t z]
  simp (disch := omega) only [w32_eq, w64_eq, chk_T, chk_t, lt, lm, ob, Int.add_zero, Int.zero_add, true_and, and_true, if_true, if_false, K20000, K20001, K20002, K20003, K20004, K20005, K20006, K20007, K20008, K20009, K20010, K20011, K20012, K20013, K20014, K20015, K20016, K20017, K20018, K20019, N20001, N20002, N20003, N20004, N20005, N20006, N20007, N20008, N20009, N20010, N20011, N20012, N20013, N20014, N20015, N20016, N20017, N20018, N20019, Md_0 hM, e]
  exact Ev_some rfl
/-- a thing's number, its sort, its years -/
noncomputable def zzThing (g : Int → Int) (w : Int) : Int := if 0 ≤ w ∧ w ≤ 5 then g w else if 0 ≤ w - 10 ∧ w - 10 < g 5 then g (151 + 4 * (w - 10)) else if 0 ≤ w - 30 ∧ w - 30 < g 5 then g (150 + 4 * (w - 30)) else if 0 ≤ w - 50 ∧ w - 50 < g 5 then g (152 + 4 * (w - 50)) else if 0 ≤ w - 70 ∧ w - 70 < g 5 then g (153 + 4 * (w - 70)) else -1
noncomputable def zzLand (b : Int → Int) (n w : Int) : Int := sel (isL b n) (zzThing (lg b n) w) (-1)
theorem c_hasThing {c : Int} {g : Int → Int} (hA : La μ c g) (hL : LdOk g) {w k : Int} (hw : R32 w) (hk : 0 ≤ k ∧ k ≤ 100) : fX2_hasThing c (w32 (w - k)) μ = some (bi (0 ≤ w - k ∧ w - k < g 5)) := by
  have t := hL.t
  have e : w32 (w - k) = w - k ∨ (w - k < 0 ∧ 1000 ≤ w32 (w - k)) := by unfold w32 R32 at *; omega
  unfold fX2_hasThing
  simp (disch := omega) only [w32_eq, w64_eq, chk_T, chk_t, lt, lm, ob, Int.add_zero, Int.zero_add, true_and, and_true, if_true, if_false, La_k hA, La_k1 hA, La_n1 hA, La_k2 hA, La_n2 hA, La_k3 hA, La_n3 hA, La_k4 hA, La_n4 hA, La_k5 hA, La_n5 hA, La_f6 hA, La_f7 hA, La_f8 hA, La_f9 hA, La_f10 hA, La_0 hA, La_1 hA, La_2 hA, La_3 hA, La_4 hA, La_5 hA, La_h hA, La_a hA, La_t hA, La_fr hA, La_to hA]
  rcases e with e | e
  · rw [e]
    by_cases z : 0 ≤ w - k ∧ w - k < g 5
    · rw [if_neg (by omega), if_neg (by omega), if_neg (by omega), bi_t z]
    · rw [bi_f z]
      by_cases y : w - k < 0
      · rw [if_pos y]
      · rw [if_neg y, if_pos (by omega)]
  · rw [bi_f (by omega), if_neg (by omega), if_pos (by omega)]
theorem q_land (hW : Nw μ b) (n : Int) {w : Int} (hw : R32 w) : fX10_land 100 n w μ = some (zzLand b n w) := by
  unfold fX10_land zzLand
  simp (disch := omega) only [w32_eq, w64_eq, chk_T, chk_t, lt, lm, ob, Int.add_zero, Int.zero_add, true_and, and_true, if_true, if_false, K100, K101, K102, K103, K104, K200, K201, K230, K231, K232, K233, K234, K235, K236, K237, K250, K251, K252, K253, K254, K300, K301, K302, K303, K304, N101, N102, N103, N104, N201, N232, N233, N234, N235, N236, N237, N251, N252, N253, N254, N301, N302, N303, N304, c_landAt hW]
  by_cases hn : isL b n
  · have hD := hW.ld hn.1 hn.2; have hA := hW.la hn.1 hn.2
    have t := hD.t
    rw [sel_t hn, if_neg (by have := hn.1; omega), sel_t hn]
    simp (disch := omega) only [w32_eq, w64_eq, chk_T, chk_t, lt, lm, ob, Int.add_zero, Int.zero_add, true_and, and_true, if_true, if_false, K100, K101, K102, K103, K104, K200, K201, K230, K231, K232, K233, K234, K235, K236, K237, K250, K251, K252, K253, K254, K300, K301, K302, K303, K304, N101, N102, N103, N104, N201, N232, N233, N234, N235, N236, N237, N251, N252, N253, N254, N301, N302, N303, N304, La_k hA, La_k1 hA, La_n1 hA, La_k2 hA, La_n2 hA, La_k3 hA, La_n3 hA, La_k4 hA, La_n4 hA, La_k5 hA, La_n5 hA, La_f6 hA, La_f7 hA, La_f8 hA, La_f9 hA, La_f10 hA, La_0 hA, La_1 hA, La_2 hA, La_3 hA, La_4 hA, La_5 hA, La_h hA, La_a hA, La_t hA, La_fr hA, La_to hA]
    unfold zzThing
    by_cases z : 0 ≤ w ∧ w ≤ 5
    · have : w = 0 ∨ w = 1 ∨ w = 2 ∨ w = 3 ∨ w = 4 ∨ w = 5 := by omega
      rcases this with e | e | e | e | e | e <;> (subst e; rfl)
    · rw [if_neg (by omega), if_neg (by omega), if_neg (by omega), if_neg (by omega), if_neg (by omega), if_neg (by omega), if_neg z]
      have hT := fun k h => c_hasThing (k := k) hA hD hw h
      unfold fX2_tellThing
      simp (disch := omega) only [w32_eq, w64_eq, chk_T, chk_t, lt, lm, ob, Int.add_zero, Int.zero_add, true_and, and_true, if_true, if_false, La_k hA, La_k1 hA, La_n1 hA, La_k2 hA, La_n2 hA, La_k3 hA, La_n3 hA, La_k4 hA, La_n4 hA, La_k5 hA, La_n5 hA, La_f6 hA, La_f7 hA, La_f8 hA, La_f9 hA, La_f10 hA, La_0 hA, La_1 hA, La_2 hA, La_3 hA, La_4 hA, La_5 hA, La_h hA, La_a hA, La_t hA, La_fr hA, La_to hA, hT 10 (by decide), hT 30 (by decide), hT 50 (by decide), hT 70 (by decide), bi_if]
      by_cases a : 0 ≤ w - 10 ∧ w - 10 < lg b n 5
      · rw [sel_t a, if_pos a]; simp (disch := omega) only [w32_eq, w64_eq, chk_T, chk_t, lt, lm, ob, Int.add_zero, Int.zero_add, true_and, and_true, if_true, if_false, La_k hA, La_k1 hA, La_n1 hA, La_k2 hA, La_n2 hA, La_k3 hA, La_n3 hA, La_k4 hA, La_n4 hA, La_k5 hA, La_n5 hA, La_f6 hA, La_f7 hA, La_f8 hA, La_f9 hA, La_f10 hA, La_0 hA, La_1 hA, La_2 hA, La_3 hA, La_4 hA, La_5 hA, La_h hA, La_a hA, La_t hA, La_fr hA, La_to hA]
      · rw [sel_f a, if_neg a]
        by_cases a : 0 ≤ w - 30 ∧ w - 30 < lg b n 5
        · rw [sel_t a, if_pos a]; simp (disch := omega) only [w32_eq, w64_eq, chk_T, chk_t, lt, lm, ob, Int.add_zero, Int.zero_add, true_and, and_true, if_true, if_false, La_k hA, La_k1 hA, La_n1 hA, La_k2 hA, La_n2 hA, La_k3 hA, La_n3 hA, La_k4 hA, La_n4 hA, La_k5 hA, La_n5 hA, La_f6 hA, La_f7 hA, La_f8 hA, La_f9 hA, La_f10 hA, La_0 hA, La_1 hA, La_2 hA, La_3 hA, La_4 hA, La_5 hA, La_h hA, La_a hA, La_t hA, La_fr hA, La_to hA]
          have := (hD.tt a.1 a.2).1
          rcases this with e | e <;> rw [e] <;> rfl
        · rw [sel_f a, if_neg a]
          by_cases a : 0 ≤ w - 50 ∧ w - 50 < lg b n 5
          · rw [sel_t a, if_pos a]; simp (disch := omega) only [w32_eq, w64_eq, chk_T, chk_t, lt, lm, ob, Int.add_zero, Int.zero_add, true_and, and_true, if_true, if_false, La_k hA, La_k1 hA, La_n1 hA, La_k2 hA, La_n2 hA, La_k3 hA, La_n3 hA, La_k4 hA, La_n4 hA, La_k5 hA, La_n5 hA, La_f6 hA, La_f7 hA, La_f8 hA, La_f9 hA, La_f10 hA, La_0 hA, La_1 hA, La_2 hA, La_3 hA, La_4 hA, La_5 hA, La_h hA, La_a hA, La_t hA, La_fr hA, La_to hA]
          · rw [sel_f a, if_neg a]
            by_cases a : 0 ≤ w - 70 ∧ w - 70 < lg b n 5
            · rw [sel_t a, if_pos a]; simp (disch := omega) only [w32_eq, w64_eq, chk_T, chk_t, lt, lm, ob, Int.add_zero, Int.zero_add, true_and, and_true, if_true, if_false, La_k hA, La_k1 hA, La_n1 hA, La_k2 hA, La_n2 hA, La_k3 hA, La_n3 hA, La_k4 hA, La_n4 hA, La_k5 hA, La_n5 hA, La_f6 hA, La_f7 hA, La_f8 hA, La_f9 hA, La_f10 hA, La_0 hA, La_1 hA, La_2 hA, La_3 hA, La_4 hA, La_5 hA, La_h hA, La_a hA, La_t hA, La_fr hA, La_to hA]
            · rw [sel_f a, if_neg a]; simp only [ob]
  · rw [sel_f hn, if_pos rfl, sel_f hn]
theorem rr_land (hM : Md μ) (hb : μ 20001 = b) (hA : AOk b) (n : Int) {w : Int} (hw : R32 w) : fX11_land 20000 n w μ = some (zzLand b n w) := by
  have a0 := hA.1
  unfold R32 at hw
  unfold fX11_land zzLand
  simp (disch := omega) only [w32_eq, w64_eq, chk_T, chk_t, lt, lm, ob, Int.add_zero, Int.zero_add, true_and, and_true, if_true, if_false, K20000, K20001, K20002, K20003, K20004, K20005, K20006, K20007, K20008, K20009, K20010, K20011, K20012, K20013, K20014, K20015, K20016, K20017, K20018, K20019, N20001, N20002, N20003, N20004, N20005, N20006, N20007, N20008, N20009, N20010, N20011, N20012, N20013, N20014, N20015, N20016, N20017, N20018, N20019, r_isL hM hb hA, bi_if]
  by_cases z : isL b n
  · have nn : n = 0 ∨ n = 1 := by have := z.1; have := z.2; omega
    have hD := hA.2.2.2.2.1 n z.1 z.2
    have hG := G_lg hb nn
    have hl := hG.1
    have t := hD.t
    rw [sel_t z, sel_t z, r_placeOf nn]
    simp (disch := omega) only [w32_eq, w64_eq, chk_T, chk_t, lt, lm, ob, Int.add_zero, Int.zero_add, true_and, and_true, if_true, if_false, K20000, K20001, K20002, K20003, K20004, K20005, K20006, K20007, K20008, K20009, K20010, K20011, K20012, K20013, K20014, K20015, K20016, K20017, K20018, K20019, N20001, N20002, N20003, N20004, N20005, N20006, N20007, N20008, N20009, N20010, N20011, N20012, N20013, N20014, N20015, N20016, N20017, N20018, N20019, Md_0 hM, isIn_0]
    have e5 := hG.rd (i := 5) (by decide) (by decide)
    generalize 710 + 200 * n = l at *
    unfold zzThing
    by_cases y : 0 ≤ w ∧ w ≤ 5
    · rw [if_neg (fun h => h y), if_pos y]
      have e := hG.rd y.1 (show w < 200 by omega)
      simp (disch := omega) only [w32_eq, w64_eq, chk_T, chk_t, lt, lm, ob, Int.add_zero, Int.zero_add, true_and, and_true, if_true, if_false, K20000, K20001, K20002, K20003, K20004, K20005, K20006, K20007, K20008, K20009, K20010, K20011, K20012, K20013, K20014, K20015, K20016, K20017, K20018, K20019, N20001, N20002, N20003, N20004, N20005, N20006, N20007, N20008, N20009, N20010, N20011, N20012, N20013, N20014, N20015, N20016, N20017, N20018, N20019, Md_0 hM, e]
    · rw [if_pos y, if_neg y]
      have key : ∀ k i j : Int, k = 10 ∨ k = 30 ∨ k = 50 ∨ k = 70 → w - k = i → (0 ≤ i ∧ i < lg b n 5) → 0 ≤ j → j ≤ 3 → μ 20001 (l + 150 + 4 * i + j) = lg b n (150 + j + 4 * i) := by
        intro k i j _ _ hi j0 j1
        have e := hG.rd (i := 150 + j + 4 * i) (by omega) (by omega)
        rwa [show l + (150 + j + 4 * i) = l + 150 + 4 * i + j by omega] at e
      unfold jX11_land_78
      by_cases c30 : 30 ≤ w
      · by_cases c50 : 50 ≤ w
        · by_cases c70 : 70 ≤ w
          · simp only [if_pos c30, if_pos c50, if_pos c70]
            rw [if_neg (show ¬w < 10 by omega)]
            simp (disch := omega) only [w32_eq, w64_eq, chk_T, chk_t, lt, lm, ob, Int.add_zero, Int.zero_add, true_and, and_true, if_true, if_false, K20000, K20001, K20002, K20003, K20004, K20005, K20006, K20007, K20008, K20009, K20010, K20011, K20012, K20013, K20014, K20015, K20016, K20017, K20018, K20019, N20001, N20002, N20003, N20004, N20005, N20006, N20007, N20008, N20009, N20010, N20011, N20012, N20013, N20014, N20015, N20016, N20017, N20018, N20019, Md_0 hM, e5, isIn_0]
            rw [if_neg (c := 0 ≤ w - 10 ∧ w - 10 < lg b n 5) (by omega), if_neg (c := 0 ≤ w - 30 ∧ w - 30 < lg b n 5) (by omega), if_neg (c := 0 ≤ w - 50 ∧ w - 50 < lg b n 5) (by omega)]
            by_cases a : 0 ≤ w - 70 ∧ w - 70 < lg b n 5
            · rw [if_neg (by omega), if_pos a]
              have e := key 70 (w - 70) 3 (by omega) rfl a (by decide) (by decide); rw [show (150 : Int) + 3 = 153 by decide] at e
              simp (disch := omega) only [w32_eq, w64_eq, chk_T, chk_t, lt, lm, ob, Int.add_zero, Int.zero_add, true_and, and_true, if_true, if_false, K20000, K20001, K20002, K20003, K20004, K20005, K20006, K20007, K20008, K20009, K20010, K20011, K20012, K20013, K20014, K20015, K20016, K20017, K20018, K20019, N20001, N20002, N20003, N20004, N20005, N20006, N20007, N20008, N20009, N20010, N20011, N20012, N20013, N20014, N20015, N20016, N20017, N20018, N20019, e]
            · rw [if_pos (by omega), if_neg a]
          · simp only [if_pos c30, if_pos c50, if_neg c70]
            rw [if_neg (show ¬w < 10 by omega)]
            simp (disch := omega) only [w32_eq, w64_eq, chk_T, chk_t, lt, lm, ob, Int.add_zero, Int.zero_add, true_and, and_true, if_true, if_false, K20000, K20001, K20002, K20003, K20004, K20005, K20006, K20007, K20008, K20009, K20010, K20011, K20012, K20013, K20014, K20015, K20016, K20017, K20018, K20019, N20001, N20002, N20003, N20004, N20005, N20006, N20007, N20008, N20009, N20010, N20011, N20012, N20013, N20014, N20015, N20016, N20017, N20018, N20019, Md_0 hM, e5, isIn_0]
            rw [if_neg (c := 0 ≤ w - 10 ∧ w - 10 < lg b n 5) (by omega), if_neg (c := 0 ≤ w - 30 ∧ w - 30 < lg b n 5) (by omega), if_neg (c := 0 ≤ w - 70 ∧ w - 70 < lg b n 5) (by omega)]
            by_cases a : 0 ≤ w - 50 ∧ w - 50 < lg b n 5
            · rw [if_neg (by omega), if_pos a]
              have e := key 50 (w - 50) 2 (by omega) rfl a (by decide) (by decide); rw [show (150 : Int) + 2 = 152 by decide] at e
              simp (disch := omega) only [w32_eq, w64_eq, chk_T, chk_t, lt, lm, ob, Int.add_zero, Int.zero_add, true_and, and_true, if_true, if_false, K20000, K20001, K20002, K20003, K20004, K20005, K20006, K20007, K20008, K20009, K20010, K20011, K20012, K20013, K20014, K20015, K20016, K20017, K20018, K20019, N20001, N20002, N20003, N20004, N20005, N20006, N20007, N20008, N20009, N20010, N20011, N20012, N20013, N20014, N20015, N20016, N20017, N20018, N20019, e]
            · rw [if_pos (by omega), if_neg a]
        · simp only [if_pos c30, if_neg c50]
          rw [if_neg (show ¬w < 10 by omega)]
          simp (disch := omega) only [w32_eq, w64_eq, chk_T, chk_t, lt, lm, ob, Int.add_zero, Int.zero_add, true_and, and_true, if_true, if_false, K20000, K20001, K20002, K20003, K20004, K20005, K20006, K20007, K20008, K20009, K20010, K20011, K20012, K20013, K20014, K20015, K20016, K20017, K20018, K20019, N20001, N20002, N20003, N20004, N20005, N20006, N20007, N20008, N20009, N20010, N20011, N20012, N20013, N20014, N20015, N20016, N20017, N20018, N20019, Md_0 hM, e5, isIn_0]
          rw [if_neg (c := 0 ≤ w - 10 ∧ w - 10 < lg b n 5) (by omega), if_neg (c := 0 ≤ w - 50 ∧ w - 50 < lg b n 5) (by omega), if_neg (c := 0 ≤ w - 70 ∧ w - 70 < lg b n 5) (by omega)]
          by_cases a : 0 ≤ w - 30 ∧ w - 30 < lg b n 5
          · rw [if_neg (by omega), if_pos a]
            have e := key 30 (w - 30) 0 (by omega) rfl a (by decide) (by decide)
            rw [Int.add_zero, Int.add_zero] at e
            simp (disch := omega) only [w32_eq, w64_eq, chk_T, chk_t, lt, lm, ob, Int.add_zero, Int.zero_add, true_and, and_true, if_true, if_false, K20000, K20001, K20002, K20003, K20004, K20005, K20006, K20007, K20008, K20009, K20010, K20011, K20012, K20013, K20014, K20015, K20016, K20017, K20018, K20019, N20001, N20002, N20003, N20004, N20005, N20006, N20007, N20008, N20009, N20010, N20011, N20012, N20013, N20014, N20015, N20016, N20017, N20018, N20019, e]
          · rw [if_pos (by omega), if_neg a]
      · simp only [if_neg c30]
        rw [if_neg (c := 0 ≤ w - 30 ∧ w - 30 < lg b n 5) (by omega), if_neg (c := 0 ≤ w - 50 ∧ w - 50 < lg b n 5) (by omega), if_neg (c := 0 ≤ w - 70 ∧ w - 70 < lg b n 5) (by omega)]
        by_cases c10 : w < 10
        · rw [if_pos c10, if_neg (by omega)]
        · rw [if_neg c10]
          simp (disch := omega) only [w32_eq, w64_eq, chk_T, chk_t, lt, lm, ob, Int.add_zero, Int.zero_add, true_and, and_true, if_true, if_false, K20000, K20001, K20002, K20003, K20004, K20005, K20006, K20007, K20008, K20009, K20010, K20011, K20012, K20013, K20014, K20015, K20016, K20017, K20018, K20019, N20001, N20002, N20003, N20004, N20005, N20006, N20007, N20008, N20009, N20010, N20011, N20012, N20013, N20014, N20015, N20016, N20017, N20018, N20019, Md_0 hM, e5, isIn_0]
          by_cases a : 0 ≤ w - 10 ∧ w - 10 < lg b n 5
          · rw [if_neg (by omega), if_pos a]
            have e := key 10 (w - 10) 1 (by omega) rfl a (by decide) (by decide); rw [show (150 : Int) + 1 = 151 by decide] at e
            simp (disch := omega) only [w32_eq, w64_eq, chk_T, chk_t, lt, lm, ob, Int.add_zero, Int.zero_add, true_and, and_true, if_true, if_false, K20000, K20001, K20002, K20003, K20004, K20005, K20006, K20007, K20008, K20009, K20010, K20011, K20012, K20013, K20014, K20015, K20016, K20017, K20018, K20019, N20001, N20002, N20003, N20004, N20005, N20006, N20007, N20008, N20009, N20010, N20011, N20012, N20013, N20014, N20015, N20016, N20017, N20018, N20019, e]
          · rw [if_pos (by omega), if_neg a]
  · rw [sel_f z, sel_f z]
/-! sketches -/
noncomputable def zzHumpOf (s : Int → Int) (w : Int) : Int := if 0 ≤ w ∧ w ≤ 6 then s w else if 0 ≤ w - 10 ∧ w - 10 < s 0 then s (7 + (w - 10)) else if 0 ≤ w - 30 ∧ w - 30 < s 0 then s (19 + (w - 30)) else -1
noncomputable def zzSketch (b : Int → Int) (n w : Int) : Int := sel (isS b n) (zzHumpOf (ls b n) w) (-1)
theorem c_hasHump6 {c : Int} {s : Int → Int} (hS : Sk μ c s) (hO : SkOk s) {w k : Int} (hw : R32 w) (hk : 0 ≤ k ∧ k ≤ 100) : fX6_hasHump c (w32 (w - k)) μ = some (bi (0 ≤ w - k ∧ w - k < s 0)) := by
  have t := hO.1
  have e : w32 (w - k) = w - k ∨ (w - k < 0 ∧ 1000 ≤ w32 (w - k)) := by unfold w32 R32 at *; omega
  unfold fX6_hasHump
  simp (disch := omega) only [w32_eq, w64_eq, chk_T, chk_t, lt, lm, ob, Int.add_zero, Int.zero_add, true_and, and_true, if_true, if_false, hS.1.1, hS.2.2.1.1]
  rcases e with e | e
  · rw [e]
    by_cases z : 0 ≤ w - k ∧ w - k < s 0
    · rw [if_neg (by omega), if_neg (by omega), if_neg (by omega), bi_t z]
    · rw [bi_f z]
      by_cases y : w - k < 0
      · rw [if_pos y]
      · rw [if_neg y, if_pos (by omega)]
  · rw [bi_f (by omega), if_neg (by omega), if_pos (by omega)]
theorem q_sketch (hW : Nw μ b) (n : Int) {w : Int} (hw : R32 w) : fX10_sketch 100 n w μ = some (zzSketch b n w) := by
  unfold fX10_sketch zzSketch
  simp (disch := omega) only [w32_eq, w64_eq, chk_T, chk_t, lt, lm, ob, Int.add_zero, Int.zero_add, true_and, and_true, if_true, if_false, K100, K101, K102, K103, K104, K200, K201, K230, K231, K232, K233, K234, K235, K236, K237, K250, K251, K252, K253, K254, K300, K301, K302, K303, K304, N101, N102, N103, N104, N201, N232, N233, N234, N235, N236, N237, N251, N252, N253, N254, N301, N302, N303, N304, c_sketchAt hW]
  by_cases hn : isS b n
  · have hO := hW.so hn.1 hn.2; have hS := hW.sk hn.1 hn.2
    have t := hO.1
    rw [sel_t hn, if_neg (by have := hn.1; omega), sel_t hn]
    obtain ⟨⟨k0, ⟨k1, k2⟩, k3, k4⟩, ⟨f7, f8⟩, ⟨v0, v1, v2, v3, v4, v5, v6⟩, vs⟩ := hS
    simp (disch := omega) only [w32_eq, w64_eq, chk_T, chk_t, lt, lm, ob, Int.add_zero, Int.zero_add, true_and, and_true, if_true, if_false, k0, v0, v1, v2, v3, v4, v5, v6]
    unfold zzHumpOf
    by_cases z : 0 ≤ w ∧ w ≤ 6
    · have : w = 0 ∨ w = 1 ∨ w = 2 ∨ w = 3 ∨ w = 4 ∨ w = 5 ∨ w = 6 := by omega
      rcases this with e | e | e | e | e | e | e
      · subst e; rfl
      · subst e; rfl
      · subst e; rcases hO.2.2.1 with e | e <;> simp [e]
      · subst e; rcases hO.2.2.2.1 with e | e <;> simp [e]
      · subst e; rcases hO.2.2.2.2.1 with e | e <;> simp [e]
      · subst e; rfl
      · subst e; rfl
    · rw [if_neg (by omega), if_neg (by omega), if_neg (by omega), if_neg (by omega), if_neg (by omega), if_neg (by omega), if_neg (by omega), if_neg z]
      have hS := hW.sk hn.1 hn.2
      have hT := fun k h => c_hasHump6 (k := k) hS hO hw h
      unfold fX6_tellHump
      simp (disch := omega) only [w32_eq, w64_eq, chk_T, chk_t, lt, lm, ob, Int.add_zero, Int.zero_add, true_and, and_true, if_true, if_false, k0, hT 10 (by decide), hT 30 (by decide), bi_if]
      by_cases a : 0 ≤ w - 10 ∧ w - 10 < ls b n 0
      · rw [sel_t a, if_pos a]; simp (disch := omega) only [w32_eq, w64_eq, chk_T, chk_t, lt, lm, ob, Int.add_zero, Int.zero_add, true_and, and_true, if_true, if_false, f7, k1, k2, (vs _ a.1 a.2).1]
      · rw [sel_f a, if_neg a]
        by_cases a : 0 ≤ w - 30 ∧ w - 30 < ls b n 0
        · rw [sel_t a, if_pos a]; simp (disch := omega) only [w32_eq, w64_eq, chk_T, chk_t, lt, lm, ob, Int.add_zero, Int.zero_add, true_and, and_true, if_true, if_false, f8, k3, k4, (vs _ a.1 a.2).2]
        · rw [sel_f a, if_neg a]; simp only [ob]
  · rw [sel_f hn, if_pos rfl, sel_f hn]
/-- the reference holds the sketch s at l -/
def Gs (μ : Mm) (l : Int) (s : Int → Int) : Prop := (1110 ≤ l ∧ l ≤ 4960) ∧ ∀ i, 0 ≤ i → i < 32 → μ 20001 (l + i) = s i
theorem Gs.rd {l : Int} {s : Int → Int} (h : Gs μ l s) {i : Int} (h0 : 0 ≤ i) (h1 : i < 32) : μ 20001 (l + i) = s i := h.2 i h0 h1
theorem Gs.r0 {l : Int} {s : Int → Int} (h : Gs μ l s) : μ 20001 l = s 0 := by
  have := h.2 0 (by omega) (by omega); rwa [Int.add_zero] at this
theorem Gs_ls (hb : μ 20001 = b) {n : Int} (h : 0 ≤ n ∧ n < 4) : Gs μ (1110 + 32 * n) (ls b n) := by
  refine ⟨by omega, fun i i0 i1 => ?_⟩
  rw [hb]; unfold ls; rw [gl_t i0 i1]
theorem r_placeOf1 {n : Int} (h : 0 ≤ n ∧ n < 4) : fX11_placeOf 1 n = some (1110 + 32 * n) := by
  unfold fX11_placeOf; rw [if_neg (by decide)]; simp (disch := omega) only [w32_eq, w64_eq, chk_T, chk_t, lt, lm, ob, Int.add_zero, Int.zero_add, true_and, and_true, if_true, if_false, ]
theorem r_isS (hM : Md μ) (hb : μ 20001 = b) (hA : AOk b) (n : Int) : fX11_isOf 20000 1 n μ = some (bi (isS b n)) := by
  have a0 := hA.2.1
  exact r_isOf hM hb (by decide) (by decide) (by omega) (by omega)
theorem rr_sketch (hM : Md μ) (hb : μ 20001 = b) (hA : AOk b) (n : Int) {w : Int} (hw : R32 w) : fX11_sketch 20000 n w μ = some (zzSketch b n w) := by
  have a0 := hA.2.1
  unfold R32 at hw
  unfold fX11_sketch zzSketch
  simp (disch := omega) only [w32_eq, w64_eq, chk_T, chk_t, lt, lm, ob, Int.add_zero, Int.zero_add, true_and, and_true, if_true, if_false, K20000, K20001, K20002, K20003, K20004, K20005, K20006, K20007, K20008, K20009, K20010, K20011, K20012, K20013, K20014, K20015, K20016, K20017, K20018, K20019, N20001, N20002, N20003, N20004, N20005, N20006, N20007, N20008, N20009, N20010, N20011, N20012, N20013, N20014, N20015, N20016, N20017, N20018, N20019, r_isS hM hb hA, bi_if]
  by_cases z : isS b n
  · have nn : 0 ≤ n ∧ n < 4 := by have := z.1; have := z.2; omega
    have hO := hA.2.2.2.2.2.1 n z.1 z.2
    have hG := Gs_ls hb nn
    have hl := hG.1
    have t := hO.1
    rw [sel_t z, sel_t z, r_placeOf1 nn]
    have e0 := hG.r0
    simp (disch := omega) only [w32_eq, w64_eq, chk_T, chk_t, lt, lm, ob, Int.add_zero, Int.zero_add, true_and, and_true, if_true, if_false, K20000, K20001, K20002, K20003, K20004, K20005, K20006, K20007, K20008, K20009, K20010, K20011, K20012, K20013, K20014, K20015, K20016, K20017, K20018, K20019, N20001, N20002, N20003, N20004, N20005, N20006, N20007, N20008, N20009, N20010, N20011, N20012, N20013, N20014, N20015, N20016, N20017, N20018, N20019, Md_0 hM, isIn_0, e0]
    unfold zzHumpOf
    by_cases y : 0 ≤ w ∧ w ≤ 6
    · rw [if_neg (fun h => h y), if_pos y]
      have e := hG.rd y.1 (show w < 32 by omega)
      simp (disch := omega) only [w32_eq, w64_eq, chk_T, chk_t, lt, lm, ob, Int.add_zero, Int.zero_add, true_and, and_true, if_true, if_false, K20000, K20001, K20002, K20003, K20004, K20005, K20006, K20007, K20008, K20009, K20010, K20011, K20012, K20013, K20014, K20015, K20016, K20017, K20018, K20019, N20001, N20002, N20003, N20004, N20005, N20006, N20007, N20008, N20009, N20010, N20011, N20012, N20013, N20014, N20015, N20016, N20017, N20018, N20019, Md_0 hM, e]
    · rw [if_pos y, if_neg y]
      by_cases a : 0 ≤ w - 10 ∧ w - 10 < ls b n 0
      · rw [if_neg (by omega), if_pos a]
        have e := hG.rd (i := 7 + (w - 10)) (by omega) (by omega)
        rw [show 1110 + 32 * n + (7 + (w - 10)) = 1110 + 32 * n + 7 + w - 10 by omega] at e
        simp (disch := omega) only [w32_eq, w64_eq, chk_T, chk_t, lt, lm, ob, Int.add_zero, Int.zero_add, true_and, and_true, if_true, if_false, K20000, K20001, K20002, K20003, K20004, K20005, K20006, K20007, K20008, K20009, K20010, K20011, K20012, K20013, K20014, K20015, K20016, K20017, K20018, K20019, N20001, N20002, N20003, N20004, N20005, N20006, N20007, N20008, N20009, N20010, N20011, N20012, N20013, N20014, N20015, N20016, N20017, N20018, N20019, e]
      · rw [if_pos (by omega), if_neg a]
        by_cases a : 0 ≤ w - 30 ∧ w - 30 < ls b n 0
        · rw [if_neg (by omega), if_pos a]
          have e := hG.rd (i := 19 + (w - 30)) (by omega) (by omega)
          rw [show 1110 + 32 * n + (19 + (w - 30)) = 1110 + 32 * n + 19 + w - 30 by omega] at e
          simp (disch := omega) only [w32_eq, w64_eq, chk_T, chk_t, lt, lm, ob, Int.add_zero, Int.zero_add, true_and, and_true, if_true, if_false, K20000, K20001, K20002, K20003, K20004, K20005, K20006, K20007, K20008, K20009, K20010, K20011, K20012, K20013, K20014, K20015, K20016, K20017, K20018, K20019, N20001, N20002, N20003, N20004, N20005, N20006, N20007, N20008, N20009, N20010, N20011, N20012, N20013, N20014, N20015, N20016, N20017, N20018, N20019, e]
        · rw [if_pos (by omega), if_neg a]
  · rw [sel_f z, sel_f z]
end
