/-! ===== stretch ===== -/
theorem c_commonDivisor {a b : Int} (ha : 0 ≤ a ∧ a < 10000000) (hb : 0 ≤ b ∧ b < 10000000) : fX1_commonDivisor a b = some (Int.gcd a b : Int) := by
  apply Ev.eq
  unfold fX1_commonDivisor
  refine Ev_bind (Ev_lop (P := fun r => r = (Int.gcd a b : Int)) (fun t => (0 ≤ t.2.2 ∧ t.2.2 ≤ 64) ∧ (0 ≤ t.1 ∧ 0 ≤ t.2.1) ∧ Int.gcd t.1 t.2.1 = Int.gcd a b ∧ (t.2.2 = 0 ∧ t.1 = a ∧ t.2.1 = b ∨ 1 ≤ t.2.2 ∧ t.2.1 < t.1 ∧ t.1 * t.2.1 * 2 ^ t.2.2.toNat ≤ 2 ^ 50)) (fun t => (64 - t.2.2).toNat) ⟨(by first | omega | (dsimp only; omega) | (dsimp only)), ⟨ha.1, hb.1⟩, rfl, .inl ⟨rfl, rfl, rfl⟩⟩ (by unfold FU; dsimp only; omega) ?_) (fun r h => Ev_some h)
  rintro ⟨x, y, t⟩ ⟨h1, h2, h3, h4⟩
  dsimp only at h1 h2 h3 h4 ⊢
  unfold sX1_commonDivisor_9
  dsimp only
  have out : y = 0 → (x = (Int.gcd a b : Int)) := by
    intro q; subst q; rw [← h3, Int.gcd_zero_right]; omega
  refine Ev_ite (fun w => Ev_out (out ?_)) (fun w => Ev_ite (fun w2 => Ev_out (out w2)) (fun w2 => ?_))
  · rcases h4 with h4 | ⟨_, h5, h6⟩
    · omega
    · have et : t = 64 := by omega
      subst et
      apply Classical.byContradiction; intro ne
      have xy : 1 * 1 ≤ x * y := Int.mul_le_mul (by omega) (by omega) (by omega) (by omega)
      have : (64 : Int).toNat = 64 := rfl
      rw [this] at h6
      have p1 : (2 : Int) ^ 64 = 18446744073709551616 := by decide
      have p2 : (2 : Int) ^ 50 = 1125899906842624 := by decide
      rw [p1, p2] at h6; omega
  · rw [chk_t w2, tmod_nn h2.1]
    have m0 := Int.emod_nonneg x w2; have m1 := Int.emod_lt_of_pos x (show 0 < y by omega)
    have dv := Int.mul_ediv_add_emod x y
    try simp (disch := omega) only [w32_eq, w64_eq, chk_T, chk_t, lt, lm, ob, Int.add_zero, Int.zero_add, true_and, and_true, if_true, if_false, ]
    refine Ev_in ⟨(by first | omega | (dsimp only; omega) | (dsimp only)), ⟨h2.2, m0⟩, by dsimp only; rw [gcd_st h2.1 (by omega)]; exact h3, .inr ⟨(by first | omega | (dsimp only; omega) | (dsimp only)), m1, ?_⟩⟩ (by first | omega | (dsimp only; omega) | (dsimp only))
    dsimp only
    rcases h4 with ⟨e1, e2, e3⟩ | ⟨h5, h6, h7⟩
    · subst e1; subst e2; subst e3
      have : ((0 : Int) + 1).toNat = 1 := rfl
      rw [this]
      have l1 : y * (x % y) ≤ y * y := Int.mul_le_mul_of_nonneg_left (by omega) (by omega)
      have l2 : y * y ≤ 10000000 * 10000000 := Int.mul_le_mul (by omega) (by omega) (by omega) (by omega)
      have p2 : (2 : Int) ^ 50 = 1125899906842624 := by decide
      have p1 : (2 : Int) ^ 1 = 2 := by decide
      rw [p1, p2]; omega
    · have q1 : 1 ≤ x / y := by
        have := Int.mul_le_mul_of_nonneg_left (a := x / y) (b := 0) (c := y)
        apply Classical.byContradiction; intro ng
        have := this (by omega) (by omega)
        omega
      have q2 : y * 1 ≤ y * (x / y) := Int.mul_le_mul_of_nonneg_left q1 (by omega)
      have hr : 2 * (x % y) ≤ x := by omega
      rw [show (t + 1).toNat = t.toNat + 1 by omega, Int.pow_succ]
      have pp : (0 : Int) ≤ 2 ^ t.toNat := Int.le_of_lt (Int.pow_pos (by decide))
      have l1 : y * (2 * (x % y)) ≤ y * x := Int.mul_le_mul_of_nonneg_left hr h2.2
      have l2 : y * (2 * (x % y)) * 2 ^ t.toNat ≤ y * x * 2 ^ t.toNat := Int.mul_le_mul_of_nonneg_right l1 pp
      have e1 : y * (x % y) * (2 ^ t.toNat * 2) = y * (2 * (x % y)) * 2 ^ t.toNat := by
        rw [← Int.mul_assoc, Int.mul_comm (y * (x % y) * 2 ^ t.toNat) 2, ← Int.mul_assoc, ← Int.mul_assoc, Int.mul_comm y (2 * _), Int.mul_assoc 2 (x % y) y, Int.mul_comm (x % y) y, Int.mul_assoc 2 y (x % y)]
      rw [e1]
      rw [Int.mul_comm x y] at h7
      omega
def sOv (g s : Int → Int) (p q i : Int) : Int := s (7 + i) * s (7 + i) * zF g p q
def sBy (g : Int → Int) (p q : Int) : Int := zR g p q * zR g p q
def sRp (g s : Int → Int) (p mo q i : Int) (a : Int × Int) : Prop := 0 < zR g p q ∧ (a.2 ≤ 0 ∨ mo = 0 ∧ sOv g s p q i * a.2 < a.1 * sBy g p q ∨ mo ≠ 0 ∧ a.1 * sBy g p q < sOv g s p q i * a.2)
noncomputable def stN (g s : Int → Int) (p st mo : Int) : Nat → Int × Int
  | 0 => (0, 0)
  | n + 1 => sel (sRp g s p mo (hl g s p st n) n (stN g s p st mo n)) (sOv g s p (hl g s p st n) n, sBy g p (hl g s p st n)) (stN g s p st mo n)
theorem stN_s {g s : Int → Int} {p st mo i : Int} (h : 0 ≤ i) : stN g s p st mo (i + 1).toNat = sel (sRp g s p mo (hl g s p st i) i (stN g s p st mo i.toNat)) (sOv g s p (hl g s p st i) i, sBy g p (hl g s p st i)) (stN g s p st mo i.toNat) := by
  rw [show (i + 1).toNat = i.toNat + 1 by omega]
  have : ((i.toNat : Nat) : Int) = i := by omega
  show sel (sRp g s p mo (hl g s p st (i.toNat : Int)) (i.toNat : Int) _) _ _ = _
  rw [this]
section
variable {μ : Mm} {c k n p st i l z mo un : Int} {g s : Int → Int}
theorem sOv_b (hL : LdOk g) (hO : SkOk s) (hp : Pl g p) (hm : 0 < hN g p) (hi : 0 ≤ i ∧ i < s 0) : (0 ≤ s (7 + i) * s (7 + i) ∧ s (7 + i) * s (7 + i) ≤ 9801) ∧ (0 ≤ sOv g s p (hl g s p st i) i ∧ sOv g s p (hl g s p st i) i ≤ 2371842) ∧ (0 ≤ sBy g p (hl g s p st i) ∧ sBy g p (hl g s p st i) ≤ 1555009) := by
  have h := (hO.2.2.2.2.2.2 i hi.1 hi.2).1
  have q := hl_P (s := s) (st := st) (i := i) hL hp hm
  have f := zF_b hL hp q.1
  have r := zR_b hL hp q.1
  have a1 : s (7 + i) * s (7 + i) ≤ 99 * 99 := sq_le (by omega) h.2
  have a2 := mul_le_of (x := s (7 + i) * s (7 + i)) (y := zF g p (hl g s p st i)) (a := 9801) (b := 242) (sq_nn _) (by omega) f.1 f.2
  have a3 : zR g p (hl g s p st i) * zR g p (hl g s p st i) ≤ 1247 * 1247 := sq_le (by omega) (by omega)
  exact ⟨⟨sq_nn _, by omega⟩, ⟨mul_nn (sq_nn _) f.1, by unfold sOv; omega⟩, sq_nn _, by unfold sBy; omega⟩
theorem stN_b (hL : LdOk g) (hO : SkOk s) (hp : Pl g p) (hm : 0 < hN g p) : ∀ m : Nat, (m : Int) ≤ s 0 → (0 ≤ (stN g s p st mo m).1 ∧ (stN g s p st mo m).1 ≤ 2371842) ∧ 0 ≤ (stN g s p st mo m).2 ∧ (stN g s p st mo m).2 ≤ 1555009
  | 0, _ => by simp [stN]
  | m + 1, h => by
    have ih := stN_b hL hO hp hm m (by omega)
    have b := sOv_b (st := st) (i := m) hL hO hp hm (by omega)
    unfold stN
    by_cases q : sRp g s p mo (hl g s p st m) m (stN g s p st mo m)
    · rw [sel_t q]; exact b.2
    · rw [sel_f q]; exact ih
noncomputable def stV (g s : Int → Int) (p st mo un : Int) : Int := if (stN g s p st mo (s 0).toNat).2 = 0 then -1 else (if un = 0 then (stN g s p st mo (s 0).toNat).1 else (stN g s p st mo (s 0).toNat).2).tdiv (Int.gcd (stN g s p st mo (s 0).toNat).1 (stN g s p st mo (s 0).toNat).2 : Int)
theorem stP_b {a1 a2 x y : Int} (h1 : 0 ≤ a1 ∧ a1 ≤ 2371842) (h2 : 0 ≤ a2 ∧ a2 ≤ 1555009) (h3 : 0 ≤ x ∧ x ≤ 2371842) (h4 : 0 ≤ y ∧ y ≤ 1555009) : (0 ≤ x * a2 ∧ x * a2 ≤ 4000000000000) ∧ 0 ≤ a1 * y ∧ a1 * y ≤ 4000000000000 := by
  have := mul_le_of h3.1 h3.2 h2.1 h2.2
  have := mul_le_of h1.1 h1.2 h4.1 h4.2
  exact ⟨⟨mul_nn h3.1 h2.1, by omega⟩, mul_nn h1.1 h4.1, by omega⟩
theorem td_b {x d : Int} (hx : 0 ≤ x ∧ x ≤ 2371842) (hd : 0 < d) : 0 ≤ x.tdiv d ∧ x.tdiv d ≤ 2371842 := by
  rw [tdiv_nn hx.1]
  have := Int.ediv_le_self d hx.1
  have := Int.ediv_nonneg hx.1 (show 0 ≤ d by omega)
  omega
theorem c_stretched (h : Ft μ c k n g s p) (hc : cb g s p) (hs : 0 ≤ st ∧ st < hN g p) (mo un : Int) : Ev (fX1_stretched 250 st mo un μ) (fun r => Fw sp2 μ r.2 ∧ r.1 = stV g s p st mo un) := by
  have hO := h.2.2.2.2.1.2.1; have hL := h.2.2.2.2.1.1; have hp := h.2.2.2.2.1.2.2
  have o := hO.1
  have hm : 0 < hN g p := hc.1
  have nb := nR_b hL hp
  unfold fX1_stretched
  simp (disch := omega) only [w32_eq, w64_eq, chk_T, chk_t, lt, lm, ob, Int.add_zero, Int.zero_add, true_and, and_true, if_true, if_false, K100, K101, K102, K103, K104, K200, K201, K230, K231, K232, K233, K234, K235, K236, K237, K250, K251, K252, K253, K254, K300, K301, K302, K303, K304, N101, N102, N103, N104, N201, N232, N233, N234, N235, N236, N237, N251, N252, N253, N254, N301, N302, N303, N304, ]
  refine Ev_bind (c_stand h hc hs) (fun μ1 ⟨f1, S1⟩ => ?_)
  have H1 : Ft μ1 c k n g s p := h.fw f1 (fun x hx => by unfold sp2 at hx; omega)
  have e1 := H1.1.2.2.1; have hS := H1.2.2.1; have e2 := H1.1.2.2.2; have LI := H1.2.2.2.1; have e9 := H1.1.1.2.1
  refine Ev_bind (Ev_lop (P := fun r => r = stN g s p st mo (s 0).toNat) (fun t => (0 ≤ t.2.2 ∧ t.2.2 ≤ s 0) ∧ (t.1, t.2.1) = stN g s p st mo t.2.2.toNat) (fun t => (s 0 - t.2.2).toNat) ⟨(by first | omega | (dsimp only; omega) | (dsimp only)), rfl⟩ (by unfold FU; dsimp only; omega) ?_) ?_
  · rintro ⟨v4, v6, v8⟩ ⟨k1, k2⟩
    dsimp only at k1 k2 ⊢
    unfold sX1_stretched_14
    dsimp only
    simp (disch := omega) only [w32_eq, w64_eq, chk_T, chk_t, lt, lm, ob, Int.add_zero, Int.zero_add, true_and, and_true, if_true, if_false, K100, K101, K102, K103, K104, K200, K201, K230, K231, K232, K233, K234, K235, K236, K237, K250, K251, K252, K253, K254, K300, K301, K302, K303, K304, N101, N102, N103, N104, N201, N232, N233, N234, N235, N236, N237, N251, N252, N253, N254, N301, N302, N303, N304, e1, e2, e9, hS.1.1, hS.2.2.1.1]
    refine Ev_ite (fun w => Ev_out ?_) (fun w => ?_)
    · rw [k2, show v8 = s 0 by omega]
    · rw [if_neg (by omega)]
      have ts := T_sel (st := st) (i := v8) H1 hc
      have hq := hl_P (s := s) (st := st) (i := v8) hL hp hm
      have lt3 := LI.2.2.2.1 _ ts.1.1 ts.1.2
      rw [ts.2] at lt3
      have es := S1 v8 k1.1 (by omega)
      have sb := sOv_b (st := st) (i := v8) hL hO hp hm (by omega)
      have nb2 := stN_b (st := st) (mo := mo) hL hO hp hm v8.toNat (by omega)
      have ss := stN_s (g := g) (s := s) (p := p) (st := st) (mo := mo) k1.1
      rw [← k2] at nb2 ss
      dsimp only at nb2
      have hh := (hS.2.2.2 v8 k1.1 (by omega)).1
      simp (disch := omega) only [w32_eq, w64_eq, chk_T, chk_t, lt, lm, ob, Int.add_zero, Int.zero_add, true_and, and_true, if_true, if_false, K100, K101, K102, K103, K104, K200, K201, K230, K231, K232, K233, K234, K235, K236, K237, K250, K251, K252, K253, K254, K300, K301, K302, K303, K304, N101, N102, N103, N104, N201, N232, N233, N234, N235, N236, N237, N251, N252, N253, N254, N301, N302, N303, N304, es]
      rw [if_neg (by omega), if_neg (by omega)]
      simp (disch := omega) only [w32_eq, w64_eq, chk_T, chk_t, lt, lm, ob, Int.add_zero, Int.zero_add, true_and, and_true, if_true, if_false, K100, K101, K102, K103, K104, K200, K201, K230, K231, K232, K233, K234, K235, K236, K237, K250, K251, K252, K253, K254, K300, K301, K302, K303, K304, N101, N102, N103, N104, N201, N232, N233, N234, N235, N236, N237, N251, N252, N253, N254, N301, N302, N303, N304, LI.1.k, LI.2.1.f5, LI.2.1.f6, LI.1.k2, LI.1.n2, LI.1.k3, LI.1.n3, lt3.2.1, lt3.2.2]
      by_cases hr : 0 < zR g p (hl g s p st v8)
      · have zv : zV g p (hl g s p st v8) = sBy g p (hl g s p st v8) := zQ_s (by omega)
        have zp : 0 < zV g p (hl g s p st v8) := zQ_p.mpr hr
        rw [if_neg (by omega), zv]
        have sp := stP_b nb2.1 nb2.2 sb.2.1 sb.2.2
        have ov : s (7 + v8) * s (7 + v8) * zF g p (hl g s p st v8) = sOv g s p (hl g s p st v8) v8 := rfl
        simp (disch := omega) only [w32_eq, w64_eq, chk_T, chk_t, lt, lm, ob, Int.add_zero, Int.zero_add, true_and, and_true, if_true, if_false, K100, K101, K102, K103, K104, K200, K201, K230, K231, K232, K233, K234, K235, K236, K237, K250, K251, K252, K253, K254, K300, K301, K302, K303, K304, N101, N102, N103, N104, N201, N232, N233, N234, N235, N236, N237, N251, N252, N253, N254, N301, N302, N303, N304, hS.2.1.1, hS.1.2.1.1, hS.1.2.1.2, hh, ov]
        rw [zv] at zp
        generalize hx : sOv g s p (hl g s p st v8) v8 = X at *
        generalize hy : sBy g p (hl g s p st v8) = Y at *
        have yes : (v6 ≤ 0 ∨ mo = 0 ∧ X * v6 < v4 * Y ∨ mo ≠ 0 ∧ v4 * Y < X * v6) → Ev (some (Sum.inl (X, Y, v8 + 1) : (Int × Int × Int) ⊕ (Int × Int))) (Nx (fun t => (0 ≤ t.2.2 ∧ t.2.2 ≤ s 0) ∧ (t.1, t.2.1) = stN g s p st mo t.2.2.toNat) (fun t => (s 0 - t.2.2).toNat) (fun r => r = stN g s p st mo (s 0).toNat) (s 0 - v8).toNat) := by
          intro q
          have : sRp g s p mo (hl g s p st v8) v8 (v4, v6) := ⟨hr, by rw [hx, hy]; exact q⟩
          exact Ev_in ⟨(by first | omega | (dsimp only; omega) | (dsimp only)), by dsimp only; rw [ss, sel_t this]⟩ (by first | omega | (dsimp only; omega) | (dsimp only))
        have no : ¬(v6 ≤ 0 ∨ mo = 0 ∧ X * v6 < v4 * Y ∨ mo ≠ 0 ∧ v4 * Y < X * v6) → Ev (some (Sum.inl (v4, v6, v8 + 1) : (Int × Int × Int) ⊕ (Int × Int))) (Nx (fun t => (0 ≤ t.2.2 ∧ t.2.2 ≤ s 0) ∧ (t.1, t.2.1) = stN g s p st mo t.2.2.toNat) (fun t => (s 0 - t.2.2).toNat) (fun r => r = stN g s p st mo (s 0).toNat) (s 0 - v8).toNat) := by
          intro q
          have : ¬sRp g s p mo (hl g s p st v8) v8 (v4, v6) := fun w => q (by have := w.2; rw [hx, hy] at this; exact this)
          exact Ev_in ⟨(by first | omega | (dsimp only; omega) | (dsimp only)), by dsimp only; rw [ss, sel_f this]⟩ (by first | omega | (dsimp only; omega) | (dsimp only))
        refine Ev_ite (fun a => yes (.inl (by omega))) (fun a => Ev_ite (fun m0 => Ev_ite (fun c1 => no (by omega)) (fun c1 => yes (by omega))) (fun m0 => Ev_ite (fun c1 => no (by omega)) (fun c1 => yes (by omega))))
      · have zp : ¬0 < zV g p (hl g s p st v8) := fun w => hr (zQ_p.mp w)
        rw [if_pos (by omega)]
        exact Ev_in ⟨(by first | omega | (dsimp only; omega) | (dsimp only)), by dsimp only; rw [ss, sel_f (fun w => hr w.1)]⟩ (by first | omega | (dsimp only; omega) | (dsimp only))
  · rintro ⟨v4, v6⟩ e
    have nb2 := stN_b (st := st) (mo := mo) hL hO hp hm (s 0).toNat (by omega)
    unfold stV
    rw [← e] at nb2 ⊢
    dsimp only at nb2 ⊢
    rw [c_commonDivisor (by omega) (by omega)]
    simp only [ob]
    by_cases z : v6 = 0
    · rw [if_pos (by omega), if_pos z]; exact Ev_some ⟨f1, rfl⟩
    · have gp : 0 < (Int.gcd v4 v6 : Int) := by
        have := Int.gcd_pos_of_ne_zero_right v4 z; omega
      have t1 := td_b nb2.1 gp
      have t2 := td_b (x := v6) (by omega) gp
      rw [if_neg (by omega), if_neg (by omega), if_neg z]
      refine Ev_ite (fun u => ?_) (fun u => ?_)
      · rw [if_pos u]
        simp (disch := omega) only [w32_eq, w64_eq, chk_T, chk_t, lt, lm, ob, Int.add_zero, Int.zero_add, true_and, and_true, if_true, if_false, ]
        exact Ev_some ⟨f1, rfl⟩
      · rw [if_neg u]
        simp (disch := omega) only [w32_eq, w64_eq, chk_T, chk_t, lt, lm, ob, Int.add_zero, Int.zero_add, true_and, and_true, if_true, if_false, ]
        exact Ev_some ⟨f1, rfl⟩
end
noncomputable def zzStretch (b : Int → Int) (n k p st mo un : Int) : Int := sel (((isL b n ∧ isS b k) ∧ Pl (lg b n) p ∧ 0 ≤ st ∧ st < hN (lg b n) p) ∧ cb (lg b n) (ls b k) p) (stV (lg b n) (ls b k) p st mo un) (-1)
section
variable {μ : Mm} {b : Int → Int} {vb : Int}
theorem q_stretch (hW : Nw μ b) (hC : Ca μ b vb) (hvb : 0 ≤ vb) (n k p st mo un : Int) : Ec (fX10_stretch 100 n k p st mo un μ) (Bd μ) (QP μ b vb (fun r => r = zzStretch b n k p st mo un)) := by
  unfold fX10_stretch zzStretch
  simp (disch := omega) only [w32_eq, w64_eq, chk_T, chk_t, lt, lm, ob, Int.add_zero, Int.zero_add, true_and, and_true, if_true, if_false, K100, K101, K102, K103, K104, K200, K201, K230, K231, K232, K233, K234, K235, K236, K237, K250, K251, K252, K253, K254, K300, K301, K302, K303, K304, N101, N102, N103, N104, N201, N232, N233, N234, N235, N236, N237, N251, N252, N253, N254, N301, N302, N303, N304, ]
  refine Ec_bind (c_faces hW hC hvb n k p (-1)) ?_
  rintro ⟨r, μ1⟩ b1 ⟨hb, fq, h⟩ cc nn
  refine ⟨_, rfl, ?_⟩
  dsimp only at hb fq h ⊢
  rcases h with ⟨e, w, m, hz, hf⟩ | ⟨e, w, C1⟩
  · subst e
    rw [if_neg (by decide)]
    have e2 := hf.1.2.2.2; have hL := hf.2.2.2.1; have hO := hf.2.2.2.2.1.2.1
    unfold fX1_canStand
    simp (disch := omega) only [w32_eq, w64_eq, chk_T, chk_t, lt, lm, ob, Int.add_zero, Int.zero_add, true_and, and_true, if_true, if_false, K100, K101, K102, K103, K104, K200, K201, K230, K231, K232, K233, K234, K235, K236, K237, K250, K251, K252, K253, K254, K300, K301, K302, K303, K304, N101, N102, N103, N104, N201, N232, N233, N234, N235, N236, N237, N251, N252, N253, N254, N301, N302, N303, N304, X10F.f0 hz.1.1, X10F.f1 hz.1.1, X10F.f2 hz.1.1, X10F.f3 hz.1.1, X10F.f4 hz.1.1, X10F.f5 hz.1.1, X10F.f6 hz.1.1, X10F.f7 hz.1.1, X10F.f8 hz.1.1, X10F.f9 hz.1.1, X10F.f10 hz.1.1, c_canBe hf, e2, hL.1.k, c_hasHump hL hf.2.2.2.2.1.1 hf.2.2.2.2.1.2.2, bi_if]
    by_cases hc : cb (lg b n) (ls b k) p
    · rw [sel_t hc]
      by_cases v : 0 ≤ st ∧ st < hN (lg b n) p
      · rw [sel_t v, ob, if_neg (by decide), sel_t ⟨⟨w.2.1, w.2.2, v⟩, hc⟩]
        refine Ec_bindE (c_stretched hf hc v mo un) ?_
        rintro ⟨r, μ2⟩ ⟨f2, e⟩
        exact Ec_some ⟨by rw [Bd_ft (sp_f5 f2)]; exact hb, fq.tr (f2.mo (fun x hx => Rq_sp hx)), (hz.sp f2).2.1, e⟩
      · rw [sel_f v, ob, if_pos rfl, sel_f (fun u => v u.1.2.2)]; exact Ec_some ⟨hb, fq, hz.2.1, rfl⟩
    · rw [sel_f hc, ob, if_pos rfl, sel_f (fun u => hc u.2)]; exact Ec_some ⟨hb, fq, hz.2.1, rfl⟩
  · subst e
    rw [if_pos rfl, sel_f (fun u => w ⟨by decide, u.1.1, u.1.2.1⟩)]
    exact Ec_some ⟨hb, fq, C1, rfl⟩
theorem rr_stretch (hM : Md μ) (hDt : Dt μ) (hb : μ 20001 = b) (hA : AOk b) (n k p st mo un : Int) : Ev (fX11_stretch 20000 n k p st mo un μ) (fun r => r.1 = zzStretch b n k p st mo un) := by
  unfold fX11_stretch zzStretch
  simp (disch := omega) only [w32_eq, w64_eq, chk_T, chk_t, lt, lm, ob, Int.add_zero, Int.zero_add, true_and, and_true, if_true, if_false, K20000, K20001, K20002, K20003, K20004, K20005, K20006, K20007, K20008, K20009, K20010, K20011, K20012, K20013, K20014, K20015, K20016, K20017, K20018, K20019, N20001, N20002, N20003, N20004, N20005, N20006, N20007, N20008, N20009, N20010, N20011, N20012, N20013, N20014, N20015, N20016, N20017, N20018, N20019, ]
  refine Ev_bind (r_isStart hM hDt hb hA n k p st) ?_
  rintro ⟨r, μ1⟩ ⟨f1, e1, h1⟩
  dsimp only at f1 e1 h1 ⊢
  subst e1
  rw [bi_if]
  by_cases w : (isL b n ∧ isS b k) ∧ Pl (lg b n) p ∧ 0 ≤ st ∧ st < hN (lg b n) p
  · obtain ⟨nn, kk, hD, hO, hG, hS⟩ := r_two hb hA w.1
    have M1 := f1.md hM (by decide)
    have S1 := hS.fr f1 (by decide); have G1 := hG.fr f1 (by decide)
    have H1 := h1 w.1 w.2.1
    have hp := w.2.1
    have hst := w.2.2
    have o := hO.1
    rw [sel_t w, r_placeOf nn, r_placeOf1 kk]
    have lb : 1110 ≤ 1110 + 32 * k ∧ 1110 + 32 * k ≤ 1300 := by omega
    generalize 710 + 200 * n = l at *
    generalize 1110 + 32 * k = z at *
    simp (disch := omega) only [w32_eq, w64_eq, chk_T, chk_t, lt, lm, ob, Int.add_zero, Int.zero_add, true_and, and_true, if_true, if_false, K20000, K20001, K20002, K20003, K20004, K20005, K20006, K20007, K20008, K20009, K20010, K20011, K20012, K20013, K20014, K20015, K20016, K20017, K20018, K20019, N20001, N20002, N20003, N20004, N20005, N20006, N20007, N20008, N20009, N20010, N20011, N20012, N20013, N20014, N20015, N20016, N20017, N20018, N20019, r_canBe M1 S1 hO hD w.2.1 H1, bi_if]
    by_cases hc : cb (lg b n) (ls b k) p
    · have hm : 0 < hN (lg b n) p := hc.1
      have cl := cb_le hc
      rw [sel_t hc, sel_t ⟨w, hc⟩]
      generalize lg b n = g at *
      generalize ls b k = s at *
      refine Ev_bind (Ev_lop (P := fun r => r = stN g s p st mo (s 0).toNat) (fun t => (0 ≤ t.2.2 ∧ t.2.2 ≤ s 0) ∧ (t.1, t.2.1) = stN g s p st mo t.2.2.toNat) (fun t => (s 0 - t.2.2).toNat) ⟨(by first | omega | (dsimp only; omega) | (dsimp only)), rfl⟩ (by unfold FU; dsimp only; omega) ?_) ?_
      · rintro ⟨v4, v6, v8⟩ ⟨k1, k2⟩
        dsimp only at k1 k2 ⊢
        unfold sX11_stretch_49
        dsimp only
        simp (disch := omega) only [w32_eq, w64_eq, chk_T, chk_t, lt, lm, ob, Int.add_zero, Int.zero_add, true_and, and_true, if_true, if_false, K20000, K20001, K20002, K20003, K20004, K20005, K20006, K20007, K20008, K20009, K20010, K20011, K20012, K20013, K20014, K20015, K20016, K20017, K20018, K20019, N20001, N20002, N20003, N20004, N20005, N20006, N20007, N20008, N20009, N20010, N20011, N20012, N20013, N20014, N20015, N20016, N20017, N20018, N20019, Md_0 M1, S1.r0]
        refine Ev_ite (fun w => Ev_out ?_) (fun w => ?_)
        · rw [k2, show v8 = s 0 by omega]
        · have hq := hl_P (s := s) (st := st) (i := v8) hD hp hm
          have sb := sOv_b (st := st) (i := v8) hD hO hp hm (by omega)
          have nb2 := stN_b (st := st) (mo := mo) hD hO hp hm v8.toNat (by omega)
          have ss := stN_s (g := g) (s := s) (p := p) (st := st) (mo := mo) k1.1
          rw [← k2] at nb2 ss
          dsimp only at nb2
          have hh : μ1 20001 (z + 7 + v8) = s (7 + v8) := by rw [show z + 7 + v8 = z + (7 + v8) by omega]; exact S1.rd (by omega) (by omega)
          simp (disch := omega) only [w32_eq, w64_eq, chk_T, chk_t, lt, lm, ob, Int.add_zero, Int.zero_add, true_and, and_true, if_true, if_false, K20000, K20001, K20002, K20003, K20004, K20005, K20006, K20007, K20008, K20009, K20010, K20011, K20012, K20013, K20014, K20015, K20016, K20017, K20018, K20019, N20001, N20002, N20003, N20004, N20005, N20006, N20007, N20008, N20009, N20010, N20011, N20012, N20013, N20014, N20015, N20016, N20017, N20018, N20019, r_hillOf M1 S1 hD hp H1 hst (i := v8) (by omega), r_riseOf M1 G1 hD hp hq.1, r_farOf M1 G1 hD hp hq.1]
          by_cases hr : 0 < zR g p (hl g s p st v8)
          · rw [if_pos hr]
            have sp := stP_b nb2.1 nb2.2 sb.2.1 sb.2.2
            have ov : s (7 + v8) * s (7 + v8) * zF g p (hl g s p st v8) = sOv g s p (hl g s p st v8) v8 := rfl
            have by' : zR g p (hl g s p st v8) * zR g p (hl g s p st v8) = sBy g p (hl g s p st v8) := rfl
            rw [by']
            simp (disch := omega) only [w32_eq, w64_eq, chk_T, chk_t, lt, lm, ob, Int.add_zero, Int.zero_add, true_and, and_true, if_true, if_false, K20000, K20001, K20002, K20003, K20004, K20005, K20006, K20007, K20008, K20009, K20010, K20011, K20012, K20013, K20014, K20015, K20016, K20017, K20018, K20019, N20001, N20002, N20003, N20004, N20005, N20006, N20007, N20008, N20009, N20010, N20011, N20012, N20013, N20014, N20015, N20016, N20017, N20018, N20019, hh, ov]
            generalize hx : sOv g s p (hl g s p st v8) v8 = X at *
            generalize hy : sBy g p (hl g s p st v8) = Y at *
            have yes : (v6 ≤ 0 ∨ mo = 0 ∧ X * v6 < v4 * Y ∨ mo ≠ 0 ∧ v4 * Y < X * v6) → Ev (some (Sum.inl (X, Y, v8 + 1) : (Int × Int × Int) ⊕ (Int × Int))) (Nx (fun t => (0 ≤ t.2.2 ∧ t.2.2 ≤ s 0) ∧ (t.1, t.2.1) = stN g s p st mo t.2.2.toNat) (fun t => (s 0 - t.2.2).toNat) (fun r => r = stN g s p st mo (s 0).toNat) (s 0 - v8).toNat) := by
              intro q
              have : sRp g s p mo (hl g s p st v8) v8 (v4, v6) := ⟨hr, by rw [hx, hy]; exact q⟩
              exact Ev_in ⟨(by first | omega | (dsimp only; omega) | (dsimp only)), by dsimp only; rw [ss, sel_t this]⟩ (by first | omega | (dsimp only; omega) | (dsimp only))
            have no : ¬(v6 ≤ 0 ∨ mo = 0 ∧ X * v6 < v4 * Y ∨ mo ≠ 0 ∧ v4 * Y < X * v6) → Ev (some (Sum.inl (v4, v6, v8 + 1) : (Int × Int × Int) ⊕ (Int × Int))) (Nx (fun t => (0 ≤ t.2.2 ∧ t.2.2 ≤ s 0) ∧ (t.1, t.2.1) = stN g s p st mo t.2.2.toNat) (fun t => (s 0 - t.2.2).toNat) (fun r => r = stN g s p st mo (s 0).toNat) (s 0 - v8).toNat) := by
              intro q
              have : ¬sRp g s p mo (hl g s p st v8) v8 (v4, v6) := fun w => q (by have := w.2; rw [hx, hy] at this; exact this)
              exact Ev_in ⟨(by first | omega | (dsimp only; omega) | (dsimp only)), by dsimp only; rw [ss, sel_f this]⟩ (by first | omega | (dsimp only; omega) | (dsimp only))
            refine Ev_ite (fun a => yes (.inl (by omega))) (fun a => Ev_ite (fun m0 => Ev_ite (fun c1 => yes (by omega)) (fun c1 => no (by omega))) (fun m0 => Ev_ite (fun c1 => yes (by omega)) (fun c1 => no (by omega))))
          · rw [if_neg hr]
            exact Ev_in ⟨(by first | omega | (dsimp only; omega) | (dsimp only)), by dsimp only; rw [ss, sel_f (fun w => hr w.1)]⟩ (by first | omega | (dsimp only; omega) | (dsimp only))
      · rintro ⟨v4, v6⟩ e
        have nb2 := stN_b (st := st) (mo := mo) hD hO hp hm (s 0).toNat (by omega)
        unfold stV
        rw [← e] at nb2 ⊢
        dsimp only at nb2 ⊢
        by_cases z : v6 = 0
        · rw [if_pos z, if_pos z]; exact Ev_some rfl
        · have gp : 0 < (Int.gcd v4 v6 : Int) := by
            have := Int.gcd_pos_of_ne_zero_right v4 z; omega
          have t1 := td_b nb2.1 gp
          have t2 := td_b (x := v6) (by omega) gp
          rw [if_neg z, if_neg z]
          unfold jX11_stretch_226
          rw [r_common (by omega) (by omega)]
          refine Ev_ite (fun u => ?_) (fun u => ?_)
          · rw [if_pos u]
            simp (disch := omega) only [w32_eq, w64_eq, chk_T, chk_t, lt, lm, ob, Int.add_zero, Int.zero_add, true_and, and_true, if_true, if_false, ]
            exact Ev_some rfl
          · rw [if_neg u]
            simp (disch := omega) only [w32_eq, w64_eq, chk_T, chk_t, lt, lm, ob, Int.add_zero, Int.zero_add, true_and, and_true, if_true, if_false, ]
            exact Ev_some rfl
    · rw [sel_f hc, sel_f (fun v => hc v.2)]; exact Ev_some rfl
  · rw [sel_f w, sel_f (fun v => w v.1)]; exact Ev_some rfl
end
