/-! ===== the reference begins: all directions in order ===== -/
def insR (x : Int × Int) : List (Int × Int) → List (Int × Int)
  | [] => [x]
  | y :: ys => if erl x.1 x.2 y.1 y.2 then y :: insR x ys else x :: y :: ys
def pN (n : Nat) : Int × Int := (((n / 23 : Nat) : Int) - 11, ((n % 23 : Nat) : Int) - 11)
def fl : Nat → List (Int × Int)
  | 0 => []
  | n + 1 => if Int.gcd (pN n).1 (pN n).2 = 1 then insR (pN n) (fl n) else fl n
theorem fl_end : fl 529 = dTab.reverse := by decide +kernel
theorem insR_len (x : Int × Int) : ∀ l : List (Int × Int), (insR x l).length = l.length + 1
  | [] => rfl
  | y :: ys => by
    unfold insR
    split
    · rw [List.length_cons, insR_len x ys, List.length_cons]
    · rfl
theorem fl_up : ∀ n : Nat, (fl n).length ≤ (fl (n + 1)).length := fun n => by
  show _ ≤ (if Int.gcd (pN n).1 (pN n).2 = 1 then insR (pN n) (fl n) else fl n).length
  split
  · rw [insR_len]; omega
  · exact Nat.le_refl _
theorem fl_le : ∀ (k n : Nat), (fl n).length ≤ (fl (n + k)).length
  | 0, n => Nat.le_refl _
  | k + 1, n => Nat.le_trans (fl_le k n) (fl_up (n + k))
theorem fl_b {n : Nat} (h : n ≤ 529) : (fl n).length ≤ 336 := by
  have := fl_le (529 - n) n
  rw [show n + (529 - n) = 529 by omega, fl_end, List.length_reverse, dTab_len] at this
  exact this
def okP (y : Int × Int) : Prop := (-11 ≤ y.1 ∧ y.1 ≤ 11) ∧ (-11 ≤ y.2 ∧ y.2 ≤ 11)
theorem ins_ok {x : Int × Int} (hx : okP x) : ∀ l : List (Int × Int), (∀ y ∈ l, okP y) → ∀ y ∈ insR x l, okP y
  | [], _, y, hy => by
    have : y = x := by simpa [insR] using hy
    rw [this]; exact hx
  | z :: zs, h, y, hy => by
    unfold insR at hy
    split at hy
    · rcases List.mem_cons.mp hy with e | e
      · rw [e]; exact h z (List.mem_cons_self ..)
      · exact ins_ok hx zs (fun w hw => h w (List.mem_cons_of_mem _ hw)) y e
    · rcases List.mem_cons.mp hy with e | e
      · rw [e]; exact hx
      · exact h y e
theorem pN_ok {n : Nat} (h : n < 529) : okP (pN n) := by
  unfold okP pN; dsimp only; omega
theorem fl_ok : ∀ n : Nat, n ≤ 529 → ∀ y ∈ fl n, okP y
  | 0, _, y, hy => by cases hy
  | n + 1, h, y, hy => by
    have hy' : y ∈ (if Int.gcd (pN n).1 (pN n).2 = 1 then insR (pN n) (fl n) else fl n) := hy
    split at hy'
    · exact ins_ok (pN_ok (by omega)) _ (fl_ok n (by omega)) y hy'
    · exact fl_ok n (by omega) y hy'
/-- the rows hold q, its first element last -/
def RQ (ν : Mm) (q : List (Int × Int)) : Prop := ∀ i : Nat, i < q.length → ν 20003 ((q.length : Int) - 1 - i) = (q.getD i (0, 0)).1 ∧ ν 20004 ((q.length : Int) - 1 - i) = (q.getD i (0, 0)).2
theorem pts_loop {dx dy : Int} (hx : okP (dx, dy)) : ∀ (q : List (Int × Int)) (f : Nat) (ν : Mm), q.length < f → q.length ≤ 390 → Md ν → (∀ y ∈ q, okP y) → RQ ν q → ∃ k' ν', lop (sX11_points_5 20000 dx dy) f ((q.length : Int), ν) = some (k', ν') ∧ (0 ≤ k' ∧ k' ≤ q.length) ∧ Fr [20003, 20004] [] ν ν' ∧ (∀ x, (q.length : Int) < x → ν' 20003 x = ν 20003 x ∧ ν' 20004 x = ν 20004 x) ∧ RQ (mst (mst ν' 20003 k' dx) 20004 k' dy) (insR (dx, dy) q)
  | [], 0, ν, h, _, _, _, _ => absurd h (Nat.not_lt_zero _)
  | [], f + 1, ν, _, _, hM, _, _ => by
    refine ⟨0, ν, lop_out (by unfold sX11_points_5; dsimp only; rw [if_pos (by decide)]; rfl), by decide, Fr.rf, fun x _ => ⟨rfl, rfl⟩, ?_⟩
    intro i hi
    have : i = 0 := by simp [insR] at hi; omega
    subst this
    show mst (mst ν 20003 0 dx) 20004 0 dy 20003 ((([(dx, dy)] : List (Int × Int)).length : Int) - 1 - (0 : Nat)) = dx ∧ mst (mst ν 20003 0 dx) 20004 0 dy 20004 ((([(dx, dy)] : List (Int × Int)).length : Int) - 1 - (0 : Nat)) = dy
    rw [show (([(dx, dy)] : List (Int × Int)).length : Int) - 1 - (0 : Nat) = 0 by rfl, mst_n (by decide), mst_s, mst_s]
    exact ⟨rfl, rfl⟩
  | y :: ys, 0, ν, h, _, _, _, _ => absurd h (Nat.not_lt_zero _)
  | y :: ys, f + 1, ν, h, hl, hM, hok, hq => by
    have len : ((y :: ys).length : Int) = ys.length + 1 := by rw [List.length_cons]; omega
    rw [List.length_cons] at h hl
    have h0 := hq 0 (by rw [List.length_cons]; omega)
    have ey : (ys.length : Int) + 1 - 1 = ys.length := by omega
    rw [len, show (ys.length : Int) + 1 - 1 - (0 : Nat) = ys.length by omega] at h0
    have y1 : ν 20003 ys.length = y.1 := h0.1
    have y2 : ν 20004 ys.length = y.2 := h0.2
    have oy := hok y (List.mem_cons_self ..)
    have ox : okP (dx, dy) := hx
    unfold okP at oy ox
    dsimp only at ox
    have hq' : ∀ i : Nat, i < ys.length → ν 20003 ((ys.length : Int) - 1 - i) = (ys.getD i (0, 0)).1 ∧ ν 20004 ((ys.length : Int) - 1 - i) = (ys.getD i (0, 0)).2 := fun i hi => by
      have := hq (i + 1) (by rw [List.length_cons]; omega)
      rw [len, show (ys.length : Int) + 1 - 1 - ((i + 1 : Nat) : Int) = (ys.length : Int) - 1 - i by omega] at this
      exact this
    have er := r_isEarlier (ax := dx) (ay := dy) (bx := y.1) (dy := y.2) (by omega) (by omega) (by omega) (by omega)
    by_cases z : erl dx dy y.1 y.2 = true
    · have st : sX11_points_5 20000 dx dy (((y :: ys).length : Int), ν) = some (.inl ((ys.length : Int), mst (mst ν 20003 ((ys.length : Int) + 1) y.1) 20004 ((ys.length : Int) + 1) y.2)) := by
        rw [len]
        unfold sX11_points_5
        dsimp only
        rw [if_neg (by omega)]
        have m4 : ∀ i v, mst ν 20003 i v 20000 4 = 20004 := fun i v => by rw [mst_n (by decide)]; exact Md_4 hM
        have m5 : ∀ i v, mst ν 20003 i v 20004 = ν 20004 := fun i v => mst_n (by decide)
        simp (disch := omega) only [w32_eq, w64_eq, chk_T, chk_t, lt, lm, ob, Int.add_zero, Int.zero_add, true_and, and_true, if_true, if_false, K20000, K20001, K20002, K20003, K20004, K20005, K20006, K20007, K20008, K20009, K20010, K20011, K20012, K20013, K20014, K20015, K20016, K20017, K20018, K20019, N20001, N20002, N20003, N20004, N20005, N20006, N20007, N20008, N20009, N20010, N20011, N20012, N20013, N20014, N20015, N20016, N20017, N20018, N20019, Md_3 hM, Md_4 hM, ey, y1, y2, er, m4, m5]
        rw [bi_t z, if_neg (by decide)]
        try simp (disch := omega) only [w32_eq, w64_eq, chk_T, chk_t, lt, lm, ob, Int.add_zero, Int.zero_add, true_and, and_true, if_true, if_false, K20000, K20001, K20002, K20003, K20004, K20005, K20006, K20007, K20008, K20009, K20010, K20011, K20012, K20013, K20014, K20015, K20016, K20017, K20018, K20019, N20001, N20002, N20003, N20004, N20005, N20006, N20007, N20008, N20009, N20010, N20011, N20012, N20013, N20014, N20015, N20016, N20017, N20018, N20019, show (ys.length : Int) + 1 + -1 = ys.length by omega]
      have M1 : Md (mst (mst ν 20003 ((ys.length : Int) + 1) y.1) 20004 ((ys.length : Int) + 1) y.2) := Fr.md (R := [20003, 20004]) (L := []) ((Fr.row rfl rfl (by decide) (by decide)).tr (Fr.row rfl rfl (by decide) (by decide))) hM (by decide)
      have f1 : Fr [20003, 20004] [] ν (mst (mst ν 20003 ((ys.length : Int) + 1) y.1) 20004 ((ys.length : Int) + 1) y.2) := (Fr.row rfl rfl (by decide) (by decide)).tr (Fr.row rfl rfl (by decide) (by decide))
      have g3 : ∀ x, x ≠ (ys.length : Int) + 1 → mst (mst ν 20003 ((ys.length : Int) + 1) y.1) 20004 ((ys.length : Int) + 1) y.2 20003 x = ν 20003 x := fun x hx => by rw [mst_n (by decide), mst_j hx]
      have g4 : ∀ x, x ≠ (ys.length : Int) + 1 → mst (mst ν 20003 ((ys.length : Int) + 1) y.1) 20004 ((ys.length : Int) + 1) y.2 20004 x = ν 20004 x := fun x hx => by rw [mst_j hx, mst_n (by decide)]
      have s3 : mst (mst ν 20003 ((ys.length : Int) + 1) y.1) 20004 ((ys.length : Int) + 1) y.2 20003 ((ys.length : Int) + 1) = y.1 := by rw [mst_n (by decide), mst_s]
      have s4 : mst (mst ν 20003 ((ys.length : Int) + 1) y.1) 20004 ((ys.length : Int) + 1) y.2 20004 ((ys.length : Int) + 1) = y.2 := mst_s
      generalize mst (mst ν 20003 ((ys.length : Int) + 1) y.1) 20004 ((ys.length : Int) + 1) y.2 = ν1 at *
      have hq1 : RQ ν1 ys := fun i hi => by
        rw [g3 _ (by omega), g4 _ (by omega)]; exact hq' i hi
      obtain ⟨k', ν', e, b1, f2, o2, r2⟩ := pts_loop hx ys f ν1 (by omega) (by omega) M1 (fun w hw => hok w (List.mem_cons_of_mem _ hw)) hq1
      refine ⟨k', ν', by rw [lop_in st]; exact e, by rw [len]; omega, f1.tr f2, fun x hx => ?_, ?_⟩
      · rw [len] at hx
        have := o2 x (by omega)
        rw [this.1, this.2, g3 x (by omega), g4 x (by omega)]; exact ⟨rfl, rfl⟩
      · have ei : insR (dx, dy) (y :: ys) = y :: insR (dx, dy) ys := by
          show (if erl dx dy y.1 y.2 then y :: insR (dx, dy) ys else (dx, dy) :: y :: ys) = _
          rw [if_pos z]
        rw [ei]
        intro i hi
        have il := insR_len (dx, dy) ys
        rw [List.length_cons, il] at hi
        rw [List.length_cons, il]
        cases i with
        | zero =>
          have o := o2 ((ys.length : Int) + 1) (by omega)
          rw [show (((ys.length + 1 + 1 : Nat) : Int) - 1 - ((0 : Nat) : Int)) = (ys.length : Int) + 1 by omega, mst_n (by decide), mst_j (by omega), o.1, s3, mst_j (by omega), mst_n (by decide), o.2, s4]
          exact ⟨rfl, rfl⟩
        | succ j =>
          have r := r2 j (by rw [il]; omega)
          rw [il] at r
          rw [show (((ys.length + 1 + 1 : Nat) : Int) - 1 - ((j + 1 : Nat) : Int)) = ((ys.length + 1 : Nat) : Int) - 1 - (j : Int) by omega]
          exact r
    · have st : sX11_points_5 20000 dx dy (((y :: ys).length : Int), ν) = some (.inr ((ys.length : Int) + 1, ν)) := by
        rw [len]
        unfold sX11_points_5
        dsimp only
        rw [if_neg (by omega)]
        simp (disch := omega) only [w32_eq, w64_eq, chk_T, chk_t, lt, lm, ob, Int.add_zero, Int.zero_add, true_and, and_true, if_true, if_false, K20000, K20001, K20002, K20003, K20004, K20005, K20006, K20007, K20008, K20009, K20010, K20011, K20012, K20013, K20014, K20015, K20016, K20017, K20018, K20019, N20001, N20002, N20003, N20004, N20005, N20006, N20007, N20008, N20009, N20010, N20011, N20012, N20013, N20014, N20015, N20016, N20017, N20018, N20019, Md_3 hM, Md_4 hM, ey, y1, y2, er]
        rw [bi_f z, if_pos rfl]
      refine ⟨(ys.length : Int) + 1, ν, lop_out st, by rw [len]; omega, Fr.rf, fun x _ => ⟨rfl, rfl⟩, ?_⟩
      have ei : insR (dx, dy) (y :: ys) = (dx, dy) :: y :: ys := by
        show (if erl dx dy y.1 y.2 then y :: insR (dx, dy) ys else (dx, dy) :: y :: ys) = _
        rw [if_neg z]
      rw [ei]
      intro i hi
      rw [List.length_cons, List.length_cons] at hi ⊢
      cases i with
      | zero =>
        rw [show (((ys.length + 1 + 1 : Nat) : Int) - 1 - ((0 : Nat) : Int)) = (ys.length : Int) + 1 by omega, mst_n (by decide), mst_s, mst_s]
        exact ⟨rfl, rfl⟩
      | succ j =>
        have r := hq j (by rw [List.length_cons]; omega)
        rw [List.length_cons] at r
        rw [show (((ys.length + 1 + 1 : Nat) : Int) - 1 - ((j + 1 : Nat) : Int)) = ((ys.length + 1 : Nat) : Int) - 1 - (j : Int) by omega, mst_n (by decide), mst_j (by omega), mst_j (by omega), mst_n (by decide)]
        exact r
def Rp (μ : Mm) (l : List (Int × Int)) : Prop := μ 20000 2 = l.length ∧ RQ μ l
section
variable {μ μ' : Mm}
theorem r_points {dx dy : Int} {l : List (Int × Int)} (hx : okP (dx, dy)) (hM : Md μ) (hl : l.length ≤ 390) (hok : ∀ y ∈ l, okP y) (h : Rp μ l) : Ev (fX11_points 20000 dx dy μ) (fun μ' => Fr [20003, 20004] [2] μ μ' ∧ Rp μ' (insR (dx, dy) l)) := by
  obtain ⟨k', ν', e, b1, f2, o2, r2⟩ := pts_loop hx l FU μ (by unfold FU; omega) hl hM hok h.2
  unfold fX11_points
  rw [chk_t K20000, h.1, e]
  simp only [ob]
  have M2 := f2.md hM (by decide)
  have e2 : ν' 20000 2 = l.length := (f2.2 2 (by decide)).trans h.1
  have m4 : ∀ i v, mst ν' 20003 i v 20000 = ν' 20000 := fun i v => mst_n (by decide)
  have m5 : ∀ (μ : Mm) i v, mst μ 20004 i v 20000 = μ 20000 := fun μ i v => mst_n (by decide)
  simp (disch := omega) only [w32_eq, w64_eq, chk_T, chk_t, lt, lm, ob, Int.add_zero, Int.zero_add, true_and, and_true, if_true, if_false, K20000, K20001, K20002, K20003, K20004, K20005, K20006, K20007, K20008, K20009, K20010, K20011, K20012, K20013, K20014, K20015, K20016, K20017, K20018, K20019, N20001, N20002, N20003, N20004, N20005, N20006, N20007, N20008, N20009, N20010, N20011, N20012, N20013, N20014, N20015, N20016, N20017, N20018, N20019, Md_3 M2, Md_4 M2, m4, m5, e2]
  refine Ev_some ⟨(((f2.mo (by decide) (by decide)).tr (Fr.row rfl rfl (by decide) (by decide))).tr (Fr.row rfl rfl (by decide) (by decide))).tr (Fr.fld rfl (by decide)), ?_, ?_⟩
  · rw [mst_s, insR_len]; omega
  · intro i hi
    rw [mst_n (by decide), mst_n (by decide)]
    exact r2 i hi
theorem pN_at {x y : Int} (h0 : -11 ≤ x ∧ x ≤ 11) (h1 : -11 ≤ y ∧ y ≤ 11) : pN (23 * (x + 11) + (y + 11)).toNat = (x, y) := by
  unfold pN
  refine Prod.ext ?_ ?_
  · dsimp only; omega
  · dsimp only; omega
theorem r_row {dx : Int} (h : -11 ≤ dx ∧ dx ≤ 11) (hM : Md μ) (hR : Rp μ (fl (23 * (dx + 11)).toNat)) : Ev (lop (sX11_init_187 20000 dx) FU (-11, μ)) (fun μ' => Fr [20003, 20004] [2] μ μ' ∧ Rp μ' (fl (23 * (dx + 12)).toNat)) := by
  refine Ev_lop (P := fun μ' => Fr [20003, 20004] [2] μ μ' ∧ Rp μ' (fl (23 * (dx + 12)).toNat)) (fun s => (-11 ≤ s.1 ∧ s.1 ≤ 12) ∧ Fr [20003, 20004] [2] μ s.2 ∧ Rp s.2 (fl (23 * (dx + 11) + (s.1 + 11)).toNat)) (fun s => (12 - s.1).toNat) ⟨by dsimp only; omega, Fr.rf, by dsimp only; rw [show 23 * (dx + 11) + (-11 + 11) = 23 * (dx + 11) by omega]; exact hR⟩ (by unfold FU; dsimp only; omega) ?_
  rintro ⟨dy, ν⟩ ⟨q1, q2, q3⟩
  dsimp only at q1 q2 q3 ⊢
  unfold sX11_init_187
  dsimp only
  refine Ev_ite (fun w => Ev_out ⟨q2, ?_⟩) (fun w => ?_)
  · rw [show 23 * (dx + 12) = 23 * (dx + 11) + (dy + 11) by omega]; exact q3
  · rw [r_common (by omega) (by omega)]
    simp only [ob]
    have M2 := q2.md hM (by decide)
    have nx : (23 * (dx + 11) + (dy + 1 + 11)).toNat = (23 * (dx + 11) + (dy + 11)).toNat + 1 := by omega
    have pe := pN_at h (show -11 ≤ dy ∧ dy ≤ 11 by omega)
    have lb : (23 * (dx + 11) + (dy + 11)).toNat < 529 := by omega
    have fs : fl ((23 * (dx + 11) + (dy + 11)).toNat + 1) = if Int.gcd dx dy = 1 then insR (dx, dy) (fl (23 * (dx + 11) + (dy + 11)).toNat) else fl (23 * (dx + 11) + (dy + 11)).toNat := by
      show (if Int.gcd (pN (23 * (dx + 11) + (dy + 11)).toNat).1 (pN (23 * (dx + 11) + (dy + 11)).toNat).2 = 1 then insR (pN (23 * (dx + 11) + (dy + 11)).toNat) (fl (23 * (dx + 11) + (dy + 11)).toNat) else fl (23 * (dx + 11) + (dy + 11)).toNat) = _
      rw [pe]
    by_cases z : Int.gcd dx dy = 1
    · rw [if_pos (by rw [z]; rfl), chk_t K20000]
      refine Ev_bind (r_points (by unfold okP; dsimp only; omega) M2 (by have := fl_b (n := (23 * (dx + 11) + (dy + 11)).toNat) (by omega); omega) (fl_ok _ (by omega)) q3) (fun μ5 ⟨f5, R5⟩ => ?_)
      simp (disch := omega) only [w32_eq, w64_eq, chk_T, chk_t, lt, lm, ob, Int.add_zero, Int.zero_add, true_and, and_true, if_true, if_false, ]
      refine Ev_in ⟨by dsimp only; omega, q2.tr f5, ?_⟩ (by dsimp only; omega)
      dsimp only
      rw [nx, fs, if_pos z]; exact R5
    · rw [if_neg (fun y => z (by omega))]
      simp (disch := omega) only [w32_eq, w64_eq, chk_T, chk_t, lt, lm, ob, Int.add_zero, Int.zero_add, true_and, and_true, if_true, if_false, ]
      refine Ev_in ⟨by dsimp only; omega, q2, ?_⟩ (by dsimp only; omega)
      dsimp only
      rw [nx, fs, if_neg z]; exact q3
theorem r_rows (hM : Md μ) (h2 : μ 20000 2 = 0) : Ev (lop (sX11_init_178 20000) FU (-11, μ)) (fun μ' => Fr [20003, 20004] [2] μ μ' ∧ Dt μ') := by
  refine Ev_lop (P := fun μ' => Fr [20003, 20004] [2] μ μ' ∧ Dt μ') (fun s => (-11 ≤ s.1 ∧ s.1 ≤ 12) ∧ Fr [20003, 20004] [2] μ s.2 ∧ Rp s.2 (fl (23 * (s.1 + 11)).toNat)) (fun s => (12 - s.1).toNat) ⟨by dsimp only; omega, Fr.rf, h2, fun i hi => absurd hi (Nat.not_lt_zero _)⟩ (by unfold FU; dsimp only; omega) ?_
  rintro ⟨dx, ν⟩ ⟨q1, q2, q3⟩
  dsimp only at q1 q2 q3 ⊢
  have M2 := q2.md hM (by decide)
  unfold sX11_init_178
  dsimp only
  refine Ev_ite (fun w => Ev_out ⟨q2, ?_⟩) (fun w => ?_)
  · rw [show (23 * (dx + 11)).toNat = 529 by omega, fl_end] at q3
    obtain ⟨r1, r2⟩ := q3
    rw [List.length_reverse, dTab_len] at r1
    refine ⟨r1, fun k k0 k1 => ?_⟩
    have r := r2 (335 - k).toNat (by rw [List.length_reverse, dTab_len]; omega)
    rw [List.length_reverse, dTab_len, show ((336 : Nat) : Int) - 1 - ((335 - k).toNat : Int) = k by omega] at r
    have eg : dTab.reverse.getD (335 - k).toNat (0, 0) = dAt k := by
      unfold dAt
      rw [List.getD_eq_getElem?_getD, List.getD_eq_getElem?_getD, List.getElem?_reverse (by rw [dTab_len]; omega), dTab_len, show 336 - 1 - (335 - k).toNat = k.toNat by omega]
    rw [eg] at r
    exact r
  · refine Ev_bind (r_row (by omega) M2 q3) (fun μ5 ⟨f5, R5⟩ => ?_)
    simp (disch := omega) only [w32_eq, w64_eq, chk_T, chk_t, lt, lm, ob, Int.add_zero, Int.zero_add, true_and, and_true, if_true, if_false, ]
    exact Ev_in ⟨by dsimp only; omega, q2.tr f5, by dsimp only; rw [show dx + 1 + 11 = dx + 12 by omega]; exact R5⟩ (by dsimp only; omega)
end
