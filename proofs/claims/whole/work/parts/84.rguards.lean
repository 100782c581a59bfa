/-! ===== guards of the reference ===== -/
def Wc (a : Int → Int) (k : Int) (P : Int → Prop) : Prop := (∀ w, 0 ≤ w → w < 3 → R64 (a (k + w)) ∧ ∀ i, 48 ≤ i → i < 64 → bw (a (k + w)) i = false) ∧ ∀ q, 0 ≤ q → q < 144 → (bw (a (k + q / 48)) (q % 48).toNat = true ↔ P q)
theorem Wc.e {a a' : Int → Int} {k : Int} {P : Int → Prop} (h : Wc a k P) (he : ∀ i, k ≤ i → i < k + 3 → a' i = a i) : Wc a' k P := by
  refine ⟨fun w w0 w1 => ?_, fun q q0 q1 => ?_⟩
  · rw [he _ (by omega) (by omega)]; exact h.1 w w0 w1
  · rw [he _ (by omega) (by omega)]; exact h.2 q q0 q1
theorem Wc.c {a : Int → Int} {k : Int} {P Q : Int → Prop} (h : Wc a k P) (hc : ∀ q, 0 ≤ q → q < 144 → (P q ↔ Q q)) : Wc a k Q := ⟨h.1, fun q x y => (h.2 q x y).trans (hc q x y)⟩
theorem Wc.z {a : Int → Int} {k : Int} (h : ∀ i, k ≤ i → i < k + 3 → a i = 0) : Wc a k (fun _ => False) := by
  refine ⟨fun w w0 w1 => ?_, fun q q0 q1 => ?_⟩
  · rw [h _ (by omega) (by omega)]; exact ⟨by unfold R64; omega, fun i _ _ => bw_0 i⟩
  · rw [h _ (by omega) (by omega), bw_0]; exact ⟨fun z => (by cases z), False.elim⟩
theorem Wc.or {a a' : Int → Int} {k x : Int} {P : Int → Prop} (h : Wc a k P) (hx : 0 ≤ x ∧ x < 144) (e : a' (k + x / 48) = lor (a (k + x / 48)) (lshl 1 (x % 48))) (o : ∀ i, i ≠ k + x / 48 → a' i = a i) : Wc a' k (fun q => P q ∨ q = x) := by
  have e2 : x % 48 = ((x % 48).toNat : Int) := by omega
  rw [e2] at e
  refine ⟨fun w w0 w1 => ?_, fun q q0 q1 => ?_⟩
  · by_cases z : w = x / 48
    · rw [z, e]
      refine ⟨R64_lor _ _, fun i i0 i1 => ?_⟩
      rw [bw_or, bw_one (by omega), (h.1 (x / 48) (by omega) (by omega)).2 i i0 i1]
      have : ¬(x % 48).toNat = i := by omega
      simp [this]
    · rw [o _ (by omega)]; exact h.1 w w0 w1
  · by_cases z : q / 48 = x / 48
    · rw [z, e, bw_or, bw_one (by omega), ← z]
      have := h.2 q q0 q1
      simp only [Bool.or_eq_true, this, decide_eq_true_eq]
      constructor
      · intro w; rcases w with w | w
        · exact .inl w
        · exact .inr (by omega)
      · intro w; rcases w with w | w
        · exact .inl w
        · exact .inr (by subst w; rfl)
    · rw [o _ (by omega), h.2 q q0 q1]
      constructor
      · exact .inl
      · intro w; rcases w with w | w
        · exact w
        · subst w; exact absurd rfl z
theorem Wc.w {a a' a'' d : Int → Int} {k k' k'' j w : Int} {P Q R S : Int → Prop} (h : Wc a k P) (h2 : Wc a' k' Q) (h3 : Wc a'' k'' R) (h4 : Wc d j S) (w0 : 0 ≤ w) (w1 : w < 3) : lor (lor (a (k + w)) (a' (k' + w))) (a'' (k'' + w)) = d (j + w) ↔ ∀ q, 48 * w ≤ q → q < 48 * w + 48 → ((P q ∨ Q q ∨ R q) ↔ S q) := by
  have bits : ∀ q, 48 * w ≤ q → q < 48 * w + 48 → (bw (lor (lor (a (k + w)) (a' (k' + w))) (a'' (k'' + w))) (q % 48).toNat = true ↔ P q ∨ Q q ∨ R q) := by
    intro q q0 q1
    have e : q / 48 = w := by omega
    have i1 := h.2 q (by omega) (by omega); have i2 := h2.2 q (by omega) (by omega); have i3 := h3.2 q (by omega) (by omega)
    rw [e] at i1 i2 i3
    rw [bw_or, bw_or]
    simp only [Bool.or_eq_true, i1, i2, i3]
    exact or_assoc
  constructor
  · intro e q q0 q1
    rw [← bits q q0 q1, e]
    have i4 := h4.2 q (by omega) (by omega)
    rw [show q / 48 = w by omega] at i4
    exact i4
  · intro e
    refine bw_ext (R64_lor _ _) (h4.1 w w0 w1).1 (fun i hi => ?_)
    by_cases z : i < 48
    · have b := bits (48 * w + i) (by omega) (by omega)
      rw [show ((48 * w + (i : Int)) % 48).toNat = i by omega] at b
      have i4 := h4.2 (48 * w + i) (by omega) (by omega)
      rw [show (48 * w + (i : Int)) / 48 = w by omega, show ((48 * w + (i : Int)) % 48).toNat = i by omega] at i4
      have := b.trans ((e (48 * w + i) (by omega) (by omega)).trans i4.symm)
      exact Bool.eq_iff_iff.mpr this
    · rw [bw_or, bw_or, (h.1 w w0 w1).2 i (by omega) hi, (h2.1 w w0 w1).2 i (by omega) hi, (h3.1 w w0 w1).2 i (by omega) hi, (h4.1 w w0 w1).2 i (by omega) hi]; rfl
section
variable {μ μ' : Mm} {b : Int → Int} {n p l : Int} {g : Int → Int}
def Gd (μ : Mm) (g : Int → Int) : Prop := Wc (μ 20017) 0 (Pl g) ∧ ∀ p, Pl g p → Wc (μ 20016) (3 * p) (W1 g p)
theorem r_guardsOf (hM : Md μ) (hG : G μ l g) (hL : LdOk g) : Ev (fX11_guardsOf 20000 l μ) (fun μ' => Fr [20016, 20017] [] μ μ' ∧ Gd μ' g) := by
  have nb := np_b hL
  unfold fX11_guardsOf
  simp (disch := omega) only [w32_eq, w64_eq, chk_T, chk_t, lt, lm, ob, Int.add_zero, Int.zero_add, true_and, and_true, if_true, if_false, K20000, K20001, K20002, K20003, K20004, K20005, K20006, K20007, K20008, K20009, K20010, K20011, K20012, K20013, K20014, K20015, K20016, K20017, K20018, K20019, N20001, N20002, N20003, N20004, N20005, N20006, N20007, N20008, N20009, N20010, N20011, N20012, N20013, N20014, N20015, N20016, N20017, N20018, N20019, r_placesOf hM hG hL]
  refine Ev_bind (Ev_lop (P := fun μ' => Fr [20016, 20017] [] μ μ' ∧ ∀ i, 0 ≤ i → i < 3 → μ' 20017 i = 0) (fun t => (0 ≤ t.1 ∧ t.1 ≤ 3) ∧ Fr [20016, 20017] [] μ t.2 ∧ ∀ i, 0 ≤ i → i < t.1 → t.2 20017 i = 0) (fun t => (3 - t.1).toNat) ⟨(by first | omega | (dsimp only; omega) | (dsimp only)), Fr.rf, fun i a c => by dsimp only at c; omega⟩ (by unfold FU; dsimp only; omega) ?_) ?_
  · rintro ⟨v3, μ1⟩ ⟨h1, f1, z1⟩
    dsimp only at h1 f1 z1 ⊢
    have M1 := f1.md hM (by decide)
    unfold sX11_guardsOf_8
    dsimp only
    refine Ev_ite (fun y => Ev_out ⟨f1, fun i a c => z1 i a (by omega)⟩) (fun y => ?_)
    simp (disch := omega) only [w32_eq, w64_eq, chk_T, chk_t, lt, lm, ob, Int.add_zero, Int.zero_add, true_and, and_true, if_true, if_false, K20000, K20001, K20002, K20003, K20004, K20005, K20006, K20007, K20008, K20009, K20010, K20011, K20012, K20013, K20014, K20015, K20016, K20017, K20018, K20019, N20001, N20002, N20003, N20004, N20005, N20006, N20007, N20008, N20009, N20010, N20011, N20012, N20013, N20014, N20015, N20016, N20017, N20018, N20019, Md_31 M1]
    refine Ev_in ⟨(by first | omega | (dsimp only; omega) | (dsimp only)), f1.tr (Fr.row rfl rfl (by decide) (by decide)), fun i a c => ?_⟩ (by first | omega | (dsimp only; omega) | (dsimp only))
    dsimp only at c ⊢
    by_cases e : i = v3
    · rw [e, mst_s]
    · rw [mst_j e]; exact z1 i a (by omega)
  · intro μ1 ⟨f1, z1⟩
    refine Ev_bind (Ev_lop (P := fun μ' => Fr [20016, 20017] [] μ μ' ∧ Gd μ' g) (fun t => (0 ≤ t.1 ∧ t.1 ≤ np g) ∧ Fr [20016, 20017] [] μ t.2 ∧ Wc (t.2 20017) 0 (fun x => 0 ≤ x ∧ x < t.1) ∧ ∀ p, 0 ≤ p → p < t.1 → Wc (t.2 20016) (3 * p) (W1 g p)) (fun t => (np g - t.1).toNat) ⟨(by first | omega | (dsimp only; omega) | (dsimp only)), f1, (Wc.z (fun i a c => z1 i (by omega) (by omega))).c (fun q a c => ⟨False.elim, fun w => by dsimp only at w; omega⟩), fun p a c => by dsimp only at c; omega⟩ (by unfold FU; dsimp only; omega) ?_) (fun r h => Ev_some h)
    rintro ⟨v3, μ2⟩ ⟨h2, f2, w2, k2⟩
    dsimp only at h2 f2 w2 k2 ⊢
    have M2 := f2.md hM (by decide)
    unfold sX11_guardsOf_28
    dsimp only
    refine Ev_ite (fun y => Ev_out ⟨f2, ?_, fun p hp => k2 p hp.1 (by have := hp.2; omega)⟩) (fun y => ?_)
    · have e : v3 = np g := by omega
      rw [e] at w2; exact w2
    have hp : Pl g v3 := ⟨h2.1, by omega⟩
    simp (disch := omega) only [w32_eq, w64_eq, chk_T, chk_t, lt, lm, ob, Int.add_zero, Int.zero_add, true_and, and_true, if_true, if_false, K20000, K20001, K20002, K20003, K20004, K20005, K20006, K20007, K20008, K20009, K20010, K20011, K20012, K20013, K20014, K20015, K20016, K20017, K20018, K20019, N20001, N20002, N20003, N20004, N20005, N20006, N20007, N20008, N20009, N20010, N20011, N20012, N20013, N20014, N20015, N20016, N20017, N20018, N20019, tdiv_nn, tmod_nn, Md_31 M2]
    generalize hm : mst μ2 20017 (v3 / 48) (lor (μ2 20017 (v3 / 48)) (lshl 1 (v3 % 48))) = μ3
    have f3 : Fr [20016, 20017] [] μ2 μ3 := by rw [← hm]; exact Fr.row rfl rfl (by decide) (by decide)
    have M3 := f3.md M2 (by decide)
    have w3 : Wc (μ3 20017) 0 (fun x => 0 ≤ x ∧ x < v3 + 1) := by
      refine (Wc.or (x := v3) w2 (by omega) (by rw [← hm, Int.zero_add, mst_s]) (fun i hi => by rw [← hm, mst_j (by omega)])).c (fun q a c => ?_)
      omega
    have k3 : μ3 20016 = μ2 20016 := by rw [← hm, mst_n (by decide)]
    refine Ev_bind (Ev_lop (P := fun μ' => Fr [20016] [] μ3 μ' ∧ Wc (μ' 20016) (3 * v3) (fun _ => False) ∧ ∀ i, i < 3 * v3 → μ' 20016 i = μ3 20016 i) (fun t => (0 ≤ t.1 ∧ t.1 ≤ 3) ∧ Fr [20016] [] μ3 t.2 ∧ (∀ i, 3 * v3 ≤ i → i < 3 * v3 + t.1 → t.2 20016 i = 0) ∧ ∀ i, i < 3 * v3 → t.2 20016 i = μ3 20016 i) (fun t => (3 - t.1).toNat) ⟨(by first | omega | (dsimp only; omega) | (dsimp only)), Fr.rf, fun i a c => by dsimp only at c; omega, fun _ _ => rfl⟩ (by unfold FU; dsimp only; omega) ?_) ?_
    · rintro ⟨v4, μ4⟩ ⟨h4, f4, z4, o4⟩
      dsimp only at h4 f4 z4 o4 ⊢
      have M4 := f4.md M3 (by decide)
      unfold sX11_guardsOf_54
      dsimp only
      refine Ev_ite (fun y => Ev_out ⟨f4, Wc.z (fun i a c => z4 i a (by omega)), o4⟩) (fun y => ?_)
      simp (disch := omega) only [w32_eq, w64_eq, chk_T, chk_t, lt, lm, ob, Int.add_zero, Int.zero_add, true_and, and_true, if_true, if_false, K20000, K20001, K20002, K20003, K20004, K20005, K20006, K20007, K20008, K20009, K20010, K20011, K20012, K20013, K20014, K20015, K20016, K20017, K20018, K20019, N20001, N20002, N20003, N20004, N20005, N20006, N20007, N20008, N20009, N20010, N20011, N20012, N20013, N20014, N20015, N20016, N20017, N20018, N20019, Md_30 M4]
      refine Ev_in ⟨(by first | omega | (dsimp only; omega) | (dsimp only)), f4.tr (Fr.row rfl rfl (by decide) (by decide)), fun i a c => ?_, fun i hi => ?_⟩ (by first | omega | (dsimp only; omega) | (dsimp only))
      · dsimp only at c ⊢
        by_cases e : i = 3 * v3 + v4
        · rw [e, mst_s]
        · rw [mst_j e]; exact z4 i a (by omega)
      · dsimp only; rw [mst_j (by omega)]; exact o4 i hi
    · intro μ4 ⟨f4, w4, o4⟩
      have M4 := f4.md M3 (by decide)
      have G4 : G μ4 l g := ((hG.fr f2 (by decide)).fr f3 (by decide)).fr f4 (by decide)
      refine Ev_bind (Ev_lop (P := fun μ' => Fr [20016] [] μ4 μ' ∧ Wc (μ' 20016) (3 * v3) (W1 g v3) ∧ ∀ i, i < 3 * v3 → μ' 20016 i = μ4 20016 i) (fun t => (0 ≤ t.1 ∧ t.1 ≤ np g) ∧ Fr [20016] [] μ4 t.2 ∧ Wc (t.2 20016) (3 * v3) (fun x => x < t.1 ∧ W1 g v3 x) ∧ ∀ i, i < 3 * v3 → t.2 20016 i = μ4 20016 i) (fun t => (np g - t.1).toNat) ⟨(by first | omega | (dsimp only; omega) | (dsimp only)), Fr.rf, w4.c (fun q a c => ⟨False.elim, fun w => by dsimp only at w; omega⟩), fun _ _ => rfl⟩ (by unfold FU; dsimp only; omega) ?_) ?_
      · rintro ⟨v4, μ5⟩ ⟨h5, f5, w5, o5⟩
        dsimp only at h5 f5 w5 o5 ⊢
        have M5 := f5.md M4 (by decide)
        have G5 := G4.fr f5 (by decide)
        unfold sX11_guardsOf_81
        dsimp only
        refine Ev_ite (fun y => Ev_out ⟨f5, w5.c (fun q a c => ⟨fun w => w.2, fun w => ⟨?_, w⟩⟩), o5⟩) (fun y => ?_)
        · have : Pl g q := by rcases w with w | w; rw [w]; exact hp; exact w.1
          have := this.2; omega
        have hv : Pl g v4 := ⟨h5.1, by omega⟩
        have key : W1 g v3 v4 → Ev (jX11_guardsOf_104 20000 l (np g) v3 v4 μ5) (Nx (fun t => (0 ≤ t.1 ∧ t.1 ≤ np g) ∧ Fr [20016] [] μ4 t.2 ∧ Wc (t.2 20016) (3 * v3) (fun x => x < t.1 ∧ W1 g v3 x) ∧ ∀ i, i < 3 * v3 → t.2 20016 i = μ4 20016 i) (fun t => (np g - t.1).toNat) (fun μ' => Fr [20016] [] μ4 μ' ∧ Wc (μ' 20016) (3 * v3) (W1 g v3) ∧ ∀ i, i < 3 * v3 → μ' 20016 i = μ4 20016 i) (np g - v4).toNat) := by
          intro hw
          unfold jX11_guardsOf_104
          simp (disch := omega) only [w32_eq, w64_eq, chk_T, chk_t, lt, lm, ob, Int.add_zero, Int.zero_add, true_and, and_true, if_true, if_false, K20000, K20001, K20002, K20003, K20004, K20005, K20006, K20007, K20008, K20009, K20010, K20011, K20012, K20013, K20014, K20015, K20016, K20017, K20018, K20019, N20001, N20002, N20003, N20004, N20005, N20006, N20007, N20008, N20009, N20010, N20011, N20012, N20013, N20014, N20015, N20016, N20017, N20018, N20019, tdiv_nn, tmod_nn, Md_30 M5]
          refine Ev_in ⟨(by first | omega | (dsimp only; omega) | (dsimp only)), f5.tr (Fr.row rfl rfl (by decide) (by decide)), ?_, fun i hi => ?_⟩ (by first | omega | (dsimp only; omega) | (dsimp only))
          · dsimp only
            refine (Wc.or (x := v4) w5 (by omega) (by rw [mst_s]) (fun i hi => by rw [mst_j (by omega)])).c (fun q a c => ?_)
            constructor
            · intro w; rcases w with w | w
              · exact ⟨by omega, w.2⟩
              · subst w; exact ⟨by omega, hw⟩
            · intro w
              by_cases e : q = v4
              · exact .inr e
              · exact .inl ⟨by omega, w.2⟩
          · dsimp only; rw [mst_j (by omega)]; exact o5 i hi
        refine Ev_ite (fun z => key (.inl z)) (fun z => ?_)
        simp (disch := omega) only [w32_eq, w64_eq, chk_T, chk_t, lt, lm, ob, Int.add_zero, Int.zero_add, true_and, and_true, if_true, if_false, K20000, K20001, K20002, K20003, K20004, K20005, K20006, K20007, K20008, K20009, K20010, K20011, K20012, K20013, K20014, K20015, K20016, K20017, K20018, K20019, N20001, N20002, N20003, N20004, N20005, N20006, N20007, N20008, N20009, N20010, N20011, N20012, N20013, N20014, N20015, N20016, N20017, N20018, N20019, ]
        rw [r_isSeen M5 G5 hL hp hv (fun e => z e.symm)]
        simp only [ob, bi_if]
        by_cases u : zSeen g v3 v4
        · rw [sel_t u]; exact key (.inr ⟨hv, z, u⟩)
        · rw [sel_f u]
          try simp (disch := omega) only [w32_eq, w64_eq, chk_T, chk_t, lt, lm, ob, Int.add_zero, Int.zero_add, true_and, and_true, if_true, if_false, ]
          refine Ev_in ⟨(by first | omega | (dsimp only; omega) | (dsimp only)), f5, w5.c (fun q a c => ?_), o5⟩ (by first | omega | (dsimp only; omega) | (dsimp only))
          dsimp only
          constructor
          · intro w; exact ⟨by omega, w.2⟩
          · intro w
            refine ⟨?_, w.2⟩
            by_cases e : q = v4
            · subst e; rcases w.2 with w | w; exact absurd w z; exact absurd w.2.2 u
            · omega
      · intro μ5 ⟨f5, w5, o5⟩
        try simp (disch := omega) only [w32_eq, w64_eq, chk_T, chk_t, lt, lm, ob, Int.add_zero, Int.zero_add, true_and, and_true, if_true, if_false, ]
        refine Ev_in ⟨(by first | omega | (dsimp only; omega) | (dsimp only)), ((f2.tr f3).tr (f4.mo (by decide) (by decide))).tr (f5.mo (by decide) (by decide)), ?_, fun p p0 p1 => ?_⟩ (by first | omega | (dsimp only; omega) | (dsimp only))
        · dsimp only
          rw [f5.1 20017 (by decide) (by decide), f4.1 20017 (by decide) (by decide)]; exact w3
        · dsimp only at p1 ⊢
          by_cases e : p = v3
          · subst e; exact w5
          · exact (k2 p p0 (by omega)).e (fun i a c => by rw [o5 i (by omega), o4 i (by omega), k3])
theorem r_isWhole {a b c : Int} (hM : Md μ) (hG : Gd μ g) (hL : LdOk g) (ha : Pl g a) (hb : Pl g b) (hc : Pl g c) : fX11_isWhole 20000 a b c μ = some (bi (Cov g a b c)) := by
  have i1 := Pl.i hL ha; have i2 := Pl.i hL hb; have i3 := Pl.i hL hc
  have sub : ∀ x, Pl g x → ∀ q, W1 g x q → Pl g q := fun x hx q w => by rcases w with w | w; rw [w]; exact hx; exact w.1
  have ew : ∀ w, 0 ≤ w → w < 3 → (lor (lor (μ 20016 (3 * a + w)) (μ 20016 (3 * b + w))) (μ 20016 (3 * c + w)) = μ 20017 w ↔ ∀ q, 48 * w ≤ q → q < 48 * w + 48 → ((W1 g a q ∨ W1 g b q ∨ W1 g c q) ↔ Pl g q)) := by
    intro w w0 w1
    have := Wc.w (hG.2 a ha) (hG.2 b hb) (hG.2 c hc) hG.1 w0 w1
    rw [Int.zero_add] at this; exact this
  apply Ev.eq
  unfold fX11_isWhole
  refine Ev_bind (Ev_lop (P := fun r => r = bi (Cov g a b c)) (fun t => (0 ≤ t.2 ∧ t.2 ≤ 3) ∧ t.1 = bi (∀ q, 0 ≤ q → q < 48 * t.2 → ((W1 g a q ∨ W1 g b q ∨ W1 g c q) ↔ Pl g q))) (fun t => (3 - t.2).toNat) ⟨(by first | omega | (dsimp only; omega) | (dsimp only)), (bi_t (fun q a c => by dsimp only at c; omega)).symm⟩ (by unfold FU; dsimp only; omega) ?_) (fun r hr => ?_)
  · rintro ⟨v4, v5⟩ ⟨k1, k2⟩
    dsimp only at k1 k2 ⊢
    unfold sX11_isWhole_6
    dsimp only
    refine Ev_ite (fun y => Ev_out ?_) (fun y => ?_)
    · rw [k2]
      refine bi_c ⟨fun h q hq => (h q hq.1 (by have := Pl.i hL hq; omega)).mpr hq, fun h q q0 q1 => ⟨fun w => ?_, fun w => h q w⟩⟩
      rcases w with w | w | w
      · exact sub a ha q w
      · exact sub b hb q w
      · exact sub c hc q w
    refine Ev_ite (fun z => Ev_out ?_) (fun z => ?_)
    · rw [z] at k2 ⊢
      refine (bi_f (fun h => bi_0.mp k2.symm (fun q q0 q1 => ⟨fun w => ?_, fun w => h q w⟩))).symm
      rcases w with w | w | w
      · exact sub a ha q w
      · exact sub b hb q w
      · exact sub c hc q w
    · have v1 : v4 = 1 := by
        rcases bi_b (∀ q, 0 ≤ q → q < 48 * v5 → ((W1 g a q ∨ W1 g b q ∨ W1 g c q) ↔ Pl g q)) with w | w <;> omega
      have old := bi_1.mp (k2.symm.trans v1)
      simp (disch := omega) only [w32_eq, w64_eq, chk_T, chk_t, lt, lm, ob, Int.add_zero, Int.zero_add, true_and, and_true, if_true, if_false, K20000, K20001, K20002, K20003, K20004, K20005, K20006, K20007, K20008, K20009, K20010, K20011, K20012, K20013, K20014, K20015, K20016, K20017, K20018, K20019, N20001, N20002, N20003, N20004, N20005, N20006, N20007, N20008, N20009, N20010, N20011, N20012, N20013, N20014, N20015, N20016, N20017, N20018, N20019, Md_30 hM, Md_31 hM]
      have e5 := ew v5 k1.1 (by omega)
      refine Ev_ite (fun u => Ev_in ⟨(by first | omega | (dsimp only; omega) | (dsimp only)), ?_⟩ (by first | omega | (dsimp only; omega) | (dsimp only))) (fun u => Ev_in ⟨(by first | omega | (dsimp only; omega) | (dsimp only)), ?_⟩ (by first | omega | (dsimp only; omega) | (dsimp only)))
      · dsimp only
        refine (bi_t (fun q q0 q1 => ?_)).symm
        by_cases e : q < 48 * v5
        · exact old q q0 e
        · exact e5.mp u q (by omega) (by omega)
      · dsimp only
        exact (bi_f (fun h => u (e5.mpr (fun q q0 q1 => h q (by omega) (by omega))))).symm
  · rw [hr, chk_t (bi_b _)]
    exact Ev_some rfl
end
