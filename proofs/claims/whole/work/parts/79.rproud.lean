/-! ===== proud of the reference ===== -/
section
variable {μ μ' : Mm} {b : Int → Int} {n p q l h : Int} {g : Int → Int}
theorem DG_in {E : Int → Int → Prop} {S : Int → Prop} {q r : Int} (d : DG E S (fun x => x = q) r) : 0 ≤ r ↔ ∃ m, wk E S m q := by
  rcases d with ⟨a, ⟨x, e, w⟩, _⟩ | ⟨a, w⟩
  · subst e; exact ⟨fun _ => ⟨_, w⟩, fun _ => a⟩
  · exact ⟨fun _ => by omega, fun ⟨m, z⟩ => absurd z (w q m rfl)⟩
theorem r_climbs (hM : Md μ) (hG : G μ l g) (hL : LdOk g) (hp : Pl g p) : Ev (fX11_climbs 20000 l p h μ) (fun r => Fr [20013, 20014, 20015] [26] μ r.2 ∧ r.1 = bi (Hg g p h)) := by
  suffices hh : Ev (fX11_climbs 20000 l p h μ) (fun r => r.1 = bi (Hg g p h)) by
    obtain ⟨r, e, h1⟩ := hh
    exact ⟨r, e, (frfX11_climbs e hM).mo (by decide) (by decide), h1⟩
  have nb := np_b hL
  have hl := hG.1
  have bp := Pl.i hL hp
  unfold fX11_climbs
  simp (disch := omega) only [w32_eq, w64_eq, chk_T, chk_t, lt, lm, ob, Int.add_zero, Int.zero_add, true_and, and_true, if_true, if_false, K20000, K20001, K20002, K20003, K20004, K20005, K20006, K20007, K20008, K20009, K20010, K20011, K20012, K20013, K20014, K20015, K20016, K20017, K20018, K20019, N20001, N20002, N20003, N20004, N20005, N20006, N20007, N20008, N20009, N20010, N20011, N20012, N20013, N20014, N20015, N20016, N20017, N20018, N20019, ]
  refine Ev_bind (r_noWay hM) (fun μ2 ⟨f2, l2, s2, t2⟩ => ?_)
  have M2 := f2.md hM (by decide)
  have G2 := hG.fr f2 (by decide)
  refine Ev_bind (Ev_lop (P := fun μ' => Fr [20015] [] μ2 μ' ∧ ∀ q, Pl g q → μ' 20015 q = bi (g (6 + q) < h)) (fun t => (0 ≤ t.1 ∧ t.1 ≤ np g) ∧ Fr [20015] [] μ2 t.2 ∧ ∀ q, 0 ≤ q → q < t.1 → t.2 20015 q = bi (g (6 + q) < h)) (fun t => (np g - t.1).toNat) ⟨(by first | omega | (dsimp only; omega) | (dsimp only)), Fr.rf, fun q a c => by dsimp only at c; omega⟩ (by unfold FU; dsimp only; omega) ?_) ?_
  · rintro ⟨v4, μ3⟩ ⟨h3, f3, s3⟩
    dsimp only at h3 f3 s3 ⊢
    have M3 := f3.md M2 (by decide)
    have G3 := G2.fr f3 (by decide)
    unfold sX11_climbs_7
    dsimp only
    simp (disch := omega) only [w32_eq, w64_eq, chk_T, chk_t, lt, lm, ob, Int.add_zero, Int.zero_add, true_and, and_true, if_true, if_false, K20000, K20001, K20002, K20003, K20004, K20005, K20006, K20007, K20008, K20009, K20010, K20011, K20012, K20013, K20014, K20015, K20016, K20017, K20018, K20019, N20001, N20002, N20003, N20004, N20005, N20006, N20007, N20008, N20009, N20010, N20011, N20012, N20013, N20014, N20015, N20016, N20017, N20018, N20019, r_placesOf M3 G3 hL]
    refine Ev_ite (fun w => Ev_out ⟨f3, fun q hq => s3 q hq.1 (by have := hq.2; omega)⟩) (fun w => ?_)
    have go : ∀ v, v = bi (g (6 + v4) < h) → Ev (some (Sum.inl (v4 + 1, mst μ3 20015 v4 v) : (Int × Mm) ⊕ Mm)) (Nx (fun t => (0 ≤ t.1 ∧ t.1 ≤ np g) ∧ Fr [20015] [] μ2 t.2 ∧ ∀ q, 0 ≤ q → q < t.1 → t.2 20015 q = bi (g (6 + q) < h)) (fun t => (np g - t.1).toNat) (fun μ' => Fr [20015] [] μ2 μ' ∧ ∀ q, Pl g q → μ' 20015 q = bi (g (6 + q) < h)) (np g - v4).toNat) := by
      intro v hv
      refine Ev_in ⟨(by first | omega | (dsimp only; omega) | (dsimp only)), f3.tr (Fr.row rfl rfl (by decide) (by decide)), fun q a c => ?_⟩ (by first | omega | (dsimp only; omega) | (dsimp only))
      dsimp only at c ⊢
      by_cases e : q = v4
      · rw [e, mst_s, hv]
      · rw [mst_j e]; exact s3 q a (by omega)
    have e1 := G3.rd (i := 6 + v4) (by omega) (by omega)
    rw [← Int.add_assoc] at e1
    simp (disch := omega) only [w32_eq, w64_eq, chk_T, chk_t, lt, lm, ob, Int.add_zero, Int.zero_add, true_and, and_true, if_true, if_false, K20000, K20001, K20002, K20003, K20004, K20005, K20006, K20007, K20008, K20009, K20010, K20011, K20012, K20013, K20014, K20015, K20016, K20017, K20018, K20019, N20001, N20002, N20003, N20004, N20005, N20006, N20007, N20008, N20009, N20010, N20011, N20012, N20013, N20014, N20015, N20016, N20017, N20018, N20019, Md_0 M3, e1, Md_28 M3]
    refine Ev_ite (fun z => go 0 (bi_f (by omega)).symm) (fun z => go 1 (bi_t (by omega)).symm)
  · intro μ3 ⟨f3, s3⟩
    have M3 := f3.md M2 (by decide)
    have W3 : Wr μ3 l g (fun x => g (6 + x) < h) := ⟨M3, G2.fr f3 (by decide), s3⟩
    refine Ev_bind (r_comesQ (cl := 999) (S := hS g p h) (D := fun _ => False) W3 hL (by rw [f3.2 26 (by decide), l2, f3.1 20013 (by decide) (by decide)]; exact ⟨Bf_start s2, fun i a b => by omega, fun q w => w.elim⟩) hp (fun w => ⟨rfl, w⟩)) (fun μ4 ⟨f4, Q4⟩ => ?_)
    have W4 := W3.fr f4
    refine Ev_bind (r_walks W4 hL (by omega) (fun q w => by rw [w.1]; exact hp) (Wq_v (Q4 _ (fun q w => .inr w)))) (fun μ5 ⟨f5, D5⟩ => ?_)
    have M5 := f5.md W4.1 (by decide)
    have G5 := W4.2.1.fr f5 (by decide)
    have D6 : ∀ q, Pl g q → (0 ≤ μ5 20013 q ↔ hr g p h q) := fun q hq => by
      have := Pl.i hL hq
      exact DG_in (D5 q this.1 this.2)
    refine Ev_bind (Ev_lop (P := fun r => r = bi (Hg g p h)) (fun t => (0 ≤ t.2 ∧ t.2 ≤ np g) ∧ t.1 = bi (∃ q, (0 ≤ q ∧ q < t.2) ∧ hr g p h q ∧ g (6 + p) < g (6 + q))) (fun t => (np g - t.2).toNat) ⟨(by first | omega | (dsimp only; omega) | (dsimp only)), (bi_f (fun ⟨q, hq, _⟩ => by dsimp only at hq; omega)).symm⟩ (by unfold FU; dsimp only; omega) ?_) (fun r hr => ?_)
    · rintro ⟨v4, v5⟩ ⟨h5, d5⟩
      dsimp only at h5 d5 ⊢
      unfold sX11_climbs_71
      dsimp only
      simp (disch := omega) only [w32_eq, w64_eq, chk_T, chk_t, lt, lm, ob, Int.add_zero, Int.zero_add, true_and, and_true, if_true, if_false, K20000, K20001, K20002, K20003, K20004, K20005, K20006, K20007, K20008, K20009, K20010, K20011, K20012, K20013, K20014, K20015, K20016, K20017, K20018, K20019, N20001, N20002, N20003, N20004, N20005, N20006, N20007, N20008, N20009, N20010, N20011, N20012, N20013, N20014, N20015, N20016, N20017, N20018, N20019, r_placesOf M5 G5 hL]
      refine Ev_ite (fun y => Ev_out ?_) (fun y => ?_)
      · rw [d5]
        refine bi_c ⟨fun ⟨q, a, c⟩ => ⟨q, c⟩, fun ⟨q, c⟩ => ⟨q, ?_, c⟩⟩
        have := hr_P hp c.1
        exact ⟨this.1, by have := this.2; omega⟩
      · have hv : Pl g v5 := ⟨h5.1, by omega⟩
        have b5 := Pl.i hL hv
        have e1 := G5.rd (i := 6 + v5) (by omega) (by omega)
        have e2 := G5.rd (i := 6 + p) (by omega) (by omega)
        rw [← Int.add_assoc] at e1 e2
        have go : ∀ v, v = bi (∃ q, (0 ≤ q ∧ q < v5 + 1) ∧ hr g p h q ∧ g (6 + p) < g (6 + q)) → Ev (some (Sum.inl (v, v5 + 1) : (Int × Int) ⊕ Int)) (Nx (fun t => (0 ≤ t.2 ∧ t.2 ≤ np g) ∧ t.1 = bi (∃ q, (0 ≤ q ∧ q < t.2) ∧ hr g p h q ∧ g (6 + p) < g (6 + q))) (fun t => (np g - t.2).toNat) (fun r => r = bi (Hg g p h)) (np g - v5).toNat) := fun v hv => Ev_in ⟨(by first | omega | (dsimp only; omega) | (dsimp only)), hv⟩ (by first | omega | (dsimp only; omega) | (dsimp only))
        have no : v4 = 0 → ¬(hr g p h v5 ∧ g (6 + p) < g (6 + v5)) → ¬∃ q, (0 ≤ q ∧ q < v5 + 1) ∧ hr g p h q ∧ g (6 + p) < g (6 + q) := by
          rintro z w ⟨q, a, c⟩
          rw [z] at d5
          have d6 := bi_0.mp d5.symm
          by_cases e : q = v5
          · subst e; exact w c
          · exact d6 ⟨q, by omega, c⟩
        refine Ev_ite (fun z => ?_) (fun z => ?_)
        · simp (disch := omega) only [w32_eq, w64_eq, chk_T, chk_t, lt, lm, ob, Int.add_zero, Int.zero_add, true_and, and_true, if_true, if_false, K20000, K20001, K20002, K20003, K20004, K20005, K20006, K20007, K20008, K20009, K20010, K20011, K20012, K20013, K20014, K20015, K20016, K20017, K20018, K20019, N20001, N20002, N20003, N20004, N20005, N20006, N20007, N20008, N20009, N20010, N20011, N20012, N20013, N20014, N20015, N20016, N20017, N20018, N20019, Md_25 M5, Md_0 M5, e1, e2]
          refine Ev_ite (fun u => go 0 (bi_f (no z (fun c => by have := (D6 v5 hv).mpr c.1; omega))).symm) (fun u => ?_)
          refine Ev_ite (fun u2 => go 0 (bi_f (no z (fun c => by omega))).symm) (fun u2 => ?_)
          exact go 1 (bi_t ⟨v5, by omega, (D6 v5 hv).mp (by omega), by omega⟩).symm
        · refine go 1 (bi_t ?_).symm
          have : v4 = 1 := by rcases bi_b (∃ q, (0 ≤ q ∧ q < v5) ∧ hr g p h q ∧ g (6 + p) < g (6 + q)) with w | w <;> omega
          obtain ⟨q, a, c⟩ := bi_1.mp (d5.symm.trans this)
          exact ⟨q, by omega, c⟩
    · rw [hr]
      have := bi_b (Hg g p h)
      rw [chk_t this]
      exact Ev_some rfl
theorem rr_proud (hM : Md μ) (hb : μ 20001 = b) (hA : AOk b) (n p : Int) : Ev (fX11_proud 20000 n p μ) (fun r => ZProud b n p r.1) := by
  unfold fX11_proud
  simp (disch := omega) only [w32_eq, w64_eq, chk_T, chk_t, lt, lm, ob, Int.add_zero, Int.zero_add, true_and, and_true, if_true, if_false, K20000, K20001, K20002, K20003, K20004, K20005, K20006, K20007, K20008, K20009, K20010, K20011, K20012, K20013, K20014, K20015, K20016, K20017, K20018, K20019, N20001, N20002, N20003, N20004, N20005, N20006, N20007, N20008, N20009, N20010, N20011, N20012, N20013, N20014, N20015, N20016, N20017, N20018, N20019, r_isPlace hM hb hA, bi_if]
  by_cases hp : isP b n p
  · have nn : n = 0 ∨ n = 1 := by have := hA.1; have := hp.1.1; have := hp.1.2; omega
    have hD := hA.2.2.2.2.1 n hp.1.1 hp.1.2
    have bp := Pl.i hD hp.2
    have gp := hD.hh bp.1 bp.2
    have hG : G μ (710 + 200 * n) (lg b n) := G_lg hb nn
    have e1 := hG.rd (i := 6 + p) (by omega) (by omega)
    rw [← Int.add_assoc] at e1
    rw [sel_t hp, r_placeOf nn]
    simp only [ob]
    simp (disch := omega) only [w32_eq, w64_eq, chk_T, chk_t, lt, lm, ob, Int.add_zero, Int.zero_add, true_and, and_true, if_true, if_false, K20000, K20001, K20002, K20003, K20004, K20005, K20006, K20007, K20008, K20009, K20010, K20011, K20012, K20013, K20014, K20015, K20016, K20017, K20018, K20019, N20001, N20002, N20003, N20004, N20005, N20006, N20007, N20008, N20009, N20010, N20011, N20012, N20013, N20014, N20015, N20016, N20017, N20018, N20019, Md_0 hM, e1]
    refine Ev_bind (Ev_lop (P := fun x => match x with | .inl _ => Sd (lg b n) p 0 | .inr (h, _) => (0 ≤ h ∧ h ≤ lg b n (6 + p)) ∧ Sd (lg b n) p h) (fun t => (-1 ≤ t.1 ∧ t.1 ≤ lg b n (6 + p)) ∧ Fr [20013, 20014, 20015] [26] μ t.2 ∧ ∀ h, t.1 < h → h ≤ lg b n (6 + p) → ¬Hg (lg b n) p h) (fun t => (t.1 + 1).toNat) ⟨(by first | omega | (dsimp only; omega) | (dsimp only)), Fr.rf, fun h a c => by dsimp only at a; omega⟩ (by unfold FU; dsimp only; omega) ?_) ?_
    · rintro ⟨v5, μ1⟩ ⟨h1, f1, d1⟩
      dsimp only at h1 f1 d1 ⊢
      unfold sX11_proud_34
      dsimp only
      refine Ev_ite (fun y => Ev_out (.inr ⟨rfl, fun h a c => d1 h (by omega) c⟩)) (fun y => ?_)
      simp (disch := omega) only [w32_eq, w64_eq, chk_T, chk_t, lt, lm, ob, Int.add_zero, Int.zero_add, true_and, and_true, if_true, if_false, K20000, K20001, K20002, K20003, K20004, K20005, K20006, K20007, K20008, K20009, K20010, K20011, K20012, K20013, K20014, K20015, K20016, K20017, K20018, K20019, N20001, N20002, N20003, N20004, N20005, N20006, N20007, N20008, N20009, N20010, N20011, N20012, N20013, N20014, N20015, N20016, N20017, N20018, N20019, ]
      refine Ev_bind (r_climbs (f1.md hM (by decide)) (hG.fr f1 (by decide)) hD hp.2) ?_
      rintro ⟨r, μ2⟩ ⟨f2, e2⟩
      dsimp only at f2 e2 ⊢
      by_cases z : Hg (lg b n) p v5
      · rw [e2, bi_t z, if_neg (by decide)]
        exact Ev_out ⟨by omega, .inl ⟨by omega, z, d1⟩⟩
      · rw [e2, bi_f z, if_pos rfl]
        try simp (disch := omega) only [w32_eq, w64_eq, chk_T, chk_t, lt, lm, ob, Int.add_zero, Int.zero_add, true_and, and_true, if_true, if_false, ]
        refine Ev_in ⟨(by first | omega | (dsimp only; omega) | (dsimp only)), f1.tr f2, fun h a c => ?_⟩ (by first | omega | (dsimp only; omega) | (dsimp only))
        dsimp only at a
        by_cases e : h = v5
        · subst e; exact z
        · exact d1 h (by omega) c
    · intro x hx
      rcases x with μ1 | ⟨h, μ1⟩
      · exact Ev_some (.inl ⟨hp, 0, hx, by dsimp only; omega⟩)
      · dsimp only at hx ⊢
        simp (disch := omega) only [w32_eq, w64_eq, chk_T, chk_t, lt, lm, ob, Int.add_zero, Int.zero_add, true_and, and_true, if_true, if_false, K20000, K20001, K20002, K20003, K20004, K20005, K20006, K20007, K20008, K20009, K20010, K20011, K20012, K20013, K20014, K20015, K20016, K20017, K20018, K20019, N20001, N20002, N20003, N20004, N20005, N20006, N20007, N20008, N20009, N20010, N20011, N20012, N20013, N20014, N20015, N20016, N20017, N20018, N20019, ]
        exact Ev_some (.inl ⟨hp, h, hx.2, rfl⟩)
  · rw [sel_f hp]; exact Ev_some (.inr ⟨hp, rfl⟩)
end
