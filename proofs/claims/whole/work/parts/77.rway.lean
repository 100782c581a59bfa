/-! ===== the reference: way, sneak ===== -/
theorem DG_or {E : Int → Int → Prop} {S T U : Int → Prop} {r s t : Int} (h : DG E S T r) (k : DG E S U s) (h1 : s < 0 → t = r) (h2 : 0 ≤ s → r < 0 ∨ s < r → t = s) (h3 : 0 ≤ s → 0 ≤ r → r ≤ s → t = r) : DG E S (fun x => T x ∨ U x) t := by
  rcases k with ⟨a, ⟨q, b1, b2⟩, c⟩ | ⟨a, b⟩
  · rcases h with ⟨d, ⟨q2, e1, e2⟩, f⟩ | ⟨d, e⟩
    · by_cases z : s < r
      · rw [h2 a (.inr z)]
        refine .inl ⟨a, ⟨q, .inr b1, b2⟩, fun x m tx wx => ?_⟩
        rcases tx with tx | tx
        · have := f x m tx wx; omega
        · exact c x m tx wx
      · rw [h3 a d (by omega)]
        refine .inl ⟨d, ⟨q2, .inl e1, e2⟩, fun x m tx wx => ?_⟩
        rcases tx with tx | tx
        · exact f x m tx wx
        · have := c x m tx wx; omega
    · rw [h2 a (.inl (by omega))]
      refine .inl ⟨a, ⟨q, .inr b1, b2⟩, fun x m tx wx => ?_⟩
      rcases tx with tx | tx
      · exact absurd wx (e x m tx)
      · exact c x m tx wx
  · rw [h1 (by omega)]
    rcases h with ⟨d, ⟨q2, e1, e2⟩, f⟩ | ⟨d, e⟩
    · refine .inl ⟨d, ⟨q2, .inl e1, e2⟩, fun x m tx wx => ?_⟩
      rcases tx with tx | tx
      · exact f x m tx wx
      · exact absurd wx (b x m tx)
    · refine .inr ⟨d, fun x m tx => ?_⟩
      rcases tx with tx | tx
      · exact e x m tx
      · exact b x m tx
theorem DG_t {E : Int → Int → Prop} {S T U : Int → Prop} {r : Int} (h : DG E S T r) (e : ∀ x, T x ↔ U x) : DG E S U r := by
  have : T = U := funext fun x => propext (e x)
  subst this; exact h
section
variable {μ : Mm} {b : Int → Int}
theorem rr_way (hM : Md μ) (hDt : Dt μ) (hb : μ 20001 = b) (hA : AOk b) (n k j c : Int) : Ev (fX11_way 20000 n k j c μ) (fun r => ZWay b n k j c r.1) := by
  unfold fX11_way
  simp (disch := omega) only [w32_eq, w64_eq, chk_T, chk_t, lt, lm, ob, Int.add_zero, Int.zero_add, true_and, and_true, if_true, if_false, K20000, K20001, K20002, K20003, K20004, K20005, K20006, K20007, K20008, K20009, K20010, K20011, K20012, K20013, K20014, K20015, K20016, K20017, K20018, K20019, N20001, N20002, N20003, N20004, N20005, N20006, N20007, N20008, N20009, N20010, N20011, N20012, N20013, N20014, N20015, N20016, N20017, N20018, N20019, ]
  by_cases hd : 0 ≤ c ∧ c ≤ 999
  · rw [isIn_t hd.1 hd.2, if_neg (by decide)]
    refine Ev_bind (r_findsBoth hM hDt hb hA n k j) ?_
    rintro ⟨r, μ1⟩ ⟨f1, h1⟩
    dsimp only at f1 h1 ⊢
    rcases h1 with ⟨e, w, P1, P2⟩ | ⟨e, w⟩
    · subst e
      obtain ⟨nn, kk, hD, hO, hG, hS⟩ := r_two hb hA w.1
      have M1 := f1.md hM (by decide)
      have G1 := hG.fr f1 (by decide)
      rw [if_neg (by decide)]
      refine Ev_bind (r_noWay M1) (fun μ2 ⟨f2, l2, s2, t2⟩ => ?_)
      have M2 := f2.md M1 (by decide)
      have W2 : Wr μ2 (710 + 200 * n) (lg b n) (fun _ => False) := ⟨M2, G1.fr f2 (by decide), fun q hq => by have := Pl.i hD hq; rw [t2 q this.1 this.2, bi_f (fun z => z)]⟩
      have c1 := ct_b (ftp (lg b n) (ls b k) (-1)) 144; have c2 := ct_b (ftp (lg b n) (ls b j) (-1)) 144
      refine Ev_bind (Ev_lop (P := fun μ' => Fr [20013, 20014] [26] μ2 μ' ∧ Wq (We (lg b n) c (fun _ => False)) (ftp (lg b n) (ls b k) (-1)) (μ' 20013) (μ' 20014) (μ' 20000 26) (ftp (lg b n) (ls b k) (-1))) (fun t => (0 ≤ t.1 ∧ t.1 ≤ ct (ftp (lg b n) (ls b k) (-1)) 144) ∧ Fr [20013, 20014] [26] μ2 t.2 ∧ Wq (We (lg b n) c (fun _ => False)) (ftp (lg b n) (ls b k) (-1)) (t.2 20013) (t.2 20014) (t.2 20000 26) (fun x => ∃ i, (0 ≤ i ∧ i < t.1) ∧ x = (fa (ftp (lg b n) (ls b k) (-1)) (fun i => i) 144).2 i)) (fun t => (ct (ftp (lg b n) (ls b k) (-1)) 144 - t.1).toNat) ⟨(by first | omega | (dsimp only; omega) | (dsimp only)), Fr.rf, by dsimp only; rw [l2]; exact ⟨Bf_start s2, fun i a b => by omega, fun q ⟨i, h, _⟩ => by omega⟩⟩ (by unfold FU; dsimp only; omega) ?_) ?_
      · rintro ⟨v5, μ3⟩ ⟨h3, f3, Q3⟩
        dsimp only at h3 f3 Q3 ⊢
        have M3 := f3.md M2 (by decide)
        have W3 := W2.fr f3
        have e18 : μ3 20000 18 = ct (ftp (lg b n) (ls b k) (-1)) 144 := by rw [f3.2 18 (by decide), f2.2 18 (by decide)]; exact P1.1
        unfold sX11_way_31
        dsimp only
        simp (disch := omega) only [w32_eq, w64_eq, chk_T, chk_t, lt, lm, ob, Int.add_zero, Int.zero_add, true_and, and_true, if_true, if_false, K20000, K20001, K20002, K20003, K20004, K20005, K20006, K20007, K20008, K20009, K20010, K20011, K20012, K20013, K20014, K20015, K20016, K20017, K20018, K20019, N20001, N20002, N20003, N20004, N20005, N20006, N20007, N20008, N20009, N20010, N20011, N20012, N20013, N20014, N20015, N20016, N20017, N20018, N20019, e18]
        refine Ev_ite (fun y => Ev_out ⟨f3, Wq_no Q3 (fun x hx => .inl ?_)⟩) (fun y => ?_)
        · have xb := Pl.i hD hx.1
          refine ⟨ct (ftp (lg b n) (ls b k) (-1)) x.toNat, ⟨(ct_b _ _).1, ?_⟩, ?_⟩
          · have := ct_lt (c := ftp (lg b n) (ls b k) (-1)) (j := 144) xb.1 (by omega) hx; have := show ct (ftp (lg b n) (ls b k) (-1)) (144 : Int).toNat = ct (ftp (lg b n) (ls b k) (-1)) 144 from rfl
            omega
          · exact (fa_vi (v := fun i => i) xb.1 (by omega) hx).symm
        · obtain ⟨p, p0, p1, pc, _, pe⟩ := fa_of (ftp (lg b n) (ls b k) (-1)) (fun i => i) 144 v5 h3.1 (by omega)
          have e9 : μ3 20009 v5 = p := by rw [f3.1 20009 (by decide) (by decide), f2.1 20009 (by decide) (by decide), P1.2 v5 h3.1 (by omega)]; exact pe
          simp (disch := omega) only [w32_eq, w64_eq, chk_T, chk_t, lt, lm, ob, Int.add_zero, Int.zero_add, true_and, and_true, if_true, if_false, K20000, K20001, K20002, K20003, K20004, K20005, K20006, K20007, K20008, K20009, K20010, K20011, K20012, K20013, K20014, K20015, K20016, K20017, K20018, K20019, N20001, N20002, N20003, N20004, N20005, N20006, N20007, N20008, N20009, N20010, N20011, N20012, N20013, N20014, N20015, N20016, N20017, N20018, N20019, Md_19 M3, e9]
          refine Ev_bind (r_comesQ W3 hD Q3 pc.1 (fun _ => pc)) (fun μ4 ⟨f4, Q4⟩ => ?_)
          try simp (disch := omega) only [w32_eq, w64_eq, chk_T, chk_t, lt, lm, ob, Int.add_zero, Int.zero_add, true_and, and_true, if_true, if_false, ]
          refine Ev_in ⟨(by first | omega | (dsimp only; omega) | (dsimp only)), f3.tr f4, Q4 _ (fun x hx => ?_)⟩ (by first | omega | (dsimp only; omega) | (dsimp only))
          dsimp only at hx
          obtain ⟨i, hi, e⟩ := hx
          by_cases z : i = v5
          · subst z; exact .inr ⟨e.trans pe, fun z => z⟩
          · exact .inl ⟨i, by omega, e⟩
      · intro μ3 ⟨f3, Q3⟩
        have M3 := f3.md M2 (by decide)
        have W3 := W2.fr f3
        rw [r_placeOf nn]
        simp only [ob]
        refine Ev_bind (r_walks W3 hD hd (fun q w => w.1) (Wq_v Q3)) (fun μ4 ⟨f4, D4⟩ => ?_)
        have M4 := f4.md M3 (by decide)
        have e20 : μ4 20000 20 = ct (ftp (lg b n) (ls b j) (-1)) 144 := by rw [f4.2 20 (by decide), f3.2 20 (by decide), f2.2 20 (by decide)]; exact P2.1
        have e10 : ∀ q, 0 ≤ q → q < ct (ftp (lg b n) (ls b j) (-1)) 144 → μ4 20010 q = (fa (ftp (lg b n) (ls b j) (-1)) (fun i => i) 144).2 q := by rw [f4.1 20010 (by decide) (by decide), f3.1 20010 (by decide) (by decide), f2.1 20010 (by decide) (by decide)]; exact P2.2
        refine Ev_bind (Ev_lop (P := fun r => DG (We (lg b n) c (fun _ => False)) (ftp (lg b n) (ls b k) (-1)) (ftp (lg b n) (ls b j) (-1)) r) (fun t => (0 ≤ t.2 ∧ t.2 ≤ ct (ftp (lg b n) (ls b j) (-1)) 144) ∧ DG (We (lg b n) c (fun _ => False)) (ftp (lg b n) (ls b k) (-1)) (fun x => ∃ i, (0 ≤ i ∧ i < t.2) ∧ x = (fa (ftp (lg b n) (ls b j) (-1)) (fun i => i) 144).2 i) t.1) (fun t => (ct (ftp (lg b n) (ls b j) (-1)) 144 - t.2).toNat) ⟨(by first | omega | (dsimp only; omega) | (dsimp only)), .inr ⟨rfl, fun q m ⟨i, hi, _⟩ => by dsimp only at hi; omega⟩⟩ (by unfold FU; dsimp only; omega) ?_) (fun r hr => Ev_some (.inl ⟨⟨hd, w⟩, hr⟩))
        rintro ⟨v5, v6⟩ ⟨h5, d5⟩
        dsimp only at h5 d5 ⊢
        unfold sX11_way_75
        dsimp only
        simp (disch := omega) only [w32_eq, w64_eq, chk_T, chk_t, lt, lm, ob, Int.add_zero, Int.zero_add, true_and, and_true, if_true, if_false, K20000, K20001, K20002, K20003, K20004, K20005, K20006, K20007, K20008, K20009, K20010, K20011, K20012, K20013, K20014, K20015, K20016, K20017, K20018, K20019, N20001, N20002, N20003, N20004, N20005, N20006, N20007, N20008, N20009, N20010, N20011, N20012, N20013, N20014, N20015, N20016, N20017, N20018, N20019, e20]
        refine Ev_ite (fun y => Ev_out (DG_t d5 (fun x => ⟨fun ⟨i, hi, e⟩ => ?_, fun hx => ?_⟩))) (fun y => ?_)
        · obtain ⟨t, t0, t1, tc, _, te⟩ := fa_of (ftp (lg b n) (ls b j) (-1)) (fun i => i) 144 i hi.1 (by omega)
          rw [e, te]; exact tc
        · have xb := Pl.i hD hx.1
          refine ⟨ct (ftp (lg b n) (ls b j) (-1)) x.toNat, ⟨(ct_b _ _).1, ?_⟩, ?_⟩
          · have := ct_lt (c := ftp (lg b n) (ls b j) (-1)) (j := 144) xb.1 (by omega) hx; have := show ct (ftp (lg b n) (ls b j) (-1)) (144 : Int).toNat = ct (ftp (lg b n) (ls b j) (-1)) 144 from rfl
            omega
          · exact (fa_vi (v := fun i => i) xb.1 (by omega) hx).symm
        · obtain ⟨t, t0, t1, tc, _, te⟩ := fa_of (ftp (lg b n) (ls b j) (-1)) (fun i => i) 144 v6 h5.1 (by omega)
          have e11 : μ4 20010 v6 = t := by rw [e10 v6 h5.1 (by omega)]; exact te
          have dt := D4 t t0 (by omega)
          simp (disch := omega) only [w32_eq, w64_eq, chk_T, chk_t, lt, lm, ob, Int.add_zero, Int.zero_add, true_and, and_true, if_true, if_false, K20000, K20001, K20002, K20003, K20004, K20005, K20006, K20007, K20008, K20009, K20010, K20011, K20012, K20013, K20014, K20015, K20016, K20017, K20018, K20019, N20001, N20002, N20003, N20004, N20005, N20006, N20007, N20008, N20009, N20010, N20011, N20012, N20013, N20014, N20015, N20016, N20017, N20018, N20019, Md_21 M4, e11, Md_25 M4]
          have go : ∀ v, (μ4 20013 t < 0 → v = v5) → (0 ≤ μ4 20013 t → v5 < 0 ∨ μ4 20013 t < v5 → v = μ4 20013 t) → (0 ≤ μ4 20013 t → 0 ≤ v5 → v5 ≤ μ4 20013 t → v = v5) → Ev (some (Sum.inl (v, v6 + 1) : (Int × Int) ⊕ Int)) (Nx (fun t => (0 ≤ t.2 ∧ t.2 ≤ ct (ftp (lg b n) (ls b j) (-1)) 144) ∧ DG (We (lg b n) c (fun _ => False)) (ftp (lg b n) (ls b k) (-1)) (fun x => ∃ i, (0 ≤ i ∧ i < t.2) ∧ x = (fa (ftp (lg b n) (ls b j) (-1)) (fun i => i) 144).2 i) t.1) (fun t => (ct (ftp (lg b n) (ls b j) (-1)) 144 - t.2).toNat) (fun r => DG (We (lg b n) c (fun _ => False)) (ftp (lg b n) (ls b k) (-1)) (ftp (lg b n) (ls b j) (-1)) r) (ct (ftp (lg b n) (ls b j) (-1)) 144 - v6).toNat) := by
            intro v a1 a2 a3
            refine Ev_in ⟨(by first | omega | (dsimp only; omega) | (dsimp only)), DG_t (DG_or d5 dt a1 a2 a3) (fun x => ⟨fun hx => ?_, fun hx => ?_⟩)⟩ (by first | omega | (dsimp only; omega) | (dsimp only))
            · dsimp only
              rcases hx with ⟨i, hi, e⟩ | e
              · exact ⟨i, by omega, e⟩
              · exact ⟨v6, by omega, by rw [te]; exact e⟩
            · dsimp only at hx
              obtain ⟨i, hi, e⟩ := hx
              by_cases z : i = v6
              · subst z; exact .inr (e.trans te)
              · exact .inl ⟨i, by omega, e⟩
          refine Ev_ite (fun z => go _ (fun _ => rfl) (fun _ => by omega) (fun _ => by omega)) (fun z => ?_)
          refine Ev_ite (fun z2 => go _ (fun _ => by omega) (fun _ _ => rfl) (fun _ => by omega)) (fun z2 => ?_)
          refine Ev_ite (fun z3 => go _ (fun _ => by omega) (fun _ _ => by omega) (fun _ _ _ => rfl)) (fun z3 => ?_)
          exact go _ (fun _ => by omega) (fun _ _ => rfl) (fun _ _ _ => by omega)
    · subst e
      rw [if_pos rfl]; exact Ev_some (.inr ⟨fun v => w v.2, rfl⟩)
  · rw [isIn_f hd, if_pos rfl]; exact Ev_some (.inr ⟨fun v => hd v.1, rfl⟩)
theorem rr_sneak (hM : Md μ) (hb : μ 20001 = b) (hA : AOk b) (n x y p : Int) : Ev (fX11_sneak 20000 n x y p μ) (fun r => ZSneak b n x y p r.1) := by
  unfold fX11_sneak
  simp (disch := omega) only [w32_eq, w64_eq, chk_T, chk_t, lt, lm, ob, Int.add_zero, Int.zero_add, true_and, and_true, if_true, if_false, K20000, K20001, K20002, K20003, K20004, K20005, K20006, K20007, K20008, K20009, K20010, K20011, K20012, K20013, K20014, K20015, K20016, K20017, K20018, K20019, N20001, N20002, N20003, N20004, N20005, N20006, N20007, N20008, N20009, N20010, N20011, N20012, N20013, N20014, N20015, N20016, N20017, N20018, N20019, r_isPlace hM hb hA, bi_if]
  by_cases hx : isP b n x
  · rw [sel_t hx]
    by_cases hy : isP b n y
    · rw [sel_t hy]
      by_cases hp : isP b n p
      · have nn : n = 0 ∨ n = 1 := by have := hA.1; have := hp.1.1; have := hp.1.2; omega
        have hD := hA.2.2.2.2.1 n hp.1.1 hp.1.2
        have bd := np_b hD
        have by' := Pl.i hD hy.2
        have hG : G μ (710 + 200 * n) (lg b n) := G_lg hb nn
        rw [sel_t hp, r_placeOf nn]
        simp only [ob]
        refine Ev_bind (r_noWay hM) (fun μ2 ⟨f2, l2, s2, t2⟩ => ?_)
        have M2 := f2.md hM (by decide)
        have G2 := hG.fr f2 (by decide)
        refine Ev_bind (Ev_lop (P := fun μ' => Fr [20015] [] μ2 μ' ∧ ∀ q, Pl (lg b n) q → μ' 20015 q = bi (shS (lg b n) p q)) (fun t => (0 ≤ t.1 ∧ t.1 ≤ np (lg b n)) ∧ Fr [20015] [] μ2 t.2 ∧ ∀ q, 0 ≤ q → q < t.1 → t.2 20015 q = bi (shS (lg b n) p q)) (fun t => (np (lg b n) - t.1).toNat) ⟨(by first | omega | (dsimp only; omega) | (dsimp only)), Fr.rf, fun q a c => by dsimp only at c; omega⟩ (by unfold FU; dsimp only; omega) ?_) ?_
        · rintro ⟨v6, μ3⟩ ⟨h3, f3, s3⟩
          dsimp only at h3 f3 s3 ⊢
          have M3 := f3.md M2 (by decide)
          have G3 := G2.fr f3 (by decide)
          unfold sX11_sneak_44
          dsimp only
          simp (disch := omega) only [w32_eq, w64_eq, chk_T, chk_t, lt, lm, ob, Int.add_zero, Int.zero_add, true_and, and_true, if_true, if_false, K20000, K20001, K20002, K20003, K20004, K20005, K20006, K20007, K20008, K20009, K20010, K20011, K20012, K20013, K20014, K20015, K20016, K20017, K20018, K20019, N20001, N20002, N20003, N20004, N20005, N20006, N20007, N20008, N20009, N20010, N20011, N20012, N20013, N20014, N20015, N20016, N20017, N20018, N20019, r_placesOf M3 G3 hD]
          refine Ev_ite (fun w => Ev_out ⟨f3, fun q hq => s3 q hq.1 (by have := hq.2; omega)⟩) (fun w => ?_)
          have go : ∀ v, v = bi (shS (lg b n) p v6) → Ev (some (Sum.inl (v6 + 1, mst μ3 20015 v6 v) : (Int × Mm) ⊕ Mm)) (Nx (fun t => (0 ≤ t.1 ∧ t.1 ≤ np (lg b n)) ∧ Fr [20015] [] μ2 t.2 ∧ ∀ q, 0 ≤ q → q < t.1 → t.2 20015 q = bi (shS (lg b n) p q)) (fun t => (np (lg b n) - t.1).toNat) (fun μ' => Fr [20015] [] μ2 μ' ∧ ∀ q, Pl (lg b n) q → μ' 20015 q = bi (shS (lg b n) p q)) (np (lg b n) - v6).toNat) := by
            intro v hv
            refine Ev_in ⟨(by first | omega | (dsimp only; omega) | (dsimp only)), f3.tr (Fr.row rfl rfl (by decide) (by decide)), fun q a c => ?_⟩ (by first | omega | (dsimp only; omega) | (dsimp only))
            dsimp only at c ⊢
            by_cases e : q = v6
            · rw [e, mst_s, hv]
            · rw [mst_j e]; exact s3 q a (by omega)
          by_cases e : v6 = p
          · rw [if_pos e]
            simp (disch := omega) only [w32_eq, w64_eq, chk_T, chk_t, lt, lm, ob, Int.add_zero, Int.zero_add, true_and, and_true, if_true, if_false, K20000, K20001, K20002, K20003, K20004, K20005, K20006, K20007, K20008, K20009, K20010, K20011, K20012, K20013, K20014, K20015, K20016, K20017, K20018, K20019, N20001, N20002, N20003, N20004, N20005, N20006, N20007, N20008, N20009, N20010, N20011, N20012, N20013, N20014, N20015, N20016, N20017, N20018, N20019, Md_28 M3]
            exact go 1 (bi_t (.inl e)).symm
          · rw [if_neg e, r_isSeen M3 G3 hD hp.2 ⟨h3.1, by omega⟩ (fun z => e z.symm)]
            simp only [ob, bi_if]
            by_cases z : zSeen (lg b n) p v6
            · rw [sel_t z]
              simp (disch := omega) only [w32_eq, w64_eq, chk_T, chk_t, lt, lm, ob, Int.add_zero, Int.zero_add, true_and, and_true, if_true, if_false, K20000, K20001, K20002, K20003, K20004, K20005, K20006, K20007, K20008, K20009, K20010, K20011, K20012, K20013, K20014, K20015, K20016, K20017, K20018, K20019, N20001, N20002, N20003, N20004, N20005, N20006, N20007, N20008, N20009, N20010, N20011, N20012, N20013, N20014, N20015, N20016, N20017, N20018, N20019, Md_28 M3]
              exact go 1 (bi_t (.inr ⟨⟨h3.1, by omega⟩, e, z⟩)).symm
            · rw [sel_f z]
              simp (disch := omega) only [w32_eq, w64_eq, chk_T, chk_t, lt, lm, ob, Int.add_zero, Int.zero_add, true_and, and_true, if_true, if_false, K20000, K20001, K20002, K20003, K20004, K20005, K20006, K20007, K20008, K20009, K20010, K20011, K20012, K20013, K20014, K20015, K20016, K20017, K20018, K20019, N20001, N20002, N20003, N20004, N20005, N20006, N20007, N20008, N20009, N20010, N20011, N20012, N20013, N20014, N20015, N20016, N20017, N20018, N20019, Md_28 M3]
              exact go 0 (bi_f (fun u => by rcases u with u | u; exact e u; exact z u.2.2)).symm
        · intro μ3 ⟨f3, s3⟩
          have M3 := f3.md M2 (by decide)
          have W3 : Wr μ3 (710 + 200 * n) (lg b n) (shS (lg b n) p) := ⟨M3, G2.fr f3 (by decide), s3⟩
          refine Ev_bind (r_comesQ (cl := 999) (S := fun q => q = x ∧ ¬shS (lg b n) p x) (D := fun _ => False) W3 hD (by rw [f3.2 26 (by decide), l2, f3.1 20013 (by decide) (by decide)]; exact ⟨Bf_start s2, fun i a b => by omega, fun q w => w.elim⟩) hx.2 (fun w => ⟨rfl, w⟩)) (fun μ4 ⟨f4, Q4⟩ => ?_)
          have W4 := W3.fr f4
          refine Ev_bind (r_walks W4 hD (by omega) (fun q w => by rw [w.1]; exact hx.2) (Wq_v (Q4 _ (fun q w => .inr w)))) (fun μ5 ⟨f5, D5⟩ => ?_)
          have M5 := f5.md W4.1 (by decide)
          simp (disch := omega) only [w32_eq, w64_eq, chk_T, chk_t, lt, lm, ob, Int.add_zero, Int.zero_add, true_and, and_true, if_true, if_false, K20000, K20001, K20002, K20003, K20004, K20005, K20006, K20007, K20008, K20009, K20010, K20011, K20012, K20013, K20014, K20015, K20016, K20017, K20018, K20019, N20001, N20002, N20003, N20004, N20005, N20006, N20007, N20008, N20009, N20010, N20011, N20012, N20013, N20014, N20015, N20016, N20017, N20018, N20019, Md_25 M5]
          exact Ev_some (.inl ⟨⟨hx, hy, hp⟩, D5 y by'.1 by'.2⟩)
      · rw [sel_f hp]; exact Ev_some (.inr ⟨fun u => hp u.2.2, rfl⟩)
    · rw [sel_f hy]; exact Ev_some (.inr ⟨fun u => hy u.2.1, rfl⟩)
  · rw [sel_f hx]; exact Ev_some (.inr ⟨fun u => hx u.1, rfl⟩)
end
