/-! ===== since ===== -/
theorem ct_pos {P : Int → Prop} : ∀ n : Nat, 0 < ct P n ↔ ∃ i : Int, 0 ≤ i ∧ i < n ∧ P i
  | 0 => ⟨fun h => by simp [ct] at h, fun ⟨i, a, b, _⟩ => by omega⟩
  | n + 1 => by
    have ih := ct_pos (P := P) n
    have cb1 := ct_b P n
    show 0 < ct P n + bi (P n) ↔ _
    constructor
    · intro h
      by_cases q : P n
      · exact ⟨n, by omega, by omega, q⟩
      · rw [bi_f q] at h
        obtain ⟨i, a, c, d⟩ := ih.mp (by omega)
        exact ⟨i, a, by omega, d⟩
    · rintro ⟨i, a, c, d⟩
      by_cases e : i = n
      · subst e; rw [bi_t d]; omega
      · have := ih.mpr ⟨i, a, by omega, d⟩
        rcases bi_b (P n) with z | z <;> omega
def yk (g s : Int → Int) (y : Int) : Prop := ∃ p, Pl g p ∧ cb g s p ∧ ∃ st, 0 ≤ st ∧ st < hN g p ∧ fI g s p st y = s 0
theorem yk_ftp {g s : Int → Int} {y : Int} (h : 0 ≤ y) : (∃ p, ftp g s y p) ↔ yk g s y := by
  have e : ∀ p st, fO g s p st y = fI g s p st y := fun p st => by unfold fO; rw [if_neg (by omega)]
  constructor
  · rintro ⟨p, a, c, st, s0, s1, d⟩; exact ⟨p, a, c, st, s0, s1, (e p st).symm.trans d⟩
  · rintro ⟨p, a, c, st, s0, s1, d⟩; exact ⟨p, a, c, st, s0, s1, (e p st).trans d⟩
def ZS (g s : Int → Int) (u r : Int) : Prop := ((s 5 ≤ r ∧ r ≤ s 6) ∧ yk g s r ∧ (u = 0 → ∀ y, s 5 ≤ y → y < r → ¬yk g s y) ∧ (u ≠ 0 → ∀ y, r < y → y ≤ s 6 → ¬yk g s y)) ∨ (r = -1 ∧ ∀ y, s 5 ≤ y → y ≤ s 6 → ¬yk g s y)
theorem ZS_u {g s : Int → Int} {u r t : Int} (h : ZS g s u r) (k : ZS g s u t) : r = t := by
  rcases h with ⟨a, c, d, e⟩ | ⟨a, c⟩ <;> rcases k with ⟨a', c', d', e'⟩ | ⟨a', c'⟩
  · by_cases w : u = 0
    · rcases Int.lt_trichotomy r t with z | z | z
      · exact absurd c (d' w r a.1 z)
      · exact z
      · exact absurd c' (d w t a'.1 z)
    · rcases Int.lt_trichotomy r t with z | z | z
      · exact absurd c' (e w t z a'.2)
      · exact z
      · exact absurd c (e' w r z a.2)
  · exact absurd c (c' r a.1 a.2)
  · exact absurd c' (c t a'.1 a'.2)
  · omega
def ZSince (b : Int → Int) (n k u r : Int) : Prop := ((isL b n ∧ isS b k) ∧ ZS (lg b n) (ls b k) u r) ∨ (¬(isL b n ∧ isS b k) ∧ r = -1)
theorem rr_since {μ : Mm} {b : Int → Int} (hM : Md μ) (hDt : Dt μ) (hb : μ 20001 = b) (hA : AOk b) (n k u : Int) : Ev (fX11_since 20000 n k u μ) (fun r => ZSince b n k u r.1) := by
  unfold fX11_since
  simp (disch := omega) only [w32_eq, w64_eq, chk_T, chk_t, lt, lm, ob, Int.add_zero, Int.zero_add, true_and, and_true, if_true, if_false, K20000, K20001, K20002, K20003, K20004, K20005, K20006, K20007, K20008, K20009, K20010, K20011, K20012, K20013, K20014, K20015, K20016, K20017, K20018, K20019, N20001, N20002, N20003, N20004, N20005, N20006, N20007, N20008, N20009, N20010, N20011, N20012, N20013, N20014, N20015, N20016, N20017, N20018, N20019, r_areBoth hM hb hA, bi_if]
  by_cases h : isL b n ∧ isS b k
  · obtain ⟨nn, kk, hD, hO, hG, hS⟩ := r_two hb hA h
    have o6 := hO.2.2.2.2.2.1; have hz := hS.1; have nb := np_b hD
    rw [sel_t h, r_placeOf nn, r_placeOf1 kk]
    simp only [ob]
    generalize 710 + 200 * n = l at *
    generalize 1110 + 32 * k = z at *
    refine Ev_bind (r_survey hM hG hDt hD) (fun μ1 ⟨f1, H1⟩ => ?_)
    have M1 := f1.md hM (by decide)
    have G1 := hG.fr f1 (by decide); have S1 := hS.fr f1 (by decide)
    simp (disch := omega) only [w32_eq, w64_eq, chk_T, chk_t, lt, lm, ob, Int.add_zero, Int.zero_add, true_and, and_true, if_true, if_false, K20000, K20001, K20002, K20003, K20004, K20005, K20006, K20007, K20008, K20009, K20010, K20011, K20012, K20013, K20014, K20015, K20016, K20017, K20018, K20019, N20001, N20002, N20003, N20004, N20005, N20006, N20007, N20008, N20009, N20010, N20011, N20012, N20013, N20014, N20015, N20016, N20017, N20018, N20019, Md_0 M1, S1.rd]
    refine Ev_bind (Ev_lopF (pj := pjX11_since_45) (P := fun x => ZS (lg b n) (ls b k) u x.1) (fun s t h hM => frsX11_since_45 h hM) (by decide) M1 (fun t => (ls b k 5 ≤ t.2.1 ∧ t.2.1 ≤ ls b k 6 + 1) ∧ ((t.1 = -1 ∧ ∀ y, ls b k 5 ≤ y → y < t.2.1 → ¬yk (lg b n) (ls b k) y) ∨ ((ls b k 5 ≤ t.1 ∧ t.1 < t.2.1) ∧ yk (lg b n) (ls b k) t.1 ∧ (u = 0 → ∀ y, ls b k 5 ≤ y → y < t.1 → ¬yk (lg b n) (ls b k) y) ∧ ∀ y, t.1 < y → y < t.2.1 → ¬yk (lg b n) (ls b k) y))) (fun t => (ls b k 6 + 1 - t.2.1).toNat) ⟨(by first | omega | (dsimp only; omega) | (dsimp only)), .inl ⟨rfl, fun y a c => by dsimp only at c; omega⟩⟩ (by unfold FU; dsimp only; omega) ?_) ?_
    · rintro ⟨v6, v7, μ2⟩ M2 F2 ⟨k1, k2⟩
      replace M2 : Md μ2 := M2
      replace F2 : Fr [20009] [18] μ1 μ2 := F2
      have G2 := G1.fr F2 (by decide); have S2 := S1.fr F2 (by decide)
      dsimp only at k1 k2 ⊢
      unfold sX11_since_45
      dsimp only
      simp (disch := omega) only [w32_eq, w64_eq, chk_T, chk_t, lt, lm, ob, Int.add_zero, Int.zero_add, true_and, and_true, if_true, if_false, K20000, K20001, K20002, K20003, K20004, K20005, K20006, K20007, K20008, K20009, K20010, K20011, K20012, K20013, K20014, K20015, K20016, K20017, K20018, K20019, N20001, N20002, N20003, N20004, N20005, N20006, N20007, N20008, N20009, N20010, N20011, N20012, N20013, N20014, N20015, N20016, N20017, N20018, N20019, Md_0 M2, S2.rd]
      refine Ev_ite (fun w => Ev_out (fun _ => ?_)) (fun w => ?_)
      · rcases k2 with ⟨e, q⟩ | ⟨a, c, d, e⟩
        · exact .inr ⟨e, fun y x x' => q y x (by omega)⟩
        · exact .inl ⟨⟨a.1, by dsimp only; omega⟩, c, d, fun _ y x x' => e y x (by omega)⟩
      · have go : (u = 0 → v6 < 0) → Ev (jX11_since_69 20000 u l z v6 v7 μ2) (Nx (fun t => (ls b k 5 ≤ t.2.1 ∧ t.2.1 ≤ ls b k 6 + 1) ∧ ((t.1 = -1 ∧ ∀ y, ls b k 5 ≤ y → y < t.2.1 → ¬yk (lg b n) (ls b k) y) ∨ ((ls b k 5 ≤ t.1 ∧ t.1 < t.2.1) ∧ yk (lg b n) (ls b k) t.1 ∧ (u = 0 → ∀ y, ls b k 5 ≤ y → y < t.1 → ¬yk (lg b n) (ls b k) y) ∧ ∀ y, t.1 < y → y < t.2.1 → ¬yk (lg b n) (ls b k) y))) (fun t => (ls b k 6 + 1 - t.2.1).toNat) (fun r => Fr [20009] [18] (pjX11_since_45 (.inl (-1, ls b k 5, μ1))) (pjX11_since_45 (.inr r)) → ZS (lg b n) (ls b k) u r.1) (ls b k 6 + 1 - v7).toNat) := by
          intro hu
          unfold jX11_since_69
          simp (disch := omega) only [w32_eq, w64_eq, chk_T, chk_t, lt, lm, ob, Int.add_zero, Int.zero_add, true_and, and_true, if_true, if_false, K20000, K20001, K20002, K20003, K20004, K20005, K20006, K20007, K20008, K20009, K20010, K20011, K20012, K20013, K20014, K20015, K20016, K20017, K20018, K20019, N20001, N20002, N20003, N20004, N20005, N20006, N20007, N20008, N20009, N20010, N20011, N20012, N20013, N20014, N20015, N20016, N20017, N20018, N20019, ]
          refine Ev_bind (r_finds (yr := v7) M2 G2 S2 hO hD (fun p hp => (H1 p hp).fr F2 (by decide) (by decide))) (fun μ3 ⟨f3, h3⟩ => ?_)
          have cb1 := ct_b (ftp (lg b n) (ls b k) v7) 144
          have iff : 0 < μ3 20000 18 ↔ yk (lg b n) (ls b k) v7 := by
            rw [h3.1, ct_pos, ← yk_ftp (by omega)]
            constructor
            · rintro ⟨i, a, c, d⟩; exact ⟨i, d⟩
            · rintro ⟨i, d⟩; exact ⟨i, d.1.1, by have := d.1.2; omega, d⟩
          refine Ev_ite (fun q => Ev_in ⟨(by first | omega | (dsimp only; omega) | (dsimp only)), ?_⟩ (by first | omega | (dsimp only; omega) | (dsimp only))) (fun q => Ev_in ⟨(by first | omega | (dsimp only; omega) | (dsimp only)), .inr ?_⟩ (by first | omega | (dsimp only; omega) | (dsimp only)))
          · have nq : ¬yk (lg b n) (ls b k) v7 := fun w => by have := iff.mpr w; omega
            dsimp only
            rcases k2 with ⟨e, q⟩ | ⟨a, c, d, e⟩
            · refine .inl ⟨e, fun y x x' => ?_⟩
              by_cases v : y = v7
              · subst v; exact nq
              · exact q y x (by omega)
            · refine .inr ⟨⟨a.1, by omega⟩, c, d, fun y x x' => ?_⟩
              by_cases v : y = v7
              · subst v; exact nq
              · exact e y x (by omega)
          · dsimp only
            refine ⟨⟨k1.1, by omega⟩, iff.mp (by omega), fun hu0 y x x' => ?_, fun y x x' => by omega⟩
            rcases k2 with ⟨e, q⟩ | ⟨a, _⟩
            · exact q y x x'
            · have := hu hu0; omega
        refine Ev_ite (fun q => Ev_ite (fun q2 => Ev_out (fun _ => ?_)) (fun q2 => go (fun _ => by omega))) (fun q => go (fun v => absurd v q))
        rcases k2 with ⟨e, _⟩ | ⟨a, c, d, e⟩
        · omega
        · exact .inl ⟨⟨a.1, by dsimp only; omega⟩, c, d, fun v => absurd q v⟩
    · rintro ⟨r, μ2⟩ hr
      exact Ev_some (.inl ⟨h, hr⟩)
  · rw [sel_f h]; exact Ev_some (.inr ⟨h, rfl⟩)
section
variable {μ : Mm} {b : Int → Int} {vb n kk yr m lo hi p k i : Int} {s : Int → Int}
theorem LsA_p {g : Int → Int} {F : Int → Int} {r : Int} (h : LsA g s p F r) : (r = -1 ∧ ¬(cb g s p ∧ ∃ st, 0 ≤ st ∧ st < hN g p ∧ F st = s 0)) ∨ (0 ≤ r ∧ (cb g s p ∧ ∃ st, 0 ≤ st ∧ st < hN g p ∧ F st = s 0)) := by
  rcases h with ⟨c, h | h⟩ | ⟨c, h⟩
  · exact .inr ⟨h.1, c, r, h.1, h.2.1, h.2.2.1⟩
  · exact .inl ⟨h.1, fun ⟨_, st, a, d, e⟩ => h.2 st a d e⟩
  · exact .inl ⟨h, fun w => c w.1⟩
def cfP (g s : Int → Int) (F : Int → Int → Int) (but p : Int) : Prop := p ≠ but ∧ Pl g p ∧ cb g s p ∧ ∃ st, 0 ≤ st ∧ st < hN g p ∧ F p st = s 0
theorem c_count {μ0 : Mm} {Y : Int → Int} {F : Int → Int → Int} {but most : Int} (h : Fz μ b vb n kk s yr m lo hi) (hY : μ 251 = Y) (hR : ∀ μ1 p L, Fz μ1 b vb n kk s yr m lo hi → μ1 251 = Y → Ft μ1 (1010 + 10 * n) kk L (lg b n) s p → Rch μ1 (lg b n) p (F p)) (hm : 1 ≤ most ∧ most ≤ 1000) (f0 : Fw Rq μ0 μ) (hs : μ 102 n ≠ 0) : Ec (fX10_countFitting 100 (10000 + 2000 * n) but most μ) (Bd μ) (fun r b' => b' = Bd r.2 ∧ Fw Rq μ0 r.2 ∧ Fz r.2 b vb n kk s yr m lo hi ∧ r.2 251 = Y ∧ r.2 102 n ≠ 0 ∧ r.1 = (if ct (cfP (lg b n) s F but) (np (lg b n)).toNat ≤ most then ct (cfP (lg b n) s F but) (np (lg b n)).toNat else most) ∧ (∀ pp, 0 ≤ pp → pp < 144 → Li μ (10100 + 2000 * n + 10 * pp) (lg b n) pp → Li r.2 (10100 + 2000 * n + 10 * pp) (lg b n) pp)) := by
  have hL := h.2.2.1
  have hD := h.1.ld hL.1 hL.2
  have nb := np_b hD
  unfold fX10_countFitting
  refine Ec_bind (Ec_lop (P := fun r b' => b' = Bd r.2 ∧ Fw Rq μ0 r.2 ∧ Fz r.2 b vb n kk s yr m lo hi ∧ r.2 251 = Y ∧ r.2 102 n ≠ 0 ∧ r.1 = (if ct (cfP (lg b n) s F but) (np (lg b n)).toNat ≤ most then ct (cfP (lg b n) s F but) (np (lg b n)).toNat else most) ∧ (∀ pp, 0 ≤ pp → pp < 144 → Li μ (10100 + 2000 * n + 10 * pp) (lg b n) pp → Li r.2 (10100 + 2000 * n + 10 * pp) (lg b n) pp)) (fun t b' => b' = Bd t.2.2 ∧ Fw Rq μ0 t.2.2 ∧ Fz t.2.2 b vb n kk s yr m lo hi ∧ t.2.2 251 = Y ∧ t.2.2 102 n ≠ 0 ∧ (0 ≤ t.2.1 ∧ t.2.1 ≤ np (lg b n)) ∧ t.1 = ct (cfP (lg b n) s F but) t.2.1.toNat ∧ t.1 ≤ most ∧ (∀ pp, 0 ≤ pp → pp < 144 → Li μ (10100 + 2000 * n + 10 * pp) (lg b n) pp → Li t.2.2 (10100 + 2000 * n + 10 * pp) (lg b n) pp)) (fun t => (np (lg b n) - t.2.1).toNat) ⟨rfl, f0, h, hY, hs, (by first | omega | (dsimp only; omega) | (dsimp only)), rfl, (by first | omega | (dsimp only; omega) | (dsimp only)), fun _ _ _ w => w⟩ (by unfold FU; dsimp only; omega) ?_) ?_
  · rintro ⟨v4, v5, μ4⟩ b4 ⟨hb4, f4, z4, y4, s4, h4, w4, l4, li4⟩
    dsimp only at hb4 f4 z4 y4 s4 h4 w4 l4 li4 ⊢
    obtain ⟨k1, k2, k3, k4⟩ := sc_k z4.1 z4.2.1 hL s4
    have cb1 := ct_b (cfP (lg b n) s F but) v5.toNat
    have cm := ct_mono (cfP (lg b n) s F but) v5.toNat (np (lg b n)).toNat (by omega)
    unfold sX10_countFitting_6
    simp (disch := omega) only [w32_eq, w64_eq, chk_T, chk_t, lt, lm, ob, Int.add_zero, Int.zero_add, true_and, and_true, if_true, if_false, k1, k2, k3, k4]
    rw [hb4]
    refine Ec_ite (fun y => Ec_outA ⟨rfl, f4, z4, y4, s4, ?_, li4⟩) (fun y => Ec_ite (fun y2 => Ec_outA ⟨rfl, f4, z4, y4, s4, ?_, li4⟩) (fun y2 => ?_))
    · have e : v5 = np (lg b n) := by omega
      rw [e] at w4; rw [if_pos (by omega)]; exact w4
    · dsimp only
      by_cases q : ct (cfP (lg b n) s F but) (np (lg b n)).toNat ≤ most
      · rw [if_pos q]; omega
      · rw [if_neg q]; omega
    · have hp : Pl (lg b n) v5 := ⟨by omega, by omega⟩
      simp (disch := omega) only [w32_eq, w64_eq, chk_T, chk_t, lt, lm, ob, Int.add_zero, Int.zero_add, true_and, and_true, if_true, if_false, K100, K101, K102, K103, K104, K200, K201, K230, K231, K232, K233, K234, K235, K236, K237, K250, K251, K252, K253, K254, K300, K301, K302, K303, K304, N101, N102, N103, N104, N201, N232, N233, N234, N235, N236, N237, N251, N252, N253, N254, N301, N302, N303, N304, ]
      refine Ec_bind (c_lnF z4 f4 s4 hp) ?_
      rintro ⟨r5, μ5⟩ b5 ⟨hb5, hr5, f5, e100, s5, z5, t5, g5, li5⟩ cc nn
      refine ⟨_, rfl, ?_⟩
      dsimp only at hb5 hr5 f5 e100 s5 z5 t5 g5 ⊢
      have y5 : mst μ5 250 2 r5 251 = Y := (g5 251 (by omega)).trans y4
      have s5' : mst μ5 250 2 r5 102 n ≠ 0 := by rw [mst_n (by decide)]; exact s5
      have es := ct_s (P := cfP (lg b n) s F but) h4.1
      simp (disch := omega) only [w32_eq, w64_eq, chk_T, chk_t, lt, lm, ob, Int.add_zero, Int.zero_add, true_and, and_true, if_true, if_false, K100, K101, K102, K103, K104, K200, K201, K230, K231, K232, K233, K234, K235, K236, K237, K250, K251, K252, K253, K254, K300, K301, K302, K303, K304, N101, N102, N103, N104, N201, N232, N233, N234, N235, N236, N237, N251, N252, N253, N254, N301, N302, N303, N304, X10F.f0 z4.1.1, X10F.f1 z4.1.1, X10F.f2 z4.1.1, X10F.f3 z4.1.1, X10F.f4 z4.1.1, X10F.f5 z4.1.1, X10F.f6 z4.1.1, X10F.f7 z4.1.1, X10F.f8 z4.1.1, X10F.f9 z4.1.1, X10F.f10 z4.1.1]
      refine Ec_ite (fun q => ?_) (fun q => ?_)
      · rw [bi_f (fun w => w.1 q)] at es
        exact Ec_inA ⟨hb5, f5, z5, y5, s5', (by first | omega | (dsimp only; omega) | (dsimp only)), (by first | omega | (dsimp only; omega) | (dsimp only)), (by first | omega | (dsimp only; omega) | (dsimp only)), fun pp p0 p1 w => li5 pp p0 p1 (li4 pp p0 p1 w)⟩ (by first | omega | (dsimp only; omega) | (dsimp only))
      · simp (disch := omega) only [w32_eq, w64_eq, chk_T, chk_t, lt, lm, ob, Int.add_zero, Int.zero_add, true_and, and_true, if_true, if_false, K100, K101, K102, K103, K104, K200, K201, K230, K231, K232, K233, K234, K235, K236, K237, K250, K251, K252, K253, K254, K300, K301, K302, K303, K304, N101, N102, N103, N104, N201, N232, N233, N234, N235, N236, N237, N251, N252, N253, N254, N301, N302, N303, N304, X10F.f0 z5.1.1, X10F.f1 z5.1.1, X10F.f2 z5.1.1, X10F.f3 z5.1.1, X10F.f4 z5.1.1, X10F.f5 z5.1.1, X10F.f6 z5.1.1, X10F.f7 z5.1.1, X10F.f8 z5.1.1, X10F.f9 z5.1.1, X10F.f10 z5.1.1]
        refine Ec_bindE (c_leastStart t5 (hR _ _ _ z5 y5 t5)) ?_
        rintro ⟨r6, μ6⟩ ⟨f6, h6⟩
        dsimp only at f6 h6 ⊢
        have z6 := z5.sp f6
        have s6 : μ6 102 n ≠ 0 := by rw [f6 102 (by unfold sp2; omega)]; exact s5'
        have y6 : μ6 251 = Y := (f6 251 (by unfold sp2; omega)).trans y5
        have bb6 : b5 = Bd μ6 := by rw [Bd_ft (sp_f5 f6)]; exact hb5
        have fq6 : Fw Rq μ0 μ6 := f5.tr (f6.mo (fun x hx => Rq_sp hx))
        rcases LsA_p h6 with ⟨e, w⟩ | ⟨e, w⟩
        · rw [if_pos e]
          rw [bi_f (fun v => w v.2.2)] at es
          exact Ec_inA ⟨bb6, fq6, z6, y6, s6, (by first | omega | (dsimp only; omega) | (dsimp only)), (by first | omega | (dsimp only; omega) | (dsimp only)), (by first | omega | (dsimp only; omega) | (dsimp only)), fun pp p0 p1 w => (li5 pp p0 p1 (li4 pp p0 p1 w)).fw f6 (fun x a b => by unfold sp2; have := z4.1.n0; have := hL.1; omega)⟩ (by first | omega | (dsimp only; omega) | (dsimp only))
        · rw [if_neg (by omega)]
          rw [bi_t (c := cfP (lg b n) s F but v5) ⟨q, hp, w⟩] at es
          exact Ec_inA ⟨bb6, fq6, z6, y6, s6, (by first | omega | (dsimp only; omega) | (dsimp only)), (by first | omega | (dsimp only; omega) | (dsimp only)), (by first | omega | (dsimp only; omega) | (dsimp only)), fun pp p0 p1 w => (li5 pp p0 p1 (li4 pp p0 p1 w)).fw f6 (fun x a b => by unfold sp2; have := z4.1.n0; have := hL.1; omega)⟩ (by first | omega | (dsimp only; omega) | (dsimp only))
  · rintro ⟨r, μ4⟩ b4 h cc nn
    exact ⟨_, rfl, Ec_some h⟩
end
