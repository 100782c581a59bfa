/-! ===== the reference: hills, sure, bars ===== -/
theorem my_s {f : Int → Int} {a i : Int} (h : 0 ≤ i) : my f a (i + 1).toNat = if f (a + i) ≤ my f a i.toNat then my f a i.toNat else f (a + i) := by
  have e : (i + 1).toNat = i.toNat + 1 := by omega
  rw [e]
  show (if f (a + (i.toNat : Int)) ≤ my f a i.toNat then my f a i.toNat else f (a + (i.toNat : Int))) = _
  rw [Int.toNat_of_nonneg h]
section
variable {μ : Mm} {b : Int → Int}
theorem r_hillsOf (hM : Md μ) (hDt : Dt μ) (hb : μ 20001 = b) (hA : AOk b) (n k i : Int) : Ev (fX11_hillsOf 20000 n k i μ) (fun r => Md r.2 ∧ ((r.1 = 1 ∧ ((isL b n ∧ isS b k) ∧ 0 ≤ i ∧ i < ls b k 0) ∧ FdP r.2 (hlp (lg b n) (ls b k) i)) ∨ (r.1 = 0 ∧ ¬((isL b n ∧ isS b k) ∧ 0 ≤ i ∧ i < ls b k 0)))) := by
  unfold fX11_hillsOf
  simp (disch := omega) only [w32_eq, w64_eq, chk_T, chk_t, lt, lm, ob, Int.add_zero, Int.zero_add, true_and, and_true, if_true, if_false, K20000, K20001, K20002, K20003, K20004, K20005, K20006, K20007, K20008, K20009, K20010, K20011, K20012, K20013, K20014, K20015, K20016, K20017, K20018, K20019, N20001, N20002, N20003, N20004, N20005, N20006, N20007, N20008, N20009, N20010, N20011, N20012, N20013, N20014, N20015, N20016, N20017, N20018, N20019, r_areBoth hM hb hA, bi_if]
  by_cases h : isL b n ∧ isS b k
  · obtain ⟨nn, kk, hD, hO, hG, hS⟩ := r_two hb hA h
    have o := hO.1; have hz := hS.1; have nb := np_b hD
    rw [sel_t h, r_placeOf1 kk]
    simp (disch := omega) only [w32_eq, w64_eq, chk_T, chk_t, lt, lm, ob, Int.add_zero, Int.zero_add, true_and, and_true, if_true, if_false, K20000, K20001, K20002, K20003, K20004, K20005, K20006, K20007, K20008, K20009, K20010, K20011, K20012, K20013, K20014, K20015, K20016, K20017, K20018, K20019, N20001, N20002, N20003, N20004, N20005, N20006, N20007, N20008, N20009, N20010, N20011, N20012, N20013, N20014, N20015, N20016, N20017, N20018, N20019, Md_0 hM, hS.r0, isIn_0]
    by_cases hi : 0 ≤ i ∧ i < ls b k 0
    · rw [if_neg (by omega), r_placeOf nn]
      simp only [ob]
      generalize 710 + 200 * n = l at *
      generalize 1110 + 32 * k = z at *
      refine Ev_bind (r_survey hM hG hDt hD) (fun μ1 ⟨f1, H1⟩ => ?_)
      have M1 := f1.md hM (by decide)
      refine Ev_bind (Ev_lopF (pj := pjX11_hillsOf_54) (P := fun μ' => Fr [20011] [] μ1 μ' ∧ ∀ q, 0 ≤ q → q < 144 → μ' 20011 q = 0) (fun s t h hM => frsX11_hillsOf_54 h hM) (by decide) M1 (fun s => (0 ≤ s.1 ∧ s.1 ≤ 144) ∧ ∀ q, 0 ≤ q → q < s.1 → s.2 20011 q = 0) (fun s => (144 - s.1).toNat) ⟨(by first | omega | (dsimp only; omega) | (dsimp only)), fun q a b => by dsimp only at b; omega⟩ (by unfold FU; dsimp only; omega) ?_) (fun μ2 ⟨f2, w2⟩ => ?_)
      · rintro ⟨v6, μ3⟩ M3 F3 ⟨r1, r2⟩
        replace M3 : Md μ3 := M3
        dsimp only at r1 r2 ⊢
        unfold sX11_hillsOf_54
        dsimp only
        refine Ev_ite (fun w => Ev_out (fun f => ⟨f, fun q a c => r2 q a (by omega)⟩)) (fun w => ?_)
        simp (disch := omega) only [w32_eq, w64_eq, chk_T, chk_t, lt, lm, ob, Int.add_zero, Int.zero_add, true_and, and_true, if_true, if_false, K20000, K20001, K20002, K20003, K20004, K20005, K20006, K20007, K20008, K20009, K20010, K20011, K20012, K20013, K20014, K20015, K20016, K20017, K20018, K20019, N20001, N20002, N20003, N20004, N20005, N20006, N20007, N20008, N20009, N20010, N20011, N20012, N20013, N20014, N20015, N20016, N20017, N20018, N20019, Md_22 M3]
        refine Ev_in ⟨(by first | omega | (dsimp only; omega) | (dsimp only)), fun q a c => ?_⟩ (by first | omega | (dsimp only; omega) | (dsimp only))
        dsimp only at c ⊢
        by_cases e : q = v6
        · subst e; exact mst_s
        · rw [mst_j e]; exact r2 q a (by omega)
      have M2 := f2.md M1 (by decide)
      have F02 : Fr [20006, 20007, 20008, 20011] [14] μ μ2 := (f1.mo (by decide) (by decide)).tr (f2.mo (by decide) (by decide))
      have H2 : ∀ p, Pl (lg b n) p → Hp μ2 (lg b n) p := fun p hp => (H1 p hp).fr f2 (by decide) (by decide)
      have G2 := hG.fr F02 (by decide); have S2 := hS.fr F02 (by decide)
      refine Ev_bind (Ev_lopF (pj := pjX11_hillsOf_79) (P := fun μ' => Fr [20011] [] μ2 μ' ∧ ∀ q, 0 ≤ q → q < 144 → μ' 20011 q = bi (hlp (lg b n) (ls b k) i q)) (fun s t h hM => frsX11_hillsOf_79 h hM) (by decide) M2 (fun s => (0 ≤ s.1 ∧ s.1 ≤ np (lg b n)) ∧ ∀ q, 0 ≤ q → q < 144 → s.2 20011 q = bi (∃ p, (0 ≤ p ∧ p < s.1) ∧ cb (lg b n) (ls b k) p ∧ ∃ st, 0 ≤ st ∧ st < hN (lg b n) p ∧ fO (lg b n) (ls b k) p st (-1) = ls b k 0 ∧ hl (lg b n) (ls b k) p st i = q)) (fun s => (np (lg b n) - s.1).toNat) ⟨(by first | omega | (dsimp only; omega) | (dsimp only)), fun q a c => by dsimp only; rw [w2 q a c, bi_f]; rintro ⟨p, hp, _⟩; omega⟩ (by unfold FU; dsimp only; omega) ?_) (fun μ3 ⟨f3, w3⟩ => ?_)
      · rintro ⟨v6, μ3⟩ M3 F3 ⟨r1, r2⟩
        replace M3 : Md μ3 := M3
        replace F3 : Fr [20011] [] μ2 μ3 := F3
        dsimp only at r1 r2 ⊢
        unfold sX11_hillsOf_79
        dsimp only
        simp (disch := omega) only [w32_eq, w64_eq, chk_T, chk_t, lt, lm, ob, Int.add_zero, Int.zero_add, true_and, and_true, if_true, if_false, K20000, K20001, K20002, K20003, K20004, K20005, K20006, K20007, K20008, K20009, K20010, K20011, K20012, K20013, K20014, K20015, K20016, K20017, K20018, K20019, N20001, N20002, N20003, N20004, N20005, N20006, N20007, N20008, N20009, N20010, N20011, N20012, N20013, N20014, N20015, N20016, N20017, N20018, N20019, r_placesOf M3 (G2.fr F3 (by decide)) hD]
        refine Ev_ite (fun w => Ev_out (fun f => ⟨f, fun q a c => ?_⟩)) (fun w => ?_)
        · rw [r2 q a c]; apply bi_c
          constructor
          · rintro ⟨p, hp, r⟩; exact ⟨p, ⟨hp.1, by omega⟩, r⟩
          · rintro ⟨p, hp, r⟩; exact ⟨p, ⟨hp.1, by have := hp.2; omega⟩, r⟩
        · have hp : Pl (lg b n) v6 := ⟨by omega, by omega⟩
          have hbb := hN_b hD hp; have bp := Pl.i hD hp
          refine Ev_bind (Ev_lopF (pj := pjX11_hillsOf_93) (P := fun μ' => ∀ q, 0 ≤ q → q < 144 → μ' 20011 q = sel (cb (lg b n) (ls b k) v6 ∧ ∃ st, 0 ≤ st ∧ st < hN (lg b n) v6 ∧ fO (lg b n) (ls b k) v6 st (-1) = ls b k 0 ∧ hl (lg b n) (ls b k) v6 st i = q) 1 (μ3 20011 q)) (fun s t h hM => frsX11_hillsOf_93 h hM) (by decide) M3 (fun s => (0 ≤ s.1 ∧ s.1 ≤ hN (lg b n) v6) ∧ ∀ q, 0 ≤ q → q < 144 → s.2 20011 q = sel (cb (lg b n) (ls b k) v6 ∧ ∃ st, 0 ≤ st ∧ st < s.1 ∧ fO (lg b n) (ls b k) v6 st (-1) = ls b k 0 ∧ hl (lg b n) (ls b k) v6 st i = q) 1 (μ3 20011 q)) (fun s => (hN (lg b n) v6 - s.1).toNat) ⟨(by first | omega | (dsimp only; omega) | (dsimp only)), fun q a c => by dsimp only; rw [sel_f]; rintro ⟨_, st, s0, s1, _⟩; omega⟩ (by unfold FU; dsimp only; omega) ?_) (fun μ4 w4 => ?_)
          · rintro ⟨v7, μ4⟩ M4 F4 ⟨q1, q2⟩
            replace M4 : Md μ4 := M4
            replace F4 : Fr [20011] [] μ3 μ4 := F4
            have F24 : Fr [20011] [] μ2 μ4 := F3.tr F4
            have H4 := (H2 v6 hp).fr F24 (by decide) (by decide)
            have G4 := G2.fr F24 (by decide); have S4 := S2.fr F24 (by decide)
            dsimp only at q1 q2 ⊢
            unfold sX11_hillsOf_93
            dsimp only
            simp (disch := omega) only [w32_eq, w64_eq, chk_T, chk_t, lt, lm, ob, Int.add_zero, Int.zero_add, true_and, and_true, if_true, if_false, K20000, K20001, K20002, K20003, K20004, K20005, K20006, K20007, K20008, K20009, K20010, K20011, K20012, K20013, K20014, K20015, K20016, K20017, K20018, K20019, N20001, N20002, N20003, N20004, N20005, N20006, N20007, N20008, N20009, N20010, N20011, N20012, N20013, N20014, N20015, N20016, N20017, N20018, N20019, Md_16 M4, H4.1, r_canBe M4 S4 hO hD hp H4, bi_if]
            refine Ev_ite (fun w => Ev_out (fun _ q a c => ?_)) (fun w => ?_)
            · rw [q2 q a c]
              have : (cb (lg b n) (ls b k) v6 ∧ ∃ st, 0 ≤ st ∧ st < v7 ∧ fO (lg b n) (ls b k) v6 st (-1) = ls b k 0 ∧ hl (lg b n) (ls b k) v6 st i = q) ↔ (cb (lg b n) (ls b k) v6 ∧ ∃ st, 0 ≤ st ∧ st < hN (lg b n) v6 ∧ fO (lg b n) (ls b k) v6 st (-1) = ls b k 0 ∧ hl (lg b n) (ls b k) v6 st i = q) := by
                constructor
                · rintro ⟨w, st, s0, s1, r⟩; exact ⟨w, st, s0, by omega, r⟩
                · rintro ⟨w, st, s0, s1, r⟩; exact ⟨w, st, s0, by omega, r⟩
              rw [propext this]
            · by_cases hc : cb (lg b n) (ls b k) v6
              · rw [sel_t hc, r_firstOf M4 G4 S4 hO hD hp H4 (st := v7) (by omega)]
                simp (disch := omega) only [w32_eq, w64_eq, chk_T, chk_t, lt, lm, ob, Int.add_zero, Int.zero_add, true_and, and_true, if_true, if_false, K20000, K20001, K20002, K20003, K20004, K20005, K20006, K20007, K20008, K20009, K20010, K20011, K20012, K20013, K20014, K20015, K20016, K20017, K20018, K20019, N20001, N20002, N20003, N20004, N20005, N20006, N20007, N20008, N20009, N20010, N20011, N20012, N20013, N20014, N20015, N20016, N20017, N20018, N20019, Md_0 M4, S4.r0]
                refine Ev_ite (fun e => ?_) (fun e => Ev_in ⟨(by first | omega | (dsimp only; omega) | (dsimp only)), fun x a c => ?_⟩ (by first | omega | (dsimp only; omega) | (dsimp only)))
                · have hlP := hl_P (s := ls b k) (st := v7) (i := i) hD hp hc.1
                  have bl := Pl.i hD hlP.1
                  have le := cb_le hc
                  rw [r_hillOf M4 S4 hD hp H4 (st := v7) (i := i) (by omega) (by omega)]
                  simp (disch := omega) only [w32_eq, w64_eq, chk_T, chk_t, lt, lm, ob, Int.add_zero, Int.zero_add, true_and, and_true, if_true, if_false, K20000, K20001, K20002, K20003, K20004, K20005, K20006, K20007, K20008, K20009, K20010, K20011, K20012, K20013, K20014, K20015, K20016, K20017, K20018, K20019, N20001, N20002, N20003, N20004, N20005, N20006, N20007, N20008, N20009, N20010, N20011, N20012, N20013, N20014, N20015, N20016, N20017, N20018, N20019, Md_22 M4]
                  refine Ev_in ⟨(by first | omega | (dsimp only; omega) | (dsimp only)), fun x a c => ?_⟩ (by first | omega | (dsimp only; omega) | (dsimp only))
                  dsimp only
                  by_cases u : x = hl (lg b n) (ls b k) v6 v7 i
                  · rw [u, mst_s, sel_t]; exact ⟨hc, v7, q1.1, by omega, e, rfl⟩
                  · rw [mst_j u, q2 x a c]
                    have : (cb (lg b n) (ls b k) v6 ∧ ∃ st, 0 ≤ st ∧ st < v7 ∧ fO (lg b n) (ls b k) v6 st (-1) = ls b k 0 ∧ hl (lg b n) (ls b k) v6 st i = x) ↔ (cb (lg b n) (ls b k) v6 ∧ ∃ st, 0 ≤ st ∧ st < v7 + 1 ∧ fO (lg b n) (ls b k) v6 st (-1) = ls b k 0 ∧ hl (lg b n) (ls b k) v6 st i = x) := by
                      constructor
                      · rintro ⟨w, st, s0, s1, r⟩; exact ⟨w, st, s0, by omega, r⟩
                      · rintro ⟨w, st, s0, s1, r1, r2⟩
                        by_cases v : st = v7
                        · subst v; exact absurd r2.symm u
                        · exact ⟨w, st, s0, by omega, r1, r2⟩
                    rw [propext this]
                · dsimp only
                  rw [q2 x a c]
                  have : (cb (lg b n) (ls b k) v6 ∧ ∃ st, 0 ≤ st ∧ st < v7 ∧ fO (lg b n) (ls b k) v6 st (-1) = ls b k 0 ∧ hl (lg b n) (ls b k) v6 st i = x) ↔ (cb (lg b n) (ls b k) v6 ∧ ∃ st, 0 ≤ st ∧ st < v7 + 1 ∧ fO (lg b n) (ls b k) v6 st (-1) = ls b k 0 ∧ hl (lg b n) (ls b k) v6 st i = x) := by
                    constructor
                    · rintro ⟨w, st, s0, s1, r⟩; exact ⟨w, st, s0, by omega, r⟩
                    · rintro ⟨w, st, s0, s1, r1, r2⟩
                      by_cases v : st = v7
                      · subst v; exact absurd r1 e
                      · exact ⟨w, st, s0, by omega, r1, r2⟩
                  rw [propext this]
              · rw [sel_f hc]
                exact Ev_out (fun _ q a c => by rw [q2 q a c, sel_f (fun w => hc w.1), sel_f (fun w => hc w.1)])
          · refine Ev_in ⟨(by first | omega | (dsimp only; omega) | (dsimp only)), fun q a c => ?_⟩ (by first | omega | (dsimp only; omega) | (dsimp only))
            dsimp only
            rw [w4 q a c, r2 q a c]
            by_cases u : cb (lg b n) (ls b k) v6 ∧ ∃ st, 0 ≤ st ∧ st < hN (lg b n) v6 ∧ fO (lg b n) (ls b k) v6 st (-1) = ls b k 0 ∧ hl (lg b n) (ls b k) v6 st i = q
            · rw [sel_t u, bi_t]; exact ⟨v6, by omega, u⟩
            · rw [sel_f u]; apply bi_c
              constructor
              · rintro ⟨p, hp, r⟩; exact ⟨p, by omega, r⟩
              · rintro ⟨p, hp, r⟩
                by_cases v : p = v6
                · subst v; exact absurd r u
                · exact ⟨p, by omega, r⟩
      have M3 := f3.md M2 (by decide)
      have f4 : Fr [20009] [18] μ3 (mst μ3 20000 18 0) := Fr.fld rfl (by decide)
      have M4 := f4.md M3 (by decide)
      refine Ev_bind (Ev_lopF (pj := pjX11_hillsOf_176) (P := fun μ' => Md μ' ∧ FdP μ' (hlp (lg b n) (ls b k) i)) (fun s t h hM => frsX11_hillsOf_176 h hM) (by decide) M4 (fun t => (0 ≤ t.1 ∧ t.1 ≤ 144) ∧ t.2 20000 18 = ct (hlp (lg b n) (ls b k) i) t.1.toNat ∧ ∀ j, 0 ≤ j → j < ct (hlp (lg b n) (ls b k) i) t.1.toNat → t.2 20009 j = (fa (hlp (lg b n) (ls b k) i) (fun i => i) t.1.toNat).2 j) (fun t => (144 - t.1).toNat) ⟨(by first | omega | (dsimp only; omega) | (dsimp only)), (by dsimp only; rw [mst_s]; rfl), fun j h0 h1 => ?_⟩ (by unfold FU; dsimp only; omega) ?_) (fun μ5 w5 => Ev_some ⟨w5.1, .inl ⟨rfl, ⟨h, hi⟩, w5.2⟩⟩)
      · have : ct (hlp (lg b n) (ls b k) i) 0 = 0 := rfl
        simp only [Int.toNat_zero] at h1; omega
      · rintro ⟨v6, μ5⟩ M5 F5 ⟨r1, r2, r3⟩
        replace M5 : Md μ5 := M5
        replace F5 : Fr [20009] [18] μ3 μ5 := f4.tr F5
        have w5 : ∀ q, 0 ≤ q → q < 144 → μ5 20011 q = bi (hlp (lg b n) (ls b k) i q) := by rw [F5.1 20011 (by decide) (by decide)]; exact w3
        dsimp only at r1 r2 r3 ⊢
        have cb1 := ct_b (hlp (lg b n) (ls b k) i) v6.toNat
        unfold sX11_hillsOf_176
        dsimp only
        refine Ev_ite (fun w => Ev_out (fun f => ⟨f.md M4 (by decide), ?_⟩)) (fun w => ?_)
        · have e : v6.toNat = 144 := by omega
          rw [e] at r2 r3; exact ⟨r2, r3⟩
        · have es := ct_s (P := hlp (lg b n) (ls b k) i) r1.1
          simp (disch := omega) only [w32_eq, w64_eq, chk_T, chk_t, lt, lm, ob, Int.add_zero, Int.zero_add, true_and, and_true, if_true, if_false, K20000, K20001, K20002, K20003, K20004, K20005, K20006, K20007, K20008, K20009, K20010, K20011, K20012, K20013, K20014, K20015, K20016, K20017, K20018, K20019, N20001, N20002, N20003, N20004, N20005, N20006, N20007, N20008, N20009, N20010, N20011, N20012, N20013, N20014, N20015, N20016, N20017, N20018, N20019, Md_22 M5, w5 v6 r1.1 (by omega), bi_if]
          by_cases u : hlp (lg b n) (ls b k) i v6
          · rw [sel_t u]
            rw [bi_t u] at es
            simp (disch := omega) only [w32_eq, w64_eq, chk_T, chk_t, lt, lm, ob, Int.add_zero, Int.zero_add, true_and, and_true, if_true, if_false, K20000, K20001, K20002, K20003, K20004, K20005, K20006, K20007, K20008, K20009, K20010, K20011, K20012, K20013, K20014, K20015, K20016, K20017, K20018, K20019, N20001, N20002, N20003, N20004, N20005, N20006, N20007, N20008, N20009, N20010, N20011, N20012, N20013, N20014, N20015, N20016, N20017, N20018, N20019, Md_19 M5, r2, mst_n, mst_s, mst_j]
            refine Ev_in ⟨(by first | omega | (dsimp only; omega) | (dsimp only)), ?_, fun j j0 j1 => ?_⟩ (by first | omega | (dsimp only; omega) | (dsimp only))
            · dsimp only; rw [mst_s, es]
            · dsimp only at j1 ⊢
              rw [fa_s r1.1, sel_t u]
              unfold psh; dsimp only
              rw [fa_n, mst_n (by decide)]
              by_cases y : j = ct (hlp (lg b n) (ls b k) i) v6.toNat
              · rw [if_pos y, y, mst_s]
              · rw [if_neg y, mst_j y]; exact r3 j j0 (by omega)
          · rw [sel_f u]
            rw [bi_f u] at es
            refine Ev_in ⟨(by first | omega | (dsimp only; omega) | (dsimp only)), ?_, fun j j0 j1 => ?_⟩ (by first | omega | (dsimp only; omega) | (dsimp only))
            · dsimp only; omega
            · dsimp only at j1 ⊢
              rw [fa_s r1.1, sel_f u]; exact r3 j j0 (by omega)
    · rw [if_pos (by omega)]; exact Ev_some ⟨hM, .inr ⟨rfl, fun w => hi w.2⟩⟩
  · rw [sel_f h]; exact Ev_some ⟨hM, .inr ⟨rfl, fun w => h w.1⟩⟩
theorem rr_hills (hM : Md μ) (hDt : Dt μ) (hb : μ 20001 = b) (hA : AOk b) (n k i j : Int) : Ev (fX11_hills 20000 n k i j μ) (fun r => r.1 = zzHills b n k i j) := by
  unfold fX11_hills zzHills
  simp (disch := omega) only [w32_eq, w64_eq, chk_T, chk_t, lt, lm, ob, Int.add_zero, Int.zero_add, true_and, and_true, if_true, if_false, K20000, K20001, K20002, K20003, K20004, K20005, K20006, K20007, K20008, K20009, K20010, K20011, K20012, K20013, K20014, K20015, K20016, K20017, K20018, K20019, N20001, N20002, N20003, N20004, N20005, N20006, N20007, N20008, N20009, N20010, N20011, N20012, N20013, N20014, N20015, N20016, N20017, N20018, N20019, ]
  refine Ev_bind (r_hillsOf hM hDt hb hA n k i) ?_
  rintro ⟨r, μ1⟩ ⟨M1, h⟩
  dsimp only at M1 h ⊢
  rcases h with ⟨e, w, hP⟩ | ⟨e, w⟩
  · subst e
    rw [if_neg (by decide), r_told M1 hP, sel_t w]
    simp only [ob]
    exact Ev_some rfl
  · subst e
    rw [if_pos rfl, sel_f w]; exact Ev_some rfl
theorem rr_sure (hM : Md μ) (hDt : Dt μ) (hb : μ 20001 = b) (hA : AOk b) (n k i : Int) : Ev (fX11_sure 20000 n k i μ) (fun r => r.1 = zzSure b n k i) := by
  unfold fX11_sure zzSure
  simp (disch := omega) only [w32_eq, w64_eq, chk_T, chk_t, lt, lm, ob, Int.add_zero, Int.zero_add, true_and, and_true, if_true, if_false, K20000, K20001, K20002, K20003, K20004, K20005, K20006, K20007, K20008, K20009, K20010, K20011, K20012, K20013, K20014, K20015, K20016, K20017, K20018, K20019, N20001, N20002, N20003, N20004, N20005, N20006, N20007, N20008, N20009, N20010, N20011, N20012, N20013, N20014, N20015, N20016, N20017, N20018, N20019, ]
  refine Ev_bind (r_hillsOf hM hDt hb hA n k i) ?_
  rintro ⟨r, μ1⟩ ⟨M1, h⟩
  dsimp only at M1 h ⊢
  rcases h with ⟨e, w, hP⟩ | ⟨e, w⟩
  · subst e
    rw [if_neg (by decide)]
    refine Ev_ite (fun q => Ev_some (bi_t ⟨w, hP.1.symm.trans q⟩).symm) (fun q => Ev_some (bi_f (fun v => q (hP.1.trans v.2))).symm)
  · subst e
    rw [if_pos rfl]; exact Ev_some (bi_f (fun v => w v.1)).symm
theorem rr_bars (hM : Md μ) (hDt : Dt μ) (hb : μ 20001 = b) (hA : AOk b) (n k i : Int) : Ev (fX11_bars 20000 n k i μ) (fun r => r.1 = zzBars b n k i) := by
  unfold fX11_bars zzBars
  simp (disch := omega) only [w32_eq, w64_eq, chk_T, chk_t, lt, lm, ob, Int.add_zero, Int.zero_add, true_and, and_true, if_true, if_false, K20000, K20001, K20002, K20003, K20004, K20005, K20006, K20007, K20008, K20009, K20010, K20011, K20012, K20013, K20014, K20015, K20016, K20017, K20018, K20019, N20001, N20002, N20003, N20004, N20005, N20006, N20007, N20008, N20009, N20010, N20011, N20012, N20013, N20014, N20015, N20016, N20017, N20018, N20019, r_areBoth hM hb hA, bi_if]
  by_cases h : isL b n ∧ isS b k
  · obtain ⟨nn, kk, hD, hO, hG, hS⟩ := r_two hb hA h
    have o := hO.1; have hz := hS.1; have nb := np_b hD
    rw [sel_t h, r_placeOf1 kk]
    simp (disch := omega) only [w32_eq, w64_eq, chk_T, chk_t, lt, lm, ob, Int.add_zero, Int.zero_add, true_and, and_true, if_true, if_false, K20000, K20001, K20002, K20003, K20004, K20005, K20006, K20007, K20008, K20009, K20010, K20011, K20012, K20013, K20014, K20015, K20016, K20017, K20018, K20019, N20001, N20002, N20003, N20004, N20005, N20006, N20007, N20008, N20009, N20010, N20011, N20012, N20013, N20014, N20015, N20016, N20017, N20018, N20019, Md_0 hM, hS.r0, isIn_0]
    by_cases hi : 0 ≤ i ∧ i < ls b k 0
    · rw [if_neg (by omega), r_placeOf nn, sel_t ⟨h, hi⟩]
      simp only [ob]
      generalize 710 + 200 * n = l at *
      generalize 1110 + 32 * k = z at *
      refine Ev_bind (r_survey hM hG hDt hD) (fun μ1 ⟨f1, H1⟩ => ?_)
      have M1 := f1.md hM (by decide)
      have G1 := hG.fr f1 (by decide); have S1 := hS.fr f1 (by decide)
      refine Ev_bind (Ev_cnt (P := fun p => my (fun st => fO (lg b n) (ls b k) p st (-1)) 0 (hN (lg b n) p).toNat = i) (n := np (lg b n)) (by omega) (by omega) (fun q a q0 q1 a0 a1 => ?_) (fun a a0 a1 => ?_)) (fun r h => Ev_some h)
      · unfold sX11_bars_57
        dsimp only
        simp (disch := omega) only [w32_eq, w64_eq, chk_T, chk_t, lt, lm, ob, Int.add_zero, Int.zero_add, true_and, and_true, if_true, if_false, K20000, K20001, K20002, K20003, K20004, K20005, K20006, K20007, K20008, K20009, K20010, K20011, K20012, K20013, K20014, K20015, K20016, K20017, K20018, K20019, N20001, N20002, N20003, N20004, N20005, N20006, N20007, N20008, N20009, N20010, N20011, N20012, N20013, N20014, N20015, N20016, N20017, N20018, N20019, r_placesOf M1 G1 hD]
        rw [if_neg (by omega)]
        have hp : Pl (lg b n) q := ⟨q0, q1⟩
        have hbb := hN_b hD hp; have bp := Pl.i hD hp
        have H := H1 q hp
        refine Ev_bind (Ev_lop (P := fun r => r = my (fun st => fO (lg b n) (ls b k) q st (-1)) 0 (hN (lg b n) q).toNat) (fun t => (0 ≤ t.2 ∧ t.2 ≤ hN (lg b n) q) ∧ t.1 = my (fun st => fO (lg b n) (ls b k) q st (-1)) 0 t.2.toNat) (fun t => (hN (lg b n) q - t.2).toNat) ⟨(by first | omega | (dsimp only; omega) | (dsimp only)), rfl⟩ (by unfold FU; dsimp only; omega) ?_) (fun r hr => ?_)
        · rintro ⟨v8, v9⟩ ⟨k1, k2⟩
          dsimp only at k1 k2 ⊢
          unfold sX11_bars_74
          dsimp only
          simp (disch := omega) only [w32_eq, w64_eq, chk_T, chk_t, lt, lm, ob, Int.add_zero, Int.zero_add, true_and, and_true, if_true, if_false, K20000, K20001, K20002, K20003, K20004, K20005, K20006, K20007, K20008, K20009, K20010, K20011, K20012, K20013, K20014, K20015, K20016, K20017, K20018, K20019, N20001, N20002, N20003, N20004, N20005, N20006, N20007, N20008, N20009, N20010, N20011, N20012, N20013, N20014, N20015, N20016, N20017, N20018, N20019, Md_16 M1, H.1]
          refine Ev_ite (fun w => Ev_out ?_) (fun w => ?_)
          · have e : v9 = hN (lg b n) q := by omega
            rw [e] at k2; exact k2
          · rw [r_firstOf M1 G1 S1 hO hD hp H (st := v9) (by omega)]
            simp only [ob]
            have es : my (fun st => fO (lg b n) (ls b k) q st (-1)) 0 (v9 + 1).toNat = if fO (lg b n) (ls b k) q v9 (-1) ≤ my (fun st => fO (lg b n) (ls b k) q st (-1)) 0 v9.toNat then my (fun st => fO (lg b n) (ls b k) q st (-1)) 0 v9.toNat else fO (lg b n) (ls b k) q v9 (-1) := by
              have := my_s (f := fun st => fO (lg b n) (ls b k) q st (-1)) (a := 0) k1.1
              rw [Int.zero_add] at this; exact this
            refine Ev_ite (fun u => Ev_in ⟨(by first | omega | (dsimp only; omega) | (dsimp only)), ?_⟩ (by first | omega | (dsimp only; omega) | (dsimp only))) (fun u => Ev_in ⟨(by first | omega | (dsimp only; omega) | (dsimp only)), ?_⟩ (by first | omega | (dsimp only; omega) | (dsimp only)))
            · dsimp only; rw [es, if_pos (by omega)]; exact k2
            · dsimp only; rw [es, if_neg (by omega)]
        · rw [hr]
          refine Ev_ite (fun u => ?_) (fun u => ?_)
          · rw [bi_t u]; exact Ev_some rfl
          · rw [bi_f u, Int.add_zero]; exact Ev_some rfl
      · unfold sX11_bars_57
        dsimp only
        simp (disch := omega) only [w32_eq, w64_eq, chk_T, chk_t, lt, lm, ob, Int.add_zero, Int.zero_add, true_and, and_true, if_true, if_false, K20000, K20001, K20002, K20003, K20004, K20005, K20006, K20007, K20008, K20009, K20010, K20011, K20012, K20013, K20014, K20015, K20016, K20017, K20018, K20019, N20001, N20002, N20003, N20004, N20005, N20006, N20007, N20008, N20009, N20010, N20011, N20012, N20013, N20014, N20015, N20016, N20017, N20018, N20019, r_placesOf M1 G1 hD]
        rw [if_pos (by omega)]; exact Ev_some rfl
    · rw [if_pos (by omega), sel_f (fun w => hi w.2)]; exact Ev_some rfl
  · rw [sel_f h, sel_f (fun w => h w.1)]; exact Ev_some rfl
end
