/-! ===== two sketches: pairs ===== -/
theorem sm_c {f h : Int → Int} : ∀ n : Nat, (∀ i : Int, 0 ≤ i → i < n → f i = h i) → sm f n = sm h n
  | 0, _ => rfl
  | n + 1, e => by
    show sm f n + f n = sm h n + h n
    rw [sm_c n (fun i a b => e i a (by omega)), e n (by omega) (by omega)]
/-- going over those that are P, one by one -/
theorem fa_sum {P : Int → Prop} (F : Int → Int) : ∀ n : Nat, sm (fun i => F ((fa P (fun i => i) n).2 i)) (ct P n).toNat = sm (fun p => sel (P p) (F p) 0) n
  | 0 => rfl
  | n + 1 => by
    have ih := fa_sum (P := P) F n
    have cb1 := ct_b P n
    show _ = sm (fun p => sel (P p) (F p) 0) n + sel (P (n : Int)) (F n) 0
    by_cases h : P (n : Int)
    · have e : ct P (n + 1) = ct P n + 1 := by show ct P n + bi (P n) = _; rw [bi_t h]
      rw [e, sm_s cb1.1, sel_t h, ← ih]
      congr 1
      · apply sm_c; intro i a b
        rw [fa_keep P (fun i => i) n (n + 1) (by omega) i (by omega)]
      · rw [fa_v (c := P) (v := fun i => i) (n := n + 1) (i := n) (by omega) h]
    · have e : ct P (n + 1) = ct P n := by show ct P n + bi (P n) = _; rw [bi_f h, Int.add_zero]
      have e2 : fa P (fun i => i) (n + 1) = fa P (fun i => i) n := by show sel _ _ _ = _; rw [sel_f h]
      rw [e, e2, sel_f h, Int.add_zero]; exact ih
theorem ct_sm {P R : Int → Prop} : ∀ n : Nat, sm (fun p => sel (P p) (bi (R p)) 0) n = ct (fun p => P p ∧ R p) n
  | 0 => rfl
  | n + 1 => by
    show sm (fun p => sel (P p) (bi (R p)) 0) n + sel (P (n : Int)) (bi (R (n : Int))) 0 = ct (fun p => P p ∧ R p) n + bi (P (n : Int) ∧ R (n : Int))
    rw [ct_sm n]
    by_cases h : P (n : Int)
    · rw [sel_t h]; congr 1; apply bi_c; exact ⟨fun w => ⟨h, w⟩, fun w => w.2⟩
    · rw [sel_f h, bi_f (fun w => h w.1)]
theorem Ev_sum {step : (Int × Int) → Option ((Int × Int) ⊕ Int)} {f : Int → Int} {n a0 : Int} (h0 : 0 ≤ n) (hn : n < 1000000) (hs : ∀ i a, 0 ≤ i → i < n → a = a0 + sm f i.toNat → Ev (step (a, i)) (fun t => t = .inl (a + f i, i + 1))) (he : ∀ a, a = a0 + sm f n.toNat → Ev (step (a, n)) (fun t => t = .inr a)) : Ev (lop step FU (a0, 0)) (fun r => r = a0 + sm f n.toNat) := by
  refine Ev_lop (P := fun r => r = a0 + sm f n.toNat) (fun s => (0 ≤ s.2 ∧ s.2 ≤ n) ∧ s.1 = a0 + sm f s.2.toNat) (fun s => (n - s.2).toNat) ⟨(by first | omega | (dsimp only; omega) | (dsimp only)), ?_⟩ (by unfold FU; dsimp only; omega) ?_
  · have : sm f (0 : Int).toNat = 0 := rfl
    dsimp only; rw [this, Int.add_zero]
  rintro ⟨a, i⟩ ⟨h1, h2⟩
  dsimp only at h1 h2 ⊢
  by_cases q : i < n
  · obtain ⟨t, e, ht⟩ := hs i a h1.1 q h2
    refine ⟨t, e, ?_⟩
    subst ht
    have es := sm_s (f := f) h1.1
    exact ⟨⟨(by first | omega | (dsimp only; omega) | (dsimp only)), by dsimp only; rw [es, h2, Int.add_assoc]⟩, (by first | omega | (dsimp only; omega) | (dsimp only))⟩
  · have hi : i = n := by omega
    subst hi
    obtain ⟨t, e, ht⟩ := he a h2
    refine ⟨t, e, ?_⟩
    subst ht; exact h2
noncomputable def pF (g s1 s2 : Int → Int) (d p : Int) : Int := sel (ftp g s1 (-1) p) (ct (fun q => ftp g s2 (-1) q ∧ zF g p q ≤ d) 144) 0
noncomputable def zzPairs (b : Int → Int) (n k j d : Int) : Int := sel ((0 ≤ d ∧ d ≤ 999) ∧ (isL b n ∧ isS b k) ∧ isS b j) (sm (pF (lg b n) (ls b k) (ls b j) d) 144) (-1)
theorem pF_b {g s1 s2 : Int → Int} {d p : Int} : 0 ≤ pF g s1 s2 d p ∧ pF g s1 s2 d p ≤ 144 := by
  unfold pF
  by_cases h : ftp g s1 (-1) p
  · rw [sel_t h]; have := ct_b (fun q => ftp g s2 (-1) q ∧ zF g p q ≤ d) 144; omega
  · rw [sel_f h]; omega
theorem sm_b2 {f : Int → Int} {c : Int} (hc : 0 ≤ c) : ∀ n : Nat, (∀ i : Int, 0 ≤ i → i < n → 0 ≤ f i ∧ f i ≤ c) → 0 ≤ sm f n ∧ sm f n ≤ c * n
  | 0, _ => by simp [sm]
  | n + 1, h => by
    have ih := sm_b2 hc n (fun i a b => h i a (by omega))
    have := h n (by omega) (by omega)
    have e : c * ((n + 1 : Nat) : Int) = c * n + c := by rw [Int.natCast_add, Int.natCast_one, Int.mul_add, Int.mul_one]
    show 0 ≤ sm f n + f n ∧ sm f n + f n ≤ _; rw [e]; omega
section
variable {μ : Mm} {b : Int → Int}
/-- the others that were found -/
def Fd2 (μ : Mm) (P : Int → Prop) : Prop := μ 20000 20 = ct P 144 ∧ ∀ j, 0 ≤ j → j < ct P 144 → μ 20010 j = (fa P (fun i => i) 144).2 j
theorem r_findsBoth (hM : Md μ) (hDt : Dt μ) (hb : μ 20001 = b) (hA : AOk b) (n k j : Int) : Ev (fX11_findsBoth 20000 n k j μ) (fun r => Fr [20006, 20007, 20008, 20009, 20010] [14, 18, 20] μ r.2 ∧ ((r.1 = 1 ∧ ((isL b n ∧ isS b k) ∧ isS b j) ∧ FdP r.2 (ftp (lg b n) (ls b k) (-1)) ∧ Fd2 r.2 (ftp (lg b n) (ls b j) (-1))) ∨ (r.1 = 0 ∧ ¬((isL b n ∧ isS b k) ∧ isS b j)))) := by
  suffices hh : Ev (fX11_findsBoth 20000 n k j μ) (fun r => (r.1 = 1 ∧ ((isL b n ∧ isS b k) ∧ isS b j) ∧ FdP r.2 (ftp (lg b n) (ls b k) (-1)) ∧ Fd2 r.2 (ftp (lg b n) (ls b j) (-1))) ∨ (r.1 = 0 ∧ ¬((isL b n ∧ isS b k) ∧ isS b j))) by
    obtain ⟨r, e, h1⟩ := hh
    exact ⟨r, e, frfX11_findsBoth e hM, h1⟩
  unfold fX11_findsBoth
  simp (disch := omega) only [w32_eq, w64_eq, chk_T, chk_t, lt, lm, ob, Int.add_zero, Int.zero_add, true_and, and_true, if_true, if_false, K20000, K20001, K20002, K20003, K20004, K20005, K20006, K20007, K20008, K20009, K20010, K20011, K20012, K20013, K20014, K20015, K20016, K20017, K20018, K20019, N20001, N20002, N20003, N20004, N20005, N20006, N20007, N20008, N20009, N20010, N20011, N20012, N20013, N20014, N20015, N20016, N20017, N20018, N20019, r_areBoth hM hb hA, r_isS hM hb hA, bi_if]
  by_cases h : isL b n ∧ isS b k
  · rw [sel_t h]
    by_cases hj : isS b j
    · obtain ⟨nn, kk, hD, hO, hG, hS⟩ := r_two hb hA h
      obtain ⟨_, jj, _, hO2, _, hS2⟩ := r_two hb hA ⟨h.1, hj⟩
      rw [sel_t hj, r_placeOf nn]
      simp only [ob]
      refine Ev_bind (r_survey hM hG hDt hD) (fun μ1 ⟨f1, H1⟩ => ?_)
      have M1 := f1.md hM (by decide)
      rw [r_placeOf1 jj]
      simp only [ob]
      refine Ev_bind (r_finds M1 (hG.fr f1 (by decide)) (hS2.fr f1 (by decide)) hO2 hD H1) (fun μ2 ⟨f2, h2⟩ => ?_)
      have M2 := f2.md M1 (by decide)
      have cb1 := ct_b (ftp (lg b n) (ls b j) (-1)) 144
      have f3 : Fr [20010] [20] μ2 (mst μ2 20000 20 (μ2 20000 18)) := Fr.fld rfl (by decide)
      have M3 := f3.md M2 (by decide)
      refine Ev_bind (Ev_lopF (pj := pjX11_findsBoth_56) (P := fun μ' => Fr [20010] [20] μ2 μ' ∧ Fd2 μ' (ftp (lg b n) (ls b j) (-1))) (fun s t h hM => frsX11_findsBoth_56 h hM) (by decide) M3 (fun t => (0 ≤ t.1 ∧ t.1 ≤ ct (ftp (lg b n) (ls b j) (-1)) 144) ∧ ∀ q, 0 ≤ q → q < t.1 → t.2 20010 q = (fa (ftp (lg b n) (ls b j) (-1)) (fun i => i) 144).2 q) (fun t => (ct (ftp (lg b n) (ls b j) (-1)) 144 - t.1).toNat) ⟨(by first | omega | (dsimp only; omega) | (dsimp only)), fun q a c => by dsimp only at c; omega⟩ (by unfold FU; dsimp only; omega) ?_) (fun μ4 ⟨f4, h4⟩ => ?_)
      · rintro ⟨v5, μ3⟩ M4 F4 ⟨k1, k2⟩
        replace M4 : Md μ3 := M4
        replace F4 : Fr [20010] [] (mst μ2 20000 20 (μ2 20000 18)) μ3 := F4
        have F24 : Fr [20010] [20] μ2 μ3 := f3.tr (F4.mo (by decide) (by decide))
        have e18 : μ3 20000 18 = ct (ftp (lg b n) (ls b j) (-1)) 144 := (F24.2 18 (by decide)).trans h2.1
        have e20 : μ3 20000 20 = ct (ftp (lg b n) (ls b j) (-1)) 144 := by
          rw [F4.2 20 (by decide), mst_s]; exact h2.1
        dsimp only at k1 k2 ⊢
        unfold sX11_findsBoth_56
        dsimp only
        simp (disch := omega) only [w32_eq, w64_eq, chk_T, chk_t, lt, lm, ob, Int.add_zero, Int.zero_add, true_and, and_true, if_true, if_false, K20000, K20001, K20002, K20003, K20004, K20005, K20006, K20007, K20008, K20009, K20010, K20011, K20012, K20013, K20014, K20015, K20016, K20017, K20018, K20019, N20001, N20002, N20003, N20004, N20005, N20006, N20007, N20008, N20009, N20010, N20011, N20012, N20013, N20014, N20015, N20016, N20017, N20018, N20019, e18]
        refine Ev_ite (fun w => Ev_out (fun f => ⟨f3.tr (Fr.mo f (by decide) (by decide)), e20, fun q a c => k2 q a (by omega)⟩)) (fun w => ?_)
        simp (disch := omega) only [w32_eq, w64_eq, chk_T, chk_t, lt, lm, ob, Int.add_zero, Int.zero_add, true_and, and_true, if_true, if_false, K20000, K20001, K20002, K20003, K20004, K20005, K20006, K20007, K20008, K20009, K20010, K20011, K20012, K20013, K20014, K20015, K20016, K20017, K20018, K20019, N20001, N20002, N20003, N20004, N20005, N20006, N20007, N20008, N20009, N20010, N20011, N20012, N20013, N20014, N20015, N20016, N20017, N20018, N20019, Md_19 M4, Md_21 M4]
        refine Ev_in ⟨(by first | omega | (dsimp only; omega) | (dsimp only)), fun q a c => ?_⟩ (by first | omega | (dsimp only; omega) | (dsimp only))
        dsimp only at c ⊢
        by_cases e : q = v5
        · subst e; rw [mst_s, F24.1 20009 (by decide) (by decide)]; exact h2.2 q a (by omega)
        · rw [mst_j e]; exact k2 q a (by omega)
      · have M4 := f4.md M2 (by decide)
        have F04 : Fr [20006, 20007, 20008, 20009, 20010] [14, 18, 20] μ μ4 := ((f1.mo (by decide) (by decide)).tr (f2.mo (by decide) (by decide))).tr (f4.mo (by decide) (by decide))
        rw [r_placeOf1 kk]
        simp only [ob]
        refine Ev_bind (r_finds M4 (hG.fr F04 (by decide)) (hS.fr F04 (by decide)) hO hD (fun p hp => ((H1 p hp).fr f2 (by decide) (by decide)).fr f4 (by decide) (by decide))) (fun μ5 ⟨f5, h5⟩ => ?_)
        refine Ev_some (.inl ⟨rfl, ⟨h, hj⟩, h5, ?_⟩)
        unfold Fd2; dsimp only
        rw [f5.2 20 (by decide), f5.1 20010 (by decide) (by decide)]; exact h4
    · rw [sel_f hj]; exact Ev_some (.inr ⟨rfl, fun w => hj w.2⟩)
  · rw [sel_f h]; exact Ev_some (.inr ⟨rfl, fun w => h w.1⟩)
theorem rr_pairs (hM : Md μ) (hDt : Dt μ) (hb : μ 20001 = b) (hA : AOk b) (n k j d : Int) : Ev (fX11_pairs 20000 n k j d μ) (fun r => r.1 = zzPairs b n k j d) := by
  unfold fX11_pairs zzPairs
  simp (disch := omega) only [w32_eq, w64_eq, chk_T, chk_t, lt, lm, ob, Int.add_zero, Int.zero_add, true_and, and_true, if_true, if_false, K20000, K20001, K20002, K20003, K20004, K20005, K20006, K20007, K20008, K20009, K20010, K20011, K20012, K20013, K20014, K20015, K20016, K20017, K20018, K20019, N20001, N20002, N20003, N20004, N20005, N20006, N20007, N20008, N20009, N20010, N20011, N20012, N20013, N20014, N20015, N20016, N20017, N20018, N20019, ]
  by_cases hd : 0 ≤ d ∧ d ≤ 999
  · rw [isIn_t hd.1 hd.2, if_neg (by decide)]
    refine Ev_bind (r_findsBoth hM hDt hb hA n k j) ?_
    rintro ⟨r, μ1⟩ ⟨f1, h1⟩
    dsimp only at f1 h1 ⊢
    rcases h1 with ⟨e, w, P1, P2⟩ | ⟨e, w⟩
    · subst e
      obtain ⟨nn, kk, hD, hO, hG, hS⟩ := r_two hb hA w.1
      have M1 := f1.md hM (by decide)
      have G1 := hG.fr f1 (by decide)
      rw [if_neg (by decide), sel_t ⟨hd, w⟩]
      have c1 := ct_b (ftp (lg b n) (ls b k) (-1)) 144; have c2 := ct_b (ftp (lg b n) (ls b j) (-1)) 144
      have inner : ∀ p, Pl (lg b n) p → sm (fun q => bi (zF (lg b n) p ((fa (ftp (lg b n) (ls b j) (-1)) (fun i => i) 144).2 q) ≤ d)) (ct (ftp (lg b n) (ls b j) (-1)) 144).toNat = ct (fun q => ftp (lg b n) (ls b j) (-1) q ∧ zF (lg b n) p q ≤ d) 144 := fun p _ => by
        have := fa_sum (P := ftp (lg b n) (ls b j) (-1)) (fun q => bi (zF (lg b n) p q ≤ d)) 144
        rw [this]; exact ct_sm 144
      have outer := fa_sum (P := ftp (lg b n) (ls b k) (-1)) (fun p => ct (fun q => ftp (lg b n) (ls b j) (-1) q ∧ zF (lg b n) p q ≤ d) 144) 144
      have cb3 := fun p => ct_b (fun q => ftp (lg b n) (ls b j) (-1) q ∧ zF (lg b n) p q ≤ d) 144
      refine Ev_bind (Ev_sum (a0 := 0) (f := fun i => ct (fun q => ftp (lg b n) (ls b j) (-1) q ∧ zF (lg b n) ((fa (ftp (lg b n) (ls b k) (-1)) (fun i => i) 144).2 i) q ≤ d) 144) (n := ct (ftp (lg b n) (ls b k) (-1)) 144) (by omega) (by omega) (fun i a i0 i1 ha => ?_) (fun a ha => ?_)) (fun r hr => ?_)
      · unfold sX11_pairs_30
        dsimp only
        have sb := sm_b2 (c := 144) (f := fun i => ct (fun q => ftp (lg b n) (ls b j) (-1) q ∧ zF (lg b n) ((fa (ftp (lg b n) (ls b k) (-1)) (fun i => i) 144).2 i) q ≤ d) 144) (by decide) i.toNat (fun i _ _ => cb3 _)
        have e18 := P1.1
        simp (disch := omega) only [w32_eq, w64_eq, chk_T, chk_t, lt, lm, ob, Int.add_zero, Int.zero_add, true_and, and_true, if_true, if_false, K20000, K20001, K20002, K20003, K20004, K20005, K20006, K20007, K20008, K20009, K20010, K20011, K20012, K20013, K20014, K20015, K20016, K20017, K20018, K20019, N20001, N20002, N20003, N20004, N20005, N20006, N20007, N20008, N20009, N20010, N20011, N20012, N20013, N20014, N20015, N20016, N20017, N20018, N20019, e18]
        rw [if_neg (by omega)]
        obtain ⟨p, p0, p1, pc, _, pe⟩ := fa_of (ftp (lg b n) (ls b k) (-1)) (fun i => i) 144 i i0 i1
        have e9 := P1.2 i i0 i1
        rw [pe] at e9
        rw [pe]
        have hp := pc.1
        refine Ev_bind (Ev_sum (a0 := a) (f := fun q => bi (zF (lg b n) p ((fa (ftp (lg b n) (ls b j) (-1)) (fun i => i) 144).2 q) ≤ d)) (n := ct (ftp (lg b n) (ls b j) (-1)) 144) (by omega) (by omega) (fun q c q0 q1 hc => ?_) (fun c hc => ?_)) (fun r hr => ?_)
        · unfold sX11_pairs_42
          dsimp only
          obtain ⟨t, t0, t1, tc, _, te⟩ := fa_of (ftp (lg b n) (ls b j) (-1)) (fun i => i) 144 q q0 q1
          have e10 := P2.2 q q0 q1
          rw [te] at e10
          have e20 := P2.1
          have sb2 := sm_b2 (c := 1) (f := fun q => bi (zF (lg b n) p ((fa (ftp (lg b n) (ls b j) (-1)) (fun i => i) 144).2 q) ≤ d)) (by decide) q.toNat (fun i _ _ => by have := bi_b (zF (lg b n) p ((fa (ftp (lg b n) (ls b j) (-1)) (fun i => i) 144).2 i) ≤ d); omega)
          simp (disch := omega) only [w32_eq, w64_eq, chk_T, chk_t, lt, lm, ob, Int.add_zero, Int.zero_add, true_and, and_true, if_true, if_false, K20000, K20001, K20002, K20003, K20004, K20005, K20006, K20007, K20008, K20009, K20010, K20011, K20012, K20013, K20014, K20015, K20016, K20017, K20018, K20019, N20001, N20002, N20003, N20004, N20005, N20006, N20007, N20008, N20009, N20010, N20011, N20012, N20013, N20014, N20015, N20016, N20017, N20018, N20019, e20, r_placeOf nn, Md_19 M1, Md_21 M1, e9, e10, r_farOf M1 G1 hD hp tc.1]
          rw [if_neg (by omega), te]
          refine Ev_ite (fun w => ?_) (fun w => ?_)
          · rw [bi_f (by omega), Int.add_zero]; exact Ev_some rfl
          · rw [bi_t (by omega)]; exact Ev_some rfl
        · unfold sX11_pairs_42
          dsimp only
          have e20 := P2.1
          simp (disch := omega) only [w32_eq, w64_eq, chk_T, chk_t, lt, lm, ob, Int.add_zero, Int.zero_add, true_and, and_true, if_true, if_false, K20000, K20001, K20002, K20003, K20004, K20005, K20006, K20007, K20008, K20009, K20010, K20011, K20012, K20013, K20014, K20015, K20016, K20017, K20018, K20019, N20001, N20002, N20003, N20004, N20005, N20006, N20007, N20008, N20009, N20010, N20011, N20012, N20013, N20014, N20015, N20016, N20017, N20018, N20019, e20]
          rw [if_pos (Int.le_refl _)]; exact Ev_some rfl
        · rw [hr, inner p hp]; exact Ev_some rfl
      · unfold sX11_pairs_30
        dsimp only
        have e18 := P1.1
        simp (disch := omega) only [w32_eq, w64_eq, chk_T, chk_t, lt, lm, ob, Int.add_zero, Int.zero_add, true_and, and_true, if_true, if_false, K20000, K20001, K20002, K20003, K20004, K20005, K20006, K20007, K20008, K20009, K20010, K20011, K20012, K20013, K20014, K20015, K20016, K20017, K20018, K20019, N20001, N20002, N20003, N20004, N20005, N20006, N20007, N20008, N20009, N20010, N20011, N20012, N20013, N20014, N20015, N20016, N20017, N20018, N20019, e18]
        rw [if_pos (Int.le_refl _)]; exact Ev_some rfl
      · refine Ev_some ?_
        dsimp only
        rw [hr, Int.zero_add, outer]; rfl
    · subst e
      rw [if_pos rfl, sel_f (fun v => w v.2)]; exact Ev_some rfl
  · rw [isIn_f hd, if_pos rfl, sel_f (fun v => hd v.1)]; exact Ev_some rfl
theorem q_pairs {vb : Int} (hW : Nw μ b) (hC : Ca μ b vb) (hvb : 0 ≤ vb) (n k j d : Int) : Ec (fX10_pairs 100 n k j d μ) (Bd μ) (QP μ b vb (fun r => r = zzPairs b n k j d)) := by
  have n0 := hW.n0
  unfold fX10_pairs zzPairs
  simp (disch := omega) only [w32_eq, w64_eq, chk_T, chk_t, lt, lm, ob, Int.add_zero, Int.zero_add, true_and, and_true, if_true, if_false, K100, K101, K102, K103, K104, K200, K201, K230, K231, K232, K233, K234, K235, K236, K237, K250, K251, K252, K253, K254, K300, K301, K302, K303, K304, N101, N102, N103, N104, N201, N232, N233, N234, N235, N236, N237, N251, N252, N253, N254, N301, N302, N303, N304, c_landAt hW]
  by_cases hL : isL b n
  · have hn1 := hL.1; have hn2 := hL.2
    rw [sel_t hL, if_neg (by omega)]
    by_cases hd : 0 ≤ d ∧ d ≤ 999
    · rw [if_neg (by omega), if_pos (by omega)]
      simp (disch := omega) only [w32_eq, w64_eq, chk_T, chk_t, lt, lm, ob, Int.add_zero, Int.zero_add, true_and, and_true, if_true, if_false, K100, K101, K102, K103, K104, K200, K201, K230, K231, K232, K233, K234, K235, K236, K237, K250, K251, K252, K253, K254, K300, K301, K302, K303, K304, N101, N102, N103, N104, N201, N232, N233, N234, N235, N236, N237, N251, N252, N253, N254, N301, N302, N303, N304, X10F.f0 hW.1, X10F.f1 hW.1, X10F.f2 hW.1, X10F.f3 hW.1, X10F.f4 hW.1, X10F.f5 hW.1, X10F.f6 hW.1, X10F.f7 hW.1, X10F.f8 hW.1, X10F.f9 hW.1, X10F.f10 hW.1]
      refine Ec_bind (c_marks (.inl rfl) hW hC hvb n k (-1)) ?_
      rintro ⟨r, μ1⟩ b1 ⟨hb, fq, C1, _, h⟩ cc nn
      refine ⟨_, rfl, ?_⟩
      dsimp only at hb fq C1 h ⊢
      have N1 := hW.q fq
      rcases h with ⟨e, w, hP⟩ | ⟨e, w⟩
      · subst e
        rw [if_neg (by decide), N1.1.f10, hb]
        refine Ec_bind (c_marks (.inr rfl) N1 C1 hvb n j (-1)) ?_
        rintro ⟨r, μ2⟩ b2 ⟨hb2, fq2, C2, o2, h2⟩ cc nn
        refine ⟨_, rfl, ?_⟩
        dsimp only at hb2 fq2 C2 o2 h2 ⊢
        have N2 := N1.q fq2
        have fq12 := fq.tr fq2
        have r103 : μ2 103 = μ1 103 := o2
        rcases h2 with ⟨e2, w2, hP2⟩ | ⟨e2, w2⟩
        · subst e2
          have hD := N2.ld hn1 hn2; have hA := N2.la hn1 hn2
          have nb := np_b hD
          have P1 : ∀ q, 0 ≤ q → q < 144 → μ2 103 q = bi (ftp (lg b n) (ls b k) (-1) q) := by rw [r103]; exact hP
          rw [if_neg (by decide), sel_t ⟨hd, w.1, w2.1.2⟩]
          have flat : ∀ p, ct (fun q => ftp (lg b n) (ls b j) (-1) q ∧ zF (lg b n) p q ≤ d) 144 = ct (fun q => ftp (lg b n) (ls b j) (-1) q ∧ zF (lg b n) p q ≤ d) (np (lg b n)).toNat := fun p => (ct_flat (c := fun q => ftp (lg b n) (ls b j) (-1) q ∧ zF (lg b n) p q ≤ d) (v := fun k => k) (a := (np (lg b n)).toNat) 144 (by omega) (fun i i0 i1 w => by have := w.1.1.2; omega)).1
          have flatS : sm (pF (lg b n) (ls b k) (ls b j) d) 144 = sm (pF (lg b n) (ls b k) (ls b j) d) (np (lg b n)).toNat := by
            have key : ∀ m : Nat, (np (lg b n)).toNat ≤ m → sm (pF (lg b n) (ls b k) (ls b j) d) m = sm (pF (lg b n) (ls b k) (ls b j) d) (np (lg b n)).toNat := by
              intro m
              induction m with
              | zero => intro h; omega
              | succ m ih =>
                intro h
                by_cases e : (np (lg b n)).toNat = m + 1
                · rw [e]
                · show sm (pF (lg b n) (ls b k) (ls b j) d) m + pF (lg b n) (ls b k) (ls b j) d m = _
                  rw [ih (by omega)]
                  have : pF (lg b n) (ls b k) (ls b j) d m = 0 := by unfold pF; rw [sel_f (fun w => by have := w.1.2; omega)]
                  rw [this, Int.add_zero]
            exact key 144 (by omega)
          refine Ec_bindE (Ev_sum (a0 := 0) (f := pF (lg b n) (ls b k) (ls b j) d) (n := np (lg b n)) (by omega) (by omega) (fun p a p0 p1 ha => ?_) (fun a ha => ?_)) (fun r hr => Ec_some ⟨hb2, fq12, C2, ?_⟩)
          · have sb := sm_b2 (c := 144) (f := pF (lg b n) (ls b k) (ls b j) d) (by decide) p.toNat (fun i _ _ => pF_b)
            have hp : Pl (lg b n) p := ⟨p0, p1⟩
            unfold sX10_pairs_63
            dsimp only
            simp (disch := omega) only [w32_eq, w64_eq, chk_T, chk_t, lt, lm, ob, Int.add_zero, Int.zero_add, true_and, and_true, if_true, if_false, La_k hA, La_k1 hA, La_n1 hA, La_k2 hA, La_n2 hA, La_k3 hA, La_n3 hA, La_k4 hA, La_n4 hA, La_k5 hA, La_n5 hA, La_f6 hA, La_f7 hA, La_f8 hA, La_f9 hA, La_f10 hA, La_0 hA, La_1 hA, La_2 hA, La_3 hA, La_4 hA, La_5 hA, La_h hA, La_a hA, La_t hA, La_fr hA, La_to hA, c_places hA hD]
            rw [if_neg (by omega)]
            unfold pF
            by_cases f1 : ftp (lg b n) (ls b k) (-1) p
            · rw [sel_t f1, flat p, ← ct_sm]
              refine Ev_bind (Ev_sum (a0 := a) (f := fun q => sel (ftp (lg b n) (ls b j) (-1) q) (bi (zF (lg b n) p q ≤ d)) 0) (n := np (lg b n)) (by omega) (by omega) (fun q c q0 q1 hc => ?_) (fun c hc => ?_)) (fun r hr => ?_)
              · have hq : Pl (lg b n) q := ⟨q0, q1⟩
                have sb2 := sm_b2 (c := 1) (f := fun q => sel (ftp (lg b n) (ls b j) (-1) q) (bi (zF (lg b n) p q ≤ d)) 0) (by decide) q.toNat (fun i _ _ => by
                  by_cases h : ftp (lg b n) (ls b j) (-1) i
                  · rw [sel_t h]; have := bi_b (zF (lg b n) p i ≤ d); omega
                  · rw [sel_f h]; omega)
                unfold sX10_pairs_76
                dsimp only
                simp (disch := omega) only [w32_eq, w64_eq, chk_T, chk_t, lt, lm, ob, Int.add_zero, Int.zero_add, true_and, and_true, if_true, if_false, K100, K101, K102, K103, K104, K200, K201, K230, K231, K232, K233, K234, K235, K236, K237, K250, K251, K252, K253, K254, K300, K301, K302, K303, K304, N101, N102, N103, N104, N201, N232, N233, N234, N235, N236, N237, N251, N252, N253, N254, N301, N302, N303, N304, La_k hA, La_k1 hA, La_n1 hA, La_k2 hA, La_n2 hA, La_k3 hA, La_n3 hA, La_k4 hA, La_n4 hA, La_k5 hA, La_n5 hA, La_f6 hA, La_f7 hA, La_f8 hA, La_f9 hA, La_f10 hA, La_0 hA, La_1 hA, La_2 hA, La_3 hA, La_4 hA, La_5 hA, La_h hA, La_a hA, La_t hA, La_fr hA, La_to hA, c_places hA hD, X10F.f0 N2.1, X10F.f1 N2.1, X10F.f2 N2.1, X10F.f3 N2.1, X10F.f4 N2.1, X10F.f5 N2.1, X10F.f6 N2.1, X10F.f7 N2.1, X10F.f8 N2.1, X10F.f9 N2.1, X10F.f10 N2.1, P1 p p0 (by omega), hP2 q q0 (by omega), bi_if, c_apart hA hD hp hq]
                rw [if_neg (by omega), sel_t f1]
                by_cases f2 : ftp (lg b n) (ls b j) (-1) q
                · rw [sel_t f2, sel_t f2]
                  refine Ev_ite (fun w => ?_) (fun w => ?_)
                  · rw [bi_f (by omega), Int.add_zero]; exact Ev_some rfl
                  · rw [bi_t (by omega)]; exact Ev_some rfl
                · rw [sel_f f2, sel_f f2, Int.add_zero]; exact Ev_some rfl
              · unfold sX10_pairs_76
                dsimp only
                simp (disch := omega) only [w32_eq, w64_eq, chk_T, chk_t, lt, lm, ob, Int.add_zero, Int.zero_add, true_and, and_true, if_true, if_false, La_k hA, La_k1 hA, La_n1 hA, La_k2 hA, La_n2 hA, La_k3 hA, La_n3 hA, La_k4 hA, La_n4 hA, La_k5 hA, La_n5 hA, La_f6 hA, La_f7 hA, La_f8 hA, La_f9 hA, La_f10 hA, La_0 hA, La_1 hA, La_2 hA, La_3 hA, La_4 hA, La_5 hA, La_h hA, La_a hA, La_t hA, La_fr hA, La_to hA, c_places hA hD]
                rw [if_pos (Int.le_refl _)]; exact Ev_some rfl
              · rw [hr]; exact Ev_some rfl
            · rw [sel_f f1, Int.add_zero]
              refine Ev_bind (Ev_lop (P := fun r => r = a) (fun t => t = (a, 0)) (fun _ => 0) rfl (by unfold FU; omega) ?_) (fun r hr => by rw [hr]; exact Ev_some rfl)
              intro t ht
              subst ht
              unfold sX10_pairs_76
              dsimp only
              simp (disch := omega) only [w32_eq, w64_eq, chk_T, chk_t, lt, lm, ob, Int.add_zero, Int.zero_add, true_and, and_true, if_true, if_false, K100, K101, K102, K103, K104, K200, K201, K230, K231, K232, K233, K234, K235, K236, K237, K250, K251, K252, K253, K254, K300, K301, K302, K303, K304, N101, N102, N103, N104, N201, N232, N233, N234, N235, N236, N237, N251, N252, N253, N254, N301, N302, N303, N304, La_k hA, La_k1 hA, La_n1 hA, La_k2 hA, La_n2 hA, La_k3 hA, La_n3 hA, La_k4 hA, La_n4 hA, La_k5 hA, La_n5 hA, La_f6 hA, La_f7 hA, La_f8 hA, La_f9 hA, La_f10 hA, La_0 hA, La_1 hA, La_2 hA, La_3 hA, La_4 hA, La_5 hA, La_h hA, La_a hA, La_t hA, La_fr hA, La_to hA, c_places hA hD, X10F.f0 N2.1, X10F.f1 N2.1, X10F.f2 N2.1, X10F.f3 N2.1, X10F.f4 N2.1, X10F.f5 N2.1, X10F.f6 N2.1, X10F.f7 N2.1, X10F.f8 N2.1, X10F.f9 N2.1, X10F.f10 N2.1, P1 p p0 (by omega), bi_if]
              rw [if_neg (by omega), sel_f f1]
              exact Ev_out rfl
          · unfold sX10_pairs_63
            dsimp only
            simp (disch := omega) only [w32_eq, w64_eq, chk_T, chk_t, lt, lm, ob, Int.add_zero, Int.zero_add, true_and, and_true, if_true, if_false, La_k hA, La_k1 hA, La_n1 hA, La_k2 hA, La_n2 hA, La_k3 hA, La_n3 hA, La_k4 hA, La_n4 hA, La_k5 hA, La_n5 hA, La_f6 hA, La_f7 hA, La_f8 hA, La_f9 hA, La_f10 hA, La_0 hA, La_1 hA, La_2 hA, La_3 hA, La_4 hA, La_5 hA, La_h hA, La_a hA, La_t hA, La_fr hA, La_to hA, c_places hA hD]
            rw [if_pos (Int.le_refl _)]; exact Ev_some rfl
          · dsimp only; rw [hr, Int.zero_add, flatS]
        · subst e2
          rw [if_pos rfl, sel_f (fun v => w2 ⟨⟨hL, v.2.2⟩, by decide⟩)]
          exact Ec_some ⟨hb2, fq12, C2, rfl⟩
      · subst e
        rw [if_pos rfl, sel_f (fun v => w ⟨v.2.1, by decide⟩)]
        exact Ec_some ⟨hb, fq, C1, rfl⟩
    · rw [sel_f (fun v => hd v.1)]
      refine Ec_ite (fun _ => Ec_some ⟨rfl, Fw.rf, hC, rfl⟩) (fun _ => ?_)
      rw [if_neg (by omega)]; exact Ec_some ⟨rfl, Fw.rf, hC, rfl⟩
  · rw [sel_f hL, if_pos rfl, sel_f (fun v => hL v.2.1.1)]
    exact Ec_some ⟨rfl, Fw.rf, hC, rfl⟩
end
