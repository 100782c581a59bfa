/-! ===== the reference draws; rivals, known ===== -/
theorem sm_bi {P : Int → Prop} : ∀ n : Nat, sm (fun k => bi (P k)) n = ct P n
  | 0 => rfl
  | n + 1 => by
    show sm (fun k => bi (P k)) n + bi (P (n : Int)) = ct P n + bi (P (n : Int))
    rw [sm_bi n]
section
variable {μ : Mm} {p st n l z : Int} {g : Int → Int}
theorem G_keep {μ' : Mm} (hG : G μ l g) (h : ∀ x, x < 1110 → μ' 20001 x = μ 20001 x) : G μ' l g := by
  have hl := hG.1
  exact ⟨hG.1, fun i i0 i1 => by rw [h _ (by omega)]; exact hG.2 i i0 i1⟩
theorem r_draws (hM : Md μ) (hG : G μ l g) (hL : LdOk g) (hp : Pl g p) (hH : Hp μ g p) (hs : 0 ≤ st ∧ st < hN g p) (hn : 1 ≤ n ∧ n ≤ 12 ∧ n ≤ hN g p) (hz : 1110 ≤ z ∧ z ≤ 4960) : Ev (fX11_draws 20000 l p st n z μ) (fun μ' => Fr [20001] [] μ μ' ∧ Gs μ' z (dw g p st n) ∧ ∀ x, x < z ∨ z + 32 ≤ x → μ' 20001 x = μ 20001 x) := by
  have bp := Pl.i hL hp; have hb := hN_b hL hp
  suffices hh : Ev (fX11_draws 20000 l p st n z μ) (fun μ' => Gs μ' z (dw g p st n) ∧ ∀ x, x < z ∨ z + 32 ≤ x → μ' 20001 x = μ 20001 x) by
    obtain ⟨r, e, h1⟩ := hh
    exact ⟨r, e, frfX11_draws e hM, h1⟩
  unfold fX11_draws
  refine Ev_bind (Ev_lopF (pj := pjX11_draws_3) (P := fun μ' => Fr [20001] [] μ μ' ∧ (∀ i, 0 ≤ i → i < 32 → μ' 20001 (z + i) = 0) ∧ ∀ x, x < z ∨ z + 32 ≤ x → μ' 20001 x = μ 20001 x) (fun s t h hM => frsX11_draws_3 h hM) (by decide) hM (fun t => (0 ≤ t.1 ∧ t.1 ≤ 32) ∧ (∀ i, 0 ≤ i → i < t.1 → t.2 20001 (z + i) = 0) ∧ ∀ x, x < z ∨ z + 32 ≤ x → t.2 20001 x = μ 20001 x) (fun t => (32 - t.1).toNat) ⟨(by first | omega | (dsimp only; omega) | (dsimp only)), fun i a c => by dsimp only at c; omega, fun _ _ => rfl⟩ (by unfold FU; dsimp only; omega) ?_) ?_
  · rintro ⟨v6, μ1⟩ M1 F1 ⟨k1, k2, k3⟩
    replace M1 : Md μ1 := M1
    dsimp only at k1 k2 k3 ⊢
    unfold sX11_draws_3
    dsimp only
    refine Ev_ite (fun w => Ev_out (fun f => ⟨f, fun i a c => k2 i a (by omega), k3⟩)) (fun w => ?_)
    simp (disch := omega) only [w32_eq, w64_eq, chk_T, chk_t, lt, lm, ob, Int.add_zero, Int.zero_add, true_and, and_true, if_true, if_false, K20000, K20001, K20002, K20003, K20004, K20005, K20006, K20007, K20008, K20009, K20010, K20011, K20012, K20013, K20014, K20015, K20016, K20017, K20018, K20019, N20001, N20002, N20003, N20004, N20005, N20006, N20007, N20008, N20009, N20010, N20011, N20012, N20013, N20014, N20015, N20016, N20017, N20018, N20019, Md_0 M1]
    refine Ev_in ⟨(by first | omega | (dsimp only; omega) | (dsimp only)), fun i a c => ?_, fun x hx => ?_⟩ (by first | omega | (dsimp only; omega) | (dsimp only))
    · dsimp only at c ⊢
      by_cases e : i = v6
      · subst e; exact mst_s
      · rw [mst_j (by omega)]; exact k2 i a (by omega)
    · dsimp only; rw [mst_j (by omega)]; exact k3 x hx
  · rintro μ1 ⟨f1, k2, k3⟩
    have M1 := f1.md hM (by decide)
    have H1 := hH.fr f1 (by decide) (by decide)
    have e16 : mst μ1 20001 z n 20000 16 = 20007 := by rw [mst_n (by decide)]; exact Md_16 M1
    have e0 : mst μ1 20001 z n 20000 0 = 20001 := by rw [mst_n (by decide)]; exact Md_0 M1
    have eh : mst μ1 20001 z n 20007 p = hN g p := by rw [mst_n (by decide)]; exact H1.1
    simp (disch := omega) only [w32_eq, w64_eq, chk_T, chk_t, lt, lm, ob, Int.add_zero, Int.zero_add, true_and, and_true, if_true, if_false, K20000, K20001, K20002, K20003, K20004, K20005, K20006, K20007, K20008, K20009, K20010, K20011, K20012, K20013, K20014, K20015, K20016, K20017, K20018, K20019, N20001, N20002, N20003, N20004, N20005, N20006, N20007, N20008, N20009, N20010, N20011, N20012, N20013, N20014, N20015, N20016, N20017, N20018, N20019, Md_0 M1, e16, e0, eh]
    have main : ∀ h : Int, h = (if n < hN g p then 1 else 0) → Ev (jX11_draws_60 20000 l p st n z h (z + 3) 20001 (mst μ1 20001 z n)) (fun μ' => Gs μ' z (dw g p st n) ∧ ∀ x, x < z ∨ z + 32 ≤ x → μ' 20001 x = μ 20001 x) := by
      intro h hh
      unfold jX11_draws_60
      have e0' : mst (mst μ1 20001 z n) 20001 (z + 3) h 20000 0 = 20001 := by simp (disch := omega) only [mst_n, mst_s, mst_j, ]; exact Md_0 M1
      simp (disch := omega) only [w32_eq, w64_eq, chk_T, chk_t, lt, lm, ob, Int.add_zero, Int.zero_add, true_and, and_true, if_true, if_false, K20000, K20001, K20002, K20003, K20004, K20005, K20006, K20007, K20008, K20009, K20010, K20011, K20012, K20013, K20014, K20015, K20016, K20017, K20018, K20019, N20001, N20002, N20003, N20004, N20005, N20006, N20007, N20008, N20009, N20010, N20011, N20012, N20013, N20014, N20015, N20016, N20017, N20018, N20019, e0']
      have f2 : Fr [20001] [] μ1 (mst (mst (mst μ1 20001 z n) 20001 (z + 3) h) 20001 (z + 6) 99) := ((Fr.row rfl rfl (by decide) (by decide)).tr (Fr.row rfl rfl (by decide) (by decide))).tr (Fr.row rfl rfl (by decide) (by decide))
      have M2 := f2.md M1 (by decide)
      have w : ∀ i, 0 ≤ i → i < 32 → mst (mst (mst μ1 20001 z n) 20001 (z + 3) h) 20001 (z + 6) 99 20001 (z + i) = if i = 0 then n else if i = 3 then h else if i = 6 then 99 else 0 := by
        intro i a c
        by_cases x6 : i = 6
        · subst x6; simp (disch := omega) only [mst_n, mst_s, mst_j, ]; simp
        · rw [mst_j (by omega)]
          by_cases x3 : i = 3
          · subst x3; simp (disch := omega) only [mst_n, mst_s, mst_j, ]; simp
          · rw [mst_j (by omega)]
            by_cases x0 : i = 0
            · subst x0; rw [Int.add_zero, mst_s, if_pos rfl]
            · rw [mst_j (by omega), if_neg x0, if_neg x3, if_neg x6]; exact k2 i a c
      have wo : ∀ x, x < z ∨ z + 32 ≤ x → mst (mst (mst μ1 20001 z n) 20001 (z + 3) h) 20001 (z + 6) 99 20001 x = μ 20001 x := by
        intro x hx; rw [mst_j (by omega), mst_j (by omega), mst_j (by omega)]; exact k3 x hx
      have H2 := H1.fr f2 (by decide) (by decide)
      generalize mst (mst (mst μ1 20001 z n) 20001 (z + 3) h) 20001 (z + 6) 99 = μ2 at *
      refine Ev_bind (Ev_lopF (pj := pjX11_draws_76) (P := fun μ' => Gs μ' z (dw g p st n) ∧ ∀ x, x < z ∨ z + 32 ≤ x → μ' 20001 x = μ 20001 x) (fun s t h hM => frsX11_draws_76 h hM) (by decide) M2 (fun t => (0 ≤ t.1 ∧ t.1 ≤ n) ∧ (∀ i, 0 ≤ i → i < 32 → t.2 20001 (z + i) = if 7 ≤ i ∧ i < 7 + t.1 then dwT g p st n (i - 7) else if i = 0 then n else if i = 3 then h else if i = 6 then 99 else 0) ∧ ∀ x, x < z ∨ z + 32 ≤ x → t.2 20001 x = μ 20001 x) (fun t => (n - t.1).toNat) ⟨(by first | omega | (dsimp only; omega) | (dsimp only)), fun i a c => by dsimp only; rw [if_neg (by omega)]; exact w i a c, wo⟩ (by unfold FU; dsimp only; omega) ?_) (fun r h => Ev_some h)
      rintro ⟨v6, μ3⟩ M3 F3 ⟨q1, q2, q3⟩
      replace M3 : Md μ3 := M3
      replace F3 : Fr [20001] [] μ2 μ3 := F3
      have H3 := H2.fr F3 (by decide) (by decide)
      have G3 : G μ3 l g := G_keep hG (fun x hx => q3 x (by omega))
      have S3 : Gs μ3 z (fun i => μ3 20001 (z + i)) := ⟨by omega, fun i _ _ => rfl⟩
      dsimp only at q1 q2 q3 ⊢
      have e4 : μ3 20001 (z + 4) = 0 := by rw [q2 4 (by decide) (by decide), if_neg (by omega)]; rfl
      unfold sX11_draws_76
      dsimp only
      refine Ev_ite (fun v => Ev_out (fun _ => ⟨⟨by omega, fun i a c => ?_⟩, q3⟩)) (fun v => ?_)
      · rw [q2 i a c]
        have en : v6 = n := by omega
        rw [en]; unfold dw
        by_cases x7 : 7 ≤ i ∧ i < 7 + n
        · rw [if_pos x7, if_neg (by omega), if_neg (by omega), if_neg (by omega), if_pos x7]
        · rw [if_neg x7, if_neg x7]
          by_cases x0 : i = 0
          · rw [if_pos x0, if_pos x0]
          · rw [if_neg x0, if_neg x0]
            by_cases x3 : i = 3
            · rw [if_pos x3, if_pos x3]; exact hh
            · rw [if_neg x3, if_neg x3]
      · have hxe : ∀ k, hl g (fun i => μ3 20001 (z + i)) p st k = hT g p ((st + k) % hN g p) := by
          intro k; unfold hl hx; rw [if_neg (by dsimp only; rw [e4]; decide)]
        have hill : ∀ k, 0 ≤ k → k < n → k ≤ hN g p → fX11_hillOf 20000 z p st k μ3 = some (hT g p ((st + k) % hN g p)) := by
          intro k a c d; rw [r_hillOf M3 S3 hL hp H3 hs ⟨a, d⟩, hxe]
        have hm : 0 < hN g p := by omega
        have TP : ∀ k, Pl g (hT g p ((st + k) % hN g p)) := fun k => (hT_P hL hp (emod_b hm).1 (emod_b hm).2).1
        refine Ev_bind (Ev_sum (a0 := 1) (f := fun k => bi (zT g p (hT g p ((st + k) % hN g p)) (hT g p ((st + v6) % hN g p)) < 0)) (n := n) (by omega) (by omega) (fun k a k0 k1 ha => ?_) (fun a ha => ?_)) (fun r hr => ?_)
        · have sb := sm_b2 (c := 1) (f := fun k => bi (zT g p (hT g p ((st + k) % hN g p)) (hT g p ((st + v6) % hN g p)) < 0)) (by decide) k.toNat (fun i _ _ => by have := bi_b (zT g p (hT g p ((st + i) % hN g p)) (hT g p ((st + v6) % hN g p)) < 0); omega)
          unfold sX11_draws_89
          dsimp only
          rw [if_neg (by omega)]
          simp (disch := omega) only [w32_eq, w64_eq, chk_T, chk_t, lt, lm, ob, Int.add_zero, Int.zero_add, true_and, and_true, if_true, if_false, K20000, K20001, K20002, K20003, K20004, K20005, K20006, K20007, K20008, K20009, K20010, K20011, K20012, K20013, K20014, K20015, K20016, K20017, K20018, K20019, N20001, N20002, N20003, N20004, N20005, N20006, N20007, N20008, N20009, N20010, N20011, N20012, N20013, N20014, N20015, N20016, N20017, N20018, N20019, hill k k0 k1 (by omega), hill v6 q1.1 (by omega) (by omega), r_steep M3 G3 hL hp (TP k) (TP v6)]
          refine Ev_ite (fun u => ?_) (fun u => ?_)
          · rw [bi_f (by omega), Int.add_zero]; exact Ev_some rfl
          · rw [bi_t (by omega)]; exact Ev_some rfl
        · unfold sX11_draws_89
          dsimp only
          rw [if_pos (Int.le_refl _)]; exact Ev_some rfl
        · have et : r = dwT g p st n v6 := by rw [hr, sm_bi]; rfl
          rw [et]
          simp (disch := omega) only [w32_eq, w64_eq, chk_T, chk_t, lt, lm, ob, Int.add_zero, Int.zero_add, true_and, and_true, if_true, if_false, K20000, K20001, K20002, K20003, K20004, K20005, K20006, K20007, K20008, K20009, K20010, K20011, K20012, K20013, K20014, K20015, K20016, K20017, K20018, K20019, N20001, N20002, N20003, N20004, N20005, N20006, N20007, N20008, N20009, N20010, N20011, N20012, N20013, N20014, N20015, N20016, N20017, N20018, N20019, Md_0 M3]
          refine Ev_in ⟨(by first | omega | (dsimp only; omega) | (dsimp only)), fun i a c => ?_, fun x hx => ?_⟩ (by first | omega | (dsimp only; omega) | (dsimp only))
          · dsimp only
            by_cases e : i = 7 + v6
            · rw [e, show z + (7 + v6) = z + 7 + v6 by omega, mst_s, if_pos (by omega), show 7 + v6 - 7 = v6 by omega]
            · rw [mst_j (by omega), q2 i a c]
              by_cases x7 : 7 ≤ i ∧ i < 7 + v6
              · rw [if_pos x7, if_pos (by omega)]
              · rw [if_neg x7, if_neg (c := 7 ≤ i ∧ i < 7 + (v6 + 1)) (by omega)]
          · dsimp only; rw [mst_j (by omega)]; exact q3 x hx
    refine Ev_ite (fun w => main 0 ?_) (fun w => main 1 ?_)
    · rw [if_neg (by omega)]
    · rw [if_pos (by omega)]
theorem r_rivalsOf (hM : Md μ) (hG : G μ l g) {s : Int → Int} (hS : Gs μ 4960 s) (hO : SkOk s) (hL : LdOk g) (hH : ∀ p, Pl g p → Hp μ g p) : Ev (fX11_rivalsOf 20000 l p μ) (fun r => Fr [20009] [18] μ r.2 ∧ r.1 = ct (fun q => ftp g s (-1) q ∧ q ≠ p) 144) := by
  unfold fX11_rivalsOf
  simp (disch := omega) only [w32_eq, w64_eq, chk_T, chk_t, lt, lm, ob, Int.add_zero, Int.zero_add, true_and, and_true, if_true, if_false, K20000, K20001, K20002, K20003, K20004, K20005, K20006, K20007, K20008, K20009, K20010, K20011, K20012, K20013, K20014, K20015, K20016, K20017, K20018, K20019, N20001, N20002, N20003, N20004, N20005, N20006, N20007, N20008, N20009, N20010, N20011, N20012, N20013, N20014, N20015, N20016, N20017, N20018, N20019, ]
  refine Ev_bind (r_finds (yr := -1) hM hG hS hO hL hH) (fun μ1 ⟨f1, h1⟩ => ?_)
  have M1 := f1.md hM (by decide)
  have c1 := ct_b (ftp g s (-1)) 144
  have tot := fa_sum (P := ftp g s (-1)) (fun q => bi (q ≠ p)) 144
  rw [ct_sm] at tot
  refine Ev_bind (Ev_sum (a0 := 0) (f := fun i => bi ((fa (ftp g s (-1)) (fun i => i) 144).2 i ≠ p)) (n := ct (ftp g s (-1)) 144) (by omega) (by omega) (fun i a i0 i1 ha => ?_) (fun a ha => ?_)) (fun r hr => Ev_some ⟨f1, ?_⟩)
  · have sb := sm_b2 (c := 1) (f := fun i => bi ((fa (ftp g s (-1)) (fun i => i) 144).2 i ≠ p)) (by decide) i.toNat (fun j _ _ => by have := bi_b ((fa (ftp g s (-1)) (fun i => i) 144).2 j ≠ p); omega)
    unfold sX11_rivalsOf_14
    dsimp only
    have e18 := h1.1
    simp (disch := omega) only [w32_eq, w64_eq, chk_T, chk_t, lt, lm, ob, Int.add_zero, Int.zero_add, true_and, and_true, if_true, if_false, K20000, K20001, K20002, K20003, K20004, K20005, K20006, K20007, K20008, K20009, K20010, K20011, K20012, K20013, K20014, K20015, K20016, K20017, K20018, K20019, N20001, N20002, N20003, N20004, N20005, N20006, N20007, N20008, N20009, N20010, N20011, N20012, N20013, N20014, N20015, N20016, N20017, N20018, N20019, e18, Md_19 M1, h1.2 i i0 i1]
    rw [if_neg (by omega)]
    refine Ev_ite (fun w => ?_) (fun w => ?_)
    · rw [bi_f (fun v => v w), Int.add_zero]; exact Ev_some rfl
    · rw [bi_t w]; exact Ev_some rfl
  · unfold sX11_rivalsOf_14
    dsimp only
    have e18 := h1.1
    simp (disch := omega) only [w32_eq, w64_eq, chk_T, chk_t, lt, lm, ob, Int.add_zero, Int.zero_add, true_and, and_true, if_true, if_false, K20000, K20001, K20002, K20003, K20004, K20005, K20006, K20007, K20008, K20009, K20010, K20011, K20012, K20013, K20014, K20015, K20016, K20017, K20018, K20019, N20001, N20002, N20003, N20004, N20005, N20006, N20007, N20008, N20009, N20010, N20011, N20012, N20013, N20014, N20015, N20016, N20017, N20018, N20019, e18]
    rw [if_pos (Int.le_refl _)]; exact Ev_some rfl
  · dsimp only; rw [hr, Int.zero_add]; exact tot
end
/-- how many other places a drawing fits -/
noncomputable def rv (g : Int → Int) (p st n : Int) : Int := ct (fun q => ftp g (dw g p st n) (-1) q ∧ q ≠ p) 144
def cD (b : Int → Int) (n p st m most : Int) : Prop := isP b n p ∧ (0 ≤ st ∧ st < hN (lg b n) p) ∧ 1 ≤ m ∧ m ≤ hN (lg b n) p ∧ m ≤ most
noncomputable def zzRivals (b : Int → Int) (n p st m : Int) : Int := sel (cD b n p st m 12) (rv (lg b n) p st m) (-1)
section
variable {μ : Mm} {b : Int → Int}
theorem r_canDraw (hM : Md μ) (hDt : Dt μ) (hb : μ 20001 = b) (hA : AOk b) (n p st m most : Int) : Ev (fX11_canDraw 20000 n p st m most μ) (fun r => Fr [20006, 20007, 20008] [14] μ r.2 ∧ r.1 = bi (cD b n p st m most) ∧ (isP b n p → Hp r.2 (lg b n) p)) := by
  unfold fX11_canDraw
  refine r_at hM hb hA (fun z => Ev_some ⟨Fr.rf, by dsimp only; rw [bi_f (fun w => z w.1)], fun w => absurd w z⟩) (fun z hD hG nn => ?_)
  refine Ev_bind (r_surveyAt hM hG hDt hD z.2) (fun μ1 ⟨f1, h1, _⟩ => ?_)
  have nb := hN_b hD z.2; have bp := Pl.i hD z.2
  have M1 := f1.md hM (by decide)
  simp (disch := omega) only [w32_eq, w64_eq, chk_T, chk_t, lt, lm, ob, Int.add_zero, Int.zero_add, true_and, and_true, if_true, if_false, K20000, K20001, K20002, K20003, K20004, K20005, K20006, K20007, K20008, K20009, K20010, K20011, K20012, K20013, K20014, K20015, K20016, K20017, K20018, K20019, N20001, N20002, N20003, N20004, N20005, N20006, N20007, N20008, N20009, N20010, N20011, N20012, N20013, N20014, N20015, N20016, N20017, N20018, N20019, Md_16 M1, h1.1, isIn_0]
  by_cases y : 0 ≤ st ∧ st < hN (lg b n) p
  · rw [if_neg (by omega)]
    unfold jX11_canDraw_62
    have fin : ∀ x : Int, (x = most ∧ most ≤ hN (lg b n) p ∨ x = hN (lg b n) p ∧ hN (lg b n) p < most) → Ev (if isIn m 1 x = 0 then some (0, μ1) else some (1, μ1)) (fun r => Fr [20006, 20007, 20008] [14] μ r.2 ∧ r.1 = bi (cD b n p st m most) ∧ (isP b n p → Hp r.2 (lg b n) p)) := by
      intro x hx
      by_cases w : 1 ≤ m ∧ m ≤ x
      · rw [isIn_t w.1 w.2, if_neg (by decide)]
        exact Ev_some ⟨f1, by dsimp only; rw [bi_t (c := cD b n p st m most) ⟨z, y, by omega, by omega, by omega⟩], fun _ => h1⟩
      · rw [isIn_f w, if_pos rfl]
        exact Ev_some ⟨f1, by dsimp only; rw [bi_f (fun v => w ⟨v.2.2.1, by have := v.2.2.2.1; have := v.2.2.2.2; omega⟩)], fun _ => h1⟩
    exact Ev_ite (fun w => fin most (.inl ⟨rfl, w⟩)) (fun w => fin _ (.inr ⟨rfl, by omega⟩))
  · rw [if_pos (by omega)]; exact Ev_some ⟨f1, by dsimp only; rw [bi_f (fun w => y w.2.1)], fun _ => h1⟩
theorem rr_rivals (hM : Md μ) (hDt : Dt μ) (hb : μ 20001 = b) (hA : AOk b) (n p st m : Int) : Ev (fX11_rivals 20000 n p st m μ) (fun r => r.1 = zzRivals b n p st m ∧ ∀ x, x < 4960 → r.2 20001 x = b x) := by
  have a0 := hA.1
  unfold fX11_rivals zzRivals
  simp (disch := omega) only [w32_eq, w64_eq, chk_T, chk_t, lt, lm, ob, Int.add_zero, Int.zero_add, true_and, and_true, if_true, if_false, K20000, K20001, K20002, K20003, K20004, K20005, K20006, K20007, K20008, K20009, K20010, K20011, K20012, K20013, K20014, K20015, K20016, K20017, K20018, K20019, N20001, N20002, N20003, N20004, N20005, N20006, N20007, N20008, N20009, N20010, N20011, N20012, N20013, N20014, N20015, N20016, N20017, N20018, N20019, ]
  refine Ev_bind (r_canDraw hM hDt hb hA n p st m 12) ?_
  rintro ⟨r, μ1⟩ ⟨f1, e1, h1⟩
  dsimp only at f1 e1 h1 ⊢
  subst e1
  rw [bi_if]
  have e1' : μ1 20001 = b := (f1.1 20001 (by decide) (by decide)).trans hb
  by_cases c : cD b n p st m 12
  · have nn : n = 0 ∨ n = 1 := by have := c.1.1.1; have := c.1.1.2; omega
    have hD := hA.2.2.2.2.1 n c.1.1.1 c.1.1.2
    have M1 := f1.md hM (by decide)
    have D1 := hDt.fr f1 (by decide) (by decide) (by decide)
    have hG := G_lg e1' nn
    rw [sel_t c, sel_t c, r_placeOf nn]
    simp only [ob]
    generalize 710 + 200 * n = l at *
    refine Ev_bind (r_survey M1 hG D1 hD) (fun μ2 ⟨f2, H2⟩ => ?_)
    have M2 := f2.md M1 (by decide)
    have G2 := hG.fr f2 (by decide)
    have e2 : μ2 20001 = b := (f2.1 20001 (by decide) (by decide)).trans e1'
    refine Ev_bind (r_draws (z := 4960) M2 G2 hD c.1.2 (H2 p c.1.2) c.2.1 ⟨c.2.2.1, c.2.2.2.2, c.2.2.2.1⟩ (by decide)) (fun μ3 ⟨f3, S3, o3⟩ => ?_)
    have M3 := f3.md M2 (by decide)
    have G3 : G μ3 l (lg b n) := G_keep G2 (fun x hx => o3 x (by omega))
    refine Ev_bind (r_rivalsOf (p := p) M3 G3 S3 (dw_ok ⟨c.2.2.1, c.2.2.2.2⟩) hD (fun q hq => (H2 q hq).fr f3 (by decide) (by decide))) ?_
    rintro ⟨r, μ4⟩ ⟨f4, e4⟩
    refine Ev_some ⟨e4, fun x hx => ?_⟩
    dsimp only at f4 ⊢
    rw [f4.1 20001 (by decide) (by decide), o3 x (by omega), e2]
  · rw [sel_f c, sel_f c]; exact Ev_some ⟨rfl, fun x _ => by dsimp only; rw [e1']⟩
end
