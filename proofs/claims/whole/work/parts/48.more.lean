/-! ===== peaks, differs, shift: both sides ===== -/
/-- higher than all beside it -/
def pk (g : Int → Int) (p : Int) : Prop := ∀ i, 0 ≤ i → i < 4 → nb g p i ≠ -1 → g (6 + nb g p i) < g (6 + p)
noncomputable def zzPeaks (b : Int → Int) (n : Int) : Int := sel (isL b n) (ct (pk (lg b n)) (np (lg b n)).toNat) (-1)
theorem c_isPeak {μ : Mm} {c p : Int} {g : Int → Int} (hA : La μ c g) (hL : LdOk g) (hp : Pl g p) : fX2_isPeak c p μ = some (bi (pk g p)) := by
  have bp := Pl.i hL hp
  apply Ev.eq
  unfold fX2_isPeak
  refine Ev_bind (Ev_lop (P := fun x => (x = .inl () ∧ pk g p) ∨ (x = .inr () ∧ ¬pk g p)) (fun s => (0 ≤ s ∧ s ≤ 4) ∧ ∀ i, 0 ≤ i → i < s → nb g p i ≠ -1 → g (6 + nb g p i) < g (6 + p)) (fun s => (4 - s).toNat) ⟨by omega, fun k a b => by omega⟩ (by unfold FU; omega) ?_) ?_
  · intro v2 ⟨h1, h2⟩
    unfold sX2_isPeak_2
    refine Ev_ite (fun q => Ev_out (.inl ⟨rfl, fun i a b => h2 i a (by omega)⟩)) (fun q => ?_)
    have go : (nb g p v2 ≠ -1 → g (6 + nb g p v2) < g (6 + p)) → Ev (some (Sum.inl (v2 + 1)) : Option (Int ⊕ (Unit ⊕ Unit))) (Nx (fun s => (0 ≤ s ∧ s ≤ 4) ∧ ∀ i, 0 ≤ i → i < s → nb g p i ≠ -1 → g (6 + nb g p i) < g (6 + p)) (fun s => (4 - s).toNat) (fun x => (x = .inl () ∧ pk g p) ∨ (x = .inr () ∧ ¬pk g p)) (4 - v2).toNat) := by
      intro hv
      refine Ev_in ⟨by omega, fun i a b => ?_⟩ (by omega)
      by_cases z : i = v2
      · subst z; exact hv
      · exact h2 i a (by omega)
    simp (disch := omega) only [w32_eq, w64_eq, chk_T, chk_t, lt, lm, ob, Int.add_zero, Int.zero_add, true_and, and_true, if_true, if_false, La_k hA, La_k1 hA, La_n1 hA, La_k2 hA, La_n2 hA, La_k3 hA, La_n3 hA, La_k4 hA, La_n4 hA, La_k5 hA, La_n5 hA, La_f6 hA, La_f7 hA, La_f8 hA, La_f9 hA, La_f10 hA, La_0 hA, La_1 hA, La_2 hA, La_3 hA, La_4 hA, La_5 hA, La_h hA, La_a hA, La_t hA, La_fr hA, La_to hA, c_neighbour hA hL hp, c_has hA hL, bi_if]
    rw [sel_t hp]
    by_cases hn : nb g p v2 = -1
    · rw [sel_f (fun z => by have := z.1; omega)]; exact go (fun z => absurd hn z)
    · have hq := nb_P hL hp hn
      have bq := Pl.i hL hq
      rw [sel_t hq]
      simp (disch := omega) only [w32_eq, w64_eq, chk_T, chk_t, lt, lm, ob, Int.add_zero, Int.zero_add, true_and, and_true, if_true, if_false, La_k hA, La_k1 hA, La_n1 hA, La_k2 hA, La_n2 hA, La_k3 hA, La_n3 hA, La_k4 hA, La_n4 hA, La_k5 hA, La_n5 hA, La_f6 hA, La_f7 hA, La_f8 hA, La_f9 hA, La_f10 hA, La_0 hA, La_1 hA, La_2 hA, La_3 hA, La_4 hA, La_5 hA, La_h hA, La_a hA, La_t hA, La_fr hA, La_to hA]
      refine Ev_ite (fun q2 => go (fun _ => q2)) (fun q2 => Ev_out (.inr ⟨rfl, fun z => q2 (z v2 h1.1 (by omega) hn)⟩))
  · rintro r (⟨e, z⟩ | ⟨e, z⟩)
    · subst e; exact Ev_some (bi_t z).symm
    · subst e; exact Ev_some (bi_f z).symm
theorem q_peaks {μ : Mm} {b : Int → Int} (hW : Nw μ b) (n : Int) : fX10_peaks 100 n μ = some (zzPeaks b n) := by
  apply Ev.eq
  unfold fX10_peaks zzPeaks
  simp (disch := omega) only [w32_eq, w64_eq, chk_T, chk_t, lt, lm, ob, Int.add_zero, Int.zero_add, true_and, and_true, if_true, if_false, K100, K101, K102, K103, K104, K200, K201, K230, K231, K232, K233, K234, K235, K236, K237, K250, K251, K252, K253, K254, K300, K301, K302, K303, K304, N101, N102, N103, N104, N201, N232, N233, N234, N235, N236, N237, N251, N252, N253, N254, N301, N302, N303, N304, c_landAt hW]
  by_cases hn : isL b n
  · have hD := hW.ld hn.1 hn.2; have hA := hW.la hn.1 hn.2
    have nb := np_b hD
    rw [sel_t hn, if_neg (by have := hn.1; omega), sel_t hn]
    refine Ev_bind (Ev_cnt (P := pk (lg b n)) (n := np (lg b n)) (by omega) (by omega) (fun i a i0 i1 a0 a1 => ?_) (fun a a0 a1 => ?_)) (fun r h => Ev_some h)
    · unfold sX10_peaks_17
      dsimp only
      simp (disch := omega) only [w32_eq, w64_eq, chk_T, chk_t, lt, lm, ob, Int.add_zero, Int.zero_add, true_and, and_true, if_true, if_false, La_k hA, La_k1 hA, La_n1 hA, La_k2 hA, La_n2 hA, La_k3 hA, La_n3 hA, La_k4 hA, La_n4 hA, La_k5 hA, La_n5 hA, La_f6 hA, La_f7 hA, La_f8 hA, La_f9 hA, La_f10 hA, La_0 hA, La_1 hA, La_2 hA, La_3 hA, La_4 hA, La_5 hA, La_h hA, La_a hA, La_t hA, La_fr hA, La_to hA, c_places hA hD, c_isPeak hA hD (p := i) ⟨i0, i1⟩, bi_if]
      rw [if_neg (by omega)]
      by_cases y : pk (lg b n) i
      · rw [sel_t y, bi_t y]; exact Ev_some rfl
      · rw [sel_f y, bi_f y, Int.add_zero]; exact Ev_some rfl
    · unfold sX10_peaks_17
      dsimp only
      simp (disch := omega) only [w32_eq, w64_eq, chk_T, chk_t, lt, lm, ob, Int.add_zero, Int.zero_add, true_and, and_true, if_true, if_false, La_k hA, La_k1 hA, La_n1 hA, La_k2 hA, La_n2 hA, La_k3 hA, La_n3 hA, La_k4 hA, La_n4 hA, La_k5 hA, La_n5 hA, La_f6 hA, La_f7 hA, La_f8 hA, La_f9 hA, La_f10 hA, La_0 hA, La_1 hA, La_2 hA, La_3 hA, La_4 hA, La_5 hA, La_h hA, La_a hA, La_t hA, La_fr hA, La_to hA, c_places hA hD]
      rw [if_pos (by omega)]; exact Ev_some rfl
  · rw [sel_f hn, if_pos rfl, sel_f hn]; exact Ev_some rfl
theorem nb_0 {g : Int → Int} {p : Int} : nb g p 0 = if 0 < cY g p then p - g 0 else -1 := by unfold nb; rw [if_pos rfl]
theorem nb_1 {g : Int → Int} {p : Int} : nb g p 1 = if cX g p < g 0 - 1 then p + 1 else -1 := by unfold nb; rw [if_neg (by decide : ¬(1 : Int) = 0), if_pos rfl]
theorem nb_2 {g : Int → Int} {p : Int} : nb g p 2 = if cY g p < g 1 - 1 then p + g 0 else -1 := by unfold nb; rw [if_neg (by decide : ¬(2 : Int) = 0), if_neg (by decide : ¬(2 : Int) = 1), if_pos rfl]
theorem nb_3 {g : Int → Int} {p : Int} : nb g p 3 = if 0 < cX g p then p - 1 else -1 := by unfold nb; rw [if_neg (by decide : ¬(3 : Int) = 0), if_neg (by decide : ¬(3 : Int) = 1), if_neg (by decide : ¬(3 : Int) = 2)]
def pm (k : Int) : Int := if k = 0 then 1 else if k = 1 then 3 else if k = 2 then 2 else 0
theorem r_beside {μ : Mm} {l p k : Int} {g : Int → Int} (hM : Md μ) (hG : G μ l g) (hL : LdOk g) (hp : Pl g p) (hk : 0 ≤ k ∧ k < 4) : fX11_beside 20000 l p k μ = some (nb g p (pm k)) := by
  have hl := hG.1; have w := hL.w; have d := hL.d; have bx := cX_b hL p; have bY := cY_b hL hp; have bp := Pl.i hL hp
  have ex : p % g 0 = cX g p := rfl
  have ey : p / g 0 = cY g p := rfl
  have ep := at_c (g := g) p
  unfold at0 at ep
  have m1 := mul_le_of (x := cY g p) (y := g 0) (a := 11) (b := 12) bY.1 (by omega) (by omega) w.2
  have m2 := mul_nn (x := cY g p) (y := g 0) bY.1 (by omega)
  have key : ∀ x dy : Int, (-1 ≤ dy ∧ dy ≤ 1) → (-1 ≤ x ∧ x ≤ 12) → jX11_beside_60 20000 l x dy (cY g p) μ = some (if (0 ≤ x ∧ x < g 0) ∧ (0 ≤ cY g p + dy ∧ cY g p + dy < g 1) then cY g p * g 0 + dy * g 0 + x else -1) := by
    intro x dy hdy hx
    have m3 : -12 ≤ dy * g 0 ∧ dy * g 0 ≤ 12 := by
      have : dy = -1 ∨ dy = 0 ∨ dy = 1 := by omega
      rcases this with e | e | e <;> (subst e; omega)
    unfold jX11_beside_60
    simp (disch := omega) only [w32_eq, w64_eq, chk_T, chk_t, lt, lm, ob, Int.add_zero, Int.zero_add, true_and, and_true, if_true, if_false, K20000, K20001, K20002, K20003, K20004, K20005, K20006, K20007, K20008, K20009, K20010, K20011, K20012, K20013, K20014, K20015, K20016, K20017, K20018, K20019, N20001, N20002, N20003, N20004, N20005, N20006, N20007, N20008, N20009, N20010, N20011, N20012, N20013, N20014, N20015, N20016, N20017, N20018, N20019, Md_0 hM, hG.rd, hG.r0, isIn_0]
    by_cases h1 : 0 ≤ x ∧ x < g 0
    · rw [if_neg (by omega)]
      by_cases h2 : 0 ≤ cY g p + dy ∧ cY g p + dy < g 1
      · rw [if_neg (by omega), if_pos ⟨h1, h2⟩, Int.add_mul]
        simp (disch := omega) only [w32_eq, w64_eq, chk_T, chk_t, lt, lm, ob, Int.add_zero, Int.zero_add, true_and, and_true, if_true, if_false, ]
      · rw [if_pos (by omega), if_neg (fun z => h2 z.2)]
    · rw [if_pos (by omega), if_neg (fun z => h1 z.1)]
  unfold fX11_beside jX11_beside_28
  simp (disch := omega) only [w32_eq, w64_eq, chk_T, chk_t, lt, lm, ob, Int.add_zero, Int.zero_add, true_and, and_true, if_true, if_false, K20000, K20001, K20002, K20003, K20004, K20005, K20006, K20007, K20008, K20009, K20010, K20011, K20012, K20013, K20014, K20015, K20016, K20017, K20018, K20019, N20001, N20002, N20003, N20004, N20005, N20006, N20007, N20008, N20009, N20010, N20011, N20012, N20013, N20014, N20015, N20016, N20017, N20018, N20019, Md_0 hM, hG.rd, hG.r0, tmod_nn, tdiv_nn, ex, ey, ne_eq]
  have kk : k = 0 ∨ k = 1 ∨ k = 2 ∨ k = 3 := by omega
  rcases kk with e | e | e | e
  · subst e
    rw [if_pos rfl, if_neg (by decide), if_neg (by decide), key _ _ (by decide) (by omega), show pm 0 = 1 by decide, nb_1]
    by_cases h : cX g p < g 0 - 1
    · rw [if_pos (by omega), if_pos h]; congr 1; omega
    · rw [if_neg (by omega), if_neg h]
  · subst e
    rw [if_neg (by decide), if_pos rfl, if_neg (by decide), if_neg (by decide), key _ _ (by decide) (by omega), show pm 1 = 3 by decide, nb_3]
    by_cases h : 0 < cX g p
    · rw [if_pos (by omega), if_pos h]; congr 1; omega
    · rw [if_neg (by omega), if_neg h]
  · subst e
    rw [if_neg (by decide), if_neg (by decide), if_pos rfl, key _ _ (by decide) (by omega), show pm 2 = 2 by decide, nb_2]
    by_cases h : cY g p < g 1 - 1
    · rw [if_pos (by omega), if_pos h]; congr 1; omega
    · rw [if_neg (by omega), if_neg h]
  · subst e
    rw [if_neg (by decide), if_neg (by decide), if_neg (by decide), if_pos rfl, key _ _ (by decide) (by omega), show pm 3 = 0 by decide, nb_0]
    by_cases h : 0 < cY g p
    · rw [if_pos (by omega), if_pos h]; congr 1; omega
    · rw [if_neg (by omega), if_neg h]
theorem pm_b {k : Int} (hk : 0 ≤ k ∧ k < 4) : 0 ≤ pm k ∧ pm k < 4 := by unfold pm; split <;> (try split) <;> (try split) <;> omega
theorem pm_s {i : Int} (hi : 0 ≤ i ∧ i < 4) : ∃ k, (0 ≤ k ∧ k < 4) ∧ pm k = i := by
  have : i = 0 ∨ i = 1 ∨ i = 2 ∨ i = 3 := by omega
  rcases this with e | e | e | e
  · exact ⟨3, by decide, by subst e; decide⟩
  · exact ⟨0, by decide, by subst e; decide⟩
  · exact ⟨2, by decide, by subst e; decide⟩
  · exact ⟨1, by decide, by subst e; decide⟩
theorem nb_b {g : Int → Int} {p i : Int} (hL : LdOk g) (hp : Pl g p) : nb g p i = -1 ∨ Pl g (nb g p i) := by
  by_cases h : nb g p i = -1
  · exact .inl h
  · exact .inr (nb_P hL hp h)
theorem rr_peaks {μ : Mm} {b : Int → Int} (hM : Md μ) (hb : μ 20001 = b) (hA : AOk b) (n : Int) : fX11_peaks 20000 n μ = some (zzPeaks b n) := by
  have a0 := hA.1
  apply Ev.eq
  unfold fX11_peaks zzPeaks
  simp (disch := omega) only [w32_eq, w64_eq, chk_T, chk_t, lt, lm, ob, Int.add_zero, Int.zero_add, true_and, and_true, if_true, if_false, K20000, K20001, K20002, K20003, K20004, K20005, K20006, K20007, K20008, K20009, K20010, K20011, K20012, K20013, K20014, K20015, K20016, K20017, K20018, K20019, N20001, N20002, N20003, N20004, N20005, N20006, N20007, N20008, N20009, N20010, N20011, N20012, N20013, N20014, N20015, N20016, N20017, N20018, N20019, r_isL hM hb hA, bi_if]
  by_cases z : isL b n
  · have nn : n = 0 ∨ n = 1 := by have := z.1; have := z.2; omega
    have hD := hA.2.2.2.2.1 n z.1 z.2
    have hG := G_lg hb nn
    have hl := hG.1
    have nbb := np_b hD
    rw [sel_t z, sel_t z]
    simp (disch := omega) only [w32_eq, w64_eq, chk_T, chk_t, lt, lm, ob, Int.add_zero, Int.zero_add, true_and, and_true, if_true, if_false, K20000, K20001, K20002, K20003, K20004, K20005, K20006, K20007, K20008, K20009, K20010, K20011, K20012, K20013, K20014, K20015, K20016, K20017, K20018, K20019, N20001, N20002, N20003, N20004, N20005, N20006, N20007, N20008, N20009, N20010, N20011, N20012, N20013, N20014, N20015, N20016, N20017, N20018, N20019, r_placeOf nn]
    generalize 710 + 200 * n = l at *
    refine Ev_bind (Ev_cnt (P := pk (lg b n)) (n := np (lg b n)) (by omega) (by omega) (fun q a q0 q1 a0 a1 => ?_) (fun a a0 a1 => ?_)) (fun r h => Ev_some h)
    · unfold sX11_peaks_22
      dsimp only
      simp (disch := omega) only [w32_eq, w64_eq, chk_T, chk_t, lt, lm, ob, Int.add_zero, Int.zero_add, true_and, and_true, if_true, if_false, K20000, K20001, K20002, K20003, K20004, K20005, K20006, K20007, K20008, K20009, K20010, K20011, K20012, K20013, K20014, K20015, K20016, K20017, K20018, K20019, N20001, N20002, N20003, N20004, N20005, N20006, N20007, N20008, N20009, N20010, N20011, N20012, N20013, N20014, N20015, N20016, N20017, N20018, N20019, r_placesOf hM hG hD]
      rw [if_neg (by omega)]
      have hq : Pl (lg b n) q := ⟨q0, q1⟩
      have bq := Pl.i hD hq
      have eq6 := hG.rd (i := 6 + q) (by omega) (by omega)
      rw [← Int.add_assoc] at eq6
      refine Ev_bind (Ev_lop (P := fun r => r = bi (pk (lg b n) q)) (fun s => (0 ≤ s.2 ∧ s.2 ≤ 4) ∧ s.1 = bi (∀ k, 0 ≤ k → k < s.2 → nb (lg b n) q (pm k) ≠ -1 → lg b n (6 + nb (lg b n) q (pm k)) < lg b n (6 + q))) (fun s => (4 - s.2).toNat) ⟨(by first | omega | (dsimp only; omega) | (dsimp only)), ?_⟩ (by unfold FU; dsimp only; omega) ?_) (fun r h => ?_)
      · dsimp only; rw [bi_t]; intro k k0 k1; omega
      · rintro ⟨v5, v6⟩ ⟨h1, h2⟩
        dsimp only at h1 h2 ⊢
        unfold sX11_peaks_38
        dsimp only
        refine Ev_ite (fun y => Ev_out ?_) (fun y => ?_)
        · rw [h2]; apply bi_c
          constructor
          · intro h i i0 i1 hi
            obtain ⟨k, hk, e⟩ := pm_s ⟨i0, i1⟩
            subst e; exact h k hk.1 (by omega) hi
          · intro h k k0 k1 hi; exact h (pm k) (pm_b ⟨k0, by omega⟩).1 (pm_b ⟨k0, by omega⟩).2 hi
        · have nxt : ∀ c : Prop, (c ↔ (∀ k, 0 ≤ k → k < v6 → nb (lg b n) q (pm k) ≠ -1 → lg b n (6 + nb (lg b n) q (pm k)) < lg b n (6 + q)) ∧ (nb (lg b n) q (pm v6) ≠ -1 → lg b n (6 + nb (lg b n) q (pm v6)) < lg b n (6 + q))) → bi (∀ k, 0 ≤ k → k < v6 + 1 → nb (lg b n) q (pm k) ≠ -1 → lg b n (6 + nb (lg b n) q (pm k)) < lg b n (6 + q)) = bi c := by
            intro c hc; apply bi_c; rw [hc]
            constructor
            · intro h; exact ⟨fun k k0 k1 => h k k0 (by omega), h v6 h1.1 (by omega)⟩
            · rintro ⟨h, h'⟩ k k0 k1
              by_cases e : k = v6
              · subst e; exact h'
              · exact h k k0 (by omega)
          simp (disch := omega) only [w32_eq, w64_eq, chk_T, chk_t, lt, lm, ob, Int.add_zero, Int.zero_add, true_and, and_true, if_true, if_false, K20000, K20001, K20002, K20003, K20004, K20005, K20006, K20007, K20008, K20009, K20010, K20011, K20012, K20013, K20014, K20015, K20016, K20017, K20018, K20019, N20001, N20002, N20003, N20004, N20005, N20006, N20007, N20008, N20009, N20010, N20011, N20012, N20013, N20014, N20015, N20016, N20017, N20018, N20019, r_beside hM hG hD hq (k := v6) (by omega)]
          refine Ev_ite (fun w => Ev_in ⟨(by first | omega | (dsimp only; omega) | (dsimp only)), ?_⟩ (by first | omega | (dsimp only; omega) | (dsimp only))) (fun w => ?_)
          · dsimp only; rw [nxt False ⟨fun h => h.elim, fun h => bi_0.mp (h2.symm.trans w) h.1⟩, bi_f (fun h => h)]
          · have prev : ∀ k, 0 ≤ k → k < v6 → nb (lg b n) q (pm k) ≠ -1 → lg b n (6 + nb (lg b n) q (pm k)) < lg b n (6 + q) := by
              apply Classical.byContradiction; intro h; exact w (h2.trans (bi_f h))
            rcases nb_b hD hq (i := pm v6) with e | e
            · rw [if_pos (by omega)]
              refine Ev_in ⟨(by first | omega | (dsimp only; omega) | (dsimp only)), ?_⟩ (by first | omega | (dsimp only; omega) | (dsimp only))
              dsimp only; rw [nxt True ⟨fun _ => ⟨prev, fun h => absurd e h⟩, fun _ => trivial⟩, bi_t trivial]
            · have be := Pl.i hD e
              rw [if_neg (by omega)]
              have er6 := hG.rd (i := 6 + nb (lg b n) q (pm v6)) (by omega) (by omega)
              rw [← Int.add_assoc] at er6
              simp (disch := omega) only [w32_eq, w64_eq, chk_T, chk_t, lt, lm, ob, Int.add_zero, Int.zero_add, true_and, and_true, if_true, if_false, K20000, K20001, K20002, K20003, K20004, K20005, K20006, K20007, K20008, K20009, K20010, K20011, K20012, K20013, K20014, K20015, K20016, K20017, K20018, K20019, N20001, N20002, N20003, N20004, N20005, N20006, N20007, N20008, N20009, N20010, N20011, N20012, N20013, N20014, N20015, N20016, N20017, N20018, N20019, Md_0 hM, eq6, er6]
              refine Ev_ite (fun x => Ev_in ⟨(by first | omega | (dsimp only; omega) | (dsimp only)), ?_⟩ (by first | omega | (dsimp only; omega) | (dsimp only))) (fun x => Ev_in ⟨(by first | omega | (dsimp only; omega) | (dsimp only)), ?_⟩ (by first | omega | (dsimp only; omega) | (dsimp only)))
              · dsimp only; rw [nxt False ⟨fun h => h.elim, fun h => by have := h.2 (by have := e.1; omega); omega⟩, bi_f (fun h => h)]
              · dsimp only; rw [nxt True ⟨fun _ => ⟨prev, fun _ => by omega⟩, fun _ => trivial⟩, bi_t trivial]
      · subst h
        rw [bi_if]
        by_cases y : pk (lg b n) q
        · rw [sel_t y, bi_t y]; exact Ev_some rfl
        · rw [sel_f y, bi_f y, Int.add_zero]; exact Ev_some rfl
    · unfold sX11_peaks_22
      dsimp only
      simp (disch := omega) only [w32_eq, w64_eq, chk_T, chk_t, lt, lm, ob, Int.add_zero, Int.zero_add, true_and, and_true, if_true, if_false, K20000, K20001, K20002, K20003, K20004, K20005, K20006, K20007, K20008, K20009, K20010, K20011, K20012, K20013, K20014, K20015, K20016, K20017, K20018, K20019, N20001, N20002, N20003, N20004, N20005, N20006, N20007, N20008, N20009, N20010, N20011, N20012, N20013, N20014, N20015, N20016, N20017, N20018, N20019, r_placesOf hM hG hD]
      rw [if_pos (by omega)]; exact Ev_some rfl
  · rw [sel_f z, sel_f z]; exact Ev_some rfl
/-! differs -/
def hasT (g : Int → Int) (p q : Int) : Prop := ∃ j, 0 ≤ j ∧ j < hN g p ∧ hT g p j = q
theorem c_hasTop {μ : Mm} {s p q : Int} {g : Int → Int} (L : Li μ s g p) (hL : LdOk g) (hp : Pl g p) : fX7_hasTop s q μ = some (bi (hasT g p q)) := by
  have hb := hN_b hL hp
  have e2 := L.2.2.1.2.1
  apply Ev.eq
  unfold fX7_hasTop
  refine Ev_bind (Ev_lop (P := fun x => (x = .inl () ∧ ¬hasT g p q) ∨ (x = .inr () ∧ hasT g p q)) (fun t => (0 ≤ t ∧ t ≤ hN g p) ∧ ∀ j, 0 ≤ j → j < t → hT g p j ≠ q) (fun t => (hN g p - t).toNat) ⟨by omega, fun k a b => by omega⟩ (by unfold FU; omega) ?_) ?_
  · intro v2 ⟨h1, h2⟩
    unfold sX7_hasTop_2
    simp (disch := omega) only [w32_eq, w64_eq, chk_T, chk_t, lt, lm, ob, Int.add_zero, Int.zero_add, true_and, and_true, if_true, if_false, L.1.k, e2, c_topOfHump L hL hp]
    refine Ev_ite (fun z => Ev_out (.inl ⟨rfl, ?_⟩)) (fun z => ?_)
    · rintro ⟨j, j0, j1, e⟩; exact h2 j j0 (by omega) e
    · rw [sel_t ⟨h1.1, by omega⟩]
      refine Ev_ite (fun e => Ev_out (.inr ⟨rfl, v2, h1.1, by omega, e⟩)) (fun e => Ev_in ⟨by omega, fun j j0 j1 => ?_⟩ (by omega))
      by_cases y : j = v2
      · subst y; exact e
      · exact h2 j j0 (by omega)
  · rintro r (⟨e, z⟩ | ⟨e, z⟩)
    · subst e; exact Ev_some (bi_f z).symm
    · subst e; exact Ev_some (bi_t z).symm
noncomputable def zzDiffers (b : Int → Int) (n m p : Int) : Int := sel (isP b n p ∧ isP b m p) (ct (fun k => ¬hasT (lg b m) p (hT (lg b n) p k)) (hN (lg b n) p).toNat) (-1)
theorem q_differs {μ : Mm} {b : Int → Int} {vb : Int} (hW : Nw μ b) (hC : Ca μ b vb) (hvb : 0 ≤ vb) (n m p : Int) : Ec (fX10_differs 100 n m p μ) (Bd μ) (QP μ b vb (fun r => r = zzDiffers b n m p)) := by
  have n0 := hW.n0
  unfold fX10_differs zzDiffers
  simp (disch := omega) only [w32_eq, w64_eq, chk_T, chk_t, lt, lm, ob, Int.add_zero, Int.zero_add, true_and, and_true, if_true, if_false, K100, K101, K102, K103, K104, K200, K201, K230, K231, K232, K233, K234, K235, K236, K237, K250, K251, K252, K253, K254, K300, K301, K302, K303, K304, N101, N102, N103, N104, N201, N232, N233, N234, N235, N236, N237, N251, N252, N253, N254, N301, N302, N303, N304, ]
  refine Ec_bind (c_lineAt hW hC hvb) ?_
  rintro ⟨r1, μ1⟩ b1 ⟨hb1, hr1, f1, C1, L1⟩ cc nn
  refine ⟨_, rfl, ?_⟩
  dsimp only at hb1 hr1 f1 C1 L1 ⊢
  have fq1 : Fw Rq μ μ1 := f1.mo (fun x hx => Rq_l hx)
  have N1 := hW.q fq1
  rw [hb1]
  refine Ec_bind (c_lineAt N1 C1 hvb) ?_
  rintro ⟨r2, μ2⟩ b2 ⟨hb2, hr2, f2, C2, L2⟩ cc nn
  refine ⟨_, rfl, ?_⟩
  dsimp only at hb2 hr2 f2 C2 L2 ⊢
  have fq2 : Fw Rq μ μ2 := fq1.tr (f2.mo (fun x hx => Rq_l hx))
  by_cases h1 : isP b n p
  · by_cases h2 : isP b m p
    · have hD1 := hW.ld h1.1.1 h1.1.2; have hD2 := hW.ld h2.1.1 h2.1.2
      have bp := Pl.i hD1 h1.2
      have nn := h1.1.1; have nn2 := h1.1.2; have mm := h2.1.1; have mm2 := h2.1.2
      have A := L1 h1; have B := L2 h2
      rw [hr1, sel_t h1] at A; rw [hr2, sel_t h2] at B
      have A2 : Li μ2 (10100 + 2000 * n + 10 * p) (lg b n) p := by
        by_cases e : n = m
        · subst e; exact B
        · exact A.fw f2 (fun x a b => by unfold lnA scR sR0; omega)
      rw [hr1, hr2, sel_t h1, sel_t h2, if_neg (by omega), if_neg (by omega), sel_t ⟨h1, h2⟩]
      have hb := hN_b hD1 h1.2
      refine Ec_bindE (Ev_cnt (P := fun k => ¬hasT (lg b m) p (hT (lg b n) p k)) (n := hN (lg b n) p) (by omega) (by omega) (fun i a i0 i1 a0 a1 => ?_) (fun a a0 a1 => ?_)) (fun r h => Ec_some ⟨hb2, fq2, C2, h⟩)
      · unfold sX10_differs_34
        dsimp only
        have e2 := A2.2.2.1.2.1
        simp (disch := omega) only [w32_eq, w64_eq, chk_T, chk_t, lt, lm, ob, Int.add_zero, Int.zero_add, true_and, and_true, if_true, if_false, A2.1.k, B.1.k, e2, c_topOfHump A2 hD1 h1.2, c_hasTop B hD2 h2.2, bi_if]
        rw [if_neg (by omega), sel_t (c := 0 ≤ i ∧ i < hN (lg b n) p) ⟨i0, i1⟩]
        by_cases y : hasT (lg b m) p (hT (lg b n) p i)
        · rw [sel_t y, bi_f (fun w => w y), Int.add_zero]; exact Ev_some rfl
        · rw [sel_f y, bi_t y]; exact Ev_some rfl
      · unfold sX10_differs_34
        dsimp only
        have e2 := A2.2.2.1.2.1
        simp (disch := omega) only [w32_eq, w64_eq, chk_T, chk_t, lt, lm, ob, Int.add_zero, Int.zero_add, true_and, and_true, if_true, if_false, A2.1.k, e2]
        rw [if_pos (by omega)]; exact Ev_some rfl
    · have nn := h1.1.1; have pp := h1.2.1
      rw [hr1, hr2, sel_t h1, sel_f h2, if_neg (by omega), if_pos rfl, sel_f (fun z => h2 z.2)]
      exact Ec_some ⟨hb2, fq2, C2, rfl⟩
  · rw [hr1, sel_f h1, if_pos rfl, sel_f (fun z => h1 z.1)]
    exact Ec_some ⟨hb2, fq2, C2, rfl⟩
