/-! ===== the reference walks ===== -/
def Wr (μ : Mm) (l : Int) (g : Int → Int) (sh : Int → Prop) : Prop := Md μ ∧ G μ l g ∧ ∀ q, Pl g q → μ 20015 q = bi (sh q)
theorem pm_j {k : Int} (h : 0 ≤ k ∧ k < 4) : ∃ j, (0 ≤ j ∧ j < 4) ∧ pm j = k := by
  have : k = 0 ∨ k = 1 ∨ k = 2 ∨ k = 3 := by omega
  rcases this with e | e | e | e
  · exact ⟨3, by omega, by subst e; decide⟩
  · exact ⟨0, by omega, by subst e; decide⟩
  · exact ⟨2, by omega, by subst e; decide⟩
  · exact ⟨1, by omega, by subst e; decide⟩
section
variable {μ μ' μ0 : Mm} {b : Int → Int} {c cl n p q l : Int} {g : Int → Int} {sh S T D : Int → Prop}
theorem Fr.cm {i v x : Int} (h : Fr [20013, 20014] [26] μ0 μ) : Fr [20013, 20014] [26] μ0 (mst (mst (mst μ 20013 q n) 20014 i v) 20000 26 x) := ((h.tr (Fr.row rfl rfl (by decide) (by decide))).tr (Fr.row rfl rfl (by decide) (by decide))).tr (Fr.fld rfl (by decide))
theorem Wr.fr (h : Wr μ l g sh) (f : Fr [20013, 20014] [26] μ μ') : Wr μ' l g sh := ⟨f.md h.1 (by decide), h.2.1.fr f (by decide), fun q hq => by rw [f.1 20015 (by decide) (by decide)]; exact h.2.2 q hq⟩
theorem r_noWay (hM : Md μ) : Ev (fX11_noWay 20000 μ) (fun μ' => Fr [20013, 20015] [26] μ μ' ∧ μ' 20000 26 = 0 ∧ (∀ q, 0 ≤ q → q < 144 → μ' 20013 q = -1) ∧ ∀ q, 0 ≤ q → q < 144 → μ' 20015 q = 0) := by
  suffices hh : Ev (fX11_noWay 20000 μ) (fun μ' => μ' 20000 26 = 0 ∧ (∀ q, 0 ≤ q → q < 144 → μ' 20013 q = -1) ∧ ∀ q, 0 ≤ q → q < 144 → μ' 20015 q = 0) by
    obtain ⟨r, e, h1⟩ := hh
    exact ⟨r, e, frfX11_noWay e hM, h1⟩
  unfold fX11_noWay
  simp (disch := omega) only [w32_eq, w64_eq, chk_T, chk_t, lt, lm, ob, Int.add_zero, Int.zero_add, true_and, and_true, if_true, if_false, K20000, K20001, K20002, K20003, K20004, K20005, K20006, K20007, K20008, K20009, K20010, K20011, K20012, K20013, K20014, K20015, K20016, K20017, K20018, K20019, N20001, N20002, N20003, N20004, N20005, N20006, N20007, N20008, N20009, N20010, N20011, N20012, N20013, N20014, N20015, N20016, N20017, N20018, N20019, ]
  have f0 : Fr [] [26] μ (mst μ 20000 26 0) := Fr.fld rfl (by decide)
  have M0 := f0.md hM (by decide)
  refine Ev_bind (Ev_lop (P := fun μ' => μ' 20000 26 = 0 ∧ (∀ q, 0 ≤ q → q < 144 → μ' 20013 q = -1) ∧ ∀ q, 0 ≤ q → q < 144 → μ' 20015 q = 0) (fun t => (0 ≤ t.1 ∧ t.1 ≤ 144) ∧ Md t.2 ∧ t.2 20000 26 = 0 ∧ (∀ q, 0 ≤ q → q < t.1 → t.2 20013 q = -1) ∧ ∀ q, 0 ≤ q → q < t.1 → t.2 20015 q = 0) (fun t => (144 - t.1).toNat) ⟨(by first | omega | (dsimp only; omega) | (dsimp only)), M0, by dsimp only; exact mst_s, fun q a b => by dsimp only at b; omega, fun q a b => by dsimp only at b; omega⟩ (by unfold FU; dsimp only; omega) ?_) (fun r h => Ev_some h)
  rintro ⟨v1, μ1⟩ ⟨h1, M1, e1, k1, k2⟩
  dsimp only at h1 M1 e1 k1 k2 ⊢
  unfold sX11_noWay_7
  dsimp only
  refine Ev_ite (fun y => Ev_out ⟨e1, fun q a b => k1 q a (by omega), fun q a b => k2 q a (by omega)⟩) (fun y => ?_)
  simp (disch := omega) only [w32_eq, w64_eq, chk_T, chk_t, lt, lm, ob, Int.add_zero, Int.zero_add, true_and, and_true, if_true, if_false, K20000, K20001, K20002, K20003, K20004, K20005, K20006, K20007, K20008, K20009, K20010, K20011, K20012, K20013, K20014, K20015, K20016, K20017, K20018, K20019, N20001, N20002, N20003, N20004, N20005, N20006, N20007, N20008, N20009, N20010, N20011, N20012, N20013, N20014, N20015, N20016, N20017, N20018, N20019, Md_25 M1, Md_28 M1, mst_n]
  have F : Fr [20013, 20015] [] μ1 (mst (mst μ1 20013 v1 (-1)) 20015 v1 0) := (Fr.row rfl rfl (by decide) (by decide)).tr (Fr.row rfl rfl (by decide) (by decide))
  refine Ev_in ⟨(by first | omega | (dsimp only; omega) | (dsimp only)), F.md M1 (by decide), by dsimp only; rw [F.2 26 (by decide)]; exact e1, fun q a b => ?_, fun q a b => ?_⟩ (by first | omega | (dsimp only; omega) | (dsimp only))
  · dsimp only at b ⊢
    rw [mst_n (by decide)]
    by_cases e : q = v1
    · rw [e, mst_s]
    · rw [mst_j e]; exact k1 q a (by omega)
  · dsimp only at b ⊢
    by_cases e : q = v1
    · rw [e, mst_s]
    · rw [mst_j e, mst_n (by decide)]; exact k2 q a (by omega)
theorem r_comesNo (hM : Md μ) (hq : 0 ≤ q ∧ q < 144) (h : 0 ≤ μ 20013 q ∨ μ 20015 q ≠ 0) (n : Int) : fX11_comes 20000 q n μ = some μ := by
  unfold fX11_comes
  simp (disch := omega) only [w32_eq, w64_eq, chk_T, chk_t, lt, lm, ob, Int.add_zero, Int.zero_add, true_and, and_true, if_true, if_false, K20000, K20001, K20002, K20003, K20004, K20005, K20006, K20007, K20008, K20009, K20010, K20011, K20012, K20013, K20014, K20015, K20016, K20017, K20018, K20019, N20001, N20002, N20003, N20004, N20005, N20006, N20007, N20008, N20009, N20010, N20011, N20012, N20013, N20014, N20015, N20016, N20017, N20018, N20019, Md_25 hM, Md_28 hM]
  by_cases z : 0 ≤ μ 20013 q
  · rw [if_pos z]
  · rw [if_neg z, if_neg (by rcases h with w | w; exact absurd w z; exact w)]
theorem r_comesYes (hM : Md μ) (hq : 0 ≤ q ∧ q < 144) (h : μ 20013 q = -1) (h1 : μ 20015 q = 0) (hl : 0 ≤ μ 20000 26 ∧ μ 20000 26 < 144) (n : Int) : fX11_comes 20000 q n μ = some (mst (mst (mst μ 20013 q n) 20014 (μ 20000 26) q) 20000 26 (μ 20000 26 + 1)) := by
  unfold fX11_comes
  simp (disch := omega) only [w32_eq, w64_eq, chk_T, chk_t, lt, lm, ob, Int.add_zero, Int.zero_add, true_and, and_true, if_true, if_false, K20000, K20001, K20002, K20003, K20004, K20005, K20006, K20007, K20008, K20009, K20010, K20011, K20012, K20013, K20014, K20015, K20016, K20017, K20018, K20019, N20001, N20002, N20003, N20004, N20005, N20006, N20007, N20008, N20009, N20010, N20011, N20012, N20013, N20014, N20015, N20016, N20017, N20018, N20019, Md_25 hM, Md_28 hM, h, h1, mst_n, Md_27 hM]
  rw [if_neg (by decide)]
theorem Bf_v {E : Int → Int → Prop} {st qu : Int → Int} {len hd : Int} (h : Bf E S st qu len hd) (hq : 0 ≤ q ∧ q < 144) (h1 : st q ≠ -1) : 0 ≤ st q := by
  obtain ⟨i, i0, i1, i2⟩ := h.2.2.1 q hq.1 hq.2 h1
  rw [← i2]; exact (h.2.1 i i0 i1).2.1.1
theorem r_comesQ (hW : Wr μ l g sh) (hL : LdOk g) (hQ : Wq (We g cl sh) S (μ 20013) (μ 20014) (μ 20000 26) D) (hp : Pl g p) (hs : ¬sh p → S p) : Ev (fX11_comes 20000 p 0 μ) (fun μ' => Fr [20013, 20014] [26] μ μ' ∧ ∀ D' : Int → Prop, (∀ x, D' x → D x ∨ x = p ∧ ¬sh p) → Wq (We g cl sh) S (μ' 20013) (μ' 20014) (μ' 20000 26) D') := by
  have bp := Pl.i hL hp
  by_cases hn : ¬sh p ∧ μ 20013 p = -1
  · have rm := Bf_room hQ.1 bp hn.2
    have ll := Bf_len hQ.1
    rw [r_comesYes hW.1 bp hn.2 (by rw [hW.2.2 p hp, bi_f hn.1]) (by omega)]
    refine Ev_some ⟨Fr.rf.cm, fun D' hD => ?_⟩
    rw [mst_s]
    exact Wq_step hQ bp (hs hn.1) hn.2 (by simp (disch := omega) only [mst_n, mst_s, mst_j, ]) (fun x hx => by simp (disch := omega) only [mst_n, mst_s, mst_j, ]) (by simp (disch := omega) only [mst_n, mst_s, mst_j, ]) (fun x hx => by simp (disch := omega) only [mst_n, mst_s, mst_j, ]) (fun x hx => by
      rcases hD x hx with w | w
      · exact .inl w
      · exact .inr w.1)
  · rw [r_comesNo hW.1 bp (by
      by_cases z : sh p
      · exact .inr (by rw [hW.2.2 p hp, bi_t z]; decide)
      · exact .inl (Bf_v hQ.1 bp (fun w => hn ⟨z, w⟩)))]
    refine Ev_some ⟨Fr.rf, fun D' hD => Wq_no hQ (fun x hx => ?_)⟩
    rcases hD x hx with w | ⟨w, w2⟩
    · exact .inl w
    · subst w; exact .inr ⟨bp, fun e => hn ⟨w2, e⟩⟩
theorem r_sides {hd : Int} (hW : Wr μ l g sh) (hL : LdOk g) (hcl : 0 ≤ cl ∧ cl ≤ 999) (hS : ∀ q, S q → Pl g q) (hV : Wv (We g cl sh) S (μ 20013) (μ 20014) (μ 20000 26) hd) (hl : hd < μ 20000 26) (hp : μ 20014 hd = p) : Ev (lop (sX11_walks_21 20000 l cl hd p) FU (0, μ)) (fun μ' => Fr [20013, 20014] [26] μ μ' ∧ Wv (We g cl sh) S (μ' 20013) (μ' 20014) (μ' 20000 26) (hd + 1)) := by
  have hE : ∀ p q, We g cl sh p q → Pl g q := fun p q h => h.2.1.2
  refine Ev_lop (fun t => (0 ≤ t.1 ∧ t.1 ≤ 4) ∧ Fr [20013, 20014] [26] μ t.2 ∧ Wv (We g cl sh) S (t.2 20013) (t.2 20014) (t.2 20000 26) hd ∧ (hd < t.2 20000 26 ∧ t.2 20014 hd = p) ∧ ∀ k, 0 ≤ k → k < t.1 → We g cl sh p (nb g p (pm k)) → t.2 20013 (nb g p (pm k)) ≠ -1 ∧ t.2 20013 (nb g p (pm k)) ≤ t.2 20013 p + 1) (fun t => (4 - t.1).toNat) ⟨(by first | omega | (dsimp only; omega) | (dsimp only)), Fr.rf, hV, ⟨hl, hp⟩, fun k a b => by dsimp only at b; omega⟩ (by unfold FU; dsimp only; omega) ?_
  rintro ⟨v5, μ1⟩ ⟨h1, f1, V1, ⟨l1, p1⟩, d1⟩
  dsimp only at h1 f1 V1 l1 p1 d1 ⊢
  have W1 := hW.fr f1
  unfold sX11_walks_21
  dsimp only
  have kh := V1.1.2.1 hd V1.1.1.1 l1
  rw [p1] at kh
  have hP : Pl g p := wk_p hS hE _ _ kh.2.2
  have bp := Pl.i hL hP
  have ll := Bf_len V1.1
  refine Ev_ite (fun w => Ev_out ⟨f1, ⟨Bf_next V1.1 l1, fun i i0 i1 => ?_, V1.2.2⟩⟩) (fun w => ?_)
  · by_cases z : i = hd
    · subst z; rw [p1]
      rintro q ⟨⟨k, hk, e⟩, r⟩
      subst e
      obtain ⟨j, hj, ej⟩ := pm_j hk
      subst ej
      exact d1 j hj.1 (by omega) ⟨⟨_, hk, rfl⟩, r⟩
    · exact V1.2.1 i i0 (by omega)
  · have go : ∀ μ2 : Mm, Fr [20013, 20014] [26] μ μ2 → Wv (We g cl sh) S (μ2 20013) (μ2 20014) (μ2 20000 26) hd → (hd < μ2 20000 26 ∧ μ2 20014 hd = p) → (∀ k, 0 ≤ k → k < v5 + 1 → We g cl sh p (nb g p (pm k)) → μ2 20013 (nb g p (pm k)) ≠ -1 ∧ μ2 20013 (nb g p (pm k)) ≤ μ2 20013 p + 1) → Ev (some (Sum.inl (v5 + 1, μ2) : (Int × Mm) ⊕ Mm)) (Nx (fun t => (0 ≤ t.1 ∧ t.1 ≤ 4) ∧ Fr [20013, 20014] [26] μ t.2 ∧ Wv (We g cl sh) S (t.2 20013) (t.2 20014) (t.2 20000 26) hd ∧ (hd < t.2 20000 26 ∧ t.2 20014 hd = p) ∧ ∀ k, 0 ≤ k → k < t.1 → We g cl sh p (nb g p (pm k)) → t.2 20013 (nb g p (pm k)) ≠ -1 ∧ t.2 20013 (nb g p (pm k)) ≤ t.2 20013 p + 1) (fun t => (4 - t.1).toNat) (fun μ' => Fr [20013, 20014] [26] μ μ' ∧ Wv (We g cl sh) S (μ' 20013) (μ' 20014) (μ' 20000 26) (hd + 1)) (4 - v5).toNat) := fun μ2 a b c d => Ev_in ⟨(by first | omega | (dsimp only; omega) | (dsimp only)), a, b, c, d⟩ (by first | omega | (dsimp only; omega) | (dsimp only))
    have no : (We g cl sh p (nb g p (pm v5)) → μ1 20013 (nb g p (pm v5)) ≠ -1 ∧ μ1 20013 (nb g p (pm v5)) ≤ μ1 20013 p + 1) → _ := fun hh => go μ1 f1 V1 ⟨l1, p1⟩ (fun k a b => by
      by_cases z : k = v5
      · subst z; exact hh
      · exact d1 k a (by omega))
    have hl1 := W1.2.1.1
    simp (disch := omega) only [w32_eq, w64_eq, chk_T, chk_t, lt, lm, ob, Int.add_zero, Int.zero_add, true_and, and_true, if_true, if_false, K20000, K20001, K20002, K20003, K20004, K20005, K20006, K20007, K20008, K20009, K20010, K20011, K20012, K20013, K20014, K20015, K20016, K20017, K20018, K20019, N20001, N20002, N20003, N20004, N20005, N20006, N20007, N20008, N20009, N20010, N20011, N20012, N20013, N20014, N20015, N20016, N20017, N20018, N20019, r_beside W1.1 W1.2.1 hL hP (k := v5) (by omega)]
    rcases nb_b hL hP (i := pm v5) with e | hq
    · rw [if_neg (by omega)]
      try simp (disch := omega) only [w32_eq, w64_eq, chk_T, chk_t, lt, lm, ob, Int.add_zero, Int.zero_add, true_and, and_true, if_true, if_false, ]
      exact no (fun w => by have := w.2.1.2.1; omega)
    · have bq := Pl.i hL hq
      have g1 := hL.hh bp.1 bp.2; have g2 := hL.hh bq.1 bq.2
      rw [if_pos bq.1]
      have e1 := W1.2.1.rd (i := 6 + p) (by omega) (by omega)
      have e2 := W1.2.1.rd (i := 6 + nb g p (pm v5)) (by omega) (by omega)
      rw [← Int.add_assoc] at e1 e2
      simp (disch := omega) only [w32_eq, w64_eq, chk_T, chk_t, lt, lm, ob, Int.add_zero, Int.zero_add, true_and, and_true, if_true, if_false, K20000, K20001, K20002, K20003, K20004, K20005, K20006, K20007, K20008, K20009, K20010, K20011, K20012, K20013, K20014, K20015, K20016, K20017, K20018, K20019, N20001, N20002, N20003, N20004, N20005, N20006, N20007, N20008, N20009, N20010, N20011, N20012, N20013, N20014, N20015, N20016, N20017, N20018, N20019, Md_0 W1.1, e1, e2, Md_25 W1.1]
      have pb := pm_b (k := v5) (by omega)
      by_cases hc : g (6 + nb g p (pm v5)) - g (6 + p) ≤ cl ∧ -cl ≤ g (6 + nb g p (pm v5)) - g (6 + p)
      · rw [if_neg (by omega), if_neg (by omega)]
        by_cases hs : sh (nb g p (pm v5))
        · rw [r_comesNo W1.1 bq (.inr (by rw [W1.2.2 _ hq, bi_t hs]; decide))]
          exact no (fun w => absurd hs w.2.2.2)
        · have he : We g cl sh p (nb g p (pm v5)) := ⟨⟨pm v5, pb, rfl⟩, ⟨hP, hq⟩, hc, hs⟩
          by_cases hm : μ1 20013 (nb g p (pm v5)) = -1
          · have rm := Bf_room V1.1 bq hm
            rw [r_comesYes W1.1 bq hm (by rw [W1.2.2 _ hq, bi_f hs]) (by omega)]
            simp only [ob]
            obtain ⟨V2, old⟩ := Wv_step (st' := mst (mst (mst μ1 20013 (nb g p (pm v5)) (μ1 20013 p + 1)) 20014 (μ1 20000 26) (nb g p (pm v5))) 20000 26 (μ1 20000 26 + 1) 20013) (qu' := mst (mst (mst μ1 20013 (nb g p (pm v5)) (μ1 20013 p + 1)) 20014 (μ1 20000 26) (nb g p (pm v5))) 20000 26 (μ1 20000 26 + 1) 20014) V1 l1 bq (by rw [p1]; exact he) hm (by rw [p1]; simp (disch := omega) only [mst_n, mst_s, mst_j, ]) (fun x hx => by simp (disch := omega) only [mst_n, mst_s, mst_j, ]) (by simp (disch := omega) only [mst_n, mst_s, mst_j, ]) (fun x hx => by simp (disch := omega) only [mst_n, mst_s, mst_j, ])
            have oo := old hd V1.1.1.1 l1
            rw [p1] at oo
            refine go _ f1.cm (by rw [mst_s]; exact V2) ⟨by rw [mst_s]; omega, oo.1⟩ (fun k a b he2 => ?_)
            rw [oo.2]
            by_cases z : nb g p (pm k) = nb g p (pm v5)
            · rw [z]; simp (disch := omega) only [mst_n, mst_s, mst_j, ]; omega
            · have := d1 k a (by apply Classical.byContradiction; intro ng; exact z (by rw [show k = v5 by omega])) he2
              rw [mst_n (by decide), mst_n (by decide), mst_j z]; exact this
          · rw [r_comesNo W1.1 bq (.inl (Bf_v V1.1 bq hm))]
            refine no (fun _ => ⟨hm, ?_⟩)
            obtain ⟨i, i0, i1, i2⟩ := V1.1.2.2.1 _ bq.1 bq.2 hm
            have := V1.1.2.2.2.2 l1 i i0 i1
            rw [i2, p1] at this; exact this
      · by_cases z : cl < g (6 + nb g p (pm v5)) - g (6 + p)
        · rw [if_pos z]; exact no (fun w => absurd w.2.2.1 hc)
        · rw [if_neg z, if_pos (by omega)]; exact no (fun w => absurd w.2.2.1 hc)
theorem r_walks (hW : Wr μ l g sh) (hL : LdOk g) (hcl : 0 ≤ cl ∧ cl ≤ 999) (hS : ∀ q, S q → Pl g q) (hV : Wv (We g cl sh) S (μ 20013) (μ 20014) (μ 20000 26) 0) : Ev (fX11_walks 20000 l cl μ) (fun μ' => Fr [20013, 20014] [26] μ μ' ∧ ∀ q, 0 ≤ q → q < 144 → DG (We g cl sh) S (fun x => x = q) (μ' 20013 q)) := by
  have hE : ∀ p q, We g cl sh p q → Pl g q := fun p q h => h.2.1.2
  have hE' : ∀ p q, We g cl sh p q → 0 ≤ q ∧ q < 144 := fun p q h => Pl.i hL h.2.1.2
  have hS' : ∀ q, S q → 0 ≤ q ∧ q < 144 := fun q h => Pl.i hL (hS q h)
  unfold fX11_walks
  refine Ev_bind (Ev_lop (P := fun μ' => Fr [20013, 20014] [26] μ μ' ∧ ∀ q, 0 ≤ q → q < 144 → DG (We g cl sh) S (fun x => x = q) (μ' 20013 q)) (fun t => Fr [20013, 20014] [26] μ t.2 ∧ Wv (We g cl sh) S (t.2 20013) (t.2 20014) (t.2 20000 26) t.1) (fun t => (144 - t.1).toNat) ⟨Fr.rf, hV⟩ (by unfold FU; dsimp only; omega) ?_) (fun r h => Ev_some h)
  rintro ⟨v3, μ1⟩ ⟨f1, V1⟩
  dsimp only at f1 V1 ⊢
  have W1 := hW.fr f1
  have ll := Bf_len V1.1; have h0 := V1.1.1.1; have h1 := V1.1.1.2.1
  unfold sX11_walks_2
  dsimp only
  simp (disch := omega) only [w32_eq, w64_eq, chk_T, chk_t, lt, lm, ob, Int.add_zero, Int.zero_add, true_and, and_true, if_true, if_false, K20000, K20001, K20002, K20003, K20004, K20005, K20006, K20007, K20008, K20009, K20010, K20011, K20012, K20013, K20014, K20015, K20016, K20017, K20018, K20019, N20001, N20002, N20003, N20004, N20005, N20006, N20007, N20008, N20009, N20010, N20011, N20012, N20013, N20014, N20015, N20016, N20017, N20018, N20019, ]
  refine Ev_ite (fun w => Ev_out ⟨f1, fun q a c => Bf_all V1.1 hS' hE' V1.2.1 V1.2.2 w ⟨a, c⟩⟩) (fun w => ?_)
  simp (disch := omega) only [w32_eq, w64_eq, chk_T, chk_t, lt, lm, ob, Int.add_zero, Int.zero_add, true_and, and_true, if_true, if_false, K20000, K20001, K20002, K20003, K20004, K20005, K20006, K20007, K20008, K20009, K20010, K20011, K20012, K20013, K20014, K20015, K20016, K20017, K20018, K20019, N20001, N20002, N20003, N20004, N20005, N20006, N20007, N20008, N20009, N20010, N20011, N20012, N20013, N20014, N20015, N20016, N20017, N20018, N20019, Md_27 W1.1]
  refine Ev_bind (r_sides W1 hL hcl hS V1 (by omega) rfl) (fun μ2 ⟨f2, V2⟩ => ?_)
  try simp (disch := omega) only [w32_eq, w64_eq, chk_T, chk_t, lt, lm, ob, Int.add_zero, Int.zero_add, true_and, and_true, if_true, if_false, ]
  exact Ev_in ⟨f1.tr f2, V2⟩ (by first | omega | (dsimp only; omega) | (dsimp only))
end
