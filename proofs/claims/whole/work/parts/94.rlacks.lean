/-! ===== lacks of the reference ===== -/
section
variable {μ μ' : Mm} {b : Int → Int}
theorem rr_lacks (hM : Md μ) (hDt : Dt μ) (hb : μ 20001 = b) (hA : AOk b) (n k p c : Int) : Ev (fX11_lacks 20000 n k p c μ) (fun r => ZLacks b n k p c r.1 ∧ r.2 20001 = μ 20001) := by
  unfold fX11_lacks
  simp (disch := omega) only [w32_eq, w64_eq, chk_T, chk_t, lt, lm, ob, Int.add_zero, Int.zero_add, true_and, and_true, if_true, if_false, K20000, K20001, K20002, K20003, K20004, K20005, K20006, K20007, K20008, K20009, K20010, K20011, K20012, K20013, K20014, K20015, K20016, K20017, K20018, K20019, N20001, N20002, N20003, N20004, N20005, N20006, N20007, N20008, N20009, N20010, N20011, N20012, N20013, N20014, N20015, N20016, N20017, N20018, N20019, r_areBoth hM hb hA, bi_if]
  by_cases h : isL b n ∧ isS b k
  · obtain ⟨nn, kk, hD, hO, hG, hS⟩ := r_two hb hA h
    rw [sel_t h, r_areTwo hM hb hA]
    simp only [ob, bi_if]
    by_cases h2 : isP b n p ∧ Pl (lg b n) c ∧ p ≠ c
    · have bc := Pl.i hD h2.2.1; have hp := h2.1.2
      have hz := hS.1
      rw [sel_t h2, r_placeOf nn]
      simp only [ob]
      have e1 := hG.rd (i := 6 + c) (by omega) (by omega)
      rw [← Int.add_assoc] at e1
      simp (disch := omega) only [w32_eq, w64_eq, chk_T, chk_t, lt, lm, ob, Int.add_zero, Int.zero_add, true_and, and_true, if_true, if_false, K20000, K20001, K20002, K20003, K20004, K20005, K20006, K20007, K20008, K20009, K20010, K20011, K20012, K20013, K20014, K20015, K20016, K20017, K20018, K20019, N20001, N20002, N20003, N20004, N20005, N20006, N20007, N20008, N20009, N20010, N20011, N20012, N20013, N20014, N20015, N20016, N20017, N20018, N20019, Md_0 hM, e1]
      generalize hl : 710 + 200 * n = l at *
      have hl2 := hG.1
      refine Ev_bind (Ev_lop (P := fun r => Md r.2 ∧ (∀ i, i ≠ l + 6 + c → r.2 20001 i = μ 20001 i) ∧ Fi (fun h => ftp (gc (lg b n) c h) (ls b k) (-1) p) 1000 r.1) (fun t => (0 ≤ t.2.1 ∧ t.2.1 ≤ 1000) ∧ Fr [20001, 20006, 20007, 20008] [14] μ t.2.2 ∧ (∀ i, i ≠ l + 6 + c → t.2.2 20001 i = μ 20001 i) ∧ ((t.1 = -1 ∧ ∀ h', 0 ≤ h' → h' < t.2.1 → ¬ftp (gc (lg b n) c h') (ls b k) (-1) p) ∨ ((0 ≤ t.1 ∧ t.1 < 1000) ∧ ftp (gc (lg b n) c t.1) (ls b k) (-1) p ∧ ∀ h', 0 ≤ h' → h' < t.1 → ¬ftp (gc (lg b n) c h') (ls b k) (-1) p))) (fun t => (1000 - t.2.1).toNat) ⟨(by first | omega | (dsimp only; omega) | (dsimp only)), Fr.rf, fun _ _ => rfl, .inl ⟨rfl, fun h' a d => by dsimp only at d; omega⟩⟩ (by unfold FU; dsimp only; omega) ?_) ?_
      · rintro ⟨v7, v8, μ1⟩ ⟨k1, f1, o1, k2⟩
        dsimp only at k1 f1 o1 k2 ⊢
        have M1 := f1.md hM (by decide)
        unfold sX11_lacks_50
        dsimp only
        refine Ev_ite (fun y => Ev_out ⟨M1, o1, ?_⟩) (fun y => ?_)
        · dsimp only
          rcases k2 with ⟨a, d⟩ | ⟨a, d, e⟩
          · exact .inr ⟨a, fun h' x y => d h' x (by omega)⟩
          · exact .inl ⟨a.1, a.2, d, e⟩
        refine Ev_ite (fun y2 => Ev_out ⟨M1, o1, ?_⟩) (fun y2 => ?_)
        · dsimp only
          rcases k2 with ⟨a, d⟩ | ⟨a, d, e⟩
          · omega
          · exact .inl ⟨a.1, a.2, d, e⟩
        have no : ∀ h', 0 ≤ h' → h' < v8 → ¬ftp (gc (lg b n) c h') (ls b k) (-1) p := by
          rcases k2 with ⟨a, d⟩ | ⟨a, d, e⟩
          · exact d
          · omega
        simp (disch := omega) only [w32_eq, w64_eq, chk_T, chk_t, lt, lm, ob, Int.add_zero, Int.zero_add, true_and, and_true, if_true, if_false, K20000, K20001, K20002, K20003, K20004, K20005, K20006, K20007, K20008, K20009, K20010, K20011, K20012, K20013, K20014, K20015, K20016, K20017, K20018, K20019, N20001, N20002, N20003, N20004, N20005, N20006, N20007, N20008, N20009, N20010, N20011, N20012, N20013, N20014, N20015, N20016, N20017, N20018, N20019, Md_0 M1]
        have f2 : Fr [20001, 20006, 20007, 20008] [14] μ (mst μ1 20001 (l + 6 + c) v8) := f1.tr (Fr.row rfl rfl (by decide) (by decide))
        have M2 := f2.md hM (by decide)
        have D2 := hDt.fr f2 (by decide) (by decide) (by decide)
        have o2 : ∀ i, i ≠ l + 6 + c → mst μ1 20001 (l + 6 + c) v8 20001 i = μ 20001 i := fun i hi => by rw [mst_j hi]; exact o1 i hi
        have G2 : G (mst μ1 20001 (l + 6 + c) v8) l (gc (lg b n) c v8) := by
          refine ⟨hl2, fun i i0 i1 => ?_⟩
          by_cases e : i = 6 + c
          · rw [e, gc_s, show l + (6 + c) = l + 6 + c by omega, mst_s]
          · rw [o2 _ (by omega), gc_n e]; exact hG.2 i i0 i1
        have S2 : Gs (mst μ1 20001 (l + 6 + c) v8) (1110 + 32 * k) (ls b k) := by
          refine ⟨hS.1, fun i i0 i1 => ?_⟩
          rw [o2 _ (by omega)]; exact hS.2 i i0 i1
        have hD2 := gc_ok (h := v8) hD bc (by omega)
        have hp2 : Pl (gc (lg b n) c v8) p := (gc_Pl bc.1).mpr hp
        refine Ev_bind (r_surveyAt M2 G2 D2 hD2 hp2) (fun μ3 ⟨f3, H3, _⟩ => ?_)
        rw [r_placeOf1 kk]
        simp only [ob]
        refine Ev_bind (r_fitsAt (yr := -1) (f3.md M2 (by decide)) (G2.fr f3 (by decide)) (S2.fr f3 (by decide)) hO hD2 hp2 H3) (fun r hr => ?_)
        have q := FtA_p hp2 hr
        have f13 := f2.tr (f3.mo (R' := [20001, 20006, 20007, 20008]) (L' := [14]) (by decide) (by decide))
        have o3 : ∀ i, i ≠ l + 6 + c → μ3 20001 i = μ 20001 i := by rw [f3.1 20001 (by decide) (by decide)]; exact o2
        refine Ev_ite (fun w => ?_) (fun w => ?_)
        · try simp (disch := omega) only [w32_eq, w64_eq, chk_T, chk_t, lt, lm, ob, Int.add_zero, Int.zero_add, true_and, and_true, if_true, if_false, ]
          refine Ev_in ⟨(by first | omega | (dsimp only; omega) | (dsimp only)), f13, o3, .inl ⟨?_, fun h' a d => ?_⟩⟩ (by first | omega | (dsimp only; omega) | (dsimp only))
          · dsimp only; rcases k2 with ⟨a, _⟩ | ⟨a, _⟩; exact a; omega
          · dsimp only at d
            by_cases e : h' = v8
            · rw [e]; intro z; have := q.mpr z; omega
            · exact no h' a (by omega)
        · try simp (disch := omega) only [w32_eq, w64_eq, chk_T, chk_t, lt, lm, ob, Int.add_zero, Int.zero_add, true_and, and_true, if_true, if_false, ]
          exact Ev_in ⟨(by first | omega | (dsimp only; omega) | (dsimp only)), f13, o3, .inr ⟨(by first | omega | (dsimp only; omega) | (dsimp only)), q.mp (by omega), no⟩⟩ (by first | omega | (dsimp only; omega) | (dsimp only))
      · rintro ⟨r, μ1⟩ ⟨M1, o1, fi⟩
        dsimp only at M1 o1 fi ⊢
        simp (disch := omega) only [w32_eq, w64_eq, chk_T, chk_t, lt, lm, ob, Int.add_zero, Int.zero_add, true_and, and_true, if_true, if_false, K20000, K20001, K20002, K20003, K20004, K20005, K20006, K20007, K20008, K20009, K20010, K20011, K20012, K20013, K20014, K20015, K20016, K20017, K20018, K20019, N20001, N20002, N20003, N20004, N20005, N20006, N20007, N20008, N20009, N20010, N20011, N20012, N20013, N20014, N20015, N20016, N20017, N20018, N20019, Md_0 M1]
        refine Ev_some ⟨.inl ⟨⟨h, hp, h2.2⟩, fi⟩, ?_⟩
        dsimp only
        funext i
        by_cases e : i = l + 6 + c
        · rw [e, mst_s, e1]
        · rw [mst_j e]; exact o1 i e
    · rw [sel_f h2]; exact Ev_some ⟨.inr ⟨fun u => h2 ⟨⟨h.1, u.2.1⟩, u.2.2⟩, rfl⟩, rfl⟩
  · rw [sel_f h]; exact Ev_some ⟨.inr ⟨fun u => h u.1, rfl⟩, rfl⟩
end
