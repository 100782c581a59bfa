/-! ===== how wrong a sketch is: wrong, nearest ===== -/
noncomputable def sm (f : Int → Int) : Nat → Int
  | 0 => 0
  | n + 1 => sm f n + f n
theorem sm_s {f : Int → Int} {i : Int} (h : 0 ≤ i) : sm f (i + 1).toNat = sm f i.toNat + f i := by
  have e : (i + 1).toNat = i.toNat + 1 := by omega
  rw [e]; show sm f i.toNat + f (i.toNat : Int) = _; rw [Int.toNat_of_nonneg h]
theorem sm_b {f : Int → Int} : ∀ n : Nat, (∀ i : Int, 0 ≤ i → i < n → 0 ≤ f i ∧ f i ≤ 12) → 0 ≤ sm f n ∧ sm f n ≤ 12 * n
  | 0, _ => by simp [sm]
  | n + 1, h => by
    have ih := sm_b n (fun i a b => h i a (by omega))
    have := h n (by omega) (by omega)
    show 0 ≤ sm f n + f n ∧ sm f n + f n ≤ _; omega
theorem sm_m {f : Int → Int} {n : Nat} : ∀ m : Nat, n ≤ m → (∀ i : Int, n ≤ i → i < m → 0 ≤ f i) → sm f n ≤ sm f m
  | 0, h, _ => by have : n = 0 := by omega
                  subst this; exact Int.le_refl _
  | m + 1, h, hf => by
    by_cases e : n = m + 1
    · subst e; exact Int.le_refl _
    · have := sm_m m (by omega) (fun i a b => hf i a (by omega))
      have := hf m (by omega) (by omega)
      show _ ≤ sm f m + f m; omega
noncomputable def wf (g s : Int → Int) (p st i : Int) : Int := ct (fun k => ¬ar g s p st k i) i.toNat
noncomputable def wrs (g s : Int → Int) (p st : Int) : Int := sm (wf g s p st) (s 0).toNat
theorem wf_b {g s : Int → Int} {p st i : Int} (h : 0 ≤ i) : 0 ≤ wf g s p st i ∧ wf g s p st i ≤ i := by
  have := ct_b (fun k => ¬ar g s p st k i) i.toNat; unfold wf; omega
theorem wrs_b {g s : Int → Int} {p st : Int} (hO : SkOk s) : 0 ≤ wrs g s p st ∧ wrs g s p st ≤ 144 := by
  have o := hO.1
  have := sm_b (f := wf g s p st) (s 0).toNat (fun i a b => by have := wf_b (g := g) (s := s) (p := p) (st := st) a; omega)
  unfold wrs; omega
/-- the least wrong, and the first place where -/
def NrS (g s : Int → Int) (n bp lw : Int) : Prop := (bp = -1 ∧ ∀ p, 0 ≤ p → p < n → ¬cb g s p) ∨ ((0 ≤ bp ∧ bp < n) ∧ cb g s bp ∧ (∃ st, 0 ≤ st ∧ st < hN g bp ∧ wrs g s bp st = lw) ∧ (∀ p st, 0 ≤ p → p < n → cb g s p → 0 ≤ st → st < hN g p → lw ≤ wrs g s p st) ∧ ∀ p st, 0 ≤ p → p < bp → cb g s p → 0 ≤ st → st < hN g p → lw < wrs g s p st)
theorem NrS_u {g s : Int → Int} {n a x c y : Int} (h : NrS g s n a x) (k : NrS g s n c y) : a = c ∧ (a ≠ -1 → x = y) := by
  rcases h with ⟨e, h⟩ | ⟨h1, h2, ⟨t, t0, t1, t2⟩, h4, h5⟩ <;> rcases k with ⟨f, k⟩ | ⟨k1, k2, ⟨u, u0, u1, u2⟩, k4, k5⟩
  · exact ⟨by omega, fun w => absurd e w⟩
  · exact absurd k2 (h c k1.1 k1.2)
  · exact absurd h2 (k a h1.1 h1.2)
  · have p1 := h4 c u k1.1 k1.2 k2 u0 u1; have p2 := k4 a t h1.1 h1.2 h2 t0 t1
    have e : x = y := by omega
    rcases Int.lt_trichotomy a c with z | z | z
    · have := k5 a t h1.1 z h2 t0 t1; omega
    · exact ⟨z, fun _ => e⟩
    · have := h5 c u k1.1 z k2 u0 u1; omega
def ZNear (b : Int → Int) (n k u r : Int) : Prop := ((isL b n ∧ isS b k) ∧ ∃ bp lw, NrS (lg b n) (ls b k) (np (lg b n)) bp lw ∧ r = if u = 0 then bp else if bp = -1 then -1 else lw) ∨ (¬(isL b n ∧ isS b k) ∧ r = -1)
theorem ZNear_u {b : Int → Int} {n k u r t : Int} (h : ZNear b n k u r) (q : ZNear b n k u t) : r = t := by
  rcases h with ⟨c, bp, lw, h, e⟩ | ⟨c, e⟩ <;> rcases q with ⟨d, bp', lw', h', e'⟩ | ⟨d, e'⟩
  · have w := NrS_u h h'
    rw [e, e', w.1]
    by_cases z : u = 0
    · rw [if_pos z, if_pos z]
    · rw [if_neg z, if_neg z]
      by_cases y : bp' = -1
      · rw [if_pos y, if_pos y]
      · rw [if_neg y, if_neg y]; exact w.2 (by rw [w.1]; exact y)
  · exact absurd c d
  · exact absurd d c
  · omega
noncomputable def zzWrong (b : Int → Int) (n k p st : Int) : Int := sel (((isL b n ∧ isS b k) ∧ Pl (lg b n) p ∧ 0 ≤ st ∧ st < hN (lg b n) p) ∧ cb (lg b n) (ls b k) p) (wrs (lg b n) (ls b k) p st) (-1)
section
variable {μ : Mm} {l z p st i k y : Int} {g s : Int → Int}
theorem r_wrongs (hM : Md μ) (hG : G μ l g) (hS : Gs μ z s) (hO : SkOk s) (hL : LdOk g) (hp : Pl g p) (hH : Hp μ g p) (hc : cb g s p) (hs : 0 ≤ st ∧ st < hN g p) : fX11_wrongs 20000 l z p st μ = some (wrs g s p st) := by
  have hz := hS.1; have o := hO.1
  apply Ev.eq
  unfold fX11_wrongs
  refine Ev_bind (Ev_lop (P := fun r => r = wrs g s p st) (fun t => (0 ≤ t.2 ∧ t.2 ≤ s 0) ∧ t.1 = sm (wf g s p st) t.2.toNat) (fun t => (s 0 - t.2).toNat) ⟨(by first | omega | (dsimp only; omega) | (dsimp only)), rfl⟩ (by unfold FU; dsimp only; omega) ?_) (fun r h => Ev_some h)
  rintro ⟨v5, v6⟩ ⟨k1, k2⟩
  dsimp only at k1 k2 ⊢
  have sb := sm_b (f := wf g s p st) v6.toNat (fun i a b => by have := wf_b (g := g) (s := s) (p := p) (st := st) a; omega)
  unfold sX11_wrongs_6
  dsimp only
  simp (disch := omega) only [w32_eq, w64_eq, chk_T, chk_t, lt, lm, ob, Int.add_zero, Int.zero_add, true_and, and_true, if_true, if_false, K20000, K20001, K20002, K20003, K20004, K20005, K20006, K20007, K20008, K20009, K20010, K20011, K20012, K20013, K20014, K20015, K20016, K20017, K20018, K20019, N20001, N20002, N20003, N20004, N20005, N20006, N20007, N20008, N20009, N20010, N20011, N20012, N20013, N20014, N20015, N20016, N20017, N20018, N20019, Md_0 hM, hS.r0]
  refine Ev_ite (fun w => Ev_out ?_) (fun w => ?_)
  · have e : v6 = s 0 := by omega
    rw [e] at k2; exact k2
  · refine Ev_bind (Ev_lop (P := fun r => r = v5 + wf g s p st v6) (fun t => (0 ≤ t.2 ∧ t.2 ≤ v6) ∧ t.1 = v5 + ct (fun k => ¬ar g s p st k v6) t.2.toNat) (fun t => (v6 - t.2).toNat) ⟨(by first | omega | (dsimp only; omega) | (dsimp only)), ?_⟩ (by unfold FU; dsimp only; omega) ?_) (fun r hr => ?_)
    · dsimp only; have : ct (fun k => ¬ar g s p st k v6) (0 : Int).toNat = 0 := rfl
      rw [this, Int.add_zero]
    · rintro ⟨a, v7⟩ ⟨q1, q2⟩
      dsimp only at q1 q2 ⊢
      have cb1 := ct_b (fun k => ¬ar g s p st k v6) v7.toNat
      unfold sX11_wrongs_20
      dsimp only
      refine Ev_ite (fun w => Ev_out ?_) (fun w => ?_)
      · have e : v7 = v6 := by omega
        rw [e] at q2; exact q2
      · have es := ct_s (P := fun k => ¬ar g s p st k v6) q1.1
        simp (disch := omega) only [w32_eq, w64_eq, chk_T, chk_t, lt, lm, ob, Int.add_zero, Int.zero_add, true_and, and_true, if_true, if_false, K20000, K20001, K20002, K20003, K20004, K20005, K20006, K20007, K20008, K20009, K20010, K20011, K20012, K20013, K20014, K20015, K20016, K20017, K20018, K20019, N20001, N20002, N20003, N20004, N20005, N20006, N20007, N20008, N20009, N20010, N20011, N20012, N20013, N20014, N20015, N20016, N20017, N20018, N20019, r_areRight hM hG hS hO hL hp hH hc hs (i := v6) (k := v7) (by omega) (by omega), bi_if]
        by_cases u : ar g s p st v7 v6
        · rw [sel_t u]
          rw [bi_f (fun v => v u)] at es
          exact Ev_in ⟨(by first | omega | (dsimp only; omega) | (dsimp only)), (by first | omega | (dsimp only; omega) | (dsimp only))⟩ (by first | omega | (dsimp only; omega) | (dsimp only))
        · rw [sel_f u]
          rw [bi_t u] at es
          exact Ev_in ⟨(by first | omega | (dsimp only; omega) | (dsimp only)), (by first | omega | (dsimp only; omega) | (dsimp only))⟩ (by first | omega | (dsimp only; omega) | (dsimp only))
    · have es := sm_s (f := wf g s p st) k1.1
      exact Ev_in ⟨(by first | omega | (dsimp only; omega) | (dsimp only)), by dsimp only; rw [es, hr, k2]⟩ (by first | omega | (dsimp only; omega) | (dsimp only))
end
section
variable {μ : Mm} {b : Int → Int}
theorem rr_wrong (hM : Md μ) (hDt : Dt μ) (hb : μ 20001 = b) (hA : AOk b) (n k p st : Int) : Ev (fX11_wrong 20000 n k p st μ) (fun r => r.1 = zzWrong b n k p st) := by
  unfold fX11_wrong zzWrong
  simp (disch := omega) only [w32_eq, w64_eq, chk_T, chk_t, lt, lm, ob, Int.add_zero, Int.zero_add, true_and, and_true, if_true, if_false, K20000, K20001, K20002, K20003, K20004, K20005, K20006, K20007, K20008, K20009, K20010, K20011, K20012, K20013, K20014, K20015, K20016, K20017, K20018, K20019, N20001, N20002, N20003, N20004, N20005, N20006, N20007, N20008, N20009, N20010, N20011, N20012, N20013, N20014, N20015, N20016, N20017, N20018, N20019, ]
  refine Ev_bind (r_isStart hM hDt hb hA n k p st) ?_
  rintro ⟨r, μ1⟩ ⟨f1, e1, h1⟩
  dsimp only at f1 e1 h1 ⊢
  subst e1
  rw [bi_if]
  by_cases w : (isL b n ∧ isS b k) ∧ Pl (lg b n) p ∧ 0 ≤ st ∧ st < hN (lg b n) p
  · obtain ⟨nn, kk, hD, hO, hG, hS⟩ := r_two hb hA w.1
    have M1 := f1.md hM (by decide)
    have S1 := hS.fr f1 (by decide)
    have H1 := h1 w.1 w.2.1
    rw [sel_t w, r_placeOf1 kk]
    simp (disch := omega) only [w32_eq, w64_eq, chk_T, chk_t, lt, lm, ob, Int.add_zero, Int.zero_add, true_and, and_true, if_true, if_false, K20000, K20001, K20002, K20003, K20004, K20005, K20006, K20007, K20008, K20009, K20010, K20011, K20012, K20013, K20014, K20015, K20016, K20017, K20018, K20019, N20001, N20002, N20003, N20004, N20005, N20006, N20007, N20008, N20009, N20010, N20011, N20012, N20013, N20014, N20015, N20016, N20017, N20018, N20019, r_canBe M1 S1 hO hD w.2.1 H1, bi_if]
    by_cases hc : cb (lg b n) (ls b k) p
    · rw [sel_t hc, sel_t ⟨w, hc⟩, r_placeOf nn]
      simp only [ob]
      rw [r_wrongs M1 (hG.fr f1 (by decide)) S1 hO hD w.2.1 H1 hc w.2.2]
      simp only [ob]
      exact Ev_some rfl
    · rw [sel_f hc, sel_f (fun v => hc v.2)]; exact Ev_some rfl
  · rw [sel_f w, sel_f (fun v => w v.1)]; exact Ev_some rfl
theorem rr_nearest (hM : Md μ) (hDt : Dt μ) (hb : μ 20001 = b) (hA : AOk b) (n k u : Int) : Ev (fX11_nearest 20000 n k u μ) (fun r => ZNear b n k u r.1) := by
  unfold fX11_nearest
  simp (disch := omega) only [w32_eq, w64_eq, chk_T, chk_t, lt, lm, ob, Int.add_zero, Int.zero_add, true_and, and_true, if_true, if_false, K20000, K20001, K20002, K20003, K20004, K20005, K20006, K20007, K20008, K20009, K20010, K20011, K20012, K20013, K20014, K20015, K20016, K20017, K20018, K20019, N20001, N20002, N20003, N20004, N20005, N20006, N20007, N20008, N20009, N20010, N20011, N20012, N20013, N20014, N20015, N20016, N20017, N20018, N20019, r_areBoth hM hb hA, bi_if]
  by_cases h : isL b n ∧ isS b k
  · obtain ⟨nn, kk, hD, hO, hG, hS⟩ := r_two hb hA h
    have hz := hS.1; have nb := np_b hD
    rw [sel_t h, r_placeOf nn, r_placeOf1 kk]
    simp only [ob]
    generalize 710 + 200 * n = l at *
    generalize 1110 + 32 * k = z at *
    refine Ev_bind (r_survey hM hG hDt hD) (fun μ1 ⟨f1, H1⟩ => ?_)
    have M1 := f1.md hM (by decide)
    have G1 := hG.fr f1 (by decide); have S1 := hS.fr f1 (by decide)
    refine Ev_bind (Ev_lop (P := fun x => NrS (lg b n) (ls b k) (np (lg b n)) x.1 x.2) (fun t => (0 ≤ t.2.2 ∧ t.2.2 ≤ np (lg b n)) ∧ NrS (lg b n) (ls b k) t.2.2 t.1 t.2.1) (fun t => (np (lg b n) - t.2.2).toNat) ⟨(by first | omega | (dsimp only; omega) | (dsimp only)), .inl ⟨rfl, fun p a c => by dsimp only at c; omega⟩⟩ (by unfold FU; dsimp only; omega) ?_) ?_
    · rintro ⟨v6, v7, v8⟩ ⟨k1, k2⟩
      dsimp only at k1 k2 ⊢
      unfold sX11_nearest_40
      dsimp only
      simp (disch := omega) only [w32_eq, w64_eq, chk_T, chk_t, lt, lm, ob, Int.add_zero, Int.zero_add, true_and, and_true, if_true, if_false, K20000, K20001, K20002, K20003, K20004, K20005, K20006, K20007, K20008, K20009, K20010, K20011, K20012, K20013, K20014, K20015, K20016, K20017, K20018, K20019, N20001, N20002, N20003, N20004, N20005, N20006, N20007, N20008, N20009, N20010, N20011, N20012, N20013, N20014, N20015, N20016, N20017, N20018, N20019, r_placesOf M1 G1 hD]
      refine Ev_ite (fun w => Ev_out ?_) (fun w => ?_)
      · have e : v8 = np (lg b n) := by omega
        rw [e] at k2; exact k2
      · have hp : Pl (lg b n) v8 := ⟨by omega, by omega⟩
        have bp := Pl.i hD hp; have hbb := hN_b hD hp
        have H := H1 v8 hp
        refine Ev_bind (Ev_lop (P := fun x => NrS (lg b n) (ls b k) (v8 + 1) x.1 x.2) (fun t => (0 ≤ t.2.2 ∧ t.2.2 ≤ hN (lg b n) v8) ∧ ((t.1 = -1 ∧ (∀ p, 0 ≤ p → p < v8 → ¬cb (lg b n) (ls b k) p) ∧ (t.2.2 = 0 ∨ ¬cb (lg b n) (ls b k) v8)) ∨ ((0 ≤ t.1 ∧ t.1 ≤ v8) ∧ cb (lg b n) (ls b k) t.1 ∧ (∃ st, 0 ≤ st ∧ st < hN (lg b n) t.1 ∧ wrs (lg b n) (ls b k) t.1 st = t.2.1) ∧ (∀ p st, 0 ≤ p → p < v8 → cb (lg b n) (ls b k) p → 0 ≤ st → st < hN (lg b n) p → t.2.1 ≤ wrs (lg b n) (ls b k) p st) ∧ (∀ st, 0 ≤ st → st < t.2.2 → cb (lg b n) (ls b k) v8 → t.2.1 ≤ wrs (lg b n) (ls b k) v8 st) ∧ ∀ p st, 0 ≤ p → p < t.1 → cb (lg b n) (ls b k) p → 0 ≤ st → st < hN (lg b n) p → t.2.1 < wrs (lg b n) (ls b k) p st))) (fun t => (hN (lg b n) v8 - t.2.2).toNat) ⟨(by first | omega | (dsimp only; omega) | (dsimp only)), ?_⟩ (by unfold FU; dsimp only; omega) ?_) ?_
        · dsimp only
          rcases k2 with ⟨e, q⟩ | ⟨a, c, d, e, f⟩
          · exact .inl ⟨e, q, .inl rfl⟩
          · exact .inr ⟨by omega, c, d, e, fun st s0 s1 => by omega, f⟩
        · rintro ⟨a6, a7, a9⟩ ⟨q1, q2⟩
          dsimp only at q1 q2 ⊢
          have fin : (a9 = hN (lg b n) v8 ∨ ¬cb (lg b n) (ls b k) v8) → NrS (lg b n) (ls b k) (v8 + 1) a6 a7 := by
            intro hh
            rcases q2 with ⟨e, q, r⟩ | ⟨a, c, d, e, e2, f⟩
            · refine .inl ⟨e, fun p x x' => ?_⟩
              by_cases v : p = v8
              · subst v
                rcases r with r | r
                · rcases hh with hh | hh
                  · intro hc; have := hc.1; omega
                  · exact hh
                · exact r
              · exact q p x (by omega)
            · refine .inr ⟨by omega, c, d, fun p st x x' hc s0 s1 => ?_, f⟩
              by_cases v : p = v8
              · subst v
                rcases hh with hh | hh
                · exact e2 st s0 (by omega) hc
                · exact absurd hc hh
              · exact e p st x (by omega) hc s0 s1
          unfold sX11_nearest_54
          dsimp only
          simp (disch := omega) only [w32_eq, w64_eq, chk_T, chk_t, lt, lm, ob, Int.add_zero, Int.zero_add, true_and, and_true, if_true, if_false, K20000, K20001, K20002, K20003, K20004, K20005, K20006, K20007, K20008, K20009, K20010, K20011, K20012, K20013, K20014, K20015, K20016, K20017, K20018, K20019, N20001, N20002, N20003, N20004, N20005, N20006, N20007, N20008, N20009, N20010, N20011, N20012, N20013, N20014, N20015, N20016, N20017, N20018, N20019, Md_16 M1, H.1, r_canBe M1 S1 hO hD hp H, bi_if]
          refine Ev_ite (fun w => Ev_out (fin (.inl (by clear q2 k2; omega)))) (fun w => ?_)
          by_cases hc : cb (lg b n) (ls b k) v8
          · rw [sel_t hc, r_wrongs M1 G1 S1 hO hD hp H hc (st := a9) (by clear q2 k2; omega)]
            simp only [ob]
            have new : (a6 < 0 ∨ wrs (lg b n) (ls b k) v8 a9 < a7) → Ev (some (Sum.inl (v8, wrs (lg b n) (ls b k) v8 a9, a9 + 1)) : Option ((Int × Int × Int) ⊕ (Int × Int))) (Nx (fun t => (0 ≤ t.2.2 ∧ t.2.2 ≤ hN (lg b n) v8) ∧ ((t.1 = -1 ∧ (∀ p, 0 ≤ p → p < v8 → ¬cb (lg b n) (ls b k) p) ∧ (t.2.2 = 0 ∨ ¬cb (lg b n) (ls b k) v8)) ∨ ((0 ≤ t.1 ∧ t.1 ≤ v8) ∧ cb (lg b n) (ls b k) t.1 ∧ (∃ st, 0 ≤ st ∧ st < hN (lg b n) t.1 ∧ wrs (lg b n) (ls b k) t.1 st = t.2.1) ∧ (∀ p st, 0 ≤ p → p < v8 → cb (lg b n) (ls b k) p → 0 ≤ st → st < hN (lg b n) p → t.2.1 ≤ wrs (lg b n) (ls b k) p st) ∧ (∀ st, 0 ≤ st → st < t.2.2 → cb (lg b n) (ls b k) v8 → t.2.1 ≤ wrs (lg b n) (ls b k) v8 st) ∧ ∀ p st, 0 ≤ p → p < t.1 → cb (lg b n) (ls b k) p → 0 ≤ st → st < hN (lg b n) p → t.2.1 < wrs (lg b n) (ls b k) p st))) (fun t => (hN (lg b n) v8 - t.2.2).toNat) (fun x => NrS (lg b n) (ls b k) (v8 + 1) x.1 x.2) (hN (lg b n) v8 - a9).toNat) := by
              intro hw
              refine Ev_in ⟨by clear q2 k2; dsimp only; omega, .inr ⟨by clear q2 k2; dsimp only; omega, hc, ⟨a9, q1.1, by clear q2 k2; dsimp only; omega, rfl⟩, ?_⟩⟩ (by clear q2 k2; dsimp only; omega)
              dsimp only
              rcases q2 with ⟨e, q, r⟩ | ⟨a, c, d, e, e2, f⟩
              · refine ⟨fun p st x x' hc' => absurd hc' (q p x x'), fun st s0 s1 _ => ?_, fun p st x x' hc' => absurd hc' (q p x x')⟩
                rcases r with r | r
                · have : st = a9 := by omega
                  rw [this]; exact Int.le_refl _
                · exact absurd hc r
              · have hlt : wrs (lg b n) (ls b k) v8 a9 < a7 := by rcases hw with hw | hw <;> omega
                refine ⟨fun p st x x' hc' s0 s1 => ?_, fun st s0 s1 hc' => ?_, fun p st x x' hc' s0 s1 => ?_⟩
                · have := e p st x x' hc' s0 s1; omega
                · by_cases v : st = a9
                  · rw [v]; exact Int.le_refl _
                  · have := e2 st s0 (by clear d k2; omega) hc'; omega
                · have := e p st x x' hc' s0 s1; omega
            refine Ev_ite (fun w2 => new (.inl w2)) (fun w2 => Ev_ite (fun w3 => new (.inr w3)) (fun w3 => ?_))
            refine Ev_in ⟨by clear q2 k2; dsimp only; omega, ?_⟩ (by clear q2 k2; dsimp only; omega)
            dsimp only
            rcases q2 with ⟨e, q, r⟩ | ⟨a, c, d, e, e2, f⟩
            · omega
            · refine .inr ⟨a, c, d, e, fun st s0 s1 hc' => ?_, f⟩
              by_cases v : st = a9
              · rw [v]; clear d k2; omega
              · exact e2 st s0 (by clear d k2; omega) hc'
          · rw [sel_f hc]; exact Ev_out (fin (.inr hc))
        · rintro ⟨x6, x7⟩ hx
          dsimp only
          exact Ev_in ⟨by clear k2; dsimp only; omega, hx⟩ (by clear k2; dsimp only; omega)
    · rintro ⟨x6, x7⟩ hx
      dsimp only at hx ⊢
      refine Ev_ite (fun w => Ev_some (.inl ⟨h, x6, x7, hx, ?_⟩)) (fun w => Ev_ite (fun w2 => Ev_some (.inl ⟨h, x6, x7, hx, ?_⟩)) (fun w2 => Ev_some (.inl ⟨h, x6, x7, hx, ?_⟩)))
      · have e : x6 = -1 := by
          rcases hx with ⟨e, _⟩ | ⟨a, _⟩
          · exact e
          · omega
        dsimp only; rw [e]; split <;> rfl
      · dsimp only; rw [if_pos w2]
      · dsimp only; rw [if_neg w2, if_neg (by omega)]
  · rw [sel_f h]; exact Ev_some (.inr ⟨h, rfl⟩)
end
