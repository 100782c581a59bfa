/-! ===== known ===== -/
def KnS (g : Int → Int) (p r : Int) : Prop := ((1 ≤ r ∧ r ≤ hN g p ∧ r ≤ 12) ∧ (∃ st, 0 ≤ st ∧ st < hN g p ∧ rv g p st r = 0) ∧ ∀ m, 1 ≤ m → m < r → ∀ st, 0 ≤ st → st < hN g p → rv g p st m ≠ 0) ∨ (r = -1 ∧ ∀ m, 1 ≤ m → m ≤ hN g p → m ≤ 12 → ∀ st, 0 ≤ st → st < hN g p → rv g p st m ≠ 0)
theorem KnS_u {g : Int → Int} {p r t : Int} (h : KnS g p r) (k : KnS g p t) : r = t := by
  rcases h with ⟨a, ⟨s, s0, s1, s2⟩, d⟩ | ⟨a, d⟩ <;> rcases k with ⟨a', ⟨s', s0', s1', s2'⟩, d'⟩ | ⟨a', d'⟩
  · rcases Int.lt_trichotomy r t with z | z | z
    · exact absurd s2 (d' r a.1 z s s0 s1)
    · exact z
    · exact absurd s2' (d t a'.1 z s' s0' s1')
  · exact absurd s2 (d' r a.1 a.2.1 a.2.2 s s0 s1)
  · exact absurd s2' (d t a'.1 a'.2.1 a'.2.2 s' s0' s1')
  · omega
def ZKnown (b : Int → Int) (n p r : Int) : Prop := (isP b n p ∧ KnS (lg b n) p r) ∨ (¬isP b n p ∧ r = -1)
theorem rr_known {μ : Mm} {b : Int → Int} (hM : Md μ) (hDt : Dt μ) (hb : μ 20001 = b) (hA : AOk b) (n p : Int) : Ev (fX11_known 20000 n p μ) (fun r => ZKnown b n p r.1 ∧ ∀ x, x < 4960 → r.2 20001 x = b x) := by
  unfold fX11_known
  refine r_at hM hb hA (fun z => Ev_some ⟨.inr ⟨z, rfl⟩, fun x _ => by dsimp only; rw [hb]⟩) (fun z hD hG nn => ?_)
  generalize 710 + 200 * n = l at *
  have hbb := hN_b hD z.2; have bp := Pl.i hD z.2
  refine Ev_bind (r_survey hM hG hDt hD) (fun μ1 ⟨f1, H1⟩ => ?_)
  have M1 := f1.md hM (by decide)
  have G1 := hG.fr f1 (by decide)
  have e1 : μ1 20001 = b := (f1.1 20001 (by decide) (by decide)).trans hb
  refine Ev_bind (Ev_lopF (pj := pjX11_known_25) (P := fun x => (∃ μ', x = .inl μ' ∧ (∀ y, y < 4960 → μ' 20001 y = b y) ∧ KnS (lg b n) p (-1)) ∨ ∃ r μ', x = .inr (r, μ') ∧ (∀ y, y < 4960 → μ' 20001 y = b y) ∧ KnS (lg b n) p r) (fun s t h hM => frsX11_known_25 h hM) (by decide) M1 (fun t => (1 ≤ t.1 ∧ t.1 ≤ 13 ∧ t.1 ≤ hN (lg b n) p + 1) ∧ (∀ y, y < 4960 → t.2 20001 y = b y) ∧ ∀ m, 1 ≤ m → m < t.1 → ∀ st, 0 ≤ st → st < hN (lg b n) p → rv (lg b n) p st m ≠ 0) (fun t => (14 - t.1).toNat) ⟨(by first | omega | (dsimp only; omega) | (dsimp only)), fun y _ => by dsimp only; rw [e1], fun m a c => by dsimp only at c; omega⟩ (by unfold FU; dsimp only; omega) ?_) ?_
  · rintro ⟨v4, μ2⟩ M2 F2 ⟨k1, k2, k3⟩
    replace M2 : Md μ2 := M2
    replace F2 : Fr [20001, 20009] [18] μ1 μ2 := F2
    dsimp only at k1 k2 k3 ⊢
    have H2 : ∀ q, Pl (lg b n) q → Hp μ2 (lg b n) q := fun q hq => (H1 q hq).fr F2 (by decide) (by decide)
    unfold sX11_known_25
    dsimp only
    simp (disch := omega) only [w32_eq, w64_eq, chk_T, chk_t, lt, lm, ob, Int.add_zero, Int.zero_add, true_and, and_true, if_true, if_false, K20000, K20001, K20002, K20003, K20004, K20005, K20006, K20007, K20008, K20009, K20010, K20011, K20012, K20013, K20014, K20015, K20016, K20017, K20018, K20019, N20001, N20002, N20003, N20004, N20005, N20006, N20007, N20008, N20009, N20010, N20011, N20012, N20013, N20014, N20015, N20016, N20017, N20018, N20019, Md_16 M2, (H2 p z.2).1]
    refine Ev_ite (fun w => Ev_out (fun _ => .inl ⟨μ2, rfl, k2, .inr ⟨rfl, fun m a c d => k3 m a (by omega)⟩⟩)) (fun w => Ev_ite (fun w2 => Ev_out (fun _ => .inl ⟨μ2, rfl, k2, .inr ⟨rfl, fun m a c d => k3 m a (by omega)⟩⟩)) (fun w2 => ?_))
    refine Ev_bind (Ev_lopF (pj := pjX11_known_46) (P := fun x => (∃ μ', x = .inl μ' ∧ (∀ y, y < 4960 → μ' 20001 y = b y) ∧ ∀ st, 0 ≤ st → st < hN (lg b n) p → rv (lg b n) p st v4 ≠ 0) ∨ ∃ μ', x = .inr μ' ∧ (∀ y, y < 4960 → μ' 20001 y = b y) ∧ ∃ st, 0 ≤ st ∧ st < hN (lg b n) p ∧ rv (lg b n) p st v4 = 0) (fun s t h hM => frsX11_known_46 h hM) (by decide) M2 (fun t => (0 ≤ t.1 ∧ t.1 ≤ hN (lg b n) p) ∧ (∀ y, y < 4960 → t.2 20001 y = b y) ∧ ∀ st, 0 ≤ st → st < t.1 → rv (lg b n) p st v4 ≠ 0) (fun t => (hN (lg b n) p - t.1).toNat) ⟨(by first | omega | (dsimp only; omega) | (dsimp only)), k2, fun st a c => by dsimp only at c; omega⟩ (by unfold FU; dsimp only; omega) ?_) ?_
    · rintro ⟨v5, μ3⟩ M3 F3 ⟨q1, q2, q3⟩
      replace M3 : Md μ3 := M3
      replace F3 : Fr [20001, 20009] [18] μ2 μ3 := F3
      dsimp only at q1 q2 q3 ⊢
      have H3 : ∀ q, Pl (lg b n) q → Hp μ3 (lg b n) q := fun q hq => (H2 q hq).fr F3 (by decide) (by decide)
      have G3 : G μ3 l (lg b n) := G_keep G1 (fun x hx => by rw [q2 x (by omega), e1])
      unfold sX11_known_46
      dsimp only
      simp (disch := omega) only [w32_eq, w64_eq, chk_T, chk_t, lt, lm, ob, Int.add_zero, Int.zero_add, true_and, and_true, if_true, if_false, K20000, K20001, K20002, K20003, K20004, K20005, K20006, K20007, K20008, K20009, K20010, K20011, K20012, K20013, K20014, K20015, K20016, K20017, K20018, K20019, N20001, N20002, N20003, N20004, N20005, N20006, N20007, N20008, N20009, N20010, N20011, N20012, N20013, N20014, N20015, N20016, N20017, N20018, N20019, Md_16 M3, (H3 p z.2).1]
      refine Ev_ite (fun u => Ev_out (fun _ => .inl ⟨μ3, rfl, q2, fun st a c => q3 st a (by omega)⟩)) (fun u => ?_)
      refine Ev_bind (r_draws (z := 4960) (st := v5) (n := v4) M3 G3 hD z.2 (H3 p z.2) (by omega) (by omega) (by decide)) (fun μ4 ⟨f4, S4, o4⟩ => ?_)
      have M4 := f4.md M3 (by decide)
      have G4 : G μ4 l (lg b n) := G_keep G3 (fun x hx => o4 x (by omega))
      refine Ev_bind (r_rivalsOf (p := p) M4 G4 S4 (dw_ok (by omega)) hD (fun q hq => (H3 q hq).fr f4 (by decide) (by decide))) ?_
      rintro ⟨r, μ5⟩ ⟨f5, e5⟩
      dsimp only at f5 e5 ⊢
      have o5 : ∀ y, y < 4960 → μ5 20001 y = b y := fun y hy => by rw [f5.1 20001 (by decide) (by decide), o4 y (by omega)]; exact q2 y hy
      have er : r = rv (lg b n) p v5 v4 := e5
      refine Ev_ite (fun v => Ev_out (fun _ => .inr ⟨μ5, rfl, o5, v5, q1.1, by omega, by omega⟩)) (fun v => ?_)
      refine Ev_in ⟨(by first | omega | (dsimp only; omega) | (dsimp only)), o5, fun st a c => ?_⟩ (by first | omega | (dsimp only; omega) | (dsimp only))
      dsimp only at c
      by_cases e : st = v5
      · rw [e, ← er]; exact v
      · exact q3 st a (by omega)
    · rintro x (⟨μ', e, o, no⟩ | ⟨μ', e, o, yes⟩)
      · subst e
        refine Ev_in ⟨(by first | omega | (dsimp only; omega) | (dsimp only)), o, fun m a c => ?_⟩ (by first | omega | (dsimp only; omega) | (dsimp only))
        dsimp only at c
        by_cases v : m = v4
        · rw [v]; exact no
        · exact k3 m a (by omega)
      · subst e
        exact Ev_out (fun _ => .inr ⟨v4, μ', rfl, o, .inl ⟨by omega, yes, k3⟩⟩)
  · rintro x (⟨μ', e, o, h⟩ | ⟨r, μ', e, o, h⟩)
    · subst e; exact Ev_some ⟨.inl ⟨z, h⟩, o⟩
    · subst e; exact Ev_some ⟨.inl ⟨z, h⟩, o⟩
