/-! ===== the reference: its rows, what its methods may write ===== -/
def Md (μ : Mm) : Prop := μ 20000 0 = 20001 ∧ μ 20000 1 = 20002 ∧ μ 20000 3 = 20003 ∧ μ 20000 4 = 20004 ∧ μ 20000 13 = 20005 ∧ μ 20000 15 = 20006 ∧ μ 20000 16 = 20007 ∧ μ 20000 17 = 20008 ∧ μ 20000 19 = 20009 ∧ μ 20000 21 = 20010 ∧ μ 20000 22 = 20011 ∧ μ 20000 23 = 20012 ∧ μ 20000 25 = 20013 ∧ μ 20000 27 = 20014 ∧ μ 20000 28 = 20015 ∧ μ 20000 30 = 20016 ∧ μ 20000 31 = 20017 ∧ μ 20000 32 = 20018 ∧ μ 20000 33 = 20019
theorem Md_0 {μ : Mm} (h : Md μ) : μ 20000 0 = 20001 := h.1
theorem Md_1 {μ : Mm} (h : Md μ) : μ 20000 1 = 20002 := h.2.1
theorem Md_3 {μ : Mm} (h : Md μ) : μ 20000 3 = 20003 := h.2.2.1
theorem Md_4 {μ : Mm} (h : Md μ) : μ 20000 4 = 20004 := h.2.2.2.1
theorem Md_13 {μ : Mm} (h : Md μ) : μ 20000 13 = 20005 := h.2.2.2.2.1
theorem Md_15 {μ : Mm} (h : Md μ) : μ 20000 15 = 20006 := h.2.2.2.2.2.1
theorem Md_16 {μ : Mm} (h : Md μ) : μ 20000 16 = 20007 := h.2.2.2.2.2.2.1
theorem Md_17 {μ : Mm} (h : Md μ) : μ 20000 17 = 20008 := h.2.2.2.2.2.2.2.1
theorem Md_19 {μ : Mm} (h : Md μ) : μ 20000 19 = 20009 := h.2.2.2.2.2.2.2.2.1
theorem Md_21 {μ : Mm} (h : Md μ) : μ 20000 21 = 20010 := h.2.2.2.2.2.2.2.2.2.1
theorem Md_22 {μ : Mm} (h : Md μ) : μ 20000 22 = 20011 := h.2.2.2.2.2.2.2.2.2.2.1
theorem Md_23 {μ : Mm} (h : Md μ) : μ 20000 23 = 20012 := h.2.2.2.2.2.2.2.2.2.2.2.1
theorem Md_25 {μ : Mm} (h : Md μ) : μ 20000 25 = 20013 := h.2.2.2.2.2.2.2.2.2.2.2.2.1
theorem Md_27 {μ : Mm} (h : Md μ) : μ 20000 27 = 20014 := h.2.2.2.2.2.2.2.2.2.2.2.2.2.1
theorem Md_28 {μ : Mm} (h : Md μ) : μ 20000 28 = 20015 := h.2.2.2.2.2.2.2.2.2.2.2.2.2.2.1
theorem Md_30 {μ : Mm} (h : Md μ) : μ 20000 30 = 20016 := h.2.2.2.2.2.2.2.2.2.2.2.2.2.2.2.1
theorem Md_31 {μ : Mm} (h : Md μ) : μ 20000 31 = 20017 := h.2.2.2.2.2.2.2.2.2.2.2.2.2.2.2.2.1
theorem Md_32 {μ : Mm} (h : Md μ) : μ 20000 32 = 20018 := h.2.2.2.2.2.2.2.2.2.2.2.2.2.2.2.2.2.1
theorem Md_33 {μ : Mm} (h : Md μ) : μ 20000 33 = 20019 := h.2.2.2.2.2.2.2.2.2.2.2.2.2.2.2.2.2.2
def Fr (R L : List Int) (μ μ' : Mm) : Prop := (∀ x, x ≠ 20000 → x ∉ R → μ' x = μ x) ∧ ∀ j, j ∉ L → μ' 20000 j = μ 20000 j
theorem Fr.rf {R L : List Int} {μ : Mm} : Fr R L μ μ := ⟨fun _ _ _ => rfl, fun _ _ => rfl⟩
theorem Fr.tr {R L : List Int} {μ μ1 μ2 : Mm} (h : Fr R L μ μ1) (h2 : Fr R L μ1 μ2) : Fr R L μ μ2 := ⟨fun x h0 h1 => (h2.1 x h0 h1).trans (h.1 x h0 h1), fun j hj => (h2.2 j hj).trans (h.2 j hj)⟩
theorem Fr.mo {R L R' L' : List Int} {μ μ1 : Mm} (h : Fr R L μ μ1) (hR : R.all (fun x => decide (x ∈ R')) = true) (hL : L.all (fun x => decide (x ∈ L')) = true) : Fr R' L' μ μ1 :=
  ⟨fun x h0 h1 => h.1 x h0 (fun q => h1 (of_decide_eq_true (List.all_eq_true.mp hR x q))), fun j hj => h.2 j (fun q => hj (of_decide_eq_true (List.all_eq_true.mp hL j q)))⟩
theorem Fr.row {R L : List Int} {μ μ1 : Mm} {x y i v : Int} (e : mst μ y i v = μ1) (hy : y = x) (hx : x ∈ R) (h0 : x ≠ 20000) : Fr R L μ μ1 := by
  subst e; subst hy
  exact ⟨fun z _ hz => mst_n (fun q => hz (q ▸ hx)), fun j _ => by rw [mst_n (Ne.symm h0)]⟩
theorem Fr.fld {R L : List Int} {μ μ1 : Mm} {i v : Int} (e : mst μ 20000 i v = μ1) (hi : i ∈ L) : Fr R L μ μ1 := by
  subst e
  exact ⟨fun z h0 _ => mst_n h0, fun j hj => mst_j (fun q => hj (q ▸ hi))⟩
theorem Fr.md {R L : List Int} {μ μ1 : Mm} (h : Fr R L μ μ1) (hM : Md μ) (hL : L.all (fun j => !([0, 1, 3, 4, 13, 15, 16, 17, 19, 21, 22, 23, 25, 27, 28, 30, 31, 32, 33] : List Int).contains j) = true) : Md μ1 := by
  have hn : ∀ j : Int, j ∈ ([0, 1, 3, 4, 13, 15, 16, 17, 19, 21, 22, 23, 25, 27, 28, 30, 31, 32, 33] : List Int) → μ1 20000 j = μ 20000 j := fun j hj => h.2 j (fun q => by have := List.all_eq_true.mp hL j q; simp [hj] at this)
  exact ⟨(hn 0 (by decide)).trans (Md_0 hM), (hn 1 (by decide)).trans (Md_1 hM), (hn 3 (by decide)).trans (Md_3 hM), (hn 4 (by decide)).trans (Md_4 hM), (hn 13 (by decide)).trans (Md_13 hM), (hn 15 (by decide)).trans (Md_15 hM), (hn 16 (by decide)).trans (Md_16 hM), (hn 17 (by decide)).trans (Md_17 hM), (hn 19 (by decide)).trans (Md_19 hM), (hn 21 (by decide)).trans (Md_21 hM), (hn 22 (by decide)).trans (Md_22 hM), (hn 23 (by decide)).trans (Md_23 hM), (hn 25 (by decide)).trans (Md_25 hM), (hn 27 (by decide)).trans (Md_27 hM), (hn 28 (by decide)).trans (Md_28 hM), (hn 30 (by decide)).trans (Md_30 hM), (hn 31 (by decide)).trans (Md_31 hM), (hn 32 (by decide)).trans (Md_32 hM), (hn 33 (by decide)).trans (Md_33 hM)⟩
theorem lop_rel {σ ρ : Type} {step : σ → Option (σ ⊕ ρ)} (pj : σ ⊕ ρ → Mm) {R L : List Int} (hL : L.all (fun j => !([0, 1, 3, 4, 13, 15, 16, 17, 19, 21, 22, 23, 25, 27, 28, 30, 31, 32, 33] : List Int).contains j) = true) (hs : ∀ s t, step s = some t → Md (pj (.inl s)) → Fr R L (pj (.inl s)) (pj t)) : ∀ (f : Nat) (s : σ) (r : ρ), lop step f s = some r → Md (pj (.inl s)) → Fr R L (pj (.inl s)) (pj (.inr r))
  | 0, s, r, h, _ => by cases h
  | f + 1, s, r, h, hM => by
    unfold lop at h
    cases hc : step s with
    | none => rw [hc] at h; cases h
    | some t =>
      rw [hc] at h
      have h1 := hs s t hc hM
      cases t with
      | inl s' => exact h1.tr (lop_rel pj hL hs f s' r h (h1.md hM hL))
      | inr r' => cases h; exact h1
def pjX11_points_5 : ((Int × Mm) ⊕ (Int × Mm)) → Mm
  | .inl (_, μ) => μ
  | .inr (_, μ) => μ
theorem frsX11_points_5 {v1 v2 : Int} {q : (Int × Mm)} {t : ((Int × Mm) ⊕ (Int × Mm))} (h : sX11_points_5 20000 v1 v2 q = some t) (hM : Md (pjX11_points_5 (.inl q))) : Fr [20003, 20004] [] (pjX11_points_5 (.inl q)) (pjX11_points_5 t) := by
  obtain ⟨v3, μ⟩ := q
  have hM : Md μ := hM
  show Fr [20003, 20004] [] μ (pjX11_points_5 t)
  have F_μ : Fr [20003, 20004] [] μ μ := Fr.rf
  have M_μ := hM
  unfold sX11_points_5 at h
  try dsimp only at h
  split at h
  · skip
    cases h
    exact F_μ
  · skip
    obtain ⟨-, h⟩ := chk_inv h
    obtain ⟨-, h⟩ := chk_inv h
    obtain ⟨-, h⟩ := chk_inv h
    obtain ⟨x1, -, h⟩ := Option.bind_eq_some_iff.mp h
    split at h
    · skip
      cases h
      exact F_μ
    · skip
      obtain ⟨-, h⟩ := chk_inv h
      obtain ⟨μ8, eμ8, h⟩ := lm_inv h
      have F_μ8 : Fr [20003, 20004] [] μ μ8 := F_μ.tr (Fr.row eμ8 (Md_3 M_μ) (by decide) (by decide))
      have M_μ8 : Md μ8 := F_μ8.md hM (by decide)
      obtain ⟨-, h⟩ := chk_inv h
      obtain ⟨-, h⟩ := chk_inv h
      obtain ⟨μ11, eμ11, h⟩ := lm_inv h
      have F_μ11 : Fr [20003, 20004] [] μ μ11 := F_μ8.tr (Fr.row eμ11 (Md_4 M_μ8) (by decide) (by decide))
      have M_μ11 : Md μ11 := F_μ11.md hM (by decide)
      cases h
      exact F_μ11
theorem frfX11_points {v1 v2 : Int} {μ : Mm} {t : Mm} (h : fX11_points 20000 v1 v2 μ = some t) (hM : Md μ) : Fr [20003, 20004] [2] μ (t) := by
  have F_μ : Fr [20003, 20004] [2] μ μ := Fr.rf
  have M_μ := hM
  unfold fX11_points at h
  obtain ⟨-, h⟩ := chk_inv h
  obtain ⟨x2, hq1, h⟩ := Option.bind_eq_some_iff.mp h
  have F_x2 := F_μ.tr ((lop_rel pjX11_points_5 (by decide) (fun _ _ => frsX11_points_5) _ _ _ hq1 M_μ).mo (R' := [20003, 20004]) (L' := [2]) (by decide) (by decide))
  have M_x2 := F_x2.md hM (by decide)
  obtain ⟨v3_14, μ_14⟩ := x2
  dsimp only at h
  have F_μ_14 : Fr [20003, 20004] [2] μ μ_14 := F_x2
  have M_μ_14 : Md μ_14 := M_x2
  obtain ⟨-, h⟩ := chk_inv h
  obtain ⟨μ16, eμ16, h⟩ := lm_inv h
  have F_μ16 : Fr [20003, 20004] [2] μ μ16 := F_μ_14.tr (Fr.row eμ16 (Md_3 M_μ_14) (by decide) (by decide))
  have M_μ16 : Md μ16 := F_μ16.md hM (by decide)
  obtain ⟨-, h⟩ := chk_inv h
  obtain ⟨μ18, eμ18, h⟩ := lm_inv h
  have F_μ18 : Fr [20003, 20004] [2] μ μ18 := F_μ16.tr (Fr.row eμ18 (Md_4 M_μ16) (by decide) (by decide))
  have M_μ18 : Md μ18 := F_μ18.md hM (by decide)
  obtain ⟨μ19, eμ19, h⟩ := lm_inv h
  have F_μ19 : Fr [20003, 20004] [2] μ μ19 := F_μ18.tr (Fr.fld eμ19 (by decide))
  have M_μ19 : Md μ19 := F_μ19.md hM (by decide)
  cases h
  exact F_μ19
def pjX11_feed_20 : ((Int × Mm) ⊕ Mm) → Mm
  | .inl (_, μ) => μ
  | .inr μ => μ
theorem frjX11_feed_73 {v1 v2 v3 v4 v5 v6 s0 : Int} {μ : Mm} {t : ((Int × Mm) ⊕ Mm)} (h : jX11_feed_73 20000 v1 v2 v3 v4 v5 v6 s0 μ = some t) (hM : Md μ) : Fr [20001] [] μ (pjX11_feed_20 t) := by
  have F_μ : Fr [20001] [] μ μ := Fr.rf
  have M_μ := hM
  unfold jX11_feed_73 at h
  obtain ⟨-, h⟩ := chk_inv h
  obtain ⟨-, h⟩ := chk_inv h
  obtain ⟨-, h⟩ := chk_inv h
  obtain ⟨μ4, eμ4, h⟩ := lm_inv h
  have F_μ4 : Fr [20001] [] μ μ4 := F_μ.tr (Fr.row eμ4 (Md_0 M_μ) (by decide) (by decide))
  have M_μ4 : Md μ4 := F_μ4.md hM (by decide)
  obtain ⟨-, h⟩ := chk_inv h
  obtain ⟨μ6, eμ6, h⟩ := lm_inv h
  have F_μ6 : Fr [20001] [] μ μ6 := F_μ4.tr (Fr.row eμ6 (Md_0 M_μ4) (by decide) (by decide))
  have M_μ6 : Md μ6 := F_μ6.md hM (by decide)
  cases h
  exact F_μ6
theorem frsX11_feed_20 {v1 v2 v3 v4 v5 : Int} {q : (Int × Mm)} {t : ((Int × Mm) ⊕ Mm)} (h : sX11_feed_20 20000 v1 v2 v3 v4 v5 q = some t) (hM : Md (pjX11_feed_20 (.inl q))) : Fr [20001] [] (pjX11_feed_20 (.inl q)) (pjX11_feed_20 t) := by
  obtain ⟨v6, μ⟩ := q
  have hM : Md μ := hM
  show Fr [20001] [] μ (pjX11_feed_20 t)
  have F_μ : Fr [20001] [] μ μ := Fr.rf
  have M_μ := hM
  unfold sX11_feed_20 at h
  try dsimp only at h
  split at h
  · skip
    cases h
    exact F_μ
  · skip
    split at h
    · skip
      split at h
      · skip
        split at h
        · skip
          split at h
          · skip
            exact F_μ.tr ((frjX11_feed_73 h M_μ).mo (by decide) (by decide))
          · skip
            exact F_μ.tr ((frjX11_feed_73 h M_μ).mo (by decide) (by decide))
        · skip
          exact F_μ.tr ((frjX11_feed_73 h M_μ).mo (by decide) (by decide))
      · skip
        exact F_μ.tr ((frjX11_feed_73 h M_μ).mo (by decide) (by decide))
    · skip
      exact F_μ.tr ((frjX11_feed_73 h M_μ).mo (by decide) (by decide))
theorem frfX11_feed {v1 v2 v3 v4 v5 : Int} {μ : Mm} {t : (Int × Mm)} (h : fX11_feed 20000 v1 v2 v3 v4 v5 μ = some t) (hM : Md μ) : Fr [20001] [] μ (t.2) := by
  have F_μ : Fr [20001] [] μ μ := Fr.rf
  have M_μ := hM
  unfold fX11_feed at h
  obtain ⟨-, h⟩ := chk_inv h
  obtain ⟨-, h⟩ := chk_inv h
  split at h
  · skip
    obtain ⟨x2, hq1, h⟩ := Option.bind_eq_some_iff.mp h
    have F_x2 := F_μ.tr ((lop_rel pjX11_feed_20 (by decide) (fun _ _ => frsX11_feed_20) _ _ _ hq1 M_μ).mo (R' := [20001]) (L' := []) (by decide) (by decide))
    have M_x2 := F_x2.md hM (by decide)
    obtain ⟨μ_16, hqq⟩ : ∃ z, z = x2 := ⟨x2, rfl⟩
    subst hqq
    have F_μ_16 : Fr [20001] [] μ μ_16 := F_x2
    have M_μ_16 : Md μ_16 := M_x2
    obtain ⟨-, h⟩ := chk_inv h
    cases h
    exact F_μ_16
  · skip
    cases h
    exact F_μ
theorem frfX11_end {v1 : Int} {μ : Mm} {t : (Int × Mm)} (h : fX11_end 20000 v1 μ = some t) (hM : Md μ) : Fr [20001] [] μ (t.2) := by
  have F_μ : Fr [20001] [] μ μ := Fr.rf
  have M_μ := hM
  unfold fX11_end at h
  split at h
  · skip
    cases h
    exact F_μ
  · skip
    obtain ⟨-, h⟩ := chk_inv h
    obtain ⟨-, h⟩ := chk_inv h
    split at h
    · skip
      obtain ⟨μ5, eμ5, h⟩ := lm_inv h
      have F_μ5 : Fr [20001] [] μ μ5 := F_μ.tr (Fr.row eμ5 (Md_0 M_μ) (by decide) (by decide))
      have M_μ5 : Md μ5 := F_μ5.md hM (by decide)
      cases h
      exact F_μ5
    · skip
      cases h
      exact F_μ
def pjX11_advance_0 : (Mm ⊕ Mm) → Mm
  | .inl μ => μ
  | .inr μ => μ
theorem frsX11_advance_0 {q : Mm} {t : (Mm ⊕ Mm)} (h : sX11_advance_0 20000 q = some t) (hM : Md (pjX11_advance_0 (.inl q))) : Fr [] [6] (pjX11_advance_0 (.inl q)) (pjX11_advance_0 t) := by
  obtain ⟨μ, hqq⟩ : ∃ z, z = q := ⟨q, rfl⟩
  subst hqq
  have hM : Md μ := hM
  show Fr [] [6] μ (pjX11_advance_0 t)
  have F_μ : Fr [] [6] μ μ := Fr.rf
  have M_μ := hM
  unfold sX11_advance_0 at h
  try dsimp only at h
  obtain ⟨-, h⟩ := chk_inv h
  obtain ⟨x1, -, h⟩ := Option.bind_eq_some_iff.mp h
  split at h
  · skip
    obtain ⟨μ4, eμ4, h⟩ := lm_inv h
    have F_μ4 : Fr [] [6] μ μ4 := F_μ.tr (Fr.fld eμ4 (by decide))
    have M_μ4 : Md μ4 := F_μ4.md hM (by decide)
    cases h
    exact F_μ4
  · skip
    obtain ⟨x2, -, h⟩ := Option.bind_eq_some_iff.mp h
    split at h
    · skip
      obtain ⟨μ7, eμ7, h⟩ := lm_inv h
      have F_μ7 : Fr [] [6] μ μ7 := F_μ.tr (Fr.fld eμ7 (by decide))
      have M_μ7 : Md μ7 := F_μ7.md hM (by decide)
      cases h
      exact F_μ7
    · skip
      cases h
      exact F_μ
def pjX11_advance_77 : ((Int × Mm) ⊕ (Int × Mm)) → Mm
  | .inl (_, μ) => μ
  | .inr (_, μ) => μ
theorem frsX11_advance_77 {q : (Int × Mm)} {t : ((Int × Mm) ⊕ (Int × Mm))} (h : sX11_advance_77 20000 q = some t) (hM : Md (pjX11_advance_77 (.inl q))) : Fr [] [6] (pjX11_advance_77 (.inl q)) (pjX11_advance_77 t) := by
  obtain ⟨v2, μ⟩ := q
  have hM : Md μ := hM
  show Fr [] [6] μ (pjX11_advance_77 t)
  have F_μ : Fr [] [6] μ μ := Fr.rf
  have M_μ := hM
  unfold sX11_advance_77 at h
  try dsimp only at h
  obtain ⟨-, h⟩ := chk_inv h
  obtain ⟨x1, -, h⟩ := Option.bind_eq_some_iff.mp h
  split at h
  · skip
    cases h
    exact F_μ
  · skip
    split at h
    · skip
      obtain ⟨μ12, eμ12, h⟩ := lm_inv h
      have F_μ12 : Fr [] [6] μ μ12 := F_μ.tr (Fr.fld eμ12 (by decide))
      have M_μ12 : Md μ12 := F_μ12.md hM (by decide)
      cases h
      exact F_μ12
    · skip
      obtain ⟨x2, -, h⟩ := Option.bind_eq_some_iff.mp h
      obtain ⟨y14, -, h⟩ := lt_inv h
      obtain ⟨μ15, eμ15, h⟩ := lm_inv h
      have F_μ15 : Fr [] [6] μ μ15 := F_μ.tr (Fr.fld eμ15 (by decide))
      have M_μ15 : Md μ15 := F_μ15.md hM (by decide)
      cases h
      exact F_μ15
def pjX11_advance_198 : (Mm ⊕ Mm) → Mm
  | .inl μ => μ
  | .inr μ => μ
theorem frsX11_advance_198 {q : Mm} {t : (Mm ⊕ Mm)} (h : sX11_advance_198 20000 q = some t) (hM : Md (pjX11_advance_198 (.inl q))) : Fr [] [6, 9] (pjX11_advance_198 (.inl q)) (pjX11_advance_198 t) := by
  obtain ⟨μ, hqq⟩ : ∃ z, z = q := ⟨q, rfl⟩
  subst hqq
  have hM : Md μ := hM
  show Fr [] [6, 9] μ (pjX11_advance_198 t)
  have F_μ : Fr [] [6, 9] μ μ := Fr.rf
  have M_μ := hM
  unfold sX11_advance_198 at h
  try dsimp only at h
  obtain ⟨-, h⟩ := chk_inv h
  obtain ⟨x1, -, h⟩ := Option.bind_eq_some_iff.mp h
  split at h
  · skip
    cases h
    exact F_μ
  · skip
    split at h
    · skip
      obtain ⟨μ20, eμ20, h⟩ := lm_inv h
      have F_μ20 : Fr [] [6, 9] μ μ20 := F_μ.tr (Fr.fld eμ20 (by decide))
      have M_μ20 : Md μ20 := F_μ20.md hM (by decide)
      cases h
      exact F_μ20
    · skip
      obtain ⟨x2, -, h⟩ := Option.bind_eq_some_iff.mp h
      obtain ⟨μ22, eμ22, h⟩ := lm_inv h
      have F_μ22 : Fr [] [6, 9] μ μ22 := F_μ.tr (Fr.fld eμ22 (by decide))
      have M_μ22 : Md μ22 := F_μ22.md hM (by decide)
      obtain ⟨μ23, eμ23, h⟩ := lm_inv h
      have F_μ23 : Fr [] [6, 9] μ μ23 := F_μ22.tr (Fr.fld eμ23 (by decide))
      have M_μ23 : Md μ23 := F_μ23.md hM (by decide)
      cases h
      exact F_μ23
theorem frjX11_advance_162 {s0 : Int} {μ : Mm} {t : Mm} (h : jX11_advance_162 20000 s0 20000 μ = some t) (hM : Md μ) : Fr [] [8, 10] μ (t) := by
  have F_μ : Fr [] [8, 10] μ μ := Fr.rf
  have M_μ := hM
  unfold jX11_advance_162 at h
  obtain ⟨-, h⟩ := chk_inv h
  obtain ⟨μ25, eμ25, h⟩ := lm_inv h
  have F_μ25 : Fr [] [8, 10] μ μ25 := F_μ.tr (Fr.fld eμ25 (by decide))
  have M_μ25 : Md μ25 := F_μ25.md hM (by decide)
  obtain ⟨-, h⟩ := chk_inv h
  split at h
  · skip
    obtain ⟨μ29, eμ29, h⟩ := lm_inv h
    have F_μ29 : Fr [] [8, 10] μ μ29 := F_μ25.tr (Fr.fld eμ29 (by decide))
    have M_μ29 : Md μ29 := F_μ29.md hM (by decide)
    cases h
    exact F_μ29
  · skip
    obtain ⟨μ28, eμ28, h⟩ := lm_inv h
    have F_μ28 : Fr [] [8, 10] μ μ28 := F_μ25.tr (Fr.fld eμ28 (by decide))
    have M_μ28 : Md μ28 := F_μ28.md hM (by decide)
    cases h
    exact F_μ28
theorem frfX11_advance {μ : Mm} {t : Mm} (h : fX11_advance 20000 μ = some t) (hM : Md μ) : Fr [] [6, 7, 8, 9, 10] μ (t) := by
  have F_μ : Fr [] [6, 7, 8, 9, 10] μ μ := Fr.rf
  have M_μ := hM
  unfold fX11_advance at h
  obtain ⟨x2, hq1, h⟩ := Option.bind_eq_some_iff.mp h
  have F_x2 := F_μ.tr ((lop_rel pjX11_advance_0 (by decide) (fun _ _ => frsX11_advance_0) _ _ _ hq1 M_μ).mo (R' := []) (L' := [6, 7, 8, 9, 10]) (by decide) (by decide))
  have M_x2 := F_x2.md hM (by decide)
  obtain ⟨μ_31, hqq⟩ : ∃ z, z = x2 := ⟨x2, rfl⟩
  subst hqq
  have F_μ_31 : Fr [] [6, 7, 8, 9, 10] μ μ_31 := F_x2
  have M_μ_31 : Md μ_31 := M_x2
  obtain ⟨-, h⟩ := chk_inv h
  obtain ⟨μ33, eμ33, h⟩ := lm_inv h
  have F_μ33 : Fr [] [6, 7, 8, 9, 10] μ μ33 := F_μ_31.tr (Fr.fld eμ33 (by decide))
  have M_μ33 : Md μ33 := F_μ33.md hM (by decide)
  obtain ⟨x3, -, h⟩ := Option.bind_eq_some_iff.mp h
  split at h
  · skip
    split at h
    · skip
      split at h
      · skip
        obtain ⟨μ38, eμ38, h⟩ := lm_inv h
        have F_μ38 : Fr [] [6, 7, 8, 9, 10] μ μ38 := F_μ33.tr (Fr.fld eμ38 (by decide))
        have M_μ38 : Md μ38 := F_μ38.md hM (by decide)
        split at h
        · skip
          obtain ⟨μ41, eμ41, h⟩ := lm_inv h
          have F_μ41 : Fr [] [6, 7, 8, 9, 10] μ μ41 := F_μ38.tr (Fr.fld eμ41 (by decide))
          have M_μ41 : Md μ41 := F_μ41.md hM (by decide)
          cases h
          exact F_μ41
        · skip
          obtain ⟨μ40, eμ40, h⟩ := lm_inv h
          have F_μ40 : Fr [] [6, 7, 8, 9, 10] μ μ40 := F_μ38.tr (Fr.fld eμ40 (by decide))
          have M_μ40 : Md μ40 := F_μ40.md hM (by decide)
          cases h
          exact F_μ40
      · skip
        obtain ⟨μ42, eμ42, h⟩ := lm_inv h
        have F_μ42 : Fr [] [6, 7, 8, 9, 10] μ μ42 := F_μ33.tr (Fr.fld eμ42 (by decide))
        have M_μ42 : Md μ42 := F_μ42.md hM (by decide)
        obtain ⟨x5, hq4, h⟩ := Option.bind_eq_some_iff.mp h
        have F_x5 := F_μ42.tr ((lop_rel pjX11_advance_198 (by decide) (fun _ _ => frsX11_advance_198) _ _ _ hq4 M_μ42).mo (R' := []) (L' := [6, 7, 8, 9, 10]) (by decide) (by decide))
        have M_x5 := F_x5.md hM (by decide)
        obtain ⟨μ_44, hqq⟩ : ∃ z, z = x5 := ⟨x5, rfl⟩
        subst hqq
        have F_μ_44 : Fr [] [6, 7, 8, 9, 10] μ μ_44 := F_x5
        have M_μ_44 : Md μ_44 := M_x5
        split at h
        · skip
          obtain ⟨μ46, eμ46, h⟩ := lm_inv h
          have F_μ46 : Fr [] [6, 7, 8, 9, 10] μ μ46 := F_μ_44.tr (Fr.fld eμ46 (by decide))
          have M_μ46 : Md μ46 := F_μ46.md hM (by decide)
          cases h
          exact F_μ46
        · skip
          obtain ⟨μ47, eμ47, h⟩ := lm_inv h
          have F_μ47 : Fr [] [6, 7, 8, 9, 10] μ μ47 := F_μ_44.tr (Fr.fld eμ47 (by decide))
          have M_μ47 : Md μ47 := F_μ47.md hM (by decide)
          cases h
          exact F_μ47
    · skip
      obtain ⟨x7, hq6, h⟩ := Option.bind_eq_some_iff.mp h
      have F_x7 := F_μ33.tr ((lop_rel pjX11_advance_77 (by decide) (fun _ _ => frsX11_advance_77) _ _ _ hq6 M_μ33).mo (R' := []) (L' := [6, 7, 8, 9, 10]) (by decide) (by decide))
      have M_x7 := F_x7.md hM (by decide)
      obtain ⟨v2_49, μ_49⟩ := x7
      dsimp only at h
      have F_μ_49 : Fr [] [6, 7, 8, 9, 10] μ μ_49 := F_x7
      have M_μ_49 : Md μ_49 := M_x7
      split at h
      · skip
        obtain ⟨x8, -, h⟩ := Option.bind_eq_some_iff.mp h
        exact F_μ_49.tr ((frjX11_advance_162 h M_μ_49).mo (by decide) (by decide))
      · skip
        exact F_μ_49.tr ((frjX11_advance_162 h M_μ_49).mo (by decide) (by decide))
  · skip
    obtain ⟨μ52, eμ52, h⟩ := lm_inv h
    have F_μ52 : Fr [] [6, 7, 8, 9, 10] μ μ52 := F_μ33.tr (Fr.fld eμ52 (by decide))
    have M_μ52 : Md μ52 := F_μ52.md hM (by decide)
    cases h
    exact F_μ52
theorem frfX11_ends {μ : Mm} {t : Mm} (h : fX11_ends 20000 μ = some t) (hM : Md μ) : Fr [20001] [11] μ (t) := by
  have F_μ : Fr [20001] [11] μ μ := Fr.rf
  have M_μ := hM
  unfold fX11_ends at h
  obtain ⟨-, h⟩ := chk_inv h
  split at h
  · skip
    obtain ⟨μ3, eμ3, h⟩ := lm_inv h
    have F_μ3 : Fr [20001] [11] μ μ3 := F_μ.tr (Fr.fld eμ3 (by decide))
    have M_μ3 : Md μ3 := F_μ3.md hM (by decide)
    obtain ⟨-, h⟩ := chk_inv h
    obtain ⟨μ5, eμ5, h⟩ := lm_inv h
    have F_μ5 : Fr [20001] [11] μ μ5 := F_μ3.tr (Fr.row eμ5 (Md_0 M_μ3) (by decide) (by decide))
    have M_μ5 : Md μ5 := F_μ5.md hM (by decide)
    obtain ⟨-, h⟩ := chk_inv h
    obtain ⟨μ7, eμ7, h⟩ := lm_inv h
    have F_μ7 : Fr [20001] [11] μ μ7 := F_μ5.tr (Fr.row eμ7 (Md_0 M_μ5) (by decide) (by decide))
    have M_μ7 : Md μ7 := F_μ7.md hM (by decide)
    cases h
    exact F_μ7
  · skip
    cases h
    exact F_μ
theorem frjX11_also_47 {v1 v2 : Int} {μ : Mm} {t : Mm} (h : jX11_also_47 20000 v1 v2 μ = some t) (hM : Md μ) : Fr [20001] [] μ (t) := by
  have F_μ : Fr [20001] [] μ μ := Fr.rf
  have M_μ := hM
  unfold jX11_also_47 at h
  obtain ⟨-, h⟩ := chk_inv h
  obtain ⟨-, h⟩ := chk_inv h
  obtain ⟨μ3, eμ3, h⟩ := lm_inv h
  have F_μ3 : Fr [20001] [] μ μ3 := F_μ.tr (Fr.row eμ3 (Md_0 M_μ) (by decide) (by decide))
  have M_μ3 : Md μ3 := F_μ3.md hM (by decide)
  obtain ⟨-, h⟩ := chk_inv h
  obtain ⟨μ5, eμ5, h⟩ := lm_inv h
  have F_μ5 : Fr [20001] [] μ μ5 := F_μ3.tr (Fr.row eμ5 (Md_0 M_μ3) (by decide) (by decide))
  have M_μ5 : Md μ5 := F_μ5.md hM (by decide)
  cases h
  exact F_μ5
theorem frfX11_also {v1 v2 : Int} {μ : Mm} {t : Mm} (h : fX11_also 20000 v1 v2 μ = some t) (hM : Md μ) : Fr [20001] [] μ (t) := by
  have F_μ : Fr [20001] [] μ μ := Fr.rf
  have M_μ := hM
  unfold fX11_also at h
  obtain ⟨-, h⟩ := chk_inv h
  split at h
  · skip
    obtain ⟨-, h⟩ := chk_inv h
    split at h
    · skip
      exact F_μ.tr ((frjX11_also_47 h M_μ).mo (by decide) (by decide))
    · skip
      obtain ⟨-, h⟩ := chk_inv h
      split at h
      · skip
        cases h
        exact F_μ
      · skip
        split at h
        · skip
          split at h
          · skip
            exact F_μ.tr ((frjX11_also_47 h M_μ).mo (by decide) (by decide))
          · skip
            cases h
            exact F_μ
        · skip
          exact F_μ.tr ((frjX11_also_47 h M_μ).mo (by decide) (by decide))
  · skip
    cases h
    exact F_μ
theorem frjX11_numbered_15 {v1 : Int} {μ : Mm} {t : (Int × Mm)} (h : jX11_numbered_15 20000 v1 μ = some t) (hM : Md μ) : Fr [20001] [11] μ (t.2) := by
  have F_μ : Fr [20001] [11] μ μ := Fr.rf
  have M_μ := hM
  unfold jX11_numbered_15 at h
  obtain ⟨-, h⟩ := chk_inv h
  obtain ⟨μ2, hq1, h⟩ := Option.bind_eq_some_iff.mp h
  have F_μ2 : Fr [20001] [11] μ μ2 := F_μ.tr ((frfX11_ends hq1 M_μ).mo (by decide) (by decide))
  have M_μ2 : Md μ2 := F_μ2.md hM (by decide)
  cases h
  exact F_μ2
theorem frjX11_numbered_44 {v1 v2 v3 : Int} {μ : Mm} {t : (Int × Mm)} (h : jX11_numbered_44 20000 v1 v2 v3 μ = some t) (hM : Md μ) : Fr [] [6, 7, 8, 9, 10] μ (t.2) := by
  have F_μ : Fr [] [6, 7, 8, 9, 10] μ μ := Fr.rf
  have M_μ := hM
  unfold jX11_numbered_44 at h
  obtain ⟨-, h⟩ := chk_inv h
  obtain ⟨μ4, hq1, h⟩ := Option.bind_eq_some_iff.mp h
  have F_μ4 : Fr [] [6, 7, 8, 9, 10] μ μ4 := F_μ.tr ((frfX11_advance hq1 M_μ).mo (by decide) (by decide))
  have M_μ4 : Md μ4 := F_μ4.md hM (by decide)
  split at h
  · skip
    cases h
    exact F_μ4
  · skip
    cases h
    exact F_μ4
theorem frfX11_numbered {v1 v2 : Int} {μ : Mm} {t : (Int × Mm)} (h : fX11_numbered 20000 v1 v2 μ = some t) (hM : Md μ) : Fr [20001] [6, 7, 8, 9, 10, 11] μ (t.2) := by
  have F_μ : Fr [20001] [6, 7, 8, 9, 10, 11] μ μ := Fr.rf
  have M_μ := hM
  unfold fX11_numbered at h
  obtain ⟨-, h⟩ := chk_inv h
  split at h
  · skip
    split at h
    · skip
      split at h
      · skip
        obtain ⟨μ10, hq1, h⟩ := Option.bind_eq_some_iff.mp h
        have F_μ10 : Fr [20001] [6, 7, 8, 9, 10, 11] μ μ10 := F_μ.tr ((frfX11_also hq1 M_μ).mo (by decide) (by decide))
        have M_μ10 : Md μ10 := F_μ10.md hM (by decide)
        exact F_μ10.tr ((frjX11_numbered_44 h M_μ10).mo (by decide) (by decide))
      · skip
        exact F_μ.tr ((frjX11_numbered_44 h M_μ).mo (by decide) (by decide))
    · skip
      exact F_μ.tr ((frjX11_numbered_15 h M_μ).mo (by decide) (by decide))
  · skip
    exact F_μ.tr ((frjX11_numbered_15 h M_μ).mo (by decide) (by decide))
theorem frjX11_takes_50 {μ : Mm} {t : (Int × Mm)} (h : jX11_takes_50 20000 μ = some t) (hM : Md μ) : Fr [20001] [11] μ (t.2) := by
  have F_μ : Fr [20001] [11] μ μ := Fr.rf
  have M_μ := hM
  unfold jX11_takes_50 at h
  obtain ⟨-, h⟩ := chk_inv h
  obtain ⟨μ2, hq1, h⟩ := Option.bind_eq_some_iff.mp h
  have F_μ2 : Fr [20001] [11] μ μ2 := F_μ.tr ((frfX11_ends hq1 M_μ).mo (by decide) (by decide))
  have M_μ2 : Md μ2 := F_μ2.md hM (by decide)
  cases h
  exact F_μ2
theorem frjX11_takes_38 {s0 : Int} {μ : Mm} {t : (Int × Mm)} (h : jX11_takes_38 20000 s0 μ = some t) (hM : Md μ) : Fr [20001] [6, 7, 8, 9, 10, 11] μ (t.2) := by
  have F_μ : Fr [20001] [6, 7, 8, 9, 10, 11] μ μ := Fr.rf
  have M_μ := hM
  unfold jX11_takes_38 at h
  obtain ⟨-, h⟩ := chk_inv h
  split at h
  · skip
    split at h
    · skip
      exact F_μ.tr ((frjX11_takes_50 h M_μ).mo (by decide) (by decide))
    · skip
      obtain ⟨μ6, hq1, h⟩ := Option.bind_eq_some_iff.mp h
      have F_μ6 : Fr [20001] [6, 7, 8, 9, 10, 11] μ μ6 := F_μ.tr ((frfX11_advance hq1 M_μ).mo (by decide) (by decide))
      have M_μ6 : Md μ6 := F_μ6.md hM (by decide)
      cases h
      exact F_μ6
  · skip
    exact F_μ.tr ((frjX11_takes_50 h M_μ).mo (by decide) (by decide))
theorem frjX11_takes_37 {μ : Mm} {t : (Int × Mm)} (h : jX11_takes_37 20000 μ = some t) (hM : Md μ) : Fr [20001] [6, 7, 8, 9, 10, 11] μ (t.2) := by
  have F_μ : Fr [20001] [6, 7, 8, 9, 10, 11] μ μ := Fr.rf
  have M_μ := hM
  unfold jX11_takes_37 at h
  exact F_μ.tr ((frjX11_takes_38 h M_μ).mo (by decide) (by decide))
theorem frjX11_takes_33 {μ : Mm} {t : (Int × Mm)} (h : jX11_takes_33 20000 μ = some t) (hM : Md μ) : Fr [20001] [6, 7, 8, 9, 10, 11] μ (t.2) := by
  have F_μ : Fr [20001] [6, 7, 8, 9, 10, 11] μ μ := Fr.rf
  have M_μ := hM
  unfold jX11_takes_33 at h
  exact F_μ.tr ((frjX11_takes_38 h M_μ).mo (by decide) (by decide))
theorem frfX11_takes {v1 : Int} {μ : Mm} {t : (Int × Mm)} (h : fX11_takes 20000 v1 μ = some t) (hM : Md μ) : Fr [20001] [6, 7, 8, 9, 10, 11] μ (t.2) := by
  have F_μ : Fr [20001] [6, 7, 8, 9, 10, 11] μ μ := Fr.rf
  have M_μ := hM
  unfold fX11_takes at h
  obtain ⟨-, h⟩ := chk_inv h
  split at h
  · skip
    split at h
    · skip
      split at h
      · skip
        exact F_μ.tr ((frjX11_takes_37 h M_μ).mo (by decide) (by decide))
      · skip
        exact F_μ.tr ((frjX11_takes_33 h M_μ).mo (by decide) (by decide))
    · skip
      split at h
      · skip
        exact F_μ.tr ((frjX11_takes_37 h M_μ).mo (by decide) (by decide))
      · skip
        exact F_μ.tr ((frjX11_takes_33 h M_μ).mo (by decide) (by decide))
  · skip
    exact F_μ.tr ((frjX11_takes_37 h M_μ).mo (by decide) (by decide))
theorem frjX11_endsLine_22 {μ : Mm} {t : Mm} (h : jX11_endsLine_22 20000 μ = some t) (hM : Md μ) : Fr [20001] [11] μ (t) := by
  have F_μ : Fr [20001] [11] μ μ := Fr.rf
  have M_μ := hM
  unfold jX11_endsLine_22 at h
  obtain ⟨-, h⟩ := chk_inv h
  obtain ⟨μ2, hq1, h⟩ := Option.bind_eq_some_iff.mp h
  have F_μ2 : Fr [20001] [11] μ μ2 := F_μ.tr ((frfX11_ends hq1 M_μ).mo (by decide) (by decide))
  have M_μ2 : Md μ2 := F_μ2.md hM (by decide)
  cases h
  exact F_μ2
theorem frfX11_endsLine {μ : Mm} {t : Mm} (h : fX11_endsLine 20000 μ = some t) (hM : Md μ) : Fr [20001] [6, 7, 8, 9, 10, 11] μ (t) := by
  have F_μ : Fr [20001] [6, 7, 8, 9, 10, 11] μ μ := Fr.rf
  have M_μ := hM
  unfold fX11_endsLine at h
  obtain ⟨-, h⟩ := chk_inv h
  split at h
  · skip
    split at h
    · skip
      obtain ⟨μ6, hq1, h⟩ := Option.bind_eq_some_iff.mp h
      have F_μ6 : Fr [20001] [6, 7, 8, 9, 10, 11] μ μ6 := F_μ.tr ((frfX11_advance hq1 M_μ).mo (by decide) (by decide))
      have M_μ6 : Md μ6 := F_μ6.md hM (by decide)
      cases h
      exact F_μ6
    · skip
      exact F_μ.tr ((frjX11_endsLine_22 h M_μ).mo (by decide) (by decide))
  · skip
    exact F_μ.tr ((frjX11_endsLine_22 h M_μ).mo (by decide) (by decide))
def pjX11_readHeights_2 : ((Int × Mm) ⊕ Mm) → Mm
  | .inl (_, μ) => μ
  | .inr μ => μ
theorem frjX11_readHeights_80 {μ : Mm} {t : ((Int × Mm) ⊕ Mm)} (h : jX11_readHeights_80 20000 μ = some t) (hM : Md μ) : Fr [] [12] μ (pjX11_readHeights_2 t) := by
  have F_μ : Fr [] [12] μ μ := Fr.rf
  have M_μ := hM
  unfold jX11_readHeights_80 at h
  obtain ⟨-, h⟩ := chk_inv h
  obtain ⟨μ2, eμ2, h⟩ := lm_inv h
  have F_μ2 : Fr [] [12] μ μ2 := F_μ.tr (Fr.fld eμ2 (by decide))
  have M_μ2 : Md μ2 := F_μ2.md hM (by decide)
  cases h
  exact F_μ2
theorem frjX11_readHeights_48 {μ : Mm} {t : ((Int × Mm) ⊕ Mm)} (h : jX11_readHeights_48 20000 μ = some t) (hM : Md μ) : Fr [20001, 20005] [6, 7, 8, 9, 10, 11, 12] μ (pjX11_readHeights_2 t) := by
  have F_μ : Fr [20001, 20005] [6, 7, 8, 9, 10, 11, 12] μ μ := Fr.rf
  have M_μ := hM
  unfold jX11_readHeights_48 at h
  obtain ⟨-, h⟩ := chk_inv h
  obtain ⟨⟨r4, μ4⟩, hq1, h⟩ := Option.bind_eq_some_iff.mp h
  dsimp only at h
  have F_μ4 : Fr [20001, 20005] [6, 7, 8, 9, 10, 11, 12] μ μ4 := F_μ.tr ((frfX11_numbered hq1 M_μ).mo (by decide) (by decide))
  have M_μ4 : Md μ4 := F_μ4.md hM (by decide)
  split at h
  · skip
    exact F_μ4.tr ((frjX11_readHeights_80 h M_μ4).mo (by decide) (by decide))
  · skip
    obtain ⟨-, h⟩ := chk_inv h
    obtain ⟨μ7, eμ7, h⟩ := lm_inv h
    have F_μ7 : Fr [20001, 20005] [6, 7, 8, 9, 10, 11, 12] μ μ7 := F_μ4.tr (Fr.row eμ7 (Md_13 M_μ4) (by decide) (by decide))
    have M_μ7 : Md μ7 := F_μ7.md hM (by decide)
    exact F_μ7.tr ((frjX11_readHeights_80 h M_μ7).mo (by decide) (by decide))
theorem frjX11_readHeights_21 {μ : Mm} {t : ((Int × Mm) ⊕ Mm)} (h : jX11_readHeights_21 20000 μ = some t) (hM : Md μ) : Fr [20001, 20005] [6, 7, 8, 9, 10, 11, 12] μ (pjX11_readHeights_2 t) := by
  have F_μ : Fr [20001, 20005] [6, 7, 8, 9, 10, 11, 12] μ μ := Fr.rf
  have M_μ := hM
  unfold jX11_readHeights_21 at h
  obtain ⟨-, h⟩ := chk_inv h
  split at h
  · skip
    exact F_μ.tr ((frjX11_readHeights_48 h M_μ).mo (by decide) (by decide))
  · skip
    split at h
    · skip
      obtain ⟨μ11, hq1, h⟩ := Option.bind_eq_some_iff.mp h
      have F_μ11 : Fr [20001, 20005] [6, 7, 8, 9, 10, 11, 12] μ μ11 := F_μ.tr ((frfX11_also hq1 M_μ).mo (by decide) (by decide))
      have M_μ11 : Md μ11 := F_μ11.md hM (by decide)
      exact F_μ11.tr ((frjX11_readHeights_48 h M_μ11).mo (by decide) (by decide))
    · skip
      exact F_μ.tr ((frjX11_readHeights_48 h M_μ).mo (by decide) (by decide))
theorem frsX11_readHeights_2 {q : (Int × Mm)} {t : ((Int × Mm) ⊕ Mm)} (h : sX11_readHeights_2 20000 q = some t) (hM : Md (pjX11_readHeights_2 (.inl q))) : Fr [20001, 20005] [6, 7, 8, 9, 10, 11, 12] (pjX11_readHeights_2 (.inl q)) (pjX11_readHeights_2 t) := by
  obtain ⟨v1, μ⟩ := q
  have hM : Md μ := hM
  show Fr [20001, 20005] [6, 7, 8, 9, 10, 11, 12] μ (pjX11_readHeights_2 t)
  have F_μ : Fr [20001, 20005] [6, 7, 8, 9, 10, 11, 12] μ μ := Fr.rf
  have M_μ := hM
  unfold sX11_readHeights_2 at h
  try dsimp only at h
  obtain ⟨-, h⟩ := chk_inv h
  split at h
  · skip
    split at h
    · skip
      split at h
      · skip
        exact F_μ.tr ((frjX11_readHeights_21 h M_μ).mo (by decide) (by decide))
      · skip
        cases h
        exact F_μ
    · skip
      exact F_μ.tr ((frjX11_readHeights_21 h M_μ).mo (by decide) (by decide))
  · skip
    cases h
    exact F_μ
theorem frfX11_readHeights {μ : Mm} {t : Mm} (h : fX11_readHeights 20000 μ = some t) (hM : Md μ) : Fr [20001, 20005] [6, 7, 8, 9, 10, 11, 12] μ (t) := by
  have F_μ : Fr [20001, 20005] [6, 7, 8, 9, 10, 11, 12] μ μ := Fr.rf
  have M_μ := hM
  unfold fX11_readHeights at h
  obtain ⟨x2, hq1, h⟩ := Option.bind_eq_some_iff.mp h
  have F_x2 := F_μ.tr ((lop_rel pjX11_readHeights_2 (by decide) (fun _ _ => frsX11_readHeights_2) _ _ _ hq1 M_μ).mo (R' := [20001, 20005]) (L' := [6, 7, 8, 9, 10, 11, 12]) (by decide) (by decide))
  have M_x2 := F_x2.md hM (by decide)
  obtain ⟨μ_17, hqq⟩ : ∃ z, z = x2 := ⟨x2, rfl⟩
  subst hqq
  have F_μ_17 : Fr [20001, 20005] [6, 7, 8, 9, 10, 11, 12] μ μ_17 := F_x2
  have M_μ_17 : Md μ_17 := M_x2
  cases h
  exact F_μ_17
theorem frjX11_thing_102 {v3 v4 v5 v6 s0 s1 : Int} {μ : Mm} {t : Mm} (h : jX11_thing_102 20000 v3 v4 v5 v6 s0 s1 20005 μ = some t) (hM : Md μ) : Fr [20005] [] μ (t) := by
  have F_μ : Fr [20005] [] μ μ := Fr.rf
  have M_μ := hM
  unfold jX11_thing_102 at h
  obtain ⟨-, h⟩ := chk_inv h
  obtain ⟨μ2, eμ2, h⟩ := lm_inv h
  have F_μ2 : Fr [20005] [] μ μ2 := F_μ.tr (Fr.row eμ2 rfl (by decide) (by decide))
  have M_μ2 : Md μ2 := F_μ2.md hM (by decide)
  obtain ⟨-, h⟩ := chk_inv h
  obtain ⟨-, h⟩ := chk_inv h
  obtain ⟨μ5, eμ5, h⟩ := lm_inv h
  have F_μ5 : Fr [20005] [] μ μ5 := F_μ2.tr (Fr.row eμ5 (Md_13 M_μ2) (by decide) (by decide))
  have M_μ5 : Md μ5 := F_μ5.md hM (by decide)
  obtain ⟨-, h⟩ := chk_inv h
  obtain ⟨μ7, eμ7, h⟩ := lm_inv h
  have F_μ7 : Fr [20005] [] μ μ7 := F_μ5.tr (Fr.row eμ7 (Md_13 M_μ5) (by decide) (by decide))
  have M_μ7 : Md μ7 := F_μ7.md hM (by decide)
  obtain ⟨-, h⟩ := chk_inv h
  obtain ⟨μ9, eμ9, h⟩ := lm_inv h
  have F_μ9 : Fr [20005] [] μ μ9 := F_μ7.tr (Fr.row eμ9 (Md_13 M_μ7) (by decide) (by decide))
  have M_μ9 : Md μ9 := F_μ9.md hM (by decide)
  obtain ⟨-, h⟩ := chk_inv h
  obtain ⟨μ11, eμ11, h⟩ := lm_inv h
  have F_μ11 : Fr [20005] [] μ μ11 := F_μ9.tr (Fr.row eμ11 (Md_13 M_μ9) (by decide) (by decide))
  have M_μ11 : Md μ11 := F_μ11.md hM (by decide)
  cases h
  exact F_μ11
theorem frjX11_thing_60 {v1 v3 v4 s0 : Int} {μ : Mm} {t : Mm} (h : jX11_thing_60 20000 v1 v3 v4 s0 μ = some t) (hM : Md μ) : Fr [20005] [] μ (t) := by
  have F_μ : Fr [20005] [] μ μ := Fr.rf
  have M_μ := hM
  unfold jX11_thing_60 at h
  obtain ⟨-, h⟩ := chk_inv h
  obtain ⟨-, h⟩ := chk_inv h
  split at h
  · skip
    obtain ⟨μ15, eμ15, h⟩ := lm_inv h
    have F_μ15 : Fr [20005] [] μ μ15 := F_μ.tr (Fr.row eμ15 (Md_13 M_μ) (by decide) (by decide))
    have M_μ15 : Md μ15 := F_μ15.md hM (by decide)
    cases h
    exact F_μ15
  · skip
    obtain ⟨y16, -, h⟩ := lt_inv h
    split at h
    · skip
      rw [Md_13 M_μ] at h
      exact F_μ.tr ((frjX11_thing_102 h M_μ).mo (by decide) (by decide))
    · skip
      rw [Md_13 M_μ] at h
      exact F_μ.tr ((frjX11_thing_102 h M_μ).mo (by decide) (by decide))
theorem frjX11_thing_41 {v1 v3 s0 : Int} {μ : Mm} {t : Mm} (h : jX11_thing_41 20000 v1 v3 s0 μ = some t) (hM : Md μ) : Fr [20001, 20005] [6, 7, 8, 9, 10, 11] μ (t) := by
  have F_μ : Fr [20001, 20005] [6, 7, 8, 9, 10, 11] μ μ := Fr.rf
  have M_μ := hM
  unfold jX11_thing_41 at h
  split at h
  · skip
    exact F_μ.tr ((frjX11_thing_60 h M_μ).mo (by decide) (by decide))
  · skip
    obtain ⟨-, h⟩ := chk_inv h
    obtain ⟨⟨r20, μ20⟩, hq1, h⟩ := Option.bind_eq_some_iff.mp h
    dsimp only at h
    have F_μ20 : Fr [20001, 20005] [6, 7, 8, 9, 10, 11] μ μ20 := F_μ.tr ((frfX11_numbered hq1 M_μ).mo (by decide) (by decide))
    have M_μ20 : Md μ20 := F_μ20.md hM (by decide)
    exact F_μ20.tr ((frjX11_thing_60 h M_μ20).mo (by decide) (by decide))
theorem frjX11_thing_17 {v1 : Int} {μ : Mm} {t : Mm} (h : jX11_thing_17 20000 v1 μ = some t) (hM : Md μ) : Fr [20001, 20005] [6, 7, 8, 9, 10, 11] μ (t) := by
  have F_μ : Fr [20001, 20005] [6, 7, 8, 9, 10, 11] μ μ := Fr.rf
  have M_μ := hM
  unfold jX11_thing_17 at h
  obtain ⟨-, h⟩ := chk_inv h
  obtain ⟨⟨r22, μ22⟩, hq1, h⟩ := Option.bind_eq_some_iff.mp h
  dsimp only at h
  have F_μ22 : Fr [20001, 20005] [6, 7, 8, 9, 10, 11] μ μ22 := F_μ.tr ((frfX11_numbered hq1 M_μ).mo (by decide) (by decide))
  have M_μ22 : Md μ22 := F_μ22.md hM (by decide)
  split at h
  · skip
    exact F_μ22.tr ((frjX11_thing_41 h M_μ22).mo (by decide) (by decide))
  · skip
    obtain ⟨⟨r24, μ24⟩, hq2, h⟩ := Option.bind_eq_some_iff.mp h
    dsimp only at h
    have F_μ24 : Fr [20001, 20005] [6, 7, 8, 9, 10, 11] μ μ24 := F_μ22.tr ((frfX11_numbered hq2 M_μ22).mo (by decide) (by decide))
    have M_μ24 : Md μ24 := F_μ24.md hM (by decide)
    exact F_μ24.tr ((frjX11_thing_41 h M_μ24).mo (by decide) (by decide))
theorem frfX11_thing {v1 v2 : Int} {μ : Mm} {t : Mm} (h : fX11_thing 20000 v1 v2 μ = some t) (hM : Md μ) : Fr [20001, 20005] [6, 7, 8, 9, 10, 11] μ (t) := by
  have F_μ : Fr [20001, 20005] [6, 7, 8, 9, 10, 11] μ μ := Fr.rf
  have M_μ := hM
  unfold fX11_thing at h
  obtain ⟨-, h⟩ := chk_inv h
  obtain ⟨-, h⟩ := chk_inv h
  split at h
  · skip
    exact F_μ.tr ((frjX11_thing_17 h M_μ).mo (by decide) (by decide))
  · skip
    obtain ⟨μ28, hq1, h⟩ := Option.bind_eq_some_iff.mp h
    have F_μ28 : Fr [20001, 20005] [6, 7, 8, 9, 10, 11] μ μ28 := F_μ.tr ((frfX11_also hq1 M_μ).mo (by decide) (by decide))
    have M_μ28 : Md μ28 := F_μ28.md hM (by decide)
    exact F_μ28.tr ((frjX11_thing_17 h M_μ28).mo (by decide) (by decide))
theorem frjX11_landLine_134 {μ : Mm} {t : Mm} (h : jX11_landLine_134 20000 μ = some t) (hM : Md μ) : Fr [20001] [6, 7, 8, 9, 10, 11] μ (t) := by
  have F_μ : Fr [20001] [6, 7, 8, 9, 10, 11] μ μ := Fr.rf
  have M_μ := hM
  unfold jX11_landLine_134 at h
  obtain ⟨-, h⟩ := chk_inv h
  obtain ⟨μ2, hq1, h⟩ := Option.bind_eq_some_iff.mp h
  have F_μ2 : Fr [20001] [6, 7, 8, 9, 10, 11] μ μ2 := F_μ.tr ((frfX11_endsLine hq1 M_μ).mo (by decide) (by decide))
  have M_μ2 : Md μ2 := F_μ2.md hM (by decide)
  cases h
  exact F_μ2
theorem frjX11_landLine_130 {v1 s0 : Int} {μ : Mm} {t : Mm} (h : jX11_landLine_130 20000 v1 s0 20000 μ = some t) (hM : Md μ) : Fr [20001, 20005] [6, 7, 8, 9, 10, 11] μ (t) := by
  have F_μ : Fr [20001, 20005] [6, 7, 8, 9, 10, 11] μ μ := Fr.rf
  have M_μ := hM
  unfold jX11_landLine_130 at h
  obtain ⟨-, h⟩ := chk_inv h
  obtain ⟨μ4, hq1, h⟩ := Option.bind_eq_some_iff.mp h
  have F_μ4 : Fr [20001, 20005] [6, 7, 8, 9, 10, 11] μ μ4 := F_μ.tr ((frfX11_thing hq1 M_μ).mo (by decide) (by decide))
  have M_μ4 : Md μ4 := F_μ4.md hM (by decide)
  exact F_μ4.tr ((frjX11_landLine_134 h M_μ4).mo (by decide) (by decide))
theorem frjX11_landLine_118 {v1 v2 : Int} {μ : Mm} {t : Mm} (h : jX11_landLine_118 20000 v1 v2 μ = some t) (hM : Md μ) : Fr [20001, 20005] [6, 7, 8, 9, 10, 11] μ (t) := by
  have F_μ : Fr [20001, 20005] [6, 7, 8, 9, 10, 11] μ μ := Fr.rf
  have M_μ := hM
  unfold jX11_landLine_118 at h
  split at h
  · skip
    exact F_μ.tr ((frjX11_landLine_130 h M_μ).mo (by decide) (by decide))
  · skip
    exact F_μ.tr ((frjX11_landLine_130 h M_μ).mo (by decide) (by decide))
theorem frjX11_landLine_106 {v1 v2 : Int} {μ : Mm} {t : Mm} (h : jX11_landLine_106 20000 v1 v2 μ = some t) (hM : Md μ) : Fr [20001, 20005] [6, 7, 8, 9, 10, 11] μ (t) := by
  have F_μ : Fr [20001, 20005] [6, 7, 8, 9, 10, 11] μ μ := Fr.rf
  have M_μ := hM
  unfold jX11_landLine_106 at h
  split at h
  · skip
    exact F_μ.tr ((frjX11_landLine_118 h M_μ).mo (by decide) (by decide))
  · skip
    split at h
    · skip
      exact F_μ.tr ((frjX11_landLine_118 h M_μ).mo (by decide) (by decide))
    · skip
      exact F_μ.tr ((frjX11_landLine_134 h M_μ).mo (by decide) (by decide))
theorem frjX11_landLine_87 {v1 v2 : Int} {μ : Mm} {t : Mm} (h : jX11_landLine_87 20000 v1 v2 μ = some t) (hM : Md μ) : Fr [20001, 20005] [6, 7, 8, 9, 10, 11] μ (t) := by
  have F_μ : Fr [20001, 20005] [6, 7, 8, 9, 10, 11] μ μ := Fr.rf
  have M_μ := hM
  unfold jX11_landLine_87 at h
  split at h
  · skip
    obtain ⟨-, h⟩ := chk_inv h
    obtain ⟨⟨r10, μ10⟩, hq1, h⟩ := Option.bind_eq_some_iff.mp h
    dsimp only at h
    have F_μ10 : Fr [20001, 20005] [6, 7, 8, 9, 10, 11] μ μ10 := F_μ.tr ((frfX11_numbered hq1 M_μ).mo (by decide) (by decide))
    have M_μ10 : Md μ10 := F_μ10.md hM (by decide)
    obtain ⟨-, h⟩ := chk_inv h
    obtain ⟨μ12, eμ12, h⟩ := lm_inv h
    have F_μ12 : Fr [20001, 20005] [6, 7, 8, 9, 10, 11] μ μ12 := F_μ10.tr (Fr.row eμ12 (Md_13 M_μ) (by decide) (by decide))
    have M_μ12 : Md μ12 := F_μ12.md hM (by decide)
    exact F_μ12.tr ((frjX11_landLine_106 h M_μ12).mo (by decide) (by decide))
  · skip
    exact F_μ.tr ((frjX11_landLine_106 h M_μ).mo (by decide) (by decide))
theorem frjX11_landLine_69 {v1 v2 : Int} {μ : Mm} {t : Mm} (h : jX11_landLine_69 20000 v1 v2 μ = some t) (hM : Md μ) : Fr [20001, 20005] [6, 7, 8, 9, 10, 11] μ (t) := by
  have F_μ : Fr [20001, 20005] [6, 7, 8, 9, 10, 11] μ μ := Fr.rf
  have M_μ := hM
  unfold jX11_landLine_69 at h
  split at h
  · skip
    obtain ⟨-, h⟩ := chk_inv h
    obtain ⟨⟨r15, μ15⟩, hq1, h⟩ := Option.bind_eq_some_iff.mp h
    dsimp only at h
    have F_μ15 : Fr [20001, 20005] [6, 7, 8, 9, 10, 11] μ μ15 := F_μ.tr ((frfX11_numbered hq1 M_μ).mo (by decide) (by decide))
    have M_μ15 : Md μ15 := F_μ15.md hM (by decide)
    obtain ⟨-, h⟩ := chk_inv h
    obtain ⟨μ17, eμ17, h⟩ := lm_inv h
    have F_μ17 : Fr [20001, 20005] [6, 7, 8, 9, 10, 11] μ μ17 := F_μ15.tr (Fr.row eμ17 (Md_13 M_μ) (by decide) (by decide))
    have M_μ17 : Md μ17 := F_μ17.md hM (by decide)
    exact F_μ17.tr ((frjX11_landLine_87 h M_μ17).mo (by decide) (by decide))
  · skip
    exact F_μ.tr ((frjX11_landLine_87 h M_μ).mo (by decide) (by decide))
theorem frjX11_landLine_51 {v1 v2 : Int} {μ : Mm} {t : Mm} (h : jX11_landLine_51 20000 v1 v2 μ = some t) (hM : Md μ) : Fr [20001, 20005] [6, 7, 8, 9, 10, 11] μ (t) := by
  have F_μ : Fr [20001, 20005] [6, 7, 8, 9, 10, 11] μ μ := Fr.rf
  have M_μ := hM
  unfold jX11_landLine_51 at h
  split at h
  · skip
    obtain ⟨-, h⟩ := chk_inv h
    obtain ⟨⟨r20, μ20⟩, hq1, h⟩ := Option.bind_eq_some_iff.mp h
    dsimp only at h
    have F_μ20 : Fr [20001, 20005] [6, 7, 8, 9, 10, 11] μ μ20 := F_μ.tr ((frfX11_numbered hq1 M_μ).mo (by decide) (by decide))
    have M_μ20 : Md μ20 := F_μ20.md hM (by decide)
    obtain ⟨-, h⟩ := chk_inv h
    obtain ⟨μ22, eμ22, h⟩ := lm_inv h
    have F_μ22 : Fr [20001, 20005] [6, 7, 8, 9, 10, 11] μ μ22 := F_μ20.tr (Fr.row eμ22 (Md_13 M_μ) (by decide) (by decide))
    have M_μ22 : Md μ22 := F_μ22.md hM (by decide)
    exact F_μ22.tr ((frjX11_landLine_69 h M_μ22).mo (by decide) (by decide))
  · skip
    exact F_μ.tr ((frjX11_landLine_69 h M_μ).mo (by decide) (by decide))
theorem frjX11_landLine_42 {v1 v2 : Int} {μ : Mm} {t : Mm} (h : jX11_landLine_42 20000 v1 v2 μ = some t) (hM : Md μ) : Fr [20001, 20005] [6, 7, 8, 9, 10, 11, 12] μ (t) := by
  have F_μ : Fr [20001, 20005] [6, 7, 8, 9, 10, 11, 12] μ μ := Fr.rf
  have M_μ := hM
  unfold jX11_landLine_42 at h
  split at h
  · skip
    obtain ⟨-, h⟩ := chk_inv h
    obtain ⟨μ25, hq1, h⟩ := Option.bind_eq_some_iff.mp h
    have F_μ25 : Fr [20001, 20005] [6, 7, 8, 9, 10, 11, 12] μ μ25 := F_μ.tr ((frfX11_readHeights hq1 M_μ).mo (by decide) (by decide))
    have M_μ25 : Md μ25 := F_μ25.md hM (by decide)
    exact F_μ25.tr ((frjX11_landLine_51 h M_μ25).mo (by decide) (by decide))
  · skip
    exact F_μ.tr ((frjX11_landLine_51 h M_μ).mo (by decide) (by decide))
theorem frfX11_landLine {μ : Mm} {t : Mm} (h : fX11_landLine 20000 μ = some t) (hM : Md μ) : Fr [20001, 20005] [6, 7, 8, 9, 10, 11, 12] μ (t) := by
  have F_μ : Fr [20001, 20005] [6, 7, 8, 9, 10, 11, 12] μ μ := Fr.rf
  have M_μ := hM
  unfold fX11_landLine at h
  obtain ⟨-, h⟩ := chk_inv h
  obtain ⟨⟨r27, μ27⟩, hq1, h⟩ := Option.bind_eq_some_iff.mp h
  dsimp only at h
  have F_μ27 : Fr [20001, 20005] [6, 7, 8, 9, 10, 11, 12] μ μ27 := F_μ.tr ((frfX11_takes hq1 M_μ).mo (by decide) (by decide))
  have M_μ27 : Md μ27 := F_μ27.md hM (by decide)
  split at h
  · skip
    obtain ⟨⟨r29, μ29⟩, hq2, h⟩ := Option.bind_eq_some_iff.mp h
    dsimp only at h
    have F_μ29 : Fr [20001, 20005] [6, 7, 8, 9, 10, 11, 12] μ μ29 := F_μ27.tr ((frfX11_numbered hq2 M_μ27).mo (by decide) (by decide))
    have M_μ29 : Md μ29 := F_μ29.md hM (by decide)
    obtain ⟨-, h⟩ := chk_inv h
    obtain ⟨μ31, eμ31, h⟩ := lm_inv h
    have F_μ31 : Fr [20001, 20005] [6, 7, 8, 9, 10, 11, 12] μ μ31 := F_μ29.tr (Fr.row eμ31 (Md_13 M_μ27) (by decide) (by decide))
    have M_μ31 : Md μ31 := F_μ31.md hM (by decide)
    obtain ⟨⟨r32, μ32⟩, hq3, h⟩ := Option.bind_eq_some_iff.mp h
    dsimp only at h
    have F_μ32 : Fr [20001, 20005] [6, 7, 8, 9, 10, 11, 12] μ μ32 := F_μ31.tr ((frfX11_numbered hq3 M_μ31).mo (by decide) (by decide))
    have M_μ32 : Md μ32 := F_μ32.md hM (by decide)
    obtain ⟨-, h⟩ := chk_inv h
    obtain ⟨μ34, eμ34, h⟩ := lm_inv h
    have F_μ34 : Fr [20001, 20005] [6, 7, 8, 9, 10, 11, 12] μ μ34 := F_μ32.tr (Fr.row eμ34 (Md_13 M_μ31) (by decide) (by decide))
    have M_μ34 : Md μ34 := F_μ34.md hM (by decide)
    exact F_μ34.tr ((frjX11_landLine_42 h M_μ34).mo (by decide) (by decide))
  · skip
    exact F_μ27.tr ((frjX11_landLine_42 h M_μ27).mo (by decide) (by decide))
def pjX11_hump0_27 : ((Int × Mm) ⊕ (Int × Mm)) → Mm
  | .inl (_, μ) => μ
  | .inr (_, μ) => μ
theorem frjX11_hump0_118 {v2 v3 v4 : Int} {μ : Mm} {t : ((Int × Mm) ⊕ (Int × Mm))} (h : jX11_hump0_118 20000 v2 v3 v4 μ = some t) (hM : Md μ) : Fr [] [6, 7, 8, 9, 10] μ (pjX11_hump0_27 t) := by
  have F_μ : Fr [] [6, 7, 8, 9, 10] μ μ := Fr.rf
  have M_μ := hM
  unfold jX11_hump0_118 at h
  obtain ⟨-, h⟩ := chk_inv h
  obtain ⟨μ2, hq1, h⟩ := Option.bind_eq_some_iff.mp h
  have F_μ2 : Fr [] [6, 7, 8, 9, 10] μ μ2 := F_μ.tr ((frfX11_advance hq1 M_μ).mo (by decide) (by decide))
  have M_μ2 : Md μ2 := F_μ2.md hM (by decide)
  cases h
  exact F_μ2
theorem frjX11_hump0_109 {v2 v3 v4 : Int} {μ : Mm} {t : ((Int × Mm) ⊕ (Int × Mm))} (h : jX11_hump0_109 20000 v2 v3 v4 μ = some t) (hM : Md μ) : Fr [20001] [6, 7, 8, 9, 10] μ (pjX11_hump0_27 t) := by
  have F_μ : Fr [20001] [6, 7, 8, 9, 10] μ μ := Fr.rf
  have M_μ := hM
  unfold jX11_hump0_109 at h
  obtain ⟨-, h⟩ := chk_inv h
  obtain ⟨μ4, hq1, h⟩ := Option.bind_eq_some_iff.mp h
  have F_μ4 : Fr [20001] [6, 7, 8, 9, 10] μ μ4 := F_μ.tr ((frfX11_also hq1 M_μ).mo (by decide) (by decide))
  have M_μ4 : Md μ4 := F_μ4.md hM (by decide)
  exact F_μ4.tr ((frjX11_hump0_118 h M_μ4).mo (by decide) (by decide))
theorem frjX11_hump0_97 {v2 v3 v4 : Int} {μ : Mm} {t : ((Int × Mm) ⊕ (Int × Mm))} (h : jX11_hump0_97 20000 v2 v3 v4 μ = some t) (hM : Md μ) : Fr [20001] [6, 7, 8, 9, 10] μ (pjX11_hump0_27 t) := by
  have F_μ : Fr [20001] [6, 7, 8, 9, 10] μ μ := Fr.rf
  have M_μ := hM
  unfold jX11_hump0_97 at h
  split at h
  · skip
    split at h
    · skip
      exact F_μ.tr ((frjX11_hump0_118 h M_μ).mo (by decide) (by decide))
    · skip
      exact F_μ.tr ((frjX11_hump0_109 h M_μ).mo (by decide) (by decide))
  · skip
    exact F_μ.tr ((frjX11_hump0_118 h M_μ).mo (by decide) (by decide))
theorem frjX11_hump0_83 {v2 v3 s0 : Int} {μ : Mm} {t : ((Int × Mm) ⊕ (Int × Mm))} (h : jX11_hump0_83 20000 v2 v3 s0 μ = some t) (hM : Md μ) : Fr [20001] [6, 7, 8, 9, 10] μ (pjX11_hump0_27 t) := by
  have F_μ : Fr [20001] [6, 7, 8, 9, 10] μ μ := Fr.rf
  have M_μ := hM
  unfold jX11_hump0_83 at h
  split at h
  · skip
    split at h
    · skip
      exact F_μ.tr ((frjX11_hump0_97 h M_μ).mo (by decide) (by decide))
    · skip
      exact F_μ.tr ((frjX11_hump0_109 h M_μ).mo (by decide) (by decide))
  · skip
    exact F_μ.tr ((frjX11_hump0_97 h M_μ).mo (by decide) (by decide))
theorem frsX11_hump0_27 {v2 : Int} {q : (Int × Mm)} {t : ((Int × Mm) ⊕ (Int × Mm))} (h : sX11_hump0_27 20000 v2 q = some t) (hM : Md (pjX11_hump0_27 (.inl q))) : Fr [20001] [6, 7, 8, 9, 10] (pjX11_hump0_27 (.inl q)) (pjX11_hump0_27 t) := by
  obtain ⟨v3, μ⟩ := q
  have hM : Md μ := hM
  show Fr [20001] [6, 7, 8, 9, 10] μ (pjX11_hump0_27 t)
  have F_μ : Fr [20001] [6, 7, 8, 9, 10] μ μ := Fr.rf
  have M_μ := hM
  unfold sX11_hump0_27 at h
  try dsimp only at h
  obtain ⟨-, h⟩ := chk_inv h
  split at h
  · skip
    split at h
    · skip
      split at h
      · skip
        cases h
        exact F_μ
      · skip
        split at h
        · skip
          exact F_μ.tr ((frjX11_hump0_83 h M_μ).mo (by decide) (by decide))
        · skip
          split at h
          · skip
            exact F_μ.tr ((frjX11_hump0_83 h M_μ).mo (by decide) (by decide))
          · skip
            exact F_μ.tr ((frjX11_hump0_83 h M_μ).mo (by decide) (by decide))
    · skip
      cases h
      exact F_μ
  · skip
    cases h
    exact F_μ
theorem frjX11_hump0_17 {μ : Mm} {t : Mm} (h : jX11_hump0_17 20000 μ = some t) (hM : Md μ) : Fr [20001, 20005] [6, 7, 8, 9, 10, 11] μ (t) := by
  have F_μ : Fr [20001, 20005] [6, 7, 8, 9, 10, 11] μ μ := Fr.rf
  have M_μ := hM
  unfold jX11_hump0_17 at h
  obtain ⟨-, h⟩ := chk_inv h
  obtain ⟨⟨r16, μ16⟩, hq1, h⟩ := Option.bind_eq_some_iff.mp h
  dsimp only at h
  have F_μ16 : Fr [20001, 20005] [6, 7, 8, 9, 10, 11] μ μ16 := F_μ.tr ((frfX11_numbered hq1 M_μ).mo (by decide) (by decide))
  have M_μ16 : Md μ16 := F_μ16.md hM (by decide)
  obtain ⟨x3, hq2, h⟩ := Option.bind_eq_some_iff.mp h
  have F_x3 := F_μ16.tr ((lop_rel pjX11_hump0_27 (by decide) (fun _ _ => frsX11_hump0_27) _ _ _ hq2 M_μ16).mo (R' := [20001, 20005]) (L' := [6, 7, 8, 9, 10, 11]) (by decide) (by decide))
  have M_x3 := F_x3.md hM (by decide)
  obtain ⟨v3_18, μ_18⟩ := x3
  dsimp only at h
  have F_μ_18 : Fr [20001, 20005] [6, 7, 8, 9, 10, 11] μ μ_18 := F_x3
  have M_μ_18 : Md μ_18 := M_x3
  obtain ⟨-, h⟩ := chk_inv h
  split at h
  · skip
    obtain ⟨μ21, eμ21, h⟩ := lm_inv h
    have F_μ21 : Fr [20001, 20005] [6, 7, 8, 9, 10, 11] μ μ21 := F_μ_18.tr (Fr.row eμ21 (Md_13 M_μ_18) (by decide) (by decide))
    have M_μ21 : Md μ21 := F_μ21.md hM (by decide)
    cases h
    exact F_μ21
  · skip
    obtain ⟨-, h⟩ := chk_inv h
    obtain ⟨μ23, eμ23, h⟩ := lm_inv h
    have F_μ23 : Fr [20001, 20005] [6, 7, 8, 9, 10, 11] μ μ23 := F_μ_18.tr (Fr.row eμ23 (Md_13 M_μ_18) (by decide) (by decide))
    have M_μ23 : Md μ23 := F_μ23.md hM (by decide)
    obtain ⟨-, h⟩ := chk_inv h
    obtain ⟨-, h⟩ := chk_inv h
    obtain ⟨μ26, eμ26, h⟩ := lm_inv h
    have F_μ26 : Fr [20001, 20005] [6, 7, 8, 9, 10, 11] μ μ26 := F_μ23.tr (Fr.row eμ26 (Md_13 M_μ23) (by decide) (by decide))
    have M_μ26 : Md μ26 := F_μ26.md hM (by decide)
    obtain ⟨-, h⟩ := chk_inv h
    obtain ⟨μ28, eμ28, h⟩ := lm_inv h
    have F_μ28 : Fr [20001, 20005] [6, 7, 8, 9, 10, 11] μ μ28 := F_μ26.tr (Fr.row eμ28 (Md_13 M_μ26) (by decide) (by decide))
    have M_μ28 : Md μ28 := F_μ28.md hM (by decide)
    cases h
    exact F_μ28
theorem frfX11_hump0 {v1 : Int} {μ : Mm} {t : Mm} (h : fX11_hump0 20000 v1 μ = some t) (hM : Md μ) : Fr [20001, 20005] [6, 7, 8, 9, 10, 11] μ (t) := by
  have F_μ : Fr [20001, 20005] [6, 7, 8, 9, 10, 11] μ μ := Fr.rf
  have M_μ := hM
  unfold fX11_hump0 at h
  obtain ⟨-, h⟩ := chk_inv h
  obtain ⟨-, h⟩ := chk_inv h
  split at h
  · skip
    exact F_μ.tr ((frjX11_hump0_17 h M_μ).mo (by decide) (by decide))
  · skip
    obtain ⟨μ32, hq1, h⟩ := Option.bind_eq_some_iff.mp h
    have F_μ32 : Fr [20001, 20005] [6, 7, 8, 9, 10, 11] μ μ32 := F_μ.tr ((frfX11_also hq1 M_μ).mo (by decide) (by decide))
    have M_μ32 : Md μ32 := F_μ32.md hM (by decide)
    exact F_μ32.tr ((frjX11_hump0_17 h M_μ32).mo (by decide) (by decide))
theorem frjX11_sketchLine_150 {μ : Mm} {t : Mm} (h : jX11_sketchLine_150 20000 μ = some t) (hM : Md μ) : Fr [20001] [6, 7, 8, 9, 10, 11] μ (t) := by
  have F_μ : Fr [20001] [6, 7, 8, 9, 10, 11] μ μ := Fr.rf
  have M_μ := hM
  unfold jX11_sketchLine_150 at h
  obtain ⟨-, h⟩ := chk_inv h
  obtain ⟨μ2, hq1, h⟩ := Option.bind_eq_some_iff.mp h
  have F_μ2 : Fr [20001] [6, 7, 8, 9, 10, 11] μ μ2 := F_μ.tr ((frfX11_endsLine hq1 M_μ).mo (by decide) (by decide))
  have M_μ2 : Md μ2 := F_μ2.md hM (by decide)
  cases h
  exact F_μ2
theorem frjX11_sketchLine_112 {v2 : Int} {μ : Mm} {t : Mm} (h : jX11_sketchLine_112 20000 v2 μ = some t) (hM : Md μ) : Fr [20001, 20005] [6, 7, 8, 9, 10, 11] μ (t) := by
  have F_μ : Fr [20001, 20005] [6, 7, 8, 9, 10, 11] μ μ := Fr.rf
  have M_μ := hM
  unfold jX11_sketchLine_112 at h
  split at h
  · skip
    obtain ⟨-, h⟩ := chk_inv h
    obtain ⟨⟨r5, μ5⟩, hq1, h⟩ := Option.bind_eq_some_iff.mp h
    dsimp only at h
    have F_μ5 : Fr [20001, 20005] [6, 7, 8, 9, 10, 11] μ μ5 := F_μ.tr ((frfX11_numbered hq1 M_μ).mo (by decide) (by decide))
    have M_μ5 : Md μ5 := F_μ5.md hM (by decide)
    obtain ⟨-, h⟩ := chk_inv h
    obtain ⟨μ7, eμ7, h⟩ := lm_inv h
    have F_μ7 : Fr [20001, 20005] [6, 7, 8, 9, 10, 11] μ μ7 := F_μ5.tr (Fr.row eμ7 (Md_13 M_μ) (by decide) (by decide))
    have M_μ7 : Md μ7 := F_μ7.md hM (by decide)
    obtain ⟨-, h⟩ := chk_inv h
    obtain ⟨⟨r9, μ9⟩, hq2, h⟩ := Option.bind_eq_some_iff.mp h
    dsimp only at h
    have F_μ9 : Fr [20001, 20005] [6, 7, 8, 9, 10, 11] μ μ9 := F_μ7.tr ((frfX11_numbered hq2 M_μ7).mo (by decide) (by decide))
    have M_μ9 : Md μ9 := F_μ9.md hM (by decide)
    obtain ⟨-, h⟩ := chk_inv h
    obtain ⟨μ11, eμ11, h⟩ := lm_inv h
    have F_μ11 : Fr [20001, 20005] [6, 7, 8, 9, 10, 11] μ μ11 := F_μ9.tr (Fr.row eμ11 (Md_13 M_μ7) (by decide) (by decide))
    have M_μ11 : Md μ11 := F_μ11.md hM (by decide)
    exact F_μ11.tr ((frjX11_sketchLine_150 h M_μ11).mo (by decide) (by decide))
  · skip
    exact F_μ.tr ((frjX11_sketchLine_150 h M_μ).mo (by decide) (by decide))
theorem frjX11_sketchLine_99 {v2 : Int} {μ : Mm} {t : Mm} (h : jX11_sketchLine_99 20000 v2 μ = some t) (hM : Md μ) : Fr [20001, 20005] [6, 7, 8, 9, 10, 11] μ (t) := by
  have F_μ : Fr [20001, 20005] [6, 7, 8, 9, 10, 11] μ μ := Fr.rf
  have M_μ := hM
  unfold jX11_sketchLine_99 at h
  split at h
  · skip
    obtain ⟨-, h⟩ := chk_inv h
    obtain ⟨-, h⟩ := chk_inv h
    obtain ⟨μ15, eμ15, h⟩ := lm_inv h
    have F_μ15 : Fr [20001, 20005] [6, 7, 8, 9, 10, 11] μ μ15 := F_μ.tr (Fr.row eμ15 (Md_13 M_μ) (by decide) (by decide))
    have M_μ15 : Md μ15 := F_μ15.md hM (by decide)
    exact F_μ15.tr ((frjX11_sketchLine_112 h M_μ15).mo (by decide) (by decide))
  · skip
    exact F_μ.tr ((frjX11_sketchLine_112 h M_μ).mo (by decide) (by decide))
theorem frjX11_sketchLine_98 {v2 s0 s1 : Int} {μ : Mm} {t : Mm} (h : jX11_sketchLine_98 20000 v2 s0 s1 20005 μ = some t) (hM : Md μ) : Fr [20001, 20005] [6, 7, 8, 9, 10, 11] μ (t) := by
  have F_μ : Fr [20001, 20005] [6, 7, 8, 9, 10, 11] μ μ := Fr.rf
  have M_μ := hM
  unfold jX11_sketchLine_98 at h
  obtain ⟨-, h⟩ := chk_inv h
  obtain ⟨μ17, eμ17, h⟩ := lm_inv h
  have F_μ17 : Fr [20001, 20005] [6, 7, 8, 9, 10, 11] μ μ17 := F_μ.tr (Fr.row eμ17 rfl (by decide) (by decide))
  have M_μ17 : Md μ17 := F_μ17.md hM (by decide)
  exact F_μ17.tr ((frjX11_sketchLine_99 h M_μ17).mo (by decide) (by decide))
theorem frjX11_sketchLine_82 {v2 : Int} {μ : Mm} {t : Mm} (h : jX11_sketchLine_82 20000 v2 μ = some t) (hM : Md μ) : Fr [20001, 20005] [6, 7, 8, 9, 10, 11] μ (t) := by
  have F_μ : Fr [20001, 20005] [6, 7, 8, 9, 10, 11] μ μ := Fr.rf
  have M_μ := hM
  unfold jX11_sketchLine_82 at h
  obtain ⟨-, h⟩ := chk_inv h
  split at h
  · skip
    rw [Md_13 M_μ] at h
    exact F_μ.tr ((frjX11_sketchLine_98 h M_μ).mo (by decide) (by decide))
  · skip
    rw [Md_13 M_μ] at h
    exact F_μ.tr ((frjX11_sketchLine_98 h M_μ).mo (by decide) (by decide))
theorem frjX11_sketchLine_70 {v2 : Int} {μ : Mm} {t : Mm} (h : jX11_sketchLine_70 20000 v2 μ = some t) (hM : Md μ) : Fr [20001, 20005] [6, 7, 8, 9, 10, 11] μ (t) := by
  have F_μ : Fr [20001, 20005] [6, 7, 8, 9, 10, 11] μ μ := Fr.rf
  have M_μ := hM
  unfold jX11_sketchLine_70 at h
  split at h
  · skip
    exact F_μ.tr ((frjX11_sketchLine_82 h M_μ).mo (by decide) (by decide))
  · skip
    split at h
    · skip
      exact F_μ.tr ((frjX11_sketchLine_82 h M_μ).mo (by decide) (by decide))
    · skip
      exact F_μ.tr ((frjX11_sketchLine_99 h M_μ).mo (by decide) (by decide))
theorem frjX11_sketchLine_69 {v2 s0 s1 : Int} {μ : Mm} {t : Mm} (h : jX11_sketchLine_69 20000 v2 s0 s1 20005 μ = some t) (hM : Md μ) : Fr [20001, 20005] [6, 7, 8, 9, 10, 11] μ (t) := by
  have F_μ : Fr [20001, 20005] [6, 7, 8, 9, 10, 11] μ μ := Fr.rf
  have M_μ := hM
  unfold jX11_sketchLine_69 at h
  obtain ⟨-, h⟩ := chk_inv h
  obtain ⟨μ23, eμ23, h⟩ := lm_inv h
  have F_μ23 : Fr [20001, 20005] [6, 7, 8, 9, 10, 11] μ μ23 := F_μ.tr (Fr.row eμ23 rfl (by decide) (by decide))
  have M_μ23 : Md μ23 := F_μ23.md hM (by decide)
  exact F_μ23.tr ((frjX11_sketchLine_70 h M_μ23).mo (by decide) (by decide))
theorem frjX11_sketchLine_53 {v2 : Int} {μ : Mm} {t : Mm} (h : jX11_sketchLine_53 20000 v2 μ = some t) (hM : Md μ) : Fr [20001, 20005] [6, 7, 8, 9, 10, 11] μ (t) := by
  have F_μ : Fr [20001, 20005] [6, 7, 8, 9, 10, 11] μ μ := Fr.rf
  have M_μ := hM
  unfold jX11_sketchLine_53 at h
  obtain ⟨-, h⟩ := chk_inv h
  split at h
  · skip
    rw [Md_13 M_μ] at h
    exact F_μ.tr ((frjX11_sketchLine_69 h M_μ).mo (by decide) (by decide))
  · skip
    rw [Md_13 M_μ] at h
    exact F_μ.tr ((frjX11_sketchLine_69 h M_μ).mo (by decide) (by decide))
theorem frjX11_sketchLine_41 {v2 : Int} {μ : Mm} {t : Mm} (h : jX11_sketchLine_41 20000 v2 μ = some t) (hM : Md μ) : Fr [20001, 20005] [6, 7, 8, 9, 10, 11] μ (t) := by
  have F_μ : Fr [20001, 20005] [6, 7, 8, 9, 10, 11] μ μ := Fr.rf
  have M_μ := hM
  unfold jX11_sketchLine_41 at h
  split at h
  · skip
    exact F_μ.tr ((frjX11_sketchLine_53 h M_μ).mo (by decide) (by decide))
  · skip
    split at h
    · skip
      exact F_μ.tr ((frjX11_sketchLine_53 h M_μ).mo (by decide) (by decide))
    · skip
      exact F_μ.tr ((frjX11_sketchLine_70 h M_μ).mo (by decide) (by decide))
theorem frjX11_sketchLine_22 {v2 : Int} {μ : Mm} {t : Mm} (h : jX11_sketchLine_22 20000 v2 μ = some t) (hM : Md μ) : Fr [20001, 20005] [6, 7, 8, 9, 10, 11] μ (t) := by
  have F_μ : Fr [20001, 20005] [6, 7, 8, 9, 10, 11] μ μ := Fr.rf
  have M_μ := hM
  unfold jX11_sketchLine_22 at h
  split at h
  · skip
    obtain ⟨-, h⟩ := chk_inv h
    obtain ⟨⟨r30, μ30⟩, hq1, h⟩ := Option.bind_eq_some_iff.mp h
    dsimp only at h
    have F_μ30 : Fr [20001, 20005] [6, 7, 8, 9, 10, 11] μ μ30 := F_μ.tr ((frfX11_numbered hq1 M_μ).mo (by decide) (by decide))
    have M_μ30 : Md μ30 := F_μ30.md hM (by decide)
    obtain ⟨-, h⟩ := chk_inv h
    obtain ⟨μ32, eμ32, h⟩ := lm_inv h
    have F_μ32 : Fr [20001, 20005] [6, 7, 8, 9, 10, 11] μ μ32 := F_μ30.tr (Fr.row eμ32 (Md_13 M_μ) (by decide) (by decide))
    have M_μ32 : Md μ32 := F_μ32.md hM (by decide)
    exact F_μ32.tr ((frjX11_sketchLine_41 h M_μ32).mo (by decide) (by decide))
  · skip
    exact F_μ.tr ((frjX11_sketchLine_41 h M_μ).mo (by decide) (by decide))
theorem frfX11_sketchLine {μ : Mm} {t : Mm} (h : fX11_sketchLine 20000 μ = some t) (hM : Md μ) : Fr [20001, 20005] [6, 7, 8, 9, 10, 11] μ (t) := by
  have F_μ : Fr [20001, 20005] [6, 7, 8, 9, 10, 11] μ μ := Fr.rf
  have M_μ := hM
  unfold fX11_sketchLine at h
  obtain ⟨-, h⟩ := chk_inv h
  obtain ⟨⟨r34, μ34⟩, hq1, h⟩ := Option.bind_eq_some_iff.mp h
  dsimp only at h
  have F_μ34 : Fr [20001, 20005] [6, 7, 8, 9, 10, 11] μ μ34 := F_μ.tr ((frfX11_takes hq1 M_μ).mo (by decide) (by decide))
  have M_μ34 : Md μ34 := F_μ34.md hM (by decide)
  split at h
  · skip
    obtain ⟨μ36, hq2, h⟩ := Option.bind_eq_some_iff.mp h
    have F_μ36 : Fr [20001, 20005] [6, 7, 8, 9, 10, 11] μ μ36 := F_μ34.tr ((frfX11_hump0 hq2 M_μ34).mo (by decide) (by decide))
    have M_μ36 : Md μ36 := F_μ36.md hM (by decide)
    exact F_μ36.tr ((frjX11_sketchLine_22 h M_μ36).mo (by decide) (by decide))
  · skip
    exact F_μ34.tr ((frjX11_sketchLine_22 h M_μ34).mo (by decide) (by decide))
theorem frfX11_keeps {v1 v2 : Int} {μ : Mm} {t : (Int × Mm)} (h : fX11_keeps 20000 v1 v2 μ = some t) (hM : Md μ) : Fr [20001] [] μ (t.2) := by
  have F_μ : Fr [20001] [] μ μ := Fr.rf
  have M_μ := hM
  unfold fX11_keeps at h
  split at h
  · skip
    obtain ⟨-, h⟩ := chk_inv h
    obtain ⟨-, h⟩ := chk_inv h
    obtain ⟨μ4, eμ4, h⟩ := lm_inv h
    have F_μ4 : Fr [20001] [] μ μ4 := F_μ.tr (Fr.row eμ4 (Md_0 M_μ) (by decide) (by decide))
    have M_μ4 : Md μ4 := F_μ4.md hM (by decide)
    obtain ⟨-, h⟩ := chk_inv h
    cases h
    exact F_μ4
  · skip
    cases h
    exact F_μ
def pjX11_begins_2 : ((Int × Mm) ⊕ Mm) → Mm
  | .inl (_, μ) => μ
  | .inr μ => μ
theorem frsX11_begins_2 {v1 : Int} {q : (Int × Mm)} {t : ((Int × Mm) ⊕ Mm)} (h : sX11_begins_2 20000 v1 q = some t) (hM : Md (pjX11_begins_2 (.inl q))) : Fr [20005] [] (pjX11_begins_2 (.inl q)) (pjX11_begins_2 t) := by
  obtain ⟨v2, μ⟩ := q
  have hM : Md μ := hM
  show Fr [20005] [] μ (pjX11_begins_2 t)
  have F_μ : Fr [20005] [] μ μ := Fr.rf
  have M_μ := hM
  unfold sX11_begins_2 at h
  try dsimp only at h
  split at h
  · skip
    cases h
    exact F_μ
  · skip
    obtain ⟨-, h⟩ := chk_inv h
    obtain ⟨-, h⟩ := chk_inv h
    obtain ⟨μ4, eμ4, h⟩ := lm_inv h
    have F_μ4 : Fr [20005] [] μ μ4 := F_μ.tr (Fr.row eμ4 (Md_13 M_μ) (by decide) (by decide))
    have M_μ4 : Md μ4 := F_μ4.md hM (by decide)
    cases h
    exact F_μ4
theorem frfX11_begins {v1 : Int} {μ : Mm} {t : Mm} (h : fX11_begins 20000 v1 μ = some t) (hM : Md μ) : Fr [20005] [12] μ (t) := by
  have F_μ : Fr [20005] [12] μ μ := Fr.rf
  have M_μ := hM
  unfold fX11_begins at h
  obtain ⟨x2, hq1, h⟩ := Option.bind_eq_some_iff.mp h
  have F_x2 := F_μ.tr ((lop_rel pjX11_begins_2 (by decide) (fun _ _ => frsX11_begins_2) _ _ _ hq1 M_μ).mo (R' := [20005]) (L' := [12]) (by decide) (by decide))
  have M_x2 := F_x2.md hM (by decide)
  obtain ⟨μ_6, hqq⟩ : ∃ z, z = x2 := ⟨x2, rfl⟩
  subst hqq
  have F_μ_6 : Fr [20005] [12] μ μ_6 := F_x2
  have M_μ_6 : Md μ_6 := M_x2
  obtain ⟨-, h⟩ := chk_inv h
  obtain ⟨μ8, eμ8, h⟩ := lm_inv h
  have F_μ8 : Fr [20005] [12] μ μ8 := F_μ_6.tr (Fr.fld eμ8 (by decide))
  have M_μ8 : Md μ8 := F_μ8.md hM (by decide)
  split at h
  · skip
    obtain ⟨-, h⟩ := chk_inv h
    obtain ⟨μ13, eμ13, h⟩ := lm_inv h
    have F_μ13 : Fr [20005] [12] μ μ13 := F_μ8.tr (Fr.row eμ13 (Md_13 M_μ8) (by decide) (by decide))
    have M_μ13 : Md μ13 := F_μ13.md hM (by decide)
    obtain ⟨-, h⟩ := chk_inv h
    obtain ⟨μ15, eμ15, h⟩ := lm_inv h
    have F_μ15 : Fr [20005] [12] μ μ15 := F_μ13.tr (Fr.row eμ15 (Md_13 M_μ13) (by decide) (by decide))
    have M_μ15 : Md μ15 := F_μ15.md hM (by decide)
    obtain ⟨-, h⟩ := chk_inv h
    obtain ⟨μ17, eμ17, h⟩ := lm_inv h
    have F_μ17 : Fr [20005] [12] μ μ17 := F_μ15.tr (Fr.row eμ17 (Md_13 M_μ15) (by decide) (by decide))
    have M_μ17 : Md μ17 := F_μ17.md hM (by decide)
    cases h
    exact F_μ17
  · skip
    obtain ⟨-, h⟩ := chk_inv h
    obtain ⟨μ11, eμ11, h⟩ := lm_inv h
    have F_μ11 : Fr [20005] [12] μ μ11 := F_μ8.tr (Fr.row eμ11 (Md_13 M_μ8) (by decide) (by decide))
    have M_μ11 : Md μ11 := F_μ11.md hM (by decide)
    cases h
    exact F_μ11
theorem frjX11_last_108 {v2 : Int} {μ : Mm} {t : Mm} (h : jX11_last_108 20000 v2 μ = some t) (hM : Md μ) : Fr [20001] [] μ (t) := by
  have F_μ : Fr [20001] [] μ μ := Fr.rf
  have M_μ := hM
  unfold jX11_last_108 at h
  split at h
  · skip
    cases h
    exact F_μ
  · skip
    obtain ⟨-, h⟩ := chk_inv h
    obtain ⟨μ10, hq1, h⟩ := Option.bind_eq_some_iff.mp h
    have F_μ10 : Fr [20001] [] μ μ10 := F_μ.tr ((frfX11_also hq1 M_μ).mo (by decide) (by decide))
    have M_μ10 : Md μ10 := F_μ10.md hM (by decide)
    cases h
    exact F_μ10
theorem frjX11_last_51 {v3 s0 : Int} {μ : Mm} {t : Mm} (h : jX11_last_51 20000 v3 s0 μ = some t) (hM : Md μ) : Fr [20001] [] μ (t) := by
  have F_μ : Fr [20001] [] μ μ := Fr.rf
  have M_μ := hM
  unfold jX11_last_51 at h
  obtain ⟨x1, -, h⟩ := Option.bind_eq_some_iff.mp h
  exact F_μ.tr ((frjX11_last_108 h M_μ).mo (by decide) (by decide))
theorem frjX11_last_19 {v1 s0 : Int} {μ : Mm} {t : Mm} (h : jX11_last_19 20000 v1 s0 μ = some t) (hM : Md μ) : Fr [20001] [] μ (t) := by
  have F_μ : Fr [20001] [] μ μ := Fr.rf
  have M_μ := hM
  unfold jX11_last_19 at h
  split at h
  · skip
    obtain ⟨-, h⟩ := chk_inv h
    obtain ⟨-, h⟩ := chk_inv h
    obtain ⟨-, h⟩ := chk_inv h
    obtain ⟨y17, -, h⟩ := lt_inv h
    split at h
    · skip
      exact F_μ.tr ((frjX11_last_51 h M_μ).mo (by decide) (by decide))
    · skip
      exact F_μ.tr ((frjX11_last_51 h M_μ).mo (by decide) (by decide))
  · skip
    exact F_μ.tr ((frjX11_last_108 h M_μ).mo (by decide) (by decide))
theorem frjX11_last_18 {v1 : Int} {μ : Mm} {t : Mm} (h : jX11_last_18 20000 v1 μ = some t) (hM : Md μ) : Fr [20001] [] μ (t) := by
  have F_μ : Fr [20001] [] μ μ := Fr.rf
  have M_μ := hM
  unfold jX11_last_18 at h
  exact F_μ.tr ((frjX11_last_19 h M_μ).mo (by decide) (by decide))
theorem frfX11_last {v1 : Int} {μ : Mm} {t : Mm} (h : fX11_last 20000 v1 μ = some t) (hM : Md μ) : Fr [20001] [] μ (t) := by
  have F_μ : Fr [20001] [] μ μ := Fr.rf
  have M_μ := hM
  unfold fX11_last at h
  split at h
  · skip
    obtain ⟨-, h⟩ := chk_inv h
    obtain ⟨-, h⟩ := chk_inv h
    split at h
    · skip
      exact F_μ.tr ((frjX11_last_19 h M_μ).mo (by decide) (by decide))
    · skip
      exact F_μ.tr ((frjX11_last_18 h M_μ).mo (by decide) (by decide))
  · skip
    exact F_μ.tr ((frjX11_last_18 h M_μ).mo (by decide) (by decide))
def pjX11_text_71 : (Mm ⊕ Mm) → Mm
  | .inl μ => μ
  | .inr μ => μ
theorem frsX11_text_71 {v1 v2 : Int} {q : Mm} {t : (Mm ⊕ Mm)} (h : sX11_text_71 20000 v1 v2 q = some t) (hM : Md (pjX11_text_71 (.inl q))) : Fr [20001, 20005] [6, 7, 8, 9, 10, 11, 12] (pjX11_text_71 (.inl q)) (pjX11_text_71 t) := by
  obtain ⟨μ, hqq⟩ : ∃ z, z = q := ⟨q, rfl⟩
  subst hqq
  have hM : Md μ := hM
  show Fr [20001, 20005] [6, 7, 8, 9, 10, 11, 12] μ (pjX11_text_71 t)
  have F_μ : Fr [20001, 20005] [6, 7, 8, 9, 10, 11, 12] μ μ := Fr.rf
  have M_μ := hM
  unfold sX11_text_71 at h
  try dsimp only at h
  obtain ⟨-, h⟩ := chk_inv h
  split at h
  · skip
    split at h
    · skip
      cases h
      exact F_μ
    · skip
      split at h
      · skip
        obtain ⟨μ6, hq1, h⟩ := Option.bind_eq_some_iff.mp h
        have F_μ6 : Fr [20001, 20005] [6, 7, 8, 9, 10, 11, 12] μ μ6 := F_μ.tr ((frfX11_landLine hq1 M_μ).mo (by decide) (by decide))
        have M_μ6 : Md μ6 := F_μ6.md hM (by decide)
        cases h
        exact F_μ6
      · skip
        obtain ⟨μ5, hq2, h⟩ := Option.bind_eq_some_iff.mp h
        have F_μ5 : Fr [20001, 20005] [6, 7, 8, 9, 10, 11, 12] μ μ5 := F_μ.tr ((frfX11_sketchLine hq2 M_μ).mo (by decide) (by decide))
        have M_μ5 : Md μ5 := F_μ5.md hM (by decide)
        cases h
        exact F_μ5
  · skip
    cases h
    exact F_μ
def pjX11_text_152 : ((Int × Mm) ⊕ Mm) → Mm
  | .inl (_, μ) => μ
  | .inr μ => μ
theorem frsX11_text_152 {v1 v3 v4 : Int} {q : (Int × Mm)} {t : ((Int × Mm) ⊕ Mm)} (h : sX11_text_152 20000 v1 v3 v4 q = some t) (hM : Md (pjX11_text_152 (.inl q))) : Fr [20001] [] (pjX11_text_152 (.inl q)) (pjX11_text_152 t) := by
  obtain ⟨v5, μ⟩ := q
  have hM : Md μ := hM
  show Fr [20001] [] μ (pjX11_text_152 t)
  have F_μ : Fr [20001] [] μ μ := Fr.rf
  have M_μ := hM
  unfold sX11_text_152 at h
  try dsimp only at h
  split at h
  · skip
    cases h
    exact F_μ
  · skip
    obtain ⟨-, h⟩ := chk_inv h
    obtain ⟨x1, -, h⟩ := Option.bind_eq_some_iff.mp h
    obtain ⟨-, h⟩ := chk_inv h
    obtain ⟨-, h⟩ := chk_inv h
    obtain ⟨μ12, eμ12, h⟩ := lm_inv h
    have F_μ12 : Fr [20001] [] μ μ12 := F_μ.tr (Fr.row eμ12 (Md_0 M_μ) (by decide) (by decide))
    have M_μ12 : Md μ12 := F_μ12.md hM (by decide)
    cases h
    exact F_μ12
theorem frjX11_text_147 {v1 v3 s0 : Int} {μ : Mm} {t : (Int × Mm)} (h : jX11_text_147 20000 v1 v3 s0 μ = some t) (hM : Md μ) : Fr [20001] [] μ (t.2) := by
  have F_μ : Fr [20001] [] μ μ := Fr.rf
  have M_μ := hM
  unfold jX11_text_147 at h
  obtain ⟨x2, hq1, h⟩ := Option.bind_eq_some_iff.mp h
  have F_x2 := F_μ.tr ((lop_rel pjX11_text_152 (by decide) (fun _ _ => frsX11_text_152) _ _ _ hq1 M_μ).mo (R' := [20001]) (L' := []) (by decide) (by decide))
  have M_x2 := F_x2.md hM (by decide)
  obtain ⟨μ_14, hqq⟩ : ∃ z, z = x2 := ⟨x2, rfl⟩
  subst hqq
  have F_μ_14 : Fr [20001] [] μ μ_14 := F_x2
  have M_μ_14 : Md μ_14 := M_x2
  cases h
  exact F_μ_14
theorem frjX11_text_117 {v1 v2 : Int} {μ : Mm} {t : (Int × Mm)} (h : jX11_text_117 20000 v1 v2 μ = some t) (hM : Md μ) : Fr [20001] [] μ (t.2) := by
  have F_μ : Fr [20001] [] μ μ := Fr.rf
  have M_μ := hM
  unfold jX11_text_117 at h
  obtain ⟨-, h⟩ := chk_inv h
  obtain ⟨-, h⟩ := chk_inv h
  split at h
  · skip
    obtain ⟨⟨r18, μ18⟩, hq1, h⟩ := Option.bind_eq_some_iff.mp h
    dsimp only at h
    have F_μ18 : Fr [20001] [] μ μ18 := F_μ.tr ((frfX11_keeps hq1 M_μ).mo (by decide) (by decide))
    have M_μ18 : Md μ18 := F_μ18.md hM (by decide)
    split at h
    · skip
      exact F_μ18.tr ((frjX11_text_147 h M_μ18).mo (by decide) (by decide))
    · skip
      exact F_μ18.tr ((frjX11_text_147 h M_μ18).mo (by decide) (by decide))
  · skip
    cases h
    exact F_μ
theorem frfX11_text {v1 v2 : Int} {μ : Mm} {t : (Int × Mm)} (h : fX11_text 20000 v1 v2 μ = some t) (hM : Md μ) : Fr [20001, 20005] [5, 6, 7, 8, 9, 10, 11, 12] μ (t.2) := by
  have F_μ : Fr [20001, 20005] [5, 6, 7, 8, 9, 10, 11, 12] μ μ := Fr.rf
  have M_μ := hM
  unfold fX11_text at h
  obtain ⟨-, h⟩ := chk_inv h
  obtain ⟨-, h⟩ := chk_inv h
  obtain ⟨μ22, eμ22, h⟩ := lm_inv h
  have F_μ22 : Fr [20001, 20005] [5, 6, 7, 8, 9, 10, 11, 12] μ μ22 := F_μ.tr (Fr.fld eμ22 (by decide))
  have M_μ22 : Md μ22 := F_μ22.md hM (by decide)
  obtain ⟨-, h⟩ := chk_inv h
  obtain ⟨μ24, eμ24, h⟩ := lm_inv h
  have F_μ24 : Fr [20001, 20005] [5, 6, 7, 8, 9, 10, 11, 12] μ μ24 := F_μ22.tr (Fr.row eμ24 (Md_0 M_μ22) (by decide) (by decide))
  have M_μ24 : Md μ24 := F_μ24.md hM (by decide)
  obtain ⟨μ25, eμ25, h⟩ := lm_inv h
  have F_μ25 : Fr [20001, 20005] [5, 6, 7, 8, 9, 10, 11, 12] μ μ25 := F_μ24.tr (Fr.fld eμ25 (by decide))
  have M_μ25 : Md μ25 := F_μ25.md hM (by decide)
  obtain ⟨-, h⟩ := chk_inv h
  obtain ⟨μ27, eμ27, h⟩ := lm_inv h
  have F_μ27 : Fr [20001, 20005] [5, 6, 7, 8, 9, 10, 11, 12] μ μ27 := F_μ25.tr (Fr.row eμ27 (Md_0 M_μ25) (by decide) (by decide))
  have M_μ27 : Md μ27 := F_μ27.md hM (by decide)
  obtain ⟨-, h⟩ := chk_inv h
  obtain ⟨μ29, eμ29, h⟩ := lm_inv h
  have F_μ29 : Fr [20001, 20005] [5, 6, 7, 8, 9, 10, 11, 12] μ μ29 := F_μ27.tr (Fr.row eμ29 (Md_0 M_μ27) (by decide) (by decide))
  have M_μ29 : Md μ29 := F_μ29.md hM (by decide)
  obtain ⟨μ30, eμ30, h⟩ := lm_inv h
  have F_μ30 : Fr [20001, 20005] [5, 6, 7, 8, 9, 10, 11, 12] μ μ30 := F_μ29.tr (Fr.fld eμ30 (by decide))
  have M_μ30 : Md μ30 := F_μ30.md hM (by decide)
  split at h
  · skip
    cases h
    exact F_μ30
  · skip
    obtain ⟨x1, -, h⟩ := Option.bind_eq_some_iff.mp h
    split at h
    · skip
      cases h
      exact F_μ30
    · skip
      obtain ⟨μ34, hq2, h⟩ := Option.bind_eq_some_iff.mp h
      have F_μ34 : Fr [20001, 20005] [5, 6, 7, 8, 9, 10, 11, 12] μ μ34 := F_μ30.tr ((frfX11_begins hq2 M_μ30).mo (by decide) (by decide))
      have M_μ34 : Md μ34 := F_μ34.md hM (by decide)
      obtain ⟨μ35, hq3, h⟩ := Option.bind_eq_some_iff.mp h
      have F_μ35 : Fr [20001, 20005] [5, 6, 7, 8, 9, 10, 11, 12] μ μ35 := F_μ34.tr ((frfX11_advance hq3 M_μ34).mo (by decide) (by decide))
      have M_μ35 : Md μ35 := F_μ35.md hM (by decide)
      obtain ⟨x5, hq4, h⟩ := Option.bind_eq_some_iff.mp h
      have F_x5 := F_μ35.tr ((lop_rel pjX11_text_71 (by decide) (fun _ _ => frsX11_text_71) _ _ _ hq4 M_μ35).mo (R' := [20001, 20005]) (L' := [5, 6, 7, 8, 9, 10, 11, 12]) (by decide) (by decide))
      have M_x5 := F_x5.md hM (by decide)
      obtain ⟨μ_37, hqq⟩ : ∃ z, z = x5 := ⟨x5, rfl⟩
      subst hqq
      have F_μ_37 : Fr [20001, 20005] [5, 6, 7, 8, 9, 10, 11, 12] μ μ_37 := F_x5
      have M_μ_37 : Md μ_37 := M_x5
      obtain ⟨-, h⟩ := chk_inv h
      split at h
      · skip
        obtain ⟨μ40, hq6, h⟩ := Option.bind_eq_some_iff.mp h
        have F_μ40 : Fr [20001, 20005] [5, 6, 7, 8, 9, 10, 11, 12] μ μ40 := F_μ_37.tr ((frfX11_last hq6 M_μ_37).mo (by decide) (by decide))
        have M_μ40 : Md μ40 := F_μ40.md hM (by decide)
        exact F_μ40.tr ((frjX11_text_117 h M_μ40).mo (by decide) (by decide))
      · skip
        exact F_μ_37.tr ((frjX11_text_117 h M_μ_37).mo (by decide) (by decide))
theorem frfX11_mend {v1 v2 v3 : Int} {μ : Mm} {t : (Int × Mm)} (h : fX11_mend 20000 v1 v2 v3 μ = some t) (hM : Md μ) : Fr [20001] [] μ (t.2) := by
  have F_μ : Fr [20001] [] μ μ := Fr.rf
  have M_μ := hM
  unfold fX11_mend at h
  obtain ⟨-, h⟩ := chk_inv h
  obtain ⟨x1, -, h⟩ := Option.bind_eq_some_iff.mp h
  split at h
  · skip
    cases h
    exact F_μ
  · skip
    split at h
    · skip
      cases h
      exact F_μ
    · skip
      obtain ⟨x2, -, h⟩ := Option.bind_eq_some_iff.mp h
      obtain ⟨-, h⟩ := chk_inv h
      obtain ⟨μ7, eμ7, h⟩ := lm_inv h
      have F_μ7 : Fr [20001] [] μ μ7 := F_μ.tr (Fr.row eμ7 (Md_0 M_μ) (by decide) (by decide))
      have M_μ7 : Md μ7 := F_μ7.md hM (by decide)
      cases h
      exact F_μ7
def pjX11_looks_7 : ((Int × Mm) ⊕ Mm) → Mm
  | .inl (_, μ) => μ
  | .inr μ => μ
theorem frsX11_looks_7 {v1 v2 : Int} {q : (Int × Mm)} {t : ((Int × Mm) ⊕ Mm)} (h : sX11_looks_7 20000 v1 v2 q = some t) (hM : Md (pjX11_looks_7 (.inl q))) : Fr [20006] [14] (pjX11_looks_7 (.inl q)) (pjX11_looks_7 t) := by
  obtain ⟨v3, μ⟩ := q
  have hM : Md μ := hM
  show Fr [20006] [14] μ (pjX11_looks_7 t)
  have F_μ : Fr [20006] [14] μ μ := Fr.rf
  have M_μ := hM
  unfold sX11_looks_7 at h
  try dsimp only at h
  obtain ⟨-, h⟩ := chk_inv h
  split at h
  · skip
    cases h
    exact F_μ
  · skip
    obtain ⟨x1, -, h⟩ := Option.bind_eq_some_iff.mp h
    split at h
    · skip
      obtain ⟨-, h⟩ := chk_inv h
      obtain ⟨μ6, eμ6, h⟩ := lm_inv h
      have F_μ6 : Fr [20006] [14] μ μ6 := F_μ.tr (Fr.row eμ6 (Md_15 M_μ) (by decide) (by decide))
      have M_μ6 : Md μ6 := F_μ6.md hM (by decide)
      obtain ⟨μ7, eμ7, h⟩ := lm_inv h
      have F_μ7 : Fr [20006] [14] μ μ7 := F_μ6.tr (Fr.fld eμ7 (by decide))
      have M_μ7 : Md μ7 := F_μ7.md hM (by decide)
      cases h
      exact F_μ7
    · skip
      cases h
      exact F_μ
theorem frfX11_looks {v1 v2 : Int} {μ : Mm} {t : Mm} (h : fX11_looks 20000 v1 v2 μ = some t) (hM : Md μ) : Fr [20006] [14] μ (t) := by
  have F_μ : Fr [20006] [14] μ μ := Fr.rf
  have M_μ := hM
  unfold fX11_looks at h
  obtain ⟨-, h⟩ := chk_inv h
  obtain ⟨μ9, eμ9, h⟩ := lm_inv h
  have F_μ9 : Fr [20006] [14] μ μ9 := F_μ.tr (Fr.fld eμ9 (by decide))
  have M_μ9 : Md μ9 := F_μ9.md hM (by decide)
  obtain ⟨x2, hq1, h⟩ := Option.bind_eq_some_iff.mp h
  have F_x2 := F_μ9.tr ((lop_rel pjX11_looks_7 (by decide) (fun _ _ => frsX11_looks_7) _ _ _ hq1 M_μ9).mo (R' := [20006]) (L' := [14]) (by decide) (by decide))
  have M_x2 := F_x2.md hM (by decide)
  obtain ⟨μ_11, hqq⟩ : ∃ z, z = x2 := ⟨x2, rfl⟩
  subst hqq
  have F_μ_11 : Fr [20006] [14] μ μ_11 := F_x2
  have M_μ_11 : Md μ_11 := M_x2
  cases h
  exact F_μ_11
def pjX11_surveyAt_15 : ((Int × Mm) ⊕ Mm) → Mm
  | .inl (_, μ) => μ
  | .inr μ => μ
theorem frjX11_surveyAt_75 {v1 v2 v3 v4 s0 : Int} {μ : Mm} {t : ((Int × Mm) ⊕ Mm)} (h : jX11_surveyAt_75 20000 v1 v2 v3 v4 s0 20006 μ = some t) (hM : Md μ) : Fr [20007, 20008] [] μ (pjX11_surveyAt_15 t) := by
  have F_μ : Fr [20007, 20008] [] μ μ := Fr.rf
  have M_μ := hM
  unfold jX11_surveyAt_75 at h
  obtain ⟨-, h⟩ := chk_inv h
  obtain ⟨-, h⟩ := chk_inv h
  obtain ⟨-, h⟩ := chk_inv h
  obtain ⟨x1, -, h⟩ := Option.bind_eq_some_iff.mp h
  split at h
  · skip
    cases h
    exact F_μ
  · skip
    obtain ⟨x2, -, h⟩ := Option.bind_eq_some_iff.mp h
    split at h
    · skip
      obtain ⟨-, h⟩ := chk_inv h
      obtain ⟨-, h⟩ := chk_inv h
      obtain ⟨μ10, eμ10, h⟩ := lm_inv h
      have F_μ10 : Fr [20007, 20008] [] μ μ10 := F_μ.tr (Fr.row eμ10 (Md_17 M_μ) (by decide) (by decide))
      have M_μ10 : Md μ10 := F_μ10.md hM (by decide)
      obtain ⟨-, h⟩ := chk_inv h
      obtain ⟨μ12, eμ12, h⟩ := lm_inv h
      have F_μ12 : Fr [20007, 20008] [] μ μ12 := F_μ10.tr (Fr.row eμ12 (Md_16 M_μ10) (by decide) (by decide))
      have M_μ12 : Md μ12 := F_μ12.md hM (by decide)
      cases h
      exact F_μ12
    · skip
      cases h
      exact F_μ
theorem frjX11_surveyAt_51 {v1 v2 v3 s0 : Int} {μ : Mm} {t : ((Int × Mm) ⊕ Mm)} (h : jX11_surveyAt_51 20000 v1 v2 v3 s0 20006 μ = some t) (hM : Md μ) : Fr [20007, 20008] [] μ (pjX11_surveyAt_15 t) := by
  have F_μ : Fr [20007, 20008] [] μ μ := Fr.rf
  have M_μ := hM
  unfold jX11_surveyAt_51 at h
  obtain ⟨-, h⟩ := chk_inv h
  obtain ⟨-, h⟩ := chk_inv h
  split at h
  · skip
    rw [Md_15 M_μ] at h
    exact F_μ.tr ((frjX11_surveyAt_75 h M_μ).mo (by decide) (by decide))
  · skip
    rw [Md_15 M_μ] at h
    exact F_μ.tr ((frjX11_surveyAt_75 h M_μ).mo (by decide) (by decide))
theorem frsX11_surveyAt_15 {v1 v2 : Int} {q : (Int × Mm)} {t : ((Int × Mm) ⊕ Mm)} (h : sX11_surveyAt_15 20000 v1 v2 q = some t) (hM : Md (pjX11_surveyAt_15 (.inl q))) : Fr [20007, 20008] [] (pjX11_surveyAt_15 (.inl q)) (pjX11_surveyAt_15 t) := by
  obtain ⟨v3, μ⟩ := q
  have hM : Md μ := hM
  show Fr [20007, 20008] [] μ (pjX11_surveyAt_15 t)
  have F_μ : Fr [20007, 20008] [] μ μ := Fr.rf
  have M_μ := hM
  unfold sX11_surveyAt_15 at h
  try dsimp only at h
  obtain ⟨-, h⟩ := chk_inv h
  split at h
  · skip
    cases h
    exact F_μ
  · skip
    split at h
    · skip
      cases h
      exact F_μ
    · skip
      split at h
      · skip
        rw [Md_15 M_μ] at h
        exact F_μ.tr ((frjX11_surveyAt_51 h M_μ).mo (by decide) (by decide))
      · skip
        rw [Md_15 M_μ] at h
        exact F_μ.tr ((frjX11_surveyAt_51 h M_μ).mo (by decide) (by decide))
theorem frfX11_surveyAt {v1 v2 : Int} {μ : Mm} {t : Mm} (h : fX11_surveyAt 20000 v1 v2 μ = some t) (hM : Md μ) : Fr [20006, 20007, 20008] [14] μ (t) := by
  have F_μ : Fr [20006, 20007, 20008] [14] μ μ := Fr.rf
  have M_μ := hM
  unfold fX11_surveyAt at h
  obtain ⟨-, h⟩ := chk_inv h
  obtain ⟨μ21, hq1, h⟩ := Option.bind_eq_some_iff.mp h
  have F_μ21 : Fr [20006, 20007, 20008] [14] μ μ21 := F_μ.tr ((frfX11_looks hq1 M_μ).mo (by decide) (by decide))
  have M_μ21 : Md μ21 := F_μ21.md hM (by decide)
  obtain ⟨-, h⟩ := chk_inv h
  obtain ⟨μ23, eμ23, h⟩ := lm_inv h
  have F_μ23 : Fr [20006, 20007, 20008] [14] μ μ23 := F_μ21.tr (Fr.row eμ23 (Md_16 M_μ21) (by decide) (by decide))
  have M_μ23 : Md μ23 := F_μ23.md hM (by decide)
  obtain ⟨x3, hq2, h⟩ := Option.bind_eq_some_iff.mp h
  have F_x3 := F_μ23.tr ((lop_rel pjX11_surveyAt_15 (by decide) (fun _ _ => frsX11_surveyAt_15) _ _ _ hq2 M_μ23).mo (R' := [20006, 20007, 20008]) (L' := [14]) (by decide) (by decide))
  have M_x3 := F_x3.md hM (by decide)
  obtain ⟨μ_25, hqq⟩ : ∃ z, z = x3 := ⟨x3, rfl⟩
  subst hqq
  have F_μ_25 : Fr [20006, 20007, 20008] [14] μ μ_25 := F_x3
  have M_μ_25 : Md μ_25 := M_x3
  cases h
  exact F_μ_25
def pjX11_survey_2 : ((Int × Mm) ⊕ Mm) → Mm
  | .inl (_, μ) => μ
  | .inr μ => μ
theorem frsX11_survey_2 {v1 : Int} {q : (Int × Mm)} {t : ((Int × Mm) ⊕ Mm)} (h : sX11_survey_2 20000 v1 q = some t) (hM : Md (pjX11_survey_2 (.inl q))) : Fr [20006, 20007, 20008] [14] (pjX11_survey_2 (.inl q)) (pjX11_survey_2 t) := by
  obtain ⟨v2, μ⟩ := q
  have hM : Md μ := hM
  show Fr [20006, 20007, 20008] [14] μ (pjX11_survey_2 t)
  have F_μ : Fr [20006, 20007, 20008] [14] μ μ := Fr.rf
  have M_μ := hM
  unfold sX11_survey_2 at h
  try dsimp only at h
  obtain ⟨-, h⟩ := chk_inv h
  obtain ⟨x1, -, h⟩ := Option.bind_eq_some_iff.mp h
  split at h
  · skip
    cases h
    exact F_μ
  · skip
    obtain ⟨μ4, hq2, h⟩ := Option.bind_eq_some_iff.mp h
    have F_μ4 : Fr [20006, 20007, 20008] [14] μ μ4 := F_μ.tr ((frfX11_surveyAt hq2 M_μ).mo (by decide) (by decide))
    have M_μ4 : Md μ4 := F_μ4.md hM (by decide)
    cases h
    exact F_μ4
theorem frfX11_survey {v1 : Int} {μ : Mm} {t : Mm} (h : fX11_survey 20000 v1 μ = some t) (hM : Md μ) : Fr [20006, 20007, 20008] [14] μ (t) := by
  have F_μ : Fr [20006, 20007, 20008] [14] μ μ := Fr.rf
  have M_μ := hM
  unfold fX11_survey at h
  obtain ⟨x2, hq1, h⟩ := Option.bind_eq_some_iff.mp h
  have F_x2 := F_μ.tr ((lop_rel pjX11_survey_2 (by decide) (fun _ _ => frsX11_survey_2) _ _ _ hq1 M_μ).mo (R' := [20006, 20007, 20008]) (L' := [14]) (by decide) (by decide))
  have M_x2 := F_x2.md hM (by decide)
  obtain ⟨μ_6, hqq⟩ : ∃ z, z = x2 := ⟨x2, rfl⟩
  subst hqq
  have F_μ_6 : Fr [20006, 20007, 20008] [14] μ μ_6 := F_x2
  have M_μ_6 : Md μ_6 := M_x2
  cases h
  exact F_μ_6
theorem frfX11_ray {v1 v2 v3 : Int} {μ : Mm} {t : (Int × Mm)} (h : fX11_ray 20000 v1 v2 v3 μ = some t) (hM : Md μ) : Fr [20006] [14] μ (t.2) := by
  have F_μ : Fr [20006] [14] μ μ := Fr.rf
  have M_μ := hM
  unfold fX11_ray at h
  obtain ⟨-, h⟩ := chk_inv h
  obtain ⟨x1, -, h⟩ := Option.bind_eq_some_iff.mp h
  split at h
  · skip
    cases h
    exact F_μ
  · skip
    obtain ⟨x2, -, h⟩ := Option.bind_eq_some_iff.mp h
    obtain ⟨μ5, hq3, h⟩ := Option.bind_eq_some_iff.mp h
    have F_μ5 : Fr [20006] [14] μ μ5 := F_μ.tr ((frfX11_looks hq3 M_μ).mo (by decide) (by decide))
    have M_μ5 : Md μ5 := F_μ5.md hM (by decide)
    split at h
    · skip
      cases h
      exact F_μ5
    · skip
      split at h
      · skip
        cases h
        exact F_μ5
      · skip
        obtain ⟨-, h⟩ := chk_inv h
        cases h
        exact F_μ5
theorem frfX11_hump {v1 v2 v3 : Int} {μ : Mm} {t : (Int × Mm)} (h : fX11_hump 20000 v1 v2 v3 μ = some t) (hM : Md μ) : Fr [20006, 20007, 20008] [14] μ (t.2) := by
  have F_μ : Fr [20006, 20007, 20008] [14] μ μ := Fr.rf
  have M_μ := hM
  unfold fX11_hump at h
  obtain ⟨-, h⟩ := chk_inv h
  obtain ⟨x1, -, h⟩ := Option.bind_eq_some_iff.mp h
  split at h
  · skip
    cases h
    exact F_μ
  · skip
    obtain ⟨x2, -, h⟩ := Option.bind_eq_some_iff.mp h
    obtain ⟨μ5, hq3, h⟩ := Option.bind_eq_some_iff.mp h
    have F_μ5 : Fr [20006, 20007, 20008] [14] μ μ5 := F_μ.tr ((frfX11_surveyAt hq3 M_μ).mo (by decide) (by decide))
    have M_μ5 : Md μ5 := F_μ5.md hM (by decide)
    split at h
    · skip
      obtain ⟨-, h⟩ := chk_inv h
      cases h
      exact F_μ5
    · skip
      obtain ⟨-, h⟩ := chk_inv h
      split at h
      · skip
        cases h
        exact F_μ5
      · skip
        obtain ⟨-, h⟩ := chk_inv h
        cases h
        exact F_μ5
theorem frfX11_steeper {v1 v2 v3 v4 : Int} {μ : Mm} {t : (Int × Mm)} (h : fX11_steeper 20000 v1 v2 v3 v4 μ = some t) (hM : Md μ) : Fr [20006, 20007, 20008] [14] μ (t.2) := by
  have F_μ : Fr [20006, 20007, 20008] [14] μ μ := Fr.rf
  have M_μ := hM
  unfold fX11_steeper at h
  obtain ⟨-, h⟩ := chk_inv h
  obtain ⟨x1, -, h⟩ := Option.bind_eq_some_iff.mp h
  split at h
  · skip
    cases h
    exact F_μ
  · skip
    obtain ⟨x2, -, h⟩ := Option.bind_eq_some_iff.mp h
    obtain ⟨μ5, hq3, h⟩ := Option.bind_eq_some_iff.mp h
    have F_μ5 : Fr [20006, 20007, 20008] [14] μ μ5 := F_μ.tr ((frfX11_surveyAt hq3 M_μ).mo (by decide) (by decide))
    have M_μ5 : Md μ5 := F_μ5.md hM (by decide)
    obtain ⟨-, h⟩ := chk_inv h
    split at h
    · skip
      cases h
      exact F_μ5
    · skip
      split at h
      · skip
        cases h
        exact F_μ5
      · skip
        obtain ⟨x4, -, h⟩ := Option.bind_eq_some_iff.mp h
        obtain ⟨-, h⟩ := chk_inv h
        obtain ⟨-, h⟩ := chk_inv h
        obtain ⟨x5, -, h⟩ := Option.bind_eq_some_iff.mp h
        split at h
        · skip
          split at h
          · skip
            cases h
            exact F_μ5
          · skip
            cases h
            exact F_μ5
        · skip
          cases h
          exact F_μ5
theorem frfX11_isStart {v1 v2 v3 v4 : Int} {μ : Mm} {t : (Int × Mm)} (h : fX11_isStart 20000 v1 v2 v3 v4 μ = some t) (hM : Md μ) : Fr [20006, 20007, 20008] [14] μ (t.2) := by
  have F_μ : Fr [20006, 20007, 20008] [14] μ μ := Fr.rf
  have M_μ := hM
  unfold fX11_isStart at h
  obtain ⟨-, h⟩ := chk_inv h
  obtain ⟨x1, -, h⟩ := Option.bind_eq_some_iff.mp h
  split at h
  · skip
    cases h
    exact F_μ
  · skip
    obtain ⟨x2, -, h⟩ := Option.bind_eq_some_iff.mp h
    split at h
    · skip
      cases h
      exact F_μ
    · skip
      obtain ⟨x3, -, h⟩ := Option.bind_eq_some_iff.mp h
      obtain ⟨μ7, hq4, h⟩ := Option.bind_eq_some_iff.mp h
      have F_μ7 : Fr [20006, 20007, 20008] [14] μ μ7 := F_μ.tr ((frfX11_surveyAt hq4 M_μ).mo (by decide) (by decide))
      have M_μ7 : Md μ7 := F_μ7.md hM (by decide)
      obtain ⟨-, h⟩ := chk_inv h
      cases h
      exact F_μ7
theorem frfX11_first {v1 v2 v3 v4 v5 : Int} {μ : Mm} {t : (Int × Mm)} (h : fX11_first 20000 v1 v2 v3 v4 v5 μ = some t) (hM : Md μ) : Fr [20006, 20007, 20008] [14] μ (t.2) := by
  have F_μ : Fr [20006, 20007, 20008] [14] μ μ := Fr.rf
  have M_μ := hM
  unfold fX11_first at h
  split at h
  · skip
    cases h
    exact F_μ
  · skip
    obtain ⟨-, h⟩ := chk_inv h
    obtain ⟨⟨r3, μ3⟩, hq1, h⟩ := Option.bind_eq_some_iff.mp h
    dsimp only at h
    have F_μ3 : Fr [20006, 20007, 20008] [14] μ μ3 := F_μ.tr ((frfX11_isStart hq1 M_μ).mo (by decide) (by decide))
    have M_μ3 : Md μ3 := F_μ3.md hM (by decide)
    split at h
    · skip
      cases h
      exact F_μ3
    · skip
      obtain ⟨x2, -, h⟩ := Option.bind_eq_some_iff.mp h
      obtain ⟨x3, -, h⟩ := Option.bind_eq_some_iff.mp h
      obtain ⟨x4, -, h⟩ := Option.bind_eq_some_iff.mp h
      cases h
      exact F_μ3
theorem frfX11_fits {v1 v2 v3 v4 : Int} {μ : Mm} {t : (Int × Mm)} (h : fX11_fits 20000 v1 v2 v3 v4 μ = some t) (hM : Md μ) : Fr [20006, 20007, 20008] [14] μ (t.2) := by
  have F_μ : Fr [20006, 20007, 20008] [14] μ μ := Fr.rf
  have M_μ := hM
  unfold fX11_fits at h
  obtain ⟨-, h⟩ := chk_inv h
  obtain ⟨x1, -, h⟩ := Option.bind_eq_some_iff.mp h
  split at h
  · skip
    cases h
    exact F_μ
  · skip
    obtain ⟨x2, -, h⟩ := Option.bind_eq_some_iff.mp h
    split at h
    · skip
      cases h
      exact F_μ
    · skip
      split at h
      · skip
        cases h
        exact F_μ
      · skip
        obtain ⟨x3, -, h⟩ := Option.bind_eq_some_iff.mp h
        obtain ⟨μ8, hq4, h⟩ := Option.bind_eq_some_iff.mp h
        have F_μ8 : Fr [20006, 20007, 20008] [14] μ μ8 := F_μ.tr ((frfX11_surveyAt hq4 M_μ).mo (by decide) (by decide))
        have M_μ8 : Md μ8 := F_μ8.md hM (by decide)
        obtain ⟨x5, -, h⟩ := Option.bind_eq_some_iff.mp h
        obtain ⟨x6, -, h⟩ := Option.bind_eq_some_iff.mp h
        obtain ⟨x7, -, h⟩ := Option.bind_eq_some_iff.mp h
        cases h
        exact F_μ8
def pjX11_finds_8 : ((Int × Mm) ⊕ Mm) → Mm
  | .inl (_, μ) => μ
  | .inr μ => μ
theorem frsX11_finds_8 {v1 v2 v3 : Int} {q : (Int × Mm)} {t : ((Int × Mm) ⊕ Mm)} (h : sX11_finds_8 20000 v1 v2 v3 q = some t) (hM : Md (pjX11_finds_8 (.inl q))) : Fr [20009] [18] (pjX11_finds_8 (.inl q)) (pjX11_finds_8 t) := by
  obtain ⟨v4, μ⟩ := q
  have hM : Md μ := hM
  show Fr [20009] [18] μ (pjX11_finds_8 t)
  have F_μ : Fr [20009] [18] μ μ := Fr.rf
  have M_μ := hM
  unfold sX11_finds_8 at h
  try dsimp only at h
  obtain ⟨-, h⟩ := chk_inv h
  obtain ⟨x1, -, h⟩ := Option.bind_eq_some_iff.mp h
  split at h
  · skip
    cases h
    exact F_μ
  · skip
    obtain ⟨x2, -, h⟩ := Option.bind_eq_some_iff.mp h
    split at h
    · skip
      obtain ⟨-, h⟩ := chk_inv h
      obtain ⟨μ7, eμ7, h⟩ := lm_inv h
      have F_μ7 : Fr [20009] [18] μ μ7 := F_μ.tr (Fr.row eμ7 (Md_19 M_μ) (by decide) (by decide))
      have M_μ7 : Md μ7 := F_μ7.md hM (by decide)
      obtain ⟨μ8, eμ8, h⟩ := lm_inv h
      have F_μ8 : Fr [20009] [18] μ μ8 := F_μ7.tr (Fr.fld eμ8 (by decide))
      have M_μ8 : Md μ8 := F_μ8.md hM (by decide)
      cases h
      exact F_μ8
    · skip
      cases h
      exact F_μ
theorem frfX11_finds {v1 v2 v3 : Int} {μ : Mm} {t : Mm} (h : fX11_finds 20000 v1 v2 v3 μ = some t) (hM : Md μ) : Fr [20009] [18] μ (t) := by
  have F_μ : Fr [20009] [18] μ μ := Fr.rf
  have M_μ := hM
  unfold fX11_finds at h
  obtain ⟨-, h⟩ := chk_inv h
  obtain ⟨μ10, eμ10, h⟩ := lm_inv h
  have F_μ10 : Fr [20009] [18] μ μ10 := F_μ.tr (Fr.fld eμ10 (by decide))
  have M_μ10 : Md μ10 := F_μ10.md hM (by decide)
  obtain ⟨x2, hq1, h⟩ := Option.bind_eq_some_iff.mp h
  have F_x2 := F_μ10.tr ((lop_rel pjX11_finds_8 (by decide) (fun _ _ => frsX11_finds_8) _ _ _ hq1 M_μ10).mo (R' := [20009]) (L' := [18]) (by decide) (by decide))
  have M_x2 := F_x2.md hM (by decide)
  obtain ⟨μ_12, hqq⟩ : ∃ z, z = x2 := ⟨x2, rfl⟩
  subst hqq
  have F_μ_12 : Fr [20009] [18] μ μ_12 := F_x2
  have M_μ_12 : Md μ_12 := M_x2
  cases h
  exact F_μ_12
theorem frfX11_where {v1 v2 v3 v4 : Int} {μ : Mm} {t : (Int × Mm)} (h : fX11_where 20000 v1 v2 v3 v4 μ = some t) (hM : Md μ) : Fr [20006, 20007, 20008, 20009] [14, 18] μ (t.2) := by
  have F_μ : Fr [20006, 20007, 20008, 20009] [14, 18] μ μ := Fr.rf
  have M_μ := hM
  unfold fX11_where at h
  obtain ⟨-, h⟩ := chk_inv h
  obtain ⟨x1, -, h⟩ := Option.bind_eq_some_iff.mp h
  split at h
  · skip
    cases h
    exact F_μ
  · skip
    split at h
    · skip
      cases h
      exact F_μ
    · skip
      obtain ⟨x2, -, h⟩ := Option.bind_eq_some_iff.mp h
      obtain ⟨μ6, hq3, h⟩ := Option.bind_eq_some_iff.mp h
      have F_μ6 : Fr [20006, 20007, 20008, 20009] [14, 18] μ μ6 := F_μ.tr ((frfX11_survey hq3 M_μ).mo (by decide) (by decide))
      have M_μ6 : Md μ6 := F_μ6.md hM (by decide)
      obtain ⟨x4, -, h⟩ := Option.bind_eq_some_iff.mp h
      obtain ⟨x5, -, h⟩ := Option.bind_eq_some_iff.mp h
      obtain ⟨μ9, hq6, h⟩ := Option.bind_eq_some_iff.mp h
      have F_μ9 : Fr [20006, 20007, 20008, 20009] [14, 18] μ μ9 := F_μ6.tr ((frfX11_finds hq6 M_μ6).mo (by decide) (by decide))
      have M_μ9 : Md μ9 := F_μ9.md hM (by decide)
      obtain ⟨x7, -, h⟩ := Option.bind_eq_some_iff.mp h
      cases h
      exact F_μ9
def pjX11_hillsOf_54 : ((Int × Mm) ⊕ Mm) → Mm
  | .inl (_, μ) => μ
  | .inr μ => μ
theorem frsX11_hillsOf_54 {v3 v4 v5 : Int} {q : (Int × Mm)} {t : ((Int × Mm) ⊕ Mm)} (h : sX11_hillsOf_54 20000 v3 v4 v5 q = some t) (hM : Md (pjX11_hillsOf_54 (.inl q))) : Fr [20011] [] (pjX11_hillsOf_54 (.inl q)) (pjX11_hillsOf_54 t) := by
  obtain ⟨v6, μ⟩ := q
  have hM : Md μ := hM
  show Fr [20011] [] μ (pjX11_hillsOf_54 t)
  have F_μ : Fr [20011] [] μ μ := Fr.rf
  have M_μ := hM
  unfold sX11_hillsOf_54 at h
  try dsimp only at h
  split at h
  · skip
    cases h
    exact F_μ
  · skip
    obtain ⟨-, h⟩ := chk_inv h
    obtain ⟨-, h⟩ := chk_inv h
    obtain ⟨μ4, eμ4, h⟩ := lm_inv h
    have F_μ4 : Fr [20011] [] μ μ4 := F_μ.tr (Fr.row eμ4 (Md_22 M_μ) (by decide) (by decide))
    have M_μ4 : Md μ4 := F_μ4.md hM (by decide)
    cases h
    exact F_μ4
def pjX11_hillsOf_93 : ((Int × Mm) ⊕ Mm) → Mm
  | .inl (_, μ) => μ
  | .inr μ => μ
theorem frsX11_hillsOf_93 {v3 v4 v5 v6 : Int} {q : (Int × Mm)} {t : ((Int × Mm) ⊕ Mm)} (h : sX11_hillsOf_93 20000 v3 v4 v5 v6 q = some t) (hM : Md (pjX11_hillsOf_93 (.inl q))) : Fr [20011] [] (pjX11_hillsOf_93 (.inl q)) (pjX11_hillsOf_93 t) := by
  obtain ⟨v7, μ⟩ := q
  have hM : Md μ := hM
  show Fr [20011] [] μ (pjX11_hillsOf_93 t)
  have F_μ : Fr [20011] [] μ μ := Fr.rf
  have M_μ := hM
  unfold sX11_hillsOf_93 at h
  try dsimp only at h
  obtain ⟨-, h⟩ := chk_inv h
  obtain ⟨-, h⟩ := chk_inv h
  split at h
  · skip
    cases h
    exact F_μ
  · skip
    obtain ⟨x1, -, h⟩ := Option.bind_eq_some_iff.mp h
    split at h
    · skip
      cases h
      exact F_μ
    · skip
      obtain ⟨x2, -, h⟩ := Option.bind_eq_some_iff.mp h
      obtain ⟨-, h⟩ := chk_inv h
      split at h
      · skip
        obtain ⟨x3, -, h⟩ := Option.bind_eq_some_iff.mp h
        obtain ⟨-, h⟩ := chk_inv h
        obtain ⟨μ15, eμ15, h⟩ := lm_inv h
        have F_μ15 : Fr [20011] [] μ μ15 := F_μ.tr (Fr.row eμ15 (Md_22 M_μ) (by decide) (by decide))
        have M_μ15 : Md μ15 := F_μ15.md hM (by decide)
        cases h
        exact F_μ15
      · skip
        cases h
        exact F_μ
def pjX11_hillsOf_79 : ((Int × Mm) ⊕ Mm) → Mm
  | .inl (_, μ) => μ
  | .inr μ => μ
theorem frsX11_hillsOf_79 {v3 v4 v5 : Int} {q : (Int × Mm)} {t : ((Int × Mm) ⊕ Mm)} (h : sX11_hillsOf_79 20000 v3 v4 v5 q = some t) (hM : Md (pjX11_hillsOf_79 (.inl q))) : Fr [20011] [] (pjX11_hillsOf_79 (.inl q)) (pjX11_hillsOf_79 t) := by
  obtain ⟨v6, μ⟩ := q
  have hM : Md μ := hM
  show Fr [20011] [] μ (pjX11_hillsOf_79 t)
  have F_μ : Fr [20011] [] μ μ := Fr.rf
  have M_μ := hM
  unfold sX11_hillsOf_79 at h
  try dsimp only at h
  obtain ⟨-, h⟩ := chk_inv h
  obtain ⟨x1, -, h⟩ := Option.bind_eq_some_iff.mp h
  split at h
  · skip
    cases h
    exact F_μ
  · skip
    obtain ⟨x3, hq2, h⟩ := Option.bind_eq_some_iff.mp h
    have F_x3 := F_μ.tr ((lop_rel pjX11_hillsOf_93 (by decide) (fun _ _ => frsX11_hillsOf_93) _ _ _ hq2 M_μ).mo (R' := [20011]) (L' := []) (by decide) (by decide))
    have M_x3 := F_x3.md hM (by decide)
    obtain ⟨μ_20, hqq⟩ : ∃ z, z = x3 := ⟨x3, rfl⟩
    subst hqq
    have F_μ_20 : Fr [20011] [] μ μ_20 := F_x3
    have M_μ_20 : Md μ_20 := M_x3
    cases h
    exact F_μ_20
def pjX11_hillsOf_176 : ((Int × Mm) ⊕ Mm) → Mm
  | .inl (_, μ) => μ
  | .inr μ => μ
theorem frsX11_hillsOf_176 {q : (Int × Mm)} {t : ((Int × Mm) ⊕ Mm)} (h : sX11_hillsOf_176 20000 q = some t) (hM : Md (pjX11_hillsOf_176 (.inl q))) : Fr [20009] [18] (pjX11_hillsOf_176 (.inl q)) (pjX11_hillsOf_176 t) := by
  obtain ⟨v6, μ⟩ := q
  have hM : Md μ := hM
  show Fr [20009] [18] μ (pjX11_hillsOf_176 t)
  have F_μ : Fr [20009] [18] μ μ := Fr.rf
  have M_μ := hM
  unfold sX11_hillsOf_176 at h
  try dsimp only at h
  split at h
  · skip
    cases h
    exact F_μ
  · skip
    obtain ⟨-, h⟩ := chk_inv h
    obtain ⟨-, h⟩ := chk_inv h
    split at h
    · skip
      cases h
      exact F_μ
    · skip
      obtain ⟨-, h⟩ := chk_inv h
      obtain ⟨μ26, eμ26, h⟩ := lm_inv h
      have F_μ26 : Fr [20009] [18] μ μ26 := F_μ.tr (Fr.row eμ26 (Md_19 M_μ) (by decide) (by decide))
      have M_μ26 : Md μ26 := F_μ26.md hM (by decide)
      obtain ⟨μ27, eμ27, h⟩ := lm_inv h
      have F_μ27 : Fr [20009] [18] μ μ27 := F_μ26.tr (Fr.fld eμ27 (by decide))
      have M_μ27 : Md μ27 := F_μ27.md hM (by decide)
      cases h
      exact F_μ27
theorem frfX11_hillsOf {v1 v2 v3 : Int} {μ : Mm} {t : (Int × Mm)} (h : fX11_hillsOf 20000 v1 v2 v3 μ = some t) (hM : Md μ) : Fr [20006, 20007, 20008, 20009, 20011] [14, 18] μ (t.2) := by
  have F_μ : Fr [20006, 20007, 20008, 20009, 20011] [14, 18] μ μ := Fr.rf
  have M_μ := hM
  unfold fX11_hillsOf at h
  obtain ⟨-, h⟩ := chk_inv h
  obtain ⟨x1, -, h⟩ := Option.bind_eq_some_iff.mp h
  split at h
  · skip
    cases h
    exact F_μ
  · skip
    obtain ⟨x2, -, h⟩ := Option.bind_eq_some_iff.mp h
    obtain ⟨-, h⟩ := chk_inv h
    split at h
    · skip
      cases h
      exact F_μ
    · skip
      obtain ⟨x3, -, h⟩ := Option.bind_eq_some_iff.mp h
      obtain ⟨x4, -, h⟩ := Option.bind_eq_some_iff.mp h
      obtain ⟨μ36, hq5, h⟩ := Option.bind_eq_some_iff.mp h
      have F_μ36 : Fr [20006, 20007, 20008, 20009, 20011] [14, 18] μ μ36 := F_μ.tr ((frfX11_survey hq5 M_μ).mo (by decide) (by decide))
      have M_μ36 : Md μ36 := F_μ36.md hM (by decide)
      obtain ⟨x7, hq6, h⟩ := Option.bind_eq_some_iff.mp h
      have F_x7 := F_μ36.tr ((lop_rel pjX11_hillsOf_54 (by decide) (fun _ _ => frsX11_hillsOf_54) _ _ _ hq6 M_μ36).mo (R' := [20006, 20007, 20008, 20009, 20011]) (L' := [14, 18]) (by decide) (by decide))
      have M_x7 := F_x7.md hM (by decide)
      obtain ⟨μ_38, hqq⟩ : ∃ z, z = x7 := ⟨x7, rfl⟩
      subst hqq
      have F_μ_38 : Fr [20006, 20007, 20008, 20009, 20011] [14, 18] μ μ_38 := F_x7
      have M_μ_38 : Md μ_38 := M_x7
      obtain ⟨x9, hq8, h⟩ := Option.bind_eq_some_iff.mp h
      have F_x9 := F_μ_38.tr ((lop_rel pjX11_hillsOf_79 (by decide) (fun _ _ => frsX11_hillsOf_79) _ _ _ hq8 M_μ_38).mo (R' := [20006, 20007, 20008, 20009, 20011]) (L' := [14, 18]) (by decide) (by decide))
      have M_x9 := F_x9.md hM (by decide)
      obtain ⟨μ_40, hqq⟩ : ∃ z, z = x9 := ⟨x9, rfl⟩
      subst hqq
      have F_μ_40 : Fr [20006, 20007, 20008, 20009, 20011] [14, 18] μ μ_40 := F_x9
      have M_μ_40 : Md μ_40 := M_x9
      obtain ⟨μ41, eμ41, h⟩ := lm_inv h
      have F_μ41 : Fr [20006, 20007, 20008, 20009, 20011] [14, 18] μ μ41 := F_μ_40.tr (Fr.fld eμ41 (by decide))
      have M_μ41 : Md μ41 := F_μ41.md hM (by decide)
      obtain ⟨x11, hq10, h⟩ := Option.bind_eq_some_iff.mp h
      have F_x11 := F_μ41.tr ((lop_rel pjX11_hillsOf_176 (by decide) (fun _ _ => frsX11_hillsOf_176) _ _ _ hq10 M_μ41).mo (R' := [20006, 20007, 20008, 20009, 20011]) (L' := [14, 18]) (by decide) (by decide))
      have M_x11 := F_x11.md hM (by decide)
      obtain ⟨μ_43, hqq⟩ : ∃ z, z = x11 := ⟨x11, rfl⟩
      subst hqq
      have F_μ_43 : Fr [20006, 20007, 20008, 20009, 20011] [14, 18] μ μ_43 := F_x11
      have M_μ_43 : Md μ_43 := M_x11
      cases h
      exact F_μ_43
theorem frfX11_hills {v1 v2 v3 v4 : Int} {μ : Mm} {t : (Int × Mm)} (h : fX11_hills 20000 v1 v2 v3 v4 μ = some t) (hM : Md μ) : Fr [20006, 20007, 20008, 20009, 20011] [14, 18] μ (t.2) := by
  have F_μ : Fr [20006, 20007, 20008, 20009, 20011] [14, 18] μ μ := Fr.rf
  have M_μ := hM
  unfold fX11_hills at h
  obtain ⟨-, h⟩ := chk_inv h
  obtain ⟨⟨r2, μ2⟩, hq1, h⟩ := Option.bind_eq_some_iff.mp h
  dsimp only at h
  have F_μ2 : Fr [20006, 20007, 20008, 20009, 20011] [14, 18] μ μ2 := F_μ.tr ((frfX11_hillsOf hq1 M_μ).mo (by decide) (by decide))
  have M_μ2 : Md μ2 := F_μ2.md hM (by decide)
  split at h
  · skip
    cases h
    exact F_μ2
  · skip
    obtain ⟨x2, -, h⟩ := Option.bind_eq_some_iff.mp h
    cases h
    exact F_μ2
theorem frfX11_sure {v1 v2 v3 : Int} {μ : Mm} {t : (Int × Mm)} (h : fX11_sure 20000 v1 v2 v3 μ = some t) (hM : Md μ) : Fr [20006, 20007, 20008, 20009, 20011] [14, 18] μ (t.2) := by
  have F_μ : Fr [20006, 20007, 20008, 20009, 20011] [14, 18] μ μ := Fr.rf
  have M_μ := hM
  unfold fX11_sure at h
  obtain ⟨-, h⟩ := chk_inv h
  obtain ⟨⟨r2, μ2⟩, hq1, h⟩ := Option.bind_eq_some_iff.mp h
  dsimp only at h
  have F_μ2 : Fr [20006, 20007, 20008, 20009, 20011] [14, 18] μ μ2 := F_μ.tr ((frfX11_hillsOf hq1 M_μ).mo (by decide) (by decide))
  have M_μ2 : Md μ2 := F_μ2.md hM (by decide)
  split at h
  · skip
    cases h
    exact F_μ2
  · skip
    split at h
    · skip
      cases h
      exact F_μ2
    · skip
      cases h
      exact F_μ2
theorem frfX11_bars {v1 v2 v3 : Int} {μ : Mm} {t : (Int × Mm)} (h : fX11_bars 20000 v1 v2 v3 μ = some t) (hM : Md μ) : Fr [20006, 20007, 20008] [14] μ (t.2) := by
  have F_μ : Fr [20006, 20007, 20008] [14] μ μ := Fr.rf
  have M_μ := hM
  unfold fX11_bars at h
  obtain ⟨-, h⟩ := chk_inv h
  obtain ⟨x1, -, h⟩ := Option.bind_eq_some_iff.mp h
  split at h
  · skip
    cases h
    exact F_μ
  · skip
    obtain ⟨x2, -, h⟩ := Option.bind_eq_some_iff.mp h
    obtain ⟨-, h⟩ := chk_inv h
    split at h
    · skip
      cases h
      exact F_μ
    · skip
      obtain ⟨x3, -, h⟩ := Option.bind_eq_some_iff.mp h
      obtain ⟨x4, -, h⟩ := Option.bind_eq_some_iff.mp h
      obtain ⟨μ20, hq5, h⟩ := Option.bind_eq_some_iff.mp h
      have F_μ20 : Fr [20006, 20007, 20008] [14] μ μ20 := F_μ.tr ((frfX11_survey hq5 M_μ).mo (by decide) (by decide))
      have M_μ20 : Md μ20 := F_μ20.md hM (by decide)
      obtain ⟨x6, -, h⟩ := Option.bind_eq_some_iff.mp h
      cases h
      exact F_μ20
def pjX11_doubts_29 : ((Int × Mm) ⊕ Mm) → Mm
  | .inl (_, μ) => μ
  | .inr μ => μ
theorem frsX11_doubts_29 {v1 v2 v3 v4 v5 v6 : Int} {q : (Int × Mm)} {t : ((Int × Mm) ⊕ Mm)} (h : sX11_doubts_29 20000 v1 v2 v3 v4 v5 v6 q = some t) (hM : Md (pjX11_doubts_29 (.inl q))) : Fr [20012] [] (pjX11_doubts_29 (.inl q)) (pjX11_doubts_29 t) := by
  obtain ⟨v7, μ⟩ := q
  have hM : Md μ := hM
  show Fr [20012] [] μ (pjX11_doubts_29 t)
  have F_μ : Fr [20012] [] μ μ := Fr.rf
  have M_μ := hM
  unfold sX11_doubts_29 at h
  try dsimp only at h
  split at h
  · skip
    cases h
    exact F_μ
  · skip
    obtain ⟨-, h⟩ := chk_inv h
    obtain ⟨-, h⟩ := chk_inv h
    obtain ⟨x1, -, h⟩ := Option.bind_eq_some_iff.mp h
    split at h
    · skip
      obtain ⟨μ6, eμ6, h⟩ := lm_inv h
      have F_μ6 : Fr [20012] [] μ μ6 := F_μ.tr (Fr.row eμ6 (Md_23 M_μ) (by decide) (by decide))
      have M_μ6 : Md μ6 := F_μ6.md hM (by decide)
      cases h
      exact F_μ6
    · skip
      obtain ⟨μ7, eμ7, h⟩ := lm_inv h
      have F_μ7 : Fr [20012] [] μ μ7 := F_μ.tr (Fr.row eμ7 (Md_23 M_μ) (by decide) (by decide))
      have M_μ7 : Md μ7 := F_μ7.md hM (by decide)
      cases h
      exact F_μ7
def pjX11_doubts_11 : ((Int × Mm) ⊕ Mm) → Mm
  | .inl (_, μ) => μ
  | .inr μ => μ
theorem frsX11_doubts_11 {v1 v2 v3 v4 v5 : Int} {q : (Int × Mm)} {t : ((Int × Mm) ⊕ Mm)} (h : sX11_doubts_11 20000 v1 v2 v3 v4 v5 q = some t) (hM : Md (pjX11_doubts_11 (.inl q))) : Fr [20012] [] (pjX11_doubts_11 (.inl q)) (pjX11_doubts_11 t) := by
  obtain ⟨v6, μ⟩ := q
  have hM : Md μ := hM
  show Fr [20012] [] μ (pjX11_doubts_11 t)
  have F_μ : Fr [20012] [] μ μ := Fr.rf
  have M_μ := hM
  unfold sX11_doubts_11 at h
  try dsimp only at h
  split at h
  · skip
    cases h
    exact F_μ
  · skip
    obtain ⟨-, h⟩ := chk_inv h
    obtain ⟨-, h⟩ := chk_inv h
    obtain ⟨μ11, eμ11, h⟩ := lm_inv h
    have F_μ11 : Fr [20012] [] μ μ11 := F_μ.tr (Fr.row eμ11 (Md_23 M_μ) (by decide) (by decide))
    have M_μ11 : Md μ11 := F_μ11.md hM (by decide)
    obtain ⟨x2, hq1, h⟩ := Option.bind_eq_some_iff.mp h
    have F_x2 := F_μ11.tr ((lop_rel pjX11_doubts_29 (by decide) (fun _ _ => frsX11_doubts_29) _ _ _ hq1 M_μ11).mo (R' := [20012]) (L' := []) (by decide) (by decide))
    have M_x2 := F_x2.md hM (by decide)
    obtain ⟨μ_13, hqq⟩ : ∃ z, z = x2 := ⟨x2, rfl⟩
    subst hqq
    have F_μ_13 : Fr [20012] [] μ μ_13 := F_x2
    have M_μ_13 : Md μ_13 := M_x2
    cases h
    exact F_μ_13
def pjX11_doubts_157 : ((Int × Mm) ⊕ Mm) → Mm
  | .inl (_, μ) => μ
  | .inr μ => μ
theorem frsX11_doubts_157 {v1 v2 v3 v4 v5 v6 v7 : Int} {q : (Int × Mm)} {t : ((Int × Mm) ⊕ Mm)} (h : sX11_doubts_157 20000 v1 v2 v3 v4 v5 v6 v7 q = some t) (hM : Md (pjX11_doubts_157 (.inl q))) : Fr [] [24] (pjX11_doubts_157 (.inl q)) (pjX11_doubts_157 t) := by
  obtain ⟨v8, μ⟩ := q
  have hM : Md μ := hM
  show Fr [] [24] μ (pjX11_doubts_157 t)
  have F_μ : Fr [] [24] μ μ := Fr.rf
  have M_μ := hM
  unfold sX11_doubts_157 at h
  try dsimp only at h
  split at h
  · skip
    cases h
    exact F_μ
  · skip
    obtain ⟨-, h⟩ := chk_inv h
    obtain ⟨x1, -, h⟩ := Option.bind_eq_some_iff.mp h
    split at h
    · skip
      cases h
      exact F_μ
    · skip
      obtain ⟨x2, -, h⟩ := Option.bind_eq_some_iff.mp h
      split at h
      · skip
        cases h
        exact F_μ
      · skip
        obtain ⟨μ24, eμ24, h⟩ := lm_inv h
        have F_μ24 : Fr [] [24] μ μ24 := F_μ.tr (Fr.fld eμ24 (by decide))
        have M_μ24 : Md μ24 := F_μ24.md hM (by decide)
        cases h
        exact F_μ24
def pjX11_doubts_92 : ((Int × Mm) ⊕ Mm) → Mm
  | .inl (_, μ) => μ
  | .inr μ => μ
theorem frsX11_doubts_92 {v1 v2 v3 v4 v5 : Int} {q : (Int × Mm)} {t : ((Int × Mm) ⊕ Mm)} (h : sX11_doubts_92 20000 v1 v2 v3 v4 v5 q = some t) (hM : Md (pjX11_doubts_92 (.inl q))) : Fr [] [24] (pjX11_doubts_92 (.inl q)) (pjX11_doubts_92 t) := by
  obtain ⟨v6, μ⟩ := q
  have hM : Md μ := hM
  show Fr [] [24] μ (pjX11_doubts_92 t)
  have F_μ : Fr [] [24] μ μ := Fr.rf
  have M_μ := hM
  unfold sX11_doubts_92 at h
  try dsimp only at h
  obtain ⟨-, h⟩ := chk_inv h
  obtain ⟨-, h⟩ := chk_inv h
  split at h
  · skip
    cases h
    exact F_μ
  · skip
    obtain ⟨x1, -, h⟩ := Option.bind_eq_some_iff.mp h
    obtain ⟨x3, hq2, h⟩ := Option.bind_eq_some_iff.mp h
    have F_x3 := F_μ.tr ((lop_rel pjX11_doubts_157 (by decide) (fun _ _ => frsX11_doubts_157) _ _ _ hq2 M_μ).mo (R' := []) (L' := [24]) (by decide) (by decide))
    have M_x3 := F_x3.md hM (by decide)
    obtain ⟨μ_31, hqq⟩ : ∃ z, z = x3 := ⟨x3, rfl⟩
    subst hqq
    have F_μ_31 : Fr [] [24] μ μ_31 := F_x3
    have M_μ_31 : Md μ_31 := M_x3
    obtain ⟨x4, -, h⟩ := Option.bind_eq_some_iff.mp h
    cases h
    exact F_μ_31
theorem frfX11_doubts {v1 v2 v3 v4 : Int} {μ : Mm} {t : Mm} (h : fX11_doubts 20000 v1 v2 v3 v4 μ = some t) (hM : Md μ) : Fr [20012] [24] μ (t) := by
  have F_μ : Fr [20012] [24] μ μ := Fr.rf
  have M_μ := hM
  unfold fX11_doubts at h
  obtain ⟨-, h⟩ := chk_inv h
  obtain ⟨-, h⟩ := chk_inv h
  obtain ⟨x2, hq1, h⟩ := Option.bind_eq_some_iff.mp h
  have F_x2 := F_μ.tr ((lop_rel pjX11_doubts_11 (by decide) (fun _ _ => frsX11_doubts_11) _ _ _ hq1 M_μ).mo (R' := [20012]) (L' := [24]) (by decide) (by decide))
  have M_x2 := F_x2.md hM (by decide)
  obtain ⟨μ_36, hqq⟩ : ∃ z, z = x2 := ⟨x2, rfl⟩
  subst hqq
  have F_μ_36 : Fr [20012] [24] μ μ_36 := F_x2
  have M_μ_36 : Md μ_36 := M_x2
  obtain ⟨-, h⟩ := chk_inv h
  obtain ⟨y38, -, h⟩ := lt_inv h
  obtain ⟨x4, hq3, h⟩ := Option.bind_eq_some_iff.mp h
  have F_x4 := F_μ_36.tr ((lop_rel pjX11_doubts_92 (by decide) (fun _ _ => frsX11_doubts_92) _ _ _ hq3 M_μ_36).mo (R' := [20012]) (L' := [24]) (by decide) (by decide))
  have M_x4 := F_x4.md hM (by decide)
  obtain ⟨μ_40, hqq⟩ : ∃ z, z = x4 := ⟨x4, rfl⟩
  subst hqq
  have F_μ_40 : Fr [20012] [24] μ μ_40 := F_x4
  have M_μ_40 : Md μ_40 := M_x4
  cases h
  exact F_μ_40
def pjX11_doubt_65 : ((Int × Mm) ⊕ Mm) → Mm
  | .inl (_, μ) => μ
  | .inr μ => μ
theorem frsX11_doubt_65 {v3 v4 v5 : Int} {q : (Int × Mm)} {t : ((Int × Mm) ⊕ Mm)} (h : sX11_doubt_65 20000 v3 v4 v5 q = some t) (hM : Md (pjX11_doubt_65 (.inl q))) : Fr [20012] [24] (pjX11_doubt_65 (.inl q)) (pjX11_doubt_65 t) := by
  obtain ⟨v6, μ⟩ := q
  have hM : Md μ := hM
  show Fr [20012] [24] μ (pjX11_doubt_65 t)
  have F_μ : Fr [20012] [24] μ μ := Fr.rf
  have M_μ := hM
  unfold sX11_doubt_65 at h
  try dsimp only at h
  obtain ⟨-, h⟩ := chk_inv h
  obtain ⟨-, h⟩ := chk_inv h
  split at h
  · skip
    cases h
    exact F_μ
  · skip
    obtain ⟨x1, -, h⟩ := Option.bind_eq_some_iff.mp h
    split at h
    · skip
      cases h
      exact F_μ
    · skip
      split at h
      · skip
        cases h
        exact F_μ
      · skip
        obtain ⟨μ7, hq2, h⟩ := Option.bind_eq_some_iff.mp h
        have F_μ7 : Fr [20012] [24] μ μ7 := F_μ.tr ((frfX11_doubts hq2 M_μ).mo (by decide) (by decide))
        have M_μ7 : Md μ7 := F_μ7.md hM (by decide)
        cases h
        exact F_μ7
def pjX11_doubt_52 : ((Int × Mm) ⊕ Mm) → Mm
  | .inl (_, μ) => μ
  | .inr μ => μ
theorem frsX11_doubt_52 {v3 v4 : Int} {q : (Int × Mm)} {t : ((Int × Mm) ⊕ Mm)} (h : sX11_doubt_52 20000 v3 v4 q = some t) (hM : Md (pjX11_doubt_52 (.inl q))) : Fr [20012] [24] (pjX11_doubt_52 (.inl q)) (pjX11_doubt_52 t) := by
  obtain ⟨v5, μ⟩ := q
  have hM : Md μ := hM
  show Fr [20012] [24] μ (pjX11_doubt_52 t)
  have F_μ : Fr [20012] [24] μ μ := Fr.rf
  have M_μ := hM
  unfold sX11_doubt_52 at h
  try dsimp only at h
  obtain ⟨-, h⟩ := chk_inv h
  obtain ⟨x1, -, h⟩ := Option.bind_eq_some_iff.mp h
  split at h
  · skip
    cases h
    exact F_μ
  · skip
    obtain ⟨x3, hq2, h⟩ := Option.bind_eq_some_iff.mp h
    have F_x3 := F_μ.tr ((lop_rel pjX11_doubt_65 (by decide) (fun _ _ => frsX11_doubt_65) _ _ _ hq2 M_μ).mo (R' := [20012]) (L' := [24]) (by decide) (by decide))
    have M_x3 := F_x3.md hM (by decide)
    obtain ⟨μ_12, hqq⟩ : ∃ z, z = x3 := ⟨x3, rfl⟩
    subst hqq
    have F_μ_12 : Fr [20012] [24] μ μ_12 := F_x3
    have M_μ_12 : Md μ_12 := M_x3
    cases h
    exact F_μ_12
theorem frfX11_doubt {v1 v2 : Int} {μ : Mm} {t : (Int × Mm)} (h : fX11_doubt 20000 v1 v2 μ = some t) (hM : Md μ) : Fr [20006, 20007, 20008, 20012] [14, 24] μ (t.2) := by
  have F_μ : Fr [20006, 20007, 20008, 20012] [14, 24] μ μ := Fr.rf
  have M_μ := hM
  unfold fX11_doubt at h
  obtain ⟨-, h⟩ := chk_inv h
  obtain ⟨x1, -, h⟩ := Option.bind_eq_some_iff.mp h
  split at h
  · skip
    cases h
    exact F_μ
  · skip
    obtain ⟨x2, -, h⟩ := Option.bind_eq_some_iff.mp h
    obtain ⟨-, h⟩ := chk_inv h
    split at h
    · skip
      obtain ⟨x3, -, h⟩ := Option.bind_eq_some_iff.mp h
      obtain ⟨x4, -, h⟩ := Option.bind_eq_some_iff.mp h
      obtain ⟨μ21, hq5, h⟩ := Option.bind_eq_some_iff.mp h
      have F_μ21 : Fr [20006, 20007, 20008, 20012] [14, 24] μ μ21 := F_μ.tr ((frfX11_survey hq5 M_μ).mo (by decide) (by decide))
      have M_μ21 : Md μ21 := F_μ21.md hM (by decide)
      obtain ⟨μ22, eμ22, h⟩ := lm_inv h
      have F_μ22 : Fr [20006, 20007, 20008, 20012] [14, 24] μ μ22 := F_μ21.tr (Fr.fld eμ22 (by decide))
      have M_μ22 : Md μ22 := F_μ22.md hM (by decide)
      obtain ⟨x7, hq6, h⟩ := Option.bind_eq_some_iff.mp h
      have F_x7 := F_μ22.tr ((lop_rel pjX11_doubt_52 (by decide) (fun _ _ => frsX11_doubt_52) _ _ _ hq6 M_μ22).mo (R' := [20006, 20007, 20008, 20012]) (L' := [14, 24]) (by decide) (by decide))
      have M_x7 := F_x7.md hM (by decide)
      obtain ⟨μ_24, hqq⟩ : ∃ z, z = x7 := ⟨x7, rfl⟩
      subst hqq
      have F_μ_24 : Fr [20006, 20007, 20008, 20012] [14, 24] μ μ_24 := F_x7
      have M_μ_24 : Md μ_24 := M_x7
      cases h
      exact F_μ_24
    · skip
      cases h
      exact F_μ
def pjX11_since_45 : ((Int × Int × Mm) ⊕ (Int × Mm)) → Mm
  | .inl (_, _, μ) => μ
  | .inr (_, μ) => μ
theorem frjX11_since_69 {v3 v4 v5 v6 v7 : Int} {μ : Mm} {t : ((Int × Int × Mm) ⊕ (Int × Mm))} (h : jX11_since_69 20000 v3 v4 v5 v6 v7 μ = some t) (hM : Md μ) : Fr [20009] [18] μ (pjX11_since_45 t) := by
  have F_μ : Fr [20009] [18] μ μ := Fr.rf
  have M_μ := hM
  unfold jX11_since_69 at h
  obtain ⟨-, h⟩ := chk_inv h
  obtain ⟨μ2, hq1, h⟩ := Option.bind_eq_some_iff.mp h
  have F_μ2 : Fr [20009] [18] μ μ2 := F_μ.tr ((frfX11_finds hq1 M_μ).mo (by decide) (by decide))
  have M_μ2 : Md μ2 := F_μ2.md hM (by decide)
  split at h
  · skip
    cases h
    exact F_μ2
  · skip
    cases h
    exact F_μ2
theorem frsX11_since_45 {v3 v4 v5 : Int} {q : (Int × Int × Mm)} {t : ((Int × Int × Mm) ⊕ (Int × Mm))} (h : sX11_since_45 20000 v3 v4 v5 q = some t) (hM : Md (pjX11_since_45 (.inl q))) : Fr [20009] [18] (pjX11_since_45 (.inl q)) (pjX11_since_45 t) := by
  obtain ⟨v6, v7, μ⟩ := q
  have hM : Md μ := hM
  show Fr [20009] [18] μ (pjX11_since_45 t)
  have F_μ : Fr [20009] [18] μ μ := Fr.rf
  have M_μ := hM
  unfold sX11_since_45 at h
  try dsimp only at h
  obtain ⟨-, h⟩ := chk_inv h
  obtain ⟨-, h⟩ := chk_inv h
  split at h
  · skip
    cases h
    exact F_μ
  · skip
    split at h
    · skip
      split at h
      · skip
        cases h
        exact F_μ
      · skip
        exact F_μ.tr ((frjX11_since_69 h M_μ).mo (by decide) (by decide))
    · skip
      exact F_μ.tr ((frjX11_since_69 h M_μ).mo (by decide) (by decide))
theorem frfX11_since {v1 v2 v3 : Int} {μ : Mm} {t : (Int × Mm)} (h : fX11_since 20000 v1 v2 v3 μ = some t) (hM : Md μ) : Fr [20006, 20007, 20008, 20009] [14, 18] μ (t.2) := by
  have F_μ : Fr [20006, 20007, 20008, 20009] [14, 18] μ μ := Fr.rf
  have M_μ := hM
  unfold fX11_since at h
  obtain ⟨-, h⟩ := chk_inv h
  obtain ⟨x1, -, h⟩ := Option.bind_eq_some_iff.mp h
  split at h
  · skip
    cases h
    exact F_μ
  · skip
    obtain ⟨x2, -, h⟩ := Option.bind_eq_some_iff.mp h
    obtain ⟨x3, -, h⟩ := Option.bind_eq_some_iff.mp h
    obtain ⟨μ14, hq4, h⟩ := Option.bind_eq_some_iff.mp h
    have F_μ14 : Fr [20006, 20007, 20008, 20009] [14, 18] μ μ14 := F_μ.tr ((frfX11_survey hq4 M_μ).mo (by decide) (by decide))
    have M_μ14 : Md μ14 := F_μ14.md hM (by decide)
    obtain ⟨-, h⟩ := chk_inv h
    obtain ⟨y16, -, h⟩ := lt_inv h
    obtain ⟨x6, hq5, h⟩ := Option.bind_eq_some_iff.mp h
    have F_x6 := F_μ14.tr ((lop_rel pjX11_since_45 (by decide) (fun _ _ => frsX11_since_45) _ _ _ hq5 M_μ14).mo (R' := [20006, 20007, 20008, 20009]) (L' := [14, 18]) (by decide) (by decide))
    have M_x6 := F_x6.md hM (by decide)
    obtain ⟨v6_18, μ_18⟩ := x6
    dsimp only at h
    have F_μ_18 : Fr [20006, 20007, 20008, 20009] [14, 18] μ μ_18 := F_x6
    have M_μ_18 : Md μ_18 := M_x6
    cases h
    exact F_μ_18
def pjX11_findsBoth_56 : ((Int × Mm) ⊕ Mm) → Mm
  | .inl (_, μ) => μ
  | .inr μ => μ
theorem frsX11_findsBoth_56 {v2 v4 : Int} {q : (Int × Mm)} {t : ((Int × Mm) ⊕ Mm)} (h : sX11_findsBoth_56 20000 v2 v4 q = some t) (hM : Md (pjX11_findsBoth_56 (.inl q))) : Fr [20010] [] (pjX11_findsBoth_56 (.inl q)) (pjX11_findsBoth_56 t) := by
  obtain ⟨v5, μ⟩ := q
  have hM : Md μ := hM
  show Fr [20010] [] μ (pjX11_findsBoth_56 t)
  have F_μ : Fr [20010] [] μ μ := Fr.rf
  have M_μ := hM
  unfold sX11_findsBoth_56 at h
  try dsimp only at h
  obtain ⟨-, h⟩ := chk_inv h
  split at h
  · skip
    cases h
    exact F_μ
  · skip
    obtain ⟨-, h⟩ := chk_inv h
    obtain ⟨-, h⟩ := chk_inv h
    obtain ⟨μ5, eμ5, h⟩ := lm_inv h
    have F_μ5 : Fr [20010] [] μ μ5 := F_μ.tr (Fr.row eμ5 (Md_21 M_μ) (by decide) (by decide))
    have M_μ5 : Md μ5 := F_μ5.md hM (by decide)
    cases h
    exact F_μ5
theorem frfX11_findsBoth {v1 v2 v3 : Int} {μ : Mm} {t : (Int × Mm)} (h : fX11_findsBoth 20000 v1 v2 v3 μ = some t) (hM : Md μ) : Fr [20006, 20007, 20008, 20009, 20010] [14, 18, 20] μ (t.2) := by
  have F_μ : Fr [20006, 20007, 20008, 20009, 20010] [14, 18, 20] μ μ := Fr.rf
  have M_μ := hM
  unfold fX11_findsBoth at h
  obtain ⟨-, h⟩ := chk_inv h
  obtain ⟨x1, -, h⟩ := Option.bind_eq_some_iff.mp h
  split at h
  · skip
    cases h
    exact F_μ
  · skip
    obtain ⟨x2, -, h⟩ := Option.bind_eq_some_iff.mp h
    split at h
    · skip
      cases h
      exact F_μ
    · skip
      obtain ⟨x3, -, h⟩ := Option.bind_eq_some_iff.mp h
      obtain ⟨μ12, hq4, h⟩ := Option.bind_eq_some_iff.mp h
      have F_μ12 : Fr [20006, 20007, 20008, 20009, 20010] [14, 18, 20] μ μ12 := F_μ.tr ((frfX11_survey hq4 M_μ).mo (by decide) (by decide))
      have M_μ12 : Md μ12 := F_μ12.md hM (by decide)
      obtain ⟨x5, -, h⟩ := Option.bind_eq_some_iff.mp h
      obtain ⟨μ14, hq6, h⟩ := Option.bind_eq_some_iff.mp h
      have F_μ14 : Fr [20006, 20007, 20008, 20009, 20010] [14, 18, 20] μ μ14 := F_μ12.tr ((frfX11_finds hq6 M_μ12).mo (by decide) (by decide))
      have M_μ14 : Md μ14 := F_μ14.md hM (by decide)
      obtain ⟨μ15, eμ15, h⟩ := lm_inv h
      have F_μ15 : Fr [20006, 20007, 20008, 20009, 20010] [14, 18, 20] μ μ15 := F_μ14.tr (Fr.fld eμ15 (by decide))
      have M_μ15 : Md μ15 := F_μ15.md hM (by decide)
      obtain ⟨x8, hq7, h⟩ := Option.bind_eq_some_iff.mp h
      have F_x8 := F_μ15.tr ((lop_rel pjX11_findsBoth_56 (by decide) (fun _ _ => frsX11_findsBoth_56) _ _ _ hq7 M_μ15).mo (R' := [20006, 20007, 20008, 20009, 20010]) (L' := [14, 18, 20]) (by decide) (by decide))
      have M_x8 := F_x8.md hM (by decide)
      obtain ⟨μ_17, hqq⟩ : ∃ z, z = x8 := ⟨x8, rfl⟩
      subst hqq
      have F_μ_17 : Fr [20006, 20007, 20008, 20009, 20010] [14, 18, 20] μ μ_17 := F_x8
      have M_μ_17 : Md μ_17 := M_x8
      obtain ⟨x9, -, h⟩ := Option.bind_eq_some_iff.mp h
      obtain ⟨μ19, hq10, h⟩ := Option.bind_eq_some_iff.mp h
      have F_μ19 : Fr [20006, 20007, 20008, 20009, 20010] [14, 18, 20] μ μ19 := F_μ_17.tr ((frfX11_finds hq10 M_μ_17).mo (by decide) (by decide))
      have M_μ19 : Md μ19 := F_μ19.md hM (by decide)
      cases h
      exact F_μ19
theorem frfX11_pairs {v1 v2 v3 v4 : Int} {μ : Mm} {t : (Int × Mm)} (h : fX11_pairs 20000 v1 v2 v3 v4 μ = some t) (hM : Md μ) : Fr [20006, 20007, 20008, 20009, 20010] [14, 18, 20] μ (t.2) := by
  have F_μ : Fr [20006, 20007, 20008, 20009, 20010] [14, 18, 20] μ μ := Fr.rf
  have M_μ := hM
  unfold fX11_pairs at h
  split at h
  · skip
    cases h
    exact F_μ
  · skip
    obtain ⟨-, h⟩ := chk_inv h
    obtain ⟨⟨r14, μ14⟩, hq1, h⟩ := Option.bind_eq_some_iff.mp h
    dsimp only at h
    have F_μ14 : Fr [20006, 20007, 20008, 20009, 20010] [14, 18, 20] μ μ14 := F_μ.tr ((frfX11_findsBoth hq1 M_μ).mo (by decide) (by decide))
    have M_μ14 : Md μ14 := F_μ14.md hM (by decide)
    split at h
    · skip
      cases h
      exact F_μ14
    · skip
      obtain ⟨x2, -, h⟩ := Option.bind_eq_some_iff.mp h
      cases h
      exact F_μ14
def pjX11_noWay_7 : ((Int × Mm) ⊕ Mm) → Mm
  | .inl (_, μ) => μ
  | .inr μ => μ
theorem frsX11_noWay_7 {q : (Int × Mm)} {t : ((Int × Mm) ⊕ Mm)} (h : sX11_noWay_7 20000 q = some t) (hM : Md (pjX11_noWay_7 (.inl q))) : Fr [20013, 20015] [] (pjX11_noWay_7 (.inl q)) (pjX11_noWay_7 t) := by
  obtain ⟨v1, μ⟩ := q
  have hM : Md μ := hM
  show Fr [20013, 20015] [] μ (pjX11_noWay_7 t)
  have F_μ : Fr [20013, 20015] [] μ μ := Fr.rf
  have M_μ := hM
  unfold sX11_noWay_7 at h
  try dsimp only at h
  split at h
  · skip
    cases h
    exact F_μ
  · skip
    obtain ⟨-, h⟩ := chk_inv h
    obtain ⟨-, h⟩ := chk_inv h
    obtain ⟨μ4, eμ4, h⟩ := lm_inv h
    have F_μ4 : Fr [20013, 20015] [] μ μ4 := F_μ.tr (Fr.row eμ4 (Md_25 M_μ) (by decide) (by decide))
    have M_μ4 : Md μ4 := F_μ4.md hM (by decide)
    obtain ⟨-, h⟩ := chk_inv h
    obtain ⟨μ6, eμ6, h⟩ := lm_inv h
    have F_μ6 : Fr [20013, 20015] [] μ μ6 := F_μ4.tr (Fr.row eμ6 (Md_28 M_μ4) (by decide) (by decide))
    have M_μ6 : Md μ6 := F_μ6.md hM (by decide)
    cases h
    exact F_μ6
theorem frfX11_noWay {μ : Mm} {t : Mm} (h : fX11_noWay 20000 μ = some t) (hM : Md μ) : Fr [20013, 20015] [26] μ (t) := by
  have F_μ : Fr [20013, 20015] [26] μ μ := Fr.rf
  have M_μ := hM
  unfold fX11_noWay at h
  obtain ⟨-, h⟩ := chk_inv h
  obtain ⟨μ8, eμ8, h⟩ := lm_inv h
  have F_μ8 : Fr [20013, 20015] [26] μ μ8 := F_μ.tr (Fr.fld eμ8 (by decide))
  have M_μ8 : Md μ8 := F_μ8.md hM (by decide)
  obtain ⟨x2, hq1, h⟩ := Option.bind_eq_some_iff.mp h
  have F_x2 := F_μ8.tr ((lop_rel pjX11_noWay_7 (by decide) (fun _ _ => frsX11_noWay_7) _ _ _ hq1 M_μ8).mo (R' := [20013, 20015]) (L' := [26]) (by decide) (by decide))
  have M_x2 := F_x2.md hM (by decide)
  obtain ⟨μ_10, hqq⟩ : ∃ z, z = x2 := ⟨x2, rfl⟩
  subst hqq
  have F_μ_10 : Fr [20013, 20015] [26] μ μ_10 := F_x2
  have M_μ_10 : Md μ_10 := M_x2
  cases h
  exact F_μ_10
theorem frfX11_comes {v1 v2 : Int} {μ : Mm} {t : Mm} (h : fX11_comes 20000 v1 v2 μ = some t) (hM : Md μ) : Fr [20013, 20014] [26] μ (t) := by
  have F_μ : Fr [20013, 20014] [26] μ μ := Fr.rf
  have M_μ := hM
  unfold fX11_comes at h
  obtain ⟨-, h⟩ := chk_inv h
  obtain ⟨-, h⟩ := chk_inv h
  split at h
  · skip
    cases h
    exact F_μ
  · skip
    obtain ⟨-, h⟩ := chk_inv h
    split at h
    · skip
      obtain ⟨μ6, eμ6, h⟩ := lm_inv h
      have F_μ6 : Fr [20013, 20014] [26] μ μ6 := F_μ.tr (Fr.row eμ6 (Md_25 M_μ) (by decide) (by decide))
      have M_μ6 : Md μ6 := F_μ6.md hM (by decide)
      obtain ⟨-, h⟩ := chk_inv h
      obtain ⟨μ8, eμ8, h⟩ := lm_inv h
      have F_μ8 : Fr [20013, 20014] [26] μ μ8 := F_μ6.tr (Fr.row eμ8 (Md_27 M_μ6) (by decide) (by decide))
      have M_μ8 : Md μ8 := F_μ8.md hM (by decide)
      obtain ⟨μ9, eμ9, h⟩ := lm_inv h
      have F_μ9 : Fr [20013, 20014] [26] μ μ9 := F_μ8.tr (Fr.fld eμ9 (by decide))
      have M_μ9 : Md μ9 := F_μ9.md hM (by decide)
      cases h
      exact F_μ9
    · skip
      cases h
      exact F_μ
def pjX11_walks_21 : ((Int × Mm) ⊕ Mm) → Mm
  | .inl (_, μ) => μ
  | .inr μ => μ
theorem frsX11_walks_21 {v1 v2 v3 v4 : Int} {q : (Int × Mm)} {t : ((Int × Mm) ⊕ Mm)} (h : sX11_walks_21 20000 v1 v2 v3 v4 q = some t) (hM : Md (pjX11_walks_21 (.inl q))) : Fr [20013, 20014] [26] (pjX11_walks_21 (.inl q)) (pjX11_walks_21 t) := by
  obtain ⟨v5, μ⟩ := q
  have hM : Md μ := hM
  show Fr [20013, 20014] [26] μ (pjX11_walks_21 t)
  have F_μ : Fr [20013, 20014] [26] μ μ := Fr.rf
  have M_μ := hM
  unfold sX11_walks_21 at h
  try dsimp only at h
  split at h
  · skip
    cases h
    exact F_μ
  · skip
    obtain ⟨-, h⟩ := chk_inv h
    obtain ⟨x1, -, h⟩ := Option.bind_eq_some_iff.mp h
    split at h
    · skip
      obtain ⟨-, h⟩ := chk_inv h
      obtain ⟨-, h⟩ := chk_inv h
      obtain ⟨y7, -, h⟩ := lt_inv h
      split at h
      · skip
        cases h
        exact F_μ
      · skip
        split at h
        · skip
          cases h
          exact F_μ
        · skip
          obtain ⟨-, h⟩ := chk_inv h
          obtain ⟨μ11, hq2, h⟩ := Option.bind_eq_some_iff.mp h
          have F_μ11 : Fr [20013, 20014] [26] μ μ11 := F_μ.tr ((frfX11_comes hq2 M_μ).mo (by decide) (by decide))
          have M_μ11 : Md μ11 := F_μ11.md hM (by decide)
          cases h
          exact F_μ11
    · skip
      cases h
      exact F_μ
def pjX11_walks_2 : ((Int × Mm) ⊕ Mm) → Mm
  | .inl (_, μ) => μ
  | .inr μ => μ
theorem frsX11_walks_2 {v1 v2 : Int} {q : (Int × Mm)} {t : ((Int × Mm) ⊕ Mm)} (h : sX11_walks_2 20000 v1 v2 q = some t) (hM : Md (pjX11_walks_2 (.inl q))) : Fr [20013, 20014] [26] (pjX11_walks_2 (.inl q)) (pjX11_walks_2 t) := by
  obtain ⟨v3, μ⟩ := q
  have hM : Md μ := hM
  show Fr [20013, 20014] [26] μ (pjX11_walks_2 t)
  have F_μ : Fr [20013, 20014] [26] μ μ := Fr.rf
  have M_μ := hM
  unfold sX11_walks_2 at h
  try dsimp only at h
  obtain ⟨-, h⟩ := chk_inv h
  split at h
  · skip
    cases h
    exact F_μ
  · skip
    obtain ⟨-, h⟩ := chk_inv h
    obtain ⟨x2, hq1, h⟩ := Option.bind_eq_some_iff.mp h
    have F_x2 := F_μ.tr ((lop_rel pjX11_walks_21 (by decide) (fun _ _ => frsX11_walks_21) _ _ _ hq1 M_μ).mo (R' := [20013, 20014]) (L' := [26]) (by decide) (by decide))
    have M_x2 := F_x2.md hM (by decide)
    obtain ⟨μ_16, hqq⟩ : ∃ z, z = x2 := ⟨x2, rfl⟩
    subst hqq
    have F_μ_16 : Fr [20013, 20014] [26] μ μ_16 := F_x2
    have M_μ_16 : Md μ_16 := M_x2
    cases h
    exact F_μ_16
theorem frfX11_walks {v1 v2 : Int} {μ : Mm} {t : Mm} (h : fX11_walks 20000 v1 v2 μ = some t) (hM : Md μ) : Fr [20013, 20014] [26] μ (t) := by
  have F_μ : Fr [20013, 20014] [26] μ μ := Fr.rf
  have M_μ := hM
  unfold fX11_walks at h
  obtain ⟨x2, hq1, h⟩ := Option.bind_eq_some_iff.mp h
  have F_x2 := F_μ.tr ((lop_rel pjX11_walks_2 (by decide) (fun _ _ => frsX11_walks_2) _ _ _ hq1 M_μ).mo (R' := [20013, 20014]) (L' := [26]) (by decide) (by decide))
  have M_x2 := F_x2.md hM (by decide)
  obtain ⟨μ_18, hqq⟩ : ∃ z, z = x2 := ⟨x2, rfl⟩
  subst hqq
  have F_μ_18 : Fr [20013, 20014] [26] μ μ_18 := F_x2
  have M_μ_18 : Md μ_18 := M_x2
  cases h
  exact F_μ_18
def pjX11_way_31 : ((Int × Mm) ⊕ Mm) → Mm
  | .inl (_, μ) => μ
  | .inr μ => μ
theorem frsX11_way_31 {v1 v4 : Int} {q : (Int × Mm)} {t : ((Int × Mm) ⊕ Mm)} (h : sX11_way_31 20000 v1 v4 q = some t) (hM : Md (pjX11_way_31 (.inl q))) : Fr [20013, 20014] [26] (pjX11_way_31 (.inl q)) (pjX11_way_31 t) := by
  obtain ⟨v5, μ⟩ := q
  have hM : Md μ := hM
  show Fr [20013, 20014] [26] μ (pjX11_way_31 t)
  have F_μ : Fr [20013, 20014] [26] μ μ := Fr.rf
  have M_μ := hM
  unfold sX11_way_31 at h
  try dsimp only at h
  obtain ⟨-, h⟩ := chk_inv h
  split at h
  · skip
    cases h
    exact F_μ
  · skip
    obtain ⟨-, h⟩ := chk_inv h
    obtain ⟨μ4, hq1, h⟩ := Option.bind_eq_some_iff.mp h
    have F_μ4 : Fr [20013, 20014] [26] μ μ4 := F_μ.tr ((frfX11_comes hq1 M_μ).mo (by decide) (by decide))
    have M_μ4 : Md μ4 := F_μ4.md hM (by decide)
    cases h
    exact F_μ4
theorem frfX11_way {v1 v2 v3 v4 : Int} {μ : Mm} {t : (Int × Mm)} (h : fX11_way 20000 v1 v2 v3 v4 μ = some t) (hM : Md μ) : Fr [20006, 20007, 20008, 20009, 20010, 20013, 20014, 20015] [14, 18, 20, 26] μ (t.2) := by
  have F_μ : Fr [20006, 20007, 20008, 20009, 20010, 20013, 20014, 20015] [14, 18, 20, 26] μ μ := Fr.rf
  have M_μ := hM
  unfold fX11_way at h
  split at h
  · skip
    cases h
    exact F_μ
  · skip
    obtain ⟨-, h⟩ := chk_inv h
    obtain ⟨⟨r15, μ15⟩, hq1, h⟩ := Option.bind_eq_some_iff.mp h
    dsimp only at h
    have F_μ15 : Fr [20006, 20007, 20008, 20009, 20010, 20013, 20014, 20015] [14, 18, 20, 26] μ μ15 := F_μ.tr ((frfX11_findsBoth hq1 M_μ).mo (by decide) (by decide))
    have M_μ15 : Md μ15 := F_μ15.md hM (by decide)
    split at h
    · skip
      cases h
      exact F_μ15
    · skip
      obtain ⟨μ17, hq2, h⟩ := Option.bind_eq_some_iff.mp h
      have F_μ17 : Fr [20006, 20007, 20008, 20009, 20010, 20013, 20014, 20015] [14, 18, 20, 26] μ μ17 := F_μ15.tr ((frfX11_noWay hq2 M_μ15).mo (by decide) (by decide))
      have M_μ17 : Md μ17 := F_μ17.md hM (by decide)
      obtain ⟨x4, hq3, h⟩ := Option.bind_eq_some_iff.mp h
      have F_x4 := F_μ17.tr ((lop_rel pjX11_way_31 (by decide) (fun _ _ => frsX11_way_31) _ _ _ hq3 M_μ17).mo (R' := [20006, 20007, 20008, 20009, 20010, 20013, 20014, 20015]) (L' := [14, 18, 20, 26]) (by decide) (by decide))
      have M_x4 := F_x4.md hM (by decide)
      obtain ⟨μ_19, hqq⟩ : ∃ z, z = x4 := ⟨x4, rfl⟩
      subst hqq
      have F_μ_19 : Fr [20006, 20007, 20008, 20009, 20010, 20013, 20014, 20015] [14, 18, 20, 26] μ μ_19 := F_x4
      have M_μ_19 : Md μ_19 := M_x4
      obtain ⟨x5, -, h⟩ := Option.bind_eq_some_iff.mp h
      obtain ⟨μ21, hq6, h⟩ := Option.bind_eq_some_iff.mp h
      have F_μ21 : Fr [20006, 20007, 20008, 20009, 20010, 20013, 20014, 20015] [14, 18, 20, 26] μ μ21 := F_μ_19.tr ((frfX11_walks hq6 M_μ_19).mo (by decide) (by decide))
      have M_μ21 : Md μ21 := F_μ21.md hM (by decide)
      obtain ⟨x7, -, h⟩ := Option.bind_eq_some_iff.mp h
      cases h
      exact F_μ21
def pjX11_sneak_44 : ((Int × Mm) ⊕ Mm) → Mm
  | .inl (_, μ) => μ
  | .inr μ => μ
theorem frsX11_sneak_44 {v2 v3 v4 v5 : Int} {q : (Int × Mm)} {t : ((Int × Mm) ⊕ Mm)} (h : sX11_sneak_44 20000 v2 v3 v4 v5 q = some t) (hM : Md (pjX11_sneak_44 (.inl q))) : Fr [20015] [] (pjX11_sneak_44 (.inl q)) (pjX11_sneak_44 t) := by
  obtain ⟨v6, μ⟩ := q
  have hM : Md μ := hM
  show Fr [20015] [] μ (pjX11_sneak_44 t)
  have F_μ : Fr [20015] [] μ μ := Fr.rf
  have M_μ := hM
  unfold sX11_sneak_44 at h
  try dsimp only at h
  obtain ⟨-, h⟩ := chk_inv h
  obtain ⟨x1, -, h⟩ := Option.bind_eq_some_iff.mp h
  split at h
  · skip
    cases h
    exact F_μ
  · skip
    split at h
    · skip
      obtain ⟨-, h⟩ := chk_inv h
      obtain ⟨μ6, eμ6, h⟩ := lm_inv h
      have F_μ6 : Fr [20015] [] μ μ6 := F_μ.tr (Fr.row eμ6 (Md_28 M_μ) (by decide) (by decide))
      have M_μ6 : Md μ6 := F_μ6.md hM (by decide)
      cases h
      exact F_μ6
    · skip
      obtain ⟨x2, -, h⟩ := Option.bind_eq_some_iff.mp h
      split at h
      · skip
        obtain ⟨-, h⟩ := chk_inv h
        obtain ⟨μ10, eμ10, h⟩ := lm_inv h
        have F_μ10 : Fr [20015] [] μ μ10 := F_μ.tr (Fr.row eμ10 (Md_28 M_μ) (by decide) (by decide))
        have M_μ10 : Md μ10 := F_μ10.md hM (by decide)
        cases h
        exact F_μ10
      · skip
        obtain ⟨-, h⟩ := chk_inv h
        obtain ⟨μ12, eμ12, h⟩ := lm_inv h
        have F_μ12 : Fr [20015] [] μ μ12 := F_μ.tr (Fr.row eμ12 (Md_28 M_μ) (by decide) (by decide))
        have M_μ12 : Md μ12 := F_μ12.md hM (by decide)
        cases h
        exact F_μ12
theorem frfX11_sneak {v1 v2 v3 v4 : Int} {μ : Mm} {t : (Int × Mm)} (h : fX11_sneak 20000 v1 v2 v3 v4 μ = some t) (hM : Md μ) : Fr [20013, 20014, 20015] [26] μ (t.2) := by
  have F_μ : Fr [20013, 20014, 20015] [26] μ μ := Fr.rf
  have M_μ := hM
  unfold fX11_sneak at h
  obtain ⟨-, h⟩ := chk_inv h
  obtain ⟨x1, -, h⟩ := Option.bind_eq_some_iff.mp h
  split at h
  · skip
    cases h
    exact F_μ
  · skip
    obtain ⟨x2, -, h⟩ := Option.bind_eq_some_iff.mp h
    split at h
    · skip
      cases h
      exact F_μ
    · skip
      obtain ⟨x3, -, h⟩ := Option.bind_eq_some_iff.mp h
      split at h
      · skip
        cases h
        exact F_μ
      · skip
        obtain ⟨x4, -, h⟩ := Option.bind_eq_some_iff.mp h
        obtain ⟨μ21, hq5, h⟩ := Option.bind_eq_some_iff.mp h
        have F_μ21 : Fr [20013, 20014, 20015] [26] μ μ21 := F_μ.tr ((frfX11_noWay hq5 M_μ).mo (by decide) (by decide))
        have M_μ21 : Md μ21 := F_μ21.md hM (by decide)
        obtain ⟨x7, hq6, h⟩ := Option.bind_eq_some_iff.mp h
        have F_x7 := F_μ21.tr ((lop_rel pjX11_sneak_44 (by decide) (fun _ _ => frsX11_sneak_44) _ _ _ hq6 M_μ21).mo (R' := [20013, 20014, 20015]) (L' := [26]) (by decide) (by decide))
        have M_x7 := F_x7.md hM (by decide)
        obtain ⟨μ_23, hqq⟩ : ∃ z, z = x7 := ⟨x7, rfl⟩
        subst hqq
        have F_μ_23 : Fr [20013, 20014, 20015] [26] μ μ_23 := F_x7
        have M_μ_23 : Md μ_23 := M_x7
        obtain ⟨μ24, hq8, h⟩ := Option.bind_eq_some_iff.mp h
        have F_μ24 : Fr [20013, 20014, 20015] [26] μ μ24 := F_μ_23.tr ((frfX11_comes hq8 M_μ_23).mo (by decide) (by decide))
        have M_μ24 : Md μ24 := F_μ24.md hM (by decide)
        obtain ⟨μ25, hq9, h⟩ := Option.bind_eq_some_iff.mp h
        have F_μ25 : Fr [20013, 20014, 20015] [26] μ μ25 := F_μ24.tr ((frfX11_walks hq9 M_μ24).mo (by decide) (by decide))
        have M_μ25 : Md μ25 := F_μ25.md hM (by decide)
        obtain ⟨-, h⟩ := chk_inv h
        cases h
        exact F_μ25
theorem frjX11_canDraw_62 {s0 s1 s2 : Int} {μ : Mm} {t : (Int × Mm)} (h : jX11_canDraw_62 s0 s1 s2 μ = some t) (hM : Md μ) : Fr [] [] μ (t.2) := by
  have F_μ : Fr [] [] μ μ := Fr.rf
  have M_μ := hM
  unfold jX11_canDraw_62 at h
  split at h
  · skip
    cases h
    exact F_μ
  · skip
    cases h
    exact F_μ
theorem frfX11_canDraw {v1 v2 v3 v4 v5 : Int} {μ : Mm} {t : (Int × Mm)} (h : fX11_canDraw 20000 v1 v2 v3 v4 v5 μ = some t) (hM : Md μ) : Fr [20006, 20007, 20008] [14] μ (t.2) := by
  have F_μ : Fr [20006, 20007, 20008] [14] μ μ := Fr.rf
  have M_μ := hM
  unfold fX11_canDraw at h
  obtain ⟨-, h⟩ := chk_inv h
  obtain ⟨x1, -, h⟩ := Option.bind_eq_some_iff.mp h
  split at h
  · skip
    cases h
    exact F_μ
  · skip
    obtain ⟨x2, -, h⟩ := Option.bind_eq_some_iff.mp h
    obtain ⟨μ6, hq3, h⟩ := Option.bind_eq_some_iff.mp h
    have F_μ6 : Fr [20006, 20007, 20008] [14] μ μ6 := F_μ.tr ((frfX11_surveyAt hq3 M_μ).mo (by decide) (by decide))
    have M_μ6 : Md μ6 := F_μ6.md hM (by decide)
    obtain ⟨-, h⟩ := chk_inv h
    split at h
    · skip
      cases h
      exact F_μ6
    · skip
      split at h
      · skip
        exact F_μ6.tr ((frjX11_canDraw_62 h M_μ6).mo (by decide) (by decide))
      · skip
        exact F_μ6.tr ((frjX11_canDraw_62 h M_μ6).mo (by decide) (by decide))
def pjX11_draws_3 : ((Int × Mm) ⊕ Mm) → Mm
  | .inl (_, μ) => μ
  | .inr μ => μ
theorem frsX11_draws_3 {v1 v2 v3 v4 v5 : Int} {q : (Int × Mm)} {t : ((Int × Mm) ⊕ Mm)} (h : sX11_draws_3 20000 v1 v2 v3 v4 v5 q = some t) (hM : Md (pjX11_draws_3 (.inl q))) : Fr [20001] [] (pjX11_draws_3 (.inl q)) (pjX11_draws_3 t) := by
  obtain ⟨v6, μ⟩ := q
  have hM : Md μ := hM
  show Fr [20001] [] μ (pjX11_draws_3 t)
  have F_μ : Fr [20001] [] μ μ := Fr.rf
  have M_μ := hM
  unfold sX11_draws_3 at h
  try dsimp only at h
  split at h
  · skip
    cases h
    exact F_μ
  · skip
    obtain ⟨-, h⟩ := chk_inv h
    obtain ⟨-, h⟩ := chk_inv h
    obtain ⟨μ4, eμ4, h⟩ := lm_inv h
    have F_μ4 : Fr [20001] [] μ μ4 := F_μ.tr (Fr.row eμ4 (Md_0 M_μ) (by decide) (by decide))
    have M_μ4 : Md μ4 := F_μ4.md hM (by decide)
    cases h
    exact F_μ4
def pjX11_draws_76 : ((Int × Mm) ⊕ Mm) → Mm
  | .inl (_, μ) => μ
  | .inr μ => μ
theorem frsX11_draws_76 {v1 v2 v3 v4 v5 : Int} {q : (Int × Mm)} {t : ((Int × Mm) ⊕ Mm)} (h : sX11_draws_76 20000 v1 v2 v3 v4 v5 q = some t) (hM : Md (pjX11_draws_76 (.inl q))) : Fr [20001] [] (pjX11_draws_76 (.inl q)) (pjX11_draws_76 t) := by
  obtain ⟨v6, μ⟩ := q
  have hM : Md μ := hM
  show Fr [20001] [] μ (pjX11_draws_76 t)
  have F_μ : Fr [20001] [] μ μ := Fr.rf
  have M_μ := hM
  unfold sX11_draws_76 at h
  try dsimp only at h
  split at h
  · skip
    cases h
    exact F_μ
  · skip
    obtain ⟨x1, -, h⟩ := Option.bind_eq_some_iff.mp h
    obtain ⟨-, h⟩ := chk_inv h
    obtain ⟨-, h⟩ := chk_inv h
    obtain ⟨μ16, eμ16, h⟩ := lm_inv h
    have F_μ16 : Fr [20001] [] μ μ16 := F_μ.tr (Fr.row eμ16 (Md_0 M_μ) (by decide) (by decide))
    have M_μ16 : Md μ16 := F_μ16.md hM (by decide)
    cases h
    exact F_μ16
theorem frjX11_draws_60 {v1 v2 v3 v4 v5 s0 s1 : Int} {μ : Mm} {t : Mm} (h : jX11_draws_60 20000 v1 v2 v3 v4 v5 s0 s1 20001 μ = some t) (hM : Md μ) : Fr [20001] [] μ (t) := by
  have F_μ : Fr [20001] [] μ μ := Fr.rf
  have M_μ := hM
  unfold jX11_draws_60 at h
  obtain ⟨-, h⟩ := chk_inv h
  obtain ⟨μ18, eμ18, h⟩ := lm_inv h
  have F_μ18 : Fr [20001] [] μ μ18 := F_μ.tr (Fr.row eμ18 rfl (by decide) (by decide))
  have M_μ18 : Md μ18 := F_μ18.md hM (by decide)
  obtain ⟨-, h⟩ := chk_inv h
  obtain ⟨-, h⟩ := chk_inv h
  obtain ⟨μ21, eμ21, h⟩ := lm_inv h
  have F_μ21 : Fr [20001] [] μ μ21 := F_μ18.tr (Fr.row eμ21 (Md_0 M_μ18) (by decide) (by decide))
  have M_μ21 : Md μ21 := F_μ21.md hM (by decide)
  obtain ⟨x2, hq1, h⟩ := Option.bind_eq_some_iff.mp h
  have F_x2 := F_μ21.tr ((lop_rel pjX11_draws_76 (by decide) (fun _ _ => frsX11_draws_76) _ _ _ hq1 M_μ21).mo (R' := [20001]) (L' := []) (by decide) (by decide))
  have M_x2 := F_x2.md hM (by decide)
  obtain ⟨μ_23, hqq⟩ : ∃ z, z = x2 := ⟨x2, rfl⟩
  subst hqq
  have F_μ_23 : Fr [20001] [] μ μ_23 := F_x2
  have M_μ_23 : Md μ_23 := M_x2
  cases h
  exact F_μ_23
theorem frfX11_draws {v1 v2 v3 v4 v5 : Int} {μ : Mm} {t : Mm} (h : fX11_draws 20000 v1 v2 v3 v4 v5 μ = some t) (hM : Md μ) : Fr [20001] [] μ (t) := by
  have F_μ : Fr [20001] [] μ μ := Fr.rf
  have M_μ := hM
  unfold fX11_draws at h
  obtain ⟨x2, hq1, h⟩ := Option.bind_eq_some_iff.mp h
  have F_x2 := F_μ.tr ((lop_rel pjX11_draws_3 (by decide) (fun _ _ => frsX11_draws_3) _ _ _ hq1 M_μ).mo (R' := [20001]) (L' := []) (by decide) (by decide))
  have M_x2 := F_x2.md hM (by decide)
  obtain ⟨μ_25, hqq⟩ : ∃ z, z = x2 := ⟨x2, rfl⟩
  subst hqq
  have F_μ_25 : Fr [20001] [] μ μ_25 := F_x2
  have M_μ_25 : Md μ_25 := M_x2
  obtain ⟨-, h⟩ := chk_inv h
  obtain ⟨-, h⟩ := chk_inv h
  obtain ⟨μ28, eμ28, h⟩ := lm_inv h
  have F_μ28 : Fr [20001] [] μ μ28 := F_μ_25.tr (Fr.row eμ28 (Md_0 M_μ_25) (by decide) (by decide))
  have M_μ28 : Md μ28 := F_μ28.md hM (by decide)
  obtain ⟨-, h⟩ := chk_inv h
  split at h
  · skip
    rw [Md_0 M_μ28] at h
    exact F_μ28.tr ((frjX11_draws_60 h M_μ28).mo (by decide) (by decide))
  · skip
    rw [Md_0 M_μ28] at h
    exact F_μ28.tr ((frjX11_draws_60 h M_μ28).mo (by decide) (by decide))
theorem frfX11_draw {v1 v2 v3 v4 v5 : Int} {μ : Mm} {t : (Int × Mm)} (h : fX11_draw 20000 v1 v2 v3 v4 v5 μ = some t) (hM : Md μ) : Fr [20001, 20006, 20007, 20008] [14] μ (t.2) := by
  have F_μ : Fr [20001, 20006, 20007, 20008] [14] μ μ := Fr.rf
  have M_μ := hM
  unfold fX11_draw at h
  obtain ⟨-, h⟩ := chk_inv h
  obtain ⟨x1, -, h⟩ := Option.bind_eq_some_iff.mp h
  split at h
  · skip
    cases h
    exact F_μ
  · skip
    obtain ⟨⟨r4, μ4⟩, hq2, h⟩ := Option.bind_eq_some_iff.mp h
    dsimp only at h
    have F_μ4 : Fr [20001, 20006, 20007, 20008] [14] μ μ4 := F_μ.tr ((frfX11_canDraw hq2 M_μ).mo (by decide) (by decide))
    have M_μ4 : Md μ4 := F_μ4.md hM (by decide)
    split at h
    · skip
      cases h
      exact F_μ4
    · skip
      obtain ⟨⟨r6, μ6⟩, hq3, h⟩ := Option.bind_eq_some_iff.mp h
      dsimp only at h
      have F_μ6 : Fr [20001, 20006, 20007, 20008] [14] μ μ6 := F_μ4.tr ((frfX11_keeps hq3 M_μ4).mo (by decide) (by decide))
      have M_μ6 : Md μ6 := F_μ6.md hM (by decide)
      obtain ⟨x4, -, h⟩ := Option.bind_eq_some_iff.mp h
      obtain ⟨x5, -, h⟩ := Option.bind_eq_some_iff.mp h
      obtain ⟨μ9, hq6, h⟩ := Option.bind_eq_some_iff.mp h
      have F_μ9 : Fr [20001, 20006, 20007, 20008] [14] μ μ9 := F_μ6.tr ((frfX11_draws hq6 M_μ6).mo (by decide) (by decide))
      have M_μ9 : Md μ9 := F_μ9.md hM (by decide)
      cases h
      exact F_μ9
theorem frfX11_rivalsOf {v1 v2 : Int} {μ : Mm} {t : (Int × Mm)} (h : fX11_rivalsOf 20000 v1 v2 μ = some t) (hM : Md μ) : Fr [20009] [18] μ (t.2) := by
  have F_μ : Fr [20009] [18] μ μ := Fr.rf
  have M_μ := hM
  unfold fX11_rivalsOf at h
  obtain ⟨-, h⟩ := chk_inv h
  obtain ⟨μ6, hq1, h⟩ := Option.bind_eq_some_iff.mp h
  have F_μ6 : Fr [20009] [18] μ μ6 := F_μ.tr ((frfX11_finds hq1 M_μ).mo (by decide) (by decide))
  have M_μ6 : Md μ6 := F_μ6.md hM (by decide)
  obtain ⟨x2, -, h⟩ := Option.bind_eq_some_iff.mp h
  cases h
  exact F_μ6
theorem frfX11_rivals {v1 v2 v3 v4 : Int} {μ : Mm} {t : (Int × Mm)} (h : fX11_rivals 20000 v1 v2 v3 v4 μ = some t) (hM : Md μ) : Fr [20001, 20006, 20007, 20008, 20009] [14, 18] μ (t.2) := by
  have F_μ : Fr [20001, 20006, 20007, 20008, 20009] [14, 18] μ μ := Fr.rf
  have M_μ := hM
  unfold fX11_rivals at h
  obtain ⟨-, h⟩ := chk_inv h
  obtain ⟨⟨r2, μ2⟩, hq1, h⟩ := Option.bind_eq_some_iff.mp h
  dsimp only at h
  have F_μ2 : Fr [20001, 20006, 20007, 20008, 20009] [14, 18] μ μ2 := F_μ.tr ((frfX11_canDraw hq1 M_μ).mo (by decide) (by decide))
  have M_μ2 : Md μ2 := F_μ2.md hM (by decide)
  split at h
  · skip
    cases h
    exact F_μ2
  · skip
    obtain ⟨x2, -, h⟩ := Option.bind_eq_some_iff.mp h
    obtain ⟨μ5, hq3, h⟩ := Option.bind_eq_some_iff.mp h
    have F_μ5 : Fr [20001, 20006, 20007, 20008, 20009] [14, 18] μ μ5 := F_μ2.tr ((frfX11_survey hq3 M_μ2).mo (by decide) (by decide))
    have M_μ5 : Md μ5 := F_μ5.md hM (by decide)
    obtain ⟨μ6, hq4, h⟩ := Option.bind_eq_some_iff.mp h
    have F_μ6 : Fr [20001, 20006, 20007, 20008, 20009] [14, 18] μ μ6 := F_μ5.tr ((frfX11_draws hq4 M_μ5).mo (by decide) (by decide))
    have M_μ6 : Md μ6 := F_μ6.md hM (by decide)
    obtain ⟨⟨r7, μ7⟩, hq5, h⟩ := Option.bind_eq_some_iff.mp h
    dsimp only at h
    have F_μ7 : Fr [20001, 20006, 20007, 20008, 20009] [14, 18] μ μ7 := F_μ6.tr ((frfX11_rivalsOf hq5 M_μ6).mo (by decide) (by decide))
    have M_μ7 : Md μ7 := F_μ7.md hM (by decide)
    cases h
    exact F_μ7
def pjX11_known_46 : ((Int × Mm) ⊕ (Mm ⊕ Mm)) → Mm
  | .inl (_, μ) => μ
  | .inr (.inl μ) => μ
  | .inr (.inr μ) => μ
theorem frsX11_known_46 {v2 v3 v4 : Int} {q : (Int × Mm)} {t : ((Int × Mm) ⊕ (Mm ⊕ Mm))} (h : sX11_known_46 20000 v2 v3 v4 q = some t) (hM : Md (pjX11_known_46 (.inl q))) : Fr [20001, 20009] [18] (pjX11_known_46 (.inl q)) (pjX11_known_46 t) := by
  obtain ⟨v5, μ⟩ := q
  have hM : Md μ := hM
  show Fr [20001, 20009] [18] μ (pjX11_known_46 t)
  have F_μ : Fr [20001, 20009] [18] μ μ := Fr.rf
  have M_μ := hM
  unfold sX11_known_46 at h
  try dsimp only at h
  obtain ⟨-, h⟩ := chk_inv h
  obtain ⟨-, h⟩ := chk_inv h
  split at h
  · skip
    cases h
    exact F_μ
  · skip
    obtain ⟨μ4, hq1, h⟩ := Option.bind_eq_some_iff.mp h
    have F_μ4 : Fr [20001, 20009] [18] μ μ4 := F_μ.tr ((frfX11_draws hq1 M_μ).mo (by decide) (by decide))
    have M_μ4 : Md μ4 := F_μ4.md hM (by decide)
    obtain ⟨⟨r5, μ5⟩, hq2, h⟩ := Option.bind_eq_some_iff.mp h
    dsimp only at h
    have F_μ5 : Fr [20001, 20009] [18] μ μ5 := F_μ4.tr ((frfX11_rivalsOf hq2 M_μ4).mo (by decide) (by decide))
    have M_μ5 : Md μ5 := F_μ5.md hM (by decide)
    split at h
    · skip
      cases h
      exact F_μ5
    · skip
      cases h
      exact F_μ5
def pjX11_known_25 : ((Int × Mm) ⊕ (Mm ⊕ (Int × Mm))) → Mm
  | .inl (_, μ) => μ
  | .inr (.inl μ) => μ
  | .inr (.inr (_, μ)) => μ
theorem frsX11_known_25 {v2 v3 : Int} {q : (Int × Mm)} {t : ((Int × Mm) ⊕ (Mm ⊕ (Int × Mm)))} (h : sX11_known_25 20000 v2 v3 q = some t) (hM : Md (pjX11_known_25 (.inl q))) : Fr [20001, 20009] [18] (pjX11_known_25 (.inl q)) (pjX11_known_25 t) := by
  obtain ⟨v4, μ⟩ := q
  have hM : Md μ := hM
  show Fr [20001, 20009] [18] μ (pjX11_known_25 t)
  have F_μ : Fr [20001, 20009] [18] μ μ := Fr.rf
  have M_μ := hM
  unfold sX11_known_25 at h
  try dsimp only at h
  obtain ⟨-, h⟩ := chk_inv h
  obtain ⟨-, h⟩ := chk_inv h
  split at h
  · skip
    cases h
    exact F_μ
  · skip
    split at h
    · skip
      cases h
      exact F_μ
    · skip
      obtain ⟨x2, hq1, h⟩ := Option.bind_eq_some_iff.mp h
      have F_x2 := F_μ.tr ((lop_rel pjX11_known_46 (by decide) (fun _ _ => frsX11_known_46) _ _ _ hq1 M_μ).mo (R' := [20001, 20009]) (L' := [18]) (by decide) (by decide))
      have M_x2 := F_x2.md hM (by decide)
      rcases x2 with μ_12 | μ_13
      · skip
        dsimp only at h
        have F_μ_12 : Fr [20001, 20009] [18] μ μ_12 := F_x2
        have M_μ_12 : Md μ_12 := M_x2
        cases h
        exact F_μ_12
      · skip
        dsimp only at h
        have F_μ_13 : Fr [20001, 20009] [18] μ μ_13 := F_x2
        have M_μ_13 : Md μ_13 := M_x2
        cases h
        exact F_μ_13
theorem frfX11_known {v1 v2 : Int} {μ : Mm} {t : (Int × Mm)} (h : fX11_known 20000 v1 v2 μ = some t) (hM : Md μ) : Fr [20001, 20006, 20007, 20008, 20009] [14, 18] μ (t.2) := by
  have F_μ : Fr [20001, 20006, 20007, 20008, 20009] [14, 18] μ μ := Fr.rf
  have M_μ := hM
  unfold fX11_known at h
  obtain ⟨-, h⟩ := chk_inv h
  obtain ⟨x1, -, h⟩ := Option.bind_eq_some_iff.mp h
  split at h
  · skip
    cases h
    exact F_μ
  · skip
    obtain ⟨x2, -, h⟩ := Option.bind_eq_some_iff.mp h
    obtain ⟨μ18, hq3, h⟩ := Option.bind_eq_some_iff.mp h
    have F_μ18 : Fr [20001, 20006, 20007, 20008, 20009] [14, 18] μ μ18 := F_μ.tr ((frfX11_survey hq3 M_μ).mo (by decide) (by decide))
    have M_μ18 : Md μ18 := F_μ18.md hM (by decide)
    obtain ⟨x5, hq4, h⟩ := Option.bind_eq_some_iff.mp h
    have F_x5 := F_μ18.tr ((lop_rel pjX11_known_25 (by decide) (fun _ _ => frsX11_known_25) _ _ _ hq4 M_μ18).mo (R' := [20001, 20006, 20007, 20008, 20009]) (L' := [14, 18]) (by decide) (by decide))
    have M_x5 := F_x5.md hM (by decide)
    rcases x5 with μ_20 | ⟨v4_21, μ_21⟩
    · skip
      dsimp only at h
      have F_μ_20 : Fr [20001, 20006, 20007, 20008, 20009] [14, 18] μ μ_20 := F_x5
      have M_μ_20 : Md μ_20 := M_x5
      cases h
      exact F_μ_20
    · skip
      dsimp only at h
      have F_μ_21 : Fr [20001, 20006, 20007, 20008, 20009] [14, 18] μ μ_21 := F_x5
      have M_μ_21 : Md μ_21 := M_x5
      cases h
      exact F_μ_21
theorem frfX11_drawn {v1 : Int} {μ : Mm} {t : (Int × Mm)} (h : fX11_drawn 20000 v1 μ = some t) (hM : Md μ) : Fr [] [29] μ (t.2) := by
  have F_μ : Fr [] [29] μ μ := Fr.rf
  have M_μ := hM
  unfold fX11_drawn at h
  obtain ⟨-, h⟩ := chk_inv h
  obtain ⟨μ2, eμ2, h⟩ := lm_inv h
  have F_μ2 : Fr [] [29] μ μ2 := F_μ.tr (Fr.fld eμ2 (by decide))
  have M_μ2 : Md μ2 := F_μ2.md hM (by decide)
  obtain ⟨-, h⟩ := chk_inv h
  cases h
  exact F_μ2
def pjX11_scrawls_20 : ((Int × Mm) ⊕ Mm) → Mm
  | .inl (_, μ) => μ
  | .inr μ => μ
theorem frsX11_scrawls_20 {v4 v6 v7 : Int} {q : (Int × Mm)} {t : ((Int × Mm) ⊕ Mm)} (h : sX11_scrawls_20 20000 v4 v6 v7 q = some t) (hM : Md (pjX11_scrawls_20 (.inl q))) : Fr [20001] [29] (pjX11_scrawls_20 (.inl q)) (pjX11_scrawls_20 t) := by
  obtain ⟨v8, μ⟩ := q
  have hM : Md μ := hM
  show Fr [20001] [29] μ (pjX11_scrawls_20 t)
  have F_μ : Fr [20001] [29] μ μ := Fr.rf
  have M_μ := hM
  unfold sX11_scrawls_20 at h
  try dsimp only at h
  split at h
  · skip
    cases h
    exact F_μ
  · skip
    obtain ⟨-, h⟩ := chk_inv h
    obtain ⟨-, h⟩ := chk_inv h
    obtain ⟨⟨r4, μ4⟩, hq1, h⟩ := Option.bind_eq_some_iff.mp h
    dsimp only at h
    have F_μ4 : Fr [20001] [29] μ μ4 := F_μ.tr ((frfX11_drawn hq1 M_μ).mo (by decide) (by decide))
    have M_μ4 : Md μ4 := F_μ4.md hM (by decide)
    obtain ⟨y5, -, h⟩ := lt_inv h
    split at h
    · skip
      split at h
      · skip
        obtain ⟨-, h⟩ := chk_inv h
        obtain ⟨μ9, eμ9, h⟩ := lm_inv h
        have F_μ9 : Fr [20001] [29] μ μ9 := F_μ4.tr (Fr.row eμ9 (Md_0 M_μ4) (by decide) (by decide))
        have M_μ9 : Md μ9 := F_μ9.md hM (by decide)
        cases h
        exact F_μ9
      · skip
        obtain ⟨-, h⟩ := chk_inv h
        obtain ⟨μ11, eμ11, h⟩ := lm_inv h
        have F_μ11 : Fr [20001] [29] μ μ11 := F_μ4.tr (Fr.row eμ11 (Md_0 M_μ4) (by decide) (by decide))
        have M_μ11 : Md μ11 := F_μ11.md hM (by decide)
        cases h
        exact F_μ11
    · skip
      obtain ⟨-, h⟩ := chk_inv h
      obtain ⟨μ13, eμ13, h⟩ := lm_inv h
      have F_μ13 : Fr [20001] [29] μ μ13 := F_μ4.tr (Fr.row eμ13 (Md_0 M_μ4) (by decide) (by decide))
      have M_μ13 : Md μ13 := F_μ13.md hM (by decide)
      cases h
      exact F_μ13
theorem frfX11_scrawls {v1 v2 v3 v4 v5 v6 v7 : Int} {μ : Mm} {t : Mm} (h : fX11_scrawls 20000 v1 v2 v3 v4 v5 v6 v7 μ = some t) (hM : Md μ) : Fr [20001] [29] μ (t) := by
  have F_μ : Fr [20001] [29] μ μ := Fr.rf
  have M_μ := hM
  unfold fX11_scrawls at h
  obtain ⟨-, h⟩ := chk_inv h
  obtain ⟨μ15, hq1, h⟩ := Option.bind_eq_some_iff.mp h
  have F_μ15 : Fr [20001] [29] μ μ15 := F_μ.tr ((frfX11_draws hq1 M_μ).mo (by decide) (by decide))
  have M_μ15 : Md μ15 := F_μ15.md hM (by decide)
  obtain ⟨μ16, eμ16, h⟩ := lm_inv h
  have F_μ16 : Fr [20001] [29] μ μ16 := F_μ15.tr (Fr.fld eμ16 (by decide))
  have M_μ16 : Md μ16 := F_μ16.md hM (by decide)
  obtain ⟨x3, hq2, h⟩ := Option.bind_eq_some_iff.mp h
  have F_x3 := F_μ16.tr ((lop_rel pjX11_scrawls_20 (by decide) (fun _ _ => frsX11_scrawls_20) _ _ _ hq2 M_μ16).mo (R' := [20001]) (L' := [29]) (by decide) (by decide))
  have M_x3 := F_x3.md hM (by decide)
  obtain ⟨μ_18, hqq⟩ : ∃ z, z = x3 := ⟨x3, rfl⟩
  subst hqq
  have F_μ_18 : Fr [20001] [29] μ μ_18 := F_x3
  have M_μ_18 : Md μ_18 := M_x3
  obtain ⟨-, h⟩ := chk_inv h
  obtain ⟨μ20, eμ20, h⟩ := lm_inv h
  have F_μ20 : Fr [20001] [29] μ μ20 := F_μ_18.tr (Fr.row eμ20 (Md_0 M_μ_18) (by decide) (by decide))
  have M_μ20 : Md μ20 := F_μ20.md hM (by decide)
  cases h
  exact F_μ20
theorem frfX11_scrawl {v1 v2 v3 v4 v5 v6 v7 : Int} {μ : Mm} {t : (Int × Mm)} (h : fX11_scrawl 20000 v1 v2 v3 v4 v5 v6 v7 μ = some t) (hM : Md μ) : Fr [20001, 20006, 20007, 20008] [14, 29] μ (t.2) := by
  have F_μ : Fr [20001, 20006, 20007, 20008] [14, 29] μ μ := Fr.rf
  have M_μ := hM
  unfold fX11_scrawl at h
  obtain ⟨-, h⟩ := chk_inv h
  obtain ⟨x1, -, h⟩ := Option.bind_eq_some_iff.mp h
  split at h
  · skip
    cases h
    exact F_μ
  · skip
    split at h
    · skip
      cases h
      exact F_μ
    · skip
      obtain ⟨⟨r5, μ5⟩, hq2, h⟩ := Option.bind_eq_some_iff.mp h
      dsimp only at h
      have F_μ5 : Fr [20001, 20006, 20007, 20008] [14, 29] μ μ5 := F_μ.tr ((frfX11_canDraw hq2 M_μ).mo (by decide) (by decide))
      have M_μ5 : Md μ5 := F_μ5.md hM (by decide)
      split at h
      · skip
        cases h
        exact F_μ5
      · skip
        obtain ⟨⟨r7, μ7⟩, hq3, h⟩ := Option.bind_eq_some_iff.mp h
        dsimp only at h
        have F_μ7 : Fr [20001, 20006, 20007, 20008] [14, 29] μ μ7 := F_μ5.tr ((frfX11_keeps hq3 M_μ5).mo (by decide) (by decide))
        have M_μ7 : Md μ7 := F_μ7.md hM (by decide)
        obtain ⟨x4, -, h⟩ := Option.bind_eq_some_iff.mp h
        obtain ⟨x5, -, h⟩ := Option.bind_eq_some_iff.mp h
        obtain ⟨μ10, hq6, h⟩ := Option.bind_eq_some_iff.mp h
        have F_μ10 : Fr [20001, 20006, 20007, 20008] [14, 29] μ μ10 := F_μ7.tr ((frfX11_scrawls hq6 M_μ7).mo (by decide) (by decide))
        have M_μ10 : Md μ10 := F_μ10.md hM (by decide)
        cases h
        exact F_μ10
def pjX11_found_57 : ((Int × Int × Mm) ⊕ (Int × Mm)) → Mm
  | .inl (_, _, μ) => μ
  | .inr (_, μ) => μ
theorem frjX11_found_103 {v2 v3 v4 v5 v6 v7 v8 v9 v10 v11 s0 : Int} {μ : Mm} {t : ((Int × Int × Mm) ⊕ (Int × Mm))} (h : jX11_found_103 20000 v2 v3 v4 v5 v6 v7 v8 v9 v10 v11 s0 μ = some t) (hM : Md μ) : Fr [20009] [18] μ (pjX11_found_57 t) := by
  have F_μ : Fr [20009] [18] μ μ := Fr.rf
  have M_μ := hM
  unfold jX11_found_103 at h
  split at h
  · skip
    cases h
    exact F_μ
  · skip
    split at h
    · skip
      cases h
      exact F_μ
    · skip
      obtain ⟨-, h⟩ := chk_inv h
      obtain ⟨⟨r4, μ4⟩, hq1, h⟩ := Option.bind_eq_some_iff.mp h
      dsimp only at h
      have F_μ4 : Fr [20009] [18] μ μ4 := F_μ.tr ((frfX11_rivalsOf hq1 M_μ).mo (by decide) (by decide))
      have M_μ4 : Md μ4 := F_μ4.md hM (by decide)
      split at h
      · skip
        cases h
        exact F_μ4
      · skip
        cases h
        exact F_μ4
theorem frsX11_found_57 {v2 v3 v4 v5 v6 v7 v8 v9 : Int} {q : (Int × Int × Mm)} {t : ((Int × Int × Mm) ⊕ (Int × Mm))} (h : sX11_found_57 20000 v2 v3 v4 v5 v6 v7 v8 v9 q = some t) (hM : Md (pjX11_found_57 (.inl q))) : Fr [20001, 20009] [18, 29] (pjX11_found_57 (.inl q)) (pjX11_found_57 t) := by
  obtain ⟨v10, v11, μ⟩ := q
  have hM : Md μ := hM
  show Fr [20001, 20009] [18, 29] μ (pjX11_found_57 t)
  have F_μ : Fr [20001, 20009] [18, 29] μ μ := Fr.rf
  have M_μ := hM
  unfold sX11_found_57 at h
  try dsimp only at h
  split at h
  · skip
    cases h
    exact F_μ
  · skip
    obtain ⟨-, h⟩ := chk_inv h
    obtain ⟨μ8, hq1, h⟩ := Option.bind_eq_some_iff.mp h
    have F_μ8 : Fr [20001, 20009] [18, 29] μ μ8 := F_μ.tr ((frfX11_scrawls hq1 M_μ).mo (by decide) (by decide))
    have M_μ8 : Md μ8 := F_μ8.md hM (by decide)
    obtain ⟨x2, -, h⟩ := Option.bind_eq_some_iff.mp h
    split at h
    · skip
      exact F_μ8.tr ((frjX11_found_103 h M_μ8).mo (by decide) (by decide))
    · skip
      exact F_μ8.tr ((frjX11_found_103 h M_μ8).mo (by decide) (by decide))
theorem frfX11_found {v1 v2 v3 v4 v5 v6 v7 v8 : Int} {μ : Mm} {t : (Int × Mm)} (h : fX11_found 20000 v1 v2 v3 v4 v5 v6 v7 v8 μ = some t) (hM : Md μ) : Fr [20001, 20006, 20007, 20008, 20009] [14, 18, 29] μ (t.2) := by
  have F_μ : Fr [20001, 20006, 20007, 20008, 20009] [14, 18, 29] μ μ := Fr.rf
  have M_μ := hM
  unfold fX11_found at h
  split at h
  · skip
    cases h
    exact F_μ
  · skip
    split at h
    · skip
      cases h
      exact F_μ
    · skip
      obtain ⟨-, h⟩ := chk_inv h
      obtain ⟨⟨r14, μ14⟩, hq1, h⟩ := Option.bind_eq_some_iff.mp h
      dsimp only at h
      have F_μ14 : Fr [20001, 20006, 20007, 20008, 20009] [14, 18, 29] μ μ14 := F_μ.tr ((frfX11_canDraw hq1 M_μ).mo (by decide) (by decide))
      have M_μ14 : Md μ14 := F_μ14.md hM (by decide)
      split at h
      · skip
        cases h
        exact F_μ14
      · skip
        obtain ⟨x2, -, h⟩ := Option.bind_eq_some_iff.mp h
        obtain ⟨μ17, hq3, h⟩ := Option.bind_eq_some_iff.mp h
        have F_μ17 : Fr [20001, 20006, 20007, 20008, 20009] [14, 18, 29] μ μ17 := F_μ14.tr ((frfX11_survey hq3 M_μ14).mo (by decide) (by decide))
        have M_μ17 : Md μ17 := F_μ17.md hM (by decide)
        obtain ⟨x5, hq4, h⟩ := Option.bind_eq_some_iff.mp h
        have F_x5 := F_μ17.tr ((lop_rel pjX11_found_57 (by decide) (fun _ _ => frsX11_found_57) _ _ _ hq4 M_μ17).mo (R' := [20001, 20006, 20007, 20008, 20009]) (L' := [14, 18, 29]) (by decide) (by decide))
        have M_x5 := F_x5.md hM (by decide)
        obtain ⟨v10_19, μ_19⟩ := x5
        dsimp only at h
        have F_μ_19 : Fr [20001, 20006, 20007, 20008, 20009] [14, 18, 29] μ μ_19 := F_x5
        have M_μ_19 : Md μ_19 := M_x5
        cases h
        exact F_μ_19
def pjX11_guardsOf_8 : ((Int × Mm) ⊕ Mm) → Mm
  | .inl (_, μ) => μ
  | .inr μ => μ
theorem frsX11_guardsOf_8 {v1 v2 : Int} {q : (Int × Mm)} {t : ((Int × Mm) ⊕ Mm)} (h : sX11_guardsOf_8 20000 v1 v2 q = some t) (hM : Md (pjX11_guardsOf_8 (.inl q))) : Fr [20017] [] (pjX11_guardsOf_8 (.inl q)) (pjX11_guardsOf_8 t) := by
  obtain ⟨v3, μ⟩ := q
  have hM : Md μ := hM
  show Fr [20017] [] μ (pjX11_guardsOf_8 t)
  have F_μ : Fr [20017] [] μ μ := Fr.rf
  have M_μ := hM
  unfold sX11_guardsOf_8 at h
  try dsimp only at h
  split at h
  · skip
    cases h
    exact F_μ
  · skip
    obtain ⟨-, h⟩ := chk_inv h
    obtain ⟨-, h⟩ := chk_inv h
    obtain ⟨μ4, eμ4, h⟩ := lm_inv h
    have F_μ4 : Fr [20017] [] μ μ4 := F_μ.tr (Fr.row eμ4 (Md_31 M_μ) (by decide) (by decide))
    have M_μ4 : Md μ4 := F_μ4.md hM (by decide)
    cases h
    exact F_μ4
def pjX11_guardsOf_54 : ((Int × Mm) ⊕ Mm) → Mm
  | .inl (_, μ) => μ
  | .inr μ => μ
theorem frsX11_guardsOf_54 {v1 v2 v3 : Int} {q : (Int × Mm)} {t : ((Int × Mm) ⊕ Mm)} (h : sX11_guardsOf_54 20000 v1 v2 v3 q = some t) (hM : Md (pjX11_guardsOf_54 (.inl q))) : Fr [20016] [] (pjX11_guardsOf_54 (.inl q)) (pjX11_guardsOf_54 t) := by
  obtain ⟨v4, μ⟩ := q
  have hM : Md μ := hM
  show Fr [20016] [] μ (pjX11_guardsOf_54 t)
  have F_μ : Fr [20016] [] μ μ := Fr.rf
  have M_μ := hM
  unfold sX11_guardsOf_54 at h
  try dsimp only at h
  split at h
  · skip
    cases h
    exact F_μ
  · skip
    obtain ⟨-, h⟩ := chk_inv h
    obtain ⟨-, h⟩ := chk_inv h
    obtain ⟨μ8, eμ8, h⟩ := lm_inv h
    have F_μ8 : Fr [20016] [] μ μ8 := F_μ.tr (Fr.row eμ8 (Md_30 M_μ) (by decide) (by decide))
    have M_μ8 : Md μ8 := F_μ8.md hM (by decide)
    cases h
    exact F_μ8
def pjX11_guardsOf_81 : ((Int × Mm) ⊕ Mm) → Mm
  | .inl (_, μ) => μ
  | .inr μ => μ
theorem frjX11_guardsOf_104 {v1 v2 v3 v4 : Int} {μ : Mm} {t : ((Int × Mm) ⊕ Mm)} (h : jX11_guardsOf_104 20000 v1 v2 v3 v4 μ = some t) (hM : Md μ) : Fr [20016] [] μ (pjX11_guardsOf_81 t) := by
  have F_μ : Fr [20016] [] μ μ := Fr.rf
  have M_μ := hM
  unfold jX11_guardsOf_104 at h
  obtain ⟨-, h⟩ := chk_inv h
  obtain ⟨-, h⟩ := chk_inv h
  obtain ⟨μ11, eμ11, h⟩ := lm_inv h
  have F_μ11 : Fr [20016] [] μ μ11 := F_μ.tr (Fr.row eμ11 (Md_30 M_μ) (by decide) (by decide))
  have M_μ11 : Md μ11 := F_μ11.md hM (by decide)
  cases h
  exact F_μ11
theorem frsX11_guardsOf_81 {v1 v2 v3 : Int} {q : (Int × Mm)} {t : ((Int × Mm) ⊕ Mm)} (h : sX11_guardsOf_81 20000 v1 v2 v3 q = some t) (hM : Md (pjX11_guardsOf_81 (.inl q))) : Fr [20016] [] (pjX11_guardsOf_81 (.inl q)) (pjX11_guardsOf_81 t) := by
  obtain ⟨v4, μ⟩ := q
  have hM : Md μ := hM
  show Fr [20016] [] μ (pjX11_guardsOf_81 t)
  have F_μ : Fr [20016] [] μ μ := Fr.rf
  have M_μ := hM
  unfold sX11_guardsOf_81 at h
  try dsimp only at h
  split at h
  · skip
    cases h
    exact F_μ
  · skip
    split at h
    · skip
      exact F_μ.tr ((frjX11_guardsOf_104 h M_μ).mo (by decide) (by decide))
    · skip
      obtain ⟨-, h⟩ := chk_inv h
      obtain ⟨x1, -, h⟩ := Option.bind_eq_some_iff.mp h
      split at h
      · skip
        cases h
        exact F_μ
      · skip
        exact F_μ.tr ((frjX11_guardsOf_104 h M_μ).mo (by decide) (by decide))
def pjX11_guardsOf_28 : ((Int × Mm) ⊕ Mm) → Mm
  | .inl (_, μ) => μ
  | .inr μ => μ
theorem frsX11_guardsOf_28 {v1 v2 : Int} {q : (Int × Mm)} {t : ((Int × Mm) ⊕ Mm)} (h : sX11_guardsOf_28 20000 v1 v2 q = some t) (hM : Md (pjX11_guardsOf_28 (.inl q))) : Fr [20016, 20017] [] (pjX11_guardsOf_28 (.inl q)) (pjX11_guardsOf_28 t) := by
  obtain ⟨v3, μ⟩ := q
  have hM : Md μ := hM
  show Fr [20016, 20017] [] μ (pjX11_guardsOf_28 t)
  have F_μ : Fr [20016, 20017] [] μ μ := Fr.rf
  have M_μ := hM
  unfold sX11_guardsOf_28 at h
  try dsimp only at h
  split at h
  · skip
    cases h
    exact F_μ
  · skip
    obtain ⟨-, h⟩ := chk_inv h
    obtain ⟨-, h⟩ := chk_inv h
    obtain ⟨μ20, eμ20, h⟩ := lm_inv h
    have F_μ20 : Fr [20016, 20017] [] μ μ20 := F_μ.tr (Fr.row eμ20 (Md_31 M_μ) (by decide) (by decide))
    have M_μ20 : Md μ20 := F_μ20.md hM (by decide)
    obtain ⟨x2, hq1, h⟩ := Option.bind_eq_some_iff.mp h
    have F_x2 := F_μ20.tr ((lop_rel pjX11_guardsOf_54 (by decide) (fun _ _ => frsX11_guardsOf_54) _ _ _ hq1 M_μ20).mo (R' := [20016, 20017]) (L' := []) (by decide) (by decide))
    have M_x2 := F_x2.md hM (by decide)
    obtain ⟨μ_22, hqq⟩ : ∃ z, z = x2 := ⟨x2, rfl⟩
    subst hqq
    have F_μ_22 : Fr [20016, 20017] [] μ μ_22 := F_x2
    have M_μ_22 : Md μ_22 := M_x2
    obtain ⟨x4, hq3, h⟩ := Option.bind_eq_some_iff.mp h
    have F_x4 := F_μ_22.tr ((lop_rel pjX11_guardsOf_81 (by decide) (fun _ _ => frsX11_guardsOf_81) _ _ _ hq3 M_μ_22).mo (R' := [20016, 20017]) (L' := []) (by decide) (by decide))
    have M_x4 := F_x4.md hM (by decide)
    obtain ⟨μ_24, hqq⟩ : ∃ z, z = x4 := ⟨x4, rfl⟩
    subst hqq
    have F_μ_24 : Fr [20016, 20017] [] μ μ_24 := F_x4
    have M_μ_24 : Md μ_24 := M_x4
    cases h
    exact F_μ_24
theorem frfX11_guardsOf {v1 : Int} {μ : Mm} {t : Mm} (h : fX11_guardsOf 20000 v1 μ = some t) (hM : Md μ) : Fr [20016, 20017] [] μ (t) := by
  have F_μ : Fr [20016, 20017] [] μ μ := Fr.rf
  have M_μ := hM
  unfold fX11_guardsOf at h
  obtain ⟨-, h⟩ := chk_inv h
  obtain ⟨x1, -, h⟩ := Option.bind_eq_some_iff.mp h
  obtain ⟨x3, hq2, h⟩ := Option.bind_eq_some_iff.mp h
  have F_x3 := F_μ.tr ((lop_rel pjX11_guardsOf_8 (by decide) (fun _ _ => frsX11_guardsOf_8) _ _ _ hq2 M_μ).mo (R' := [20016, 20017]) (L' := []) (by decide) (by decide))
  have M_x3 := F_x3.md hM (by decide)
  obtain ⟨μ_28, hqq⟩ : ∃ z, z = x3 := ⟨x3, rfl⟩
  subst hqq
  have F_μ_28 : Fr [20016, 20017] [] μ μ_28 := F_x3
  have M_μ_28 : Md μ_28 := M_x3
  obtain ⟨x5, hq4, h⟩ := Option.bind_eq_some_iff.mp h
  have F_x5 := F_μ_28.tr ((lop_rel pjX11_guardsOf_28 (by decide) (fun _ _ => frsX11_guardsOf_28) _ _ _ hq4 M_μ_28).mo (R' := [20016, 20017]) (L' := []) (by decide) (by decide))
  have M_x5 := F_x5.md hM (by decide)
  obtain ⟨μ_30, hqq⟩ : ∃ z, z = x5 := ⟨x5, rfl⟩
  subst hqq
  have F_μ_30 : Fr [20016, 20017] [] μ μ_30 := F_x5
  have M_μ_30 : Md μ_30 := M_x5
  cases h
  exact F_μ_30
theorem frfX11_fewest {v1 : Int} {μ : Mm} {t : (Int × Mm)} (h : fX11_fewest 20000 v1 μ = some t) (hM : Md μ) : Fr [20018] [] μ (t.2) := by
  have F_μ : Fr [20018] [] μ μ := Fr.rf
  have M_μ := hM
  unfold fX11_fewest at h
  obtain ⟨x1, -, h⟩ := Option.bind_eq_some_iff.mp h
  rcases x1 with _ | ⟨v2_23, v3_23, v4_23, v5_23⟩
  · skip
    dsimp only at h
    cases h
    exact F_μ
  · skip
    dsimp only at h
    obtain ⟨-, h⟩ := chk_inv h
    obtain ⟨-, h⟩ := chk_inv h
    obtain ⟨μ26, eμ26, h⟩ := lm_inv h
    have F_μ26 : Fr [20018] [] μ μ26 := F_μ.tr (Fr.row eμ26 (Md_32 M_μ) (by decide) (by decide))
    have M_μ26 : Md μ26 := F_μ26.md hM (by decide)
    obtain ⟨-, h⟩ := chk_inv h
    obtain ⟨μ28, eμ28, h⟩ := lm_inv h
    have F_μ28 : Fr [20018] [] μ μ28 := F_μ26.tr (Fr.row eμ28 (Md_32 M_μ26) (by decide) (by decide))
    have M_μ28 : Md μ28 := F_μ28.md hM (by decide)
    obtain ⟨-, h⟩ := chk_inv h
    obtain ⟨μ30, eμ30, h⟩ := lm_inv h
    have F_μ30 : Fr [20018] [] μ μ30 := F_μ28.tr (Fr.row eμ30 (Md_32 M_μ28) (by decide) (by decide))
    have M_μ30 : Md μ30 := F_μ30.md hM (by decide)
    cases h
    exact F_μ30
theorem frfX11_guards {v1 v2 : Int} {μ : Mm} {t : (Int × Mm)} (h : fX11_guards 20000 v1 v2 μ = some t) (hM : Md μ) : Fr [20016, 20017, 20018] [] μ (t.2) := by
  have F_μ : Fr [20016, 20017, 20018] [] μ μ := Fr.rf
  have M_μ := hM
  unfold fX11_guards at h
  obtain ⟨-, h⟩ := chk_inv h
  obtain ⟨x1, -, h⟩ := Option.bind_eq_some_iff.mp h
  split at h
  · skip
    cases h
    exact F_μ
  · skip
    obtain ⟨x2, -, h⟩ := Option.bind_eq_some_iff.mp h
    obtain ⟨μ5, hq3, h⟩ := Option.bind_eq_some_iff.mp h
    have F_μ5 : Fr [20016, 20017, 20018] [] μ μ5 := F_μ.tr ((frfX11_guardsOf hq3 M_μ).mo (by decide) (by decide))
    have M_μ5 : Md μ5 := F_μ5.md hM (by decide)
    obtain ⟨x4, -, h⟩ := Option.bind_eq_some_iff.mp h
    obtain ⟨⟨r7, μ7⟩, hq5, h⟩ := Option.bind_eq_some_iff.mp h
    dsimp only at h
    have F_μ7 : Fr [20016, 20017, 20018] [] μ μ7 := F_μ5.tr ((frfX11_fewest hq5 M_μ5).mo (by decide) (by decide))
    have M_μ7 : Md μ7 := F_μ7.md hM (by decide)
    split at h
    · skip
      cases h
      exact F_μ7
    · skip
      split at h
      · skip
        cases h
        exact F_μ7
      · skip
        split at h
        · skip
          cases h
          exact F_μ7
        · skip
          obtain ⟨-, h⟩ := chk_inv h
          cases h
          exact F_μ7
def pjX11_lacks_50 : ((Int × Int × Mm) ⊕ (Int × Mm)) → Mm
  | .inl (_, _, μ) => μ
  | .inr (_, μ) => μ
theorem frsX11_lacks_50 {v2 v3 v4 v5 v6 : Int} {q : (Int × Int × Mm)} {t : ((Int × Int × Mm) ⊕ (Int × Mm))} (h : sX11_lacks_50 20000 v2 v3 v4 v5 v6 q = some t) (hM : Md (pjX11_lacks_50 (.inl q))) : Fr [20001, 20006, 20007, 20008] [14] (pjX11_lacks_50 (.inl q)) (pjX11_lacks_50 t) := by
  obtain ⟨v7, v8, μ⟩ := q
  have hM : Md μ := hM
  show Fr [20001, 20006, 20007, 20008] [14] μ (pjX11_lacks_50 t)
  have F_μ : Fr [20001, 20006, 20007, 20008] [14] μ μ := Fr.rf
  have M_μ := hM
  unfold sX11_lacks_50 at h
  try dsimp only at h
  split at h
  · skip
    cases h
    exact F_μ
  · skip
    split at h
    · skip
      cases h
      exact F_μ
    · skip
      obtain ⟨-, h⟩ := chk_inv h
      obtain ⟨-, h⟩ := chk_inv h
      obtain ⟨μ5, eμ5, h⟩ := lm_inv h
      have F_μ5 : Fr [20001, 20006, 20007, 20008] [14] μ μ5 := F_μ.tr (Fr.row eμ5 (Md_0 M_μ) (by decide) (by decide))
      have M_μ5 : Md μ5 := F_μ5.md hM (by decide)
      obtain ⟨μ6, hq1, h⟩ := Option.bind_eq_some_iff.mp h
      have F_μ6 : Fr [20001, 20006, 20007, 20008] [14] μ μ6 := F_μ5.tr ((frfX11_surveyAt hq1 M_μ5).mo (by decide) (by decide))
      have M_μ6 : Md μ6 := F_μ6.md hM (by decide)
      obtain ⟨x2, -, h⟩ := Option.bind_eq_some_iff.mp h
      obtain ⟨x3, -, h⟩ := Option.bind_eq_some_iff.mp h
      split at h
      · skip
        cases h
        exact F_μ6
      · skip
        cases h
        exact F_μ6
theorem frfX11_lacks {v1 v2 v3 v4 : Int} {μ : Mm} {t : (Int × Mm)} (h : fX11_lacks 20000 v1 v2 v3 v4 μ = some t) (hM : Md μ) : Fr [20001, 20006, 20007, 20008] [14] μ (t.2) := by
  have F_μ : Fr [20001, 20006, 20007, 20008] [14] μ μ := Fr.rf
  have M_μ := hM
  unfold fX11_lacks at h
  obtain ⟨-, h⟩ := chk_inv h
  obtain ⟨x1, -, h⟩ := Option.bind_eq_some_iff.mp h
  split at h
  · skip
    cases h
    exact F_μ
  · skip
    obtain ⟨x2, -, h⟩ := Option.bind_eq_some_iff.mp h
    split at h
    · skip
      cases h
      exact F_μ
    · skip
      obtain ⟨x3, -, h⟩ := Option.bind_eq_some_iff.mp h
      obtain ⟨-, h⟩ := chk_inv h
      obtain ⟨y17, -, h⟩ := lt_inv h
      obtain ⟨x5, hq4, h⟩ := Option.bind_eq_some_iff.mp h
      have F_x5 := F_μ.tr ((lop_rel pjX11_lacks_50 (by decide) (fun _ _ => frsX11_lacks_50) _ _ _ hq4 M_μ).mo (R' := [20001, 20006, 20007, 20008]) (L' := [14]) (by decide) (by decide))
      have M_x5 := F_x5.md hM (by decide)
      obtain ⟨v7_19, μ_19⟩ := x5
      dsimp only at h
      have F_μ_19 : Fr [20001, 20006, 20007, 20008] [14] μ μ_19 := F_x5
      have M_μ_19 : Md μ_19 := M_x5
      obtain ⟨-, h⟩ := chk_inv h
      obtain ⟨μ21, eμ21, h⟩ := lm_inv h
      have F_μ21 : Fr [20001, 20006, 20007, 20008] [14] μ μ21 := F_μ_19.tr (Fr.row eμ21 (Md_0 M_μ_19) (by decide) (by decide))
      have M_μ21 : Md μ21 := F_μ21.md hM (by decide)
      cases h
      exact F_μ21
def pjX11_shift_38 : ((Int × Mm) ⊕ Mm) → Mm
  | .inl (_, μ) => μ
  | .inr μ => μ
theorem frsX11_shift_38 {v2 v3 v4 : Int} {q : (Int × Mm)} {t : ((Int × Mm) ⊕ Mm)} (h : sX11_shift_38 20000 v2 v3 v4 q = some t) (hM : Md (pjX11_shift_38 (.inl q))) : Fr [20019] [] (pjX11_shift_38 (.inl q)) (pjX11_shift_38 t) := by
  obtain ⟨v5, μ⟩ := q
  have hM : Md μ := hM
  show Fr [20019] [] μ (pjX11_shift_38 t)
  have F_μ : Fr [20019] [] μ μ := Fr.rf
  have M_μ := hM
  unfold sX11_shift_38 at h
  try dsimp only at h
  split at h
  · skip
    cases h
    exact F_μ
  · skip
    obtain ⟨-, h⟩ := chk_inv h
    obtain ⟨-, h⟩ := chk_inv h
    obtain ⟨-, h⟩ := chk_inv h
    obtain ⟨μ5, eμ5, h⟩ := lm_inv h
    have F_μ5 : Fr [20019] [] μ μ5 := F_μ.tr (Fr.row eμ5 (Md_33 M_μ) (by decide) (by decide))
    have M_μ5 : Md μ5 := F_μ5.md hM (by decide)
    cases h
    exact F_μ5
theorem frfX11_shift {v1 v2 v3 : Int} {μ : Mm} {t : (Int × Mm)} (h : fX11_shift 20000 v1 v2 v3 μ = some t) (hM : Md μ) : Fr [20001, 20006, 20007, 20008, 20019] [14] μ (t.2) := by
  have F_μ : Fr [20001, 20006, 20007, 20008, 20019] [14] μ μ := Fr.rf
  have M_μ := hM
  unfold fX11_shift at h
  obtain ⟨-, h⟩ := chk_inv h
  obtain ⟨x1, -, h⟩ := Option.bind_eq_some_iff.mp h
  split at h
  · skip
    cases h
    exact F_μ
  · skip
    split at h
    · skip
      cases h
      exact F_μ
    · skip
      obtain ⟨x2, -, h⟩ := Option.bind_eq_some_iff.mp h
      obtain ⟨μ17, hq3, h⟩ := Option.bind_eq_some_iff.mp h
      have F_μ17 : Fr [20001, 20006, 20007, 20008, 20019] [14] μ μ17 := F_μ.tr ((frfX11_survey hq3 M_μ).mo (by decide) (by decide))
      have M_μ17 : Md μ17 := F_μ17.md hM (by decide)
      obtain ⟨x5, hq4, h⟩ := Option.bind_eq_some_iff.mp h
      have F_x5 := F_μ17.tr ((lop_rel pjX11_shift_38 (by decide) (fun _ _ => frsX11_shift_38) _ _ _ hq4 M_μ17).mo (R' := [20001, 20006, 20007, 20008, 20019]) (L' := [14]) (by decide) (by decide))
      have M_x5 := F_x5.md hM (by decide)
      obtain ⟨μ_19, hqq⟩ : ∃ z, z = x5 := ⟨x5, rfl⟩
      subst hqq
      have F_μ_19 : Fr [20001, 20006, 20007, 20008, 20019] [14] μ μ_19 := F_x5
      have M_μ_19 : Md μ_19 := M_x5
      obtain ⟨-, h⟩ := chk_inv h
      obtain ⟨y21, -, h⟩ := lt_inv h
      obtain ⟨μ22, eμ22, h⟩ := lm_inv h
      have F_μ22 : Fr [20001, 20006, 20007, 20008, 20019] [14] μ μ22 := F_μ_19.tr (Fr.row eμ22 (Md_0 M_μ_19) (by decide) (by decide))
      have M_μ22 : Md μ22 := F_μ22.md hM (by decide)
      obtain ⟨μ23, hq6, h⟩ := Option.bind_eq_some_iff.mp h
      have F_μ23 : Fr [20001, 20006, 20007, 20008, 20019] [14] μ μ23 := F_μ22.tr ((frfX11_survey hq6 M_μ22).mo (by decide) (by decide))
      have M_μ23 : Md μ23 := F_μ23.md hM (by decide)
      obtain ⟨-, h⟩ := chk_inv h
      obtain ⟨μ25, eμ25, h⟩ := lm_inv h
      have F_μ25 : Fr [20001, 20006, 20007, 20008, 20019] [14] μ μ25 := F_μ23.tr (Fr.row eμ25 (Md_0 M_μ23) (by decide) (by decide))
      have M_μ25 : Md μ25 := F_μ25.md hM (by decide)
      obtain ⟨x7, -, h⟩ := Option.bind_eq_some_iff.mp h
      cases h
      exact F_μ25
def pjX11_differs_33 : ((Int × Mm) ⊕ Mm) → Mm
  | .inl (_, μ) => μ
  | .inr μ => μ
theorem frsX11_differs_33 {v1 v3 : Int} {q : (Int × Mm)} {t : ((Int × Mm) ⊕ Mm)} (h : sX11_differs_33 20000 v1 v3 q = some t) (hM : Md (pjX11_differs_33 (.inl q))) : Fr [20011] [] (pjX11_differs_33 (.inl q)) (pjX11_differs_33 t) := by
  obtain ⟨v4, μ⟩ := q
  have hM : Md μ := hM
  show Fr [20011] [] μ (pjX11_differs_33 t)
  have F_μ : Fr [20011] [] μ μ := Fr.rf
  have M_μ := hM
  unfold sX11_differs_33 at h
  try dsimp only at h
  split at h
  · skip
    cases h
    exact F_μ
  · skip
    obtain ⟨-, h⟩ := chk_inv h
    obtain ⟨-, h⟩ := chk_inv h
    obtain ⟨μ4, eμ4, h⟩ := lm_inv h
    have F_μ4 : Fr [20011] [] μ μ4 := F_μ.tr (Fr.row eμ4 (Md_22 M_μ) (by decide) (by decide))
    have M_μ4 : Md μ4 := F_μ4.md hM (by decide)
    cases h
    exact F_μ4
def pjX11_differs_58 : ((Int × Mm) ⊕ Mm) → Mm
  | .inl (_, μ) => μ
  | .inr μ => μ
theorem frsX11_differs_58 {v1 v3 : Int} {q : (Int × Mm)} {t : ((Int × Mm) ⊕ Mm)} (h : sX11_differs_58 20000 v1 v3 q = some t) (hM : Md (pjX11_differs_58 (.inl q))) : Fr [20011] [] (pjX11_differs_58 (.inl q)) (pjX11_differs_58 t) := by
  obtain ⟨v4, μ⟩ := q
  have hM : Md μ := hM
  show Fr [20011] [] μ (pjX11_differs_58 t)
  have F_μ : Fr [20011] [] μ μ := Fr.rf
  have M_μ := hM
  unfold sX11_differs_58 at h
  try dsimp only at h
  obtain ⟨-, h⟩ := chk_inv h
  obtain ⟨-, h⟩ := chk_inv h
  split at h
  · skip
    cases h
    exact F_μ
  · skip
    obtain ⟨-, h⟩ := chk_inv h
    obtain ⟨-, h⟩ := chk_inv h
    obtain ⟨μ10, eμ10, h⟩ := lm_inv h
    have F_μ10 : Fr [20011] [] μ μ10 := F_μ.tr (Fr.row eμ10 (Md_22 M_μ) (by decide) (by decide))
    have M_μ10 : Md μ10 := F_μ10.md hM (by decide)
    cases h
    exact F_μ10
theorem frfX11_differs {v1 v2 v3 : Int} {μ : Mm} {t : (Int × Mm)} (h : fX11_differs 20000 v1 v2 v3 μ = some t) (hM : Md μ) : Fr [20006, 20007, 20008, 20011] [14] μ (t.2) := by
  have F_μ : Fr [20006, 20007, 20008, 20011] [14] μ μ := Fr.rf
  have M_μ := hM
  unfold fX11_differs at h
  obtain ⟨-, h⟩ := chk_inv h
  obtain ⟨x1, -, h⟩ := Option.bind_eq_some_iff.mp h
  split at h
  · skip
    cases h
    exact F_μ
  · skip
    obtain ⟨x2, -, h⟩ := Option.bind_eq_some_iff.mp h
    split at h
    · skip
      cases h
      exact F_μ
    · skip
      obtain ⟨x3, -, h⟩ := Option.bind_eq_some_iff.mp h
      obtain ⟨μ23, hq4, h⟩ := Option.bind_eq_some_iff.mp h
      have F_μ23 : Fr [20006, 20007, 20008, 20011] [14] μ μ23 := F_μ.tr ((frfX11_surveyAt hq4 M_μ).mo (by decide) (by decide))
      have M_μ23 : Md μ23 := F_μ23.md hM (by decide)
      obtain ⟨x6, hq5, h⟩ := Option.bind_eq_some_iff.mp h
      have F_x6 := F_μ23.tr ((lop_rel pjX11_differs_33 (by decide) (fun _ _ => frsX11_differs_33) _ _ _ hq5 M_μ23).mo (R' := [20006, 20007, 20008, 20011]) (L' := [14]) (by decide) (by decide))
      have M_x6 := F_x6.md hM (by decide)
      obtain ⟨μ_25, hqq⟩ : ∃ z, z = x6 := ⟨x6, rfl⟩
      subst hqq
      have F_μ_25 : Fr [20006, 20007, 20008, 20011] [14] μ μ_25 := F_x6
      have M_μ_25 : Md μ_25 := M_x6
      obtain ⟨x8, hq7, h⟩ := Option.bind_eq_some_iff.mp h
      have F_x8 := F_μ_25.tr ((lop_rel pjX11_differs_58 (by decide) (fun _ _ => frsX11_differs_58) _ _ _ hq7 M_μ_25).mo (R' := [20006, 20007, 20008, 20011]) (L' := [14]) (by decide) (by decide))
      have M_x8 := F_x8.md hM (by decide)
      obtain ⟨μ_27, hqq⟩ : ∃ z, z = x8 := ⟨x8, rfl⟩
      subst hqq
      have F_μ_27 : Fr [20006, 20007, 20008, 20011] [14] μ μ_27 := F_x8
      have M_μ_27 : Md μ_27 := M_x8
      obtain ⟨x9, -, h⟩ := Option.bind_eq_some_iff.mp h
      obtain ⟨μ29, hq10, h⟩ := Option.bind_eq_some_iff.mp h
      have F_μ29 : Fr [20006, 20007, 20008, 20011] [14] μ μ29 := F_μ_27.tr ((frfX11_surveyAt hq10 M_μ_27).mo (by decide) (by decide))
      have M_μ29 : Md μ29 := F_μ29.md hM (by decide)
      obtain ⟨x11, -, h⟩ := Option.bind_eq_some_iff.mp h
      cases h
      exact F_μ29
def pjX11_climbs_7 : ((Int × Mm) ⊕ Mm) → Mm
  | .inl (_, μ) => μ
  | .inr μ => μ
theorem frsX11_climbs_7 {v1 v2 v3 : Int} {q : (Int × Mm)} {t : ((Int × Mm) ⊕ Mm)} (h : sX11_climbs_7 20000 v1 v2 v3 q = some t) (hM : Md (pjX11_climbs_7 (.inl q))) : Fr [20015] [] (pjX11_climbs_7 (.inl q)) (pjX11_climbs_7 t) := by
  obtain ⟨v4, μ⟩ := q
  have hM : Md μ := hM
  show Fr [20015] [] μ (pjX11_climbs_7 t)
  have F_μ : Fr [20015] [] μ μ := Fr.rf
  have M_μ := hM
  unfold sX11_climbs_7 at h
  try dsimp only at h
  obtain ⟨-, h⟩ := chk_inv h
  obtain ⟨x1, -, h⟩ := Option.bind_eq_some_iff.mp h
  split at h
  · skip
    cases h
    exact F_μ
  · skip
    obtain ⟨-, h⟩ := chk_inv h
    split at h
    · skip
      obtain ⟨-, h⟩ := chk_inv h
      obtain ⟨μ7, eμ7, h⟩ := lm_inv h
      have F_μ7 : Fr [20015] [] μ μ7 := F_μ.tr (Fr.row eμ7 (Md_28 M_μ) (by decide) (by decide))
      have M_μ7 : Md μ7 := F_μ7.md hM (by decide)
      cases h
      exact F_μ7
    · skip
      obtain ⟨-, h⟩ := chk_inv h
      obtain ⟨μ9, eμ9, h⟩ := lm_inv h
      have F_μ9 : Fr [20015] [] μ μ9 := F_μ.tr (Fr.row eμ9 (Md_28 M_μ) (by decide) (by decide))
      have M_μ9 : Md μ9 := F_μ9.md hM (by decide)
      cases h
      exact F_μ9
theorem frfX11_climbs {v1 v2 v3 : Int} {μ : Mm} {t : (Int × Mm)} (h : fX11_climbs 20000 v1 v2 v3 μ = some t) (hM : Md μ) : Fr [20013, 20014, 20015] [26] μ (t.2) := by
  have F_μ : Fr [20013, 20014, 20015] [26] μ μ := Fr.rf
  have M_μ := hM
  unfold fX11_climbs at h
  obtain ⟨-, h⟩ := chk_inv h
  obtain ⟨μ20, hq1, h⟩ := Option.bind_eq_some_iff.mp h
  have F_μ20 : Fr [20013, 20014, 20015] [26] μ μ20 := F_μ.tr ((frfX11_noWay hq1 M_μ).mo (by decide) (by decide))
  have M_μ20 : Md μ20 := F_μ20.md hM (by decide)
  obtain ⟨x3, hq2, h⟩ := Option.bind_eq_some_iff.mp h
  have F_x3 := F_μ20.tr ((lop_rel pjX11_climbs_7 (by decide) (fun _ _ => frsX11_climbs_7) _ _ _ hq2 M_μ20).mo (R' := [20013, 20014, 20015]) (L' := [26]) (by decide) (by decide))
  have M_x3 := F_x3.md hM (by decide)
  obtain ⟨μ_22, hqq⟩ : ∃ z, z = x3 := ⟨x3, rfl⟩
  subst hqq
  have F_μ_22 : Fr [20013, 20014, 20015] [26] μ μ_22 := F_x3
  have M_μ_22 : Md μ_22 := M_x3
  obtain ⟨μ23, hq4, h⟩ := Option.bind_eq_some_iff.mp h
  have F_μ23 : Fr [20013, 20014, 20015] [26] μ μ23 := F_μ_22.tr ((frfX11_comes hq4 M_μ_22).mo (by decide) (by decide))
  have M_μ23 : Md μ23 := F_μ23.md hM (by decide)
  obtain ⟨μ24, hq5, h⟩ := Option.bind_eq_some_iff.mp h
  have F_μ24 : Fr [20013, 20014, 20015] [26] μ μ24 := F_μ23.tr ((frfX11_walks hq5 M_μ23).mo (by decide) (by decide))
  have M_μ24 : Md μ24 := F_μ24.md hM (by decide)
  obtain ⟨x6, -, h⟩ := Option.bind_eq_some_iff.mp h
  obtain ⟨-, h⟩ := chk_inv h
  cases h
  exact F_μ24
def pjX11_proud_34 : ((Int × Mm) ⊕ (Mm ⊕ (Int × Mm))) → Mm
  | .inl (_, μ) => μ
  | .inr (.inl μ) => μ
  | .inr (.inr (_, μ)) => μ
theorem frsX11_proud_34 {v2 v3 v4 : Int} {q : (Int × Mm)} {t : ((Int × Mm) ⊕ (Mm ⊕ (Int × Mm)))} (h : sX11_proud_34 20000 v2 v3 v4 q = some t) (hM : Md (pjX11_proud_34 (.inl q))) : Fr [20013, 20014, 20015] [26] (pjX11_proud_34 (.inl q)) (pjX11_proud_34 t) := by
  obtain ⟨v5, μ⟩ := q
  have hM : Md μ := hM
  show Fr [20013, 20014, 20015] [26] μ (pjX11_proud_34 t)
  have F_μ : Fr [20013, 20014, 20015] [26] μ μ := Fr.rf
  have M_μ := hM
  unfold sX11_proud_34 at h
  try dsimp only at h
  split at h
  · skip
    cases h
    exact F_μ
  · skip
    obtain ⟨-, h⟩ := chk_inv h
    obtain ⟨⟨r3, μ3⟩, hq1, h⟩ := Option.bind_eq_some_iff.mp h
    dsimp only at h
    have F_μ3 : Fr [20013, 20014, 20015] [26] μ μ3 := F_μ.tr ((frfX11_climbs hq1 M_μ).mo (by decide) (by decide))
    have M_μ3 : Md μ3 := F_μ3.md hM (by decide)
    split at h
    · skip
      cases h
      exact F_μ3
    · skip
      cases h
      exact F_μ3
theorem frfX11_proud {v1 v2 : Int} {μ : Mm} {t : (Int × Mm)} (h : fX11_proud 20000 v1 v2 μ = some t) (hM : Md μ) : Fr [20013, 20014, 20015] [26] μ (t.2) := by
  have F_μ : Fr [20013, 20014, 20015] [26] μ μ := Fr.rf
  have M_μ := hM
  unfold fX11_proud at h
  obtain ⟨-, h⟩ := chk_inv h
  obtain ⟨x1, -, h⟩ := Option.bind_eq_some_iff.mp h
  split at h
  · skip
    cases h
    exact F_μ
  · skip
    obtain ⟨x2, -, h⟩ := Option.bind_eq_some_iff.mp h
    obtain ⟨-, h⟩ := chk_inv h
    obtain ⟨y10, -, h⟩ := lt_inv h
    obtain ⟨x4, hq3, h⟩ := Option.bind_eq_some_iff.mp h
    have F_x4 := F_μ.tr ((lop_rel pjX11_proud_34 (by decide) (fun _ _ => frsX11_proud_34) _ _ _ hq3 M_μ).mo (R' := [20013, 20014, 20015]) (L' := [26]) (by decide) (by decide))
    have M_x4 := F_x4.md hM (by decide)
    rcases x4 with μ_12 | ⟨v5_13, μ_13⟩
    · skip
      dsimp only at h
      have F_μ_12 : Fr [20013, 20014, 20015] [26] μ μ_12 := F_x4
      have M_μ_12 : Md μ_12 := M_x4
      cases h
      exact F_μ_12
    · skip
      dsimp only at h
      have F_μ_13 : Fr [20013, 20014, 20015] [26] μ μ_13 := F_x4
      have M_μ_13 : Md μ_13 := M_x4
      cases h
      exact F_μ_13
theorem frjX11_stretch_226 {v9 v11 s0 : Int} {μ : Mm} {t : (Int × Mm)} (h : jX11_stretch_226 v9 v11 s0 μ = some t) (hM : Md μ) : Fr [] [] μ (t.2) := by
  have F_μ : Fr [] [] μ μ := Fr.rf
  have M_μ := hM
  unfold jX11_stretch_226 at h
  obtain ⟨x1, -, h⟩ := Option.bind_eq_some_iff.mp h
  obtain ⟨-, h⟩ := chk_inv h
  cases h
  exact F_μ
theorem frfX11_stretch {v1 v2 v3 v4 v5 v6 : Int} {μ : Mm} {t : (Int × Mm)} (h : fX11_stretch 20000 v1 v2 v3 v4 v5 v6 μ = some t) (hM : Md μ) : Fr [20006, 20007, 20008] [14] μ (t.2) := by
  have F_μ : Fr [20006, 20007, 20008] [14] μ μ := Fr.rf
  have M_μ := hM
  unfold fX11_stretch at h
  obtain ⟨-, h⟩ := chk_inv h
  obtain ⟨⟨r17, μ17⟩, hq1, h⟩ := Option.bind_eq_some_iff.mp h
  dsimp only at h
  have F_μ17 : Fr [20006, 20007, 20008] [14] μ μ17 := F_μ.tr ((frfX11_isStart hq1 M_μ).mo (by decide) (by decide))
  have M_μ17 : Md μ17 := F_μ17.md hM (by decide)
  split at h
  · skip
    cases h
    exact F_μ17
  · skip
    obtain ⟨x2, -, h⟩ := Option.bind_eq_some_iff.mp h
    obtain ⟨x3, -, h⟩ := Option.bind_eq_some_iff.mp h
    obtain ⟨x4, -, h⟩ := Option.bind_eq_some_iff.mp h
    split at h
    · skip
      cases h
      exact F_μ17
    · skip
      obtain ⟨x5, -, h⟩ := Option.bind_eq_some_iff.mp h
      obtain ⟨v9_24, v11_24⟩ := x5
      dsimp only at h
      split at h
      · skip
        cases h
        exact F_μ17
      · skip
        split at h
        · skip
          exact F_μ17.tr ((frjX11_stretch_226 h M_μ17).mo (by decide) (by decide))
        · skip
          exact F_μ17.tr ((frjX11_stretch_226 h M_μ17).mo (by decide) (by decide))
theorem frfX11_wrong {v1 v2 v3 v4 : Int} {μ : Mm} {t : (Int × Mm)} (h : fX11_wrong 20000 v1 v2 v3 v4 μ = some t) (hM : Md μ) : Fr [20006, 20007, 20008] [14] μ (t.2) := by
  have F_μ : Fr [20006, 20007, 20008] [14] μ μ := Fr.rf
  have M_μ := hM
  unfold fX11_wrong at h
  obtain ⟨-, h⟩ := chk_inv h
  obtain ⟨⟨r2, μ2⟩, hq1, h⟩ := Option.bind_eq_some_iff.mp h
  dsimp only at h
  have F_μ2 : Fr [20006, 20007, 20008] [14] μ μ2 := F_μ.tr ((frfX11_isStart hq1 M_μ).mo (by decide) (by decide))
  have M_μ2 : Md μ2 := F_μ2.md hM (by decide)
  split at h
  · skip
    cases h
    exact F_μ2
  · skip
    obtain ⟨x2, -, h⟩ := Option.bind_eq_some_iff.mp h
    obtain ⟨x3, -, h⟩ := Option.bind_eq_some_iff.mp h
    split at h
    · skip
      cases h
      exact F_μ2
    · skip
      obtain ⟨x4, -, h⟩ := Option.bind_eq_some_iff.mp h
      obtain ⟨x5, -, h⟩ := Option.bind_eq_some_iff.mp h
      obtain ⟨x6, -, h⟩ := Option.bind_eq_some_iff.mp h
      cases h
      exact F_μ2
theorem frfX11_nearest {v1 v2 v3 : Int} {μ : Mm} {t : (Int × Mm)} (h : fX11_nearest 20000 v1 v2 v3 μ = some t) (hM : Md μ) : Fr [20006, 20007, 20008] [14] μ (t.2) := by
  have F_μ : Fr [20006, 20007, 20008] [14] μ μ := Fr.rf
  have M_μ := hM
  unfold fX11_nearest at h
  obtain ⟨-, h⟩ := chk_inv h
  obtain ⟨x1, -, h⟩ := Option.bind_eq_some_iff.mp h
  split at h
  · skip
    cases h
    exact F_μ
  · skip
    obtain ⟨x2, -, h⟩ := Option.bind_eq_some_iff.mp h
    obtain ⟨x3, -, h⟩ := Option.bind_eq_some_iff.mp h
    obtain ⟨μ19, hq4, h⟩ := Option.bind_eq_some_iff.mp h
    have F_μ19 : Fr [20006, 20007, 20008] [14] μ μ19 := F_μ.tr ((frfX11_survey hq4 M_μ).mo (by decide) (by decide))
    have M_μ19 : Md μ19 := F_μ19.md hM (by decide)
    obtain ⟨x5, -, h⟩ := Option.bind_eq_some_iff.mp h
    obtain ⟨v6_21, v7_21⟩ := x5
    dsimp only at h
    split at h
    · skip
      cases h
      exact F_μ19
    · skip
      split at h
      · skip
        cases h
        exact F_μ19
      · skip
        cases h
        exact F_μ19
def pjX11_image_20 : ((Int × Mm) ⊕ Mm) → Mm
  | .inl (_, μ) => μ
  | .inr μ => μ
theorem frsX11_image_20 {v1 : Int} {q : (Int × Mm)} {t : ((Int × Mm) ⊕ Mm)} (h : sX11_image_20 20000 v1 q = some t) (hM : Md (pjX11_image_20 (.inl q))) : Fr [20001] [] (pjX11_image_20 (.inl q)) (pjX11_image_20 t) := by
  obtain ⟨v2, μ⟩ := q
  have hM : Md μ := hM
  show Fr [20001] [] μ (pjX11_image_20 t)
  have F_μ : Fr [20001] [] μ μ := Fr.rf
  have M_μ := hM
  unfold sX11_image_20 at h
  try dsimp only at h
  split at h
  · skip
    cases h
    exact F_μ
  · skip
    obtain ⟨-, h⟩ := chk_inv h
    obtain ⟨-, h⟩ := chk_inv h
    obtain ⟨-, h⟩ := chk_inv h
    obtain ⟨μ5, eμ5, h⟩ := lm_inv h
    have F_μ5 : Fr [20001] [] μ μ5 := F_μ.tr (Fr.row eμ5 (Md_0 M_μ) (by decide) (by decide))
    have M_μ5 : Md μ5 := F_μ5.md hM (by decide)
    cases h
    exact F_μ5
theorem frfX11_image {v1 : Int} {μ : Mm} {t : (Int × Mm)} (h : fX11_image 20000 v1 μ = some t) (hM : Md μ) : Fr [20001, 20002] [] μ (t.2) := by
  have F_μ : Fr [20001, 20002] [] μ μ := Fr.rf
  have M_μ := hM
  unfold fX11_image at h
  split at h
  · skip
    cases h
    exact F_μ
  · skip
    obtain ⟨-, h⟩ := chk_inv h
    obtain ⟨-, h⟩ := chk_inv h
    obtain ⟨μ9, eμ9, h⟩ := lm_inv h
    have F_μ9 : Fr [20001, 20002] [] μ μ9 := F_μ.tr (Fr.row eμ9 (Md_1 M_μ) (by decide) (by decide))
    have M_μ9 : Md μ9 := F_μ9.md hM (by decide)
    obtain ⟨x2, hq1, h⟩ := Option.bind_eq_some_iff.mp h
    have F_x2 := F_μ9.tr ((lop_rel pjX11_image_20 (by decide) (fun _ _ => frsX11_image_20) _ _ _ hq1 M_μ9).mo (R' := [20001, 20002]) (L' := []) (by decide) (by decide))
    have M_x2 := F_x2.md hM (by decide)
    obtain ⟨μ_11, hqq⟩ : ∃ z, z = x2 := ⟨x2, rfl⟩
    subst hqq
    have F_μ_11 : Fr [20001, 20002] [] μ μ_11 := F_x2
    have M_μ_11 : Md μ_11 := M_x2
    cases h
    exact F_μ_11
def pjX11_again_22 : ((Int × Mm) ⊕ Mm) → Mm
  | .inl (_, μ) => μ
  | .inr μ => μ
theorem frsX11_again_22 {v1 : Int} {q : (Int × Mm)} {t : ((Int × Mm) ⊕ Mm)} (h : sX11_again_22 20000 v1 q = some t) (hM : Md (pjX11_again_22 (.inl q))) : Fr [20001] [] (pjX11_again_22 (.inl q)) (pjX11_again_22 t) := by
  obtain ⟨v2, μ⟩ := q
  have hM : Md μ := hM
  show Fr [20001] [] μ (pjX11_again_22 t)
  have F_μ : Fr [20001] [] μ μ := Fr.rf
  have M_μ := hM
  unfold sX11_again_22 at h
  try dsimp only at h
  split at h
  · skip
    cases h
    exact F_μ
  · skip
    obtain ⟨-, h⟩ := chk_inv h
    obtain ⟨-, h⟩ := chk_inv h
    obtain ⟨-, h⟩ := chk_inv h
    obtain ⟨μ5, eμ5, h⟩ := lm_inv h
    have F_μ5 : Fr [20001] [] μ μ5 := F_μ.tr (Fr.row eμ5 (Md_0 M_μ) (by decide) (by decide))
    have M_μ5 : Md μ5 := F_μ5.md hM (by decide)
    cases h
    exact F_μ5
theorem frfX11_again {v1 : Int} {μ : Mm} {t : (Int × Mm)} (h : fX11_again 20000 v1 μ = some t) (hM : Md μ) : Fr [20001] [] μ (t.2) := by
  have F_μ : Fr [20001] [] μ μ := Fr.rf
  have M_μ := hM
  unfold fX11_again at h
  split at h
  · skip
    cases h
    exact F_μ
  · skip
    obtain ⟨-, h⟩ := chk_inv h
    obtain ⟨-, h⟩ := chk_inv h
    split at h
    · skip
      cases h
      exact F_μ
    · skip
      obtain ⟨x2, hq1, h⟩ := Option.bind_eq_some_iff.mp h
      have F_x2 := F_μ.tr ((lop_rel pjX11_again_22 (by decide) (fun _ _ => frsX11_again_22) _ _ _ hq1 M_μ).mo (R' := [20001]) (L' := []) (by decide) (by decide))
      have M_x2 := F_x2.md hM (by decide)
      obtain ⟨μ_11, hqq⟩ : ∃ z, z = x2 := ⟨x2, rfl⟩
      subst hqq
      have F_μ_11 : Fr [20001] [] μ μ_11 := F_x2
      have M_μ_11 : Md μ_11 := M_x2
      cases h
      exact F_μ_11
