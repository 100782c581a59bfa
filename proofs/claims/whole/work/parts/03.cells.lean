/-! ===== cells of the small machine ===== -/
theorem ent_o {cA : Nat → ClassId} {ad : Int → Nat} {x : Int} {f : Int → Int} (h : KD x < 12) : ent cA ad x f = .inr (KD x, (List.range (NF (KD x))).map fun j : Nat => cv ad (FT (KD x) (j : Int), f (j : Int))) := by
  unfold ent; rw [if_pos h]
theorem ent_l {cA : Nat → ClassId} {ad : Int → Nat} {x : Int} {f : Int → Int} (h : KD x = 13) : ent cA ad x f = .inl (cA 13, (LN x).toNat, .inr (.inl fun j : Nat => Int64.ofInt (f (j : Int)))) := by
  unfold ent; rw [if_neg (by omega), if_pos h]
theorem ent_i {cA : Nat → ClassId} {ad : Int → Nat} {x : Int} {f : Int → Int} (h : KD x = 12) : ent cA ad x f = .inl (cA 12, (LN x).toNat, .inl fun j : Nat => Int32.ofInt (f (j : Int))) := by
  unfold ent; rw [if_neg (by omega), if_neg (by omega), if_pos (by omega), h]
theorem ent_z {cA : Nat → ClassId} {ad : Int → Nat} {x : Int} {f : Int → Int} (h : KD x = 14) : ent cA ad x f = .inl (cA 14, (LN x).toNat, .inl fun j : Nat => Int32.ofInt (f (j : Int))) := by
  unfold ent; rw [if_neg (by omega), if_neg (by omega), if_pos (by omega), h]
theorem ent_r {cA : Nat → ClassId} {ad : Int → Nat} {x : Int} {f : Int → Int} {kd : Nat} (h : KD x = kd) (h2 : 15 ≤ kd) : ent cA ad x f = .inl (cA kd, (LN x).toNat, .inr (.inr (.inr (.inr fun j : Nat => if (j : Int) < LN x ∧ f (j : Int) ≠ 0 then some (ad (f (j : Int))) else none)))) := by
  unfold ent; rw [if_neg (by omega), if_neg (by omega), if_neg (by omega), h]
section Worlds
variable {D : va_G} {cA : Nat → ClassId} {adK : Nat → Nat} {ad : Int → Nat} {ids : List Int} {μ : Mm} {A : Nat → Prop} {H : Heap}
theorem wd_get {q : Nat} {x : Int} (h : ids[q]? = some x) : (wd cA ad ids μ)[q]? = some (ad x, ent cA ad x (μ x)) := by
  unfold wd; rw [List.getElem?_map, h]; rfl
theorem wd_inj (hD : va_D A (wd cA ad ids μ)) {i j : Nat} {x : Int} (hi : ids[i]? = some x) (hj : ids[j]? = some x) : i = j := hD.1 i j _ _ (wd_get hi) (wd_get hj) rfl
theorem wd_set (hD : va_D A (wd cA ad ids μ)) {q : Nat} {x : Int} (hq : ids[q]? = some x) {μ' : Mm} (hμ : ∀ b, b ≠ x → μ' b = μ b) : (wd cA ad ids μ).set q (ad x, ent cA ad x (μ' x)) = wd cA ad ids μ' := by
  apply List.ext_getElem?
  intro i
  have hlt := (List.getElem?_eq_some_iff.mp hq).1
  rw [List.getElem?_set]
  by_cases hi : q = i
  · subst hi
    rw [if_pos rfl, wd_get hq, if_pos (by unfold wd; rw [List.length_map]; exact hlt)]
  · rw [if_neg hi]
    unfold wd
    rw [List.getElem?_map, List.getElem?_map]
    cases hc : ids[i]? with
    | none => rfl
    | some b =>
      have hb : b ≠ x := fun e => hi (wd_inj hD hq (e ▸ hc))
      show some (ad b, ent cA ad b (μ b)) = some (ad b, ent cA ad b (μ' b))
      rw [hμ b hb]
theorem KD_0 : KD 0 = 99 := by decide
theorem KD_s {x : Int} (h : 1 ≤ x ∧ x ≤ 34) : KD x = 99 := by
  obtain ⟨j, hj, rfl⟩ : ∃ j : Nat, j < 35 ∧ x = (j : Int) := ⟨x.toNat, by omega, by omega⟩
  have : ∀ j : Nat, j < 35 → KD (j : Int) = 99 := by decide
  exact this j hj
/-- a number that may be looked at: it stands in the world -/
theorem Rep.there {x : Int} (hR : Rep D cA adK ad ids μ A H) (hv : okv (μ 0) (3, x)) (hk : KD x < 99) : x ∈ ids ∧ x ≠ 0 ∧ ∃ q : Nat, ids[q]? = some x ∧ (wd cA ad ids μ)[q]? = some (ad x, ent cA ad x (μ x)) := by
  have hx : x ∈ ids := by
    rcases hv with h | h | h
    · have h : x = 0 := h
      subst h; rw [KD_0] at hk; omega
    · rw [KD_s h] at hk; omega
    · exact (hR.2.2.1 x).mpr h
  obtain ⟨q, hq⟩ := List.getElem?_of_mem hx
  exact ⟨hx, fun h => by subst h; rw [KD_0] at hk; omega, q, hq, wd_get hq⟩
theorem Rep.live {x : Int} (hR : Rep D cA adK ad ids μ A H) (hx : x ∈ ids) : μ 0 x ≠ 0 := (hR.2.2.1 x).mp hx
theorem Rep.ok {x j : Int} (hR : Rep D cA adK ad ids μ A H) (hx : x ∈ ids) (h0 : 0 ≤ j) (hj : j < szo x) : okv (μ 0) (FT (KD x) j, μ x j) := (hR.2.2.2.1 x hx).2 j h0 hj
/-- the world with one slot written -/
theorem Rep.put {x i v : Int} {H1 : Heap} {q : Nat} {E : va_E} (hR : Rep D cA adK ad ids μ A H) (hx : x ∈ ids) (hq : ids[q]? = some x) (hx0 : x ≠ 0) (hE : ent cA ad x (mst μ x i v x) = E)
    (hP : va_P D vwCl ((wd cA ad ids μ).set q (ad x, E)) H1) (hD : va_D A ((wd cA ad ids μ).set q (ad x, E))) (hv : okv (μ 0) (FT (KD x) i, v)) : Rep D cA adK ad ids (mst μ x i v) A H1 := by
  have e := wd_set (cA := cA) (ad := ad) hR.2.1 hq (μ' := mst μ x i v) (fun b hb => mst_n hb)
  rw [hE] at e
  rw [e] at hP hD
  have e0 : mst μ x i v 0 = μ 0 := mst_n (Ne.symm hx0)
  refine ⟨hP, hD, fun y => by rw [e0]; exact hR.2.2.1 y, fun y hy => ⟨(hR.2.2.2.1 y hy).1, fun j h0 hj => ?_⟩, hR.2.2.2.2⟩
  rw [e0, mst_ap]
  by_cases c : y = x ∧ j = i
  · rw [if_pos c, c.1, c.2]; exact hv
  · rw [if_neg c]; exact hR.ok hy h0 hj
end Worlds
theorem FT_o {k : Nat} {j : Int} (h : k < 12) : FT k j = tc (tyOf k j.toNat) := by unfold FT; rw [if_pos h]
theorem szo_o {x : Int} (h : KD x < 12) : szo x = (NF (KD x) : Int) := by unfold szo; rw [if_pos h]
theorem szo_a {x : Int} (h : 12 ≤ KD x) : szo x = LN x := by unfold szo; rw [if_neg (by omega)]
theorem okv_st {lv : Int → Int} {t : Nat} {x : Int} (h : okv lv (t, x)) : okv lv (stt t, x) := by
  unfold stt
  split
  · rename_i e; subst e
    rcases h with h | h
    · have h : x = 0 := h
      subst h; exact R32_0
    · have h : x = 1 := h
      subst h; exact ⟨by omega, by omega⟩
  · exact h
theorem cv_st (ad : Int → Nat) (t : Nat) (x : Int) : cv ad (stt t, x) = cv ad (t, x) := by
  unfold stt
  split
  · rename_i e; subst e; rfl
  · rfl
/-- the classes' tables, as the rows ask for them -/
def clOf (k : Nat) : vw_C := vwCl.getD k (RX0, TX0, 0)
theorem cl_at {k : Nat} (h : k < 12) : vwCl[k]? = some (clOf k) := by
  rcases (show k = 0 ∨ k = 1 ∨ k = 2 ∨ k = 3 ∨ k = 4 ∨ k = 5 ∨ k = 6 ∨ k = 7 ∨ k = 8 ∨ k = 9 ∨ k = 10 ∨ k = 11 by omega) with rfl | rfl | rfl | rfl | rfl | rfl | rfl | rfl | rfl | rfl | rfl | rfl <;> rfl
theorem cl_n {k : Nat} (h : k < 12) : (clOf k).2.2 = NF k := by
  rcases (show k = 0 ∨ k = 1 ∨ k = 2 ∨ k = 3 ∨ k = 4 ∨ k = 5 ∨ k = 6 ∨ k = 7 ∨ k = 8 ∨ k = 9 ∨ k = 10 ∨ k = 11 by omega) with rfl | rfl | rfl | rfl | rfl | rfl | rfl | rfl | rfl | rfl | rfl | rfl <;> rfl
theorem cl_in {k : Nat} (h : k < 12) : ∀ w ∈ u_ws (clOf k).1 (clOf k).2.1 (clOf k).2.2, w ∈ Wt := by
  rcases (show k = 0 ∨ k = 1 ∨ k = 2 ∨ k = 3 ∨ k = 4 ∨ k = 5 ∨ k = 6 ∨ k = 7 ∨ k = 8 ∨ k = 9 ∨ k = 10 ∨ k = 11 by omega) with rfl | rfl | rfl | rfl | rfl | rfl | rfl | rfl | rfl | rfl | rfl | rfl
  · exact inW_X0
  · exact inW_X1
  · exact inW_X2
  · exact inW_X3
  · exact inW_X4
  · exact inW_X5
  · exact inW_X6
  · exact inW_X7
  · exact inW_X8
  · exact inW_X9
  · exact inW_X10
  · exact inW_X11
theorem cl_ty {k : Nat} (h : k < 12) : ∀ j, j < (clOf k).2.2 → parseFieldDescriptor ((clOf k).2.1 j).2.2.1 = some (tyOf k j) := by
  rcases (show k = 0 ∨ k = 1 ∨ k = 2 ∨ k = 3 ∨ k = 4 ∨ k = 5 ∨ k = 6 ∨ k = 7 ∨ k = 8 ∨ k = 9 ∨ k = 10 ∨ k = 11 by omega) with rfl | rfl | rfl | rfl | rfl | rfl | rfl | rfl | rfl | rfl | rfl | rfl
  · exact tyX0_ok
  · exact tyX1_ok
  · exact tyX2_ok
  · exact tyX3_ok
  · exact tyX4_ok
  · exact tyX5_ok
  · exact tyX6_ok
  · exact tyX7_ok
  · exact tyX8_ok
  · exact tyX9_ok
  · exact tyX10_ok
  · exact tyX11_ok
theorem cl_nm {k : Nat} (h : k < 12) : ∀ a, a < (clOf k).2.2 → ∀ b, b < (clOf k).2.2 → a ≠ b → ((clOf k).2.1 a).2.1 ≠ ((clOf k).2.1 b).2.1 := by
  rcases (show k = 0 ∨ k = 1 ∨ k = 2 ∨ k = 3 ∨ k = 4 ∨ k = 5 ∨ k = 6 ∨ k = 7 ∨ k = 8 ∨ k = 9 ∨ k = 10 ∨ k = 11 by omega) with rfl | rfl | rfl | rfl | rfl | rfl | rfl | rfl | rfl | rfl | rfl | rfl
  · exact nmX0
  · exact nmX1
  · exact nmX2
  · exact nmX3
  · exact nmX4
  · exact nmX5
  · exact nmX6
  · exact nmX7
  · exact nmX8
  · exact nmX9
  · exact nmX10
  · exact nmX11
theorem nar_ok {lv : Int → Int} (ad : Int → Nat) {ty : FieldType} {x : Int} (h : okv lv (tc ty, x)) : narrow ty (cv ad (tc ty, x)) = cv ad (tc ty, x) ∧ fits ty (cv ad (tc ty, x)) = true := by
  cases ty with
  | int => exact ⟨rfl, rfl⟩
  | long => exact ⟨rfl, rfl⟩
  | boolean =>
    rcases h with h | h
    · have h : x = 0 := h
      subst h; exact ⟨rfl, rfl⟩
    · have h : x = 1 := h
      subst h; exact ⟨rfl, rfl⟩
  | object c =>
    show narrow _ (if x = 0 then Value.null else .ref (ad x)) = (if x = 0 then Value.null else .ref (ad x)) ∧ fits _ (if x = 0 then Value.null else .ref (ad x)) = true
    split <;> exact ⟨rfl, rfl⟩
  | array c =>
    show narrow _ (if x = 0 then Value.null else .ref (ad x)) = (if x = 0 then Value.null else .ref (ad x)) ∧ fits _ (if x = 0 then Value.null else .ref (ad x)) = true
    split <;> exact ⟨rfl, rfl⟩
  | byte => exact absurd h id
  | char => exact absurd h id
  | double => exact absurd h id
  | float => exact absurd h id
  | short => exact absurd h id
