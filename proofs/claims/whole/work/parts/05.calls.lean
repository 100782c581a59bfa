/-! ===== what is made ===== -/
theorem mnw_n {μ : Mm} {x b : Int} (h : b ≠ x) (h0 : b ≠ 0) : mnw μ x b = μ b := by unfold mnw; rw [if_neg h, if_neg h0]
theorem mnw_s {μ : Mm} {x : Int} : mnw μ x x = fun _ => 0 := by unfold mnw; rw [if_pos rfl]
theorem mnw_0 {μ : Mm} {x : Int} (hx : x ≠ 0) (y : Int) : mnw μ x 0 y = if y = x then 1 else μ 0 y := by unfold mnw; rw [if_neg (Ne.symm hx), if_pos rfl]
def ad1 (ad : Int → Nat) (x : Int) (q : Nat) : Int → Nat := fun y => if y = x then q else ad y
theorem ad1_n {ad : Int → Nat} {x y : Int} {q : Nat} (h : y ≠ x) : ad1 ad x q y = ad y := by unfold ad1; rw [if_neg h]
theorem ad1_s {ad : Int → Nat} {x : Int} {q : Nat} : ad1 ad x q x = q := by unfold ad1; rw [if_pos rfl]
theorem okv_new {lv : Int → Int} {x : Int} {v : AV} (hv : okv lv v) (hx : lv x = 0) (hk : KD x < 99) (ad : Int → Nat) (q : Nat) : cv (ad1 ad x q) v = cv ad v := by
  obtain ⟨t, y⟩ := v
  match t, hv with
  | 0, _ => rfl
  | 1, _ => rfl
  | 2, _ => rfl
  | 3, hv =>
    show (if y = 0 then Value.null else .ref (ad1 ad x q y)) = if y = 0 then Value.null else .ref (ad y)
    by_cases h0 : y = 0
    · rw [if_pos h0, if_pos h0]
    · rw [if_neg h0, if_neg h0, ad1_n]
      intro e; subst e
      rcases hv with h | h | h
      · exact h0 h
      · rw [KD_s h] at hk; omega
      · exact h hx
theorem okv_grow {lv lv' : Int → Int} {v : AV} (hv : okv lv v) (h : ∀ y, lv y ≠ 0 → lv' y ≠ 0) : okv lv' v := by
  obtain ⟨t, y⟩ := v
  match t, hv with
  | 0, hv => exact hv
  | 1, hv => exact hv
  | 2, hv => exact hv
  | 3, hv =>
    rcases hv with q | q | q
    · exact Or.inl q
    · exact Or.inr (Or.inl q)
    · exact Or.inr (Or.inr (h y q))
theorem okv_z {lv : Int → Int} {t : Nat} (h : t < 4) : okv lv (t, 0) := by
  rcases (show t = 0 ∨ t = 1 ∨ t = 2 ∨ t = 3 by omega) with rfl | rfl | rfl | rfl
  · exact R32_0
  · exact Or.inl rfl
  · exact R64_0
  · exact Or.inl rfl
theorem FT_4 (k : Nat) (hk : k < 20) (j : Int) (h0 : 0 ≤ j) (hj : k < 12 → j < (NF k : Int)) : FT k j < 4 := by
  unfold FT
  by_cases h : k < 12
  · rw [if_pos h]
    have hh : ∀ k, k < 12 → ∀ j, j < NF k → tc (tyOf k j) < 4 := by decide
    exact hh k h j.toNat (by have := hj h; omega)
  · rw [if_neg h]; split <;> (try split) <;> (try split) <;> omega
theorem ent_new {cA : Nat → ClassId} {ad : Int → Nat} {x y : Int} {q : Nat} {lv : Int → Int} {f : Int → Int} (hx : lv x = 0) (hk : KD x < 99) (hf : ∀ j : Int, 0 ≤ j → j < szo y → okv lv (FT (KD y) j, f j)) : ent cA (ad1 ad x q) y f = ent cA ad y f := by
  unfold ent
  by_cases h1 : KD y < 12
  · rw [if_pos h1, if_pos h1]
    congr 2
    apply List.map_congr_left
    intro j hj
    have hj := List.mem_range.mp hj
    exact okv_new (hf j (by omega) (by rw [szo_o h1]; omega)) hx hk ad q
  · rw [if_neg h1, if_neg h1]
    by_cases h2 : KD y = 13
    · rw [if_pos h2, if_pos h2]
    · rw [if_neg h2, if_neg h2]
      by_cases h3 : KD y = 12 ∨ KD y = 14
      · rw [if_pos h3, if_pos h3]
      · rw [if_neg h3, if_neg h3]
        congr 7
        funext j
        by_cases h4 : (j : Int) < LN y ∧ f (j : Int) ≠ 0
        · rw [if_pos h4, if_pos h4]
          have hv := hf j (by omega) (by rw [szo_a (by omega)]; exact h4.1)
          rw [show FT (KD y) (j : Int) = 3 by unfold FT; rw [if_neg h1, if_neg (by omega), if_neg (by omega), if_neg (by omega)]] at hv
          have e := okv_new hv hx hk ad q
          rw [cv_r _ h4.2, cv_r _ h4.2] at e
          exact congrArg some (Value.ref.inj e)
        · rw [if_neg h4, if_neg h4]
theorem Rep.new {D : va_G} {cA : Nat → ClassId} {adK : Nat → Nat} {ad : Int → Nat} {ids : List Int} {μ : Mm} {A : Nat → Prop} {H H1 : Heap} {x : Int} {q : Nat} {E : va_E} (hR : Rep D cA adK ad ids μ A H) (hx : μ 0 x = 0) (hk : KD x < 20)
    (hE : ent cA (ad1 ad x q) x (fun _ => 0) = E) (hP : va_P D vwCl (wd cA ad ids μ ++ [(q, E)]) H1) (hD : va_D A (wd cA ad ids μ ++ [(q, E)])) : Rep D cA adK (ad1 ad x q) (ids ++ [x]) (mnw μ x) A H1 := by
  have hx0 : x ≠ 0 := fun e => by subst e; rw [KD_0] at hk; omega
  have hg : ∀ y, μ 0 y ≠ 0 → mnw μ x 0 y ≠ 0 := fun y hy => by rw [mnw_0 hx0]; split <;> omega
  have hz : ∀ y ∈ ids, y ≠ x ∧ y ≠ 0 := fun y hy => ⟨fun e => by subst e; exact hR.live hy hx, fun e => by subst e; have := (hR.2.2.2.1 0 hy).1; rw [KD_0] at this; omega⟩
  have e : wd cA (ad1 ad x q) (ids ++ [x]) (mnw μ x) = wd cA ad ids μ ++ [(q, E)] := by
    unfold wd
    rw [List.map_append, List.map_cons, List.map_nil, mnw_s, hE, ad1_s]
    congr 1
    apply List.map_congr_left
    intro y hy
    rw [ad1_n (hz y hy).1, mnw_n (hz y hy).1 (hz y hy).2, ent_new hx (by omega) (fun j h0 hj => hR.ok hy h0 hj)]
  rw [← e] at hP hD
  refine ⟨hP, hD, fun y => ?_, fun y hy => ?_, fun i hi => ?_⟩
  · rw [mnw_0 hx0, List.mem_append, List.mem_singleton]
    by_cases c : y = x
    · simp [c]
    · simp [c, hR.2.2.1 y]
  · rcases List.mem_append.mp hy with hy | hy
    · refine ⟨(hR.2.2.2.1 y hy).1, fun j h0 hj => ?_⟩
      rw [mnw_n (hz y hy).1 (hz y hy).2]
      exact okv_grow (hR.ok hy h0 hj) hg
    · have hy := List.mem_singleton.mp hy
      subst hy
      refine ⟨hk, fun j h0 hj => ?_⟩
      rw [mnw_s]
      exact okv_z (FT_4 _ hk j h0 (fun h => by rw [szo_o h] at hj; exact hj))
  · rw [ad1_n (fun e => by have := KD_s (x := (i : Int) + 1) ⟨by omega, by omega⟩; rw [e] at this; omega)]
    exact hR.2.2.2.2 i hi
theorem map_cv_new {lv : Int → Int} {x : Int} (hx : lv x = 0) (hk : KD x < 99) {st : List AV} (hst : ∀ v ∈ st, okv lv v) (ad : Int → Nat) (q : Nat) : st.map (cv (ad1 ad x q)) = st.map (cv ad) := List.map_congr_left fun v hv => okv_new (hst v hv) hx hk ad q
theorem mapL_cv_new {lv : Int → Int} {x : Int} (hx : lv x = 0) (hk : KD x < 99) {L : List (Nat × AV)} (hL : ∀ q ∈ L, okv lv q.2) (ad : Int → Nat) (q : Nat) : (L.map fun z => (z.1, cv (ad1 ad x q) z.2)) = L.map fun z => (z.1, cv ad z.2) := List.map_congr_left fun v hv => by rw [okv_new (hL v hv) hx hk ad q]
theorem cl_ins {k : Nat} (h : k < 12) : Cond.instantiable (clOf k).1 (clOf k).2.2 ∈ Wt ∧ Cond.initialized (clOf k).1 ∈ Wt := by
  rcases (show k = 0 ∨ k = 1 ∨ k = 2 ∨ k = 3 ∨ k = 4 ∨ k = 5 ∨ k = 6 ∨ k = 7 ∨ k = 8 ∨ k = 9 ∨ k = 10 ∨ k = 11 by omega) with rfl | rfl | rfl | rfl | rfl | rfl | rfl | rfl | rfl | rfl | rfl | rfl
  · exact ⟨kn_X0, ki_X0⟩
  · exact ⟨kn_X1, ki_X1⟩
  · exact ⟨kn_X2, ki_X2⟩
  · exact ⟨kn_X3, ki_X3⟩
  · exact ⟨kn_X4, ki_X4⟩
  · exact ⟨kn_X5, ki_X5⟩
  · exact ⟨kn_X6, ki_X6⟩
  · exact ⟨kn_X7, ki_X7⟩
  · exact ⟨kn_X8, ki_X8⟩
  · exact ⟨kn_X9, ki_X9⟩
  · exact ⟨kn_X10, ki_X10⟩
  · exact ⟨kn_X11, ki_X11⟩
theorem GM_new {l : Launch} {M : MI} {F : FI} {k n pc : Nat} {L : List (Nat × AV)} {st : List AV} {μ : Mm} {i : Nat} (ci : Nat) (x : Int) (hci : ci < 12) (hcl : Cond.classLink M.1 i (clOf ci).1 ∈ Wt) (d : decode M.2.1 pc = .ok (.new i, 3)) (hkx : KD x = ci) (hfree : μ 0 x = 0) (K : GM l M F k n (pc + 3) L ((3, x) :: st) (mnw μ x)) : GM l M F (1 + k) (NF ci + n) pc L st μ := by
  intro p e s m args below meth c D cA adK adV ad0 ids0 C ad ids H locs cells slots ls hR ha hL hst hS hl hk hn
  obtain ⟨hx, hb, hml, hown, hts, hK, hr, hlk, hnm, hXx⟩ := id C
  have hk99 : KD x < 99 := by rw [hkx]; omega
  have hk20 : KD x < 20 := by rw [hkx]; omega
  have hx0 : x ≠ 0 := fun e => by subst e; rw [KD_0] at hkx; omega
  have hg : ∀ y, μ 0 y ≠ 0 → mnw μ x 0 y ≠ 0 := fun y hy => by rw [mnw_0 hx0]; split <;> omega
  have hnew : mnw μ x 0 x ≠ 0 := by rw [mnw_0 hx0, if_pos rfl]; omega
  refine va_new (ci := ci) (fs := (List.range (NF ci)).map fun j : Nat => cv ad (FT ci (j : Int), 0)) hx hb hts (cl_in hci) (tyOf ci) (cl_ty hci) hown (hts _ hcl) (hts _ (cl_ins hci).1) (hts _ (cl_ins hci).2) hK.1 hR.1 hR.2.1 hS (fun q hq => Or.inr hq) (cl_at hci) ?_ (show cells + 1 ≤ F.2.2.1 by omega) (show slots + (clOf ci).2.2 ≤ F.2.2.2 by rw [cl_n hci]; omega) d (fun q H1 hP1 hD1 hS1 => ?_)
  · intro j hj
    rw [cl_n hci] at hj
    show _ = List.getD _ j Value.null
    rw [List.getD_eq_getElem?_getD, List.getElem?_map, List.getElem?_range hj]
    show defaultValue (tyOf ci j) = cv ad (FT ci (j : Int), 0)
    have hh : tc (tyOf ci j) < 4 := by have := FT_4 ci (by omega) (j : Int) (by omega) (fun _ => by omega); rwa [FT_o hci] at this
    rw [FT_o hci]
    show defaultValue (tyOf ci j) = cv ad (tc (tyOf ci j), 0)
    generalize tyOf ci j = ty at hh
    cases ty <;> first | rfl | (exfalso; revert hh; decide)
  · have hadn := fun q => (show ∀ y ∈ ids0, ad1 ad x q y = ad0 y ∧ y ∈ ids ++ [x] from fun y hy => ⟨by rw [ad1_n (fun e => by subst e; exact hR.live (ha _ hy).2 hfree)]; exact (ha y hy).1, List.mem_append_left _ (ha y hy).2⟩)
    have hadn := hadn q
    have hR1 := Rep.new (q := q) hR hfree hk20 (E := .inr (ci, (List.range (NF ci)).map fun j : Nat => cv ad (FT ci (j : Int), 0))) (by
      rw [ent_o (by rw [hkx]; exact hci), hkx]
      rfl) hP1 hD1
    have K1 := K p e s m args below meth c D cA adK adV ad0 ids0 C (ad1 ad x q) (ids ++ [x]) H1 locs (cells + 1) (slots + NF ci) ls hR1 hadn (fun z hz => okv_grow (hL z hz) hg) (ok_c (v := (3, x)) (Or.inr (Or.inr hnew)) (fun z hz => okv_grow (hst z hz) hg)) hS1 (by rw [mapL_cv_new hfree hk99 hL]; exact hl) (by omega) (by omega)
    rw [List.map_cons, cv_r _ hx0, ad1_s, map_cv_new hfree hk99 hst] at K1
    rw [cl_n hci]
    exact K1
theorem GM_newi {l : Launch} {M : MI} {F : FI} {k n pc : Nat} {L : List (Nat × AV)} {st : List AV} {μ : Mm} (x : Int) {N : Nat} (d : decode M.2.1 pc = .ok (.newarray .int, 2)) (hkx : KD x = 12) (hlx : LN x = (N : Int)) (hN : N ≤ 65536) (hfree : μ 0 x = 0) (K : GM l M F k n (pc + 2) L ((3, x) :: st) (mnw μ x)) : GM l M F (1 + k) (N + n) pc L ((0, (N : Int)) :: st) μ := by
  intro p e s m args below meth c D cA adK adV ad0 ids0 C ad ids H locs cells slots ls hR ha hL hst hS hl hk hn
  obtain ⟨hx, hb, hml, hown, hts, hK, hr, hlk, hnm, hXx⟩ := id C
  obtain ⟨hvN, hst⟩ := okc hst
  have hk99 : KD x < 99 := by rw [hkx]; omega
  have hk20 : KD x < 20 := by rw [hkx]; omega
  have hx0 : x ≠ 0 := fun e => by subst e; rw [KD_0] at hkx; omega
  have hg : ∀ y, μ 0 y ≠ 0 → mnw μ x 0 y ≠ 0 := fun y hy => by rw [mnw_0 hx0]; split <;> omega
  have hnew : mnw μ x 0 x ≠ 0 := by rw [mnw_0 hx0, if_pos rfl]; omega
  refine va_newa (atype := .int) (a0 := (N, .inl fun _ => Int32.ofInt 0)) hx hb (hts _ ka_int) (ty := .int) rfl hK.1 hR.1 hR.2.1 hS (fun q hq => Or.inr hq) (fun cA => rfl) (fun q => by rw [← i32_0, i32_lt hvN R32_0] at q; omega) (by rw [i32_n hvN]; rfl) (by show N * componentBytes .int ≤ _; simp only [componentBytes]; omega) (show cells + 1 ≤ F.2.2.1 by omega) (show slots + N ≤ F.2.2.2 by omega) d (fun q cA1 H1 hK1 hP1 hD1 hS1 => ?_)
  have ec : cA1 = cA 12 := by
    have h1 := (hK1.2 8 (cA1, .int) rfl).2
    have h2 := (hK1.2 0 (cA 12, .int) rfl).2
    exact Option.some.inj (h1.symm.trans h2)
  subst ec
  have hadn := (show ∀ y ∈ ids0, ad1 ad x q y = ad0 y ∧ y ∈ ids ++ [x] from fun y hy => ⟨by rw [ad1_n (fun e => by subst e; exact hR.live (ha _ hy).2 hfree)]; exact (ha y hy).1, List.mem_append_left _ (ha y hy).2⟩)
  have hR1 := Rep.new (q := q) hR hfree hk20 (by rw [ent_i hkx, hlx]; rfl) hP1 hD1
  have K1 := K p e s m args below meth c D cA adK adV ad0 ids0 C (ad1 ad x q) (ids ++ [x]) H1 locs (cells + 1) (slots + N) ls hR1 hadn (fun z hz => okv_grow (hL z hz) hg) (ok_c (v := (3, x)) (Or.inr (Or.inr hnew)) (fun z hz => okv_grow (hst z hz) hg)) hS1 (by rw [mapL_cv_new hfree hk99 hL]; exact hl) (by omega) (by omega)
  rw [List.map_cons, cv_r _ hx0, ad1_s, map_cv_new hfree hk99 hst] at K1
  exact K1
theorem GM_newz {l : Launch} {M : MI} {F : FI} {k n pc : Nat} {L : List (Nat × AV)} {st : List AV} {μ : Mm} (x : Int) {N : Nat} (d : decode M.2.1 pc = .ok (.newarray .boolean, 2)) (hkx : KD x = 14) (hlx : LN x = (N : Int)) (hN : N ≤ 65536) (hfree : μ 0 x = 0) (K : GM l M F k n (pc + 2) L ((3, x) :: st) (mnw μ x)) : GM l M F (1 + k) (N + n) pc L ((0, (N : Int)) :: st) μ := by
  intro p e s m args below meth c D cA adK adV ad0 ids0 C ad ids H locs cells slots ls hR ha hL hst hS hl hk hn
  obtain ⟨hx, hb, hml, hown, hts, hK, hr, hlk, hnm, hXx⟩ := id C
  obtain ⟨hvN, hst⟩ := okc hst
  have hk99 : KD x < 99 := by rw [hkx]; omega
  have hk20 : KD x < 20 := by rw [hkx]; omega
  have hx0 : x ≠ 0 := fun e => by subst e; rw [KD_0] at hkx; omega
  have hg : ∀ y, μ 0 y ≠ 0 → mnw μ x 0 y ≠ 0 := fun y hy => by rw [mnw_0 hx0]; split <;> omega
  have hnew : mnw μ x 0 x ≠ 0 := by rw [mnw_0 hx0, if_pos rfl]; omega
  refine va_newa (atype := .boolean) (a0 := (N, .inl fun _ => Int32.ofInt 0)) hx hb (hts _ ka_boolean) (ty := .boolean) rfl hK.1 hR.1 hR.2.1 hS (fun q hq => Or.inr hq) (fun cA => rfl) (fun q => by rw [← i32_0, i32_lt hvN R32_0] at q; omega) (by rw [i32_n hvN]; rfl) (by show N * componentBytes .boolean ≤ _; simp only [componentBytes]; omega) (show cells + 1 ≤ F.2.2.1 by omega) (show slots + N ≤ F.2.2.2 by omega) d (fun q cA1 H1 hK1 hP1 hD1 hS1 => ?_)
  have ec : cA1 = cA 14 := by
    have h1 := (hK1.2 8 (cA1, .boolean) rfl).2
    have h2 := (hK1.2 2 (cA 14, .boolean) rfl).2
    exact Option.some.inj (h1.symm.trans h2)
  subst ec
  have hadn := (show ∀ y ∈ ids0, ad1 ad x q y = ad0 y ∧ y ∈ ids ++ [x] from fun y hy => ⟨by rw [ad1_n (fun e => by subst e; exact hR.live (ha _ hy).2 hfree)]; exact (ha y hy).1, List.mem_append_left _ (ha y hy).2⟩)
  have hR1 := Rep.new (q := q) hR hfree hk20 (by rw [ent_z hkx, hlx]; rfl) hP1 hD1
  have K1 := K p e s m args below meth c D cA adK adV ad0 ids0 C (ad1 ad x q) (ids ++ [x]) H1 locs (cells + 1) (slots + N) ls hR1 hadn (fun z hz => okv_grow (hL z hz) hg) (ok_c (v := (3, x)) (Or.inr (Or.inr hnew)) (fun z hz => okv_grow (hst z hz) hg)) hS1 (by rw [mapL_cv_new hfree hk99 hL]; exact hl) (by omega) (by omega)
  rw [List.map_cons, cv_r _ hx0, ad1_s, map_cv_new hfree hk99 hst] at K1
  exact K1
theorem GM_newl {l : Launch} {M : MI} {F : FI} {k n pc : Nat} {L : List (Nat × AV)} {st : List AV} {μ : Mm} (x : Int) {N : Nat} (d : decode M.2.1 pc = .ok (.newarray .long, 2)) (hkx : KD x = 13) (hlx : LN x = (N : Int)) (hN : N ≤ 65536) (hfree : μ 0 x = 0) (K : GM l M F k n (pc + 2) L ((3, x) :: st) (mnw μ x)) : GM l M F (1 + k) (N + n) pc L ((0, (N : Int)) :: st) μ := by
  intro p e s m args below meth c D cA adK adV ad0 ids0 C ad ids H locs cells slots ls hR ha hL hst hS hl hk hn
  obtain ⟨hx, hb, hml, hown, hts, hK, hr, hlk, hnm, hXx⟩ := id C
  obtain ⟨hvN, hst⟩ := okc hst
  have hk99 : KD x < 99 := by rw [hkx]; omega
  have hk20 : KD x < 20 := by rw [hkx]; omega
  have hx0 : x ≠ 0 := fun e => by subst e; rw [KD_0] at hkx; omega
  have hg : ∀ y, μ 0 y ≠ 0 → mnw μ x 0 y ≠ 0 := fun y hy => by rw [mnw_0 hx0]; split <;> omega
  have hnew : mnw μ x 0 x ≠ 0 := by rw [mnw_0 hx0, if_pos rfl]; omega
  refine va_newa (atype := .long) (a0 := (N, .inr (.inl fun _ => Int64.ofInt 0))) hx hb (hts _ ka_long) (ty := .long) rfl hK.1 hR.1 hR.2.1 hS (fun q hq => Or.inr hq) (fun cA => rfl) (fun q => by rw [← i32_0, i32_lt hvN R32_0] at q; omega) (by rw [i32_n hvN]; rfl) (by show N * componentBytes .long ≤ _; simp only [componentBytes]; omega) (show cells + 1 ≤ F.2.2.1 by omega) (show slots + N ≤ F.2.2.2 by omega) d (fun q cA1 H1 hK1 hP1 hD1 hS1 => ?_)
  have ec : cA1 = cA 13 := by
    have h1 := (hK1.2 8 (cA1, .long) rfl).2
    have h2 := (hK1.2 1 (cA 13, .long) rfl).2
    exact Option.some.inj (h1.symm.trans h2)
  subst ec
  have hadn := (show ∀ y ∈ ids0, ad1 ad x q y = ad0 y ∧ y ∈ ids ++ [x] from fun y hy => ⟨by rw [ad1_n (fun e => by subst e; exact hR.live (ha _ hy).2 hfree)]; exact (ha y hy).1, List.mem_append_left _ (ha y hy).2⟩)
  have hR1 := Rep.new (q := q) hR hfree hk20 (by rw [ent_l hkx, hlx]; rfl) hP1 hD1
  have K1 := K p e s m args below meth c D cA adK adV ad0 ids0 C (ad1 ad x q) (ids ++ [x]) H1 locs (cells + 1) (slots + N) ls hR1 hadn (fun z hz => okv_grow (hL z hz) hg) (ok_c (v := (3, x)) (Or.inr (Or.inr hnew)) (fun z hz => okv_grow (hst z hz) hg)) hS1 (by rw [mapL_cv_new hfree hk99 hL]; exact hl) (by omega) (by omega)
  rw [List.map_cons, cv_r _ hx0, ad1_s, map_cv_new hfree hk99 hst] at K1
  exact K1
theorem GM_newr {l : Launch} {M : MI} {F : FI} {k n pc : Nat} {L : List (Nat × AV)} {st : List AV} {μ : Mm} {i : Nat} (kd ci : Nat) (x : Int) {N : Nat} (hkd : 15 ≤ kd) (hkd2 : kd < 20) (hty : ∀ cA : Nat → ClassId, (tysOf cA)[kd - 12]? = some (cA kd, .object (clOf ci).1)) (hao : (clOf ci).1 ∈ [RX2, RX4, RX6, RX7, RX8]) (hcl : Cond.classLink M.1 i (clOf ci).1 ∈ Wt) (d : decode M.2.1 pc = .ok (.anewarray i, 3)) (hkx : KD x = kd) (hlx : LN x = (N : Int)) (hN : N ≤ 65536) (hfree : μ 0 x = 0) (K : GM l M F k n (pc + 3) L ((3, x) :: st) (mnw μ x)) : GM l M F (1 + k) (N + n) pc L ((0, (N : Int)) :: st) μ := by
  intro p e s m args below meth c D cA adK adV ad0 ids0 C ad ids H locs cells slots ls hR ha hL hst hS hl hk hn
  obtain ⟨hx, hb, hml, hown, hts, hK, hr, hlk, hnm, hXx⟩ := id C
  obtain ⟨hvN, hst⟩ := okc hst
  have hk99 : KD x < 99 := by rw [hkx]; omega
  have hk20 : KD x < 20 := by rw [hkx]; omega
  have hx0 : x ≠ 0 := fun e => by subst e; rw [KD_0] at hkx; omega
  have hg : ∀ y, μ 0 y ≠ 0 → mnw μ x 0 y ≠ 0 := fun y hy => by rw [mnw_0 hx0]; split <;> omega
  have hnew : mnw μ x 0 x ≠ 0 := by rw [mnw_0 hx0, if_pos rfl]; omega
  refine va_newq hx hb hown (hts _ hcl) (hK.2.2.2.2.2.1 _ hao) hK.1 hR.1 hR.2.1 hS (fun q hq => Or.inr hq) (fun q => by rw [← i32_0, i32_lt hvN R32_0] at q; omega) (show _ = N by rw [i32_n hvN]; rfl) (by omega) (show cells + 1 ≤ F.2.2.1 by omega) (show slots + N ≤ F.2.2.2 by omega) d (fun q cA1 H1 hK1 hP1 hD1 hS1 => ?_)
  have ec : cA1 = cA kd := by
    obtain ⟨_, _, _, _, _, h1⟩ := (hK1.2 8 (cA1, .object (clOf ci).1) rfl).2
    obtain ⟨_, _, _, _, _, h2⟩ := (hK.1.2 (kd - 12) (cA kd, .object (clOf ci).1) (hty cA)).2
    exact Option.some.inj (h1.symm.trans h2)
  subst ec
  have hadn := (show ∀ y ∈ ids0, ad1 ad x q y = ad0 y ∧ y ∈ ids ++ [x] from fun y hy => ⟨by rw [ad1_n (fun e => by subst e; exact hR.live (ha _ hy).2 hfree)]; exact (ha y hy).1, List.mem_append_left _ (ha y hy).2⟩)
  have hR1 := Rep.new (q := q) hR hfree hk20 (by
    rw [ent_r hkx hkd, hlx]
    show Sum.inl (cA kd, N, Sum.inr (Sum.inr (Sum.inr (Sum.inr _)))) = _
    congr 7
    funext j
    rw [if_neg (fun h => h.2 rfl)]) hP1 hD1
  have K1 := K p e s m args below meth c D cA adK adV ad0 ids0 C (ad1 ad x q) (ids ++ [x]) H1 locs (cells + 1) (slots + N) ls hR1 hadn (fun z hz => okv_grow (hL z hz) hg) (ok_c (v := (3, x)) (Or.inr (Or.inr hnew)) (fun z hz => okv_grow (hst z hz) hg)) hS1 (by rw [mapL_cv_new hfree hk99 hL]; exact hl) (by omega) (by omega)
  rw [List.map_cons, cv_r _ hx0, ad1_s, map_cv_new hfree hk99 hst] at K1
  exact K1
/-! ===== ends ===== -/
theorem Qf_end {D : va_G} {cA : Nat → ClassId} {adK : Nat → Nat} {ad0 ad : Int → Nat} {ids0 ids : List Int} {F : FI} {args : Array Value} {s t : State} {H : Heap} {locs : List Loc} {o : Outcome} {v : List AV} {μ : Mm} (hF : F.1 = v ∧ F.2.1 = μ) (ho : o = .returned (v.head?.map (cv ad))) (hv : ∀ u ∈ v, okv (μ 0) u) (ha : ∀ x ∈ ids0, ad x = ad0 x ∧ x ∈ ids) (hR : Rep D cA adK ad ids μ (Aof ad0 ids0 s.heap.size) H) (hS : va_S (Aof ad0 ids0 s.heap.size) s.heap H locs) (ht : t.heap = H) : Qf D cA adK ad0 ids0 F args s o t := by
  refine ⟨⟨ad, ids, ha, by rw [hF.1]; exact ho, by rw [hF.1, hF.2]; exact hv, by rw [hF.2, ht]; exact hR⟩, hS.F ht⟩
theorem GM_iret {l : Launch} {M : MI} {F : FI} {k n pc : Nat} {L : List (Nat × AV)} {μ : Mm} {x : Int} (d : decode M.2.1 pc = .ok (.ireturn, 1)) (hret : M.2.2.2.1 = some .int) (hF : F.1 = [(0, x)] ∧ F.2.1 = μ) : GM l M F k n pc L [(0, x)] μ := by
  intro p e s m args below meth c D cA adK adV ad0 ids0 C ad ids H locs cells slots ls hR ha hL hst hS hl hk hn
  obtain ⟨hx, hb, hml, hown, hts, hK, hr, hlk, hnm, hXx⟩ := id C
  refine W.widen (k := F.2.2.1) (n := F.2.2.2) (by omega) (by omega) ?_
  exact W.iret hx hb (hr.trans hret) (fun t ht _ => Qf_end hF rfl hst ha hR hS ht) hS.2.2 d
theorem GM_lret {l : Launch} {M : MI} {F : FI} {k n pc : Nat} {L : List (Nat × AV)} {μ : Mm} {x : Int} (d : decode M.2.1 pc = .ok (.lreturn, 1)) (hret : M.2.2.2.1 = some .long) (hF : F.1 = [(2, x)] ∧ F.2.1 = μ) : GM l M F k n pc L [(2, x)] μ := by
  intro p e s m args below meth c D cA adK adV ad0 ids0 C ad ids H locs cells slots ls hR ha hL hst hS hl hk hn
  obtain ⟨hx, hb, hml, hown, hts, hK, hr, hlk, hnm, hXx⟩ := id C
  refine W.widen (k := F.2.2.1) (n := F.2.2.2) (by omega) (by omega) ?_
  exact W.lret hx hb (hr.trans hret) (fun t ht _ => Qf_end hF rfl hst ha hR hS ht) hS.2.2 d
theorem GM_zret {l : Launch} {M : MI} {F : FI} {k n pc : Nat} {L : List (Nat × AV)} {μ : Mm} {x : Int} (d : decode M.2.1 pc = .ok (.ireturn, 1)) (hret : M.2.2.2.1 = some .boolean) (hz : x = 0 ∨ x = 1) (hF : F.1 = [(0, x)] ∧ F.2.1 = μ) : GM l M F k n pc L [(0, x)] μ := by
  intro p e s m args below meth c D cA adK adV ad0 ids0 C ad ids H locs cells slots ls hR ha hL hst hS hl hk hn
  obtain ⟨hx, hb, hml, hown, hts, hK, hr, hlk, hnm, hXx⟩ := id C
  refine W.widen (k := F.2.2.1) (n := F.2.2.2) (by omega) (by omega) ?_
  exact W.zret hx hb (hr.trans hret) (by rcases hz with rfl | rfl <;> rfl) (fun t ht _ => Qf_end hF rfl hst ha hR hS ht) hS.2.2 d
theorem GM_aret {l : Launch} {M : MI} {F : FI} {k n pc : Nat} {L : List (Nat × AV)} {μ : Mm} {x : Int} (C : String) (d : decode M.2.1 pc = .ok (.areturn, 1)) (hret : M.2.2.2.1 = some (.object C)) (hF : F.1 = [(3, x)] ∧ F.2.1 = μ) : GM l M F k n pc L [(3, x)] μ := by
  intro p e s m args below meth c D cA adK adV ad0 ids0 C1 ad ids H locs cells slots ls hR ha hL hst hS hl hk hn
  obtain ⟨hx, hb, hml, hown, hts, hK, hr, hlk, hnm, hXx⟩ := id C1
  refine W.widen (k := F.2.2.1) (n := F.2.2.2) (by omega) (by omega) ?_
  exact W.aret hx hb (hr.trans hret) (Or.inl ⟨C, rfl⟩) (v := cv ad (3, x)) (Classical.byCases (p := x = 0) (fun h0 => by subst h0; exact Or.inl rfl) (fun h0 => Or.inr ⟨_, cv_r ad h0⟩)) (fun t ht _ => Qf_end hF rfl hst ha hR hS ht) hS.2.2 d
theorem GM_vret {l : Launch} {M : MI} {F : FI} {k n pc : Nat} {L : List (Nat × AV)} {μ : Mm} (d : decode M.2.1 pc = .ok (.return_, 1)) (hret : M.2.2.2.1 = none) (hF : F.1 = [] ∧ F.2.1 = μ) : GM l M F k n pc L [] μ := by
  intro p e s m args below meth c D cA adK adV ad0 ids0 C ad ids H locs cells slots ls hR ha hL hst hS hl hk hn
  obtain ⟨hx, hb, hml, hown, hts, hK, hr, hlk, hnm, hXx⟩ := id C
  refine W.widen (k := F.2.2.1) (n := F.2.2.2) (by omega) (by omega) ?_
  exact W.vret hx hb (hr.trans hret) (fun t ht _ => Qf_end hF rfl hst ha hR hS ht) hS.2.2 d
/-! ===== contracts ===== -/
def alv : Nat → List AV → List (Nat × AV)
  | _, [] => []
  | i, v :: r => (i, v) :: alv (if v.1 = 2 then i + 2 else i + 1) r
theorem cat_iff (ad : Int → Nat) (v : AV) : ((cv ad v).category = 2) ↔ v.1 = 2 := by
  have h := cv_cat ad v
  constructor
  · intro q; rw [q] at h; exact by simpa using h.symm
  · intro q; rw [q] at h; exact by simpa using h
theorem alv_cv (ad : Int → Nat) (av : List AV) : ∀ i, lv_args i (av.map (cv ad)) = (alv i av).map fun q => (q.1, cv ad q.2) := by
  induction av with
  | nil => intro i; rfl
  | cons v r ih =>
    intro i
    show (i, cv ad v) :: lv_args (if (cv ad v).category = 2 then i + 2 else i + 1) (r.map (cv ad)) = (i, cv ad v) :: (alv (if v.1 = 2 then i + 2 else i + 1) r).map fun q => (q.1, cv ad q.2)
    rw [ih]
    by_cases h : v.1 = 2
    · rw [if_pos h, if_pos ((cat_iff ad v).mpr h)]
    · rw [if_neg h, if_neg (fun q => h ((cat_iff ad v).mp q))]
def wdl (av : List AV) : Nat := (av.map fun v => if v.1 = 2 then 2 else 1).sum
theorem sl_len (ad : Int → Nat) (av : List AV) : (lg_sl (av.map (cv ad))).length = wdl av := by
  induction av with
  | nil => rfl
  | cons v r ih =>
    show (List.flatMap _ _).length = _
    unfold lg_sl at ih
    rw [List.map_cons, List.flatMap_cons, List.length_append, ih]
    unfold wdl
    rw [List.map_cons, List.sum_cons]
    by_cases h : v.1 = 2
    · rw [if_pos h, if_pos ((cat_iff ad v).mpr h)]; rfl
    · rw [if_neg h, if_neg (fun q => h ((cat_iff ad v).mp q))]; rfl
theorem cat_sum (ad : Int → Nat) (av : List AV) : ((av.map (cv ad)).map fun v => v.category).sum = wdl av := by
  induction av with
  | nil => rfl
  | cons v r ih =>
    unfold wdl at ih ⊢
    rw [List.map_cons, List.map_cons, List.map_cons, List.sum_cons, List.sum_cons, ih]
    by_cases h : v.1 = 2
    · rw [if_pos h, (cat_iff ad v).mpr h]
    · rw [if_neg h, cv_c1 ad h]
theorem alv_ok {lv : Int → Int} {av : List AV} (h : ∀ v ∈ av, okv lv v) : ∀ i, ∀ q ∈ alv i av, okv lv q.2 := by
  induction av with
  | nil => intro i q hq; cases hq
  | cons v r ih =>
    intro i q hq
    rcases List.mem_cons.mp hq with rfl | hq
    · exact (okc h).1
    · exact ih (okc h).2 _ q hq
def Ct (l : Launch) (y : MethodName) (M : MI) (av : List AV) (μ : Mm) (F : FI) : Prop :=
  ∀ (D : va_G) (cA : Nat → ClassId) (adK adV : Nat → Nat) (ad0 : Int → Nat) (ids0 : List Int) (sz : Nat),
  Met l y (Cond.code y M.2.1 M.2.2.1 M.2.2.2.1 :: Wt) (rmO M F) (va_Pc (av.map (cv ad0)) (fun U => U.heap.size = sz ∧ Kx D cA adK adV (Aof ad0 ids0 sz) U ∧ Rep D cA adK ad0 ids0 μ (Aof ad0 ids0 sz) U.heap ∧ ∀ v ∈ av, okv (μ 0) v)) (Qf D cA adK ad0 ids0 F) F.2.2.1 F.2.2.2 (Aof ad0 ids0 sz)
theorem Met_ofWF {l : Launch} {y : MethodName} {ws ws' : List Cond} {rm : Room} {Pc : Array Value → State → Prop} {Qc : Array Value → State → Outcome → State → Prop} {mc ms : Nat} {free : Addr → Prop} {cc : ByteArray} {maxL : Nat} {ret : Option FieldType}
    (hy : plainFor y = true) (hw : ws = Cond.code y cc maxL ret :: ws')
    (body : ∀ p e s m args below meth c s₁, BodyLoose p l y (headSpec ws rm) cc maxL ret e s m args below meth c s₁ → c.maxLocals = maxL → Pc args s →
      W p l e (headSpec ws rm).room s m args below meth c s.heap [] 0 0 (MQ below Qc args s mc ms free) (entryFrame m args maxL)) : Met l y ws rm Pc Qc mc ms free := by
  refine MetFree.of_bodySF (code := cc) (maxLocals := maxL) (ret := ret) hy ?_ ?_
  · intro args s m h hn
    obtain ⟨meth, c, h1, h2, h3, h4, h5, h6, -, -⟩ := Cond.code_spec hn (atoms_spec (ws := ws) h _ (by rw [hw]; exact List.mem_cons_self))
    exact ⟨meth, c, h1, h2, h3, h4, h5, h6⟩
  · intro p e s m args below meth c s₁ B hml hP _
    have hh0 : s₁.heap = s.heap := by rw [B.state]; rfl
    obtain ⟨t, a1, o, b1, b2, b3⟩ := body p e s m args below meth c s₁ B hml hP s₁ hh0 (Stand.of_body B)
    exact ⟨t, o, a1, b1, b2, ⟨b3.1, b3.2⟩⟩
theorem Ct_of {l : Launch} {y : MethodName} {M : MI} {av : List AV} {μ : Mm} {F : FI} (hy : plainFor y = true) (hM : M.1 = y.cls) (hnm : M.2.2.2.2.1 = y.name) (hlen : wdl av ≤ M.2.2.1) (hXx : ∀ s a A, M.2.2.2.2.2.2.2 s a A) (hG : GM l M F F.2.2.1 F.2.2.2 0 (alv 0 av) [] μ) : Ct l y M av μ F := by
  intro D cA adK adV ad0 ids0 sz
  refine Met_ofWF (cc := M.2.1) (maxL := M.2.2.1) (ret := M.2.2.2.1) hy rfl ?_
  intro p e s m args below meth c s₁ B hml hv
  obtain ⟨rfl, hsz, hK, hRep, hok⟩ := hv
  have hts := atoms_spec (ws := Cond.code y M.2.1 M.2.2.1 M.2.2.2.1 :: Wt) B.pre
  have hown : s.vm.findClass M.1 = some m.cls := by rw [hM]; exact findClass_of_methodNamed B.named
  have hnm2 : meth.name = M.2.2.2.2.1 := by rw [hnm]; exact (name_of_methodNamed B.named B.method).1
  subst hsz
  have hl := lv_entry (av.map (cv ad0)) (n := M.2.2.1) (by rw [sl_len]; exact hlen)
  rw [lg_entry_eq]
  rw [alv_cv] at hl
  exact hG p e s m _ below meth c D cA adK adV ad0 ids0 ⟨B.exec, B.bytes, hml, hown, fun w hw => hts w (List.mem_cons_of_mem _ hw), hK, B.returns, B.notSynchronized, hnm2, hXx _ _ _⟩ ad0 ids0 s.heap [] 0 0 _ hRep (fun x hx => ⟨rfl, hx⟩) (alv_ok hok 0) (fun v hv => by cases hv) va_S.rf hl (by omega) (by omega)
/-! ===== calls ===== -/
theorem Kx.same {D : va_G} {cA : Nat → ClassId} {adK adV : Nat → Nat} {A : Nat → Prop} {u U : State} (hv : u.vm = U.vm) (hh : u.heap = U.heap) (h : Kx D cA adK adV A u) : Kx D cA adK adV A U := by
  obtain ⟨h1, h2, h3, h4, h5, h6, h7⟩ := h
  have hal : u.vm.Alike U.vm := by rw [hv]; exact Vm.Alike.refl _
  refine ⟨h1.moved hal, fun i hi => (h2 i hi).same hv.symm, by rw [← hh]; exact h3.moved hal, by rw [← hh]; exact h4.moved hal, fun q hq => (h5 q hq).same rfl hv, fun C hC => (h6 C hC).moved hal, by rw [← hh]; exact h7.imp (fun q => q.moved hal) (fun q => q.moved hal)⟩
theorem Kx.call {D : va_G} {cA : Nat → ClassId} {adK adV : Nat → Nat} {A B : Nat → Prop} {s U : State} {H : Heap} {locs : List Loc} (hK : Kx D cA adK adV A s) (hS : va_S A s.heap H locs) (hAB : ∀ q, B q → A q) (hU : U.heap = H) (hW : s.WarmedH U.vm) : Kx D cA adK adV B U := by
  obtain ⟨h1, h2, h3, h4, h5, h6, h7⟩ := hK
  refine ⟨h1.moved hW.alike, fun i hi => (h2 i hi).warm hW, ?_, ?_, fun q hq => va_Nw.warmM hW (h5 q hq), fun C hC => (h6 C hC).moved hW.alike, ?_⟩
  · rw [hU]; exact ((h3.kept hS.2.1).moved hW.alike).narrow hAB
  · rw [hU]; exact ((h4.kept hS.2.1).moved hW.alike).narrow hAB
  · rw [hU]; exact h7.imp (fun q => ((q.kept hS.2.1).moved hW.alike).narrow hAB) (fun q => ((q.kept hS.2.1).moved hW.alike).narrow hAB)
theorem Aof_sub {D : va_G} {cA : Nat → ClassId} {adK : Nat → Nat} {ad : Int → Nat} {ids : List Int} {μ : Mm} {A : Nat → Prop} {s : State} {H : Heap} {locs : List Loc} (hR : Rep D cA adK ad ids μ A H) (hS : va_S A s.heap H locs) (hA : ∀ q, s.heap.size ≤ q → A q) : ∀ q, Aof ad ids H.size q → A q := by
  intro q h
  rcases h with ⟨x, hx, rfl⟩ | h
  · obtain ⟨j, hj⟩ := List.getElem?_of_mem hx
    exact hR.2.1.2 j _ (wd_get hj)
  · exact hA q (Nat.le_trans hS.1 h)
theorem Rep.self {D : va_G} {cA : Nat → ClassId} {adK : Nat → Nat} {ad : Int → Nat} {ids : List Int} {μ : Mm} {A : Nat → Prop} {H : Heap} (hR : Rep D cA adK ad ids μ A H) (sz : Nat) : Rep D cA adK ad ids μ (Aof ad ids sz) H := by
  refine ⟨hR.1, ⟨hR.2.1.1, fun k q hk => ?_⟩, hR.2.2⟩
  unfold wd at hk
  rw [List.getElem?_map] at hk
  cases h : ids[k]? with
  | none => rw [h] at hk; cases hk
  | some x => rw [h] at hk; cases hk; exact Or.inl ⟨x, List.mem_of_getElem? h, rfl⟩
/-- the words of a method that is called -/
def CWd (y : MethodName) (M : MI) (n : Nat) : Prop := Cond.initialized y.cls ∈ Wt ∧ Cond.code y M.2.1 M.2.2.1 M.2.2.2.1 ∈ Wt ∧ (y.cls ≠ "java/lang/invoke/MethodHandle" ∧ y.cls ≠ "java/lang/invoke/VarHandle") ∧ (parseMethodDescriptor y.desc).map (fun d => d.parameters.length) = some n
def RMo (M' M : MI) : Prop := M'.2.2.2.2.2.1 + 1 ≤ M.2.2.2.2.2.1 ∧ 8 + (M'.2.2.1 + 11) + M'.2.2.2.2.2.2.1 ≤ M.2.2.2.2.2.2.1
theorem CWd.len {y : MethodName} {M : MI} {n : Nat} (h : CWd y M n) : ∀ sig, parseMethodDescriptor y.desc = some sig → n = sig.parameters.length := by
  intro sig hs
  have h2 := h.2.2.2
  rw [hs] at h2
  exact (Option.some.inj h2).symm
/-- behind a call: the same for all ways of calling -/
theorem GM_back {l : Launch} {M : MI} {F F' : FI} {k n pc : Nat} {L : List (Nat × AV)} {st : List AV} {μ : Mm} (K : GM l M F k n (pc + 3) L (F'.1 ++ st) F'.2.1) (hF1 : F'.1.length ≤ 1)
    {p : Program} {e : Env} {s : State} {m : MethodId} {args : Array Value} {below : List Frame} {meth : Method} {c : Code} {D : va_G} {cA : Nat → ClassId} {adK adV : Nat → Nat} {ad0 : Int → Nat} {ids0 : List Int} (C : Cx p s m args meth c D cA adK adV (Aof ad0 ids0 s.heap.size) M)
    {ad : Int → Nat} {ids : List Int} {H : Heap} {locs : List Loc} {cells slots : Nat} {ls : Array Slot} {st0 : List Value} {a : Array Value} (hR : Rep D cA adK ad ids μ (Aof ad0 ids0 s.heap.size) H) (ha : ∀ x ∈ ids0, ad x = ad0 x ∧ x ∈ ids) (hL : ∀ q ∈ L, okv (μ 0) q.2) (hst : ∀ v ∈ st, okv (μ 0) v) (hS : va_S (Aof ad0 ids0 s.heap.size) s.heap H locs) (hl : lv_has ls M.2.2.1 (L.map fun q => (q.1, cv ad q.2))) (hk : cells + (F'.2.2.1 + k) ≤ F.2.2.1) (hn : slots + (F'.2.2.2 + n) ≤ F.2.2.2)
    (hr : va_Run p l e (rmO M F) s m args below meth c H locs cells slots F'.2.2.1 F'.2.2.2 (F0 m pc ls st0) (st.map (cv ad)) (Qf D cA adK ad ids F' a) (Aof ad ids H.size)) :
    W p l e (rmO M F) s m args below meth c H locs cells slots (MQ below (Qf D cA adK ad0 ids0 F) args s F.2.2.1 F.2.2.2 (Aof ad0 ids0 s.heap.size)) (F0 m pc ls st0) := by
  intro T hT X
  obtain ⟨v, st₀, t, T', L1, e0, X', hL1, e1, e2, ⟨⟨ad1, ids1, ha1, ho, hv1, hR1⟩, hF⟩, go⟩ := hr T hT X
  have hsub := Aof_sub hR hS (fun q hq => Or.inr hq)
  rw [e0] at hR1 hF
  have hv : v = F'.1.head?.map (cv ad1) := Outcome.returned.inj ho
  subst hv
  have hlive : ∀ y, μ 0 y ≠ 0 → F'.2.1 0 y ≠ 0 := fun y hy => hR1.live (ha1 y ((hR.2.2.1 y).mpr hy)).2
  have hcv : ∀ u : AV, okv (μ 0) u → cv ad1 u = cv ad u := by
    intro u hu
    obtain ⟨t0, y⟩ := u
    match t0, hu with
    | 0, _ => rfl
    | 1, _ => rfl
    | 2, _ => rfl
    | 3, hu =>
      show (if y = 0 then Value.null else .ref (ad1 y)) = if y = 0 then Value.null else .ref (ad y)
      by_cases h0 : y = 0
      · rw [if_pos h0, if_pos h0]
      · rw [if_neg h0, if_neg h0]
        rcases hu with h | h | h
        · exact absurd h h0
        · have h : 1 ≤ y ∧ y ≤ 34 := h
          obtain ⟨i, hi, rfl⟩ : ∃ i : Nat, i < 34 ∧ y = (i : Int) + 1 := ⟨(y - 1).toNat, by omega, by omega⟩
          rw [hR1.2.2.2.2 i hi, hR.2.2.2.2 i hi]
        · rw [(ha1 y ((hR.2.2.1 y).mpr h)).1]
  have hR2 : Rep D cA adK ad1 ids1 F'.2.1 (Aof ad0 ids0 s.heap.size) t.heap := by
    refine ⟨hR1.1, ⟨hR1.2.1.1, fun j q hq => hsub _ ?_⟩, hR1.2.2⟩
    exact hR1.2.1.2 j q hq
  have hS2 : va_S (Aof ad0 ids0 s.heap.size) s.heap t.heap (locs ++ L1) := by
    have hz : H.size ≤ t.heap.size := by have := hF.1; rwa [e0] at this
    refine ⟨Nat.le_trans hS.1 hz, fun q hq hA => ?_, fun q hq => ?_⟩
    · have h2 := hF.2 q (by rw [e0]; exact Nat.lt_of_lt_of_le hq hS.1) (fun h => hA (hsub q h))
      rw [e0] at h2
      rw [h2]; exact hS.2.1 q hq hA
    · rcases List.mem_append.mp hq with h | h
      · exact hS.2.2 q h
      · exact hsub _ (hL1 q h)
  have K1 := K p e s m args below meth c D cA adK adV ad0 ids0 C ad1 ids1 t.heap (locs ++ L1) (cells + F'.2.2.1) (slots + F'.2.2.2) ls hR2 (fun x hx => ⟨by rw [(ha1 x (ha x hx).2).1]; exact (ha x hx).1, (ha1 x (ha x hx).2).2⟩) (fun q hq => okv_grow (hL q hq) hlive) (fun u hu => (List.mem_append.mp hu).elim (fun h => hv1 u h) (fun h => okv_grow (hst u h) hlive)) hS2 (by rw [show (L.map fun q => (q.1, cv ad1 q.2)) = L.map fun q => (q.1, cv ad q.2) from List.map_congr_left fun q hq => by rw [hcv q.2 (hL q hq)]]; exact hl) (by omega) (by omega)
  have e3 : (F'.1 ++ st).map (cv ad1) = (F'.1.head?.map (cv ad1)).toList ++ st.map (cv ad) := by
    rw [List.map_append, show st.map (cv ad1) = st.map (cv ad) from List.map_congr_left fun u hu => hcv u (hst u hu)]
    congr 1
    match hc : F'.1, hF1 with
    | [], _ => rfl
    | [u], _ => rfl
  rw [e3] at K1
  obtain ⟨tf, a1, b1⟩ := K1 T' e1 X'
  exact ⟨tf, go tf a1, b1⟩
theorem Ct_blind {D : va_G} {cA : Nat → ClassId} {adK adV : Nat → Nat} {ad0 : Int → Nat} {ids0 : List Int} {sz : Nat} {av : List AV} {μ : Mm} : FrameBlind (va_Pc (av.map (cv ad0)) (fun U => U.heap.size = sz ∧ Kx D cA adK adV (Aof ad0 ids0 sz) U ∧ Rep D cA adK ad0 ids0 μ (Aof ad0 ids0 sz) U.heap ∧ ∀ v ∈ av, okv (μ 0) v)) := by
  intro a U g mk q
  obtain ⟨q0, q1, qK, qR, qO⟩ := q
  exact ⟨q0, q1, Kx.same (u := U) (U := U.calling g mk a) rfl rfl qK, qR, qO⟩
theorem GM_callV {l : Launch} {M : MI} {F : FI} {k n pc : Nat} {L : List (Nat × AV)} {st : List AV} {μ : Mm} {i : Nat} {y : MethodName} {M' : MI} (av : List AV) {b : Int} {F' : FI} (hC : Ct l y M' ((3, b) :: av) μ F') (hcw : CWd y M' av.length) (ci : Nat) (hci : ci < 12) (hcl : y.cls = (clOf ci).1) (hinm : Cond.instanceMethod y ∈ Wt) (hsel : Cond.selects (clOf ci).1 y y ∈ Wt) (hlink : Cond.methodLink M.1 i y ∈ Wt) (hkb : KD b = ci) (hrm : RMo M' M) (hF1 : F'.1.length ≤ 1) (hrest : wdl st ≤ 8) (d : decode M.2.1 pc = .ok (.invokevirtual i, 3)) (K : GM l M F k n (pc + 3) L (F'.1 ++ st) F'.2.1) : GM l M F (F'.2.2.1 + k) (F'.2.2.2 + n) pc L (av.reverse ++ (3, b) :: st) μ := by
  intro p e s m args below meth c D cA adK adV ad0 ids0 C ad ids H locs cells slots ls hR ha hL hst hS hl hk hn
  obtain ⟨hx, hb, hml, hown, hts, hK, hr, hlk, hnm, hXx⟩ := id C
  have hst2 : ∀ v ∈ st, okv (μ 0) v := fun v hv => hst v (List.mem_append_right _ (List.mem_cons_of_mem _ hv))
  have hav : ∀ v ∈ av, okv (μ 0) v := fun v hv => hst v (List.mem_append_left _ (List.mem_reverse.mpr hv))
  have hvb : okv (μ 0) (3, b) := hst (3, b) (List.mem_append_right _ List.mem_cons_self)
  obtain ⟨hin, hne, q, hq, hg⟩ := hR.there hvb (by rw [hkb]; omega)
  rw [ent_o (by rw [hkb]; exact hci), hkb] at hg
  have hrc := va_recv hK.1 hR.1 (cl_at hci) hg
  have hws : ∀ w ∈ Cond.code y M'.2.1 M'.2.2.1 M'.2.2.2.1 :: Wt, w ∈ Wt := fun w hw => (List.mem_cons.mp hw).elim (fun q => q ▸ hcw.2.1) id
  have hpre : ∀ U : State, U.heap = H → s.WarmedH U.vm → va_Pc (((3, b) :: av).map (cv ad)) (fun U => U.heap.size = H.size ∧ Kx D cA adK adV (Aof ad ids H.size) U ∧ Rep D cA adK ad ids μ (Aof ad ids H.size) U.heap ∧ ∀ v ∈ ((3, b) :: av), okv (μ 0) v) ((((3, b) :: av).map (cv ad)).toArray) U := fun U hU hW => ⟨rfl, by rw [hU], hK.call hS (Aof_sub hR hS (fun q hq => Or.inr hq)) hU hW, by rw [hU]; exact hR.self _, ok_c hvb hav⟩
  rw [List.map_append, List.map_cons, List.map_reverse, cv_r ad hne]
  have ex : (((3, b) :: av).map (cv ad)) = Value.ref (ad b) :: av.map (cv ad) := by rw [List.map_cons, cv_r ad hne]
  rw [ex] at hpre
  have hM := hC D cA adK adV ad ids H.size
  rw [ex] at hM
  exact GM_back K hF1 C hR ha hL hst2 hS hl hk hn (va_runV (n := av.length) (C := (clOf ci).1) ⟨hx, hb, hml, hown, hts⟩ hM ⟨⟨rfl, rfl, hrm.1, hrm.2, pay_in hts (goodWt hws), List.mem_cons_self, hts _ hcw.2.1, hts _ hcw.1, hcw.2.2.1, hcw.len, hts _ hlink⟩, hts _ hinm, hts _ hsel⟩ ⟨(by have q := Ct_blind (D := D) (cA := cA) (adK := adK) (adV := adV) (ad0 := ad) (ids0 := ids) (sz := H.size) (av := ((3, b) :: av)) (μ := μ); rw [ex] at q; exact q), hrc, hpre⟩ rfl (by rw [List.length_map]) hl.1 rfl (lv_room (by rw [cat_sum]; exact hrest)) d ⟨show cells + F'.2.2.1 ≤ F.2.2.1 by omega, show slots + F'.2.2.2 ≤ F.2.2.2 by omega⟩)
theorem GM_callS {l : Launch} {M : MI} {F : FI} {k n pc : Nat} {L : List (Nat × AV)} {st : List AV} {μ : Mm} {i : Nat} {y : MethodName} {M' : MI} (av : List AV) {F' : FI} (hC : Ct l y M' av μ F') (hcw : CWd y M' av.length) (hstt : Cond.static y ∈ Wt) (hlink : Cond.methodLink M.1 i y ∈ Wt) (hrm : RMo M' M) (hF1 : F'.1.length ≤ 1) (hrest : wdl st ≤ 8) (d : decode M.2.1 pc = .ok (.invokestatic i, 3)) (K : GM l M F k n (pc + 3) L (F'.1 ++ st) F'.2.1) : GM l M F (F'.2.2.1 + k) (F'.2.2.2 + n) pc L (av.reverse ++ st) μ := by
  intro p e s m args below meth c D cA adK adV ad0 ids0 C ad ids H locs cells slots ls hR ha hL hst hS hl hk hn
  obtain ⟨hx, hb, hml, hown, hts, hK, hr, hlk, hnm, hXx⟩ := id C
  have hst2 : ∀ v ∈ st, okv (μ 0) v := fun v hv => hst v (List.mem_append_right _ hv)
  have hav : ∀ v ∈ av, okv (μ 0) v := fun v hv => hst v (List.mem_append_left _ (List.mem_reverse.mpr hv))
  have hws : ∀ w ∈ Cond.code y M'.2.1 M'.2.2.1 M'.2.2.2.1 :: Wt, w ∈ Wt := fun w hw => (List.mem_cons.mp hw).elim (fun q => q ▸ hcw.2.1) id
  have hpre : ∀ U : State, U.heap = H → s.WarmedH U.vm → va_Pc (av.map (cv ad)) (fun U => U.heap.size = H.size ∧ Kx D cA adK adV (Aof ad ids H.size) U ∧ Rep D cA adK ad ids μ (Aof ad ids H.size) U.heap ∧ ∀ v ∈ av, okv (μ 0) v) ((av.map (cv ad)).toArray) U := fun U hU hW => ⟨rfl, by rw [hU], hK.call hS (Aof_sub hR hS (fun q hq => Or.inr hq)) hU hW, by rw [hU]; exact hR.self _, hav⟩
  rw [List.map_append, List.map_reverse]
  have hM := hC D cA adK adV ad ids H.size
  exact GM_back K hF1 C hR ha hL hst2 hS hl hk hn (va_runS (n := av.length) ⟨hx, hb, hml, hown, hts⟩ hM ⟨⟨rfl, rfl, hrm.1, hrm.2, pay_in hts (goodWt hws), List.mem_cons_self, hts _ hcw.2.1, hts _ hcw.1, hcw.2.2.1, hcw.len, hts _ hlink⟩, hts _ hstt⟩ ⟨(by have q := Ct_blind (D := D) (cA := cA) (adK := adK) (adV := adV) (ad0 := ad) (ids0 := ids) (sz := H.size) (av := av) (μ := μ); exact q), hpre⟩ rfl (by rw [List.length_map]) hl.1 rfl (lv_room (by rw [cat_sum]; exact hrest)) d ⟨show cells + F'.2.2.1 ≤ F.2.2.1 by omega, show slots + F'.2.2.2 ≤ F.2.2.2 by omega⟩)
theorem GM_callI {l : Launch} {M : MI} {F : FI} {k n pc : Nat} {L : List (Nat × AV)} {st : List AV} {μ : Mm} {i : Nat} {y : MethodName} {M' : MI} (av : List AV) {b : Int} {F' : FI} (hC : Ct l y M' ((3, b) :: av) μ F') (hcw : CWd y M' av.length) (hin1 : y.name = "<init>") (hret : M'.2.2.2.1 = none) (hinm : Cond.instanceMethod y ∈ Wt) (hlink : Cond.methodLink M.1 i y ∈ Wt) (hb0 : b ≠ 0) (hrm : RMo M' M) (hF1 : F'.1.length ≤ 1) (hrest : wdl st ≤ 8) (d : decode M.2.1 pc = .ok (.invokespecial i, 3)) (K : GM l M F k n (pc + 3) L (F'.1 ++ st) F'.2.1) : GM l M F (F'.2.2.1 + k) (F'.2.2.2 + n) pc L (av.reverse ++ (3, b) :: st) μ := by
  intro p e s m args below meth c D cA adK adV ad0 ids0 C ad ids H locs cells slots ls hR ha hL hst hS hl hk hn
  obtain ⟨hx, hb, hml, hown, hts, hK, hr, hlk, hnm, hXx⟩ := id C
  have hst2 : ∀ v ∈ st, okv (μ 0) v := fun v hv => hst v (List.mem_append_right _ (List.mem_cons_of_mem _ hv))
  have hav : ∀ v ∈ av, okv (μ 0) v := fun v hv => hst v (List.mem_append_left _ (List.mem_reverse.mpr hv))
  have hvb : okv (μ 0) (3, b) := hst (3, b) (List.mem_append_right _ List.mem_cons_self)
  have hne : b ≠ 0 := hb0
  have hws : ∀ w ∈ Cond.code y M'.2.1 M'.2.2.1 M'.2.2.2.1 :: Wt, w ∈ Wt := fun w hw => (List.mem_cons.mp hw).elim (fun q => q ▸ hcw.2.1) id
  have hpre : ∀ U : State, U.heap = H → s.WarmedH U.vm → va_Pc (((3, b) :: av).map (cv ad)) (fun U => U.heap.size = H.size ∧ Kx D cA adK adV (Aof ad ids H.size) U ∧ Rep D cA adK ad ids μ (Aof ad ids H.size) U.heap ∧ ∀ v ∈ ((3, b) :: av), okv (μ 0) v) ((((3, b) :: av).map (cv ad)).toArray) U := fun U hU hW => ⟨rfl, by rw [hU], hK.call hS (Aof_sub hR hS (fun q hq => Or.inr hq)) hU hW, by rw [hU]; exact hR.self _, ok_c hvb hav⟩
  rw [List.map_append, List.map_cons, List.map_reverse, cv_r ad hne]
  have ex : (((3, b) :: av).map (cv ad)) = Value.ref (ad b) :: av.map (cv ad) := by rw [List.map_cons, cv_r ad hne]
  rw [ex] at hpre
  have hM := hC D cA adK adV ad ids H.size
  rw [ex] at hM
  exact GM_back K hF1 C hR ha hL hst2 hS hl hk hn (va_runI (n := av.length) (bytes := M'.2.1) (maxL := M'.2.2.1) ⟨hx, hb, hml, hown, hts⟩ hM ⟨⟨rfl, rfl, hrm.1, hrm.2, pay_in hts (goodWt hws), (by rw [← hret]; exact List.mem_cons_self), (by rw [← hret]; exact hts _ hcw.2.1), hts _ hcw.1, hcw.2.2.1, hcw.len, hts _ hlink⟩, hin1, hts _ hinm⟩ ⟨(by have q := Ct_blind (D := D) (cA := cA) (adK := adK) (adV := adV) (ad0 := ad) (ids0 := ids) (sz := H.size) (av := ((3, b) :: av)) (μ := μ); rw [ex] at q; exact q), hpre⟩ rfl (by rw [List.length_map]) hl.1 rfl (lv_room (by rw [cat_sum]; exact hrest)) d ⟨show cells + F'.2.2.1 ≤ F.2.2.1 by omega, show slots + F'.2.2.2 ≤ F.2.2.2 by omega⟩)
theorem GM_callIN {l : Launch} {M : MI} {F : FI} {k n pc : Nat} {L : List (Nat × AV)} {st : List AV} {μ : Mm} {i : Nat} {y : MethodName} {M' : MI} (av : List AV) {b : Int} {F' : FI} (hC : Ct l y M' ((3, b) :: av) μ F') (hcw : CWd y M' av.length) (host : String) (hin1 : y.name = "<init>") (hret : M'.2.2.2.1 = none) (hinm : Cond.instanceMethod y ∈ Wt) (hnest : (M.1, i, y, host) ∈ NWs) (hb0 : b ≠ 0) (hrm : RMo M' M) (hF1 : F'.1.length ≤ 1) (hrest : wdl st ≤ 8) (d : decode M.2.1 pc = .ok (.invokespecial i, 3)) (K : GM l M F k n (pc + 3) L (F'.1 ++ st) F'.2.1) : GM l M F (F'.2.2.1 + k) (F'.2.2.2 + n) pc L (av.reverse ++ (3, b) :: st) μ := by
  intro p e s m args below meth c D cA adK adV ad0 ids0 C ad ids H locs cells slots ls hR ha hL hst hS hl hk hn
  obtain ⟨hx, hb, hml, hown, hts, hK, hr, hlk, hnm, hXx⟩ := id C
  have hst2 : ∀ v ∈ st, okv (μ 0) v := fun v hv => hst v (List.mem_append_right _ (List.mem_cons_of_mem _ hv))
  have hav : ∀ v ∈ av, okv (μ 0) v := fun v hv => hst v (List.mem_append_left _ (List.mem_reverse.mpr hv))
  have hvb : okv (μ 0) (3, b) := hst (3, b) (List.mem_append_right _ List.mem_cons_self)
  have hne : b ≠ 0 := hb0
  have hws : ∀ w ∈ Cond.code y M'.2.1 M'.2.2.1 M'.2.2.2.1 :: Wt, w ∈ Wt := fun w hw => (List.mem_cons.mp hw).elim (fun q => q ▸ hcw.2.1) id
  have hpre : ∀ U : State, U.heap = H → s.WarmedH U.vm → va_Pc (((3, b) :: av).map (cv ad)) (fun U => U.heap.size = H.size ∧ Kx D cA adK adV (Aof ad ids H.size) U ∧ Rep D cA adK ad ids μ (Aof ad ids H.size) U.heap ∧ ∀ v ∈ ((3, b) :: av), okv (μ 0) v) ((((3, b) :: av).map (cv ad)).toArray) U := fun U hU hW => ⟨rfl, by rw [hU], hK.call hS (Aof_sub hR hS (fun q hq => Or.inr hq)) hU hW, by rw [hU]; exact hR.self _, ok_c hvb hav⟩
  rw [List.map_append, List.map_cons, List.map_reverse, cv_r ad hne]
  have ex : (((3, b) :: av).map (cv ad)) = Value.ref (ad b) :: av.map (cv ad) := by rw [List.map_cons, cv_r ad hne]
  rw [ex] at hpre
  have hM := hC D cA adK adV ad ids H.size
  rw [ex] at hM
  exact GM_back K hF1 C hR ha hL hst2 hS hl hk hn (va_runIN (n := av.length) (host := host) (bytes := M'.2.1) (maxL := M'.2.2.1) ⟨hx, hb, hml, hown, hts⟩ hM ⟨⟨⟨rfl, rfl, hrm.1, hrm.2, pay_in hts (goodWt hws), (by rw [← hret]; exact List.mem_cons_self)⟩, (by rw [← hret]; exact hts _ hcw.2.1), hts _ hcw.1, hcw.2.2.1, hcw.len, va_Nw.use rfl (hK.2.2.2.2.1 _ hnest)⟩, hin1, hts _ hinm⟩ ⟨(by have q := Ct_blind (D := D) (cA := cA) (adK := adK) (adV := adV) (ad0 := ad) (ids0 := ids) (sz := H.size) (av := ((3, b) :: av)) (μ := μ); rw [ex] at q; exact q), hpre⟩ rfl (by rw [List.length_map]) hl.1 rfl (lv_room (by rw [cat_sum]; exact hrest)) d ⟨show cells + F'.2.2.1 ≤ F.2.2.1 by omega, show slots + F'.2.2.2 ≤ F.2.2.2 by omega⟩)
theorem GM_callSN {l : Launch} {M : MI} {F : FI} {k n pc : Nat} {L : List (Nat × AV)} {st : List AV} {μ : Mm} {i : Nat} {y : MethodName} {M' : MI} (av : List AV) {F' : FI} (hC : Ct l y M' av μ F') (hcw : CWd y M' av.length) (host : String) (hstt : Cond.static y ∈ Wt) (hnest : (M.1, i, y, host) ∈ NWs) (hrm : RMo M' M) (hF1 : F'.1.length ≤ 1) (hrest : wdl st ≤ 8) (d : decode M.2.1 pc = .ok (.invokestatic i, 3)) (K : GM l M F k n (pc + 3) L (F'.1 ++ st) F'.2.1) : GM l M F (F'.2.2.1 + k) (F'.2.2.2 + n) pc L (av.reverse ++ st) μ := by
  intro p e s m args below meth c D cA adK adV ad0 ids0 C ad ids H locs cells slots ls hR ha hL hst hS hl hk hn
  obtain ⟨hx, hb, hml, hown, hts, hK, hr, hlk, hnm, hXx⟩ := id C
  have hst2 : ∀ v ∈ st, okv (μ 0) v := fun v hv => hst v (List.mem_append_right _ hv)
  have hav : ∀ v ∈ av, okv (μ 0) v := fun v hv => hst v (List.mem_append_left _ (List.mem_reverse.mpr hv))
  have hws : ∀ w ∈ Cond.code y M'.2.1 M'.2.2.1 M'.2.2.2.1 :: Wt, w ∈ Wt := fun w hw => (List.mem_cons.mp hw).elim (fun q => q ▸ hcw.2.1) id
  have hpre : ∀ U : State, U.heap = H → s.WarmedH U.vm → va_Pc (av.map (cv ad)) (fun U => U.heap.size = H.size ∧ Kx D cA adK adV (Aof ad ids H.size) U ∧ Rep D cA adK ad ids μ (Aof ad ids H.size) U.heap ∧ ∀ v ∈ av, okv (μ 0) v) ((av.map (cv ad)).toArray) U := fun U hU hW => ⟨rfl, by rw [hU], hK.call hS (Aof_sub hR hS (fun q hq => Or.inr hq)) hU hW, by rw [hU]; exact hR.self _, hav⟩
  rw [List.map_append, List.map_reverse]
  have hM := hC D cA adK adV ad ids H.size
  exact GM_back K hF1 C hR ha hL hst2 hS hl hk hn (va_runSN (n := av.length) (host := host) ⟨hx, hb, hml, hown, hts⟩ hM ⟨⟨⟨rfl, rfl, hrm.1, hrm.2, pay_in hts (goodWt hws), List.mem_cons_self⟩, hts _ hcw.2.1, hts _ hcw.1, hcw.2.2.1, hcw.len, va_Nw.use rfl (hK.2.2.2.2.1 _ hnest)⟩, hts _ hstt, trivial⟩ ⟨(by have q := Ct_blind (D := D) (cA := cA) (adK := adK) (adV := adV) (ad0 := ad) (ids0 := ids) (sz := H.size) (av := av) (μ := μ); exact q), hpre⟩ rfl (by rw [List.length_map]) hl.1 rfl (lv_room (by rw [cat_sum]; exact hrest)) d ⟨show cells + F'.2.2.1 ≤ F.2.2.1 by omega, show slots + F'.2.2.2 ≤ F.2.2.2 by omega⟩)
theorem GM_objInit {l : Launch} {M : MI} {F : FI} {k n pc : Nat} {L : List (Nat × AV)} {st : List AV} {μ : Mm} {a : Int} {i : Nat} (hlink : Cond.methodLink M.1 i objectInit ∈ Wt) (hinm : Cond.instanceMethod objectInit ∈ Wt) (hcode : Cond.code objectInit ⟨#[0xb1]⟩ 1 none ∈ Wt) (d : decode M.2.1 pc = .ok (.invokespecial i, 3)) (hb0 : a ≠ 0) (hfr : 1 ≤ M.2.2.2.2.2.1 ∧ wdl st + 12 ≤ M.2.2.2.2.2.2.1) (K : GM l M F k n (pc + 3) L st μ) : GM l M F k n pc L ((3, a) :: st) μ := by
  intro p e s m args below meth c D cA adK adV ad0 ids0 C ad ids H locs cells slots ls hR ha hL hst hS hl hk hn
  obtain ⟨hx, hb, hml, hown, hts, hK, hr, hlk, hnm, hXx⟩ := id C
  obtain ⟨hva, hst⟩ := okc hst
  rw [List.map_cons, cv_r ad hb0]
  exact W.objInit hx hb hown (hts _ hlink) (hts _ hinm) (hts _ hcode) rfl (hl.1.trans hml.symm) rfl d hfr.1 (by show 2 * 0 + _ + 12 ≤ M.2.2.2.2.2.2.1; rw [cat_sum]; have := hfr.2; omega) (K p e s m args below meth c D cA adK adV ad0 ids0 C ad ids H locs cells slots ls hR ha hL hst hS hl hk hn)
