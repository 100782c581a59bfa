/-! ===== shallow functions: checks, loops, costs ===== -/
def chk {α : Type} (c : Prop) [Decidable c] (x : Option α) : Option α := if c then x else none
theorem chk_inv {α : Type} {c : Prop} [Decidable c] {x : Option α} {t : α} (h : chk c x = some t) : c ∧ x = some t := by
  unfold chk at h
  split at h
  · exact ⟨by assumption, h⟩
  · cases h
theorem chk_t {α : Type} {c : Prop} [Decidable c] {x : Option α} (h : c) : chk c x = x := by unfold chk; rw [if_pos h]
def lop {σ ρ : Type} (step : σ → Option (σ ⊕ ρ)) : Nat → σ → Option ρ
  | 0, _ => none
  | f + 1, s => match step s with
    | none => none
    | some (.inl s') => lop step f s'
    | some (.inr r) => some r
theorem lop_ind {σ ρ : Type} {step : σ → Option (σ ⊕ ρ)} (Z : σ ⊕ ρ → Prop) (hs : ∀ s t, step s = some t → Z t → Z (.inl s)) : ∀ (f : Nat) (s : σ) (r : ρ), lop step f s = some r → Z (.inr r) → Z (.inl s)
  | 0, s, r, h, _ => by cases h
  | f + 1, s, r, h, z => by
    unfold lop at h
    cases hc : step s with
    | none => rw [hc] at h; cases h
    | some t =>
      rw [hc] at h
      cases t with
      | inl s' => exact hs s _ hc (lop_ind Z hs f s' r h z)
      | inr r' => cases h; exact hs s _ hc z
def pay {α : Type} (c s : Nat) (x : Option (α × Nat × Nat)) : Option (α × Nat × Nat) := x.map fun v => (v.1, c + v.2.1, s + v.2.2)
theorem pay_inv {α : Type} {c s c1 s1 : Nat} {v : α} {x : Option (α × Nat × Nat)} (h : pay c s x = some (v, c1, s1)) : ∃ c2 s2, x = some (v, c2, s2) ∧ c1 = c + c2 ∧ s1 = s + s2 := by
  unfold pay at h
  cases x with
  | none => cases h
  | some w => obtain ⟨w1, w2, w3⟩ := w; cases h; exact ⟨w2, w3, rfl, rfl, rfl⟩
def lopA {σ ρ : Type} (step : σ → Option ((σ ⊕ ρ) × Nat × Nat)) : Nat → σ → Option (ρ × Nat × Nat)
  | 0, _ => none
  | f + 1, s => match step s with
    | none => none
    | some (.inl s', c, n) => pay c n (lopA step f s')
    | some (.inr r, c, n) => some (r, c, n)
theorem lopA_ind {σ ρ : Type} {step : σ → Option ((σ ⊕ ρ) × Nat × Nat)} (Z : Nat → Nat → σ ⊕ ρ → Prop) (hs : ∀ s t c n, step s = some (t, c, n) → ∀ k m, Z k m t → Z (c + k) (n + m) (.inl s)) : ∀ (f : Nat) (s : σ) (r : ρ) (c n : Nat), lopA step f s = some (r, c, n) → ∀ k m, Z k m (.inr r) → Z (c + k) (n + m) (.inl s)
  | 0, s, r, c, n, h, _, _, _ => by cases h
  | f + 1, s, r, c, n, h, k, m, z => by
    unfold lopA at h
    cases hc : step s with
    | none => rw [hc] at h; cases h
    | some t =>
      obtain ⟨t, c0, n0⟩ := t
      rw [hc] at h
      cases t with
      | inl s' =>
        obtain ⟨c2, n2, h2, rfl, rfl⟩ := pay_inv h
        rw [Nat.add_assoc, Nat.add_assoc]
        exact hs s _ _ _ hc _ _ (lopA_ind Z hs f s' r c2 n2 h2 k m z)
      | inr r' => cases h; exact hs s _ _ _ hc k m z
def lm {α : Type} (m : Mm) (f : Mm → Option α) : Option α := f m
theorem lm_inv {α : Type} {m : Mm} {f : Mm → Option α} {t : α} (h : lm m f = some t) : ∃ μ', m = μ' ∧ f μ' = some t := ⟨m, rfl, h⟩
def lt {α : Type} (m : Int) (f : Int → Option α) : Option α := f m
theorem lt_inv {α : Type} {m : Int} {f : Int → Option α} {t : α} (h : lt m f = some t) : ∃ x, m = x ∧ f x = some t := ⟨m, rfl, h⟩
theorem GM_mem {l : Launch} {M : MI} {F : FI} {k n pc : Nat} {L : List (Nat × AV)} {st : List AV} {μ μ' : Mm} (h : μ = μ') (K : GM l M F k n pc L st μ') : GM l M F k n pc L st μ := h ▸ K
theorem GM_top {l : Launch} {M : MI} {F : FI} {k n pc : Nat} {L : List (Nat × AV)} {st : List AV} {μ : Mm} {t : Nat} {x x' : Int} (h : x = x') (K : GM l M F k n pc L ((t, x') :: st) μ) : GM l M F k n pc L ((t, x) :: st) μ := h ▸ K
def FU : Nat := 10000000
theorem R32_b {x : Int} (h : (decide (-2147483648 ≤ x) && decide (x < 2147483648)) = true) : R32 x := by
  simp only [Bool.and_eq_true, decide_eq_true_eq] at h; exact h
theorem R64_b {x : Int} (h : (decide (-9223372036854775808 ≤ x) && decide (x < 9223372036854775808)) = true) : R64 x := by
  simp only [Bool.and_eq_true, decide_eq_true_eq] at h; exact h
theorem lcmp_eq {x y : Int} : lcmp x y = 0 ↔ x = y := by unfold lcmp; split <;> (try split) <;> omega
theorem lcmp_lt {x y : Int} : lcmp x y < 0 ↔ x < y := by unfold lcmp; split <;> (try split) <;> omega
theorem lcmp_ge {x y : Int} : 0 ≤ lcmp x y ↔ y ≤ x := by unfold lcmp; split <;> (try split) <;> omega
theorem lcmp_gt {x y : Int} : 0 < lcmp x y ↔ y < x := by unfold lcmp; split <;> (try split) <;> omega
theorem lcmp_le {x y : Int} : lcmp x y ≤ 0 ↔ x ≤ y := by unfold lcmp; split <;> (try split) <;> omega
theorem GM_callV0 {l : Launch} {M : MI} {F : FI} {k n pc : Nat} {L : List (Nat × AV)} {st : List AV} {μ : Mm} {i : Nat} {y : MethodName} {M' : MI} (av : List AV) {b : Int} {rv : List AV} {μ' : Mm} (hC : Ct l y M' ((3, b) :: av) μ (rv, μ', 0, 0)) (hcw : CWd y M' av.length) (ci : Nat) (hci : ci < 12) (hcl : y.cls = (clOf ci).1) (hinm : Cond.instanceMethod y ∈ Wt) (hsel : Cond.selects (clOf ci).1 y y ∈ Wt) (hlink : Cond.methodLink M.1 i y ∈ Wt) (hkb : KD b = ci) (hrm : RMo M' M) (hF1 : rv.length ≤ 1) (hrest : wdl st ≤ 8) (d : decode M.2.1 pc = .ok (.invokevirtual i, 3)) (K : GM l M F k n (pc + 3) L (rv ++ st) μ') : GM l M F k n pc L (av.reverse ++ (3, b) :: st) μ := by
  have q := GM_callV (F' := (rv, μ', 0, 0)) av hC hcw ci hci hcl hinm hsel hlink hkb hrm hF1 hrest d K
  rw [show (0 : Nat) + k = k from Nat.zero_add k, show (0 : Nat) + n = n from Nat.zero_add n] at q
  exact q
theorem GM_callS0 {l : Launch} {M : MI} {F : FI} {k n pc : Nat} {L : List (Nat × AV)} {st : List AV} {μ : Mm} {i : Nat} {y : MethodName} {M' : MI} (av : List AV) {rv : List AV} {μ' : Mm} (hC : Ct l y M' av μ (rv, μ', 0, 0)) (hcw : CWd y M' av.length) (hstt : Cond.static y ∈ Wt) (hlink : Cond.methodLink M.1 i y ∈ Wt) (hrm : RMo M' M) (hF1 : rv.length ≤ 1) (hrest : wdl st ≤ 8) (d : decode M.2.1 pc = .ok (.invokestatic i, 3)) (K : GM l M F k n (pc + 3) L (rv ++ st) μ') : GM l M F k n pc L (av.reverse ++ st) μ := by
  have q := GM_callS (F' := (rv, μ', 0, 0)) av hC hcw hstt hlink hrm hF1 hrest d K
  rw [show (0 : Nat) + k = k from Nat.zero_add k, show (0 : Nat) + n = n from Nat.zero_add n] at q
  exact q
theorem GM_callI0 {l : Launch} {M : MI} {F : FI} {k n pc : Nat} {L : List (Nat × AV)} {st : List AV} {μ : Mm} {i : Nat} {y : MethodName} {M' : MI} (av : List AV) {b : Int} {rv : List AV} {μ' : Mm} (hC : Ct l y M' ((3, b) :: av) μ (rv, μ', 0, 0)) (hcw : CWd y M' av.length) (hin1 : y.name = "<init>") (hret : M'.2.2.2.1 = none) (hinm : Cond.instanceMethod y ∈ Wt) (hlink : Cond.methodLink M.1 i y ∈ Wt) (hb0 : b ≠ 0) (hrm : RMo M' M) (hF1 : rv.length ≤ 1) (hrest : wdl st ≤ 8) (d : decode M.2.1 pc = .ok (.invokespecial i, 3)) (K : GM l M F k n (pc + 3) L (rv ++ st) μ') : GM l M F k n pc L (av.reverse ++ (3, b) :: st) μ := by
  have q := GM_callI (F' := (rv, μ', 0, 0)) av hC hcw hin1 hret hinm hlink hb0 hrm hF1 hrest d K
  rw [show (0 : Nat) + k = k from Nat.zero_add k, show (0 : Nat) + n = n from Nat.zero_add n] at q
  exact q
theorem GM_callIN0 {l : Launch} {M : MI} {F : FI} {k n pc : Nat} {L : List (Nat × AV)} {st : List AV} {μ : Mm} {i : Nat} {y : MethodName} {M' : MI} (av : List AV) {b : Int} {rv : List AV} {μ' : Mm} (hC : Ct l y M' ((3, b) :: av) μ (rv, μ', 0, 0)) (hcw : CWd y M' av.length) (host : String) (hin1 : y.name = "<init>") (hret : M'.2.2.2.1 = none) (hinm : Cond.instanceMethod y ∈ Wt) (hnest : (M.1, i, y, host) ∈ NWs) (hb0 : b ≠ 0) (hrm : RMo M' M) (hF1 : rv.length ≤ 1) (hrest : wdl st ≤ 8) (d : decode M.2.1 pc = .ok (.invokespecial i, 3)) (K : GM l M F k n (pc + 3) L (rv ++ st) μ') : GM l M F k n pc L (av.reverse ++ (3, b) :: st) μ := by
  have q := GM_callIN (F' := (rv, μ', 0, 0)) av hC hcw host hin1 hret hinm hnest hb0 hrm hF1 hrest d K
  rw [show (0 : Nat) + k = k from Nat.zero_add k, show (0 : Nat) + n = n from Nat.zero_add n] at q
  exact q
theorem GM_callSN0 {l : Launch} {M : MI} {F : FI} {k n pc : Nat} {L : List (Nat × AV)} {st : List AV} {μ : Mm} {i : Nat} {y : MethodName} {M' : MI} (av : List AV) {rv : List AV} {μ' : Mm} (hC : Ct l y M' av μ (rv, μ', 0, 0)) (hcw : CWd y M' av.length) (host : String) (hstt : Cond.static y ∈ Wt) (hnest : (M.1, i, y, host) ∈ NWs) (hrm : RMo M' M) (hF1 : rv.length ≤ 1) (hrest : wdl st ≤ 8) (d : decode M.2.1 pc = .ok (.invokestatic i, 3)) (K : GM l M F k n (pc + 3) L (rv ++ st) μ') : GM l M F k n pc L (av.reverse ++ st) μ := by
  have q := GM_callSN (F' := (rv, μ', 0, 0)) av hC hcw host hstt hnest hrm hF1 hrest d K
  rw [show (0 : Nat) + k = k from Nat.zero_add k, show (0 : Nat) + n = n from Nat.zero_add n] at q
  exact q
/-- n slots copied -/
def mcp (μ : Mm) (a sp b dp n : Int) : Mm := fun x => if x = b then (fun j => if dp ≤ j ∧ j < dp + n then μ a (sp + (j - dp)) else μ b j) else μ x
theorem mcp_n {μ : Mm} {a sp b dp n x : Int} (h : x ≠ b) : mcp μ a sp b dp n x = μ x := by unfold mcp; rw [if_neg h]
theorem GM_copyi {l : Launch} {M : MI} {F : FI} {k n pc : Nat} {L : List (Nat × AV)} {st : List AV} {μ : Mm} {a b sp dp z : Int} {i : Nat} (hlink : Cond.methodLink M.1 i arraycopyName ∈ Wt) (hst0 : Cond.static arraycopyName ∈ Wt) (hini : Cond.initialized "java/lang/System" ∈ Wt) (hnat : Cond.native arraycopyName ∈ Wt) (d : decode M.2.1 pc = .ok (.invokestatic i, 3)) (hfr : 1 ≤ M.2.2.2.2.2.1 ∧ wdl st + (nativeFrameWords "java/lang/System" "arraycopy" 5 + 11) ≤ M.2.2.2.2.2.2.1)
    (hka : KD a = 12) (hkb : KD b = 12) (h1 : 0 ≤ sp ∧ 0 ≤ dp ∧ 0 ≤ z) (h2 : sp + z ≤ LN a) (h3 : dp + z ≤ LN b) (K : GM l M F k n (pc + 3) L st (mcp μ a sp b dp z)) : GM l M F k n pc L ((0, z) :: (0, dp) :: (3, b) :: (0, sp) :: (3, a) :: st) μ := by
  intro p e s m args below meth c D cA adK adV ad0 ids0 C ad ids H locs cells slots ls hR ha hL hst hS hl hk hn
  obtain ⟨hx, hb, hml, hown, hts, hK, hr, hlk, hnm, hXx⟩ := id C
  obtain ⟨hvz, hst⟩ := okc hst
  obtain ⟨hvd, hst⟩ := okc hst
  obtain ⟨hvb, hst⟩ := okc hst
  obtain ⟨hvs, hst⟩ := okc hst
  obtain ⟨hva, hst⟩ := okc hst
  obtain ⟨hin, hne, q, hq, hg⟩ := hR.there hva (by rw [hka]; omega)
  obtain ⟨hinb, hneb, qb, hqb, hgb⟩ := hR.there hvb (by rw [hkb]; omega)
  rw [ent_i hka] at hg
  rw [ent_i hkb] at hgb
  have ez : (Int32.ofInt z).toNatClampNeg = z.toNat := i32_n hvz
  have es : (Int32.ofInt sp).toNatClampNeg = sp.toNat := i32_n hvs
  have ed : (Int32.ofInt dp).toNatClampNeg = dp.toNat := i32_n hvd
  have n0 : ∀ {x : Int}, R32 x → 0 ≤ x → ¬ Int32.ofInt x < 0 := fun hx0 h0 h => by rw [← i32_0, i32_lt hx0 R32_0] at h; omega
  rw [List.map_cons, List.map_cons, List.map_cons, List.map_cons, List.map_cons, cv_r ad hne, cv_r ad hneb]
  refine va_copyi hx hb (hml.trans hl.1.symm) hown (hts _ hlink) (hts _ hnat) (hts _ hst0) (hts _ hini) hK.1 hR.1 hR.2.1 hS q qb 0 0 hg hgb rfl rfl rfl (n0 hvs h1.1) (n0 hvd h1.2.1) (n0 hvz h1.2.2) (by show (Int32.ofInt sp).toNatClampNeg + (Int32.ofInt z).toNatClampNeg ≤ _; rw [es, ez]; omega) (by show (Int32.ofInt dp).toNatClampNeg + (Int32.ofInt z).toNatClampNeg ≤ _; rw [ed, ez]; omega) (fun _ _ => rfl) hfr.1 (by show ((st.map (cv ad)).map fun v => v.category).sum + _ ≤ M.2.2.2.2.2.2.1; rw [cat_sum]; exact hfr.2) d (fun H1 locs1 hP1 hD1 hS1 => ?_)
  have hE : ent cA ad b (mcp μ a sp b dp z b) = .inl (cA 12, (LN b).toNat, .inl (va_cpy (fun j : Nat => Int32.ofInt (μ a (j : Int))) (fun j : Nat => Int32.ofInt (μ b (j : Int))) (Int32.ofInt sp).toNatClampNeg (Int32.ofInt dp).toNatClampNeg (Int32.ofInt z).toNatClampNeg)) := by
    rw [ent_i hkb, es, ed, ez]
    congr 4
    funext j
    unfold va_cpy mcp
    rw [if_pos rfl]
    by_cases hj : dp.toNat ≤ j ∧ j < dp.toNat + z.toNat
    · rw [if_pos hj, if_pos (by omega)]
      rw [show sp + ((j : Int) - dp) = ((sp.toNat + (j - dp.toNat) : Nat) : Int) by omega]
    · rw [if_neg hj, if_neg (by omega)]
  have ew := wd_set (cA := cA) (ad := ad) hR.2.1 hqb (μ' := mcp μ a sp b dp z) (fun x hx1 => mcp_n hx1)
  rw [hE] at ew
  have hP2 : va_P D vwCl (wd cA ad ids (mcp μ a sp b dp z)) H1 := by rw [← ew]; exact hP1
  have hD2 : va_D (Aof ad0 ids0 s.heap.size) (wd cA ad ids (mcp μ a sp b dp z)) := by rw [← ew]; exact hD1
  have e0 : mcp μ a sp b dp z 0 = μ 0 := mcp_n (Ne.symm hneb)
  have hR1 : Rep D cA adK ad ids (mcp μ a sp b dp z) (Aof ad0 ids0 s.heap.size) H1 := by
    refine ⟨hP2, hD2, fun y => by rw [e0]; exact hR.2.2.1 y, fun y hy => ⟨(hR.2.2.2.1 y hy).1, fun j h0 hj => ?_⟩, hR.2.2.2.2⟩
    rw [e0]
    by_cases hyb : y = b
    · subst hyb
      rw [hkb]
      show okv (μ 0) (0, _)
      unfold mcp
      rw [if_pos rfl]
      by_cases hj2 : dp ≤ j ∧ j < dp + z
      · rw [if_pos hj2]
        have := hR.ok hin (j := sp + (j - dp)) (by omega) (by rw [szo_a (by rw [hka]; omega)]; omega)
        rw [hka] at this
        exact this
      · rw [if_neg hj2]
        have := hR.ok hinb h0 hj
        rw [hkb] at this
        exact this
    · rw [mcp_n hyb]; exact hR.ok hy h0 hj
  exact K p e s m args below meth c D cA adK adV ad0 ids0 C ad ids H1 locs1 cells slots ls hR1 ha (by rw [e0]; exact hL) (by rw [e0]; exact hst) hS1 hl hk hn
