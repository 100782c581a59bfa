/-! ===== tokens of a tape ===== -/
def Let (c : Int) : Prop := 97 ≤ c ∧ c ≤ 122
def Dig (c : Int) : Prop := 48 ≤ c ∧ c ≤ 57
def Bla (c : Int) : Prop := c = 10 ∨ c = 32
theorem isLet_0 (c : Int) : isLet c = 0 ↔ ¬Let c := by unfold isLet Let; exact isIn_0
theorem isDig_0 (c : Int) : isDig c = 0 ↔ ¬Dig c := by unfold isDig Dig; exact isIn_0
theorem isBla_0 (c : Int) : isBla c = 0 ↔ ¬Bla c := by
  unfold isBla Bla; split <;> constructor <;> intro h <;> omega
/-- from p on P holds up to q -/
def Rn (P : Int → Prop) (t : Int → Int) (n p q : Int) : Prop := p ≤ q ∧ q ≤ n ∧ (∀ i, p ≤ i → i < q → P (t i)) ∧ (q = n ∨ ¬P (t q))
theorem Rn_u {P : Int → Prop} {t : Int → Int} {n p q r : Int} (h : Rn P t n p q) (k : Rn P t n p r) : q = r := by
  obtain ⟨h1, h2, h3, h4⟩ := h
  obtain ⟨k1, k2, k3, k4⟩ := k
  rcases Int.lt_trichotomy q r with z | z | z
  · exact absurd (k3 q h1 z) (by rcases h4 with w | w; omega; exact w)
  · exact z
  · exact absurd (h3 r k1 z) (by rcases k4 with w | w; omega; exact w)
/-- the token behind p begins at a, ends before q and is of kind k: 0 end, 1 word, 2 number, 3 stop, 4 other -/
def TK (t : Int → Int) (n p a q k : Int) : Prop := Rn Bla t n p a ∧ ((a = n ∧ k = 0 ∧ q = a) ∨ (a < n ∧ Let (t a) ∧ Rn Let t n a q ∧ k = 1) ∨ (a < n ∧ Dig (t a) ∧ Rn Dig t n a q ∧ ((q - a ≤ 3 ∧ k = 2) ∨ (3 < q - a ∧ k = 4))) ∨ (a < n ∧ ¬Let (t a) ∧ ¬Dig (t a) ∧ q = a + 1 ∧ ((t a = 59 ∧ k = 3) ∨ (t a ≠ 59 ∧ k = 4))))
section
variable {t : Int → Int} {n p a q k a' q' k' c : Int}
theorem TK_u (h : TK t n p a q k) (h' : TK t n p a' q' k') : a = a' ∧ q = q' ∧ k = k' := by
  obtain ⟨h0, h⟩ := h
  obtain ⟨g0, g⟩ := h'
  have e := Rn_u h0 g0
  subst e
  refine ⟨rfl, ?_⟩
  have nd : Let (t a) → ¬Dig (t a) := fun x y => by unfold Let at x; unfold Dig at y; omega
  rcases h with ⟨x1, x2, x3⟩ | ⟨x1, x2, x3, x4⟩ | ⟨x1, x2, x3, x4⟩ | ⟨x1, x2, x3, x4, x5⟩ <;> rcases g with ⟨y1, y2, y3⟩ | ⟨y1, y2, y3, y4⟩ | ⟨y1, y2, y3, y4⟩ | ⟨y1, y2, y3, y4, y5⟩ <;> first
    | omega
    | exact absurd y2 (nd x2)
    | exact absurd x2 (nd y2)
    | exact absurd x2 y2
    | exact absurd y2 x2
    | exact absurd x2 y3
    | exact absurd y2 x3
    | (have e2 := Rn_u x3 y3; omega)
theorem TK_b (h : TK t n p a q k) : p ≤ a ∧ a ≤ q ∧ q ≤ n ∧ (k ≠ 0 → a < q) ∧ (k = 0 → a = n) ∧ 0 ≤ k ∧ k ≤ 4 := by
  obtain ⟨⟨b1, b2, _, _⟩, h⟩ := h
  have nl : ∀ P : Int → Prop, P (t a) → Rn P t n a q → a < n → a < q := by
    intro P hp hr hn
    have r1 := hr.1
    rcases hr.2.2.2 with z | z
    · omega
    · rcases Int.lt_or_le a q with w | w
      · exact w
      · have : a = q := by omega
        subst this; exact absurd hp z
  rcases h with ⟨x1, x2, x3⟩ | ⟨x1, x2, x3, x4⟩ | ⟨x1, x2, x3, x4⟩ | ⟨x1, x2, x3, x4, x5⟩
  · omega
  · have := nl Let x2 x3 x1; have := x3.2.1; omega
  · have := nl Dig x2 x3 x1; have := x3.2.1; omega
  · omega
theorem TK_2 (h : TK t n p a q k) (e : k = 2) : q - a ≤ 3 ∧ ∀ i, a ≤ i → i < q → Dig (t i) := by
  obtain ⟨_, h⟩ := h
  rcases h with ⟨x1, x2, x3⟩ | ⟨x1, x2, x3, x4⟩ | ⟨x1, x2, x3, x4⟩ | ⟨x1, x2, x3, x4, x5⟩
  · omega
  · omega
  · exact ⟨by omega, x3.2.2.1⟩
  · omega
theorem TK_1 (h : TK t n p a q k) (e : k = 1) : ∀ i, a ≤ i → i < q → Let (t i) := by
  obtain ⟨_, h⟩ := h
  rcases h with ⟨x1, x2, x3⟩ | ⟨x1, x2, x3, x4⟩ | ⟨x1, x2, x3, x4⟩ | ⟨x1, x2, x3, x4, x5⟩
  · omega
  · exact x3.2.2.1
  · omega
  · omega
/-- the number of the digits -/
def nvN (t : Int → Int) (a : Int) : Nat → Int
  | 0 => 0
  | k + 1 => 10 * nvN t a k + (t (a + k) - 48)
theorem nv_b (m : Nat) (hm : m ≤ 3) (h : ∀ i : Int, 0 ≤ i → i < m → Dig (t (a + i))) : 0 ≤ nvN t a m ∧ nvN t a m ≤ (if m = 0 then 0 else if m = 1 then 9 else if m = 2 then 99 else 999) := by
  have h0 := fun z : (0 : Int) < m => h 0 (by omega) z
  have h1 := fun z : (1 : Int) < m => h 1 (by omega) z
  have h2 := fun z : (2 : Int) < m => h 2 (by omega) z
  unfold Dig at h0 h1 h2
  have : m = 0 ∨ m = 1 ∨ m = 2 ∨ m = 3 := by omega
  rcases this with e | e | e | e
  · subst e; simp [nvN]
  · subst e
    have := h0 (by omega)
    show 0 ≤ 10 * 0 + (t (a + 0) - 48) ∧ 10 * 0 + (t (a + 0) - 48) ≤ 9; omega
  · subst e
    have := h0 (by omega); have := h1 (by omega)
    show 0 ≤ 10 * (10 * 0 + (t (a + 0) - 48)) + (t (a + 1) - 48) ∧ 10 * (10 * 0 + (t (a + 0) - 48)) + (t (a + 1) - 48) ≤ 99; omega
  · subst e
    have := h0 (by omega); have := h1 (by omega); have := h2 (by omega)
    show 0 ≤ 10 * (10 * (10 * 0 + (t (a + 0) - 48)) + (t (a + 1) - 48)) + (t (a + 2) - 48) ∧ 10 * (10 * (10 * 0 + (t (a + 0) - 48)) + (t (a + 1) - 48)) + (t (a + 2) - 48) ≤ 999; omega
theorem nv_9 (m : Nat) (hm : m ≤ 3) (h : ∀ i : Int, 0 ≤ i → i < m → Dig (t (a + i))) : 0 ≤ nvN t a m ∧ nvN t a m ≤ 999 := by
  have := nv_b m hm h
  split at this
  · omega
  · split at this
    · omega
    · split at this <;> omega
theorem nv_s {i : Int} (h : a ≤ i) : nvN t a (i + 1 - a).toNat = 10 * nvN t a (i - a).toNat + (t i - 48) := by
  have e : (i + 1 - a).toNat = (i - a).toNat + 1 := by omega
  rw [e]
  show 10 * nvN t a (i - a).toNat + (t (a + ((i - a).toNat : Int)) - 48) = _
  rw [show a + ((i - a).toNat : Int) = i by omega]
/-- the word of the letters -/
def vwN (t : Int → Int) (a : Int) : Nat → Int
  | 0 => 0
  | k + 1 => 32 * vwN t a k + (t (a + k) - 96)
def vwB : Nat → Int
  | 0 => 0
  | k + 1 => 32 * vwB k + 26
theorem vw_b : ∀ m : Nat, (∀ i : Int, 0 ≤ i → i < m → Let (t (a + i))) → 0 ≤ vwN t a m ∧ vwN t a m ≤ vwB m
  | 0, _ => by simp [vwN, vwB]
  | m + 1, h => by
    have ih := vw_b m (fun i i0 i1 => h i i0 (by omega))
    have := h m (by omega) (by omega)
    unfold Let at this
    show 0 ≤ 32 * vwN t a m + (t (a + m) - 96) ∧ 32 * vwN t a m + (t (a + m) - 96) ≤ 32 * vwB m + 26
    omega
theorem vw_7 : ∀ m : Nat, m ≤ 7 → vwB m ≤ 34359738368 := by decide
theorem vw_s {i : Int} (h : a ≤ i) : vwN t a (i + 1 - a).toNat = 32 * vwN t a (i - a).toNat + (t i - 96) := by
  have e : (i + 1 - a).toNat = (i - a).toNat + 1 := by omega
  rw [e]
  show 32 * vwN t a (i - a).toNat + (t (a + ((i - a).toNat : Int)) - 96) = _
  rw [show a + ((i - a).toNat : Int) = i by omega]
theorem vw_inj {t' : Int → Int} {b : Int} : ∀ m m' : Nat, (∀ i : Int, 0 ≤ i → i < m → Let (t (a + i))) → (∀ i : Int, 0 ≤ i → i < m' → Let (t' (b + i))) → vwN t a m = vwN t' b m' → m = m' ∧ ∀ i : Int, 0 ≤ i → i < m → t (a + i) = t' (b + i)
  | 0, 0, _, _, _ => ⟨rfl, fun i i0 i1 => by omega⟩
  | 0, m' + 1, _, h', e => by
    have bb := vw_b m' (fun i i0 i1 => h' i i0 (by omega))
    have := h' m' (by omega) (by omega)
    unfold Let at this
    have e2 : (0 : Int) = 32 * vwN t' b m' + (t' (b + m') - 96) := e
    omega
  | m + 1, 0, h, _, e => by
    have bb := vw_b m (fun i i0 i1 => h i i0 (by omega))
    have := h m (by omega) (by omega)
    unfold Let at this
    have e2 : 32 * vwN t a m + (t (a + m) - 96) = 0 := e
    omega
  | m + 1, m' + 1, h, h', e => by
    have x := h m (by omega) (by omega)
    have y := h' m' (by omega) (by omega)
    unfold Let at x y
    have e2 : 32 * vwN t a m + (t (a + m) - 96) = 32 * vwN t' b m' + (t' (b + m') - 96) := e
    have ih := vw_inj m m' (fun i i0 i1 => h i i0 (by omega)) (fun i i0 i1 => h' i i0 (by omega)) (by omega)
    refine ⟨by omega, fun i i0 i1 => ?_⟩
    by_cases z : i = m
    · subst z; have := ih.1; subst this; omega
    · exact ih.2 i i0 (by omega)
/-- the letters from a up to q are those of text c -/
def sp (t : Int → Int) (c a q : Int) : Prop := q - a = slen c ∧ ∀ i, 0 ≤ i → i < slen c → t (a + i) = schar c i
def wc (c : Int) : Int := if c ≤ 7 then c else if c = 8 then 11 else if c = 9 then 8 else c + 2
def scI (j i : Nat) : Bool := decide ((i : Int) < slen ((j : Int) + 1) → 97 ≤ schar ((j : Int) + 1) i ∧ schar ((j : Int) + 1) i ≤ 122)
def scO (j : Nat) : Bool := decide (3 ≤ slen ((j : Int) + 1) ∧ slen ((j : Int) + 1) ≤ 7) && upTo (scI j) 7
theorem sc_let : upTo scO 16 = true := by decide +kernel
theorem fours : fX11_four 19 9 26 5 = some 632645 ∧ fX11_four 8 5 9 7 = some 267559 ∧ fX11_four 0 8 20 19 = some 8851 ∧ fX11_four 0 5 25 5 = some 5925 ∧ fX11_four 2 5 14 4 = some 71108 ∧ fX11_four 8 1 26 5 = some 264005 ∧ fX11_four 12 1 11 5 = some 394597 ∧ fX11_four 20 15 23 5 = some 671461 ∧ fX11_four 2 1 18 5 = some 67141 ∧ fX11_four 8 21 13 16 = some 284080 ∧ fX11_four 7 9 22 5 = some 239301 ∧ fX11_four 15 18 4 5 = some 510085 ∧ fX11_four 20 18 21 5 = some 674469 ∧ fX11_four 23 8 15 12 = some 762348 ∧ fX11_four 8 1 12 6 = some 263558 ∧ fX11_four 20 21 18 14 = some 677454 ∧ fX11_four 25 5 1 18 = some 824370 := by decide +kernel
theorem comps : w64 ((w64 (267559 * 32768)) + 8851) = 8767382163 ∧ w64 ((w64 (671461 * 32)) + 18) = 21486770 ∧ w64 ((w64 (510085 * 32)) + 18) = 16322738 ∧ w64 ((w64 (762348 * 32)) + 5) = 24395141 ∧ w64 ((w64 ((w64 (677454 * 1024)) + 160)) + 4) = 693713060 ∧ w64 ((w64 (824370 * 32)) + 19) = 26379859 := by decide +kernel
def wof (v : Int) : Int := if v = 632645 then 1 else if v = 8767382163 then 2 else if v = 5925 then 3 else if v = 71108 then 4 else if v = 264005 then 5 else if v = 394597 then 6 else if v = 21486770 then 7 else if v = 67141 then 8 else if v = 284080 then 11 else if v = 239301 then 12 else if v = 16322738 then 13 else if v = 674469 then 14 else if v = 24395141 then 15 else if v = 263558 then 16 else if v = 693713060 then 17 else if v = 26379859 then 18 else 99
theorem r_wordOf (v : Int) : fX11_wordOf v = some (wof v) := by
  obtain ⟨f0, f1, f2, f3, f4, f5, f6, f7, f8, f9, f10, f11, f12, f13, f14, f15, f16⟩ := fours
  obtain ⟨c0, c1, c2, c3, c4, c5⟩ := comps
  unfold fX11_wordOf wof
  simp only [f0, f1, f2, f3, f4, f5, f6, f7, f8, f9, f10, f11, f12, f13, f14, f15, f16, ob, c0, c1, c2, c3, c4, c5]
  by_cases h0 : v = 632645
  · rw [if_pos h0, if_pos h0]
  rw [if_neg h0, if_neg h0]
  by_cases h1 : v = 8767382163
  · rw [if_pos h1, if_pos h1]
  rw [if_neg h1, if_neg h1]
  by_cases h2 : v = 5925
  · rw [if_pos h2, if_pos h2]
  rw [if_neg h2, if_neg h2]
  by_cases h3 : v = 71108
  · rw [if_pos h3, if_pos h3]
  rw [if_neg h3, if_neg h3]
  by_cases h4 : v = 264005
  · rw [if_pos h4, if_pos h4]
  rw [if_neg h4, if_neg h4]
  by_cases h5 : v = 394597
  · rw [if_pos h5, if_pos h5]
  rw [if_neg h5, if_neg h5]
  by_cases h6 : v = 21486770
  · rw [if_pos h6, if_pos h6]
  rw [if_neg h6, if_neg h6]
  by_cases h7 : v = 67141
  · rw [if_pos h7, if_pos h7]
  rw [if_neg h7, if_neg h7]
  by_cases h8 : v = 284080
  · rw [if_pos h8, if_pos h8]
  rw [if_neg h8, if_neg h8]
  by_cases h9 : v = 239301
  · rw [if_pos h9, if_pos h9]
  rw [if_neg h9, if_neg h9]
  by_cases h10 : v = 16322738
  · rw [if_pos h10, if_pos h10]
  rw [if_neg h10, if_neg h10]
  by_cases h11 : v = 674469
  · rw [if_pos h11, if_pos h11]
  rw [if_neg h11, if_neg h11]
  by_cases h12 : v = 24395141
  · rw [if_pos h12, if_pos h12]
  rw [if_neg h12, if_neg h12]
  by_cases h13 : v = 263558
  · rw [if_pos h13, if_pos h13]
  rw [if_neg h13, if_neg h13]
  by_cases h14 : v = 693713060
  · rw [if_pos h14, if_pos h14]
  rw [if_neg h14, if_neg h14]
  by_cases h15 : v = 26379859
  · rw [if_pos h15, if_pos h15]
  rw [if_neg h15, if_neg h15]
def wvv (c : Int) : Int := vwN (schar c) 0 (slen c).toNat
theorem wvl : wvv 1 = 632645 ∧ wvv 2 = 8767382163 ∧ wvv 3 = 5925 ∧ wvv 4 = 71108 ∧ wvv 5 = 264005 ∧ wvv 6 = 394597 ∧ wvv 7 = 21486770 ∧ wvv 8 = 284080 ∧ wvv 9 = 67141 ∧ wvv 10 = 239301 ∧ wvv 11 = 16322738 ∧ wvv 12 = 674469 ∧ wvv 13 = 24395141 ∧ wvv 14 = 263558 ∧ wvv 15 = 693713060 ∧ wvv 16 = 26379859 := by decide +kernel
def wvF (j : Nat) : Bool := decide (wof (wvv ((j : Int) + 1)) = wc ((j : Int) + 1))
theorem wv_all : upTo wvF 16 = true := by decide +kernel
theorem wc_inj {c d : Int} (hc : 1 ≤ c ∧ c ≤ 16) (hd : 1 ≤ d ∧ d ≤ 16) (h : wc c = wc d) : c = d := by
  unfold wc at h
  repeat' split at h
  all_goals omega
theorem wc_99 {c : Int} (hc : 1 ≤ c ∧ c ≤ 16) : 1 ≤ wc c ∧ wc c ≤ 18 := by
  unfold wc
  repeat' split
  all_goals omega
theorem wof_k (v : Int) : wof v = 99 ∨ ∃ d, (1 ≤ d ∧ d ≤ 16) ∧ wof v = wc d ∧ v = wvv d := by
  obtain ⟨l1, l2, l3, l4, l5, l6, l7, l8, l9, l10, l11, l12, l13, l14, l15, l16⟩ := wvl
  unfold wof
  by_cases h0 : v = 632645
  · rw [if_pos h0]; exact .inr ⟨1, by decide, by decide, by rw [l1]; exact h0⟩
  rw [if_neg h0]
  by_cases h1 : v = 8767382163
  · rw [if_pos h1]; exact .inr ⟨2, by decide, by decide, by rw [l2]; exact h1⟩
  rw [if_neg h1]
  by_cases h2 : v = 5925
  · rw [if_pos h2]; exact .inr ⟨3, by decide, by decide, by rw [l3]; exact h2⟩
  rw [if_neg h2]
  by_cases h3 : v = 71108
  · rw [if_pos h3]; exact .inr ⟨4, by decide, by decide, by rw [l4]; exact h3⟩
  rw [if_neg h3]
  by_cases h4 : v = 264005
  · rw [if_pos h4]; exact .inr ⟨5, by decide, by decide, by rw [l5]; exact h4⟩
  rw [if_neg h4]
  by_cases h5 : v = 394597
  · rw [if_pos h5]; exact .inr ⟨6, by decide, by decide, by rw [l6]; exact h5⟩
  rw [if_neg h5]
  by_cases h6 : v = 21486770
  · rw [if_pos h6]; exact .inr ⟨7, by decide, by decide, by rw [l7]; exact h6⟩
  rw [if_neg h6]
  by_cases h7 : v = 67141
  · rw [if_pos h7]; exact .inr ⟨9, by decide, by decide, by rw [l9]; exact h7⟩
  rw [if_neg h7]
  by_cases h8 : v = 284080
  · rw [if_pos h8]; exact .inr ⟨8, by decide, by decide, by rw [l8]; exact h8⟩
  rw [if_neg h8]
  by_cases h9 : v = 239301
  · rw [if_pos h9]; exact .inr ⟨10, by decide, by decide, by rw [l10]; exact h9⟩
  rw [if_neg h9]
  by_cases h10 : v = 16322738
  · rw [if_pos h10]; exact .inr ⟨11, by decide, by decide, by rw [l11]; exact h10⟩
  rw [if_neg h10]
  by_cases h11 : v = 674469
  · rw [if_pos h11]; exact .inr ⟨12, by decide, by decide, by rw [l12]; exact h11⟩
  rw [if_neg h11]
  by_cases h12 : v = 24395141
  · rw [if_pos h12]; exact .inr ⟨13, by decide, by decide, by rw [l13]; exact h12⟩
  rw [if_neg h12]
  by_cases h13 : v = 263558
  · rw [if_pos h13]; exact .inr ⟨14, by decide, by decide, by rw [l14]; exact h13⟩
  rw [if_neg h13]
  by_cases h14 : v = 693713060
  · rw [if_pos h14]; exact .inr ⟨15, by decide, by decide, by rw [l15]; exact h14⟩
  rw [if_neg h14]
  by_cases h15 : v = 26379859
  · rw [if_pos h15]; exact .inr ⟨16, by decide, by decide, by rw [l16]; exact h15⟩
  rw [if_neg h15]
  exact .inl rfl
theorem wof_wc {v c : Int} (h : 1 ≤ c ∧ c ≤ 16) : wof v = wc c ↔ v = vwN (schar c) 0 (slen c).toNat := by
  constructor
  · intro e
    rcases wof_k v with z | ⟨d, d0, d1, d2⟩
    · have := wc_99 h; omega
    · have := wc_inj h d0 (e.symm.trans d1)
      rw [this]; exact d2
  · intro e
    have e0 : wvF (c - 1).toNat = true := upTo_e wv_all (show (c - 1).toNat < 16 by omega)
    unfold wvF at e0
    have e1 := of_decide_eq_true e0
    rw [show ((c - 1).toNat : Int) + 1 = c by omega] at e1
    rw [e]; exact e1
theorem wof_e (v : Int) : wof v = 99 ∨ ∃ c, (1 ≤ c ∧ c ≤ 16) ∧ wof v = wc c := by
  rcases wof_k v with z | ⟨d, d0, d1, d2⟩
  · exact .inl z
  · exact .inr ⟨d, d0, d1⟩
theorem wof_n {v : Int} (h : ∀ c, 1 ≤ c → c ≤ 16 → v ≠ vwN (schar c) 0 (slen c).toNat) : wof v = 99 := by
  rcases wof_e v with e | ⟨c, hc, e⟩
  · exact e
  · exact absurd ((wof_wc hc).mp e) (h c hc.1 hc.2)
theorem sc_b (hc : 1 ≤ c ∧ c ≤ 16) : (3 ≤ slen c ∧ slen c ≤ 7) ∧ ∀ i, 0 ≤ i → i < slen c → Let (schar c i) := by
  have h : scO (c - 1).toNat = true := upTo_e sc_let (show (c - 1).toNat < 16 by omega)
  unfold scO at h
  rw [Bool.and_eq_true] at h
  have h1 := of_decide_eq_true h.1
  rw [show ((c - 1).toNat : Int) + 1 = c by omega] at h1
  refine ⟨h1, fun i i0 i1 => ?_⟩
  have h3 : scI (c - 1).toNat i.toNat = true := upTo_e h.2 (show i.toNat < 7 by omega)
  unfold scI at h3
  have h2 := of_decide_eq_true h3
  rw [show ((c - 1).toNat : Int) + 1 = c by omega, Int.toNat_of_nonneg i0] at h2
  exact h2 i1
theorem sp_vw (hc : 1 ≤ c ∧ c ≤ 16) (hl : ∀ i, a ≤ i → i < q → Let (t i)) (haq : a ≤ q) : vwN t a (q - a).toNat = vwN (schar c) 0 (slen c).toNat ↔ sp t c a q := by
  have sb := sc_b hc
  have hd : ∀ i : Int, 0 ≤ i → i < ((q - a).toNat : Int) → Let (t (a + i)) := fun i i0 i1 => hl _ (by omega) (by omega)
  have hs : ∀ i : Int, 0 ≤ i → i < ((slen c).toNat : Int) → Let (schar c (0 + i)) := fun i i0 i1 => by rw [Int.zero_add]; exact sb.2 i i0 (by omega)
  constructor
  · intro e
    have k := vw_inj _ _ hd hs e
    refine ⟨by omega, fun i i0 i1 => ?_⟩
    have := k.2 i i0 (by omega)
    rw [Int.zero_add] at this; exact this
  · intro h
    have e : (q - a).toNat = (slen c).toNat := by have := h.1; omega
    rw [e]
    have key : ∀ m : Nat, (m : Int) ≤ slen c → vwN t a m = vwN (schar c) 0 m := by
      intro m
      induction m with
      | zero => intro _; rfl
      | succ m ih =>
        intro hm
        show 32 * vwN t a m + (t (a + m) - 96) = 32 * vwN (schar c) 0 m + (schar c (0 + m) - 96)
        rw [ih (by omega), h.2 m (by omega) (by omega), Int.zero_add]
    exact key _ (by omega)
end
