/-! ===== sets of at most eight, as bits ===== -/
def mb (x i : Int) : Prop := x.toNat.testBit i.toNat = true
theorem i32_nn {x : Int} (h0 : 0 ≤ x) (h1 : x < 256) : (BitVec.ofInt 32 x).toNat = x.toNat := by
  have : ((BitVec.ofInt 32 x).toNat : Int) = x % 4294967296 := by
    rw [BitVec.toNat_ofInt]
    have : (0 : Int) ≤ x % ((2 ^ 32 : Nat) : Int) := Int.emod_nonneg _ (by decide)
    rw [Int.toNat_of_nonneg this]; rfl
  omega
theorem ior_n {x y : Int} (hx : 0 ≤ x ∧ x < 256) (hy : 0 ≤ y ∧ y < 256) : ior x y = ((x.toNat ||| y.toNat : Nat) : Int) ∧ x.toNat ||| y.toNat < 256 := by
  have lt : x.toNat ||| y.toNat < 2 ^ 8 := Nat.or_lt_two_pow (by omega) (by omega)
  have lt2 : x.toNat ||| y.toNat < 256 := lt
  refine ⟨?_, lt2⟩
  unfold ior
  show (Int32.ofInt x ||| Int32.ofInt y).toBitVec.toInt = _
  have en : (Int32.ofInt x ||| Int32.ofInt y).toBitVec.toNat = (BitVec.ofInt 32 x).toNat ||| (BitVec.ofInt 32 y).toNat := rfl
  rw [i32_nn hx.1 hx.2, i32_nn hy.1 hy.2] at en
  rw [BitVec.toInt_eq_toNat_of_lt (by rw [en]; omega), en]
theorem ior_b {x y : Int} (hx : 0 ≤ x ∧ x < 256) (hy : 0 ≤ y ∧ y < 256) : 0 ≤ ior x y ∧ ior x y < 256 := by
  have := ior_n hx hy
  rw [this.1]; omega
theorem ior_m {x y i : Int} (hx : 0 ≤ x ∧ x < 256) (hy : 0 ≤ y ∧ y < 256) : mb (ior x y) i ↔ mb x i ∨ mb y i := by
  unfold mb
  rw [(ior_n hx hy).1, Int.toNat_natCast, Nat.testBit_or, Bool.or_eq_true]
theorem one_m8 : upTo (fun n => decide (ishl 1 (n : Int) = ((2 ^ n : Nat) : Int))) 9 = true := by decide +kernel
theorem ishl_n {i : Int} (h : 0 ≤ i ∧ i < 9) : ishl 1 i = ((2 ^ i.toNat : Nat) : Int) := by
  have := of_decide_eq_true (upTo_e one_m8 (show i.toNat < 9 by omega))
  rw [show ((i.toNat : Nat) : Int) = i by omega] at this
  exact this
theorem ishl_b {i : Int} (h : 0 ≤ i ∧ i < 8) : 0 ≤ ishl 1 i ∧ ishl 1 i < 256 := by
  rw [ishl_n (by omega)]
  have : 2 ^ i.toNat < 2 ^ 8 := Nat.pow_lt_pow_right (by decide) (by omega)
  generalize 2 ^ i.toNat = z at this ⊢
  omega
theorem ishl_m {i j : Int} (h : 0 ≤ i ∧ i < 8) (hj : 0 ≤ j) : mb (ishl 1 i) j ↔ j = i := by
  unfold mb
  rw [ishl_n (by omega), Int.toNat_natCast, Nat.testBit_two_pow]
  constructor
  · intro w; have := of_decide_eq_true w; omega
  · intro w; subst w; simp
theorem mb_0 {i : Int} : ¬mb 0 i := by unfold mb; rw [show (0 : Int).toNat = 0 from rfl, Nat.zero_testBit]; intro h; cases h
def bitF (v i : Nat) : Bool := decide (iand (ishr (v : Int) (i : Int)) 1 = ((v / 2 ^ i % 2 : Nat) : Int))
def bitG (v : Nat) : Bool := upTo (bitF v) 8
theorem bit_all : upTo bitG 256 = true := by decide +kernel
theorem bit_v {v i : Int} (hv : 0 ≤ v ∧ v < 256) (hi : 0 ≤ i ∧ i < 8) : iand (ishr v i) 1 = ((v.toNat / 2 ^ i.toNat % 2 : Nat) : Int) := by
  have h1 : bitG v.toNat = true := upTo_e bit_all (show v.toNat < 256 by omega)
  unfold bitG at h1
  have h2 := upTo_e h1 (show i.toNat < 8 by omega)
  unfold bitF at h2
  have := of_decide_eq_true h2
  rw [show ((i.toNat : Nat) : Int) = i by omega, show ((v.toNat : Nat) : Int) = v by omega] at this
  exact this
theorem bit_1 {v i : Int} (hv : 0 ≤ v ∧ v < 256) (hi : 0 ≤ i ∧ i < 8) : iand (ishr v i) 1 = 1 ↔ mb v i := by
  unfold mb
  rw [bit_v hv hi, Nat.testBit_eq_decide_div_mod_eq, decide_eq_true_eq]
  omega
theorem bit_0 {v i : Int} (hv : 0 ≤ v ∧ v < 256) (hi : 0 ≤ i ∧ i < 8) : iand (ishr v i) 1 = 0 ↔ ¬mb v i := by
  unfold mb
  rw [bit_v hv hi, Nat.testBit_eq_decide_div_mod_eq, decide_eq_true_eq]
  omega
theorem mb_8 {x i : Int} (hx : 0 ≤ x ∧ x < 256) (h : mb x i) : i < 8 := by
  apply Classical.byContradiction; intro ng
  unfold mb at h
  have hle : 2 ^ 8 ≤ 2 ^ i.toNat := Nat.pow_le_pow_right (by decide) (by omega)
  rw [Nat.testBit_lt_two_pow (Nat.lt_of_lt_of_le (show x.toNat < 2 ^ 8 by omega) hle)] at h
  cases h
theorem sub_0 {m v : Int} (hm : 0 ≤ m ∧ m < 256) (hv : 0 ≤ v ∧ v < 256) : iand m (ixor v (-1)) = 0 ↔ ∀ i, 0 ≤ i → mb m i → mb v i := by
  have en : (Int32.ofInt m &&& Int32.ofInt (ixor v (-1))).toBitVec.toNat = m.toNat &&& (v.toNat ^^^ 4294967295) := by
    have e1 : Int32.ofInt (ixor v (-1)) = Int32.ofInt v ^^^ Int32.ofInt (-1) := by unfold ixor; exact Int32.ofInt_toInt _
    rw [e1]
    show (BitVec.ofInt 32 m).toNat &&& ((BitVec.ofInt 32 v).toNat ^^^ (BitVec.ofInt 32 (-1)).toNat) = _
    rw [i32_nn hm.1 hm.2, i32_nn hv.1 hv.2]; rfl
  have le : m.toNat &&& (v.toNat ^^^ 4294967295) ≤ m.toNat := Nat.and_le_left
  have e : iand m (ixor v (-1)) = ((m.toNat &&& (v.toNat ^^^ 4294967295) : Nat) : Int) := by
    unfold iand
    show (Int32.ofInt m &&& Int32.ofInt (ixor v (-1))).toBitVec.toInt = _
    rw [BitVec.toInt_eq_toNat_of_lt (by rw [en]; omega), en]
  have bt : ∀ i : Nat, i < 32 → (m.toNat &&& (v.toNat ^^^ 4294967295)).testBit i = (m.toNat.testBit i && !v.toNat.testBit i) := by
    intro i hi
    rw [Nat.testBit_and, Nat.testBit_xor, show (4294967295 : Nat) = 2 ^ 32 - 1 from rfl, Nat.testBit_two_pow_sub_one]
    simp [hi]
  rw [e]
  constructor
  · intro h i i0 hi
    have h8 := mb_8 hm hi
    have z : m.toNat &&& (v.toNat ^^^ 4294967295) = 0 := by omega
    have := bt i.toNat (by omega)
    rw [z, Nat.zero_testBit] at this
    unfold mb at hi ⊢
    rw [hi] at this
    simpa using this
  · intro h
    have z : m.toNat &&& (v.toNat ^^^ 4294967295) = 0 := by
      apply Nat.eq_of_testBit_eq
      intro i
      rw [Nat.zero_testBit]
      by_cases q : i < 8
      · rw [bt i (by omega)]
        by_cases w : m.toNat.testBit i = true
        · have := h i (by omega) (by unfold mb; rw [Int.toNat_natCast]; exact w)
          unfold mb at this; rw [Int.toNat_natCast] at this
          simp [this]
        · simp [w]
      · exact Nat.testBit_lt_two_pow (Nat.lt_of_lt_of_le (show _ < 2 ^ 8 by omega) (Nat.pow_le_pow_right (by decide) (by omega)))
    rw [z]; rfl
theorem mb_le {x y : Int} (hx : 0 ≤ x) (hy : 0 ≤ y) (h : ∀ i, 0 ≤ i → mb x i → mb y i) : x ≤ y := by
  have e : x.toNat &&& y.toNat = x.toNat := by
    apply Nat.eq_of_testBit_eq
    intro i
    rw [Nat.testBit_and]
    by_cases w : x.toNat.testBit i = true
    · have := h i (by omega) (by unfold mb; rw [Int.toNat_natCast]; exact w)
      unfold mb at this; rw [Int.toNat_natCast] at this
      simp [w, this]
    · simp [w]
  have := Nat.and_le_right (n := x.toNat) (m := y.toNat)
  rw [e] at this; omega
theorem mb_ext {x y : Int} (hx : 0 ≤ x) (hy : 0 ≤ y) (h : ∀ i, 0 ≤ i → (mb x i ↔ mb y i)) : x = y := by
  have := mb_le hx hy (fun i a => (h i a).mp); have := mb_le hy hx (fun i a => (h i a).mpr); omega
/-- how many -/
noncomputable def pc (x : Int) : Int := ct (mb x) 8
theorem pc_b (x : Int) : 0 ≤ pc x ∧ pc x ≤ 8 := ct_b (mb x) 8
theorem ct_st {P Q : Int → Prop} (h : ∀ i, 0 ≤ i → P i → Q i) {k : Int} : ∀ n : Nat, 0 ≤ k → k < n → Q k → ¬P k → ct P n + 1 ≤ ct Q n
  | 0, h0, h1, _, _ => by omega
  | n + 1, h0, h1, hq, hp => by
    show ct P n + bi (P n) + 1 ≤ ct Q n + bi (Q n)
    have mono : ct P n ≤ ct Q n := by
      have : ∀ m : Nat, ct P m ≤ ct Q m := by
        intro m; induction m with
        | zero => exact Int.le_refl _
        | succ m ih =>
          show ct P m + bi (P m) ≤ ct Q m + bi (Q m)
          have := bi_b (P m); have := bi_b (Q m)
          by_cases z : P m
          · rw [bi_t z, bi_t (h m (by omega) z)]; omega
          · rw [bi_f z]; omega
      exact this n
    by_cases z : k = n
    · rw [← z, bi_f hp, bi_t hq]; omega
    · have := ct_st h n h0 (by omega) hq hp
      have := bi_b (P n); have := bi_b (Q n)
      by_cases w : P n
      · rw [bi_t w, bi_t (h n (by omega) w)]; omega
      · rw [bi_f w]; omega
theorem pc_lt {x y k : Int} (hy : 0 ≤ y ∧ y < 256) (h : ∀ i, 0 ≤ i → mb x i → mb y i) (h0 : 0 ≤ k) (h1 : mb y k) (h2 : ¬mb x k) : pc x + 1 ≤ pc y := ct_st h 8 h0 (by have := mb_8 hy h1; omega) h1 h2
theorem pc_le {x y : Int} (hx : 0 ≤ x) (hy : 0 ≤ y ∧ y < 256) (h : ∀ i, 0 ≤ i → mb x i → mb y i) : pc x ≤ pc y := by
  by_cases e : x = y
  · rw [e]; exact Int.le_refl _
  · apply Classical.byContradiction; intro ng
    apply e
    refine mb_ext hx hy.1 (fun i a => ⟨h i a, fun w => ?_⟩)
    apply Classical.byContradiction; intro q
    have := pc_lt hy h a w q
    omega
theorem pc_ct8 (x : Nat) : ((x / 1 % 2 + x / 2 % 2 + x / 4 % 2 + x / 8 % 2 + x / 16 % 2 + x / 32 % 2 + x / 64 % 2 + x / 128 % 2 : Nat) : Int) = pc x := by
  have key : ∀ i : Nat, bi (mb x i) = ((x / 2 ^ i % 2 : Nat) : Int) := by
    intro i
    have : mb x i ↔ x / 2 ^ i % 2 = 1 := by
      unfold mb
      rw [Int.toNat_natCast, Int.toNat_natCast, Nat.testBit_eq_decide_div_mod_eq, decide_eq_true_eq]
    by_cases z : x / 2 ^ i % 2 = 1
    · rw [bi_t (this.mpr z), z]; rfl
    · rw [bi_f (fun w => z (this.mp w))]; omega
  unfold pc
  show _ = (((((((0 + bi (mb x (0 : Nat))) + bi (mb x (1 : Nat))) + bi (mb x (2 : Nat))) + bi (mb x (3 : Nat))) + bi (mb x (4 : Nat))) + bi (mb x (5 : Nat))) + bi (mb x (6 : Nat))) + bi (mb x (7 : Nat))
  rw [key, key, key, key, key, key, key, key]
  simp only [show (2 : Nat) ^ 0 = 1 from rfl, show (2 : Nat) ^ 1 = 2 from rfl, show (2 : Nat) ^ 2 = 4 from rfl, show (2 : Nat) ^ 3 = 8 from rfl, show (2 : Nat) ^ 4 = 16 from rfl, show (2 : Nat) ^ 5 = 32 from rfl, show (2 : Nat) ^ 6 = 64 from rfl, show (2 : Nat) ^ 7 = 128 from rfl]
  omega
theorem ibits_all : upTo (fun x => decide (ibits (x : Int) = ((x / 1 % 2 + x / 2 % 2 + x / 4 % 2 + x / 8 % 2 + x / 16 % 2 + x / 32 % 2 + x / 64 % 2 + x / 128 % 2 : Nat) : Int))) 256 = true := by decide +kernel
theorem ibits_pc {x : Int} (h : 0 ≤ x ∧ x < 256) : ibits x = pc x := by
  have := of_decide_eq_true (upTo_e ibits_all (show x.toNat < 256 by omega))
  rw [pc_ct8, show ((x.toNat : Nat) : Int) = x by omega] at this
  exact this
/-- few first, then small -/
noncomputable def kp (x : Int) : Int := 256 * pc x + x
def DB (C : Int → Prop) (r : Int) : Prop := (r = -1 ∧ ∀ x, 0 ≤ x → x < 256 → ¬C x) ∨ ((0 ≤ r ∧ r < 256) ∧ C r ∧ ∀ x, 0 ≤ x → x < 256 → C x → kp r ≤ kp x)
theorem DB_u {C : Int → Prop} {r s : Int} (h : DB C r) (k : DB C s) : r = s := by
  rcases h with ⟨a, b⟩ | ⟨a, b, c⟩ <;> rcases k with ⟨d, e⟩ | ⟨d, e, f⟩
  · omega
  · exact absurd e (b s d.1 d.2)
  · exact absurd b (e r a.1 a.2)
  · have := c s d.1 d.2 e; have := f r a.1 a.2 b
    unfold kp at *; omega
theorem DB_c {C D : Int → Prop} {r : Int} (h : DB C r) (k : ∀ x, 0 ≤ x → x < 256 → (C x ↔ D x)) : DB D r := by
  rcases h with ⟨a, b⟩ | ⟨a, b, c⟩
  · exact .inl ⟨a, fun x x0 x1 w => b x x0 x1 ((k x x0 x1).mpr w)⟩
  · exact .inr ⟨a, (k r a.1 a.2).mp b, fun x x0 x1 w => c x x0 x1 ((k x x0 x1).mpr w)⟩
theorem DB_0 {C D : Int → Prop} (h : DB C 0) (k : ∀ x, 0 ≤ x → x < 256 → C x → D x) : DB D 0 := by
  rcases h with ⟨a, b⟩ | ⟨a, b, c⟩
  · omega
  · refine .inr ⟨a, k 0 a.1 a.2 b, fun x x0 x1 _ => ?_⟩
    have : pc 0 = 0 := ct_z2 8 (fun i _ _ => mb_0)
    have := pc_b x
    unfold kp; omega
theorem kp_le {x y : Int} (hx : 0 ≤ x) (hy : 0 ≤ y ∧ y < 256) (h : ∀ i, 0 ≤ i → mb x i → mb y i) : kp x ≤ kp y := by
  have := mb_le hx hy.1 h; have := pc_le hx hy h
  unfold kp; omega
