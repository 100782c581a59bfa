/-! ===== words of 64 bits ===== -/
def un (x : Int) : Nat := (BitVec.ofInt 64 x).toNat
def bw (x : Int) (i : Nat) : Bool := (un x).testBit i
theorem un_lt (x : Int) : un x < 18446744073709551616 := (BitVec.ofInt 64 x).isLt
theorem un_eq (x : Int) : (un x : Int) = x % 18446744073709551616 := by
  unfold un; rw [BitVec.toNat_ofInt]
  have : (0 : Int) ≤ x % ((2 ^ 64 : Nat) : Int) := Int.emod_nonneg _ (by decide)
  rw [Int.toNat_of_nonneg this]; rfl
theorem un_and (x y : Int) : un (land x y) = un x &&& un y := by
  unfold un land
  show (BitVec.ofInt 64 ((Int64.ofInt x &&& Int64.ofInt y).toBitVec.toInt)).toNat = _
  rw [BitVec.ofInt_toInt]; rfl
theorem un_or (x y : Int) : un (lor x y) = un x ||| un y := by
  unfold un lor
  show (BitVec.ofInt 64 ((Int64.ofInt x ||| Int64.ofInt y).toBitVec.toInt)).toNat = _
  rw [BitVec.ofInt_toInt]; rfl
theorem un_xor (x y : Int) : un (lxor x y) = un x ^^^ un y := by
  unfold un lxor
  show (BitVec.ofInt 64 ((Int64.ofInt x ^^^ Int64.ofInt y).toBitVec.toInt)).toNat = _
  rw [BitVec.ofInt_toInt]; rfl
theorem sh_all : upTo (fun n => decide ((((Int32.ofInt (n : Int)).toInt64.toUInt64 &&& Int64.toUInt64 63).toBitVec % 64).toNat = n)) 64 = true := by decide +kernel
theorem un_shr (x : Int) {n : Nat} (h : n < 64) : un (lushr x n) = un x / 2 ^ n := by
  have e := of_decide_eq_true (upTo_e sh_all h)
  unfold un lushr
  show (BitVec.ofInt 64 (((Int64.ofInt x).toUInt64 >>> ((Int32.ofInt (n : Int)).toInt64.toUInt64 &&& Int64.toUInt64 63)).toBitVec.toInt)).toNat = _
  rw [BitVec.ofInt_toInt, UInt64.toBitVec_shiftRight]
  show ((BitVec.ofInt 64 x) >>> ((((Int32.ofInt (n : Int)).toInt64.toUInt64 &&& Int64.toUInt64 63).toBitVec % 64).toNat)).toNat = _
  rw [e, BitVec.toNat_ushiftRight, Nat.shiftRight_eq_div_pow]
theorem un_w (x : Int) : un (w64 x) = un x := by
  have h1 := un_eq (w64 x); have h2 := un_eq x
  unfold w64 at *; omega
theorem un_inj {x y : Int} (hx : R64 x) (hy : R64 y) (h : un x = un y) : x = y := by
  have h1 := un_eq x; have h2 := un_eq y
  unfold R64 at *; omega
theorem bw_ext {x y : Int} (hx : R64 x) (hy : R64 y) (h : ∀ i, i < 64 → bw x i = bw y i) : x = y := by
  apply un_inj hx hy
  apply Nat.eq_of_testBit_eq
  intro i
  by_cases q : i < 64
  · exact h i q
  · have hle : 2 ^ 64 ≤ 2 ^ i := Nat.pow_le_pow_right (by decide) (by omega)
    rw [Nat.testBit_lt_two_pow (Nat.lt_of_lt_of_le (un_lt x) hle), Nat.testBit_lt_two_pow (Nat.lt_of_lt_of_le (un_lt y) hle)]
theorem R64_lor (x y : Int) : R64 (lor x y) := R64_i _
theorem R64_land (x y : Int) : R64 (land x y) := R64_i _
theorem bw_0 (i : Nat) : bw 0 i = false := by
  have : un 0 = 0 := by decide +kernel
  unfold bw; rw [this, Nat.zero_testBit]
theorem bw_or (x y : Int) (i : Nat) : bw (lor x y) i = (bw x i || bw y i) := by unfold bw; rw [un_or, Nat.testBit_or]
theorem bw_and (x y : Int) (i : Nat) : bw (land x y) i = (bw x i && bw y i) := by unfold bw; rw [un_and, Nat.testBit_and]
theorem bw_not (x : Int) {i : Nat} (h : i < 64) : bw (lxor x (-1)) i = !bw x i := by
  have e : un (-1) = 2 ^ 64 - 1 := by decide +kernel
  unfold bw; rw [un_xor, Nat.testBit_xor, e, Nat.testBit_two_pow_sub_one]
  simp [h]
theorem one_all : upTo (fun n => decide (un (lshl 1 (n : Int)) = 2 ^ n)) 64 = true := by decide +kernel
theorem bw_one {n : Nat} (h : n < 64) (i : Nat) : bw (lshl 1 (n : Int)) i = decide (n = i) := by
  have e := of_decide_eq_true (upTo_e one_all h)
  unfold bw; rw [e, Nat.testBit_two_pow]
theorem bw_get (x : Int) {n : Nat} (h : n < 64) : land (lushr x (n : Int)) 1 = 0 ↔ bw x n = false := by
  have e1 : un 1 = 1 := by decide +kernel
  have e : un (land (lushr x (n : Int)) 1) = un x / 2 ^ n % 2 := by rw [un_and, un_shr x h, e1, Nat.and_one_is_mod]
  have e0 : un 0 = 0 := by decide +kernel
  unfold bw; rw [Nat.testBit_eq_decide_div_mod_eq]
  constructor
  · intro q; rw [q, e0] at e; simp [← e]
  · intro q
    apply un_inj (R64_land _ _) R64_0
    rw [e, e0]; have := of_decide_eq_false q; omega
/-- how many bits -/
def pcN : Nat → Nat → Nat
  | 0, _ => 0
  | n + 1, x => x % 2 + pcN n (x / 2)
def M55 : Nat → Nat
  | 0 => 0
  | n + 1 => 85 + 256 * M55 n
def M33 : Nat → Nat
  | 0 => 0
  | n + 1 => 51 + 256 * M33 n
def M0f : Nat → Nat
  | 0 => 0
  | n + 1 => 15 + 256 * M0f n
def t1 (b : Nat) : Nat := b - (b / 2 &&& 85)
def t2 (b : Nat) : Nat := (t1 b &&& 51) + (t1 b / 4 &&& 51)
theorem t_all : upTo (fun b => decide (t1 b < 256 ∧ (b / 2 &&& 85) ≤ b ∧ t2 b / 16 ≤ 4 ∧ t2 b % 16 ≤ 4 ∧ t2 b % 16 + t2 b / 16 = pcN 8 b ∧ pcN 8 b ≤ 8)) 256 = true := by decide +kernel
theorem a85_all : upTo (fun n => decide ((n / 2 &&& 85) = (n % 256 / 2 &&& 85))) 512 = true := by decide +kernel
theorem a51_all : upTo (fun n => decide ((n / 4 &&& 51) = (n % 256 / 4 &&& 51))) 1024 = true := by decide +kernel
theorem and_256 (a b : Nat) : (a &&& b) = 256 * (a / 256 &&& b / 256) + (a % 256 &&& b % 256) := by
  have h1 := Nat.and_div_two_pow (a := a) (b := b) (n := 8)
  have h2 := Nat.and_mod_two_pow (a := a) (b := b) (n := 8)
  have e : (2 : Nat) ^ 8 = 256 := rfl
  rw [e] at h1 h2
  rw [← h1, ← h2]; exact (Nat.div_add_mod _ _).symm
def y1 (n x : Nat) : Nat := x - (x / 2 &&& M55 n)
def y2 (n x : Nat) : Nat := (y1 n x &&& M33 n) + (y1 n x / 4 &&& M33 n)
def y3 (n x : Nat) : Nat := (y2 n x + y2 n x / 16) &&& M0f n
theorem y_ok : ∀ (n x : Nat), (x / 2 &&& M55 n) ≤ x ∧ y1 (n + 1) x = 256 * y1 n (x / 256) + t1 (x % 256) ∧ y2 (n + 1) x = 256 * y2 n (x / 256) + t2 (x % 256)
  | n, x => by
    have le : ∀ (n x : Nat), (x / 2 &&& M55 n) ≤ x := fun n x => Nat.le_trans Nat.and_le_left (Nat.div_le_self _ _)
    have hb : x % 256 < 256 := Nat.mod_lt _ (by decide)
    have ht := of_decide_eq_true (upTo_e t_all hb)
    have hx : x = 256 * (x / 256) + x % 256 := (Nat.div_add_mod _ _).symm
    have a1 : (x / 2 &&& M55 (n + 1)) = 256 * (x / 256 / 2 &&& M55 n) + (x % 256 / 2 &&& 85) := by
      rw [and_256]
      have m1 : M55 (n + 1) / 256 = M55 n := by show (85 + 256 * M55 n) / 256 = _; omega
      have m2 : M55 (n + 1) % 256 = 85 := by show (85 + 256 * M55 n) % 256 = _; omega
      rw [m1, m2]
      have d1 : x / 2 / 256 = x / 256 / 2 := by omega
      have d2 : x / 2 % 256 = (x % 512) / 2 := by omega
      have := of_decide_eq_true (upTo_e a85_all (show x % 512 < 512 by omega))
      rw [d1, d2, this]
      have d3 : x % 512 % 256 = x % 256 := by omega
      rw [d3]
    have b1 : y1 (n + 1) x = 256 * y1 n (x / 256) + t1 (x % 256) := by
      unfold y1 t1; rw [a1]; have := le n (x / 256); omega
    refine ⟨le n x, b1, ?_⟩
    have c0 : ∀ z : Nat, (z &&& M33 (n + 1)) = 256 * (z / 256 &&& M33 n) + (z % 256 &&& 51) := by
      intro z
      rw [and_256]
      have m1 : M33 (n + 1) / 256 = M33 n := by show (51 + 256 * M33 n) / 256 = _; omega
      have m2 : M33 (n + 1) % 256 = 51 := by show (51 + 256 * M33 n) % 256 = _; omega
      rw [m1, m2]
    unfold y2 t2
    rw [c0, c0]
    have e1 : y1 (n + 1) x / 256 = y1 n (x / 256) := by omega
    have e2 : y1 (n + 1) x % 256 = t1 (x % 256) := by omega
    have e3 : y1 (n + 1) x / 4 / 256 = y1 n (x / 256) / 4 := by omega
    have e4 : y1 (n + 1) x / 4 % 256 = (y1 (n + 1) x % 1024) / 4 := by omega
    have := of_decide_eq_true (upTo_e a51_all (show y1 (n + 1) x % 1024 < 1024 by omega))
    have e5 : y1 (n + 1) x % 1024 % 256 = t1 (x % 256) := by omega
    rw [e1, e2, e3, e4, this, e5]; omega
def W8 : Nat → Nat → Nat
  | 0, _ => 0
  | n + 1, x => 256 * W8 n (x / 256) + pcN 8 (x % 256)
theorem y3_ok : ∀ (n x : Nat), x < 256 ^ n → y3 n x = W8 n x ∧ y2 n x % 16 ≤ 4
  | 0, x, h => by
    have : x = 0 := by simpa using h
    subst this; decide
  | n + 1, x, h => by
    have ih := y3_ok n (x / 256) (by rw [Nat.pow_succ] at h; exact Nat.div_lt_of_lt_mul (by rw [Nat.mul_comm]; exact h))
    have hb : x % 256 < 256 := Nat.mod_lt _ (by decide)
    have ht := of_decide_eq_true (upTo_e t_all hb)
    have hy := (y_ok n x).2.2
    refine ⟨?_, by omega⟩
    unfold W8; rw [← ih.1]
    unfold y3
    rw [and_256]
    have m1 : M0f (n + 1) / 256 = M0f n := by show (15 + 256 * M0f n) / 256 = _; omega
    have m2 : M0f (n + 1) % 256 = 15 := by show (15 + 256 * M0f n) % 256 = _; omega
    rw [m1, m2]
    have d1 : (y2 (n + 1) x + y2 (n + 1) x / 16) / 256 = y2 n (x / 256) + y2 n (x / 256) / 16 := by omega
    rw [d1]
    have e15 : ∀ z : Nat, z &&& 15 = z % 16 := fun z => Nat.and_two_pow_sub_one_eq_mod z 4
    rw [e15]
    have d2 : (y2 (n + 1) x + y2 (n + 1) x / 16) % 256 % 16 = pcN 8 (x % 256) := by omega
    rw [d2]
theorem pcN_add : ∀ (n m x : Nat), pcN (n + m) x = pcN n x + pcN m (x / 2 ^ n)
  | 0, m, x => by simp [pcN]
  | n + 1, m, x => by
    rw [show n + 1 + m = (n + m) + 1 by omega]
    show x % 2 + pcN (n + m) (x / 2) = x % 2 + pcN n (x / 2) + _
    rw [pcN_add n m (x / 2), Nat.div_div_eq_div_mul, Nat.pow_succ, Nat.mul_comm 2]; omega
theorem pcN_mod : ∀ (n x : Nat), pcN n (x % 2 ^ n) = pcN n x
  | 0, _ => rfl
  | n + 1, x => by
    show x % 2 ^ (n + 1) % 2 + pcN n (x % 2 ^ (n + 1) / 2) = x % 2 + pcN n (x / 2)
    have h1 : x % 2 ^ (n + 1) % 2 = x % 2 := Nat.mod_mod_of_dvd _ ⟨2 ^ n, by rw [Nat.pow_succ, Nat.mul_comm]⟩
    have h2 : x % 2 ^ (n + 1) / 2 = x / 2 % 2 ^ n := by rw [Nat.pow_succ, Nat.mul_comm, Nat.mod_mul_right_div_self]
    rw [h1, h2, pcN_mod n (x / 2)]
theorem pc8_le (x : Nat) : pcN 8 (x % 256) ≤ 8 := (of_decide_eq_true (upTo_e t_all (Nat.mod_lt x (by decide)))).2.2.2.2.2
theorem pc64 (x : Nat) : pcN 64 x = pcN 8 (x % 256) + pcN 8 (x / 256 % 256) + pcN 8 (x / 256 / 256 % 256) + pcN 8 (x / 256 / 256 / 256 % 256) + pcN 8 (x / 256 / 256 / 256 / 256 % 256) + pcN 8 (x / 256 / 256 / 256 / 256 / 256 % 256) + pcN 8 (x / 256 / 256 / 256 / 256 / 256 / 256 % 256) + pcN 8 (x / 256 / 256 / 256 / 256 / 256 / 256 / 256 % 256) := by
  have st : ∀ m x, pcN (8 + m) x = pcN 8 (x % 256) + pcN m (x / 256) := by
    intro m x; rw [pcN_add 8 m x, ← pcN_mod 8 x]
  have e0 : pcN 0 (x / 256 / 256 / 256 / 256 / 256 / 256 / 256 / 256) = 0 := rfl
  rw [show 64 = 8 + 56 by rfl, st, show 56 = 8 + 48 by rfl, st, show 48 = 8 + 40 by rfl, st, show 40 = 8 + 32 by rfl, st, show 32 = 8 + 24 by rfl, st, show 24 = 8 + 16 by rfl, st, show 16 = 8 + 8 by rfl, st, show pcN 8 (x / 256 / 256 / 256 / 256 / 256 / 256 / 256) = pcN (8 + 0) (x / 256 / 256 / 256 / 256 / 256 / 256 / 256) by rfl, st, e0]
  omega
def P8 (a b c d e f g h : Nat) : Nat := a + 256 * (b + 256 * (c + 256 * (d + 256 * (e + 256 * (f + 256 * (g + 256 * h))))))
theorem dv {a b : Nat} (h : a < 256) : (a + 256 * b) / 256 = b := by omega
theorem P8_d {a b c d e f g h : Nat} (ha : a < 256) : P8 a b c d e f g h / 256 = P8 b c d e f g h 0 := by
  unfold P8; rw [dv ha]; simp
theorem P8_a {a b c d e f g h a' b' c' d' e' f' g' h' : Nat} : P8 a b c d e f g h + P8 a' b' c' d' e' f' g' h' = P8 (a + a') (b + b') (c + c') (d + d') (e + e') (f + f') (g + g') (h + h') := by
  unfold P8; simp only [Nat.mul_add]; omega
theorem P8_lt {a b c d e f g h : Nat} (ha : a ≤ 64) (hb : b ≤ 64) (hc : c ≤ 64) (hd : d ≤ 64) (he : e ≤ 64) (hf : f ≤ 64) (hg : g ≤ 64) (hh : h ≤ 64) : P8 a b c d e f g h < 9223372036854775808 := by
  unfold P8
  have h1 : g + 256 * h ≤ 16448 := by omega
  generalize g + 256 * h = x1 at *
  have h2 : f + 256 * x1 ≤ 4210752 := by omega
  generalize f + 256 * x1 = x2 at *
  have h3 : e + 256 * x2 ≤ 1077952576 := by omega
  generalize e + 256 * x2 = x3 at *
  have h4 : d + 256 * x3 ≤ 275955859520 := by omega
  generalize d + 256 * x3 = x4 at *
  have h5 : c + 256 * x4 ≤ 70644700037184 := by omega
  generalize c + 256 * x4 = x5 at *
  have h6 : b + 256 * x5 ≤ 18085043209519168 := by omega
  generalize b + 256 * x5 = x6 at *
  omega
theorem P8_m {a b c d e f g h : Nat} (ha : a ≤ 64) : P8 a b c d e f g h % 128 = a := by
  unfold P8
  generalize b + 256 * (c + 256 * (d + 256 * (e + 256 * (f + 256 * (g + 256 * h))))) = z
  omega
theorem e127 (z : Int) : iand z 127 = z % 128 := by
  unfold iand
  show (Int32.ofInt z &&& Int32.ofInt 127).toBitVec.toInt = _
  have en : (Int32.ofInt z &&& Int32.ofInt 127).toBitVec.toNat = (BitVec.ofInt 32 z).toNat &&& 127 := rfl
  have m : (BitVec.ofInt 32 z).toNat &&& 127 = (BitVec.ofInt 32 z).toNat % 128 := Nat.and_two_pow_sub_one_eq_mod _ 7
  have zz : ((BitVec.ofInt 32 z).toNat : Int) = z % 4294967296 := by
    rw [BitVec.toNat_ofInt]
    have : (0 : Int) ≤ z % ((2 ^ 32 : Nat) : Int) := Int.emod_nonneg _ (by decide)
    rw [Int.toNat_of_nonneg this]; rfl
  rw [BitVec.toInt_eq_toNat_of_lt (by rw [en, m]; omega), en, m]
  omega
theorem un_add {b : Int} {n v : Nat} (hn : n < 64) (e : un b = v) (hv : v + v / 2 ^ n < 18446744073709551616) : un (w64 (b + lushr b (n : Int))) = v + v / 2 ^ n := by
  have e2 := un_shr b hn
  rw [e] at e2
  rw [un_w]
  have h1 := un_eq (b + lushr b (n : Int)); have h2 := un_eq b; have h3 := un_eq (lushr b (n : Int))
  rw [e] at h2; rw [e2] at h3
  generalize v / 2 ^ n = z at *
  omega
theorem un_sub {x y : Int} (h : un y ≤ un x) : un (w64 (x - y)) = un x - un y := by
  rw [un_w]
  have h1 := un_eq (x - y); have h2 := un_eq x; have h3 := un_eq y; have h4 := un_lt x
  omega
theorem un_pl {x y : Int} (h : un x + un y < 18446744073709551616) : un (w64 (x + y)) = un x + un y := by
  rw [un_w]
  have h1 := un_eq (x + y); have h2 := un_eq x; have h3 := un_eq y
  omega
theorem lb_1 {x : Int} : un (w64 (x - (land (lushr x 1) 6148914691236517205))) = y1 8 (un x) := by
  have c55 : un 6148914691236517205 = M55 8 := by decide +kernel
  have e : un (land (lushr x 1) 6148914691236517205) = (un x / 2 &&& M55 8) := by
    rw [un_and, c55, show (1 : Int) = ((1 : Nat) : Int) by rfl, un_shr x (by decide)]
  rw [un_sub (by rw [e]; exact (y_ok 8 (un x)).1), e]; rfl
theorem lt33 (z : Nat) : z &&& M33 8 ≤ 3689348814741910323 := Nat.le_trans Nat.and_le_right (by decide +kernel)
theorem lb_2 {a : Int} {v : Nat} (h : un a = y1 8 v) : un (w64 ((land a 3689348814741910323) + (land (lushr a 2) 3689348814741910323))) = y2 8 v := by
  have c33 : un 3689348814741910323 = M33 8 := by decide +kernel
  have e1 : un (land a 3689348814741910323) = (y1 8 v &&& M33 8) := by rw [un_and, c33, h]
  have e2 : un (land (lushr a 2) 3689348814741910323) = (y1 8 v / 4 &&& M33 8) := by rw [un_and, c33, show (2 : Int) = ((2 : Nat) : Int) by rfl, un_shr a (by decide), h]
  have l1 := lt33 (y1 8 v); have l2 := lt33 (y1 8 v / 4)
  rw [un_pl (by rw [e1, e2]; omega), e1, e2]; rfl
theorem lb_3 {b : Int} {v : Nat} (h : un b = y2 8 v) : un (land (w64 (b + lushr b 4)) 1085102592571150095) = y3 8 v := by
  have c0f : un 1085102592571150095 = M0f 8 := by decide +kernel
  have l1 := lt33 (y1 8 v); have l2 := lt33 (y1 8 v / 4)
  have le : y2 8 v ≤ 7378697629483820646 := by unfold y2; omega
  have hd : y2 8 v / 2 ^ 4 ≤ y2 8 v := Nat.div_le_self _ _
  rw [un_and, c0f, show (4 : Int) = ((4 : Nat) : Int) by rfl, un_add (by decide) h (by omega)]; rfl
theorem lb_4 {d : Int} {u0 u1 u2 u3 u4 u5 u6 u7 : Nat} (h : un d = P8 u0 u1 u2 u3 u4 u5 u6 u7) (q0 : u0 ≤ 8) (q1 : u1 ≤ 8) (q2 : u2 ≤ 8) (q3 : u3 ≤ 8) (q4 : u4 ≤ 8) (q5 : u5 ≤ 8) (q6 : u6 ≤ 8) (q7 : u7 ≤ 8) : jJ13_bitCount_95d88_34 d = some ((u0 + u1 + u2 + u3 + u4 + u5 + u6 + u7 : Nat) : Int) := by
  unfold jJ13_bitCount_95d88_34 jJ13_bitCount_95d88_41 jJ13_bitCount_95d88_48 jJ13_bitCount_95d88_55
  have v1 : un (w64 (d + lushr d 8)) = P8 (u0 + u1) (u1 + u2) (u2 + u3) (u3 + u4) (u4 + u5) (u5 + u6) (u6 + u7) (u7 + 0) := by
    have e : P8 u0 u1 u2 u3 u4 u5 u6 u7 / 2 ^ 8 = P8 u1 u2 u3 u4 u5 u6 u7 0 := P8_d (by omega)
    have l1 := P8_lt (a := u0) (b := u1) (c := u2) (d := u3) (e := u4) (f := u5) (g := u6) (h := u7) (by omega) (by omega) (by omega) (by omega) (by omega) (by omega) (by omega) (by omega)
    have l2 := P8_lt (a := u1) (b := u2) (c := u3) (d := u4) (e := u5) (f := u6) (g := u7) (h := 0) (by omega) (by omega) (by omega) (by omega) (by omega) (by omega) (by omega) (by omega)
    have := un_add (b := d) (n := 8) (by decide) h (by rw [e]; omega)
    rw [e, P8_a] at this; exact this
  generalize w64 (d + lushr d 8) = f at *
  have v2 : un (w64 (f + lushr f 16)) = P8 (u0 + u1 + (u2 + u3)) (u1 + u2 + (u3 + u4)) (u2 + u3 + (u4 + u5)) (u3 + u4 + (u5 + u6)) (u4 + u5 + (u6 + u7)) (u5 + u6 + (u7 + 0)) (u6 + u7 + 0) (u7 + 0 + 0) := by
    have e : P8 (u0 + u1) (u1 + u2) (u2 + u3) (u3 + u4) (u4 + u5) (u5 + u6) (u6 + u7) (u7 + 0) / 2 ^ 16 = P8 (u2 + u3) (u3 + u4) (u4 + u5) (u5 + u6) (u6 + u7) (u7 + 0) 0 0 := by
      rw [show (2 : Nat) ^ 16 = 256 * 256 by rfl, ← Nat.div_div_eq_div_mul, P8_d (by omega), P8_d (by omega)]
    have l1 := P8_lt (a := u0 + u1) (b := u1 + u2) (c := u2 + u3) (d := u3 + u4) (e := u4 + u5) (f := u5 + u6) (g := u6 + u7) (h := u7 + 0) (by omega) (by omega) (by omega) (by omega) (by omega) (by omega) (by omega) (by omega)
    have l2 := P8_lt (a := u2 + u3) (b := u3 + u4) (c := u4 + u5) (d := u5 + u6) (e := u6 + u7) (f := u7 + 0) (g := 0) (h := 0) (by omega) (by omega) (by omega) (by omega) (by omega) (by omega) (by omega) (by omega)
    have := un_add (b := f) (n := 16) (by decide) v1 (by rw [e]; omega)
    rw [e, P8_a] at this; exact this
  generalize w64 (f + lushr f 16) = h at *
  have v3 : un (w64 (h + lushr h 32)) = P8 (u0 + u1 + (u2 + u3) + (u4 + u5 + (u6 + u7))) (u1 + u2 + (u3 + u4) + (u5 + u6 + (u7 + 0))) (u2 + u3 + (u4 + u5) + (u6 + u7 + 0)) (u3 + u4 + (u5 + u6) + (u7 + 0 + 0)) (u4 + u5 + (u6 + u7) + 0) (u5 + u6 + (u7 + 0) + 0) (u6 + u7 + 0 + 0) (u7 + 0 + 0 + 0) := by
    have e : P8 (u0 + u1 + (u2 + u3)) (u1 + u2 + (u3 + u4)) (u2 + u3 + (u4 + u5)) (u3 + u4 + (u5 + u6)) (u4 + u5 + (u6 + u7)) (u5 + u6 + (u7 + 0)) (u6 + u7 + 0) (u7 + 0 + 0) / 2 ^ 32 = P8 (u4 + u5 + (u6 + u7)) (u5 + u6 + (u7 + 0)) (u6 + u7 + 0) (u7 + 0 + 0) 0 0 0 0 := by
      rw [show (2 : Nat) ^ 32 = 256 * 256 * 256 * 256 by rfl, ← Nat.div_div_eq_div_mul, ← Nat.div_div_eq_div_mul, ← Nat.div_div_eq_div_mul, P8_d (by omega), P8_d (by omega), P8_d (by omega), P8_d (by omega)]
    have l1 := P8_lt (a := u0 + u1 + (u2 + u3)) (b := u1 + u2 + (u3 + u4)) (c := u2 + u3 + (u4 + u5)) (d := u3 + u4 + (u5 + u6)) (e := u4 + u5 + (u6 + u7)) (f := u5 + u6 + (u7 + 0)) (g := u6 + u7 + 0) (h := u7 + 0 + 0) (by omega) (by omega) (by omega) (by omega) (by omega) (by omega) (by omega) (by omega)
    have l2 := P8_lt (a := u4 + u5 + (u6 + u7)) (b := u5 + u6 + (u7 + 0)) (c := u6 + u7 + 0) (d := u7 + 0 + 0) (e := 0) (f := 0) (g := 0) (h := 0) (by omega) (by omega) (by omega) (by omega) (by omega) (by omega) (by omega) (by omega)
    have := un_add (b := h) (n := 32) (by decide) v2 (by rw [e]; omega)
    rw [e, P8_a] at this; exact this
  generalize w64 (h + lushr h 32) = r at *
  have v4 : un r % 128 = u0 + u1 + (u2 + u3) + (u4 + u5 + (u6 + u7)) := by rw [v3]; exact P8_m (by omega)
  have hr := un_eq r
  clear v1 v2 v3
  rw [e127]
  congr 1
  unfold w32
  omega
theorem lbits_ok {x : Int} : lbits x = pcN 64 (un x) := by
  have key : fJ13_bitCount_95d88 x = some ((pcN 64 (un x) : Nat) : Int) := by
    have hx := un_lt x
    have hp : (256 : Nat) ^ 8 = 18446744073709551616 := by decide +kernel
    have y3ok := (y3_ok 8 (un x) (by rw [hp]; exact hx)).1
    have s3 := lb_3 (lb_2 (lb_1 (x := x)))
    rw [y3ok] at s3
    unfold fJ13_bitCount_95d88 jJ13_bitCount_95d88_10 jJ13_bitCount_95d88_24 lt
    have p64 := pc64 (un x)
    have w8 : W8 8 (un x) = P8 (pcN 8 (un x % 256)) (pcN 8 (un x / 256 % 256)) (pcN 8 (un x / 256 / 256 % 256)) (pcN 8 (un x / 256 / 256 / 256 % 256)) (pcN 8 (un x / 256 / 256 / 256 / 256 % 256)) (pcN 8 (un x / 256 / 256 / 256 / 256 / 256 % 256)) (pcN 8 (un x / 256 / 256 / 256 / 256 / 256 / 256 % 256)) (pcN 8 (un x / 256 / 256 / 256 / 256 / 256 / 256 / 256 % 256)) := by
      unfold P8; simp only [W8, Nat.mul_zero, Nat.zero_add, Nat.add_comm]
    rw [w8] at s3
    rw [p64]
    exact lb_4 s3 (pc8_le _) (pc8_le _) (pc8_le _) (pc8_le _) (pc8_le _) (pc8_le _) (pc8_le _) (pc8_le _)
  unfold lbits; rw [key]; rfl
