/-! ===== the small machine: numbers, memories ===== -/
abbrev Mm : Type := Int → Int → Int
abbrev AV : Type := Nat × Int
def w32 (x : Int) : Int := (x + 2147483648) % 4294967296 - 2147483648
def w64 (x : Int) : Int := (x + 9223372036854775808) % 18446744073709551616 - 9223372036854775808
def R32 (x : Int) : Prop := -2147483648 ≤ x ∧ x < 2147483648
def R64 (x : Int) : Prop := -9223372036854775808 ≤ x ∧ x < 9223372036854775808
theorem w32_R (x : Int) : R32 (w32 x) := by unfold R32 w32; omega
theorem w64_R (x : Int) : R64 (w64 x) := by unfold R64 w64; omega
theorem w32_eq {x : Int} (h : -2147483648 ≤ x) (h2 : x < 2147483648) : w32 x = x := by unfold w32; omega
theorem w64_eq {x : Int} (h : -9223372036854775808 ≤ x) (h2 : x < 9223372036854775808) : w64 x = x := by unfold w64; omega
theorem i32_t (x : Int) : (Int32.ofInt x).toInt = w32 x := by
  rw [Int32.toInt_ofInt]; simp only [Int.bmod, Int32.size, w32]; split <;> omega
theorem i64_t (x : Int) : (Int64.ofInt x).toInt = w64 x := by
  rw [Int64.toInt_ofInt]; simp only [Int.bmod, Int64.size, w64]; split <;> omega
theorem i32_w (x : Int) : Int32.ofInt (w32 x) = Int32.ofInt x := by rw [← i32_t, Int32.ofInt_toInt]
theorem i64_w (x : Int) : Int64.ofInt (w64 x) = Int64.ofInt x := by rw [← i64_t, Int64.ofInt_toInt]
theorem i32_R {x : Int} (h : R32 x) : (Int32.ofInt x).toInt = x := by rw [i32_t, w32_eq h.1 h.2]
theorem i64_R {x : Int} (h : R64 x) : (Int64.ofInt x).toInt = x := by rw [i64_t, w64_eq h.1 h.2]
theorem i32_lt {x y : Int} (hx : R32 x) (hy : R32 y) : Int32.ofInt x < Int32.ofInt y ↔ x < y := by rw [Int32.lt_iff_toInt_lt, i32_R hx, i32_R hy]
theorem i32_le {x y : Int} (hx : R32 x) (hy : R32 y) : Int32.ofInt x ≤ Int32.ofInt y ↔ x ≤ y := by rw [Int32.le_iff_toInt_le, i32_R hx, i32_R hy]
theorem i32_eq {x y : Int} (hx : R32 x) (hy : R32 y) : Int32.ofInt x = Int32.ofInt y ↔ x = y := ⟨fun h => by rw [← i32_R hx, ← i32_R hy, h], fun h => by rw [h]⟩
theorem i64_lt {x y : Int} (hx : R64 x) (hy : R64 y) : Int64.ofInt x < Int64.ofInt y ↔ x < y := by rw [Int64.lt_iff_toInt_lt, i64_R hx, i64_R hy]
theorem i64_eq {x y : Int} (hx : R64 x) (hy : R64 y) : Int64.ofInt x = Int64.ofInt y ↔ x = y := ⟨fun h => by rw [← i64_R hx, ← i64_R hy, h], fun h => by rw [h]⟩
theorem R32_0 : R32 0 := by unfold R32; omega
theorem R64_0 : R64 0 := by unfold R64; omega
theorem i32_0 : Int32.ofInt 0 = 0 := rfl
theorem i64_0 : Int64.ofInt 0 = 0 := rfl
theorem i32_n {x : Int} (h : R32 x) : (Int32.ofInt x).toNatClampNeg = x.toNat := by
  show (Int32.ofInt x).toInt.toNat = x.toNat
  rw [i32_R h]
theorem i32_in {x : Int} {n : Int} (h : R32 x) (h0 : 0 ≤ x) (hn : x < n) : vp_in (Int32.ofInt x) n.toNat := by
  intro q
  rcases q with q | q
  · rw [← i32_0, i32_lt h R32_0] at q; omega
  · rw [i32_n h] at q; omega
/-- 32 and 64 bits -/
def iand (x y : Int) : Int := (Int32.ofInt x &&& Int32.ofInt y).toInt
def ior (x y : Int) : Int := (Int32.ofInt x ||| Int32.ofInt y).toInt
def ixor (x y : Int) : Int := (Int32.ofInt x ^^^ Int32.ofInt y).toInt
def ishl (x y : Int) : Int := (Int32.ofInt x <<< (Int32.ofInt y &&& 31)).toInt
def ishr (x y : Int) : Int := (Int32.ofInt x >>> (Int32.ofInt y &&& 31)).toInt
def iushr (x y : Int) : Int := ((Int32.ofInt x).toUInt32 >>> ((Int32.ofInt y).toUInt32 &&& Int32.toUInt32 31)).toInt32.toInt
def land (x y : Int) : Int := (Int64.ofInt x &&& Int64.ofInt y).toInt
def lor (x y : Int) : Int := (Int64.ofInt x ||| Int64.ofInt y).toInt
def lxor (x y : Int) : Int := (Int64.ofInt x ^^^ Int64.ofInt y).toInt
def lshl (x y : Int) : Int := (Int64.ofInt x <<< ((Int32.ofInt y).toInt64 &&& 63)).toInt
def lushr (x y : Int) : Int := ((Int64.ofInt x).toUInt64 >>> ((Int32.ofInt y).toInt64.toUInt64 &&& Int64.toUInt64 63)).toInt64.toInt
def lcmp (x y : Int) : Int := if x < y then -1 else if x = y then 0 else 1
theorem R32_i (x : Int32) : R32 x.toInt := by
  have h1 := Int32.le_toInt x; have h2 := Int32.toInt_lt x; unfold R32; omega
theorem R64_i (x : Int64) : R64 x.toInt := by
  have h1 := Int64.le_toInt x; have h2 := Int64.toInt_lt x; unfold R64; omega
/-- one slot is another from now on; a new object is there, all 0 -/
def mst (μ : Mm) (a i v : Int) : Mm := fun b => if b = a then (fun j => if j = i then v else μ b j) else μ b
def mnw (μ : Mm) (a : Int) : Mm := fun b => if b = a then (fun _ => 0) else if b = 0 then (fun j => if j = a then 1 else μ 0 j) else μ b
theorem mst_n {μ : Mm} {a i v b : Int} (h : b ≠ a) : mst μ a i v b = μ b := by unfold mst; rw [if_neg h]
theorem mst_s {μ : Mm} {a i v : Int} : mst μ a i v a i = v := by simp [mst]
theorem mst_j {μ : Mm} {a i v j : Int} (h : j ≠ i) : mst μ a i v a j = μ a j := by simp [mst, h]
theorem mst_ap (μ : Mm) (a i v b j : Int) : mst μ a i v b j = if b = a ∧ j = i then v else μ b j := by
  unfold mst
  by_cases h : b = a
  · by_cases h2 : j = i <;> simp [h, h2]
  · simp [h]
/-! ===== values, cells, worlds ===== -/
def tc : FieldType → Nat
  | .int => 0
  | .boolean => 1
  | .long => 2
  | .object _ => 3
  | .array _ => 3
  | _ => 9
def FT (k : Nat) (j : Int) : Nat := if k < 12 then tc (tyOf k j.toNat) else if k = 12 then 0 else if k = 13 then 2 else if k = 14 then 1 else 3
def stt (t : Nat) : Nat := if t = 1 then 0 else t
def cv (ad : Int → Nat) (v : AV) : Value := match v.1 with
  | 2 => .long (Int64.ofInt v.2)
  | 3 => if v.2 = 0 then .null else .ref (ad v.2)
  | _ => .int (Int32.ofInt v.2)
def okv (lv : Int → Int) (v : AV) : Prop := match v.1 with
  | 0 => R32 v.2
  | 1 => v.2 = 0 ∨ v.2 = 1
  | 2 => R64 v.2
  | 3 => v.2 = 0 ∨ (1 ≤ v.2 ∧ v.2 ≤ 34) ∨ lv v.2 ≠ 0
  | _ => False
def szo (x : Int) : Int := if KD x < 12 then (NF (KD x) : Int) else LN x
def ent (cA : Nat → ClassId) (ad : Int → Nat) (x : Int) (f : Int → Int) : va_E :=
  if KD x < 12 then .inr (KD x, (List.range (NF (KD x))).map fun j : Nat => cv ad (FT (KD x) (j : Int), f (j : Int)))
  else if KD x = 13 then .inl (cA 13, (LN x).toNat, .inr (.inl fun j => Int64.ofInt (f (j : Int))))
  else if KD x = 12 ∨ KD x = 14 then .inl (cA (KD x), (LN x).toNat, .inl fun j => Int32.ofInt (f (j : Int)))
  else .inl (cA (KD x), (LN x).toNat, .inr (.inr (.inr (.inr fun j => if (j : Int) < LN x ∧ f (j : Int) ≠ 0 then some (ad (f (j : Int))) else none))))
def wd (cA : Nat → ClassId) (ad : Int → Nat) (ids : List Int) (μ : Mm) : va_W := ids.map fun x => (ad x, ent cA ad x (μ x))
def Rep (D : va_G) (cA : Nat → ClassId) (adK : Nat → Nat) (ad : Int → Nat) (ids : List Int) (μ : Mm) (A : Nat → Prop) (H : Heap) : Prop :=
  va_P D vwCl (wd cA ad ids μ) H ∧ va_D A (wd cA ad ids μ) ∧ (∀ x, x ∈ ids ↔ μ 0 x ≠ 0) ∧ (∀ x ∈ ids, KD x < 20 ∧ ∀ j : Int, 0 ≤ j → j < szo x → okv (μ 0) (FT (KD x) j, μ x j)) ∧ ∀ i : Nat, i < 34 → ad ((i : Int) + 1) = adK i
def tysOf (cA : Nat → ClassId) : List (ClassId × FieldType) := [(cA 12, .int), (cA 13, .long), (cA 14, .boolean), (cA 15, .object RX2), (cA 16, .object RX4), (cA 17, .object RX6), (cA 18, .object RX7), (cA 19, .object RX8)]
def Kx (D : va_G) (cA : Nat → ClassId) (adK adV : Nat → Nat) (A : Nat → Prop) (U : State) : Prop :=
  va_K D vwCl (tysOf cA) U ∧ (∀ i : Nat, i < 16 → vk_R RX3 (sIdx.getD i 0) (sTx.getD i "") (adK i) U) ∧ vk_S 16 sLen sByt adK (fun i => adK (i + 16)) A U U.heap ∧ va_Z "java/lang/String" "COMPACT_STRINGS" "Z" (.int 1) A U U.heap ∧ (∀ q ∈ NWs, va_Nw (.methodLinkNest q.1 q.2.1 q.2.2.1 q.2.2.2) U) ∧ (∀ C ∈ [RX2, RX4, RX6, RX7, RX8], va_AO C U) ∧ (va_Z "jdk/internal/util/Preconditions" "SIOOBE_FORMATTER" "Ljava/util/function/BiFunction;" .null A U U.heap ∨ va_Z "jdk/internal/util/Preconditions" "SIOOBE_FORMATTER" "Ljava/util/function/BiFunction;" (.ref (adK 32)) A U U.heap)
/-- what a method may write: what was there of ours, and what comes -/
def Aof (ad : Int → Nat) (ids : List Int) (sz : Nat) : Nat → Prop := fun q => (∃ x ∈ ids, ad x = q) ∨ sz ≤ q
/-- a method: its class, code, locals, answer's type, name, frames, words of locals -/
abbrev MI : Type := String × ByteArray × Nat × Option FieldType × String × Nat × Nat × (State → (Nat → Nat) → (Nat → Prop) → Prop)
/-- an end: the answer (none or one), the memory, cells and slots that were made -/
abbrev FI : Type := List AV × Mm × Nat × Nat
def Cx (p : Program) (s : State) (m : MethodId) (args : Array Value) (meth : Method) (c : Code) (D : va_G) (cA : Nat → ClassId) (adK adV : Nat → Nat) (A : Nat → Prop) (M : MI) : Prop :=
  p.tables.exec = Jvm.exec ∧ c.code = M.2.1 ∧ c.maxLocals = M.2.2.1 ∧ s.vm.findClass M.1 = some m.cls ∧ (∀ w ∈ Wt, w.before args s = true) ∧ Kx D cA adK adV A s ∧ meth.sig.returnType = M.2.2.2.1 ∧ meth.locks = false ∧ meth.name = M.2.2.2.2.1 ∧ M.2.2.2.2.2.2.2 s adK A
def Qf (D : va_G) (cA : Nat → ClassId) (adK : Nat → Nat) (ad0 : Int → Nat) (ids0 : List Int) (F : FI) : Array Value → State → Outcome → State → Prop := fun _ st oc t =>
  (∃ (ad : Int → Nat) (ids : List Int), (∀ x ∈ ids0, ad x = ad0 x ∧ x ∈ ids) ∧ oc = .returned (F.1.head?.map (cv ad)) ∧ (∀ v ∈ F.1, okv (F.2.1 0) v) ∧ Rep D cA adK ad ids F.2.1 (Aof ad0 ids0 st.heap.size) t.heap) ∧ va_F (Aof ad0 ids0 st.heap.size) st t
def rmO (M : MI) (F : FI) : Room := { frames := M.2.2.2.2.2.1, cells := F.2.2.1, slots := F.2.2.2, locals := M.2.2.2.2.2.2.1 }
def GM (l : Launch) (M : MI) (F : FI) (k n pc : Nat) (L : List (Nat × AV)) (st : List AV) (μ : Mm) : Prop :=
  ∀ (p : Program) (e : Env) (s : State) (m : MethodId) (args : Array Value) (below : List Frame) (meth : Method) (c : Code) (D : va_G) (cA : Nat → ClassId) (adK adV : Nat → Nat) (ad0 : Int → Nat) (ids0 : List Int),
  Cx p s m args meth c D cA adK adV (Aof ad0 ids0 s.heap.size) M →
  ∀ (ad : Int → Nat) (ids : List Int) (H : Heap) (locs : List Loc) (cells slots : Nat) (ls : Array Slot),
  Rep D cA adK ad ids μ (Aof ad0 ids0 s.heap.size) H → (∀ x ∈ ids0, ad x = ad0 x ∧ x ∈ ids) → (∀ q ∈ L, okv (μ 0) q.2) → (∀ v ∈ st, okv (μ 0) v) → va_S (Aof ad0 ids0 s.heap.size) s.heap H locs → lv_has ls M.2.2.1 (L.map fun q => (q.1, cv ad q.2)) → cells + k ≤ F.2.2.1 → slots + n ≤ F.2.2.2 →
  W p l e (rmO M F) s m args below meth c H locs cells slots (MQ below (Qf D cA adK ad0 ids0 F) args s F.2.2.1 F.2.2.2 (Aof ad0 ids0 s.heap.size)) (F0 m pc ls (st.map (cv ad)))

theorem ok_i {lv : Int → Int} {x : Int} (h : okv lv (0, x)) : R32 x := h
theorem ok_l {lv : Int → Int} {x : Int} (h : okv lv (2, x)) : R64 x := h
theorem okc {lv : Int → Int} {st : List AV} {v : AV} (h : ∀ u ∈ v :: st, okv lv u) : okv lv v ∧ ∀ u ∈ st, okv lv u := ⟨h v List.mem_cons_self, fun u hu => h u (List.mem_cons_of_mem _ hu)⟩
theorem ok_c {lv : Int → Int} {st : List AV} {v : AV} (hv : okv lv v) (h : ∀ u ∈ st, okv lv u) : ∀ u ∈ v :: st, okv lv u := List.forall_mem_cons.mpr ⟨hv, h⟩
theorem lv_get {ad : Int → Nat} {ls : Array Slot} {nL : Nat} {L : List (Nat × AV)} (hl : lv_has ls nL (L.map fun q => (q.1, cv ad q.2))) (j : Nat) {i : Nat} {v : AV} (h : L[j]? = some (i, v)) : ls[i]? = some (.val (cv ad v)) :=
  lv_at hl j (by rw [List.getElem?_map, h]; rfl)
theorem ok_get {lv : Int → Int} {L : List (Nat × AV)} (hL : ∀ q ∈ L, okv lv q.2) (j : Nat) {i : Nat} {v : AV} (h : L[j]? = some (i, v)) : okv lv v := hL (i, v) (List.mem_of_getElem? h)

theorem GM_iconst {l : Launch} {M : MI} {F : FI} {k n pc : Nat} {L : List (Nat × AV)} {st : List AV} {μ : Mm} {z : Int} (x : Int) (d : decode M.2.1 pc = .ok (.iconst z, 1)) (hz : Int32.ofInt z = Int32.ofInt x) (hx0 : R32 x) (K : GM l M F k n (pc + 1) L ((0, x) :: st) μ) : GM l M F k n pc L st μ := by
  intro p e s m args below meth c D cA adK adV ad0 ids0 C ad ids H locs cells slots ls hR ha hL hst hS hl hk hn
  obtain ⟨hx, hb, hml, hown, hts, hK, hr, hlk, hnm, hXx⟩ := id C
  exact lv_iconst hx hb d hz (K p e s m args below meth c D cA adK adV ad0 ids0 C ad ids H locs cells slots ls hR ha hL (ok_c (v := (0, x)) hx0 hst) hS hl hk hn)
theorem GM_bipush {l : Launch} {M : MI} {F : FI} {k n pc : Nat} {L : List (Nat × AV)} {st : List AV} {μ : Mm} {z : Int} (x : Int) (d : decode M.2.1 pc = .ok (.bipush z, 2)) (hz : (Int8.ofInt z).toInt32 = Int32.ofInt x) (hx0 : R32 x) (K : GM l M F k n (pc + 2) L ((0, x) :: st) μ) : GM l M F k n pc L st μ := by
  intro p e s m args below meth c D cA adK adV ad0 ids0 C ad ids H locs cells slots ls hR ha hL hst hS hl hk hn
  obtain ⟨hx, hb, hml, hown, hts, hK, hr, hlk, hnm, hXx⟩ := id C
  exact lv_bipush hx hb d hz (K p e s m args below meth c D cA adK adV ad0 ids0 C ad ids H locs cells slots ls hR ha hL (ok_c (v := (0, x)) hx0 hst) hS hl hk hn)
theorem GM_sipush {l : Launch} {M : MI} {F : FI} {k n pc : Nat} {L : List (Nat × AV)} {st : List AV} {μ : Mm} {z : Int} (x : Int) (d : decode M.2.1 pc = .ok (.sipush z, 3)) (hz : (Int16.ofInt z).toInt32 = Int32.ofInt x) (hx0 : R32 x) (K : GM l M F k n (pc + 3) L ((0, x) :: st) μ) : GM l M F k n pc L st μ := by
  intro p e s m args below meth c D cA adK adV ad0 ids0 C ad ids H locs cells slots ls hR ha hL hst hS hl hk hn
  obtain ⟨hx, hb, hml, hown, hts, hK, hr, hlk, hnm, hXx⟩ := id C
  exact lv_sipush hx hb d hz (K p e s m args below meth c D cA adK adV ad0 ids0 C ad ids H locs cells slots ls hR ha hL (ok_c (v := (0, x)) hx0 hst) hS hl hk hn)
theorem GM_lconst {l : Launch} {M : MI} {F : FI} {k n pc : Nat} {L : List (Nat × AV)} {st : List AV} {μ : Mm} {z : Fin 2} (x : Int) (d : decode M.2.1 pc = .ok (.lconst z, 1)) (hz : Int64.ofNat (z : Nat) = Int64.ofInt x) (hx0 : R64 x) (K : GM l M F k n (pc + 1) L ((2, x) :: st) μ) : GM l M F k n pc L st μ := by
  intro p e s m args below meth c D cA adK adV ad0 ids0 C ad ids H locs cells slots ls hR ha hL hst hS hl hk hn
  obtain ⟨hx, hb, hml, hown, hts, hK, hr, hlk, hnm, hXx⟩ := id C
  exact lv_lconst hx hb d hz (K p e s m args below meth c D cA adK adV ad0 ids0 C ad ids H locs cells slots ls hR ha hL (ok_c (v := (2, x)) hx0 hst) hS hl hk hn)
theorem GM_null {l : Launch} {M : MI} {F : FI} {k n pc : Nat} {L : List (Nat × AV)} {st : List AV} {μ : Mm} (d : decode M.2.1 pc = .ok (.aconst_null, 1)) (K : GM l M F k n (pc + 1) L ((3, 0) :: st) μ) : GM l M F k n pc L st μ := by
  intro p e s m args below meth c D cA adK adV ad0 ids0 C ad ids H locs cells slots ls hR ha hL hst hS hl hk hn
  obtain ⟨hx, hb, hml, hown, hts, hK, hr, hlk, hnm, hXx⟩ := id C
  exact lv_null hx hb d (K p e s m args below meth c D cA adK adV ad0 ids0 C ad ids H locs cells slots ls hR ha hL (ok_c (v := (3, 0)) (Or.inl rfl) hst) hS hl hk hn)
theorem GM_ldc {l : Launch} {M : MI} {F : FI} {k n pc : Nat} {L : List (Nat × AV)} {st : List AV} {μ : Mm} {i : Nat} (x : Int) (hw : Cond.constant M.1 i (Int32.ofInt x) ∈ Wt) (d : decode M.2.1 pc = .ok (.ldc i, 2)) (hx0 : R32 x) (K : GM l M F k n (pc + 2) L ((0, x) :: st) μ) : GM l M F k n pc L st μ := by
  intro p e s m args below meth c D cA adK adV ad0 ids0 C ad ids H locs cells slots ls hR ha hL hst hS hl hk hn
  obtain ⟨hx, hb, hml, hown, hts, hK, hr, hlk, hnm, hXx⟩ := id C
  exact lv_ldc hx hb hown (hts _ hw) d (K p e s m args below meth c D cA adK adV ad0 ids0 C ad ids H locs cells slots ls hR ha hL (ok_c (v := (0, x)) hx0 hst) hS hl hk hn)
theorem GM_ldcw {l : Launch} {M : MI} {F : FI} {k n pc : Nat} {L : List (Nat × AV)} {st : List AV} {μ : Mm} {i : Nat} (x : Int) (hw : Cond.constant M.1 i (Int32.ofInt x) ∈ Wt) (d : decode M.2.1 pc = .ok (.ldc_w i, 3)) (hx0 : R32 x) (K : GM l M F k n (pc + 3) L ((0, x) :: st) μ) : GM l M F k n pc L st μ := by
  intro p e s m args below meth c D cA adK adV ad0 ids0 C ad ids H locs cells slots ls hR ha hL hst hS hl hk hn
  obtain ⟨hx, hb, hml, hown, hts, hK, hr, hlk, hnm, hXx⟩ := id C
  exact lv_ldcw hx hb hown (hts _ hw) d (K p e s m args below meth c D cA adK adV ad0 ids0 C ad ids H locs cells slots ls hR ha hL (ok_c (v := (0, x)) hx0 hst) hS hl hk hn)
theorem GM_ldc2 {l : Launch} {M : MI} {F : FI} {k n pc : Nat} {L : List (Nat × AV)} {st : List AV} {μ : Mm} {i : Nat} (x : Int) (hw : Cond.constantLong M.1 i (Int64.ofInt x) ∈ Wt) (d : decode M.2.1 pc = .ok (.ldc2_w i, 3)) (hx0 : R64 x) (K : GM l M F k n (pc + 3) L ((2, x) :: st) μ) : GM l M F k n pc L st μ := by
  intro p e s m args below meth c D cA adK adV ad0 ids0 C ad ids H locs cells slots ls hR ha hL hst hS hl hk hn
  obtain ⟨hx, hb, hml, hown, hts, hK, hr, hlk, hnm, hXx⟩ := id C
  exact lv_ldc2 hx hb hown (hts _ hw) d (K p e s m args below meth c D cA adK adV ad0 ids0 C ad ids H locs cells slots ls hR ha hL (ok_c (v := (2, x)) hx0 hst) hS hl hk hn)
theorem GM_iload_n {l : Launch} {M : MI} {F : FI} {k n pc : Nat} {L : List (Nat × AV)} {st : List AV} {μ : Mm} {z : Fin 4} (j : Nat) {i : Nat} {x : Int} (h : L[j]? = some (i, (0, x))) (d : decode M.2.1 pc = .ok (.iload_n z, 1)) (hi : (z : Nat) = i) (K : GM l M F k n (pc + 1) L ((0, x) :: st) μ) : GM l M F k n pc L st μ := by
  intro p e s m args below meth c D cA adK adV ad0 ids0 C ad ids H locs cells slots ls hR ha hL hst hS hl hk hn
  obtain ⟨hx, hb, hml, hown, hts, hK, hr, hlk, hnm, hXx⟩ := id C
  exact lv_iload_n hx hb d hi (lv_get hl j h) (K p e s m args below meth c D cA adK adV ad0 ids0 C ad ids H locs cells slots ls hR ha hL (ok_c (ok_get hL j h) hst) hS hl hk hn)
theorem GM_iload {l : Launch} {M : MI} {F : FI} {k n pc : Nat} {L : List (Nat × AV)} {st : List AV} {μ : Mm} (j : Nat) {i : Nat} {x : Int} (h : L[j]? = some (i, (0, x))) (d : decode M.2.1 pc = .ok (.iload i, 2)) (K : GM l M F k n (pc + 2) L ((0, x) :: st) μ) : GM l M F k n pc L st μ := by
  intro p e s m args below meth c D cA adK adV ad0 ids0 C ad ids H locs cells slots ls hR ha hL hst hS hl hk hn
  obtain ⟨hx, hb, hml, hown, hts, hK, hr, hlk, hnm, hXx⟩ := id C
  exact lv_iload hx hb d (lv_get hl j h) (K p e s m args below meth c D cA adK adV ad0 ids0 C ad ids H locs cells slots ls hR ha hL (ok_c (ok_get hL j h) hst) hS hl hk hn)
theorem GM_lload_n {l : Launch} {M : MI} {F : FI} {k n pc : Nat} {L : List (Nat × AV)} {st : List AV} {μ : Mm} {z : Fin 4} (j : Nat) {i : Nat} {x : Int} (h : L[j]? = some (i, (2, x))) (d : decode M.2.1 pc = .ok (.lload_n z, 1)) (hi : (z : Nat) = i) (K : GM l M F k n (pc + 1) L ((2, x) :: st) μ) : GM l M F k n pc L st μ := by
  intro p e s m args below meth c D cA adK adV ad0 ids0 C ad ids H locs cells slots ls hR ha hL hst hS hl hk hn
  obtain ⟨hx, hb, hml, hown, hts, hK, hr, hlk, hnm, hXx⟩ := id C
  exact lv_lload_n hx hb d hi (lv_get hl j h) (K p e s m args below meth c D cA adK adV ad0 ids0 C ad ids H locs cells slots ls hR ha hL (ok_c (ok_get hL j h) hst) hS hl hk hn)
theorem GM_lload {l : Launch} {M : MI} {F : FI} {k n pc : Nat} {L : List (Nat × AV)} {st : List AV} {μ : Mm} (j : Nat) {i : Nat} {x : Int} (h : L[j]? = some (i, (2, x))) (d : decode M.2.1 pc = .ok (.lload i, 2)) (K : GM l M F k n (pc + 2) L ((2, x) :: st) μ) : GM l M F k n pc L st μ := by
  intro p e s m args below meth c D cA adK adV ad0 ids0 C ad ids H locs cells slots ls hR ha hL hst hS hl hk hn
  obtain ⟨hx, hb, hml, hown, hts, hK, hr, hlk, hnm, hXx⟩ := id C
  exact lv_lload hx hb d (lv_get hl j h) (K p e s m args below meth c D cA adK adV ad0 ids0 C ad ids H locs cells slots ls hR ha hL (ok_c (ok_get hL j h) hst) hS hl hk hn)
theorem cv_0 (ad : Int → Nat) : cv ad (3, 0) = .null := rfl
theorem cv_r (ad : Int → Nat) {x : Int} (h : x ≠ 0) : cv ad (3, x) = .ref (ad x) := by show (if x = 0 then Value.null else .ref (ad x)) = _; rw [if_neg h]
theorem GM_aload_n {l : Launch} {M : MI} {F : FI} {k n pc : Nat} {L : List (Nat × AV)} {st : List AV} {μ : Mm} {z : Fin 4} (j : Nat) {i : Nat} {x : Int} (h : L[j]? = some (i, (3, x))) (d : decode M.2.1 pc = .ok (.aload_n z, 1)) (hi : (z : Nat) = i) (K : GM l M F k n (pc + 1) L ((3, x) :: st) μ) : GM l M F k n pc L st μ := by
  intro p e s m args below meth c D cA adK adV ad0 ids0 C ad ids H locs cells slots ls hR ha hL hst hS hl hk hn
  obtain ⟨hx, hb, hml, hown, hts, hK, hr, hlk, hnm, hXx⟩ := id C
  have g := lv_get hl j h
  have K1 := K p e s m args below meth c D cA adK adV ad0 ids0 C ad ids H locs cells slots ls hR ha hL (ok_c (ok_get hL j h) hst) hS hl hk hn
  by_cases h0 : x = 0
  · subst h0; exact lv_aload_nN hx hb d hi g K1
  · rw [List.map_cons, cv_r ad h0] at K1; rw [cv_r ad h0] at g; exact lv_aload_n hx hb d hi g K1
theorem GM_aload {l : Launch} {M : MI} {F : FI} {k n pc : Nat} {L : List (Nat × AV)} {st : List AV} {μ : Mm} (j : Nat) {i : Nat} {x : Int} (h : L[j]? = some (i, (3, x))) (d : decode M.2.1 pc = .ok (.aload i, 2)) (K : GM l M F k n (pc + 2) L ((3, x) :: st) μ) : GM l M F k n pc L st μ := by
  intro p e s m args below meth c D cA adK adV ad0 ids0 C ad ids H locs cells slots ls hR ha hL hst hS hl hk hn
  obtain ⟨hx, hb, hml, hown, hts, hK, hr, hlk, hnm, hXx⟩ := id C
  have g := lv_get hl j h
  have K1 := K p e s m args below meth c D cA adK adV ad0 ids0 C ad ids H locs cells slots ls hR ha hL (ok_c (ok_get hL j h) hst) hS hl hk hn
  by_cases h0 : x = 0
  · subst h0; exact lv_aloadN hx hb d g K1
  · rw [List.map_cons, cv_r ad h0] at K1; rw [cv_r ad h0] at g; exact lv_aload hx hb d g K1
def sto1 (L : List (Nat × AV)) (i : Nat) (v : AV) : List (Nat × AV) := (i, v) :: L.filter fun q => !(q.1 == i) && !(q.1 + 1 == i && q.2.1 == 2)
def sto2 (L : List (Nat × AV)) (i : Nat) (v : AV) : List (Nat × AV) := (i, v) :: L.filter fun q => !(q.1 == i) && (!(q.1 == i + 1) && !(q.1 + 1 == i && q.2.1 == 2))
theorem cv_cat (ad : Int → Nat) (v : AV) : ((cv ad v).category == 2) = (v.1 == 2) := by
  obtain ⟨t, x⟩ := v
  match t with
  | 0 => rfl
  | 1 => rfl
  | 2 => rfl
  | 3 => show ((if x = 0 then Value.null else .ref (ad x)).category == 2) = _; split <;> rfl
  | t + 4 => show ((Value.int (Int32.ofInt x)).category == 2) = _; simp [Value.category]
theorem sto1_cv (ad : Int → Nat) (L : List (Nat × AV)) (i : Nat) (v : AV) : (i, cv ad v) :: (L.map fun q => (q.1, cv ad q.2)).filter (fun q => !(q.1 == i) && !(q.1 + 1 == i && q.2.category == 2)) = (sto1 L i v).map fun q => (q.1, cv ad q.2) := by
  unfold sto1
  rw [List.map_cons, List.filter_map]
  congr 2
  apply List.filter_congr
  intro q _
  simp only [Function.comp, cv_cat]
theorem sto2_cv (ad : Int → Nat) (L : List (Nat × AV)) (i : Nat) (v : AV) : (i, cv ad v) :: (L.map fun q => (q.1, cv ad q.2)).filter (fun q => !(q.1 == i) && (!(q.1 == i + 1) && !(q.1 + 1 == i && q.2.category == 2))) = (sto2 L i v).map fun q => (q.1, cv ad q.2) := by
  unfold sto2
  rw [List.map_cons, List.filter_map]
  congr 2
  apply List.filter_congr
  intro q _
  simp only [Function.comp, cv_cat]
theorem ok_sto1 {lv : Int → Int} {L : List (Nat × AV)} {i : Nat} {v : AV} (h : ∀ q ∈ L, okv lv q.2) (hv : okv lv v) : ∀ q ∈ sto1 L i v, okv lv q.2 := by
  intro q hq
  rcases List.mem_cons.mp hq with rfl | hq
  · exact hv
  · exact h q (List.mem_filter.mp hq).1
theorem ok_sto2 {lv : Int → Int} {L : List (Nat × AV)} {i : Nat} {v : AV} (h : ∀ q ∈ L, okv lv q.2) (hv : okv lv v) : ∀ q ∈ sto2 L i v, okv lv q.2 := by
  intro q hq
  rcases List.mem_cons.mp hq with rfl | hq
  · exact hv
  · exact h q (List.mem_filter.mp hq).1

theorem GM_istore_n {l : Launch} {M : MI} {F : FI} {k n pc : Nat} {L : List (Nat × AV)} {st : List AV} {μ : Mm} {z : Fin 4} {i : Nat} {x : Int} {L' : List (Nat × AV)} (d : decode M.2.1 pc = .ok (.istore_n z, 1)) (hi : (z : Nat) = i) (hn0 : i < M.2.2.1) (hL' : sto1 L i (0, x) = L') (K : GM l M F k n (pc + 1) L' st μ) : GM l M F k n pc L ((0, x) :: st) μ := by
  intro p e s m args below meth c D cA adK adV ad0 ids0 C ad ids H locs cells slots ls hR ha hL hst hS hl hk hn
  obtain ⟨hx, hb, hml, hown, hts, hK, hr, hlk, hnm, hXx⟩ := id C
  subst hL'
  obtain ⟨hv, hst⟩ := okc hst
  exact lv_istore_n hx hb d hi hl hn0 (sto1_cv ad L i (0, x)) fun ls hl => K p e s m args below meth c D cA adK adV ad0 ids0 C ad ids H locs cells slots ls hR ha (ok_sto1 hL hv) hst hS hl hk hn
theorem GM_istore {l : Launch} {M : MI} {F : FI} {k n pc : Nat} {L : List (Nat × AV)} {st : List AV} {μ : Mm} {i : Nat} {x : Int} {L' : List (Nat × AV)} (d : decode M.2.1 pc = .ok (.istore i, 2)) (hn0 : i < M.2.2.1) (hL' : sto1 L i (0, x) = L') (K : GM l M F k n (pc + 2) L' st μ) : GM l M F k n pc L ((0, x) :: st) μ := by
  intro p e s m args below meth c D cA adK adV ad0 ids0 C ad ids H locs cells slots ls hR ha hL hst hS hl hk hn
  obtain ⟨hx, hb, hml, hown, hts, hK, hr, hlk, hnm, hXx⟩ := id C
  subst hL'
  obtain ⟨hv, hst⟩ := okc hst
  exact lv_istore hx hb d hl hn0 (sto1_cv ad L i (0, x)) fun ls hl => K p e s m args below meth c D cA adK adV ad0 ids0 C ad ids H locs cells slots ls hR ha (ok_sto1 hL hv) hst hS hl hk hn
theorem GM_lstore_n {l : Launch} {M : MI} {F : FI} {k n pc : Nat} {L : List (Nat × AV)} {st : List AV} {μ : Mm} {z : Fin 4} {i : Nat} {x : Int} {L' : List (Nat × AV)} (d : decode M.2.1 pc = .ok (.lstore_n z, 1)) (hi : (z : Nat) = i) (hn0 : i + 1 < M.2.2.1) (hL' : sto2 L i (2, x) = L') (K : GM l M F k n (pc + 1) L' st μ) : GM l M F k n pc L ((2, x) :: st) μ := by
  intro p e s m args below meth c D cA adK adV ad0 ids0 C ad ids H locs cells slots ls hR ha hL hst hS hl hk hn
  obtain ⟨hx, hb, hml, hown, hts, hK, hr, hlk, hnm, hXx⟩ := id C
  subst hL'
  obtain ⟨hv, hst⟩ := okc hst
  exact lv_lstore_n hx hb d hi hl hn0 (sto2_cv ad L i (2, x)) fun ls hl => K p e s m args below meth c D cA adK adV ad0 ids0 C ad ids H locs cells slots ls hR ha (ok_sto2 hL hv) hst hS hl hk hn
theorem GM_lstore {l : Launch} {M : MI} {F : FI} {k n pc : Nat} {L : List (Nat × AV)} {st : List AV} {μ : Mm} {i : Nat} {x : Int} {L' : List (Nat × AV)} (d : decode M.2.1 pc = .ok (.lstore i, 2)) (hn0 : i + 1 < M.2.2.1) (hL' : sto2 L i (2, x) = L') (K : GM l M F k n (pc + 2) L' st μ) : GM l M F k n pc L ((2, x) :: st) μ := by
  intro p e s m args below meth c D cA adK adV ad0 ids0 C ad ids H locs cells slots ls hR ha hL hst hS hl hk hn
  obtain ⟨hx, hb, hml, hown, hts, hK, hr, hlk, hnm, hXx⟩ := id C
  subst hL'
  obtain ⟨hv, hst⟩ := okc hst
  exact lv_lstore hx hb d hl hn0 (sto2_cv ad L i (2, x)) fun ls hl => K p e s m args below meth c D cA adK adV ad0 ids0 C ad ids H locs cells slots ls hR ha (ok_sto2 hL hv) hst hS hl hk hn
theorem GM_astore_n {l : Launch} {M : MI} {F : FI} {k n pc : Nat} {L : List (Nat × AV)} {st : List AV} {μ : Mm} {z : Fin 4} {i : Nat} {x : Int} {L' : List (Nat × AV)} (d : decode M.2.1 pc = .ok (.astore_n z, 1)) (hi : (z : Nat) = i) (hn0 : i < M.2.2.1) (hL' : sto1 L i (3, x) = L') (K : GM l M F k n (pc + 1) L' st μ) : GM l M F k n pc L ((3, x) :: st) μ := by
  intro p e s m args below meth c D cA adK adV ad0 ids0 C ad ids H locs cells slots ls hR ha hL hst hS hl hk hn
  obtain ⟨hx, hb, hml, hown, hts, hK, hr, hlk, hnm, hXx⟩ := id C
  subst hL'
  obtain ⟨hv, hst1⟩ := okc hst
  have ee := sto1_cv ad L i (3, x)
  by_cases h0 : x = 0
  · subst h0; exact lv_astore_nN hx hb d hi hl hn0 ee fun ls hl => K p e s m args below meth c D cA adK adV ad0 ids0 C ad ids H locs cells slots ls hR ha (ok_sto1 hL hv) hst1 hS hl hk hn
  · rw [List.map_cons, cv_r ad h0]; rw [cv_r ad h0] at ee; exact lv_astore_n hx hb d hi hl hn0 ee fun ls hl => K p e s m args below meth c D cA adK adV ad0 ids0 C ad ids H locs cells slots ls hR ha (ok_sto1 hL hv) hst1 hS hl hk hn
theorem GM_astore {l : Launch} {M : MI} {F : FI} {k n pc : Nat} {L : List (Nat × AV)} {st : List AV} {μ : Mm} {i : Nat} {x : Int} {L' : List (Nat × AV)} (d : decode M.2.1 pc = .ok (.astore i, 2)) (hn0 : i < M.2.2.1) (hL' : sto1 L i (3, x) = L') (K : GM l M F k n (pc + 2) L' st μ) : GM l M F k n pc L ((3, x) :: st) μ := by
  intro p e s m args below meth c D cA adK adV ad0 ids0 C ad ids H locs cells slots ls hR ha hL hst hS hl hk hn
  obtain ⟨hx, hb, hml, hown, hts, hK, hr, hlk, hnm, hXx⟩ := id C
  subst hL'
  obtain ⟨hv, hst1⟩ := okc hst
  have ee := sto1_cv ad L i (3, x)
  by_cases h0 : x = 0
  · subst h0; exact lv_astoreN hx hb d hl hn0 ee fun ls hl => K p e s m args below meth c D cA adK adV ad0 ids0 C ad ids H locs cells slots ls hR ha (ok_sto1 hL hv) hst1 hS hl hk hn
  · rw [List.map_cons, cv_r ad h0]; rw [cv_r ad h0] at ee; exact lv_astore hx hb d hl hn0 ee fun ls hl => K p e s m args below meth c D cA adK adV ad0 ids0 C ad ids H locs cells slots ls hR ha (ok_sto1 hL hv) hst1 hS hl hk hn
theorem GM_iinc {l : Launch} {M : MI} {F : FI} {k n pc : Nat} {L : List (Nat × AV)} {st : List AV} {μ : Mm} {z : Int} (j : Nat) {i : Nat} {x : Int} {L' : List (Nat × AV)} (h : L[j]? = some (i, (0, x))) (d : decode M.2.1 pc = .ok (.iinc i z, 3)) (hn0 : i < M.2.2.1) (hL' : sto1 L i (0, w32 (x + z)) = L') (K : GM l M F k n (pc + 3) L' st μ) : GM l M F k n pc L st μ := by
  intro p e s m args below meth c D cA adK adV ad0 ids0 C ad ids H locs cells slots ls hR ha hL hst hS hl hk hn
  obtain ⟨hx, hb, hml, hown, hts, hK, hr, hlk, hnm, hXx⟩ := id C
  subst hL'
  exact lv_iinc (k := j) hx hb d hl (by rw [List.getElem?_map, h]; rfl) (v := Int32.ofInt (w32 (x + z))) (by rw [i32_w, Int32.ofInt_add]) hn0 (sto1_cv ad L i (0, w32 (x + z))) fun ls hl => K p e s m args below meth c D cA adK adV ad0 ids0 C ad ids H locs cells slots ls hR ha (ok_sto1 hL (w32_R _)) hst hS hl hk hn
theorem GM_iadd {l : Launch} {M : MI} {F : FI} {k n pc : Nat} {L : List (Nat × AV)} {st : List AV} {μ : Mm} {x y : Int} (d : decode M.2.1 pc = .ok (.iadd, 1)) (K : GM l M F k n (pc + 1) L ((0, w32 (x + y)) :: st) μ) : GM l M F k n pc L ((0, y) :: (0, x) :: st) μ := by
  intro p e s m args below meth c D cA adK adV ad0 ids0 C ad ids H locs cells slots ls hR ha hL hst hS hl hk hn
  obtain ⟨hx, hb, hml, hown, hts, hK, hr, hlk, hnm, hXx⟩ := id C
  obtain ⟨hy, hst⟩ := okc hst
  obtain ⟨hx1, hst⟩ := okc hst
  have K1 := K p e s m args below meth c D cA adK adV ad0 ids0 C ad ids H locs cells slots ls hR ha hL (ok_c (v := (0, w32 (x + y))) (w32_R _) hst) hS hl hk hn
  have e : Int32.ofInt (w32 (x + y)) = Int32.ofInt x + Int32.ofInt y := by rw [i32_w, Int32.ofInt_add]
  rw [List.map_cons, show cv ad (0, w32 (x + y)) = .int (Int32.ofInt (w32 (x + y))) from rfl, e] at K1
  exact lv_iadd hx hb d K1
theorem GM_isub {l : Launch} {M : MI} {F : FI} {k n pc : Nat} {L : List (Nat × AV)} {st : List AV} {μ : Mm} {x y : Int} (d : decode M.2.1 pc = .ok (.isub, 1)) (K : GM l M F k n (pc + 1) L ((0, w32 (x - y)) :: st) μ) : GM l M F k n pc L ((0, y) :: (0, x) :: st) μ := by
  intro p e s m args below meth c D cA adK adV ad0 ids0 C ad ids H locs cells slots ls hR ha hL hst hS hl hk hn
  obtain ⟨hx, hb, hml, hown, hts, hK, hr, hlk, hnm, hXx⟩ := id C
  obtain ⟨hy, hst⟩ := okc hst
  obtain ⟨hx1, hst⟩ := okc hst
  have K1 := K p e s m args below meth c D cA adK adV ad0 ids0 C ad ids H locs cells slots ls hR ha hL (ok_c (v := (0, w32 (x - y))) (w32_R _) hst) hS hl hk hn
  have e : Int32.ofInt (w32 (x - y)) = Int32.ofInt x - Int32.ofInt y := by rw [i32_w, Int32.ofInt_sub]
  rw [List.map_cons, show cv ad (0, w32 (x - y)) = .int (Int32.ofInt (w32 (x - y))) from rfl, e] at K1
  exact lv_isub hx hb d K1
theorem GM_imul {l : Launch} {M : MI} {F : FI} {k n pc : Nat} {L : List (Nat × AV)} {st : List AV} {μ : Mm} {x y : Int} (d : decode M.2.1 pc = .ok (.imul, 1)) (K : GM l M F k n (pc + 1) L ((0, w32 (x * y)) :: st) μ) : GM l M F k n pc L ((0, y) :: (0, x) :: st) μ := by
  intro p e s m args below meth c D cA adK adV ad0 ids0 C ad ids H locs cells slots ls hR ha hL hst hS hl hk hn
  obtain ⟨hx, hb, hml, hown, hts, hK, hr, hlk, hnm, hXx⟩ := id C
  obtain ⟨hy, hst⟩ := okc hst
  obtain ⟨hx1, hst⟩ := okc hst
  have K1 := K p e s m args below meth c D cA adK adV ad0 ids0 C ad ids H locs cells slots ls hR ha hL (ok_c (v := (0, w32 (x * y))) (w32_R _) hst) hS hl hk hn
  have e : Int32.ofInt (w32 (x * y)) = Int32.ofInt x * Int32.ofInt y := by rw [i32_w, Int32.ofInt_mul]
  rw [List.map_cons, show cv ad (0, w32 (x * y)) = .int (Int32.ofInt (w32 (x * y))) from rfl, e] at K1
  exact lv_imul hx hb d K1
theorem GM_ladd {l : Launch} {M : MI} {F : FI} {k n pc : Nat} {L : List (Nat × AV)} {st : List AV} {μ : Mm} {x y : Int} (d : decode M.2.1 pc = .ok (.ladd, 1)) (K : GM l M F k n (pc + 1) L ((2, w64 (x + y)) :: st) μ) : GM l M F k n pc L ((2, y) :: (2, x) :: st) μ := by
  intro p e s m args below meth c D cA adK adV ad0 ids0 C ad ids H locs cells slots ls hR ha hL hst hS hl hk hn
  obtain ⟨hx, hb, hml, hown, hts, hK, hr, hlk, hnm, hXx⟩ := id C
  obtain ⟨hy, hst⟩ := okc hst
  obtain ⟨hx1, hst⟩ := okc hst
  have K1 := K p e s m args below meth c D cA adK adV ad0 ids0 C ad ids H locs cells slots ls hR ha hL (ok_c (v := (2, w64 (x + y))) (w64_R _) hst) hS hl hk hn
  have e : Int64.ofInt (w64 (x + y)) = Int64.ofInt x + Int64.ofInt y := by rw [i64_w, Int64.ofInt_add]
  rw [List.map_cons, show cv ad (2, w64 (x + y)) = .long (Int64.ofInt (w64 (x + y))) from rfl, e] at K1
  exact lv_ladd hx hb d K1
theorem GM_lsub {l : Launch} {M : MI} {F : FI} {k n pc : Nat} {L : List (Nat × AV)} {st : List AV} {μ : Mm} {x y : Int} (d : decode M.2.1 pc = .ok (.lsub, 1)) (K : GM l M F k n (pc + 1) L ((2, w64 (x - y)) :: st) μ) : GM l M F k n pc L ((2, y) :: (2, x) :: st) μ := by
  intro p e s m args below meth c D cA adK adV ad0 ids0 C ad ids H locs cells slots ls hR ha hL hst hS hl hk hn
  obtain ⟨hx, hb, hml, hown, hts, hK, hr, hlk, hnm, hXx⟩ := id C
  obtain ⟨hy, hst⟩ := okc hst
  obtain ⟨hx1, hst⟩ := okc hst
  have K1 := K p e s m args below meth c D cA adK adV ad0 ids0 C ad ids H locs cells slots ls hR ha hL (ok_c (v := (2, w64 (x - y))) (w64_R _) hst) hS hl hk hn
  have e : Int64.ofInt (w64 (x - y)) = Int64.ofInt x - Int64.ofInt y := by rw [i64_w, Int64.ofInt_sub]
  rw [List.map_cons, show cv ad (2, w64 (x - y)) = .long (Int64.ofInt (w64 (x - y))) from rfl, e] at K1
  exact lv_lsub hx hb d K1
theorem GM_lmul {l : Launch} {M : MI} {F : FI} {k n pc : Nat} {L : List (Nat × AV)} {st : List AV} {μ : Mm} {x y : Int} (d : decode M.2.1 pc = .ok (.lmul, 1)) (K : GM l M F k n (pc + 1) L ((2, w64 (x * y)) :: st) μ) : GM l M F k n pc L ((2, y) :: (2, x) :: st) μ := by
  intro p e s m args below meth c D cA adK adV ad0 ids0 C ad ids H locs cells slots ls hR ha hL hst hS hl hk hn
  obtain ⟨hx, hb, hml, hown, hts, hK, hr, hlk, hnm, hXx⟩ := id C
  obtain ⟨hy, hst⟩ := okc hst
  obtain ⟨hx1, hst⟩ := okc hst
  have K1 := K p e s m args below meth c D cA adK adV ad0 ids0 C ad ids H locs cells slots ls hR ha hL (ok_c (v := (2, w64 (x * y))) (w64_R _) hst) hS hl hk hn
  have e : Int64.ofInt (w64 (x * y)) = Int64.ofInt x * Int64.ofInt y := by rw [i64_w, Int64.ofInt_mul]
  rw [List.map_cons, show cv ad (2, w64 (x * y)) = .long (Int64.ofInt (w64 (x * y))) from rfl, e] at K1
  exact lv_lmul hx hb d K1
theorem GM_iand {l : Launch} {M : MI} {F : FI} {k n pc : Nat} {L : List (Nat × AV)} {st : List AV} {μ : Mm} {x y : Int} (d : decode M.2.1 pc = .ok (.iand, 1)) (K : GM l M F k n (pc + 1) L ((0, iand x y) :: st) μ) : GM l M F k n pc L ((0, y) :: (0, x) :: st) μ := by
  intro p e s m args below meth c D cA adK adV ad0 ids0 C ad ids H locs cells slots ls hR ha hL hst hS hl hk hn
  obtain ⟨hx, hb, hml, hown, hts, hK, hr, hlk, hnm, hXx⟩ := id C
  obtain ⟨hy, hst⟩ := okc hst
  obtain ⟨hx1, hst⟩ := okc hst
  have K1 := K p e s m args below meth c D cA adK adV ad0 ids0 C ad ids H locs cells slots ls hR ha hL (ok_c (v := (0, iand x y)) (R32_i _) hst) hS hl hk hn
  have e : Int32.ofInt (iand x y) = Int32.ofInt x &&& Int32.ofInt y := Int32.ofInt_toInt _
  rw [List.map_cons, show cv ad (0, iand x y) = .int (Int32.ofInt (iand x y)) from rfl, e] at K1
  exact lv_iand hx hb d K1
theorem GM_ior {l : Launch} {M : MI} {F : FI} {k n pc : Nat} {L : List (Nat × AV)} {st : List AV} {μ : Mm} {x y : Int} (d : decode M.2.1 pc = .ok (.ior, 1)) (K : GM l M F k n (pc + 1) L ((0, ior x y) :: st) μ) : GM l M F k n pc L ((0, y) :: (0, x) :: st) μ := by
  intro p e s m args below meth c D cA adK adV ad0 ids0 C ad ids H locs cells slots ls hR ha hL hst hS hl hk hn
  obtain ⟨hx, hb, hml, hown, hts, hK, hr, hlk, hnm, hXx⟩ := id C
  obtain ⟨hy, hst⟩ := okc hst
  obtain ⟨hx1, hst⟩ := okc hst
  have K1 := K p e s m args below meth c D cA adK adV ad0 ids0 C ad ids H locs cells slots ls hR ha hL (ok_c (v := (0, ior x y)) (R32_i _) hst) hS hl hk hn
  have e : Int32.ofInt (ior x y) = Int32.ofInt x ||| Int32.ofInt y := Int32.ofInt_toInt _
  rw [List.map_cons, show cv ad (0, ior x y) = .int (Int32.ofInt (ior x y)) from rfl, e] at K1
  exact lv_ior hx hb d K1
theorem GM_ixor {l : Launch} {M : MI} {F : FI} {k n pc : Nat} {L : List (Nat × AV)} {st : List AV} {μ : Mm} {x y : Int} (d : decode M.2.1 pc = .ok (.ixor, 1)) (K : GM l M F k n (pc + 1) L ((0, ixor x y) :: st) μ) : GM l M F k n pc L ((0, y) :: (0, x) :: st) μ := by
  intro p e s m args below meth c D cA adK adV ad0 ids0 C ad ids H locs cells slots ls hR ha hL hst hS hl hk hn
  obtain ⟨hx, hb, hml, hown, hts, hK, hr, hlk, hnm, hXx⟩ := id C
  obtain ⟨hy, hst⟩ := okc hst
  obtain ⟨hx1, hst⟩ := okc hst
  have K1 := K p e s m args below meth c D cA adK adV ad0 ids0 C ad ids H locs cells slots ls hR ha hL (ok_c (v := (0, ixor x y)) (R32_i _) hst) hS hl hk hn
  have e : Int32.ofInt (ixor x y) = Int32.ofInt x ^^^ Int32.ofInt y := Int32.ofInt_toInt _
  rw [List.map_cons, show cv ad (0, ixor x y) = .int (Int32.ofInt (ixor x y)) from rfl, e] at K1
  exact lv_ixor hx hb d K1
theorem GM_land {l : Launch} {M : MI} {F : FI} {k n pc : Nat} {L : List (Nat × AV)} {st : List AV} {μ : Mm} {x y : Int} (d : decode M.2.1 pc = .ok (.land, 1)) (K : GM l M F k n (pc + 1) L ((2, land x y) :: st) μ) : GM l M F k n pc L ((2, y) :: (2, x) :: st) μ := by
  intro p e s m args below meth c D cA adK adV ad0 ids0 C ad ids H locs cells slots ls hR ha hL hst hS hl hk hn
  obtain ⟨hx, hb, hml, hown, hts, hK, hr, hlk, hnm, hXx⟩ := id C
  obtain ⟨hy, hst⟩ := okc hst
  obtain ⟨hx1, hst⟩ := okc hst
  have K1 := K p e s m args below meth c D cA adK adV ad0 ids0 C ad ids H locs cells slots ls hR ha hL (ok_c (v := (2, land x y)) (R64_i _) hst) hS hl hk hn
  have e : Int64.ofInt (land x y) = Int64.ofInt x &&& Int64.ofInt y := Int64.ofInt_toInt _
  rw [List.map_cons, show cv ad (2, land x y) = .long (Int64.ofInt (land x y)) from rfl, e] at K1
  exact lv_land hx hb d K1
theorem GM_lor {l : Launch} {M : MI} {F : FI} {k n pc : Nat} {L : List (Nat × AV)} {st : List AV} {μ : Mm} {x y : Int} (d : decode M.2.1 pc = .ok (.lor, 1)) (K : GM l M F k n (pc + 1) L ((2, lor x y) :: st) μ) : GM l M F k n pc L ((2, y) :: (2, x) :: st) μ := by
  intro p e s m args below meth c D cA adK adV ad0 ids0 C ad ids H locs cells slots ls hR ha hL hst hS hl hk hn
  obtain ⟨hx, hb, hml, hown, hts, hK, hr, hlk, hnm, hXx⟩ := id C
  obtain ⟨hy, hst⟩ := okc hst
  obtain ⟨hx1, hst⟩ := okc hst
  have K1 := K p e s m args below meth c D cA adK adV ad0 ids0 C ad ids H locs cells slots ls hR ha hL (ok_c (v := (2, lor x y)) (R64_i _) hst) hS hl hk hn
  have e : Int64.ofInt (lor x y) = Int64.ofInt x ||| Int64.ofInt y := Int64.ofInt_toInt _
  rw [List.map_cons, show cv ad (2, lor x y) = .long (Int64.ofInt (lor x y)) from rfl, e] at K1
  exact lv_lor hx hb d K1
theorem GM_lxor {l : Launch} {M : MI} {F : FI} {k n pc : Nat} {L : List (Nat × AV)} {st : List AV} {μ : Mm} {x y : Int} (d : decode M.2.1 pc = .ok (.lxor, 1)) (K : GM l M F k n (pc + 1) L ((2, lxor x y) :: st) μ) : GM l M F k n pc L ((2, y) :: (2, x) :: st) μ := by
  intro p e s m args below meth c D cA adK adV ad0 ids0 C ad ids H locs cells slots ls hR ha hL hst hS hl hk hn
  obtain ⟨hx, hb, hml, hown, hts, hK, hr, hlk, hnm, hXx⟩ := id C
  obtain ⟨hy, hst⟩ := okc hst
  obtain ⟨hx1, hst⟩ := okc hst
  have K1 := K p e s m args below meth c D cA adK adV ad0 ids0 C ad ids H locs cells slots ls hR ha hL (ok_c (v := (2, lxor x y)) (R64_i _) hst) hS hl hk hn
  have e : Int64.ofInt (lxor x y) = Int64.ofInt x ^^^ Int64.ofInt y := Int64.ofInt_toInt _
  rw [List.map_cons, show cv ad (2, lxor x y) = .long (Int64.ofInt (lxor x y)) from rfl, e] at K1
  exact lv_lxor hx hb d K1
theorem GM_ishl {l : Launch} {M : MI} {F : FI} {k n pc : Nat} {L : List (Nat × AV)} {st : List AV} {μ : Mm} {x y : Int} (d : decode M.2.1 pc = .ok (.ishl, 1)) (K : GM l M F k n (pc + 1) L ((0, ishl x y) :: st) μ) : GM l M F k n pc L ((0, y) :: (0, x) :: st) μ := by
  intro p e s m args below meth c D cA adK adV ad0 ids0 C ad ids H locs cells slots ls hR ha hL hst hS hl hk hn
  obtain ⟨hx, hb, hml, hown, hts, hK, hr, hlk, hnm, hXx⟩ := id C
  obtain ⟨hy, hst⟩ := okc hst
  obtain ⟨hx1, hst⟩ := okc hst
  have K1 := K p e s m args below meth c D cA adK adV ad0 ids0 C ad ids H locs cells slots ls hR ha hL (ok_c (v := (0, ishl x y)) (R32_i _) hst) hS hl hk hn
  have e : Int32.ofInt (ishl x y) = Int32.ofInt x <<< (Int32.ofInt y &&& 31) := Int32.ofInt_toInt _
  rw [List.map_cons, show cv ad (0, ishl x y) = .int (Int32.ofInt (ishl x y)) from rfl, e] at K1
  exact lv_ishl hx hb d K1
theorem GM_ishr {l : Launch} {M : MI} {F : FI} {k n pc : Nat} {L : List (Nat × AV)} {st : List AV} {μ : Mm} {x y : Int} (d : decode M.2.1 pc = .ok (.ishr, 1)) (K : GM l M F k n (pc + 1) L ((0, ishr x y) :: st) μ) : GM l M F k n pc L ((0, y) :: (0, x) :: st) μ := by
  intro p e s m args below meth c D cA adK adV ad0 ids0 C ad ids H locs cells slots ls hR ha hL hst hS hl hk hn
  obtain ⟨hx, hb, hml, hown, hts, hK, hr, hlk, hnm, hXx⟩ := id C
  obtain ⟨hy, hst⟩ := okc hst
  obtain ⟨hx1, hst⟩ := okc hst
  have K1 := K p e s m args below meth c D cA adK adV ad0 ids0 C ad ids H locs cells slots ls hR ha hL (ok_c (v := (0, ishr x y)) (R32_i _) hst) hS hl hk hn
  have e : Int32.ofInt (ishr x y) = Int32.ofInt x >>> (Int32.ofInt y &&& 31) := Int32.ofInt_toInt _
  rw [List.map_cons, show cv ad (0, ishr x y) = .int (Int32.ofInt (ishr x y)) from rfl, e] at K1
  exact lv_ishr hx hb d K1
theorem GM_iushr {l : Launch} {M : MI} {F : FI} {k n pc : Nat} {L : List (Nat × AV)} {st : List AV} {μ : Mm} {x y : Int} (d : decode M.2.1 pc = .ok (.iushr, 1)) (K : GM l M F k n (pc + 1) L ((0, iushr x y) :: st) μ) : GM l M F k n pc L ((0, y) :: (0, x) :: st) μ := by
  intro p e s m args below meth c D cA adK adV ad0 ids0 C ad ids H locs cells slots ls hR ha hL hst hS hl hk hn
  obtain ⟨hx, hb, hml, hown, hts, hK, hr, hlk, hnm, hXx⟩ := id C
  obtain ⟨hy, hst⟩ := okc hst
  obtain ⟨hx1, hst⟩ := okc hst
  have K1 := K p e s m args below meth c D cA adK adV ad0 ids0 C ad ids H locs cells slots ls hR ha hL (ok_c (v := (0, iushr x y)) (R32_i _) hst) hS hl hk hn
  have e : Int32.ofInt (iushr x y) = ((Int32.ofInt x).toUInt32 >>> ((Int32.ofInt y).toUInt32 &&& Int32.toUInt32 31)).toInt32 := Int32.ofInt_toInt _
  rw [List.map_cons, show cv ad (0, iushr x y) = .int (Int32.ofInt (iushr x y)) from rfl, e] at K1
  exact lv_iushr hx hb d rfl K1
theorem GM_lshl {l : Launch} {M : MI} {F : FI} {k n pc : Nat} {L : List (Nat × AV)} {st : List AV} {μ : Mm} {x y : Int} (d : decode M.2.1 pc = .ok (.lshl, 1)) (K : GM l M F k n (pc + 1) L ((2, lshl x y) :: st) μ) : GM l M F k n pc L ((0, y) :: (2, x) :: st) μ := by
  intro p e s m args below meth c D cA adK adV ad0 ids0 C ad ids H locs cells slots ls hR ha hL hst hS hl hk hn
  obtain ⟨hx, hb, hml, hown, hts, hK, hr, hlk, hnm, hXx⟩ := id C
  obtain ⟨hy, hst⟩ := okc hst
  obtain ⟨hx1, hst⟩ := okc hst
  have K1 := K p e s m args below meth c D cA adK adV ad0 ids0 C ad ids H locs cells slots ls hR ha hL (ok_c (v := (2, lshl x y)) (R64_i _) hst) hS hl hk hn
  have e : Int64.ofInt (lshl x y) = Int64.ofInt x <<< ((Int32.ofInt y).toInt64 &&& 63) := Int64.ofInt_toInt _
  rw [List.map_cons, show cv ad (2, lshl x y) = .long (Int64.ofInt (lshl x y)) from rfl, e] at K1
  exact lv_lshl hx hb d rfl K1
theorem GM_lushr {l : Launch} {M : MI} {F : FI} {k n pc : Nat} {L : List (Nat × AV)} {st : List AV} {μ : Mm} {x y : Int} (d : decode M.2.1 pc = .ok (.lushr, 1)) (K : GM l M F k n (pc + 1) L ((2, lushr x y) :: st) μ) : GM l M F k n pc L ((0, y) :: (2, x) :: st) μ := by
  intro p e s m args below meth c D cA adK adV ad0 ids0 C ad ids H locs cells slots ls hR ha hL hst hS hl hk hn
  obtain ⟨hx, hb, hml, hown, hts, hK, hr, hlk, hnm, hXx⟩ := id C
  obtain ⟨hy, hst⟩ := okc hst
  obtain ⟨hx1, hst⟩ := okc hst
  have K1 := K p e s m args below meth c D cA adK adV ad0 ids0 C ad ids H locs cells slots ls hR ha hL (ok_c (v := (2, lushr x y)) (R64_i _) hst) hS hl hk hn
  have e : Int64.ofInt (lushr x y) = ((Int64.ofInt x).toUInt64 >>> ((Int32.ofInt y).toInt64.toUInt64 &&& Int64.toUInt64 63)).toInt64 := Int64.ofInt_toInt _
  rw [List.map_cons, show cv ad (2, lushr x y) = .long (Int64.ofInt (lushr x y)) from rfl, e] at K1
  exact lv_lushr hx hb d rfl K1
theorem i32_div {x y : Int} (hx : R32 x) (hy : R32 y) : Int32.ofInt (w32 (x.tdiv y)) = Int32.ofInt x / Int32.ofInt y := by
  apply Int32.toInt_inj.mp
  rw [i32_w, Int32.toInt_ofInt, Int32.toInt_div, i32_R hx, i32_R hy]
theorem i64_div {x y : Int} (hx : R64 x) (hy : R64 y) : Int64.ofInt (w64 (x.tdiv y)) = Int64.ofInt x / Int64.ofInt y := by
  apply Int64.toInt_inj.mp
  rw [i64_w, Int64.toInt_ofInt, Int64.toInt_div, i64_R hx, i64_R hy]
theorem i32_rem {x y : Int} (hx : R32 x) (hy : R32 y) : Int32.ofInt (x.tmod y) = Int32.ofInt x - Int32.ofInt x / Int32.ofInt y * Int32.ofInt y := by
  rw [← i32_div hx hy, i32_w, ← Int32.ofInt_mul, ← Int32.ofInt_sub, Int.tmod_def, Int.mul_comm y]
theorem i64_rem {x y : Int} (hx : R64 x) (hy : R64 y) : Int64.ofInt (x.tmod y) = Int64.ofInt x - Int64.ofInt x / Int64.ofInt y * Int64.ofInt y := by
  rw [← i64_div hx hy, i64_w, ← Int64.ofInt_mul, ← Int64.ofInt_sub, Int.tmod_def, Int.mul_comm y]
theorem tmod_R {x y b : Int} (h1 : -b ≤ x) (h2 : x < b) : -b ≤ x.tmod y ∧ x.tmod y < b := by
  rcases Int.le_total 0 x with h | h
  · have h3 := Int.tmod_nonneg y h
    have h4 : x.tmod y ≤ x := by
      have := Int.tmod_def x y
      by_cases hy : y = 0
      · subst hy; simp
      · have h5 := Int.natAbs_tmod x y
        have h6 := Nat.mod_le x.natAbs y.natAbs
        omega
    omega
  · have h5 := Int.natAbs_tmod x y
    have h6 := Nat.mod_le x.natAbs y.natAbs
    have h7 : x.tmod y ≤ 0 := by
      have := Int.tmod_nonneg y (a := -x) (by omega)
      rw [Int.neg_tmod] at this
      omega
    omega

theorem GM_idiv {l : Launch} {M : MI} {F : FI} {k n pc : Nat} {L : List (Nat × AV)} {st : List AV} {μ : Mm} {x y : Int} (d : decode M.2.1 pc = .ok (.idiv, 1)) (h0 : y ≠ 0) (K : GM l M F k n (pc + 1) L ((0, w32 (x.tdiv y)) :: st) μ) : GM l M F k n pc L ((0, y) :: (0, x) :: st) μ := by
  intro p e s m args below meth c D cA adK adV ad0 ids0 C ad ids H locs cells slots ls hR ha hL hst hS hl hk hn
  obtain ⟨hx, hb, hml, hown, hts, hK, hr, hlk, hnm, hXx⟩ := id C
  obtain ⟨hy, hst⟩ := okc hst
  obtain ⟨hx1, hst⟩ := okc hst
  have K1 := K p e s m args below meth c D cA adK adV ad0 ids0 C ad ids H locs cells slots ls hR ha hL (ok_c (v := (0, w32 (x.tdiv y))) (w32_R _) hst) hS hl hk hn
  have e : Int32.ofInt (w32 (x.tdiv y)) = Int32.ofInt x / Int32.ofInt y := i32_div hx1 hy
  rw [List.map_cons, show cv ad (0, w32 (x.tdiv y)) = .int (Int32.ofInt (w32 (x.tdiv y))) from rfl, e] at K1
  exact lv_idiv hx hb d (fun q => h0 ((i32_eq hy R32_0).mp q)) K1
theorem GM_irem {l : Launch} {M : MI} {F : FI} {k n pc : Nat} {L : List (Nat × AV)} {st : List AV} {μ : Mm} {x y : Int} (d : decode M.2.1 pc = .ok (.irem, 1)) (h0 : y ≠ 0) (K : GM l M F k n (pc + 1) L ((0, x.tmod y) :: st) μ) : GM l M F k n pc L ((0, y) :: (0, x) :: st) μ := by
  intro p e s m args below meth c D cA adK adV ad0 ids0 C ad ids H locs cells slots ls hR ha hL hst hS hl hk hn
  obtain ⟨hx, hb, hml, hown, hts, hK, hr, hlk, hnm, hXx⟩ := id C
  obtain ⟨hy, hst⟩ := okc hst
  obtain ⟨hx1, hst⟩ := okc hst
  have K1 := K p e s m args below meth c D cA adK adV ad0 ids0 C ad ids H locs cells slots ls hR ha hL (ok_c (v := (0, x.tmod y)) (tmod_R hx1.1 hx1.2) hst) hS hl hk hn
  have e : Int32.ofInt (x.tmod y) = Int32.ofInt x - Int32.ofInt x / Int32.ofInt y * Int32.ofInt y := i32_rem hx1 hy
  rw [List.map_cons, show cv ad (0, x.tmod y) = .int (Int32.ofInt (x.tmod y)) from rfl, e] at K1
  exact lv_irem hx hb d (fun q => h0 ((i32_eq hy R32_0).mp q)) K1
theorem GM_ldiv {l : Launch} {M : MI} {F : FI} {k n pc : Nat} {L : List (Nat × AV)} {st : List AV} {μ : Mm} {x y : Int} (d : decode M.2.1 pc = .ok (.ldiv, 1)) (h0 : y ≠ 0) (K : GM l M F k n (pc + 1) L ((2, w64 (x.tdiv y)) :: st) μ) : GM l M F k n pc L ((2, y) :: (2, x) :: st) μ := by
  intro p e s m args below meth c D cA adK adV ad0 ids0 C ad ids H locs cells slots ls hR ha hL hst hS hl hk hn
  obtain ⟨hx, hb, hml, hown, hts, hK, hr, hlk, hnm, hXx⟩ := id C
  obtain ⟨hy, hst⟩ := okc hst
  obtain ⟨hx1, hst⟩ := okc hst
  have K1 := K p e s m args below meth c D cA adK adV ad0 ids0 C ad ids H locs cells slots ls hR ha hL (ok_c (v := (2, w64 (x.tdiv y))) (w64_R _) hst) hS hl hk hn
  have e : Int64.ofInt (w64 (x.tdiv y)) = Int64.ofInt x / Int64.ofInt y := i64_div hx1 hy
  rw [List.map_cons, show cv ad (2, w64 (x.tdiv y)) = .long (Int64.ofInt (w64 (x.tdiv y))) from rfl, e] at K1
  exact lv_ldiv hx hb d (fun q => h0 ((i64_eq hy R64_0).mp q)) K1
theorem GM_lrem {l : Launch} {M : MI} {F : FI} {k n pc : Nat} {L : List (Nat × AV)} {st : List AV} {μ : Mm} {x y : Int} (d : decode M.2.1 pc = .ok (.lrem, 1)) (h0 : y ≠ 0) (K : GM l M F k n (pc + 1) L ((2, x.tmod y) :: st) μ) : GM l M F k n pc L ((2, y) :: (2, x) :: st) μ := by
  intro p e s m args below meth c D cA adK adV ad0 ids0 C ad ids H locs cells slots ls hR ha hL hst hS hl hk hn
  obtain ⟨hx, hb, hml, hown, hts, hK, hr, hlk, hnm, hXx⟩ := id C
  obtain ⟨hy, hst⟩ := okc hst
  obtain ⟨hx1, hst⟩ := okc hst
  have K1 := K p e s m args below meth c D cA adK adV ad0 ids0 C ad ids H locs cells slots ls hR ha hL (ok_c (v := (2, x.tmod y)) (tmod_R hx1.1 hx1.2) hst) hS hl hk hn
  have e : Int64.ofInt (x.tmod y) = Int64.ofInt x - Int64.ofInt x / Int64.ofInt y * Int64.ofInt y := i64_rem hx1 hy
  rw [List.map_cons, show cv ad (2, x.tmod y) = .long (Int64.ofInt (x.tmod y)) from rfl, e] at K1
  exact lv_lrem hx hb d (fun q => h0 ((i64_eq hy R64_0).mp q)) K1
theorem GM_ineg {l : Launch} {M : MI} {F : FI} {k n pc : Nat} {L : List (Nat × AV)} {st : List AV} {μ : Mm} {x : Int} (d : decode M.2.1 pc = .ok (.ineg, 1)) (K : GM l M F k n (pc + 1) L ((0, w32 (-x)) :: st) μ) : GM l M F k n pc L ((0, x) :: st) μ := by
  intro p e s m args below meth c D cA adK adV ad0 ids0 C ad ids H locs cells slots ls hR ha hL hst hS hl hk hn
  obtain ⟨hx, hb, hml, hown, hts, hK, hr, hlk, hnm, hXx⟩ := id C
  obtain ⟨hx1, hst⟩ := okc hst
  have K1 := K p e s m args below meth c D cA adK adV ad0 ids0 C ad ids H locs cells slots ls hR ha hL (ok_c (v := (0, w32 (-x))) (w32_R _) hst) hS hl hk hn
  rw [List.map_cons, show cv ad (0, w32 (-x)) = .int (-Int32.ofInt x) from congrArg Value.int (show Int32.ofInt (w32 (-x)) = -Int32.ofInt x by rw [i32_w, Int32.ofInt_neg])] at K1
  exact lv_ineg hx hb d K1
theorem GM_lneg {l : Launch} {M : MI} {F : FI} {k n pc : Nat} {L : List (Nat × AV)} {st : List AV} {μ : Mm} {x : Int} (d : decode M.2.1 pc = .ok (.lneg, 1)) (K : GM l M F k n (pc + 1) L ((2, w64 (-x)) :: st) μ) : GM l M F k n pc L ((2, x) :: st) μ := by
  intro p e s m args below meth c D cA adK adV ad0 ids0 C ad ids H locs cells slots ls hR ha hL hst hS hl hk hn
  obtain ⟨hx, hb, hml, hown, hts, hK, hr, hlk, hnm, hXx⟩ := id C
  obtain ⟨hx1, hst⟩ := okc hst
  have K1 := K p e s m args below meth c D cA adK adV ad0 ids0 C ad ids H locs cells slots ls hR ha hL (ok_c (v := (2, w64 (-x))) (w64_R _) hst) hS hl hk hn
  rw [List.map_cons, show cv ad (2, w64 (-x)) = .long (-Int64.ofInt x) from congrArg Value.long (show Int64.ofInt (w64 (-x)) = -Int64.ofInt x by rw [i64_w, Int64.ofInt_neg])] at K1
  exact lv_lneg hx hb d K1
theorem GM_i2l {l : Launch} {M : MI} {F : FI} {k n pc : Nat} {L : List (Nat × AV)} {st : List AV} {μ : Mm} {x : Int} (d : decode M.2.1 pc = .ok (.i2l, 1)) (K : GM l M F k n (pc + 1) L ((2, x) :: st) μ) : GM l M F k n pc L ((0, x) :: st) μ := by
  intro p e s m args below meth c D cA adK adV ad0 ids0 C ad ids H locs cells slots ls hR ha hL hst hS hl hk hn
  obtain ⟨hx, hb, hml, hown, hts, hK, hr, hlk, hnm, hXx⟩ := id C
  obtain ⟨hx1, hst⟩ := okc hst
  have hx2 : R32 x := hx1
  exact lv_i2l hx hb d (v := Int64.ofInt x) (by apply Int64.toInt_inj.mp; rw [Int32.toInt_toInt64, i32_R hx1, i64_R (by unfold R32 at hx2; unfold R64; omega)]) (K p e s m args below meth c D cA adK adV ad0 ids0 C ad ids H locs cells slots ls hR ha hL (ok_c (v := (2, x)) (show R64 x by unfold R32 at hx2; unfold R64; omega) hst) hS hl hk hn)
theorem GM_l2i {l : Launch} {M : MI} {F : FI} {k n pc : Nat} {L : List (Nat × AV)} {st : List AV} {μ : Mm} {x : Int} (d : decode M.2.1 pc = .ok (.l2i, 1)) (K : GM l M F k n (pc + 1) L ((0, w32 x) :: st) μ) : GM l M F k n pc L ((2, x) :: st) μ := by
  intro p e s m args below meth c D cA adK adV ad0 ids0 C ad ids H locs cells slots ls hR ha hL hst hS hl hk hn
  obtain ⟨hx, hb, hml, hown, hts, hK, hr, hlk, hnm, hXx⟩ := id C
  obtain ⟨hx1, hst⟩ := okc hst
  exact lv_l2i hx hb d (v := Int32.ofInt (w32 x)) (by rw [i32_w, Int64.toInt32_ofInt]) (K p e s m args below meth c D cA adK adV ad0 ids0 C ad ids H locs cells slots ls hR ha hL (ok_c (v := (0, w32 x)) (w32_R _) hst) hS hl hk hn)
theorem GM_lcmp {l : Launch} {M : MI} {F : FI} {k n pc : Nat} {L : List (Nat × AV)} {st : List AV} {μ : Mm} {x y : Int} (d : decode M.2.1 pc = .ok (.lcmp, 1)) (K : GM l M F k n (pc + 1) L ((0, lcmp x y) :: st) μ) : GM l M F k n pc L ((2, y) :: (2, x) :: st) μ := by
  intro p e s m args below meth c D cA adK adV ad0 ids0 C ad ids H locs cells slots ls hR ha hL hst hS hl hk hn
  obtain ⟨hx, hb, hml, hown, hts, hK, hr, hlk, hnm, hXx⟩ := id C
  obtain ⟨hy, hst⟩ := okc hst
  obtain ⟨hx1, hst⟩ := okc hst
  have hR1 : R32 (lcmp x y) := by unfold lcmp R32; split <;> (try split) <;> omega
  have ee : Int32.ofInt (lcmp x y) = lg_cmp (Int64.ofInt x) (Int64.ofInt y) := by
    unfold lcmp lg_cmp
    have h1 : Int64.ofInt x < Int64.ofInt y ↔ x < y := i64_lt hx1 hy
    have h2 : Int64.ofInt x = Int64.ofInt y ↔ x = y := i64_eq hx1 hy
    have h3 : Int64.ofInt y < Int64.ofInt x ↔ y < x := i64_lt hy hx1
    by_cases a : x < y
    · have c' : ¬ Int64.ofInt y < Int64.ofInt x := fun q => by have := h3.mp q; omega
      have b' : ¬ Int64.ofInt x = Int64.ofInt y := fun q => by have := h2.mp q; omega
      simp [a, c', b']
    · by_cases b : x = y
      · subst b; simp
      · have c1 : y < x := by omega
        have c' := h3.mpr c1
        have a' : ¬ Int64.ofInt x < Int64.ofInt y := fun q => a (h1.mp q)
        have b' : ¬ Int64.ofInt x = Int64.ofInt y := fun q => b (h2.mp q)
        simp [a, b, a', b', c']
  have K1 := K p e s m args below meth c D cA adK adV ad0 ids0 C ad ids H locs cells slots ls hR ha hL (ok_c (v := (0, lcmp x y)) hR1 hst) hS hl hk hn
  rw [List.map_cons, show cv ad (0, lcmp x y) = .int (lg_cmp (Int64.ofInt x) (Int64.ofInt y)) from congrArg Value.int ee] at K1
  exact W.lcmp hx hb d K1
theorem cv_c1 (ad : Int → Nat) {v : AV} (h : v.1 ≠ 2) : (cv ad v).category = 1 := by
  have h1 := cv_cat ad v
  rcases lv_cat (cv ad v) with q | q
  · exact q
  · rw [q] at h1; exact absurd (by simpa using h1.symm) h
theorem GM_dup {l : Launch} {M : MI} {F : FI} {k n pc : Nat} {L : List (Nat × AV)} {st : List AV} {μ : Mm} {v : AV} (d : decode M.2.1 pc = .ok (.dup, 1)) (hv : v.1 ≠ 2) (K : GM l M F k n (pc + 1) L (v :: v :: st) μ) : GM l M F k n pc L (v :: st) μ := by
  intro p e s m args below meth c D cA adK adV ad0 ids0 C ad ids H locs cells slots ls hR ha hL hst hS hl hk hn
  obtain ⟨hx, hb, hml, hown, hts, hK, hr, hlk, hnm, hXx⟩ := id C
  exact lv_dup hx hb d (cv_c1 ad hv) (K p e s m args below meth c D cA adK adV ad0 ids0 C ad ids H locs cells slots ls hR ha hL (ok_c (okc hst).1 hst) hS hl hk hn)
theorem GM_dup2 {l : Launch} {M : MI} {F : FI} {k n pc : Nat} {L : List (Nat × AV)} {st : List AV} {μ : Mm} {v u : AV} (d : decode M.2.1 pc = .ok (.dup2, 1)) (hv : v.1 ≠ 2) (hu : u.1 ≠ 2) (K : GM l M F k n (pc + 1) L (v :: u :: v :: u :: st) μ) : GM l M F k n pc L (v :: u :: st) μ := by
  intro p e s m args below meth c D cA adK adV ad0 ids0 C ad ids H locs cells slots ls hR ha hL hst hS hl hk hn
  obtain ⟨hx, hb, hml, hown, hts, hK, hr, hlk, hnm, hXx⟩ := id C
  exact lv_dup2_11 hx hb d (cv_c1 ad hv) (cv_c1 ad hu) (K p e s m args below meth c D cA adK adV ad0 ids0 C ad ids H locs cells slots ls hR ha hL (ok_c (okc hst).1 (ok_c (okc (okc hst).2).1 hst)) hS hl hk hn)
theorem GM_icmp_eq {l : Launch} {M : MI} {F : FI} {k n pc : Nat} {L : List (Nat × AV)} {st : List AV} {μ : Mm} {x y off : Int} (tgt : Nat) (d : decode M.2.1 pc = .ok (.if_icmp .eq off, 3)) (ht : (pc : Int) + off = (tgt : Int)) (Kt : x = y → GM l M F k n tgt L st μ) (Kf : ¬ x = y → GM l M F k n (pc + 3) L st μ) : GM l M F k n pc L ((0, y) :: (0, x) :: st) μ := by
  intro p e s m args below meth c D cA adK adV ad0 ids0 C ad ids H locs cells slots ls hR ha hL hst hS hl hk hn
  obtain ⟨hx, hb, hml, hown, hts, hK, hr, hlk, hnm, hXx⟩ := id C
  obtain ⟨hy, hst⟩ := okc hst
  obtain ⟨hx1, hst⟩ := okc hst
  exact lv_icmp_eq hx hb d ht (fun q => (Kt ((i32_eq hx1 hy).mp q)) p e s m args below meth c D cA adK adV ad0 ids0 C ad ids H locs cells slots ls hR ha hL hst hS hl hk hn) (fun q => (Kf ((not_congr (i32_eq hx1 hy)).mp q)) p e s m args below meth c D cA adK adV ad0 ids0 C ad ids H locs cells slots ls hR ha hL hst hS hl hk hn)
theorem GM_icmp_ne {l : Launch} {M : MI} {F : FI} {k n pc : Nat} {L : List (Nat × AV)} {st : List AV} {μ : Mm} {x y off : Int} (tgt : Nat) (d : decode M.2.1 pc = .ok (.if_icmp .ne off, 3)) (ht : (pc : Int) + off = (tgt : Int)) (Kt : ¬ x = y → GM l M F k n tgt L st μ) (Kf : x = y → GM l M F k n (pc + 3) L st μ) : GM l M F k n pc L ((0, y) :: (0, x) :: st) μ := by
  intro p e s m args below meth c D cA adK adV ad0 ids0 C ad ids H locs cells slots ls hR ha hL hst hS hl hk hn
  obtain ⟨hx, hb, hml, hown, hts, hK, hr, hlk, hnm, hXx⟩ := id C
  obtain ⟨hy, hst⟩ := okc hst
  obtain ⟨hx1, hst⟩ := okc hst
  exact lv_icmp_ne hx hb d ht (fun q => (Kt ((not_congr (i32_eq hx1 hy)).mp q)) p e s m args below meth c D cA adK adV ad0 ids0 C ad ids H locs cells slots ls hR ha hL hst hS hl hk hn) (fun q => (Kf ((i32_eq hx1 hy).mp q)) p e s m args below meth c D cA adK adV ad0 ids0 C ad ids H locs cells slots ls hR ha hL hst hS hl hk hn)
theorem GM_icmp_lt {l : Launch} {M : MI} {F : FI} {k n pc : Nat} {L : List (Nat × AV)} {st : List AV} {μ : Mm} {x y off : Int} (tgt : Nat) (d : decode M.2.1 pc = .ok (.if_icmp .lt off, 3)) (ht : (pc : Int) + off = (tgt : Int)) (Kt : x < y → GM l M F k n tgt L st μ) (Kf : ¬ x < y → GM l M F k n (pc + 3) L st μ) : GM l M F k n pc L ((0, y) :: (0, x) :: st) μ := by
  intro p e s m args below meth c D cA adK adV ad0 ids0 C ad ids H locs cells slots ls hR ha hL hst hS hl hk hn
  obtain ⟨hx, hb, hml, hown, hts, hK, hr, hlk, hnm, hXx⟩ := id C
  obtain ⟨hy, hst⟩ := okc hst
  obtain ⟨hx1, hst⟩ := okc hst
  exact lv_icmp_lt hx hb d ht (fun q => (Kt ((i32_lt hx1 hy).mp q)) p e s m args below meth c D cA adK adV ad0 ids0 C ad ids H locs cells slots ls hR ha hL hst hS hl hk hn) (fun q => (Kf ((not_congr (i32_lt hx1 hy)).mp q)) p e s m args below meth c D cA adK adV ad0 ids0 C ad ids H locs cells slots ls hR ha hL hst hS hl hk hn)
theorem GM_icmp_ge {l : Launch} {M : MI} {F : FI} {k n pc : Nat} {L : List (Nat × AV)} {st : List AV} {μ : Mm} {x y off : Int} (tgt : Nat) (d : decode M.2.1 pc = .ok (.if_icmp .ge off, 3)) (ht : (pc : Int) + off = (tgt : Int)) (Kt : y ≤ x → GM l M F k n tgt L st μ) (Kf : ¬ y ≤ x → GM l M F k n (pc + 3) L st μ) : GM l M F k n pc L ((0, y) :: (0, x) :: st) μ := by
  intro p e s m args below meth c D cA adK adV ad0 ids0 C ad ids H locs cells slots ls hR ha hL hst hS hl hk hn
  obtain ⟨hx, hb, hml, hown, hts, hK, hr, hlk, hnm, hXx⟩ := id C
  obtain ⟨hy, hst⟩ := okc hst
  obtain ⟨hx1, hst⟩ := okc hst
  exact lv_icmp_ge hx hb d ht (fun q => (Kt ((i32_le hy hx1).mp q)) p e s m args below meth c D cA adK adV ad0 ids0 C ad ids H locs cells slots ls hR ha hL hst hS hl hk hn) (fun q => (Kf ((not_congr (i32_le hy hx1)).mp q)) p e s m args below meth c D cA adK adV ad0 ids0 C ad ids H locs cells slots ls hR ha hL hst hS hl hk hn)
theorem GM_icmp_gt {l : Launch} {M : MI} {F : FI} {k n pc : Nat} {L : List (Nat × AV)} {st : List AV} {μ : Mm} {x y off : Int} (tgt : Nat) (d : decode M.2.1 pc = .ok (.if_icmp .gt off, 3)) (ht : (pc : Int) + off = (tgt : Int)) (Kt : y < x → GM l M F k n tgt L st μ) (Kf : ¬ y < x → GM l M F k n (pc + 3) L st μ) : GM l M F k n pc L ((0, y) :: (0, x) :: st) μ := by
  intro p e s m args below meth c D cA adK adV ad0 ids0 C ad ids H locs cells slots ls hR ha hL hst hS hl hk hn
  obtain ⟨hx, hb, hml, hown, hts, hK, hr, hlk, hnm, hXx⟩ := id C
  obtain ⟨hy, hst⟩ := okc hst
  obtain ⟨hx1, hst⟩ := okc hst
  exact lv_icmp_gt hx hb d ht (fun q => (Kt ((i32_lt hy hx1).mp q)) p e s m args below meth c D cA adK adV ad0 ids0 C ad ids H locs cells slots ls hR ha hL hst hS hl hk hn) (fun q => (Kf ((not_congr (i32_lt hy hx1)).mp q)) p e s m args below meth c D cA adK adV ad0 ids0 C ad ids H locs cells slots ls hR ha hL hst hS hl hk hn)
theorem GM_icmp_le {l : Launch} {M : MI} {F : FI} {k n pc : Nat} {L : List (Nat × AV)} {st : List AV} {μ : Mm} {x y off : Int} (tgt : Nat) (d : decode M.2.1 pc = .ok (.if_icmp .le off, 3)) (ht : (pc : Int) + off = (tgt : Int)) (Kt : x ≤ y → GM l M F k n tgt L st μ) (Kf : ¬ x ≤ y → GM l M F k n (pc + 3) L st μ) : GM l M F k n pc L ((0, y) :: (0, x) :: st) μ := by
  intro p e s m args below meth c D cA adK adV ad0 ids0 C ad ids H locs cells slots ls hR ha hL hst hS hl hk hn
  obtain ⟨hx, hb, hml, hown, hts, hK, hr, hlk, hnm, hXx⟩ := id C
  obtain ⟨hy, hst⟩ := okc hst
  obtain ⟨hx1, hst⟩ := okc hst
  exact lv_icmp_le hx hb d ht (fun q => (Kt ((i32_le hx1 hy).mp q)) p e s m args below meth c D cA adK adV ad0 ids0 C ad ids H locs cells slots ls hR ha hL hst hS hl hk hn) (fun q => (Kf ((not_congr (i32_le hx1 hy)).mp q)) p e s m args below meth c D cA adK adV ad0 ids0 C ad ids H locs cells slots ls hR ha hL hst hS hl hk hn)
theorem GM_if_eq {l : Launch} {M : MI} {F : FI} {k n pc : Nat} {L : List (Nat × AV)} {st : List AV} {μ : Mm} {x off : Int} (tgt : Nat) (d : decode M.2.1 pc = .ok (.ifCond .eq off, 3)) (ht : (pc : Int) + off = (tgt : Int)) (Kt : x = 0 → GM l M F k n tgt L st μ) (Kf : ¬ x = 0 → GM l M F k n (pc + 3) L st μ) : GM l M F k n pc L ((0, x) :: st) μ := by
  intro p e s m args below meth c D cA adK adV ad0 ids0 C ad ids H locs cells slots ls hR ha hL hst hS hl hk hn
  obtain ⟨hx, hb, hml, hown, hts, hK, hr, hlk, hnm, hXx⟩ := id C
  obtain ⟨hx1, hst⟩ := okc hst
  exact lv_if_eq hx hb d ht (fun q => (Kt ((i32_eq hx1 R32_0).mp q)) p e s m args below meth c D cA adK adV ad0 ids0 C ad ids H locs cells slots ls hR ha hL hst hS hl hk hn) (fun q => (Kf ((not_congr (i32_eq hx1 R32_0)).mp q)) p e s m args below meth c D cA adK adV ad0 ids0 C ad ids H locs cells slots ls hR ha hL hst hS hl hk hn)
theorem GM_if_ne {l : Launch} {M : MI} {F : FI} {k n pc : Nat} {L : List (Nat × AV)} {st : List AV} {μ : Mm} {x off : Int} (tgt : Nat) (d : decode M.2.1 pc = .ok (.ifCond .ne off, 3)) (ht : (pc : Int) + off = (tgt : Int)) (Kt : ¬ x = 0 → GM l M F k n tgt L st μ) (Kf : x = 0 → GM l M F k n (pc + 3) L st μ) : GM l M F k n pc L ((0, x) :: st) μ := by
  intro p e s m args below meth c D cA adK adV ad0 ids0 C ad ids H locs cells slots ls hR ha hL hst hS hl hk hn
  obtain ⟨hx, hb, hml, hown, hts, hK, hr, hlk, hnm, hXx⟩ := id C
  obtain ⟨hx1, hst⟩ := okc hst
  exact lv_if_ne hx hb d ht (fun q => (Kt ((not_congr (i32_eq hx1 R32_0)).mp q)) p e s m args below meth c D cA adK adV ad0 ids0 C ad ids H locs cells slots ls hR ha hL hst hS hl hk hn) (fun q => (Kf ((i32_eq hx1 R32_0).mp q)) p e s m args below meth c D cA adK adV ad0 ids0 C ad ids H locs cells slots ls hR ha hL hst hS hl hk hn)
theorem GM_if_lt {l : Launch} {M : MI} {F : FI} {k n pc : Nat} {L : List (Nat × AV)} {st : List AV} {μ : Mm} {x off : Int} (tgt : Nat) (d : decode M.2.1 pc = .ok (.ifCond .lt off, 3)) (ht : (pc : Int) + off = (tgt : Int)) (Kt : x < 0 → GM l M F k n tgt L st μ) (Kf : ¬ x < 0 → GM l M F k n (pc + 3) L st μ) : GM l M F k n pc L ((0, x) :: st) μ := by
  intro p e s m args below meth c D cA adK adV ad0 ids0 C ad ids H locs cells slots ls hR ha hL hst hS hl hk hn
  obtain ⟨hx, hb, hml, hown, hts, hK, hr, hlk, hnm, hXx⟩ := id C
  obtain ⟨hx1, hst⟩ := okc hst
  exact lv_if_lt hx hb d ht (fun q => (Kt ((i32_lt hx1 R32_0).mp q)) p e s m args below meth c D cA adK adV ad0 ids0 C ad ids H locs cells slots ls hR ha hL hst hS hl hk hn) (fun q => (Kf ((not_congr (i32_lt hx1 R32_0)).mp q)) p e s m args below meth c D cA adK adV ad0 ids0 C ad ids H locs cells slots ls hR ha hL hst hS hl hk hn)
theorem GM_if_ge {l : Launch} {M : MI} {F : FI} {k n pc : Nat} {L : List (Nat × AV)} {st : List AV} {μ : Mm} {x off : Int} (tgt : Nat) (d : decode M.2.1 pc = .ok (.ifCond .ge off, 3)) (ht : (pc : Int) + off = (tgt : Int)) (Kt : 0 ≤ x → GM l M F k n tgt L st μ) (Kf : ¬ 0 ≤ x → GM l M F k n (pc + 3) L st μ) : GM l M F k n pc L ((0, x) :: st) μ := by
  intro p e s m args below meth c D cA adK adV ad0 ids0 C ad ids H locs cells slots ls hR ha hL hst hS hl hk hn
  obtain ⟨hx, hb, hml, hown, hts, hK, hr, hlk, hnm, hXx⟩ := id C
  obtain ⟨hx1, hst⟩ := okc hst
  exact lv_if_ge hx hb d ht (fun q => (Kt ((i32_le R32_0 hx1).mp q)) p e s m args below meth c D cA adK adV ad0 ids0 C ad ids H locs cells slots ls hR ha hL hst hS hl hk hn) (fun q => (Kf ((not_congr (i32_le R32_0 hx1)).mp q)) p e s m args below meth c D cA adK adV ad0 ids0 C ad ids H locs cells slots ls hR ha hL hst hS hl hk hn)
theorem GM_if_gt {l : Launch} {M : MI} {F : FI} {k n pc : Nat} {L : List (Nat × AV)} {st : List AV} {μ : Mm} {x off : Int} (tgt : Nat) (d : decode M.2.1 pc = .ok (.ifCond .gt off, 3)) (ht : (pc : Int) + off = (tgt : Int)) (Kt : 0 < x → GM l M F k n tgt L st μ) (Kf : ¬ 0 < x → GM l M F k n (pc + 3) L st μ) : GM l M F k n pc L ((0, x) :: st) μ := by
  intro p e s m args below meth c D cA adK adV ad0 ids0 C ad ids H locs cells slots ls hR ha hL hst hS hl hk hn
  obtain ⟨hx, hb, hml, hown, hts, hK, hr, hlk, hnm, hXx⟩ := id C
  obtain ⟨hx1, hst⟩ := okc hst
  exact lv_if_gt hx hb d ht (fun q => (Kt ((i32_lt R32_0 hx1).mp q)) p e s m args below meth c D cA adK adV ad0 ids0 C ad ids H locs cells slots ls hR ha hL hst hS hl hk hn) (fun q => (Kf ((not_congr (i32_lt R32_0 hx1)).mp q)) p e s m args below meth c D cA adK adV ad0 ids0 C ad ids H locs cells slots ls hR ha hL hst hS hl hk hn)
theorem GM_if_le {l : Launch} {M : MI} {F : FI} {k n pc : Nat} {L : List (Nat × AV)} {st : List AV} {μ : Mm} {x off : Int} (tgt : Nat) (d : decode M.2.1 pc = .ok (.ifCond .le off, 3)) (ht : (pc : Int) + off = (tgt : Int)) (Kt : x ≤ 0 → GM l M F k n tgt L st μ) (Kf : ¬ x ≤ 0 → GM l M F k n (pc + 3) L st μ) : GM l M F k n pc L ((0, x) :: st) μ := by
  intro p e s m args below meth c D cA adK adV ad0 ids0 C ad ids H locs cells slots ls hR ha hL hst hS hl hk hn
  obtain ⟨hx, hb, hml, hown, hts, hK, hr, hlk, hnm, hXx⟩ := id C
  obtain ⟨hx1, hst⟩ := okc hst
  exact lv_if_le hx hb d ht (fun q => (Kt ((i32_le hx1 R32_0).mp q)) p e s m args below meth c D cA adK adV ad0 ids0 C ad ids H locs cells slots ls hR ha hL hst hS hl hk hn) (fun q => (Kf ((not_congr (i32_le hx1 R32_0)).mp q)) p e s m args below meth c D cA adK adV ad0 ids0 C ad ids H locs cells slots ls hR ha hL hst hS hl hk hn)
theorem GM_goto {l : Launch} {M : MI} {F : FI} {k n pc : Nat} {L : List (Nat × AV)} {st : List AV} {μ : Mm} {off : Int} (tgt : Nat) (d : decode M.2.1 pc = .ok (.goto off, 3)) (ht : (pc : Int) + off = (tgt : Int)) (K : GM l M F k n tgt L st μ) : GM l M F k n pc L st μ := by
  intro p e s m args below meth c D cA adK adV ad0 ids0 C ad ids H locs cells slots ls hR ha hL hst hS hl hk hn
  obtain ⟨hx, hb, hml, hown, hts, hK, hr, hlk, hnm, hXx⟩ := id C
  exact lv_goto hx hb d ht (K p e s m args below meth c D cA adK adV ad0 ids0 C ad ids H locs cells slots ls hR ha hL hst hS hl hk hn)
theorem GM_ifnull {l : Launch} {M : MI} {F : FI} {k n pc : Nat} {L : List (Nat × AV)} {st : List AV} {μ : Mm} {x off : Int} (tgt : Nat) (d : decode M.2.1 pc = .ok (.ifnull off, 3)) (ht : (pc : Int) + off = (tgt : Int)) (Kt : x = 0 → GM l M F k n tgt L st μ) (Kf : ¬ x = 0 → GM l M F k n (pc + 3) L st μ) : GM l M F k n pc L ((3, x) :: st) μ := by
  intro p e s m args below meth c D cA adK adV ad0 ids0 C ad ids H locs cells slots ls hR ha hL hst hS hl hk hn
  obtain ⟨hx, hb, hml, hown, hts, hK, hr, hlk, hnm, hXx⟩ := id C
  obtain ⟨hx1, hst⟩ := okc hst
  by_cases h0 : x = 0
  · have K1 := (Kt h0) p e s m args below meth c D cA adK adV ad0 ids0 C ad ids H locs cells slots ls hR ha hL hst hS hl hk hn
    subst h0; exact lv_ifnullN hx hb d ht K1
  · have K1 := (Kf h0) p e s m args below meth c D cA adK adV ad0 ids0 C ad ids H locs cells slots ls hR ha hL hst hS hl hk hn
    rw [List.map_cons, cv_r ad h0]; exact lv_ifnull hx hb d K1
theorem GM_ifnonnull {l : Launch} {M : MI} {F : FI} {k n pc : Nat} {L : List (Nat × AV)} {st : List AV} {μ : Mm} {x off : Int} (tgt : Nat) (d : decode M.2.1 pc = .ok (.ifnonnull off, 3)) (ht : (pc : Int) + off = (tgt : Int)) (Kt : ¬ x = 0 → GM l M F k n tgt L st μ) (Kf : x = 0 → GM l M F k n (pc + 3) L st μ) : GM l M F k n pc L ((3, x) :: st) μ := by
  intro p e s m args below meth c D cA adK adV ad0 ids0 C ad ids H locs cells slots ls hR ha hL hst hS hl hk hn
  obtain ⟨hx, hb, hml, hown, hts, hK, hr, hlk, hnm, hXx⟩ := id C
  obtain ⟨hx1, hst⟩ := okc hst
  by_cases h0 : x = 0
  · have K1 := (Kf h0) p e s m args below meth c D cA adK adV ad0 ids0 C ad ids H locs cells slots ls hR ha hL hst hS hl hk hn
    subst h0; exact lv_ifnonnullN hx hb d K1
  · have K1 := (Kt h0) p e s m args below meth c D cA adK adV ad0 ids0 C ad ids H locs cells slots ls hR ha hL hst hS hl hk hn
    rw [List.map_cons, cv_r ad h0]; exact lv_ifnonnull hx hb d ht K1
theorem GM_tableIn {l : Launch} {M : MI} {F : FI} {k n pc : Nat} {L : List (Nat × AV)} {st : List AV} {μ : Mm} {x dflt lo hi off : Int} {offs : Array Int} {len : Nat} (tgt : Nat) (d : decode M.2.1 pc = .ok (.tableswitch dflt lo hi offs, len)) (h1 : lo ≤ x) (h2 : x ≤ hi) (ho : offs[(x - lo).toNat]? = some off) (ht : (pc : Int) + off = (tgt : Int)) (K : GM l M F k n tgt L st μ) : GM l M F k n pc L ((0, x) :: st) μ := by
  intro p e s m args below meth c D cA adK adV ad0 ids0 C ad ids H locs cells slots ls hR ha hL hst hS hl hk hn
  obtain ⟨hx, hb, hml, hown, hts, hK, hr, hlk, hnm, hXx⟩ := id C
  obtain ⟨hx1, hst⟩ := okc hst
  have ee : (Int32.ofInt x).toInt = x := i32_R hx1
  exact lv_tableIn hx hb d (by rw [ee]; omega) (by rw [ee]; omega) (by rw [ee]; exact ho) ht (K p e s m args below meth c D cA adK adV ad0 ids0 C ad ids H locs cells slots ls hR ha hL hst hS hl hk hn)
theorem GM_tableOut {l : Launch} {M : MI} {F : FI} {k n pc : Nat} {L : List (Nat × AV)} {st : List AV} {μ : Mm} {x dflt lo hi : Int} {offs : Array Int} {len : Nat} (tgt : Nat) (d : decode M.2.1 pc = .ok (.tableswitch dflt lo hi offs, len)) (h1 : x < lo ∨ hi < x) (ht : (pc : Int) + dflt = (tgt : Int)) (K : GM l M F k n tgt L st μ) : GM l M F k n pc L ((0, x) :: st) μ := by
  intro p e s m args below meth c D cA adK adV ad0 ids0 C ad ids H locs cells slots ls hR ha hL hst hS hl hk hn
  obtain ⟨hx, hb, hml, hown, hts, hK, hr, hlk, hnm, hXx⟩ := id C
  obtain ⟨hx1, hst⟩ := okc hst
  have ee : (Int32.ofInt x).toInt = x := i32_R hx1
  exact lv_tableOut hx hb d (by rw [ee]; exact h1) ht (K p e s m args below meth c D cA adK adV ad0 ids0 C ad ids H locs cells slots ls hR ha hL hst hS hl hk hn)
theorem GM_pick {l : Launch} {M : MI} {F : FI} {k n pc : Nat} {L : List (Nat × AV)} {st : List AV} {μ : Mm} (ks : List Nat) {L' : List (Nat × AV)} (h : ks.filterMap (fun j => L[j]?) = L') (K : GM l M F k n pc L' st μ) : GM l M F k n pc L st μ := by
  intro p e s m args below meth c D cA adK adV ad0 ids0 C ad ids H locs cells slots ls hR ha hL hst hS hl hk hn
  obtain ⟨hx, hb, hml, hown, hts, hK, hr, hlk, hnm, hXx⟩ := id C
  have hin : ∀ q ∈ L', q ∈ L := by
    intro q hq
    rw [← h] at hq
    obtain ⟨j, -, hj⟩ := List.mem_filterMap.mp hq
    exact List.mem_of_getElem? hj
  exact K p e s m args below meth c D cA adK adV ad0 ids0 C ad ids H locs cells slots ls hR ha (fun q hq => hL q (hin q hq)) hst hS ⟨hl.1, hl.2.1, fun q hq => by obtain ⟨z, hz, rfl⟩ := List.mem_map.mp hq; exact hl.2.2 _ (List.mem_map.mpr ⟨z, hin z hz, rfl⟩)⟩ hk hn
