/-! ===== texts, as far as this claim reaches: constants 1 .. 16, their bytes 17 .. 32, a formatter 33 ===== -/
def slB (b : Int) : Int := ((sLen.getD (b - 17).toNat 0 : Nat) : Int)
def sby (b j : Int) : Int := ((sByt.getD (b - 17).toNat []).getD j.toNat 0).toInt
def i2c (x : Int) : Int := ((Int32.ofInt x).toUInt32 % 65536).toInt32.toInt
theorem GM_ldcS {l : Launch} {M : MI} {F : FI} {k n pc : Nat} {L : List (Nat × AV)} {st : List AV} {μ : Mm} {i : Nat} (j : Nat) (z : Int) (hj : j < 16) (hM : M.1 = RX3) (hi : sIdx.getD j 0 = i) (hz : (j : Int) + 1 = z) (d : decode M.2.1 pc = .ok (.ldc i, 2)) (K : GM l M F k n (pc + 2) L ((3, z) :: st) μ) : GM l M F k n pc L st μ := by
  intro p e s m args below meth c D cA adK adV ad0 ids0 C ad ids H locs cells slots ls hR ha hL hst hS hl hk hn
  obtain ⟨hx, hb, hml, hown, hts, hK, hr, hlk, hnm, hXx⟩ := id C
  have hz0 : z ≠ 0 := by omega
  have K1 := K p e s m args below meth c D cA adK adV ad0 ids0 C ad ids H locs cells slots ls hR ha hL (ok_c (v := (3, z)) (Or.inr (Or.inl (by show 1 ≤ z ∧ z ≤ 34; omega))) hst) hS hl hk hn
  rw [List.map_cons, cv_r ad hz0, ← hz, hR.2.2.2.2 j (by omega)] at K1
  subst hi
  exact va_ldcS hx hb (by rw [← hM]; exact hown) (hK.2.1 j hj) d K1
theorem str_i {a : Int} (h : 1 ≤ a ∧ a ≤ 16) : ∃ j : Nat, j < 16 ∧ a = (j : Int) + 1 := ⟨(a - 1).toNat, by omega, by omega⟩
theorem GM_sval {l : Launch} {M : MI} {F : FI} {k n pc : Nat} {L : List (Nat × AV)} {st : List AV} {μ : Mm} {a : Int} {i : Nat} (hw : Cond.fieldLink M.1 i "java/lang/String" "value" "[B" ∈ Wt) (ha1 : 1 ≤ a ∧ a ≤ 16) (d : decode M.2.1 pc = .ok (.getfield i, 3)) (K : GM l M F k n (pc + 3) L ((3, a + 16) :: st) μ) : GM l M F k n pc L ((3, a) :: st) μ := by
  intro p e s m args below meth c D cA adK adV ad0 ids0 C ad ids H locs cells slots ls hR ha hL hst hS hl hk hn
  obtain ⟨hx, hb, hml, hown, hts, hK, hr, hlk, hnm, hXx⟩ := id C
  obtain ⟨hva, hst⟩ := okc hst
  obtain ⟨j, hj, e1⟩ := str_i ha1
  have K1 := K p e s m args below meth c D cA adK adV ad0 ids0 C ad ids H locs cells slots ls hR ha hL (ok_c (v := (3, a + 16)) (Or.inr (Or.inl (by show 1 ≤ a + 16 ∧ a + 16 ≤ 34; omega))) hst) hS hl hk hn
  have hne : a ≠ 0 := by omega
  have hne2 : a + 16 ≠ 0 := by omega
  rw [List.map_cons, cv_r ad hne, e1, hR.2.2.2.2 j (by omega)]
  rw [List.map_cons, cv_r ad hne2, e1, show (j : Int) + 1 + 16 = ((j + 16 : Nat) : Int) + 1 by omega, hR.2.2.2.2 (j + 16) (by omega)] at K1
  exact vk_getf hx hb (hK.2.2.1.1 j hj).2.2.1 hS hown (hts _ hw) (fun _ h => h) d K1
theorem GM_scod {l : Launch} {M : MI} {F : FI} {k n pc : Nat} {L : List (Nat × AV)} {st : List AV} {μ : Mm} {a : Int} {i : Nat} (hw : Cond.fieldLink M.1 i "java/lang/String" "coder" "B" ∈ Wt) (ha1 : 1 ≤ a ∧ a ≤ 16) (d : decode M.2.1 pc = .ok (.getfield i, 3)) (K : GM l M F k n (pc + 3) L ((0, 0) :: st) μ) : GM l M F k n pc L ((3, a) :: st) μ := by
  intro p e s m args below meth c D cA adK adV ad0 ids0 C ad ids H locs cells slots ls hR ha hL hst hS hl hk hn
  obtain ⟨hx, hb, hml, hown, hts, hK, hr, hlk, hnm, hXx⟩ := id C
  obtain ⟨hva, hst⟩ := okc hst
  obtain ⟨j, hj, e1⟩ := str_i ha1
  have K1 := K p e s m args below meth c D cA adK adV ad0 ids0 C ad ids H locs cells slots ls hR ha hL (ok_c (v := (0, 0)) R32_0 hst) hS hl hk hn
  have hne : a ≠ 0 := by omega
  have hne2 : a + 16 ≠ 0 := by omega
  rw [List.map_cons, cv_r ad hne, e1, hR.2.2.2.2 j (by omega)]
  skip
  exact vk_getf hx hb (hK.2.2.1.1 j hj).2.1 hS hown (hts _ hw) (fun _ h => h) d K1
theorem byt_i {a : Int} (h : 17 ≤ a ∧ a ≤ 32) : ∃ j : Nat, j < 16 ∧ a = ((j + 16 : Nat) : Int) + 1 ∧ (a - 17).toNat = j := ⟨(a - 17).toNat, by omega, by omega, rfl⟩
theorem sLen_small : ∀ j, j < 16 → sLen.getD j 0 < 100 := by decide
theorem GM_blen {l : Launch} {M : MI} {F : FI} {k n pc : Nat} {L : List (Nat × AV)} {st : List AV} {μ : Mm} {a : Int} (ha1 : 17 ≤ a ∧ a ≤ 32) (d : decode M.2.1 pc = .ok (.arraylength, 1)) (K : GM l M F k n (pc + 1) L ((0, slB a) :: st) μ) : GM l M F k n pc L ((3, a) :: st) μ := by
  intro p e s m args below meth c D cA adK adV ad0 ids0 C ad ids H locs cells slots ls hR ha hL hst hS hl hk hn
  obtain ⟨hx, hb, hml, hown, hts, hK, hr, hlk, hnm, hXx⟩ := id C
  obtain ⟨hva, hst⟩ := okc hst
  obtain ⟨j, hj, e1, e2⟩ := byt_i ha1
  have hs := sLen_small j hj
  have hb1 : R32 (slB a) := by unfold slB; rw [e2]; unfold R32; omega
  have K1 := K p e s m args below meth c D cA adK adV ad0 ids0 C ad ids H locs cells slots ls hR ha hL (ok_c (v := (0, slB a)) hb1 hst) hS hl hk hn
  have hne : a ≠ 0 := by omega
  rw [List.map_cons, cv_r ad hne, e1, hR.2.2.2.2 (j + 16) (by omega)]
  exact va_tlen hx hb (hK.2.2.1.1 j hj).2.2.2 hS (v := Int32.ofInt (slB a)) (by unfold slB; rw [e2, Int32.ofInt_eq_ofNat]) d K1
theorem GM_bald {l : Launch} {M : MI} {F : FI} {k n pc : Nat} {L : List (Nat × AV)} {st : List AV} {μ : Mm} {a i : Int} (ha1 : 17 ≤ a ∧ a ≤ 32) (h0 : 0 ≤ i) (h1 : i < slB a) (d : decode M.2.1 pc = .ok (.baload, 1)) (K : GM l M F k n (pc + 1) L ((0, sby a i) :: st) μ) : GM l M F k n pc L ((0, i) :: (3, a) :: st) μ := by
  intro p e s m args below meth c D cA adK adV ad0 ids0 C ad ids H locs cells slots ls hR ha hL hst hS hl hk hn
  obtain ⟨hx, hb, hml, hown, hts, hK, hr, hlk, hnm, hXx⟩ := id C
  obtain ⟨hvi, hst⟩ := okc hst
  obtain ⟨hva, hst⟩ := okc hst
  obtain ⟨j, hj, e1, e2⟩ := byt_i ha1
  have K1 := K p e s m args below meth c D cA adK adV ad0 ids0 C ad ids H locs cells slots ls hR ha hL (ok_c (v := (0, sby a i)) (R32_i _) hst) hS hl hk hn
  have hne : a ≠ 0 := by omega
  rw [List.map_cons, List.map_cons, cv_r ad hne, e1, hR.2.2.2.2 (j + 16) (by omega)]
  refine va_tb hx hb (hK.2.2.1.1 j hj).2.2.2 hS ?_ (v := .int (Int32.ofInt (sby a i))) ?_ d K1
  · have := i32_in hvi h0 h1
    unfold slB at this
    rw [e2] at this
    simpa using this
  · show Value.int _ = _
    have ei : (Int32.ofInt i).toNatClampNeg = i.toNat := i32_n hvi
    show Value.int ((sByt.getD j []).getD (Int32.ofInt i).toNatClampNeg 0) = _
    unfold sby
    rw [e2, Int32.ofInt_toInt, ei]
theorem GM_i2c {l : Launch} {M : MI} {F : FI} {k n pc : Nat} {L : List (Nat × AV)} {st : List AV} {μ : Mm} {x : Int} (d : decode M.2.1 pc = .ok (.i2c, 1)) (K : GM l M F k n (pc + 1) L ((0, i2c x) :: st) μ) : GM l M F k n pc L ((0, x) :: st) μ := by
  intro p e s m args below meth c D cA adK adV ad0 ids0 C ad ids H locs cells slots ls hR ha hL hst hS hl hk hn
  obtain ⟨hx, hb, hml, hown, hts, hK, hr, hlk, hnm, hXx⟩ := id C
  obtain ⟨hva, hst⟩ := okc hst
  exact lv_i2c hx hb d (v := Int32.ofInt (i2c x)) (by unfold i2c; rw [Int32.ofInt_toInt]) (K p e s m args below meth c D cA adK adV ad0 ids0 C ad ids H locs cells slots ls hR ha hL (ok_c (v := (0, i2c x)) (R32_i _) hst) hS hl hk hn)
theorem GM_pop {l : Launch} {M : MI} {F : FI} {k n pc : Nat} {L : List (Nat × AV)} {st : List AV} {μ : Mm} {v : AV} (hv : v.1 ≠ 2) (d : decode M.2.1 pc = .ok (.pop, 1)) (K : GM l M F k n (pc + 1) L st μ) : GM l M F k n pc L (v :: st) μ := by
  intro p e s m args below meth c D cA adK adV ad0 ids0 C ad ids H locs cells slots ls hR ha hL hst hS hl hk hn
  obtain ⟨hx, hb, hml, hown, hts, hK, hr, hlk, hnm, hXx⟩ := id C
  exact lv_pop hx hb d (cv_c1 ad hv) (K p e s m args below meth c D cA adK adV ad0 ids0 C ad ids H locs cells slots ls hR ha hL (okc hst).2 hS hl hk hn)
theorem GM_gets {l : Launch} {M : MI} {F : FI} {k n pc : Nat} {L : List (Nat × AV)} {st : List AV} {μ : Mm} {i : Nat} (hw : Cond.fieldLink M.1 i "java/lang/String" "COMPACT_STRINGS" "Z" ∈ Wt) (d : decode M.2.1 pc = .ok (.getstatic i, 3)) (K : GM l M F k n (pc + 3) L ((0, 1) :: st) μ) : GM l M F k n pc L st μ := by
  intro p e s m args below meth c D cA adK adV ad0 ids0 C ad ids H locs cells slots ls hR ha hL hst hS hl hk hn
  obtain ⟨hx, hb, hml, hown, hts, hK, hr, hlk, hnm, hXx⟩ := id C
  exact va_gets hx hb hK.2.2.2.1 hS hown (hts _ hw) (fun _ h => h) d (K p e s m args below meth c D cA adK adV ad0 ids0 C ad ids H locs cells slots ls hR ha hL (ok_c (v := (0, 1)) (R32_b rfl) hst) hS hl hk hn)
theorem GM_getsF {l : Launch} {M : MI} {F : FI} {k n pc : Nat} {L : List (Nat × AV)} {st : List AV} {μ : Mm} {i : Nat} (hw : Cond.fieldLink M.1 i "jdk/internal/util/Preconditions" "SIOOBE_FORMATTER" "Ljava/util/function/BiFunction;" ∈ Wt) (d : decode M.2.1 pc = .ok (.getstatic i, 3)) (K : ∀ z : Int, GM l M F k n (pc + 3) L ((3, z) :: st) μ) : GM l M F k n pc L st μ := by
  intro p e s m args below meth c D cA adK adV ad0 ids0 C ad ids H locs cells slots ls hR ha hL hst hS hl hk hn
  obtain ⟨hx, hb, hml, hown, hts, hK, hr, hlk, hnm, hXx⟩ := id C
  rcases hK.2.2.2.2.2.2 with h | h
  · exact va_gets hx hb h hS hown (hts _ hw) (fun _ h => h) d ((K 0) p e s m args below meth c D cA adK adV ad0 ids0 C ad ids H locs cells slots ls hR ha hL (ok_c (v := (3, 0)) (Or.inl rfl) hst) hS hl hk hn)
  · have K1 := (K 33) p e s m args below meth c D cA adK adV ad0 ids0 C ad ids H locs cells slots ls hR ha hL (ok_c (v := (3, 33)) (Or.inr (Or.inl (by show (1 : Int) ≤ 33 ∧ (33 : Int) ≤ 34; omega))) hst) hS hl hk hn
    rw [List.map_cons, cv_r ad (by decide), show (33 : Int) = ((32 : Nat) : Int) + 1 by decide, hR.2.2.2.2 32 (by omega)] at K1
    exact va_gets hx hb h hS hown (hts _ hw) (fun _ h => h) d K1
/-- the law's script: number 34 -/
def LX (Ls : Nat) (xs : Nat → Int32) : State → (Nat → Nat) → (Nat → Prop) → Prop := fun s adK A => va_X (adK 33) Ls xs s s.heap ∧ adK 33 < s.heap.size ∧ ¬ A (adK 33)
theorem GM_sld {l : Launch} {M : MI} {F : FI} {k n pc : Nat} {L : List (Nat × AV)} {st : List AV} {μ : Mm} {Ls : Nat} {xs : Nat → Int32} {j : Int} (hLX : M.2.2.2.2.2.2.2 = LX Ls xs) (h0 : 0 ≤ j) (h1 : j < (Ls : Int)) (d : decode M.2.1 pc = .ok (.iaload, 1)) (K : GM l M F k n (pc + 1) L ((0, (xs j.toNat).toInt) :: st) μ) : GM l M F k n pc L ((0, j) :: (3, 34) :: st) μ := by
  intro p e s m args below meth c D cA adK adV ad0 ids0 C ad ids H locs cells slots ls hR ha hL hst hS hl hk hn
  obtain ⟨hx, hb, hml, hown, hts, hK, hr, hlk, hnm, hXx⟩ := id C
  obtain ⟨hvj, hst⟩ := okc hst
  obtain ⟨hva, hst⟩ := okc hst
  rw [hLX] at hXx
  have K1 := K p e s m args below meth c D cA adK adV ad0 ids0 C ad ids H locs cells slots ls hR ha hL (ok_c (v := (0, (xs j.toNat).toInt)) (R32_i _) hst) hS hl hk hn
  rw [List.map_cons, List.map_cons, cv_r ad (by decide), show (34 : Int) = ((33 : Nat) : Int) + 1 by decide, hR.2.2.2.2 33 (by omega)]
  rw [List.map_cons, show cv ad (0, (xs j.toNat).toInt) = .int (xs (Int32.ofInt j).toNatClampNeg) by rw [i32_n hvj]; show Value.int (Int32.ofInt (xs j.toNat).toInt) = _; rw [Int32.ofInt_toInt]] at K1
  exact va_sld hx hb hXx.1 hXx.2.1 hXx.2.2 hS (by have := i32_in hvj h0 h1; simpa using this) d K1
theorem GM_slen {l : Launch} {M : MI} {F : FI} {k n pc : Nat} {L : List (Nat × AV)} {st : List AV} {μ : Mm} {Ls : Nat} {xs : Nat → Int32} (hLX : M.2.2.2.2.2.2.2 = LX Ls xs) (hLs : Ls < 100000) (d : decode M.2.1 pc = .ok (.arraylength, 1)) (K : GM l M F k n (pc + 1) L ((0, (Ls : Int)) :: st) μ) : GM l M F k n pc L ((3, 34) :: st) μ := by
  intro p e s m args below meth c D cA adK adV ad0 ids0 C ad ids H locs cells slots ls hR ha hL hst hS hl hk hn
  obtain ⟨hx, hb, hml, hown, hts, hK, hr, hlk, hnm, hXx⟩ := id C
  obtain ⟨hva, hst⟩ := okc hst
  rw [hLX] at hXx
  have K1 := K p e s m args below meth c D cA adK adV ad0 ids0 C ad ids H locs cells slots ls hR ha hL (ok_c (v := (0, (Ls : Int))) (show R32 (Ls : Int) by unfold R32; omega) hst) hS hl hk hn
  rw [List.map_cons, cv_r ad (by decide), show (34 : Int) = ((33 : Nat) : Int) + 1 by decide, hR.2.2.2.2 33 (by omega)]
  refine va_slen hx hb hXx.1 hXx.2.1 hXx.2.2 hS d ?_
  rw [List.map_cons, show cv ad (0, (Ls : Int)) = .int (Int32.ofNat Ls) by show Value.int (Int32.ofInt (Ls : Int)) = _; rw [Int32.ofInt_eq_ofNat]] at K1
  exact K1
theorem GM_cret {l : Launch} {M : MI} {F : FI} {k n pc : Nat} {L : List (Nat × AV)} {μ : Mm} {x : Int} (d : decode M.2.1 pc = .ok (.ireturn, 1)) (hret : M.2.2.2.1 = some .char) (hz : 0 ≤ x ∧ x < 65536) (hF : F.1 = [(0, x)] ∧ F.2.1 = μ) : GM l M F k n pc L [(0, x)] μ := by
  intro p e s m args below meth c D cA adK adV ad0 ids0 C ad ids H locs cells slots ls hR ha hL hst hS hl hk hn
  obtain ⟨hx, hb, hml, hown, hts, hK, hr, hlk, hnm, hXx⟩ := id C
  refine W.widen (k := F.2.2.1) (n := F.2.2.2) (by omega) (by omega) ?_
  have e0 : Int32.ofInt x = nI x.toNat := by unfold nI; rw [← Int32.ofInt_eq_ofNat]; congr 1; omega
  exact W.zret hx hb (hr.trans hret) (by show narrow .char (.int (Int32.ofInt x)) = .int (Int32.ofInt x); rw [e0]; exact (pk_charN (by omega)).1) (fun t ht _ => Qf_end hF rfl hst ha hR hS ht) hS.2.2 d
theorem GM_bret {l : Launch} {M : MI} {F : FI} {k n pc : Nat} {L : List (Nat × AV)} {μ : Mm} {x : Int} (d : decode M.2.1 pc = .ok (.ireturn, 1)) (hret : M.2.2.2.1 = some .byte) (hz : x = 0 ∨ x = 1) (hF : F.1 = [(0, x)] ∧ F.2.1 = μ) : GM l M F k n pc L [(0, x)] μ := by
  intro p e s m args below meth c D cA adK adV ad0 ids0 C ad ids H locs cells slots ls hR ha hL hst hS hl hk hn
  obtain ⟨hx, hb, hml, hown, hts, hK, hr, hlk, hnm, hXx⟩ := id C
  refine W.widen (k := F.2.2.1) (n := F.2.2.2) (by omega) (by omega) ?_
  exact W.zret hx hb (hr.trans hret) (by rcases hz with rfl | rfl <;> rfl) (fun t ht _ => Qf_end hF rfl hst ha hR hS ht) hS.2.2 d
theorem GM_callVs {l : Launch} {M : MI} {F : FI} {k n pc : Nat} {L : List (Nat × AV)} {st : List AV} {μ : Mm} {i : Nat} {y : MethodName} {M' : MI} (av : List AV) {b : Int} {F' : FI} (hC : Ct l y M' ((3, b) :: av) μ F') (hcw : CWd y M' av.length) (hcl : y.cls = "java/lang/String") (hinm : Cond.instanceMethod y ∈ Wt) (hsel : Cond.selects "java/lang/String" y y ∈ Wt) (hlink : Cond.methodLink M.1 i y ∈ Wt) (hkb : 1 ≤ b ∧ b ≤ 16) (hrm : RMo M' M) (hF1 : F'.1.length ≤ 1) (hrest : wdl st ≤ 8) (d : decode M.2.1 pc = .ok (.invokevirtual i, 3)) (K : GM l M F k n (pc + 3) L (F'.1 ++ st) F'.2.1) : GM l M F (F'.2.2.1 + k) (F'.2.2.2 + n) pc L (av.reverse ++ (3, b) :: st) μ := by
  intro p e s m args below meth c D cA adK adV ad0 ids0 C ad ids H locs cells slots ls hR ha hL hst hS hl hk hn
  obtain ⟨hx, hb, hml, hown, hts, hK, hr, hlk, hnm, hXx⟩ := id C
  have hst2 : ∀ v ∈ st, okv (μ 0) v := fun v hv => hst v (List.mem_append_right _ (List.mem_cons_of_mem _ hv))
  have hav : ∀ v ∈ av, okv (μ 0) v := fun v hv => hst v (List.mem_append_left _ (List.mem_reverse.mpr hv))
  have hvb : okv (μ 0) (3, b) := hst (3, b) (List.mem_append_right _ List.mem_cons_self)
  obtain ⟨j, hj, e1⟩ := str_i hkb
  have hne : b ≠ 0 := by omega
  have hrc := vk_recv hK.2.2.1 hj hS
  rw [← hR.2.2.2.2 j (by omega), ← e1] at hrc
  have hws : ∀ w ∈ Cond.code y M'.2.1 M'.2.2.1 M'.2.2.2.1 :: Wt, w ∈ Wt := fun w hw => (List.mem_cons.mp hw).elim (fun q => q ▸ hcw.2.1) id
  have hpre : ∀ U : State, U.heap = H → s.WarmedH U.vm → va_Pc (((3, b) :: av).map (cv ad)) (fun U => U.heap.size = H.size ∧ Kx D cA adK adV (Aof ad ids H.size) U ∧ Rep D cA adK ad ids μ (Aof ad ids H.size) U.heap ∧ ∀ v ∈ ((3, b) :: av), okv (μ 0) v) ((((3, b) :: av).map (cv ad)).toArray) U := fun U hU hW => ⟨rfl, by rw [hU], hK.call hS (Aof_sub hR hS (fun q hq => Or.inr hq)) hU hW, by rw [hU]; exact hR.self _, ok_c hvb hav⟩
  rw [List.map_append, List.map_cons, List.map_reverse, cv_r ad hne]
  have ex : (((3, b) :: av).map (cv ad)) = Value.ref (ad b) :: av.map (cv ad) := by rw [List.map_cons, cv_r ad hne]
  rw [ex] at hpre
  have hM := hC D cA adK adV ad ids H.size
  rw [ex] at hM
  exact GM_back K hF1 C hR ha hL hst2 hS hl hk hn (va_runV (n := av.length) (C := "java/lang/String") ⟨hx, hb, hml, hown, hts⟩ hM ⟨⟨rfl, rfl, hrm.1, hrm.2, pay_in hts (goodWt hws), List.mem_cons_self, hts _ hcw.2.1, hts _ hcw.1, hcw.2.2.1, hcw.len, hts _ hlink⟩, hts _ hinm, hts _ hsel⟩ ⟨(by have q := Ct_blind (D := D) (cA := cA) (adK := adK) (adV := adV) (ad0 := ad) (ids0 := ids) (sz := H.size) (av := ((3, b) :: av)) (μ := μ); rw [ex] at q; exact q), hrc, hpre⟩ rfl (by rw [List.length_map]) hl.1 rfl (lv_room (by rw [cat_sum]; exact hrest)) d ⟨show cells + F'.2.2.1 ≤ F.2.2.1 by omega, show slots + F'.2.2.2 ≤ F.2.2.2 by omega⟩)
theorem GM_callVs0 {l : Launch} {M : MI} {F : FI} {k n pc : Nat} {L : List (Nat × AV)} {st : List AV} {μ : Mm} {i : Nat} {y : MethodName} {M' : MI} (av : List AV) {b : Int} {rv : List AV} {μ' : Mm} (hC : Ct l y M' ((3, b) :: av) μ (rv, μ', 0, 0)) (hcw : CWd y M' av.length) (hcl : y.cls = "java/lang/String") (hinm : Cond.instanceMethod y ∈ Wt) (hsel : Cond.selects "java/lang/String" y y ∈ Wt) (hlink : Cond.methodLink M.1 i y ∈ Wt) (hkb : 1 ≤ b ∧ b ≤ 16) (hrm : RMo M' M) (hF1 : rv.length ≤ 1) (hrest : wdl st ≤ 8) (d : decode M.2.1 pc = .ok (.invokevirtual i, 3)) (K : GM l M F k n (pc + 3) L (rv ++ st) μ') : GM l M F k n pc L (av.reverse ++ (3, b) :: st) μ := by
  have q := GM_callVs (F' := (rv, μ', 0, 0)) av hC hcw hcl hinm hsel hlink hkb hrm hF1 hrest d K
  rw [show (0 : Nat) + k = k from Nat.zero_add k, show (0 : Nat) + n = n from Nat.zero_add n] at q
  exact q
