theorem wt_tbl : ∀ w ∈ Wt, w ∈ lw_tbl := fun _ h => (List.mem_filter.mp h).1
/-- what the law's shallow function must do -/
def LawTotal : Prop := ∀ (Ls : Nat) (xs : Nat → Int32), Ls ≤ 4608 → ∃ (μf : Mm) (c n : Nat), fL_law Ls xs (fun _ _ => 0) = some ((1, μf), c, n) ∧ c ≤ 600000 ∧ n ≤ 7302250
theorem arr_known {s : State} {args : Array Value} {ty : FieldType} (hty : ∀ C, ty ≠ .object C) (h : (Cond.arrayClass ty).before args s = true) : ∃ cA : ClassId, ArrOfT s cA ty ∧ va_RA s cA ty := by
  obtain ⟨c, k, comp, h1, h2, h3⟩ := Cond.arrayClass_spec h
  refine ⟨c, fun n z => ⟨fun k h => (by cases h), k, h2, comp, h3⟩, ?_⟩
  cases ty <;> first | exact h1 | exact absurd rfl (hty _)
theorem arr_known_r {s : State} {args : Array Value} {C : String} (h : (Cond.arrayOver (.object C)).before args s = true) : ∃ cA : ClassId, ArrOfT s cA (.object C) ∧ va_RA s cA (.object C) := by
  obtain ⟨comp, c, k, h1, h2, h3, h4, h5⟩ := Cond.arrayOver_spec h
  exact ⟨c, fun n z => ⟨fun k h => (by cases h), k, h3, comp, h4⟩, k, comp, h3, h4, h1, h5⟩
set_option maxRecDepth 20000 in
theorem K_known {s : State} {args : Array Value} (hts : ∀ w ∈ lw_tbl, w.before args s = true) : ∃ (D : va_G) (cA : Nat → ClassId), va_K D vwCl (tysOf cA) s := by
  have hw : ∀ w ∈ Wt, w.before args s = true := fun w h => hts w (wt_tbl w h)
  have hk : ∀ k, ∃ q : ClassId × (Nat → Nat), k < 12 → u_Kn s (clOf k).1 (clOf k).2.1 (clOf k).2.2 q.1 q.2 := by
    intro k
    by_cases h : k < 12
    · obtain ⟨cC, iS, hq⟩ := u_known (C := (clOf k).1) (T := (clOf k).2.1) (N := (clOf k).2.2) (n := (clOf k).2.2) hw (cl_in h) (hw _ (cl_ins h).1)
      exact ⟨(cC, iS), fun _ => hq⟩
    · exact ⟨(0, fun _ => 0), fun q => absurd q h⟩
  obtain ⟨f, hf⟩ := Classical.axiomOfChoice hk
  obtain ⟨a12, h12⟩ := arr_known (fun C => by intro q; cases q) (hw _ ka_int)
  obtain ⟨a13, h13⟩ := arr_known (fun C => by intro q; cases q) (hw _ ka_long)
  obtain ⟨a14, h14⟩ := arr_known (fun C => by intro q; cases q) (hw _ ka_boolean)
  obtain ⟨a15, h15⟩ := arr_known_r (hts _ ko_X2)
  obtain ⟨a16, h16⟩ := arr_known_r (hts _ ko_X4)
  obtain ⟨a17, h17⟩ := arr_known_r (hts _ ko_X6)
  obtain ⟨a18, h18⟩ := arr_known_r (hts _ ko_X7)
  obtain ⟨a19, h19⟩ := arr_known_r (hts _ ko_X8)
  refine ⟨(fun k => (f k).1, fun k => (f k).2), fun k => if k = 12 then a12 else if k = 13 then a13 else if k = 14 then a14 else if k = 15 then a15 else if k = 16 then a16 else if k = 17 then a17 else if k = 18 then a18 else a19, fun k q hq => ?_, fun k q hq => ?_⟩
  · have hlt : k < 12 := (List.getElem?_eq_some_iff.mp hq).1
    rw [cl_at hlt] at hq
    cases hq
    exact hf k hlt
  · have hlt : k < 8 := (List.getElem?_eq_some_iff.mp hq).1
    rcases (show k = 0 ∨ k = 1 ∨ k = 2 ∨ k = 3 ∨ k = 4 ∨ k = 5 ∨ k = 6 ∨ k = 7 by omega) with rfl | rfl | rfl | rfl | rfl | rfl | rfl | rfl <;> cases hq
    · exact h12
    · exact h13
    · exact h14
    · exact h15
    · exact h16
    · exact h17
    · exact h18
    · exact h19
set_option maxRecDepth 20000 in
theorem Kx_known {s : State} {args : Array Value} {A : Nat → Prop} (b : Nat) (hts : ∀ w ∈ lw_tbl, w.before args s = true) (hgv : (Jvm.Cond.and given_1 narrow_1).before args s = true) (hA : ∀ a : Nat, a < s.heap.size → ¬ A a) : ∃ (D : va_G) (cA : Nat → ClassId) (adK : Nat → Nat), adK 33 = b ∧ Kx D cA adK adK A s := by
  obtain ⟨D, cA, hK⟩ := K_known hts
  have hn := flat_of_before _ hgv
  have hw : ∀ w ∈ Wt, w.before args s = true := fun w h => hts w (wt_tbl w h)
  obtain ⟨aK, aV, hS, hev⟩ := vk_Sof (N := 16) (tm := sT) (len := sLen) (byt := sByt) (A := A) (fun i hi => by have := sLen_small i hi; omega) (fun i hi => hn _ (nr_ex i hi)) (fun i hi => hn _ (nr_co i hi)) (fun i hi => hn _ (nr_ar i hi)) (fun i hi => hn _ (nr_le i hi)) (fun i hi j hj => hn _ (nr_el i hi j hj)) (fun i j hi hj hij => (nr_ne i hi j hj hij).imp (fun h => hn _ h) (fun h => hn _ h)) hA
  have hZ1 := va_Zof (A := A) (hts _ kz_COMPACT_STRINGS) (hw _ ki_J0) (va_eqi (hn _ nr_cs)) hA
  have hZ2 := va_Zqof (A := A) (hts _ kz_SIOOBE_FORMATTER) (hw _ ki_J3) (hn _ nr_sf) hA
  obtain ⟨fm, hfm⟩ : ∃ fm : Nat, (va_Z "jdk/internal/util/Preconditions" "SIOOBE_FORMATTER" "Ljava/util/function/BiFunction;" .null A s s.heap ∨ va_Z "jdk/internal/util/Preconditions" "SIOOBE_FORMATTER" "Ljava/util/function/BiFunction;" (.ref fm) A s s.heap) := by
    rcases hZ2 with h | ⟨t, h⟩
    · exact ⟨0, Or.inl h⟩
    · exact ⟨t, Or.inr h⟩
  refine ⟨D, cA, fun i => if i < 16 then aK i else if i < 32 then aV (i - 16) else if i = 32 then fm else b, rfl, hK, fun i hi => ?_, ?_, hZ1, fun q hq => va_Nw.of rfl (hts _ (kh_all q hq)), fun C hC => va_AO.of (hts _ (ko_all C hC)), hfm⟩
  · show vk_R RX3 _ _ (if i < 16 then aK i else _) s
    rw [if_pos hi]
    exact vk_R.of (hts _ (kr_all i hi)) (hev i hi)
  · refine ⟨fun i hi => ?_, fun i j hi hj e => ?_⟩
    · have h1 : (if i < 16 then aK i else if i < 32 then aV (i - 16) else if i = 32 then fm else b) = aK i := if_pos hi
      have h2 : (if i + 16 < 16 then aK (i + 16) else if i + 16 < 32 then aV (i + 16 - 16) else if i + 16 = 32 then fm else b) = aV i := by rw [if_neg (by omega), if_pos (by omega), Nat.add_sub_cancel]
      show va_O _ (if i < 16 then aK i else _) A s s.heap ∧ va_OF _ _ _ _ (if i < 16 then aK i else _) A s s.heap ∧ va_OF _ _ _ (.ref (if i + 16 < 16 then aK (i + 16) else if i + 16 < 32 then aV (i + 16 - 16) else if i + 16 = 32 then fm else b)) (if i < 16 then aK i else _) A s s.heap ∧ va_T _ (if i + 16 < 16 then aK (i + 16) else if i + 16 < 32 then aV (i + 16 - 16) else if i + 16 = 32 then fm else b) _ _ A s s.heap
      rw [h2, if_pos hi]
      exact hS.1 i hi
    · have h1 : ∀ i, i < 16 → (if i < 16 then aK i else if i < 32 then aV (i - 16) else if i = 32 then fm else b) = aK i := fun i hi => if_pos hi
      have e : (if i < 16 then aK i else if i < 32 then aV (i - 16) else if i = 32 then fm else b) = (if j < 16 then aK j else if j < 32 then aV (j - 16) else if j = 32 then fm else b) := e
      rw [h1 i hi, h1 j hj] at e
      exact hS.2 i j hi hj e
theorem idx_back (i : Nat) : (((i : Int) + 1) - 1).toNat = i := by omega
theorem Rep_start (D : va_G) (cA : Nat → ClassId) (adK : Nat → Nat) (A : Nat → Prop) (H : Heap) : Rep D cA adK (fun x => adK (x - 1).toNat) [] (fun _ _ => 0) A H :=
  ⟨fun k q h => (by simp [wd] at h), ⟨fun i j p q h => (by simp [wd] at h), fun k q h => (by simp [wd] at h)⟩, fun x => (by simp), fun x hx => (by cases hx), fun i _ => congrArg adK (idx_back i)⟩
theorem cv_start (adK : Nat → Nat) {b : Nat} (h : adK 33 = b) : cv (fun x => adK (x - 1).toNat) (3, 34) = .ref b := by
  rw [cv_r _ (by decide)]
  show Value.ref (adK ((34 : Int) - 1).toNat) = _
  rw [show ((34 : Int) - 1).toNat = 33 from rfl, h]
theorem ok_start (lv : Int → Int) : ∀ q ∈ [((0 : Nat), ((3 : Nat), (34 : Int)))], okv lv q.2 := by
  intro q hq
  have hq := List.mem_singleton.mp hq
  subst hq
  exact Or.inr (Or.inl (by show (1 : Int) ≤ 34 ∧ (34 : Int) ≤ 34; omega))
theorem end_law {D : va_G} {cA : Nat → ClassId} {adK : Nat → Nat} {μf : Mm} {below : List Frame} {b : Nat} {s t : State} (h : MQ below (Qf D cA adK (fun _ => 0) [] ([(0, 1)], μf, 600000, 7302250)) #[Value.ref b] s 600000 7302250 (Aof (fun _ => 0) [] s.heap.size) t) : lw_Z below #[Value.ref b] s t := by
  obtain ⟨o, q1, q2, q3, L1, q4, q5⟩ := h
  have q6 : ∀ q ∈ L1, s.heap.size ≤ q.base := fun q hq => by
    rcases q5 q hq with ⟨x, hx, -⟩ | h
    · cases hx
    · exact h
  refine ⟨o, q1, q2, ?_, q4.1, q4.2.1, q4.2.2.weaken (fun x hx hlt => absurd hlt (Nat.not_lt.mpr (q6 x hx))) (Nat.le_refl _) (Nat.le_refl _)⟩
  obtain ⟨⟨ad, ids, -, ho, -⟩, -⟩ := q3
  rw [ho]; rfl
theorem GM_law {l : Launch} {Ls : Nat} {xs : Nat → Int32} (HT : LawTotal) (hL : Ls ≤ 4608) : ∃ μf c n, c ≤ 600000 ∧ n ≤ 7302250 ∧ GM l (mL_law Ls xs) ([(0, 1)], μf, 600000, 7302250) c n 0 [(0, (3, 34))] [] (fun _ _ => 0) := by
  obtain ⟨μf, c0, n0, hf, hc0, hn0⟩ := HT Ls xs hL
  exact ⟨μf, c0, n0, hc0, hn0, gL_law_0 Ls xs (by omega) l (F := ([(0, 1)], μf, 600000, 7302250)) (k := 0) (n := 0) hf ⟨rfl, rfl⟩⟩
set_option maxRecDepth 20000 in
/-- THE LAW, from its entry, once its shallow function is known to end with 1 -/
theorem whole_start_open (HT : LawTotal) {p : Program} {e : Env} {s : State} {m : MethodId} {below : List Frame} {meth : Method} {c : Code} (l : Launch) {b L : Nat} {xs : Nat → Int32} (hL : L ≤ 4608) (C0 : lw_At p s m meth c b L xs) (hnm : meth.name = "law") : W p l e room_1 s m #[Value.ref b] below meth c s.heap [] 0 0 (lw_Z below #[Value.ref b] s) (entryFrame m ([Value.ref b] : List Value).toArray 4) := by
  obtain ⟨hx, hb, hr, hml, hown, hts, hX, hbl, hlocks, hgv⟩ := id C0
  have hw : ∀ w ∈ Wt, w.before #[Value.ref b] s = true := fun w h => hts w (wt_tbl w h)
  have hA : ∀ a : Nat, a < s.heap.size → ¬ Aof (fun _ => 0) [] s.heap.size a := fun a ha q => by
    rcases q with ⟨x, hx, -⟩ | q
    · cases hx
    · omega
  obtain ⟨D, cA, adK, hadb, hKx⟩ := Kx_known (A := Aof (fun _ => 0) [] s.heap.size) b hts hgv hA
  obtain ⟨μf, c0, n0, hc0, hn0, hG⟩ := GM_law (l := l) (xs := xs) HT hL
  have hl := lv_entry ([.ref b]) (n := 4) (Nat.le_of_ble_eq_true rfl)
  rw [lg_entry_eq]
  generalize (lg_sl ([.ref b]) ++ List.replicate (4 - (lg_sl ([.ref b])).length) Slot.unset).toArray = ls at hl ⊢
  have hcx : Cx p s m #[Value.ref b] meth c D cA adK adK (Aof (fun _ => 0) [] s.heap.size) (mL_law L xs) := ⟨hx, hb, hml, hown, hw, hKx, hr, hlocks, hnm, by rw [hadb]; exact hX, by rw [hadb]; exact hbl, by rw [hadb]; exact hA b hbl⟩
  have hl2 : lv_has ls 4 [(0, cv (fun x => adK (x - 1).toNat) (3, 34))] := by rw [cv_start adK hadb]; exact hl
  have hW := hG p e s m #[Value.ref b] below meth c D cA adK adK (fun _ => 0) [] hcx (fun x => adK (x - 1).toNat) [] s.heap [] 0 0 ls (Rep_start _ _ _ _ _) (fun x hx => by cases hx) (ok_start _) (fun v hv => by cases hv) va_S.rf hl2 (by rw [Nat.zero_add]; exact hc0) (by rw [Nat.zero_add]; exact hn0)
  intro T hT X
  obtain ⟨t, a1, hq⟩ := hW T hT X
  exact ⟨t, a1, end_law hq⟩
