def R_law : String := "HillSketchLaw"
def lw_P (b : Addr) (xs : List Int32) (args : Array Value) (s : State) : Prop := args = #[.ref b] ∧ s.IntsAt b xs ∧ xs.length ≤ 4608 ∧ (Jvm.Cond.and given_1 narrow_1).before args s = true
def lw_Q (_ : Array Value) (s : State) (o : Outcome) (t : State) : Prop := o = .returned (some (.int 1)) ∧ Framed s o t [] 600000 7302250
def lw_Z (below : List Frame) (a : Array Value) (s : State) : State → Prop := fun t => ∃ o, t.status = .running ∧ Ended t below o ∧ lw_Q a s o t
/-- the law's own end, with 1 on the stack, nothing written that was there before, its room as the claim has it -/
theorem lw_ret {p : Program} {l : Launch} {e : Env} {s : State} {m : MethodId} {below : List Frame} {meth : Method} {c : Code} {b : Nat} (hx : p.tables.exec = Jvm.exec) (hb : c.code = code) (hr : meth.sig.returnType = ret) (hlocks : meth.locks = false) {pc : Nat} {H : Heap} {ls : Array Slot} (hdg : decode code pc = .ok (.ireturn, 1)) : W p l e room_1 s m #[Value.ref b] below meth c H [] 600000 7302250 (lw_Z below #[Value.ref b] s) (F0 m pc ls [.int 1]) := by
  intro T hT X
  obtain ⟨fs, hret, hrun, hended, hW, hframe⟩ := X.leave (v := some (.int 1)) (hlocks := hlocks) (fun h => by rw [hr] at h; cases h)
  have hmeth' : T.vm.method? m = some meth := X.method'
  refine ⟨T.setFrames fs, ?_, .returned (some (.int 1)), hrun, hended, rfl, ⟨_, rfl⟩, hW, hframe⟩
  jvm_step X.here [X.here.top, hx, hb, hdg, hmeth', hr, ret, narrow_b1]
  (try refine ⟨rfl, ?_⟩); (try refine ⟨rfl, ?_⟩)
  first | (intro acts; rw [hret _ acts rfl rfl rfl]) | rw [hret _ _ rfl rfl rfl]
  exact Steps.refl _
/-- what holds at the law's entry: the machine, the code, the tables' words (any of lw_tbl by 'hts w (by decide +kernel)'), the script of L ints xs at the cell b, what the Statement gives of the start (any of its parts by flat_of_before) -/
def lw_At (p : Program) (s : State) (m : MethodId) (meth : Method) (c : Code) (b L : Nat) (xs : Nat → Int32) : Prop :=
  p.tables.exec = Jvm.exec ∧ c.code = code ∧ meth.sig.returnType = ret ∧ c.maxLocals = 4 ∧ s.vm.findClass R_law = some m.cls ∧ (∀ w ∈ lw_tbl, w.before #[Value.ref b] s = true) ∧ va_X b L xs s s.heap ∧ b < s.heap.size ∧ meth.locks = false ∧ (Jvm.Cond.and given_1 narrow_1).before #[Value.ref b] s = true
def nrw : List Cond := flatC (Jvm.Cond.and given_1 narrow_1)
def sT (i : Nat) : Term := .string RX3 (sIdx.getD i 0)
theorem nr_ex : ∀ i, i < 16 → Cond.exactly (sT i) "java/lang/String" ∈ nrw := by decide +kernel
theorem nr_co : ∀ i, i < 16 → Cond.eq (.field (sT i) "java/lang/String" "coder" "B") (.int 0) ∈ nrw := by decide +kernel
theorem nr_ar : ∀ i, i < 16 → Cond.arrayOf (.field (sT i) "java/lang/String" "value" "[B") .byte ∈ nrw := by decide +kernel
theorem nr_le : ∀ i, i < 16 → Cond.eq (.length (.field (sT i) "java/lang/String" "value" "[B")) (.int (Int32.ofNat (sLen.getD i 0))) ∈ nrw := by decide +kernel
theorem nr_el : ∀ i, i < 16 → ∀ j, j < sLen.getD i 0 → Cond.eq (.elem (.field (sT i) "java/lang/String" "value" "[B") (.int (Int32.ofNat j))) (.int ((sByt.getD i []).getD j 0)) ∈ nrw := by decide +kernel
theorem nr_ne_0 : ∀ j, j < 16 → 0 ≠ j → (Cond.not (Cond.eq (sT 0) (sT j)) ∈ nrw ∨ Cond.not (Cond.eq (sT j) (sT 0)) ∈ nrw) := by decide +kernel
theorem nr_ne_1 : ∀ j, j < 16 → 1 ≠ j → (Cond.not (Cond.eq (sT 1) (sT j)) ∈ nrw ∨ Cond.not (Cond.eq (sT j) (sT 1)) ∈ nrw) := by decide +kernel
theorem nr_ne_2 : ∀ j, j < 16 → 2 ≠ j → (Cond.not (Cond.eq (sT 2) (sT j)) ∈ nrw ∨ Cond.not (Cond.eq (sT j) (sT 2)) ∈ nrw) := by decide +kernel
theorem nr_ne_3 : ∀ j, j < 16 → 3 ≠ j → (Cond.not (Cond.eq (sT 3) (sT j)) ∈ nrw ∨ Cond.not (Cond.eq (sT j) (sT 3)) ∈ nrw) := by decide +kernel
theorem nr_ne_4 : ∀ j, j < 16 → 4 ≠ j → (Cond.not (Cond.eq (sT 4) (sT j)) ∈ nrw ∨ Cond.not (Cond.eq (sT j) (sT 4)) ∈ nrw) := by decide +kernel
theorem nr_ne_5 : ∀ j, j < 16 → 5 ≠ j → (Cond.not (Cond.eq (sT 5) (sT j)) ∈ nrw ∨ Cond.not (Cond.eq (sT j) (sT 5)) ∈ nrw) := by decide +kernel
theorem nr_ne_6 : ∀ j, j < 16 → 6 ≠ j → (Cond.not (Cond.eq (sT 6) (sT j)) ∈ nrw ∨ Cond.not (Cond.eq (sT j) (sT 6)) ∈ nrw) := by decide +kernel
theorem nr_ne_7 : ∀ j, j < 16 → 7 ≠ j → (Cond.not (Cond.eq (sT 7) (sT j)) ∈ nrw ∨ Cond.not (Cond.eq (sT j) (sT 7)) ∈ nrw) := by decide +kernel
theorem nr_ne_8 : ∀ j, j < 16 → 8 ≠ j → (Cond.not (Cond.eq (sT 8) (sT j)) ∈ nrw ∨ Cond.not (Cond.eq (sT j) (sT 8)) ∈ nrw) := by decide +kernel
theorem nr_ne_9 : ∀ j, j < 16 → 9 ≠ j → (Cond.not (Cond.eq (sT 9) (sT j)) ∈ nrw ∨ Cond.not (Cond.eq (sT j) (sT 9)) ∈ nrw) := by decide +kernel
theorem nr_ne_10 : ∀ j, j < 16 → 10 ≠ j → (Cond.not (Cond.eq (sT 10) (sT j)) ∈ nrw ∨ Cond.not (Cond.eq (sT j) (sT 10)) ∈ nrw) := by decide +kernel
theorem nr_ne_11 : ∀ j, j < 16 → 11 ≠ j → (Cond.not (Cond.eq (sT 11) (sT j)) ∈ nrw ∨ Cond.not (Cond.eq (sT j) (sT 11)) ∈ nrw) := by decide +kernel
theorem nr_ne_12 : ∀ j, j < 16 → 12 ≠ j → (Cond.not (Cond.eq (sT 12) (sT j)) ∈ nrw ∨ Cond.not (Cond.eq (sT j) (sT 12)) ∈ nrw) := by decide +kernel
theorem nr_ne_13 : ∀ j, j < 16 → 13 ≠ j → (Cond.not (Cond.eq (sT 13) (sT j)) ∈ nrw ∨ Cond.not (Cond.eq (sT j) (sT 13)) ∈ nrw) := by decide +kernel
theorem nr_ne_14 : ∀ j, j < 16 → 14 ≠ j → (Cond.not (Cond.eq (sT 14) (sT j)) ∈ nrw ∨ Cond.not (Cond.eq (sT j) (sT 14)) ∈ nrw) := by decide +kernel
theorem nr_ne_15 : ∀ j, j < 16 → 15 ≠ j → (Cond.not (Cond.eq (sT 15) (sT j)) ∈ nrw ∨ Cond.not (Cond.eq (sT j) (sT 15)) ∈ nrw) := by decide +kernel
theorem nr_ne : ∀ i, i < 16 → ∀ j, j < 16 → i ≠ j → (Cond.not (Cond.eq (sT i) (sT j)) ∈ nrw ∨ Cond.not (Cond.eq (sT j) (sT i)) ∈ nrw) := by
  intro i hi
  rcases (show i = 0 ∨ i = 1 ∨ i = 2 ∨ i = 3 ∨ i = 4 ∨ i = 5 ∨ i = 6 ∨ i = 7 ∨ i = 8 ∨ i = 9 ∨ i = 10 ∨ i = 11 ∨ i = 12 ∨ i = 13 ∨ i = 14 ∨ i = 15 by omega) with rfl | rfl | rfl | rfl | rfl | rfl | rfl | rfl | rfl | rfl | rfl | rfl | rfl | rfl | rfl | rfl
  · exact nr_ne_0
  · exact nr_ne_1
  · exact nr_ne_2
  · exact nr_ne_3
  · exact nr_ne_4
  · exact nr_ne_5
  · exact nr_ne_6
  · exact nr_ne_7
  · exact nr_ne_8
  · exact nr_ne_9
  · exact nr_ne_10
  · exact nr_ne_11
  · exact nr_ne_12
  · exact nr_ne_13
  · exact nr_ne_14
  · exact nr_ne_15
theorem nr_cs : Cond.eq (.static "java/lang/String" "COMPACT_STRINGS" "Z") (.int 1) ∈ nrw := by decide +kernel
theorem nr_sf : Cond.isRef (.static "jdk/internal/util/Preconditions" "SIOOBE_FORMATTER" "Ljava/util/function/BiFunction;") ∈ nrw := by decide +kernel
theorem kr_all : ∀ i, i < 16 → Cond.stringRef RX3 (sIdx.getD i 0) (sTx.getD i "") ∈ lw_tbl := by
  intro i hi
  rcases (show i = 0 ∨ i = 1 ∨ i = 2 ∨ i = 3 ∨ i = 4 ∨ i = 5 ∨ i = 6 ∨ i = 7 ∨ i = 8 ∨ i = 9 ∨ i = 10 ∨ i = 11 ∨ i = 12 ∨ i = 13 ∨ i = 14 ∨ i = 15 by omega) with rfl | rfl | rfl | rfl | rfl | rfl | rfl | rfl | rfl | rfl | rfl | rfl | rfl | rfl | rfl | rfl
  · exact kr_99
  · exact kr_114
  · exact kr_119
  · exact kr_123
  · exact kr_127
  · exact kr_131
  · exact kr_137
  · exact kr_157
  · exact kr_204
  · exact kr_162
  · exact kr_166
  · exact kr_168
  · exact kr_174
  · exact kr_176
  · exact kr_180
  · exact kr_184
theorem kh_all : ∀ q ∈ NWs, Cond.methodLinkNest q.1 q.2.1 q.2.2.1 q.2.2.2 ∈ lw_tbl := List.forall_mem_cons.mpr ⟨kh_X8_31, List.forall_mem_cons.mpr ⟨kh_X8_32, List.forall_mem_cons.mpr ⟨kh_X10_22, List.forall_mem_cons.mpr ⟨kh_X3_11, List.forall_mem_cons.mpr ⟨kh_X3_20, List.forall_mem_cons.mpr ⟨kh_X10_29, List.forall_mem_cons.mpr ⟨kh_X10_42, List.forall_mem_cons.mpr ⟨kh_X10_49, List.forall_mem_cons.mpr ⟨kh_X1_11, List.forall_mem_cons.mpr ⟨kh_X1_20, List.forall_mem_cons.mpr ⟨kh_X1_27, List.forall_mem_cons.mpr ⟨kh_X10_56, List.forall_mem_cons.mpr ⟨kh_X10_63, List.forall_mem_cons.mpr ⟨kh_X9_11, List.forall_mem_cons.mpr ⟨kh_X4_17, List.forall_mem_cons.mpr ⟨kh_X9_39, fun _ h => absurd h List.not_mem_nil⟩⟩⟩⟩⟩⟩⟩⟩⟩⟩⟩⟩⟩⟩⟩⟩
theorem ko_all : ∀ C ∈ [RX2, RX4, RX6, RX7, RX8], Cond.arrayOver (.object C) ∈ lw_tbl := List.forall_mem_cons.mpr ⟨ko_X2, List.forall_mem_cons.mpr ⟨ko_X4, List.forall_mem_cons.mpr ⟨ko_X6, List.forall_mem_cons.mpr ⟨ko_X7, List.forall_mem_cons.mpr ⟨ko_X8, fun _ h => absurd h List.not_mem_nil⟩⟩⟩⟩⟩
