/-! ===== a sketch is kept ===== -/
theorem mcp_i {μ : Mm} {a c n j : Int} (h : 0 ≤ j ∧ j < n) : mcp μ a 0 c 0 n c j = μ a j := by
  unfold mcp; rw [if_pos rfl, if_pos (by omega), show 0 + (j - 0) = j by omega]
section
variable {μ μ' : Mm} {b b' : Int → Int} {c t k vb : Int} {s : Int → Int}
theorem c_take6 (hKt : SkK t) (hKc : SkK c) (hFt : SkF μ t) (hFc : SkF μ c) (hB : SkB μ c) (hd : t + 2 < c ∨ c + 2 < t) : Ev (fX6_take t c μ) (fun μ' => Fw (fun x => t ≤ x ∧ x ≤ t + 2) μ μ' ∧ (∀ i, 0 ≤ i → i ≤ 6 → μ' t i = μ c i) ∧ (∀ i, 0 ≤ i → i < 12 → μ' (t + 1) i = μ (c + 1) i ∧ μ' (t + 2) i = μ (c + 2) i) ∧ SkF μ' t) := by
  obtain ⟨b2, b3, b4⟩ := hB
  obtain ⟨kt, ⟨kt1, nt1⟩, kt2, nt2⟩ := hKt
  obtain ⟨kc, ⟨kc1, nc1⟩, kc2, nc2⟩ := hKc
  obtain ⟨f7, f8⟩ := hFt
  obtain ⟨g7, g8⟩ := hFc
  unfold fX6_take
  simp (disch := omega) only [w32_eq, w64_eq, chk_T, chk_t, lt, lm, ob, Int.add_zero, Int.zero_add, true_and, and_true, if_true, if_false, kt, kc, mst_n, mst_j, g7, g8, f7, f8, kt1, nt1, kt2, nt2, kc1, nc1, kc2, nc2, mcp_n]
  refine Ev_some ⟨?_, fun i i0 i1 => ?_, fun i i0 i1 => ⟨?_, ?_⟩, ?_, ?_⟩
  · intro x hx
    rw [mcp_n (fun e => hx (by omega)), mcp_n (fun e => hx (by omega))]
    have nt : x ≠ t := fun e => hx (by omega)
    simp only [mst_n nt]
  · rw [mcp_n (by omega), mcp_n (by omega)]
    have : i = 0 ∨ i = 1 ∨ i = 2 ∨ i = 3 ∨ i = 4 ∨ i = 5 ∨ i = 6 := by omega
    rcases this with e | e | e | e | e | e | e <;> (subst e; simp (disch := omega) only [mst_s, mst_j])
  · rw [mcp_n (by omega), mcp_i ⟨i0, i1⟩]
    simp (disch := omega) only [mst_n]
  · rw [mcp_i ⟨i0, i1⟩, mcp_n (by omega)]
    simp (disch := omega) only [mst_n]
  · rw [mcp_n (by omega), mcp_n (by omega)]
    simp (disch := omega) only [mst_j]; exact f7
  · rw [mcp_n (by omega), mcp_n (by omega)]
    simp (disch := omega) only [mst_j]; exact f8
/-- the row after sketch k is s -/
def Us (b b' : Int → Int) (k : Int) (s : Int → Int) : Prop := (∀ x, 0 ≤ x → x < 1240 → x ≠ 1 → x < 1110 + 32 * k ∨ 1142 + 32 * k ≤ x → b' x = b x) ∧ b' 1 = (if b 1 ≤ k then k + 1 else b 1) ∧ ∀ i, 0 ≤ i → i < 32 → b' (1110 + 32 * k + i) = s i
theorem Sk_e {s s' : Int → Int} (hO : SkOk s) (h : ∀ i, 0 ≤ i → i < 32 → s' i = s i) (hS : Sk μ c s) : Sk μ c s' := by
  have o := hO.1
  obtain ⟨x, y, z, w⟩ := hS
  unfold Sk
  rw [h 0 (by omega) (by omega), h 1 (by omega) (by omega), h 2 (by omega) (by omega), h 3 (by omega) (by omega), h 4 (by omega) (by omega), h 5 (by omega) (by omega), h 6 (by omega) (by omega)]
  refine ⟨x, y, z, fun i i0 i1 => ?_⟩
  rw [h _ (by omega) (by omega), h _ (by omega) (by omega)]; exact w i i0 i1
theorem SkOk_e {s s' : Int → Int} (hO : SkOk s) (h : ∀ i, 0 ≤ i → i < 32 → s' i = s i) : SkOk s' := by
  have o := hO.1
  obtain ⟨a0, a1, a2, a3, a4, a5, a6⟩ := hO
  unfold SkOk
  rw [h 0 (by omega) (by omega), h 1 (by omega) (by omega), h 2 (by omega) (by omega), h 3 (by omega) (by omega), h 4 (by omega) (by omega), h 5 (by omega) (by omega), h 6 (by omega) (by omega)]
  refine ⟨a0, a1, a2, a3, a4, a5, fun i i0 i1 => ?_⟩
  rw [h _ (by omega) (by omega), h _ (by omega) (by omega)]; exact a6 i i0 i1
theorem Us_ls {n : Int} (hU : Us b b' k s) (hk : 0 ≤ k ∧ k < 4) (hn : 0 ≤ n ∧ n < 4) (hne : n ≠ k) : ls b' n = ls b n := by
  funext i
  unfold ls gl
  split
  · exact hU.1 _ (by omega) (by omega) (by omega) (by omega)
  · rfl
theorem Us_lg {n : Int} (hU : Us b b' k s) (hk : 0 ≤ k ∧ k < 4) (hn : 0 ≤ n ∧ n < 2) : lg b' n = lg b n := by
  funext i
  unfold lg gl
  split
  · exact hU.1 _ (by omega) (by omega) (by omega) (by omega)
  · rfl
theorem Us_k (hU : Us b b' k s) : ∀ i, 0 ≤ i → i < 32 → ls b' k i = s i := fun i i0 i1 => by
  unfold ls; rw [gl_t i0 i1]; exact hU.2.2 i i0 i1
theorem Us_ok (hU : Us b b' k s) (hk : 0 ≤ k ∧ k < 4) (hb : k ≤ b 1) (hO : SkOk s) (hA : AOk b) : AOk b' := by
  obtain ⟨a0, a1, a2, a3, a4, a5, a6⟩ := hA
  have e1 := hU.2.1
  refine ⟨?_, ?_, ?_, fun i i0 i1 => ?_, fun n n0 n1 => ?_, fun n n0 n1 => ?_, ?_⟩
  · rw [hU.1 0 (by omega) (by omega) (by omega) (by omega)]; exact a0
  · rw [e1]; split <;> omega
  · rw [hU.1 2 (by omega) (by omega) (by omega) (by omega)]; exact a2
  · rw [hU.1 _ (by omega) (by omega) (by omega) (by omega)]; exact a3 i i0 i1
  · rw [hU.1 0 (by omega) (by omega) (by omega) (by omega)] at n1
    rw [Us_lg hU hk (by omega)]; exact a4 n n0 n1
  · by_cases e : n = k
    · rw [e]; exact SkOk_e hO (Us_k hU)
    · rw [e1] at n1
      have : n < b 1 := by split at n1 <;> omega
      rw [Us_ls hU hk (by omega) e]; exact a5 n n0 this
  · rw [hU.1 3 (by omega) (by omega) (by omega) (by omega), hU.1 4 (by omega) (by omega) (by omega) (by omega)]; exact a6
theorem c_keepSketch (hW : Nw μ b) (hk : 0 ≤ k ∧ k < 4) (hb : k ≤ b 1) (hS : Sk μ 290 s) (hB : SkB μ 290) (hO : SkOk s) : Ev (fX10_keepSketch 100 k 290 μ) (fun μ' => Fw (fun x => 1000 ≤ x ∧ x < 1100) μ μ' ∧ ∀ b', Us b b' k s → Nw μ' b') := by
  obtain ⟨hX, hKS, hSF, ⟨t1, t2, t3, t4, t5⟩, tt, tl, ts, hA⟩ := hW
  obtain ⟨k1, k2⟩ := hSF.2.2 k hk.1 hk.2
  have hF := hSF.1
  have a1 := hA.2.1
  have kk := hKS.2.2.2.2.2 k hk.1 hk.2
  unfold fX10_keepSketch
  rw [if_neg (by omega), if_pos (by omega)]
  have e7 : μ 1000 7 = 1003 := hF.2.2
  rw [show (1000 : Int) + 3 = 1003 by decide, show (1000 : Int) + 40 + 10 * k = 1040 + 10 * k by omega] at k1
  rw [show (1000 : Int) + 40 + 10 * k = 1040 + 10 * k by omega] at k2 kk
  simp (disch := omega) only [w32_eq, w64_eq, chk_T, chk_t, lt, lm, ob, Int.add_zero, Int.zero_add, true_and, and_true, if_true, if_false, K100, K101, K102, K103, K104, K200, K201, K230, K231, K232, K233, K234, K235, K236, K237, K250, K251, K252, K253, K254, K300, K301, K302, K303, K304, N101, N102, N103, N104, N201, N232, N233, N234, N235, N236, N237, N251, N252, N253, N254, N301, N302, N303, N304, X10F.f0 hX, X10F.f1 hX, X10F.f2 hX, X10F.f3 hX, X10F.f4 hX, X10F.f5 hX, X10F.f6 hX, X10F.f7 hX, X10F.f8 hX, X10F.f9 hX, X10F.f10 hX, K1000, K1003, N1003, e7, k1, kk.1]
  refine Ev_bind (c_take6 kk hS.1 k2.1 hS.2.1 hB (by omega)) (fun μ1 ⟨f1, g1, g2, g3⟩ => ?_)
  have r100 : μ1 100 = μ 100 := f1 100 (by omega)
  have r1000 : μ1 1000 = μ 1000 := f1 1000 (by omega)
  simp (disch := omega) only [w32_eq, w64_eq, chk_T, chk_t, lt, lm, ob, Int.add_zero, Int.zero_add, true_and, and_true, if_true, if_false, K100, K101, K102, K103, K104, K200, K201, K230, K231, K232, K233, K234, K235, K236, K237, K250, K251, K252, K253, K254, K300, K301, K302, K303, K304, N101, N102, N103, N104, N201, N232, N233, N234, N235, N236, N237, N251, N252, N253, N254, N301, N302, N303, N304, r100, X10F.f0 hX, X10F.f1 hX, X10F.f2 hX, X10F.f3 hX, X10F.f4 hX, X10F.f5 hX, X10F.f6 hX, X10F.f7 hX, X10F.f8 hX, X10F.f9 hX, X10F.f10 hX, K1000, r1000, t5]
  have im : imax (b 1) (k + 1) = if b 1 ≤ k then k + 1 else b 1 := by
    unfold imax; split <;> split <;> omega
  rw [im]
  have f2 : Fw (fun x => x = 1000 ∨ 1040 + 10 * k ≤ x ∧ x ≤ 1042 + 10 * k) μ (mst μ1 1000 5 (if b 1 ≤ k then k + 1 else b 1)) := (f1.mo (fun x hx => .inr (by omega))).st (.inl rfl)
  refine Ev_some ⟨f2.mo (fun x hx => by omega), fun b' hU => ⟨?_, hKS, ?_, ?_, fun i i0 i1 => ?_, fun n n0 n1 => ?_, fun n n0 n1 => ?_, Us_ok hU hk hb hO hA⟩⟩
  · unfold X10F; rw [f2 100 (by omega)]; exact hX
  · refine ⟨?_, fun n n0 n1 => ?_, fun n n0 n1 => ?_⟩
    · rw [mst_j (by omega), mst_j (by omega), mst_j (by omega), r1000]; exact hF
    · have o := hSF.2.1 n n0 n1
      rw [f2 (1000 + 2) (by omega), f2 (1000 + 10 + 10 * n + 3) (by omega)]
      unfold LaF at o ⊢
      rw [f2 (1000 + 10 + 10 * n) (by omega)]; exact o
    · have o := hSF.2.2 n n0 n1
      rw [f2 (1000 + 3) (by omega)]
      by_cases e : n = k
      · subst e
        refine ⟨o.1, ?_, ?_⟩
        · unfold SkF at g3 ⊢
          rw [show (1000 : Int) + 40 + 10 * n = 1040 + 10 * n by omega, mst_n (by omega)]; exact g3
        · unfold SkB at hB ⊢
          rw [show (1000 : Int) + 40 + 10 * n = 1040 + 10 * n by omega, mst_n (by omega), g1 2 (by omega) (by omega), g1 3 (by omega) (by omega), g1 4 (by omega) (by omega)]; exact hB
      · unfold SkF SkB at o ⊢
        rw [f2 (1000 + 40 + 10 * n) (by omega)]; exact o
  · rw [mst_j (by omega), mst_j (by omega), mst_j (by omega), mst_j (by omega), mst_s, r1000, hU.2.1, hU.1 2 (by omega) (by omega) (by omega) (by omega), hU.1 3 (by omega) (by omega) (by omega) (by omega), hU.1 4 (by omega) (by omega) (by omega) (by omega), hU.1 0 (by omega) (by omega) (by omega) (by omega)]
    exact ⟨t1, t2, t3, t4, rfl⟩
  · rw [f2 (1000 + 1) (by omega), hU.1 _ (by omega) (by omega) (by omega) (by omega)]; exact tt i i0 i1
  · rw [hU.1 0 (by omega) (by omega) (by omega) (by omega)] at n1
    have a0 := hA.1
    rw [Us_lg hU hk (by omega)]
    exact (tl n n0 n1).fw f2 (fun x a c => by omega)
  · by_cases e : n = k
    · subst e
      refine Sk_e hO (Us_k hU) ?_
      rw [show (1000 : Int) + 40 + 10 * n = 1040 + 10 * n by omega]
      refine ⟨kk, ?_, ?_, fun i i0 i1 => ?_⟩
      · unfold SkF at g3 ⊢; rw [mst_n (by omega)]; exact g3
      · rw [mst_n (by omega), g1 0 (by omega) (by omega), g1 1 (by omega) (by omega), g1 2 (by omega) (by omega), g1 3 (by omega) (by omega), g1 4 (by omega) (by omega), g1 5 (by omega) (by omega), g1 6 (by omega) (by omega)]; exact hS.2.2.1
      · have o := hO.1
        have q := g2 i i0 (by omega)
        rw [mst_n (by omega), mst_n (by omega), q.1, q.2]; exact hS.2.2.2 i i0 i1
    · rw [hU.2.1] at n1
      have : n < b 1 := by split at n1 <;> omega
      rw [Us_ls hU hk (by omega) e]
      exact (ts n n0 this).fw f2 (fun x a c => by omega)
end
