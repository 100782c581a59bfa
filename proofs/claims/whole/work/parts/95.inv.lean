/-! ===== what holds between the calls ===== -/
def ImI (μ : Mm) (b : Int → Int) (k : Int) : Prop := (μ 101 k = 0 ∧ μ 20002 k = 0) ∨ (μ 101 k = 1100 + 100 * k ∧ μ 20002 k = 1 ∧ St μ (1100 + 100 * k) (fun i => b (1240 * (k + 1) + i)))
def RdI (μ : Mm) : Prop := (μ 200 0 = 210 ∧ μ 200 1 = 220) ∧ (LaF μ 210 ∧ ∀ k, 0 ≤ k → k < 12 → μ 213 k = 0 ∨ μ 213 k = 1) ∧ SkF μ 220 ∧ SkB μ 220
def LI (μ : Mm) (vb : Int) : Prop := Nw μ (μ 20001) ∧ Ca μ (μ 20001) vb ∧ (∀ k, 0 ≤ k → k < 3 → ImI μ (μ 20001) k) ∧ RdI μ ∧ (Md μ ∧ Dt μ) ∧ 0 ≤ vb
section
variable {μ μ' μ1 μ2 : Mm} {b b' : Int → Int} {c vb vb' n k : Int}
theorem lg_c (h : ∀ x, 0 ≤ x → x < 1240 → b' x = b x) (hn : 0 ≤ n ∧ n < 2) : lg b' n = lg b n := by
  funext i
  unfold lg gl
  split
  · exact h _ (by omega) (by omega)
  · rfl
theorem ls_c (h : ∀ x, 0 ≤ x → x < 1240 → b' x = b x) (hn : 0 ≤ n ∧ n < 4) : ls b' n = ls b n := by
  funext i
  unfold ls gl
  split
  · exact h _ (by omega) (by omega)
  · rfl
theorem AOk_c (h : ∀ x, 0 ≤ x → x < 1240 → b' x = b x) (hA : AOk b) : AOk b' := by
  obtain ⟨a0, a1, a2, a3, a4, a5, a6⟩ := hA
  unfold AOk
  rw [h 0 (by omega) (by omega), h 1 (by omega) (by omega), h 2 (by omega) (by omega), h 3 (by omega) (by omega), h 4 (by omega) (by omega)]
  refine ⟨a0, a1, a2, fun i i0 i1 => ?_, fun n n0 n1 => ?_, fun n n0 n1 => ?_, a6⟩
  · rw [h _ (by omega) (by omega)]; exact a3 i i0 i1
  · rw [lg_c h (by omega)]; exact a4 n n0 n1
  · rw [ls_c h (by omega)]; exact a5 n n0 n1
theorem St_c (h : ∀ x, 0 ≤ x → x < 1240 → b' x = b x) (hS : St μ c b) : St μ c b' := by
  obtain ⟨s1, s2, s3, s4, s5, s6, s7⟩ := hS
  have a0 := s7.1; have a1 := s7.2.1
  refine ⟨s1, s2, ?_, fun i i0 i1 => ?_, fun n n0 n1 => ?_, fun n n0 n1 => ?_, AOk_c h s7⟩
  · rw [h 0 (by omega) (by omega), h 1 (by omega) (by omega), h 2 (by omega) (by omega), h 3 (by omega) (by omega), h 4 (by omega) (by omega)]; exact s3
  · rw [h _ (by omega) (by omega)]; exact s4 i i0 i1
  · rw [h 0 (by omega) (by omega)] at n1
    rw [lg_c h (by omega)]; exact s5 n n0 n1
  · rw [h 1 (by omega) (by omega)] at n1
    rw [ls_c h (by omega)]; exact s6 n n0 n1
theorem Ca_c (h : ∀ n, 0 ≤ n → n < 2 → lg b' n = lg b n) (h0 : b' 0 = b 0) (hC : Ca μ b vb) : Ca μ b' vb := ⟨hC.1, fun n n0 n1 => by rw [h n n0 n1, h0]; exact hC.2 n n0 n1⟩
theorem Ca_v (hv : vb ≤ vb') (hC : Ca μ b vb) : Ca μ b vb' := by
  refine ⟨hC.1, fun n n0 n1 => ?_⟩
  rcases hC.2 n n0 n1 with a | ⟨a, x, y, z, w⟩
  · exact .inl a
  · exact .inr ⟨a, x, ⟨y.1, by omega⟩, z, w⟩
theorem LI.nw (h : LI μ vb) : Nw μ (μ 20001) := h.1
theorem LI.ca (h : LI μ vb) : Ca μ (μ 20001) vb := h.2.1
theorem LI.md (h : LI μ vb) : Md μ := h.2.2.2.2.1.1
theorem LI.dt (h : LI μ vb) : Dt μ := h.2.2.2.2.1.2
theorem LI.ok (h : LI μ vb) : AOk (μ 20001) := h.1.2.2.2.2.2.2.2
theorem LI.v0 (h : LI μ vb) : 0 ≤ vb := h.2.2.2.2.2
theorem ImI.e (h : ImI μ b k) (hk : 0 ≤ k ∧ k < 3) (e1 : μ' 101 = μ 101) (e2 : μ' 20002 = μ 20002) (e4 : ∀ x, 1100 ≤ x → x < 1400 → μ' x = μ x) (e5 : ∀ x, 1240 ≤ x → x < 4960 → b' x = b x) : ImI μ' b' k := by
  unfold ImI
  rw [e1, e2]
  rcases h with ⟨a, d⟩ | ⟨a, d, e⟩
  · exact .inl ⟨a, d⟩
  · refine .inr ⟨a, d, ?_⟩
    have f : Fw (fun x => x < 1100 ∨ 1400 ≤ x) μ μ' := fun x hx => e4 x (by omega) (by omega)
    exact St_c (b := fun i => b (1240 * (k + 1) + i)) (fun x x0 x1 => e5 _ (by omega) (by omega)) (e.fw f (fun x a b => by omega))
/-- a call that keeps the state -/
theorem LI_keep (h : LI μ vb) (f1 : Fw Rq μ μ1) (C1 : Ca μ1 (μ 20001) vb) (f2 : ∀ x, x < 20000 → μ2 x = μ1 x) (e1 : ∀ x, 0 ≤ x → x < 4960 → μ2 20001 x = μ 20001 x) (e2 : μ2 20002 = μ 20002) (M2 : Md μ2) (D2 : Dt μ2) (hv : vb ≤ vb') : LI μ2 vb' := by
  obtain ⟨hN, hC, hI, hR, hM, h0⟩ := h
  have hA := hN.2.2.2.2.2.2.2
  have a0 := hA.1; have a1 := hA.2.1
  have f12 : Fw (fun x => Rq x ∨ 20000 ≤ x) μ μ2 := fun x hx => by
    rw [f2 x (Int.not_le.mp (fun q => hx (.inr q)))]; exact f1 x (fun q => hx (.inl q))
  have ff : Fw (fun x => 20000 ≤ x) μ1 μ2 := fun x hx => f2 x (by omega)
  refine ⟨⟨?_, ?_⟩, ?_, fun k k0 k1 => ?_, ?_, ⟨M2, D2⟩, by omega⟩
  · unfold X10F; rw [f12 100 (by unfold Rq; omega)]; exact hN.1
  · exact St_c (b := μ 20001) (fun x x0 x1 => e1 x x0 (by omega)) (hN.2.fw f12 (fun x a b => by unfold Rq; omega))
  · have C2 : Ca μ2 (μ 20001) vb := by
      refine ⟨C1.1.fw ff (by omega) (by omega) (by omega) (by omega) (by omega) (ff 101 (by omega)) (fun x a b => by rw [ff 0 (by omega)]), fun m m0 m1 => (C1.2 m m0 m1).fw ff (by rw [ff 102 (by omega)]) (fun x a b => by omega) (fun x a b => by rw [ff 0 (by omega)])⟩
    refine Ca_v hv (Ca_c (fun n n0 n1 => lg_c (fun x x0 x1 => e1 x x0 (by omega)) ⟨n0, n1⟩) (e1 0 (by omega) (by omega)) C2)
  · exact (hI k k0 k1).e ⟨k0, k1⟩ (f12 101 (by unfold Rq; omega)) e2 (fun x x0 x1 => f12 x (by unfold Rq; omega)) (fun x x0 x1 => e1 x (by omega) x1)
  · unfold RdI LaF SkF SkB at hR ⊢
    rw [f12 200 (by unfold Rq; omega), f12 210 (by unfold Rq; omega), f12 213 (by unfold Rq; omega), f12 220 (by unfold Rq; omega)]; exact hR
end
