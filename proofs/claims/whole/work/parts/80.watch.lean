/-! ===== guards: watch, posts ===== -/
/-- three words hold a set -/
def Wb (a : Int → Int) (k : Int) (P : Int → Prop) : Prop := (∀ w, 0 ≤ w → w < 3 → R64 (a (k + w))) ∧ ∀ q, 0 ≤ q → q < 192 → (bw (a (k + q / 64)) (q % 64).toNat = true ↔ P q)
theorem Wb.c {a : Int → Int} {k : Int} {P Q : Int → Prop} (h : Wb a k P) (hc : ∀ q, 0 ≤ q → q < 192 → (P q ↔ Q q)) : Wb a k Q := ⟨h.1, fun q x y => (h.2 q x y).trans (hc q x y)⟩
theorem Wb.e {a a' : Int → Int} {k : Int} {P : Int → Prop} (h : Wb a k P) (he : ∀ i, k ≤ i → i < k + 3 → a' i = a i) : Wb a' k P := by
  refine ⟨fun w w0 w1 => ?_, fun q q0 q1 => ?_⟩
  · rw [he _ (by omega) (by omega)]; exact h.1 w w0 w1
  · rw [he _ (by omega) (by omega)]; exact h.2 q q0 q1
theorem Wb.n {a : Int → Int} {k w : Int} {P : Int → Prop} (h : Wb a k P) (w0 : 0 ≤ w) (w1 : w < 3) : lbits (a (k + w)) = ct (fun i => P (64 * w + i)) 64 := by
  rw [lbits_ok]
  refine pc_ct (fun i hi => ?_)
  have := h.2 (64 * w + i) (by omega) (by omega)
  rw [show (64 * w + (i : Int)) / 64 = w by omega, show ((64 * w + (i : Int)) % 64).toNat = i by omega] at this
  exact this
theorem ct_192 {P : Int → Prop} (hn : ∀ q, 144 ≤ q → ¬P q) : ct (fun i => P (64 * 0 + i)) 64 + ct (fun i => P (64 * 1 + i)) 64 + ct (fun i => P (64 * 2 + i)) 64 = ct P 144 := by
  have e1 : ct P 192 = ct P 144 := (ct_flat (c := P) (v := fun k => k) (a := 144) 192 (by omega) (fun i i0 i1 => hn i (by omega))).1
  have e2 : ct P 192 = ct (fun i => P (64 * 0 + i)) 64 + ct (fun i => P (64 * 1 + i)) 64 + ct (fun i => P (64 * 2 + i)) 64 := by
    rw [show 192 = 64 + (64 + 64) by rfl, ct_add P 64 (64 + 64), ct_add _ 64 64, ← Int.add_assoc]
    have a : (fun i => P (64 * 0 + i)) = P := by funext i; rw [show 64 * 0 + i = i by omega]
    have b : (fun i => P (((64 : Nat) : Int) + i)) = fun i => P (64 * 1 + i) := by funext i; rw [show ((64 : Nat) : Int) + i = 64 * 1 + i by omega]
    have d : (fun i => P (((64 : Nat) : Int) + (((64 : Nat) : Int) + i))) = fun i => P (64 * 2 + i) := by funext i; rw [show ((64 : Nat) : Int) + (((64 : Nat) : Int) + i) = 64 * 2 + i by omega]
    rw [a, b, d]
  rw [← e2]; exact e1
section
variable {μ μ' : Mm} {b : Int → Int} {vb q n p d : Int} {g : Int → Int} {P Q : Int → Prop}
theorem c_watch (hK : ScK q) (h7 : μ q 7 = q + 4) (h6 : μ q 6 = q + 3) (hd : 0 ≤ d ∧ d < 3) (hp : 0 ≤ p ∧ p < 144) (hP : Wb (μ (q + 4)) (3 * d) P) (hQ : Wb (μ (q + 3)) (3 * p) Q) (hn : ∀ x, 144 ≤ x → ¬P x) : Ev (fX4_watch q d p μ) (fun r => Fw (fun x => x = q + 4) μ r.2 ∧ r.1 = ct (fun x => P x ∧ ¬Q x) 144 ∧ Wb (r.2 (q + 4)) (3 * d + 3) (fun x => P x ∧ ¬Q x) ∧ ∀ i, i < 3 * d + 3 → r.2 (q + 4) i = μ (q + 4) i) := by
  unfold fX4_watch
  rw [if_neg (by omega), if_neg (by omega), if_neg (by omega), if_pos (by omega)]
  refine Ev_bind (Ev_lop (P := fun r => Fw (fun x => x = q + 4) μ r.2 ∧ r.1 = ct (fun x => P x ∧ ¬Q x) 144 ∧ Wb (r.2 (q + 4)) (3 * d + 3) (fun x => P x ∧ ¬Q x) ∧ ∀ i, i < 3 * d + 3 → r.2 (q + 4) i = μ (q + 4) i) (fun t => (0 ≤ t.2.1 ∧ t.2.1 ≤ 3) ∧ Fw (fun x => x = q + 4) μ t.2.2 ∧ (t.1 = (if 0 < t.2.1 then ct (fun i => (P (64 * 0 + i) ∧ ¬Q (64 * 0 + i))) 64 else 0) + (if 1 < t.2.1 then ct (fun i => (P (64 * 1 + i) ∧ ¬Q (64 * 1 + i))) 64 else 0) + (if 2 < t.2.1 then ct (fun i => (P (64 * 2 + i) ∧ ¬Q (64 * 2 + i))) 64 else 0)) ∧ (∀ w, 0 ≤ w → w < t.2.1 → R64 (t.2.2 (q + 4) (3 * d + 3 + w))) ∧ (∀ x, 0 ≤ x → x < 64 * t.2.1 → (bw (t.2.2 (q + 4) (3 * d + 3 + x / 64)) (x % 64).toNat = true ↔ P x ∧ ¬Q x)) ∧ ∀ i, i < 3 * d + 3 → t.2.2 (q + 4) i = μ (q + 4) i) (fun t => (3 - t.2.1).toNat) ⟨(by first | omega | (dsimp only; omega) | (dsimp only)), Fw.rf, by dsimp only; rw [if_neg (by omega), if_neg (by omega), if_neg (by omega)]; rfl, fun w a b => by dsimp only at b; omega, fun w a b => by dsimp only at b; omega, fun _ _ => rfl⟩ (by unfold FU; dsimp only; omega) ?_) (fun r h => Ev_some h)
  rintro ⟨v3, v4, μ1⟩ ⟨h1, f1, e1, k1, k2, k3⟩
  dsimp only at h1 f1 e1 k1 k2 k3 ⊢
  have hb := fun w : Int => ct_b (fun i => P (64 * w + i) ∧ ¬Q (64 * w + i)) 64
  have hb0 := hb 0; have hb1 := hb 1; have hb2 := hb 2
  unfold sX4_watch_27
  dsimp only
  refine Ev_ite (fun y => Ev_out ⟨f1, ?_, ⟨fun w a b => k1 w a (by omega), fun x a b => k2 x a (by omega)⟩, k3⟩) (fun y => ?_)
  · rw [e1, if_pos (by omega), if_pos (by omega), if_pos (by omega)]
    exact ct_192 (P := fun x => P x ∧ ¬Q x) (fun x hx w => hn x hx w.1)
  · have r0 := f1 q (by omega)
    have r3 := f1 (q + 3) (by omega)
    simp (disch := omega) only [w32_eq, w64_eq, chk_T, chk_t, lt, lm, ob, Int.add_zero, Int.zero_add, true_and, and_true, if_true, if_false, hK.1, r0, h7, h6, hK.2.2.2.1.1, hK.2.2.2.1.2, hK.2.2.2.2.1.1, hK.2.2.2.2.1.2, mst_n, mst_s]
    have ea : w32 (d * 3) = 3 * d := by rw [w32_eq (by omega) (by omega)]; omega
    have eb : w32 (p * 3) = 3 * p := by rw [w32_eq (by omega) (by omega)]; omega
    have ea' : d * 3 = 3 * d := by omega
    have eb' : p * 3 = 3 * p := by omega
    simp only [ea', eb']
    have bit : ∀ i, i < 64 → (bw (land (μ1 (q + 4) (3 * d + v4)) (lxor (μ1 (q + 3) (3 * p + v4)) (-1))) i = true ↔ P (64 * v4 + i) ∧ ¬Q (64 * v4 + i)) := by
      intro i hi
      have a1 := hP.2 (64 * v4 + i) (by omega) (by omega)
      have a2 := hQ.2 (64 * v4 + i) (by omega) (by omega)
      rw [show (64 * v4 + (i : Int)) / 64 = v4 by omega, show ((64 * v4 + (i : Int)) % 64).toNat = i by omega] at a1 a2
      rw [bw_and, bw_not _ hi, k3 _ (by omega), r3]
      simp only [Bool.and_eq_true, Bool.not_eq_true', a1]
      rw [← a2]
      simp
    have cnt : lbits (land (μ1 (q + 4) (3 * d + v4)) (lxor (μ1 (q + 3) (3 * p + v4)) (-1))) = ct (fun i => P (64 * v4 + i) ∧ ¬Q (64 * v4 + i)) 64 := by
      rw [lbits_ok]; exact pc_ct (P := fun x => P x ∧ ¬Q x) bit
    rw [cnt]
    have hbv := hb v4
    have s1 : 0 ≤ v3 ∧ v3 ≤ 192 := by
      rw [e1]; split <;> split <;> split <;> omega
    rw [w32_eq (by omega) (by omega)]
    refine Ev_in ⟨(by first | omega | (dsimp only; omega) | (dsimp only)), f1.st (by omega), ?_, fun w a b => ?_, fun x a b => ?_, fun i hi => ?_⟩ (by first | omega | (dsimp only; omega) | (dsimp only))
    · dsimp only
      have : v4 = 0 ∨ v4 = 1 ∨ v4 = 2 := by omega
      rcases this with z | z | z
      · subst z; rw [e1]; simp
      · subst z; rw [e1]; simp
      · subst z; rw [e1]; simp
    · dsimp only at b ⊢
      by_cases z : w = v4
      · rw [z, show 3 * d + v4 + 3 = 3 * d + 3 + v4 by omega, mst_s]; exact R64_land _ _
      · rw [mst_j (by omega)]; exact k1 w a (by omega)
    · dsimp only at b ⊢
      by_cases z : x / 64 = v4
      · rw [z, show 3 * d + v4 + 3 = 3 * d + 3 + v4 by omega, mst_s, bit _ (by omega)]
        rw [show 64 * v4 + (((x % 64).toNat : Nat) : Int) = x by omega]
      · rw [mst_j (by omega)]; exact k2 x a (by omega)
    · dsimp only
      rw [mst_j (by omega)]; exact k3 i hi
end
