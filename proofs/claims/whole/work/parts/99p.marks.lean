/-! ===== the text of a sketch, side by side ===== -/
def SB (g : Int → Int) : Prop := (0 ≤ g 0 ∧ g 0 ≤ 12) ∧ (0 ≤ g 1 ∧ g 1 ≤ 99) ∧ (g 2 = 0 ∨ g 2 = 1) ∧ (g 3 = 0 ∨ g 3 = 1) ∧ (g 4 = 0 ∨ g 4 = 1) ∧ (0 ≤ g 5 ∧ g 5 ≤ 99) ∧ (0 ≤ g 6 ∧ g 6 ≤ 99) ∧ ∀ i, 0 ≤ i → i < g 0 → (1 ≤ g (7 + i) ∧ g (7 + i) ≤ 99) ∧ (0 ≤ g (19 + i) ∧ g (19 + i) ≤ 5)
def SS (B : Int) (ν ρ : Mm) : Prop := (0 ≤ ν 220 0 ∧ ν 220 0 ≤ 12) ∧ (0 ≤ ρ 20005 0 ∧ ρ 20005 0 ≤ B)
def SR (ν ρ : Mm) : Prop := Sk ν 220 (ρ 20005) ∧ SB (ρ 20005)
def QS (μ0 : Mm) (b t : Int → Int) (n A B : Int) (ν ρ : Mm) : Prop := QT μ0 b t n A True ν ρ ∧ SS B ν ρ ∧ (ν 200 2 = 0 → SR ν ρ)
theorem K220 : KD 220 = 6 := by decide
theorem K221 : KD 221 = 12 := by decide
theorem N221 : LN 221 = 12 := by decide
theorem K222 : KD 222 = 12 := by decide
theorem N222 : LN 222 = 12 := by decide
def mkI (m k : Nat) : Bool := decide ((k = 1 ∨ k = 2 ∨ k = 4) → (0 ≤ ior (m : Int) (k : Int) ∧ ior (m : Int) (k : Int) ≤ 7) ∧ ((iand (ior (m : Int) (k : Int)) 2 = 0 ∨ iand (ior (m : Int) (k : Int)) 4 = 0) ↔ ior (m : Int) (k : Int) ≤ 5) ∧ (m ≤ 5 → (((k : Int) = 2 ∧ iand (m : Int) 4 ≠ 0 ∨ (k : Int) = 4 ∧ iand (m : Int) 2 ≠ 0) ↔ 6 ≤ ior (m : Int) (k : Int))))
def mkO (m : Nat) : Bool := upTo (mkI m) 5
theorem mk_all : upTo mkO 8 = true := by decide +kernel
theorem mk_t {m k : Int} (hm : 0 ≤ m ∧ m ≤ 7) (hk : k = 1 ∨ k = 2 ∨ k = 4) : (0 ≤ ior m k ∧ ior m k ≤ 7) ∧ ((iand (ior m k) 2 = 0 ∨ iand (ior m k) 4 = 0) ↔ ior m k ≤ 5) ∧ (m ≤ 5 → ((k = 2 ∧ iand m 4 ≠ 0 ∨ k = 4 ∧ iand m 2 ≠ 0) ↔ 6 ≤ ior m k)) := by
  have h : mkO m.toNat = true := upTo_e mk_all (show m.toNat < 8 by omega)
  unfold mkO at h
  have h2 : mkI m.toNat k.toNat = true := upTo_e h (show k.toNat < 5 by omega)
  unfold mkI at h2
  have h3 := of_decide_eq_true h2
  have em : (m.toNat : Int) = m := by omega
  have ek : (k.toNat : Int) = k := by omega
  rw [em, ek] at h3
  have h4 := h3 (by omega)
  exact ⟨h4.1, h4.2.1, fun z => h4.2.2 (by omega)⟩
section
variable {μ0 ν ν' ν1 ν2 ρ ρ' ρ1 ρ2 : Mm} {b t g : Int → Int} {n A B A' B' p a q k c v : Int} {s : Prop}
theorem SS_kp (h : SS B ν ρ) (k : Kp ν ν' ρ ρ') : SS B ν' ρ' := by
  unfold SS; rw [k.1.1 220 (by decide), k.2.1.1]; exact h
theorem SR_kp (h : ν 200 2 = 0 → SR ν ρ) (k : Kp ν ν' ρ ρ') : ν' 200 2 = 0 → SR ν' ρ' := fun z => by
  obtain ⟨x, y⟩ := h (k.2.2.1 z)
  refine ⟨?_, by rw [k.2.1.1]; exact y⟩
  rw [k.2.1.1]; exact x.fw k.1.1 (fun x a b => by omega)
theorem QS_kp (h : QS μ0 b t n A B ν ρ) (hq : QT μ0 b t n A' True ν' ρ') (k : Kp ν ν' ρ ρ') : QS μ0 b t n A' B ν' ρ' := ⟨hq, SS_kp h.2.1 k, SR_kp h.2.2 k⟩
theorem QS_B (h : QS μ0 b t n A B ν ρ) (hB : B ≤ B') : QS μ0 b t n A B' ν ρ := ⟨h.1, by have := h.2.1; unfold SS at this ⊢; omega, h.2.2⟩
/-- which mark stands here -/
def mkv (ρ : Mm) : Int := if ρ 20000 8 = 3 ∧ ρ 20000 10 = 6 then 1 else if ρ 20000 8 = 3 ∧ ρ 20000 10 = 7 then 2 else if ρ 20000 8 = 3 ∧ ρ 20000 10 = 8 then 4 else 0
theorem markS (h : QT μ0 b t n A s ν ρ) (hF : ν 200 2 ≠ 1) : fX3_markOf 200 ν = some (mkv ρ) := by
  unfold fX3_markOf mkv
  rw [chk_t K200, isW h hF (c := 6) (by decide), isW h hF (c := 7) (by decide), isW h hF (c := 9) (by decide), show wc 6 = 6 by decide, show wc 7 = 7 by decide, show wc 9 = 8 by decide]
  simp only [ob, bi_if]
  by_cases z1 : ρ 20000 8 = 3 ∧ ρ 20000 10 = 6
  · rw [sel_t z1, if_pos z1]
  · rw [sel_f z1, if_neg z1]
    by_cases z2 : ρ 20000 8 = 3 ∧ ρ 20000 10 = 7
    · rw [sel_t z2, if_pos z2]
    · rw [sel_f z2, if_neg z2]
      by_cases z3 : ρ 20000 8 = 3 ∧ ρ 20000 10 = 8
      · rw [sel_t z3, if_pos z3]
      · rw [sel_f z3, if_neg z3]
theorem markW (h : QT μ0 b t n A s ν ρ) : Ev (fX3_markOf 200 ν) (fun _ => True) := by
  have bd := h.bd
  unfold fX3_markOf
  rw [chk_t K200, c_isWord h.ct rfl rfl bd.1.2.2 (by omega) (c := 6) (by decide), c_isWord h.ct rfl rfl bd.1.2.2 (by omega) (c := 7) (by decide), c_isWord h.ct rfl rfl bd.1.2.2 (by omega) (c := 9) (by decide)]
  simp only [ob]
  refine Ev_ite (fun _ => Ev_ite (fun _ => Ev_ite (fun _ => Ev_some trivial) (fun _ => Ev_some trivial)) (fun _ => Ev_some trivial)) (fun _ => Ev_some trivial)
/-- marks behind a break -/
theorem marks1 (h : QT μ0 b t n A True ν ρ) (hF : ν 200 2 = 1) : Ev (fX3_readMarks 200 ν) (fun x => QT μ0 b t n A True x.2 ρ ∧ Kp ν x.2 ρ ρ) := by
  unfold fX3_readMarks
  rw [chk_t K200]
  refine Ev_bind (markW h) (fun r11 _ => ?_)
  refine Ev_bind (Ev_lop (P := fun x : Int × Mm => QT μ0 b t n A True x.2 ρ ∧ Kp ν x.2 ρ ρ) (fun x : Int × Int × Int × Mm => (0 ≤ x.2.2.1 ∧ x.2.2.1 ≤ 700) ∧ QT μ0 b t n A True x.2.2.2 ρ ∧ Kp ν x.2.2.2 ρ ρ) (fun x => (701 - x.2.2.1).toNat) ⟨by dsimp only; omega, h, Kp.rf⟩ (by unfold FU; dsimp only; omega) ?_) (fun x hx => Ev_some hx)
  rintro ⟨v1, v2, v3, ν1⟩ ⟨q1, q2, q3⟩
  dsimp only at q1 q2 q3 ⊢
  unfold sX3_readMarks_9
  dsimp only
  refine Ev_ite (fun w => Ev_out ⟨q2, q3⟩) (fun w => ?_)
  refine Ev_ite (fun w2 => Ev_out ⟨q2, q3⟩) (fun w2 => ?_)
  have hF1 := q3.2.2.2 hF
  have go : ∀ m, Ev (jX3_readMarks_45 200 m v3 ν1) (Nx (fun x : Int × Int × Int × Mm => (0 ≤ x.2.2.1 ∧ x.2.2.1 ≤ 700) ∧ QT μ0 b t n A True x.2.2.2 ρ ∧ Kp ν x.2.2.2 ρ ρ) (fun x => (701 - x.2.2.1).toNat) (fun x : Int × Mm => QT μ0 b t n A True x.2 ρ ∧ Kp ν x.2 ρ ρ) (701 - v3).toNat) := by
    intro m
    unfold jX3_readMarks_45
    rw [chk_t K200]
    refine Ev_bind (adv1 q2 hF1) (fun ν2 ⟨u1, u2⟩ => ?_)
    refine Ev_bind (markW u1) (fun r3 _ => ?_)
    simp (disch := omega) only [w32_eq, w64_eq, chk_T, chk_t, lt, lm, ob, Int.add_zero, Int.zero_add, true_and, and_true, if_true, if_false, ]
    exact Ev_in ⟨by dsimp only; omega, u1, q3.tr u2⟩ (by dsimp only; omega)
  refine Ev_ite (fun _ => go _) (fun _ => Ev_ite (fun _ => go _) (fun _ => ?_))
  rw [chk_t K200, note1 hF1]
  simp only [ob]
  exact go _
/-- marks -/
theorem marks2 (h : QT μ0 b t n A True ν ρ) (hF : ν 200 2 ≠ 1) (r16 : Int) : E2 (fX3_readMarks 200 ν) (lop (sX11_hump0_27 20000 r16) FU (0, ρ)) (fun x y => QT μ0 b t n A True x.2 y.2 ∧ Kp ν x.2 ρ y.2 ∧ (x.2 200 2 = 0 → x.1 = y.1 ∧ 0 ≤ x.1 ∧ x.1 ≤ 5)) := by
  have A0 := h.2.2.1
  unfold fX3_readMarks
  rw [chk_t K200, markS h hF]
  simp only [ob]
  have key : E2 (lop (sX3_readMarks_9 200) FU (0, mkv ρ, 0, ν)) (lop (sX11_hump0_27 20000 r16) FU (0, ρ)) (fun x y => QT μ0 b t n A True x.2 y.2 ∧ Kp ν x.2 ρ y.2 ∧ (x.2 200 2 = 0 → x.1 = y.1 ∧ 0 ≤ x.1 ∧ x.1 ≤ 5)) := by
    refine E2_lop (fun (x : Int × Int × Int × Mm) (y : Int × Mm) => (x.1 = y.1 ∧ 0 ≤ x.1 ∧ x.1 ≤ 7) ∧ x.2.1 = mkv y.2 ∧ (0 ≤ x.2.2.1 ∧ QT μ0 b t n (A + x.2.2.1) True x.2.2.2 y.2) ∧ Kp ν x.2.2.2 ρ y.2 ∧ x.2.2.2 200 2 ≠ 1 ∧ (x.2.2.2 200 2 = 0 → x.1 ≤ 5)) (fun x _ => (1000 - x.2.2.1).toNat) ⟨by dsimp only; omega, rfl, ⟨Int.le_refl _, by dsimp only; rw [Int.add_zero]; exact h⟩, Kp.rf, hF, fun _ => by dsimp only; omega⟩ (by unfold FU; dsimp only; omega) ?_
    rintro ⟨m, mk, v3, ν1⟩ ⟨m', ρ1⟩ ⟨⟨q1, q2, q3⟩, q4, ⟨q5, q6⟩, q7, q8, q9⟩
    dsimp only at q1 q2 q3 q4 q5 q6 q7 q8 q9 ⊢
    subst q1
    subst q4
    have bd := q6.bd
    have A1 := q6.2.2.1
    have w0 := q6.w0 q8
    have r7 := (q6.tr q8).2.1
    unfold sX3_readMarks_9 sX11_hump0_27
    dsimp only
    rw [chk_t K20000, w0, if_pos rfl]
    have out : E2 (some (Sum.inr (m, ν1) : (Int × Int × Int × Mm) ⊕ (Int × Mm))) (some (Sum.inr (m, ρ1) : (Int × Mm) ⊕ (Int × Mm))) (N2 (fun (x : Int × Int × Int × Mm) (y : Int × Mm) => (x.1 = y.1 ∧ 0 ≤ x.1 ∧ x.1 ≤ 7) ∧ x.2.1 = mkv y.2 ∧ (0 ≤ x.2.2.1 ∧ QT μ0 b t n (A + x.2.2.1) True x.2.2.2 y.2) ∧ Kp ν x.2.2.2 ρ y.2 ∧ x.2.2.2 200 2 ≠ 1 ∧ (x.2.2.2 200 2 = 0 → x.1 ≤ 5)) (fun x _ => (1000 - x.2.2.1).toNat) (fun x y => QT μ0 b t n A True x.2 y.2 ∧ Kp ν x.2 ρ y.2 ∧ (x.2 200 2 = 0 → x.1 = y.1 ∧ 0 ≤ x.1 ∧ x.1 ≤ 5)) (1000 - v3).toNat) := E2_some ⟨QT_A q6 A0.1 (by dsimp only; omega), q7, fun z => ⟨rfl, q2, q9 z⟩⟩
    -- a mark k
    have mark : ∀ k, (k = 1 ∨ k = 2 ∨ k = 4) → ν1 200 7 = 1 → E2 (if iand (ior m k) 2 = 0 then jX3_readMarks_45 200 (ior m k) v3 ν1 else if iand (ior m k) 4 = 0 then jX3_readMarks_45 200 (ior m k) v3 ν1 else chk (KD 200 = 3) ((fX3_note 200 2 (ν1 200 8) ν1).bind fun μ9 => jX3_readMarks_45 200 (ior m k) v3 μ9)) (jX11_hump0_83 20000 r16 m k ρ1) (N2 (fun (x : Int × Int × Int × Mm) (y : Int × Mm) => (x.1 = y.1 ∧ 0 ≤ x.1 ∧ x.1 ≤ 7) ∧ x.2.1 = mkv y.2 ∧ (0 ≤ x.2.2.1 ∧ QT μ0 b t n (A + x.2.2.1) True x.2.2.2 y.2) ∧ Kp ν x.2.2.2 ρ y.2 ∧ x.2.2.2 200 2 ≠ 1 ∧ (x.2.2.2 200 2 = 0 → x.1 ≤ 5)) (fun x _ => (1000 - x.2.2.1).toNat) (fun x y => QT μ0 b t n A True x.2 y.2 ∧ Kp ν x.2 ρ y.2 ∧ (x.2 200 2 = 0 → x.1 = y.1 ∧ 0 ≤ x.1 ∧ x.1 ≤ 5)) (1000 - v3).toNat) := by
      intro k hk k1
      obtain ⟨t1, t2, t3⟩ := mk_t ⟨q2, q3⟩ hk
      have go : ∀ (s : Prop) (ν2 ρ2 : Mm), QT μ0 b t n (A + v3) s ν2 ρ2 → Kp ν1 ν2 ρ1 ρ2 → ν2 200 2 ≠ 1 → ν2 200 7 = 1 → (ν2 200 2 = 0 → ior m k ≤ 5) → E2 (jX3_readMarks_45 200 (ior m k) v3 ν2) (jX11_hump0_118 20000 r16 m k ρ2) (N2 (fun (x : Int × Int × Int × Mm) (y : Int × Mm) => (x.1 = y.1 ∧ 0 ≤ x.1 ∧ x.1 ≤ 7) ∧ x.2.1 = mkv y.2 ∧ (0 ≤ x.2.2.1 ∧ QT μ0 b t n (A + x.2.2.1) True x.2.2.2 y.2) ∧ Kp ν x.2.2.2 ρ y.2 ∧ x.2.2.2 200 2 ≠ 1 ∧ (x.2.2.2 200 2 = 0 → x.1 ≤ 5)) (fun x _ => (1000 - x.2.2.1).toNat) (fun x y => QT μ0 b t n A True x.2 y.2 ∧ Kp ν x.2 ρ y.2 ∧ (x.2 200 2 = 0 → x.1 = y.1 ∧ 0 ≤ x.1 ∧ x.1 ≤ 5)) (1000 - v3).toNat) := by
        intro s ν2 ρ2 y1 y2 y3 y4 y5
        unfold jX3_readMarks_45 jX11_hump0_118
        rw [chk_t K200, chk_t K20000]
        refine E2_bind (adv2 y1 y3 (by omega)) ?_
        rintro ν3 ρ3 ⟨u1, u2, u3⟩
        have hF3 : ν3 200 2 ≠ 1 := by rw [u3]; exact y3
        rw [markS u1 hF3]
        simp only [ob]
        simp (disch := omega) only [w32_eq, w64_eq, chk_T, chk_t, lt, lm, ob, Int.add_zero, Int.zero_add, true_and, and_true, if_true, if_false, ]
        refine E2_some ⟨⟨⟨rfl, t1⟩, rfl, ⟨by dsimp only; omega, by dsimp only; rw [← Int.add_assoc]; exact u1⟩, (q7.tr y2).tr u2, hF3, fun z => y5 (u3.symm.trans z)⟩, by dsimp only; omega⟩
      have c83 : jX11_hump0_83 20000 r16 m k ρ1 = if (k = 2 ∧ iand m 4 ≠ 0 ∨ k = 4 ∧ iand m 2 ≠ 0) then (fX11_also 20000 2 (ν1 200 8) ρ1).bind (fun μ4 => jX11_hump0_118 20000 r16 m k μ4) else jX11_hump0_118 20000 r16 m k ρ1 := by
        unfold jX11_hump0_83 jX11_hump0_97 jX11_hump0_109
        rw [chk_t K20000, r7]
        rcases hk with e | e | e
        · subst e; rw [if_neg (by decide), if_neg (by decide), if_neg (by omega)]
        · subst e
          rw [if_pos rfl]
          by_cases z : iand m 4 = 0
          · rw [if_pos z, if_neg (by decide), if_neg (by omega)]
          · rw [if_neg z, if_pos (.inl ⟨rfl, z⟩)]
        · subst e
          rw [if_neg (by decide), if_pos rfl]
          by_cases z : iand m 2 = 0
          · rw [if_pos z, if_neg (by omega)]
          · rw [if_neg z, if_pos (.inr ⟨rfl, z⟩)]
      rw [c83, chk_t K200]
      by_cases z : ν1 200 2 = 0
      · have m5 := q9 z
        have t4 := t3 m5
        by_cases y : ior m k ≤ 5
        · rw [if_neg (show ¬(k = 2 ∧ iand m 4 ≠ 0 ∨ k = 4 ∧ iand m 2 ≠ 0) from fun u => by have := t4.mp u; omega)]
          have g := go True ν1 ρ1 q6 Kp.rf q8 k1 (fun _ => y)
          rcases t2.mpr y with u | u
          · rw [if_pos u]; exact g
          · by_cases u2 : iand (ior m k) 2 = 0
            · rw [if_pos u2]; exact g
            · rw [if_neg u2, if_pos u]; exact g
        · rw [if_pos (t4.mpr (by omega)), if_neg (show ¬(iand (ior m k) 2 = 0) from fun u => y (t2.mp (.inl u))), if_neg (show ¬(iand (ior m k) 4 = 0) from fun u => y (t2.mp (.inr u)))]
          refine E2_bind (note2 q6 q8 (by decide)) ?_
          rintro ν2 ρ2 ⟨u1, u2, u3, u4, u5⟩
          exact go False ν2 ρ2 u1 u2 u3 (u5.trans k1) (fun w => absurd w u4)
      · have en : fX3_note 200 2 (ν1 200 8) ν1 = some ν1 := by rw [c_note, if_neg z]
        have eal : fX11_also 20000 2 (ν1 200 8) ρ1 = some ρ1 := by
          have e := q6.2.2.2.2.1
          have z' : ρ1 20001 3 ≠ 0 := fun y => z (e.1.symm.trans y)
          rw [r_also q6.md w0 2 (ν1 200 8) (fun _ => by rw [e.2.1]; exact ((q6.2.2.2.2.2.2 q8).2 z).2 trivial), if_neg z']
        rw [en, eal]
        simp only [ob, ite_self]
        exact go True ν1 ρ1 q6 Kp.rf q8 k1 (fun w => absurd w z)
    by_cases h8 : ρ1 20000 8 = 3
    · obtain ⟨k1, cc, c1, c2⟩ := tk_k1 q6 q8 h8
      have lt7 : v3 < 700 := by have := bd.2.1 (by omega); omega
      rw [if_neg (by omega), if_pos h8]
      by_cases e6 : ρ1 20000 10 = 6
      · have em : mkv ρ1 = 1 := by unfold mkv; rw [if_pos ⟨h8, e6⟩]
        rw [em, isIn_t (by omega) (by omega), if_neg (show ¬((1 : Int) = 0) by decide), if_neg (show ¬((1 : Int) = 0) by decide), if_pos e6]
        exact mark 1 (.inl rfl) k1
      · by_cases e7 : ρ1 20000 10 = 7
        · have em : mkv ρ1 = 2 := by unfold mkv; rw [if_neg (fun u => e6 u.2), if_pos ⟨h8, e7⟩]
          rw [em, isIn_t (by omega) (by omega), if_neg (show ¬((2 : Int) = 0) by decide), if_neg (show ¬((1 : Int) = 0) by decide), if_neg e6, if_pos e7]
          exact mark 2 (.inr (.inl rfl)) k1
        · by_cases e8 : ρ1 20000 10 = 8
          · have em : mkv ρ1 = 4 := by unfold mkv; rw [if_neg (fun u => e6 u.2), if_neg (fun u => e7 u.2), if_pos ⟨h8, e8⟩]
            rw [em, isIn_t (by omega) (by omega), if_neg (show ¬((4 : Int) = 0) by decide), if_neg (show ¬((1 : Int) = 0) by decide), if_neg e6, if_neg e7]
            exact mark 4 (.inr (.inr rfl)) k1
          · have em : mkv ρ1 = 0 := by unfold mkv; rw [if_neg (fun u => e6 u.2), if_neg (fun u => e7 u.2), if_neg (fun u => e8 u.2)]
            rw [em, isIn_f (by omega), if_pos rfl, if_pos rfl]
            exact out
    · have em : mkv ρ1 = 0 := by unfold mkv; rw [if_neg (fun u => h8 u.1), if_neg (fun u => h8 u.1), if_neg (fun u => h8 u.1)]
      rw [em, if_neg h8, if_pos rfl]
      split <;> exact out
  obtain ⟨x, y, e1, e2, hk⟩ := key
  rw [e1, e2]
  simp only [ob]
  exact E2_some hk
end
