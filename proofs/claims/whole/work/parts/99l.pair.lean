/-! ===== two programs side by side ===== -/
def E2 {α β : Type} (x : Option α) (y : Option β) (P : α → β → Prop) : Prop := ∃ a b, x = some a ∧ y = some b ∧ P a b
theorem E2_some {α β : Type} {a : α} {b : β} {P : α → β → Prop} (h : P a b) : E2 (some a) (some b) P := ⟨a, b, rfl, rfl, h⟩
theorem E2_bind {α β γ δ : Type} {x : Option α} {y : Option β} {f : α → Option γ} {g : β → Option δ} {Q : α → β → Prop} {P : γ → δ → Prop} (h : E2 x y Q) (k : ∀ a b, Q a b → E2 (f a) (g b) P) : E2 (x.bind f) (y.bind g) P := by
  obtain ⟨a, b, e1, e2, hq⟩ := h; rw [e1, e2]; exact k a b hq
theorem E2_l {α β γ : Type} {x : Option α} {y : Option β} {f : α → Option γ} {Q : α → Prop} {P : γ → β → Prop} (h : Ev x Q) (k : ∀ a, Q a → E2 (f a) y P) : E2 (x.bind f) y P := by
  obtain ⟨a, e1, hq⟩ := h; rw [e1]; exact k a hq
theorem E2_r {α β γ : Type} {x : Option α} {y : Option β} {f : β → Option γ} {Q : β → Prop} {P : α → γ → Prop} (h : Ev y Q) (k : ∀ a, Q a → E2 x (f a) P) : E2 x (y.bind f) P := by
  obtain ⟨a, e1, hq⟩ := h; rw [e1]; exact k a hq
theorem E2_of {α β : Type} {x : Option α} {y : Option β} {Q1 : α → Prop} {Q2 : β → Prop} {P : α → β → Prop} (h1 : Ev x Q1) (h2 : Ev y Q2) (k : ∀ a b, Q1 a → Q2 b → P a b) : E2 x y P := by
  obtain ⟨a, e1, q1⟩ := h1; obtain ⟨b, e2, q2⟩ := h2; exact ⟨a, b, e1, e2, k a b q1 q2⟩
theorem E2_mono {α β : Type} {x : Option α} {y : Option β} {P Q : α → β → Prop} (h : E2 x y P) (k : ∀ a b, P a b → Q a b) : E2 x y Q := by
  obtain ⟨a, b, e1, e2, hp⟩ := h; exact ⟨a, b, e1, e2, k a b hp⟩
def N2 {σ ρ σ' ρ' : Type} (I : σ → σ' → Prop) (m : σ → σ' → Nat) (P : ρ → ρ' → Prop) (k : Nat) : σ ⊕ ρ → σ' ⊕ ρ' → Prop
  | .inl s, .inl s' => I s s' ∧ m s s' < k
  | .inr r, .inr r' => P r r'
  | _, _ => False
theorem E2_lopG {σ ρ σ' ρ' : Type} {st : σ → Option (σ ⊕ ρ)} {st' : σ' → Option (σ' ⊕ ρ')} {P : ρ → ρ' → Prop} (I : σ → σ' → Prop) (m : σ → σ' → Nat) (hs : ∀ s s', I s s' → E2 (st s) (st' s') (N2 I m P (m s s'))) : ∀ (f f' : Nat) (s : σ) (s' : σ'), I s s' → m s s' < f → m s s' < f' → E2 (lop st f s) (lop st' f' s') P := by
  intro f
  induction f with
  | zero => intro f' s s' _ h; exact absurd h (Nat.not_lt_zero _)
  | succ f ih =>
    intro f' s s' h h2 h3
    cases f' with
    | zero => exact absurd h3 (Nat.not_lt_zero _)
    | succ f' =>
      unfold lop
      obtain ⟨u, w, e1, e2, hu⟩ := hs s s' h
      rw [e1, e2]
      cases u with
      | inr r =>
        cases w with
        | inr r' => exact ⟨r, r', rfl, rfl, hu⟩
        | inl z => exact absurd hu (fun q => q)
      | inl z =>
        cases w with
        | inr r' => exact absurd hu (fun q => q)
        | inl z' =>
          have h3 : I z z' ∧ m z z' < m s s' := hu
          exact ih f' z z' h3.1 (by omega) (by omega)
theorem E2_lop {σ ρ σ' ρ' : Type} {st : σ → Option (σ ⊕ ρ)} {st' : σ' → Option (σ' ⊕ ρ')} {s : σ} {s' : σ'} {P : ρ → ρ' → Prop} (I : σ → σ' → Prop) (m : σ → σ' → Nat) (hI : I s s') (hm : m s s' < FU) (hs : ∀ s s', I s s' → E2 (st s) (st' s') (N2 I m P (m s s'))) : E2 (lop st FU s) (lop st' FU s') P := by
  exact E2_lopG I m hs FU FU s s' hI hm hm
/-! ===== the class and the reference read one tape ===== -/
def rdR (x : Int) : Prop := x = 200 ∨ 210 ≤ x ∧ x ≤ 215 ∨ 220 ≤ x ∧ x ≤ 222
def QT (μ0 : Mm) (b t : Int → Int) (n A : Int) (s : Prop) (ν ρ : Mm) : Prop :=
  (Fw rdR μ0 ν ∧ RdI ν ∧ CT ν t n) ∧ (RT ρ t n ∧ ∀ x, x ≠ 3 → x ≠ 4 → ρ 20001 x = b x) ∧ (0 ≤ A ∧ A ≤ ν 200 8) ∧ (∃ p0, 0 ≤ p0 ∧ TK t n p0 (ν 200 8) (ν 200 6) (ν 200 7)) ∧ (ρ 20001 3 = ν 200 2 ∧ ρ 20001 4 = ν 200 3 ∧ ρ 20000 11 = (if ν 200 2 = 1 then 1 else 0)) ∧ (0 ≤ ν 200 2 ∧ ν 200 2 ≤ 4 ∧ -1 ≤ ν 200 3 ∧ ν 200 3 ≤ 700 ∧ (ν 200 2 = 0 → ν 200 3 = -1)) ∧ (ν 200 2 ≠ 1 → (ρ 20000 6 = ν 200 6 ∧ ρ 20000 7 = ν 200 8 ∧ TR t (ν 200 8) (ν 200 6) (ν 200 7) ρ) ∧ (ν 200 2 ≠ 0 → ν 200 3 ≤ ν 200 8 ∧ (s → ν 200 3 < ν 200 8)))
/-- what the tokens' own calls keep -/
def Kp (ν ν' ρ ρ' : Mm) : Prop := (Fw (fun x => x = 200) ν ν' ∧ ν' 200 9 = ν 200 9) ∧ (ρ' 20005 = ρ 20005 ∧ ρ' 20000 12 = ρ 20000 12) ∧ (ν' 200 2 = 0 → ν 200 2 = 0) ∧ (ν 200 2 = 1 → ν' 200 2 = 1)
section
variable {μ0 ν ν' ν1 ρ ρ' ρ1 : Mm} {b t : Int → Int} {n A A' p a q k c v : Int} {s : Prop}
theorem Kp.rf : Kp ν ν ρ ρ := ⟨⟨Fw.rf, rfl⟩, ⟨rfl, rfl⟩, fun h => h, fun h => h⟩
theorem Kp.tr (h : Kp ν ν1 ρ ρ1) (k : Kp ν1 ν' ρ1 ρ') : Kp ν ν' ρ ρ' := ⟨⟨h.1.1.tr k.1.1, k.1.2.trans h.1.2⟩, ⟨k.2.1.1.trans h.2.1.1, k.2.1.2.trans h.2.1.2⟩, fun z => h.2.2.1 (k.2.2.1 z), fun z => k.2.2.2 (h.2.2.2 z)⟩
theorem QT.ct (h : QT μ0 b t n A s ν ρ) : CT ν t n := h.1.2.2
theorem QT.rd (h : QT μ0 b t n A s ν ρ) : RdI ν := h.1.2.1
theorem QT.rt (h : QT μ0 b t n A s ν ρ) : RT ρ t n := h.2.1.1
theorem QT.md (h : QT μ0 b t n A s ν ρ) : Md ρ := h.2.1.1.1
theorem QT.tk (h : QT μ0 b t n A s ν ρ) : ∃ p0, 0 ≤ p0 ∧ TK t n p0 (ν 200 8) (ν 200 6) (ν 200 7) := h.2.2.2.1
theorem QT.bd (h : QT μ0 b t n A s ν ρ) : (0 ≤ ν 200 8 ∧ ν 200 8 ≤ ν 200 6 ∧ ν 200 6 ≤ n) ∧ (ν 200 7 ≠ 0 → ν 200 8 < ν 200 6) ∧ (0 ≤ n ∧ n ≤ 700) := by
  obtain ⟨p0, h0, hk⟩ := h.tk
  have := TK_b hk; have := h.ct.2.2.1
  omega
theorem QT.w1 (h : QT μ0 b t n A s ν ρ) (hF : ν 200 2 = 1) : ρ 20000 11 = 1 := by have := h.2.2.2.2.1.2.2; rw [if_pos hF] at this; exact this
theorem QT.w0 (h : QT μ0 b t n A s ν ρ) (hF : ν 200 2 ≠ 1) : ρ 20000 11 = 0 := by have := h.2.2.2.2.1.2.2; rw [if_neg hF] at this; exact this
theorem QT.tr (h : QT μ0 b t n A s ν ρ) (hF : ν 200 2 ≠ 1) : ρ 20000 6 = ν 200 6 ∧ ρ 20000 7 = ν 200 8 ∧ TR t (ν 200 8) (ν 200 6) (ν 200 7) ρ := (h.2.2.2.2.2.2 hF).1
theorem QT_A (h : QT μ0 b t n A s ν ρ) (h0 : 0 ≤ A') (h1 : A' ≤ ν 200 8) : QT μ0 b t n A' s ν ρ := by
  obtain ⟨x1, x2, x3, x4⟩ := h; exact ⟨x1, x2, ⟨h0, h1⟩, x4⟩
theorem QT_F {s' : Prop} (h : QT μ0 b t n A s ν ρ) (hs : s' → s) : QT μ0 b t n A s' ν ρ := by
  obtain ⟨x1, x2, x3, x4, x5, x6, x7⟩ := h
  exact ⟨x1, x2, x3, x4, x5, x6, fun z => ⟨(x7 z).1, fun y => ⟨((x7 z).2 y).1, fun w => ((x7 z).2 y).2 (hs w)⟩⟩⟩
theorem RdI.r2 (h : RdI ν) (f : Fw (fun x => x = 200) ν ν') (h0 : ν' 200 0 = ν 200 0) (h1 : ν' 200 1 = ν 200 1) : RdI ν' := by
  unfold RdI LaF SkF SkB at h ⊢
  rw [h0, h1, f 210 (by decide), f 213 (by decide), f 220 (by decide)]; exact h
/-- the class goes on, the reference has stopped -/
theorem adv1 (h : QT μ0 b t n A s ν ρ) (hF : ν 200 2 = 1) : Ev (fX3_advance 200 ν) (fun ν' => QT μ0 b t n A True ν' ρ ∧ Kp ν ν' ρ ρ) := by
  obtain ⟨p0, hp0, hk⟩ := h.tk
  have tb := TK_b hk
  have w1 := h.w1 hF
  obtain ⟨⟨x1, x2, x3⟩, x4, ⟨x5, x6⟩, x7, ⟨x8, x9, x10⟩, x11, x12⟩ := h
  refine Ev_mono (c_advance x3 (p := ν 200 6) rfl (by omega)) ?_
  rintro ν' ⟨f, o, T⟩
  have tb' := TK_b T
  have e2 := o 2 (by decide) (by decide) (by decide)
  have e3 := o 3 (by decide) (by decide) (by decide)
  refine ⟨⟨⟨x1.tr (f.mo (fun x hx => .inl hx)), x2.r2 f (o 0 (by decide) (by decide) (by decide)) (o 1 (by decide) (by decide) (by decide)), x3.e f (o 4 (by decide) (by decide) (by decide)) (o 5 (by decide) (by decide) (by decide))⟩, x4, ⟨x5, by omega⟩, ⟨ν 200 6, by omega, T⟩, ⟨x8.trans e2.symm, x9.trans e3.symm, by rw [e2, if_pos hF]; exact w1⟩, by rw [e2, e3]; exact x11, fun z => absurd (e2.trans hF) z⟩, ⟨f, o 9 (by decide) (by decide) (by decide)⟩, ⟨rfl, rfl⟩, fun z => e2.symm.trans z, fun z => e2.trans z⟩
/-- both go on -/
theorem adv2 (h : QT μ0 b t n A s ν ρ) (hF : ν 200 2 ≠ 1) (h7 : ν 200 7 ≠ 0) : E2 (fX3_advance 200 ν) (fX11_advance 20000 ρ) (fun ν' ρ' => QT μ0 b t n (A + 1) True ν' ρ' ∧ Kp ν ν' ρ ρ' ∧ ν' 200 2 = ν 200 2) := by
  obtain ⟨p0, hp0, hk⟩ := h.tk
  have tb := TK_b hk
  have w0 := h.w0 hF
  have r6 := (h.tr hF).1
  obtain ⟨⟨x1, x2, x3⟩, ⟨x4, x4'⟩, ⟨x5, x6⟩, x7, ⟨x8, x9, x10⟩, x11, x12⟩ := h
  have mono := (x12 hF).2
  refine E2_of (c_advance x3 (p := ν 200 6) rfl (by omega)) (r_advance x4 r6 (by omega)) ?_
  rintro ν' ρ' ⟨f, o, T⟩ ⟨f', k', T', R'⟩
  have tb' := TK_b T
  have u := TK_u T' T
  rw [u.1, u.2.1, u.2.2] at R'
  have e2 := o 2 (by decide) (by decide) (by decide)
  have e3 := o 3 (by decide) (by decide) (by decide)
  have r1 : ρ' 20001 = ρ 20001 := f'.1 20001 (by decide) (by decide)
  refine ⟨⟨⟨x1.tr (f.mo (fun x hx => .inl hx)), x2.r2 f (o 0 (by decide) (by decide) (by decide)) (o 1 (by decide) (by decide) (by decide)), x3.e f (o 4 (by decide) (by decide) (by decide)) (o 5 (by decide) (by decide) (by decide))⟩, ⟨x4.fr f' (by decide) (by decide), by rw [r1]; exact x4'⟩, ⟨by omega, by omega⟩, ⟨ν 200 6, by omega, T⟩, ⟨by rw [r1, e2]; exact x8, by rw [r1, e3]; exact x9, by rw [e2, if_neg hF, f'.2 11 (by decide)]; exact w0⟩, by rw [e2, e3]; exact x11, fun _ => ⟨⟨u.2.1, u.1, R'⟩, fun z => ?_⟩⟩, ⟨⟨f, o 9 (by decide) (by decide) (by decide)⟩, ⟨f'.1 20005 (by decide) (by decide), f'.2 12 (by decide)⟩, fun z => e2.symm.trans z, fun z => e2.trans z⟩, e2⟩
  rw [e2] at z
  have := (mono z).1
  rw [e3]
  exact ⟨by omega, fun _ => by omega⟩
/-- no text goes on so -/
theorem brk2 (h : QT μ0 b t n A s ν ρ) : E2 (fX3_breakOff 200 ν) (fX11_ends 20000 ρ) (fun ν' ρ' => QT μ0 b t n A True ν' ρ' ∧ Kp ν ν' ρ ρ' ∧ ν' 200 2 = 1 ∧ ν' 200 7 = ν 200 7) := by
  by_cases hF : ν 200 2 = 1
  · have w1 := h.w1 hF
    have hM := h.md
    unfold fX3_breakOff fX11_ends
    simp (disch := omega) only [w32_eq, w64_eq, chk_T, chk_t, lt, lm, ob, Int.add_zero, Int.zero_add, true_and, and_true, if_true, if_false, K100, K101, K102, K103, K104, K200, K201, K230, K231, K232, K233, K234, K235, K236, K237, K250, K251, K252, K253, K254, K300, K301, K302, K303, K304, N101, N102, N103, N104, N201, N232, N233, N234, N235, N236, N237, N251, N252, N253, N254, N301, N302, N303, N304, K20000, K20001, K20002, K20003, K20004, K20005, K20006, K20007, K20008, K20009, K20010, K20011, K20012, K20013, K20014, K20015, K20016, K20017, K20018, K20019, N20001, N20002, N20003, N20004, N20005, N20006, N20007, N20008, N20009, N20010, N20011, N20012, N20013, N20014, N20015, N20016, N20017, N20018, N20019, hF, w1]
    rw [if_neg (by decide)]
    obtain ⟨x1, x2, x3, x4, x5, x6, x7⟩ := h
    exact E2_some ⟨⟨x1, x2, x3, x4, x5, x6, fun z => absurd hF z⟩, Kp.rf, hF, rfl⟩
  · have w0 := h.w0 hF
    have hM := h.md
    have r7 := (h.tr hF).2.1
    have bd := h.bd
    obtain ⟨⟨x1, x2, x3⟩, ⟨⟨y1, y2, y3, y4⟩, x4'⟩, ⟨x5, x6⟩, x7, ⟨x8, x9, x10⟩, x11, x12⟩ := h
    unfold fX3_breakOff fX11_ends
    have m0 : ∀ v, mst ρ 20000 11 v 20000 0 = 20001 := fun v => by rw [mst_j (by decide)]; exact Md_0 hM
    have m7 : ∀ v, mst ρ 20000 11 v 20000 7 = ν 200 8 := fun v => by rw [mst_j (by decide)]; exact r7
    simp (disch := omega) only [w32_eq, w64_eq, chk_T, chk_t, lt, lm, ob, Int.add_zero, Int.zero_add, true_and, and_true, if_true, if_false, K100, K101, K102, K103, K104, K200, K201, K230, K231, K232, K233, K234, K235, K236, K237, K250, K251, K252, K253, K254, K300, K301, K302, K303, K304, N101, N102, N103, N104, N201, N232, N233, N234, N235, N236, N237, N251, N252, N253, N254, N301, N302, N303, N304, K20000, K20001, K20002, K20003, K20004, K20005, K20006, K20007, K20008, K20009, K20010, K20011, K20012, K20013, K20014, K20015, K20016, K20017, K20018, K20019, N20001, N20002, N20003, N20004, N20005, N20006, N20007, N20008, N20009, N20010, N20011, N20012, N20013, N20014, N20015, N20016, N20017, N20018, N20019, w0, m0, m7, mst_n, mst_j]
    rw [if_neg hF]
    have f : Fw (fun x => x = 200) ν (mst (mst ν 200 2 1) 200 3 (ν 200 8)) := Fw.st (Fw.st Fw.rf rfl) rfl
    have o : ∀ j, j ≠ 2 → j ≠ 3 → mst (mst ν 200 2 1) 200 3 (ν 200 8) 200 j = ν 200 j := fun j h2 h3 => by rw [mst_j h3, mst_j h2]
    have fr : Fr [20001] [11] ρ (mst (mst (mst ρ 20000 11 1) 20001 3 1) 20001 4 (ν 200 8)) := ((Fr.fld rfl (by decide)).tr (Fr.row rfl rfl (by decide) (by decide))).tr (Fr.row rfl rfl (by decide) (by decide))
    have e2 : mst (mst ν 200 2 1) 200 3 (ν 200 8) 200 2 = 1 := by rw [mst_j (by decide), mst_s]
    have e3 : mst (mst ν 200 2 1) 200 3 (ν 200 8) 200 3 = ν 200 8 := mst_s
    have rx : ∀ x, x ≠ 3 → x ≠ 4 → mst (mst (mst ρ 20000 11 1) 20001 3 1) 20001 4 (ν 200 8) 20001 x = ρ 20001 x := fun x h3 h4 => by rw [mst_j h4, mst_j h3, mst_n (by decide)]
    refine E2_some ⟨⟨⟨x1.tr (f.mo (fun x hx => .inl hx)), x2.r2 f (o 0 (by decide) (by decide)) (o 1 (by decide) (by decide)), x3.e f (o 4 (by decide) (by decide)) (o 5 (by decide) (by decide))⟩, ⟨⟨fr.md hM (by decide), by rw [fr.2 5 (by decide)]; exact y2, y3, fun i i0 i1 => by rw [rx _ (by omega) (by omega)]; exact y4 i i0 i1⟩, fun x h3 h4 => by rw [rx x h3 h4]; exact x4' x h3 h4⟩, ⟨x5, by rw [o 8 (by decide) (by decide)]; exact x6⟩, ?_, ⟨?_, ?_, ?_⟩, ?_, fun z => absurd e2 z⟩, ⟨⟨f, o 9 (by decide) (by decide)⟩, ⟨fr.1 20005 (by decide) (by decide), fr.2 12 (by decide)⟩, fun z => ?_, fun _ => e2⟩, e2, o 7 (by decide) (by decide)⟩
    · rw [o 8 (by decide) (by decide), o 6 (by decide) (by decide), o 7 (by decide) (by decide)]; exact x7
    · rw [e2, mst_j (by decide), mst_s]
    · rw [e3, mst_s]
    · rw [e2, if_pos rfl, mst_n (by decide), mst_n (by decide), mst_s]
    · rw [e2, e3]; omega
    · rw [e2] at z; exact absurd z (by decide)
/-- a fault is noted at the token -/
theorem c_note (ν : Mm) (w at' : Int) : fX3_note 200 w at' ν = some (if ν 200 2 = 0 then mst (mst ν 200 2 w) 200 3 at' else ν) := by
  unfold fX3_note
  simp (disch := omega) only [w32_eq, w64_eq, chk_T, chk_t, lt, lm, ob, Int.add_zero, Int.zero_add, true_and, and_true, if_true, if_false, K100, K101, K102, K103, K104, K200, K201, K230, K231, K232, K233, K234, K235, K236, K237, K250, K251, K252, K253, K254, K300, K301, K302, K303, K304, N101, N102, N103, N104, N201, N232, N233, N234, N235, N236, N237, N251, N252, N253, N254, N301, N302, N303, N304, ]
  split <;> rfl
theorem r_also (hM : Md ρ) (h0 : ρ 20000 11 = 0) (w at' : Int) (hp : ρ 20001 3 ≠ 0 → ρ 20001 4 < at') : fX11_also 20000 w at' ρ = some (if ρ 20001 3 = 0 then mst (mst ρ 20001 3 w) 20001 4 at' else ρ) := by
  unfold fX11_also
  simp (disch := omega) only [w32_eq, w64_eq, chk_T, chk_t, lt, lm, ob, Int.add_zero, Int.zero_add, true_and, and_true, if_true, if_false, K20000, K20001, K20002, K20003, K20004, K20005, K20006, K20007, K20008, K20009, K20010, K20011, K20012, K20013, K20014, K20015, K20016, K20017, K20018, K20019, N20001, N20002, N20003, N20004, N20005, N20006, N20007, N20008, N20009, N20010, N20011, N20012, N20013, N20014, N20015, N20016, N20017, N20018, N20019, Md_0 hM, h0]
  by_cases z : ρ 20001 3 = 0
  · rw [if_pos z, if_pos z]
    unfold jX11_also_47
    have m0 : mst ρ 20001 3 w 20000 0 = 20001 := by rw [mst_n (by decide)]; exact Md_0 hM
    simp (disch := omega) only [w32_eq, w64_eq, chk_T, chk_t, lt, lm, ob, Int.add_zero, Int.zero_add, true_and, and_true, if_true, if_false, K20000, K20001, K20002, K20003, K20004, K20005, K20006, K20007, K20008, K20009, K20010, K20011, K20012, K20013, K20014, K20015, K20016, K20017, K20018, K20019, N20001, N20002, N20003, N20004, N20005, N20006, N20007, N20008, N20009, N20010, N20011, N20012, N20013, N20014, N20015, N20016, N20017, N20018, N20019, Md_0 hM, m0]
  · rw [if_neg z, if_neg z, if_pos (hp z)]
/-- what a note changes -/
theorem QT_note (h : QT μ0 b t n A True ν ρ) (hF : ν 200 2 ≠ 1) {w : Int} (hw : 2 ≤ w ∧ w ≤ 4) : QT μ0 b t n A False (if ν 200 2 = 0 then mst (mst ν 200 2 w) 200 3 (ν 200 8) else ν) (if ρ 20001 3 = 0 then mst (mst ρ 20001 3 w) 20001 4 (ν 200 8) else ρ) ∧ Kp ν (if ν 200 2 = 0 then mst (mst ν 200 2 w) 200 3 (ν 200 8) else ν) ρ (if ρ 20001 3 = 0 then mst (mst ρ 20001 3 w) 20001 4 (ν 200 8) else ρ) := by
  have bd := h.bd
  have w0 := h.w0 hF
  by_cases z : ν 200 2 = 0
  · have z' : ρ 20001 3 = 0 := h.2.2.2.2.1.1.trans z
    rw [if_pos z, if_pos z']
    have hM := h.md
    have tr := h.tr hF
    obtain ⟨⟨x1, x2, x3⟩, ⟨⟨y1, y2, y3, y4⟩, x4'⟩, ⟨x5, x6⟩, x7, ⟨x8, x9, x10⟩, x11, x12⟩ := h
    have f : Fw (fun x => x = 200) ν (mst (mst ν 200 2 w) 200 3 (ν 200 8)) := Fw.st (Fw.st Fw.rf rfl) rfl
    have o : ∀ j, j ≠ 2 → j ≠ 3 → mst (mst ν 200 2 w) 200 3 (ν 200 8) 200 j = ν 200 j := fun j h2 h3 => by rw [mst_j h3, mst_j h2]
    have fr : Fr [20001] [] ρ (mst (mst ρ 20001 3 w) 20001 4 (ν 200 8)) := (Fr.row rfl rfl (by decide) (by decide)).tr (Fr.row rfl rfl (by decide) (by decide))
    have e2 : mst (mst ν 200 2 w) 200 3 (ν 200 8) 200 2 = w := by rw [mst_j (by decide), mst_s]
    have e3 : mst (mst ν 200 2 w) 200 3 (ν 200 8) 200 3 = ν 200 8 := mst_s
    have rx : ∀ x, x ≠ 3 → x ≠ 4 → mst (mst ρ 20001 3 w) 20001 4 (ν 200 8) 20001 x = ρ 20001 x := fun x h3 h4 => by rw [mst_j h4, mst_j h3]
    have r0 : mst (mst ρ 20001 3 w) 20001 4 (ν 200 8) 20000 = ρ 20000 := by rw [mst_n (by decide), mst_n (by decide)]
    refine ⟨⟨⟨x1.tr (f.mo (fun x hx => .inl hx)), x2.r2 f (o 0 (by decide) (by decide)) (o 1 (by decide) (by decide)), x3.e f (o 4 (by decide) (by decide)) (o 5 (by decide) (by decide))⟩, ⟨⟨fr.md hM (by decide), by rw [r0]; exact y2, y3, fun i i0 i1 => by rw [rx _ (by omega) (by omega)]; exact y4 i i0 i1⟩, fun x h3 h4 => by rw [rx x h3 h4]; exact x4' x h3 h4⟩, ⟨x5, by rw [o 8 (by decide) (by decide)]; exact x6⟩, ?_, ⟨?_, ?_, ?_⟩, ?_, fun _ => ⟨?_, fun _ => ⟨?_, fun q => absurd q (fun q => q)⟩⟩⟩, ⟨f, o 9 (by decide) (by decide)⟩, ⟨fr.1 20005 (by decide) (by decide), fr.2 12 (by decide)⟩, fun y => ?_, fun y => absurd y hF⟩
    · rw [o 8 (by decide) (by decide), o 6 (by decide) (by decide), o 7 (by decide) (by decide)]; exact x7
    · rw [e2, mst_j (by decide), mst_s]
    · rw [e3, mst_s]
    · rw [e2, if_neg (by omega), r0]; exact w0
    · rw [e2, e3]; omega
    · unfold TR; rw [o 8 (by decide) (by decide), o 6 (by decide) (by decide), o 7 (by decide) (by decide), r0]; exact tr
    · rw [e3, o 8 (by decide) (by decide)]; exact Int.le_refl _
    · exact z
  · have z' : ρ 20001 3 ≠ 0 := fun y => z (h.2.2.2.2.1.1.symm.trans y)
    rw [if_neg z, if_neg z']
    exact ⟨QT_F h (fun q => trivial), Kp.rf⟩
theorem note2 (h : QT μ0 b t n A True ν ρ) (hF : ν 200 2 ≠ 1) {w : Int} (hw : 2 ≤ w ∧ w ≤ 4) : E2 (fX3_note 200 w (ν 200 8) ν) (fX11_also 20000 w (ν 200 8) ρ) (fun ν' ρ' => QT μ0 b t n A False ν' ρ' ∧ Kp ν ν' ρ ρ' ∧ ν' 200 2 ≠ 1 ∧ ν' 200 2 ≠ 0 ∧ ν' 200 7 = ν 200 7) := by
  rw [c_note, r_also h.md (h.w0 hF) w (ν 200 8) (fun z => by
    have e := h.2.2.2.2.1
    rw [e.1] at z; rw [e.2.1]; exact ((h.2.2.2.2.2.2 hF).2 z).2 trivial)]
  have k := QT_note h hF hw
  refine E2_some ⟨k.1, k.2, ?_, ?_, ?_⟩
  · split
    · rw [mst_j (by decide), mst_s]; omega
    · exact hF
  · split
    · rw [mst_j (by decide), mst_s]; omega
    · assumption
  · split
    · rw [mst_j (by decide), mst_j (by decide)]
    · rfl
theorem note1 (hF : ν 200 2 = 1) (w at' : Int) : fX3_note 200 w at' ν = some ν := by
  rw [c_note, if_neg (by omega)]
/-- a number is read -/
theorem num2 {l l' m : Int} (h : QT μ0 b t n A True ν ρ) (hl : ν 200 2 = 0 → l = l') : E2 (fX3_readNumber 200 l m ν) (fX11_numbered 20000 l' m ρ) (fun x y => QT μ0 b t n A True x.2 y.2 ∧ Kp ν x.2 ρ y.2 ∧ (x.2 200 2 = 0 → x.1 = y.1 ∧ l ≤ x.1 ∧ x.1 ≤ m) ∧ (x.2 200 2 ≠ 1 → A + 1 ≤ x.2 200 8)) := by
  have bd := h.bd
  have hM := h.md
  obtain ⟨p0, hp0, hk⟩ := h.tk
  have A0 := h.2.2.1
  have val : ν 200 7 = 2 → lop (sX3_readNumber_22 200 l m ν) FU (0, ν 200 8) = some (nvN t (ν 200 8) (ν 200 6 - ν 200 8).toNat) := fun e => c_value h.ct rfl bd.1.2.2 (by omega) (TK_2 hk e).1 (TK_2 hk e).2 l m
  by_cases hF : ν 200 2 = 1
  · have w1 := h.w1 hF
    have re : fX11_numbered 20000 l' m ρ = some (l', ρ) := by
      unfold fX11_numbered jX11_numbered_15 fX11_ends
      simp (disch := omega) only [w32_eq, w64_eq, chk_T, chk_t, lt, lm, ob, Int.add_zero, Int.zero_add, true_and, and_true, if_true, if_false, K20000, K20001, K20002, K20003, K20004, K20005, K20006, K20007, K20008, K20009, K20010, K20011, K20012, K20013, K20014, K20015, K20016, K20017, K20018, K20019, N20001, N20002, N20003, N20004, N20005, N20006, N20007, N20008, N20009, N20010, N20011, N20012, N20013, N20014, N20015, N20016, N20017, N20018, N20019, w1]
      rw [if_neg (by decide), if_neg (by decide)]
      simp only [ob]
    rw [re]
    unfold fX3_readNumber
    simp (disch := omega) only [w32_eq, w64_eq, chk_T, chk_t, lt, lm, ob, Int.add_zero, Int.zero_add, true_and, and_true, if_true, if_false, K100, K101, K102, K103, K104, K200, K201, K230, K231, K232, K233, K234, K235, K236, K237, K250, K251, K252, K253, K254, K300, K301, K302, K303, K304, N101, N102, N103, N104, N201, N232, N233, N234, N235, N236, N237, N251, N252, N253, N254, N301, N302, N303, N304, ]
    by_cases k2 : ν 200 7 = 2
    · rw [if_pos k2, val k2]
      simp only [ob]
      generalize nvN t (ν 200 8) (ν 200 6 - ν 200 8).toNat = vv
      have go : Ev (jX3_readNumber_87 200 vv ν) (fun x => QT μ0 b t n A True x.2 ρ ∧ Kp ν x.2 ρ ρ) := by
        unfold jX3_readNumber_87
        simp (disch := omega) only [w32_eq, w64_eq, chk_T, chk_t, lt, lm, ob, Int.add_zero, Int.zero_add, true_and, and_true, if_true, if_false, K100, K101, K102, K103, K104, K200, K201, K230, K231, K232, K233, K234, K235, K236, K237, K250, K251, K252, K253, K254, K300, K301, K302, K303, K304, N101, N102, N103, N104, N201, N232, N233, N234, N235, N236, N237, N251, N252, N253, N254, N301, N302, N303, N304, ]
        exact Ev_bind (adv1 h hF) (fun ν' hh => Ev_some hh)
      have go2 : Ev (jX3_readNumber_78 200 vv ν) (fun x => QT μ0 b t n A True x.2 ρ ∧ Kp ν x.2 ρ ρ) := by
        unfold jX3_readNumber_78
        simp (disch := omega) only [w32_eq, w64_eq, chk_T, chk_t, lt, lm, ob, Int.add_zero, Int.zero_add, true_and, and_true, if_true, if_false, K100, K101, K102, K103, K104, K200, K201, K230, K231, K232, K233, K234, K235, K236, K237, K250, K251, K252, K253, K254, K300, K301, K302, K303, K304, N101, N102, N103, N104, N201, N232, N233, N234, N235, N236, N237, N251, N252, N253, N254, N301, N302, N303, N304, note1 hF]
        exact go
      have fin : ∀ x : Option (Int × Mm), Ev x (fun x => QT μ0 b t n A True x.2 ρ ∧ Kp ν x.2 ρ ρ) → E2 x (some (l', ρ)) (fun x y => QT μ0 b t n A True x.2 y.2 ∧ Kp ν x.2 ρ y.2 ∧ (x.2 200 2 = 0 → x.1 = y.1 ∧ l ≤ x.1 ∧ x.1 ≤ m) ∧ (x.2 200 2 ≠ 1 → A + 1 ≤ x.2 200 8)) := fun x hx => E2_of hx (Ev_some (P := fun y => y = (l', ρ)) rfl) (fun u w hu hw => by
        subst hw
        have e1 := hu.2.2.2.2 hF
        exact ⟨hu.1, hu.2, fun y => by rw [e1] at y; exact absurd y (by decide), fun y => absurd e1 y⟩)
      split
      · exact fin _ go2
      · split
        · exact fin _ go
        · exact fin _ go2
    · rw [if_neg k2]
      unfold fX3_breakOff
      simp (disch := omega) only [w32_eq, w64_eq, chk_T, chk_t, lt, lm, ob, Int.add_zero, Int.zero_add, true_and, and_true, if_true, if_false, K100, K101, K102, K103, K104, K200, K201, K230, K231, K232, K233, K234, K235, K236, K237, K250, K251, K252, K253, K254, K300, K301, K302, K303, K304, N101, N102, N103, N104, N201, N232, N233, N234, N235, N236, N237, N251, N252, N253, N254, N301, N302, N303, N304, hF]
      obtain ⟨x1, x2, x3, x4, x5, x6, x7⟩ := h
      exact E2_some ⟨⟨x1, x2, x3, x4, x5, x6, x7⟩, Kp.rf, fun y => by dsimp only at y; rw [hF] at y; exact absurd y (by decide), fun y => absurd hF y⟩
  · have w0 := h.w0 hF
    obtain ⟨r6, r7, tr⟩ := h.tr hF
    unfold fX3_readNumber fX11_numbered
    simp (disch := omega) only [w32_eq, w64_eq, chk_T, chk_t, lt, lm, ob, Int.add_zero, Int.zero_add, true_and, and_true, if_true, if_false, K100, K101, K102, K103, K104, K200, K201, K230, K231, K232, K233, K234, K235, K236, K237, K250, K251, K252, K253, K254, K300, K301, K302, K303, K304, N101, N102, N103, N104, N201, N232, N233, N234, N235, N236, N237, N251, N252, N253, N254, N301, N302, N303, N304, K20000, K20001, K20002, K20003, K20004, K20005, K20006, K20007, K20008, K20009, K20010, K20011, K20012, K20013, K20014, K20015, K20016, K20017, K20018, K20019, N20001, N20002, N20003, N20004, N20005, N20006, N20007, N20008, N20009, N20010, N20011, N20012, N20013, N20014, N20015, N20016, N20017, N20018, N20019, w0]
    by_cases k2 : ν 200 7 = 2
    · have r8 : ρ 20000 8 = 1 ∧ ρ 20000 9 = nvN t (ν 200 8) (ν 200 6 - ν 200 8).toNat := by
        unfold TR at tr
        rcases tr with ⟨e, _⟩ | ⟨e, _⟩ | ⟨_, e⟩ | ⟨e, _⟩ | ⟨e, _⟩
        · omega
        · omega
        · exact e
        · omega
        · omega
      rw [if_pos k2, if_pos r8.1, val k2, r8.2]
      simp only [ob]
      generalize hvv : nvN t (ν 200 8) (ν 200 6 - ν 200 8).toNat = vv
      have go : ∀ (s : Prop) (ν1 ρ1 : Mm), QT μ0 b t n A s ν1 ρ1 → Kp ν ν1 ρ ρ1 → ν1 200 2 ≠ 1 → ν1 200 7 = 2 → (ν1 200 2 = 0 → l = l' ∧ l ≤ vv ∧ vv ≤ m) → E2 (jX3_readNumber_87 200 vv ν1) (jX11_numbered_44 20000 l' m vv ρ1) (fun x y => QT μ0 b t n A True x.2 y.2 ∧ Kp ν x.2 ρ y.2 ∧ (x.2 200 2 = 0 → x.1 = y.1 ∧ l ≤ x.1 ∧ x.1 ≤ m) ∧ (x.2 200 2 ≠ 1 → A + 1 ≤ x.2 200 8)) := by
        intro s ν1 ρ1 q1 q2 q3 q4 q5
        unfold jX3_readNumber_87 jX11_numbered_44
        simp (disch := omega) only [w32_eq, w64_eq, chk_T, chk_t, lt, lm, ob, Int.add_zero, Int.zero_add, true_and, and_true, if_true, if_false, K100, K101, K102, K103, K104, K200, K201, K230, K231, K232, K233, K234, K235, K236, K237, K250, K251, K252, K253, K254, K300, K301, K302, K303, K304, N101, N102, N103, N104, N201, N232, N233, N234, N235, N236, N237, N251, N252, N253, N254, N301, N302, N303, N304, K20000, K20001, K20002, K20003, K20004, K20005, K20006, K20007, K20008, K20009, K20010, K20011, K20012, K20013, K20014, K20015, K20016, K20017, K20018, K20019, N20001, N20002, N20003, N20004, N20005, N20006, N20007, N20008, N20009, N20010, N20011, N20012, N20013, N20014, N20015, N20016, N20017, N20018, N20019]
        refine E2_bind (adv2 q1 q3 (by omega)) ?_
        rintro ν2 ρ2 ⟨u1, u2, u3⟩
        have A2 := u1.2.2.1.2
        by_cases y : l' ≤ vv ∧ vv ≤ m
        · rw [isIn_t y.1 y.2, if_neg (by decide)]
          refine E2_some ⟨QT_A u1 A0.1 (by dsimp only; omega), q2.tr u2, fun z => ?_, fun _ => A2⟩
          have := q5 (u3.symm.trans z); exact ⟨rfl, this.2⟩
        · rw [isIn_f y, if_pos rfl]
          refine E2_some ⟨QT_A u1 A0.1 (by dsimp only; omega), q2.tr u2, fun z => ?_, fun _ => A2⟩
          have := q5 (u3.symm.trans z); exact absurd ⟨by omega, this.2.2⟩ y
      have go2 : ∀ c : Prop, (c → l ≤ vv ∧ vv ≤ m) → E2 (jX3_readNumber_78 200 vv ν) ((fX11_also 20000 2 (ν 200 8) ρ).bind fun μ10 => jX11_numbered_44 20000 l' m vv μ10) (fun x y => QT μ0 b t n A True x.2 y.2 ∧ Kp ν x.2 ρ y.2 ∧ (x.2 200 2 = 0 → x.1 = y.1 ∧ l ≤ x.1 ∧ x.1 ≤ m) ∧ (x.2 200 2 ≠ 1 → A + 1 ≤ x.2 200 8)) := by
        intro c _
        unfold jX3_readNumber_78
        simp (disch := omega) only [w32_eq, w64_eq, chk_T, chk_t, lt, lm, ob, Int.add_zero, Int.zero_add, true_and, and_true, if_true, if_false, K100, K101, K102, K103, K104, K200, K201, K230, K231, K232, K233, K234, K235, K236, K237, K250, K251, K252, K253, K254, K300, K301, K302, K303, K304, N101, N102, N103, N104, N201, N232, N233, N234, N235, N236, N237, N251, N252, N253, N254, N301, N302, N303, N304, ]
        refine E2_bind (note2 h hF (by decide)) ?_
        rintro ν1 ρ1 ⟨u1, u2, u3, u4, u5⟩
        exact go False ν1 ρ1 u1 u2 u3 (u5.trans k2) (fun z => absurd z u4)
      -- the class looks at l, the reference at l': they are the same while there is no fault
      by_cases z : ν 200 2 = 0
      · have el := hl z
        subst el
        by_cases y : l ≤ vv ∧ vv ≤ m
        · rw [isIn_t y.1 y.2, if_neg (by omega), if_pos y.2, if_neg (by decide)]
          exact go True ν ρ h Kp.rf hF k2 (fun _ => ⟨rfl, y⟩)
        · rw [isIn_f y, if_pos rfl, r7]
          split
          · exact go2 False (fun q => absurd q (fun q => q))
          · rw [if_neg (by omega)]; exact go2 False (fun q => absurd q (fun q => q))
      · have e78 : jX3_readNumber_78 200 vv ν = jX3_readNumber_87 200 vv ν := by
          unfold jX3_readNumber_78
          simp (disch := omega) only [w32_eq, w64_eq, chk_T, chk_t, lt, lm, ob, Int.add_zero, Int.zero_add, true_and, and_true, if_true, if_false, K100, K101, K102, K103, K104, K200, K201, K230, K231, K232, K233, K234, K235, K236, K237, K250, K251, K252, K253, K254, K300, K301, K302, K303, K304, N101, N102, N103, N104, N201, N232, N233, N234, N235, N236, N237, N251, N252, N253, N254, N301, N302, N303, N304, c_note]
          rw [if_neg z]
        have eal : fX11_also 20000 2 (ν 200 8) ρ = some ρ := by
          have e := h.2.2.2.2.1
          have z' : ρ 20001 3 ≠ 0 := fun y => z (e.1.symm.trans y)
          rw [r_also hM w0 2 (ν 200 8) (fun _ => by rw [e.2.1]; exact ((h.2.2.2.2.2.2 hF).2 z).2 trivial), if_neg z']
        have g := go True ν ρ h Kp.rf hF k2 (fun y => absurd y z)
        rw [e78, r7, eal]
        simp only [ob]
        have el : (if vv < l then jX3_readNumber_87 200 vv ν else if vv ≤ m then jX3_readNumber_87 200 vv ν else jX3_readNumber_87 200 vv ν) = jX3_readNumber_87 200 vv ν := by
          split
          · rfl
          · split <;> rfl
        have er : (if isIn vv l' m = 0 then jX11_numbered_44 20000 l' m vv ρ else jX11_numbered_44 20000 l' m vv ρ) = jX11_numbered_44 20000 l' m vv ρ := by split <;> rfl
        rw [el, er]; exact g
    · have r8 : ρ 20000 8 ≠ 1 := by
        unfold TR at tr
        rcases tr with ⟨_, e⟩ | ⟨_, _, e⟩ | ⟨e, _⟩ | ⟨_, e⟩ | ⟨_, e⟩
        · omega
        · rcases e with e | e
          · have := e.1; omega
          · have := e.1; omega
        · exact absurd e k2
        · omega
        · omega
      rw [if_neg k2, if_neg r8]
      unfold jX11_numbered_15
      simp (disch := omega) only [w32_eq, w64_eq, chk_T, chk_t, lt, lm, ob, Int.add_zero, Int.zero_add, true_and, and_true, if_true, if_false, K20000, K20001, K20002, K20003, K20004, K20005, K20006, K20007, K20008, K20009, K20010, K20011, K20012, K20013, K20014, K20015, K20016, K20017, K20018, K20019, N20001, N20002, N20003, N20004, N20005, N20006, N20007, N20008, N20009, N20010, N20011, N20012, N20013, N20014, N20015, N20016, N20017, N20018, N20019, ]
      refine E2_bind (brk2 h) ?_
      rintro ν1 ρ1 ⟨u1, u2, u3, u4⟩
      exact E2_some ⟨u1, u2, fun y => by dsimp only at y; rw [u3] at y; exact absurd y (by decide), fun y => absurd u3 y⟩
/-- a stop -/
theorem stop2 (h : QT μ0 b t n A True ν ρ) : E2 (fX3_readStop 200 ν) (fX11_endsLine 20000 ρ) (fun ν' ρ' => QT μ0 b t n A True ν' ρ' ∧ Kp ν ν' ρ ρ') := by
  have A0 := h.2.2.1
  have hM := h.md
  by_cases hF : ν 200 2 = 1
  · have w1 := h.w1 hF
    have re : fX11_endsLine 20000 ρ = some ρ := by
      unfold fX11_endsLine jX11_endsLine_22 fX11_ends
      simp (disch := omega) only [w32_eq, w64_eq, chk_T, chk_t, lt, lm, ob, Int.add_zero, Int.zero_add, true_and, and_true, if_true, if_false, K20000, K20001, K20002, K20003, K20004, K20005, K20006, K20007, K20008, K20009, K20010, K20011, K20012, K20013, K20014, K20015, K20016, K20017, K20018, K20019, N20001, N20002, N20003, N20004, N20005, N20006, N20007, N20008, N20009, N20010, N20011, N20012, N20013, N20014, N20015, N20016, N20017, N20018, N20019, w1]
      rw [if_neg (by decide), if_neg (by decide)]
      simp only [ob]
    rw [re]
    unfold fX3_readStop
    simp (disch := omega) only [w32_eq, w64_eq, chk_T, chk_t, lt, lm, ob, Int.add_zero, Int.zero_add, true_and, and_true, if_true, if_false, K100, K101, K102, K103, K104, K200, K201, K230, K231, K232, K233, K234, K235, K236, K237, K250, K251, K252, K253, K254, K300, K301, K302, K303, K304, N101, N102, N103, N104, N201, N232, N233, N234, N235, N236, N237, N251, N252, N253, N254, N301, N302, N303, N304, ]
    split
    · obtain ⟨ν1, e1, h1⟩ := adv1 h hF
      rw [e1]; simp only [ob]; exact E2_some h1
    · unfold fX3_breakOff
      simp (disch := omega) only [w32_eq, w64_eq, chk_T, chk_t, lt, lm, ob, Int.add_zero, Int.zero_add, true_and, and_true, if_true, if_false, K100, K101, K102, K103, K104, K200, K201, K230, K231, K232, K233, K234, K235, K236, K237, K250, K251, K252, K253, K254, K300, K301, K302, K303, K304, N101, N102, N103, N104, N201, N232, N233, N234, N235, N236, N237, N251, N252, N253, N254, N301, N302, N303, N304, hF]
      exact E2_some ⟨h, Kp.rf⟩
  · have w0 := h.w0 hF
    obtain ⟨r6, r7, tr⟩ := h.tr hF
    unfold fX3_readStop fX11_endsLine
    simp (disch := omega) only [w32_eq, w64_eq, chk_T, chk_t, lt, lm, ob, Int.add_zero, Int.zero_add, true_and, and_true, if_true, if_false, K100, K101, K102, K103, K104, K200, K201, K230, K231, K232, K233, K234, K235, K236, K237, K250, K251, K252, K253, K254, K300, K301, K302, K303, K304, N101, N102, N103, N104, N201, N232, N233, N234, N235, N236, N237, N251, N252, N253, N254, N301, N302, N303, N304, K20000, K20001, K20002, K20003, K20004, K20005, K20006, K20007, K20008, K20009, K20010, K20011, K20012, K20013, K20014, K20015, K20016, K20017, K20018, K20019, N20001, N20002, N20003, N20004, N20005, N20006, N20007, N20008, N20009, N20010, N20011, N20012, N20013, N20014, N20015, N20016, N20017, N20018, N20019, w0]
    by_cases k3 : ν 200 7 = 3
    · have r8 : ρ 20000 8 = 2 := by
        unfold TR at tr
        rcases tr with ⟨e, _⟩ | ⟨e, _⟩ | ⟨e, _⟩ | ⟨_, e⟩ | ⟨e, _⟩
        · omega
        · omega
        · omega
        · exact e
        · omega
      rw [if_pos k3, if_pos r8]
      refine E2_bind (adv2 h hF (by omega)) ?_
      rintro ν1 ρ1 ⟨u1, u2, u3⟩
      exact E2_some ⟨QT_A u1 A0.1 (by have := u1.2.2.1.2; omega), u2⟩
    · have r8 : ρ 20000 8 ≠ 2 := by
        unfold TR at tr
        rcases tr with ⟨_, e⟩ | ⟨_, _, e⟩ | ⟨_, e, _⟩ | ⟨e, _⟩ | ⟨_, e⟩
        · omega
        · rcases e with e | e
          · have := e.1; omega
          · have := e.1; omega
        · omega
        · exact absurd e k3
        · omega
      rw [if_neg k3, if_neg r8]
      unfold jX11_endsLine_22
      simp (disch := omega) only [w32_eq, w64_eq, chk_T, chk_t, lt, lm, ob, Int.add_zero, Int.zero_add, true_and, and_true, if_true, if_false, K20000, K20001, K20002, K20003, K20004, K20005, K20006, K20007, K20008, K20009, K20010, K20011, K20012, K20013, K20014, K20015, K20016, K20017, K20018, K20019, N20001, N20002, N20003, N20004, N20005, N20006, N20007, N20008, N20009, N20010, N20011, N20012, N20013, N20014, N20015, N20016, N20017, N20018, N20019, ]
      refine E2_bind (brk2 h) ?_
      rintro ν1 ρ1 ⟨u1, u2, u3, u4⟩
      exact E2_some ⟨u1, u2⟩
end
