/-! ===== doubt: the fewest ===== -/
noncomputable def pwr (x : Int) : Int := ((2 ^ (9 - pc x).toNat : Nat) : Int) - 1
theorem pwr_1 (x : Int) : 1 ≤ pwr x ∧ pwr x ≤ 511 := by
  have b := pc_b x
  have h1 : 2 ^ 1 ≤ 2 ^ (9 - pc x).toNat := Nat.pow_le_pow_right (by decide) (by omega)
  have h2 : 2 ^ (9 - pc x).toNat ≤ 2 ^ 9 := Nat.pow_le_pow_right (by decide) (by omega)
  unfold pwr
  generalize 2 ^ (9 - pc x).toNat = z at h1 h2 ⊢
  have : (2 : Nat) ^ 9 = 512 := rfl
  omega
theorem pwr_2 {x y : Int} (h : pc x + 1 ≤ pc y) : 2 * pwr y + 1 ≤ pwr x := by
  have b := pc_b x; have b2 := pc_b y
  have h2 : 2 ^ ((9 - pc y).toNat + 1) ≤ 2 ^ (9 - pc x).toNat := Nat.pow_le_pow_right (by decide) (by omega)
  rw [Nat.pow_succ] at h2
  unfold pwr
  generalize 2 ^ (9 - pc x).toNat = z at h2 ⊢
  generalize 2 ^ (9 - pc y).toNat = w at h2 ⊢
  omega
theorem sm_nn {f : Int → Int} (h : ∀ i, 0 ≤ f i) : ∀ n : Nat, 0 ≤ sm f n
  | 0 => Int.le_refl _
  | n + 1 => by have := sm_nn h n; have := h n; show 0 ≤ sm f n + f n; omega
def EK (N nd : Int) (K : Int → Int → Prop) (x : Int) : Prop := (∀ i, 0 ≤ i → mb x i → i < N) ∧ (∀ i, 0 ≤ i → mb nd i → mb x i) ∧ ∀ i j, 0 ≤ i → i < N → 0 ≤ j → j < N → K i j → mb x i ∨ mb x j
theorem c_isFewer {x v : Int} (hx : 0 ≤ x ∧ x < 256) (hv : v = -1 ∨ 0 ≤ v ∧ v < 256) : fX1_isFewer x v = some (bi (v = -1 ∨ kp x < kp v)) := by
  unfold fX1_isFewer
  simp only [lt]
  by_cases e : v = -1
  · rw [if_pos e, bi_t (.inl e)]
  · have hv2 : 0 ≤ v ∧ v < 256 := by omega
    rw [if_neg e, ibits_pc hx, ibits_pc hv2]
    have b1 := pc_b x; have b2 := pc_b v
    rw [w32_eq (by omega) (by omega)]
    unfold kp
    by_cases z : pc x - pc v < 0
    · rw [if_pos z, bi_t (.inr (by omega))]
    · rw [if_neg z]
      by_cases w : pc x - pc v = 0
      · rw [if_pos w]
        by_cases u : v ≤ x
        · rw [if_pos u, bi_f (by omega)]
        · rw [if_neg u, bi_t (.inr (by omega))]
      · rw [if_neg w, bi_f (by omega)]
section
variable {μ μ' : Mm} {b : Int → Int} {vb c k n p st i j y m lo hi kk yr : Int} {g s : Int → Int}
/-- the search's state -/
def FwI (T : Int → Prop) (N nd : Int) (K : Int → Int → Prop) (tr : Int → Int) (v op tn : Int) : Prop := (0 ≤ op ∧ op ≤ 9) ∧ (0 ≤ tn ∧ tn ≤ 512) ∧ (v = -1 ∨ (0 ≤ v ∧ v < 256) ∧ T v) ∧ (∀ j, 0 ≤ j → j < op → (0 ≤ tr j ∧ tr j < 256) ∧ (∀ i, 0 ≤ i → mb (tr j) i → i < N) ∧ (∀ i, 0 ≤ i → mb nd i → mb (tr j) i) ∧ j ≤ pc (tr j)) ∧ (∀ x, 0 ≤ x → x < 256 → T x → (v ≠ -1 ∧ kp v ≤ kp x) ∨ EK N nd K x ∧ ∃ j, (0 ≤ j ∧ j < op) ∧ ∀ i, 0 ≤ i → mb (tr j) i → mb x i) ∧ tn + sm (fun j => pwr (tr j)) op.toNat ≤ 511
theorem c_fewestWith {N nd v : Int} {K : Int → Int → Prop} {C : Int → Prop} (hF : FtF μ) (e1 : μ 250 1 = k) (hk : KD k = 6) (hk2 : k < 250 ∨ 254 < k) (e0 : μ k 0 = N) (h8 : 0 ≤ N ∧ N ≤ 8) (hA : Ag μ K N) (hK : ∀ i j, K i j → K j i) (hn : 0 ≤ nd ∧ nd < 256) (hn2 : ∀ i, 0 ≤ i → mb nd i → i < N) (hv : DB C v) : Ev (fX1_fewestWith 250 nd v μ) (fun r => Fw (fun x => x = 254) μ r.2 ∧ DB (fun x => C x ∨ EK N nd K x) r.1) := by
  have f11 := hF.2.2.2
  unfold fX1_fewestWith
  simp (disch := omega) only [w32_eq, w64_eq, chk_T, chk_t, lt, lm, ob, Int.add_zero, Int.zero_add, true_and, and_true, if_true, if_false, K100, K101, K102, K103, K104, K200, K201, K230, K231, K232, K233, K234, K235, K236, K237, K250, K251, K252, K253, K254, K300, K301, K302, K303, K304, N101, N102, N103, N104, N201, N232, N233, N234, N235, N236, N237, N251, N252, N253, N254, N301, N302, N303, N304, f11]
  refine Ev_bind (Ev_lop (P := fun r => Fw (fun x => x = 254) μ r.2 ∧ DB (fun x => C x ∨ EK N nd K x) r.1) (fun t => Fw (fun x => x = 254) μ t.2.2.2 ∧ FwI (fun x => C x ∨ EK N nd K x) N nd K (t.2.2.2 254) t.1 t.2.1 t.2.2.1) (fun t => (513 - t.2.2.1).toNat) ⟨Fw.s0 rfl, ?_⟩ (by unfold FU; dsimp only; omega) ?_) (fun r h => Ev_some h)
  · refine ⟨(by first | omega | (dsimp only; omega) | (dsimp only)), (by first | omega | (dsimp only; omega) | (dsimp only)), ?_, fun j j0 j1 => ?_, fun x x0 x1 hx => ?_, ?_⟩
    · rcases hv with ⟨a, _⟩ | ⟨a, d, _⟩
      · exact .inl a
      · exact .inr ⟨a, .inl d⟩
    · dsimp only at j1 ⊢
      have : j = 0 := by omega
      subst this; rw [mst_s]
      exact ⟨hn, hn2, fun i _ h => h, (pc_b _).1⟩
    · dsimp only
      rcases hx with hx | hx
      · rcases hv with ⟨a, q⟩ | ⟨a, d, q⟩
        · exact absurd hx (q x x0 x1)
        · exact .inl ⟨by omega, q x x0 x1 hx⟩
      · exact .inr ⟨hx, 0, by omega, fun i i0 h => by rw [mst_s] at h; exact hx.2.1 i i0 h⟩
    · dsimp only
      show 0 + (0 + pwr (mst μ 254 0 nd 254 (0 : Nat))) ≤ 511
      rw [show ((0 : Nat) : Int) = 0 from rfl, mst_s]
      have := pwr_1 nd; omega
  · rintro ⟨v3, v4, v5, μ1⟩ ⟨f1, i1, i2, i3, i4, i5, i6⟩
    dsimp only at f1 i1 i2 i3 i4 i5 i6 ⊢
    have snn := sm_nn (f := fun j => pwr (μ1 254 j)) (fun i => by have := (pwr_1 (μ1 254 i)).1; omega) v4.toNat
    have r250 : μ1 250 = μ 250 := f1 250 (by omega)
    have rk : μ1 k = μ k := f1 k (by omega)
    have F1 : FtF μ1 := by unfold FtF; rw [r250]; exact hF
    have g11 := F1.2.2.2; have g10 := F1.2.2.1
    have A1 : Ag μ1 K N := by unfold Ag; rw [f1 253 (by omega)]; exact hA
    unfold sX1_fewestWith_15
    dsimp only
    rw [if_neg (by omega)]
    refine Ev_ite (fun z => Ev_out ⟨f1, ?_⟩) (fun z => ?_)
    · dsimp only
      rcases i3 with e | ⟨e, e2⟩
      · refine .inl ⟨e, fun x x0 x1 hx => ?_⟩
        rcases i5 x x0 x1 hx with w | ⟨_, j, w, _⟩
        · exact w.1 e
        · omega
      · refine .inr ⟨e, e2, fun x x0 x1 hx => ?_⟩
        rcases i5 x x0 x1 hx with w | ⟨_, j, w, _⟩
        · exact w.2
        · omega
    · simp (disch := omega) only [w32_eq, w64_eq, chk_T, chk_t, lt, lm, ob, Int.add_zero, Int.zero_add, true_and, and_true, if_true, if_false, K100, K101, K102, K103, K104, K200, K201, K230, K231, K232, K233, K234, K235, K236, K237, K250, K251, K252, K253, K254, K300, K301, K302, K303, K304, N101, N102, N103, N104, N201, N232, N233, N234, N235, N236, N237, N251, N252, N253, N254, N301, N302, N303, N304, g11]
      rw [show v4 + -1 = v4 - 1 by omega]
      obtain ⟨t1, t2, t3, t4⟩ := i4 (v4 - 1) (by omega) (by omega)
      generalize hset : μ1 254 (v4 - 1) = set at t1 t2 t3 t4 ⊢
      refine Ev_bind (c_firstClash F1 (by rw [r250]; exact e1) hk (by rw [rk]; exact e0) h8 A1 t1) (fun r hr => ?_)
      have sm1 : sm (fun j => pwr (μ1 254 j)) v4.toNat = sm (fun j => pwr (μ1 254 j)) (v4 - 1).toNat + pwr set := by
        have := sm_s (f := fun j => pwr (μ1 254 j)) (i := v4 - 1) (by omega)
        rw [show v4 - 1 + 1 = v4 by omega] at this
        rw [this, hset]
      have ps := pwr_1 set
      have psb := pc_b set
      have key : ∀ s0, (s0 = 1 ∨ s0 = 0 ∧ v3 ≠ -1 ∧ pc v3 ≤ pc set) → Ev (jX1_fewestWith_70 250 v3 (v4 - 1) v5 set r s0 μ1) (Nx (fun t => Fw (fun x => x = 254) μ t.2.2.2 ∧ FwI (fun x => C x ∨ EK N nd K x) N nd K (t.2.2.2 254) t.1 t.2.1 t.2.2.1) (fun t => (513 - t.2.2.1).toNat) (fun r => Fw (fun x => x = 254) μ r.2 ∧ DB (fun x => C x ∨ EK N nd K x) r.1) (513 - v5).toNat) := by
        intro s0 hs0
        unfold jX1_fewestWith_70
        rcases hr with ⟨e, cov⟩ | ⟨rb, rn, j, jb, kj, jn⟩
        · rw [if_pos e]
          have ek : EK N nd K set := ⟨t2, t3, fun i j a b c d q => by
            rcases cov i a b with w | w
            · exact .inl w
            · exact .inr (w j c d q)⟩
          rw [c_isFewer t1 (by rcases i3 with w | w; exact .inl w; exact .inr w.1)]
          simp only [ob, bi_if]
          try simp (disch := omega) only [w32_eq, w64_eq, chk_T, chk_t, lt, lm, ob, Int.add_zero, Int.zero_add, true_and, and_true, if_true, if_false, ]
          have go : ∀ v, (v = v3 ∨ v = set) → (v = -1 → False) → kp v ≤ kp set → (v3 ≠ -1 → kp v ≤ kp v3) → Ev (some (Sum.inl (v, v4 - 1, v5 + 1, μ1) : (Int × Int × Int × Mm) ⊕ (Int × Mm))) (Nx (fun t => Fw (fun x => x = 254) μ t.2.2.2 ∧ FwI (fun x => C x ∨ EK N nd K x) N nd K (t.2.2.2 254) t.1 t.2.1 t.2.2.1) (fun t => (513 - t.2.2.1).toNat) (fun r => Fw (fun x => x = 254) μ r.2 ∧ DB (fun x => C x ∨ EK N nd K x) r.1) (513 - v5).toNat) := by
            intro v hv1 hv2 hv3 hv4
            refine Ev_in ⟨f1, ⟨(by first | omega | (dsimp only; omega) | (dsimp only)), (by first | omega | (dsimp only; omega) | (dsimp only)), ?_, fun j a b => i4 j a (by dsimp only at b; omega), fun x x0 x1 hx => ?_, ?_⟩⟩ (by first | omega | (dsimp only; omega) | (dsimp only))
            · dsimp only
              rcases hv1 with e | e
              · rw [e]; exact i3
              · rw [e]; exact .inr ⟨t1, .inr ek⟩
            · dsimp only
              rcases i5 x x0 x1 hx with w | ⟨w, j, hj, w2⟩
              · exact .inl ⟨hv2, by have := hv4 w.1; omega⟩
              · by_cases e : j = v4 - 1
                · rw [e, hset] at w2
                  exact .inl ⟨hv2, by have := kp_le t1.1 ⟨x0, x1⟩ w2; omega⟩
                · exact .inr ⟨w, j, by omega, w2⟩
            · dsimp only; omega
          by_cases q : v3 = -1 ∨ kp set < kp v3
          · rw [sel_t q]
            exact go set (.inr rfl) (fun e => by omega) (Int.le_refl _) (fun w => by rcases q with q | q; exact absurd q w; omega)
          · rw [sel_f q]
            exact go v3 (.inl rfl) (fun e => q (.inl e)) (by have : ¬kp set < kp v3 := fun w => q (.inr w); omega) (fun _ => Int.le_refl _)
        · rw [if_neg (by omega)]
          have b8 := ishl_b (i := r) (by omega)
          have ar := A1 r rb.1 rb.2
          have hB : ∀ i, 0 ≤ i → (mb (ior set (ishl 1 r)) i ↔ mb set i ∨ i = r) := fun i a => by rw [ior_m t1 b8, ishl_m (by omega) a]
          have hA2 : ∀ i, 0 ≤ i → (mb (ior set (μ1 253 r)) i ↔ mb set i ∨ (i < N ∧ K r i)) := fun i a => by rw [ior_m t1 ar.1, ar.2 i a]
          have bB := ior_b t1 b8
          have bA := ior_b t1 ar.1
          have pB : pc set + 1 ≤ pc (ior set (ishl 1 r)) := pc_lt bB (fun i a w => (hB i a).mpr (.inl w)) rb.1 ((hB r rb.1).mpr (.inr rfl)) rn
          have pA : pc set + 1 ≤ pc (ior set (μ1 253 r)) := pc_lt bA (fun i a w => (hA2 i a).mpr (.inl w)) jb.1 ((hA2 j jb.1).mpr (.inr ⟨jb.2, kj⟩)) jn
          have pb8 := pc_b (ior set (ishl 1 r))
          have wB := pwr_2 pB; have wA := pwr_2 pA
          have wB1 := pwr_1 (ior set (ishl 1 r)); have wA1 := pwr_1 (ior set (μ1 253 r))
          refine Ev_ite (fun q => ?_) (fun q => ?_)
          · have hs1 : v3 ≠ -1 ∧ pc v3 ≤ pc set := by rcases hs0 with w | w; omega; exact w.2
            try simp (disch := omega) only [w32_eq, w64_eq, chk_T, chk_t, lt, lm, ob, Int.add_zero, Int.zero_add, true_and, and_true, if_true, if_false, ]
            refine Ev_in ⟨f1, ⟨(by first | omega | (dsimp only; omega) | (dsimp only)), (by first | omega | (dsimp only; omega) | (dsimp only)), i3, fun j a b => i4 j a (by dsimp only at b; omega), fun x x0 x1 hx => ?_, ?_⟩⟩ (by first | omega | (dsimp only; omega) | (dsimp only))
            · dsimp only
              rcases i5 x x0 x1 hx with w | ⟨w, jj, hj, w2⟩
              · exact .inl w
              · by_cases e : jj = v4 - 1
                · rw [e, hset] at w2
                  left
                  refine ⟨hs1.1, ?_⟩
                  have : pc set + 1 ≤ pc x := by
                    rcases w.2.2 r j rb.1 rb.2 jb.1 jb.2 kj with u | u
                    · exact pc_lt ⟨x0, x1⟩ w2 rb.1 u rn
                    · exact pc_lt ⟨x0, x1⟩ w2 jb.1 u jn
                  have v256 : v3 < 256 := by rcases i3 with w | w; omega; exact w.1.2
                  unfold kp; omega
                · exact .inr ⟨w, jj, by omega, w2⟩
            · dsimp only; omega
          · simp (disch := omega) only [w32_eq, w64_eq, chk_T, chk_t, lt, lm, ob, Int.add_zero, Int.zero_add, true_and, and_true, if_true, if_false, K100, K101, K102, K103, K104, K200, K201, K230, K231, K232, K233, K234, K235, K236, K237, K250, K251, K252, K253, K254, K300, K301, K302, K303, K304, N101, N102, N103, N104, N201, N232, N233, N234, N235, N236, N237, N251, N252, N253, N254, N301, N302, N303, N304, g11, g10, mst_n]
            rw [if_neg (by omega)]
            try simp (disch := omega) only [w32_eq, w64_eq, chk_T, chk_t, lt, lm, ob, Int.add_zero, Int.zero_add, true_and, and_true, if_true, if_false, g11, g10, mst_n]
            rw [show v4 - 1 + 2 = v4 + 1 by omega, show v4 - 1 + 1 = v4 by omega]
            have o : ∀ j, j < v4 - 1 → mst (mst μ1 254 (v4 - 1) (ior set (μ1 253 r))) 254 v4 (ior set (ishl 1 r)) 254 j = μ1 254 j := fun j hj => by rw [mst_j (by omega), mst_j (by omega)]
            have oA : mst (mst μ1 254 (v4 - 1) (ior set (μ1 253 r))) 254 v4 (ior set (ishl 1 r)) 254 (v4 - 1) = ior set (μ1 253 r) := by rw [mst_j (by omega), mst_s]
            have oB : mst (mst μ1 254 (v4 - 1) (ior set (μ1 253 r))) 254 v4 (ior set (ishl 1 r)) 254 v4 = ior set (ishl 1 r) := mst_s
            refine Ev_in ⟨(f1.st rfl).st rfl, ⟨(by first | omega | (dsimp only; omega) | (dsimp only)), (by first | omega | (dsimp only; omega) | (dsimp only)), i3, fun j' a b' => ?_, fun x x0 x1 hx => ?_, ?_⟩⟩ (by first | omega | (dsimp only; omega) | (dsimp only))
            · dsimp only at b' ⊢
              by_cases z1 : j' = v4
              · rw [z1, oB]
                refine ⟨bB, fun i a w => ?_, fun i a w => (hB i a).mpr (.inl (t3 i a w)), by omega⟩
                rcases (hB i a).mp w with u | u
                · exact t2 i a u
                · omega
              · by_cases z2 : j' = v4 - 1
                · rw [z2, oA]
                  refine ⟨bA, fun i a w => ?_, fun i a w => (hA2 i a).mpr (.inl (t3 i a w)), by omega⟩
                  rcases (hA2 i a).mp w with u | u
                  · exact t2 i a u
                  · exact u.1
                · rw [o j' (by omega)]; exact i4 j' a (by omega)
            · dsimp only
              rcases i5 x x0 x1 hx with w | ⟨w, jj, hj, w2⟩
              · exact .inl w
              · right
                refine ⟨w, ?_⟩
                by_cases e : jj = v4 - 1
                · rw [e, hset] at w2
                  by_cases u : mb x r
                  · refine ⟨v4, by omega, fun i a q => ?_⟩
                    rw [oB] at q
                    rcases (hB i a).mp q with q | q
                    · exact w2 i a q
                    · rw [q]; exact u
                  · refine ⟨v4 - 1, by omega, fun i a q => ?_⟩
                    rw [oA] at q
                    rcases (hA2 i a).mp q with q | q
                    · exact w2 i a q
                    · rcases w.2.2 r i rb.1 rb.2 a q.1 q.2 with v | v
                      · exact absurd v u
                      · exact v
                · exact ⟨jj, by omega, fun i a q => by rw [o jj (by omega)] at q; exact w2 i a q⟩
            · dsimp only
              rw [sm_s (by omega)]
              have e2 := sm_s (f := fun j => pwr (mst (mst μ1 254 (v4 - 1) (ior set (μ1 253 r))) 254 v4 (ior set (ishl 1 r)) 254 j)) (i := v4 - 1) (by omega)
              rw [show v4 - 1 + 1 = v4 by omega] at e2
              rw [e2, oA, oB]
              have e3 := sm_c (f := fun j => pwr (mst (mst μ1 254 (v4 - 1) (ior set (μ1 253 r))) 254 v4 (ior set (ishl 1 r)) 254 j)) (h := fun j => pwr (μ1 254 j)) (v4 - 1).toNat (fun i a b => by rw [o i (by omega)])
              rw [e3]
              omega
      refine Ev_ite (fun z1 => ?_) (fun z1 => ?_)
      · unfold jX1_fewestWith_65; exact key 1 (.inl rfl)
      · have v256 : 0 ≤ v3 ∧ v3 < 256 := by rcases i3 with w | w; exact absurd w z1; exact w.1
        rw [ibits_pc v256, ibits_pc t1]
        refine Ev_ite (fun z2 => key 0 (.inr ⟨rfl, z1, z2⟩)) (fun z2 => ?_)
        unfold jX1_fewestWith_65; exact key 1 (.inl rfl)
end
