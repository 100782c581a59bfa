def mX11_isIn : MI := (RX11, cX11_isIn, 3, (some .boolean), "isIn", 0, 0, fun _ _ _ => True)
theorem cwX11_isIn : CWd yX11_isIn mX11_isIn 3 := ⟨ki_X11, kk_X11_isIn, ⟨by decide, by decide⟩, rfl⟩
def dtX11_isIn_0 : List (Nat × Instr × Nat) := [(0, .iload_n 0, 1), (1, .iload_n 1, 1), (2, .if_icmp .lt 12, 3), (5, .iload_n 0, 1), (6, .iload_n 2, 1), (7, .if_icmp .gt 7, 3), (10, .iconst 1, 1), (11, .goto 4, 3), (14, .iconst 0, 1), (15, .ireturn, 1)]
theorem ddX11_isIn_0 : (dtX11_isIn_0.all fun e => decide (decode mX11_isIn.2.1 e.1 = .ok (e.2.1, e.2.2))) = true := by decide +kernel
theorem daX11_isIn_0 (j : Nat) {pc n : Nat} {i : Instr} (h : dtX11_isIn_0[j]? = some (pc, i, n)) : decode mX11_isIn.2.1 pc = .ok (i, n) := dec_of (c := mX11_isIn.2.1) ddX11_isIn_0 h
def fX11_isIn (v0 v1 v2 : Int) : Option Int :=
  if v0 < v1 then
    some 0
  else
    if v2 < v0 then
      some 0
    else
      some 1
set_option maxRecDepth 20000 in
theorem gX11_isIn_0 (l : Launch) {F : FI} {v0 v1 v2 : Int} {μ : Mm} {t : Int} (h : fX11_isIn v0 v1 v2 = some t) (hK : F.1 = [(0, t)] ∧ F.2.1 = μ) : GM l mX11_isIn F 0 0 0 [(0, (0, v0)), (1, (0, v1)), (2, (0, v2))] [] μ := by
  unfold fX11_isIn at h
  refine GM_iload_n (pc := 0) 0 rfl (daX11_isIn_0 0 rfl) rfl ?_
  refine GM_iload_n (pc := 1) 1 rfl (daX11_isIn_0 1 rfl) rfl ?_
  refine GM_icmp_lt (pc := 2) 14 (daX11_isIn_0 2 rfl) rfl (fun c1 => ?_) (fun c1 => ?_)
  · skip
    rw [if_pos c1] at h
    refine GM_iconst (pc := 14) 0 (daX11_isIn_0 8 rfl) rfl (R32_b rfl) ?_
    cases h
    exact GM_zret (pc := 15) (daX11_isIn_0 9 rfl) rfl (Or.inl rfl) hK
  · skip
    rw [if_neg c1] at h
    refine GM_iload_n (pc := 5) 0 rfl (daX11_isIn_0 3 rfl) rfl ?_
    refine GM_iload_n (pc := 6) 2 rfl (daX11_isIn_0 4 rfl) rfl ?_
    refine GM_icmp_gt (pc := 7) 14 (daX11_isIn_0 5 rfl) rfl (fun c2 => ?_) (fun c2 => ?_)
    · skip
      rw [if_pos c2] at h
      refine GM_iconst (pc := 14) 0 (daX11_isIn_0 8 rfl) rfl (R32_b rfl) ?_
      cases h
      exact GM_zret (pc := 15) (daX11_isIn_0 9 rfl) rfl (Or.inl rfl) hK
    · skip
      rw [if_neg c2] at h
      refine GM_iconst (pc := 10) 1 (daX11_isIn_0 6 rfl) rfl (R32_b rfl) ?_
      refine GM_goto (pc := 11) 15 (daX11_isIn_0 7 rfl) rfl ?_
      cases h
      exact GM_zret (pc := 15) (daX11_isIn_0 9 rfl) rfl (Or.inr rfl) hK
theorem tX11_isIn (l : Launch) {v0 v1 v2 : Int} {μ : Mm} {t : Int} (h : fX11_isIn v0 v1 v2 = some t) : Ct l yX11_isIn mX11_isIn [(0, v0), (0, v1), (0, v2)] μ ([(0, t)], μ, 0, 0) :=
  Ct_of (by decide +kernel) rfl rfl (Nat.le_of_ble_eq_true rfl) (fun _ _ _ => trivial) (gX11_isIn_0 l h ⟨rfl, rfl⟩)
def mX11_isLetter : MI := (RX11, cX11_isLetter, 1, (some .boolean), "isLetter", 0, 0, fun _ _ _ => True)
theorem cwX11_isLetter : CWd yX11_isLetter mX11_isLetter 1 := ⟨ki_X11, kk_X11_isLetter, ⟨by decide, by decide⟩, rfl⟩
def dtX11_isLetter_0 : List (Nat × Instr × Nat) := [(0, .iload_n 0, 1), (1, .bipush 97, 2), (3, .if_icmp .lt 13, 3), (6, .iload_n 0, 1), (7, .bipush 122, 2), (9, .if_icmp .gt 7, 3), (12, .iconst 1, 1), (13, .goto 4, 3), (16, .iconst 0, 1), (17, .ireturn, 1)]
theorem ddX11_isLetter_0 : (dtX11_isLetter_0.all fun e => decide (decode mX11_isLetter.2.1 e.1 = .ok (e.2.1, e.2.2))) = true := by decide +kernel
theorem daX11_isLetter_0 (j : Nat) {pc n : Nat} {i : Instr} (h : dtX11_isLetter_0[j]? = some (pc, i, n)) : decode mX11_isLetter.2.1 pc = .ok (i, n) := dec_of (c := mX11_isLetter.2.1) ddX11_isLetter_0 h
def fX11_isLetter (v0 : Int) : Option Int :=
  if v0 < 97 then
    some 0
  else
    if 122 < v0 then
      some 0
    else
      some 1
set_option maxRecDepth 20000 in
theorem gX11_isLetter_0 (l : Launch) {F : FI} {v0 : Int} {μ : Mm} {t : Int} (h : fX11_isLetter v0 = some t) (hK : F.1 = [(0, t)] ∧ F.2.1 = μ) : GM l mX11_isLetter F 0 0 0 [(0, (0, v0))] [] μ := by
  unfold fX11_isLetter at h
  refine GM_iload_n (pc := 0) 0 rfl (daX11_isLetter_0 0 rfl) rfl ?_
  refine GM_bipush (pc := 1) 97 (daX11_isLetter_0 1 rfl) rfl (R32_b rfl) ?_
  refine GM_icmp_lt (pc := 3) 16 (daX11_isLetter_0 2 rfl) rfl (fun c1 => ?_) (fun c1 => ?_)
  · skip
    rw [if_pos c1] at h
    refine GM_iconst (pc := 16) 0 (daX11_isLetter_0 8 rfl) rfl (R32_b rfl) ?_
    cases h
    exact GM_zret (pc := 17) (daX11_isLetter_0 9 rfl) rfl (Or.inl rfl) hK
  · skip
    rw [if_neg c1] at h
    refine GM_iload_n (pc := 6) 0 rfl (daX11_isLetter_0 3 rfl) rfl ?_
    refine GM_bipush (pc := 7) 122 (daX11_isLetter_0 4 rfl) rfl (R32_b rfl) ?_
    refine GM_icmp_gt (pc := 9) 16 (daX11_isLetter_0 5 rfl) rfl (fun c2 => ?_) (fun c2 => ?_)
    · skip
      rw [if_pos c2] at h
      refine GM_iconst (pc := 16) 0 (daX11_isLetter_0 8 rfl) rfl (R32_b rfl) ?_
      cases h
      exact GM_zret (pc := 17) (daX11_isLetter_0 9 rfl) rfl (Or.inl rfl) hK
    · skip
      rw [if_neg c2] at h
      refine GM_iconst (pc := 12) 1 (daX11_isLetter_0 6 rfl) rfl (R32_b rfl) ?_
      refine GM_goto (pc := 13) 17 (daX11_isLetter_0 7 rfl) rfl ?_
      cases h
      exact GM_zret (pc := 17) (daX11_isLetter_0 9 rfl) rfl (Or.inr rfl) hK
theorem tX11_isLetter (l : Launch) {v0 : Int} {μ : Mm} {t : Int} (h : fX11_isLetter v0 = some t) : Ct l yX11_isLetter mX11_isLetter [(0, v0)] μ ([(0, t)], μ, 0, 0) :=
  Ct_of (by decide +kernel) rfl rfl (Nat.le_of_ble_eq_true rfl) (fun _ _ _ => trivial) (gX11_isLetter_0 l h ⟨rfl, rfl⟩)
def mX11_isDigit : MI := (RX11, cX11_isDigit, 1, (some .boolean), "isDigit", 0, 0, fun _ _ _ => True)
theorem cwX11_isDigit : CWd yX11_isDigit mX11_isDigit 1 := ⟨ki_X11, kk_X11_isDigit, ⟨by decide, by decide⟩, rfl⟩
def dtX11_isDigit_0 : List (Nat × Instr × Nat) := [(0, .iload_n 0, 1), (1, .bipush 48, 2), (3, .if_icmp .lt 13, 3), (6, .iload_n 0, 1), (7, .bipush 57, 2), (9, .if_icmp .gt 7, 3), (12, .iconst 1, 1), (13, .goto 4, 3), (16, .iconst 0, 1), (17, .ireturn, 1)]
theorem ddX11_isDigit_0 : (dtX11_isDigit_0.all fun e => decide (decode mX11_isDigit.2.1 e.1 = .ok (e.2.1, e.2.2))) = true := by decide +kernel
theorem daX11_isDigit_0 (j : Nat) {pc n : Nat} {i : Instr} (h : dtX11_isDigit_0[j]? = some (pc, i, n)) : decode mX11_isDigit.2.1 pc = .ok (i, n) := dec_of (c := mX11_isDigit.2.1) ddX11_isDigit_0 h
def fX11_isDigit (v0 : Int) : Option Int :=
  if v0 < 48 then
    some 0
  else
    if 57 < v0 then
      some 0
    else
      some 1
set_option maxRecDepth 20000 in
theorem gX11_isDigit_0 (l : Launch) {F : FI} {v0 : Int} {μ : Mm} {t : Int} (h : fX11_isDigit v0 = some t) (hK : F.1 = [(0, t)] ∧ F.2.1 = μ) : GM l mX11_isDigit F 0 0 0 [(0, (0, v0))] [] μ := by
  unfold fX11_isDigit at h
  refine GM_iload_n (pc := 0) 0 rfl (daX11_isDigit_0 0 rfl) rfl ?_
  refine GM_bipush (pc := 1) 48 (daX11_isDigit_0 1 rfl) rfl (R32_b rfl) ?_
  refine GM_icmp_lt (pc := 3) 16 (daX11_isDigit_0 2 rfl) rfl (fun c1 => ?_) (fun c1 => ?_)
  · skip
    rw [if_pos c1] at h
    refine GM_iconst (pc := 16) 0 (daX11_isDigit_0 8 rfl) rfl (R32_b rfl) ?_
    cases h
    exact GM_zret (pc := 17) (daX11_isDigit_0 9 rfl) rfl (Or.inl rfl) hK
  · skip
    rw [if_neg c1] at h
    refine GM_iload_n (pc := 6) 0 rfl (daX11_isDigit_0 3 rfl) rfl ?_
    refine GM_bipush (pc := 7) 57 (daX11_isDigit_0 4 rfl) rfl (R32_b rfl) ?_
    refine GM_icmp_gt (pc := 9) 16 (daX11_isDigit_0 5 rfl) rfl (fun c2 => ?_) (fun c2 => ?_)
    · skip
      rw [if_pos c2] at h
      refine GM_iconst (pc := 16) 0 (daX11_isDigit_0 8 rfl) rfl (R32_b rfl) ?_
      cases h
      exact GM_zret (pc := 17) (daX11_isDigit_0 9 rfl) rfl (Or.inl rfl) hK
    · skip
      rw [if_neg c2] at h
      refine GM_iconst (pc := 12) 1 (daX11_isDigit_0 6 rfl) rfl (R32_b rfl) ?_
      refine GM_goto (pc := 13) 17 (daX11_isDigit_0 7 rfl) rfl ?_
      cases h
      exact GM_zret (pc := 17) (daX11_isDigit_0 9 rfl) rfl (Or.inr rfl) hK
theorem tX11_isDigit (l : Launch) {v0 : Int} {μ : Mm} {t : Int} (h : fX11_isDigit v0 = some t) : Ct l yX11_isDigit mX11_isDigit [(0, v0)] μ ([(0, t)], μ, 0, 0) :=
  Ct_of (by decide +kernel) rfl rfl (Nat.le_of_ble_eq_true rfl) (fun _ _ _ => trivial) (gX11_isDigit_0 l h ⟨rfl, rfl⟩)
def mX3_isBlank : MI := (RX3, cX3_isBlank, 1, (some .boolean), "isBlank", 0, 0, fun _ _ _ => True)
theorem cwX3_isBlank : CWd yX3_isBlank mX3_isBlank 1 := ⟨ki_X3, kk_X3_isBlank, ⟨by decide, by decide⟩, rfl⟩
def dtX3_isBlank_0 : List (Nat × Instr × Nat) := [(0, .iload_n 0, 1), (1, .bipush 10, 2), (3, .if_icmp .eq 9, 3), (6, .iload_n 0, 1), (7, .bipush 32, 2), (9, .if_icmp .ne 7, 3), (12, .iconst 1, 1), (13, .goto 4, 3), (16, .iconst 0, 1), (17, .ireturn, 1)]
theorem ddX3_isBlank_0 : (dtX3_isBlank_0.all fun e => decide (decode mX3_isBlank.2.1 e.1 = .ok (e.2.1, e.2.2))) = true := by decide +kernel
theorem daX3_isBlank_0 (j : Nat) {pc n : Nat} {i : Instr} (h : dtX3_isBlank_0[j]? = some (pc, i, n)) : decode mX3_isBlank.2.1 pc = .ok (i, n) := dec_of (c := mX3_isBlank.2.1) ddX3_isBlank_0 h
def fX3_isBlank (v0 : Int) : Option Int :=
  if v0 = 10 then
    some 1
  else
    if v0 = 32 then
      some 1
    else
      some 0
set_option maxRecDepth 20000 in
theorem gX3_isBlank_0 (l : Launch) {F : FI} {v0 : Int} {μ : Mm} {t : Int} (h : fX3_isBlank v0 = some t) (hK : F.1 = [(0, t)] ∧ F.2.1 = μ) : GM l mX3_isBlank F 0 0 0 [(0, (0, v0))] [] μ := by
  unfold fX3_isBlank at h
  refine GM_iload_n (pc := 0) 0 rfl (daX3_isBlank_0 0 rfl) rfl ?_
  refine GM_bipush (pc := 1) 10 (daX3_isBlank_0 1 rfl) rfl (R32_b rfl) ?_
  refine GM_icmp_eq (pc := 3) 12 (daX3_isBlank_0 2 rfl) rfl (fun c1 => ?_) (fun c1 => ?_)
  · skip
    rw [if_pos c1] at h
    refine GM_iconst (pc := 12) 1 (daX3_isBlank_0 6 rfl) rfl (R32_b rfl) ?_
    refine GM_goto (pc := 13) 17 (daX3_isBlank_0 7 rfl) rfl ?_
    cases h
    exact GM_zret (pc := 17) (daX3_isBlank_0 9 rfl) rfl (Or.inr rfl) hK
  · skip
    rw [if_neg c1] at h
    refine GM_iload_n (pc := 6) 0 rfl (daX3_isBlank_0 3 rfl) rfl ?_
    refine GM_bipush (pc := 7) 32 (daX3_isBlank_0 4 rfl) rfl (R32_b rfl) ?_
    refine GM_icmp_ne (pc := 9) 16 (daX3_isBlank_0 5 rfl) rfl (fun c2 => ?_) (fun c2 => ?_)
    · skip
      rw [if_neg c2] at h
      refine GM_iconst (pc := 16) 0 (daX3_isBlank_0 8 rfl) rfl (R32_b rfl) ?_
      cases h
      exact GM_zret (pc := 17) (daX3_isBlank_0 9 rfl) rfl (Or.inl rfl) hK
    · skip
      rw [if_pos c2] at h
      refine GM_iconst (pc := 12) 1 (daX3_isBlank_0 6 rfl) rfl (R32_b rfl) ?_
      refine GM_goto (pc := 13) 17 (daX3_isBlank_0 7 rfl) rfl ?_
      cases h
      exact GM_zret (pc := 17) (daX3_isBlank_0 9 rfl) rfl (Or.inr rfl) hK
theorem tX3_isBlank (l : Launch) {v0 : Int} {μ : Mm} {t : Int} (h : fX3_isBlank v0 = some t) : Ct l yX3_isBlank mX3_isBlank [(0, v0)] μ ([(0, t)], μ, 0, 0) :=
  Ct_of (by decide +kernel) rfl rfl (Nat.le_of_ble_eq_true rfl) (fun _ _ _ => trivial) (gX3_isBlank_0 l h ⟨rfl, rfl⟩)
def mX3_isLetter : MI := (RX3, cX3_isLetter, 1, (some .boolean), "isLetter", 0, 0, fun _ _ _ => True)
theorem cwX3_isLetter : CWd yX3_isLetter mX3_isLetter 1 := ⟨ki_X3, kk_X3_isLetter, ⟨by decide, by decide⟩, rfl⟩
def dtX3_isLetter_0 : List (Nat × Instr × Nat) := [(0, .iload_n 0, 1), (1, .bipush 97, 2), (3, .if_icmp .lt 13, 3), (6, .iload_n 0, 1), (7, .bipush 122, 2), (9, .if_icmp .gt 7, 3), (12, .iconst 1, 1), (13, .goto 4, 3), (16, .iconst 0, 1), (17, .ireturn, 1)]
theorem ddX3_isLetter_0 : (dtX3_isLetter_0.all fun e => decide (decode mX3_isLetter.2.1 e.1 = .ok (e.2.1, e.2.2))) = true := by decide +kernel
theorem daX3_isLetter_0 (j : Nat) {pc n : Nat} {i : Instr} (h : dtX3_isLetter_0[j]? = some (pc, i, n)) : decode mX3_isLetter.2.1 pc = .ok (i, n) := dec_of (c := mX3_isLetter.2.1) ddX3_isLetter_0 h
def fX3_isLetter (v0 : Int) : Option Int :=
  if v0 < 97 then
    some 0
  else
    if 122 < v0 then
      some 0
    else
      some 1
set_option maxRecDepth 20000 in
theorem gX3_isLetter_0 (l : Launch) {F : FI} {v0 : Int} {μ : Mm} {t : Int} (h : fX3_isLetter v0 = some t) (hK : F.1 = [(0, t)] ∧ F.2.1 = μ) : GM l mX3_isLetter F 0 0 0 [(0, (0, v0))] [] μ := by
  unfold fX3_isLetter at h
  refine GM_iload_n (pc := 0) 0 rfl (daX3_isLetter_0 0 rfl) rfl ?_
  refine GM_bipush (pc := 1) 97 (daX3_isLetter_0 1 rfl) rfl (R32_b rfl) ?_
  refine GM_icmp_lt (pc := 3) 16 (daX3_isLetter_0 2 rfl) rfl (fun c1 => ?_) (fun c1 => ?_)
  · skip
    rw [if_pos c1] at h
    refine GM_iconst (pc := 16) 0 (daX3_isLetter_0 8 rfl) rfl (R32_b rfl) ?_
    cases h
    exact GM_zret (pc := 17) (daX3_isLetter_0 9 rfl) rfl (Or.inl rfl) hK
  · skip
    rw [if_neg c1] at h
    refine GM_iload_n (pc := 6) 0 rfl (daX3_isLetter_0 3 rfl) rfl ?_
    refine GM_bipush (pc := 7) 122 (daX3_isLetter_0 4 rfl) rfl (R32_b rfl) ?_
    refine GM_icmp_gt (pc := 9) 16 (daX3_isLetter_0 5 rfl) rfl (fun c2 => ?_) (fun c2 => ?_)
    · skip
      rw [if_pos c2] at h
      refine GM_iconst (pc := 16) 0 (daX3_isLetter_0 8 rfl) rfl (R32_b rfl) ?_
      cases h
      exact GM_zret (pc := 17) (daX3_isLetter_0 9 rfl) rfl (Or.inl rfl) hK
    · skip
      rw [if_neg c2] at h
      refine GM_iconst (pc := 12) 1 (daX3_isLetter_0 6 rfl) rfl (R32_b rfl) ?_
      refine GM_goto (pc := 13) 17 (daX3_isLetter_0 7 rfl) rfl ?_
      cases h
      exact GM_zret (pc := 17) (daX3_isLetter_0 9 rfl) rfl (Or.inr rfl) hK
theorem tX3_isLetter (l : Launch) {v0 : Int} {μ : Mm} {t : Int} (h : fX3_isLetter v0 = some t) : Ct l yX3_isLetter mX3_isLetter [(0, v0)] μ ([(0, t)], μ, 0, 0) :=
  Ct_of (by decide +kernel) rfl rfl (Nat.le_of_ble_eq_true rfl) (fun _ _ _ => trivial) (gX3_isLetter_0 l h ⟨rfl, rfl⟩)
def mX3_isDigit : MI := (RX3, cX3_isDigit, 1, (some .boolean), "isDigit", 0, 0, fun _ _ _ => True)
theorem cwX3_isDigit : CWd yX3_isDigit mX3_isDigit 1 := ⟨ki_X3, kk_X3_isDigit, ⟨by decide, by decide⟩, rfl⟩
def dtX3_isDigit_0 : List (Nat × Instr × Nat) := [(0, .iload_n 0, 1), (1, .bipush 48, 2), (3, .if_icmp .lt 13, 3), (6, .iload_n 0, 1), (7, .bipush 57, 2), (9, .if_icmp .gt 7, 3), (12, .iconst 1, 1), (13, .goto 4, 3), (16, .iconst 0, 1), (17, .ireturn, 1)]
theorem ddX3_isDigit_0 : (dtX3_isDigit_0.all fun e => decide (decode mX3_isDigit.2.1 e.1 = .ok (e.2.1, e.2.2))) = true := by decide +kernel
theorem daX3_isDigit_0 (j : Nat) {pc n : Nat} {i : Instr} (h : dtX3_isDigit_0[j]? = some (pc, i, n)) : decode mX3_isDigit.2.1 pc = .ok (i, n) := dec_of (c := mX3_isDigit.2.1) ddX3_isDigit_0 h
def fX3_isDigit (v0 : Int) : Option Int :=
  if v0 < 48 then
    some 0
  else
    if 57 < v0 then
      some 0
    else
      some 1
set_option maxRecDepth 20000 in
theorem gX3_isDigit_0 (l : Launch) {F : FI} {v0 : Int} {μ : Mm} {t : Int} (h : fX3_isDigit v0 = some t) (hK : F.1 = [(0, t)] ∧ F.2.1 = μ) : GM l mX3_isDigit F 0 0 0 [(0, (0, v0))] [] μ := by
  unfold fX3_isDigit at h
  refine GM_iload_n (pc := 0) 0 rfl (daX3_isDigit_0 0 rfl) rfl ?_
  refine GM_bipush (pc := 1) 48 (daX3_isDigit_0 1 rfl) rfl (R32_b rfl) ?_
  refine GM_icmp_lt (pc := 3) 16 (daX3_isDigit_0 2 rfl) rfl (fun c1 => ?_) (fun c1 => ?_)
  · skip
    rw [if_pos c1] at h
    refine GM_iconst (pc := 16) 0 (daX3_isDigit_0 8 rfl) rfl (R32_b rfl) ?_
    cases h
    exact GM_zret (pc := 17) (daX3_isDigit_0 9 rfl) rfl (Or.inl rfl) hK
  · skip
    rw [if_neg c1] at h
    refine GM_iload_n (pc := 6) 0 rfl (daX3_isDigit_0 3 rfl) rfl ?_
    refine GM_bipush (pc := 7) 57 (daX3_isDigit_0 4 rfl) rfl (R32_b rfl) ?_
    refine GM_icmp_gt (pc := 9) 16 (daX3_isDigit_0 5 rfl) rfl (fun c2 => ?_) (fun c2 => ?_)
    · skip
      rw [if_pos c2] at h
      refine GM_iconst (pc := 16) 0 (daX3_isDigit_0 8 rfl) rfl (R32_b rfl) ?_
      cases h
      exact GM_zret (pc := 17) (daX3_isDigit_0 9 rfl) rfl (Or.inl rfl) hK
    · skip
      rw [if_neg c2] at h
      refine GM_iconst (pc := 12) 1 (daX3_isDigit_0 6 rfl) rfl (R32_b rfl) ?_
      refine GM_goto (pc := 13) 17 (daX3_isDigit_0 7 rfl) rfl ?_
      cases h
      exact GM_zret (pc := 17) (daX3_isDigit_0 9 rfl) rfl (Or.inr rfl) hK
theorem tX3_isDigit (l : Launch) {v0 : Int} {μ : Mm} {t : Int} (h : fX3_isDigit v0 = some t) : Ct l yX3_isDigit mX3_isDigit [(0, v0)] μ ([(0, t)], μ, 0, 0) :=
  Ct_of (by decide +kernel) rfl rfl (Nat.le_of_ble_eq_true rfl) (fun _ _ _ => trivial) (gX3_isDigit_0 l h ⟨rfl, rfl⟩)
def isIn (v a b : Int) : Int := if a ≤ v ∧ v ≤ b then 1 else 0
def isLet (c : Int) : Int := isIn c 97 122
def isDig (c : Int) : Int := isIn c 48 57
def isBla (c : Int) : Int := if c = 10 ∨ c = 32 then 1 else 0
theorem isIn_01 (v a b : Int) : isIn v a b = 0 ∨ isIn v a b = 1 := by unfold isIn; split <;> simp
theorem fX11_isIn_eq (v a b : Int) : fX11_isIn v a b = some (isIn v a b) := by
  unfold fX11_isIn isIn
  repeat' split
  all_goals first | rfl | (exfalso; omega)
theorem fX11_isLetter_eq (c : Int) : fX11_isLetter c = some (isLet c) := by
  unfold fX11_isLetter isLet isIn
  repeat' split
  all_goals first | rfl | (exfalso; omega)
theorem fX11_isDigit_eq (c : Int) : fX11_isDigit c = some (isDig c) := by
  unfold fX11_isDigit isDig isIn
  repeat' split
  all_goals first | rfl | (exfalso; omega)
theorem fX3_isLetter_eq (c : Int) : fX3_isLetter c = some (isLet c) := by
  unfold fX3_isLetter isLet isIn
  repeat' split
  all_goals first | rfl | (exfalso; omega)
theorem fX3_isDigit_eq (c : Int) : fX3_isDigit c = some (isDig c) := by
  unfold fX3_isDigit isDig isIn
  repeat' split
  all_goals first | rfl | (exfalso; omega)
theorem fX3_isBlank_eq (c : Int) : fX3_isBlank c = some (isBla c) := by
  unfold fX3_isBlank isBla
  repeat' split
  all_goals first | rfl | (exfalso; omega)
