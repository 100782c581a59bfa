/-! ===== feed ===== -/
section
variable {μ μ' μ1 μ2 : Mm} {b b' : Int → Int} {vb vb' n k L v : Int}
def fdR (x : Int) : Prop := x = 1000 ∨ x = 1001
theorem w_feed {a m c d e : Int} (h : LI μ vb) (hv : vb ≤ vb') (ha : R32 a) (hm : R32 m) (hc : R32 c) (hd : R32 d) (he : R32 e) : Ev (fX10_feed 100 a m c d e μ) (fun r => Wd vb' (fX11_feed 20000 a m c d e) r (Bd μ)) := by
  have a2 := h.a2
  have hX := h.nw.1
  have ok := h.ok
  have st := h.nw.2.2.2.1
  have t1 := h.t1
  have t0 := h.t0
  have tt := h.nw.2.2.2.2.1
  rw [show (1000 : Int) + 1 = 1001 by decide] at tt
  unfold fX10_feed
  simp (disch := omega) only [w32_eq, w64_eq, chk_T, chk_t, lt, lm, ob, Int.add_zero, Int.zero_add, true_and, and_true, if_true, if_false, K100, K101, K102, K103, K104, K200, K201, K230, K231, K232, K233, K234, K235, K236, K237, K250, K251, K252, K253, K254, K300, K301, K302, K303, K304, N101, N102, N103, N104, N201, N232, N233, N234, N235, N236, N237, N251, N252, N253, N254, N301, N302, N303, N304, X10F.f0 hX, X10F.f1 hX, X10F.f2 hX, X10F.f3 hX, X10F.f4 hX, X10F.f5 hX, X10F.f6 hX, X10F.f7 hX, X10F.f8 hX, X10F.f9 hX, X10F.f10 hX, K1000, t1]
  by_cases q : μ 20001 2 + 20 ≤ 700
  · rw [if_pos q]
    generalize hL : μ 20001 2 = L at *
    refine Ev_bind (c_append t0 t1 (by omega) a) (fun μa ⟨fa, la, oa, wa, ka⟩ => ?_)
    have xa : μa 100 = μ 100 := fa 100 (by decide)
    simp (disch := omega) only [w32_eq, w64_eq, chk_T, chk_t, lt, lm, ob, Int.add_zero, Int.zero_add, true_and, and_true, if_true, if_false, K100, K101, K102, K103, K104, K200, K201, K230, K231, K232, K233, K234, K235, K236, K237, K250, K251, K252, K253, K254, K300, K301, K302, K303, K304, N101, N102, N103, N104, N201, N232, N233, N234, N235, N236, N237, N251, N252, N253, N254, N301, N302, N303, N304, xa, X10F.f0 hX, X10F.f1 hX, X10F.f2 hX, X10F.f3 hX, X10F.f4 hX, X10F.f5 hX, X10F.f6 hX, X10F.f7 hX, X10F.f8 hX, X10F.f9 hX, X10F.f10 hX, K1000]
    refine Ev_bind (c_append ((oa 0 (by decide)).trans t0) la (by omega) m) (fun μb ⟨fb, lb, ob', wb, kb⟩ => ?_)
    have xb : μb 100 = μ 100 := (fb 100 (by decide)).trans xa
    have zb : μb 1000 0 = 1001 := (ob' 0 (by decide)).trans ((oa 0 (by decide)).trans t0)
    simp (disch := omega) only [w32_eq, w64_eq, chk_T, chk_t, lt, lm, ob, Int.add_zero, Int.zero_add, true_and, and_true, if_true, if_false, K100, K101, K102, K103, K104, K200, K201, K230, K231, K232, K233, K234, K235, K236, K237, K250, K251, K252, K253, K254, K300, K301, K302, K303, K304, N101, N102, N103, N104, N201, N232, N233, N234, N235, N236, N237, N251, N252, N253, N254, N301, N302, N303, N304, xb, X10F.f0 hX, X10F.f1 hX, X10F.f2 hX, X10F.f3 hX, X10F.f4 hX, X10F.f5 hX, X10F.f6 hX, X10F.f7 hX, X10F.f8 hX, X10F.f9 hX, X10F.f10 hX, K1000]
    refine Ev_bind (c_append zb lb (by omega) c) (fun μc ⟨fc, lc, oc, wc, kc⟩ => ?_)
    have xc : μc 100 = μ 100 := (fc 100 (by decide)).trans xb
    have zc : μc 1000 0 = 1001 := (oc 0 (by decide)).trans zb
    simp (disch := omega) only [w32_eq, w64_eq, chk_T, chk_t, lt, lm, ob, Int.add_zero, Int.zero_add, true_and, and_true, if_true, if_false, K100, K101, K102, K103, K104, K200, K201, K230, K231, K232, K233, K234, K235, K236, K237, K250, K251, K252, K253, K254, K300, K301, K302, K303, K304, N101, N102, N103, N104, N201, N232, N233, N234, N235, N236, N237, N251, N252, N253, N254, N301, N302, N303, N304, xc, X10F.f0 hX, X10F.f1 hX, X10F.f2 hX, X10F.f3 hX, X10F.f4 hX, X10F.f5 hX, X10F.f6 hX, X10F.f7 hX, X10F.f8 hX, X10F.f9 hX, X10F.f10 hX, K1000]
    refine Ev_bind (c_append zc lc (by omega) d) (fun μd ⟨fd, ld', od, wd, kd⟩ => ?_)
    have xd : μd 100 = μ 100 := (fd 100 (by decide)).trans xc
    have zd : μd 1000 0 = 1001 := (od 0 (by decide)).trans zc
    simp (disch := omega) only [w32_eq, w64_eq, chk_T, chk_t, lt, lm, ob, Int.add_zero, Int.zero_add, true_and, and_true, if_true, if_false, K100, K101, K102, K103, K104, K200, K201, K230, K231, K232, K233, K234, K235, K236, K237, K250, K251, K252, K253, K254, K300, K301, K302, K303, K304, N101, N102, N103, N104, N201, N232, N233, N234, N235, N236, N237, N251, N252, N253, N254, N301, N302, N303, N304, xd, X10F.f0 hX, X10F.f1 hX, X10F.f2 hX, X10F.f3 hX, X10F.f4 hX, X10F.f5 hX, X10F.f6 hX, X10F.f7 hX, X10F.f8 hX, X10F.f9 hX, X10F.f10 hX, K1000]
    refine Ev_bind (c_append zd ld' (by omega) e) (fun μe ⟨fe, le, oe, we, ke⟩ => ?_)
    have xe : μe 100 = μ 100 := (fe 100 (by decide)).trans xd
    simp (disch := omega) only [w32_eq, w64_eq, chk_T, chk_t, lt, lm, ob, Int.add_zero, Int.zero_add, true_and, and_true, if_true, if_false, K100, K101, K102, K103, K104, K200, K201, K230, K231, K232, K233, K234, K235, K236, K237, K250, K251, K252, K253, K254, K300, K301, K302, K303, K304, N101, N102, N103, N104, N201, N232, N233, N234, N235, N236, N237, N251, N252, N253, N254, N301, N302, N303, N304, xe, X10F.f0 hX, X10F.f1 hX, X10F.f2 hX, X10F.f3 hX, X10F.f4 hX, X10F.f5 hX, X10F.f6 hX, X10F.f7 hX, X10F.f8 hX, X10F.f9 hX, X10F.f10 hX, K1000]
    refine Ev_some ?_
    have f1 : Fw (fun x => x = 1000 ∨ x = 1001) μ μe := (((fa.tr fb).tr fc).tr fd).tr fe
    have o1 : ∀ j, j ≠ 1 → μe 1000 j = μ 1000 j := fun j hj => (oe j hj).trans ((od j hj).trans ((oc j hj).trans ((ob' j hj).trans (oa j hj))))
    have bb : μe 20001 = μ 20001 := f1 20001 (by decide)
    have M1 : Md μe := h.md.w (f1 20000 (by decide))
    unfold Wd
    refine Ev_mono (r_feed (b := μ 20001) M1 bb ha hm hc hd he (by omega)) ?_
    rintro ⟨r, μ3⟩ ⟨r1, r2, r3, r4, r5⟩
    dsimp only at r1 r2 r3 r4 r5 ⊢
    rw [hL] at r1 r3 r4 r5
    refine ⟨by rw [le, r1]; omega, ?_⟩
    have w1 : ∀ i, 0 ≤ i → i < 20 → μe 1001 (L + i) = by8 (fw5 a m c d e i) (i % 4) := by
      intro i i0 i1
      unfold fw5
      by_cases z1 : i < 4
      · rw [if_pos z1, ke _ (by omega), kd _ (by omega), kc _ (by omega), kb _ (by omega), wa i i0 z1, show i % 4 = i by omega]
      · rw [if_neg z1]
        by_cases z2 : i < 8
        · rw [if_pos z2, ke _ (by omega), kd _ (by omega), kc _ (by omega), show L + i = L + 4 + (i - 4) by omega, wb (i - 4) (by omega) (by omega), show i % 4 = i - 4 by omega]
        · rw [if_neg z2]
          by_cases z3 : i < 12
          · rw [if_pos z3, ke _ (by omega), kd _ (by omega), show L + i = L + 4 + 4 + (i - 8) by omega, wc (i - 8) (by omega) (by omega), show i % 4 = i - 8 by omega]
          · rw [if_neg z3]
            by_cases z4 : i < 16
            · rw [if_pos z4, ke _ (by omega), show L + i = L + 4 + 4 + 4 + (i - 12) by omega, wd (i - 12) (by omega) (by omega), show i % 4 = i - 12 by omega]
            · rw [if_neg z4, show L + i = L + 4 + 4 + 4 + 4 + (i - 16) by omega, we (i - 16) (by omega) (by omega), show i % 4 = i - 16 by omega]
    have w2 : ∀ j, j < L ∨ L + 20 ≤ j → μe 1001 j = μ 1001 j := fun j hj => by
      rw [ke _ (by omega), kd _ (by omega), kc _ (by omega), kb _ (by omega), ka _ (by omega)]
    have et : ∀ i, 0 ≤ i → i < 700 → μe 1001 i = μ3 20001 (10 + i) := by
      intro i i0 i1
      by_cases z : i < L ∨ L + 20 ≤ i
      · rw [w2 i z, r5 _ (by omega) (by omega)]; exact tt i i0 i1
      · have u := w1 (i - L) (by omega) (by omega)
        have u2 := r4 (i - L) (by omega) (by omega)
        rw [show L + (i - L) = i by omega] at u
        rw [show 10 + L + (i - L) = 10 + i by omega] at u2
        rw [u, u2]
    have k := LI_tape (vb' := vb') h f1 (fun j h1 _ _ => o1 j h1) r2 (by rw [le, r3]; omega) (by rw [o1 2 (by decide), r5 3 (by decide) (by omega)]; exact st.2.1) (by rw [o1 3 (by decide), r5 4 (by decide) (by omega)]; exact st.2.2.1) et (fun x x0 x1 x2 => by rw [r5 x (by omega) (by omega)]) (by rw [r3]; omega) (fun i i0 i1 => by
      by_cases z : i < L ∨ L + 20 ≤ i
      · rw [r5 _ (by omega) (by omega)]; exact ok.2.2.2.1 i i0 i1
      · have u2 := r4 (i - L) (by omega) (by omega)
        rw [show 10 + L + (i - L) = 10 + i by omega] at u2
        rw [u2]; exact by8_b _ _) (by rw [r5 3 (by decide) (by omega), r5 4 (by decide) (by omega)]; exact ok.2.2.2.2.2.2) hv
    exact ⟨k.1, k.2.symm⟩
  · rw [if_neg q]
    refine Ev_some ?_
    unfold Wd fX11_feed
    dsimp only
    simp (disch := omega) only [w32_eq, w64_eq, chk_T, chk_t, lt, lm, ob, Int.add_zero, Int.zero_add, true_and, and_true, if_true, if_false, K20000, K20001, K20002, K20003, K20004, K20005, K20006, K20007, K20008, K20009, K20010, K20011, K20012, K20013, K20014, K20015, K20016, K20017, K20018, K20019, N20001, N20002, N20003, N20004, N20005, N20006, N20007, N20008, N20009, N20010, N20011, N20012, N20013, N20014, N20015, N20016, N20017, N20018, N20019, Md_0 h.md]
    rw [if_neg q]
    exact Ev_some ⟨rfl, LI_v h hv, rfl⟩
end
