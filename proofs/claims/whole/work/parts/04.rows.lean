theorem rng_set {N k : Nat} {g g' : Nat → Value} (hk : k < N) (h : ∀ j, j ≠ k → g' j = g j) : ((List.range N).map g).set k (g' k) = (List.range N).map g' := by
  apply List.ext_getElem?
  intro i
  rw [List.getElem?_set]
  by_cases hi : k = i
  · subst hi
    rw [if_pos rfl, if_pos (by rw [List.length_map, List.length_range]; exact hk), List.getElem?_map, List.getElem?_range hk]; rfl
  · rw [if_neg hi, List.getElem?_map, List.getElem?_map]
    cases hc : (List.range N)[i]? with
    | none => rfl
    | some b =>
      have hb : b = i := by
        have hl := (List.getElem?_eq_some_iff.mp hc).1
        rw [List.length_range] at hl
        rw [List.getElem?_range hl] at hc
        exact (Option.some.inj hc).symm
      show some (g b) = some (g' b)
      rw [h b (by omega)]
theorem GM_getf {l : Launch} {M : MI} {F : FI} {k n pc : Nat} {L : List (Nat × AV)} {st : List AV} {μ : Mm} {i : Nat} (ci kf t : Nat) (kz : Int) {a : Int} (hw : Cond.fieldLink M.1 i ((clOf ci).2.1 kf).1 ((clOf ci).2.1 kf).2.1 ((clOf ci).2.1 kf).2.2.1 ∈ Wt) (hci : ci < 12) (hkf : kf < NF ci) (ht : stt (FT ci (kf : Int)) = t) (d : decode M.2.1 pc = .ok (.getfield i, 3)) (hka : KD a = ci) (hkz : (kf : Int) = kz) (K : GM l M F k n (pc + 3) L ((t, μ a kz) :: st) μ) : GM l M F k n pc L ((3, a) :: st) μ := by
  subst hkz
  intro p e s m args below meth c D cA adK adV ad0 ids0 C ad ids H locs cells slots ls hR ha hL hst hS hl hk hn
  obtain ⟨hx, hb, hml, hown, hts, hK, hr, hlk, hnm, hXx⟩ := id C
  obtain ⟨hva, hst⟩ := okc hst
  obtain ⟨hin, hne, q, hq, hg⟩ := hR.there hva (by rw [hka]; omega)
  rw [ent_o (by rw [hka]; exact hci), hka] at hg
  have hok := hR.ok hin (j := (kf : Int)) (by omega) (by rw [szo_o (by rw [hka]; exact hci), hka]; omega)
  rw [hka] at hok
  rw [List.map_cons, cv_r ad hne]
  refine va_get hx hb hts (cl_in hci) hown hK.1 hR.1 q hg (cl_at hci) kf (by rw [cl_n hci]; exact hkf) (hts _ hw) (fun _ h => h) (v := cv ad (t, μ a (kf : Int))) ?_ d (K p e s m args below meth c D cA adK adV ad0 ids0 C ad ids H locs cells slots ls hR ha hL (ok_c (by rw [← ht]; exact okv_st hok) hst) hS hl hk hn)
  rw [List.getElem?_map, List.getElem?_range hkf, ← ht, cv_st]; rfl
theorem GM_putf {l : Launch} {M : MI} {F : FI} {k n pc : Nat} {L : List (Nat × AV)} {st : List AV} {μ : Mm} {i : Nat} (ci kf t : Nat) {a x : Int} (hw : Cond.fieldLink M.1 i ((clOf ci).2.1 kf).1 ((clOf ci).2.1 kf).2.1 ((clOf ci).2.1 kf).2.2.1 ∈ Wt) (hci : ci < 12) (hkf : kf < NF ci) (ht : stt (FT ci (kf : Int)) = t) (hfin : ((clOf ci).2.1 kf).2.2.2 = false) (d : decode M.2.1 pc = .ok (.putfield i, 3)) (hka : KD a = ci) (hz : FT ci (kf : Int) = 1 → x = 0 ∨ x = 1) (K : GM l M F k n (pc + 3) L st (mst μ a (kf : Int) x)) : GM l M F k n pc L ((t, x) :: (3, a) :: st) μ := by
  intro p e s m args below meth c D cA adK adV ad0 ids0 C ad ids H locs cells slots ls hR ha hL hst hS hl hk hn
  obtain ⟨hx, hb, hml, hown, hts, hK, hr, hlk, hnm, hXx⟩ := id C
  obtain ⟨hvx, hst⟩ := okc hst
  obtain ⟨hva, hst⟩ := okc hst
  obtain ⟨hin, hne, q, hq, hg⟩ := hR.there hva (by rw [hka]; omega)
  rw [ent_o (by rw [hka]; exact hci), hka] at hg
  have hok : okv (μ 0) (FT ci (kf : Int), x) := by
    by_cases h1 : FT ci (kf : Int) = 1
    · rw [h1]; exact hz h1
    · have : stt (FT ci (kf : Int)) = FT ci (kf : Int) := by unfold stt; rw [if_neg h1]
      rw [← this, ht]; exact hvx
  have hft : FT ci (kf : Int) = tc (tyOf ci kf) := FT_o hci
  have hok2 := hok
  rw [hft] at hok2
  obtain ⟨hn1, hn2⟩ := nar_ok ad hok2
  have hkf2 : kf < (clOf ci).2.2 := by rw [cl_n hci]; exact hkf
  rw [List.map_cons, List.map_cons, cv_r ad hne, ← ht, cv_st, hft]
  refine va_put hx hb hts (cl_in hci) (tyOf ci) (cl_ty hci) (cl_nm hci) hown hK.1 hR.1 hR.2.1 hS q hg (cl_at hci) kf hkf2 (hts _ hw) (fun _ h => h) hfin (cl_ty hci kf hkf2) hn1 hn2 (by rw [List.length_map, List.length_range]; exact hkf) d (fun H1 locs1 hP1 hD1 hS1 => ?_)
  have hE : ent cA ad a (mst μ a (kf : Int) x a) = .inr (ci, ((List.range (NF ci)).map fun j : Nat => cv ad (FT ci (j : Int), μ a (j : Int))).set kf (cv ad (tc (tyOf ci kf), x))) := by
    rw [ent_o (by rw [hka]; exact hci), hka]
    congr 2
    rw [← hft]
    have h1 := rng_set (g := fun j : Nat => cv ad (FT ci (j : Int), μ a (j : Int))) (g' := fun j : Nat => cv ad (FT ci (j : Int), mst μ a (kf : Int) x a (j : Int))) hkf (fun j hj => by show cv ad (FT ci (j : Int), mst μ a (kf : Int) x a (j : Int)) = _; rw [mst_j (by omega)])
    rw [← h1, mst_s]
  have hR1 := hR.put hin hq hne hE hP1 hD1 (by rw [hka]; exact hok)
  have e0 : mst μ a (kf : Int) x 0 = μ 0 := mst_n (Ne.symm hne)
  exact K p e s m args below meth c D cA adK adV ad0 ids0 C ad ids H1 locs1 cells slots ls hR1 ha (by rw [e0]; exact hL) (by rw [e0]; exact hst) hS1 hl hk hn
theorem GM_putF {l : Launch} {M : MI} {F : FI} {k n pc : Nat} {L : List (Nat × AV)} {st : List AV} {μ : Mm} {i : Nat} (ci kf t : Nat) {a x : Int} (hw : Cond.fieldLink M.1 i ((clOf ci).2.1 kf).1 ((clOf ci).2.1 kf).2.1 ((clOf ci).2.1 kf).2.2.1 ∈ Wt) (hci : ci < 12) (hkf : kf < NF ci) (ht : stt (FT ci (kf : Int)) = t) (hfin : ((clOf ci).2.1 kf).2.2.2 = true) (hin2 : M.2.2.2.2.1 = "<init>") (hdecl : ((clOf ci).2.1 kf).1 = M.1) (d : decode M.2.1 pc = .ok (.putfield i, 3)) (hka : KD a = ci) (hz : FT ci (kf : Int) = 1 → x = 0 ∨ x = 1) (K : GM l M F k n (pc + 3) L st (mst μ a (kf : Int) x)) : GM l M F k n pc L ((t, x) :: (3, a) :: st) μ := by
  intro p e s m args below meth c D cA adK adV ad0 ids0 C ad ids H locs cells slots ls hR ha hL hst hS hl hk hn
  obtain ⟨hx, hb, hml, hown, hts, hK, hr, hlk, hnm, hXx⟩ := id C
  obtain ⟨hvx, hst⟩ := okc hst
  obtain ⟨hva, hst⟩ := okc hst
  obtain ⟨hin, hne, q, hq, hg⟩ := hR.there hva (by rw [hka]; omega)
  rw [ent_o (by rw [hka]; exact hci), hka] at hg
  have hok : okv (μ 0) (FT ci (kf : Int), x) := by
    by_cases h1 : FT ci (kf : Int) = 1
    · rw [h1]; exact hz h1
    · have : stt (FT ci (kf : Int)) = FT ci (kf : Int) := by unfold stt; rw [if_neg h1]
      rw [← this, ht]; exact hvx
  have hft : FT ci (kf : Int) = tc (tyOf ci kf) := FT_o hci
  have hok2 := hok
  rw [hft] at hok2
  obtain ⟨hn1, hn2⟩ := nar_ok ad hok2
  have hkf2 : kf < (clOf ci).2.2 := by rw [cl_n hci]; exact hkf
  rw [List.map_cons, List.map_cons, cv_r ad hne, ← ht, cv_st, hft]
  refine va_putF hx hb hts (cl_in hci) (tyOf ci) (cl_ty hci) (cl_nm hci) hown hK.1 hR.1 hR.2.1 hS q hg (cl_at hci) kf hkf2 (hts _ hw) (fun _ h => h) hfin (hnm.trans hin2) hdecl (cl_ty hci kf hkf2) hn1 hn2 (by rw [List.length_map, List.length_range]; exact hkf) d (fun H1 locs1 hP1 hD1 hS1 => ?_)
  have hE : ent cA ad a (mst μ a (kf : Int) x a) = .inr (ci, ((List.range (NF ci)).map fun j : Nat => cv ad (FT ci (j : Int), μ a (j : Int))).set kf (cv ad (tc (tyOf ci kf), x))) := by
    rw [ent_o (by rw [hka]; exact hci), hka]
    congr 2
    rw [← hft]
    have h1 := rng_set (g := fun j : Nat => cv ad (FT ci (j : Int), μ a (j : Int))) (g' := fun j : Nat => cv ad (FT ci (j : Int), mst μ a (kf : Int) x a (j : Int))) hkf (fun j hj => by show cv ad (FT ci (j : Int), mst μ a (kf : Int) x a (j : Int)) = _; rw [mst_j (by omega)])
    rw [← h1, mst_s]
  have hR1 := hR.put hin hq hne hE hP1 hD1 (by rw [hka]; exact hok)
  have e0 : mst μ a (kf : Int) x 0 = μ 0 := mst_n (Ne.symm hne)
  exact K p e s m args below meth c D cA adK adV ad0 ids0 C ad ids H1 locs1 cells slots ls hR1 ha (by rw [e0]; exact hL) (by rw [e0]; exact hst) hS1 hl hk hn
theorem GM_iald {l : Launch} {M : MI} {F : FI} {k n pc : Nat} {L : List (Nat × AV)} {st : List AV} {μ : Mm} {a j : Int} (d : decode M.2.1 pc = .ok (.iaload, 1)) (hka : KD a = 12) (h0 : 0 ≤ j) (hj : j < LN a) (K : GM l M F k n (pc + 1) L ((0, μ a j) :: st) μ) : GM l M F k n pc L ((0, j) :: (3, a) :: st) μ := by
  intro p e s m args below meth c D cA adK adV ad0 ids0 C ad ids H locs cells slots ls hR ha hL hst hS hl hk hn
  obtain ⟨hx, hb, hml, hown, hts, hK, hr, hlk, hnm, hXx⟩ := id C
  obtain ⟨hvj, hst⟩ := okc hst
  obtain ⟨hva, hst⟩ := okc hst
  obtain ⟨hin, hne, q, hq, hg⟩ := hR.there hva (by rw [hka]; omega)
  rw [ent_i hka] at hg
  have hok := hR.ok hin h0 (by rw [szo_a (by rw [hka]; omega)]; exact hj)
  rw [hka] at hok
  rw [List.map_cons, List.map_cons, cv_r ad hne]
  refine va_iald hx hb hK.1 hR.1 q 0 hg rfl (i32_in hvj h0 hj) d ?_
  have K1 := K p e s m args below meth c D cA adK adV ad0 ids0 C ad ids H locs cells slots ls hR ha hL (ok_c (v := (0, μ a j)) (okv_st hok) hst) hS hl hk hn
  have e1 : ((((Int32.ofInt j).toNatClampNeg : Nat)) : Int) = j := by rw [i32_n hvj]; omega
  rw [e1]; exact K1
theorem GM_zald {l : Launch} {M : MI} {F : FI} {k n pc : Nat} {L : List (Nat × AV)} {st : List AV} {μ : Mm} {a j : Int} (d : decode M.2.1 pc = .ok (.baload, 1)) (hka : KD a = 14) (h0 : 0 ≤ j) (hj : j < LN a) (K : GM l M F k n (pc + 1) L ((0, μ a j) :: st) μ) : GM l M F k n pc L ((0, j) :: (3, a) :: st) μ := by
  intro p e s m args below meth c D cA adK adV ad0 ids0 C ad ids H locs cells slots ls hR ha hL hst hS hl hk hn
  obtain ⟨hx, hb, hml, hown, hts, hK, hr, hlk, hnm, hXx⟩ := id C
  obtain ⟨hvj, hst⟩ := okc hst
  obtain ⟨hva, hst⟩ := okc hst
  obtain ⟨hin, hne, q, hq, hg⟩ := hR.there hva (by rw [hka]; omega)
  rw [ent_z hka] at hg
  have hok := hR.ok hin h0 (by rw [szo_a (by rw [hka]; omega)]; exact hj)
  rw [hka] at hok
  rw [List.map_cons, List.map_cons, cv_r ad hne]
  refine va_zald hx hb hK.1 hR.1 q 2 hg rfl (i32_in hvj h0 hj) d ?_
  have K1 := K p e s m args below meth c D cA adK adV ad0 ids0 C ad ids H locs cells slots ls hR ha hL (ok_c (v := (0, μ a j)) (okv_st hok) hst) hS hl hk hn
  have e1 : ((((Int32.ofInt j).toNatClampNeg : Nat)) : Int) = j := by rw [i32_n hvj]; omega
  rw [e1]; exact K1
theorem GM_lald {l : Launch} {M : MI} {F : FI} {k n pc : Nat} {L : List (Nat × AV)} {st : List AV} {μ : Mm} {a j : Int} (d : decode M.2.1 pc = .ok (.laload, 1)) (hka : KD a = 13) (h0 : 0 ≤ j) (hj : j < LN a) (K : GM l M F k n (pc + 1) L ((2, μ a j) :: st) μ) : GM l M F k n pc L ((0, j) :: (3, a) :: st) μ := by
  intro p e s m args below meth c D cA adK adV ad0 ids0 C ad ids H locs cells slots ls hR ha hL hst hS hl hk hn
  obtain ⟨hx, hb, hml, hown, hts, hK, hr, hlk, hnm, hXx⟩ := id C
  obtain ⟨hvj, hst⟩ := okc hst
  obtain ⟨hva, hst⟩ := okc hst
  obtain ⟨hin, hne, q, hq, hg⟩ := hR.there hva (by rw [hka]; omega)
  rw [ent_l hka] at hg
  have hok := hR.ok hin h0 (by rw [szo_a (by rw [hka]; omega)]; exact hj)
  rw [hka] at hok
  rw [List.map_cons, List.map_cons, cv_r ad hne]
  refine va_lald hx hb hK.1 hR.1 q 1 hg rfl (i32_in hvj h0 hj) d ?_
  have K1 := K p e s m args below meth c D cA adK adV ad0 ids0 C ad ids H locs cells slots ls hR ha hL (ok_c (v := (2, μ a j)) (hok) hst) hS hl hk hn
  have e1 : ((((Int32.ofInt j).toNatClampNeg : Nat)) : Int) = j := by rw [i32_n hvj]; omega
  rw [e1]; exact K1
theorem GM_aald {l : Launch} {M : MI} {F : FI} {k n pc : Nat} {L : List (Nat × AV)} {st : List AV} {μ : Mm} {a j : Int} (kd ci : Nat) (hkd : 15 ≤ kd) (hkd2 : kd < 99) (hty : ∀ cA : Nat → ClassId, (tysOf cA)[kd - 12]? = some (cA kd, .object (clOf ci).1)) (d : decode M.2.1 pc = .ok (.aaload, 1)) (hka : KD a = kd) (h0 : 0 ≤ j) (hj : j < LN a) (K : GM l M F k n (pc + 1) L ((3, μ a j) :: st) μ) : GM l M F k n pc L ((0, j) :: (3, a) :: st) μ := by
  intro p e s m args below meth c D cA adK adV ad0 ids0 C ad ids H locs cells slots ls hR ha hL hst hS hl hk hn
  obtain ⟨hx, hb, hml, hown, hts, hK, hr, hlk, hnm, hXx⟩ := id C
  obtain ⟨hvj, hst⟩ := okc hst
  obtain ⟨hva, hst⟩ := okc hst
  obtain ⟨hin, hne, q, hq, hg⟩ := hR.there hva (by rw [hka]; exact hkd2)
  rw [ent_r hka hkd] at hg
  have hok := hR.ok hin h0 (by rw [szo_a (by rw [hka]; omega)]; exact hj)
  rw [hka, show FT kd j = 3 by unfold FT; rw [if_neg (by omega), if_neg (by omega), if_neg (by omega), if_neg (by omega)]] at hok
  rw [List.map_cons, List.map_cons, cv_r ad hne]
  refine va_aldq hx hb hK.1 hR.1 q (kd - 12) hg (hty cA) (i32_in hvj h0 hj) d ?_
  have K1 := K p e s m args below meth c D cA adK adV ad0 ids0 C ad ids H locs cells slots ls hR ha hL (ok_c (v := (3, μ a j)) hok hst) hS hl hk hn
  have e1 : ((((Int32.ofInt j).toNatClampNeg : Nat)) : Int) = j := by rw [i32_n hvj]; omega
  have e2 : va_rf (if ((((Int32.ofInt j).toNatClampNeg : Nat)) : Int) < LN a ∧ μ a ((((Int32.ofInt j).toNatClampNeg : Nat)) : Int) ≠ 0 then some (ad (μ a ((((Int32.ofInt j).toNatClampNeg : Nat)) : Int))) else none) = cv ad (3, μ a j) := by
    rw [e1]
    by_cases hz : μ a j = 0
    · rw [if_neg (fun q => q.2 hz), hz]; rfl
    · rw [if_pos ⟨hj, hz⟩, cv_r ad hz]; rfl
  rw [e2]; exact K1
theorem GM_iast {l : Launch} {M : MI} {F : FI} {k n pc : Nat} {L : List (Nat × AV)} {st : List AV} {μ : Mm} {a j x : Int} (d : decode M.2.1 pc = .ok (.iastore, 1)) (hka : KD a = 12) (h0 : 0 ≤ j) (hj : j < LN a) (K : GM l M F k n (pc + 1) L st (mst μ a j x)) : GM l M F k n pc L ((0, x) :: (0, j) :: (3, a) :: st) μ := by
  intro p e s m args below meth c D cA adK adV ad0 ids0 C ad ids H locs cells slots ls hR ha hL hst hS hl hk hn
  obtain ⟨hx, hb, hml, hown, hts, hK, hr, hlk, hnm, hXx⟩ := id C
  obtain ⟨hvx, hst⟩ := okc hst
  obtain ⟨hvj, hst⟩ := okc hst
  obtain ⟨hva, hst⟩ := okc hst
  obtain ⟨hin, hne, q, hq, hg⟩ := hR.there hva (by rw [hka]; omega)
  rw [ent_i hka] at hg
  rw [List.map_cons, List.map_cons, List.map_cons, cv_r ad hne]
  refine va_iast hx hb hK.1 hR.1 hR.2.1 hS q 0 hg rfl (i32_in hvj h0 hj) d (fun H1 locs1 hP1 hD1 hS1 => ?_)
  have e1 : (Int32.ofInt j).toNatClampNeg = j.toNat := i32_n hvj
  have hE : ent cA ad a (mst μ a j x a) = .inl (cA 12, (LN a).toNat, .inl (upd (fun j : Nat => Int32.ofInt (μ a (j : Int))) (Int32.ofInt j).toNatClampNeg (Int32.ofInt x))) := by
    rw [ent_i hka, e1]
    congr 4
    funext i
    unfold upd
    by_cases hi : i = j.toNat
    · rw [if_pos hi]; rw [show (i : Int) = j by omega, mst_s]
    · rw [if_neg hi, mst_j (by omega)]
  have hR1 := hR.put hin hq hne hE hP1 hD1 (by rw [hka]; exact hvx)
  have e0 : mst μ a j x 0 = μ 0 := mst_n (Ne.symm hne)
  exact K p e s m args below meth c D cA adK adV ad0 ids0 C ad ids H1 locs1 cells slots ls hR1 ha (by rw [e0]; exact hL) (by rw [e0]; exact hst) hS1 hl hk hn
theorem GM_zast {l : Launch} {M : MI} {F : FI} {k n pc : Nat} {L : List (Nat × AV)} {st : List AV} {μ : Mm} {a j x : Int} (d : decode M.2.1 pc = .ok (.bastore, 1)) (hka : KD a = 14) (h0 : 0 ≤ j) (hj : j < LN a) (hz : x = 0 ∨ x = 1) (K : GM l M F k n (pc + 1) L st (mst μ a j x)) : GM l M F k n pc L ((0, x) :: (0, j) :: (3, a) :: st) μ := by
  intro p e s m args below meth c D cA adK adV ad0 ids0 C ad ids H locs cells slots ls hR ha hL hst hS hl hk hn
  obtain ⟨hx, hb, hml, hown, hts, hK, hr, hlk, hnm, hXx⟩ := id C
  obtain ⟨hvx, hst⟩ := okc hst
  obtain ⟨hvj, hst⟩ := okc hst
  obtain ⟨hva, hst⟩ := okc hst
  obtain ⟨hin, hne, q, hq, hg⟩ := hR.there hva (by rw [hka]; omega)
  rw [ent_z hka] at hg
  rw [List.map_cons, List.map_cons, List.map_cons, cv_r ad hne]
  refine va_zast hx hb hK.1 hR.1 hR.2.1 hS q 2 hg rfl (i32_in hvj h0 hj) d (fun H1 locs1 hP1 hD1 hS1 => ?_)
  have e1 : (Int32.ofInt j).toNatClampNeg = j.toNat := i32_n hvj
  have e3 : vp_nar .boolean (Int32.ofInt x) = Int32.ofInt x := by rcases hz with rfl | rfl <;> rfl
  rw [e3] at hP1 hD1
  have hE : ent cA ad a (mst μ a j x a) = .inl (cA 14, (LN a).toNat, .inl (upd (fun j : Nat => Int32.ofInt (μ a (j : Int))) (Int32.ofInt j).toNatClampNeg (Int32.ofInt x))) := by
    rw [ent_z hka, e1]
    congr 4
    funext i
    unfold upd
    by_cases hi : i = j.toNat
    · rw [if_pos hi]; rw [show (i : Int) = j by omega, mst_s]
    · rw [if_neg hi, mst_j (by omega)]
  have hR1 := hR.put hin hq hne hE hP1 hD1 (by rw [hka]; exact hz)
  have e0 : mst μ a j x 0 = μ 0 := mst_n (Ne.symm hne)
  exact K p e s m args below meth c D cA adK adV ad0 ids0 C ad ids H1 locs1 cells slots ls hR1 ha (by rw [e0]; exact hL) (by rw [e0]; exact hst) hS1 hl hk hn
theorem GM_last {l : Launch} {M : MI} {F : FI} {k n pc : Nat} {L : List (Nat × AV)} {st : List AV} {μ : Mm} {a j x : Int} (d : decode M.2.1 pc = .ok (.lastore, 1)) (hka : KD a = 13) (h0 : 0 ≤ j) (hj : j < LN a) (K : GM l M F k n (pc + 1) L st (mst μ a j x)) : GM l M F k n pc L ((2, x) :: (0, j) :: (3, a) :: st) μ := by
  intro p e s m args below meth c D cA adK adV ad0 ids0 C ad ids H locs cells slots ls hR ha hL hst hS hl hk hn
  obtain ⟨hx, hb, hml, hown, hts, hK, hr, hlk, hnm, hXx⟩ := id C
  obtain ⟨hvx, hst⟩ := okc hst
  obtain ⟨hvj, hst⟩ := okc hst
  obtain ⟨hva, hst⟩ := okc hst
  obtain ⟨hin, hne, q, hq, hg⟩ := hR.there hva (by rw [hka]; omega)
  rw [ent_l hka] at hg
  rw [List.map_cons, List.map_cons, List.map_cons, cv_r ad hne]
  refine va_last hx hb hK.1 hR.1 hR.2.1 hS q 1 hg rfl (i32_in hvj h0 hj) d (fun H1 locs1 hP1 hD1 hS1 => ?_)
  have e1 : (Int32.ofInt j).toNatClampNeg = j.toNat := i32_n hvj
  have hE : ent cA ad a (mst μ a j x a) = .inl (cA 13, (LN a).toNat, .inr (.inl (vp_updL (fun j : Nat => Int64.ofInt (μ a (j : Int))) (Int32.ofInt j).toNatClampNeg (Int64.ofInt x)))) := by
    rw [ent_l hka, e1]
    congr 5
    funext i
    unfold vp_updL
    by_cases hi : i = j.toNat
    · rw [if_pos hi]; rw [show (i : Int) = j by omega, mst_s]
    · rw [if_neg hi, mst_j (by omega)]
  have hR1 := hR.put hin hq hne hE hP1 hD1 (by rw [hka]; exact hvx)
  have e0 : mst μ a j x 0 = μ 0 := mst_n (Ne.symm hne)
  exact K p e s m args below meth c D cA adK adV ad0 ids0 C ad ids H1 locs1 cells slots ls hR1 ha (by rw [e0]; exact hL) (by rw [e0]; exact hst) hS1 hl hk hn
theorem GM_aast {l : Launch} {M : MI} {F : FI} {k n pc : Nat} {L : List (Nat × AV)} {st : List AV} {μ : Mm} {a j x : Int} (kd ci : Nat) (hkd : 15 ≤ kd) (hkd2 : kd < 99) (hci : ci < 12) (hty : ∀ cA : Nat → ClassId, (tysOf cA)[kd - 12]? = some (cA kd, .object (clOf ci).1)) (d : decode M.2.1 pc = .ok (.aastore, 1)) (hka : KD a = kd) (h0 : 0 ≤ j) (hj : j < LN a) (hkx : KD x = ci) (K : GM l M F k n (pc + 1) L st (mst μ a j x)) : GM l M F k n pc L ((3, x) :: (0, j) :: (3, a) :: st) μ := by
  intro p e s m args below meth c D cA adK adV ad0 ids0 C ad ids H locs cells slots ls hR ha hL hst hS hl hk hn
  obtain ⟨hx, hb, hml, hown, hts, hK, hr, hlk, hnm, hXx⟩ := id C
  obtain ⟨hvx, hst⟩ := okc hst
  obtain ⟨hvj, hst⟩ := okc hst
  obtain ⟨hva, hst⟩ := okc hst
  obtain ⟨hin, hne, q, hq, hg⟩ := hR.there hva (by rw [hka]; exact hkd2)
  obtain ⟨hinx, hnex, qx, hqx, hgx⟩ := hR.there hvx (by rw [hkx]; omega)
  rw [ent_r hka hkd] at hg
  rw [ent_o (by rw [hkx]; exact hci), hkx] at hgx
  rw [List.map_cons, List.map_cons, List.map_cons, cv_r ad hne, cv_r ad hnex]
  refine va_astq hx hb hK.1 hR.1 hR.2.1 hS q (kd - 12) qx ci hg (hty cA) hgx (cl_at hci) (i32_in hvj h0 hj) d (fun H1 locs1 hP1 hD1 hS1 => ?_)
  have e1 : (Int32.ofInt j).toNatClampNeg = j.toNat := i32_n hvj
  have hE : ent cA ad a (mst μ a j x a) = .inl (cA kd, (LN a).toNat, .inr (.inr (.inr (.inr (va_up (fun j : Nat => if (j : Int) < LN a ∧ μ a (j : Int) ≠ 0 then some (ad (μ a (j : Int))) else none) (Int32.ofInt j).toNatClampNeg (some (ad x))))))) := by
    rw [ent_r hka hkd, e1]
    congr 7
    funext i
    unfold va_up
    by_cases hi : i = j.toNat
    · rw [if_pos hi, show (i : Int) = j by omega, mst_s, if_pos ⟨hj, hnex⟩]
    · rw [if_neg hi, mst_j (by omega)]
  have hR1 := hR.put hin hq hne hE hP1 hD1 (by rw [hka, show FT kd j = 3 by unfold FT; rw [if_neg (by omega), if_neg (by omega), if_neg (by omega), if_neg (by omega)]]; exact hvx)
  have e0 : mst μ a j x 0 = μ 0 := mst_n (Ne.symm hne)
  exact K p e s m args below meth c D cA adK adV ad0 ids0 C ad ids H1 locs1 cells slots ls hR1 ha (by rw [e0]; exact hL) (by rw [e0]; exact hst) hS1 hl hk hn
theorem GM_ileni {l : Launch} {M : MI} {F : FI} {k n pc : Nat} {L : List (Nat × AV)} {st : List AV} {μ : Mm} {a : Int} (d : decode M.2.1 pc = .ok (.arraylength, 1)) (hka : KD a = 12) (h0 : 0 ≤ LN a) (hl0 : LN a < 2147483648) (K : GM l M F k n (pc + 1) L ((0, LN a) :: st) μ) : GM l M F k n pc L ((3, a) :: st) μ := by
  intro p e s m args below meth c D cA adK adV ad0 ids0 C ad ids H locs cells slots ls hR ha hL hst hS hl hk hn
  obtain ⟨hx, hb, hml, hown, hts, hK, hr, hlk, hnm, hXx⟩ := id C
  obtain ⟨hva, hst⟩ := okc hst
  obtain ⟨hin, hne, q, hq, hg⟩ := hR.there hva (by rw [hka]; omega)
  rw [ent_i hka] at hg
  rw [List.map_cons, cv_r ad hne]
  refine va_alen hx hb hK.1 hR.1 q 0 hg (ty := .int) rfl (v := Int32.ofInt (LN a)) ?_ d (K p e s m args below meth c D cA adK adV ad0 ids0 C ad ids H locs cells slots ls hR ha hL (ok_c (v := (0, LN a)) ⟨by omega, hl0⟩ hst) hS hl hk hn)
  show Int32.ofNat (LN a).toNat = Int32.ofInt (LN a)
  rw [← Int32.ofInt_eq_ofNat]; congr 1; omega
theorem GM_zlen {l : Launch} {M : MI} {F : FI} {k n pc : Nat} {L : List (Nat × AV)} {st : List AV} {μ : Mm} {a : Int} (d : decode M.2.1 pc = .ok (.arraylength, 1)) (hka : KD a = 14) (h0 : 0 ≤ LN a) (hl0 : LN a < 2147483648) (K : GM l M F k n (pc + 1) L ((0, LN a) :: st) μ) : GM l M F k n pc L ((3, a) :: st) μ := by
  intro p e s m args below meth c D cA adK adV ad0 ids0 C ad ids H locs cells slots ls hR ha hL hst hS hl hk hn
  obtain ⟨hx, hb, hml, hown, hts, hK, hr, hlk, hnm, hXx⟩ := id C
  obtain ⟨hva, hst⟩ := okc hst
  obtain ⟨hin, hne, q, hq, hg⟩ := hR.there hva (by rw [hka]; omega)
  rw [ent_z hka] at hg
  rw [List.map_cons, cv_r ad hne]
  refine va_alen hx hb hK.1 hR.1 q 2 hg (ty := .boolean) rfl (v := Int32.ofInt (LN a)) ?_ d (K p e s m args below meth c D cA adK adV ad0 ids0 C ad ids H locs cells slots ls hR ha hL (ok_c (v := (0, LN a)) ⟨by omega, hl0⟩ hst) hS hl hk hn)
  show Int32.ofNat (LN a).toNat = Int32.ofInt (LN a)
  rw [← Int32.ofInt_eq_ofNat]; congr 1; omega
theorem GM_llen {l : Launch} {M : MI} {F : FI} {k n pc : Nat} {L : List (Nat × AV)} {st : List AV} {μ : Mm} {a : Int} (d : decode M.2.1 pc = .ok (.arraylength, 1)) (hka : KD a = 13) (h0 : 0 ≤ LN a) (hl0 : LN a < 2147483648) (K : GM l M F k n (pc + 1) L ((0, LN a) :: st) μ) : GM l M F k n pc L ((3, a) :: st) μ := by
  intro p e s m args below meth c D cA adK adV ad0 ids0 C ad ids H locs cells slots ls hR ha hL hst hS hl hk hn
  obtain ⟨hx, hb, hml, hown, hts, hK, hr, hlk, hnm, hXx⟩ := id C
  obtain ⟨hva, hst⟩ := okc hst
  obtain ⟨hin, hne, q, hq, hg⟩ := hR.there hva (by rw [hka]; omega)
  rw [ent_l hka] at hg
  rw [List.map_cons, cv_r ad hne]
  refine va_alen hx hb hK.1 hR.1 q 1 hg (ty := .long) rfl (v := Int32.ofInt (LN a)) ?_ d (K p e s m args below meth c D cA adK adV ad0 ids0 C ad ids H locs cells slots ls hR ha hL (ok_c (v := (0, LN a)) ⟨by omega, hl0⟩ hst) hS hl hk hn)
  show Int32.ofNat (LN a).toNat = Int32.ofInt (LN a)
  rw [← Int32.ofInt_eq_ofNat]; congr 1; omega
