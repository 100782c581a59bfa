/-! ===== the start ===== -/
section
variable {μ μ' ν : Mm} {bb : Int}
theorem r_alloc (hz : ∀ i, 20000 < i → i ≤ 20019 → μ 0 i = 0) (hs : ∀ i, μ 20000 i = 0) : Ec (fX11_init 20000 μ) bb (fun μ' b' => b' = bb - 20000 ∧ (∀ x, x ≠ 0 → x < 20000 → μ' x = μ x) ∧ (∀ j, j < 20000 → μ' 0 j = μ 0 j) ∧ Md μ' ∧ Dt μ' ∧ (∀ x, x ≠ 4 → μ' 20001 x = 0) ∧ μ' 20001 4 = -1 ∧ ∀ i, μ' 20002 i = 0) := by
  have z1 := hz 20001 (by decide) (by decide)
  have z2 := hz 20002 (by decide) (by decide)
  have z3 := hz 20003 (by decide) (by decide)
  have z4 := hz 20004 (by decide) (by decide)
  have z5 := hz 20005 (by decide) (by decide)
  have z6 := hz 20006 (by decide) (by decide)
  have z7 := hz 20007 (by decide) (by decide)
  have z8 := hz 20008 (by decide) (by decide)
  have z9 := hz 20009 (by decide) (by decide)
  have z10 := hz 20010 (by decide) (by decide)
  have z11 := hz 20011 (by decide) (by decide)
  have z12 := hz 20012 (by decide) (by decide)
  have z13 := hz 20013 (by decide) (by decide)
  have z14 := hz 20014 (by decide) (by decide)
  have z15 := hz 20015 (by decide) (by decide)
  have z16 := hz 20016 (by decide) (by decide)
  have z17 := hz 20017 (by decide) (by decide)
  have z18 := hz 20018 (by decide) (by decide)
  have z19 := hz 20019 (by decide) (by decide)
  unfold fX11_init
  rw [chk_t (by decide), show (20000 : Int) + 1 = 20001 by decide, show (20000 : Int) + 2 = 20002 by decide, show (20000 : Int) + 3 = 20003 by decide, show (20000 : Int) + 4 = 20004 by decide, show (20000 : Int) + 5 = 20005 by decide, show (20000 : Int) + 6 = 20006 by decide, show (20000 : Int) + 7 = 20007 by decide, show (20000 : Int) + 8 = 20008 by decide, show (20000 : Int) + 9 = 20009 by decide, show (20000 : Int) + 10 = 20010 by decide, show (20000 : Int) + 11 = 20011 by decide, show (20000 : Int) + 12 = 20012 by decide, show (20000 : Int) + 13 = 20013 by decide, show (20000 : Int) + 14 = 20014 by decide, show (20000 : Int) + 15 = 20015 by decide, show (20000 : Int) + 16 = 20016 by decide, show (20000 : Int) + 17 = 20017 by decide, show (20000 : Int) + 18 = 20018 by decide, show (20000 : Int) + 19 = 20019 by decide]
  simp only [lm]
  rw [chk_t (show KD 20001 = 12 ∧ LN 20001 = 5000 ∧ (μ) 0 20001 = 0 from ⟨K20001, N20001, by (exact z1)⟩)]
  refine Ec_pay (b1 := bb - 5001) ?_ (by omega) (by omega)
  rw [chk_t K20000]
  rw [chk_t (show KD 20002 = 14 ∧ LN 20002 = 3 ∧ (mst (mnw μ 20001) 20000 0 20001) 0 20002 = 0 from ⟨K20002, N20002, by (simp (disch := decide) only [mst_n, nw_z]; exact z2)⟩)]
  refine Ec_pay (b1 := bb - 5005) ?_ (by omega) (by omega)
  rw [chk_t (show KD 20003 = 12 ∧ LN 20003 = 400 ∧ (mst (mnw (mst (mnw μ 20001) 20000 0 20001) 20002) 20000 1 20002) 0 20003 = 0 from ⟨K20003, N20003, by (simp (disch := decide) only [mst_n, nw_z]; exact z3)⟩)]
  refine Ec_pay (b1 := bb - 5406) ?_ (by omega) (by omega)
  rw [chk_t (show KD 20004 = 12 ∧ LN 20004 = 400 ∧ (mst (mnw (mst (mnw (mst (mnw μ 20001) 20000 0 20001) 20002) 20000 1 20002) 20003) 20000 3 20003) 0 20004 = 0 from ⟨K20004, N20004, by (simp (disch := decide) only [mst_n, nw_z]; exact z4)⟩)]
  refine Ec_pay (b1 := bb - 5807) ?_ (by omega) (by omega)
  rw [chk_t (show KD 20005 = 12 ∧ LN 20005 = 200 ∧ (mst (mnw (mst (mnw (mst (mnw (mst (mnw μ 20001) 20000 0 20001) 20002) 20000 1 20002) 20003) 20000 3 20003) 20004) 20000 4 20004) 0 20005 = 0 from ⟨K20005, N20005, by (simp (disch := decide) only [mst_n, nw_z]; exact z5)⟩)]
  refine Ec_pay (b1 := bb - 6008) ?_ (by omega) (by omega)
  rw [chk_t (show KD 20006 = 12 ∧ LN 20006 = 400 ∧ (mst (mnw (mst (mnw (mst (mnw (mst (mnw (mst (mnw μ 20001) 20000 0 20001) 20002) 20000 1 20002) 20003) 20000 3 20003) 20004) 20000 4 20004) 20005) 20000 13 20005) 0 20006 = 0 from ⟨K20006, N20006, by (simp (disch := decide) only [mst_n, nw_z]; exact z6)⟩)]
  refine Ec_pay (b1 := bb - 6409) ?_ (by omega) (by omega)
  rw [chk_t (show KD 20007 = 12 ∧ LN 20007 = 144 ∧ (mst (mnw (mst (mnw (mst (mnw (mst (mnw (mst (mnw (mst (mnw μ 20001) 20000 0 20001) 20002) 20000 1 20002) 20003) 20000 3 20003) 20004) 20000 4 20004) 20005) 20000 13 20005) 20006) 20000 15 20006) 0 20007 = 0 from ⟨K20007, N20007, by (simp (disch := decide) only [mst_n, nw_z]; exact z7)⟩)]
  refine Ec_pay (b1 := bb - 6554) ?_ (by omega) (by omega)
  rw [chk_t (show KD 20008 = 12 ∧ LN 20008 = 9216 ∧ (mst (mnw (mst (mnw (mst (mnw (mst (mnw (mst (mnw (mst (mnw (mst (mnw μ 20001) 20000 0 20001) 20002) 20000 1 20002) 20003) 20000 3 20003) 20004) 20000 4 20004) 20005) 20000 13 20005) 20006) 20000 15 20006) 20007) 20000 16 20007) 0 20008 = 0 from ⟨K20008, N20008, by (simp (disch := decide) only [mst_n, nw_z]; exact z8)⟩)]
  refine Ec_pay (b1 := bb - 15771) ?_ (by omega) (by omega)
  rw [chk_t (show KD 20009 = 12 ∧ LN 20009 = 144 ∧ (mst (mnw (mst (mnw (mst (mnw (mst (mnw (mst (mnw (mst (mnw (mst (mnw (mst (mnw μ 20001) 20000 0 20001) 20002) 20000 1 20002) 20003) 20000 3 20003) 20004) 20000 4 20004) 20005) 20000 13 20005) 20006) 20000 15 20006) 20007) 20000 16 20007) 20008) 20000 17 20008) 0 20009 = 0 from ⟨K20009, N20009, by (simp (disch := decide) only [mst_n, nw_z]; exact z9)⟩)]
  refine Ec_pay (b1 := bb - 15916) ?_ (by omega) (by omega)
  rw [chk_t (show KD 20010 = 12 ∧ LN 20010 = 144 ∧ (mst (mnw (mst (mnw (mst (mnw (mst (mnw (mst (mnw (mst (mnw (mst (mnw (mst (mnw (mst (mnw μ 20001) 20000 0 20001) 20002) 20000 1 20002) 20003) 20000 3 20003) 20004) 20000 4 20004) 20005) 20000 13 20005) 20006) 20000 15 20006) 20007) 20000 16 20007) 20008) 20000 17 20008) 20009) 20000 19 20009) 0 20010 = 0 from ⟨K20010, N20010, by (simp (disch := decide) only [mst_n, nw_z]; exact z10)⟩)]
  refine Ec_pay (b1 := bb - 16061) ?_ (by omega) (by omega)
  rw [chk_t (show KD 20011 = 14 ∧ LN 20011 = 144 ∧ (mst (mnw (mst (mnw (mst (mnw (mst (mnw (mst (mnw (mst (mnw (mst (mnw (mst (mnw (mst (mnw (mst (mnw μ 20001) 20000 0 20001) 20002) 20000 1 20002) 20003) 20000 3 20003) 20004) 20000 4 20004) 20005) 20000 13 20005) 20006) 20000 15 20006) 20007) 20000 16 20007) 20008) 20000 17 20008) 20009) 20000 19 20009) 20010) 20000 21 20010) 0 20011 = 0 from ⟨K20011, N20011, by (simp (disch := decide) only [mst_n, nw_z]; exact z11)⟩)]
  refine Ec_pay (b1 := bb - 16206) ?_ (by omega) (by omega)
  rw [chk_t (show KD 20012 = 12 ∧ LN 20012 = 8 ∧ (mst (mnw (mst (mnw (mst (mnw (mst (mnw (mst (mnw (mst (mnw (mst (mnw (mst (mnw (mst (mnw (mst (mnw (mst (mnw μ 20001) 20000 0 20001) 20002) 20000 1 20002) 20003) 20000 3 20003) 20004) 20000 4 20004) 20005) 20000 13 20005) 20006) 20000 15 20006) 20007) 20000 16 20007) 20008) 20000 17 20008) 20009) 20000 19 20009) 20010) 20000 21 20010) 20011) 20000 22 20011) 0 20012 = 0 from ⟨K20012, N20012, by (simp (disch := decide) only [mst_n, nw_z]; exact z12)⟩)]
  refine Ec_pay (b1 := bb - 16215) ?_ (by omega) (by omega)
  rw [chk_t (show KD 20013 = 12 ∧ LN 20013 = 144 ∧ (mst (mnw (mst (mnw (mst (mnw (mst (mnw (mst (mnw (mst (mnw (mst (mnw (mst (mnw (mst (mnw (mst (mnw (mst (mnw (mst (mnw μ 20001) 20000 0 20001) 20002) 20000 1 20002) 20003) 20000 3 20003) 20004) 20000 4 20004) 20005) 20000 13 20005) 20006) 20000 15 20006) 20007) 20000 16 20007) 20008) 20000 17 20008) 20009) 20000 19 20009) 20010) 20000 21 20010) 20011) 20000 22 20011) 20012) 20000 23 20012) 0 20013 = 0 from ⟨K20013, N20013, by (simp (disch := decide) only [mst_n, nw_z]; exact z13)⟩)]
  refine Ec_pay (b1 := bb - 16360) ?_ (by omega) (by omega)
  rw [chk_t (show KD 20014 = 12 ∧ LN 20014 = 144 ∧ (mst (mnw (mst (mnw (mst (mnw (mst (mnw (mst (mnw (mst (mnw (mst (mnw (mst (mnw (mst (mnw (mst (mnw (mst (mnw (mst (mnw (mst (mnw μ 20001) 20000 0 20001) 20002) 20000 1 20002) 20003) 20000 3 20003) 20004) 20000 4 20004) 20005) 20000 13 20005) 20006) 20000 15 20006) 20007) 20000 16 20007) 20008) 20000 17 20008) 20009) 20000 19 20009) 20010) 20000 21 20010) 20011) 20000 22 20011) 20012) 20000 23 20012) 20013) 20000 25 20013) 0 20014 = 0 from ⟨K20014, N20014, by (simp (disch := decide) only [mst_n, nw_z]; exact z14)⟩)]
  refine Ec_pay (b1 := bb - 16505) ?_ (by omega) (by omega)
  rw [chk_t (show KD 20015 = 14 ∧ LN 20015 = 144 ∧ (mst (mnw (mst (mnw (mst (mnw (mst (mnw (mst (mnw (mst (mnw (mst (mnw (mst (mnw (mst (mnw (mst (mnw (mst (mnw (mst (mnw (mst (mnw (mst (mnw μ 20001) 20000 0 20001) 20002) 20000 1 20002) 20003) 20000 3 20003) 20004) 20000 4 20004) 20005) 20000 13 20005) 20006) 20000 15 20006) 20007) 20000 16 20007) 20008) 20000 17 20008) 20009) 20000 19 20009) 20010) 20000 21 20010) 20011) 20000 22 20011) 20012) 20000 23 20012) 20013) 20000 25 20013) 20014) 20000 27 20014) 0 20015 = 0 from ⟨K20015, N20015, by (simp (disch := decide) only [mst_n, nw_z]; exact z15)⟩)]
  refine Ec_pay (b1 := bb - 16650) ?_ (by omega) (by omega)
  rw [chk_t (show KD 20016 = 13 ∧ LN 20016 = 432 ∧ (mst (mnw (mst (mnw (mst (mnw (mst (mnw (mst (mnw (mst (mnw (mst (mnw (mst (mnw (mst (mnw (mst (mnw (mst (mnw (mst (mnw (mst (mnw (mst (mnw (mst (mnw μ 20001) 20000 0 20001) 20002) 20000 1 20002) 20003) 20000 3 20003) 20004) 20000 4 20004) 20005) 20000 13 20005) 20006) 20000 15 20006) 20007) 20000 16 20007) 20008) 20000 17 20008) 20009) 20000 19 20009) 20010) 20000 21 20010) 20011) 20000 22 20011) 20012) 20000 23 20012) 20013) 20000 25 20013) 20014) 20000 27 20014) 20015) 20000 28 20015) 0 20016 = 0 from ⟨K20016, N20016, by (simp (disch := decide) only [mst_n, nw_z]; exact z16)⟩)]
  refine Ec_pay (b1 := bb - 17083) ?_ (by omega) (by omega)
  rw [chk_t (show KD 20017 = 13 ∧ LN 20017 = 3 ∧ (mst (mnw (mst (mnw (mst (mnw (mst (mnw (mst (mnw (mst (mnw (mst (mnw (mst (mnw (mst (mnw (mst (mnw (mst (mnw (mst (mnw (mst (mnw (mst (mnw (mst (mnw (mst (mnw μ 20001) 20000 0 20001) 20002) 20000 1 20002) 20003) 20000 3 20003) 20004) 20000 4 20004) 20005) 20000 13 20005) 20006) 20000 15 20006) 20007) 20000 16 20007) 20008) 20000 17 20008) 20009) 20000 19 20009) 20010) 20000 21 20010) 20011) 20000 22 20011) 20012) 20000 23 20012) 20013) 20000 25 20013) 20014) 20000 27 20014) 20015) 20000 28 20015) 20016) 20000 30 20016) 0 20017 = 0 from ⟨K20017, N20017, by (simp (disch := decide) only [mst_n, nw_z]; exact z17)⟩)]
  refine Ec_pay (b1 := bb - 17087) ?_ (by omega) (by omega)
  rw [chk_t (show KD 20018 = 12 ∧ LN 20018 = 3 ∧ (mst (mnw (mst (mnw (mst (mnw (mst (mnw (mst (mnw (mst (mnw (mst (mnw (mst (mnw (mst (mnw (mst (mnw (mst (mnw (mst (mnw (mst (mnw (mst (mnw (mst (mnw (mst (mnw (mst (mnw μ 20001) 20000 0 20001) 20002) 20000 1 20002) 20003) 20000 3 20003) 20004) 20000 4 20004) 20005) 20000 13 20005) 20006) 20000 15 20006) 20007) 20000 16 20007) 20008) 20000 17 20008) 20009) 20000 19 20009) 20010) 20000 21 20010) 20011) 20000 22 20011) 20012) 20000 23 20012) 20013) 20000 25 20013) 20014) 20000 27 20014) 20015) 20000 28 20015) 20016) 20000 30 20016) 20017) 20000 31 20017) 0 20018 = 0 from ⟨K20018, N20018, by (simp (disch := decide) only [mst_n, nw_z]; exact z18)⟩)]
  refine Ec_pay (b1 := bb - 17091) ?_ (by omega) (by omega)
  rw [chk_t (show KD 20019 = 12 ∧ LN 20019 = 144 ∧ (mst (mnw (mst (mnw (mst (mnw (mst (mnw (mst (mnw (mst (mnw (mst (mnw (mst (mnw (mst (mnw (mst (mnw (mst (mnw (mst (mnw (mst (mnw (mst (mnw (mst (mnw (mst (mnw (mst (mnw (mst (mnw μ 20001) 20000 0 20001) 20002) 20000 1 20002) 20003) 20000 3 20003) 20004) 20000 4 20004) 20005) 20000 13 20005) 20006) 20000 15 20006) 20007) 20000 16 20007) 20008) 20000 17 20008) 20009) 20000 19 20009) 20010) 20000 21 20010) 20011) 20000 22 20011) 20012) 20000 23 20012) 20013) 20000 25 20013) 20014) 20000 27 20014) 20015) 20000 28 20015) 20016) 20000 30 20016) 20017) 20000 31 20017) 20018) 20000 32 20018) 0 20019 = 0 from ⟨K20019, N20019, by (simp (disch := decide) only [mst_n, nw_z]; exact z19)⟩)]
  refine Ec_pay (b1 := bb - 17236) ?_ (by omega) (by omega)
  have M1 : Md (mst (mnw (mst (mnw (mst (mnw (mst (mnw (mst (mnw (mst (mnw (mst (mnw (mst (mnw (mst (mnw (mst (mnw (mst (mnw (mst (mnw (mst (mnw (mst (mnw (mst (mnw (mst (mnw (mst (mnw (mst (mnw (mst (mnw μ 20001) 20000 0 20001) 20002) 20000 1 20002) 20003) 20000 3 20003) 20004) 20000 4 20004) 20005) 20000 13 20005) 20006) 20000 15 20006) 20007) 20000 16 20007) 20008) 20000 17 20008) 20009) 20000 19 20009) 20010) 20000 21 20010) 20011) 20000 22 20011) 20012) 20000 23 20012) 20013) 20000 25 20013) 20014) 20000 27 20014) 20015) 20000 28 20015) 20016) 20000 30 20016) 20017) 20000 31 20017) 20018) 20000 32 20018) 20019) 20000 33 20019) := by
    unfold Md; simp (disch := decide) only [mst_j, mst_s, nw_n]; decide
  have e0 : (mst (mnw (mst (mnw (mst (mnw (mst (mnw (mst (mnw (mst (mnw (mst (mnw (mst (mnw (mst (mnw (mst (mnw (mst (mnw (mst (mnw (mst (mnw (mst (mnw (mst (mnw (mst (mnw (mst (mnw (mst (mnw (mst (mnw μ 20001) 20000 0 20001) 20002) 20000 1 20002) 20003) 20000 3 20003) 20004) 20000 4 20004) 20005) 20000 13 20005) 20006) 20000 15 20006) 20007) 20000 16 20007) 20008) 20000 17 20008) 20009) 20000 19 20009) 20010) 20000 21 20010) 20011) 20000 22 20011) 20012) 20000 23 20012) 20013) 20000 25 20013) 20014) 20000 27 20014) 20015) 20000 28 20015) 20016) 20000 30 20016) 20017) 20000 31 20017) 20018) 20000 32 20018) 20019) 20000 33 20019) 20000 0 = 20001 := Md_0 M1
  have e2 : (mst (mnw (mst (mnw (mst (mnw (mst (mnw (mst (mnw (mst (mnw (mst (mnw (mst (mnw (mst (mnw (mst (mnw (mst (mnw (mst (mnw (mst (mnw (mst (mnw (mst (mnw (mst (mnw (mst (mnw (mst (mnw (mst (mnw μ 20001) 20000 0 20001) 20002) 20000 1 20002) 20003) 20000 3 20003) 20004) 20000 4 20004) 20005) 20000 13 20005) 20006) 20000 15 20006) 20007) 20000 16 20007) 20008) 20000 17 20008) 20009) 20000 19 20009) 20010) 20000 21 20010) 20011) 20000 22 20011) 20012) 20000 23 20012) 20013) 20000 25 20013) 20014) 20000 27 20014) 20015) 20000 28 20015) 20016) 20000 30 20016) 20017) 20000 31 20017) 20018) 20000 32 20018) 20019) 20000 33 20019) 20000 2 = 0 := by simp (disch := decide) only [mst_j, nw_n]; exact hs 2
  have r1 : ∀ x, (mst (mnw (mst (mnw (mst (mnw (mst (mnw (mst (mnw (mst (mnw (mst (mnw (mst (mnw (mst (mnw (mst (mnw (mst (mnw (mst (mnw (mst (mnw (mst (mnw (mst (mnw (mst (mnw (mst (mnw (mst (mnw (mst (mnw μ 20001) 20000 0 20001) 20002) 20000 1 20002) 20003) 20000 3 20003) 20004) 20000 4 20004) 20005) 20000 13 20005) 20006) 20000 15 20006) 20007) 20000 16 20007) 20008) 20000 17 20008) 20009) 20000 19 20009) 20010) 20000 21 20010) 20011) 20000 22 20011) 20012) 20000 23 20012) 20013) 20000 25 20013) 20014) 20000 27 20014) 20015) 20000 28 20015) 20016) 20000 30 20016) 20017) 20000 31 20017) 20018) 20000 32 20018) 20019) 20000 33 20019) 20001 x = 0 := fun x => by simp (disch := decide) only [mst_n, nw_n, nw_s]
  have r2 : ∀ x, (mst (mnw (mst (mnw (mst (mnw (mst (mnw (mst (mnw (mst (mnw (mst (mnw (mst (mnw (mst (mnw (mst (mnw (mst (mnw (mst (mnw (mst (mnw (mst (mnw (mst (mnw (mst (mnw (mst (mnw (mst (mnw (mst (mnw μ 20001) 20000 0 20001) 20002) 20000 1 20002) 20003) 20000 3 20003) 20004) 20000 4 20004) 20005) 20000 13 20005) 20006) 20000 15 20006) 20007) 20000 16 20007) 20008) 20000 17 20008) 20009) 20000 19 20009) 20010) 20000 21 20010) 20011) 20000 22 20011) 20012) 20000 23 20012) 20013) 20000 25 20013) 20014) 20000 27 20014) 20015) 20000 28 20015) 20016) 20000 30 20016) 20017) 20000 31 20017) 20018) 20000 32 20018) 20019) 20000 33 20019) 20002 x = 0 := fun x => by simp (disch := decide) only [mst_n, nw_n, nw_s]
  have lo : ∀ x, x ≠ 0 → x < 20000 → (mst (mnw (mst (mnw (mst (mnw (mst (mnw (mst (mnw (mst (mnw (mst (mnw (mst (mnw (mst (mnw (mst (mnw (mst (mnw (mst (mnw (mst (mnw (mst (mnw (mst (mnw (mst (mnw (mst (mnw (mst (mnw (mst (mnw μ 20001) 20000 0 20001) 20002) 20000 1 20002) 20003) 20000 3 20003) 20004) 20000 4 20004) 20005) 20000 13 20005) 20006) 20000 15 20006) 20007) 20000 16 20007) 20008) 20000 17 20008) 20009) 20000 19 20009) 20010) 20000 21 20010) 20011) 20000 22 20011) 20012) 20000 23 20012) 20013) 20000 25 20013) 20014) 20000 27 20014) 20015) 20000 28 20015) 20016) 20000 30 20016) 20017) 20000 31 20017) 20018) 20000 32 20018) 20019) 20000 33 20019) x = μ x := fun x h0 h1 => by simp (disch := omega) only [mst_n, nw_n]
  have l0 : ∀ j, j < 20000 → (mst (mnw (mst (mnw (mst (mnw (mst (mnw (mst (mnw (mst (mnw (mst (mnw (mst (mnw (mst (mnw (mst (mnw (mst (mnw (mst (mnw (mst (mnw (mst (mnw (mst (mnw (mst (mnw (mst (mnw (mst (mnw (mst (mnw μ 20001) 20000 0 20001) 20002) 20000 1 20002) 20003) 20000 3 20003) 20004) 20000 4 20004) 20005) 20000 13 20005) 20006) 20000 15 20006) 20007) 20000 16 20007) 20008) 20000 17 20008) 20009) 20000 19 20009) 20010) 20000 21 20010) 20011) 20000 22 20011) 20012) 20000 23 20012) 20013) 20000 25 20013) 20014) 20000 27 20014) 20015) 20000 28 20015) 20016) 20000 30 20016) 20017) 20000 31 20017) 20018) 20000 32 20018) 20019) 20000 33 20019) 0 j = μ 0 j := fun j h1 => by simp (disch := omega) only [mst_n, nw_z]
  generalize mst (mnw (mst (mnw (mst (mnw (mst (mnw (mst (mnw (mst (mnw (mst (mnw (mst (mnw (mst (mnw (mst (mnw (mst (mnw (mst (mnw (mst (mnw (mst (mnw (mst (mnw (mst (mnw (mst (mnw (mst (mnw (mst (mnw μ 20001) 20000 0 20001) 20002) 20000 1 20002) 20003) 20000 3 20003) 20004) 20000 4 20004) 20005) 20000 13 20005) 20006) 20000 15 20006) 20007) 20000 16 20007) 20008) 20000 17 20008) 20009) 20000 19 20009) 20010) 20000 21 20010) 20011) 20000 22 20011) 20012) 20000 23 20012) 20013) 20000 25 20013) 20014) 20000 27 20014) 20015) 20000 28 20015) 20016) 20000 30 20016) 20017) 20000 31 20017) 20018) 20000 32 20018) 20019) 20000 33 20019 = ν at *
  rw [e0, chk_t (show KD 20001 = 12 ∧ 4 < LN 20001 by decide)]
  have f1 : Fr [20001] [] ν (mst ν 20001 4 (-1)) := Fr.row rfl rfl (by decide) (by decide)
  have M2 := f1.md M1 (by decide)
  refine Ec_bindE (r_rows M2 (by rw [mst_n (by decide)]; exact e2)) (fun μ3 ⟨f3, D3⟩ => ?_)
  have fa : Fr [20001, 20003, 20004] [2] ν μ3 := (f1.mo (by decide) (by decide)).tr (f3.mo (by decide) (by decide))
  have rr : μ3 20001 = mst ν 20001 4 (-1) 20001 := f3.1 20001 (by decide) (by decide)
  have lo2 := fr_lo fa (by decide)
  refine ⟨_, 0, 0, bb - 20000, rfl, ⟨rfl, fun x h0 h1 => (lo2 x h1).trans (lo x h0 h1), fun j hj => by rw [lo2 0 (by decide)]; exact l0 j hj, f3.md M2 (by decide), D3, fun x hx => by rw [rr, mst_j hx]; exact r1 x, by rw [rr, mst_s], fun i => by rw [fa.1 20002 (by decide) (by decide)]; exact r2 i⟩, by omega, by omega⟩

theorem K240L : LiK 240 := ⟨by decide, ⟨by decide, by decide⟩, ⟨by decide, by decide⟩, ⟨by decide, by decide⟩, ⟨by decide, by decide⟩, ⟨by decide, by decide⟩, ⟨by decide, by decide⟩⟩
theorem K290' : SkK 290 := ⟨by decide, ⟨by decide, by decide⟩, by decide, by decide⟩
def CL (μ : Mm) : Prop := X10F μ ∧ (StF μ 1000 ∧ (μ 1000 1 = 0 ∧ μ 1000 2 = 0 ∧ μ 1000 3 = -1 ∧ μ 1000 4 = 0 ∧ μ 1000 5 = 0) ∧ ∀ i, μ 1001 i = 0) ∧ RdI μ ∧ SiF μ ∧ LiF μ 240 ∧ FtF μ ∧ SkF μ 290 ∧ WkF μ ∧ (∀ i, μ 101 i = 0) ∧ (∀ i, μ 102 i = 0) ∧ ∀ j, 1100 ≤ j → μ 0 j = 0
theorem c_start (hz : ∀ i, i ≠ 100 → μ 0 i = 0) (hs : ∀ i, μ 100 i = 0) : Ec (fX10_init 100 μ) bb (fun μ' b' => b' = bb - 10000 ∧ CL μ') := by
  unfold fX10_init
  simp only [lm]
  rw [chk_t (by decide), chk_t ⟨K1000, hz 1000 (by decide)⟩]
  refine Ec_pay (b1 := bb - 10) ?_ (by omega) (by omega)
  refine Ec_bind (c_stInit (bb := bb - 10) (s := 1000) (μ := mnw μ 1000) (StK_c (.inl rfl)) (by decide) (fun i i0 i1 => by rw [nw_z (by decide) (by omega)]; exact hz i (by omega)) (fun i => nw_s)) ?_
  rintro μ1 b1 ⟨hb1, f1, S1, V1, T1, o1⟩ c1 n1
  refine ⟨_, rfl, ?_⟩
  rw [chk_t K100]
  have z1 : ∀ i, i ≠ 0 → (i < 1000 ∨ 1100 ≤ i) → i ≠ 100 → μ1 0 i = 0 := fun i i0 i1 i2 => by rw [o1 i (by omega), nw_z (by decide) (by omega)]; exact hz i i2
  have r1 : ∀ i, μ1 100 i = 0 := fun i => by rw [f1 100 (by omega), nw_n (by decide) (by decide)]; exact hs i
  rw [chk_t (show KD 101 = 19 ∧ LN 101 = 3 ∧ mst μ1 100 0 1000 0 101 = 0 from ⟨K101, N101, by rw [mst_n (by decide)]; exact z1 101 (by decide) (by decide) (by decide)⟩)]
  refine Ec_pay (b1 := bb - 2020) ?_ (by omega) (by omega)
  have g1 : Fw (fun x => x = 0 ∨ x = 100 ∨ x = 101) μ1 (mst (mnw (mst μ1 100 0 1000) 101) 100 1 101) := Fw.st (Fw.nw (Fw.st Fw.rf (by omega)) (by omega) (by omega)) (by omega)
  have z2 : ∀ i, i ≠ 0 → (i < 1000 ∨ 1100 ≤ i) → i ≠ 100 → i ≠ 101 → mst (mnw (mst μ1 100 0 1000) 101) 100 1 101 0 i = 0 := fun i i0 i1 i2 i3 => by rw [mst_n (by decide), nw_z (by decide) i3, mst_n (by decide)]; exact z1 i i0 i1 i2
  have t2 : ∀ i, mst (mnw (mst μ1 100 0 1000) 101) 100 1 101 101 i = 0 := fun i => by rw [mst_n (by decide), nw_s]
  have r2 : mst (mnw (mst μ1 100 0 1000) 101) 100 1 101 100 = us (us (μ1 100) 0 1000) 1 101 := by rw [mst_r, nw_n (by decide) (by decide), mst_r]
  generalize mst (mnw (mst μ1 100 0 1000) 101) 100 1 101 = μ2 at *
  -- the reader
  rw [chk_t (show KD 200 = 3 ∧ μ2 0 200 = 0 from ⟨K200, z2 200 (by decide) (by decide) (by decide) (by decide)⟩)]
  refine Ec_pay (b1 := bb - 2050) ?_ (by omega) (by omega)
  refine Ec_bind (c_reader (bb := bb - 2050) (μ := mnw μ2 200) (fun i i0 i1 => by rw [nw_z (by decide) (by omega)]; exact z2 i (by omega) (by omega) (by omega) (by omega)) (fun i => nw_s)) ?_
  rintro μ3 b3 ⟨hb3, f3, R3, o3⟩ c3 n3
  refine ⟨_, rfl, ?_⟩
  have g3 : Fw (fun x => x = 0 ∨ x = 100 ∨ 200 ≤ x ∧ x < 230) μ2 (mst μ3 100 2 200) := ((Fw.nw (R := fun x => x = 0 ∨ x = 100 ∨ 200 ≤ x ∧ x < 230) (Fw.rf (μ := μ2)) (a := 200) (by omega) (by omega)).tr (f3.mo (fun x hx => by omega))).st (by omega)
  have z4 : ∀ i, i ≠ 0 → (i < 1000 ∨ 1100 ≤ i) → i ≠ 100 → i ≠ 101 → (i < 200 ∨ 230 ≤ i) → mst μ3 100 2 200 0 i = 0 := fun i i0 i1 i2 i3 i4 => by rw [mst_n (by decide), o3 i i4, nw_z (by decide) (by omega)]; exact z2 i i0 i1 i2 i3
  have r4 : mst μ3 100 2 200 100 = us (μ2 100) 2 200 := by rw [mst_r, f3 100 (by omega), nw_n (by decide) (by decide)]
  have R4 : RdI (mst μ3 100 2 200) := R3.fw (R := fun x => x = 100) (Fw.s0 rfl) (fun x a b => by omega)
  generalize mst μ3 100 2 200 = μ4 at *
  -- the sight
  rw [chk_t (show KD 230 = 5 ∧ μ4 0 230 = 0 from ⟨K230, z4 230 (by decide) (by decide) (by decide) (by decide) (by decide)⟩)]
  refine Ec_pay (b1 := bb - 2570) ?_ (by omega) (by omega)
  refine Ec_bind (c_sight (bb := bb - 2570) (μ := mnw μ4 230) (fun i i0 i1 => by rw [nw_z (by decide) (by omega)]; exact z4 i (by omega) (by omega) (by omega) (by omega) (by omega))) ?_
  rintro μ5 b5 ⟨hb5, f5, S5, o5⟩ c5 n5
  refine ⟨_, rfl, ?_⟩
  have g5 : Fw (fun x => x = 0 ∨ x = 100 ∨ 230 ≤ x ∧ x ≤ 237) μ4 (mst μ5 100 3 230) := ((Fw.nw (R := fun x => x = 0 ∨ x = 100 ∨ 230 ≤ x ∧ x ≤ 237) (Fw.rf (μ := μ4)) (a := 230) (by omega) (by omega)).tr (f5.mo (fun x hx => by omega))).st (by omega)
  have z6 : ∀ i, i ≠ 0 → (i < 1000 ∨ 1100 ≤ i) → i ≠ 100 → i ≠ 101 → (i < 200 ∨ 238 ≤ i) → mst μ5 100 3 230 0 i = 0 := fun i i0 i1 i2 i3 i4 => by rw [mst_n (by decide), o5 i (by omega), nw_z (by decide) (by omega)]; exact z4 i i0 i1 i2 i3 (by omega)
  have r6 : mst μ5 100 3 230 100 = us (μ4 100) 3 230 := by rw [mst_r, f5 100 (by omega), nw_n (by decide) (by decide)]
  have S6 : SiF (mst μ5 100 3 230) := S5.st (by omega)
  generalize mst μ5 100 3 230 = μ6 at *
  -- scenes
  rw [chk_t (show KD 102 = 16 ∧ LN 102 = 2 ∧ μ6 0 102 = 0 from ⟨K102, N102, z6 102 (by decide) (by decide) (by decide) (by decide) (by decide)⟩)]
  refine Ec_pay (b1 := bb - 4580) ?_ (by omega) (by omega)
  have g6 : Fw (fun x => x = 0 ∨ x = 100 ∨ x = 102) μ6 (mst (mnw μ6 102) 100 4 102) := Fw.st (Fw.nw Fw.rf (by omega) (by omega)) (by omega)
  have z7 : ∀ i, i ≠ 0 → (i < 1000 ∨ 1100 ≤ i) → i ≠ 100 → i ≠ 101 → i ≠ 102 → (i < 200 ∨ 238 ≤ i) → mst (mnw μ6 102) 100 4 102 0 i = 0 := fun i i0 i1 i2 i3 i4 i5 => by rw [mst_n (by decide), nw_z (by decide) i4]; exact z6 i i0 i1 i2 i3 i5
  have t7 : ∀ i, mst (mnw μ6 102) 100 4 102 102 i = 0 := fun i => by rw [mst_n (by decide), nw_s]
  have r7 : mst (mnw μ6 102) 100 4 102 100 = us (μ6 100) 4 102 := by rw [mst_r, nw_n (by decide) (by decide)]
  generalize mst (mnw μ6 102) 100 4 102 = μ7 at *
  -- the trial
  rw [chk_t (show KD 240 = 7 ∧ μ7 0 240 = 0 from ⟨K240L.1, z7 240 (by decide) (by decide) (by decide) (by decide) (by decide) (by decide)⟩)]
  refine Ec_pay (b1 := bb - 4600) ?_ (by omega) (by omega)
  obtain ⟨μ8, e8, f8, L8, _, o8⟩ := c_lineInit (μ := mnw μ7 240) (s := 240) K240L (by decide) (fun i i0 i1 => by rw [nw_z (by decide) (by omega)]; exact z7 i (by omega) (by omega) (by omega) (by omega) (by omega) (by omega))
  rw [e8]
  simp only [ob]
  refine Ec_pay (b1 := bb - 4940) ?_ (by omega) (by omega)
  have g8 : Fw (fun x => x = 0 ∨ x = 100 ∨ 240 ≤ x ∧ x ≤ 246) μ7 (mst μ8 100 5 240) := ((Fw.nw (R := fun x => x = 0 ∨ x = 100 ∨ 240 ≤ x ∧ x ≤ 246) (Fw.rf (μ := μ7)) (a := 240) (by omega) (by omega)).tr (f8.mo (fun x hx => by omega))).st (by omega)
  have z9 : ∀ i, i ≠ 0 → (i < 1000 ∨ 1100 ≤ i) → i ≠ 100 → i ≠ 101 → i ≠ 102 → (i < 200 ∨ 247 ≤ i) → mst μ8 100 5 240 0 i = 0 := fun i i0 i1 i2 i3 i4 i5 => by rw [mst_n (by decide), o8 i (by omega), nw_z (by decide) (by omega)]; exact z7 i i0 i1 i2 i3 i4 (by omega)
  have r9 : mst μ8 100 5 240 100 = us (μ7 100) 5 240 := by rw [mst_r, f8 100 (by omega), nw_n (by decide) (by decide)]
  have L9 : LiF (mst μ8 100 5 240) 240 := L8.st (.inl (by decide))
  generalize mst μ8 100 5 240 = μ9 at *
  -- the fitter
  rw [chk_t (show KD 250 = 1 ∧ μ9 0 250 = 0 from ⟨K250, z9 250 (by decide) (by decide) (by decide) (by decide) (by decide) (by decide)⟩)]
  refine Ec_pay (b1 := bb - 4960) ?_ (by omega) (by omega)
  refine Ec_bind (c_fitter (bb := bb - 4960) (μ := mnw μ9 250) (fun i i0 i1 => by rw [nw_z (by decide) (by omega)]; exact z9 i (by omega) (by omega) (by omega) (by omega) (by omega) (by omega))) ?_
  rintro μa ba ⟨hba, fa, Fa, oa'⟩ ca na
  refine ⟨_, rfl, ?_⟩
  have ga : Fw (fun x => x = 0 ∨ x = 100 ∨ 250 ≤ x ∧ x < 290) μ9 (mst μa 100 6 250) := ((Fw.nw (R := fun x => x = 0 ∨ x = 100 ∨ 250 ≤ x ∧ x < 290) (Fw.rf (μ := μ9)) (a := 250) (by omega) (by omega)).tr (fa.mo (fun x hx => by omega))).st (by omega)
  have zb : ∀ i, i ≠ 0 → (i < 1000 ∨ 1100 ≤ i) → i ≠ 100 → i ≠ 101 → i ≠ 102 → (i < 200 ∨ 290 ≤ i) → mst μa 100 6 250 0 i = 0 := fun i i0 i1 i2 i3 i4 i5 => by rw [mst_n (by decide), oa' i (by omega), nw_z (by decide) (by omega)]; exact z9 i i0 i1 i2 i3 i4 (by omega)
  have rb : mst μa 100 6 250 100 = us (μ9 100) 6 250 := by rw [mst_r, fa 100 (by omega), nw_n (by decide) (by decide)]
  have Fb : FtF (mst μa 100 6 250) := by unfold FtF at Fa ⊢; rw [mst_n (by decide)]; exact Fa
  generalize mst μa 100 6 250 = μb at *
  -- the draft
  rw [chk_t (show KD 290 = 6 ∧ μb 0 290 = 0 from ⟨K290'.1, zb 290 (by decide) (by decide) (by decide) (by decide) (by decide) (by decide)⟩)]
  refine Ec_pay (b1 := bb - 6480) ?_ (by omega) (by omega)
  obtain ⟨μc, ec, fc, Fc, _, oc⟩ := c_sketchInit (μ := mnw μb 290) (s := 290) K290' (by decide) (fun i i0 i1 => by rw [nw_z (by decide) (by omega)]; exact zb i (by omega) (by omega) (by omega) (by omega) (by omega) (by omega)) (fun i => nw_s)
  rw [ec]
  simp only [ob]
  refine Ec_pay (b1 := bb - 6540) ?_ (by omega) (by omega)
  have gc' : Fw (fun x => x = 0 ∨ x = 100 ∨ 290 ≤ x ∧ x ≤ 292) μb (mst μc 100 7 290) := ((Fw.nw (R := fun x => x = 0 ∨ x = 100 ∨ 290 ≤ x ∧ x ≤ 292) (Fw.rf (μ := μb)) (a := 290) (by omega) (by omega)).tr (fc.mo (fun x hx => by omega))).st (by omega)
  have zd : ∀ i, i ≠ 0 → (i < 1000 ∨ 1100 ≤ i) → i ≠ 100 → i ≠ 101 → i ≠ 102 → (i < 200 ∨ 293 ≤ i) → mst μc 100 7 290 0 i = 0 := fun i i0 i1 i2 i3 i4 i5 => by rw [mst_n (by decide), oc i (by omega), nw_z (by decide) (by omega)]; exact zb i i0 i1 i2 i3 i4 (by omega)
  have rd : mst μc 100 7 290 100 = us (μb 100) 7 290 := by rw [mst_r, fc 100 (by omega), nw_n (by decide) (by decide)]
  have Fd : SkF (mst μc 100 7 290) 290 := by unfold SkF at Fc ⊢; rw [mst_n (by decide)]; exact Fc
  generalize mst μc 100 7 290 = μd at *
  -- the walker
  rw [chk_t (show KD 300 = 9 ∧ μd 0 300 = 0 from ⟨K300, zd 300 (by decide) (by decide) (by decide) (by decide) (by decide) (by decide)⟩)]
  refine Ec_pay (b1 := bb - 6560) ?_ (by omega) (by omega)
  refine Ec_bind (c_walker (bb := bb - 6560) (μ := mnw μd 300) (fun i i0 i1 => by rw [nw_z (by decide) (by omega)]; exact zd i (by omega) (by omega) (by omega) (by omega) (by omega) (by omega))) ?_
  rintro μe be ⟨hbe, fe, We, oe⟩ ce ne
  refine ⟨_, rfl, ?_⟩
  have ge : Fw (fun x => x = 0 ∨ x = 100 ∨ 300 ≤ x ∧ x < 330) μd (mst μe 100 8 300) := ((Fw.nw (R := fun x => x = 0 ∨ x = 100 ∨ 300 ≤ x ∧ x < 330) (Fw.rf (μ := μd)) (a := 300) (by omega) (by omega)).tr (fe.mo (fun x hx => by omega))).st (by omega)
  have zf : ∀ i, i ≠ 0 → (i < 1000 ∨ 1100 ≤ i) → i ≠ 100 → i ≠ 101 → i ≠ 102 → (i < 200 ∨ 330 ≤ i) → mst μe 100 8 300 0 i = 0 := fun i i0 i1 i2 i3 i4 i5 => by rw [mst_n (by decide), oe i (by omega), nw_z (by decide) (by omega)]; exact zd i i0 i1 i2 i3 i4 (by omega)
  have rf : mst μe 100 8 300 100 = us (μd 100) 8 300 := by rw [mst_r, fe 100 (by omega), nw_n (by decide) (by decide)]
  have Wf : WkF (mst μe 100 8 300) := by unfold WkF at We ⊢; rw [mst_n (by decide)]; exact We
  generalize mst μe 100 8 300 = μf at *
  -- here and there
  rw [chk_t (show KD 103 = 14 ∧ LN 103 = 144 ∧ μf 0 103 = 0 from ⟨K103, N103, zf 103 (by decide) (by decide) (by decide) (by decide) (by decide) (by decide)⟩)]
  refine Ec_pay (b1 := bb - 8300) ?_ (by omega) (by omega)
  rw [chk_t (show KD 104 = 14 ∧ LN 104 = 144 ∧ mst (mnw μf 103) 100 9 103 0 104 = 0 from ⟨K104, N104, by rw [mst_n (by decide), nw_z (by decide) (by decide)]; exact zf 104 (by decide) (by decide) (by decide) (by decide) (by decide) (by decide)⟩)]
  refine Ec_pay (b1 := bb - 10000) ?_ (by omega) (by omega)
  have gf : Fw (fun x => x = 0 ∨ x = 100 ∨ x = 103 ∨ x = 104) μf (mst (mnw (mst (mnw μf 103) 100 9 103) 104) 100 10 104) := Fw.st (Fw.nw (Fw.st (Fw.nw Fw.rf (by omega) (by omega)) (by omega)) (by omega) (by omega)) (by omega)
  have zg : ∀ i, 1100 ≤ i → mst (mnw (mst (mnw μf 103) 100 9 103) 104) 100 10 104 0 i = 0 := fun i hi => by rw [mst_n (by decide), nw_z (by decide) (by omega), mst_n (by decide), nw_z (by decide) (by omega)]; exact zf i (by omega) (by omega) (by omega) (by omega) (by omega) (by omega)
  have rg : mst (mnw (mst (mnw μf 103) 100 9 103) 104) 100 10 104 100 = us (us (μf 100) 9 103) 10 104 := by rw [mst_r, nw_n (by decide) (by decide), mst_r, nw_n (by decide) (by decide)]
  generalize mst (mnw (mst (mnw μf 103) 100 9 103) 104) 100 10 104 = μg at *
  -- frames to the end
  have hd : Fw (fun x => x = 0 ∨ x = 100 ∨ x = 103 ∨ x = 104 ∨ 300 ≤ x ∧ x < 330) μd μg := (ge.mo (fun x hx => by omega)).tr (gf.mo (fun x hx => by omega))
  have hb' : Fw (fun x => x = 0 ∨ x = 100 ∨ x = 103 ∨ x = 104 ∨ 290 ≤ x ∧ x < 330) μb μg := (gc'.mo (fun x hx => by omega)).tr (hd.mo (fun x hx => by omega))
  have h9 : Fw (fun x => x = 0 ∨ x = 100 ∨ x = 103 ∨ x = 104 ∨ 250 ≤ x ∧ x < 330) μ9 μg := (ga.mo (fun x hx => by omega)).tr (hb'.mo (fun x hx => by omega))
  have h7 : Fw (fun x => x = 0 ∨ x = 100 ∨ x = 103 ∨ x = 104 ∨ 240 ≤ x ∧ x < 330) μ7 μg := (g8.mo (fun x hx => by omega)).tr (h9.mo (fun x hx => by omega))
  have h6 : Fw (fun x => x = 0 ∨ 100 = x ∨ 102 ≤ x ∧ x ≤ 104 ∨ 240 ≤ x ∧ x < 330) μ6 μg := (g6.mo (fun x hx => by omega)).tr (h7.mo (fun x hx => by omega))
  have h4 : Fw (fun x => x = 0 ∨ 100 = x ∨ 102 ≤ x ∧ x ≤ 104 ∨ 230 ≤ x ∧ x < 330) μ4 μg := (g5.mo (fun x hx => by omega)).tr (h6.mo (fun x hx => by omega))
  have h2 : Fw (fun x => x = 0 ∨ 100 = x ∨ 102 ≤ x ∧ x ≤ 104 ∨ 200 ≤ x ∧ x < 330) μ2 μg := (g3.mo (fun x hx => by omega)).tr (h4.mo (fun x hx => by omega))
  have h1 : Fw (fun x => x = 0 ∨ 100 ≤ x ∧ x ≤ 104 ∨ 200 ≤ x ∧ x < 330) μ1 μg := (g1.mo (fun x hx => by omega)).tr (h2.mo (fun x hx => by omega))
  refine Ec_some ⟨rfl, ?_, ⟨S1.fw h1 (fun x a b => by omega), ?_, ?_⟩, R4.fw h4 (fun x a b => by omega), S6.fw h6 (fun x a b => by omega), L9.fw h9 (by omega), ?_, ?_, ?_, ?_, ?_, zg⟩
  · unfold X10F
    rw [rg, rf, rd, rb, r9, r7, r6, r4, r2]
    simp (disch := decide) only [us_n, us_s, and_true]
  · rw [h1 1000 (by omega)]; exact V1
  · intro i; rw [h1 1001 (by omega)]; exact T1 i
  · unfold FtF at Fb ⊢; rw [hb' 250 (by omega)]; exact Fb
  · unfold SkF at Fd ⊢; rw [hd 290 (by omega)]; exact Fd
  · unfold WkF at Wf ⊢; rw [gf 300 (by omega)]; exact Wf
  · intro i; rw [h2 101 (by omega)]; exact t2 i
  · intro i; rw [h7 102 (by omega)]; exact t7 i
/-- all holds at the start -/
theorem LI_start (h : CL μ) (hr : ∀ x, x ≠ 0 → x < 20000 → μ' x = μ x) (h0 : ∀ j, j < 20000 → μ' 0 j = μ 0 j) (hM : Md μ') (hD : Dt μ') (h1 : ∀ x, x ≠ 4 → μ' 20001 x = 0) (h4 : μ' 20001 4 = -1) (h2 : ∀ i, μ' 20002 i = 0) : LI μ' 0 ∧ Bd μ' = 148000 := by
  obtain ⟨hX, ⟨hS, hV, hT⟩, hR, hSi, hLi, hFt, hSk, hWk, t1, t2, hz⟩ := h
  have f : Fw (fun x => x = 0 ∨ 20000 ≤ x) μ μ' := fun x hx => hr x (by omega) (by omega)
  have r101 : ∀ i, μ' 101 i = 0 := fun i => by rw [f 101 (by omega)]; exact t1 i
  have r102 : ∀ i, μ' 102 i = 0 := fun i => by rw [f 102 (by omega)]; exact t2 i
  have z0 : ∀ j, 1100 ≤ j → j < 20000 → μ' 0 j = 0 := fun j a c => by rw [h0 j c]; exact hz j a
  refine ⟨⟨⟨?_, ⟨StK_c (.inl rfl), hS.fw f (fun x a b => by omega), ?_, fun i i0 i1 => ?_, fun n n0 n1 => ?_, fun n n0 n1 => ?_, ?_⟩⟩, ⟨⟨hSi.fw f (fun x a b => by omega), hLi.fw f (by omega), ?_, ?_, ?_, fun k k0 k1 _ x x0 x1 => z0 x (by omega) (by omega)⟩, fun n n0 n1 => .inl ⟨r102 n, fun x x0 x1 => z0 x (by omega) (by omega)⟩⟩, fun k k0 k1 => .inl ⟨r101 k, h2 k⟩, hR.fw f (fun x a b => by omega), ⟨hM, hD⟩, Int.le_refl _⟩, ?_⟩
  · unfold X10F; rw [f 100 (by omega)]; exact hX
  · rw [f 1000 (by omega), h1 2 (by decide), h1 3 (by decide), h4, h1 0 (by decide), h1 1 (by decide)]; exact hV
  · rw [f (1000 + 1) (by omega), h1 _ (by omega)]; exact hT i
  · rw [h1 0 (by decide)] at n1; omega
  · rw [h1 1 (by decide)] at n1; omega
  · refine ⟨by rw [h1 0 (by decide)]; decide, by rw [h1 1 (by decide)]; decide, by rw [h1 2 (by decide)]; decide, fun i i0 i1 => by rw [h1 _ (by omega)]; decide, fun n n0 n1 => ?_, fun n n0 n1 => ?_, by rw [h1 3 (by decide), h4]; decide⟩
    · rw [h1 0 (by decide)] at n1; omega
    · rw [h1 1 (by decide)] at n1; omega
  · unfold FtF; rw [f 250 (by omega)]; exact hFt
  · unfold WkF; rw [f 300 (by omega)]; exact hWk
  · unfold SkF; rw [f 290 (by omega)]; exact hSk
  · unfold Bd sb ib
    rw [if_pos (r102 0), if_pos (r102 1), if_pos (r101 0), if_pos (r101 1), if_pos (r101 2)]; decide
end
