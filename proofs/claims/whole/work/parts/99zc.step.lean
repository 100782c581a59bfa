section
variable {Ls : Nat} {xs : Nat → Int32} {μ μ2 : Mm} {v3 b1 : Int}
set_option maxRecDepth 4000 in
theorem law_step (hL : Ls ≤ 4608) (h : LI μ v3) (h0 : 0 ≤ v3) (hle : v3 ≤ (Ls : Int) + 9) : Ec (sL_law_18 Ls xs 100 20000 (v3, μ)) (Bd μ) (NxA (lawI Ls) (lawM Ls) lawE (lawM Ls (v3, μ))) := by
  unfold sL_law_18
  dsimp only
  refine Ec_ite (fun z => Ec_outA (Bd_nn μ)) (fun z => ?_)
  rw [w32_eq (by omega) (by omega)] at z
  have h9 : v3 + 9 ≤ (Ls : Int) := by omega
  rw [chk_t (by omega)]
  refine Ec_ite (fun _ => st_feed hL h h0 h9) (fun _ => ?_)
  refine Ec_ite (fun _ => st_end hL h h0 h9) (fun _ => ?_)
  refine Ec_ite (fun _ => st_text hL h h0 h9) (fun _ => ?_)
  refine Ec_ite (fun _ => st_fault hL h h0 h9) (fun _ => ?_)
  refine Ec_ite (fun _ => st_land hL h h0 h9) (fun _ => ?_)
  refine Ec_ite (fun _ => st_height hL h h0 h9) (fun _ => ?_)
  refine Ec_ite (fun _ => st_mend hL h h0 h9) (fun _ => ?_)
  refine Ec_ite (fun _ => st_sketch hL h h0 h9) (fun _ => ?_)
  refine Ec_ite (fun _ => st_rise hL h h0 h9) (fun _ => ?_)
  refine Ec_ite (fun _ => st_seen hL h h0 h9) (fun _ => ?_)
  refine Ec_ite (fun _ => st_ray hL h h0 h9) (fun _ => ?_)
  refine Ec_ite (fun _ => st_hump hL h h0 h9) (fun _ => ?_)
  refine Ec_ite (fun _ => st_steeper hL h h0 h9) (fun _ => ?_)
  refine Ec_ite (fun _ => st_first hL h h0 h9) (fun _ => ?_)
  refine Ec_ite (fun _ => st_fits hL h h0 h9) (fun _ => ?_)
  refine Ec_ite (fun _ => st_where hL h h0 h9) (fun _ => ?_)
  refine Ec_ite (fun _ => st_hills hL h h0 h9) (fun _ => ?_)
  refine Ec_ite (fun _ => st_sure hL h h0 h9) (fun _ => ?_)
  refine Ec_ite (fun _ => st_bars hL h h0 h9) (fun _ => ?_)
  refine Ec_ite (fun _ => st_doubt hL h h0 h9) (fun _ => ?_)
  refine Ec_ite (fun _ => st_since hL h h0 h9) (fun _ => ?_)
  refine Ec_ite (fun _ => st_pairs hL h h0 h9) (fun _ => ?_)
  refine Ec_ite (fun _ => st_way hL h h0 h9) (fun _ => ?_)
  refine Ec_ite (fun _ => st_draw hL h h0 h9) (fun _ => ?_)
  refine Ec_ite (fun _ => st_rivals hL h h0 h9) (fun _ => ?_)
  refine Ec_ite (fun _ => st_known hL h h0 h9) (fun _ => ?_)
  refine Ec_ite (fun _ => st_sees hL h h0 h9) (fun _ => ?_)
  refine Ec_ite (fun _ => st_most hL h h0 h9) (fun _ => ?_)
  refine Ec_ite (fun _ => st_lacks hL h h0 h9) (fun _ => ?_)
  refine Ec_ite (fun _ => st_shift hL h h0 h9) (fun _ => ?_)
  refine Ec_ite (fun _ => st_stretch hL h h0 h9) (fun _ => ?_)
  refine Ec_ite (fun _ => st_wrong hL h h0 h9) (fun _ => ?_)
  refine Ec_ite (fun _ => st_nearest hL h h0 h9) (fun _ => ?_)
  refine Ec_ite (fun _ => st_scrawl hL h h0 h9) (fun _ => ?_)
  refine Ec_ite (fun _ => st_found hL h h0 h9) (fun _ => ?_)
  refine Ec_ite (fun _ => st_differs hL h h0 h9) (fun _ => ?_)
  refine Ec_ite (fun _ => st_hidden hL h h0 h9) (fun _ => ?_)
  refine Ec_ite (fun _ => st_guards hL h h0 h9) (fun _ => ?_)
  refine Ec_ite (fun _ => st_sneak hL h h0 h9) (fun _ => ?_)
  refine Ec_ite (fun _ => st_proud hL h h0 h9) (fun _ => ?_)
  refine Ec_ite (fun _ => st_peaks hL h h0 h9) (fun _ => ?_)
  refine Ec_ite (fun _ => st_count hL h h0 h9) (fun _ => ?_)
  refine Ec_ite (fun _ => st_image hL h h0 h9) (fun _ => ?_)
  refine Ec_ite (fun _ => st_again hL h h0 h9) (fun _ => ?_)
  rw [w32_eq (by omega) (by omega)]
  exact law_fin hL h0 h9 (LI_v h (by omega)) rfl
end
