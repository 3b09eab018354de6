theorem z_inX : ∀ ci, ci < 13 → ∀ w ∈ u_ws (z_C ci) (z_T ci) (z_nf ci), w ∈ z_tbl := by
  have key : ∀ ci, ci < 13 → ((u_ws (z_C ci) (z_T ci) (z_nf ci)).all (fun w => z_tbl.contains w)) = true := by
    refine z_lt13 ?_ ?_ ?_ ?_ ?_ ?_ ?_ ?_ ?_ ?_ ?_ ?_ ?_ <;> decide +kernel
  intro ci h w hw
  have h1 := List.all_eq_true.mp (key ci h) w hw
  exact List.contains_iff_mem.mp h1
