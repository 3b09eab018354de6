def z_tbl : List Cond := lw_tbl.filter goodWord
theorem z_tbl_in {w : Cond} (h : w ∈ lw_tbl) (g : goodWord w = true) : w ∈ z_tbl := List.mem_filter.mpr ⟨h, g⟩
theorem z_tbl_good : GoodIn z_tbl z_tbl := fun w h => ⟨h, good_of_word (List.mem_filter.mp h).2⟩
