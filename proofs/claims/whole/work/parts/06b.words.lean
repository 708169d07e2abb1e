theorem t_in_all : ∀ w ∈ tables_1, w ∈ lw_tbl := fun w h => List.mem_append_right _ h
theorem t_in_1 : ∀ w ∈ tables_1_1, w ∈ lw_tbl := fun w h => t_in_all w (List.mem_append_left _ h)
theorem t_in_2 : ∀ w ∈ tables_1_2, w ∈ lw_tbl := fun w h => t_in_all w (List.mem_append_right _ (List.mem_append_left _ h))
theorem t_in_3 : ∀ w ∈ tables_1_3, w ∈ lw_tbl := fun w h => t_in_all w (List.mem_append_right _ (List.mem_append_right _ (List.mem_append_left _ h)))
theorem t_in_4 : ∀ w ∈ tables_1_4, w ∈ lw_tbl := fun w h => t_in_all w (List.mem_append_right _ (List.mem_append_right _ (List.mem_append_right _ (List.mem_append_left _ h))))
theorem t_in_5 : ∀ w ∈ tables_1_5, w ∈ lw_tbl := fun w h => t_in_all w (List.mem_append_right _ (List.mem_append_right _ (List.mem_append_right _ (List.mem_append_right _ (List.mem_append_left _ h)))))
theorem t_in_6 : ∀ w ∈ tables_1_6, w ∈ lw_tbl := fun w h => t_in_all w (List.mem_append_right _ (List.mem_append_right _ (List.mem_append_right _ (List.mem_append_right _ (List.mem_append_right _ (List.mem_append_left _ h))))))
theorem t_in_7 : ∀ w ∈ tables_1_7, w ∈ lw_tbl := fun w h => t_in_all w (List.mem_append_right _ (List.mem_append_right _ (List.mem_append_right _ (List.mem_append_right _ (List.mem_append_right _ (List.mem_append_right _ (h)))))))
theorem am_memT {w : Jvm.Cond} (h : w ∈ lw_tbl) (hg : goodWord w = true) : w ∈ am_all := List.mem_filter.mpr ⟨h, hg⟩
