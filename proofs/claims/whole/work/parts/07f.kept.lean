set_option maxRecDepth 100000 in
theorem gk_X9_digest : am_G mr_X9_digest := ⟨by decide +kernel, by decide +kernel, am_memT (t_in_6 _ (List.mem_of_getElem? (i := 230) rfl)) rfl⟩
