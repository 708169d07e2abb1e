set_option maxRecDepth 100000 in
theorem gk_X9_read : am_G mr_X9_read := ⟨by decide +kernel, by decide +kernel, am_memT (t_in_5 _ (List.mem_of_getElem? (i := 176) rfl)) rfl⟩
set_option maxRecDepth 100000 in
theorem gk_X3_begin : am_G mr_X3_begin := ⟨by decide +kernel, by decide +kernel, am_memT (t_in_3 _ (List.mem_of_getElem? (i := 79) rfl)) rfl⟩
set_option maxRecDepth 100000 in
theorem gk_J14_fill_I : am_G mr_J14_fill_I := ⟨by decide +kernel, by decide +kernel, am_memT (t_in_3 _ (List.mem_of_getElem? (i := 86) rfl)) rfl⟩
set_option maxRecDepth 100000 in
theorem gk_X0_begin : am_G mr_X0_begin := ⟨by decide +kernel, by decide +kernel, am_memT (t_in_3 _ (List.mem_of_getElem? (i := 83) rfl)) rfl⟩
set_option maxRecDepth 100000 in
theorem gk_X2_light : am_G mr_X2_light := ⟨by decide +kernel, by decide +kernel, am_memT (t_in_3 _ (List.mem_of_getElem? (i := 90) rfl)) rfl⟩
set_option maxRecDepth 100000 in
theorem gk_X3_meet : am_G mr_X3_meet := ⟨by decide +kernel, by decide +kernel, am_memT (t_in_3 _ (List.mem_of_getElem? (i := 102) rfl)) rfl⟩
set_option maxRecDepth 100000 in
theorem gk_X3_warm : am_G mr_X3_warm := ⟨by decide +kernel, by decide +kernel, am_memT (t_in_3 _ (List.mem_of_getElem? (i := 108) rfl)) rfl⟩
set_option maxRecDepth 100000 in
theorem gk_X3_boils : am_G mr_X3_boils := ⟨by decide +kernel, by decide +kernel, am_memT (t_in_3 _ (List.mem_of_getElem? (i := 112) rfl)) rfl⟩
set_option maxRecDepth 100000 in
theorem gk_X0_join : am_G mr_X0_join := ⟨by decide +kernel, by decide +kernel, am_memT (t_in_3 _ (List.mem_of_getElem? (i := 120) rfl)) rfl⟩
set_option maxRecDepth 100000 in
theorem gk_X0_lineUp : am_G mr_X0_lineUp := ⟨by decide +kernel, by decide +kernel, am_memT (t_in_3 _ (List.mem_of_getElem? (i := 116) rfl)) rfl⟩
set_option maxRecDepth 100000 in
theorem gk_X0_serve : am_G mr_X0_serve := ⟨by decide +kernel, by decide +kernel, am_memT (t_in_3 _ (List.mem_of_getElem? (i := 124) rfl)) rfl⟩
set_option maxRecDepth 100000 in
theorem gk_X0_losePatience : am_G mr_X0_losePatience := ⟨by decide +kernel, by decide +kernel, am_memT (t_in_3 _ (List.mem_of_getElem? (i := 128) rfl)) rfl⟩
set_option maxRecDepth 100000 in
theorem gk_X2_note : am_G mr_X2_note := ⟨by decide +kernel, by decide +kernel, am_memT (t_in_3 _ (List.mem_of_getElem? (i := 132) rfl)) rfl⟩
set_option maxRecDepth 100000 in
theorem gk_X2_pass : am_G mr_X2_pass := ⟨by decide +kernel, by decide +kernel, am_memT (t_in_3 _ (List.mem_of_getElem? (i := 75) rfl)) rfl⟩
set_option maxRecDepth 100000 in
theorem gk_X8_toldEvening : am_G mr_X8_toldEvening := ⟨by decide +kernel, by decide +kernel, am_memT (t_in_3 _ (List.mem_of_getElem? (i := 71) rfl)) rfl⟩
set_option maxRecDepth 100000 in
theorem gk_X8_at : am_G mr_X8_at := ⟨by decide +kernel, by decide +kernel, am_memT (t_in_3 _ (List.mem_of_getElem? (i := 67) rfl)) rfl⟩
set_option maxRecDepth 100000 in
theorem gk_X9_asTold : am_G mr_X9_asTold := ⟨by decide +kernel, by decide +kernel, am_memT (t_in_5 _ (List.mem_of_getElem? (i := 200) rfl)) rfl⟩
set_option maxRecDepth 100000 in
theorem gk_X9_isIn : am_G mr_X9_isIn := ⟨by decide +kernel, by decide +kernel, am_memT (t_in_5 _ (List.mem_of_getElem? (i := 215) rfl)) rfl⟩
set_option maxRecDepth 100000 in
theorem gk_X9_less : am_G mr_X9_less := ⟨by decide +kernel, by decide +kernel, am_memT (t_in_5 _ (List.mem_of_getElem? (i := 218) rfl)) rfl⟩
set_option maxRecDepth 100000 in
theorem gk_X9_befalls : am_G mr_X9_befalls := ⟨by decide +kernel, by decide +kernel, am_memT (t_in_5 _ (List.mem_of_getElem? (i := 212) rfl)) rfl⟩
set_option maxRecDepth 100000 in
theorem gk_X9_fireAt : am_G mr_X9_fireAt := ⟨by decide +kernel, by decide +kernel, am_memT (t_in_5 _ (List.mem_of_getElem? (i := 222) rfl)) rfl⟩
set_option maxRecDepth 100000 in
theorem gk_X9_joins : am_G mr_X9_joins := ⟨by decide +kernel, by decide +kernel, am_memT (t_in_5 _ (List.mem_of_getElem? (i := 230) rfl)) rfl⟩
set_option maxRecDepth 100000 in
theorem gk_X9_comes : am_G mr_X9_comes := ⟨by decide +kernel, by decide +kernel, am_memT (t_in_5 _ (List.mem_of_getElem? (i := 226) rfl)) rfl⟩
set_option maxRecDepth 100000 in
theorem gk_X9_leaves : am_G mr_X9_leaves := ⟨by decide +kernel, by decide +kernel, am_memT (t_in_5 _ (List.mem_of_getElem? (i := 238) rfl)) rfl⟩
set_option maxRecDepth 100000 in
theorem gk_X9_serves : am_G mr_X9_serves := ⟨by decide +kernel, by decide +kernel, am_memT (t_in_5 _ (List.mem_of_getElem? (i := 234) rfl)) rfl⟩
set_option maxRecDepth 100000 in
theorem gk_X9_goAway : am_G mr_X9_goAway := ⟨by decide +kernel, by decide +kernel, am_memT (t_in_6 _ (List.mem_of_getElem? (i := 2) rfl)) rfl⟩
