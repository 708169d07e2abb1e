set_option maxRecDepth 100000 in
theorem gk_X9_goesBy : am_G mr_X9_goesBy := ⟨by decide +kernel, by decide +kernel, am_memT (t_in_5 _ (List.mem_of_getElem? (i := 208) rfl)) rfl⟩
set_option maxRecDepth 100000 in
theorem gk_X9_runs : am_G mr_X9_runs := ⟨by decide +kernel, by decide +kernel, am_memT (t_in_5 _ (List.mem_of_getElem? (i := 204) rfl)) rfl⟩
set_option maxRecDepth 100000 in
theorem gk_X9_runsTold : am_G mr_X9_runsTold := ⟨by decide +kernel, by decide +kernel, am_memT (t_in_5 _ (List.mem_of_getElem? (i := 196) rfl)) rfl⟩
set_option maxRecDepth 100000 in
theorem gk_X9_atOf : am_G mr_X9_atOf := ⟨by decide +kernel, by decide +kernel, am_memT (t_in_5 _ (List.mem_of_getElem? (i := 192) rfl)) rfl⟩
set_option maxRecDepth 100000 in
theorem gk_X9_at : am_G mr_X9_at := ⟨by decide +kernel, by decide +kernel, am_memT (t_in_5 _ (List.mem_of_getElem? (i := 188) rfl)) rfl⟩
set_option maxRecDepth 100000 in
theorem gk_X2_stateOf : am_G mr_X2_stateOf := ⟨by decide +kernel, by decide +kernel, am_memT (t_in_3 _ (List.mem_of_getElem? (i := 144) rfl)) rfl⟩
set_option maxRecDepth 100000 in
theorem gk_X2_glassesOf : am_G mr_X2_glassesOf := ⟨by decide +kernel, by decide +kernel, am_memT (t_in_3 _ (List.mem_of_getElem? (i := 148) rfl)) rfl⟩
set_option maxRecDepth 100000 in
theorem gk_X8_is : am_G mr_X8_is := ⟨by decide +kernel, by decide +kernel, am_memT (t_in_3 _ (List.mem_of_getElem? (i := 139) rfl)) rfl⟩
set_option maxRecDepth 100000 in
theorem gk_X9_isOf : am_G mr_X9_isOf := ⟨by decide +kernel, by decide +kernel, am_memT (t_in_6 _ (List.mem_of_getElem? (i := 10) rfl)) rfl⟩
set_option maxRecDepth 100000 in
theorem gk_X9_is : am_G mr_X9_is := ⟨by decide +kernel, by decide +kernel, am_memT (t_in_6 _ (List.mem_of_getElem? (i := 6) rfl)) rfl⟩
set_option maxRecDepth 100000 in
theorem gk_X8_line : am_G mr_X8_line := ⟨by decide +kernel, by decide +kernel, am_memT (t_in_3 _ (List.mem_of_getElem? (i := 152) rfl)) rfl⟩
set_option maxRecDepth 100000 in
theorem gk_X9_lineOf : am_G mr_X9_lineOf := ⟨by decide +kernel, by decide +kernel, am_memT (t_in_6 _ (List.mem_of_getElem? (i := 18) rfl)) rfl⟩
set_option maxRecDepth 100000 in
theorem gk_X9_line : am_G mr_X9_line := ⟨by decide +kernel, by decide +kernel, am_memT (t_in_6 _ (List.mem_of_getElem? (i := 14) rfl)) rfl⟩
set_option maxRecDepth 100000 in
theorem gk_J13_bitCount : am_G mr_J13_bitCount := ⟨by decide +kernel, by decide +kernel, am_memT (t_in_3 _ (List.mem_of_getElem? (i := 159) rfl)) rfl⟩
set_option maxRecDepth 100000 in
theorem gk_X8_sum : am_G mr_X8_sum := ⟨by decide +kernel, by decide +kernel, am_memT (t_in_3 _ (List.mem_of_getElem? (i := 156) rfl)) rfl⟩
set_option maxRecDepth 100000 in
theorem gk_X9_drunkNow : am_G mr_X9_drunkNow := ⟨by decide +kernel, by decide +kernel, am_memT (t_in_6 _ (List.mem_of_getElem? (i := 30) rfl)) rfl⟩
set_option maxRecDepth 100000 in
theorem gk_X9_manyOf : am_G mr_X9_manyOf := ⟨by decide +kernel, by decide +kernel, am_memT (t_in_6 _ (List.mem_of_getElem? (i := 34) rfl)) rfl⟩
set_option maxRecDepth 100000 in
theorem gk_X9_sumOf : am_G mr_X9_sumOf := ⟨by decide +kernel, by decide +kernel, am_memT (t_in_6 _ (List.mem_of_getElem? (i := 26) rfl)) rfl⟩
set_option maxRecDepth 100000 in
theorem gk_X9_sum : am_G mr_X9_sum := ⟨by decide +kernel, by decide +kernel, am_memT (t_in_6 _ (List.mem_of_getElem? (i := 22) rfl)) rfl⟩
set_option maxRecDepth 100000 in
theorem gk_X8_first : am_G mr_X8_first := ⟨by decide +kernel, by decide +kernel, am_memT (t_in_3 _ (List.mem_of_getElem? (i := 166) rfl)) rfl⟩
set_option maxRecDepth 100000 in
theorem gk_X9_firstOf : am_G mr_X9_firstOf := ⟨by decide +kernel, by decide +kernel, am_memT (t_in_6 _ (List.mem_of_getElem? (i := 42) rfl)) rfl⟩
set_option maxRecDepth 100000 in
theorem gk_X9_first : am_G mr_X9_first := ⟨by decide +kernel, by decide +kernel, am_memT (t_in_6 _ (List.mem_of_getElem? (i := 38) rfl)) rfl⟩
set_option maxRecDepth 100000 in
theorem gk_X8_hottest : am_G mr_X8_hottest := ⟨by decide +kernel, by decide +kernel, am_memT (t_in_3 _ (List.mem_of_getElem? (i := 170) rfl)) rfl⟩
set_option maxRecDepth 100000 in
theorem gk_X9_hottestOf : am_G mr_X9_hottestOf := ⟨by decide +kernel, by decide +kernel, am_memT (t_in_6 _ (List.mem_of_getElem? (i := 50) rfl)) rfl⟩
set_option maxRecDepth 100000 in
theorem gk_X9_hottest : am_G mr_X9_hottest := ⟨by decide +kernel, by decide +kernel, am_memT (t_in_6 _ (List.mem_of_getElem? (i := 46) rfl)) rfl⟩
set_option maxRecDepth 100000 in
theorem gk_X8_waited : am_G mr_X8_waited := ⟨by decide +kernel, by decide +kernel, am_memT (t_in_3 _ (List.mem_of_getElem? (i := 174) rfl)) rfl⟩
set_option maxRecDepth 100000 in
theorem gk_X9_waitedOf : am_G mr_X9_waitedOf := ⟨by decide +kernel, by decide +kernel, am_memT (t_in_6 _ (List.mem_of_getElem? (i := 58) rfl)) rfl⟩
set_option maxRecDepth 100000 in
theorem gk_X9_waited : am_G mr_X9_waited := ⟨by decide +kernel, by decide +kernel, am_memT (t_in_6 _ (List.mem_of_getElem? (i := 54) rfl)) rfl⟩
set_option maxRecDepth 100000 in
theorem gk_X8_thirst : am_G mr_X8_thirst := ⟨by decide +kernel, by decide +kernel, am_memT (t_in_3 _ (List.mem_of_getElem? (i := 178) rfl)) rfl⟩
set_option maxRecDepth 100000 in
theorem gk_X9_thirstOf : am_G mr_X9_thirstOf := ⟨by decide +kernel, by decide +kernel, am_memT (t_in_6 _ (List.mem_of_getElem? (i := 66) rfl)) rfl⟩
set_option maxRecDepth 100000 in
theorem gk_X9_thirst : am_G mr_X9_thirst := ⟨by decide +kernel, by decide +kernel, am_memT (t_in_6 _ (List.mem_of_getElem? (i := 62) rfl)) rfl⟩
set_option maxRecDepth 100000 in
theorem gk_X7_kindsOf : am_G mr_X7_kindsOf := ⟨by decide +kernel, by decide +kernel, am_memT (t_in_3 _ (List.mem_of_getElem? (i := 185) rfl)) rfl⟩
set_option maxRecDepth 100000 in
theorem gk_X1_becomeLike : am_G mr_X1_becomeLike := ⟨by decide +kernel, by decide +kernel, am_memT (t_in_3 _ (List.mem_of_getElem? (i := 201) rfl)) rfl⟩
set_option maxRecDepth 100000 in
theorem gk_X4_becomeLike : am_G mr_X4_becomeLike := ⟨by decide +kernel, by decide +kernel, am_memT (t_in_3 _ (List.mem_of_getElem? (i := 197) rfl)) rfl⟩
set_option maxRecDepth 100000 in
theorem gk_X7_alter : am_G mr_X7_alter := ⟨by decide +kernel, by decide +kernel, am_memT (t_in_3 _ (List.mem_of_getElem? (i := 206) rfl)) rfl⟩
set_option maxRecDepth 100000 in
theorem gk_X7_pack : am_G mr_X7_pack := ⟨by decide +kernel, by decide +kernel, am_memT (t_in_3 _ (List.mem_of_getElem? (i := 210) rfl)) rfl⟩
set_option maxRecDepth 100000 in
theorem gk_X7_outcome : am_G mr_X7_outcome := ⟨by decide +kernel, by decide +kernel, am_memT (t_in_3 _ (List.mem_of_getElem? (i := 193) rfl)) rfl⟩
set_option maxRecDepth 100000 in
theorem gk_X7_glassesIn : am_G mr_X7_glassesIn := ⟨by decide +kernel, by decide +kernel, am_memT (t_in_3 _ (List.mem_of_getElem? (i := 214) rfl)) rfl⟩
set_option maxRecDepth 100000 in
theorem gk_X8_mostGlasses : am_G mr_X8_mostGlasses := ⟨by decide +kernel, by decide +kernel, am_memT (t_in_3 _ (List.mem_of_getElem? (i := 189) rfl)) rfl⟩
set_option maxRecDepth 100000 in
theorem gk_X8_better : am_G mr_X8_better := ⟨by decide +kernel, by decide +kernel, am_memT (t_in_3 _ (List.mem_of_getElem? (i := 182) rfl)) rfl⟩
set_option maxRecDepth 100000 in
theorem gk_X9_starts : am_G mr_X9_starts := ⟨by decide +kernel, by decide +kernel, am_memT (t_in_6 _ (List.mem_of_getElem? (i := 78) rfl)) rfl⟩
set_option maxRecDepth 100000 in
theorem gk_X9_tries : am_G mr_X9_tries := ⟨by decide +kernel, by decide +kernel, am_memT (t_in_6 _ (List.mem_of_getElem? (i := 82) rfl)) rfl⟩
set_option maxRecDepth 100000 in
theorem gk_X9_betterOf : am_G mr_X9_betterOf := ⟨by decide +kernel, by decide +kernel, am_memT (t_in_6 _ (List.mem_of_getElem? (i := 74) rfl)) rfl⟩
set_option maxRecDepth 100000 in
theorem gk_X9_better : am_G mr_X9_better := ⟨by decide +kernel, by decide +kernel, am_memT (t_in_6 _ (List.mem_of_getElem? (i := 70) rfl)) rfl⟩
set_option maxRecDepth 100000 in
theorem gk_X8_fill : am_G mr_X8_fill := ⟨by decide +kernel, by decide +kernel, am_memT (t_in_3 _ (List.mem_of_getElem? (i := 219) rfl)) rfl⟩
set_option maxRecDepth 100000 in
theorem gk_X9_fillOf : am_G mr_X9_fillOf := ⟨by decide +kernel, by decide +kernel, am_memT (t_in_6 _ (List.mem_of_getElem? (i := 90) rfl)) rfl⟩
set_option maxRecDepth 100000 in
theorem gk_X9_fill : am_G mr_X9_fill := ⟨by decide +kernel, by decide +kernel, am_memT (t_in_6 _ (List.mem_of_getElem? (i := 86) rfl)) rfl⟩
set_option maxRecDepth 100000 in
theorem gk_X7_minutesOf : am_G mr_X7_minutesOf := ⟨by decide +kernel, by decide +kernel, am_memT (t_in_3 _ (List.mem_of_getElem? (i := 226) rfl)) rfl⟩
set_option maxRecDepth 100000 in
theorem gk_X8_come : am_G mr_X8_come := ⟨by decide +kernel, by decide +kernel, am_memT (t_in_3 _ (List.mem_of_getElem? (i := 223) rfl)) rfl⟩
set_option maxRecDepth 100000 in
theorem gk_X9_comeOf : am_G mr_X9_comeOf := ⟨by decide +kernel, by decide +kernel, am_memT (t_in_6 _ (List.mem_of_getElem? (i := 98) rfl)) rfl⟩
set_option maxRecDepth 100000 in
theorem gk_X9_come : am_G mr_X9_come := ⟨by decide +kernel, by decide +kernel, am_memT (t_in_6 _ (List.mem_of_getElem? (i := 94) rfl)) rfl⟩
set_option maxRecDepth 100000 in
theorem gk_X7_goneIn : am_G mr_X7_goneIn := ⟨by decide +kernel, by decide +kernel, am_memT (t_in_3 _ (List.mem_of_getElem? (i := 237) rfl)) rfl⟩
