set_option maxRecDepth 100000 in
theorem gk_X8_sparedEvents : am_G mr_X8_sparedEvents := ⟨by decide +kernel, by decide +kernel, am_memT (t_in_3 _ (List.mem_of_getElem? (i := 234) rfl)) rfl⟩
set_option maxRecDepth 100000 in
theorem gk_X8_bitAt : am_G mr_X8_bitAt := ⟨by decide +kernel, by decide +kernel, am_memT (t_in_4 _ (List.mem_of_getElem? (i := 1) rfl)) rfl⟩
set_option maxRecDepth 100000 in
theorem gk_X8_spare : am_G mr_X8_spare := ⟨by decide +kernel, by decide +kernel, am_memT (t_in_3 _ (List.mem_of_getElem? (i := 230) rfl)) rfl⟩
set_option maxRecDepth 100000 in
theorem gk_X9_isSpared : am_G mr_X9_isSpared := ⟨by decide +kernel, by decide +kernel, am_memT (t_in_6 _ (List.mem_of_getElem? (i := 110) rfl)) rfl⟩
set_option maxRecDepth 100000 in
theorem gk_X9_spareBy : am_G mr_X9_spareBy := ⟨by decide +kernel, by decide +kernel, am_memT (t_in_6 _ (List.mem_of_getElem? (i := 106) rfl)) rfl⟩
set_option maxRecDepth 100000 in
theorem gk_X9_ofRow : am_G mr_X9_ofRow := ⟨by decide +kernel, by decide +kernel, am_memT (t_in_6 _ (List.mem_of_getElem? (i := 114) rfl)) rfl⟩
set_option maxRecDepth 100000 in
theorem gk_X9_spare : am_G mr_X9_spare := ⟨by decide +kernel, by decide +kernel, am_memT (t_in_6 _ (List.mem_of_getElem? (i := 102) rfl)) rfl⟩
set_option maxRecDepth 100000 in
theorem gk_X8_seen : am_G mr_X8_seen := ⟨by decide +kernel, by decide +kernel, am_memT (t_in_4 _ (List.mem_of_getElem? (i := 5) rfl)) rfl⟩
set_option maxRecDepth 100000 in
theorem gk_X9_seen : am_G mr_X9_seen := ⟨by decide +kernel, by decide +kernel, am_memT (t_in_6 _ (List.mem_of_getElem? (i := 118) rfl)) rfl⟩
set_option maxRecDepth 100000 in
theorem gk_X8_forget : am_G mr_X8_forget := ⟨by decide +kernel, by decide +kernel, am_memT (t_in_4 _ (List.mem_of_getElem? (i := 9) rfl)) rfl⟩
set_option maxRecDepth 100000 in
theorem gk_X9_forget : am_G mr_X9_forget := ⟨by decide +kernel, by decide +kernel, am_memT (t_in_6 _ (List.mem_of_getElem? (i := 122) rfl)) rfl⟩
set_option maxRecDepth 100000 in
theorem gk_X7_boiledIn : am_G mr_X7_boiledIn := ⟨by decide +kernel, by decide +kernel, am_memT (t_in_4 _ (List.mem_of_getElem? (i := 20) rfl)) rfl⟩
set_option maxRecDepth 100000 in
theorem gk_X8_comesOutAsSeen : am_G mr_X8_comesOutAsSeen := ⟨by decide +kernel, by decide +kernel, am_memT (t_in_4 _ (List.mem_of_getElem? (i := 17) rfl)) rfl⟩
set_option maxRecDepth 100000 in
theorem gk_X8_never : am_G mr_X8_never := ⟨by decide +kernel, by decide +kernel, am_memT (t_in_4 _ (List.mem_of_getElem? (i := 13) rfl)) rfl⟩
set_option maxRecDepth 100000 in
theorem gk_X9_isSeen : am_G mr_X9_isSeen := ⟨by decide +kernel, by decide +kernel, am_memT (t_in_6 _ (List.mem_of_getElem? (i := 134) rfl)) rfl⟩
set_option maxRecDepth 100000 in
theorem gk_X9_neverNow : am_G mr_X9_neverNow := ⟨by decide +kernel, by decide +kernel, am_memT (t_in_6 _ (List.mem_of_getElem? (i := 130) rfl)) rfl⟩
set_option maxRecDepth 100000 in
theorem gk_X9_never : am_G mr_X9_never := ⟨by decide +kernel, by decide +kernel, am_memT (t_in_6 _ (List.mem_of_getElem? (i := 126) rfl)) rfl⟩
set_option maxRecDepth 100000 in
theorem gk_X8_comingOutAsSeen : am_G mr_X8_comingOutAsSeen := ⟨by decide +kernel, by decide +kernel, am_memT (t_in_4 _ (List.mem_of_getElem? (i := 29) rfl)) rfl⟩
set_option maxRecDepth 100000 in
theorem gk_X8_waters : am_G mr_X8_waters := ⟨by decide +kernel, by decide +kernel, am_memT (t_in_4 _ (List.mem_of_getElem? (i := 25) rfl)) rfl⟩
set_option maxRecDepth 100000 in
theorem gk_X9_watersBy : am_G mr_X9_watersBy := ⟨by decide +kernel, by decide +kernel, am_memT (t_in_6 _ (List.mem_of_getElem? (i := 142) rfl)) rfl⟩
set_option maxRecDepth 100000 in
theorem gk_X9_waters : am_G mr_X9_waters := ⟨by decide +kernel, by decide +kernel, am_memT (t_in_6 _ (List.mem_of_getElem? (i := 138) rfl)) rfl⟩
set_option maxRecDepth 100000 in
theorem gk_X8_kind : am_G mr_X8_kind := ⟨by decide +kernel, by decide +kernel, am_memT (t_in_4 _ (List.mem_of_getElem? (i := 33) rfl)) rfl⟩
set_option maxRecDepth 100000 in
theorem gk_X9_kindsBy : am_G mr_X9_kindsBy := ⟨by decide +kernel, by decide +kernel, am_memT (t_in_6 _ (List.mem_of_getElem? (i := 150) rfl)) rfl⟩
set_option maxRecDepth 100000 in
theorem gk_X9_kind : am_G mr_X9_kind := ⟨by decide +kernel, by decide +kernel, am_memT (t_in_6 _ (List.mem_of_getElem? (i := 146) rfl)) rfl⟩
set_option maxRecDepth 100000 in
theorem gk_X8_boilingWaters : am_G mr_X8_boilingWaters := ⟨by decide +kernel, by decide +kernel, am_memT (t_in_4 _ (List.mem_of_getElem? (i := 42) rfl)) rfl⟩
set_option maxRecDepth 100000 in
theorem gk_X8_ask : am_G mr_X8_ask := ⟨by decide +kernel, by decide +kernel, am_memT (t_in_4 _ (List.mem_of_getElem? (i := 37) rfl)) rfl⟩
set_option maxRecDepth 100000 in
theorem gk_X9_many : am_G mr_X9_many := ⟨by decide +kernel, by decide +kernel, am_memT (t_in_6 _ (List.mem_of_getElem? (i := 161) rfl)) rfl⟩
set_option maxRecDepth 100000 in
theorem gk_X9_askOf : am_G mr_X9_askOf := ⟨by decide +kernel, by decide +kernel, am_memT (t_in_6 _ (List.mem_of_getElem? (i := 158) rfl)) rfl⟩
set_option maxRecDepth 100000 in
theorem gk_X9_ask : am_G mr_X9_ask := ⟨by decide +kernel, by decide +kernel, am_memT (t_in_6 _ (List.mem_of_getElem? (i := 154) rfl)) rfl⟩
set_option maxRecDepth 100000 in
theorem gk_X7_contentIn : am_G mr_X7_contentIn := ⟨by decide +kernel, by decide +kernel, am_memT (t_in_4 _ (List.mem_of_getElem? (i := 51) rfl)) rfl⟩
set_option maxRecDepth 100000 in
theorem gk_X8_power : am_G mr_X8_power := ⟨by decide +kernel, by decide +kernel, am_memT (t_in_4 _ (List.mem_of_getElem? (i := 54) rfl)) rfl⟩
set_option maxRecDepth 100000 in
theorem gk_X8_chance : am_G mr_X8_chance := ⟨by decide +kernel, by decide +kernel, am_memT (t_in_4 _ (List.mem_of_getElem? (i := 47) rfl)) rfl⟩
set_option maxRecDepth 100000 in
theorem gk_X9_lowest : am_G mr_X9_lowest := ⟨by decide +kernel, by decide +kernel, am_memT (t_in_6 _ (List.mem_of_getElem? (i := 172) rfl)) rfl⟩
set_option maxRecDepth 100000 in
theorem gk_X9_chanceOf : am_G mr_X9_chanceOf := ⟨by decide +kernel, by decide +kernel, am_memT (t_in_6 _ (List.mem_of_getElem? (i := 169) rfl)) rfl⟩
set_option maxRecDepth 100000 in
theorem gk_X9_no : am_G mr_X9_no := ⟨by decide +kernel, by decide +kernel, am_memT (t_in_6 _ (List.mem_of_getElem? (i := 175) rfl)) rfl⟩
set_option maxRecDepth 100000 in
theorem gk_X9_chance : am_G mr_X9_chance := ⟨by decide +kernel, by decide +kernel, am_memT (t_in_6 _ (List.mem_of_getElem? (i := 165) rfl)) rfl⟩
set_option maxRecDepth 100000 in
theorem gk_X7_nextSeed : am_G mr_X7_nextSeed := ⟨by decide +kernel, by decide +kernel, am_memT (t_in_4 _ (List.mem_of_getElem? (i := 66) rfl)) rfl⟩
set_option maxRecDepth 100000 in
theorem gk_X7_outcomeByLots : am_G mr_X7_outcomeByLots := ⟨by decide +kernel, by decide +kernel, am_memT (t_in_4 _ (List.mem_of_getElem? (i := 63) rfl)) rfl⟩
set_option maxRecDepth 100000 in
theorem gk_X8_evenings : am_G mr_X8_evenings := ⟨by decide +kernel, by decide +kernel, am_memT (t_in_4 _ (List.mem_of_getElem? (i := 59) rfl)) rfl⟩
set_option maxRecDepth 100000 in
theorem gk_X9_eveningsOf : am_G mr_X9_eveningsOf := ⟨by decide +kernel, by decide +kernel, am_memT (t_in_6 _ (List.mem_of_getElem? (i := 184) rfl)) rfl⟩
set_option maxRecDepth 100000 in
theorem gk_X9_evenings : am_G mr_X9_evenings := ⟨by decide +kernel, by decide +kernel, am_memT (t_in_6 _ (List.mem_of_getElem? (i := 180) rfl)) rfl⟩
set_option maxRecDepth 100000 in
theorem gk_X5_renew : am_G mr_X5_renew := ⟨by decide +kernel, by decide +kernel, am_memT (t_in_4 _ (List.mem_of_getElem? (i := 76) rfl)) rfl⟩
set_option maxRecDepth 100000 in
theorem gk_X8_sheet : am_G mr_X8_sheet := ⟨by decide +kernel, by decide +kernel, am_memT (t_in_4 _ (List.mem_of_getElem? (i := 72) rfl)) rfl⟩
set_option maxRecDepth 100000 in
theorem gk_X9_sheet : am_G mr_X9_sheet := ⟨by decide +kernel, by decide +kernel, am_memT (t_in_6 _ (List.mem_of_getElem? (i := 189) rfl)) rfl⟩
