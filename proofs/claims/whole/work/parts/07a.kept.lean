set_option maxRecDepth 100000 in
theorem gk_X8_textAt : am_G mr_X8_textAt := ⟨by decide +kernel, by decide +kernel, am_memT (t_in_2 _ (List.mem_of_getElem? (i := 115) rfl)) rfl⟩
set_option maxRecDepth 100000 in
theorem gk_X8_within : am_G mr_X8_within := ⟨by decide +kernel, by decide +kernel, am_memT (t_in_2 _ (List.mem_of_getElem? (i := 118) rfl)) rfl⟩
set_option maxRecDepth 100000 in
theorem gk_J10_isLatin1 : am_G mr_J10_isLatin1 := ⟨by decide +kernel, by decide +kernel, am_memT (t_in_2 _ (List.mem_of_getElem? (i := 146) rfl)) rfl⟩
set_option maxRecDepth 100000 in
theorem gk_J10_coder : am_G mr_J10_coder := ⟨by decide +kernel, by decide +kernel, am_memT (t_in_2 _ (List.mem_of_getElem? (i := 156) rfl)) rfl⟩
set_option maxRecDepth 100000 in
theorem gk_J10_length : am_G mr_J10_length := ⟨by decide +kernel, by decide +kernel, am_memT (t_in_2 _ (List.mem_of_getElem? (i := 152) rfl)) rfl⟩
set_option maxRecDepth 100000 in
theorem gk_J11_canEncode : am_G mr_J11_canEncode := ⟨by decide +kernel, by decide +kernel, am_memT (t_in_2 _ (List.mem_of_getElem? (i := 162) rfl)) rfl⟩
set_option maxRecDepth 100000 in
theorem gk_J11_indexOfChar : am_G mr_J11_indexOfChar := ⟨by decide +kernel, by decide +kernel, am_memT (t_in_2 _ (List.mem_of_getElem? (i := 171) rfl)) rfl⟩
set_option maxRecDepth 100000 in
theorem gk_J11_indexOf : am_G mr_J11_indexOf := ⟨by decide +kernel, by decide +kernel, am_memT (t_in_2 _ (List.mem_of_getElem? (i := 159) rfl)) rfl⟩
set_option maxRecDepth 100000 in
theorem gk_J10_indexOf_2 : am_G mr_J10_indexOf_2 := ⟨by decide +kernel, by decide +kernel, am_memT (t_in_2 _ (List.mem_of_getElem? (i := 142) rfl)) rfl⟩
set_option maxRecDepth 100000 in
theorem gk_J10_indexOf_1 : am_G mr_J10_indexOf_1 := ⟨by decide +kernel, by decide +kernel, am_memT (t_in_2 _ (List.mem_of_getElem? (i := 138) rfl)) rfl⟩
set_option maxRecDepth 100000 in
theorem gk_X6_fits : am_G mr_X6_fits := ⟨by decide +kernel, by decide +kernel, am_memT (t_in_2 _ (List.mem_of_getElem? (i := 134) rfl)) rfl⟩
set_option maxRecDepth 100000 in
theorem gk_X1_add : am_G mr_X1_add := ⟨by decide +kernel, by decide +kernel, am_memT (t_in_2 _ (List.mem_of_getElem? (i := 224) rfl)) rfl⟩
set_option maxRecDepth 100000 in
theorem gk_X6_firstFault : am_G mr_X6_firstFault := ⟨by decide +kernel, by decide +kernel, am_memT (t_in_2 _ (List.mem_of_getElem? (i := 130) rfl)) rfl⟩
set_option maxRecDepth 100000 in
theorem gk_X6_scan : am_G mr_X6_scan := ⟨by decide +kernel, by decide +kernel, am_memT (t_in_2 _ (List.mem_of_getElem? (i := 126) rfl)) rfl⟩
set_option maxRecDepth 100000 in
theorem gk_X6_append : am_G mr_X6_append := ⟨by decide +kernel, by decide +kernel, am_memT (t_in_2 _ (List.mem_of_getElem? (i := 122) rfl)) rfl⟩
set_option maxRecDepth 100000 in
theorem gk_J14_fill_J : am_G mr_J14_fill_J := ⟨by decide +kernel, by decide +kernel, am_memT (t_in_2 _ (List.mem_of_getElem? (i := 235) rfl)) rfl⟩
set_option maxRecDepth 100000 in
theorem gk_X7_drop : am_G mr_X7_drop := ⟨by decide +kernel, by decide +kernel, am_memT (t_in_2 _ (List.mem_of_getElem? (i := 232) rfl)) rfl⟩
set_option maxRecDepth 100000 in
theorem gk_X8_changed : am_G mr_X8_changed := ⟨by decide +kernel, by decide +kernel, am_memT (t_in_2 _ (List.mem_of_getElem? (i := 228) rfl)) rfl⟩
set_option maxRecDepth 100000 in
theorem gk_X8_type : am_G mr_X8_type := ⟨by decide +kernel, by decide +kernel, am_memT (t_in_2 _ (List.mem_of_getElem? (i := 111) rfl)) rfl⟩
set_option maxRecDepth 100000 in
theorem gk_X9_in : am_G mr_X9_in := ⟨by decide +kernel, by decide +kernel, am_memT (t_in_5 _ (List.mem_of_getElem? (i := 98) rfl)) rfl⟩
set_option maxRecDepth 100000 in
theorem gk_X9_isTwo : am_G mr_X9_isTwo := ⟨by decide +kernel, by decide +kernel, am_memT (t_in_5 _ (List.mem_of_getElem? (i := 95) rfl)) rfl⟩
set_option maxRecDepth 100000 in
theorem gk_X9_type : am_G mr_X9_type := ⟨by decide +kernel, by decide +kernel, am_memT (t_in_5 _ (List.mem_of_getElem? (i := 92) rfl)) rfl⟩
set_option maxRecDepth 100000 in
theorem gk_X6_shorten : am_G mr_X6_shorten := ⟨by decide +kernel, by decide +kernel, am_memT (t_in_3 _ (List.mem_of_getElem? (i := 3) rfl)) rfl⟩
set_option maxRecDepth 100000 in
theorem gk_X8_wipe : am_G mr_X8_wipe := ⟨by decide +kernel, by decide +kernel, am_memT (t_in_2 _ (List.mem_of_getElem? (i := 239) rfl)) rfl⟩
set_option maxRecDepth 100000 in
theorem gk_X9_wipe : am_G mr_X9_wipe := ⟨by decide +kernel, by decide +kernel, am_memT (t_in_5 _ (List.mem_of_getElem? (i := 102) rfl)) rfl⟩
set_option maxRecDepth 100000 in
theorem gk_X8_undo : am_G mr_X8_undo := ⟨by decide +kernel, by decide +kernel, am_memT (t_in_3 _ (List.mem_of_getElem? (i := 7) rfl)) rfl⟩
set_option maxRecDepth 100000 in
theorem gk_X9_undo : am_G mr_X9_undo := ⟨by decide +kernel, by decide +kernel, am_memT (t_in_5 _ (List.mem_of_getElem? (i := 106) rfl)) rfl⟩
set_option maxRecDepth 100000 in
theorem gk_X8_fault : am_G mr_X8_fault := ⟨by decide +kernel, by decide +kernel, am_memT (t_in_3 _ (List.mem_of_getElem? (i := 11) rfl)) rfl⟩
set_option maxRecDepth 100000 in
theorem gk_X9_byteAt : am_G mr_X9_byteAt := ⟨by decide +kernel, by decide +kernel, am_memT (t_in_5 _ (List.mem_of_getElem? (i := 126) rfl)) rfl⟩
set_option maxRecDepth 100000 in
theorem gk_X9_isMinute : am_G mr_X9_isMinute := ⟨by decide +kernel, by decide +kernel, am_memT (t_in_5 _ (List.mem_of_getElem? (i := 129) rfl)) rfl⟩
set_option maxRecDepth 100000 in
theorem gk_X9_readsPart : am_G mr_X9_readsPart := ⟨by decide +kernel, by decide +kernel, am_memT (t_in_5 _ (List.mem_of_getElem? (i := 122) rfl)) rfl⟩
set_option maxRecDepth 100000 in
theorem gk_X9_readsText : am_G mr_X9_readsText := ⟨by decide +kernel, by decide +kernel, am_memT (t_in_5 _ (List.mem_of_getElem? (i := 118) rfl)) rfl⟩
set_option maxRecDepth 100000 in
theorem gk_X9_faultOf : am_G mr_X9_faultOf := ⟨by decide +kernel, by decide +kernel, am_memT (t_in_5 _ (List.mem_of_getElem? (i := 114) rfl)) rfl⟩
set_option maxRecDepth 100000 in
theorem gk_X9_fault : am_G mr_X9_fault := ⟨by decide +kernel, by decide +kernel, am_memT (t_in_5 _ (List.mem_of_getElem? (i := 110) rfl)) rfl⟩
set_option maxRecDepth 100000 in
theorem gk_X1_has : am_G mr_X1_has := ⟨by decide +kernel, by decide +kernel, am_memT (t_in_3 _ (List.mem_of_getElem? (i := 23) rfl)) rfl⟩
set_option maxRecDepth 100000 in
theorem gk_X1_part : am_G mr_X1_part := ⟨by decide +kernel, by decide +kernel, am_memT (t_in_3 _ (List.mem_of_getElem? (i := 19) rfl)) rfl⟩
set_option maxRecDepth 100000 in
theorem gk_X8_piece : am_G mr_X8_piece := ⟨by decide +kernel, by decide +kernel, am_memT (t_in_3 _ (List.mem_of_getElem? (i := 15) rfl)) rfl⟩
set_option maxRecDepth 100000 in
theorem gk_X9_reads : am_G mr_X9_reads := ⟨by decide +kernel, by decide +kernel, am_memT (t_in_5 _ (List.mem_of_getElem? (i := 141) rfl)) rfl⟩
set_option maxRecDepth 100000 in
theorem gk_X9_isPiece : am_G mr_X9_isPiece := ⟨by decide +kernel, by decide +kernel, am_memT (t_in_5 _ (List.mem_of_getElem? (i := 137) rfl)) rfl⟩
set_option maxRecDepth 100000 in
theorem gk_X9_isThree : am_G mr_X9_isThree := ⟨by decide +kernel, by decide +kernel, am_memT (t_in_5 _ (List.mem_of_getElem? (i := 144) rfl)) rfl⟩
set_option maxRecDepth 100000 in
theorem gk_X9_pieceOf : am_G mr_X9_pieceOf := ⟨by decide +kernel, by decide +kernel, am_memT (t_in_5 _ (List.mem_of_getElem? (i := 148) rfl)) rfl⟩
set_option maxRecDepth 100000 in
theorem gk_X9_piece : am_G mr_X9_piece := ⟨by decide +kernel, by decide +kernel, am_memT (t_in_5 _ (List.mem_of_getElem? (i := 133) rfl)) rfl⟩
set_option maxRecDepth 100000 in
theorem gk_X8_guest : am_G mr_X8_guest := ⟨by decide +kernel, by decide +kernel, am_memT (t_in_3 _ (List.mem_of_getElem? (i := 27) rfl)) rfl⟩
set_option maxRecDepth 100000 in
theorem gk_X9_isGuest : am_G mr_X9_isGuest := ⟨by decide +kernel, by decide +kernel, am_memT (t_in_5 _ (List.mem_of_getElem? (i := 156) rfl)) rfl⟩
set_option maxRecDepth 100000 in
theorem gk_X9_guestOf : am_G mr_X9_guestOf := ⟨by decide +kernel, by decide +kernel, am_memT (t_in_5 _ (List.mem_of_getElem? (i := 160) rfl)) rfl⟩
set_option maxRecDepth 100000 in
theorem gk_X9_guest : am_G mr_X9_guest := ⟨by decide +kernel, by decide +kernel, am_memT (t_in_5 _ (List.mem_of_getElem? (i := 152) rfl)) rfl⟩
set_option maxRecDepth 100000 in
theorem gk_X8_set : am_G mr_X8_set := ⟨by decide +kernel, by decide +kernel, am_memT (t_in_3 _ (List.mem_of_getElem? (i := 31) rfl)) rfl⟩
set_option maxRecDepth 100000 in
theorem gk_X9_set : am_G mr_X9_set := ⟨by decide +kernel, by decide +kernel, am_memT (t_in_5 _ (List.mem_of_getElem? (i := 164) rfl)) rfl⟩
set_option maxRecDepth 100000 in
theorem gk_X8_mayBeEvent : am_G mr_X8_mayBeEvent := ⟨by decide +kernel, by decide +kernel, am_memT (t_in_3 _ (List.mem_of_getElem? (i := 38) rfl)) rfl⟩
set_option maxRecDepth 100000 in
theorem gk_X8_event : am_G mr_X8_event := ⟨by decide +kernel, by decide +kernel, am_memT (t_in_3 _ (List.mem_of_getElem? (i := 35) rfl)) rfl⟩
set_option maxRecDepth 100000 in
theorem gk_X9_event : am_G mr_X9_event := ⟨by decide +kernel, by decide +kernel, am_memT (t_in_5 _ (List.mem_of_getElem? (i := 168) rfl)) rfl⟩
set_option maxRecDepth 100000 in
theorem gk_X8_back : am_G mr_X8_back := ⟨by decide +kernel, by decide +kernel, am_memT (t_in_3 _ (List.mem_of_getElem? (i := 43) rfl)) rfl⟩
set_option maxRecDepth 100000 in
theorem gk_X9_back : am_G mr_X9_back := ⟨by decide +kernel, by decide +kernel, am_memT (t_in_5 _ (List.mem_of_getElem? (i := 172) rfl)) rfl⟩
set_option maxRecDepth 100000 in
theorem gk_X8_sheetAt : am_G mr_X8_sheetAt := ⟨by decide +kernel, by decide +kernel, am_memT (t_in_3 _ (List.mem_of_getElem? (i := 51) rfl)) rfl⟩
set_option maxRecDepth 100000 in
theorem gk_X8_found : am_G mr_X8_found := ⟨by decide +kernel, by decide +kernel, am_memT (t_in_3 _ (List.mem_of_getElem? (i := 55) rfl)) rfl⟩
set_option maxRecDepth 100000 in
theorem gk_X5_has : am_G mr_X5_has := ⟨by decide +kernel, by decide +kernel, am_memT (t_in_3 _ (List.mem_of_getElem? (i := 63) rfl)) rfl⟩
set_option maxRecDepth 100000 in
theorem gk_X5_item : am_G mr_X5_item := ⟨by decide +kernel, by decide +kernel, am_memT (t_in_3 _ (List.mem_of_getElem? (i := 59) rfl)) rfl⟩
set_option maxRecDepth 100000 in
theorem gk_X8_read : am_G mr_X8_read := ⟨by decide +kernel, by decide +kernel, am_memT (t_in_3 _ (List.mem_of_getElem? (i := 47) rfl)) rfl⟩
set_option maxRecDepth 100000 in
theorem gk_X9_isSheet : am_G mr_X9_isSheet := ⟨by decide +kernel, by decide +kernel, am_memT (t_in_5 _ (List.mem_of_getElem? (i := 179) rfl)) rfl⟩
set_option maxRecDepth 100000 in
theorem gk_X9_meets : am_G mr_X9_meets := ⟨by decide +kernel, by decide +kernel, am_memT (t_in_5 _ (List.mem_of_getElem? (i := 183) rfl)) rfl⟩
