set_option maxRecDepth 100000 in
theorem gk_X8_lose : am_G mr_X8_lose := ⟨by decide +kernel, by decide +kernel, am_memT (t_in_4 _ (List.mem_of_getElem? (i := 81) rfl)) rfl⟩
set_option maxRecDepth 100000 in
theorem gk_X9_lose : am_G mr_X9_lose := ⟨by decide +kernel, by decide +kernel, am_memT (t_in_6 _ (List.mem_of_getElem? (i := 193) rfl)) rfl⟩
set_option maxRecDepth 100000 in
theorem gk_X5_faultOf : am_G mr_X5_faultOf := ⟨by decide +kernel, by decide +kernel, am_memT (t_in_4 _ (List.mem_of_getElem? (i := 89) rfl)) rfl⟩
set_option maxRecDepth 100000 in
theorem gk_X5_store : am_G mr_X5_store := ⟨by decide +kernel, by decide +kernel, am_memT (t_in_4 _ (List.mem_of_getElem? (i := 93) rfl)) rfl⟩
set_option maxRecDepth 100000 in
theorem gk_X8_put : am_G mr_X8_put := ⟨by decide +kernel, by decide +kernel, am_memT (t_in_4 _ (List.mem_of_getElem? (i := 85) rfl)) rfl⟩
set_option maxRecDepth 100000 in
theorem gk_X9_lacks : am_G mr_X9_lacks := ⟨by decide +kernel, by decide +kernel, am_memT (t_in_6 _ (List.mem_of_getElem? (i := 201) rfl)) rfl⟩
set_option maxRecDepth 100000 in
theorem gk_X9_keep : am_G mr_X9_keep := ⟨by decide +kernel, by decide +kernel, am_memT (t_in_6 _ (List.mem_of_getElem? (i := 205) rfl)) rfl⟩
set_option maxRecDepth 100000 in
theorem gk_X9_put : am_G mr_X9_put := ⟨by decide +kernel, by decide +kernel, am_memT (t_in_6 _ (List.mem_of_getElem? (i := 197) rfl)) rfl⟩
set_option maxRecDepth 100000 in
theorem gk_X8_get : am_G mr_X8_get := ⟨by decide +kernel, by decide +kernel, am_memT (t_in_4 _ (List.mem_of_getElem? (i := 97) rfl)) rfl⟩
set_option maxRecDepth 100000 in
theorem gk_X9_get : am_G mr_X9_get := ⟨by decide +kernel, by decide +kernel, am_memT (t_in_6 _ (List.mem_of_getElem? (i := 209) rfl)) rfl⟩
set_option maxRecDepth 100000 in
theorem gk_X5_hasSome : am_G mr_X5_hasSome := ⟨by decide +kernel, by decide +kernel, am_memT (t_in_4 _ (List.mem_of_getElem? (i := 106) rfl)) rfl⟩
set_option maxRecDepth 100000 in
theorem gk_X8_copy : am_G mr_X8_copy := ⟨by decide +kernel, by decide +kernel, am_memT (t_in_4 _ (List.mem_of_getElem? (i := 102) rfl)) rfl⟩
set_option maxRecDepth 100000 in
theorem gk_X9_copy : am_G mr_X9_copy := ⟨by decide +kernel, by decide +kernel, am_memT (t_in_6 _ (List.mem_of_getElem? (i := 214) rfl)) rfl⟩
set_option maxRecDepth 100000 in
theorem gk_X8_write : am_G mr_X8_write := ⟨by decide +kernel, by decide +kernel, am_memT (t_in_4 _ (List.mem_of_getElem? (i := 111) rfl)) rfl⟩
set_option maxRecDepth 100000 in
theorem gk_X9_write : am_G mr_X9_write := ⟨by decide +kernel, by decide +kernel, am_memT (t_in_6 _ (List.mem_of_getElem? (i := 218) rfl)) rfl⟩
set_option maxRecDepth 100000 in
theorem gk_X8_count : am_G mr_X8_count := ⟨by decide +kernel, by decide +kernel, am_memT (t_in_4 _ (List.mem_of_getElem? (i := 116) rfl)) rfl⟩
set_option maxRecDepth 100000 in
theorem gk_X9_tellOf : am_G mr_X9_tellOf := ⟨by decide +kernel, by decide +kernel, am_memT (t_in_6 _ (List.mem_of_getElem? (i := 226) rfl)) rfl⟩
set_option maxRecDepth 100000 in
theorem gk_X9_count : am_G mr_X9_count := ⟨by decide +kernel, by decide +kernel, am_memT (t_in_6 _ (List.mem_of_getElem? (i := 222) rfl)) rfl⟩
set_option maxRecDepth 100000 in
theorem gk_X8_joined : am_G mr_X8_joined := ⟨by decide +kernel, by decide +kernel, am_memT (t_in_4 _ (List.mem_of_getElem? (i := 126) rfl)) rfl⟩
set_option maxRecDepth 100000 in
theorem gk_X8_withMinutes : am_G mr_X8_withMinutes := ⟨by decide +kernel, by decide +kernel, am_memT (t_in_4 _ (List.mem_of_getElem? (i := 132) rfl)) rfl⟩
set_option maxRecDepth 100000 in
theorem gk_X8_withPiece : am_G mr_X8_withPiece := ⟨by decide +kernel, by decide +kernel, am_memT (t_in_4 _ (List.mem_of_getElem? (i := 137) rfl)) rfl⟩
set_option maxRecDepth 100000 in
theorem gk_X8_withStay : am_G mr_X8_withStay := ⟨by decide +kernel, by decide +kernel, am_memT (t_in_4 _ (List.mem_of_getElem? (i := 149) rfl)) rfl⟩
set_option maxRecDepth 100000 in
theorem gk_X8_withGuest : am_G mr_X8_withGuest := ⟨by decide +kernel, by decide +kernel, am_memT (t_in_4 _ (List.mem_of_getElem? (i := 144) rfl)) rfl⟩
set_option maxRecDepth 100000 in
theorem gk_X8_digest : am_G mr_X8_digest := ⟨by decide +kernel, by decide +kernel, am_memT (t_in_4 _ (List.mem_of_getElem? (i := 121) rfl)) rfl⟩
set_option maxRecDepth 100000 in
theorem gk_X9_pieceDigest : am_G mr_X9_pieceDigest := ⟨by decide +kernel, by decide +kernel, am_memT (t_in_6 _ (List.mem_of_getElem? (i := 237) rfl)) rfl⟩
set_option maxRecDepth 100000 in
theorem gk_X9_isDigest : am_G mr_X9_isDigest := ⟨by decide +kernel, by decide +kernel, am_memT (t_in_7 _ (List.mem_of_getElem? (i := 5) rfl)) rfl⟩
set_option maxRecDepth 100000 in
theorem gk_X9_guestDigest : am_G mr_X9_guestDigest := ⟨by decide +kernel, by decide +kernel, am_memT (t_in_7 _ (List.mem_of_getElem? (i := 1) rfl)) rfl⟩
