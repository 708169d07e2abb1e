theorem am_allapp {a b : List RW} {f : RW → Bool} (h1 : a.all f = true) (h2 : b.all f = true) : (a ++ b).all f = true := by rw [List.all_append, h1, h2]; rfl
theorem gk_L_law : (mr_c mr_L_law).all (am_rowok (mr_o mr_L_law) (mr_b mr_L_law)) = true := (am_allapp gkl_0 (am_allapp gkl_1 (am_allapp gkl_2 (am_allapp gkl_3 (am_allapp gkl_4 (am_allapp gkl_5 (am_allapp gkl_6 (am_allapp gkl_7 (am_allapp gkl_8 (am_allapp gkl_9 (am_allapp gkl_10 (am_allapp gkl_11 (am_allapp gkl_12 (am_allapp gkl_13 gkl_14))))))))))))))
theorem w_acN : Cond.native arraycopyName ∈ am_all := am_wd_mem (p := 689) (by decide +kernel)
theorem w_acS : Cond.static arraycopyName ∈ am_all := am_wd_mem (p := 688) (by decide +kernel)
theorem w_acI : Cond.initialized "java/lang/System" ∈ am_all := am_wd_mem (p := 92) (by decide +kernel)
theorem w_mI : Cond.initialized "java/lang/Math" ∈ am_all := am_wd_mem (p := 87) (by decide +kernel)
theorem w_mxS : Cond.static Lib.Math.max.name ∈ am_all := am_wd_mem (p := 478) (by decide +kernel)
theorem w_mxC : Cond.code Lib.Math.max.name Lib.Math.max.code 2 (some .int) ∈ am_all := am_wd_mem (p := 479) (by decide +kernel)
theorem w_miS : Cond.static Lib.Math.min.name ∈ am_all := am_wd_mem (p := 481) (by decide +kernel)
theorem w_miC : Cond.code Lib.Math.min.name Lib.Math.min.code 2 (some .int) ∈ am_all := am_wd_mem (p := 482) (by decide +kernel)
set_option maxRecDepth 100000 in
theorem glk_0 : mlt_0.all (am_mlk 0) = true := by decide +kernel
theorem glg_0 : ∀ e ∈ mlt_0, am_G e.2.1 := List.forall_mem_cons.mpr ⟨gk_J14_fill_I, List.forall_mem_cons.mpr ⟨gk_X0_join, fun _ h => absurd h List.not_mem_nil⟩⟩
set_option maxRecDepth 100000 in
theorem glk_1 : mlt_1.all (am_mlk 1) = true := by decide +kernel
theorem glg_1 : ∀ e ∈ mlt_1, am_G e.2.1 := List.forall_mem_cons.mpr ⟨gk_X1_has, fun _ h => absurd h List.not_mem_nil⟩
set_option maxRecDepth 100000 in
theorem glk_2 : mlt_2.all (am_mlk 2) = true := by decide +kernel
theorem glg_2 : ∀ e ∈ mlt_2, am_G e.2.1 := List.forall_mem_cons.mpr ⟨gk_X3_begin, List.forall_mem_cons.mpr ⟨gk_X0_begin, List.forall_mem_cons.mpr ⟨gk_X2_light, List.forall_mem_cons.mpr ⟨gk_X3_meet, List.forall_mem_cons.mpr ⟨gk_X3_warm, List.forall_mem_cons.mpr ⟨gk_X3_boils, List.forall_mem_cons.mpr ⟨gk_X0_lineUp, List.forall_mem_cons.mpr ⟨gk_X0_serve, List.forall_mem_cons.mpr ⟨gk_X0_losePatience, List.forall_mem_cons.mpr ⟨gk_X2_note, List.forall_mem_cons.mpr ⟨gk_J14_fill_I, List.forall_mem_cons.mpr ⟨gk_X8_within, fun _ h => absurd h List.not_mem_nil⟩⟩⟩⟩⟩⟩⟩⟩⟩⟩⟩⟩
set_option maxRecDepth 100000 in
theorem glk_3 : mlt_3.all (am_mlk 3) = true := by decide +kernel
theorem glg_3 : ∀ e ∈ mlt_3, am_G e.2.1 := fun _ h => absurd h List.not_mem_nil
set_option maxRecDepth 100000 in
theorem glk_4 : mlt_4.all (am_mlk 4) = true := by decide +kernel
theorem glg_4 : ∀ e ∈ mlt_4, am_G e.2.1 := List.forall_mem_cons.mpr ⟨gk_X1_becomeLike, fun _ h => absurd h List.not_mem_nil⟩
set_option maxRecDepth 100000 in
theorem glk_5 : mlt_5.all (am_mlk 5) = true := by decide +kernel
theorem glg_5 : ∀ e ∈ mlt_5, am_G e.2.1 := List.forall_mem_cons.mpr ⟨gk_J14_fill_I, List.forall_mem_cons.mpr ⟨gk_X5_has, fun _ h => absurd h List.not_mem_nil⟩⟩
set_option maxRecDepth 100000 in
theorem glk_6 : mlt_6.all (am_mlk 6) = true := by decide +kernel
theorem glg_6 : ∀ e ∈ mlt_6, am_G e.2.1 := List.forall_mem_cons.mpr ⟨gk_X6_scan, List.forall_mem_cons.mpr ⟨gk_X6_firstFault, List.forall_mem_cons.mpr ⟨gk_X6_fits, List.forall_mem_cons.mpr ⟨gk_J10_indexOf_1, List.forall_mem_cons.mpr ⟨gk_X1_add, fun _ h => absurd h List.not_mem_nil⟩⟩⟩⟩⟩
set_option maxRecDepth 100000 in
theorem glk_7 : mlt_7.all (am_mlk 7) = true := by decide +kernel
theorem glg_7 : ∀ e ∈ mlt_7, am_G e.2.1 := List.forall_mem_cons.mpr ⟨gk_J14_fill_J, List.forall_mem_cons.mpr ⟨gk_X4_becomeLike, List.forall_mem_cons.mpr ⟨gk_X7_alter, List.forall_mem_cons.mpr ⟨gk_X2_pass, List.forall_mem_cons.mpr ⟨gk_X7_pack, List.forall_mem_cons.mpr ⟨gk_X7_nextSeed, List.forall_mem_cons.mpr ⟨gk_X1_add, fun _ h => absurd h List.not_mem_nil⟩⟩⟩⟩⟩⟩⟩
set_option maxRecDepth 100000 in
theorem glk_8 : mlt_8.all (am_mlk 8) = true := by decide +kernel
theorem glg_8 : ∀ e ∈ mlt_8, am_G e.2.1 := List.forall_mem_cons.mpr ⟨gk_X8_textAt, List.forall_mem_cons.mpr ⟨gk_X8_within, List.forall_mem_cons.mpr ⟨gk_X6_append, List.forall_mem_cons.mpr ⟨gk_X8_changed, List.forall_mem_cons.mpr ⟨gk_X6_shorten, List.forall_mem_cons.mpr ⟨gk_X1_part, List.forall_mem_cons.mpr ⟨gk_X8_mayBeEvent, List.forall_mem_cons.mpr ⟨gk_X1_add, List.forall_mem_cons.mpr ⟨gk_X8_sheetAt, List.forall_mem_cons.mpr ⟨gk_X8_found, List.forall_mem_cons.mpr ⟨gk_X5_item, List.forall_mem_cons.mpr ⟨gk_X8_toldEvening, List.forall_mem_cons.mpr ⟨gk_X1_has, List.forall_mem_cons.mpr ⟨gk_X2_stateOf, List.forall_mem_cons.mpr ⟨gk_X2_glassesOf, List.forall_mem_cons.mpr ⟨gk_J13_bitCount, List.forall_mem_cons.mpr ⟨gk_X7_kindsOf, List.forall_mem_cons.mpr ⟨gk_X8_mostGlasses, List.forall_mem_cons.mpr ⟨gk_X7_minutesOf, List.forall_mem_cons.mpr ⟨gk_X8_sparedEvents, List.forall_mem_cons.mpr ⟨gk_X8_bitAt, List.forall_mem_cons.mpr ⟨gk_X7_outcome, List.forall_mem_cons.mpr ⟨gk_X8_comesOutAsSeen, List.forall_mem_cons.mpr ⟨gk_X8_comingOutAsSeen, List.forall_mem_cons.mpr ⟨gk_X8_waters, List.forall_mem_cons.mpr ⟨gk_X8_boilingWaters, List.forall_mem_cons.mpr ⟨gk_X7_contentIn, List.forall_mem_cons.mpr ⟨gk_X8_power, List.forall_mem_cons.mpr ⟨gk_X7_outcomeByLots, List.forall_mem_cons.mpr ⟨gk_X7_glassesIn, List.forall_mem_cons.mpr ⟨gk_X7_goneIn, List.forall_mem_cons.mpr ⟨gk_X5_renew, List.forall_mem_cons.mpr ⟨gk_X5_faultOf, List.forall_mem_cons.mpr ⟨gk_X5_store, List.forall_mem_cons.mpr ⟨gk_X5_hasSome, List.forall_mem_cons.mpr ⟨gk_X8_at, List.forall_mem_cons.mpr ⟨gk_X8_sum, List.forall_mem_cons.mpr ⟨gk_X8_count, List.forall_mem_cons.mpr ⟨gk_X8_joined, List.forall_mem_cons.mpr ⟨gk_X8_fault, List.forall_mem_cons.mpr ⟨gk_X8_withMinutes, List.forall_mem_cons.mpr ⟨gk_X8_withPiece, List.forall_mem_cons.mpr ⟨gk_X8_withGuest, List.forall_mem_cons.mpr ⟨gk_X8_first, List.forall_mem_cons.mpr ⟨gk_X8_hottest, List.forall_mem_cons.mpr ⟨gk_X8_thirst, List.forall_mem_cons.mpr ⟨gk_X8_fill, List.forall_mem_cons.mpr ⟨gk_X8_spare, List.forall_mem_cons.mpr ⟨gk_X8_never, List.forall_mem_cons.mpr ⟨gk_X8_ask, List.forall_mem_cons.mpr ⟨gk_X8_evenings, List.forall_mem_cons.mpr ⟨gk_X7_drop, List.forall_mem_cons.mpr ⟨gk_X2_pass, List.forall_mem_cons.mpr ⟨gk_X7_boiledIn, List.forall_mem_cons.mpr ⟨gk_X8_line, List.forall_mem_cons.mpr ⟨gk_X8_piece, List.forall_mem_cons.mpr ⟨gk_X8_better, List.forall_mem_cons.mpr ⟨gk_X8_kind, List.forall_mem_cons.mpr ⟨gk_X8_guest, List.forall_mem_cons.mpr ⟨gk_X8_withStay, List.forall_mem_cons.mpr ⟨gk_X8_waited, List.forall_mem_cons.mpr ⟨gk_X8_come, List.forall_mem_cons.mpr ⟨gk_X8_chance, List.forall_mem_cons.mpr ⟨gk_X8_is, fun _ h => absurd h List.not_mem_nil⟩⟩⟩⟩⟩⟩⟩⟩⟩⟩⟩⟩⟩⟩⟩⟩⟩⟩⟩⟩⟩⟩⟩⟩⟩⟩⟩⟩⟩⟩⟩⟩⟩⟩⟩⟩⟩⟩⟩⟩⟩⟩⟩⟩⟩⟩⟩⟩⟩⟩⟩⟩⟩⟩⟩⟩⟩⟩⟩⟩⟩⟩⟩⟩
set_option maxRecDepth 100000 in
theorem glk_9 : mlt_9.all (am_mlk 9) = true := by decide +kernel
theorem glg_9 : ∀ e ∈ mlt_9, am_G e.2.1 := List.forall_mem_cons.mpr ⟨gk_X9_in, List.forall_mem_cons.mpr ⟨gk_X9_isTwo, List.forall_mem_cons.mpr ⟨gk_X9_byteAt, List.forall_mem_cons.mpr ⟨gk_X9_isMinute, List.forall_mem_cons.mpr ⟨gk_X9_readsPart, List.forall_mem_cons.mpr ⟨gk_X9_readsText, List.forall_mem_cons.mpr ⟨gk_X9_faultOf, List.forall_mem_cons.mpr ⟨gk_X9_reads, List.forall_mem_cons.mpr ⟨gk_X9_isPiece, List.forall_mem_cons.mpr ⟨gk_X9_isThree, List.forall_mem_cons.mpr ⟨gk_X9_pieceOf, List.forall_mem_cons.mpr ⟨gk_X9_isGuest, List.forall_mem_cons.mpr ⟨gk_X9_guestOf, List.forall_mem_cons.mpr ⟨gk_X9_isSheet, List.forall_mem_cons.mpr ⟨gk_X9_meets, List.forall_mem_cons.mpr ⟨gk_X9_event, List.forall_mem_cons.mpr ⟨gk_X9_isIn, List.forall_mem_cons.mpr ⟨gk_X9_less, List.forall_mem_cons.mpr ⟨gk_X9_joins, List.forall_mem_cons.mpr ⟨gk_X9_leaves, List.forall_mem_cons.mpr ⟨gk_X9_befalls, List.forall_mem_cons.mpr ⟨gk_X9_fireAt, List.forall_mem_cons.mpr ⟨gk_X9_comes, List.forall_mem_cons.mpr ⟨gk_X9_serves, List.forall_mem_cons.mpr ⟨gk_X9_goAway, List.forall_mem_cons.mpr ⟨gk_X9_goesBy, List.forall_mem_cons.mpr ⟨gk_X9_asTold, List.forall_mem_cons.mpr ⟨gk_X9_runs, List.forall_mem_cons.mpr ⟨gk_X9_runsTold, List.forall_mem_cons.mpr ⟨gk_X9_atOf, List.forall_mem_cons.mpr ⟨gk_X9_isOf, List.forall_mem_cons.mpr ⟨gk_X9_lineOf, List.forall_mem_cons.mpr ⟨gk_X9_drunkNow, List.forall_mem_cons.mpr ⟨gk_X9_manyOf, List.forall_mem_cons.mpr ⟨gk_X9_sumOf, List.forall_mem_cons.mpr ⟨gk_X9_firstOf, List.forall_mem_cons.mpr ⟨gk_X9_hottestOf, List.forall_mem_cons.mpr ⟨gk_X9_waitedOf, List.forall_mem_cons.mpr ⟨gk_X9_thirstOf, List.forall_mem_cons.mpr ⟨gk_X9_starts, List.forall_mem_cons.mpr ⟨gk_X9_tries, List.forall_mem_cons.mpr ⟨gk_X9_betterOf, List.forall_mem_cons.mpr ⟨gk_X9_fillOf, List.forall_mem_cons.mpr ⟨gk_X9_comeOf, List.forall_mem_cons.mpr ⟨gk_X9_isSpared, List.forall_mem_cons.mpr ⟨gk_X9_spareBy, List.forall_mem_cons.mpr ⟨gk_X9_ofRow, List.forall_mem_cons.mpr ⟨gk_X9_isSeen, List.forall_mem_cons.mpr ⟨gk_X9_neverNow, List.forall_mem_cons.mpr ⟨gk_X9_watersBy, List.forall_mem_cons.mpr ⟨gk_X9_kindsBy, List.forall_mem_cons.mpr ⟨gk_X9_many, List.forall_mem_cons.mpr ⟨gk_X9_askOf, List.forall_mem_cons.mpr ⟨gk_X9_lowest, List.forall_mem_cons.mpr ⟨gk_X9_chanceOf, List.forall_mem_cons.mpr ⟨gk_X9_no, List.forall_mem_cons.mpr ⟨gk_X9_eveningsOf, List.forall_mem_cons.mpr ⟨gk_X9_lacks, List.forall_mem_cons.mpr ⟨gk_X9_keep, List.forall_mem_cons.mpr ⟨gk_X9_tellOf, List.forall_mem_cons.mpr ⟨gk_X9_isDigest, List.forall_mem_cons.mpr ⟨gk_X9_count, List.forall_mem_cons.mpr ⟨gk_X9_pieceDigest, List.forall_mem_cons.mpr ⟨gk_X9_guestDigest, fun _ h => absurd h List.not_mem_nil⟩⟩⟩⟩⟩⟩⟩⟩⟩⟩⟩⟩⟩⟩⟩⟩⟩⟩⟩⟩⟩⟩⟩⟩⟩⟩⟩⟩⟩⟩⟩⟩⟩⟩⟩⟩⟩⟩⟩⟩⟩⟩⟩⟩⟩⟩⟩⟩⟩⟩⟩⟩⟩⟩⟩⟩⟩⟩⟩⟩⟩⟩⟩⟩
set_option maxRecDepth 100000 in
theorem glk_10 : mlt_10.all (am_mlk 10) = true := by decide +kernel
theorem glg_10 : ∀ e ∈ mlt_10, am_G e.2.1 := List.forall_mem_cons.mpr ⟨gk_J10_coder, List.forall_mem_cons.mpr ⟨gk_J10_isLatin1, List.forall_mem_cons.mpr ⟨gk_J10_length, List.forall_mem_cons.mpr ⟨gk_J10_indexOf_2, List.forall_mem_cons.mpr ⟨gk_J11_indexOf, fun _ h => absurd h List.not_mem_nil⟩⟩⟩⟩⟩
set_option maxRecDepth 100000 in
theorem glk_11 : mlt_11.all (am_mlk 11) = true := by decide +kernel
theorem glg_11 : ∀ e ∈ mlt_11, am_G e.2.1 := List.forall_mem_cons.mpr ⟨gk_J11_canEncode, List.forall_mem_cons.mpr ⟨gk_J11_indexOfChar, fun _ h => absurd h List.not_mem_nil⟩⟩
set_option maxRecDepth 100000 in
theorem glk_12 : mlt_12.all (am_mlk 12) = true := by decide +kernel
theorem glg_12 : ∀ e ∈ mlt_12, am_G e.2.1 := fun _ h => absurd h List.not_mem_nil
set_option maxRecDepth 100000 in
theorem glk_13 : mlt_13.all (am_mlk 13) = true := by decide +kernel
theorem glg_13 : ∀ e ∈ mlt_13, am_G e.2.1 := fun _ h => absurd h List.not_mem_nil
set_option maxRecDepth 100000 in
theorem glk_14 : mlt_14.all (am_mlk 14) = true := by decide +kernel
theorem glg_14 : ∀ e ∈ mlt_14, am_G e.2.1 := fun _ h => absurd h List.not_mem_nil
set_option maxRecDepth 100000 in
theorem glk_15 : mlt_15.all (am_mlk 15) = true := by decide +kernel
theorem glg_15 : ∀ e ∈ mlt_15, am_G e.2.1 := List.forall_mem_cons.mpr ⟨gk_X8_type, List.forall_mem_cons.mpr ⟨gk_X9_type, List.forall_mem_cons.mpr ⟨gk_X8_wipe, List.forall_mem_cons.mpr ⟨gk_X9_wipe, List.forall_mem_cons.mpr ⟨gk_X8_undo, List.forall_mem_cons.mpr ⟨gk_X9_undo, List.forall_mem_cons.mpr ⟨gk_X8_fault, List.forall_mem_cons.mpr ⟨gk_X9_fault, List.forall_mem_cons.mpr ⟨gk_X8_piece, List.forall_mem_cons.mpr ⟨gk_X9_piece, List.forall_mem_cons.mpr ⟨gk_X8_guest, List.forall_mem_cons.mpr ⟨gk_X9_guest, List.forall_mem_cons.mpr ⟨gk_X8_set, List.forall_mem_cons.mpr ⟨gk_X9_set, List.forall_mem_cons.mpr ⟨gk_X8_event, List.forall_mem_cons.mpr ⟨gk_X9_event, List.forall_mem_cons.mpr ⟨gk_X8_back, List.forall_mem_cons.mpr ⟨gk_X9_back, List.forall_mem_cons.mpr ⟨gk_X8_read, List.forall_mem_cons.mpr ⟨gk_X9_read, List.forall_mem_cons.mpr ⟨gk_X8_at, List.forall_mem_cons.mpr ⟨gk_X9_at, List.forall_mem_cons.mpr ⟨gk_X8_is, List.forall_mem_cons.mpr ⟨gk_X9_is, List.forall_mem_cons.mpr ⟨gk_X8_line, List.forall_mem_cons.mpr ⟨gk_X9_line, List.forall_mem_cons.mpr ⟨gk_X8_sum, List.forall_mem_cons.mpr ⟨gk_X9_sum, List.forall_mem_cons.mpr ⟨gk_X8_first, List.forall_mem_cons.mpr ⟨gk_X9_first, List.forall_mem_cons.mpr ⟨gk_X8_hottest, List.forall_mem_cons.mpr ⟨gk_X9_hottest, List.forall_mem_cons.mpr ⟨gk_X8_waited, List.forall_mem_cons.mpr ⟨gk_X9_waited, List.forall_mem_cons.mpr ⟨gk_X8_thirst, List.forall_mem_cons.mpr ⟨gk_X9_thirst, List.forall_mem_cons.mpr ⟨gk_X8_better, List.forall_mem_cons.mpr ⟨gk_X9_better, List.forall_mem_cons.mpr ⟨gk_X8_fill, List.forall_mem_cons.mpr ⟨gk_X9_fill, List.forall_mem_cons.mpr ⟨gk_X8_come, List.forall_mem_cons.mpr ⟨gk_X9_come, List.forall_mem_cons.mpr ⟨gk_X8_spare, List.forall_mem_cons.mpr ⟨gk_X9_spare, List.forall_mem_cons.mpr ⟨gk_X8_seen, List.forall_mem_cons.mpr ⟨gk_X9_seen, List.forall_mem_cons.mpr ⟨gk_X8_forget, List.forall_mem_cons.mpr ⟨gk_X9_forget, List.forall_mem_cons.mpr ⟨gk_X8_never, List.forall_mem_cons.mpr ⟨gk_X9_never, List.forall_mem_cons.mpr ⟨gk_X8_waters, List.forall_mem_cons.mpr ⟨gk_X9_waters, List.forall_mem_cons.mpr ⟨gk_X8_kind, List.forall_mem_cons.mpr ⟨gk_X9_kind, List.forall_mem_cons.mpr ⟨gk_X8_ask, List.forall_mem_cons.mpr ⟨gk_X9_ask, List.forall_mem_cons.mpr ⟨gk_X8_chance, List.forall_mem_cons.mpr ⟨gk_X9_chance, List.forall_mem_cons.mpr ⟨gk_X8_evenings, List.forall_mem_cons.mpr ⟨gk_X9_evenings, List.forall_mem_cons.mpr ⟨gk_X8_sheet, List.forall_mem_cons.mpr ⟨gk_X9_sheet, List.forall_mem_cons.mpr ⟨gk_X8_lose, List.forall_mem_cons.mpr ⟨gk_X9_lose, List.forall_mem_cons.mpr ⟨gk_X8_put, List.forall_mem_cons.mpr ⟨gk_X9_put, List.forall_mem_cons.mpr ⟨gk_X8_get, List.forall_mem_cons.mpr ⟨gk_X9_get, List.forall_mem_cons.mpr ⟨gk_X8_copy, List.forall_mem_cons.mpr ⟨gk_X9_copy, List.forall_mem_cons.mpr ⟨gk_X8_write, List.forall_mem_cons.mpr ⟨gk_X9_write, List.forall_mem_cons.mpr ⟨gk_X8_count, List.forall_mem_cons.mpr ⟨gk_X9_count, List.forall_mem_cons.mpr ⟨gk_X8_digest, List.forall_mem_cons.mpr ⟨gk_X9_digest, fun _ h => absurd h List.not_mem_nil⟩⟩⟩⟩⟩⟩⟩⟩⟩⟩⟩⟩⟩⟩⟩⟩⟩⟩⟩⟩⟩⟩⟩⟩⟩⟩⟩⟩⟩⟩⟩⟩⟩⟩⟩⟩⟩⟩⟩⟩⟩⟩⟩⟩⟩⟩⟩⟩⟩⟩⟩⟩⟩⟩⟩⟩⟩⟩⟩⟩⟩⟩⟩⟩⟩⟩⟩⟩⟩⟩⟩⟩⟩⟩⟩⟩
theorem am_links (o : Nat) : ∀ e ∈ am_mlt o, am_GL o e := by
  intro e he
  match o, he with
  | 0, he => exact ⟨List.all_eq_true.mp glk_0 e he, glg_0 e he⟩
  | 1, he => exact ⟨List.all_eq_true.mp glk_1 e he, glg_1 e he⟩
  | 2, he => exact ⟨List.all_eq_true.mp glk_2 e he, glg_2 e he⟩
  | 3, he => exact ⟨List.all_eq_true.mp glk_3 e he, glg_3 e he⟩
  | 4, he => exact ⟨List.all_eq_true.mp glk_4 e he, glg_4 e he⟩
  | 5, he => exact ⟨List.all_eq_true.mp glk_5 e he, glg_5 e he⟩
  | 6, he => exact ⟨List.all_eq_true.mp glk_6 e he, glg_6 e he⟩
  | 7, he => exact ⟨List.all_eq_true.mp glk_7 e he, glg_7 e he⟩
  | 8, he => exact ⟨List.all_eq_true.mp glk_8 e he, glg_8 e he⟩
  | 9, he => exact ⟨List.all_eq_true.mp glk_9 e he, glg_9 e he⟩
  | 10, he => exact ⟨List.all_eq_true.mp glk_10 e he, glg_10 e he⟩
  | 11, he => exact ⟨List.all_eq_true.mp glk_11 e he, glg_11 e he⟩
  | 12, he => exact ⟨List.all_eq_true.mp glk_12 e he, glg_12 e he⟩
  | 13, he => exact ⟨List.all_eq_true.mp glk_13 e he, glg_13 e he⟩
  | 14, he => exact ⟨List.all_eq_true.mp glk_14 e he, glg_14 e he⟩
  | 15, he => exact ⟨List.all_eq_true.mp glk_15 e he, glg_15 e he⟩
  | n + 16, he => exact absurd he List.not_mem_nil
