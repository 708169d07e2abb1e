section
-- ===== PART A: goes FIRST, ahead of the names: the tables' words, and 'selects' of the private methods out of them =====
/-- a private method of a class that the tables say can be made, by its rows of tables_1 -/
def lw_okq (q : MethodName × Nat) : Prop := (q.1.cls ≠ "java/lang/invoke/MethodHandle" ∧ q.1.cls ≠ "java/lang/invoke/VarHandle") ∧ Cond.instantiable q.1.cls q.2 ∈ tables_1 ∧ Cond.privateMethod q.1 ∈ tables_1 ∧ Cond.instanceMethod q.1 ∈ tables_1
theorem lw_p0 : lw_okq (⟨"Samovar", "textAt", "(I)LSamovar$Text;"⟩, 13) := ⟨⟨by decide +kernel, by decide +kernel⟩, List.mem_of_getElem? (i := 21) (by decide +kernel), List.mem_of_getElem? (i := 353) (by decide +kernel), List.mem_of_getElem? (i := 354) (by decide +kernel)⟩
theorem lw_p1 : lw_okq (⟨"Samovar$Text", "scan", "()V"⟩, 6) := ⟨⟨by decide +kernel, by decide +kernel⟩, List.mem_of_getElem? (i := 29) (by decide +kernel), List.mem_of_getElem? (i := 364) (by decide +kernel), List.mem_of_getElem? (i := 365) (by decide +kernel)⟩
theorem lw_p2 : lw_okq (⟨"Samovar$Text", "firstFault", "()I"⟩, 6) := ⟨⟨by decide +kernel, by decide +kernel⟩, List.mem_of_getElem? (i := 29) (by decide +kernel), List.mem_of_getElem? (i := 368) (by decide +kernel), List.mem_of_getElem? (i := 369) (by decide +kernel)⟩
theorem lw_p3 : lw_okq (⟨"Samovar$Text", "fits", "(II)Z"⟩, 6) := ⟨⟨by decide +kernel, by decide +kernel⟩, List.mem_of_getElem? (i := 29) (by decide +kernel), List.mem_of_getElem? (i := 372) (by decide +kernel), List.mem_of_getElem? (i := 373) (by decide +kernel)⟩
theorem lw_p4 : lw_okq (⟨"Samovar", "changed", "()V"⟩, 13) := ⟨⟨by decide +kernel, by decide +kernel⟩, List.mem_of_getElem? (i := 21) (by decide +kernel), List.mem_of_getElem? (i := 466) (by decide +kernel), List.mem_of_getElem? (i := 467) (by decide +kernel)⟩
theorem lw_p5 : lw_okq (⟨"Samovar", "sheetAt", "(I)LSamovar$Sheet;"⟩, 13) := ⟨⟨by decide +kernel, by decide +kernel⟩, List.mem_of_getElem? (i := 21) (by decide +kernel), List.mem_of_getElem? (i := 529) (by decide +kernel), List.mem_of_getElem? (i := 530) (by decide +kernel)⟩
theorem lw_p6 : lw_okq (⟨"Samovar", "found", "(I)I"⟩, 13) := ⟨⟨by decide +kernel, by decide +kernel⟩, List.mem_of_getElem? (i := 21) (by decide +kernel), List.mem_of_getElem? (i := 533) (by decide +kernel), List.mem_of_getElem? (i := 534) (by decide +kernel)⟩
theorem lw_p7 : lw_okq (⟨"Samovar$Sheet", "has", "(I)Z"⟩, 4) := ⟨⟨by decide +kernel, by decide +kernel⟩, List.mem_of_getElem? (i := 286) (by decide +kernel), List.mem_of_getElem? (i := 541) (by decide +kernel), List.mem_of_getElem? (i := 542) (by decide +kernel)⟩
theorem lw_p8 : lw_okq (⟨"Samovar", "toldEvening", "()LSamovar$Evening;"⟩, 13) := ⟨⟨by decide +kernel, by decide +kernel⟩, List.mem_of_getElem? (i := 21) (by decide +kernel), List.mem_of_getElem? (i := 549) (by decide +kernel), List.mem_of_getElem? (i := 550) (by decide +kernel)⟩
theorem lw_p9 : lw_okq (⟨"Samovar$Evening", "light", "(LSamovar$Entries;)V"⟩, 11) := ⟨⟨by decide +kernel, by decide +kernel⟩, List.mem_of_getElem? (i := 138) (by decide +kernel), List.mem_of_getElem? (i := 568) (by decide +kernel), List.mem_of_getElem? (i := 569) (by decide +kernel)⟩
theorem lw_p10 : lw_okq (⟨"Samovar$Company", "join", "(II)V"⟩, 9) := ⟨⟨by decide +kernel, by decide +kernel⟩, List.mem_of_getElem? (i := 169) (by decide +kernel), List.mem_of_getElem? (i := 598) (by decide +kernel), List.mem_of_getElem? (i := 599) (by decide +kernel)⟩
theorem lw_p11 : lw_okq (⟨"Samovar$Evening", "note", "(I)V"⟩, 11) := ⟨⟨by decide +kernel, by decide +kernel⟩, List.mem_of_getElem? (i := 138) (by decide +kernel), List.mem_of_getElem? (i := 610) (by decide +kernel), List.mem_of_getElem? (i := 611) (by decide +kernel)⟩
theorem lw_p12 : lw_okq (⟨"Samovar", "mostGlasses", "(III)I"⟩, 13) := ⟨⟨by decide +kernel, by decide +kernel⟩, List.mem_of_getElem? (i := 21) (by decide +kernel), List.mem_of_getElem? (i := 667) (by decide +kernel), List.mem_of_getElem? (i := 668) (by decide +kernel)⟩
theorem lw_p13 : lw_okq (⟨"Samovar$Trials", "alter", "(I)V"⟩, 5) := ⟨⟨by decide +kernel, by decide +kernel⟩, List.mem_of_getElem? (i := 257) (by decide +kernel), List.mem_of_getElem? (i := 684) (by decide +kernel), List.mem_of_getElem? (i := 685) (by decide +kernel)⟩
theorem lw_p14 : lw_okq (⟨"Samovar", "sparedEvents", "()I"⟩, 13) := ⟨⟨by decide +kernel, by decide +kernel⟩, List.mem_of_getElem? (i := 21) (by decide +kernel), List.mem_of_getElem? (i := 712) (by decide +kernel), List.mem_of_getElem? (i := 713) (by decide +kernel)⟩
theorem lw_p15 : lw_okq (⟨"Samovar", "comesOutAsSeen", "(J)Z"⟩, 13) := ⟨⟨by decide +kernel, by decide +kernel⟩, List.mem_of_getElem? (i := 21) (by decide +kernel), List.mem_of_getElem? (i := 735) (by decide +kernel), List.mem_of_getElem? (i := 736) (by decide +kernel)⟩
def lw_privs_1 : List (MethodName × Nat) := [(⟨"Samovar", "textAt", "(I)LSamovar$Text;"⟩, 13), (⟨"Samovar$Text", "scan", "()V"⟩, 6), (⟨"Samovar$Text", "firstFault", "()I"⟩, 6), (⟨"Samovar$Text", "fits", "(II)Z"⟩, 6), (⟨"Samovar", "changed", "()V"⟩, 13), (⟨"Samovar", "sheetAt", "(I)LSamovar$Sheet;"⟩, 13), (⟨"Samovar", "found", "(I)I"⟩, 13), (⟨"Samovar$Sheet", "has", "(I)Z"⟩, 4), (⟨"Samovar", "toldEvening", "()LSamovar$Evening;"⟩, 13), (⟨"Samovar$Evening", "light", "(LSamovar$Entries;)V"⟩, 11), (⟨"Samovar$Company", "join", "(II)V"⟩, 9), (⟨"Samovar$Evening", "note", "(I)V"⟩, 11), (⟨"Samovar", "mostGlasses", "(III)I"⟩, 13), (⟨"Samovar$Trials", "alter", "(I)V"⟩, 5), (⟨"Samovar", "sparedEvents", "()I"⟩, 13), (⟨"Samovar", "comesOutAsSeen", "(J)Z"⟩, 13)]
theorem lw_r1 : ∀ q ∈ lw_privs_1, lw_okq q := List.forall_mem_cons.mpr ⟨lw_p0, List.forall_mem_cons.mpr ⟨lw_p1, List.forall_mem_cons.mpr ⟨lw_p2, List.forall_mem_cons.mpr ⟨lw_p3, List.forall_mem_cons.mpr ⟨lw_p4, List.forall_mem_cons.mpr ⟨lw_p5, List.forall_mem_cons.mpr ⟨lw_p6, List.forall_mem_cons.mpr ⟨lw_p7, List.forall_mem_cons.mpr ⟨lw_p8, List.forall_mem_cons.mpr ⟨lw_p9, List.forall_mem_cons.mpr ⟨lw_p10, List.forall_mem_cons.mpr ⟨lw_p11, List.forall_mem_cons.mpr ⟨lw_p12, List.forall_mem_cons.mpr ⟨lw_p13, List.forall_mem_cons.mpr ⟨lw_p14, List.forall_mem_cons.mpr ⟨lw_p15, fun _ h => absurd h List.not_mem_nil⟩⟩⟩⟩⟩⟩⟩⟩⟩⟩⟩⟩⟩⟩⟩⟩
theorem lw_p16 : lw_okq (⟨"Samovar", "comingOutAsSeen", "(II)I"⟩, 13) := ⟨⟨by decide +kernel, by decide +kernel⟩, List.mem_of_getElem? (i := 21) (by decide +kernel), List.mem_of_getElem? (i := 747) (by decide +kernel), List.mem_of_getElem? (i := 748) (by decide +kernel)⟩
theorem lw_p17 : lw_okq (⟨"Samovar", "boilingWaters", "(II)I"⟩, 13) := ⟨⟨by decide +kernel, by decide +kernel⟩, List.mem_of_getElem? (i := 21) (by decide +kernel), List.mem_of_getElem? (i := 760) (by decide +kernel), List.mem_of_getElem? (i := 761) (by decide +kernel)⟩
theorem lw_p18 : lw_okq (⟨"Samovar", "withMinutes", "(J)J"⟩, 13) := ⟨⟨by decide +kernel, by decide +kernel⟩, List.mem_of_getElem? (i := 21) (by decide +kernel), List.mem_of_getElem? (i := 850) (by decide +kernel), List.mem_of_getElem? (i := 851) (by decide +kernel)⟩
theorem lw_p19 : lw_okq (⟨"Samovar", "withPiece", "(JI)J"⟩, 13) := ⟨⟨by decide +kernel, by decide +kernel⟩, List.mem_of_getElem? (i := 21) (by decide +kernel), List.mem_of_getElem? (i := 855) (by decide +kernel), List.mem_of_getElem? (i := 856) (by decide +kernel)⟩
theorem lw_p20 : lw_okq (⟨"Samovar", "withGuest", "(JI)J"⟩, 13) := ⟨⟨by decide +kernel, by decide +kernel⟩, List.mem_of_getElem? (i := 21) (by decide +kernel), List.mem_of_getElem? (i := 862) (by decide +kernel), List.mem_of_getElem? (i := 863) (by decide +kernel)⟩
theorem lw_p21 : lw_okq (⟨"Samovar", "withStay", "(JII)J"⟩, 13) := ⟨⟨by decide +kernel, by decide +kernel⟩, List.mem_of_getElem? (i := 21) (by decide +kernel), List.mem_of_getElem? (i := 867) (by decide +kernel), List.mem_of_getElem? (i := 868) (by decide +kernel)⟩
theorem lw_p22 : lw_okq (⟨"SamovarModel", "faultOf", "(I)I"⟩, 53) := ⟨⟨by decide +kernel, by decide +kernel⟩, List.mem_of_getElem? (i := 883) (by decide +kernel), List.mem_of_getElem? (i := 1072) (by decide +kernel), List.mem_of_getElem? (i := 1073) (by decide +kernel)⟩
theorem lw_p23 : lw_okq (⟨"SamovarModel", "readsText", "(I)I"⟩, 53) := ⟨⟨by decide +kernel, by decide +kernel⟩, List.mem_of_getElem? (i := 883) (by decide +kernel), List.mem_of_getElem? (i := 1076) (by decide +kernel), List.mem_of_getElem? (i := 1077) (by decide +kernel)⟩
theorem lw_p24 : lw_okq (⟨"SamovarModel", "readsPart", "(III)I"⟩, 53) := ⟨⟨by decide +kernel, by decide +kernel⟩, List.mem_of_getElem? (i := 883) (by decide +kernel), List.mem_of_getElem? (i := 1080) (by decide +kernel), List.mem_of_getElem? (i := 1081) (by decide +kernel)⟩
theorem lw_p25 : lw_okq (⟨"SamovarModel", "byteAt", "(II)I"⟩, 53) := ⟨⟨by decide +kernel, by decide +kernel⟩, List.mem_of_getElem? (i := 883) (by decide +kernel), List.mem_of_getElem? (i := 1084) (by decide +kernel), List.mem_of_getElem? (i := 1085) (by decide +kernel)⟩
theorem lw_p26 : lw_okq (⟨"SamovarModel", "isPiece", "(I)Z"⟩, 53) := ⟨⟨by decide +kernel, by decide +kernel⟩, List.mem_of_getElem? (i := 883) (by decide +kernel), List.mem_of_getElem? (i := 1095) (by decide +kernel), List.mem_of_getElem? (i := 1096) (by decide +kernel)⟩
theorem lw_p27 : lw_okq (⟨"SamovarModel", "reads", "()V"⟩, 53) := ⟨⟨by decide +kernel, by decide +kernel⟩, List.mem_of_getElem? (i := 883) (by decide +kernel), List.mem_of_getElem? (i := 1099) (by decide +kernel), List.mem_of_getElem? (i := 1100) (by decide +kernel)⟩
theorem lw_p28 : lw_okq (⟨"SamovarModel", "pieceOf", "(II)I"⟩, 53) := ⟨⟨by decide +kernel, by decide +kernel⟩, List.mem_of_getElem? (i := 883) (by decide +kernel), List.mem_of_getElem? (i := 1106) (by decide +kernel), List.mem_of_getElem? (i := 1107) (by decide +kernel)⟩
theorem lw_p29 : lw_okq (⟨"SamovarModel", "isGuest", "(I)Z"⟩, 53) := ⟨⟨by decide +kernel, by decide +kernel⟩, List.mem_of_getElem? (i := 883) (by decide +kernel), List.mem_of_getElem? (i := 1114) (by decide +kernel), List.mem_of_getElem? (i := 1115) (by decide +kernel)⟩
theorem lw_p30 : lw_okq (⟨"SamovarModel", "guestOf", "(II)I"⟩, 53) := ⟨⟨by decide +kernel, by decide +kernel⟩, List.mem_of_getElem? (i := 883) (by decide +kernel), List.mem_of_getElem? (i := 1118) (by decide +kernel), List.mem_of_getElem? (i := 1119) (by decide +kernel)⟩
theorem lw_p31 : lw_okq (⟨"SamovarModel", "meets", "(I)I"⟩, 53) := ⟨⟨by decide +kernel, by decide +kernel⟩, List.mem_of_getElem? (i := 883) (by decide +kernel), List.mem_of_getElem? (i := 1141) (by decide +kernel), List.mem_of_getElem? (i := 1142) (by decide +kernel)⟩
def lw_privs_2 : List (MethodName × Nat) := [(⟨"Samovar", "comingOutAsSeen", "(II)I"⟩, 13), (⟨"Samovar", "boilingWaters", "(II)I"⟩, 13), (⟨"Samovar", "withMinutes", "(J)J"⟩, 13), (⟨"Samovar", "withPiece", "(JI)J"⟩, 13), (⟨"Samovar", "withGuest", "(JI)J"⟩, 13), (⟨"Samovar", "withStay", "(JII)J"⟩, 13), (⟨"SamovarModel", "faultOf", "(I)I"⟩, 53), (⟨"SamovarModel", "readsText", "(I)I"⟩, 53), (⟨"SamovarModel", "readsPart", "(III)I"⟩, 53), (⟨"SamovarModel", "byteAt", "(II)I"⟩, 53), (⟨"SamovarModel", "isPiece", "(I)Z"⟩, 53), (⟨"SamovarModel", "reads", "()V"⟩, 53), (⟨"SamovarModel", "pieceOf", "(II)I"⟩, 53), (⟨"SamovarModel", "isGuest", "(I)Z"⟩, 53), (⟨"SamovarModel", "guestOf", "(II)I"⟩, 53), (⟨"SamovarModel", "meets", "(I)I"⟩, 53)]
theorem lw_r2 : ∀ q ∈ lw_privs_2, lw_okq q := List.forall_mem_cons.mpr ⟨lw_p16, List.forall_mem_cons.mpr ⟨lw_p17, List.forall_mem_cons.mpr ⟨lw_p18, List.forall_mem_cons.mpr ⟨lw_p19, List.forall_mem_cons.mpr ⟨lw_p20, List.forall_mem_cons.mpr ⟨lw_p21, List.forall_mem_cons.mpr ⟨lw_p22, List.forall_mem_cons.mpr ⟨lw_p23, List.forall_mem_cons.mpr ⟨lw_p24, List.forall_mem_cons.mpr ⟨lw_p25, List.forall_mem_cons.mpr ⟨lw_p26, List.forall_mem_cons.mpr ⟨lw_p27, List.forall_mem_cons.mpr ⟨lw_p28, List.forall_mem_cons.mpr ⟨lw_p29, List.forall_mem_cons.mpr ⟨lw_p30, List.forall_mem_cons.mpr ⟨lw_p31, fun _ h => absurd h List.not_mem_nil⟩⟩⟩⟩⟩⟩⟩⟩⟩⟩⟩⟩⟩⟩⟩⟩
theorem lw_p32 : lw_okq (⟨"SamovarModel", "atOf", "(II)I"⟩, 53) := ⟨⟨by decide +kernel, by decide +kernel⟩, List.mem_of_getElem? (i := 883) (by decide +kernel), List.mem_of_getElem? (i := 1150) (by decide +kernel), List.mem_of_getElem? (i := 1151) (by decide +kernel)⟩
theorem lw_p33 : lw_okq (⟨"SamovarModel", "runsTold", "()V"⟩, 53) := ⟨⟨by decide +kernel, by decide +kernel⟩, List.mem_of_getElem? (i := 883) (by decide +kernel), List.mem_of_getElem? (i := 1154) (by decide +kernel), List.mem_of_getElem? (i := 1155) (by decide +kernel)⟩
theorem lw_p34 : lw_okq (⟨"SamovarModel", "asTold", "()V"⟩, 53) := ⟨⟨by decide +kernel, by decide +kernel⟩, List.mem_of_getElem? (i := 883) (by decide +kernel), List.mem_of_getElem? (i := 1158) (by decide +kernel), List.mem_of_getElem? (i := 1159) (by decide +kernel)⟩
theorem lw_p35 : lw_okq (⟨"SamovarModel", "runs", "()V"⟩, 53) := ⟨⟨by decide +kernel, by decide +kernel⟩, List.mem_of_getElem? (i := 883) (by decide +kernel), List.mem_of_getElem? (i := 1162) (by decide +kernel), List.mem_of_getElem? (i := 1163) (by decide +kernel)⟩
theorem lw_p36 : lw_okq (⟨"SamovarModel", "goesBy", "(I)V"⟩, 53) := ⟨⟨by decide +kernel, by decide +kernel⟩, List.mem_of_getElem? (i := 883) (by decide +kernel), List.mem_of_getElem? (i := 1166) (by decide +kernel), List.mem_of_getElem? (i := 1167) (by decide +kernel)⟩
theorem lw_p37 : lw_okq (⟨"SamovarModel", "befalls", "(I)V"⟩, 53) := ⟨⟨by decide +kernel, by decide +kernel⟩, List.mem_of_getElem? (i := 883) (by decide +kernel), List.mem_of_getElem? (i := 1170) (by decide +kernel), List.mem_of_getElem? (i := 1171) (by decide +kernel)⟩
theorem lw_p38 : lw_okq (⟨"SamovarModel", "fireAt", "(I)I"⟩, 53) := ⟨⟨by decide +kernel, by decide +kernel⟩, List.mem_of_getElem? (i := 883) (by decide +kernel), List.mem_of_getElem? (i := 1180) (by decide +kernel), List.mem_of_getElem? (i := 1181) (by decide +kernel)⟩
theorem lw_p39 : lw_okq (⟨"SamovarModel", "comes", "(I)V"⟩, 53) := ⟨⟨by decide +kernel, by decide +kernel⟩, List.mem_of_getElem? (i := 883) (by decide +kernel), List.mem_of_getElem? (i := 1184) (by decide +kernel), List.mem_of_getElem? (i := 1185) (by decide +kernel)⟩
theorem lw_p40 : lw_okq (⟨"SamovarModel", "joins", "(II)V"⟩, 53) := ⟨⟨by decide +kernel, by decide +kernel⟩, List.mem_of_getElem? (i := 883) (by decide +kernel), List.mem_of_getElem? (i := 1188) (by decide +kernel), List.mem_of_getElem? (i := 1189) (by decide +kernel)⟩
theorem lw_p41 : lw_okq (⟨"SamovarModel", "serves", "(I)I"⟩, 53) := ⟨⟨by decide +kernel, by decide +kernel⟩, List.mem_of_getElem? (i := 883) (by decide +kernel), List.mem_of_getElem? (i := 1192) (by decide +kernel), List.mem_of_getElem? (i := 1193) (by decide +kernel)⟩
theorem lw_p42 : lw_okq (⟨"SamovarModel", "leaves", "(I)V"⟩, 53) := ⟨⟨by decide +kernel, by decide +kernel⟩, List.mem_of_getElem? (i := 883) (by decide +kernel), List.mem_of_getElem? (i := 1196) (by decide +kernel), List.mem_of_getElem? (i := 1197) (by decide +kernel)⟩
theorem lw_p43 : lw_okq (⟨"SamovarModel", "goAway", "(I)V"⟩, 53) := ⟨⟨by decide +kernel, by decide +kernel⟩, List.mem_of_getElem? (i := 883) (by decide +kernel), List.mem_of_getElem? (i := 1200) (by decide +kernel), List.mem_of_getElem? (i := 1201) (by decide +kernel)⟩
theorem lw_p44 : lw_okq (⟨"SamovarModel", "isOf", "(III)I"⟩, 53) := ⟨⟨by decide +kernel, by decide +kernel⟩, List.mem_of_getElem? (i := 883) (by decide +kernel), List.mem_of_getElem? (i := 1208) (by decide +kernel), List.mem_of_getElem? (i := 1209) (by decide +kernel)⟩
theorem lw_p45 : lw_okq (⟨"SamovarModel", "lineOf", "(I)I"⟩, 53) := ⟨⟨by decide +kernel, by decide +kernel⟩, List.mem_of_getElem? (i := 883) (by decide +kernel), List.mem_of_getElem? (i := 1216) (by decide +kernel), List.mem_of_getElem? (i := 1217) (by decide +kernel)⟩
theorem lw_p46 : lw_okq (⟨"SamovarModel", "sumOf", "(I)I"⟩, 53) := ⟨⟨by decide +kernel, by decide +kernel⟩, List.mem_of_getElem? (i := 883) (by decide +kernel), List.mem_of_getElem? (i := 1224) (by decide +kernel), List.mem_of_getElem? (i := 1225) (by decide +kernel)⟩
theorem lw_p47 : lw_okq (⟨"SamovarModel", "drunkNow", "()I"⟩, 53) := ⟨⟨by decide +kernel, by decide +kernel⟩, List.mem_of_getElem? (i := 883) (by decide +kernel), List.mem_of_getElem? (i := 1228) (by decide +kernel), List.mem_of_getElem? (i := 1229) (by decide +kernel)⟩
def lw_privs_3 : List (MethodName × Nat) := [(⟨"SamovarModel", "atOf", "(II)I"⟩, 53), (⟨"SamovarModel", "runsTold", "()V"⟩, 53), (⟨"SamovarModel", "asTold", "()V"⟩, 53), (⟨"SamovarModel", "runs", "()V"⟩, 53), (⟨"SamovarModel", "goesBy", "(I)V"⟩, 53), (⟨"SamovarModel", "befalls", "(I)V"⟩, 53), (⟨"SamovarModel", "fireAt", "(I)I"⟩, 53), (⟨"SamovarModel", "comes", "(I)V"⟩, 53), (⟨"SamovarModel", "joins", "(II)V"⟩, 53), (⟨"SamovarModel", "serves", "(I)I"⟩, 53), (⟨"SamovarModel", "leaves", "(I)V"⟩, 53), (⟨"SamovarModel", "goAway", "(I)V"⟩, 53), (⟨"SamovarModel", "isOf", "(III)I"⟩, 53), (⟨"SamovarModel", "lineOf", "(I)I"⟩, 53), (⟨"SamovarModel", "sumOf", "(I)I"⟩, 53), (⟨"SamovarModel", "drunkNow", "()I"⟩, 53)]
theorem lw_r3 : ∀ q ∈ lw_privs_3, lw_okq q := List.forall_mem_cons.mpr ⟨lw_p32, List.forall_mem_cons.mpr ⟨lw_p33, List.forall_mem_cons.mpr ⟨lw_p34, List.forall_mem_cons.mpr ⟨lw_p35, List.forall_mem_cons.mpr ⟨lw_p36, List.forall_mem_cons.mpr ⟨lw_p37, List.forall_mem_cons.mpr ⟨lw_p38, List.forall_mem_cons.mpr ⟨lw_p39, List.forall_mem_cons.mpr ⟨lw_p40, List.forall_mem_cons.mpr ⟨lw_p41, List.forall_mem_cons.mpr ⟨lw_p42, List.forall_mem_cons.mpr ⟨lw_p43, List.forall_mem_cons.mpr ⟨lw_p44, List.forall_mem_cons.mpr ⟨lw_p45, List.forall_mem_cons.mpr ⟨lw_p46, List.forall_mem_cons.mpr ⟨lw_p47, fun _ h => absurd h List.not_mem_nil⟩⟩⟩⟩⟩⟩⟩⟩⟩⟩⟩⟩⟩⟩⟩⟩
theorem lw_p48 : lw_okq (⟨"SamovarModel", "manyOf", "(I)I"⟩, 53) := ⟨⟨by decide +kernel, by decide +kernel⟩, List.mem_of_getElem? (i := 883) (by decide +kernel), List.mem_of_getElem? (i := 1232) (by decide +kernel), List.mem_of_getElem? (i := 1233) (by decide +kernel)⟩
theorem lw_p49 : lw_okq (⟨"SamovarModel", "firstOf", "()I"⟩, 53) := ⟨⟨by decide +kernel, by decide +kernel⟩, List.mem_of_getElem? (i := 883) (by decide +kernel), List.mem_of_getElem? (i := 1240) (by decide +kernel), List.mem_of_getElem? (i := 1241) (by decide +kernel)⟩
theorem lw_p50 : lw_okq (⟨"SamovarModel", "hottestOf", "(I)I"⟩, 53) := ⟨⟨by decide +kernel, by decide +kernel⟩, List.mem_of_getElem? (i := 883) (by decide +kernel), List.mem_of_getElem? (i := 1248) (by decide +kernel), List.mem_of_getElem? (i := 1249) (by decide +kernel)⟩
theorem lw_p51 : lw_okq (⟨"SamovarModel", "waitedOf", "(I)I"⟩, 53) := ⟨⟨by decide +kernel, by decide +kernel⟩, List.mem_of_getElem? (i := 883) (by decide +kernel), List.mem_of_getElem? (i := 1256) (by decide +kernel), List.mem_of_getElem? (i := 1257) (by decide +kernel)⟩
theorem lw_p52 : lw_okq (⟨"SamovarModel", "thirstOf", "()I"⟩, 53) := ⟨⟨by decide +kernel, by decide +kernel⟩, List.mem_of_getElem? (i := 883) (by decide +kernel), List.mem_of_getElem? (i := 1264) (by decide +kernel), List.mem_of_getElem? (i := 1265) (by decide +kernel)⟩
theorem lw_p53 : lw_okq (⟨"SamovarModel", "betterOf", "(II)I"⟩, 53) := ⟨⟨by decide +kernel, by decide +kernel⟩, List.mem_of_getElem? (i := 883) (by decide +kernel), List.mem_of_getElem? (i := 1272) (by decide +kernel), List.mem_of_getElem? (i := 1273) (by decide +kernel)⟩
theorem lw_p54 : lw_okq (⟨"SamovarModel", "starts", "()V"⟩, 53) := ⟨⟨by decide +kernel, by decide +kernel⟩, List.mem_of_getElem? (i := 883) (by decide +kernel), List.mem_of_getElem? (i := 1276) (by decide +kernel), List.mem_of_getElem? (i := 1277) (by decide +kernel)⟩
theorem lw_p55 : lw_okq (⟨"SamovarModel", "tries", "(I)V"⟩, 53) := ⟨⟨by decide +kernel, by decide +kernel⟩, List.mem_of_getElem? (i := 883) (by decide +kernel), List.mem_of_getElem? (i := 1280) (by decide +kernel), List.mem_of_getElem? (i := 1281) (by decide +kernel)⟩
theorem lw_p56 : lw_okq (⟨"SamovarModel", "fillOf", "(I)I"⟩, 53) := ⟨⟨by decide +kernel, by decide +kernel⟩, List.mem_of_getElem? (i := 883) (by decide +kernel), List.mem_of_getElem? (i := 1288) (by decide +kernel), List.mem_of_getElem? (i := 1289) (by decide +kernel)⟩
theorem lw_p57 : lw_okq (⟨"SamovarModel", "comeOf", "(II)I"⟩, 53) := ⟨⟨by decide +kernel, by decide +kernel⟩, List.mem_of_getElem? (i := 883) (by decide +kernel), List.mem_of_getElem? (i := 1296) (by decide +kernel), List.mem_of_getElem? (i := 1297) (by decide +kernel)⟩
theorem lw_p58 : lw_okq (⟨"SamovarModel", "spareBy", "()I"⟩, 53) := ⟨⟨by decide +kernel, by decide +kernel⟩, List.mem_of_getElem? (i := 883) (by decide +kernel), List.mem_of_getElem? (i := 1304) (by decide +kernel), List.mem_of_getElem? (i := 1305) (by decide +kernel)⟩
theorem lw_p59 : lw_okq (⟨"SamovarModel", "isSpared", "(I)Z"⟩, 53) := ⟨⟨by decide +kernel, by decide +kernel⟩, List.mem_of_getElem? (i := 883) (by decide +kernel), List.mem_of_getElem? (i := 1308) (by decide +kernel), List.mem_of_getElem? (i := 1309) (by decide +kernel)⟩
theorem lw_p60 : lw_okq (⟨"SamovarModel", "ofRow", "(II)I"⟩, 53) := ⟨⟨by decide +kernel, by decide +kernel⟩, List.mem_of_getElem? (i := 883) (by decide +kernel), List.mem_of_getElem? (i := 1312) (by decide +kernel), List.mem_of_getElem? (i := 1313) (by decide +kernel)⟩
theorem lw_p61 : lw_okq (⟨"SamovarModel", "neverNow", "()I"⟩, 53) := ⟨⟨by decide +kernel, by decide +kernel⟩, List.mem_of_getElem? (i := 883) (by decide +kernel), List.mem_of_getElem? (i := 1328) (by decide +kernel), List.mem_of_getElem? (i := 1329) (by decide +kernel)⟩
theorem lw_p62 : lw_okq (⟨"SamovarModel", "isSeen", "()Z"⟩, 53) := ⟨⟨by decide +kernel, by decide +kernel⟩, List.mem_of_getElem? (i := 883) (by decide +kernel), List.mem_of_getElem? (i := 1332) (by decide +kernel), List.mem_of_getElem? (i := 1333) (by decide +kernel)⟩
theorem lw_p63 : lw_okq (⟨"SamovarModel", "watersBy", "()I"⟩, 53) := ⟨⟨by decide +kernel, by decide +kernel⟩, List.mem_of_getElem? (i := 883) (by decide +kernel), List.mem_of_getElem? (i := 1340) (by decide +kernel), List.mem_of_getElem? (i := 1341) (by decide +kernel)⟩
def lw_privs_4 : List (MethodName × Nat) := [(⟨"SamovarModel", "manyOf", "(I)I"⟩, 53), (⟨"SamovarModel", "firstOf", "()I"⟩, 53), (⟨"SamovarModel", "hottestOf", "(I)I"⟩, 53), (⟨"SamovarModel", "waitedOf", "(I)I"⟩, 53), (⟨"SamovarModel", "thirstOf", "()I"⟩, 53), (⟨"SamovarModel", "betterOf", "(II)I"⟩, 53), (⟨"SamovarModel", "starts", "()V"⟩, 53), (⟨"SamovarModel", "tries", "(I)V"⟩, 53), (⟨"SamovarModel", "fillOf", "(I)I"⟩, 53), (⟨"SamovarModel", "comeOf", "(II)I"⟩, 53), (⟨"SamovarModel", "spareBy", "()I"⟩, 53), (⟨"SamovarModel", "isSpared", "(I)Z"⟩, 53), (⟨"SamovarModel", "ofRow", "(II)I"⟩, 53), (⟨"SamovarModel", "neverNow", "()I"⟩, 53), (⟨"SamovarModel", "isSeen", "()Z"⟩, 53), (⟨"SamovarModel", "watersBy", "()I"⟩, 53)]
theorem lw_r4 : ∀ q ∈ lw_privs_4, lw_okq q := List.forall_mem_cons.mpr ⟨lw_p48, List.forall_mem_cons.mpr ⟨lw_p49, List.forall_mem_cons.mpr ⟨lw_p50, List.forall_mem_cons.mpr ⟨lw_p51, List.forall_mem_cons.mpr ⟨lw_p52, List.forall_mem_cons.mpr ⟨lw_p53, List.forall_mem_cons.mpr ⟨lw_p54, List.forall_mem_cons.mpr ⟨lw_p55, List.forall_mem_cons.mpr ⟨lw_p56, List.forall_mem_cons.mpr ⟨lw_p57, List.forall_mem_cons.mpr ⟨lw_p58, List.forall_mem_cons.mpr ⟨lw_p59, List.forall_mem_cons.mpr ⟨lw_p60, List.forall_mem_cons.mpr ⟨lw_p61, List.forall_mem_cons.mpr ⟨lw_p62, List.forall_mem_cons.mpr ⟨lw_p63, fun _ h => absurd h List.not_mem_nil⟩⟩⟩⟩⟩⟩⟩⟩⟩⟩⟩⟩⟩⟩⟩⟩
theorem lw_p64 : lw_okq (⟨"SamovarModel", "kindsBy", "(I)I"⟩, 53) := ⟨⟨by decide +kernel, by decide +kernel⟩, List.mem_of_getElem? (i := 883) (by decide +kernel), List.mem_of_getElem? (i := 1348) (by decide +kernel), List.mem_of_getElem? (i := 1349) (by decide +kernel)⟩
theorem lw_p65 : lw_okq (⟨"SamovarModel", "askOf", "()I"⟩, 53) := ⟨⟨by decide +kernel, by decide +kernel⟩, List.mem_of_getElem? (i := 883) (by decide +kernel), List.mem_of_getElem? (i := 1356) (by decide +kernel), List.mem_of_getElem? (i := 1357) (by decide +kernel)⟩
theorem lw_p66 : lw_okq (⟨"SamovarModel", "chanceOf", "(III)J"⟩, 53) := ⟨⟨by decide +kernel, by decide +kernel⟩, List.mem_of_getElem? (i := 883) (by decide +kernel), List.mem_of_getElem? (i := 1367) (by decide +kernel), List.mem_of_getElem? (i := 1368) (by decide +kernel)⟩
theorem lw_p67 : lw_okq (⟨"SamovarModel", "eveningsOf", "(III)I"⟩, 53) := ⟨⟨by decide +kernel, by decide +kernel⟩, List.mem_of_getElem? (i := 883) (by decide +kernel), List.mem_of_getElem? (i := 1382) (by decide +kernel), List.mem_of_getElem? (i := 1383) (by decide +kernel)⟩
theorem lw_p68 : lw_okq (⟨"SamovarModel", "lacks", "(III)I"⟩, 53) := ⟨⟨by decide +kernel, by decide +kernel⟩, List.mem_of_getElem? (i := 883) (by decide +kernel), List.mem_of_getElem? (i := 1399) (by decide +kernel), List.mem_of_getElem? (i := 1400) (by decide +kernel)⟩
theorem lw_p69 : lw_okq (⟨"SamovarModel", "keep", "(III)V"⟩, 53) := ⟨⟨by decide +kernel, by decide +kernel⟩, List.mem_of_getElem? (i := 883) (by decide +kernel), List.mem_of_getElem? (i := 1403) (by decide +kernel), List.mem_of_getElem? (i := 1404) (by decide +kernel)⟩
theorem lw_p70 : lw_okq (⟨"SamovarModel", "tellOf", "(I)I"⟩, 53) := ⟨⟨by decide +kernel, by decide +kernel⟩, List.mem_of_getElem? (i := 883) (by decide +kernel), List.mem_of_getElem? (i := 1424) (by decide +kernel), List.mem_of_getElem? (i := 1425) (by decide +kernel)⟩
theorem lw_p71 : lw_okq (⟨"SamovarModel", "pieceDigest", "(JI)J"⟩, 53) := ⟨⟨by decide +kernel, by decide +kernel⟩, List.mem_of_getElem? (i := 883) (by decide +kernel), List.mem_of_getElem? (i := 1435) (by decide +kernel), List.mem_of_getElem? (i := 1436) (by decide +kernel)⟩
theorem lw_p72 : lw_okq (⟨"SamovarModel", "guestDigest", "(JI)J"⟩, 53) := ⟨⟨by decide +kernel, by decide +kernel⟩, List.mem_of_getElem? (i := 883) (by decide +kernel), List.mem_of_getElem? (i := 1439) (by decide +kernel), List.mem_of_getElem? (i := 1440) (by decide +kernel)⟩
theorem lw_p73 : lw_okq (⟨"SamovarModel", "isDigest", "(JII)J"⟩, 53) := ⟨⟨by decide +kernel, by decide +kernel⟩, List.mem_of_getElem? (i := 883) (by decide +kernel), List.mem_of_getElem? (i := 1443) (by decide +kernel), List.mem_of_getElem? (i := 1444) (by decide +kernel)⟩
def lw_privs_5 : List (MethodName × Nat) := [(⟨"SamovarModel", "kindsBy", "(I)I"⟩, 53), (⟨"SamovarModel", "askOf", "()I"⟩, 53), (⟨"SamovarModel", "chanceOf", "(III)J"⟩, 53), (⟨"SamovarModel", "eveningsOf", "(III)I"⟩, 53), (⟨"SamovarModel", "lacks", "(III)I"⟩, 53), (⟨"SamovarModel", "keep", "(III)V"⟩, 53), (⟨"SamovarModel", "tellOf", "(I)I"⟩, 53), (⟨"SamovarModel", "pieceDigest", "(JI)J"⟩, 53), (⟨"SamovarModel", "guestDigest", "(JI)J"⟩, 53), (⟨"SamovarModel", "isDigest", "(JII)J"⟩, 53)]
theorem lw_r5 : ∀ q ∈ lw_privs_5, lw_okq q := List.forall_mem_cons.mpr ⟨lw_p64, List.forall_mem_cons.mpr ⟨lw_p65, List.forall_mem_cons.mpr ⟨lw_p66, List.forall_mem_cons.mpr ⟨lw_p67, List.forall_mem_cons.mpr ⟨lw_p68, List.forall_mem_cons.mpr ⟨lw_p69, List.forall_mem_cons.mpr ⟨lw_p70, List.forall_mem_cons.mpr ⟨lw_p71, List.forall_mem_cons.mpr ⟨lw_p72, List.forall_mem_cons.mpr ⟨lw_p73, fun _ h => absurd h List.not_mem_nil⟩⟩⟩⟩⟩⟩⟩⟩⟩⟩
def lw_privs : List (MethodName × Nat) := lw_privs_1 ++ (lw_privs_2 ++ (lw_privs_3 ++ (lw_privs_4 ++ (lw_privs_5))))
def lw_tbl : List Cond := k2_sels lw_privs ++ tables_1
theorem lw_privs_ok : ∀ q ∈ lw_privs, lw_okq q := by
  show ∀ q ∈ lw_privs_1 ++ (lw_privs_2 ++ (lw_privs_3 ++ (lw_privs_4 ++ (lw_privs_5)))), lw_okq q
  exact List.forall_mem_append.mpr ⟨lw_r1, List.forall_mem_append.mpr ⟨lw_r2, List.forall_mem_append.mpr ⟨lw_r3, List.forall_mem_append.mpr ⟨lw_r4, lw_r5⟩⟩⟩⟩
end
section
/-! names -/
def am_all : List Jvm.Cond := lw_tbl.filter goodWord
theorem am_mem {w : Jvm.Cond} (i : Nat) (h : lw_tbl[i]? = some w) (hg : goodWord w = true) : w ∈ am_all := List.mem_filter.mpr ⟨List.mem_of_getElem? h, hg⟩
theorem am_inl {ws : List Jvm.Cond} (ps : List Nat) (h : ws = ps.filterMap (fun i => lw_tbl[i]?)) (hg : ws.all goodWord = true) : ∀ w ∈ ws, w ∈ am_all := by
  intro w hw
  have h1 := List.all_eq_true.mp hg w hw
  rw [h] at hw
  obtain ⟨i, -, hi⟩ := List.mem_filterMap.mp hw
  exact am_mem i hi h1
theorem am_good {w : Jvm.Cond} (h : w ∈ am_all) : (w.onTables && w.keeps) = true ∨ ∃ ty, w = .arrayClass ty := good_of_word (List.mem_filter.mp h).2
def RX0 : String := "Samovar$Company"
def TX0 : u_T := fun k => match k with
  | 0 => ("Samovar$Company", "state", "[I", true)
  | 1 => ("Samovar$Company", "had", "[I", true)
  | 2 => ("Samovar$Company", "since", "[I", true)
  | 3 => ("Samovar$Company", "ticket", "[I", true)
  | 4 => ("Samovar$Company", "tickets", "I", false)
  | 5 => ("Samovar$Company", "waiting", "I", false)
  | 6 => ("Samovar$Company", "glasses", "I", false)
  | 7 => ("Samovar$Company", "content", "I", false)
  | _ => ("Samovar$Company", "gone", "I", false)
def tyX0 : Nat → FieldType := fun k => match k with
  | 0 => .array .int
  | 1 => .array .int
  | 2 => .array .int
  | 3 => .array .int
  | 4 => .int
  | 5 => .int
  | 6 => .int
  | 7 => .int
  | _ => .int
theorem nmX0 : ∀ a, a < 9 → ∀ b, b < 9 → a ≠ b → (TX0 a).2.1 ≠ (TX0 b).2.1 := by decide +kernel
theorem tyX0_ok : ∀ k, k < 9 → parseFieldDescriptor (TX0 k).2.2.1 = some (tyX0 k) := by decide +kernel
set_option maxRecDepth 20000 in
theorem inX0 : ∀ w ∈ u_ws RX0 TX0 9, w ∈ am_all := am_inl [266, 268, 270, 272, 274, 276, 278, 280, 282] (by decide +kernel) (by decide +kernel)
def RX1 : String := "Samovar$Entries"
def TX1 : u_T := fun k => match k with
  | 0 => ("Samovar$Entries", "minute", "[I", true)
  | 1 => ("Samovar$Entries", "kind", "[I", true)
  | 2 => ("Samovar$Entries", "number", "[I", true)
  | _ => ("Samovar$Entries", "size", "I", false)
def tyX1 : Nat → FieldType := fun k => match k with
  | 0 => .array .int
  | 1 => .array .int
  | 2 => .array .int
  | _ => .int
theorem nmX1 : ∀ a, a < 4 → ∀ b, b < 4 → a ≠ b → (TX1 a).2.1 ≠ (TX1 b).2.1 := by decide +kernel
theorem tyX1_ok : ∀ k, k < 4 → parseFieldDescriptor (TX1 k).2.2.1 = some (tyX1 k) := by decide +kernel
set_option maxRecDepth 20000 in
theorem inX1 : ∀ w ∈ u_ws RX1 TX1 4, w ∈ am_all := am_inl [138, 140, 142, 144] (by decide +kernel) (by decide +kernel)
def RX2 : String := "Samovar$Evening"
def TX2 : u_T := fun k => match k with
  | 0 => ("Samovar$Evening", "heat", "[I", true)
  | 1 => ("Samovar$Evening", "water", "[I", true)
  | 2 => ("Samovar$Evening", "brew", "[I", true)
  | 3 => ("Samovar$Evening", "fire", "[I", true)
  | 4 => ("Samovar$Evening", "served", "[I", true)
  | 5 => ("Samovar$Evening", "waiting", "[I", true)
  | 6 => ("Samovar$Evening", "states", "[I", true)
  | 7 => ("Samovar$Evening", "glasses", "[I", true)
  | 8 => ("Samovar$Evening", "kettle", "LSamovar$Kettle;", true)
  | 9 => ("Samovar$Evening", "company", "LSamovar$Company;", true)
  | _ => ("Samovar$Evening", "boiled", "I", false)
def tyX2 : Nat → FieldType := fun k => match k with
  | 0 => .array .int
  | 1 => .array .int
  | 2 => .array .int
  | 3 => .array .int
  | 4 => .array .int
  | 5 => .array .int
  | 6 => .array .int
  | 7 => .array .int
  | 8 => .object "Samovar$Kettle"
  | 9 => .object "Samovar$Company"
  | _ => .int
theorem nmX2 : ∀ a, a < 11 → ∀ b, b < 11 → a ≠ b → (TX2 a).2.1 ≠ (TX2 b).2.1 := by decide +kernel
theorem tyX2_ok : ∀ k, k < 11 → parseFieldDescriptor (TX2 k).2.2.1 = some (tyX2 k) := by decide +kernel
set_option maxRecDepth 20000 in
theorem inX2 : ∀ w ∈ u_ws RX2 TX2 11, w ∈ am_all := am_inl [307, 309, 311, 313, 315, 317, 319, 321, 323, 325, 327] (by decide +kernel) (by decide +kernel)
def RX3 : String := "Samovar$Kettle"
def TX3 : u_T := fun k => match k with
  | 0 => ("Samovar$Kettle", "heat", "I", false)
  | 1 => ("Samovar$Kettle", "water", "I", false)
  | 2 => ("Samovar$Kettle", "brew", "I", false)
  | _ => ("Samovar$Kettle", "steamed", "I", false)
def tyX3 : Nat → FieldType := fun k => match k with
  | 0 => .int
  | 1 => .int
  | 2 => .int
  | _ => .int
theorem nmX3 : ∀ a, a < 4 → ∀ b, b < 4 → a ≠ b → (TX3 a).2.1 ≠ (TX3 b).2.1 := by decide +kernel
theorem tyX3_ok : ∀ k, k < 4 → parseFieldDescriptor (TX3 k).2.2.1 = some (tyX3 k) := by decide +kernel
set_option maxRecDepth 20000 in
theorem inX3 : ∀ w ∈ u_ws RX3 TX3 4, w ∈ am_all := am_inl [233, 235, 237, 239] (by decide +kernel) (by decide +kernel)
def RX4 : String := "Samovar$Plan"
def TX4 : u_T := fun k => match k with
  | 0 => ("Samovar$Plan", "fuel", "LSamovar$Entries;", true)
  | 1 => ("Samovar$Plan", "guests", "LSamovar$Entries;", true)
  | 2 => ("Samovar$Plan", "events", "LSamovar$Entries;", true)
  | 3 => ("Samovar$Plan", "water", "I", false)
  | 4 => ("Samovar$Plan", "brew", "I", false)
  | _ => ("Samovar$Plan", "left", "I", false)
def tyX4 : Nat → FieldType := fun k => match k with
  | 0 => .object "Samovar$Entries"
  | 1 => .object "Samovar$Entries"
  | 2 => .object "Samovar$Entries"
  | 3 => .int
  | 4 => .int
  | _ => .int
theorem nmX4 : ∀ a, a < 6 → ∀ b, b < 6 → a ≠ b → (TX4 a).2.1 ≠ (TX4 b).2.1 := by decide +kernel
theorem tyX4_ok : ∀ k, k < 6 → parseFieldDescriptor (TX4 k).2.2.1 = some (tyX4 k) := by decide +kernel
set_option maxRecDepth 20000 in
theorem inX4 : ∀ w ∈ u_ws RX4 TX4 6, w ∈ am_all := am_inl [198, 200, 202, 204, 206, 208] (by decide +kernel) (by decide +kernel)
def RX5 : String := "Samovar$Sheet"
def TX5 : u_T := fun k => match k with
  | 0 => ("Samovar$Sheet", "items", "[I", true)
  | 1 => ("Samovar$Sheet", "lost", "Z", false)
  | 2 => ("Samovar$Sheet", "form", "I", false)
  | _ => ("Samovar$Sheet", "size", "I", false)
def tyX5 : Nat → FieldType := fun k => match k with
  | 0 => .array .int
  | 1 => .boolean
  | 2 => .int
  | _ => .int
theorem nmX5 : ∀ a, a < 4 → ∀ b, b < 4 → a ≠ b → (TX5 a).2.1 ≠ (TX5 b).2.1 := by decide +kernel
theorem tyX5_ok : ∀ k, k < 4 → parseFieldDescriptor (TX5 k).2.2.1 = some (tyX5 k) := by decide +kernel
set_option maxRecDepth 20000 in
theorem inX5 : ∀ w ∈ u_ws RX5 TX5 4, w ∈ am_all := am_inl [373, 375, 377, 379] (by decide +kernel) (by decide +kernel)
def RX6 : String := "Samovar$Text"
def TX6 : u_T := fun k => match k with
  | 0 => ("Samovar$Text", "entries", "LSamovar$Entries;", true)
  | 1 => ("Samovar$Text", "bytes", "[I", true)
  | 2 => ("Samovar$Text", "kinds", "Ljava/lang/String;", true)
  | 3 => ("Samovar$Text", "mostFigure", "I", true)
  | 4 => ("Samovar$Text", "size", "I", false)
  | _ => ("Samovar$Text", "fault", "I", false)
def tyX6 : Nat → FieldType := fun k => match k with
  | 0 => .object "Samovar$Entries"
  | 1 => .array .int
  | 2 => .object "java/lang/String"
  | 3 => .int
  | 4 => .int
  | _ => .int
theorem nmX6 : ∀ a, a < 6 → ∀ b, b < 6 → a ≠ b → (TX6 a).2.1 ≠ (TX6 b).2.1 := by decide +kernel
theorem tyX6_ok : ∀ k, k < 6 → parseFieldDescriptor (TX6 k).2.2.1 = some (tyX6 k) := by decide +kernel
set_option maxRecDepth 20000 in
theorem inX6 : ∀ w ∈ u_ws RX6 TX6 6, w ∈ am_all := am_inl [158, 160, 162, 164, 166, 168] (by decide +kernel) (by decide +kernel)
def RX7 : String := "Samovar$Trials"
def TX7 : u_T := fun k => match k with
  | 0 => ("Samovar$Trials", "outcomes", "[J", true)
  | 1 => ("Samovar$Trials", "told", "LSamovar$Plan;", true)
  | 2 => ("Samovar$Trials", "other", "LSamovar$Plan;", true)
  | 3 => ("Samovar$Trials", "evening", "LSamovar$Evening;", true)
  | _ => ("Samovar$Trials", "empty", "Z", false)
def tyX7 : Nat → FieldType := fun k => match k with
  | 0 => .array .long
  | 1 => .object "Samovar$Plan"
  | 2 => .object "Samovar$Plan"
  | 3 => .object "Samovar$Evening"
  | _ => .boolean
theorem nmX7 : ∀ a, a < 5 → ∀ b, b < 5 → a ≠ b → (TX7 a).2.1 ≠ (TX7 b).2.1 := by decide +kernel
theorem tyX7_ok : ∀ k, k < 5 → parseFieldDescriptor (TX7 k).2.2.1 = some (tyX7 k) := by decide +kernel
set_option maxRecDepth 20000 in
theorem inX7 : ∀ w ∈ u_ws RX7 TX7 5, w ∈ am_all := am_inl [347, 349, 351, 353, 355] (by decide +kernel) (by decide +kernel)
def RX8 : String := "Samovar"
def TX8 : u_T := fun k => match k with
  | 0 => ("Samovar", "fuel", "LSamovar$Text;", true)
  | 1 => ("Samovar", "guests", "LSamovar$Text;", true)
  | 2 => ("Samovar", "events", "LSamovar$Entries;", true)
  | 3 => ("Samovar", "seen", "LSamovar$Entries;", true)
  | 4 => ("Samovar", "told", "LSamovar$Plan;", true)
  | 5 => ("Samovar", "evening", "LSamovar$Evening;", true)
  | 6 => ("Samovar", "trials", "LSamovar$Trials;", true)
  | 7 => ("Samovar", "sheet0", "LSamovar$Sheet;", true)
  | 8 => ("Samovar", "sheet1", "LSamovar$Sheet;", true)
  | 9 => ("Samovar", "sheet2", "LSamovar$Sheet;", true)
  | 10 => ("Samovar", "sheet3", "LSamovar$Sheet;", true)
  | 11 => ("Samovar", "eveningKnown", "Z", false)
  | _ => ("Samovar", "finding", "I", false)
def tyX8 : Nat → FieldType := fun k => match k with
  | 0 => .object "Samovar$Text"
  | 1 => .object "Samovar$Text"
  | 2 => .object "Samovar$Entries"
  | 3 => .object "Samovar$Entries"
  | 4 => .object "Samovar$Plan"
  | 5 => .object "Samovar$Evening"
  | 6 => .object "Samovar$Trials"
  | 7 => .object "Samovar$Sheet"
  | 8 => .object "Samovar$Sheet"
  | 9 => .object "Samovar$Sheet"
  | 10 => .object "Samovar$Sheet"
  | 11 => .boolean
  | _ => .int
theorem nmX8 : ∀ a, a < 13 → ∀ b, b < 13 → a ≠ b → (TX8 a).2.1 ≠ (TX8 b).2.1 := by decide +kernel
theorem tyX8_ok : ∀ k, k < 13 → parseFieldDescriptor (TX8 k).2.2.1 = some (tyX8 k) := by decide +kernel
set_option maxRecDepth 20000 in
theorem inX8 : ∀ w ∈ u_ws RX8 TX8 13, w ∈ am_all := am_inl [395, 397, 399, 401, 403, 405, 407, 409, 411, 413, 415, 417, 419] (by decide +kernel) (by decide +kernel)
def RX9 : String := "SamovarModel"
def TX9 : u_T := fun k => match k with
  | 0 => ("SamovarModel", "typed", "[I", true)
  | 1 => ("SamovarModel", "texts", "[I", true)
  | 2 => ("SamovarModel", "pieces", "I", false)
  | 3 => ("SamovarModel", "pieceAt", "[I", true)
  | 4 => ("SamovarModel", "pieceKind", "[I", true)
  | 5 => ("SamovarModel", "pieceMany", "[I", true)
  | 6 => ("SamovarModel", "guests", "I", false)
  | 7 => ("SamovarModel", "guestAt", "[I", true)
  | 8 => ("SamovarModel", "guestDark", "[I", true)
  | 9 => ("SamovarModel", "guestAll", "[I", true)
  | 10 => ("SamovarModel", "waterTold", "I", false)
  | 11 => ("SamovarModel", "brewTold", "I", false)
  | 12 => ("SamovarModel", "events", "I", false)
  | 13 => ("SamovarModel", "eventKind", "[I", true)
  | 14 => ("SamovarModel", "eventAt", "[I", true)
  | 15 => ("SamovarModel", "eventNumber", "[I", true)
  | 16 => ("SamovarModel", "guestsNow", "I", false)
  | 17 => ("SamovarModel", "comeNow", "[I", true)
  | 18 => ("SamovarModel", "darkNow", "[I", true)
  | 19 => ("SamovarModel", "allNow", "[I", true)
  | 20 => ("SamovarModel", "waterNow", "I", false)
  | 21 => ("SamovarModel", "notEvents", "I", false)
  | 22 => ("SamovarModel", "heat", "I", false)
  | 23 => ("SamovarModel", "water", "I", false)
  | 24 => ("SamovarModel", "brew", "I", false)
  | 25 => ("SamovarModel", "boot", "I", false)
  | 26 => ("SamovarModel", "steamed", "I", false)
  | 27 => ("SamovarModel", "boiled", "I", false)
  | 28 => ("SamovarModel", "firstBoil", "I", false)
  | 29 => ("SamovarModel", "lineMany", "I", false)
  | 30 => ("SamovarModel", "line", "[I", true)
  | 31 => ("SamovarModel", "state", "[I", true)
  | 32 => ("SamovarModel", "had", "[I", true)
  | 33 => ("SamovarModel", "backAt", "[I", true)
  | 34 => ("SamovarModel", "since", "[I", true)
  | 35 => ("SamovarModel", "waits", "[I", true)
  | 36 => ("SamovarModel", "tells", "[I", true)
  | 37 => ("SamovarModel", "lineAt", "[I", true)
  | 38 => ("SamovarModel", "stateAt", "[I", true)
  | 39 => ("SamovarModel", "hadAt", "[I", true)
  | 40 => ("SamovarModel", "bestNow", "I", false)
  | 41 => ("SamovarModel", "mostNow", "I", false)
  | 42 => ("SamovarModel", "planRow", "[I", true)
  | 43 => ("SamovarModel", "seens", "I", false)
  | 44 => ("SamovarModel", "seenAt", "[I", true)
  | 45 => ("SamovarModel", "seenIs", "[I", true)
  | 46 => ("SamovarModel", "boilsBy", "[I", true)
  | 47 => ("SamovarModel", "isThere", "[Z", true)
  | 48 => ("SamovarModel", "forms", "[I", true)
  | 49 => ("SamovarModel", "sizes", "[I", true)
  | 50 => ("SamovarModel", "items", "[I", true)
  | 51 => ("SamovarModel", "moved", "[I", true)
  | _ => ("SamovarModel", "finding", "I", false)
def tyX9 : Nat → FieldType := fun k => match k with
  | 0 => .array .int
  | 1 => .array .int
  | 2 => .int
  | 3 => .array .int
  | 4 => .array .int
  | 5 => .array .int
  | 6 => .int
  | 7 => .array .int
  | 8 => .array .int
  | 9 => .array .int
  | 10 => .int
  | 11 => .int
  | 12 => .int
  | 13 => .array .int
  | 14 => .array .int
  | 15 => .array .int
  | 16 => .int
  | 17 => .array .int
  | 18 => .array .int
  | 19 => .array .int
  | 20 => .int
  | 21 => .int
  | 22 => .int
  | 23 => .int
  | 24 => .int
  | 25 => .int
  | 26 => .int
  | 27 => .int
  | 28 => .int
  | 29 => .int
  | 30 => .array .int
  | 31 => .array .int
  | 32 => .array .int
  | 33 => .array .int
  | 34 => .array .int
  | 35 => .array .int
  | 36 => .array .int
  | 37 => .array .int
  | 38 => .array .int
  | 39 => .array .int
  | 40 => .int
  | 41 => .int
  | 42 => .array .int
  | 43 => .int
  | 44 => .array .int
  | 45 => .array .int
  | 46 => .array .int
  | 47 => .array .boolean
  | 48 => .array .int
  | 49 => .array .int
  | 50 => .array .int
  | 51 => .array .int
  | _ => .int
theorem nmX9 : ∀ a, a < 53 → ∀ b, b < 53 → a ≠ b → (TX9 a).2.1 ≠ (TX9 b).2.1 := by decide +kernel
theorem tyX9_ok : ∀ k, k < 53 → parseFieldDescriptor (TX9 k).2.2.1 = some (tyX9 k) := by decide +kernel
set_option maxRecDepth 20000 in
theorem inX9 : ∀ w ∈ u_ws RX9 TX9 53, w ∈ am_all := am_inl [1015, 1017, 1019, 1021, 1023, 1025, 1027, 1029, 1031, 1033, 1035, 1037, 1039, 1041, 1043, 1045, 1047, 1049, 1051, 1053, 1055, 1057, 1059, 1061, 1063, 1065, 1067, 1069, 1071, 1073, 1075, 1077, 1079, 1081, 1083, 1085, 1087, 1089, 1091, 1093, 1095, 1097, 1099, 1101, 1103, 1105, 1107, 1109, 1111, 1113, 1115, 1117, 1119] (by decide +kernel) (by decide +kernel)
abbrev am_cl : List vw_C := [(RX0, TX0, 9), (RX1, TX1, 4), (RX2, TX2, 11), (RX3, TX3, 4), (RX4, TX4, 6), (RX5, TX5, 4), (RX6, TX6, 6), (RX7, TX7, 5), (RX8, TX8, 13), (RX9, TX9, 53)]
end
section
/-! THE ABSTRACT MACHINE. A world of a fixed shape: cells 0 .. 108 (their fields that are references never change behind the constructors), constants 200 .. 206 that nobody writes. What changes is AH: int fields by cell and slot, int arrays by cell, long arrays by cell. References are numbers of cells. -/
abbrev AH : Type := (Nat → Nat → Int32) × (Nat → Nat → Int32) × (Nat → Nat → Int64)
abbrev LV : Type := List (Nat × Value)
abbrev AS : Type := Nat × LV × List Value × AH
/-- a cell's shape: an array (kind 0 int, 1 long, 2 boolean; length), or an object (its kind, its fields that are references) -/
abbrev SP : Type := (Nat × Nat) ⊕ (Nat × List (Option Nat))
/-- a row of code: pc, instruction, target or place of a word, numbers, keys with targets, a long -/
abbrev RW : Type := Nat × Jvm.ClassFile.Instr × Nat × List Nat × List (Int32 × Nat) × Int64
/-- a method: whose it is, parameters, name, bytes, locals, return type, frames below, words of locals below, rows -/
abbrev MR : Type := Nat × Nat × MethodName × ByteArray × Nat × Option FieldType × Nat × Nat × List RW
abbrev mr_o (R : MR) : Nat := R.1
abbrev mr_n (R : MR) : Nat := R.2.1
abbrev mr_y (R : MR) : MethodName := R.2.2.1
abbrev mr_b (R : MR) : ByteArray := R.2.2.2.1
abbrev mr_L (R : MR) : Nat := R.2.2.2.2.1
abbrev mr_r (R : MR) : Option FieldType := R.2.2.2.2.2.1
abbrev mr_f (R : MR) : Nat := R.2.2.2.2.2.2.1
abbrev mr_w (R : MR) : Nat := R.2.2.2.2.2.2.2.1
abbrev mr_c (R : MR) : List RW := R.2.2.2.2.2.2.2.2
/-- what a step may be: the next state, a return, a call (callee, its arguments, what stays below) -/
abbrev ACT : Type := AS ⊕ (Option Value ⊕ (MR × List Value × List Value))
def am_sf (h : AH) (i k : Nat) (v : Int32) : AH := (fun a b => if a = i then (if b = k then v else h.1 a b) else h.1 a b, h.2)
def am_sa (h : AH) (i : Nat) (g : Nat → Int32) : AH := (h.1, fun a => if a = i then g else h.2.1 a, h.2.2)
def am_sl (h : AH) (i : Nat) (g : Nat → Int64) : AH := (h.1, h.2.1, fun a => if a = i then g else h.2.2 a)
def am_in (i : Int32) (n : Nat) : Bool := !(decide (i < 0)) && decide (i.toNatClampNeg < n)
theorem am_in_vp {i : Int32} {n : Nat} (h : am_in i n = true) : vp_in i n := by
  simp only [am_in, Bool.and_eq_true, Bool.not_eq_true', decide_eq_false_iff_not, decide_eq_true_eq] at h
  rintro (q | q)
  · exact h.1 q
  · omega
def am_get : LV → Nat → Option Value
  | [], _ => none
  | q :: l, i => bif Nat.beq q.1 i then some q.2 else am_get l i
theorem am_get_mem : ∀ {l : LV} {i : Nat} {v : Value}, am_get l i = some v → (i, v) ∈ l
  | [], _, _, h => by cases h
  | (j, w) :: l, i, v, h => by
    unfold am_get at h
    cases hq : Nat.beq j i with
    | true =>
      simp only [hq, cond_true, Option.some.injEq] at h
      rw [← Nat.eq_of_beq_eq_true hq, ← h]
      exact List.mem_cons_self
    | false =>
      simp only [hq, cond_false] at h
      exact List.mem_cons_of_mem _ (am_get_mem h)
def am_st1 (lv : LV) (i : Nat) (v : Value) : LV := (i, v) :: lv.filter (fun q => !(q.1 == i) && !(q.1 + 1 == i && q.2.category == 2))
def am_st2 (lv : LV) (i : Nat) (v : Value) : LV := (i, v) :: lv.filter (fun q => !(q.1 == i) && (!(q.1 == i + 1) && !(q.1 + 1 == i && q.2.category == 2)))
def am_row : List RW → Nat → Option (Jvm.ClassFile.Instr × Nat × List Nat × List (Int32 × Nat) × Int64)
  | [], _ => none
  | r :: l, pc => bif Nat.beq r.1 pc then some r.2 else am_row l pc
theorem am_row_mem : ∀ {c : List RW} {pc : Nat} {r : Jvm.ClassFile.Instr × Nat × List Nat × List (Int32 × Nat) × Int64}, am_row c pc = some r → (pc, r) ∈ c
  | [], _, _, h => by cases h
  | (j, w) :: l, i, v, h => by
    unfold am_row at h
    cases hq : Nat.beq j i with
    | true =>
      simp only [hq, cond_true, Option.some.injEq] at h
      rw [← Nat.eq_of_beq_eq_true hq, ← h]
      exact List.mem_cons_self
    | false =>
      simp only [hq, cond_false] at h
      exact List.mem_cons_of_mem _ (am_row_mem h)
/-- an instruction's length, but for the switches -/
def am_len : Jvm.ClassFile.Instr → Nat
  | .bipush _ | .iload _ | .istore _ | .aload _ | .astore _ | .lload _ | .lstore _ | .ldc _ => 2
  | .sipush _ | .iinc _ _ | .getfield _ | .putfield _ | .getstatic _ | .invokestatic _ | .invokevirtual _ | .goto _ | .if_icmp _ _ | .ifCond _ _ | .ifnull _ | .ifnonnull _ | .ldc_w _ | .ldc2_w _ => 3
  | _ => 1
def am_sel (x : Int32) : List (Int32 × Nat) → Nat → Nat
  | [], d => d
  | q :: l, d => if x = q.1 then q.2 else am_sel x l d
def am_cmp : Jvm.ClassFile.Cond → Int32 → Int32 → Bool
  | .eq, x, y => decide (x = y)
  | .ne, x, y => decide (¬ x = y)
  | .lt, x, y => decide (x < y)
  | .ge, x, y => decide (y ≤ x)
  | .gt, x, y => decide (y < x)
  | .le, x, y => decide (x ≤ y)
def am_isInt : Value → Bool | .int _ => true | _ => false
def am_isLong : Value → Bool | .long _ => true | _ => false
def am_isRef : Value → Bool | .ref _ => true | .null => true | _ => false
def am_cat (st : List Value) : Nat := (st.map fun v => v.category).sum
/-- constants that nobody writes -/
def am_roI (sc : Option (Nat × (Nat → Int32))) (a : Nat) : Option (Nat × (Nat → Int32)) := match a with
  | 202 => some (3, fun j => [3, 5, 9].getD j 0)
  | 203 => some (3, fun j => [3, 4, 3].getD j 0)
  | 206 => sc
  | _ => none
def am_roB (a : Nat) : Option (Nat × (Nat → Int32)) := match a with
  | 204 => some (3, fun j => [107, 98, 99].getD j 0)
  | 205 => some (2, fun j => [119, 100].getD j 0)
  | _ => none
end
