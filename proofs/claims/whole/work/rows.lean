section
-- ===== PART A: goes FIRST, ahead of the names: the tables' words, and 'selects' of the private methods out of them =====
/-- a private method of a class that the tables say can be made, by its rows of tables_1 -/
def lw_okq (q : MethodName × Nat) : Prop := (q.1.cls ≠ "java/lang/invoke/MethodHandle" ∧ q.1.cls ≠ "java/lang/invoke/VarHandle") ∧ Cond.instantiable q.1.cls q.2 ∈ tables_1 ∧ Cond.privateMethod q.1 ∈ tables_1 ∧ Cond.instanceMethod q.1 ∈ tables_1
theorem lw_p0 : lw_okq (⟨"Samovar", "textAt", "(I)LSamovar$Text;"⟩, 13) := ⟨⟨by decide +kernel, by decide +kernel⟩, List.mem_of_getElem? (i := 21) (by decide +kernel), List.mem_of_getElem? (i := 353) (by decide +kernel), List.mem_of_getElem? (i := 354) (by decide +kernel)⟩
theorem lw_p1 : lw_okq (⟨"Samovar$Text", "scan", "()V"⟩, 6) := ⟨⟨by decide +kernel, by decide +kernel⟩, List.mem_of_getElem? (i := 29) (by decide +kernel), List.mem_of_getElem? (i := 364) (by decide +kernel), List.mem_of_getElem? (i := 365) (by decide +kernel)⟩
theorem lw_p2 : lw_okq (⟨"Samovar$Text", "firstFault", "()I"⟩, 6) := ⟨⟨by decide +kernel, by decide +kernel⟩, List.mem_of_getElem? (i := 29) (by decide +kernel), List.mem_of_getElem? (i := 368) (by decide +kernel), List.mem_of_getElem? (i := 369) (by decide +kernel)⟩
theorem lw_p3 : lw_okq (⟨"Samovar$Text", "fits", "(II)Z"⟩, 6) := ⟨⟨by decide +kernel, by decide +kernel⟩, List.mem_of_getElem? (i := 29) (by decide +kernel), List.mem_of_getElem? (i := 372) (by decide +kernel), List.mem_of_getElem? (i := 373) (by decide +kernel)⟩
theorem lw_p4 : lw_okq (⟨"Samovar", "changed", "()V"⟩, 13) := ⟨⟨by decide +kernel, by decide +kernel⟩, List.mem_of_getElem? (i := 21) (by decide +kernel), List.mem_of_getElem? (i := 466) (by decide +kernel), List.mem_of_getElem? (i := 467) (by decide +kernel)⟩
theorem lw_p5 : lw_okq (⟨"Samovar", "sheetAt", "(I)LSamovar$Sheet;"⟩, 13) := ⟨⟨by decide +kernel, by decide +kernel⟩, List.mem_of_getElem? (i := 21) (by decide +kernel), List.mem_of_getElem? (i := 529) (by decide +kernel), List.mem_of_getElem? (i := 530) (by decide +kernel)⟩
theorem lw_p6 : lw_okq (⟨"Samovar", "found", "(I)I"⟩, 13) := ⟨⟨by decide +kernel, by decide +kernel⟩, List.mem_of_getElem? (i := 21) (by decide +kernel), List.mem_of_getElem? (i := 533) (by decide +kernel), List.mem_of_getElem? (i := 534) (by decide +kernel)⟩
theorem lw_p7 : lw_okq (⟨"Samovar$Sheet", "has", "(I)Z"⟩, 4) := ⟨⟨by decide +kernel, by decide +kernel⟩, List.mem_of_getElem? (i := 286) (by decide +kernel), List.mem_of_getElem? (i := 541) (by decide +kernel), List.mem_of_getElem? (i := 542) (by decide +kernel)⟩
theorem lw_p8 : lw_okq (⟨"Samovar", "toldEvening", "()LSamovar$Evening;"⟩, 13) := ⟨⟨by decide +kernel, by decide +kernel⟩, List.mem_of_getElem? (i := 21) (by decide +kernel), List.mem_of_getElem? (i := 549) (by decide +kernel), List.mem_of_getElem? (i := 550) (by decide +kernel)⟩
theorem lw_p9 : lw_okq (⟨"Samovar$Evening", "light", "(LSamovar$Entries;)V"⟩, 11) := ⟨⟨by decide +kernel, by decide +kernel⟩, List.mem_of_getElem? (i := 138) (by decide +kernel), List.mem_of_getElem? (i := 568) (by decide +kernel), List.mem_of_getElem? (i := 569) (by decide +kernel)⟩
theorem lw_p10 : lw_okq (⟨"Samovar$Company", "join", "(II)V"⟩, 9) := ⟨⟨by decide +kernel, by decide +kernel⟩, List.mem_of_getElem? (i := 169) (by decide +kernel), List.mem_of_getElem? (i := 598) (by decide +kernel), List.mem_of_getElem? (i := 599) (by decide +kernel)⟩
theorem lw_p11 : lw_okq (⟨"Samovar$Evening", "note", "(I)V"⟩, 11) := ⟨⟨by decide +kernel, by decide +kernel⟩, List.mem_of_getElem? (i := 138) (by decide +kernel), List.mem_of_getElem? (i := 610) (by decide +kernel), List.mem_of_getElem? (i := 611) (by decide +kernel)⟩
theorem lw_p12 : lw_okq (⟨"Samovar", "mostGlasses", "(III)I"⟩, 13) := ⟨⟨by decide +kernel, by decide +kernel⟩, List.mem_of_getElem? (i := 21) (by decide +kernel), List.mem_of_getElem? (i := 667) (by decide +kernel), List.mem_of_getElem? (i := 668) (by decide +kernel)⟩
theorem lw_p13 : lw_okq (⟨"Samovar$Trials", "alter", "(I)V"⟩, 5) := ⟨⟨by decide +kernel, by decide +kernel⟩, List.mem_of_getElem? (i := 257) (by decide +kernel), List.mem_of_getElem? (i := 684) (by decide +kernel), List.mem_of_getElem? (i := 685) (by decide +kernel)⟩
theorem lw_p14 : lw_okq (⟨"Samovar", "sparedEvents", "()I"⟩, 13) := ⟨⟨by decide +kernel, by decide +kernel⟩, List.mem_of_getElem? (i := 21) (by decide +kernel), List.mem_of_getElem? (i := 712) (by decide +kernel), List.mem_of_getElem? (i := 713) (by decide +kernel)⟩
theorem lw_p15 : lw_okq (⟨"Samovar", "comesOutAsSeen", "(J)Z"⟩, 13) := ⟨⟨by decide +kernel, by decide +kernel⟩, List.mem_of_getElem? (i := 21) (by decide +kernel), List.mem_of_getElem? (i := 735) (by decide +kernel), List.mem_of_getElem? (i := 736) (by decide +kernel)⟩
def lw_privs_1 : List (MethodName × Nat) := [(⟨"Samovar", "textAt", "(I)LSamovar$Text;"⟩, 13), (⟨"Samovar$Text", "scan", "()V"⟩, 6), (⟨"Samovar$Text", "firstFault", "()I"⟩, 6), (⟨"Samovar$Text", "fits", "(II)Z"⟩, 6), (⟨"Samovar", "changed", "()V"⟩, 13), (⟨"Samovar", "sheetAt", "(I)LSamovar$Sheet;"⟩, 13), (⟨"Samovar", "found", "(I)I"⟩, 13), (⟨"Samovar$Sheet", "has", "(I)Z"⟩, 4), (⟨"Samovar", "toldEvening", "()LSamovar$Evening;"⟩, 13), (⟨"Samovar$Evening", "light", "(LSamovar$Entries;)V"⟩, 11), (⟨"Samovar$Company", "join", "(II)V"⟩, 9), (⟨"Samovar$Evening", "note", "(I)V"⟩, 11), (⟨"Samovar", "mostGlasses", "(III)I"⟩, 13), (⟨"Samovar$Trials", "alter", "(I)V"⟩, 5), (⟨"Samovar", "sparedEvents", "()I"⟩, 13), (⟨"Samovar", "comesOutAsSeen", "(J)Z"⟩, 13)]
theorem lw_r1 : ∀ q ∈ lw_privs_1, lw_okq q := List.forall_mem_cons.mpr ⟨lw_p0, List.forall_mem_cons.mpr ⟨lw_p1, List.forall_mem_cons.mpr ⟨lw_p2, List.forall_mem_cons.mpr ⟨lw_p3, List.forall_mem_cons.mpr ⟨lw_p4, List.forall_mem_cons.mpr ⟨lw_p5, List.forall_mem_cons.mpr ⟨lw_p6, List.forall_mem_cons.mpr ⟨lw_p7, List.forall_mem_cons.mpr ⟨lw_p8, List.forall_mem_cons.mpr ⟨lw_p9, List.forall_mem_cons.mpr ⟨lw_p10, List.forall_mem_cons.mpr ⟨lw_p11, List.forall_mem_cons.mpr ⟨lw_p12, List.forall_mem_cons.mpr ⟨lw_p13, List.forall_mem_cons.mpr ⟨lw_p14, List.forall_mem_cons.mpr ⟨lw_p15, fun _ h => absurd h List.not_mem_nil⟩⟩⟩⟩⟩⟩⟩⟩⟩⟩⟩⟩⟩⟩⟩⟩
theorem lw_p16 : lw_okq (⟨"Samovar", "comingOutAsSeen", "(II)I"⟩, 13) := ⟨⟨by decide +kernel, by decide +kernel⟩, List.mem_of_getElem? (i := 21) (by decide +kernel), List.mem_of_getElem? (i := 747) (by decide +kernel), List.mem_of_getElem? (i := 748) (by decide +kernel)⟩
theorem lw_p17 : lw_okq (⟨"Samovar", "boilingWaters", "(II)I"⟩, 13) := ⟨⟨by decide +kernel, by decide +kernel⟩, List.mem_of_getElem? (i := 21) (by decide +kernel), List.mem_of_getElem? (i := 760) (by decide +kernel), List.mem_of_getElem? (i := 761) (by decide +kernel)⟩
theorem lw_p18 : lw_okq (⟨"Samovar", "withMinutes", "(J)J"⟩, 13) := ⟨⟨by decide +kernel, by decide +kernel⟩, List.mem_of_getElem? (i := 21) (by decide +kernel), List.mem_of_getElem? (i := 850) (by decide +kernel), List.mem_of_getElem? (i := 851) (by decide +kernel)⟩
theorem lw_p19 : lw_okq (⟨"Samovar", "withPiece", "(JI)J"⟩, 13) := ⟨⟨by decide +kernel, by decide +kernel⟩, List.mem_of_getElem? (i := 21) (by decide +kernel), List.mem_of_getElem? (i := 855) (by decide +kernel), List.mem_of_getElem? (i := 856) (by decide +kernel)⟩
theorem lw_p20 : lw_okq (⟨"Samovar", "withGuest", "(JI)J"⟩, 13) := ⟨⟨by decide +kernel, by decide +kernel⟩, List.mem_of_getElem? (i := 21) (by decide +kernel), List.mem_of_getElem? (i := 862) (by decide +kernel), List.mem_of_getElem? (i := 863) (by decide +kernel)⟩
theorem lw_p21 : lw_okq (⟨"Samovar", "withStay", "(JII)J"⟩, 13) := ⟨⟨by decide +kernel, by decide +kernel⟩, List.mem_of_getElem? (i := 21) (by decide +kernel), List.mem_of_getElem? (i := 867) (by decide +kernel), List.mem_of_getElem? (i := 868) (by decide +kernel)⟩
theorem lw_p22 : lw_okq (⟨"SamovarModel", "faultOf", "(I)I"⟩, 53) := ⟨⟨by decide +kernel, by decide +kernel⟩, List.mem_of_getElem? (i := 883) (by decide +kernel), List.mem_of_getElem? (i := 1072) (by decide +kernel), List.mem_of_getElem? (i := 1073) (by decide +kernel)⟩
theorem lw_p23 : lw_okq (⟨"SamovarModel", "readsText", "(I)I"⟩, 53) := ⟨⟨by decide +kernel, by decide +kernel⟩, List.mem_of_getElem? (i := 883) (by decide +kernel), List.mem_of_getElem? (i := 1076) (by decide +kernel), List.mem_of_getElem? (i := 1077) (by decide +kernel)⟩
theorem lw_p24 : lw_okq (⟨"SamovarModel", "readsPart", "(III)I"⟩, 53) := ⟨⟨by decide +kernel, by decide +kernel⟩, List.mem_of_getElem? (i := 883) (by decide +kernel), List.mem_of_getElem? (i := 1080) (by decide +kernel), List.mem_of_getElem? (i := 1081) (by decide +kernel)⟩
theorem lw_p25 : lw_okq (⟨"SamovarModel", "byteAt", "(II)I"⟩, 53) := ⟨⟨by decide +kernel, by decide +kernel⟩, List.mem_of_getElem? (i := 883) (by decide +kernel), List.mem_of_getElem? (i := 1084) (by decide +kernel), List.mem_of_getElem? (i := 1085) (by decide +kernel)⟩
theorem lw_p26 : lw_okq (⟨"SamovarModel", "isPiece", "(I)Z"⟩, 53) := ⟨⟨by decide +kernel, by decide +kernel⟩, List.mem_of_getElem? (i := 883) (by decide +kernel), List.mem_of_getElem? (i := 1095) (by decide +kernel), List.mem_of_getElem? (i := 1096) (by decide +kernel)⟩
theorem lw_p27 : lw_okq (⟨"SamovarModel", "reads", "()V"⟩, 53) := ⟨⟨by decide +kernel, by decide +kernel⟩, List.mem_of_getElem? (i := 883) (by decide +kernel), List.mem_of_getElem? (i := 1099) (by decide +kernel), List.mem_of_getElem? (i := 1100) (by decide +kernel)⟩
theorem lw_p28 : lw_okq (⟨"SamovarModel", "pieceOf", "(II)I"⟩, 53) := ⟨⟨by decide +kernel, by decide +kernel⟩, List.mem_of_getElem? (i := 883) (by decide +kernel), List.mem_of_getElem? (i := 1106) (by decide +kernel), List.mem_of_getElem? (i := 1107) (by decide +kernel)⟩
theorem lw_p29 : lw_okq (⟨"SamovarModel", "isGuest", "(I)Z"⟩, 53) := ⟨⟨by decide +kernel, by decide +kernel⟩, List.mem_of_getElem? (i := 883) (by decide +kernel), List.mem_of_getElem? (i := 1114) (by decide +kernel), List.mem_of_getElem? (i := 1115) (by decide +kernel)⟩
theorem lw_p30 : lw_okq (⟨"SamovarModel", "guestOf", "(II)I"⟩, 53) := ⟨⟨by decide +kernel, by decide +kernel⟩, List.mem_of_getElem? (i := 883) (by decide +kernel), List.mem_of_getElem? (i := 1118) (by decide +kernel), List.mem_of_getElem? (i := 1119) (by decide +kernel)⟩
theorem lw_p31 : lw_okq (⟨"SamovarModel", "meets", "(I)I"⟩, 53) := ⟨⟨by decide +kernel, by decide +kernel⟩, List.mem_of_getElem? (i := 883) (by decide +kernel), List.mem_of_getElem? (i := 1141) (by decide +kernel), List.mem_of_getElem? (i := 1142) (by decide +kernel)⟩
def lw_privs_2 : List (MethodName × Nat) := [(⟨"Samovar", "comingOutAsSeen", "(II)I"⟩, 13), (⟨"Samovar", "boilingWaters", "(II)I"⟩, 13), (⟨"Samovar", "withMinutes", "(J)J"⟩, 13), (⟨"Samovar", "withPiece", "(JI)J"⟩, 13), (⟨"Samovar", "withGuest", "(JI)J"⟩, 13), (⟨"Samovar", "withStay", "(JII)J"⟩, 13), (⟨"SamovarModel", "faultOf", "(I)I"⟩, 53), (⟨"SamovarModel", "readsText", "(I)I"⟩, 53), (⟨"SamovarModel", "readsPart", "(III)I"⟩, 53), (⟨"SamovarModel", "byteAt", "(II)I"⟩, 53), (⟨"SamovarModel", "isPiece", "(I)Z"⟩, 53), (⟨"SamovarModel", "reads", "()V"⟩, 53), (⟨"SamovarModel", "pieceOf", "(II)I"⟩, 53), (⟨"SamovarModel", "isGuest", "(I)Z"⟩, 53), (⟨"SamovarModel", "guestOf", "(II)I"⟩, 53), (⟨"SamovarModel", "meets", "(I)I"⟩, 53)]
theorem lw_r2 : ∀ q ∈ lw_privs_2, lw_okq q := List.forall_mem_cons.mpr ⟨lw_p16, List.forall_mem_cons.mpr ⟨lw_p17, List.forall_mem_cons.mpr ⟨lw_p18, List.forall_mem_cons.mpr ⟨lw_p19, List.forall_mem_cons.mpr ⟨lw_p20, List.forall_mem_cons.mpr ⟨lw_p21, List.forall_mem_cons.mpr ⟨lw_p22, List.forall_mem_cons.mpr ⟨lw_p23, List.forall_mem_cons.mpr ⟨lw_p24, List.forall_mem_cons.mpr ⟨lw_p25, List.forall_mem_cons.mpr ⟨lw_p26, List.forall_mem_cons.mpr ⟨lw_p27, List.forall_mem_cons.mpr ⟨lw_p28, List.forall_mem_cons.mpr ⟨lw_p29, List.forall_mem_cons.mpr ⟨lw_p30, List.forall_mem_cons.mpr ⟨lw_p31, fun _ h => absurd h List.not_mem_nil⟩⟩⟩⟩⟩⟩⟩⟩⟩⟩⟩⟩⟩⟩⟩⟩
theorem lw_p32 : lw_okq (⟨"SamovarModel", "atOf", "(II)I"⟩, 53) := ⟨⟨by decide +kernel, by decide +kernel⟩, List.mem_of_getElem? (i := 883) (by decide +kernel), List.mem_of_getElem? (i := 1150) (by decide +kernel), List.mem_of_getElem? (i := 1151) (by decide +kernel)⟩
theorem lw_p33 : lw_okq (⟨"SamovarModel", "runsTold", "()V"⟩, 53) := ⟨⟨by decide +kernel, by decide +kernel⟩, List.mem_of_getElem? (i := 883) (by decide +kernel), List.mem_of_getElem? (i := 1154) (by decide +kernel), List.mem_of_getElem? (i := 1155) (by decide +kernel)⟩
theorem lw_p34 : lw_okq (⟨"SamovarModel", "asTold", "()V"⟩, 53) := ⟨⟨by decide +kernel, by decide +kernel⟩, List.mem_of_getElem? (i := 883) (by decide +kernel), List.mem_of_getElem? (i := 1158) (by decide +kernel), List.mem_of_getElem? (i := 1159) (by decide +kernel)⟩
theorem lw_p35 : lw_okq (⟨"SamovarModel", "runs", "()V"⟩, 53) := ⟨⟨by decide +kernel, by decide +kernel⟩, List.mem_of_getElem? (i := 883) (by decide +kernel), List.mem_of_getElem? (i := 1162) (by decide +kernel), List.mem_of_getElem? (i := 1163) (by decide +kernel)⟩
theorem lw_p36 : lw_okq (⟨"SamovarModel", "goesBy", "(I)V"⟩, 53) := ⟨⟨by decide +kernel, by decide +kernel⟩, List.mem_of_getElem? (i := 883) (by decide +kernel), List.mem_of_getElem? (i := 1166) (by decide +kernel), List.mem_of_getElem? (i := 1167) (by decide +kernel)⟩
theorem lw_p37 : lw_okq (⟨"SamovarModel", "befalls", "(I)V"⟩, 53) := ⟨⟨by decide +kernel, by decide +kernel⟩, List.mem_of_getElem? (i := 883) (by decide +kernel), List.mem_of_getElem? (i := 1170) (by decide +kernel), List.mem_of_getElem? (i := 1171) (by decide +kernel)⟩
theorem lw_p38 : lw_okq (⟨"SamovarModel", "fireAt", "(I)I"⟩, 53) := ⟨⟨by decide +kernel, by decide +kernel⟩, List.mem_of_getElem? (i := 883) (by decide +kernel), List.mem_of_getElem? (i := 1180) (by decide +kernel), List.mem_of_getElem? (i := 1181) (by decide +kernel)⟩
theorem lw_p39 : lw_okq (⟨"SamovarModel", "comes", "(I)V"⟩, 53) := ⟨⟨by decide +kernel, by decide +kernel⟩, List.mem_of_getElem? (i := 883) (by decide +kernel), List.mem_of_getElem? (i := 1184) (by decide +kernel), List.mem_of_getElem? (i := 1185) (by decide +kernel)⟩
theorem lw_p40 : lw_okq (⟨"SamovarModel", "joins", "(II)V"⟩, 53) := ⟨⟨by decide +kernel, by decide +kernel⟩, List.mem_of_getElem? (i := 883) (by decide +kernel), List.mem_of_getElem? (i := 1188) (by decide +kernel), List.mem_of_getElem? (i := 1189) (by decide +kernel)⟩
theorem lw_p41 : lw_okq (⟨"SamovarModel", "serves", "(I)I"⟩, 53) := ⟨⟨by decide +kernel, by decide +kernel⟩, List.mem_of_getElem? (i := 883) (by decide +kernel), List.mem_of_getElem? (i := 1192) (by decide +kernel), List.mem_of_getElem? (i := 1193) (by decide +kernel)⟩
theorem lw_p42 : lw_okq (⟨"SamovarModel", "leaves", "(I)V"⟩, 53) := ⟨⟨by decide +kernel, by decide +kernel⟩, List.mem_of_getElem? (i := 883) (by decide +kernel), List.mem_of_getElem? (i := 1196) (by decide +kernel), List.mem_of_getElem? (i := 1197) (by decide +kernel)⟩
theorem lw_p43 : lw_okq (⟨"SamovarModel", "goAway", "(I)V"⟩, 53) := ⟨⟨by decide +kernel, by decide +kernel⟩, List.mem_of_getElem? (i := 883) (by decide +kernel), List.mem_of_getElem? (i := 1200) (by decide +kernel), List.mem_of_getElem? (i := 1201) (by decide +kernel)⟩
theorem lw_p44 : lw_okq (⟨"SamovarModel", "isOf", "(III)I"⟩, 53) := ⟨⟨by decide +kernel, by decide +kernel⟩, List.mem_of_getElem? (i := 883) (by decide +kernel), List.mem_of_getElem? (i := 1208) (by decide +kernel), List.mem_of_getElem? (i := 1209) (by decide +kernel)⟩
theorem lw_p45 : lw_okq (⟨"SamovarModel", "lineOf", "(I)I"⟩, 53) := ⟨⟨by decide +kernel, by decide +kernel⟩, List.mem_of_getElem? (i := 883) (by decide +kernel), List.mem_of_getElem? (i := 1216) (by decide +kernel), List.mem_of_getElem? (i := 1217) (by decide +kernel)⟩
theorem lw_p46 : lw_okq (⟨"SamovarModel", "sumOf", "(I)I"⟩, 53) := ⟨⟨by decide +kernel, by decide +kernel⟩, List.mem_of_getElem? (i := 883) (by decide +kernel), List.mem_of_getElem? (i := 1224) (by decide +kernel), List.mem_of_getElem? (i := 1225) (by decide +kernel)⟩
theorem lw_p47 : lw_okq (⟨"SamovarModel", "drunkNow", "()I"⟩, 53) := ⟨⟨by decide +kernel, by decide +kernel⟩, List.mem_of_getElem? (i := 883) (by decide +kernel), List.mem_of_getElem? (i := 1228) (by decide +kernel), List.mem_of_getElem? (i := 1229) (by decide +kernel)⟩
def lw_privs_3 : List (MethodName × Nat) := [(⟨"SamovarModel", "atOf", "(II)I"⟩, 53), (⟨"SamovarModel", "runsTold", "()V"⟩, 53), (⟨"SamovarModel", "asTold", "()V"⟩, 53), (⟨"SamovarModel", "runs", "()V"⟩, 53), (⟨"SamovarModel", "goesBy", "(I)V"⟩, 53), (⟨"SamovarModel", "befalls", "(I)V"⟩, 53), (⟨"SamovarModel", "fireAt", "(I)I"⟩, 53), (⟨"SamovarModel", "comes", "(I)V"⟩, 53), (⟨"SamovarModel", "joins", "(II)V"⟩, 53), (⟨"SamovarModel", "serves", "(I)I"⟩, 53), (⟨"SamovarModel", "leaves", "(I)V"⟩, 53), (⟨"SamovarModel", "goAway", "(I)V"⟩, 53), (⟨"SamovarModel", "isOf", "(III)I"⟩, 53), (⟨"SamovarModel", "lineOf", "(I)I"⟩, 53), (⟨"SamovarModel", "sumOf", "(I)I"⟩, 53), (⟨"SamovarModel", "drunkNow", "()I"⟩, 53)]
theorem lw_r3 : ∀ q ∈ lw_privs_3, lw_okq q := List.forall_mem_cons.mpr ⟨lw_p32, List.forall_mem_cons.mpr ⟨lw_p33, List.forall_mem_cons.mpr ⟨lw_p34, List.forall_mem_cons.mpr ⟨lw_p35, List.forall_mem_cons.mpr ⟨lw_p36, List.forall_mem_cons.mpr ⟨lw_p37, List.forall_mem_cons.mpr ⟨lw_p38, List.forall_mem_cons.mpr ⟨lw_p39, List.forall_mem_cons.mpr ⟨lw_p40, List.forall_mem_cons.mpr ⟨lw_p41, List.forall_mem_cons.mpr ⟨lw_p42, List.forall_mem_cons.mpr ⟨lw_p43, List.forall_mem_cons.mpr ⟨lw_p44, List.forall_mem_cons.mpr ⟨lw_p45, List.forall_mem_cons.mpr ⟨lw_p46, List.forall_mem_cons.mpr ⟨lw_p47, fun _ h => absurd h List.not_mem_nil⟩⟩⟩⟩⟩⟩⟩⟩⟩⟩⟩⟩⟩⟩⟩⟩
theorem lw_p48 : lw_okq (⟨"SamovarModel", "manyOf", "(I)I"⟩, 53) := ⟨⟨by decide +kernel, by decide +kernel⟩, List.mem_of_getElem? (i := 883) (by decide +kernel), List.mem_of_getElem? (i := 1232) (by decide +kernel), List.mem_of_getElem? (i := 1233) (by decide +kernel)⟩
theorem lw_p49 : lw_okq (⟨"SamovarModel", "firstOf", "()I"⟩, 53) := ⟨⟨by decide +kernel, by decide +kernel⟩, List.mem_of_getElem? (i := 883) (by decide +kernel), List.mem_of_getElem? (i := 1240) (by decide +kernel), List.mem_of_getElem? (i := 1241) (by decide +kernel)⟩
theorem lw_p50 : lw_okq (⟨"SamovarModel", "hottestOf", "(I)I"⟩, 53) := ⟨⟨by decide +kernel, by decide +kernel⟩, List.mem_of_getElem? (i := 883) (by decide +kernel), List.mem_of_getElem? (i := 1248) (by decide +kernel), List.mem_of_getElem? (i := 1249) (by decide +kernel)⟩
theorem lw_p51 : lw_okq (⟨"SamovarModel", "waitedOf", "(I)I"⟩, 53) := ⟨⟨by decide +kernel, by decide +kernel⟩, List.mem_of_getElem? (i := 883) (by decide +kernel), List.mem_of_getElem? (i := 1256) (by decide +kernel), List.mem_of_getElem? (i := 1257) (by decide +kernel)⟩
theorem lw_p52 : lw_okq (⟨"SamovarModel", "thirstOf", "()I"⟩, 53) := ⟨⟨by decide +kernel, by decide +kernel⟩, List.mem_of_getElem? (i := 883) (by decide +kernel), List.mem_of_getElem? (i := 1264) (by decide +kernel), List.mem_of_getElem? (i := 1265) (by decide +kernel)⟩
theorem lw_p53 : lw_okq (⟨"SamovarModel", "betterOf", "(II)I"⟩, 53) := ⟨⟨by decide +kernel, by decide +kernel⟩, List.mem_of_getElem? (i := 883) (by decide +kernel), List.mem_of_getElem? (i := 1272) (by decide +kernel), List.mem_of_getElem? (i := 1273) (by decide +kernel)⟩
theorem lw_p54 : lw_okq (⟨"SamovarModel", "starts", "()V"⟩, 53) := ⟨⟨by decide +kernel, by decide +kernel⟩, List.mem_of_getElem? (i := 883) (by decide +kernel), List.mem_of_getElem? (i := 1276) (by decide +kernel), List.mem_of_getElem? (i := 1277) (by decide +kernel)⟩
theorem lw_p55 : lw_okq (⟨"SamovarModel", "tries", "(I)V"⟩, 53) := ⟨⟨by decide +kernel, by decide +kernel⟩, List.mem_of_getElem? (i := 883) (by decide +kernel), List.mem_of_getElem? (i := 1280) (by decide +kernel), List.mem_of_getElem? (i := 1281) (by decide +kernel)⟩
theorem lw_p56 : lw_okq (⟨"SamovarModel", "fillOf", "(I)I"⟩, 53) := ⟨⟨by decide +kernel, by decide +kernel⟩, List.mem_of_getElem? (i := 883) (by decide +kernel), List.mem_of_getElem? (i := 1288) (by decide +kernel), List.mem_of_getElem? (i := 1289) (by decide +kernel)⟩
theorem lw_p57 : lw_okq (⟨"SamovarModel", "comeOf", "(II)I"⟩, 53) := ⟨⟨by decide +kernel, by decide +kernel⟩, List.mem_of_getElem? (i := 883) (by decide +kernel), List.mem_of_getElem? (i := 1296) (by decide +kernel), List.mem_of_getElem? (i := 1297) (by decide +kernel)⟩
theorem lw_p58 : lw_okq (⟨"SamovarModel", "spareBy", "()I"⟩, 53) := ⟨⟨by decide +kernel, by decide +kernel⟩, List.mem_of_getElem? (i := 883) (by decide +kernel), List.mem_of_getElem? (i := 1304) (by decide +kernel), List.mem_of_getElem? (i := 1305) (by decide +kernel)⟩
theorem lw_p59 : lw_okq (⟨"SamovarModel", "isSpared", "(I)Z"⟩, 53) := ⟨⟨by decide +kernel, by decide +kernel⟩, List.mem_of_getElem? (i := 883) (by decide +kernel), List.mem_of_getElem? (i := 1308) (by decide +kernel), List.mem_of_getElem? (i := 1309) (by decide +kernel)⟩
theorem lw_p60 : lw_okq (⟨"SamovarModel", "ofRow", "(II)I"⟩, 53) := ⟨⟨by decide +kernel, by decide +kernel⟩, List.mem_of_getElem? (i := 883) (by decide +kernel), List.mem_of_getElem? (i := 1312) (by decide +kernel), List.mem_of_getElem? (i := 1313) (by decide +kernel)⟩
theorem lw_p61 : lw_okq (⟨"SamovarModel", "neverNow", "()I"⟩, 53) := ⟨⟨by decide +kernel, by decide +kernel⟩, List.mem_of_getElem? (i := 883) (by decide +kernel), List.mem_of_getElem? (i := 1328) (by decide +kernel), List.mem_of_getElem? (i := 1329) (by decide +kernel)⟩
theorem lw_p62 : lw_okq (⟨"SamovarModel", "isSeen", "()Z"⟩, 53) := ⟨⟨by decide +kernel, by decide +kernel⟩, List.mem_of_getElem? (i := 883) (by decide +kernel), List.mem_of_getElem? (i := 1332) (by decide +kernel), List.mem_of_getElem? (i := 1333) (by decide +kernel)⟩
theorem lw_p63 : lw_okq (⟨"SamovarModel", "watersBy", "()I"⟩, 53) := ⟨⟨by decide +kernel, by decide +kernel⟩, List.mem_of_getElem? (i := 883) (by decide +kernel), List.mem_of_getElem? (i := 1340) (by decide +kernel), List.mem_of_getElem? (i := 1341) (by decide +kernel)⟩
def lw_privs_4 : List (MethodName × Nat) := [(⟨"SamovarModel", "manyOf", "(I)I"⟩, 53), (⟨"SamovarModel", "firstOf", "()I"⟩, 53), (⟨"SamovarModel", "hottestOf", "(I)I"⟩, 53), (⟨"SamovarModel", "waitedOf", "(I)I"⟩, 53), (⟨"SamovarModel", "thirstOf", "()I"⟩, 53), (⟨"SamovarModel", "betterOf", "(II)I"⟩, 53), (⟨"SamovarModel", "starts", "()V"⟩, 53), (⟨"SamovarModel", "tries", "(I)V"⟩, 53), (⟨"SamovarModel", "fillOf", "(I)I"⟩, 53), (⟨"SamovarModel", "comeOf", "(II)I"⟩, 53), (⟨"SamovarModel", "spareBy", "()I"⟩, 53), (⟨"SamovarModel", "isSpared", "(I)Z"⟩, 53), (⟨"SamovarModel", "ofRow", "(II)I"⟩, 53), (⟨"SamovarModel", "neverNow", "()I"⟩, 53), (⟨"SamovarModel", "isSeen", "()Z"⟩, 53), (⟨"SamovarModel", "watersBy", "()I"⟩, 53)]
theorem lw_r4 : ∀ q ∈ lw_privs_4, lw_okq q := List.forall_mem_cons.mpr ⟨lw_p48, List.forall_mem_cons.mpr ⟨lw_p49, List.forall_mem_cons.mpr ⟨lw_p50, List.forall_mem_cons.mpr ⟨lw_p51, List.forall_mem_cons.mpr ⟨lw_p52, List.forall_mem_cons.mpr ⟨lw_p53, List.forall_mem_cons.mpr ⟨lw_p54, List.forall_mem_cons.mpr ⟨lw_p55, List.forall_mem_cons.mpr ⟨lw_p56, List.forall_mem_cons.mpr ⟨lw_p57, List.forall_mem_cons.mpr ⟨lw_p58, List.forall_mem_cons.mpr ⟨lw_p59, List.forall_mem_cons.mpr ⟨lw_p60, List.forall_mem_cons.mpr ⟨lw_p61, List.forall_mem_cons.mpr ⟨lw_p62, List.forall_mem_cons.mpr ⟨lw_p63, fun _ h => absurd h List.not_mem_nil⟩⟩⟩⟩⟩⟩⟩⟩⟩⟩⟩⟩⟩⟩⟩⟩
theorem lw_p64 : lw_okq (⟨"SamovarModel", "kindsBy", "(I)I"⟩, 53) := ⟨⟨by decide +kernel, by decide +kernel⟩, List.mem_of_getElem? (i := 883) (by decide +kernel), List.mem_of_getElem? (i := 1348) (by decide +kernel), List.mem_of_getElem? (i := 1349) (by decide +kernel)⟩
theorem lw_p65 : lw_okq (⟨"SamovarModel", "askOf", "()I"⟩, 53) := ⟨⟨by decide +kernel, by decide +kernel⟩, List.mem_of_getElem? (i := 883) (by decide +kernel), List.mem_of_getElem? (i := 1356) (by decide +kernel), List.mem_of_getElem? (i := 1357) (by decide +kernel)⟩
theorem lw_p66 : lw_okq (⟨"SamovarModel", "chanceOf", "(III)J"⟩, 53) := ⟨⟨by decide +kernel, by decide +kernel⟩, List.mem_of_getElem? (i := 883) (by decide +kernel), List.mem_of_getElem? (i := 1367) (by decide +kernel), List.mem_of_getElem? (i := 1368) (by decide +kernel)⟩
theorem lw_p67 : lw_okq (⟨"SamovarModel", "eveningsOf", "(III)I"⟩, 53) := ⟨⟨by decide +kernel, by decide +kernel⟩, List.mem_of_getElem? (i := 883) (by decide +kernel), List.mem_of_getElem? (i := 1382) (by decide +kernel), List.mem_of_getElem? (i := 1383) (by decide +kernel)⟩
theorem lw_p68 : lw_okq (⟨"SamovarModel", "lacks", "(III)I"⟩, 53) := ⟨⟨by decide +kernel, by decide +kernel⟩, List.mem_of_getElem? (i := 883) (by decide +kernel), List.mem_of_getElem? (i := 1399) (by decide +kernel), List.mem_of_getElem? (i := 1400) (by decide +kernel)⟩
theorem lw_p69 : lw_okq (⟨"SamovarModel", "keep", "(III)V"⟩, 53) := ⟨⟨by decide +kernel, by decide +kernel⟩, List.mem_of_getElem? (i := 883) (by decide +kernel), List.mem_of_getElem? (i := 1403) (by decide +kernel), List.mem_of_getElem? (i := 1404) (by decide +kernel)⟩
theorem lw_p70 : lw_okq (⟨"SamovarModel", "tellOf", "(I)I"⟩, 53) := ⟨⟨by decide +kernel, by decide +kernel⟩, List.mem_of_getElem? (i := 883) (by decide +kernel), List.mem_of_getElem? (i := 1424) (by decide +kernel), List.mem_of_getElem? (i := 1425) (by decide +kernel)⟩
theorem lw_p71 : lw_okq (⟨"SamovarModel", "pieceDigest", "(JI)J"⟩, 53) := ⟨⟨by decide +kernel, by decide +kernel⟩, List.mem_of_getElem? (i := 883) (by decide +kernel), List.mem_of_getElem? (i := 1435) (by decide +kernel), List.mem_of_getElem? (i := 1436) (by decide +kernel)⟩
theorem lw_p72 : lw_okq (⟨"SamovarModel", "guestDigest", "(JI)J"⟩, 53) := ⟨⟨by decide +kernel, by decide +kernel⟩, List.mem_of_getElem? (i := 883) (by decide +kernel), List.mem_of_getElem? (i := 1439) (by decide +kernel), List.mem_of_getElem? (i := 1440) (by decide +kernel)⟩
theorem lw_p73 : lw_okq (⟨"SamovarModel", "isDigest", "(JII)J"⟩, 53) := ⟨⟨by decide +kernel, by decide +kernel⟩, List.mem_of_getElem? (i := 883) (by decide +kernel), List.mem_of_getElem? (i := 1443) (by decide +kernel), List.mem_of_getElem? (i := 1444) (by decide +kernel)⟩
def lw_privs_5 : List (MethodName × Nat) := [(⟨"SamovarModel", "kindsBy", "(I)I"⟩, 53), (⟨"SamovarModel", "askOf", "()I"⟩, 53), (⟨"SamovarModel", "chanceOf", "(III)J"⟩, 53), (⟨"SamovarModel", "eveningsOf", "(III)I"⟩, 53), (⟨"SamovarModel", "lacks", "(III)I"⟩, 53), (⟨"SamovarModel", "keep", "(III)V"⟩, 53), (⟨"SamovarModel", "tellOf", "(I)I"⟩, 53), (⟨"SamovarModel", "pieceDigest", "(JI)J"⟩, 53), (⟨"SamovarModel", "guestDigest", "(JI)J"⟩, 53), (⟨"SamovarModel", "isDigest", "(JII)J"⟩, 53)]
theorem lw_r5 : ∀ q ∈ lw_privs_5, lw_okq q := List.forall_mem_cons.mpr ⟨lw_p64, List.forall_mem_cons.mpr ⟨lw_p65, List.forall_mem_cons.mpr ⟨lw_p66, List.forall_mem_cons.mpr ⟨lw_p67, List.forall_mem_cons.mpr ⟨lw_p68, List.forall_mem_cons.mpr ⟨lw_p69, List.forall_mem_cons.mpr ⟨lw_p70, List.forall_mem_cons.mpr ⟨lw_p71, List.forall_mem_cons.mpr ⟨lw_p72, List.forall_mem_cons.mpr ⟨lw_p73, fun _ h => absurd h List.not_mem_nil⟩⟩⟩⟩⟩⟩⟩⟩⟩⟩
def lw_privs : List (MethodName × Nat) := lw_privs_1 ++ (lw_privs_2 ++ (lw_privs_3 ++ (lw_privs_4 ++ (lw_privs_5))))
def lw_tbl : List Cond := k2_sels lw_privs ++ tables_1
theorem lw_privs_ok : ∀ q ∈ lw_privs, lw_okq q := by
  show ∀ q ∈ lw_privs_1 ++ (lw_privs_2 ++ (lw_privs_3 ++ (lw_privs_4 ++ (lw_privs_5)))), lw_okq q
  exact List.forall_mem_append.mpr ⟨lw_r1, List.forall_mem_append.mpr ⟨lw_r2, List.forall_mem_append.mpr ⟨lw_r3, List.forall_mem_append.mpr ⟨lw_r4, lw_r5⟩⟩⟩⟩
end
section
/-! names -/
def am_all : List Jvm.Cond := lw_tbl.filter goodWord
theorem am_mem {w : Jvm.Cond} (i : Nat) (h : lw_tbl[i]? = some w) (hg : goodWord w = true) : w ∈ am_all := List.mem_filter.mpr ⟨List.mem_of_getElem? h, hg⟩
theorem am_inl {ws : List Jvm.Cond} (ps : List Nat) (h : ws = ps.filterMap (fun i => lw_tbl[i]?)) (hg : ws.all goodWord = true) : ∀ w ∈ ws, w ∈ am_all := by
  intro w hw
  have h1 := List.all_eq_true.mp hg w hw
  rw [h] at hw
  obtain ⟨i, -, hi⟩ := List.mem_filterMap.mp hw
  exact am_mem i hi h1
theorem am_good {w : Jvm.Cond} (h : w ∈ am_all) : (w.onTables && w.keeps) = true ∨ ∃ ty, w = .arrayClass ty := good_of_word (List.mem_filter.mp h).2
def RX0 : String := "Samovar$Company"
def TX0 : u_T := fun k => match k with
  | 0 => ("Samovar$Company", "state", "[I", true)
  | 1 => ("Samovar$Company", "had", "[I", true)
  | 2 => ("Samovar$Company", "since", "[I", true)
  | 3 => ("Samovar$Company", "ticket", "[I", true)
  | 4 => ("Samovar$Company", "tickets", "I", false)
  | 5 => ("Samovar$Company", "waiting", "I", false)
  | 6 => ("Samovar$Company", "glasses", "I", false)
  | 7 => ("Samovar$Company", "content", "I", false)
  | _ => ("Samovar$Company", "gone", "I", false)
def tyX0 : Nat → FieldType := fun k => match k with
  | 0 => .array .int
  | 1 => .array .int
  | 2 => .array .int
  | 3 => .array .int
  | 4 => .int
  | 5 => .int
  | 6 => .int
  | 7 => .int
  | _ => .int
theorem nmX0 : ∀ a, a < 9 → ∀ b, b < 9 → a ≠ b → (TX0 a).2.1 ≠ (TX0 b).2.1 := by decide +kernel
theorem tyX0_ok : ∀ k, k < 9 → parseFieldDescriptor (TX0 k).2.2.1 = some (tyX0 k) := by decide +kernel
set_option maxRecDepth 20000 in
theorem inX0 : ∀ w ∈ u_ws RX0 TX0 9, w ∈ am_all := am_inl [266, 268, 270, 272, 274, 276, 278, 280, 282] (by decide +kernel) (by decide +kernel)
def RX1 : String := "Samovar$Entries"
def TX1 : u_T := fun k => match k with
  | 0 => ("Samovar$Entries", "minute", "[I", true)
  | 1 => ("Samovar$Entries", "kind", "[I", true)
  | 2 => ("Samovar$Entries", "number", "[I", true)
  | _ => ("Samovar$Entries", "size", "I", false)
def tyX1 : Nat → FieldType := fun k => match k with
  | 0 => .array .int
  | 1 => .array .int
  | 2 => .array .int
  | _ => .int
theorem nmX1 : ∀ a, a < 4 → ∀ b, b < 4 → a ≠ b → (TX1 a).2.1 ≠ (TX1 b).2.1 := by decide +kernel
theorem tyX1_ok : ∀ k, k < 4 → parseFieldDescriptor (TX1 k).2.2.1 = some (tyX1 k) := by decide +kernel
set_option maxRecDepth 20000 in
theorem inX1 : ∀ w ∈ u_ws RX1 TX1 4, w ∈ am_all := am_inl [138, 140, 142, 144] (by decide +kernel) (by decide +kernel)
def RX2 : String := "Samovar$Evening"
def TX2 : u_T := fun k => match k with
  | 0 => ("Samovar$Evening", "heat", "[I", true)
  | 1 => ("Samovar$Evening", "water", "[I", true)
  | 2 => ("Samovar$Evening", "brew", "[I", true)
  | 3 => ("Samovar$Evening", "fire", "[I", true)
  | 4 => ("Samovar$Evening", "served", "[I", true)
  | 5 => ("Samovar$Evening", "waiting", "[I", true)
  | 6 => ("Samovar$Evening", "states", "[I", true)
  | 7 => ("Samovar$Evening", "glasses", "[I", true)
  | 8 => ("Samovar$Evening", "kettle", "LSamovar$Kettle;", true)
  | 9 => ("Samovar$Evening", "company", "LSamovar$Company;", true)
  | _ => ("Samovar$Evening", "boiled", "I", false)
def tyX2 : Nat → FieldType := fun k => match k with
  | 0 => .array .int
  | 1 => .array .int
  | 2 => .array .int
  | 3 => .array .int
  | 4 => .array .int
  | 5 => .array .int
  | 6 => .array .int
  | 7 => .array .int
  | 8 => .object "Samovar$Kettle"
  | 9 => .object "Samovar$Company"
  | _ => .int
theorem nmX2 : ∀ a, a < 11 → ∀ b, b < 11 → a ≠ b → (TX2 a).2.1 ≠ (TX2 b).2.1 := by decide +kernel
theorem tyX2_ok : ∀ k, k < 11 → parseFieldDescriptor (TX2 k).2.2.1 = some (tyX2 k) := by decide +kernel
set_option maxRecDepth 20000 in
theorem inX2 : ∀ w ∈ u_ws RX2 TX2 11, w ∈ am_all := am_inl [307, 309, 311, 313, 315, 317, 319, 321, 323, 325, 327] (by decide +kernel) (by decide +kernel)
def RX3 : String := "Samovar$Kettle"
def TX3 : u_T := fun k => match k with
  | 0 => ("Samovar$Kettle", "heat", "I", false)
  | 1 => ("Samovar$Kettle", "water", "I", false)
  | 2 => ("Samovar$Kettle", "brew", "I", false)
  | _ => ("Samovar$Kettle", "steamed", "I", false)
def tyX3 : Nat → FieldType := fun k => match k with
  | 0 => .int
  | 1 => .int
  | 2 => .int
  | _ => .int
theorem nmX3 : ∀ a, a < 4 → ∀ b, b < 4 → a ≠ b → (TX3 a).2.1 ≠ (TX3 b).2.1 := by decide +kernel
theorem tyX3_ok : ∀ k, k < 4 → parseFieldDescriptor (TX3 k).2.2.1 = some (tyX3 k) := by decide +kernel
set_option maxRecDepth 20000 in
theorem inX3 : ∀ w ∈ u_ws RX3 TX3 4, w ∈ am_all := am_inl [233, 235, 237, 239] (by decide +kernel) (by decide +kernel)
def RX4 : String := "Samovar$Plan"
def TX4 : u_T := fun k => match k with
  | 0 => ("Samovar$Plan", "fuel", "LSamovar$Entries;", true)
  | 1 => ("Samovar$Plan", "guests", "LSamovar$Entries;", true)
  | 2 => ("Samovar$Plan", "events", "LSamovar$Entries;", true)
  | 3 => ("Samovar$Plan", "water", "I", false)
  | 4 => ("Samovar$Plan", "brew", "I", false)
  | _ => ("Samovar$Plan", "left", "I", false)
def tyX4 : Nat → FieldType := fun k => match k with
  | 0 => .object "Samovar$Entries"
  | 1 => .object "Samovar$Entries"
  | 2 => .object "Samovar$Entries"
  | 3 => .int
  | 4 => .int
  | _ => .int
theorem nmX4 : ∀ a, a < 6 → ∀ b, b < 6 → a ≠ b → (TX4 a).2.1 ≠ (TX4 b).2.1 := by decide +kernel
theorem tyX4_ok : ∀ k, k < 6 → parseFieldDescriptor (TX4 k).2.2.1 = some (tyX4 k) := by decide +kernel
set_option maxRecDepth 20000 in
theorem inX4 : ∀ w ∈ u_ws RX4 TX4 6, w ∈ am_all := am_inl [198, 200, 202, 204, 206, 208] (by decide +kernel) (by decide +kernel)
def RX5 : String := "Samovar$Sheet"
def TX5 : u_T := fun k => match k with
  | 0 => ("Samovar$Sheet", "items", "[I", true)
  | 1 => ("Samovar$Sheet", "lost", "Z", false)
  | 2 => ("Samovar$Sheet", "form", "I", false)
  | _ => ("Samovar$Sheet", "size", "I", false)
def tyX5 : Nat → FieldType := fun k => match k with
  | 0 => .array .int
  | 1 => .boolean
  | 2 => .int
  | _ => .int
theorem nmX5 : ∀ a, a < 4 → ∀ b, b < 4 → a ≠ b → (TX5 a).2.1 ≠ (TX5 b).2.1 := by decide +kernel
theorem tyX5_ok : ∀ k, k < 4 → parseFieldDescriptor (TX5 k).2.2.1 = some (tyX5 k) := by decide +kernel
set_option maxRecDepth 20000 in
theorem inX5 : ∀ w ∈ u_ws RX5 TX5 4, w ∈ am_all := am_inl [373, 375, 377, 379] (by decide +kernel) (by decide +kernel)
def RX6 : String := "Samovar$Text"
def TX6 : u_T := fun k => match k with
  | 0 => ("Samovar$Text", "entries", "LSamovar$Entries;", true)
  | 1 => ("Samovar$Text", "bytes", "[I", true)
  | 2 => ("Samovar$Text", "kinds", "Ljava/lang/String;", true)
  | 3 => ("Samovar$Text", "mostFigure", "I", true)
  | 4 => ("Samovar$Text", "size", "I", false)
  | _ => ("Samovar$Text", "fault", "I", false)
def tyX6 : Nat → FieldType := fun k => match k with
  | 0 => .object "Samovar$Entries"
  | 1 => .array .int
  | 2 => .object "java/lang/String"
  | 3 => .int
  | 4 => .int
  | _ => .int
theorem nmX6 : ∀ a, a < 6 → ∀ b, b < 6 → a ≠ b → (TX6 a).2.1 ≠ (TX6 b).2.1 := by decide +kernel
theorem tyX6_ok : ∀ k, k < 6 → parseFieldDescriptor (TX6 k).2.2.1 = some (tyX6 k) := by decide +kernel
set_option maxRecDepth 20000 in
theorem inX6 : ∀ w ∈ u_ws RX6 TX6 6, w ∈ am_all := am_inl [158, 160, 162, 164, 166, 168] (by decide +kernel) (by decide +kernel)
def RX7 : String := "Samovar$Trials"
def TX7 : u_T := fun k => match k with
  | 0 => ("Samovar$Trials", "outcomes", "[J", true)
  | 1 => ("Samovar$Trials", "told", "LSamovar$Plan;", true)
  | 2 => ("Samovar$Trials", "other", "LSamovar$Plan;", true)
  | 3 => ("Samovar$Trials", "evening", "LSamovar$Evening;", true)
  | _ => ("Samovar$Trials", "empty", "Z", false)
def tyX7 : Nat → FieldType := fun k => match k with
  | 0 => .array .long
  | 1 => .object "Samovar$Plan"
  | 2 => .object "Samovar$Plan"
  | 3 => .object "Samovar$Evening"
  | _ => .boolean
theorem nmX7 : ∀ a, a < 5 → ∀ b, b < 5 → a ≠ b → (TX7 a).2.1 ≠ (TX7 b).2.1 := by decide +kernel
theorem tyX7_ok : ∀ k, k < 5 → parseFieldDescriptor (TX7 k).2.2.1 = some (tyX7 k) := by decide +kernel
set_option maxRecDepth 20000 in
theorem inX7 : ∀ w ∈ u_ws RX7 TX7 5, w ∈ am_all := am_inl [347, 349, 351, 353, 355] (by decide +kernel) (by decide +kernel)
def RX8 : String := "Samovar"
def TX8 : u_T := fun k => match k with
  | 0 => ("Samovar", "fuel", "LSamovar$Text;", true)
  | 1 => ("Samovar", "guests", "LSamovar$Text;", true)
  | 2 => ("Samovar", "events", "LSamovar$Entries;", true)
  | 3 => ("Samovar", "seen", "LSamovar$Entries;", true)
  | 4 => ("Samovar", "told", "LSamovar$Plan;", true)
  | 5 => ("Samovar", "evening", "LSamovar$Evening;", true)
  | 6 => ("Samovar", "trials", "LSamovar$Trials;", true)
  | 7 => ("Samovar", "sheet0", "LSamovar$Sheet;", true)
  | 8 => ("Samovar", "sheet1", "LSamovar$Sheet;", true)
  | 9 => ("Samovar", "sheet2", "LSamovar$Sheet;", true)
  | 10 => ("Samovar", "sheet3", "LSamovar$Sheet;", true)
  | 11 => ("Samovar", "eveningKnown", "Z", false)
  | _ => ("Samovar", "finding", "I", false)
def tyX8 : Nat → FieldType := fun k => match k with
  | 0 => .object "Samovar$Text"
  | 1 => .object "Samovar$Text"
  | 2 => .object "Samovar$Entries"
  | 3 => .object "Samovar$Entries"
  | 4 => .object "Samovar$Plan"
  | 5 => .object "Samovar$Evening"
  | 6 => .object "Samovar$Trials"
  | 7 => .object "Samovar$Sheet"
  | 8 => .object "Samovar$Sheet"
  | 9 => .object "Samovar$Sheet"
  | 10 => .object "Samovar$Sheet"
  | 11 => .boolean
  | _ => .int
theorem nmX8 : ∀ a, a < 13 → ∀ b, b < 13 → a ≠ b → (TX8 a).2.1 ≠ (TX8 b).2.1 := by decide +kernel
theorem tyX8_ok : ∀ k, k < 13 → parseFieldDescriptor (TX8 k).2.2.1 = some (tyX8 k) := by decide +kernel
set_option maxRecDepth 20000 in
theorem inX8 : ∀ w ∈ u_ws RX8 TX8 13, w ∈ am_all := am_inl [395, 397, 399, 401, 403, 405, 407, 409, 411, 413, 415, 417, 419] (by decide +kernel) (by decide +kernel)
def RX9 : String := "SamovarModel"
def TX9 : u_T := fun k => match k with
  | 0 => ("SamovarModel", "typed", "[I", true)
  | 1 => ("SamovarModel", "texts", "[I", true)
  | 2 => ("SamovarModel", "pieces", "I", false)
  | 3 => ("SamovarModel", "pieceAt", "[I", true)
  | 4 => ("SamovarModel", "pieceKind", "[I", true)
  | 5 => ("SamovarModel", "pieceMany", "[I", true)
  | 6 => ("SamovarModel", "guests", "I", false)
  | 7 => ("SamovarModel", "guestAt", "[I", true)
  | 8 => ("SamovarModel", "guestDark", "[I", true)
  | 9 => ("SamovarModel", "guestAll", "[I", true)
  | 10 => ("SamovarModel", "waterTold", "I", false)
  | 11 => ("SamovarModel", "brewTold", "I", false)
  | 12 => ("SamovarModel", "events", "I", false)
  | 13 => ("SamovarModel", "eventKind", "[I", true)
  | 14 => ("SamovarModel", "eventAt", "[I", true)
  | 15 => ("SamovarModel", "eventNumber", "[I", true)
  | 16 => ("SamovarModel", "guestsNow", "I", false)
  | 17 => ("SamovarModel", "comeNow", "[I", true)
  | 18 => ("SamovarModel", "darkNow", "[I", true)
  | 19 => ("SamovarModel", "allNow", "[I", true)
  | 20 => ("SamovarModel", "waterNow", "I", false)
  | 21 => ("SamovarModel", "notEvents", "I", false)
  | 22 => ("SamovarModel", "heat", "I", false)
  | 23 => ("SamovarModel", "water", "I", false)
  | 24 => ("SamovarModel", "brew", "I", false)
  | 25 => ("SamovarModel", "boot", "I", false)
  | 26 => ("SamovarModel", "steamed", "I", false)
  | 27 => ("SamovarModel", "boiled", "I", false)
  | 28 => ("SamovarModel", "firstBoil", "I", false)
  | 29 => ("SamovarModel", "lineMany", "I", false)
  | 30 => ("SamovarModel", "line", "[I", true)
  | 31 => ("SamovarModel", "state", "[I", true)
  | 32 => ("SamovarModel", "had", "[I", true)
  | 33 => ("SamovarModel", "backAt", "[I", true)
  | 34 => ("SamovarModel", "since", "[I", true)
  | 35 => ("SamovarModel", "waits", "[I", true)
  | 36 => ("SamovarModel", "tells", "[I", true)
  | 37 => ("SamovarModel", "lineAt", "[I", true)
  | 38 => ("SamovarModel", "stateAt", "[I", true)
  | 39 => ("SamovarModel", "hadAt", "[I", true)
  | 40 => ("SamovarModel", "bestNow", "I", false)
  | 41 => ("SamovarModel", "mostNow", "I", false)
  | 42 => ("SamovarModel", "planRow", "[I", true)
  | 43 => ("SamovarModel", "seens", "I", false)
  | 44 => ("SamovarModel", "seenAt", "[I", true)
  | 45 => ("SamovarModel", "seenIs", "[I", true)
  | 46 => ("SamovarModel", "boilsBy", "[I", true)
  | 47 => ("SamovarModel", "isThere", "[Z", true)
  | 48 => ("SamovarModel", "forms", "[I", true)
  | 49 => ("SamovarModel", "sizes", "[I", true)
  | 50 => ("SamovarModel", "items", "[I", true)
  | 51 => ("SamovarModel", "moved", "[I", true)
  | _ => ("SamovarModel", "finding", "I", false)
def tyX9 : Nat → FieldType := fun k => match k with
  | 0 => .array .int
  | 1 => .array .int
  | 2 => .int
  | 3 => .array .int
  | 4 => .array .int
  | 5 => .array .int
  | 6 => .int
  | 7 => .array .int
  | 8 => .array .int
  | 9 => .array .int
  | 10 => .int
  | 11 => .int
  | 12 => .int
  | 13 => .array .int
  | 14 => .array .int
  | 15 => .array .int
  | 16 => .int
  | 17 => .array .int
  | 18 => .array .int
  | 19 => .array .int
  | 20 => .int
  | 21 => .int
  | 22 => .int
  | 23 => .int
  | 24 => .int
  | 25 => .int
  | 26 => .int
  | 27 => .int
  | 28 => .int
  | 29 => .int
  | 30 => .array .int
  | 31 => .array .int
  | 32 => .array .int
  | 33 => .array .int
  | 34 => .array .int
  | 35 => .array .int
  | 36 => .array .int
  | 37 => .array .int
  | 38 => .array .int
  | 39 => .array .int
  | 40 => .int
  | 41 => .int
  | 42 => .array .int
  | 43 => .int
  | 44 => .array .int
  | 45 => .array .int
  | 46 => .array .int
  | 47 => .array .boolean
  | 48 => .array .int
  | 49 => .array .int
  | 50 => .array .int
  | 51 => .array .int
  | _ => .int
theorem nmX9 : ∀ a, a < 53 → ∀ b, b < 53 → a ≠ b → (TX9 a).2.1 ≠ (TX9 b).2.1 := by decide +kernel
theorem tyX9_ok : ∀ k, k < 53 → parseFieldDescriptor (TX9 k).2.2.1 = some (tyX9 k) := by decide +kernel
set_option maxRecDepth 20000 in
theorem inX9 : ∀ w ∈ u_ws RX9 TX9 53, w ∈ am_all := am_inl [1015, 1017, 1019, 1021, 1023, 1025, 1027, 1029, 1031, 1033, 1035, 1037, 1039, 1041, 1043, 1045, 1047, 1049, 1051, 1053, 1055, 1057, 1059, 1061, 1063, 1065, 1067, 1069, 1071, 1073, 1075, 1077, 1079, 1081, 1083, 1085, 1087, 1089, 1091, 1093, 1095, 1097, 1099, 1101, 1103, 1105, 1107, 1109, 1111, 1113, 1115, 1117, 1119] (by decide +kernel) (by decide +kernel)
abbrev am_cl : List vw_C := [(RX0, TX0, 9), (RX1, TX1, 4), (RX2, TX2, 11), (RX3, TX3, 4), (RX4, TX4, 6), (RX5, TX5, 4), (RX6, TX6, 6), (RX7, TX7, 5), (RX8, TX8, 13), (RX9, TX9, 53)]
end
section
/-! THE ABSTRACT MACHINE. A world of a fixed shape: cells 0 .. 108 (their fields that are references never change behind the constructors), constants 200 .. 206 that nobody writes. What changes is AH: int fields by cell and slot, int arrays by cell, long arrays by cell. References are numbers of cells. -/
abbrev AH : Type := (Nat → Nat → Int32) × (Nat → Nat → Int32) × (Nat → Nat → Int64)
abbrev LV : Type := List (Nat × Value)
abbrev AS : Type := Nat × LV × List Value × AH
/-- a cell's shape: an array (kind 0 int, 1 long, 2 boolean; length), or an object (its kind, its fields that are references) -/
abbrev SP : Type := (Nat × Nat) ⊕ (Nat × List (Option Nat))
/-- a row of code: pc, instruction, target or place of a word, numbers, keys with targets, a long -/
abbrev RW : Type := Nat × Jvm.ClassFile.Instr × Nat × List Nat × List (Int32 × Nat) × Int64
/-- a method: whose it is, parameters, name, bytes, locals, return type, frames below, words of locals below, rows -/
abbrev MR : Type := Nat × Nat × MethodName × ByteArray × Nat × Option FieldType × Nat × Nat × List RW
abbrev mr_o (R : MR) : Nat := R.1
abbrev mr_n (R : MR) : Nat := R.2.1
abbrev mr_y (R : MR) : MethodName := R.2.2.1
abbrev mr_b (R : MR) : ByteArray := R.2.2.2.1
abbrev mr_L (R : MR) : Nat := R.2.2.2.2.1
abbrev mr_r (R : MR) : Option FieldType := R.2.2.2.2.2.1
abbrev mr_f (R : MR) : Nat := R.2.2.2.2.2.2.1
abbrev mr_w (R : MR) : Nat := R.2.2.2.2.2.2.2.1
abbrev mr_c (R : MR) : List RW := R.2.2.2.2.2.2.2.2
/-- what a step may be: the next state, a return, a call (callee, its arguments, what stays below) -/
abbrev ACT : Type := AS ⊕ (Option Value ⊕ (MR × List Value × List Value))
def am_sf (h : AH) (i k : Nat) (v : Int32) : AH := (fun a b => if a = i then (if b = k then v else h.1 a b) else h.1 a b, h.2)
def am_sa (h : AH) (i : Nat) (g : Nat → Int32) : AH := (h.1, fun a => if a = i then g else h.2.1 a, h.2.2)
def am_sl (h : AH) (i : Nat) (g : Nat → Int64) : AH := (h.1, h.2.1, fun a => if a = i then g else h.2.2 a)
def am_in (i : Int32) (n : Nat) : Bool := !(decide (i < 0)) && decide (i.toNatClampNeg < n)
theorem am_in_vp {i : Int32} {n : Nat} (h : am_in i n = true) : vp_in i n := by
  simp only [am_in, Bool.and_eq_true, Bool.not_eq_true', decide_eq_false_iff_not, decide_eq_true_eq] at h
  rintro (q | q)
  · exact h.1 q
  · omega
def am_get : LV → Nat → Option Value
  | [], _ => none
  | q :: l, i => bif Nat.beq q.1 i then some q.2 else am_get l i
theorem am_get_mem : ∀ {l : LV} {i : Nat} {v : Value}, am_get l i = some v → (i, v) ∈ l
  | [], _, _, h => by cases h
  | (j, w) :: l, i, v, h => by
    unfold am_get at h
    cases hq : Nat.beq j i with
    | true =>
      simp only [hq, cond_true, Option.some.injEq] at h
      rw [← Nat.eq_of_beq_eq_true hq, ← h]
      exact List.mem_cons_self
    | false =>
      simp only [hq, cond_false] at h
      exact List.mem_cons_of_mem _ (am_get_mem h)
def am_st1 (lv : LV) (i : Nat) (v : Value) : LV := (i, v) :: lv.filter (fun q => !(q.1 == i) && !(q.1 + 1 == i && q.2.category == 2))
def am_st2 (lv : LV) (i : Nat) (v : Value) : LV := (i, v) :: lv.filter (fun q => !(q.1 == i) && (!(q.1 == i + 1) && !(q.1 + 1 == i && q.2.category == 2)))
def am_row : List RW → Nat → Option (Jvm.ClassFile.Instr × Nat × List Nat × List (Int32 × Nat) × Int64)
  | [], _ => none
  | r :: l, pc => bif Nat.beq r.1 pc then some r.2 else am_row l pc
theorem am_row_mem : ∀ {c : List RW} {pc : Nat} {r : Jvm.ClassFile.Instr × Nat × List Nat × List (Int32 × Nat) × Int64}, am_row c pc = some r → (pc, r) ∈ c
  | [], _, _, h => by cases h
  | (j, w) :: l, i, v, h => by
    unfold am_row at h
    cases hq : Nat.beq j i with
    | true =>
      simp only [hq, cond_true, Option.some.injEq] at h
      rw [← Nat.eq_of_beq_eq_true hq, ← h]
      exact List.mem_cons_self
    | false =>
      simp only [hq, cond_false] at h
      exact List.mem_cons_of_mem _ (am_row_mem h)
/-- an instruction's length, but for the switches -/
def am_len : Jvm.ClassFile.Instr → Nat
  | .bipush _ | .iload _ | .istore _ | .aload _ | .astore _ | .lload _ | .lstore _ | .ldc _ => 2
  | .sipush _ | .iinc _ _ | .getfield _ | .putfield _ | .getstatic _ | .invokestatic _ | .invokevirtual _ | .goto _ | .if_icmp _ _ | .ifCond _ _ | .ifnull _ | .ifnonnull _ | .ldc_w _ | .ldc2_w _ => 3
  | _ => 1
def am_sel (x : Int32) : List (Int32 × Nat) → Nat → Nat
  | [], d => d
  | q :: l, d => if x = q.1 then q.2 else am_sel x l d
def am_cmp : Jvm.ClassFile.Cond → Int32 → Int32 → Bool
  | .eq, x, y => decide (x = y)
  | .ne, x, y => decide (¬ x = y)
  | .lt, x, y => decide (x < y)
  | .ge, x, y => decide (y ≤ x)
  | .gt, x, y => decide (y < x)
  | .le, x, y => decide (x ≤ y)
def am_isInt : Value → Bool | .int _ => true | _ => false
def am_isLong : Value → Bool | .long _ => true | _ => false
def am_isRef : Value → Bool | .ref _ => true | .null => true | _ => false
def am_cat (st : List Value) : Nat := (st.map fun v => v.category).sum
/-- constants that nobody writes -/
def am_roI (sc : Option (Nat × (Nat → Int32))) (a : Nat) : Option (Nat × (Nat → Int32)) := match a with
  | 202 => some (3, fun j => [3, 5, 9].getD j 0)
  | 203 => some (3, fun j => [3, 4, 3].getD j 0)
  | 206 => sc
  | _ => none
def am_roB (a : Nat) : Option (Nat × (Nat → Int32)) := match a with
  | 204 => some (3, fun j => [107, 98, 99].getD j 0)
  | 205 => some (2, fun j => [119, 100].getD j 0)
  | _ => none
end
section
/-! the shape of the world, the methods, their links: printed by program -/
def am_shp : List SP := [.inr (8, [some 1, some 7, some 13, some 17, some 21, some 22, some 37, some 67, some 69, some 71, some 73, none, none]), .inr (6, [some 2, some 6, some 200, none, none, none]), .inr (1, [some 3, some 4, some 5, none]), .inl (0, 8), .inl (0, 8), .inl (0, 8), .inl (0, 31), .inr (6, [some 8, some 12, some 201, none, none, none]), .inr (1, [some 9, some 10, some 11, none]), .inl (0, 8), .inl (0, 8), .inl (0, 8), .inl (0, 31), .inr (1, [some 14, some 15, some 16, none]), .inl (0, 8), .inl (0, 8), .inl (0, 8), .inr (1, [some 18, some 19, some 20, none]), .inl (0, 8), .inl (0, 8), .inl (0, 8), .inr (4, [some 2, some 8, some 13, none, none, none]), .inr (2, [some 23, some 24, some 25, some 26, some 27, some 28, some 29, some 30, some 31, some 32, none]), .inl (0, 24), .inl (0, 24), .inl (0, 24), .inl (0, 24), .inl (0, 24), .inl (0, 24), .inl (0, 192), .inl (0, 192), .inr (3, [none, none, none, none]), .inr (0, [some 33, some 34, some 35, some 36, none, none, none, none, none]), .inl (0, 8), .inl (0, 8), .inl (0, 8), .inl (0, 8), .inr (7, [some 38, some 21, some 39, some 52, none]), .inl (1, 503), .inr (4, [some 40, some 44, some 48, none, none, none]), .inr (1, [some 41, some 42, some 43, none]), .inl (0, 8), .inl (0, 8), .inl (0, 8), .inr (1, [some 45, some 46, some 47, none]), .inl (0, 8), .inl (0, 8), .inl (0, 8), .inr (1, [some 49, some 50, some 51, none]), .inl (0, 8), .inl (0, 8), .inl (0, 8), .inr (2, [some 53, some 54, some 55, some 56, some 57, some 58, some 59, some 60, some 61, some 62, none]), .inl (0, 24), .inl (0, 24), .inl (0, 24), .inl (0, 24), .inl (0, 24), .inl (0, 24), .inl (0, 192), .inl (0, 192), .inr (3, [none, none, none, none]), .inr (0, [some 63, some 64, some 65, some 66, none, none, none, none, none]), .inl (0, 8), .inl (0, 8), .inl (0, 8), .inl (0, 8), .inr (5, [some 68, none, none, none]), .inl (0, 60), .inr (5, [some 70, none, none, none]), .inl (0, 60), .inr (5, [some 72, none, none, none]), .inl (0, 60), .inr (5, [some 74, none, none, none]), .inl (0, 60), .inr (9, [some 76, some 77, none, some 78, some 79, some 80, none, some 81, some 82, some 83, none, none, none, some 84, some 85, some 86, none, some 87, some 88, some 89, none, none, none, none, none, none, none, none, none, none, some 90, some 91, some 92, some 93, some 94, some 95, some 96, some 97, some 98, some 99, none, none, some 100, none, some 101, some 102, some 103, some 104, some 105, some 106, some 107, some 108, none]), .inl (0, 2), .inl (0, 62), .inl (0, 9), .inl (0, 9), .inl (0, 9), .inl (0, 9), .inl (0, 9), .inl (0, 9), .inl (0, 8), .inl (0, 8), .inl (0, 8), .inl (0, 8), .inl (0, 8), .inl (0, 8), .inl (0, 8), .inl (0, 8), .inl (0, 8), .inl (0, 8), .inl (0, 8), .inl (0, 8), .inl (0, 144), .inl (0, 24), .inl (0, 192), .inl (0, 192), .inl (0, 2), .inl (0, 8), .inl (0, 8), .inl (0, 24), .inl (2, 4), .inl (0, 4), .inl (0, 4), .inl (0, 240), .inl (0, 60)]
def am_cn : Nat → String := fun o => (["Samovar$Company", "Samovar$Entries", "Samovar$Evening", "Samovar$Kettle", "Samovar$Plan", "Samovar$Sheet", "Samovar$Text", "Samovar$Trials", "Samovar", "SamovarModel", "java/lang/String", "java/lang/StringLatin1", "java/lang/Math", "java/lang/Integer", "java/util/Arrays", "SamovarLaw"] : List String).getD o ""
def mr_X8_textAt : MR := (8, 1, ⟨"Samovar", "textAt", "(I)LSamovar$Text;"⟩, prog_1_method_42_code, 2, (Option.some (Jvm.ClassFile.FieldType.object "Samovar$Text")), 0, 0, [(0, .iload_n 1, 0, [], [], 0),
  (1, .lookupswitch 37 #[(0, 27), (1, 32)], 38, [], [(0, 28), (1, 33)], 0),
  (28, .aload_n 0, 0, [], [], 0),
  (29, .getfield 16, 0, [8, 0, 382, 0], [], 0),
  (32, .areturn, 0, [], [], 0),
  (33, .aload_n 0, 0, [], [], 0),
  (34, .getfield 22, 0, [8, 1, 383, 0], [], 0),
  (37, .areturn, 0, [], [], 0),
  (38, .aconst_null, 0, [], [], 0),
  (39, .areturn, 0, [], [], 0)])
def mr_X8_within : MR := (8, 2, ⟨"Samovar", "within", "(II)Z"⟩, prog_1_method_40_code, 2, (Option.some Jvm.ClassFile.FieldType.boolean), 0, 0, [(0, .iload_n 0, 0, [], [], 0),
  (1, .ifCond .lt 12, 13, [], [], 0),
  (4, .iload_n 0, 0, [], [], 0),
  (5, .iload_n 1, 0, [], [], 0),
  (6, .if_icmp .gt 7, 13, [], [], 0),
  (9, .iconst 1, 0, [], [(1, 0)], 0),
  (10, .goto 4, 14, [], [], 0),
  (13, .iconst 0, 0, [], [(0, 0)], 0),
  (14, .ireturn, 0, [], [], 0)])
def mr_J10_isLatin1 : MR := (10, 0, ⟨"java/lang/String", "isLatin1", "()Z"⟩, prog_15_method_154_code, 1, (Option.some Jvm.ClassFile.FieldType.boolean), 0, 0, [(0, .getstatic 38, 0, [0, 461], [], 0),
  (3, .ifCond .eq 14, 17, [], [], 0),
  (6, .aload_n 0, 0, [], [], 0),
  (7, .getfield 15, 0, [100, 0, 1520], [], 0),
  (10, .ifCond .ne 7, 17, [], [], 0),
  (13, .iconst 1, 0, [], [(1, 0)], 0),
  (14, .goto 4, 18, [], [], 0),
  (17, .iconst 0, 0, [], [(0, 0)], 0),
  (18, .ireturn, 0, [], [], 0)])
def mr_J10_coder : MR := (10, 0, ⟨"java/lang/String", "coder", "()B"⟩, prog_15_method_152_code, 1, (Option.some Jvm.ClassFile.FieldType.byte), 0, 0, [(0, .getstatic 38, 0, [0, 461], [], 0),
  (3, .ifCond .eq 10, 13, [], [], 0),
  (6, .aload_n 0, 0, [], [], 0),
  (7, .getfield 15, 0, [100, 0, 1520], [], 0),
  (10, .goto 4, 14, [], [], 0),
  (13, .iconst 1, 0, [], [(1, 0)], 0),
  (14, .ireturn, 0, [], [], 0)])
def mr_J10_length : MR := (10, 0, ⟨"java/lang/String", "length", "()I"⟩, prog_15_method_54_code, 1, (Option.some Jvm.ClassFile.FieldType.int), 1, 20, [(0, .aload_n 0, 0, [], [], 0),
  (1, .getfield 9, 0, [100, 1, 1521], [], 0),
  (4, .arraylength, 0, [], [], 0),
  (5, .aload_n 0, 0, [], [], 0),
  (6, .invokevirtual 335, 0, [0], [], 0),
  (9, .ishr, 0, [], [], 0),
  (10, .ireturn, 0, [], [], 0)])
def mr_J11_canEncode : MR := (11, 1, ⟨"java/lang/StringLatin1", "canEncode", "(I)Z"⟩, prog_16_method_4_code, 1, (Option.some Jvm.ClassFile.FieldType.boolean), 0, 0, [(0, .iload_n 0, 0, [], [], 0),
  (1, .ifCond .lt 14, 15, [], [], 0),
  (4, .iload_n 0, 0, [], [], 0),
  (5, .sipush 255, 0, [], [(255, 0)], 0),
  (8, .if_icmp .gt 7, 15, [], [], 0),
  (11, .iconst 1, 0, [], [(1, 0)], 0),
  (12, .goto 4, 16, [], [], 0),
  (15, .iconst 0, 0, [], [(0, 0)], 0),
  (16, .ireturn, 0, [], [], 0)])
def mr_J11_indexOfChar : MR := (11, 4, ⟨"java/lang/StringLatin1", "indexOfChar", "([BIII)I"⟩, prog_16_method_23_code, 6, (Option.some Jvm.ClassFile.FieldType.int), 0, 0, [(0, .iload_n 1, 0, [], [], 0),
  (1, .i2b, 0, [], [], 0),
  (2, .istore 4, 0, [], [], 0),
  (4, .iload_n 2, 0, [], [], 0),
  (5, .istore 5, 0, [], [], 0),
  (7, .iload 5, 0, [], [], 0),
  (9, .iload_n 3, 0, [], [], 0),
  (10, .if_icmp .ge 21, 31, [], [], 0),
  (13, .aload_n 0, 0, [], [], 0),
  (14, .iload 5, 0, [], [], 0),
  (16, .baload, 0, [], [], 0),
  (17, .iload 4, 0, [], [], 0),
  (19, .if_icmp .ne 6, 25, [], [], 0),
  (22, .iload 5, 0, [], [], 0),
  (24, .ireturn, 0, [], [], 0),
  (25, .iinc 5 1, 0, [], [(1, 0)], 0),
  (28, .goto (-21), 7, [], [], 0),
  (31, .iconst (-1), 0, [], [((-1), 0)], 0),
  (32, .ireturn, 0, [], [], 0)])
def mr_J11_indexOf : MR := (11, 4, ⟨"java/lang/StringLatin1", "indexOf", "([BIII)I"⟩, prog_16_method_22_code, 4, (Option.some Jvm.ClassFile.FieldType.int), 1, 25, [(0, .iload_n 1, 0, [], [], 0),
  (1, .invokestatic 88, 0, [0], [], 0),
  (4, .ifCond .ne 5, 9, [], [], 0),
  (7, .iconst (-1), 0, [], [((-1), 0)], 0),
  (8, .ireturn, 0, [], [], 0),
  (9, .iload_n 2, 0, [], [], 0),
  (10, .iconst 0, 0, [], [(0, 0)], 0),
  (11, .invokestatic 92, 0, [2, 477], [], 0),
  (14, .istore_n 2, 0, [], [], 0),
  (15, .iload_n 3, 0, [], [], 0),
  (16, .aload_n 0, 0, [], [], 0),
  (17, .arraylength, 0, [], [], 0),
  (18, .invokestatic 38, 0, [3, 480], [], 0),
  (21, .istore_n 3, 0, [], [], 0),
  (22, .iload_n 2, 0, [], [], 0),
  (23, .iload_n 3, 0, [], [], 0),
  (24, .if_icmp .lt 5, 29, [], [], 0),
  (27, .iconst (-1), 0, [], [((-1), 0)], 0),
  (28, .ireturn, 0, [], [], 0),
  (29, .aload_n 0, 0, [], [], 0),
  (30, .iload_n 1, 0, [], [], 0),
  (31, .iload_n 2, 0, [], [], 0),
  (32, .iload_n 3, 0, [], [], 0),
  (33, .invokestatic 95, 0, [0], [], 0),
  (36, .ireturn, 0, [], [], 0)])
def mr_J10_indexOf_2 : MR := (10, 2, ⟨"java/lang/String", "indexOf", "(II)I"⟩, prog_15_method_80_code, 3, (Option.some Jvm.ClassFile.FieldType.int), 2, 48, [(0, .aload_n 0, 0, [], [], 0),
  (1, .invokevirtual 492, 0, [0], [], 0),
  (4, .ifCond .eq 19, 23, [], [], 0),
  (7, .aload_n 0, 0, [], [], 0),
  (8, .getfield 9, 0, [100, 1, 1521], [], 0),
  (11, .iload_n 1, 0, [], [], 0),
  (12, .iload_n 2, 0, [], [], 0),
  (13, .aload_n 0, 0, [], [], 0),
  (14, .invokevirtual 505, 0, [0], [], 0),
  (17, .invokestatic 637, 0, [0], [], 0),
  (20, .goto 16, 36, [], [], 0),
  (23, .aload_n 0, 0, [], [], 0),
  (24, .getfield 9, 0, [100, 1, 1521], [], 0),
  (27, .iload_n 1, 0, [], [], 0),
  (28, .iload_n 2, 0, [], [], 0),
  (29, .aload_n 0, 0, [], [], 0),
  (30, .invokevirtual 505, 0, [0], [], 0),
  (33, .invokestatic 640, 0, [0], [], 0),
  (36, .ireturn, 0, [], [], 0)])
def mr_J10_indexOf_1 : MR := (10, 1, ⟨"java/lang/String", "indexOf", "(I)I"⟩, prog_15_method_79_code, 2, (Option.some Jvm.ClassFile.FieldType.int), 3, 70, [(0, .aload_n 0, 0, [], [], 0),
  (1, .iload_n 1, 0, [], [], 0),
  (2, .iconst 0, 0, [], [(0, 0)], 0),
  (3, .invokevirtual 633, 0, [0], [], 0),
  (6, .ireturn, 0, [], [], 0)])
def mr_X6_fits : MR := (6, 2, ⟨"Samovar$Text", "fits", "(II)Z"⟩, prog_8_method_6_code, 3, (Option.some Jvm.ClassFile.FieldType.boolean), 4, 91, [(0, .iload_n 1, 0, [], [], 0),
  (1, .tableswitch 98 0 2 #[27, 57, 75], 99, [], [(0, 28), (1, 58), (2, 76)], 0),
  (28, .aload_n 0, 0, [], [], 0),
  (29, .getfield 12, 0, [6, 0, 149, 0], [], 0),
  (32, .getfield 39, 0, [1, 3, 135, 0], [], 0),
  (35, .bipush 8, 0, [], [(8, 0)], 0),
  (37, .if_icmp .ge 19, 56, [], [], 0),
  (40, .iload_n 2, 0, [], [], 0),
  (41, .bipush 97, 0, [], [(97, 0)], 0),
  (43, .if_icmp .lt 13, 56, [], [], 0),
  (46, .iload_n 2, 0, [], [], 0),
  (47, .bipush 120, 0, [], [(120, 0)], 0),
  (49, .if_icmp .gt 7, 56, [], [], 0),
  (52, .iconst 1, 0, [], [(1, 0)], 0),
  (53, .goto 4, 57, [], [], 0),
  (56, .iconst 0, 0, [], [(0, 0)], 0),
  (57, .ireturn, 0, [], [], 0),
  (58, .aload_n 0, 0, [], [], 0),
  (59, .getfield 26, 0, [6, 2, 152, 0], [], 0),
  (62, .iload_n 2, 0, [], [], 0),
  (63, .i2c, 0, [], [], 0),
  (64, .invokevirtual 48, 0, [0], [], 0),
  (67, .ifCond .lt 7, 74, [], [], 0),
  (70, .iconst 1, 0, [], [(1, 0)], 0),
  (71, .goto 4, 75, [], [], 0),
  (74, .iconst 0, 0, [], [(0, 0)], 0),
  (75, .ireturn, 0, [], [], 0),
  (76, .iload_n 2, 0, [], [], 0),
  (77, .bipush 49, 0, [], [(49, 0)], 0),
  (79, .if_icmp .lt 18, 97, [], [], 0),
  (82, .iload_n 2, 0, [], [], 0),
  (83, .bipush 48, 0, [], [(48, 0)], 0),
  (85, .aload_n 0, 0, [], [], 0),
  (86, .getfield 30, 0, [6, 3, 153, 0], [], 0),
  (89, .iadd, 0, [], [], 0),
  (90, .if_icmp .gt 7, 97, [], [], 0),
  (93, .iconst 1, 0, [], [(1, 0)], 0),
  (94, .goto 4, 98, [], [], 0),
  (97, .iconst 0, 0, [], [(0, 0)], 0),
  (98, .ireturn, 0, [], [], 0),
  (99, .iload_n 2, 0, [], [], 0),
  (100, .bipush 59, 0, [], [(59, 0)], 0),
  (102, .if_icmp .ne 7, 109, [], [], 0),
  (105, .iconst 1, 0, [], [(1, 0)], 0),
  (106, .goto 4, 110, [], [], 0),
  (109, .iconst 0, 0, [], [(0, 0)], 0),
  (110, .ireturn, 0, [], [], 0)])
def mr_X1_add : MR := (1, 3, ⟨"Samovar$Entries", "add", "(III)V"⟩, prog_3_method_3_code, 4, (Option.none : Option Jvm.ClassFile.FieldType), 0, 0, [(0, .aload_n 0, 0, [], [], 0),
  (1, .getfield 21, 0, [1, 3, 131, 0], [], 0),
  (4, .ifCond .lt 12, 16, [], [], 0),
  (7, .aload_n 0, 0, [], [], 0),
  (8, .getfield 21, 0, [1, 3, 131, 0], [], 0),
  (11, .bipush 8, 0, [], [(8, 0)], 0),
  (13, .if_icmp .lt 4, 17, [], [], 0),
  (16, .return_, 0, [], [], 0),
  (17, .aload_n 0, 0, [], [], 0),
  (18, .getfield 9, 0, [1, 0, 115, 0], [], 0),
  (21, .aload_n 0, 0, [], [], 0),
  (22, .getfield 21, 0, [1, 3, 131, 0], [], 0),
  (25, .iload_n 1, 0, [], [], 0),
  (26, .iastore, 0, [], [], 0),
  (27, .aload_n 0, 0, [], [], 0),
  (28, .getfield 15, 0, [1, 1, 121, 0], [], 0),
  (31, .aload_n 0, 0, [], [], 0),
  (32, .getfield 21, 0, [1, 3, 131, 0], [], 0),
  (35, .iload_n 2, 0, [], [], 0),
  (36, .iastore, 0, [], [], 0),
  (37, .aload_n 0, 0, [], [], 0),
  (38, .getfield 18, 0, [1, 2, 127, 0], [], 0),
  (41, .aload_n 0, 0, [], [], 0),
  (42, .getfield 21, 0, [1, 3, 131, 0], [], 0),
  (45, .iload_n 3, 0, [], [], 0),
  (46, .iastore, 0, [], [], 0),
  (47, .aload_n 0, 0, [], [], 0),
  (48, .dup, 0, [], [], 0),
  (49, .getfield 21, 0, [1, 3, 131, 0], [], 0),
  (52, .iconst 1, 0, [], [(1, 0)], 0),
  (53, .iadd, 0, [], [], 0),
  (54, .putfield 21, 0, [1, 3, 131, 0], [], 0),
  (57, .return_, 0, [], [], 0)])
def mr_X6_firstFault : MR := (6, 0, ⟨"Samovar$Text", "firstFault", "()I"⟩, prog_8_method_5_code, 2, (Option.some Jvm.ClassFile.FieldType.int), 5, 113, [(0, .iconst 0, 0, [], [(0, 0)], 0),
  (1, .istore_n 1, 0, [], [], 0),
  (2, .iload_n 1, 0, [], [], 0),
  (3, .aload_n 0, 0, [], [], 0),
  (4, .getfield 33, 0, [6, 4, 154, 0], [], 0),
  (7, .if_icmp .ge 88, 95, [], [], 0),
  (10, .iload_n 1, 0, [], [], 0),
  (11, .bipush 31, 0, [], [(31, 0)], 0),
  (13, .if_icmp .ge 82, 95, [], [], 0),
  (16, .aload_n 0, 0, [], [], 0),
  (17, .iload_n 1, 0, [], [], 0),
  (18, .iconst 4, 0, [], [(4, 0)], 0),
  (19, .irem, 0, [], [], 0),
  (20, .aload_n 0, 0, [], [], 0),
  (21, .getfield 18, 0, [6, 1, 151, 0], [], 0),
  (24, .iload_n 1, 0, [], [], 0),
  (25, .iaload, 0, [], [], 0),
  (26, .invokevirtual 44, 0, [0], [], 0),
  (29, .ifCond .ne 5, 34, [], [], 0),
  (32, .iload_n 1, 0, [], [], 0),
  (33, .ireturn, 0, [], [], 0),
  (34, .iload_n 1, 0, [], [], 0),
  (35, .iconst 4, 0, [], [(4, 0)], 0),
  (36, .irem, 0, [], [], 0),
  (37, .iconst 2, 0, [], [(2, 0)], 0),
  (38, .if_icmp .ne 51, 89, [], [], 0),
  (41, .iload_n 1, 0, [], [], 0),
  (42, .iconst 2, 0, [], [(2, 0)], 0),
  (43, .if_icmp .lt 46, 89, [], [], 0),
  (46, .aload_n 0, 0, [], [], 0),
  (47, .getfield 12, 0, [6, 0, 149, 0], [], 0),
  (50, .aload_n 0, 0, [], [], 0),
  (51, .getfield 18, 0, [6, 1, 151, 0], [], 0),
  (54, .iload_n 1, 0, [], [], 0),
  (55, .iconst 2, 0, [], [(2, 0)], 0),
  (56, .isub, 0, [], [], 0),
  (57, .iaload, 0, [], [], 0),
  (58, .bipush 97, 0, [], [(97, 0)], 0),
  (60, .isub, 0, [], [], 0),
  (61, .aload_n 0, 0, [], [], 0),
  (62, .getfield 26, 0, [6, 2, 152, 0], [], 0),
  (65, .aload_n 0, 0, [], [], 0),
  (66, .getfield 18, 0, [6, 1, 151, 0], [], 0),
  (69, .iload_n 1, 0, [], [], 0),
  (70, .iconst 1, 0, [], [(1, 0)], 0),
  (71, .isub, 0, [], [], 0),
  (72, .iaload, 0, [], [], 0),
  (73, .i2c, 0, [], [], 0),
  (74, .invokevirtual 48, 0, [0], [], 0),
  (77, .aload_n 0, 0, [], [], 0),
  (78, .getfield 18, 0, [6, 1, 151, 0], [], 0),
  (81, .iload_n 1, 0, [], [], 0),
  (82, .iaload, 0, [], [], 0),
  (83, .bipush 48, 0, [], [(48, 0)], 0),
  (85, .isub, 0, [], [], 0),
  (86, .invokevirtual 54, 0, [0], [], 0),
  (89, .iinc 1 1, 0, [], [(1, 0)], 0),
  (92, .goto (-90), 2, [], [], 0),
  (95, .aload_n 0, 0, [], [], 0),
  (96, .getfield 33, 0, [6, 4, 154, 0], [], 0),
  (99, .iconst 4, 0, [], [(4, 0)], 0),
  (100, .irem, 0, [], [], 0),
  (101, .iconst 3, 0, [], [(3, 0)], 0),
  (102, .if_icmp .ne 7, 109, [], [], 0),
  (105, .iconst (-1), 0, [], [((-1), 0)], 0),
  (106, .goto 7, 113, [], [], 0),
  (109, .aload_n 0, 0, [], [], 0),
  (110, .getfield 33, 0, [6, 4, 154, 0], [], 0),
  (113, .ireturn, 0, [], [], 0)])
def mr_X6_scan : MR := (6, 0, ⟨"Samovar$Text", "scan", "()V"⟩, prog_8_method_4_code, 1, (Option.none : Option Jvm.ClassFile.FieldType), 6, 134, [(0, .aload_n 0, 0, [], [], 0),
  (1, .getfield 12, 0, [6, 0, 149, 0], [], 0),
  (4, .iconst 0, 0, [], [(0, 0)], 0),
  (5, .putfield 39, 0, [1, 3, 135, 0], [], 0),
  (8, .aload_n 0, 0, [], [], 0),
  (9, .aload_n 0, 0, [], [], 0),
  (10, .getfield 33, 0, [6, 4, 154, 0], [], 0),
  (13, .ifCond .ne 7, 20, [], [], 0),
  (16, .iconst (-1), 0, [], [((-1), 0)], 0),
  (17, .goto 7, 24, [], [], 0),
  (20, .aload_n 0, 0, [], [], 0),
  (21, .invokevirtual 40, 0, [0], [], 0),
  (24, .putfield 22, 0, [6, 5, 156, 0], [], 0),
  (27, .aload_n 0, 0, [], [], 0),
  (28, .getfield 22, 0, [6, 5, 156, 0], [], 0),
  (31, .iconst (-1), 0, [], [((-1), 0)], 0),
  (32, .if_icmp .eq 11, 43, [], [], 0),
  (35, .aload_n 0, 0, [], [], 0),
  (36, .getfield 12, 0, [6, 0, 149, 0], [], 0),
  (39, .iconst 0, 0, [], [(0, 0)], 0),
  (40, .putfield 39, 0, [1, 3, 135, 0], [], 0),
  (43, .return_, 0, [], [], 0)])
def mr_X6_append : MR := (6, 1, ⟨"Samovar$Text", "append", "(I)V"⟩, prog_8_method_2_code, 2, (Option.none : Option Jvm.ClassFile.FieldType), 7, 154, [(0, .aload_n 0, 0, [], [], 0),
  (1, .getfield 33, 0, [6, 4, 154, 0], [], 0),
  (4, .ifCond .lt 12, 16, [], [], 0),
  (7, .aload_n 0, 0, [], [], 0),
  (8, .getfield 33, 0, [6, 4, 154, 0], [], 0),
  (11, .bipush 31, 0, [], [(31, 0)], 0),
  (13, .if_icmp .lt 4, 17, [], [], 0),
  (16, .return_, 0, [], [], 0),
  (17, .aload_n 0, 0, [], [], 0),
  (18, .getfield 18, 0, [6, 1, 151, 0], [], 0),
  (21, .aload_n 0, 0, [], [], 0),
  (22, .getfield 33, 0, [6, 4, 154, 0], [], 0),
  (25, .iload_n 1, 0, [], [], 0),
  (26, .iastore, 0, [], [], 0),
  (27, .aload_n 0, 0, [], [], 0),
  (28, .dup, 0, [], [], 0),
  (29, .getfield 33, 0, [6, 4, 154, 0], [], 0),
  (32, .iconst 1, 0, [], [(1, 0)], 0),
  (33, .iadd, 0, [], [], 0),
  (34, .putfield 33, 0, [6, 4, 154, 0], [], 0),
  (37, .aload_n 0, 0, [], [], 0),
  (38, .invokevirtual 36, 0, [0], [], 0),
  (41, .return_, 0, [], [], 0)])
def mr_J14_fill_J : MR := (14, 2, ⟨"java/util/Arrays", "fill", "([JJ)V"⟩, prog_19_method_101_code, 5, (Option.none : Option Jvm.ClassFile.FieldType), 0, 0, [(0, .iconst 0, 0, [], [(0, 0)], 0),
  (1, .istore_n 3, 0, [], [], 0),
  (2, .aload_n 0, 0, [], [], 0),
  (3, .arraylength, 0, [], [], 0),
  (4, .istore 4, 0, [], [], 0),
  (6, .iload_n 3, 0, [], [], 0),
  (7, .iload 4, 0, [], [], 0),
  (9, .if_icmp .ge 13, 22, [], [], 0),
  (12, .aload_n 0, 0, [], [], 0),
  (13, .iload_n 3, 0, [], [], 0),
  (14, .lload_n 1, 0, [], [], 0),
  (15, .lastore, 0, [], [], 0),
  (16, .iinc 3 1, 0, [], [(1, 0)], 0),
  (19, .goto (-13), 6, [], [], 0),
  (22, .return_, 0, [], [], 0)])
def mr_X7_drop : MR := (7, 0, ⟨"Samovar$Trials", "drop", "()V"⟩, prog_9_method_8_code, 1, (Option.none : Option Jvm.ClassFile.FieldType), 1, 24, [(0, .aload_n 0, 0, [], [], 0),
  (1, .getfield 34, 0, [7, 4, 346, 1], [], 0),
  (4, .ifCond .ne 16, 20, [], [], 0),
  (7, .aload_n 0, 0, [], [], 0),
  (8, .getfield 11, 0, [7, 0, 342, 0], [], 0),
  (11, .lconst 0, 0, [], [], 0),
  (12, .invokestatic 45, 0, [0], [], 0),
  (15, .aload_n 0, 0, [], [], 0),
  (16, .iconst 1, 0, [], [(1, 0)], 0),
  (17, .putfield 34, 0, [7, 4, 346, 1], [], 0),
  (20, .return_, 0, [], [], 0)])
def mr_X8_changed : MR := (8, 0, ⟨"Samovar", "changed", "()V"⟩, prog_1_method_45_code, 1, (Option.none : Option Jvm.ClassFile.FieldType), 2, 44, [(0, .aload_n 0, 0, [], [], 0),
  (1, .iconst 0, 0, [], [(0, 0)], 0),
  (2, .putfield 346, 0, [8, 11, 393, 1], [], 0),
  (5, .aload_n 0, 0, [], [], 0),
  (6, .getfield 59, 0, [8, 6, 388, 0], [], 0),
  (9, .invokevirtual 349, 0, [0], [], 0),
  (12, .return_, 0, [], [], 0)])
def mr_X8_type : MR := (8, 2, ⟨"Samovar", "type", "(II)I"⟩, prog_1_method_2_code, 4, (Option.some Jvm.ClassFile.FieldType.int), 8, 175, [(0, .aload_n 0, 0, [], [], 0),
  (1, .iload_n 1, 0, [], [], 0),
  (2, .invokevirtual 79, 0, [0], [], 0),
  (5, .astore_n 3, 0, [], [], 0),
  (6, .aload_n 3, 0, [], [], 0),
  (7, .ifnull 13, 20, [], [], 0),
  (10, .iload_n 2, 0, [], [], 0),
  (11, .sipush 255, 0, [], [(255, 0)], 0),
  (14, .invokestatic 83, 0, [0], [], 0),
  (17, .ifCond .ne 6, 23, [], [], 0),
  (20, .bipush (-2), 0, [], [((-2), 0)], 0),
  (22, .ireturn, 0, [], [], 0),
  (23, .aload_n 3, 0, [], [], 0),
  (24, .getfield 87, 0, [6, 4, 155, 0], [], 0),
  (27, .bipush 31, 0, [], [(31, 0)], 0),
  (29, .if_icmp .lt 6, 35, [], [], 0),
  (32, .bipush (-4), 0, [], [((-4), 0)], 0),
  (34, .ireturn, 0, [], [], 0),
  (35, .aload_n 3, 0, [], [], 0),
  (36, .iload_n 2, 0, [], [], 0),
  (37, .invokevirtual 91, 0, [0], [], 0),
  (40, .aload_n 0, 0, [], [], 0),
  (41, .invokevirtual 95, 0, [0], [], 0),
  (44, .aload_n 3, 0, [], [], 0),
  (45, .getfield 87, 0, [6, 4, 155, 0], [], 0),
  (48, .ireturn, 0, [], [], 0)])
def mr_X9_in : MR := (9, 3, ⟨"SamovarModel", "in", "(III)Z"⟩, prog_11_method_3_code, 3, (Option.some Jvm.ClassFile.FieldType.boolean), 0, 0, [(0, .iload_n 0, 0, [], [], 0),
  (1, .iload_n 1, 0, [], [], 0),
  (2, .if_icmp .lt 12, 14, [], [], 0),
  (5, .iload_n 0, 0, [], [], 0),
  (6, .iload_n 2, 0, [], [], 0),
  (7, .if_icmp .gt 7, 14, [], [], 0),
  (10, .iconst 1, 0, [], [(1, 0)], 0),
  (11, .goto 4, 15, [], [], 0),
  (14, .iconst 0, 0, [], [(0, 0)], 0),
  (15, .ireturn, 0, [], [], 0)])
def mr_X9_isTwo : MR := (9, 1, ⟨"SamovarModel", "isTwo", "(I)Z"⟩, prog_11_method_8_code, 1, (Option.some Jvm.ClassFile.FieldType.boolean), 1, 22, [(0, .iload_n 0, 0, [], [], 0),
  (1, .iconst 0, 0, [], [(0, 0)], 0),
  (2, .iconst 1, 0, [], [(1, 0)], 0),
  (3, .invokestatic 119, 0, [0], [], 0),
  (6, .ireturn, 0, [], [], 0)])
def mr_X9_type : MR := (9, 2, ⟨"SamovarModel", "type", "(II)I"⟩, prog_11_method_11_code, 3, (Option.some Jvm.ClassFile.FieldType.int), 2, 42, [(0, .iload_n 1, 0, [], [], 0),
  (1, .invokestatic 123, 0, [0], [], 0),
  (4, .ifCond .eq 14, 18, [], [], 0),
  (7, .iload_n 2, 0, [], [], 0),
  (8, .iconst 0, 0, [], [(0, 0)], 0),
  (9, .sipush 255, 0, [], [(255, 0)], 0),
  (12, .invokestatic 119, 0, [0], [], 0),
  (15, .ifCond .ne 6, 21, [], [], 0),
  (18, .bipush (-2), 0, [], [((-2), 0)], 0),
  (20, .ireturn, 0, [], [], 0),
  (21, .aload_n 0, 0, [], [], 0),
  (22, .getfield 7, 0, [9, 0, 962, 0], [], 0),
  (25, .iload_n 1, 0, [], [], 0),
  (26, .iaload, 0, [], [], 0),
  (27, .bipush 31, 0, [], [(31, 0)], 0),
  (29, .if_icmp .ne 6, 35, [], [], 0),
  (32, .bipush (-4), 0, [], [((-4), 0)], 0),
  (34, .ireturn, 0, [], [], 0),
  (35, .aload_n 0, 0, [], [], 0),
  (36, .getfield 13, 0, [9, 1, 963, 0], [], 0),
  (39, .bipush 31, 0, [], [(31, 0)], 0),
  (41, .iload_n 1, 0, [], [], 0),
  (42, .imul, 0, [], [], 0),
  (43, .aload_n 0, 0, [], [], 0),
  (44, .getfield 7, 0, [9, 0, 962, 0], [], 0),
  (47, .iload_n 1, 0, [], [], 0),
  (48, .iaload, 0, [], [], 0),
  (49, .iadd, 0, [], [], 0),
  (50, .iload_n 2, 0, [], [], 0),
  (51, .iastore, 0, [], [], 0),
  (52, .aload_n 0, 0, [], [], 0),
  (53, .getfield 7, 0, [9, 0, 962, 0], [], 0),
  (56, .iload_n 1, 0, [], [], 0),
  (57, .dup2, 0, [], [], 0),
  (58, .iaload, 0, [], [], 0),
  (59, .iconst 1, 0, [], [(1, 0)], 0),
  (60, .iadd, 0, [], [], 0),
  (61, .iastore, 0, [], [], 0),
  (62, .aload_n 0, 0, [], [], 0),
  (63, .getfield 7, 0, [9, 0, 962, 0], [], 0),
  (66, .iload_n 1, 0, [], [], 0),
  (67, .iaload, 0, [], [], 0),
  (68, .ireturn, 0, [], [], 0)])
def mr_X6_shorten : MR := (6, 1, ⟨"Samovar$Text", "shorten", "(I)V"⟩, prog_8_method_3_code, 2, (Option.none : Option Jvm.ClassFile.FieldType), 7, 154, [(0, .aload_n 0, 0, [], [], 0),
  (1, .iload_n 1, 0, [], [], 0),
  (2, .putfield 33, 0, [6, 4, 154, 0], [], 0),
  (5, .aload_n 0, 0, [], [], 0),
  (6, .invokevirtual 36, 0, [0], [], 0),
  (9, .return_, 0, [], [], 0)])
def mr_X8_wipe : MR := (8, 1, ⟨"Samovar", "wipe", "(I)I"⟩, prog_1_method_3_code, 4, (Option.some Jvm.ClassFile.FieldType.int), 8, 175, [(0, .aload_n 0, 0, [], [], 0),
  (1, .iload_n 1, 0, [], [], 0),
  (2, .invokevirtual 79, 0, [0], [], 0),
  (5, .astore_n 2, 0, [], [], 0),
  (6, .aload_n 2, 0, [], [], 0),
  (7, .ifnonnull 6, 13, [], [], 0),
  (10, .bipush (-2), 0, [], [((-2), 0)], 0),
  (12, .ireturn, 0, [], [], 0),
  (13, .aload_n 2, 0, [], [], 0),
  (14, .getfield 87, 0, [6, 4, 155, 0], [], 0),
  (17, .istore_n 3, 0, [], [], 0),
  (18, .aload_n 2, 0, [], [], 0),
  (19, .iconst 0, 0, [], [(0, 0)], 0),
  (20, .invokevirtual 98, 0, [0], [], 0),
  (23, .aload_n 0, 0, [], [], 0),
  (24, .invokevirtual 95, 0, [0], [], 0),
  (27, .iload_n 3, 0, [], [], 0),
  (28, .ireturn, 0, [], [], 0)])
def mr_X9_wipe : MR := (9, 1, ⟨"SamovarModel", "wipe", "(I)I"⟩, prog_11_method_12_code, 3, (Option.some Jvm.ClassFile.FieldType.int), 2, 42, [(0, .iload_n 1, 0, [], [], 0),
  (1, .invokestatic 123, 0, [0], [], 0),
  (4, .ifCond .ne 6, 10, [], [], 0),
  (7, .bipush (-2), 0, [], [((-2), 0)], 0),
  (9, .ireturn, 0, [], [], 0),
  (10, .aload_n 0, 0, [], [], 0),
  (11, .getfield 7, 0, [9, 0, 962, 0], [], 0),
  (14, .iload_n 1, 0, [], [], 0),
  (15, .iaload, 0, [], [], 0),
  (16, .istore_n 2, 0, [], [], 0),
  (17, .aload_n 0, 0, [], [], 0),
  (18, .getfield 7, 0, [9, 0, 962, 0], [], 0),
  (21, .iload_n 1, 0, [], [], 0),
  (22, .iconst 0, 0, [], [(0, 0)], 0),
  (23, .iastore, 0, [], [], 0),
  (24, .iload_n 2, 0, [], [], 0),
  (25, .ireturn, 0, [], [], 0)])
def mr_X8_undo : MR := (8, 1, ⟨"Samovar", "undo", "(I)I"⟩, prog_1_method_4_code, 3, (Option.some Jvm.ClassFile.FieldType.int), 8, 175, [(0, .aload_n 0, 0, [], [], 0),
  (1, .iload_n 1, 0, [], [], 0),
  (2, .invokevirtual 79, 0, [0], [], 0),
  (5, .astore_n 2, 0, [], [], 0),
  (6, .aload_n 2, 0, [], [], 0),
  (7, .ifnonnull 6, 13, [], [], 0),
  (10, .bipush (-2), 0, [], [((-2), 0)], 0),
  (12, .ireturn, 0, [], [], 0),
  (13, .aload_n 2, 0, [], [], 0),
  (14, .getfield 87, 0, [6, 4, 155, 0], [], 0),
  (17, .ifCond .gt 6, 23, [], [], 0),
  (20, .bipush (-3), 0, [], [((-3), 0)], 0),
  (22, .ireturn, 0, [], [], 0),
  (23, .aload_n 2, 0, [], [], 0),
  (24, .aload_n 2, 0, [], [], 0),
  (25, .getfield 87, 0, [6, 4, 155, 0], [], 0),
  (28, .iconst 1, 0, [], [(1, 0)], 0),
  (29, .isub, 0, [], [], 0),
  (30, .invokevirtual 98, 0, [0], [], 0),
  (33, .aload_n 0, 0, [], [], 0),
  (34, .invokevirtual 95, 0, [0], [], 0),
  (37, .aload_n 2, 0, [], [], 0),
  (38, .getfield 87, 0, [6, 4, 155, 0], [], 0),
  (41, .ireturn, 0, [], [], 0)])
def mr_X9_undo : MR := (9, 1, ⟨"SamovarModel", "undo", "(I)I"⟩, prog_11_method_13_code, 2, (Option.some Jvm.ClassFile.FieldType.int), 2, 42, [(0, .iload_n 1, 0, [], [], 0),
  (1, .invokestatic 123, 0, [0], [], 0),
  (4, .ifCond .ne 6, 10, [], [], 0),
  (7, .bipush (-2), 0, [], [((-2), 0)], 0),
  (9, .ireturn, 0, [], [], 0),
  (10, .aload_n 0, 0, [], [], 0),
  (11, .getfield 7, 0, [9, 0, 962, 0], [], 0),
  (14, .iload_n 1, 0, [], [], 0),
  (15, .iaload, 0, [], [], 0),
  (16, .ifCond .ne 6, 22, [], [], 0),
  (19, .bipush (-3), 0, [], [((-3), 0)], 0),
  (21, .ireturn, 0, [], [], 0),
  (22, .aload_n 0, 0, [], [], 0),
  (23, .getfield 7, 0, [9, 0, 962, 0], [], 0),
  (26, .iload_n 1, 0, [], [], 0),
  (27, .dup2, 0, [], [], 0),
  (28, .iaload, 0, [], [], 0),
  (29, .iconst 1, 0, [], [(1, 0)], 0),
  (30, .isub, 0, [], [], 0),
  (31, .iastore, 0, [], [], 0),
  (32, .aload_n 0, 0, [], [], 0),
  (33, .getfield 7, 0, [9, 0, 962, 0], [], 0),
  (36, .iload_n 1, 0, [], [], 0),
  (37, .iaload, 0, [], [], 0),
  (38, .ireturn, 0, [], [], 0)])
def mr_X8_fault : MR := (8, 1, ⟨"Samovar", "fault", "(I)I"⟩, prog_1_method_5_code, 3, (Option.some Jvm.ClassFile.FieldType.int), 1, 21, [(0, .aload_n 0, 0, [], [], 0),
  (1, .iload_n 1, 0, [], [], 0),
  (2, .invokevirtual 79, 0, [0], [], 0),
  (5, .astore_n 2, 0, [], [], 0),
  (6, .aload_n 2, 0, [], [], 0),
  (7, .ifnonnull 8, 15, [], [], 0),
  (10, .bipush (-2), 0, [], [((-2), 0)], 0),
  (12, .goto 7, 19, [], [], 0),
  (15, .aload_n 2, 0, [], [], 0),
  (16, .getfield 101, 0, [6, 5, 157, 0], [], 0),
  (19, .ireturn, 0, [], [], 0)])
def mr_X9_byteAt : MR := (9, 2, ⟨"SamovarModel", "byteAt", "(II)I"⟩, prog_11_method_14_code, 3, (Option.some Jvm.ClassFile.FieldType.int), 0, 0, [(0, .iload_n 2, 0, [], [], 0),
  (1, .aload_n 0, 0, [], [], 0),
  (2, .getfield 7, 0, [9, 0, 962, 0], [], 0),
  (5, .iload_n 1, 0, [], [], 0),
  (6, .iaload, 0, [], [], 0),
  (7, .if_icmp .ge 17, 24, [], [], 0),
  (10, .aload_n 0, 0, [], [], 0),
  (11, .getfield 13, 0, [9, 1, 963, 0], [], 0),
  (14, .bipush 31, 0, [], [(31, 0)], 0),
  (16, .iload_n 1, 0, [], [], 0),
  (17, .imul, 0, [], [], 0),
  (18, .iload_n 2, 0, [], [], 0),
  (19, .iadd, 0, [], [], 0),
  (20, .iaload, 0, [], [], 0),
  (21, .goto 4, 25, [], [], 0),
  (24, .iconst (-1), 0, [], [((-1), 0)], 0),
  (25, .ireturn, 0, [], [], 0)])
def mr_X9_isMinute : MR := (9, 1, ⟨"SamovarModel", "isMinute", "(I)Z"⟩, prog_11_method_10_code, 1, (Option.some Jvm.ClassFile.FieldType.boolean), 1, 22, [(0, .iload_n 0, 0, [], [], 0),
  (1, .iconst 0, 0, [], [(0, 0)], 0),
  (2, .bipush 23, 0, [], [(23, 0)], 0),
  (4, .invokestatic 119, 0, [0], [], 0),
  (7, .ireturn, 0, [], [], 0)])
def mr_X9_readsPart : MR := (9, 3, ⟨"SamovarModel", "readsPart", "(III)I"⟩, prog_11_method_15_code, 8, (Option.some Jvm.ClassFile.FieldType.int), 2, 42, [(0, .aload_n 0, 0, [], [], 0),
  (1, .iload_n 1, 0, [], [], 0),
  (2, .iload_n 3, 0, [], [], 0),
  (3, .invokevirtual 127, 0, [0], [], 0),
  (6, .bipush 97, 0, [], [(97, 0)], 0),
  (8, .isub, 0, [], [], 0),
  (9, .istore 4, 0, [], [], 0),
  (11, .aload_n 0, 0, [], [], 0),
  (12, .iload_n 1, 0, [], [], 0),
  (13, .iload_n 3, 0, [], [], 0),
  (14, .iconst 1, 0, [], [(1, 0)], 0),
  (15, .iadd, 0, [], [], 0),
  (16, .invokevirtual 127, 0, [0], [], 0),
  (19, .istore 5, 0, [], [], 0),
  (21, .iload_n 1, 0, [], [], 0),
  (22, .ifCond .ne 40, 62, [], [], 0),
  (25, .iload 5, 0, [], [], 0),
  (27, .bipush 107, 0, [], [(107, 0)], 0),
  (29, .if_icmp .ne 7, 36, [], [], 0),
  (32, .iconst 0, 0, [], [(0, 0)], 0),
  (33, .goto 52, 85, [], [], 0),
  (36, .iload 5, 0, [], [], 0),
  (38, .bipush 98, 0, [], [(98, 0)], 0),
  (40, .if_icmp .ne 7, 47, [], [], 0),
  (43, .iconst 1, 0, [], [(1, 0)], 0),
  (44, .goto 41, 85, [], [], 0),
  (47, .iload 5, 0, [], [], 0),
  (49, .bipush 99, 0, [], [(99, 0)], 0),
  (51, .if_icmp .ne 7, 58, [], [], 0),
  (54, .iconst 2, 0, [], [(2, 0)], 0),
  (55, .goto 30, 85, [], [], 0),
  (58, .iconst (-1), 0, [], [((-1), 0)], 0),
  (59, .goto 26, 85, [], [], 0),
  (62, .iload 5, 0, [], [], 0),
  (64, .bipush 119, 0, [], [(119, 0)], 0),
  (66, .if_icmp .ne 7, 73, [], [], 0),
  (69, .iconst 0, 0, [], [(0, 0)], 0),
  (70, .goto 15, 85, [], [], 0),
  (73, .iload 5, 0, [], [], 0),
  (75, .bipush 100, 0, [], [(100, 0)], 0),
  (77, .if_icmp .ne 7, 84, [], [], 0),
  (80, .iconst 1, 0, [], [(1, 0)], 0),
  (81, .goto 4, 85, [], [], 0),
  (84, .iconst (-1), 0, [], [((-1), 0)], 0),
  (85, .istore 6, 0, [], [], 0),
  (87, .aload_n 0, 0, [], [], 0),
  (88, .iload_n 1, 0, [], [], 0),
  (89, .iload_n 3, 0, [], [], 0),
  (90, .iconst 2, 0, [], [(2, 0)], 0),
  (91, .iadd, 0, [], [], 0),
  (92, .invokevirtual 127, 0, [0], [], 0),
  (95, .bipush 48, 0, [], [(48, 0)], 0),
  (97, .isub, 0, [], [], 0),
  (98, .istore 7, 0, [], [], 0),
  (100, .iload_n 2, 0, [], [], 0),
  (101, .bipush 8, 0, [], [(8, 0)], 0),
  (103, .if_icmp .eq 11, 114, [], [], 0),
  (106, .iload 4, 0, [], [], 0),
  (108, .invokestatic 131, 0, [0], [], 0),
  (111, .ifCond .ne 5, 116, [], [], 0),
  (114, .iconst 0, 0, [], [(0, 0)], 0),
  (115, .ireturn, 0, [], [], 0),
  (116, .iload 6, 0, [], [], 0),
  (118, .iconst (-1), 0, [], [((-1), 0)], 0),
  (119, .if_icmp .ne 5, 124, [], [], 0),
  (122, .iconst 1, 0, [], [(1, 0)], 0),
  (123, .ireturn, 0, [], [], 0),
  (124, .iload 7, 0, [], [], 0),
  (126, .iconst 1, 0, [], [(1, 0)], 0),
  (127, .iload_n 1, 0, [], [], 0),
  (128, .ifCond .ne 7, 135, [], [], 0),
  (131, .iconst 3, 0, [], [(3, 0)], 0),
  (132, .goto 4, 136, [], [], 0),
  (135, .iconst 4, 0, [], [(4, 0)], 0),
  (136, .invokestatic 119, 0, [0], [], 0),
  (139, .ifCond .ne 5, 144, [], [], 0),
  (142, .iconst 2, 0, [], [(2, 0)], 0),
  (143, .ireturn, 0, [], [], 0),
  (144, .iload_n 1, 0, [], [], 0),
  (145, .ifCond .ne 30, 175, [], [], 0),
  (148, .aload_n 0, 0, [], [], 0),
  (149, .getfield 16, 0, [9, 3, 965, 0], [], 0),
  (152, .iload_n 2, 0, [], [], 0),
  (153, .iload 4, 0, [], [], 0),
  (155, .iastore, 0, [], [], 0),
  (156, .aload_n 0, 0, [], [], 0),
  (157, .getfield 19, 0, [9, 4, 966, 0], [], 0),
  (160, .iload_n 2, 0, [], [], 0),
  (161, .iload 6, 0, [], [], 0),
  (163, .iastore, 0, [], [], 0),
  (164, .aload_n 0, 0, [], [], 0),
  (165, .getfield 22, 0, [9, 5, 967, 0], [], 0),
  (168, .iload_n 2, 0, [], [], 0),
  (169, .iload 7, 0, [], [], 0),
  (171, .iastore, 0, [], [], 0),
  (172, .goto 27, 199, [], [], 0),
  (175, .aload_n 0, 0, [], [], 0),
  (176, .getfield 25, 0, [9, 7, 969, 0], [], 0),
  (179, .iload_n 2, 0, [], [], 0),
  (180, .iload 4, 0, [], [], 0),
  (182, .iastore, 0, [], [], 0),
  (183, .aload_n 0, 0, [], [], 0),
  (184, .getfield 28, 0, [9, 8, 970, 0], [], 0),
  (187, .iload_n 2, 0, [], [], 0),
  (188, .iload 6, 0, [], [], 0),
  (190, .iastore, 0, [], [], 0),
  (191, .aload_n 0, 0, [], [], 0),
  (192, .getfield 31, 0, [9, 9, 971, 0], [], 0),
  (195, .iload_n 2, 0, [], [], 0),
  (196, .iload 7, 0, [], [], 0),
  (198, .iastore, 0, [], [], 0),
  (199, .iconst 3, 0, [], [(3, 0)], 0),
  (200, .ireturn, 0, [], [], 0)])
def mr_X9_readsText : MR := (9, 1, ⟨"SamovarModel", "readsText", "(I)I"⟩, prog_11_method_16_code, 5, (Option.some Jvm.ClassFile.FieldType.int), 3, 69, [(0, .iconst 0, 0, [], [(0, 0)], 0),
  (1, .istore_n 2, 0, [], [], 0),
  (2, .iconst 0, 0, [], [(0, 0)], 0),
  (3, .istore_n 3, 0, [], [], 0),
  (4, .aload_n 0, 0, [], [], 0),
  (5, .iload_n 1, 0, [], [], 0),
  (6, .ifCond .ne 7, 13, [], [], 0),
  (9, .iconst 0, 0, [], [(0, 0)], 0),
  (10, .goto 7, 17, [], [], 0),
  (13, .aload_n 0, 0, [], [], 0),
  (14, .getfield 134, 0, [9, 2, 964, 0], [], 0),
  (17, .putfield 134, 0, [9, 2, 964, 0], [], 0),
  (20, .aload_n 0, 0, [], [], 0),
  (21, .iload_n 1, 0, [], [], 0),
  (22, .iconst 1, 0, [], [(1, 0)], 0),
  (23, .if_icmp .ne 7, 30, [], [], 0),
  (26, .iconst 0, 0, [], [(0, 0)], 0),
  (27, .goto 7, 34, [], [], 0),
  (30, .aload_n 0, 0, [], [], 0),
  (31, .getfield 137, 0, [9, 6, 968, 0], [], 0),
  (34, .putfield 137, 0, [9, 6, 968, 0], [], 0),
  (37, .iload_n 3, 0, [], [], 0),
  (38, .aload_n 0, 0, [], [], 0),
  (39, .getfield 7, 0, [9, 0, 962, 0], [], 0),
  (42, .iload_n 1, 0, [], [], 0),
  (43, .iaload, 0, [], [], 0),
  (44, .if_icmp .lt 7, 51, [], [], 0),
  (47, .iload_n 3, 0, [], [], 0),
  (48, .ifCond .le 93, 141, [], [], 0),
  (51, .aload_n 0, 0, [], [], 0),
  (52, .iload_n 1, 0, [], [], 0),
  (53, .iload_n 2, 0, [], [], 0),
  (54, .iload_n 3, 0, [], [], 0),
  (55, .invokevirtual 140, 0, [0], [], 0),
  (58, .istore 4, 0, [], [], 0),
  (60, .iload 4, 0, [], [], 0),
  (62, .iconst 3, 0, [], [(3, 0)], 0),
  (63, .if_icmp .ge 8, 71, [], [], 0),
  (66, .iload_n 3, 0, [], [], 0),
  (67, .iload 4, 0, [], [], 0),
  (69, .iadd, 0, [], [], 0),
  (70, .ireturn, 0, [], [], 0),
  (71, .iinc 2 1, 0, [], [(1, 0)], 0),
  (74, .iinc 3 3, 0, [], [(3, 0)], 0),
  (77, .iload_n 3, 0, [], [], 0),
  (78, .aload_n 0, 0, [], [], 0),
  (79, .getfield 7, 0, [9, 0, 962, 0], [], 0),
  (82, .iload_n 1, 0, [], [], 0),
  (83, .iaload, 0, [], [], 0),
  (84, .if_icmp .ne 38, 122, [], [], 0),
  (87, .aload_n 0, 0, [], [], 0),
  (88, .iload_n 1, 0, [], [], 0),
  (89, .ifCond .ne 7, 96, [], [], 0),
  (92, .iload_n 2, 0, [], [], 0),
  (93, .goto 7, 100, [], [], 0),
  (96, .aload_n 0, 0, [], [], 0),
  (97, .getfield 134, 0, [9, 2, 964, 0], [], 0),
  (100, .putfield 134, 0, [9, 2, 964, 0], [], 0),
  (103, .aload_n 0, 0, [], [], 0),
  (104, .iload_n 1, 0, [], [], 0),
  (105, .iconst 1, 0, [], [(1, 0)], 0),
  (106, .if_icmp .ne 7, 113, [], [], 0),
  (109, .iload_n 2, 0, [], [], 0),
  (110, .goto 7, 117, [], [], 0),
  (113, .aload_n 0, 0, [], [], 0),
  (114, .getfield 137, 0, [9, 6, 968, 0], [], 0),
  (117, .putfield 137, 0, [9, 6, 968, 0], [], 0),
  (120, .iconst (-1), 0, [], [((-1), 0)], 0),
  (121, .ireturn, 0, [], [], 0),
  (122, .aload_n 0, 0, [], [], 0),
  (123, .iload_n 1, 0, [], [], 0),
  (124, .iload_n 3, 0, [], [], 0),
  (125, .invokevirtual 127, 0, [0], [], 0),
  (128, .bipush 59, 0, [], [(59, 0)], 0),
  (130, .if_icmp .eq 5, 135, [], [], 0),
  (133, .iload_n 3, 0, [], [], 0),
  (134, .ireturn, 0, [], [], 0),
  (135, .iinc 3 1, 0, [], [(1, 0)], 0),
  (138, .goto (-101), 37, [], [], 0),
  (141, .iconst (-1), 0, [], [((-1), 0)], 0),
  (142, .ireturn, 0, [], [], 0)])
def mr_X9_faultOf : MR := (9, 1, ⟨"SamovarModel", "faultOf", "(I)I"⟩, prog_11_method_17_code, 4, (Option.some Jvm.ClassFile.FieldType.int), 4, 93, [(0, .aload_n 0, 0, [], [], 0),
  (1, .iconst 0, 0, [], [(0, 0)], 0),
  (2, .invokevirtual 144, 0, [0], [], 0),
  (5, .istore_n 2, 0, [], [], 0),
  (6, .aload_n 0, 0, [], [], 0),
  (7, .iconst 1, 0, [], [(1, 0)], 0),
  (8, .invokevirtual 144, 0, [0], [], 0),
  (11, .istore_n 3, 0, [], [], 0),
  (12, .iload_n 1, 0, [], [], 0),
  (13, .ifCond .ne 7, 20, [], [], 0),
  (16, .iload_n 2, 0, [], [], 0),
  (17, .goto 4, 21, [], [], 0),
  (20, .iload_n 3, 0, [], [], 0),
  (21, .ireturn, 0, [], [], 0)])
def mr_X9_fault : MR := (9, 1, ⟨"SamovarModel", "fault", "(I)I"⟩, prog_11_method_19_code, 2, (Option.some Jvm.ClassFile.FieldType.int), 5, 116, [(0, .iload_n 1, 0, [], [], 0),
  (1, .invokestatic 123, 0, [0], [], 0),
  (4, .ifCond .eq 11, 15, [], [], 0),
  (7, .aload_n 0, 0, [], [], 0),
  (8, .iload_n 1, 0, [], [], 0),
  (9, .invokevirtual 148, 0, [0], [], 0),
  (12, .goto 5, 17, [], [], 0),
  (15, .bipush (-2), 0, [], [((-2), 0)], 0),
  (17, .ireturn, 0, [], [], 0)])
def mr_X1_has : MR := (1, 1, ⟨"Samovar$Entries", "has", "(I)Z"⟩, prog_3_method_2_code, 2, (Option.some Jvm.ClassFile.FieldType.boolean), 0, 0, [(0, .iload_n 1, 0, [], [], 0),
  (1, .ifCond .lt 21, 22, [], [], 0),
  (4, .iload_n 1, 0, [], [], 0),
  (5, .aload_n 0, 0, [], [], 0),
  (6, .getfield 21, 0, [1, 3, 131, 0], [], 0),
  (9, .if_icmp .ge 13, 22, [], [], 0),
  (12, .iload_n 1, 0, [], [], 0),
  (13, .bipush 8, 0, [], [(8, 0)], 0),
  (15, .if_icmp .ge 7, 22, [], [], 0),
  (18, .iconst 1, 0, [], [(1, 0)], 0),
  (19, .goto 4, 23, [], [], 0),
  (22, .iconst 0, 0, [], [(0, 0)], 0),
  (23, .ireturn, 0, [], [], 0)])
def mr_X1_part : MR := (1, 2, ⟨"Samovar$Entries", "part", "(II)I"⟩, prog_3_method_4_code, 3, (Option.some Jvm.ClassFile.FieldType.int), 1, 21, [(0, .aload_n 0, 0, [], [], 0),
  (1, .iload_n 1, 0, [], [], 0),
  (2, .invokevirtual 25, 0, [0], [], 0),
  (5, .ifCond .ne 6, 11, [], [], 0),
  (8, .bipush (-2), 0, [], [((-2), 0)], 0),
  (10, .ireturn, 0, [], [], 0),
  (11, .iload_n 2, 0, [], [], 0),
  (12, .tableswitch 49 0 2 #[28, 35, 42], 61, [], [(0, 40), (1, 47), (2, 54)], 0),
  (40, .aload_n 0, 0, [], [], 0),
  (41, .getfield 9, 0, [1, 0, 115, 0], [], 0),
  (44, .iload_n 1, 0, [], [], 0),
  (45, .iaload, 0, [], [], 0),
  (46, .ireturn, 0, [], [], 0),
  (47, .aload_n 0, 0, [], [], 0),
  (48, .getfield 15, 0, [1, 1, 121, 0], [], 0),
  (51, .iload_n 1, 0, [], [], 0),
  (52, .iaload, 0, [], [], 0),
  (53, .ireturn, 0, [], [], 0),
  (54, .aload_n 0, 0, [], [], 0),
  (55, .getfield 18, 0, [1, 2, 127, 0], [], 0),
  (58, .iload_n 1, 0, [], [], 0),
  (59, .iaload, 0, [], [], 0),
  (60, .ireturn, 0, [], [], 0),
  (61, .bipush (-2), 0, [], [((-2), 0)], 0),
  (63, .ireturn, 0, [], [], 0)])
def mr_X8_piece : MR := (8, 2, ⟨"Samovar", "piece", "(II)I"⟩, prog_1_method_6_code, 3, (Option.some Jvm.ClassFile.FieldType.int), 2, 43, [(0, .aload_n 0, 0, [], [], 0),
  (1, .getfield 16, 0, [8, 0, 382, 0], [], 0),
  (4, .getfield 37, 0, [6, 0, 150, 0], [], 0),
  (7, .iload_n 1, 0, [], [], 0),
  (8, .iload_n 2, 0, [], [], 0),
  (9, .invokevirtual 104, 0, [0], [], 0),
  (12, .ireturn, 0, [], [], 0)])
def mr_X9_reads : MR := (9, 0, ⟨"SamovarModel", "reads", "()V"⟩, prog_11_method_18_code, 2, (Option.none : Option Jvm.ClassFile.FieldType), 5, 116, [(0, .aload_n 0, 0, [], [], 0),
  (1, .iconst 0, 0, [], [(0, 0)], 0),
  (2, .invokevirtual 148, 0, [0], [], 0),
  (5, .istore_n 1, 0, [], [], 0),
  (6, .return_, 0, [], [], 0)])
def mr_X9_isPiece : MR := (9, 1, ⟨"SamovarModel", "isPiece", "(I)Z"⟩, prog_11_method_20_code, 2, (Option.some Jvm.ClassFile.FieldType.boolean), 6, 137, [(0, .aload_n 0, 0, [], [], 0),
  (1, .invokevirtual 151, 0, [0], [], 0),
  (4, .iload_n 1, 0, [], [], 0),
  (5, .iconst 0, 0, [], [(0, 0)], 0),
  (6, .aload_n 0, 0, [], [], 0),
  (7, .getfield 134, 0, [9, 2, 964, 0], [], 0),
  (10, .iconst 1, 0, [], [(1, 0)], 0),
  (11, .isub, 0, [], [], 0),
  (12, .invokestatic 119, 0, [0], [], 0),
  (15, .ireturn, 0, [], [], 0)])
def mr_X9_isThree : MR := (9, 1, ⟨"SamovarModel", "isThree", "(I)Z"⟩, prog_11_method_9_code, 1, (Option.some Jvm.ClassFile.FieldType.boolean), 1, 22, [(0, .iload_n 0, 0, [], [], 0),
  (1, .iconst 0, 0, [], [(0, 0)], 0),
  (2, .iconst 2, 0, [], [(2, 0)], 0),
  (3, .invokestatic 119, 0, [0], [], 0),
  (6, .ireturn, 0, [], [], 0)])
def mr_X9_pieceOf : MR := (9, 2, ⟨"SamovarModel", "pieceOf", "(II)I"⟩, prog_11_method_22_code, 3, (Option.some Jvm.ClassFile.FieldType.int), 0, 0, [(0, .iload_n 2, 0, [], [], 0),
  (1, .ifCond .ne 12, 13, [], [], 0),
  (4, .aload_n 0, 0, [], [], 0),
  (5, .getfield 16, 0, [9, 3, 965, 0], [], 0),
  (8, .iload_n 1, 0, [], [], 0),
  (9, .iaload, 0, [], [], 0),
  (10, .goto 23, 33, [], [], 0),
  (13, .iload_n 2, 0, [], [], 0),
  (14, .iconst 1, 0, [], [(1, 0)], 0),
  (15, .if_icmp .ne 12, 27, [], [], 0),
  (18, .aload_n 0, 0, [], [], 0),
  (19, .getfield 19, 0, [9, 4, 966, 0], [], 0),
  (22, .iload_n 1, 0, [], [], 0),
  (23, .iaload, 0, [], [], 0),
  (24, .goto 9, 33, [], [], 0),
  (27, .aload_n 0, 0, [], [], 0),
  (28, .getfield 22, 0, [9, 5, 967, 0], [], 0),
  (31, .iload_n 1, 0, [], [], 0),
  (32, .iaload, 0, [], [], 0),
  (33, .ireturn, 0, [], [], 0)])
def mr_X9_piece : MR := (9, 2, ⟨"SamovarModel", "piece", "(II)I"⟩, prog_11_method_23_code, 3, (Option.some Jvm.ClassFile.FieldType.int), 7, 158, [(0, .aload_n 0, 0, [], [], 0),
  (1, .iload_n 1, 0, [], [], 0),
  (2, .invokevirtual 154, 0, [0], [], 0),
  (5, .ifCond .eq 19, 24, [], [], 0),
  (8, .iload_n 2, 0, [], [], 0),
  (9, .invokestatic 157, 0, [0], [], 0),
  (12, .ifCond .eq 12, 24, [], [], 0),
  (15, .aload_n 0, 0, [], [], 0),
  (16, .iload_n 1, 0, [], [], 0),
  (17, .iload_n 2, 0, [], [], 0),
  (18, .invokevirtual 160, 0, [0], [], 0),
  (21, .goto 5, 26, [], [], 0),
  (24, .bipush (-2), 0, [], [((-2), 0)], 0),
  (26, .ireturn, 0, [], [], 0)])
def mr_X8_guest : MR := (8, 2, ⟨"Samovar", "guest", "(II)I"⟩, prog_1_method_7_code, 3, (Option.some Jvm.ClassFile.FieldType.int), 2, 43, [(0, .aload_n 0, 0, [], [], 0),
  (1, .getfield 22, 0, [8, 1, 383, 0], [], 0),
  (4, .getfield 37, 0, [6, 0, 150, 0], [], 0),
  (7, .iload_n 1, 0, [], [], 0),
  (8, .iload_n 2, 0, [], [], 0),
  (9, .invokevirtual 104, 0, [0], [], 0),
  (12, .ireturn, 0, [], [], 0)])
def mr_X9_isGuest : MR := (9, 1, ⟨"SamovarModel", "isGuest", "(I)Z"⟩, prog_11_method_21_code, 2, (Option.some Jvm.ClassFile.FieldType.boolean), 6, 137, [(0, .aload_n 0, 0, [], [], 0),
  (1, .invokevirtual 151, 0, [0], [], 0),
  (4, .iload_n 1, 0, [], [], 0),
  (5, .iconst 0, 0, [], [(0, 0)], 0),
  (6, .aload_n 0, 0, [], [], 0),
  (7, .getfield 137, 0, [9, 6, 968, 0], [], 0),
  (10, .iconst 1, 0, [], [(1, 0)], 0),
  (11, .isub, 0, [], [], 0),
  (12, .invokestatic 119, 0, [0], [], 0),
  (15, .ireturn, 0, [], [], 0)])
def mr_X9_guestOf : MR := (9, 2, ⟨"SamovarModel", "guestOf", "(II)I"⟩, prog_11_method_24_code, 3, (Option.some Jvm.ClassFile.FieldType.int), 0, 0, [(0, .iload_n 2, 0, [], [], 0),
  (1, .ifCond .ne 12, 13, [], [], 0),
  (4, .aload_n 0, 0, [], [], 0),
  (5, .getfield 25, 0, [9, 7, 969, 0], [], 0),
  (8, .iload_n 1, 0, [], [], 0),
  (9, .iaload, 0, [], [], 0),
  (10, .goto 23, 33, [], [], 0),
  (13, .iload_n 2, 0, [], [], 0),
  (14, .iconst 1, 0, [], [(1, 0)], 0),
  (15, .if_icmp .ne 12, 27, [], [], 0),
  (18, .aload_n 0, 0, [], [], 0),
  (19, .getfield 28, 0, [9, 8, 970, 0], [], 0),
  (22, .iload_n 1, 0, [], [], 0),
  (23, .iaload, 0, [], [], 0),
  (24, .goto 9, 33, [], [], 0),
  (27, .aload_n 0, 0, [], [], 0),
  (28, .getfield 31, 0, [9, 9, 971, 0], [], 0),
  (31, .iload_n 1, 0, [], [], 0),
  (32, .iaload, 0, [], [], 0),
  (33, .ireturn, 0, [], [], 0)])
def mr_X9_guest : MR := (9, 2, ⟨"SamovarModel", "guest", "(II)I"⟩, prog_11_method_25_code, 3, (Option.some Jvm.ClassFile.FieldType.int), 7, 158, [(0, .aload_n 0, 0, [], [], 0),
  (1, .iload_n 1, 0, [], [], 0),
  (2, .invokevirtual 163, 0, [0], [], 0),
  (5, .ifCond .eq 19, 24, [], [], 0),
  (8, .iload_n 2, 0, [], [], 0),
  (9, .invokestatic 157, 0, [0], [], 0),
  (12, .ifCond .eq 12, 24, [], [], 0),
  (15, .aload_n 0, 0, [], [], 0),
  (16, .iload_n 1, 0, [], [], 0),
  (17, .iload_n 2, 0, [], [], 0),
  (18, .invokevirtual 166, 0, [0], [], 0),
  (21, .goto 5, 26, [], [], 0),
  (24, .bipush (-2), 0, [], [((-2), 0)], 0),
  (26, .ireturn, 0, [], [], 0)])
def mr_X8_set : MR := (8, 2, ⟨"Samovar", "set", "(II)I"⟩, prog_1_method_8_code, 4, (Option.some Jvm.ClassFile.FieldType.int), 3, 64, [(0, .iload_n 1, 0, [], [], 0),
  (1, .ifCond .ne 31, 32, [], [], 0),
  (4, .iload_n 2, 0, [], [], 0),
  (5, .bipush 30, 0, [], [(30, 0)], 0),
  (7, .invokestatic 83, 0, [0], [], 0),
  (10, .ifCond .eq 22, 32, [], [], 0),
  (13, .aload_n 0, 0, [], [], 0),
  (14, .getfield 43, 0, [8, 4, 386, 0], [], 0),
  (17, .getfield 108, 0, [4, 3, 190, 0], [], 0),
  (20, .istore_n 3, 0, [], [], 0),
  (21, .aload_n 0, 0, [], [], 0),
  (22, .getfield 43, 0, [8, 4, 386, 0], [], 0),
  (25, .iload_n 2, 0, [], [], 0),
  (26, .putfield 108, 0, [4, 3, 190, 0], [], 0),
  (29, .goto 39, 68, [], [], 0),
  (32, .iload_n 1, 0, [], [], 0),
  (33, .iconst 1, 0, [], [(1, 0)], 0),
  (34, .if_icmp .ne 31, 65, [], [], 0),
  (37, .iload_n 2, 0, [], [], 0),
  (38, .bipush 40, 0, [], [(40, 0)], 0),
  (40, .invokestatic 83, 0, [0], [], 0),
  (43, .ifCond .eq 22, 65, [], [], 0),
  (46, .aload_n 0, 0, [], [], 0),
  (47, .getfield 43, 0, [8, 4, 386, 0], [], 0),
  (50, .getfield 111, 0, [4, 4, 194, 0], [], 0),
  (53, .istore_n 3, 0, [], [], 0),
  (54, .aload_n 0, 0, [], [], 0),
  (55, .getfield 43, 0, [8, 4, 386, 0], [], 0),
  (58, .iload_n 2, 0, [], [], 0),
  (59, .putfield 111, 0, [4, 4, 194, 0], [], 0),
  (62, .goto 6, 68, [], [], 0),
  (65, .bipush (-2), 0, [], [((-2), 0)], 0),
  (67, .ireturn, 0, [], [], 0),
  (68, .aload_n 0, 0, [], [], 0),
  (69, .invokevirtual 95, 0, [0], [], 0),
  (72, .iload_n 3, 0, [], [], 0),
  (73, .ireturn, 0, [], [], 0)])
def mr_X9_set : MR := (9, 2, ⟨"SamovarModel", "set", "(II)I"⟩, prog_11_method_26_code, 4, (Option.some Jvm.ClassFile.FieldType.int), 2, 42, [(0, .iload_n 1, 0, [], [], 0),
  (1, .invokestatic 123, 0, [0], [], 0),
  (4, .ifCond .eq 22, 26, [], [], 0),
  (7, .iload_n 2, 0, [], [], 0),
  (8, .iconst 0, 0, [], [(0, 0)], 0),
  (9, .iload_n 1, 0, [], [], 0),
  (10, .ifCond .ne 8, 18, [], [], 0),
  (13, .bipush 30, 0, [], [(30, 0)], 0),
  (15, .goto 5, 20, [], [], 0),
  (18, .bipush 40, 0, [], [(40, 0)], 0),
  (20, .invokestatic 119, 0, [0], [], 0),
  (23, .ifCond .ne 6, 29, [], [], 0),
  (26, .bipush (-2), 0, [], [((-2), 0)], 0),
  (28, .ireturn, 0, [], [], 0),
  (29, .iload_n 1, 0, [], [], 0),
  (30, .ifCond .ne 10, 40, [], [], 0),
  (33, .aload_n 0, 0, [], [], 0),
  (34, .getfield 110, 0, [9, 10, 972, 0], [], 0),
  (37, .goto 7, 44, [], [], 0),
  (40, .aload_n 0, 0, [], [], 0),
  (41, .getfield 114, 0, [9, 11, 973, 0], [], 0),
  (44, .istore_n 3, 0, [], [], 0),
  (45, .aload_n 0, 0, [], [], 0),
  (46, .iload_n 1, 0, [], [], 0),
  (47, .ifCond .ne 7, 54, [], [], 0),
  (50, .iload_n 2, 0, [], [], 0),
  (51, .goto 7, 58, [], [], 0),
  (54, .aload_n 0, 0, [], [], 0),
  (55, .getfield 110, 0, [9, 10, 972, 0], [], 0),
  (58, .putfield 110, 0, [9, 10, 972, 0], [], 0),
  (61, .aload_n 0, 0, [], [], 0),
  (62, .iload_n 1, 0, [], [], 0),
  (63, .iconst 1, 0, [], [(1, 0)], 0),
  (64, .if_icmp .ne 7, 71, [], [], 0),
  (67, .iload_n 2, 0, [], [], 0),
  (68, .goto 7, 75, [], [], 0),
  (71, .aload_n 0, 0, [], [], 0),
  (72, .getfield 114, 0, [9, 11, 973, 0], [], 0),
  (75, .putfield 114, 0, [9, 11, 973, 0], [], 0),
  (78, .iload_n 3, 0, [], [], 0),
  (79, .ireturn, 0, [], [], 0)])
def mr_X8_mayBeEvent : MR := (8, 3, ⟨"Samovar", "mayBeEvent", "(III)Z"⟩, prog_1_method_41_code, 3, (Option.some Jvm.ClassFile.FieldType.boolean), 1, 21, [(0, .iload_n 0, 0, [], [], 0),
  (1, .iconst 2, 0, [], [(2, 0)], 0),
  (2, .invokestatic 83, 0, [0], [], 0),
  (5, .ifCond .eq 25, 30, [], [], 0),
  (8, .iload_n 1, 0, [], [], 0),
  (9, .bipush 23, 0, [], [(23, 0)], 0),
  (11, .invokestatic 83, 0, [0], [], 0),
  (14, .ifCond .eq 16, 30, [], [], 0),
  (17, .iload_n 2, 0, [], [], 0),
  (18, .bipush 9, 0, [], [(9, 0)], 0),
  (20, .invokestatic 83, 0, [0], [], 0),
  (23, .ifCond .eq 7, 30, [], [], 0),
  (26, .iconst 1, 0, [], [(1, 0)], 0),
  (27, .goto 4, 31, [], [], 0),
  (30, .iconst 0, 0, [], [(0, 0)], 0),
  (31, .ireturn, 0, [], [], 0)])
def mr_X8_event : MR := (8, 3, ⟨"Samovar", "event", "(III)I"⟩, prog_1_method_9_code, 4, (Option.some Jvm.ClassFile.FieldType.int), 3, 64, [(0, .iload_n 1, 0, [], [], 0),
  (1, .iload_n 2, 0, [], [], 0),
  (2, .iload_n 3, 0, [], [], 0),
  (3, .invokestatic 114, 0, [0], [], 0),
  (6, .ifCond .ne 6, 12, [], [], 0),
  (9, .bipush (-2), 0, [], [((-2), 0)], 0),
  (11, .ireturn, 0, [], [], 0),
  (12, .aload_n 0, 0, [], [], 0),
  (13, .getfield 28, 0, [8, 2, 384, 0], [], 0),
  (16, .getfield 118, 0, [1, 3, 136, 0], [], 0),
  (19, .bipush 8, 0, [], [(8, 0)], 0),
  (21, .if_icmp .lt 6, 27, [], [], 0),
  (24, .bipush (-4), 0, [], [((-4), 0)], 0),
  (26, .ireturn, 0, [], [], 0),
  (27, .aload_n 0, 0, [], [], 0),
  (28, .getfield 28, 0, [8, 2, 384, 0], [], 0),
  (31, .iload_n 2, 0, [], [], 0),
  (32, .iload_n 1, 0, [], [], 0),
  (33, .iload_n 3, 0, [], [], 0),
  (34, .invokevirtual 119, 0, [0], [], 0),
  (37, .aload_n 0, 0, [], [], 0),
  (38, .invokevirtual 95, 0, [0], [], 0),
  (41, .aload_n 0, 0, [], [], 0),
  (42, .getfield 28, 0, [8, 2, 384, 0], [], 0),
  (45, .getfield 118, 0, [1, 3, 136, 0], [], 0),
  (48, .ireturn, 0, [], [], 0)])
def mr_X9_event : MR := (9, 3, ⟨"SamovarModel", "event", "(III)I"⟩, prog_11_method_27_code, 4, (Option.some Jvm.ClassFile.FieldType.int), 2, 42, [(0, .iload_n 1, 0, [], [], 0),
  (1, .invokestatic 157, 0, [0], [], 0),
  (4, .ifCond .eq 20, 24, [], [], 0),
  (7, .iload_n 2, 0, [], [], 0),
  (8, .invokestatic 131, 0, [0], [], 0),
  (11, .ifCond .eq 13, 24, [], [], 0),
  (14, .iload_n 3, 0, [], [], 0),
  (15, .iconst 0, 0, [], [(0, 0)], 0),
  (16, .bipush 9, 0, [], [(9, 0)], 0),
  (18, .invokestatic 119, 0, [0], [], 0),
  (21, .ifCond .ne 6, 27, [], [], 0),
  (24, .bipush (-2), 0, [], [((-2), 0)], 0),
  (26, .ireturn, 0, [], [], 0),
  (27, .aload_n 0, 0, [], [], 0),
  (28, .getfield 169, 0, [9, 12, 974, 0], [], 0),
  (31, .bipush 8, 0, [], [(8, 0)], 0),
  (33, .if_icmp .ne 6, 39, [], [], 0),
  (36, .bipush (-4), 0, [], [((-4), 0)], 0),
  (38, .ireturn, 0, [], [], 0),
  (39, .aload_n 0, 0, [], [], 0),
  (40, .getfield 34, 0, [9, 13, 975, 0], [], 0),
  (43, .aload_n 0, 0, [], [], 0),
  (44, .getfield 169, 0, [9, 12, 974, 0], [], 0),
  (47, .iload_n 1, 0, [], [], 0),
  (48, .iastore, 0, [], [], 0),
  (49, .aload_n 0, 0, [], [], 0),
  (50, .getfield 37, 0, [9, 14, 976, 0], [], 0),
  (53, .aload_n 0, 0, [], [], 0),
  (54, .getfield 169, 0, [9, 12, 974, 0], [], 0),
  (57, .iload_n 2, 0, [], [], 0),
  (58, .iastore, 0, [], [], 0),
  (59, .aload_n 0, 0, [], [], 0),
  (60, .getfield 40, 0, [9, 15, 977, 0], [], 0),
  (63, .aload_n 0, 0, [], [], 0),
  (64, .getfield 169, 0, [9, 12, 974, 0], [], 0),
  (67, .iload_n 3, 0, [], [], 0),
  (68, .iastore, 0, [], [], 0),
  (69, .aload_n 0, 0, [], [], 0),
  (70, .dup, 0, [], [], 0),
  (71, .getfield 169, 0, [9, 12, 974, 0], [], 0),
  (74, .iconst 1, 0, [], [(1, 0)], 0),
  (75, .iadd, 0, [], [], 0),
  (76, .putfield 169, 0, [9, 12, 974, 0], [], 0),
  (79, .aload_n 0, 0, [], [], 0),
  (80, .getfield 169, 0, [9, 12, 974, 0], [], 0),
  (83, .ireturn, 0, [], [], 0)])
def mr_X8_back : MR := (8, 0, ⟨"Samovar", "back", "()I"⟩, prog_1_method_10_code, 1, (Option.some Jvm.ClassFile.FieldType.int), 3, 64, [(0, .aload_n 0, 0, [], [], 0),
  (1, .getfield 28, 0, [8, 2, 384, 0], [], 0),
  (4, .getfield 118, 0, [1, 3, 136, 0], [], 0),
  (7, .ifCond .gt 6, 13, [], [], 0),
  (10, .bipush (-3), 0, [], [((-3), 0)], 0),
  (12, .ireturn, 0, [], [], 0),
  (13, .aload_n 0, 0, [], [], 0),
  (14, .getfield 28, 0, [8, 2, 384, 0], [], 0),
  (17, .dup, 0, [], [], 0),
  (18, .getfield 118, 0, [1, 3, 136, 0], [], 0),
  (21, .iconst 1, 0, [], [(1, 0)], 0),
  (22, .isub, 0, [], [], 0),
  (23, .putfield 118, 0, [1, 3, 136, 0], [], 0),
  (26, .aload_n 0, 0, [], [], 0),
  (27, .invokevirtual 95, 0, [0], [], 0),
  (30, .aload_n 0, 0, [], [], 0),
  (31, .getfield 28, 0, [8, 2, 384, 0], [], 0),
  (34, .getfield 118, 0, [1, 3, 136, 0], [], 0),
  (37, .ireturn, 0, [], [], 0)])
def mr_X9_back : MR := (9, 0, ⟨"SamovarModel", "back", "()I"⟩, prog_11_method_28_code, 1, (Option.some Jvm.ClassFile.FieldType.int), 0, 0, [(0, .aload_n 0, 0, [], [], 0),
  (1, .getfield 169, 0, [9, 12, 974, 0], [], 0),
  (4, .ifCond .ne 6, 10, [], [], 0),
  (7, .bipush (-3), 0, [], [((-3), 0)], 0),
  (9, .ireturn, 0, [], [], 0),
  (10, .aload_n 0, 0, [], [], 0),
  (11, .dup, 0, [], [], 0),
  (12, .getfield 169, 0, [9, 12, 974, 0], [], 0),
  (15, .iconst 1, 0, [], [(1, 0)], 0),
  (16, .isub, 0, [], [], 0),
  (17, .putfield 169, 0, [9, 12, 974, 0], [], 0),
  (20, .aload_n 0, 0, [], [], 0),
  (21, .getfield 169, 0, [9, 12, 974, 0], [], 0),
  (24, .ireturn, 0, [], [], 0)])
def mr_X8_sheetAt : MR := (8, 1, ⟨"Samovar", "sheetAt", "(I)LSamovar$Sheet;"⟩, prog_1_method_43_code, 2, (Option.some (Jvm.ClassFile.FieldType.object "Samovar$Sheet")), 0, 0, [(0, .iload_n 1, 0, [], [], 0),
  (1, .tableswitch 51 0 3 #[31, 36, 41, 46], 52, [], [(0, 32), (1, 37), (2, 42), (3, 47)], 0),
  (32, .aload_n 0, 0, [], [], 0),
  (33, .getfield 66, 0, [8, 7, 389, 0], [], 0),
  (36, .areturn, 0, [], [], 0),
  (37, .aload_n 0, 0, [], [], 0),
  (38, .getfield 70, 0, [8, 8, 390, 0], [], 0),
  (41, .areturn, 0, [], [], 0),
  (42, .aload_n 0, 0, [], [], 0),
  (43, .getfield 73, 0, [8, 9, 391, 0], [], 0),
  (46, .areturn, 0, [], [], 0),
  (47, .aload_n 0, 0, [], [], 0),
  (48, .getfield 76, 0, [8, 10, 392, 0], [], 0),
  (51, .areturn, 0, [], [], 0),
  (52, .aconst_null, 0, [], [], 0),
  (53, .areturn, 0, [], [], 0)])
def mr_X8_found : MR := (8, 1, ⟨"Samovar", "found", "(I)I"⟩, prog_1_method_44_code, 2, (Option.some Jvm.ClassFile.FieldType.int), 0, 0, [(0, .aload_n 0, 0, [], [], 0),
  (1, .iload_n 1, 0, [], [], 0),
  (2, .putfield 276, 0, [8, 12, 394, 0], [], 0),
  (5, .bipush (-10), 0, [], [((-10), 0)], 0),
  (7, .iload_n 1, 0, [], [], 0),
  (8, .isub, 0, [], [], 0),
  (9, .ireturn, 0, [], [], 0)])
def mr_X5_has : MR := (5, 1, ⟨"Samovar$Sheet", "has", "(I)Z"⟩, prog_7_method_4_code, 2, (Option.some Jvm.ClassFile.FieldType.boolean), 0, 0, [(0, .iload_n 1, 0, [], [], 0),
  (1, .ifCond .lt 21, 22, [], [], 0),
  (4, .iload_n 1, 0, [], [], 0),
  (5, .aload_n 0, 0, [], [], 0),
  (6, .getfield 23, 0, [5, 3, 371, 0], [], 0),
  (9, .if_icmp .ge 13, 22, [], [], 0),
  (12, .iload_n 1, 0, [], [], 0),
  (13, .bipush 60, 0, [], [(60, 0)], 0),
  (15, .if_icmp .ge 7, 22, [], [], 0),
  (18, .iconst 1, 0, [], [(1, 0)], 0),
  (19, .goto 4, 23, [], [], 0),
  (22, .iconst 0, 0, [], [(0, 0)], 0),
  (23, .ireturn, 0, [], [], 0)])
def mr_X5_item : MR := (5, 1, ⟨"Samovar$Sheet", "item", "(I)I"⟩, prog_7_method_6_code, 2, (Option.some Jvm.ClassFile.FieldType.int), 1, 21, [(0, .aload_n 0, 0, [], [], 0),
  (1, .iload_n 1, 0, [], [], 0),
  (2, .invokevirtual 32, 0, [0], [], 0),
  (5, .ifCond .eq 12, 17, [], [], 0),
  (8, .aload_n 0, 0, [], [], 0),
  (9, .getfield 9, 0, [5, 0, 365, 0], [], 0),
  (12, .iload_n 1, 0, [], [], 0),
  (13, .iaload, 0, [], [], 0),
  (14, .goto 4, 18, [], [], 0),
  (17, .iconst 0, 0, [], [(0, 0)], 0),
  (18, .ireturn, 0, [], [], 0)])
def mr_X8_read : MR := (8, 1, ⟨"Samovar", "read", "(I)I"⟩, prog_1_method_11_code, 8, (Option.some Jvm.ClassFile.FieldType.int), 3, 64, [(0, .aload_n 0, 0, [], [], 0),
  (1, .iload_n 1, 0, [], [], 0),
  (2, .invokevirtual 123, 0, [0], [], 0),
  (5, .astore_n 2, 0, [], [], 0),
  (6, .aload_n 2, 0, [], [], 0),
  (7, .ifnonnull 6, 13, [], [], 0),
  (10, .bipush (-2), 0, [], [((-2), 0)], 0),
  (12, .ireturn, 0, [], [], 0),
  (13, .aload_n 2, 0, [], [], 0),
  (14, .getfield 127, 0, [5, 1, 368, 1], [], 0),
  (17, .ifCond .eq 9, 26, [], [], 0),
  (20, .aload_n 0, 0, [], [], 0),
  (21, .iconst 1, 0, [], [(1, 0)], 0),
  (22, .invokevirtual 131, 0, [0], [], 0),
  (25, .ireturn, 0, [], [], 0),
  (26, .aload_n 0, 0, [], [], 0),
  (27, .getfield 28, 0, [8, 2, 384, 0], [], 0),
  (30, .getfield 118, 0, [1, 3, 136, 0], [], 0),
  (33, .istore_n 3, 0, [], [], 0),
  (34, .iconst 0, 0, [], [(0, 0)], 0),
  (35, .istore 4, 0, [], [], 0),
  (37, .iload 4, 0, [], [], 0),
  (39, .iconst 2, 0, [], [(2, 0)], 0),
  (40, .iadd, 0, [], [], 0),
  (41, .aload_n 2, 0, [], [], 0),
  (42, .getfield 135, 0, [5, 3, 372, 0], [], 0),
  (45, .if_icmp .ge 77, 122, [], [], 0),
  (48, .aload_n 0, 0, [], [], 0),
  (49, .getfield 28, 0, [8, 2, 384, 0], [], 0),
  (52, .getfield 118, 0, [1, 3, 136, 0], [], 0),
  (55, .bipush 8, 0, [], [(8, 0)], 0),
  (57, .if_icmp .ge 65, 122, [], [], 0),
  (60, .aload_n 2, 0, [], [], 0),
  (61, .iload 4, 0, [], [], 0),
  (63, .invokevirtual 136, 0, [0], [], 0),
  (66, .istore 5, 0, [], [], 0),
  (68, .aload_n 2, 0, [], [], 0),
  (69, .iload 4, 0, [], [], 0),
  (71, .iconst 1, 0, [], [(1, 0)], 0),
  (72, .iadd, 0, [], [], 0),
  (73, .invokevirtual 136, 0, [0], [], 0),
  (76, .istore 6, 0, [], [], 0),
  (78, .aload_n 2, 0, [], [], 0),
  (79, .iload 4, 0, [], [], 0),
  (81, .iconst 2, 0, [], [(2, 0)], 0),
  (82, .iadd, 0, [], [], 0),
  (83, .invokevirtual 136, 0, [0], [], 0),
  (86, .istore 7, 0, [], [], 0),
  (88, .iload 5, 0, [], [], 0),
  (90, .iload 6, 0, [], [], 0),
  (92, .iload 7, 0, [], [], 0),
  (94, .invokestatic 114, 0, [0], [], 0),
  (97, .ifCond .ne 6, 103, [], [], 0),
  (100, .goto 22, 122, [], [], 0),
  (103, .aload_n 0, 0, [], [], 0),
  (104, .getfield 28, 0, [8, 2, 384, 0], [], 0),
  (107, .iload 6, 0, [], [], 0),
  (109, .iload 5, 0, [], [], 0),
  (111, .iload 7, 0, [], [], 0),
  (113, .invokevirtual 119, 0, [0], [], 0),
  (116, .iinc 4 3, 0, [], [(3, 0)], 0),
  (119, .goto (-82), 37, [], [], 0),
  (122, .aload_n 0, 0, [], [], 0),
  (123, .invokevirtual 95, 0, [0], [], 0),
  (126, .aload_n 0, 0, [], [], 0),
  (127, .getfield 28, 0, [8, 2, 384, 0], [], 0),
  (130, .getfield 118, 0, [1, 3, 136, 0], [], 0),
  (133, .iload_n 3, 0, [], [], 0),
  (134, .isub, 0, [], [], 0),
  (135, .ireturn, 0, [], [], 0)])
def mr_X9_isSheet : MR := (9, 1, ⟨"SamovarModel", "isSheet", "(I)Z"⟩, prog_11_method_88_code, 1, (Option.some Jvm.ClassFile.FieldType.boolean), 1, 22, [(0, .iload_n 0, 0, [], [], 0),
  (1, .iconst 0, 0, [], [(0, 0)], 0),
  (2, .iconst 3, 0, [], [(3, 0)], 0),
  (3, .invokestatic 119, 0, [0], [], 0),
  (6, .ireturn, 0, [], [], 0)])
def mr_X9_meets : MR := (9, 1, ⟨"SamovarModel", "meets", "(I)I"⟩, prog_11_method_87_code, 2, (Option.some Jvm.ClassFile.FieldType.int), 0, 0, [(0, .aload_n 0, 0, [], [], 0),
  (1, .iload_n 1, 0, [], [], 0),
  (2, .putfield 355, 0, [9, 52, 1014, 0], [], 0),
  (5, .bipush (-10), 0, [], [((-10), 0)], 0),
  (7, .iload_n 1, 0, [], [], 0),
  (8, .isub, 0, [], [], 0),
  (9, .ireturn, 0, [], [], 0)])
def mr_X9_read : MR := (9, 1, ⟨"SamovarModel", "read", "(I)I"⟩, prog_11_method_29_code, 4, (Option.some Jvm.ClassFile.FieldType.int), 3, 65, [(0, .iload_n 1, 0, [], [], 0),
  (1, .invokestatic 172, 0, [0], [], 0),
  (4, .ifCond .ne 6, 10, [], [], 0),
  (7, .bipush (-2), 0, [], [((-2), 0)], 0),
  (9, .ireturn, 0, [], [], 0),
  (10, .aload_n 0, 0, [], [], 0),
  (11, .getfield 94, 0, [9, 47, 1009, 0], [], 0),
  (14, .iload_n 1, 0, [], [], 0),
  (15, .baload, 0, [], [], 0),
  (16, .ifCond .ne 9, 25, [], [], 0),
  (19, .aload_n 0, 0, [], [], 0),
  (20, .iconst 1, 0, [], [(1, 0)], 0),
  (21, .invokevirtual 175, 0, [0], [], 0),
  (24, .ireturn, 0, [], [], 0),
  (25, .iconst 0, 0, [], [(0, 0)], 0),
  (26, .istore_n 2, 0, [], [], 0),
  (27, .bipush 60, 0, [], [(60, 0)], 0),
  (29, .iload_n 1, 0, [], [], 0),
  (30, .imul, 0, [], [], 0),
  (31, .istore_n 3, 0, [], [], 0),
  (32, .iconst 3, 0, [], [(3, 0)], 0),
  (33, .iload_n 2, 0, [], [], 0),
  (34, .imul, 0, [], [], 0),
  (35, .iconst 2, 0, [], [(2, 0)], 0),
  (36, .iadd, 0, [], [], 0),
  (37, .aload_n 0, 0, [], [], 0),
  (38, .getfield 101, 0, [9, 49, 1011, 0], [], 0),
  (41, .iload_n 1, 0, [], [], 0),
  (42, .iaload, 0, [], [], 0),
  (43, .if_icmp .ge 50, 93, [], [], 0),
  (46, .aload_n 0, 0, [], [], 0),
  (47, .aload_n 0, 0, [], [], 0),
  (48, .getfield 104, 0, [9, 50, 1012, 0], [], 0),
  (51, .iload_n 3, 0, [], [], 0),
  (52, .iconst 3, 0, [], [(3, 0)], 0),
  (53, .iload_n 2, 0, [], [], 0),
  (54, .imul, 0, [], [], 0),
  (55, .iadd, 0, [], [], 0),
  (56, .iaload, 0, [], [], 0),
  (57, .aload_n 0, 0, [], [], 0),
  (58, .getfield 104, 0, [9, 50, 1012, 0], [], 0),
  (61, .iload_n 3, 0, [], [], 0),
  (62, .iconst 3, 0, [], [(3, 0)], 0),
  (63, .iload_n 2, 0, [], [], 0),
  (64, .imul, 0, [], [], 0),
  (65, .iadd, 0, [], [], 0),
  (66, .iconst 1, 0, [], [(1, 0)], 0),
  (67, .iadd, 0, [], [], 0),
  (68, .iaload, 0, [], [], 0),
  (69, .aload_n 0, 0, [], [], 0),
  (70, .getfield 104, 0, [9, 50, 1012, 0], [], 0),
  (73, .iload_n 3, 0, [], [], 0),
  (74, .iconst 3, 0, [], [(3, 0)], 0),
  (75, .iload_n 2, 0, [], [], 0),
  (76, .imul, 0, [], [], 0),
  (77, .iadd, 0, [], [], 0),
  (78, .iconst 2, 0, [], [(2, 0)], 0),
  (79, .iadd, 0, [], [], 0),
  (80, .iaload, 0, [], [], 0),
  (81, .invokevirtual 178, 0, [0], [], 0),
  (84, .ifCond .le 9, 93, [], [], 0),
  (87, .iinc 2 1, 0, [], [(1, 0)], 0),
  (90, .goto (-58), 32, [], [], 0),
  (93, .iload_n 2, 0, [], [], 0),
  (94, .ireturn, 0, [], [], 0)])
def mr_X3_begin : MR := (3, 1, ⟨"Samovar$Kettle", "begin", "(LSamovar$Plan;)V"⟩, prog_5_method_2_code, 2, (Option.none : Option Jvm.ClassFile.FieldType), 0, 0, [(0, .aload_n 0, 0, [], [], 0),
  (1, .iconst 0, 0, [], [(0, 0)], 0),
  (2, .putfield 9, 0, [3, 0, 223, 0], [], 0),
  (5, .aload_n 0, 0, [], [], 0),
  (6, .aload_n 1, 0, [], [], 0),
  (7, .getfield 15, 0, [4, 3, 189, 0], [], 0),
  (10, .putfield 20, 0, [3, 1, 225, 0], [], 0),
  (13, .aload_n 0, 0, [], [], 0),
  (14, .aload_n 1, 0, [], [], 0),
  (15, .getfield 21, 0, [4, 4, 193, 0], [], 0),
  (18, .putfield 24, 0, [3, 2, 228, 0], [], 0),
  (21, .aload_n 0, 0, [], [], 0),
  (22, .iconst 0, 0, [], [(0, 0)], 0),
  (23, .putfield 25, 0, [3, 3, 231, 0], [], 0),
  (26, .return_, 0, [], [], 0)])
def mr_J14_fill_I : MR := (14, 2, ⟨"java/util/Arrays", "fill", "([II)V"⟩, prog_19_method_103_code, 4, (Option.none : Option Jvm.ClassFile.FieldType), 0, 0, [(0, .iconst 0, 0, [], [(0, 0)], 0),
  (1, .istore_n 2, 0, [], [], 0),
  (2, .aload_n 0, 0, [], [], 0),
  (3, .arraylength, 0, [], [], 0),
  (4, .istore_n 3, 0, [], [], 0),
  (5, .iload_n 2, 0, [], [], 0),
  (6, .iload_n 3, 0, [], [], 0),
  (7, .if_icmp .ge 13, 20, [], [], 0),
  (10, .aload_n 0, 0, [], [], 0),
  (11, .iload_n 2, 0, [], [], 0),
  (12, .iload_n 1, 0, [], [], 0),
  (13, .iastore, 0, [], [], 0),
  (14, .iinc 2 1, 0, [], [(1, 0)], 0),
  (17, .goto (-12), 5, [], [], 0),
  (20, .return_, 0, [], [], 0)])
def mr_X0_begin : MR := (0, 0, ⟨"Samovar$Company", "begin", "()V"⟩, prog_2_method_2_code, 1, (Option.none : Option Jvm.ClassFile.FieldType), 1, 23, [(0, .aload_n 0, 0, [], [], 0),
  (1, .getfield 9, 0, [0, 0, 248, 0], [], 0),
  (4, .iconst 0, 0, [], [(0, 0)], 0),
  (5, .invokestatic 24, 0, [0], [], 0),
  (8, .aload_n 0, 0, [], [], 0),
  (9, .getfield 15, 0, [0, 1, 250, 0], [], 0),
  (12, .iconst 0, 0, [], [(0, 0)], 0),
  (13, .invokestatic 24, 0, [0], [], 0),
  (16, .aload_n 0, 0, [], [], 0),
  (17, .iconst 0, 0, [], [(0, 0)], 0),
  (18, .putfield 30, 0, [0, 4, 254, 0], [], 0),
  (21, .aload_n 0, 0, [], [], 0),
  (22, .iconst 0, 0, [], [(0, 0)], 0),
  (23, .putfield 34, 0, [0, 5, 255, 0], [], 0),
  (26, .aload_n 0, 0, [], [], 0),
  (27, .iconst 0, 0, [], [(0, 0)], 0),
  (28, .putfield 37, 0, [0, 6, 257, 0], [], 0),
  (31, .aload_n 0, 0, [], [], 0),
  (32, .iconst 0, 0, [], [(0, 0)], 0),
  (33, .putfield 40, 0, [0, 7, 260, 0], [], 0),
  (36, .aload_n 0, 0, [], [], 0),
  (37, .iconst 0, 0, [], [(0, 0)], 0),
  (38, .putfield 43, 0, [0, 8, 263, 0], [], 0),
  (41, .return_, 0, [], [], 0)])
def mr_X2_light : MR := (2, 1, ⟨"Samovar$Evening", "light", "(LSamovar$Entries;)V"⟩, prog_4_method_3_code, 7, (Option.none : Option Jvm.ClassFile.FieldType), 1, 23, [(0, .aload_n 0, 0, [], [], 0),
  (1, .getfield 21, 0, [2, 3, 291, 0], [], 0),
  (4, .iconst 0, 0, [], [(0, 0)], 0),
  (5, .invokestatic 99, 0, [0], [], 0),
  (8, .iconst 0, 0, [], [(0, 0)], 0),
  (9, .istore_n 2, 0, [], [], 0),
  (10, .iload_n 2, 0, [], [], 0),
  (11, .aload_n 1, 0, [], [], 0),
  (12, .getfield 105, 0, [1, 3, 133, 0], [], 0),
  (15, .if_icmp .ge 96, 111, [], [], 0),
  (18, .iload_n 2, 0, [], [], 0),
  (19, .bipush 8, 0, [], [(8, 0)], 0),
  (21, .if_icmp .ge 90, 111, [], [], 0),
  (24, .aload_n 1, 0, [], [], 0),
  (25, .getfield 110, 0, [1, 1, 122, 0], [], 0),
  (28, .iload_n 2, 0, [], [], 0),
  (29, .iaload, 0, [], [], 0),
  (30, .istore_n 3, 0, [], [], 0),
  (31, .iload_n 3, 0, [], [], 0),
  (32, .iconst 2, 0, [], [(2, 0)], 0),
  (33, .invokestatic 113, 0, [0], [], 0),
  (36, .ifCond .eq 69, 105, [], [], 0),
  (39, .iconst 0, 0, [], [(0, 0)], 0),
  (40, .aload_n 1, 0, [], [], 0),
  (41, .getfield 117, 0, [1, 0, 118, 0], [], 0),
  (44, .iload_n 2, 0, [], [], 0),
  (45, .iaload, 0, [], [], 0),
  (46, .invokestatic 120, 0, [2, 647], [], 0),
  (49, .istore 4, 0, [], [], 0),
  (51, .bipush 24, 0, [], [(24, 0)], 0),
  (53, .iload 4, 0, [], [], 0),
  (55, .getstatic 126, 0, [1, 126], [], 0),
  (58, .iload_n 3, 0, [], [], 0),
  (59, .iaload, 0, [], [], 0),
  (60, .iadd, 0, [], [], 0),
  (61, .invokestatic 129, 0, [3, 650], [], 0),
  (64, .istore 5, 0, [], [], 0),
  (66, .iload 4, 0, [], [], 0),
  (68, .istore 6, 0, [], [], 0),
  (70, .iload 6, 0, [], [], 0),
  (72, .iload 5, 0, [], [], 0),
  (74, .if_icmp .ge 31, 105, [], [], 0),
  (77, .aload_n 0, 0, [], [], 0),
  (78, .getfield 21, 0, [2, 3, 291, 0], [], 0),
  (81, .iload 6, 0, [], [], 0),
  (83, .dup2, 0, [], [], 0),
  (84, .iaload, 0, [], [], 0),
  (85, .getstatic 132, 0, [2, 132], [], 0),
  (88, .iload_n 3, 0, [], [], 0),
  (89, .iaload, 0, [], [], 0),
  (90, .aload_n 1, 0, [], [], 0),
  (91, .getfield 135, 0, [1, 2, 129, 0], [], 0),
  (94, .iload_n 2, 0, [], [], 0),
  (95, .iaload, 0, [], [], 0),
  (96, .imul, 0, [], [], 0),
  (97, .iadd, 0, [], [], 0),
  (98, .iastore, 0, [], [], 0),
  (99, .iinc 6 1, 0, [], [(1, 0)], 0),
  (102, .goto (-32), 70, [], [], 0),
  (105, .iinc 2 1, 0, [], [(1, 0)], 0),
  (108, .goto (-98), 10, [], [], 0),
  (111, .return_, 0, [], [], 0)])
def mr_X3_meet : MR := (3, 2, ⟨"Samovar$Kettle", "meet", "(LSamovar$Plan;I)Z"⟩, prog_5_method_3_code, 7, (Option.some Jvm.ClassFile.FieldType.boolean), 1, 21, [(0, .aload_n 1, 0, [], [], 0),
  (1, .getfield 28, 0, [4, 2, 187, 0], [], 0),
  (4, .astore_n 3, 0, [], [], 0),
  (5, .iconst 0, 0, [], [(0, 0)], 0),
  (6, .istore 4, 0, [], [], 0),
  (8, .iconst 0, 0, [], [(0, 0)], 0),
  (9, .istore 5, 0, [], [], 0),
  (11, .iload 5, 0, [], [], 0),
  (13, .aload_n 3, 0, [], [], 0),
  (14, .getfield 32, 0, [1, 3, 134, 0], [], 0),
  (17, .if_icmp .ge 150, 167, [], [], 0),
  (20, .iload 5, 0, [], [], 0),
  (22, .bipush 8, 0, [], [(8, 0)], 0),
  (24, .if_icmp .ge 143, 167, [], [], 0),
  (27, .aload_n 3, 0, [], [], 0),
  (28, .getfield 37, 0, [1, 0, 117, 0], [], 0),
  (31, .iload 5, 0, [], [], 0),
  (33, .iaload, 0, [], [], 0),
  (34, .iload_n 2, 0, [], [], 0),
  (35, .if_icmp .ne 126, 161, [], [], 0),
  (38, .aload_n 1, 0, [], [], 0),
  (39, .getfield 41, 0, [4, 5, 196, 0], [], 0),
  (42, .iload 5, 0, [], [], 0),
  (44, .ishr, 0, [], [], 0),
  (45, .iconst 1, 0, [], [(1, 0)], 0),
  (46, .iand, 0, [], [], 0),
  (47, .ifCond .ne 114, 161, [], [], 0),
  (50, .aload_n 3, 0, [], [], 0),
  (51, .getfield 44, 0, [1, 1, 123, 0], [], 0),
  (54, .iload 5, 0, [], [], 0),
  (56, .iaload, 0, [], [], 0),
  (57, .lookupswitch 101 #[(0, 27), (1, 77)], 158, [], [(0, 84), (1, 134)], 0),
  (84, .aload_n 3, 0, [], [], 0),
  (85, .getfield 47, 0, [1, 2, 128, 0], [], 0),
  (88, .iload 5, 0, [], [], 0),
  (90, .iaload, 0, [], [], 0),
  (91, .bipush 30, 0, [], [(30, 0)], 0),
  (93, .aload_n 0, 0, [], [], 0),
  (94, .getfield 20, 0, [3, 1, 225, 0], [], 0),
  (97, .isub, 0, [], [], 0),
  (98, .invokestatic 50, 0, [3, 657], [], 0),
  (101, .istore 6, 0, [], [], 0),
  (103, .aload_n 0, 0, [], [], 0),
  (104, .dup, 0, [], [], 0),
  (105, .getfield 20, 0, [3, 1, 225, 0], [], 0),
  (108, .iload 6, 0, [], [], 0),
  (110, .iadd, 0, [], [], 0),
  (111, .putfield 20, 0, [3, 1, 225, 0], [], 0),
  (114, .aload_n 0, 0, [], [], 0),
  (115, .iconst 0, 0, [], [(0, 0)], 0),
  (116, .aload_n 0, 0, [], [], 0),
  (117, .getfield 9, 0, [3, 0, 223, 0], [], 0),
  (120, .iconst 4, 0, [], [(4, 0)], 0),
  (121, .iload 6, 0, [], [], 0),
  (123, .imul, 0, [], [], 0),
  (124, .isub, 0, [], [], 0),
  (125, .invokestatic 56, 0, [2, 658], [], 0),
  (128, .putfield 9, 0, [3, 0, 223, 0], [], 0),
  (131, .goto 30, 161, [], [], 0),
  (134, .aload_n 0, 0, [], [], 0),
  (135, .bipush 40, 0, [], [(40, 0)], 0),
  (137, .aload_n 0, 0, [], [], 0),
  (138, .getfield 24, 0, [3, 2, 228, 0], [], 0),
  (141, .aload_n 3, 0, [], [], 0),
  (142, .getfield 47, 0, [1, 2, 128, 0], [], 0),
  (145, .iload 5, 0, [], [], 0),
  (147, .iaload, 0, [], [], 0),
  (148, .iadd, 0, [], [], 0),
  (149, .invokestatic 50, 0, [3, 657], [], 0),
  (152, .putfield 24, 0, [3, 2, 228, 0], [], 0),
  (155, .goto 6, 161, [], [], 0),
  (158, .iconst 1, 0, [], [(1, 0)], 0),
  (159, .istore 4, 0, [], [], 0),
  (161, .iinc 5 1, 0, [], [(1, 0)], 0),
  (164, .goto (-153), 11, [], [], 0),
  (167, .iload 4, 0, [], [], 0),
  (169, .ireturn, 0, [], [], 0)])
def mr_X3_warm : MR := (3, 1, ⟨"Samovar$Kettle", "warm", "(I)V"⟩, prog_5_method_4_code, 2, (Option.none : Option Jvm.ClassFile.FieldType), 1, 21, [(0, .aload_n 0, 0, [], [], 0),
  (1, .bipush 100, 0, [], [(100, 0)], 0),
  (3, .iconst 0, 0, [], [(0, 0)], 0),
  (4, .aload_n 0, 0, [], [], 0),
  (5, .getfield 9, 0, [3, 0, 223, 0], [], 0),
  (8, .iload_n 1, 0, [], [], 0),
  (9, .iadd, 0, [], [], 0),
  (10, .iconst 2, 0, [], [(2, 0)], 0),
  (11, .isub, 0, [], [], 0),
  (12, .aload_n 0, 0, [], [], 0),
  (13, .getfield 20, 0, [3, 1, 225, 0], [], 0),
  (16, .iconst 5, 0, [], [(5, 0)], 0),
  (17, .idiv, 0, [], [], 0),
  (18, .isub, 0, [], [], 0),
  (19, .invokestatic 56, 0, [2, 658], [], 0),
  (22, .invokestatic 50, 0, [3, 657], [], 0),
  (25, .putfield 9, 0, [3, 0, 223, 0], [], 0),
  (28, .aload_n 0, 0, [], [], 0),
  (29, .getfield 9, 0, [3, 0, 223, 0], [], 0),
  (32, .bipush 100, 0, [], [(100, 0)], 0),
  (34, .if_icmp .ne 30, 64, [], [], 0),
  (37, .aload_n 0, 0, [], [], 0),
  (38, .getfield 20, 0, [3, 1, 225, 0], [], 0),
  (41, .ifCond .le 23, 64, [], [], 0),
  (44, .aload_n 0, 0, [], [], 0),
  (45, .dup, 0, [], [], 0),
  (46, .getfield 20, 0, [3, 1, 225, 0], [], 0),
  (49, .iconst 1, 0, [], [(1, 0)], 0),
  (50, .isub, 0, [], [], 0),
  (51, .putfield 20, 0, [3, 1, 225, 0], [], 0),
  (54, .aload_n 0, 0, [], [], 0),
  (55, .dup, 0, [], [], 0),
  (56, .getfield 25, 0, [3, 3, 231, 0], [], 0),
  (59, .iconst 1, 0, [], [(1, 0)], 0),
  (60, .iadd, 0, [], [], 0),
  (61, .putfield 25, 0, [3, 3, 231, 0], [], 0),
  (64, .return_, 0, [], [], 0)])
def mr_X3_boils : MR := (3, 0, ⟨"Samovar$Kettle", "boils", "()Z"⟩, prog_5_method_5_code, 1, (Option.some Jvm.ClassFile.FieldType.boolean), 0, 0, [(0, .aload_n 0, 0, [], [], 0),
  (1, .getfield 9, 0, [3, 0, 223, 0], [], 0),
  (4, .bipush 80, 0, [], [(80, 0)], 0),
  (6, .if_icmp .lt 14, 20, [], [], 0),
  (9, .aload_n 0, 0, [], [], 0),
  (10, .getfield 20, 0, [3, 1, 225, 0], [], 0),
  (13, .ifCond .le 7, 20, [], [], 0),
  (16, .iconst 1, 0, [], [(1, 0)], 0),
  (17, .goto 4, 21, [], [], 0),
  (20, .iconst 0, 0, [], [(0, 0)], 0),
  (21, .ireturn, 0, [], [], 0)])
def mr_X0_join : MR := (0, 2, ⟨"Samovar$Company", "join", "(II)V"⟩, prog_2_method_4_code, 3, (Option.none : Option Jvm.ClassFile.FieldType), 0, 0, [(0, .iload_n 1, 0, [], [], 0),
  (1, .ifCond .lt 9, 10, [], [], 0),
  (4, .iload_n 1, 0, [], [], 0),
  (5, .bipush 8, 0, [], [(8, 0)], 0),
  (7, .if_icmp .lt 4, 11, [], [], 0),
  (10, .return_, 0, [], [], 0),
  (11, .aload_n 0, 0, [], [], 0),
  (12, .getfield 9, 0, [0, 0, 248, 0], [], 0),
  (15, .iload_n 1, 0, [], [], 0),
  (16, .iconst 1, 0, [], [(1, 0)], 0),
  (17, .iastore, 0, [], [], 0),
  (18, .aload_n 0, 0, [], [], 0),
  (19, .getfield 18, 0, [0, 2, 252, 0], [], 0),
  (22, .iload_n 1, 0, [], [], 0),
  (23, .iload_n 2, 0, [], [], 0),
  (24, .iastore, 0, [], [], 0),
  (25, .aload_n 0, 0, [], [], 0),
  (26, .getfield 21, 0, [0, 3, 253, 0], [], 0),
  (29, .iload_n 1, 0, [], [], 0),
  (30, .aload_n 0, 0, [], [], 0),
  (31, .getfield 30, 0, [0, 4, 254, 0], [], 0),
  (34, .iastore, 0, [], [], 0),
  (35, .aload_n 0, 0, [], [], 0),
  (36, .dup, 0, [], [], 0),
  (37, .getfield 30, 0, [0, 4, 254, 0], [], 0),
  (40, .iconst 1, 0, [], [(1, 0)], 0),
  (41, .iadd, 0, [], [], 0),
  (42, .putfield 30, 0, [0, 4, 254, 0], [], 0),
  (45, .aload_n 0, 0, [], [], 0),
  (46, .dup, 0, [], [], 0),
  (47, .getfield 34, 0, [0, 5, 255, 0], [], 0),
  (50, .iconst 1, 0, [], [(1, 0)], 0),
  (51, .iadd, 0, [], [], 0),
  (52, .putfield 34, 0, [0, 5, 255, 0], [], 0),
  (55, .return_, 0, [], [], 0)])
def mr_X0_lineUp : MR := (0, 2, ⟨"Samovar$Company", "lineUp", "(LSamovar$Entries;I)V"⟩, prog_2_method_3_code, 4, (Option.none : Option Jvm.ClassFile.FieldType), 1, 22, [(0, .iconst 0, 0, [], [(0, 0)], 0),
  (1, .istore_n 3, 0, [], [], 0),
  (2, .iload_n 3, 0, [], [], 0),
  (3, .aload_n 1, 0, [], [], 0),
  (4, .getfield 46, 0, [1, 3, 132, 0], [], 0),
  (7, .if_icmp .ge 31, 38, [], [], 0),
  (10, .iload_n 3, 0, [], [], 0),
  (11, .bipush 8, 0, [], [(8, 0)], 0),
  (13, .if_icmp .ge 25, 38, [], [], 0),
  (16, .aload_n 1, 0, [], [], 0),
  (17, .getfield 51, 0, [1, 0, 116, 0], [], 0),
  (20, .iload_n 3, 0, [], [], 0),
  (21, .iaload, 0, [], [], 0),
  (22, .iload_n 2, 0, [], [], 0),
  (23, .if_icmp .ne 9, 32, [], [], 0),
  (26, .aload_n 0, 0, [], [], 0),
  (27, .iload_n 3, 0, [], [], 0),
  (28, .iload_n 2, 0, [], [], 0),
  (29, .invokevirtual 54, 0, [0], [], 0),
  (32, .iinc 3 1, 0, [], [(1, 0)], 0),
  (35, .goto (-33), 2, [], [], 0),
  (38, .iconst 0, 0, [], [(0, 0)], 0),
  (39, .istore_n 3, 0, [], [], 0),
  (40, .iload_n 3, 0, [], [], 0),
  (41, .aload_n 1, 0, [], [], 0),
  (42, .getfield 46, 0, [1, 3, 132, 0], [], 0),
  (45, .if_icmp .ge 50, 95, [], [], 0),
  (48, .iload_n 3, 0, [], [], 0),
  (49, .bipush 8, 0, [], [(8, 0)], 0),
  (51, .if_icmp .ge 44, 95, [], [], 0),
  (54, .aload_n 0, 0, [], [], 0),
  (55, .getfield 9, 0, [0, 0, 248, 0], [], 0),
  (58, .iload_n 3, 0, [], [], 0),
  (59, .iaload, 0, [], [], 0),
  (60, .iconst 2, 0, [], [(2, 0)], 0),
  (61, .if_icmp .ne 28, 89, [], [], 0),
  (64, .aload_n 0, 0, [], [], 0),
  (65, .getfield 18, 0, [0, 2, 252, 0], [], 0),
  (68, .iload_n 3, 0, [], [], 0),
  (69, .iaload, 0, [], [], 0),
  (70, .iconst 3, 0, [], [(3, 0)], 0),
  (71, .iadd, 0, [], [], 0),
  (72, .aload_n 1, 0, [], [], 0),
  (73, .getfield 58, 0, [1, 1, 124, 0], [], 0),
  (76, .iload_n 3, 0, [], [], 0),
  (77, .iaload, 0, [], [], 0),
  (78, .iadd, 0, [], [], 0),
  (79, .iload_n 2, 0, [], [], 0),
  (80, .if_icmp .ne 9, 89, [], [], 0),
  (83, .aload_n 0, 0, [], [], 0),
  (84, .iload_n 3, 0, [], [], 0),
  (85, .iload_n 2, 0, [], [], 0),
  (86, .invokevirtual 54, 0, [0], [], 0),
  (89, .iinc 3 1, 0, [], [(1, 0)], 0),
  (92, .goto (-52), 40, [], [], 0),
  (95, .return_, 0, [], [], 0)])
def mr_X0_serve : MR := (0, 3, ⟨"Samovar$Company", "serve", "(LSamovar$Entries;LSamovar$Kettle;I)I"⟩, prog_2_method_5_code, 6, (Option.some Jvm.ClassFile.FieldType.int), 0, 0, [(0, .iconst (-1), 0, [], [((-1), 0)], 0),
  (1, .istore 4, 0, [], [], 0),
  (3, .iconst 0, 0, [], [(0, 0)], 0),
  (4, .istore 5, 0, [], [], 0),
  (6, .iload 5, 0, [], [], 0),
  (8, .aload_n 1, 0, [], [], 0),
  (9, .getfield 46, 0, [1, 3, 132, 0], [], 0),
  (12, .if_icmp .ge 71, 83, [], [], 0),
  (15, .iload 5, 0, [], [], 0),
  (17, .bipush 8, 0, [], [(8, 0)], 0),
  (19, .if_icmp .ge 64, 83, [], [], 0),
  (22, .aload_n 0, 0, [], [], 0),
  (23, .getfield 9, 0, [0, 0, 248, 0], [], 0),
  (26, .iload 5, 0, [], [], 0),
  (28, .iaload, 0, [], [], 0),
  (29, .iconst 1, 0, [], [(1, 0)], 0),
  (30, .if_icmp .ne 47, 77, [], [], 0),
  (33, .aload_n 2, 0, [], [], 0),
  (34, .getfield 61, 0, [3, 2, 230, 0], [], 0),
  (37, .iconst 1, 0, [], [(1, 0)], 0),
  (38, .iconst 2, 0, [], [(2, 0)], 0),
  (39, .aload_n 1, 0, [], [], 0),
  (40, .getfield 58, 0, [1, 1, 124, 0], [], 0),
  (43, .iload 5, 0, [], [], 0),
  (45, .iaload, 0, [], [], 0),
  (46, .imul, 0, [], [], 0),
  (47, .iadd, 0, [], [], 0),
  (48, .if_icmp .lt 29, 77, [], [], 0),
  (51, .iload 4, 0, [], [], 0),
  (53, .ifCond .lt 20, 73, [], [], 0),
  (56, .aload_n 0, 0, [], [], 0),
  (57, .getfield 21, 0, [0, 3, 253, 0], [], 0),
  (60, .iload 5, 0, [], [], 0),
  (62, .iaload, 0, [], [], 0),
  (63, .aload_n 0, 0, [], [], 0),
  (64, .getfield 21, 0, [0, 3, 253, 0], [], 0),
  (67, .iload 4, 0, [], [], 0),
  (69, .iaload, 0, [], [], 0),
  (70, .if_icmp .ge 7, 77, [], [], 0),
  (73, .iload 5, 0, [], [], 0),
  (75, .istore 4, 0, [], [], 0),
  (77, .iinc 5 1, 0, [], [(1, 0)], 0),
  (80, .goto (-74), 6, [], [], 0),
  (83, .iload 4, 0, [], [], 0),
  (85, .ifCond .ge 5, 90, [], [], 0),
  (88, .iconst (-1), 0, [], [((-1), 0)], 0),
  (89, .ireturn, 0, [], [], 0),
  (90, .aload_n 2, 0, [], [], 0),
  (91, .dup, 0, [], [], 0),
  (92, .getfield 61, 0, [3, 2, 230, 0], [], 0),
  (95, .iconst 1, 0, [], [(1, 0)], 0),
  (96, .iconst 2, 0, [], [(2, 0)], 0),
  (97, .aload_n 1, 0, [], [], 0),
  (98, .getfield 58, 0, [1, 1, 124, 0], [], 0),
  (101, .iload 4, 0, [], [], 0),
  (103, .iaload, 0, [], [], 0),
  (104, .imul, 0, [], [], 0),
  (105, .iadd, 0, [], [], 0),
  (106, .isub, 0, [], [], 0),
  (107, .putfield 61, 0, [3, 2, 230, 0], [], 0),
  (110, .aload_n 2, 0, [], [], 0),
  (111, .dup, 0, [], [], 0),
  (112, .getfield 66, 0, [3, 1, 227, 0], [], 0),
  (115, .iconst 1, 0, [], [(1, 0)], 0),
  (116, .isub, 0, [], [], 0),
  (117, .putfield 66, 0, [3, 1, 227, 0], [], 0),
  (120, .aload_n 0, 0, [], [], 0),
  (121, .getfield 15, 0, [0, 1, 250, 0], [], 0),
  (124, .iload 4, 0, [], [], 0),
  (126, .dup2, 0, [], [], 0),
  (127, .iaload, 0, [], [], 0),
  (128, .iconst 1, 0, [], [(1, 0)], 0),
  (129, .iadd, 0, [], [], 0),
  (130, .iastore, 0, [], [], 0),
  (131, .aload_n 0, 0, [], [], 0),
  (132, .getfield 18, 0, [0, 2, 252, 0], [], 0),
  (135, .iload 4, 0, [], [], 0),
  (137, .iload_n 3, 0, [], [], 0),
  (138, .iastore, 0, [], [], 0),
  (139, .aload_n 0, 0, [], [], 0),
  (140, .dup, 0, [], [], 0),
  (141, .getfield 34, 0, [0, 5, 255, 0], [], 0),
  (144, .iconst 1, 0, [], [(1, 0)], 0),
  (145, .isub, 0, [], [], 0),
  (146, .putfield 34, 0, [0, 5, 255, 0], [], 0),
  (149, .aload_n 0, 0, [], [], 0),
  (150, .dup, 0, [], [], 0),
  (151, .getfield 37, 0, [0, 6, 257, 0], [], 0),
  (154, .iconst 1, 0, [], [(1, 0)], 0),
  (155, .iadd, 0, [], [], 0),
  (156, .putfield 37, 0, [0, 6, 257, 0], [], 0),
  (159, .aload_n 0, 0, [], [], 0),
  (160, .getfield 15, 0, [0, 1, 250, 0], [], 0),
  (163, .iload 4, 0, [], [], 0),
  (165, .iaload, 0, [], [], 0),
  (166, .aload_n 1, 0, [], [], 0),
  (167, .getfield 69, 0, [1, 2, 130, 0], [], 0),
  (170, .iload 4, 0, [], [], 0),
  (172, .iaload, 0, [], [], 0),
  (173, .if_icmp .lt 27, 200, [], [], 0),
  (176, .aload_n 0, 0, [], [], 0),
  (177, .getfield 9, 0, [0, 0, 248, 0], [], 0),
  (180, .iload 4, 0, [], [], 0),
  (182, .iconst 3, 0, [], [(3, 0)], 0),
  (183, .iastore, 0, [], [], 0),
  (184, .aload_n 0, 0, [], [], 0),
  (185, .dup, 0, [], [], 0),
  (186, .getfield 40, 0, [0, 7, 260, 0], [], 0),
  (189, .iconst 1, 0, [], [(1, 0)], 0),
  (190, .iload 4, 0, [], [], 0),
  (192, .ishl, 0, [], [], 0),
  (193, .ior, 0, [], [], 0),
  (194, .putfield 40, 0, [0, 7, 260, 0], [], 0),
  (197, .goto 11, 208, [], [], 0),
  (200, .aload_n 0, 0, [], [], 0),
  (201, .getfield 9, 0, [0, 0, 248, 0], [], 0),
  (204, .iload 4, 0, [], [], 0),
  (206, .iconst 2, 0, [], [(2, 0)], 0),
  (207, .iastore, 0, [], [], 0),
  (208, .iload 4, 0, [], [], 0),
  (210, .ireturn, 0, [], [], 0)])
def mr_X0_losePatience : MR := (0, 1, ⟨"Samovar$Company", "losePatience", "(I)V"⟩, prog_2_method_6_code, 3, (Option.none : Option Jvm.ClassFile.FieldType), 0, 0, [(0, .iconst 0, 0, [], [(0, 0)], 0),
  (1, .istore_n 2, 0, [], [], 0),
  (2, .iload_n 2, 0, [], [], 0),
  (3, .bipush 8, 0, [], [(8, 0)], 0),
  (5, .if_icmp .ge 63, 68, [], [], 0),
  (8, .aload_n 0, 0, [], [], 0),
  (9, .getfield 9, 0, [0, 0, 248, 0], [], 0),
  (12, .iload_n 2, 0, [], [], 0),
  (13, .iaload, 0, [], [], 0),
  (14, .iconst 1, 0, [], [(1, 0)], 0),
  (15, .if_icmp .ne 47, 62, [], [], 0),
  (18, .iload_n 1, 0, [], [], 0),
  (19, .aload_n 0, 0, [], [], 0),
  (20, .getfield 18, 0, [0, 2, 252, 0], [], 0),
  (23, .iload_n 2, 0, [], [], 0),
  (24, .iaload, 0, [], [], 0),
  (25, .isub, 0, [], [], 0),
  (26, .iconst 1, 0, [], [(1, 0)], 0),
  (27, .iadd, 0, [], [], 0),
  (28, .bipush 6, 0, [], [(6, 0)], 0),
  (30, .if_icmp .lt 32, 62, [], [], 0),
  (33, .aload_n 0, 0, [], [], 0),
  (34, .getfield 9, 0, [0, 0, 248, 0], [], 0),
  (37, .iload_n 2, 0, [], [], 0),
  (38, .iconst 4, 0, [], [(4, 0)], 0),
  (39, .iastore, 0, [], [], 0),
  (40, .aload_n 0, 0, [], [], 0),
  (41, .dup, 0, [], [], 0),
  (42, .getfield 43, 0, [0, 8, 263, 0], [], 0),
  (45, .iconst 1, 0, [], [(1, 0)], 0),
  (46, .iload_n 2, 0, [], [], 0),
  (47, .ishl, 0, [], [], 0),
  (48, .ior, 0, [], [], 0),
  (49, .putfield 43, 0, [0, 8, 263, 0], [], 0),
  (52, .aload_n 0, 0, [], [], 0),
  (53, .dup, 0, [], [], 0),
  (54, .getfield 34, 0, [0, 5, 255, 0], [], 0),
  (57, .iconst 1, 0, [], [(1, 0)], 0),
  (58, .isub, 0, [], [], 0),
  (59, .putfield 34, 0, [0, 5, 255, 0], [], 0),
  (62, .iinc 2 1, 0, [], [(1, 0)], 0),
  (65, .goto (-63), 2, [], [], 0),
  (68, .return_, 0, [], [], 0)])
def mr_X2_note : MR := (2, 1, ⟨"Samovar$Evening", "note", "(I)V"⟩, prog_4_method_4_code, 2, (Option.none : Option Jvm.ClassFile.FieldType), 1, 26, [(0, .iload_n 1, 0, [], [], 0),
  (1, .bipush 23, 0, [], [(23, 0)], 0),
  (3, .invokestatic 113, 0, [0], [], 0),
  (6, .ifCond .ne 4, 10, [], [], 0),
  (9, .return_, 0, [], [], 0),
  (10, .aload_n 0, 0, [], [], 0),
  (11, .getfield 9, 0, [2, 0, 285, 0], [], 0),
  (14, .iload_n 1, 0, [], [], 0),
  (15, .aload_n 0, 0, [], [], 0),
  (16, .getfield 39, 0, [2, 8, 299, 0], [], 0),
  (19, .getfield 138, 0, [3, 0, 224, 0], [], 0),
  (22, .iastore, 0, [], [], 0),
  (23, .aload_n 0, 0, [], [], 0),
  (24, .getfield 15, 0, [2, 1, 287, 0], [], 0),
  (27, .iload_n 1, 0, [], [], 0),
  (28, .aload_n 0, 0, [], [], 0),
  (29, .getfield 39, 0, [2, 8, 299, 0], [], 0),
  (32, .getfield 140, 0, [3, 1, 226, 0], [], 0),
  (35, .iastore, 0, [], [], 0),
  (36, .aload_n 0, 0, [], [], 0),
  (37, .getfield 18, 0, [2, 2, 289, 0], [], 0),
  (40, .iload_n 1, 0, [], [], 0),
  (41, .aload_n 0, 0, [], [], 0),
  (42, .getfield 39, 0, [2, 8, 299, 0], [], 0),
  (45, .getfield 142, 0, [3, 2, 229, 0], [], 0),
  (48, .iastore, 0, [], [], 0),
  (49, .aload_n 0, 0, [], [], 0),
  (50, .getfield 27, 0, [2, 5, 295, 0], [], 0),
  (53, .iload_n 1, 0, [], [], 0),
  (54, .aload_n 0, 0, [], [], 0),
  (55, .getfield 46, 0, [2, 9, 301, 0], [], 0),
  (58, .getfield 144, 0, [0, 5, 256, 0], [], 0),
  (61, .iastore, 0, [], [], 0),
  (62, .aload_n 0, 0, [], [], 0),
  (63, .getfield 46, 0, [2, 9, 301, 0], [], 0),
  (66, .getfield 146, 0, [0, 0, 249, 0], [], 0),
  (69, .iconst 0, 0, [], [(0, 0)], 0),
  (70, .aload_n 0, 0, [], [], 0),
  (71, .getfield 30, 0, [2, 6, 297, 0], [], 0),
  (74, .iload_n 1, 0, [], [], 0),
  (75, .bipush 8, 0, [], [(8, 0)], 0),
  (77, .imul, 0, [], [], 0),
  (78, .bipush 8, 0, [], [(8, 0)], 0),
  (80, .invokestatic 149, 0, [1, 687], [], 0),
  (83, .aload_n 0, 0, [], [], 0),
  (84, .getfield 46, 0, [2, 9, 301, 0], [], 0),
  (87, .getfield 155, 0, [0, 1, 251, 0], [], 0),
  (90, .iconst 0, 0, [], [(0, 0)], 0),
  (91, .aload_n 0, 0, [], [], 0),
  (92, .getfield 33, 0, [2, 7, 298, 0], [], 0),
  (95, .iload_n 1, 0, [], [], 0),
  (96, .bipush 8, 0, [], [(8, 0)], 0),
  (98, .imul, 0, [], [], 0),
  (99, .bipush 8, 0, [], [(8, 0)], 0),
  (101, .invokestatic 149, 0, [1, 687], [], 0),
  (104, .return_, 0, [], [], 0)])
def mr_X2_pass : MR := (2, 1, ⟨"Samovar$Evening", "pass", "(LSamovar$Plan;)V"⟩, prog_4_method_2_code, 4, (Option.none : Option Jvm.ClassFile.FieldType), 2, 49, [(0, .aload_n 0, 0, [], [], 0),
  (1, .getfield 39, 0, [2, 8, 299, 0], [], 0),
  (4, .aload_n 1, 0, [], [], 0),
  (5, .invokevirtual 50, 0, [0], [], 0),
  (8, .aload_n 0, 0, [], [], 0),
  (9, .getfield 46, 0, [2, 9, 301, 0], [], 0),
  (12, .invokevirtual 54, 0, [0], [], 0),
  (15, .aload_n 0, 0, [], [], 0),
  (16, .iconst 0, 0, [], [(0, 0)], 0),
  (17, .putfield 56, 0, [2, 10, 304, 0], [], 0),
  (20, .aload_n 0, 0, [], [], 0),
  (21, .aload_n 1, 0, [], [], 0),
  (22, .getfield 60, 0, [4, 0, 181, 0], [], 0),
  (25, .invokevirtual 66, 0, [0], [], 0),
  (28, .iconst 0, 0, [], [(0, 0)], 0),
  (29, .istore_n 2, 0, [], [], 0),
  (30, .iload_n 2, 0, [], [], 0),
  (31, .bipush 24, 0, [], [(24, 0)], 0),
  (33, .if_icmp .ge 123, 156, [], [], 0),
  (36, .aload_n 0, 0, [], [], 0),
  (37, .getfield 39, 0, [2, 8, 299, 0], [], 0),
  (40, .aload_n 1, 0, [], [], 0),
  (41, .iload_n 2, 0, [], [], 0),
  (42, .invokevirtual 70, 0, [0], [], 0),
  (45, .ifCond .eq 13, 58, [], [], 0),
  (48, .aload_n 0, 0, [], [], 0),
  (49, .getfield 21, 0, [2, 3, 291, 0], [], 0),
  (52, .iload_n 2, 0, [], [], 0),
  (53, .dup2, 0, [], [], 0),
  (54, .iaload, 0, [], [], 0),
  (55, .iconst 2, 0, [], [(2, 0)], 0),
  (56, .imul, 0, [], [], 0),
  (57, .iastore, 0, [], [], 0),
  (58, .aload_n 0, 0, [], [], 0),
  (59, .getfield 39, 0, [2, 8, 299, 0], [], 0),
  (62, .aload_n 0, 0, [], [], 0),
  (63, .getfield 21, 0, [2, 3, 291, 0], [], 0),
  (66, .iload_n 2, 0, [], [], 0),
  (67, .iaload, 0, [], [], 0),
  (68, .invokevirtual 74, 0, [0], [], 0),
  (71, .aload_n 0, 0, [], [], 0),
  (72, .getfield 39, 0, [2, 8, 299, 0], [], 0),
  (75, .invokevirtual 78, 0, [0], [], 0),
  (78, .istore_n 3, 0, [], [], 0),
  (79, .aload_n 0, 0, [], [], 0),
  (80, .getfield 46, 0, [2, 9, 301, 0], [], 0),
  (83, .aload_n 1, 0, [], [], 0),
  (84, .getfield 82, 0, [4, 1, 184, 0], [], 0),
  (87, .iload_n 2, 0, [], [], 0),
  (88, .invokevirtual 85, 0, [0], [], 0),
  (91, .aload_n 0, 0, [], [], 0),
  (92, .getfield 24, 0, [2, 4, 293, 0], [], 0),
  (95, .iload_n 2, 0, [], [], 0),
  (96, .iload_n 3, 0, [], [], 0),
  (97, .ifCond .eq 22, 119, [], [], 0),
  (100, .aload_n 0, 0, [], [], 0),
  (101, .getfield 46, 0, [2, 9, 301, 0], [], 0),
  (104, .aload_n 1, 0, [], [], 0),
  (105, .getfield 82, 0, [4, 1, 184, 0], [], 0),
  (108, .aload_n 0, 0, [], [], 0),
  (109, .getfield 39, 0, [2, 8, 299, 0], [], 0),
  (112, .iload_n 2, 0, [], [], 0),
  (113, .invokevirtual 89, 0, [0], [], 0),
  (116, .goto 4, 120, [], [], 0),
  (119, .iconst (-1), 0, [], [((-1), 0)], 0),
  (120, .iastore, 0, [], [], 0),
  (121, .aload_n 0, 0, [], [], 0),
  (122, .getfield 46, 0, [2, 9, 301, 0], [], 0),
  (125, .iload_n 2, 0, [], [], 0),
  (126, .invokevirtual 93, 0, [0], [], 0),
  (129, .iload_n 3, 0, [], [], 0),
  (130, .ifCond .eq 15, 145, [], [], 0),
  (133, .aload_n 0, 0, [], [], 0),
  (134, .dup, 0, [], [], 0),
  (135, .getfield 56, 0, [2, 10, 304, 0], [], 0),
  (138, .iconst 1, 0, [], [(1, 0)], 0),
  (139, .iload_n 2, 0, [], [], 0),
  (140, .ishl, 0, [], [], 0),
  (141, .ior, 0, [], [], 0),
  (142, .putfield 56, 0, [2, 10, 304, 0], [], 0),
  (145, .aload_n 0, 0, [], [], 0),
  (146, .iload_n 2, 0, [], [], 0),
  (147, .invokevirtual 96, 0, [0], [], 0),
  (150, .iinc 2 1, 0, [], [(1, 0)], 0),
  (153, .goto (-123), 30, [], [], 0),
  (156, .return_, 0, [], [], 0)])
def mr_X8_toldEvening : MR := (8, 0, ⟨"Samovar", "toldEvening", "()LSamovar$Evening;"⟩, prog_1_method_46_code, 1, (Option.some (Jvm.ClassFile.FieldType.object "Samovar$Evening")), 3, 72, [(0, .aload_n 0, 0, [], [], 0),
  (1, .getfield 346, 0, [8, 11, 393, 1], [], 0),
  (4, .ifCond .ne 19, 23, [], [], 0),
  (7, .aload_n 0, 0, [], [], 0),
  (8, .getfield 50, 0, [8, 5, 387, 0], [], 0),
  (11, .aload_n 0, 0, [], [], 0),
  (12, .getfield 43, 0, [8, 4, 386, 0], [], 0),
  (15, .invokevirtual 352, 0, [0], [], 0),
  (18, .aload_n 0, 0, [], [], 0),
  (19, .iconst 1, 0, [], [(1, 0)], 0),
  (20, .putfield 346, 0, [8, 11, 393, 1], [], 0),
  (23, .aload_n 0, 0, [], [], 0),
  (24, .getfield 50, 0, [8, 5, 387, 0], [], 0),
  (27, .areturn, 0, [], [], 0)])
def mr_X8_at : MR := (8, 2, ⟨"Samovar", "at", "(II)I"⟩, prog_1_method_12_code, 4, (Option.some Jvm.ClassFile.FieldType.int), 4, 92, [(0, .iload_n 1, 0, [], [], 0),
  (1, .bipush 23, 0, [], [(23, 0)], 0),
  (3, .invokestatic 83, 0, [0], [], 0),
  (6, .ifCond .ne 6, 12, [], [], 0),
  (9, .bipush (-2), 0, [], [((-2), 0)], 0),
  (11, .ireturn, 0, [], [], 0),
  (12, .aload_n 0, 0, [], [], 0),
  (13, .invokevirtual 139, 0, [0], [], 0),
  (16, .astore_n 3, 0, [], [], 0),
  (17, .iload_n 2, 0, [], [], 0),
  (18, .tableswitch 82 0 5 #[38, 45, 52, 59, 66, 75], 100, [], [(0, 56), (1, 63), (2, 70), (3, 77), (4, 84), (5, 93)], 0),
  (56, .aload_n 3, 0, [], [], 0),
  (57, .getfield 143, 0, [2, 0, 286, 0], [], 0),
  (60, .iload_n 1, 0, [], [], 0),
  (61, .iaload, 0, [], [], 0),
  (62, .ireturn, 0, [], [], 0),
  (63, .aload_n 3, 0, [], [], 0),
  (64, .getfield 147, 0, [2, 1, 288, 0], [], 0),
  (67, .iload_n 1, 0, [], [], 0),
  (68, .iaload, 0, [], [], 0),
  (69, .ireturn, 0, [], [], 0),
  (70, .aload_n 3, 0, [], [], 0),
  (71, .getfield 149, 0, [2, 2, 290, 0], [], 0),
  (74, .iload_n 1, 0, [], [], 0),
  (75, .iaload, 0, [], [], 0),
  (76, .ireturn, 0, [], [], 0),
  (77, .aload_n 3, 0, [], [], 0),
  (78, .getfield 151, 0, [2, 3, 292, 0], [], 0),
  (81, .iload_n 1, 0, [], [], 0),
  (82, .iaload, 0, [], [], 0),
  (83, .ireturn, 0, [], [], 0),
  (84, .aload_n 3, 0, [], [], 0),
  (85, .getfield 154, 0, [2, 10, 305, 0], [], 0),
  (88, .iload_n 1, 0, [], [], 0),
  (89, .ishr, 0, [], [], 0),
  (90, .iconst 1, 0, [], [(1, 0)], 0),
  (91, .iand, 0, [], [], 0),
  (92, .ireturn, 0, [], [], 0),
  (93, .aload_n 3, 0, [], [], 0),
  (94, .getfield 157, 0, [2, 4, 294, 0], [], 0),
  (97, .iload_n 1, 0, [], [], 0),
  (98, .iaload, 0, [], [], 0),
  (99, .ireturn, 0, [], [], 0),
  (100, .bipush (-2), 0, [], [((-2), 0)], 0),
  (102, .ireturn, 0, [], [], 0)])
def mr_X9_asTold : MR := (9, 0, ⟨"SamovarModel", "asTold", "()V"⟩, prog_11_method_30_code, 2, (Option.none : Option Jvm.ClassFile.FieldType), 6, 137, [(0, .aload_n 0, 0, [], [], 0),
  (1, .invokevirtual 151, 0, [0], [], 0),
  (4, .aload_n 0, 0, [], [], 0),
  (5, .aload_n 0, 0, [], [], 0),
  (6, .getfield 137, 0, [9, 6, 968, 0], [], 0),
  (9, .putfield 181, 0, [9, 16, 978, 0], [], 0),
  (12, .iconst 0, 0, [], [(0, 0)], 0),
  (13, .istore_n 1, 0, [], [], 0),
  (14, .iload_n 1, 0, [], [], 0),
  (15, .aload_n 0, 0, [], [], 0),
  (16, .getfield 137, 0, [9, 6, 968, 0], [], 0),
  (19, .if_icmp .ge 45, 64, [], [], 0),
  (22, .aload_n 0, 0, [], [], 0),
  (23, .getfield 43, 0, [9, 17, 979, 0], [], 0),
  (26, .iload_n 1, 0, [], [], 0),
  (27, .aload_n 0, 0, [], [], 0),
  (28, .getfield 25, 0, [9, 7, 969, 0], [], 0),
  (31, .iload_n 1, 0, [], [], 0),
  (32, .iaload, 0, [], [], 0),
  (33, .iastore, 0, [], [], 0),
  (34, .aload_n 0, 0, [], [], 0),
  (35, .getfield 46, 0, [9, 18, 980, 0], [], 0),
  (38, .iload_n 1, 0, [], [], 0),
  (39, .aload_n 0, 0, [], [], 0),
  (40, .getfield 28, 0, [9, 8, 970, 0], [], 0),
  (43, .iload_n 1, 0, [], [], 0),
  (44, .iaload, 0, [], [], 0),
  (45, .iastore, 0, [], [], 0),
  (46, .aload_n 0, 0, [], [], 0),
  (47, .getfield 49, 0, [9, 19, 981, 0], [], 0),
  (50, .iload_n 1, 0, [], [], 0),
  (51, .aload_n 0, 0, [], [], 0),
  (52, .getfield 31, 0, [9, 9, 971, 0], [], 0),
  (55, .iload_n 1, 0, [], [], 0),
  (56, .iaload, 0, [], [], 0),
  (57, .iastore, 0, [], [], 0),
  (58, .iinc 1 1, 0, [], [(1, 0)], 0),
  (61, .goto (-47), 14, [], [], 0),
  (64, .aload_n 0, 0, [], [], 0),
  (65, .aload_n 0, 0, [], [], 0),
  (66, .getfield 110, 0, [9, 10, 972, 0], [], 0),
  (69, .putfield 184, 0, [9, 20, 982, 0], [], 0),
  (72, .aload_n 0, 0, [], [], 0),
  (73, .iconst 0, 0, [], [(0, 0)], 0),
  (74, .putfield 187, 0, [9, 21, 983, 0], [], 0),
  (77, .return_, 0, [], [], 0)])
def mr_X9_isIn : MR := (9, 2, ⟨"SamovarModel", "isIn", "(II)Z"⟩, prog_11_method_4_code, 2, (Option.some Jvm.ClassFile.FieldType.boolean), 0, 0, [(0, .iload_n 0, 0, [], [], 0),
  (1, .iload_n 1, 0, [], [], 0),
  (2, .ishr, 0, [], [], 0),
  (3, .iconst 1, 0, [], [(1, 0)], 0),
  (4, .iand, 0, [], [], 0),
  (5, .iconst 1, 0, [], [(1, 0)], 0),
  (6, .if_icmp .ne 7, 13, [], [], 0),
  (9, .iconst 1, 0, [], [(1, 0)], 0),
  (10, .goto 4, 14, [], [], 0),
  (13, .iconst 0, 0, [], [(0, 0)], 0),
  (14, .ireturn, 0, [], [], 0)])
def mr_X9_less : MR := (9, 2, ⟨"SamovarModel", "less", "(II)I"⟩, prog_11_method_6_code, 2, (Option.some Jvm.ClassFile.FieldType.int), 0, 0, [(0, .iload_n 0, 0, [], [], 0),
  (1, .iload_n 1, 0, [], [], 0),
  (2, .if_icmp .ge 7, 9, [], [], 0),
  (5, .iload_n 0, 0, [], [], 0),
  (6, .goto 4, 10, [], [], 0),
  (9, .iload_n 1, 0, [], [], 0),
  (10, .ireturn, 0, [], [], 0)])
def mr_X9_befalls : MR := (9, 1, ⟨"SamovarModel", "befalls", "(I)V"⟩, prog_11_method_31_code, 4, (Option.none : Option Jvm.ClassFile.FieldType), 1, 21, [(0, .aload_n 0, 0, [], [], 0),
  (1, .iconst 0, 0, [], [(0, 0)], 0),
  (2, .putfield 190, 0, [9, 25, 987, 0], [], 0),
  (5, .iconst 0, 0, [], [(0, 0)], 0),
  (6, .istore_n 2, 0, [], [], 0),
  (7, .iload_n 2, 0, [], [], 0),
  (8, .aload_n 0, 0, [], [], 0),
  (9, .getfield 169, 0, [9, 12, 974, 0], [], 0),
  (12, .if_icmp .ge 155, 167, [], [], 0),
  (15, .aload_n 0, 0, [], [], 0),
  (16, .getfield 37, 0, [9, 14, 976, 0], [], 0),
  (19, .iload_n 2, 0, [], [], 0),
  (20, .iaload, 0, [], [], 0),
  (21, .iload_n 1, 0, [], [], 0),
  (22, .if_icmp .ne 139, 161, [], [], 0),
  (25, .aload_n 0, 0, [], [], 0),
  (26, .getfield 187, 0, [9, 21, 983, 0], [], 0),
  (29, .iload_n 2, 0, [], [], 0),
  (30, .invokestatic 193, 0, [0], [], 0),
  (33, .ifCond .ne 128, 161, [], [], 0),
  (36, .aload_n 0, 0, [], [], 0),
  (37, .getfield 34, 0, [9, 13, 975, 0], [], 0),
  (40, .iload_n 2, 0, [], [], 0),
  (41, .iaload, 0, [], [], 0),
  (42, .ifCond .ne 22, 64, [], [], 0),
  (45, .aload_n 0, 0, [], [], 0),
  (46, .getfield 40, 0, [9, 15, 977, 0], [], 0),
  (49, .iload_n 2, 0, [], [], 0),
  (50, .iaload, 0, [], [], 0),
  (51, .bipush 30, 0, [], [(30, 0)], 0),
  (53, .aload_n 0, 0, [], [], 0),
  (54, .getfield 197, 0, [9, 23, 985, 0], [], 0),
  (57, .isub, 0, [], [], 0),
  (58, .invokestatic 200, 0, [0], [], 0),
  (61, .goto 4, 65, [], [], 0),
  (64, .iconst 0, 0, [], [(0, 0)], 0),
  (65, .istore_n 3, 0, [], [], 0),
  (66, .aload_n 0, 0, [], [], 0),
  (67, .dup, 0, [], [], 0),
  (68, .getfield 197, 0, [9, 23, 985, 0], [], 0),
  (71, .iload_n 3, 0, [], [], 0),
  (72, .iadd, 0, [], [], 0),
  (73, .putfield 197, 0, [9, 23, 985, 0], [], 0),
  (76, .aload_n 0, 0, [], [], 0),
  (77, .aload_n 0, 0, [], [], 0),
  (78, .getfield 203, 0, [9, 22, 984, 0], [], 0),
  (81, .iconst 4, 0, [], [(4, 0)], 0),
  (82, .iload_n 3, 0, [], [], 0),
  (83, .imul, 0, [], [], 0),
  (84, .if_icmp .ge 7, 91, [], [], 0),
  (87, .iconst 0, 0, [], [(0, 0)], 0),
  (88, .goto 11, 99, [], [], 0),
  (91, .aload_n 0, 0, [], [], 0),
  (92, .getfield 203, 0, [9, 22, 984, 0], [], 0),
  (95, .iconst 4, 0, [], [(4, 0)], 0),
  (96, .iload_n 3, 0, [], [], 0),
  (97, .imul, 0, [], [], 0),
  (98, .isub, 0, [], [], 0),
  (99, .putfield 203, 0, [9, 22, 984, 0], [], 0),
  (102, .aload_n 0, 0, [], [], 0),
  (103, .aload_n 0, 0, [], [], 0),
  (104, .getfield 34, 0, [9, 13, 975, 0], [], 0),
  (107, .iload_n 2, 0, [], [], 0),
  (108, .iaload, 0, [], [], 0),
  (109, .iconst 1, 0, [], [(1, 0)], 0),
  (110, .if_icmp .ne 22, 132, [], [], 0),
  (113, .aload_n 0, 0, [], [], 0),
  (114, .getfield 206, 0, [9, 24, 986, 0], [], 0),
  (117, .aload_n 0, 0, [], [], 0),
  (118, .getfield 40, 0, [9, 15, 977, 0], [], 0),
  (121, .iload_n 2, 0, [], [], 0),
  (122, .iaload, 0, [], [], 0),
  (123, .iadd, 0, [], [], 0),
  (124, .bipush 40, 0, [], [(40, 0)], 0),
  (126, .invokestatic 200, 0, [0], [], 0),
  (129, .goto 7, 136, [], [], 0),
  (132, .aload_n 0, 0, [], [], 0),
  (133, .getfield 206, 0, [9, 24, 986, 0], [], 0),
  (136, .putfield 206, 0, [9, 24, 986, 0], [], 0),
  (139, .aload_n 0, 0, [], [], 0),
  (140, .aload_n 0, 0, [], [], 0),
  (141, .getfield 34, 0, [9, 13, 975, 0], [], 0),
  (144, .iload_n 2, 0, [], [], 0),
  (145, .iaload, 0, [], [], 0),
  (146, .iconst 2, 0, [], [(2, 0)], 0),
  (147, .if_icmp .ne 7, 154, [], [], 0),
  (150, .iconst 1, 0, [], [(1, 0)], 0),
  (151, .goto 7, 158, [], [], 0),
  (154, .aload_n 0, 0, [], [], 0),
  (155, .getfield 190, 0, [9, 25, 987, 0], [], 0),
  (158, .putfield 190, 0, [9, 25, 987, 0], [], 0),
  (161, .iinc 2 1, 0, [], [(1, 0)], 0),
  (164, .goto (-157), 7, [], [], 0),
  (167, .return_, 0, [], [], 0)])
def mr_X9_fireAt : MR := (9, 1, ⟨"SamovarModel", "fireAt", "(I)I"⟩, prog_11_method_32_code, 6, (Option.some Jvm.ClassFile.FieldType.int), 1, 22, [(0, .iconst 0, 0, [], [(0, 0)], 0),
  (1, .istore_n 2, 0, [], [], 0),
  (2, .iconst 0, 0, [], [(0, 0)], 0),
  (3, .istore_n 3, 0, [], [], 0),
  (4, .iload_n 3, 0, [], [], 0),
  (5, .aload_n 0, 0, [], [], 0),
  (6, .getfield 134, 0, [9, 2, 964, 0], [], 0),
  (9, .if_icmp .ge 92, 101, [], [], 0),
  (12, .iload_n 1, 0, [], [], 0),
  (13, .aload_n 0, 0, [], [], 0),
  (14, .getfield 16, 0, [9, 3, 965, 0], [], 0),
  (17, .iload_n 3, 0, [], [], 0),
  (18, .iaload, 0, [], [], 0),
  (19, .isub, 0, [], [], 0),
  (20, .istore 4, 0, [], [], 0),
  (22, .aload_n 0, 0, [], [], 0),
  (23, .getfield 19, 0, [9, 4, 966, 0], [], 0),
  (26, .iload_n 3, 0, [], [], 0),
  (27, .iaload, 0, [], [], 0),
  (28, .ifCond .ne 7, 35, [], [], 0),
  (31, .iconst 3, 0, [], [(3, 0)], 0),
  (32, .goto 19, 51, [], [], 0),
  (35, .aload_n 0, 0, [], [], 0),
  (36, .getfield 19, 0, [9, 4, 966, 0], [], 0),
  (39, .iload_n 3, 0, [], [], 0),
  (40, .iaload, 0, [], [], 0),
  (41, .iconst 1, 0, [], [(1, 0)], 0),
  (42, .if_icmp .ne 7, 49, [], [], 0),
  (45, .iconst 5, 0, [], [(5, 0)], 0),
  (46, .goto 5, 51, [], [], 0),
  (49, .bipush 9, 0, [], [(9, 0)], 0),
  (51, .istore 5, 0, [], [], 0),
  (53, .iload_n 2, 0, [], [], 0),
  (54, .iload 4, 0, [], [], 0),
  (56, .iconst 0, 0, [], [(0, 0)], 0),
  (57, .iload 5, 0, [], [], 0),
  (59, .iconst 1, 0, [], [(1, 0)], 0),
  (60, .isub, 0, [], [], 0),
  (61, .invokestatic 119, 0, [0], [], 0),
  (64, .ifCond .eq 28, 92, [], [], 0),
  (67, .aload_n 0, 0, [], [], 0),
  (68, .getfield 22, 0, [9, 5, 967, 0], [], 0),
  (71, .iload_n 3, 0, [], [], 0),
  (72, .iaload, 0, [], [], 0),
  (73, .aload_n 0, 0, [], [], 0),
  (74, .getfield 19, 0, [9, 4, 966, 0], [], 0),
  (77, .iload_n 3, 0, [], [], 0),
  (78, .iaload, 0, [], [], 0),
  (79, .iconst 1, 0, [], [(1, 0)], 0),
  (80, .if_icmp .ne 7, 87, [], [], 0),
  (83, .iconst 4, 0, [], [(4, 0)], 0),
  (84, .goto 4, 88, [], [], 0),
  (87, .iconst 3, 0, [], [(3, 0)], 0),
  (88, .imul, 0, [], [], 0),
  (89, .goto 4, 93, [], [], 0),
  (92, .iconst 0, 0, [], [(0, 0)], 0),
  (93, .iadd, 0, [], [], 0),
  (94, .istore_n 2, 0, [], [], 0),
  (95, .iinc 3 1, 0, [], [(1, 0)], 0),
  (98, .goto (-94), 4, [], [], 0),
  (101, .aload_n 0, 0, [], [], 0),
  (102, .getfield 190, 0, [9, 25, 987, 0], [], 0),
  (105, .iconst 1, 0, [], [(1, 0)], 0),
  (106, .if_icmp .ne 9, 115, [], [], 0),
  (109, .iconst 2, 0, [], [(2, 0)], 0),
  (110, .iload_n 2, 0, [], [], 0),
  (111, .imul, 0, [], [], 0),
  (112, .goto 4, 116, [], [], 0),
  (115, .iload_n 2, 0, [], [], 0),
  (116, .ireturn, 0, [], [], 0)])
def mr_X9_joins : MR := (9, 2, ⟨"SamovarModel", "joins", "(II)V"⟩, prog_11_method_33_code, 3, (Option.none : Option Jvm.ClassFile.FieldType), 0, 0, [(0, .aload_n 0, 0, [], [], 0),
  (1, .getfield 52, 0, [9, 30, 992, 0], [], 0),
  (4, .aload_n 0, 0, [], [], 0),
  (5, .getfield 209, 0, [9, 29, 991, 0], [], 0),
  (8, .iload_n 1, 0, [], [], 0),
  (9, .iastore, 0, [], [], 0),
  (10, .aload_n 0, 0, [], [], 0),
  (11, .dup, 0, [], [], 0),
  (12, .getfield 209, 0, [9, 29, 991, 0], [], 0),
  (15, .iconst 1, 0, [], [(1, 0)], 0),
  (16, .iadd, 0, [], [], 0),
  (17, .putfield 209, 0, [9, 29, 991, 0], [], 0),
  (20, .aload_n 0, 0, [], [], 0),
  (21, .getfield 55, 0, [9, 31, 993, 0], [], 0),
  (24, .iload_n 1, 0, [], [], 0),
  (25, .iconst 1, 0, [], [(1, 0)], 0),
  (26, .iastore, 0, [], [], 0),
  (27, .aload_n 0, 0, [], [], 0),
  (28, .getfield 64, 0, [9, 34, 996, 0], [], 0),
  (31, .iload_n 1, 0, [], [], 0),
  (32, .iload_n 2, 0, [], [], 0),
  (33, .iastore, 0, [], [], 0),
  (34, .return_, 0, [], [], 0)])
def mr_X9_comes : MR := (9, 1, ⟨"SamovarModel", "comes", "(I)V"⟩, prog_11_method_34_code, 3, (Option.none : Option Jvm.ClassFile.FieldType), 1, 22, [(0, .iconst 0, 0, [], [(0, 0)], 0),
  (1, .istore_n 2, 0, [], [], 0),
  (2, .iload_n 2, 0, [], [], 0),
  (3, .aload_n 0, 0, [], [], 0),
  (4, .getfield 181, 0, [9, 16, 978, 0], [], 0),
  (7, .if_icmp .ge 25, 32, [], [], 0),
  (10, .aload_n 0, 0, [], [], 0),
  (11, .getfield 43, 0, [9, 17, 979, 0], [], 0),
  (14, .iload_n 2, 0, [], [], 0),
  (15, .iaload, 0, [], [], 0),
  (16, .iload_n 1, 0, [], [], 0),
  (17, .if_icmp .ne 9, 26, [], [], 0),
  (20, .aload_n 0, 0, [], [], 0),
  (21, .iload_n 2, 0, [], [], 0),
  (22, .iload_n 1, 0, [], [], 0),
  (23, .invokevirtual 212, 0, [0], [], 0),
  (26, .iinc 2 1, 0, [], [(1, 0)], 0),
  (29, .goto (-27), 2, [], [], 0),
  (32, .iconst 0, 0, [], [(0, 0)], 0),
  (33, .istore_n 2, 0, [], [], 0),
  (34, .iload_n 2, 0, [], [], 0),
  (35, .aload_n 0, 0, [], [], 0),
  (36, .getfield 181, 0, [9, 16, 978, 0], [], 0),
  (39, .if_icmp .ge 35, 74, [], [], 0),
  (42, .aload_n 0, 0, [], [], 0),
  (43, .getfield 55, 0, [9, 31, 993, 0], [], 0),
  (46, .iload_n 2, 0, [], [], 0),
  (47, .iaload, 0, [], [], 0),
  (48, .iconst 2, 0, [], [(2, 0)], 0),
  (49, .if_icmp .ne 19, 68, [], [], 0),
  (52, .aload_n 0, 0, [], [], 0),
  (53, .getfield 61, 0, [9, 33, 995, 0], [], 0),
  (56, .iload_n 2, 0, [], [], 0),
  (57, .iaload, 0, [], [], 0),
  (58, .iload_n 1, 0, [], [], 0),
  (59, .if_icmp .ne 9, 68, [], [], 0),
  (62, .aload_n 0, 0, [], [], 0),
  (63, .iload_n 2, 0, [], [], 0),
  (64, .iload_n 1, 0, [], [], 0),
  (65, .invokevirtual 212, 0, [0], [], 0),
  (68, .iinc 2 1, 0, [], [(1, 0)], 0),
  (71, .goto (-37), 34, [], [], 0),
  (74, .return_, 0, [], [], 0)])
def mr_X9_leaves : MR := (9, 1, ⟨"SamovarModel", "leaves", "(I)V"⟩, prog_11_method_35_code, 3, (Option.none : Option Jvm.ClassFile.FieldType), 0, 0, [(0, .iload_n 1, 0, [], [], 0),
  (1, .istore_n 2, 0, [], [], 0),
  (2, .iload_n 2, 0, [], [], 0),
  (3, .iconst 1, 0, [], [(1, 0)], 0),
  (4, .iadd, 0, [], [], 0),
  (5, .aload_n 0, 0, [], [], 0),
  (6, .getfield 209, 0, [9, 29, 991, 0], [], 0),
  (9, .if_icmp .ge 23, 32, [], [], 0),
  (12, .aload_n 0, 0, [], [], 0),
  (13, .getfield 52, 0, [9, 30, 992, 0], [], 0),
  (16, .iload_n 2, 0, [], [], 0),
  (17, .aload_n 0, 0, [], [], 0),
  (18, .getfield 52, 0, [9, 30, 992, 0], [], 0),
  (21, .iload_n 2, 0, [], [], 0),
  (22, .iconst 1, 0, [], [(1, 0)], 0),
  (23, .iadd, 0, [], [], 0),
  (24, .iaload, 0, [], [], 0),
  (25, .iastore, 0, [], [], 0),
  (26, .iinc 2 1, 0, [], [(1, 0)], 0),
  (29, .goto (-27), 2, [], [], 0),
  (32, .aload_n 0, 0, [], [], 0),
  (33, .dup, 0, [], [], 0),
  (34, .getfield 209, 0, [9, 29, 991, 0], [], 0),
  (37, .iconst 1, 0, [], [(1, 0)], 0),
  (38, .isub, 0, [], [], 0),
  (39, .putfield 209, 0, [9, 29, 991, 0], [], 0),
  (42, .return_, 0, [], [], 0)])
def mr_X9_serves : MR := (9, 1, ⟨"SamovarModel", "serves", "(I)I"⟩, prog_11_method_36_code, 5, (Option.some Jvm.ClassFile.FieldType.int), 1, 22, [(0, .iconst 0, 0, [], [(0, 0)], 0),
  (1, .istore_n 2, 0, [], [], 0),
  (2, .iload_n 2, 0, [], [], 0),
  (3, .aload_n 0, 0, [], [], 0),
  (4, .getfield 209, 0, [9, 29, 991, 0], [], 0),
  (7, .if_icmp .ge 129, 136, [], [], 0),
  (10, .aload_n 0, 0, [], [], 0),
  (11, .getfield 52, 0, [9, 30, 992, 0], [], 0),
  (14, .iload_n 2, 0, [], [], 0),
  (15, .iaload, 0, [], [], 0),
  (16, .istore_n 3, 0, [], [], 0),
  (17, .aload_n 0, 0, [], [], 0),
  (18, .getfield 46, 0, [9, 18, 980, 0], [], 0),
  (21, .iload_n 3, 0, [], [], 0),
  (22, .iaload, 0, [], [], 0),
  (23, .iconst 1, 0, [], [(1, 0)], 0),
  (24, .if_icmp .ne 7, 31, [], [], 0),
  (27, .iconst 3, 0, [], [(3, 0)], 0),
  (28, .goto 4, 32, [], [], 0),
  (31, .iconst 1, 0, [], [(1, 0)], 0),
  (32, .istore 4, 0, [], [], 0),
  (34, .aload_n 0, 0, [], [], 0),
  (35, .getfield 206, 0, [9, 24, 986, 0], [], 0),
  (38, .iload 4, 0, [], [], 0),
  (40, .if_icmp .lt 90, 130, [], [], 0),
  (43, .aload_n 0, 0, [], [], 0),
  (44, .dup, 0, [], [], 0),
  (45, .getfield 206, 0, [9, 24, 986, 0], [], 0),
  (48, .iload 4, 0, [], [], 0),
  (50, .isub, 0, [], [], 0),
  (51, .putfield 206, 0, [9, 24, 986, 0], [], 0),
  (54, .aload_n 0, 0, [], [], 0),
  (55, .dup, 0, [], [], 0),
  (56, .getfield 197, 0, [9, 23, 985, 0], [], 0),
  (59, .iconst 1, 0, [], [(1, 0)], 0),
  (60, .isub, 0, [], [], 0),
  (61, .putfield 197, 0, [9, 23, 985, 0], [], 0),
  (64, .aload_n 0, 0, [], [], 0),
  (65, .getfield 58, 0, [9, 32, 994, 0], [], 0),
  (68, .iload_n 3, 0, [], [], 0),
  (69, .dup2, 0, [], [], 0),
  (70, .iaload, 0, [], [], 0),
  (71, .iconst 1, 0, [], [(1, 0)], 0),
  (72, .iadd, 0, [], [], 0),
  (73, .iastore, 0, [], [], 0),
  (74, .aload_n 0, 0, [], [], 0),
  (75, .getfield 55, 0, [9, 31, 993, 0], [], 0),
  (78, .iload_n 3, 0, [], [], 0),
  (79, .aload_n 0, 0, [], [], 0),
  (80, .getfield 58, 0, [9, 32, 994, 0], [], 0),
  (83, .iload_n 3, 0, [], [], 0),
  (84, .iaload, 0, [], [], 0),
  (85, .aload_n 0, 0, [], [], 0),
  (86, .getfield 49, 0, [9, 19, 981, 0], [], 0),
  (89, .iload_n 3, 0, [], [], 0),
  (90, .iaload, 0, [], [], 0),
  (91, .if_icmp .ne 7, 98, [], [], 0),
  (94, .iconst 3, 0, [], [(3, 0)], 0),
  (95, .goto 4, 99, [], [], 0),
  (98, .iconst 2, 0, [], [(2, 0)], 0),
  (99, .iastore, 0, [], [], 0),
  (100, .aload_n 0, 0, [], [], 0),
  (101, .getfield 61, 0, [9, 33, 995, 0], [], 0),
  (104, .iload_n 3, 0, [], [], 0),
  (105, .iload_n 1, 0, [], [], 0),
  (106, .aload_n 0, 0, [], [], 0),
  (107, .getfield 46, 0, [9, 18, 980, 0], [], 0),
  (110, .iload_n 3, 0, [], [], 0),
  (111, .iaload, 0, [], [], 0),
  (112, .iconst 1, 0, [], [(1, 0)], 0),
  (113, .if_icmp .ne 7, 120, [], [], 0),
  (116, .iconst 4, 0, [], [(4, 0)], 0),
  (117, .goto 4, 121, [], [], 0),
  (120, .iconst 3, 0, [], [(3, 0)], 0),
  (121, .iadd, 0, [], [], 0),
  (122, .iastore, 0, [], [], 0),
  (123, .aload_n 0, 0, [], [], 0),
  (124, .iload_n 2, 0, [], [], 0),
  (125, .invokevirtual 216, 0, [0], [], 0),
  (128, .iload_n 3, 0, [], [], 0),
  (129, .ireturn, 0, [], [], 0),
  (130, .iinc 2 1, 0, [], [(1, 0)], 0),
  (133, .goto (-131), 2, [], [], 0),
  (136, .iconst (-1), 0, [], [((-1), 0)], 0),
  (137, .ireturn, 0, [], [], 0)])
def mr_X9_goAway : MR := (9, 1, ⟨"SamovarModel", "goAway", "(I)V"⟩, prog_11_method_37_code, 4, (Option.none : Option Jvm.ClassFile.FieldType), 1, 22, [(0, .aload_n 0, 0, [], [], 0),
  (1, .getfield 209, 0, [9, 29, 991, 0], [], 0),
  (4, .iconst 1, 0, [], [(1, 0)], 0),
  (5, .isub, 0, [], [], 0),
  (6, .istore_n 2, 0, [], [], 0),
  (7, .iload_n 2, 0, [], [], 0),
  (8, .ifCond .lt 40, 48, [], [], 0),
  (11, .aload_n 0, 0, [], [], 0),
  (12, .getfield 52, 0, [9, 30, 992, 0], [], 0),
  (15, .iload_n 2, 0, [], [], 0),
  (16, .iaload, 0, [], [], 0),
  (17, .istore_n 3, 0, [], [], 0),
  (18, .iload_n 1, 0, [], [], 0),
  (19, .aload_n 0, 0, [], [], 0),
  (20, .getfield 64, 0, [9, 34, 996, 0], [], 0),
  (23, .iload_n 3, 0, [], [], 0),
  (24, .iaload, 0, [], [], 0),
  (25, .isub, 0, [], [], 0),
  (26, .iconst 5, 0, [], [(5, 0)], 0),
  (27, .if_icmp .lt 15, 42, [], [], 0),
  (30, .aload_n 0, 0, [], [], 0),
  (31, .getfield 55, 0, [9, 31, 993, 0], [], 0),
  (34, .iload_n 3, 0, [], [], 0),
  (35, .iconst 4, 0, [], [(4, 0)], 0),
  (36, .iastore, 0, [], [], 0),
  (37, .aload_n 0, 0, [], [], 0),
  (38, .iload_n 2, 0, [], [], 0),
  (39, .invokevirtual 216, 0, [0], [], 0),
  (42, .iinc 2 (-1), 0, [], [((-1), 0)], 0),
  (45, .goto (-38), 7, [], [], 0),
  (48, .return_, 0, [], [], 0)])
def mr_X9_goesBy : MR := (9, 1, ⟨"SamovarModel", "goesBy", "(I)V"⟩, prog_11_method_38_code, 7, (Option.none : Option Jvm.ClassFile.FieldType), 2, 47, [(0, .aload_n 0, 0, [], [], 0),
  (1, .iload_n 1, 0, [], [], 0),
  (2, .invokevirtual 220, 0, [0], [], 0),
  (5, .aload_n 0, 0, [], [], 0),
  (6, .iload_n 1, 0, [], [], 0),
  (7, .invokevirtual 223, 0, [0], [], 0),
  (10, .istore_n 2, 0, [], [], 0),
  (11, .aload_n 0, 0, [], [], 0),
  (12, .dup, 0, [], [], 0),
  (13, .getfield 203, 0, [9, 22, 984, 0], [], 0),
  (16, .iload_n 2, 0, [], [], 0),
  (17, .iconst 2, 0, [], [(2, 0)], 0),
  (18, .isub, 0, [], [], 0),
  (19, .aload_n 0, 0, [], [], 0),
  (20, .getfield 197, 0, [9, 23, 985, 0], [], 0),
  (23, .iconst 5, 0, [], [(5, 0)], 0),
  (24, .idiv, 0, [], [], 0),
  (25, .isub, 0, [], [], 0),
  (26, .iadd, 0, [], [], 0),
  (27, .putfield 203, 0, [9, 22, 984, 0], [], 0),
  (30, .aload_n 0, 0, [], [], 0),
  (31, .aload_n 0, 0, [], [], 0),
  (32, .getfield 203, 0, [9, 22, 984, 0], [], 0),
  (35, .ifCond .ge 7, 42, [], [], 0),
  (38, .iconst 0, 0, [], [(0, 0)], 0),
  (39, .goto 21, 60, [], [], 0),
  (42, .aload_n 0, 0, [], [], 0),
  (43, .getfield 203, 0, [9, 22, 984, 0], [], 0),
  (46, .bipush 100, 0, [], [(100, 0)], 0),
  (48, .if_icmp .le 8, 56, [], [], 0),
  (51, .bipush 100, 0, [], [(100, 0)], 0),
  (53, .goto 7, 60, [], [], 0),
  (56, .aload_n 0, 0, [], [], 0),
  (57, .getfield 203, 0, [9, 22, 984, 0], [], 0),
  (60, .putfield 203, 0, [9, 22, 984, 0], [], 0),
  (63, .aload_n 0, 0, [], [], 0),
  (64, .getfield 203, 0, [9, 22, 984, 0], [], 0),
  (67, .bipush 100, 0, [], [(100, 0)], 0),
  (69, .if_icmp .ne 30, 99, [], [], 0),
  (72, .aload_n 0, 0, [], [], 0),
  (73, .getfield 197, 0, [9, 23, 985, 0], [], 0),
  (76, .ifCond .le 23, 99, [], [], 0),
  (79, .aload_n 0, 0, [], [], 0),
  (80, .dup, 0, [], [], 0),
  (81, .getfield 197, 0, [9, 23, 985, 0], [], 0),
  (84, .iconst 1, 0, [], [(1, 0)], 0),
  (85, .isub, 0, [], [], 0),
  (86, .putfield 197, 0, [9, 23, 985, 0], [], 0),
  (89, .aload_n 0, 0, [], [], 0),
  (90, .dup, 0, [], [], 0),
  (91, .getfield 226, 0, [9, 26, 988, 0], [], 0),
  (94, .iconst 1, 0, [], [(1, 0)], 0),
  (95, .iadd, 0, [], [], 0),
  (96, .putfield 226, 0, [9, 26, 988, 0], [], 0),
  (99, .aload_n 0, 0, [], [], 0),
  (100, .getfield 203, 0, [9, 22, 984, 0], [], 0),
  (103, .bipush 80, 0, [], [(80, 0)], 0),
  (105, .if_icmp .lt 14, 119, [], [], 0),
  (108, .aload_n 0, 0, [], [], 0),
  (109, .getfield 197, 0, [9, 23, 985, 0], [], 0),
  (112, .ifCond .le 7, 119, [], [], 0),
  (115, .iconst 1, 0, [], [(1, 0)], 0),
  (116, .goto 4, 120, [], [], 0),
  (119, .iconst 0, 0, [], [(0, 0)], 0),
  (120, .istore_n 3, 0, [], [], 0),
  (121, .aload_n 0, 0, [], [], 0),
  (122, .dup, 0, [], [], 0),
  (123, .getfield 229, 0, [9, 27, 989, 0], [], 0),
  (126, .iload_n 3, 0, [], [], 0),
  (127, .ifCond .eq 7, 134, [], [], 0),
  (130, .iconst 1, 0, [], [(1, 0)], 0),
  (131, .goto 4, 135, [], [], 0),
  (134, .iconst 0, 0, [], [(0, 0)], 0),
  (135, .iadd, 0, [], [], 0),
  (136, .putfield 229, 0, [9, 27, 989, 0], [], 0),
  (139, .aload_n 0, 0, [], [], 0),
  (140, .iload_n 3, 0, [], [], 0),
  (141, .ifCond .eq 15, 156, [], [], 0),
  (144, .aload_n 0, 0, [], [], 0),
  (145, .getfield 232, 0, [9, 28, 990, 0], [], 0),
  (148, .iconst (-1), 0, [], [((-1), 0)], 0),
  (149, .if_icmp .ne 7, 156, [], [], 0),
  (152, .iload_n 1, 0, [], [], 0),
  (153, .goto 7, 160, [], [], 0),
  (156, .aload_n 0, 0, [], [], 0),
  (157, .getfield 232, 0, [9, 28, 990, 0], [], 0),
  (160, .putfield 232, 0, [9, 28, 990, 0], [], 0),
  (163, .aload_n 0, 0, [], [], 0),
  (164, .iload_n 1, 0, [], [], 0),
  (165, .invokevirtual 235, 0, [0], [], 0),
  (168, .iload_n 3, 0, [], [], 0),
  (169, .ifCond .eq 11, 180, [], [], 0),
  (172, .aload_n 0, 0, [], [], 0),
  (173, .iload_n 1, 0, [], [], 0),
  (174, .invokevirtual 238, 0, [0], [], 0),
  (177, .goto 4, 181, [], [], 0),
  (180, .iconst (-1), 0, [], [((-1), 0)], 0),
  (181, .istore 4, 0, [], [], 0),
  (183, .aload_n 0, 0, [], [], 0),
  (184, .iload_n 1, 0, [], [], 0),
  (185, .invokevirtual 241, 0, [0], [], 0),
  (188, .bipush 6, 0, [], [(6, 0)], 0),
  (190, .iload_n 1, 0, [], [], 0),
  (191, .imul, 0, [], [], 0),
  (192, .istore 5, 0, [], [], 0),
  (194, .aload_n 0, 0, [], [], 0),
  (195, .getfield 70, 0, [9, 36, 998, 0], [], 0),
  (198, .iload 5, 0, [], [], 0),
  (200, .aload_n 0, 0, [], [], 0),
  (201, .getfield 203, 0, [9, 22, 984, 0], [], 0),
  (204, .iastore, 0, [], [], 0),
  (205, .aload_n 0, 0, [], [], 0),
  (206, .getfield 70, 0, [9, 36, 998, 0], [], 0),
  (209, .iload 5, 0, [], [], 0),
  (211, .iconst 1, 0, [], [(1, 0)], 0),
  (212, .iadd, 0, [], [], 0),
  (213, .aload_n 0, 0, [], [], 0),
  (214, .getfield 197, 0, [9, 23, 985, 0], [], 0),
  (217, .iastore, 0, [], [], 0),
  (218, .aload_n 0, 0, [], [], 0),
  (219, .getfield 70, 0, [9, 36, 998, 0], [], 0),
  (222, .iload 5, 0, [], [], 0),
  (224, .iconst 2, 0, [], [(2, 0)], 0),
  (225, .iadd, 0, [], [], 0),
  (226, .aload_n 0, 0, [], [], 0),
  (227, .getfield 206, 0, [9, 24, 986, 0], [], 0),
  (230, .iastore, 0, [], [], 0),
  (231, .aload_n 0, 0, [], [], 0),
  (232, .getfield 70, 0, [9, 36, 998, 0], [], 0),
  (235, .iload 5, 0, [], [], 0),
  (237, .iconst 3, 0, [], [(3, 0)], 0),
  (238, .iadd, 0, [], [], 0),
  (239, .iload_n 2, 0, [], [], 0),
  (240, .iastore, 0, [], [], 0),
  (241, .aload_n 0, 0, [], [], 0),
  (242, .getfield 70, 0, [9, 36, 998, 0], [], 0),
  (245, .iload 5, 0, [], [], 0),
  (247, .iconst 4, 0, [], [(4, 0)], 0),
  (248, .iadd, 0, [], [], 0),
  (249, .iload_n 3, 0, [], [], 0),
  (250, .ifCond .eq 7, 257, [], [], 0),
  (253, .iconst 1, 0, [], [(1, 0)], 0),
  (254, .goto 4, 258, [], [], 0),
  (257, .iconst 0, 0, [], [(0, 0)], 0),
  (258, .iastore, 0, [], [], 0),
  (259, .aload_n 0, 0, [], [], 0),
  (260, .getfield 70, 0, [9, 36, 998, 0], [], 0),
  (263, .iload 5, 0, [], [], 0),
  (265, .iconst 5, 0, [], [(5, 0)], 0),
  (266, .iadd, 0, [], [], 0),
  (267, .iload 4, 0, [], [], 0),
  (269, .iastore, 0, [], [], 0),
  (270, .aload_n 0, 0, [], [], 0),
  (271, .getfield 73, 0, [9, 37, 999, 0], [], 0),
  (274, .iload_n 1, 0, [], [], 0),
  (275, .aload_n 0, 0, [], [], 0),
  (276, .getfield 209, 0, [9, 29, 991, 0], [], 0),
  (279, .iastore, 0, [], [], 0),
  (280, .iconst 0, 0, [], [(0, 0)], 0),
  (281, .istore 6, 0, [], [], 0),
  (283, .iload 6, 0, [], [], 0),
  (285, .aload_n 0, 0, [], [], 0),
  (286, .getfield 181, 0, [9, 16, 978, 0], [], 0),
  (289, .if_icmp .ge 73, 362, [], [], 0),
  (292, .aload_n 0, 0, [], [], 0),
  (293, .getfield 76, 0, [9, 38, 1000, 0], [], 0),
  (296, .bipush 8, 0, [], [(8, 0)], 0),
  (298, .iload_n 1, 0, [], [], 0),
  (299, .imul, 0, [], [], 0),
  (300, .iload 6, 0, [], [], 0),
  (302, .iadd, 0, [], [], 0),
  (303, .aload_n 0, 0, [], [], 0),
  (304, .getfield 55, 0, [9, 31, 993, 0], [], 0),
  (307, .iload 6, 0, [], [], 0),
  (309, .iaload, 0, [], [], 0),
  (310, .iastore, 0, [], [], 0),
  (311, .aload_n 0, 0, [], [], 0),
  (312, .getfield 79, 0, [9, 39, 1001, 0], [], 0),
  (315, .bipush 8, 0, [], [(8, 0)], 0),
  (317, .iload_n 1, 0, [], [], 0),
  (318, .imul, 0, [], [], 0),
  (319, .iload 6, 0, [], [], 0),
  (321, .iadd, 0, [], [], 0),
  (322, .aload_n 0, 0, [], [], 0),
  (323, .getfield 58, 0, [9, 32, 994, 0], [], 0),
  (326, .iload 6, 0, [], [], 0),
  (328, .iaload, 0, [], [], 0),
  (329, .iastore, 0, [], [], 0),
  (330, .aload_n 0, 0, [], [], 0),
  (331, .getfield 67, 0, [9, 35, 997, 0], [], 0),
  (334, .iload 6, 0, [], [], 0),
  (336, .dup2, 0, [], [], 0),
  (337, .iaload, 0, [], [], 0),
  (338, .aload_n 0, 0, [], [], 0),
  (339, .getfield 55, 0, [9, 31, 993, 0], [], 0),
  (342, .iload 6, 0, [], [], 0),
  (344, .iaload, 0, [], [], 0),
  (345, .iconst 1, 0, [], [(1, 0)], 0),
  (346, .if_icmp .ne 7, 353, [], [], 0),
  (349, .iconst 1, 0, [], [(1, 0)], 0),
  (350, .goto 4, 354, [], [], 0),
  (353, .iconst 0, 0, [], [(0, 0)], 0),
  (354, .iadd, 0, [], [], 0),
  (355, .iastore, 0, [], [], 0),
  (356, .iinc 6 1, 0, [], [(1, 0)], 0),
  (359, .goto (-76), 283, [], [], 0),
  (362, .return_, 0, [], [], 0)])
def mr_X9_runs : MR := (9, 0, ⟨"SamovarModel", "runs", "()V"⟩, prog_11_method_39_code, 2, (Option.none : Option Jvm.ClassFile.FieldType), 3, 73, [(0, .aload_n 0, 0, [], [], 0),
  (1, .iconst 0, 0, [], [(0, 0)], 0),
  (2, .putfield 203, 0, [9, 22, 984, 0], [], 0),
  (5, .aload_n 0, 0, [], [], 0),
  (6, .aload_n 0, 0, [], [], 0),
  (7, .getfield 184, 0, [9, 20, 982, 0], [], 0),
  (10, .putfield 197, 0, [9, 23, 985, 0], [], 0),
  (13, .aload_n 0, 0, [], [], 0),
  (14, .aload_n 0, 0, [], [], 0),
  (15, .getfield 114, 0, [9, 11, 973, 0], [], 0),
  (18, .putfield 206, 0, [9, 24, 986, 0], [], 0),
  (21, .aload_n 0, 0, [], [], 0),
  (22, .iconst 0, 0, [], [(0, 0)], 0),
  (23, .putfield 226, 0, [9, 26, 988, 0], [], 0),
  (26, .aload_n 0, 0, [], [], 0),
  (27, .iconst 0, 0, [], [(0, 0)], 0),
  (28, .putfield 229, 0, [9, 27, 989, 0], [], 0),
  (31, .aload_n 0, 0, [], [], 0),
  (32, .iconst (-1), 0, [], [((-1), 0)], 0),
  (33, .putfield 232, 0, [9, 28, 990, 0], [], 0),
  (36, .aload_n 0, 0, [], [], 0),
  (37, .iconst 0, 0, [], [(0, 0)], 0),
  (38, .putfield 209, 0, [9, 29, 991, 0], [], 0),
  (41, .iconst 0, 0, [], [(0, 0)], 0),
  (42, .istore_n 1, 0, [], [], 0),
  (43, .iload_n 1, 0, [], [], 0),
  (44, .bipush 8, 0, [], [(8, 0)], 0),
  (46, .if_icmp .ge 44, 90, [], [], 0),
  (49, .aload_n 0, 0, [], [], 0),
  (50, .getfield 55, 0, [9, 31, 993, 0], [], 0),
  (53, .iload_n 1, 0, [], [], 0),
  (54, .iconst 0, 0, [], [(0, 0)], 0),
  (55, .iastore, 0, [], [], 0),
  (56, .aload_n 0, 0, [], [], 0),
  (57, .getfield 58, 0, [9, 32, 994, 0], [], 0),
  (60, .iload_n 1, 0, [], [], 0),
  (61, .iconst 0, 0, [], [(0, 0)], 0),
  (62, .iastore, 0, [], [], 0),
  (63, .aload_n 0, 0, [], [], 0),
  (64, .getfield 61, 0, [9, 33, 995, 0], [], 0),
  (67, .iload_n 1, 0, [], [], 0),
  (68, .iconst (-1), 0, [], [((-1), 0)], 0),
  (69, .iastore, 0, [], [], 0),
  (70, .aload_n 0, 0, [], [], 0),
  (71, .getfield 64, 0, [9, 34, 996, 0], [], 0),
  (74, .iload_n 1, 0, [], [], 0),
  (75, .iconst 0, 0, [], [(0, 0)], 0),
  (76, .iastore, 0, [], [], 0),
  (77, .aload_n 0, 0, [], [], 0),
  (78, .getfield 67, 0, [9, 35, 997, 0], [], 0),
  (81, .iload_n 1, 0, [], [], 0),
  (82, .iconst 0, 0, [], [(0, 0)], 0),
  (83, .iastore, 0, [], [], 0),
  (84, .iinc 1 1, 0, [], [(1, 0)], 0),
  (87, .goto (-44), 43, [], [], 0),
  (90, .iconst 0, 0, [], [(0, 0)], 0),
  (91, .istore_n 1, 0, [], [], 0),
  (92, .iload_n 1, 0, [], [], 0),
  (93, .bipush 24, 0, [], [(24, 0)], 0),
  (95, .if_icmp .ge 14, 109, [], [], 0),
  (98, .aload_n 0, 0, [], [], 0),
  (99, .iload_n 1, 0, [], [], 0),
  (100, .invokevirtual 244, 0, [0], [], 0),
  (103, .iinc 1 1, 0, [], [(1, 0)], 0),
  (106, .goto (-14), 92, [], [], 0),
  (109, .return_, 0, [], [], 0)])
def mr_X9_runsTold : MR := (9, 0, ⟨"SamovarModel", "runsTold", "()V"⟩, prog_11_method_40_code, 1, (Option.none : Option Jvm.ClassFile.FieldType), 7, 158, [(0, .aload_n 0, 0, [], [], 0),
  (1, .invokevirtual 247, 0, [0], [], 0),
  (4, .aload_n 0, 0, [], [], 0),
  (5, .invokevirtual 250, 0, [0], [], 0),
  (8, .return_, 0, [], [], 0)])
def mr_X9_atOf : MR := (9, 2, ⟨"SamovarModel", "atOf", "(II)I"⟩, prog_11_method_41_code, 3, (Option.some Jvm.ClassFile.FieldType.int), 8, 178, [(0, .aload_n 0, 0, [], [], 0),
  (1, .invokevirtual 253, 0, [0], [], 0),
  (4, .aload_n 0, 0, [], [], 0),
  (5, .getfield 70, 0, [9, 36, 998, 0], [], 0),
  (8, .bipush 6, 0, [], [(6, 0)], 0),
  (10, .iload_n 1, 0, [], [], 0),
  (11, .imul, 0, [], [], 0),
  (12, .iload_n 2, 0, [], [], 0),
  (13, .iadd, 0, [], [], 0),
  (14, .iaload, 0, [], [], 0),
  (15, .ireturn, 0, [], [], 0)])
def mr_X9_at : MR := (9, 2, ⟨"SamovarModel", "at", "(II)I"⟩, prog_11_method_42_code, 3, (Option.some Jvm.ClassFile.FieldType.int), 9, 200, [(0, .iload_n 1, 0, [], [], 0),
  (1, .invokestatic 131, 0, [0], [], 0),
  (4, .ifCond .eq 21, 25, [], [], 0),
  (7, .iload_n 2, 0, [], [], 0),
  (8, .iconst 0, 0, [], [(0, 0)], 0),
  (9, .iconst 5, 0, [], [(5, 0)], 0),
  (10, .invokestatic 119, 0, [0], [], 0),
  (13, .ifCond .eq 12, 25, [], [], 0),
  (16, .aload_n 0, 0, [], [], 0),
  (17, .iload_n 1, 0, [], [], 0),
  (18, .iload_n 2, 0, [], [], 0),
  (19, .invokevirtual 256, 0, [0], [], 0),
  (22, .goto 5, 27, [], [], 0),
  (25, .bipush (-2), 0, [], [((-2), 0)], 0),
  (27, .ireturn, 0, [], [], 0)])
def mr_X2_stateOf : MR := (2, 2, ⟨"Samovar$Evening", "stateOf", "(II)I"⟩, prog_4_method_5_code, 3, (Option.some Jvm.ClassFile.FieldType.int), 1, 21, [(0, .iload_n 1, 0, [], [], 0),
  (1, .bipush 23, 0, [], [(23, 0)], 0),
  (3, .invokestatic 113, 0, [0], [], 0),
  (6, .ifCond .eq 26, 32, [], [], 0),
  (9, .iload_n 2, 0, [], [], 0),
  (10, .bipush 7, 0, [], [(7, 0)], 0),
  (12, .invokestatic 113, 0, [0], [], 0),
  (15, .ifCond .eq 17, 32, [], [], 0),
  (18, .aload_n 0, 0, [], [], 0),
  (19, .getfield 30, 0, [2, 6, 297, 0], [], 0),
  (22, .iload_n 1, 0, [], [], 0),
  (23, .bipush 8, 0, [], [(8, 0)], 0),
  (25, .imul, 0, [], [], 0),
  (26, .iload_n 2, 0, [], [], 0),
  (27, .iadd, 0, [], [], 0),
  (28, .iaload, 0, [], [], 0),
  (29, .goto 4, 33, [], [], 0),
  (32, .iconst 0, 0, [], [(0, 0)], 0),
  (33, .ireturn, 0, [], [], 0)])
def mr_X2_glassesOf : MR := (2, 2, ⟨"Samovar$Evening", "glassesOf", "(II)I"⟩, prog_4_method_6_code, 3, (Option.some Jvm.ClassFile.FieldType.int), 1, 21, [(0, .iload_n 1, 0, [], [], 0),
  (1, .bipush 23, 0, [], [(23, 0)], 0),
  (3, .invokestatic 113, 0, [0], [], 0),
  (6, .ifCond .eq 26, 32, [], [], 0),
  (9, .iload_n 2, 0, [], [], 0),
  (10, .bipush 7, 0, [], [(7, 0)], 0),
  (12, .invokestatic 113, 0, [0], [], 0),
  (15, .ifCond .eq 17, 32, [], [], 0),
  (18, .aload_n 0, 0, [], [], 0),
  (19, .getfield 33, 0, [2, 7, 298, 0], [], 0),
  (22, .iload_n 1, 0, [], [], 0),
  (23, .bipush 8, 0, [], [(8, 0)], 0),
  (25, .imul, 0, [], [], 0),
  (26, .iload_n 2, 0, [], [], 0),
  (27, .iadd, 0, [], [], 0),
  (28, .iaload, 0, [], [], 0),
  (29, .goto 4, 33, [], [], 0),
  (32, .iconst 0, 0, [], [(0, 0)], 0),
  (33, .ireturn, 0, [], [], 0)])
def mr_X8_is : MR := (8, 3, ⟨"Samovar", "is", "(III)I"⟩, prog_1_method_13_code, 5, (Option.some Jvm.ClassFile.FieldType.int), 4, 92, [(0, .iload_n 1, 0, [], [], 0),
  (1, .bipush 23, 0, [], [(23, 0)], 0),
  (3, .invokestatic 83, 0, [0], [], 0),
  (6, .ifCond .eq 25, 31, [], [], 0),
  (9, .aload_n 0, 0, [], [], 0),
  (10, .getfield 22, 0, [8, 1, 383, 0], [], 0),
  (13, .getfield 37, 0, [6, 0, 150, 0], [], 0),
  (16, .iload_n 2, 0, [], [], 0),
  (17, .invokevirtual 160, 0, [0], [], 0),
  (20, .ifCond .eq 11, 31, [], [], 0),
  (23, .iload_n 3, 0, [], [], 0),
  (24, .iconst 1, 0, [], [(1, 0)], 0),
  (25, .invokestatic 83, 0, [0], [], 0),
  (28, .ifCond .ne 6, 34, [], [], 0),
  (31, .bipush (-2), 0, [], [((-2), 0)], 0),
  (33, .ireturn, 0, [], [], 0),
  (34, .aload_n 0, 0, [], [], 0),
  (35, .invokevirtual 139, 0, [0], [], 0),
  (38, .astore 4, 0, [], [], 0),
  (40, .iload_n 3, 0, [], [], 0),
  (41, .ifCond .ne 13, 54, [], [], 0),
  (44, .aload 4, 0, [], [], 0),
  (46, .iload_n 1, 0, [], [], 0),
  (47, .iload_n 2, 0, [], [], 0),
  (48, .invokevirtual 164, 0, [0], [], 0),
  (51, .goto 10, 61, [], [], 0),
  (54, .aload 4, 0, [], [], 0),
  (56, .iload_n 1, 0, [], [], 0),
  (57, .iload_n 2, 0, [], [], 0),
  (58, .invokevirtual 167, 0, [0], [], 0),
  (61, .ireturn, 0, [], [], 0)])
def mr_X9_isOf : MR := (9, 3, ⟨"SamovarModel", "isOf", "(III)I"⟩, prog_11_method_43_code, 4, (Option.some Jvm.ClassFile.FieldType.int), 8, 178, [(0, .aload_n 0, 0, [], [], 0),
  (1, .invokevirtual 253, 0, [0], [], 0),
  (4, .iload_n 3, 0, [], [], 0),
  (5, .ifCond .ne 17, 22, [], [], 0),
  (8, .aload_n 0, 0, [], [], 0),
  (9, .getfield 76, 0, [9, 38, 1000, 0], [], 0),
  (12, .bipush 8, 0, [], [(8, 0)], 0),
  (14, .iload_n 1, 0, [], [], 0),
  (15, .imul, 0, [], [], 0),
  (16, .iload_n 2, 0, [], [], 0),
  (17, .iadd, 0, [], [], 0),
  (18, .iaload, 0, [], [], 0),
  (19, .goto 14, 33, [], [], 0),
  (22, .aload_n 0, 0, [], [], 0),
  (23, .getfield 79, 0, [9, 39, 1001, 0], [], 0),
  (26, .bipush 8, 0, [], [(8, 0)], 0),
  (28, .iload_n 1, 0, [], [], 0),
  (29, .imul, 0, [], [], 0),
  (30, .iload_n 2, 0, [], [], 0),
  (31, .iadd, 0, [], [], 0),
  (32, .iaload, 0, [], [], 0),
  (33, .ireturn, 0, [], [], 0)])
def mr_X9_is : MR := (9, 3, ⟨"SamovarModel", "is", "(III)I"⟩, prog_11_method_44_code, 4, (Option.some Jvm.ClassFile.FieldType.int), 9, 201, [(0, .iload_n 1, 0, [], [], 0),
  (1, .invokestatic 131, 0, [0], [], 0),
  (4, .ifCond .eq 28, 32, [], [], 0),
  (7, .aload_n 0, 0, [], [], 0),
  (8, .iload_n 2, 0, [], [], 0),
  (9, .invokevirtual 163, 0, [0], [], 0),
  (12, .ifCond .eq 20, 32, [], [], 0),
  (15, .iload_n 3, 0, [], [], 0),
  (16, .invokestatic 123, 0, [0], [], 0),
  (19, .ifCond .eq 13, 32, [], [], 0),
  (22, .aload_n 0, 0, [], [], 0),
  (23, .iload_n 1, 0, [], [], 0),
  (24, .iload_n 2, 0, [], [], 0),
  (25, .iload_n 3, 0, [], [], 0),
  (26, .invokevirtual 259, 0, [0], [], 0),
  (29, .goto 5, 34, [], [], 0),
  (32, .bipush (-2), 0, [], [((-2), 0)], 0),
  (34, .ireturn, 0, [], [], 0)])
def mr_X8_line : MR := (8, 1, ⟨"Samovar", "line", "(I)I"⟩, prog_1_method_14_code, 2, (Option.some Jvm.ClassFile.FieldType.int), 4, 92, [(0, .iload_n 1, 0, [], [], 0),
  (1, .bipush 23, 0, [], [(23, 0)], 0),
  (3, .invokestatic 83, 0, [0], [], 0),
  (6, .ifCond .eq 15, 21, [], [], 0),
  (9, .aload_n 0, 0, [], [], 0),
  (10, .invokevirtual 139, 0, [0], [], 0),
  (13, .getfield 170, 0, [2, 5, 296, 0], [], 0),
  (16, .iload_n 1, 0, [], [], 0),
  (17, .iaload, 0, [], [], 0),
  (18, .goto 5, 23, [], [], 0),
  (21, .bipush (-2), 0, [], [((-2), 0)], 0),
  (23, .ireturn, 0, [], [], 0)])
def mr_X9_lineOf : MR := (9, 1, ⟨"SamovarModel", "lineOf", "(I)I"⟩, prog_11_method_45_code, 2, (Option.some Jvm.ClassFile.FieldType.int), 8, 178, [(0, .aload_n 0, 0, [], [], 0),
  (1, .invokevirtual 253, 0, [0], [], 0),
  (4, .aload_n 0, 0, [], [], 0),
  (5, .getfield 73, 0, [9, 37, 999, 0], [], 0),
  (8, .iload_n 1, 0, [], [], 0),
  (9, .iaload, 0, [], [], 0),
  (10, .ireturn, 0, [], [], 0)])
def mr_X9_line : MR := (9, 1, ⟨"SamovarModel", "line", "(I)I"⟩, prog_11_method_46_code, 2, (Option.some Jvm.ClassFile.FieldType.int), 9, 199, [(0, .iload_n 1, 0, [], [], 0),
  (1, .invokestatic 131, 0, [0], [], 0),
  (4, .ifCond .eq 11, 15, [], [], 0),
  (7, .aload_n 0, 0, [], [], 0),
  (8, .iload_n 1, 0, [], [], 0),
  (9, .invokevirtual 262, 0, [0], [], 0),
  (12, .goto 5, 17, [], [], 0),
  (15, .bipush (-2), 0, [], [((-2), 0)], 0),
  (17, .ireturn, 0, [], [], 0)])
def mr_J13_bitCount : MR := (13, 1, ⟨"java/lang/Integer", "bitCount", "(I)I"⟩, prog_13_method_49_code, 1, (Option.some Jvm.ClassFile.FieldType.int), 0, 0, [(0, .iload_n 0, 0, [], [], 0),
  (1, .iload_n 0, 0, [], [], 0),
  (2, .iconst 1, 0, [], [(1, 0)], 0),
  (3, .iushr, 0, [], [], 0),
  (4, .ldc_w 265, 714, [], [(1431655765, 0)], 0),
  (7, .iand, 0, [], [], 0),
  (8, .isub, 0, [], [], 0),
  (9, .istore_n 0, 0, [], [], 0),
  (10, .iload_n 0, 0, [], [], 0),
  (11, .ldc_w 266, 715, [], [(858993459, 0)], 0),
  (14, .iand, 0, [], [], 0),
  (15, .iload_n 0, 0, [], [], 0),
  (16, .iconst 2, 0, [], [(2, 0)], 0),
  (17, .iushr, 0, [], [], 0),
  (18, .ldc_w 266, 715, [], [(858993459, 0)], 0),
  (21, .iand, 0, [], [], 0),
  (22, .iadd, 0, [], [], 0),
  (23, .istore_n 0, 0, [], [], 0),
  (24, .iload_n 0, 0, [], [], 0),
  (25, .iload_n 0, 0, [], [], 0),
  (26, .iconst 4, 0, [], [(4, 0)], 0),
  (27, .iushr, 0, [], [], 0),
  (28, .iadd, 0, [], [], 0),
  (29, .ldc_w 267, 716, [], [(252645135, 0)], 0),
  (32, .iand, 0, [], [], 0),
  (33, .istore_n 0, 0, [], [], 0),
  (34, .iload_n 0, 0, [], [], 0),
  (35, .iload_n 0, 0, [], [], 0),
  (36, .bipush 8, 0, [], [(8, 0)], 0),
  (38, .iushr, 0, [], [], 0),
  (39, .iadd, 0, [], [], 0),
  (40, .istore_n 0, 0, [], [], 0),
  (41, .iload_n 0, 0, [], [], 0),
  (42, .iload_n 0, 0, [], [], 0),
  (43, .bipush 16, 0, [], [(16, 0)], 0),
  (45, .iushr, 0, [], [], 0),
  (46, .iadd, 0, [], [], 0),
  (47, .istore_n 0, 0, [], [], 0),
  (48, .iload_n 0, 0, [], [], 0),
  (49, .bipush 63, 0, [], [(63, 0)], 0),
  (51, .iand, 0, [], [], 0),
  (52, .ireturn, 0, [], [], 0)])
def mr_X8_sum : MR := (8, 1, ⟨"Samovar", "sum", "(I)I"⟩, prog_1_method_15_code, 3, (Option.some Jvm.ClassFile.FieldType.int), 4, 92, [(0, .aload_n 0, 0, [], [], 0),
  (1, .invokevirtual 139, 0, [0], [], 0),
  (4, .astore_n 2, 0, [], [], 0),
  (5, .iload_n 1, 0, [], [], 0),
  (6, .tableswitch 80 0 4 #[34, 42, 53, 64, 72], 86, [], [(0, 40), (1, 48), (2, 59), (3, 70), (4, 78)], 0),
  (40, .aload_n 2, 0, [], [], 0),
  (41, .getfield 173, 0, [2, 9, 303, 0], [], 0),
  (44, .getfield 177, 0, [0, 6, 259, 0], [], 0),
  (47, .ireturn, 0, [], [], 0),
  (48, .aload_n 2, 0, [], [], 0),
  (49, .getfield 173, 0, [2, 9, 303, 0], [], 0),
  (52, .getfield 182, 0, [0, 7, 262, 0], [], 0),
  (55, .invokestatic 185, 0, [0], [], 0),
  (58, .ireturn, 0, [], [], 0),
  (59, .aload_n 2, 0, [], [], 0),
  (60, .getfield 173, 0, [2, 9, 303, 0], [], 0),
  (63, .getfield 190, 0, [0, 8, 265, 0], [], 0),
  (66, .invokestatic 185, 0, [0], [], 0),
  (69, .ireturn, 0, [], [], 0),
  (70, .aload_n 2, 0, [], [], 0),
  (71, .getfield 193, 0, [2, 8, 300, 0], [], 0),
  (74, .getfield 197, 0, [3, 3, 232, 0], [], 0),
  (77, .ireturn, 0, [], [], 0),
  (78, .aload_n 2, 0, [], [], 0),
  (79, .getfield 154, 0, [2, 10, 305, 0], [], 0),
  (82, .invokestatic 185, 0, [0], [], 0),
  (85, .ireturn, 0, [], [], 0),
  (86, .bipush (-2), 0, [], [((-2), 0)], 0),
  (88, .ireturn, 0, [], [], 0)])
def mr_X9_drunkNow : MR := (9, 0, ⟨"SamovarModel", "drunkNow", "()I"⟩, prog_11_method_47_code, 3, (Option.some Jvm.ClassFile.FieldType.int), 0, 0, [(0, .iconst 0, 0, [], [(0, 0)], 0),
  (1, .istore_n 1, 0, [], [], 0),
  (2, .iconst 0, 0, [], [(0, 0)], 0),
  (3, .istore_n 2, 0, [], [], 0),
  (4, .iload_n 2, 0, [], [], 0),
  (5, .aload_n 0, 0, [], [], 0),
  (6, .getfield 181, 0, [9, 16, 978, 0], [], 0),
  (9, .if_icmp .ge 18, 27, [], [], 0),
  (12, .iload_n 1, 0, [], [], 0),
  (13, .aload_n 0, 0, [], [], 0),
  (14, .getfield 58, 0, [9, 32, 994, 0], [], 0),
  (17, .iload_n 2, 0, [], [], 0),
  (18, .iaload, 0, [], [], 0),
  (19, .iadd, 0, [], [], 0),
  (20, .istore_n 1, 0, [], [], 0),
  (21, .iinc 2 1, 0, [], [(1, 0)], 0),
  (24, .goto (-20), 4, [], [], 0),
  (27, .iload_n 1, 0, [], [], 0),
  (28, .ireturn, 0, [], [], 0)])
def mr_X9_manyOf : MR := (9, 1, ⟨"SamovarModel", "manyOf", "(I)I"⟩, prog_11_method_48_code, 4, (Option.some Jvm.ClassFile.FieldType.int), 0, 0, [(0, .iconst 0, 0, [], [(0, 0)], 0),
  (1, .istore_n 2, 0, [], [], 0),
  (2, .iconst 0, 0, [], [(0, 0)], 0),
  (3, .istore_n 3, 0, [], [], 0),
  (4, .iload_n 3, 0, [], [], 0),
  (5, .aload_n 0, 0, [], [], 0),
  (6, .getfield 181, 0, [9, 16, 978, 0], [], 0),
  (9, .if_icmp .ge 27, 36, [], [], 0),
  (12, .iload_n 2, 0, [], [], 0),
  (13, .aload_n 0, 0, [], [], 0),
  (14, .getfield 55, 0, [9, 31, 993, 0], [], 0),
  (17, .iload_n 3, 0, [], [], 0),
  (18, .iaload, 0, [], [], 0),
  (19, .iload_n 1, 0, [], [], 0),
  (20, .if_icmp .ne 7, 27, [], [], 0),
  (23, .iconst 1, 0, [], [(1, 0)], 0),
  (24, .goto 4, 28, [], [], 0),
  (27, .iconst 0, 0, [], [(0, 0)], 0),
  (28, .iadd, 0, [], [], 0),
  (29, .istore_n 2, 0, [], [], 0),
  (30, .iinc 3 1, 0, [], [(1, 0)], 0),
  (33, .goto (-29), 4, [], [], 0),
  (36, .iload_n 2, 0, [], [], 0),
  (37, .ireturn, 0, [], [], 0)])
def mr_X9_sumOf : MR := (9, 1, ⟨"SamovarModel", "sumOf", "(I)I"⟩, prog_11_method_49_code, 2, (Option.some Jvm.ClassFile.FieldType.int), 8, 178, [(0, .aload_n 0, 0, [], [], 0),
  (1, .invokevirtual 253, 0, [0], [], 0),
  (4, .iload_n 1, 0, [], [], 0),
  (5, .tableswitch 53 0 3 #[31, 36, 42, 48], 58, [], [(0, 36), (1, 41), (2, 47), (3, 53)], 0),
  (36, .aload_n 0, 0, [], [], 0),
  (37, .invokevirtual 265, 0, [0], [], 0),
  (40, .ireturn, 0, [], [], 0),
  (41, .aload_n 0, 0, [], [], 0),
  (42, .iconst 3, 0, [], [(3, 0)], 0),
  (43, .invokevirtual 269, 0, [0], [], 0),
  (46, .ireturn, 0, [], [], 0),
  (47, .aload_n 0, 0, [], [], 0),
  (48, .iconst 4, 0, [], [(4, 0)], 0),
  (49, .invokevirtual 269, 0, [0], [], 0),
  (52, .ireturn, 0, [], [], 0),
  (53, .aload_n 0, 0, [], [], 0),
  (54, .getfield 226, 0, [9, 26, 988, 0], [], 0),
  (57, .ireturn, 0, [], [], 0),
  (58, .aload_n 0, 0, [], [], 0),
  (59, .getfield 229, 0, [9, 27, 989, 0], [], 0),
  (62, .ireturn, 0, [], [], 0)])
def mr_X9_sum : MR := (9, 1, ⟨"SamovarModel", "sum", "(I)I"⟩, prog_11_method_50_code, 2, (Option.some Jvm.ClassFile.FieldType.int), 9, 199, [(0, .iload_n 1, 0, [], [], 0),
  (1, .iconst 0, 0, [], [(0, 0)], 0),
  (2, .iconst 4, 0, [], [(4, 0)], 0),
  (3, .invokestatic 119, 0, [0], [], 0),
  (6, .ifCond .eq 11, 17, [], [], 0),
  (9, .aload_n 0, 0, [], [], 0),
  (10, .iload_n 1, 0, [], [], 0),
  (11, .invokevirtual 272, 0, [0], [], 0),
  (14, .goto 5, 19, [], [], 0),
  (17, .bipush (-2), 0, [], [((-2), 0)], 0),
  (19, .ireturn, 0, [], [], 0)])
def mr_X8_first : MR := (8, 0, ⟨"Samovar", "first", "()I"⟩, prog_1_method_16_code, 3, (Option.some Jvm.ClassFile.FieldType.int), 4, 92, [(0, .aload_n 0, 0, [], [], 0),
  (1, .invokevirtual 139, 0, [0], [], 0),
  (4, .astore_n 1, 0, [], [], 0),
  (5, .iconst 0, 0, [], [(0, 0)], 0),
  (6, .istore_n 2, 0, [], [], 0),
  (7, .iload_n 2, 0, [], [], 0),
  (8, .bipush 24, 0, [], [(24, 0)], 0),
  (10, .if_icmp .ge 23, 33, [], [], 0),
  (13, .aload_n 1, 0, [], [], 0),
  (14, .getfield 154, 0, [2, 10, 305, 0], [], 0),
  (17, .iload_n 2, 0, [], [], 0),
  (18, .ishr, 0, [], [], 0),
  (19, .iconst 1, 0, [], [(1, 0)], 0),
  (20, .iand, 0, [], [], 0),
  (21, .iconst 1, 0, [], [(1, 0)], 0),
  (22, .if_icmp .ne 5, 27, [], [], 0),
  (25, .iload_n 2, 0, [], [], 0),
  (26, .ireturn, 0, [], [], 0),
  (27, .iinc 2 1, 0, [], [(1, 0)], 0),
  (30, .goto (-23), 7, [], [], 0),
  (33, .iconst (-1), 0, [], [((-1), 0)], 0),
  (34, .ireturn, 0, [], [], 0)])
def mr_X9_firstOf : MR := (9, 0, ⟨"SamovarModel", "firstOf", "()I"⟩, prog_11_method_51_code, 1, (Option.some Jvm.ClassFile.FieldType.int), 8, 178, [(0, .aload_n 0, 0, [], [], 0),
  (1, .invokevirtual 253, 0, [0], [], 0),
  (4, .aload_n 0, 0, [], [], 0),
  (5, .getfield 232, 0, [9, 28, 990, 0], [], 0),
  (8, .ireturn, 0, [], [], 0)])
def mr_X9_first : MR := (9, 0, ⟨"SamovarModel", "first", "()I"⟩, prog_11_method_52_code, 1, (Option.some Jvm.ClassFile.FieldType.int), 9, 198, [(0, .aload_n 0, 0, [], [], 0),
  (1, .invokevirtual 275, 0, [0], [], 0),
  (4, .ireturn, 0, [], [], 0)])
def mr_X8_hottest : MR := (8, 1, ⟨"Samovar", "hottest", "(I)I"⟩, prog_1_method_17_code, 5, (Option.some Jvm.ClassFile.FieldType.int), 4, 92, [(0, .iload_n 1, 0, [], [], 0),
  (1, .iconst 1, 0, [], [(1, 0)], 0),
  (2, .invokestatic 83, 0, [0], [], 0),
  (5, .ifCond .ne 6, 11, [], [], 0),
  (8, .bipush (-2), 0, [], [((-2), 0)], 0),
  (10, .ireturn, 0, [], [], 0),
  (11, .aload_n 0, 0, [], [], 0),
  (12, .invokevirtual 139, 0, [0], [], 0),
  (15, .astore_n 2, 0, [], [], 0),
  (16, .iconst 0, 0, [], [(0, 0)], 0),
  (17, .istore_n 3, 0, [], [], 0),
  (18, .iconst 1, 0, [], [(1, 0)], 0),
  (19, .istore 4, 0, [], [], 0),
  (21, .iload 4, 0, [], [], 0),
  (23, .bipush 24, 0, [], [(24, 0)], 0),
  (25, .if_icmp .ge 28, 53, [], [], 0),
  (28, .aload_n 2, 0, [], [], 0),
  (29, .getfield 143, 0, [2, 0, 286, 0], [], 0),
  (32, .iload 4, 0, [], [], 0),
  (34, .iaload, 0, [], [], 0),
  (35, .aload_n 2, 0, [], [], 0),
  (36, .getfield 143, 0, [2, 0, 286, 0], [], 0),
  (39, .iload_n 3, 0, [], [], 0),
  (40, .iaload, 0, [], [], 0),
  (41, .if_icmp .le 6, 47, [], [], 0),
  (44, .iload 4, 0, [], [], 0),
  (46, .istore_n 3, 0, [], [], 0),
  (47, .iinc 4 1, 0, [], [(1, 0)], 0),
  (50, .goto (-29), 21, [], [], 0),
  (53, .iload_n 1, 0, [], [], 0),
  (54, .ifCond .ne 7, 61, [], [], 0),
  (57, .iload_n 3, 0, [], [], 0),
  (58, .goto 9, 67, [], [], 0),
  (61, .aload_n 2, 0, [], [], 0),
  (62, .getfield 143, 0, [2, 0, 286, 0], [], 0),
  (65, .iload_n 3, 0, [], [], 0),
  (66, .iaload, 0, [], [], 0),
  (67, .ireturn, 0, [], [], 0)])
def mr_X9_hottestOf : MR := (9, 1, ⟨"SamovarModel", "hottestOf", "(I)I"⟩, prog_11_method_53_code, 4, (Option.some Jvm.ClassFile.FieldType.int), 8, 178, [(0, .aload_n 0, 0, [], [], 0),
  (1, .invokevirtual 253, 0, [0], [], 0),
  (4, .iconst 0, 0, [], [(0, 0)], 0),
  (5, .istore_n 2, 0, [], [], 0),
  (6, .iconst 1, 0, [], [(1, 0)], 0),
  (7, .istore_n 3, 0, [], [], 0),
  (8, .iload_n 3, 0, [], [], 0),
  (9, .bipush 24, 0, [], [(24, 0)], 0),
  (11, .if_icmp .ge 36, 47, [], [], 0),
  (14, .aload_n 0, 0, [], [], 0),
  (15, .getfield 70, 0, [9, 36, 998, 0], [], 0),
  (18, .bipush 6, 0, [], [(6, 0)], 0),
  (20, .iload_n 3, 0, [], [], 0),
  (21, .imul, 0, [], [], 0),
  (22, .iaload, 0, [], [], 0),
  (23, .aload_n 0, 0, [], [], 0),
  (24, .getfield 70, 0, [9, 36, 998, 0], [], 0),
  (27, .bipush 6, 0, [], [(6, 0)], 0),
  (29, .iload_n 2, 0, [], [], 0),
  (30, .imul, 0, [], [], 0),
  (31, .iaload, 0, [], [], 0),
  (32, .if_icmp .le 7, 39, [], [], 0),
  (35, .iload_n 3, 0, [], [], 0),
  (36, .goto 4, 40, [], [], 0),
  (39, .iload_n 2, 0, [], [], 0),
  (40, .istore_n 2, 0, [], [], 0),
  (41, .iinc 3 1, 0, [], [(1, 0)], 0),
  (44, .goto (-36), 8, [], [], 0),
  (47, .iload_n 1, 0, [], [], 0),
  (48, .ifCond .ne 7, 55, [], [], 0),
  (51, .iload_n 2, 0, [], [], 0),
  (52, .goto 12, 64, [], [], 0),
  (55, .aload_n 0, 0, [], [], 0),
  (56, .getfield 70, 0, [9, 36, 998, 0], [], 0),
  (59, .bipush 6, 0, [], [(6, 0)], 0),
  (61, .iload_n 2, 0, [], [], 0),
  (62, .imul, 0, [], [], 0),
  (63, .iaload, 0, [], [], 0),
  (64, .ireturn, 0, [], [], 0)])
def mr_X9_hottest : MR := (9, 1, ⟨"SamovarModel", "hottest", "(I)I"⟩, prog_11_method_54_code, 2, (Option.some Jvm.ClassFile.FieldType.int), 9, 201, [(0, .iload_n 1, 0, [], [], 0),
  (1, .invokestatic 123, 0, [0], [], 0),
  (4, .ifCond .eq 11, 15, [], [], 0),
  (7, .aload_n 0, 0, [], [], 0),
  (8, .iload_n 1, 0, [], [], 0),
  (9, .invokevirtual 278, 0, [0], [], 0),
  (12, .goto 5, 17, [], [], 0),
  (15, .bipush (-2), 0, [], [((-2), 0)], 0),
  (17, .ireturn, 0, [], [], 0)])
def mr_X8_waited : MR := (8, 1, ⟨"Samovar", "waited", "(I)I"⟩, prog_1_method_18_code, 5, (Option.some Jvm.ClassFile.FieldType.int), 4, 92, [(0, .aload_n 0, 0, [], [], 0),
  (1, .getfield 22, 0, [8, 1, 383, 0], [], 0),
  (4, .getfield 37, 0, [6, 0, 150, 0], [], 0),
  (7, .iload_n 1, 0, [], [], 0),
  (8, .invokevirtual 160, 0, [0], [], 0),
  (11, .ifCond .ne 6, 17, [], [], 0),
  (14, .bipush (-2), 0, [], [((-2), 0)], 0),
  (16, .ireturn, 0, [], [], 0),
  (17, .aload_n 0, 0, [], [], 0),
  (18, .invokevirtual 139, 0, [0], [], 0),
  (21, .astore_n 2, 0, [], [], 0),
  (22, .iconst 0, 0, [], [(0, 0)], 0),
  (23, .istore_n 3, 0, [], [], 0),
  (24, .iconst 0, 0, [], [(0, 0)], 0),
  (25, .istore 4, 0, [], [], 0),
  (27, .iload 4, 0, [], [], 0),
  (29, .bipush 24, 0, [], [(24, 0)], 0),
  (31, .if_icmp .ge 23, 54, [], [], 0),
  (34, .aload_n 2, 0, [], [], 0),
  (35, .iload 4, 0, [], [], 0),
  (37, .iload_n 1, 0, [], [], 0),
  (38, .invokevirtual 164, 0, [0], [], 0),
  (41, .iconst 1, 0, [], [(1, 0)], 0),
  (42, .if_icmp .ne 6, 48, [], [], 0),
  (45, .iinc 3 1, 0, [], [(1, 0)], 0),
  (48, .iinc 4 1, 0, [], [(1, 0)], 0),
  (51, .goto (-24), 27, [], [], 0),
  (54, .iload_n 3, 0, [], [], 0),
  (55, .ireturn, 0, [], [], 0)])
def mr_X9_waitedOf : MR := (9, 1, ⟨"SamovarModel", "waitedOf", "(I)I"⟩, prog_11_method_55_code, 2, (Option.some Jvm.ClassFile.FieldType.int), 8, 178, [(0, .aload_n 0, 0, [], [], 0),
  (1, .invokevirtual 253, 0, [0], [], 0),
  (4, .aload_n 0, 0, [], [], 0),
  (5, .getfield 67, 0, [9, 35, 997, 0], [], 0),
  (8, .iload_n 1, 0, [], [], 0),
  (9, .iaload, 0, [], [], 0),
  (10, .ireturn, 0, [], [], 0)])
def mr_X9_waited : MR := (9, 1, ⟨"SamovarModel", "waited", "(I)I"⟩, prog_11_method_56_code, 2, (Option.some Jvm.ClassFile.FieldType.int), 9, 199, [(0, .aload_n 0, 0, [], [], 0),
  (1, .iload_n 1, 0, [], [], 0),
  (2, .invokevirtual 163, 0, [0], [], 0),
  (5, .ifCond .eq 11, 16, [], [], 0),
  (8, .aload_n 0, 0, [], [], 0),
  (9, .iload_n 1, 0, [], [], 0),
  (10, .invokevirtual 281, 0, [0], [], 0),
  (13, .goto 5, 18, [], [], 0),
  (16, .bipush (-2), 0, [], [((-2), 0)], 0),
  (18, .ireturn, 0, [], [], 0)])
def mr_X8_thirst : MR := (8, 0, ⟨"Samovar", "thirst", "()I"⟩, prog_1_method_19_code, 3, (Option.some Jvm.ClassFile.FieldType.int), 4, 92, [(0, .aload_n 0, 0, [], [], 0),
  (1, .invokevirtual 139, 0, [0], [], 0),
  (4, .astore_n 1, 0, [], [], 0),
  (5, .iconst 1, 0, [], [(1, 0)], 0),
  (6, .aload_n 0, 0, [], [], 0),
  (7, .getfield 22, 0, [8, 1, 383, 0], [], 0),
  (10, .getfield 37, 0, [6, 0, 150, 0], [], 0),
  (13, .getfield 118, 0, [1, 3, 136, 0], [], 0),
  (16, .ishl, 0, [], [], 0),
  (17, .iconst 1, 0, [], [(1, 0)], 0),
  (18, .isub, 0, [], [], 0),
  (19, .istore_n 2, 0, [], [], 0),
  (20, .iload_n 2, 0, [], [], 0),
  (21, .aload_n 1, 0, [], [], 0),
  (22, .getfield 173, 0, [2, 9, 303, 0], [], 0),
  (25, .getfield 182, 0, [0, 7, 262, 0], [], 0),
  (28, .iconst (-1), 0, [], [((-1), 0)], 0),
  (29, .ixor, 0, [], [], 0),
  (30, .iand, 0, [], [], 0),
  (31, .ireturn, 0, [], [], 0)])
def mr_X9_thirstOf : MR := (9, 0, ⟨"SamovarModel", "thirstOf", "()I"⟩, prog_11_method_57_code, 3, (Option.some Jvm.ClassFile.FieldType.int), 8, 178, [(0, .aload_n 0, 0, [], [], 0),
  (1, .invokevirtual 253, 0, [0], [], 0),
  (4, .iconst 0, 0, [], [(0, 0)], 0),
  (5, .istore_n 1, 0, [], [], 0),
  (6, .iconst 0, 0, [], [(0, 0)], 0),
  (7, .istore_n 2, 0, [], [], 0),
  (8, .iload_n 2, 0, [], [], 0),
  (9, .aload_n 0, 0, [], [], 0),
  (10, .getfield 137, 0, [9, 6, 968, 0], [], 0),
  (13, .if_icmp .ge 34, 47, [], [], 0),
  (16, .iload_n 1, 0, [], [], 0),
  (17, .aload_n 0, 0, [], [], 0),
  (18, .getfield 58, 0, [9, 32, 994, 0], [], 0),
  (21, .iload_n 2, 0, [], [], 0),
  (22, .iaload, 0, [], [], 0),
  (23, .aload_n 0, 0, [], [], 0),
  (24, .getfield 31, 0, [9, 9, 971, 0], [], 0),
  (27, .iload_n 2, 0, [], [], 0),
  (28, .iaload, 0, [], [], 0),
  (29, .if_icmp .ge 9, 38, [], [], 0),
  (32, .iconst 1, 0, [], [(1, 0)], 0),
  (33, .iload_n 2, 0, [], [], 0),
  (34, .ishl, 0, [], [], 0),
  (35, .goto 4, 39, [], [], 0),
  (38, .iconst 0, 0, [], [(0, 0)], 0),
  (39, .ior, 0, [], [], 0),
  (40, .istore_n 1, 0, [], [], 0),
  (41, .iinc 2 1, 0, [], [(1, 0)], 0),
  (44, .goto (-36), 8, [], [], 0),
  (47, .iload_n 1, 0, [], [], 0),
  (48, .ireturn, 0, [], [], 0)])
def mr_X9_thirst : MR := (9, 0, ⟨"SamovarModel", "thirst", "()I"⟩, prog_11_method_58_code, 1, (Option.some Jvm.ClassFile.FieldType.int), 9, 200, [(0, .aload_n 0, 0, [], [], 0),
  (1, .invokevirtual 284, 0, [0], [], 0),
  (4, .ireturn, 0, [], [], 0)])
def mr_X7_kindsOf : MR := (7, 1, ⟨"Samovar$Trials", "kindsOf", "(I)I"⟩, prog_9_method_2_code, 1, (Option.some Jvm.ClassFile.FieldType.int), 0, 0, [(0, .sipush 287, 0, [], [(287, 0)], 0),
  (3, .iload_n 0, 0, [], [], 0),
  (4, .iconst 3, 0, [], [(3, 0)], 0),
  (5, .imul, 0, [], [], 0),
  (6, .iadd, 0, [], [], 0),
  (7, .ireturn, 0, [], [], 0)])
def mr_X1_becomeLike : MR := (1, 1, ⟨"Samovar$Entries", "becomeLike", "(LSamovar$Entries;)V"⟩, prog_3_method_5_code, 2, (Option.none : Option Jvm.ClassFile.FieldType), 1, 26, [(0, .aload_n 1, 0, [], [], 0),
  (1, .getfield 9, 0, [1, 0, 115, 0], [], 0),
  (4, .iconst 0, 0, [], [(0, 0)], 0),
  (5, .aload_n 0, 0, [], [], 0),
  (6, .getfield 9, 0, [1, 0, 115, 0], [], 0),
  (9, .iconst 0, 0, [], [(0, 0)], 0),
  (10, .bipush 8, 0, [], [(8, 0)], 0),
  (12, .invokestatic 29, 0, [1, 756], [], 0),
  (15, .aload_n 1, 0, [], [], 0),
  (16, .getfield 15, 0, [1, 1, 121, 0], [], 0),
  (19, .iconst 0, 0, [], [(0, 0)], 0),
  (20, .aload_n 0, 0, [], [], 0),
  (21, .getfield 15, 0, [1, 1, 121, 0], [], 0),
  (24, .iconst 0, 0, [], [(0, 0)], 0),
  (25, .bipush 8, 0, [], [(8, 0)], 0),
  (27, .invokestatic 29, 0, [1, 756], [], 0),
  (30, .aload_n 1, 0, [], [], 0),
  (31, .getfield 18, 0, [1, 2, 127, 0], [], 0),
  (34, .iconst 0, 0, [], [(0, 0)], 0),
  (35, .aload_n 0, 0, [], [], 0),
  (36, .getfield 18, 0, [1, 2, 127, 0], [], 0),
  (39, .iconst 0, 0, [], [(0, 0)], 0),
  (40, .bipush 8, 0, [], [(8, 0)], 0),
  (42, .invokestatic 29, 0, [1, 756], [], 0),
  (45, .aload_n 0, 0, [], [], 0),
  (46, .aload_n 1, 0, [], [], 0),
  (47, .getfield 21, 0, [1, 3, 131, 0], [], 0),
  (50, .putfield 21, 0, [1, 3, 131, 0], [], 0),
  (53, .return_, 0, [], [], 0)])
def mr_X4_becomeLike : MR := (4, 1, ⟨"Samovar$Plan", "becomeLike", "(LSamovar$Plan;)V"⟩, prog_6_method_2_code, 2, (Option.none : Option Jvm.ClassFile.FieldType), 2, 47, [(0, .aload_n 0, 0, [], [], 0),
  (1, .getfield 16, 0, [4, 0, 180, 0], [], 0),
  (4, .aload_n 1, 0, [], [], 0),
  (5, .getfield 16, 0, [4, 0, 180, 0], [], 0),
  (8, .invokevirtual 26, 0, [0], [], 0),
  (11, .aload_n 0, 0, [], [], 0),
  (12, .getfield 20, 0, [4, 1, 183, 0], [], 0),
  (15, .aload_n 1, 0, [], [], 0),
  (16, .getfield 20, 0, [4, 1, 183, 0], [], 0),
  (19, .invokevirtual 26, 0, [0], [], 0),
  (22, .aload_n 0, 0, [], [], 0),
  (23, .getfield 23, 0, [4, 2, 186, 0], [], 0),
  (26, .aload_n 1, 0, [], [], 0),
  (27, .getfield 23, 0, [4, 2, 186, 0], [], 0),
  (30, .invokevirtual 26, 0, [0], [], 0),
  (33, .aload_n 0, 0, [], [], 0),
  (34, .aload_n 1, 0, [], [], 0),
  (35, .getfield 7, 0, [4, 3, 188, 0], [], 0),
  (38, .putfield 7, 0, [4, 3, 188, 0], [], 0),
  (41, .aload_n 0, 0, [], [], 0),
  (42, .aload_n 1, 0, [], [], 0),
  (43, .getfield 13, 0, [4, 4, 192, 0], [], 0),
  (46, .putfield 13, 0, [4, 4, 192, 0], [], 0),
  (49, .aload_n 0, 0, [], [], 0),
  (50, .aload_n 1, 0, [], [], 0),
  (51, .getfield 32, 0, [4, 5, 195, 0], [], 0),
  (54, .putfield 32, 0, [4, 5, 195, 0], [], 0),
  (57, .return_, 0, [], [], 0)])
def mr_X7_alter : MR := (7, 1, ⟨"Samovar$Trials", "alter", "(I)V"⟩, prog_9_method_10_code, 3, (Option.none : Option Jvm.ClassFile.FieldType), 0, 0, [(0, .iload_n 1, 0, [], [], 0),
  (1, .sipush 256, 0, [], [(256, 0)], 0),
  (4, .if_icmp .ge 14, 18, [], [], 0),
  (7, .aload_n 0, 0, [], [], 0),
  (8, .getfield 23, 0, [7, 2, 344, 0], [], 0),
  (11, .iload_n 1, 0, [], [], 0),
  (12, .putfield 66, 0, [4, 5, 197, 0], [], 0),
  (15, .goto 90, 105, [], [], 0),
  (18, .iload_n 1, 0, [], [], 0),
  (19, .sipush 287, 0, [], [(287, 0)], 0),
  (22, .if_icmp .ge 18, 40, [], [], 0),
  (25, .aload_n 0, 0, [], [], 0),
  (26, .getfield 23, 0, [7, 2, 344, 0], [], 0),
  (29, .iload_n 1, 0, [], [], 0),
  (30, .sipush 256, 0, [], [(256, 0)], 0),
  (33, .isub, 0, [], [], 0),
  (34, .putfield 70, 0, [4, 3, 191, 0], [], 0),
  (37, .goto 68, 105, [], [], 0),
  (40, .iload_n 1, 0, [], [], 0),
  (41, .sipush 311, 0, [], [(311, 0)], 0),
  (44, .if_icmp .ge 29, 73, [], [], 0),
  (47, .iload_n 1, 0, [], [], 0),
  (48, .sipush 287, 0, [], [(287, 0)], 0),
  (51, .isub, 0, [], [], 0),
  (52, .istore_n 2, 0, [], [], 0),
  (53, .aload_n 0, 0, [], [], 0),
  (54, .getfield 23, 0, [7, 2, 344, 0], [], 0),
  (57, .getfield 73, 0, [4, 0, 182, 0], [], 0),
  (60, .getfield 77, 0, [1, 1, 125, 0], [], 0),
  (63, .iload_n 2, 0, [], [], 0),
  (64, .iconst 3, 0, [], [(3, 0)], 0),
  (65, .idiv, 0, [], [], 0),
  (66, .iload_n 2, 0, [], [], 0),
  (67, .iconst 3, 0, [], [(3, 0)], 0),
  (68, .irem, 0, [], [], 0),
  (69, .iastore, 0, [], [], 0),
  (70, .goto 35, 105, [], [], 0),
  (73, .iload_n 1, 0, [], [], 0),
  (74, .sipush 503, 0, [], [(503, 0)], 0),
  (77, .if_icmp .ge 28, 105, [], [], 0),
  (80, .iload_n 1, 0, [], [], 0),
  (81, .sipush 311, 0, [], [(311, 0)], 0),
  (84, .isub, 0, [], [], 0),
  (85, .istore_n 2, 0, [], [], 0),
  (86, .aload_n 0, 0, [], [], 0),
  (87, .getfield 23, 0, [7, 2, 344, 0], [], 0),
  (90, .getfield 81, 0, [4, 1, 185, 0], [], 0),
  (93, .getfield 84, 0, [1, 0, 119, 0], [], 0),
  (96, .iload_n 2, 0, [], [], 0),
  (97, .bipush 24, 0, [], [(24, 0)], 0),
  (99, .idiv, 0, [], [], 0),
  (100, .iload_n 2, 0, [], [], 0),
  (101, .bipush 24, 0, [], [(24, 0)], 0),
  (103, .irem, 0, [], [], 0),
  (104, .iastore, 0, [], [], 0),
  (105, .return_, 0, [], [], 0)])
def mr_X7_pack : MR := (7, 1, ⟨"Samovar$Trials", "pack", "(LSamovar$Evening;)J"⟩, prog_9_method_13_code, 2, (Option.some Jvm.ClassFile.FieldType.long), 0, 0, [(0, .aload_n 0, 0, [], [], 0),
  (1, .getfield 99, 0, [2, 9, 302, 0], [], 0),
  (4, .astore_n 1, 0, [], [], 0),
  (5, .ldc2_w 103, 765, [], [], 281474976710656),
  (8, .aload_n 1, 0, [], [], 0),
  (9, .getfield 105, 0, [0, 6, 258, 0], [], 0),
  (12, .i2l, 0, [], [], 0),
  (13, .bipush 40, 0, [], [(40, 0)], 0),
  (15, .lshl, 0, [], [], 0),
  (16, .lor, 0, [], [], 0),
  (17, .aload_n 1, 0, [], [], 0),
  (18, .getfield 110, 0, [0, 8, 264, 0], [], 0),
  (21, .i2l, 0, [], [], 0),
  (22, .bipush 32, 0, [], [(32, 0)], 0),
  (24, .lshl, 0, [], [], 0),
  (25, .lor, 0, [], [], 0),
  (26, .aload_n 1, 0, [], [], 0),
  (27, .getfield 113, 0, [0, 7, 261, 0], [], 0),
  (30, .i2l, 0, [], [], 0),
  (31, .bipush 24, 0, [], [(24, 0)], 0),
  (33, .lshl, 0, [], [], 0),
  (34, .lor, 0, [], [], 0),
  (35, .aload_n 0, 0, [], [], 0),
  (36, .getfield 116, 0, [2, 10, 306, 0], [], 0),
  (39, .i2l, 0, [], [], 0),
  (40, .lor, 0, [], [], 0),
  (41, .lreturn, 0, [], [], 0)])
def mr_X7_outcome : MR := (7, 1, ⟨"Samovar$Trials", "outcome", "(I)J"⟩, prog_9_method_9_code, 2, (Option.some Jvm.ClassFile.FieldType.long), 3, 72, [(0, .iload_n 1, 0, [], [], 0),
  (1, .ifCond .lt 10, 11, [], [], 0),
  (4, .iload_n 1, 0, [], [], 0),
  (5, .sipush 503, 0, [], [(503, 0)], 0),
  (8, .if_icmp .lt 5, 13, [], [], 0),
  (11, .lconst 0, 0, [], [], 0),
  (12, .lreturn, 0, [], [], 0),
  (13, .aload_n 0, 0, [], [], 0),
  (14, .getfield 11, 0, [7, 0, 342, 0], [], 0),
  (17, .iload_n 1, 0, [], [], 0),
  (18, .laload, 0, [], [], 0),
  (19, .lconst 0, 0, [], [], 0),
  (20, .lcmp, 0, [], [], 0),
  (21, .ifCond .ne 48, 69, [], [], 0),
  (24, .aload_n 0, 0, [], [], 0),
  (25, .getfield 23, 0, [7, 2, 344, 0], [], 0),
  (28, .aload_n 0, 0, [], [], 0),
  (29, .getfield 38, 0, [7, 1, 343, 0], [], 0),
  (32, .invokevirtual 51, 0, [0], [], 0),
  (35, .aload_n 0, 0, [], [], 0),
  (36, .iload_n 1, 0, [], [], 0),
  (37, .invokevirtual 55, 0, [0], [], 0),
  (40, .aload_n 0, 0, [], [], 0),
  (41, .getfield 30, 0, [7, 3, 345, 0], [], 0),
  (44, .aload_n 0, 0, [], [], 0),
  (45, .getfield 23, 0, [7, 2, 344, 0], [], 0),
  (48, .invokevirtual 59, 0, [0], [], 0),
  (51, .aload_n 0, 0, [], [], 0),
  (52, .getfield 11, 0, [7, 0, 342, 0], [], 0),
  (55, .iload_n 1, 0, [], [], 0),
  (56, .aload_n 0, 0, [], [], 0),
  (57, .getfield 30, 0, [7, 3, 345, 0], [], 0),
  (60, .invokestatic 62, 0, [0], [], 0),
  (63, .lastore, 0, [], [], 0),
  (64, .aload_n 0, 0, [], [], 0),
  (65, .iconst 0, 0, [], [(0, 0)], 0),
  (66, .putfield 34, 0, [7, 4, 346, 1], [], 0),
  (69, .aload_n 0, 0, [], [], 0),
  (70, .getfield 11, 0, [7, 0, 342, 0], [], 0),
  (73, .iload_n 1, 0, [], [], 0),
  (74, .laload, 0, [], [], 0),
  (75, .lreturn, 0, [], [], 0)])
def mr_X7_glassesIn : MR := (7, 1, ⟨"Samovar$Trials", "glassesIn", "(J)I"⟩, prog_9_method_7_code, 2, (Option.some Jvm.ClassFile.FieldType.int), 0, 0, [(0, .lload_n 0, 0, [], [], 0),
  (1, .bipush 40, 0, [], [(40, 0)], 0),
  (3, .lshr, 0, [], [], 0),
  (4, .ldc2_w 43, 769, [], [], 255),
  (7, .land, 0, [], [], 0),
  (8, .l2i, 0, [], [], 0),
  (9, .ireturn, 0, [], [], 0)])
def mr_X8_mostGlasses : MR := (8, 3, ⟨"Samovar", "mostGlasses", "(III)I"⟩, prog_1_method_49_code, 8, (Option.some Jvm.ClassFile.FieldType.int), 4, 93, [(0, .iconst 0, 0, [], [(0, 0)], 0),
  (1, .istore 4, 0, [], [], 0),
  (3, .iconst (-1), 0, [], [((-1), 0)], 0),
  (4, .istore 5, 0, [], [], 0),
  (6, .iconst 0, 0, [], [(0, 0)], 0),
  (7, .istore 6, 0, [], [], 0),
  (9, .iload 6, 0, [], [], 0),
  (11, .iload_n 2, 0, [], [], 0),
  (12, .if_icmp .ge 40, 52, [], [], 0),
  (15, .aload_n 0, 0, [], [], 0),
  (16, .getfield 59, 0, [8, 6, 388, 0], [], 0),
  (19, .iload_n 1, 0, [], [], 0),
  (20, .iload 6, 0, [], [], 0),
  (22, .iadd, 0, [], [], 0),
  (23, .invokevirtual 219, 0, [0], [], 0),
  (26, .invokestatic 259, 0, [0], [], 0),
  (29, .istore 7, 0, [], [], 0),
  (31, .iload 7, 0, [], [], 0),
  (33, .iload 5, 0, [], [], 0),
  (35, .if_icmp .le 11, 46, [], [], 0),
  (38, .iload 6, 0, [], [], 0),
  (40, .istore 4, 0, [], [], 0),
  (42, .iload 7, 0, [], [], 0),
  (44, .istore 5, 0, [], [], 0),
  (46, .iinc 6 1, 0, [], [(1, 0)], 0),
  (49, .goto (-40), 9, [], [], 0),
  (52, .iload_n 3, 0, [], [], 0),
  (53, .ifCond .ne 8, 61, [], [], 0),
  (56, .iload 4, 0, [], [], 0),
  (58, .goto 5, 63, [], [], 0),
  (61, .iload 5, 0, [], [], 0),
  (63, .ireturn, 0, [], [], 0)])
def mr_X8_better : MR := (8, 2, ⟨"Samovar", "better", "(II)I"⟩, prog_1_method_20_code, 3, (Option.some Jvm.ClassFile.FieldType.int), 5, 120, [(0, .aload_n 0, 0, [], [], 0),
  (1, .getfield 16, 0, [8, 0, 382, 0], [], 0),
  (4, .getfield 37, 0, [6, 0, 150, 0], [], 0),
  (7, .iload_n 1, 0, [], [], 0),
  (8, .invokevirtual 160, 0, [0], [], 0),
  (11, .ifCond .eq 11, 22, [], [], 0),
  (14, .iload_n 2, 0, [], [], 0),
  (15, .iconst 1, 0, [], [(1, 0)], 0),
  (16, .invokestatic 83, 0, [0], [], 0),
  (19, .ifCond .ne 6, 25, [], [], 0),
  (22, .bipush (-2), 0, [], [((-2), 0)], 0),
  (24, .ireturn, 0, [], [], 0),
  (25, .aload_n 0, 0, [], [], 0),
  (26, .iload_n 1, 0, [], [], 0),
  (27, .invokestatic 202, 0, [0], [], 0),
  (30, .iconst 3, 0, [], [(3, 0)], 0),
  (31, .iload_n 2, 0, [], [], 0),
  (32, .invokevirtual 205, 0, [0], [], 0),
  (35, .ireturn, 0, [], [], 0)])
def mr_X9_starts : MR := (9, 0, ⟨"SamovarModel", "starts", "()V"⟩, prog_11_method_59_code, 1, (Option.none : Option Jvm.ClassFile.FieldType), 7, 158, [(0, .aload_n 0, 0, [], [], 0),
  (1, .invokevirtual 247, 0, [0], [], 0),
  (4, .aload_n 0, 0, [], [], 0),
  (5, .iconst (-1), 0, [], [((-1), 0)], 0),
  (6, .putfield 287, 0, [9, 40, 1002, 0], [], 0),
  (9, .aload_n 0, 0, [], [], 0),
  (10, .iconst (-1), 0, [], [((-1), 0)], 0),
  (11, .putfield 290, 0, [9, 41, 1003, 0], [], 0),
  (14, .return_, 0, [], [], 0)])
def mr_X9_tries : MR := (9, 1, ⟨"SamovarModel", "tries", "(I)V"⟩, prog_11_method_60_code, 3, (Option.none : Option Jvm.ClassFile.FieldType), 4, 94, [(0, .aload_n 0, 0, [], [], 0),
  (1, .invokevirtual 250, 0, [0], [], 0),
  (4, .aload_n 0, 0, [], [], 0),
  (5, .invokevirtual 265, 0, [0], [], 0),
  (8, .istore_n 2, 0, [], [], 0),
  (9, .aload_n 0, 0, [], [], 0),
  (10, .iload_n 2, 0, [], [], 0),
  (11, .aload_n 0, 0, [], [], 0),
  (12, .getfield 290, 0, [9, 41, 1003, 0], [], 0),
  (15, .if_icmp .le 7, 22, [], [], 0),
  (18, .iload_n 1, 0, [], [], 0),
  (19, .goto 7, 26, [], [], 0),
  (22, .aload_n 0, 0, [], [], 0),
  (23, .getfield 287, 0, [9, 40, 1002, 0], [], 0),
  (26, .putfield 287, 0, [9, 40, 1002, 0], [], 0),
  (29, .aload_n 0, 0, [], [], 0),
  (30, .iload_n 2, 0, [], [], 0),
  (31, .aload_n 0, 0, [], [], 0),
  (32, .getfield 290, 0, [9, 41, 1003, 0], [], 0),
  (35, .if_icmp .le 7, 42, [], [], 0),
  (38, .iload_n 2, 0, [], [], 0),
  (39, .goto 7, 46, [], [], 0),
  (42, .aload_n 0, 0, [], [], 0),
  (43, .getfield 290, 0, [9, 41, 1003, 0], [], 0),
  (46, .putfield 290, 0, [9, 41, 1003, 0], [], 0),
  (49, .return_, 0, [], [], 0)])
def mr_X9_betterOf : MR := (9, 2, ⟨"SamovarModel", "betterOf", "(II)I"⟩, prog_11_method_61_code, 5, (Option.some Jvm.ClassFile.FieldType.int), 8, 178, [(0, .aload_n 0, 0, [], [], 0),
  (1, .invokevirtual 293, 0, [0], [], 0),
  (4, .aload_n 0, 0, [], [], 0),
  (5, .getfield 19, 0, [9, 4, 966, 0], [], 0),
  (8, .iload_n 1, 0, [], [], 0),
  (9, .iaload, 0, [], [], 0),
  (10, .istore_n 3, 0, [], [], 0),
  (11, .iconst 0, 0, [], [(0, 0)], 0),
  (12, .istore 4, 0, [], [], 0),
  (14, .iload 4, 0, [], [], 0),
  (16, .iconst 3, 0, [], [(3, 0)], 0),
  (17, .if_icmp .ge 23, 40, [], [], 0),
  (20, .aload_n 0, 0, [], [], 0),
  (21, .getfield 19, 0, [9, 4, 966, 0], [], 0),
  (24, .iload_n 1, 0, [], [], 0),
  (25, .iload 4, 0, [], [], 0),
  (27, .iastore, 0, [], [], 0),
  (28, .aload_n 0, 0, [], [], 0),
  (29, .iload 4, 0, [], [], 0),
  (31, .invokevirtual 296, 0, [0], [], 0),
  (34, .iinc 4 1, 0, [], [(1, 0)], 0),
  (37, .goto (-23), 14, [], [], 0),
  (40, .aload_n 0, 0, [], [], 0),
  (41, .getfield 19, 0, [9, 4, 966, 0], [], 0),
  (44, .iload_n 1, 0, [], [], 0),
  (45, .iload_n 3, 0, [], [], 0),
  (46, .iastore, 0, [], [], 0),
  (47, .iload_n 2, 0, [], [], 0),
  (48, .ifCond .ne 10, 58, [], [], 0),
  (51, .aload_n 0, 0, [], [], 0),
  (52, .getfield 287, 0, [9, 40, 1002, 0], [], 0),
  (55, .goto 7, 62, [], [], 0),
  (58, .aload_n 0, 0, [], [], 0),
  (59, .getfield 290, 0, [9, 41, 1003, 0], [], 0),
  (62, .ireturn, 0, [], [], 0)])
def mr_X9_better : MR := (9, 2, ⟨"SamovarModel", "better", "(II)I"⟩, prog_11_method_62_code, 3, (Option.some Jvm.ClassFile.FieldType.int), 9, 202, [(0, .aload_n 0, 0, [], [], 0),
  (1, .iload_n 1, 0, [], [], 0),
  (2, .invokevirtual 154, 0, [0], [], 0),
  (5, .ifCond .eq 19, 24, [], [], 0),
  (8, .iload_n 2, 0, [], [], 0),
  (9, .invokestatic 123, 0, [0], [], 0),
  (12, .ifCond .eq 12, 24, [], [], 0),
  (15, .aload_n 0, 0, [], [], 0),
  (16, .iload_n 1, 0, [], [], 0),
  (17, .iload_n 2, 0, [], [], 0),
  (18, .invokevirtual 299, 0, [0], [], 0),
  (21, .goto 5, 26, [], [], 0),
  (24, .bipush (-2), 0, [], [((-2), 0)], 0),
  (26, .ireturn, 0, [], [], 0)])
def mr_X8_fill : MR := (8, 1, ⟨"Samovar", "fill", "(I)I"⟩, prog_1_method_21_code, 2, (Option.some Jvm.ClassFile.FieldType.int), 5, 120, [(0, .iload_n 1, 0, [], [], 0),
  (1, .iconst 1, 0, [], [(1, 0)], 0),
  (2, .invokestatic 83, 0, [0], [], 0),
  (5, .ifCond .ne 6, 11, [], [], 0),
  (8, .bipush (-2), 0, [], [((-2), 0)], 0),
  (10, .ireturn, 0, [], [], 0),
  (11, .aload_n 0, 0, [], [], 0),
  (12, .sipush 256, 0, [], [(256, 0)], 0),
  (15, .bipush 31, 0, [], [(31, 0)], 0),
  (17, .iload_n 1, 0, [], [], 0),
  (18, .invokevirtual 205, 0, [0], [], 0),
  (21, .ireturn, 0, [], [], 0)])
def mr_X9_fillOf : MR := (9, 1, ⟨"SamovarModel", "fillOf", "(I)I"⟩, prog_11_method_63_code, 3, (Option.some Jvm.ClassFile.FieldType.int), 8, 178, [(0, .aload_n 0, 0, [], [], 0),
  (1, .invokevirtual 293, 0, [0], [], 0),
  (4, .iconst 0, 0, [], [(0, 0)], 0),
  (5, .istore_n 2, 0, [], [], 0),
  (6, .iload_n 2, 0, [], [], 0),
  (7, .bipush 30, 0, [], [(30, 0)], 0),
  (9, .if_icmp .gt 19, 28, [], [], 0),
  (12, .aload_n 0, 0, [], [], 0),
  (13, .iload_n 2, 0, [], [], 0),
  (14, .putfield 184, 0, [9, 20, 982, 0], [], 0),
  (17, .aload_n 0, 0, [], [], 0),
  (18, .iload_n 2, 0, [], [], 0),
  (19, .invokevirtual 296, 0, [0], [], 0),
  (22, .iinc 2 1, 0, [], [(1, 0)], 0),
  (25, .goto (-19), 6, [], [], 0),
  (28, .iload_n 1, 0, [], [], 0),
  (29, .ifCond .ne 10, 39, [], [], 0),
  (32, .aload_n 0, 0, [], [], 0),
  (33, .getfield 287, 0, [9, 40, 1002, 0], [], 0),
  (36, .goto 7, 43, [], [], 0),
  (39, .aload_n 0, 0, [], [], 0),
  (40, .getfield 290, 0, [9, 41, 1003, 0], [], 0),
  (43, .ireturn, 0, [], [], 0)])
def mr_X9_fill : MR := (9, 1, ⟨"SamovarModel", "fill", "(I)I"⟩, prog_11_method_64_code, 2, (Option.some Jvm.ClassFile.FieldType.int), 9, 200, [(0, .iload_n 1, 0, [], [], 0),
  (1, .invokestatic 123, 0, [0], [], 0),
  (4, .ifCond .eq 11, 15, [], [], 0),
  (7, .aload_n 0, 0, [], [], 0),
  (8, .iload_n 1, 0, [], [], 0),
  (9, .invokevirtual 302, 0, [0], [], 0),
  (12, .goto 5, 17, [], [], 0),
  (15, .bipush (-2), 0, [], [((-2), 0)], 0),
  (17, .ireturn, 0, [], [], 0)])
def mr_X7_minutesOf : MR := (7, 1, ⟨"Samovar$Trials", "minutesOf", "(I)I"⟩, prog_9_method_3_code, 1, (Option.some Jvm.ClassFile.FieldType.int), 0, 0, [(0, .sipush 311, 0, [], [(311, 0)], 0),
  (3, .iload_n 0, 0, [], [], 0),
  (4, .bipush 24, 0, [], [(24, 0)], 0),
  (6, .imul, 0, [], [], 0),
  (7, .iadd, 0, [], [], 0),
  (8, .ireturn, 0, [], [], 0)])
def mr_X8_come : MR := (8, 2, ⟨"Samovar", "come", "(II)I"⟩, prog_1_method_22_code, 3, (Option.some Jvm.ClassFile.FieldType.int), 5, 120, [(0, .aload_n 0, 0, [], [], 0),
  (1, .getfield 22, 0, [8, 1, 383, 0], [], 0),
  (4, .getfield 37, 0, [6, 0, 150, 0], [], 0),
  (7, .iload_n 1, 0, [], [], 0),
  (8, .invokevirtual 160, 0, [0], [], 0),
  (11, .ifCond .eq 11, 22, [], [], 0),
  (14, .iload_n 2, 0, [], [], 0),
  (15, .iconst 1, 0, [], [(1, 0)], 0),
  (16, .invokestatic 83, 0, [0], [], 0),
  (19, .ifCond .ne 6, 25, [], [], 0),
  (22, .bipush (-2), 0, [], [((-2), 0)], 0),
  (24, .ireturn, 0, [], [], 0),
  (25, .aload_n 0, 0, [], [], 0),
  (26, .iload_n 1, 0, [], [], 0),
  (27, .invokestatic 209, 0, [0], [], 0),
  (30, .bipush 24, 0, [], [(24, 0)], 0),
  (32, .iload_n 2, 0, [], [], 0),
  (33, .invokevirtual 205, 0, [0], [], 0),
  (36, .ireturn, 0, [], [], 0)])
def mr_X9_comeOf : MR := (9, 2, ⟨"SamovarModel", "comeOf", "(II)I"⟩, prog_11_method_65_code, 4, (Option.some Jvm.ClassFile.FieldType.int), 8, 178, [(0, .aload_n 0, 0, [], [], 0),
  (1, .invokevirtual 293, 0, [0], [], 0),
  (4, .iconst 0, 0, [], [(0, 0)], 0),
  (5, .istore_n 3, 0, [], [], 0),
  (6, .iload_n 3, 0, [], [], 0),
  (7, .bipush 24, 0, [], [(24, 0)], 0),
  (9, .if_icmp .ge 21, 30, [], [], 0),
  (12, .aload_n 0, 0, [], [], 0),
  (13, .getfield 43, 0, [9, 17, 979, 0], [], 0),
  (16, .iload_n 1, 0, [], [], 0),
  (17, .iload_n 3, 0, [], [], 0),
  (18, .iastore, 0, [], [], 0),
  (19, .aload_n 0, 0, [], [], 0),
  (20, .iload_n 3, 0, [], [], 0),
  (21, .invokevirtual 296, 0, [0], [], 0),
  (24, .iinc 3 1, 0, [], [(1, 0)], 0),
  (27, .goto (-21), 6, [], [], 0),
  (30, .iload_n 2, 0, [], [], 0),
  (31, .ifCond .ne 10, 41, [], [], 0),
  (34, .aload_n 0, 0, [], [], 0),
  (35, .getfield 287, 0, [9, 40, 1002, 0], [], 0),
  (38, .goto 7, 45, [], [], 0),
  (41, .aload_n 0, 0, [], [], 0),
  (42, .getfield 290, 0, [9, 41, 1003, 0], [], 0),
  (45, .ireturn, 0, [], [], 0)])
def mr_X9_come : MR := (9, 2, ⟨"SamovarModel", "come", "(II)I"⟩, prog_11_method_66_code, 3, (Option.some Jvm.ClassFile.FieldType.int), 9, 201, [(0, .aload_n 0, 0, [], [], 0),
  (1, .iload_n 1, 0, [], [], 0),
  (2, .invokevirtual 163, 0, [0], [], 0),
  (5, .ifCond .eq 19, 24, [], [], 0),
  (8, .iload_n 2, 0, [], [], 0),
  (9, .invokestatic 123, 0, [0], [], 0),
  (12, .ifCond .eq 12, 24, [], [], 0),
  (15, .aload_n 0, 0, [], [], 0),
  (16, .iload_n 1, 0, [], [], 0),
  (17, .iload_n 2, 0, [], [], 0),
  (18, .invokevirtual 305, 0, [0], [], 0),
  (21, .goto 5, 26, [], [], 0),
  (24, .bipush (-2), 0, [], [((-2), 0)], 0),
  (26, .ireturn, 0, [], [], 0)])
def mr_X7_goneIn : MR := (7, 1, ⟨"Samovar$Trials", "goneIn", "(J)I"⟩, prog_9_method_6_code, 2, (Option.some Jvm.ClassFile.FieldType.int), 0, 0, [(0, .lload_n 0, 0, [], [], 0),
  (1, .bipush 32, 0, [], [(32, 0)], 0),
  (3, .lshr, 0, [], [], 0),
  (4, .ldc2_w 43, 769, [], [], 255),
  (7, .land, 0, [], [], 0),
  (8, .l2i, 0, [], [], 0),
  (9, .ireturn, 0, [], [], 0)])
def mr_X8_sparedEvents : MR := (8, 0, ⟨"Samovar", "sparedEvents", "()I"⟩, prog_1_method_47_code, 5, (Option.some Jvm.ClassFile.FieldType.int), 4, 93, [(0, .aload_n 0, 0, [], [], 0),
  (1, .getfield 59, 0, [8, 6, 388, 0], [], 0),
  (4, .iconst 0, 0, [], [(0, 0)], 0),
  (5, .invokevirtual 219, 0, [0], [], 0),
  (8, .invokestatic 262, 0, [0], [], 0),
  (11, .ifCond .ne 5, 16, [], [], 0),
  (14, .iconst 0, 0, [], [(0, 0)], 0),
  (15, .ireturn, 0, [], [], 0),
  (16, .aload_n 0, 0, [], [], 0),
  (17, .getfield 28, 0, [8, 2, 384, 0], [], 0),
  (20, .getfield 118, 0, [1, 3, 136, 0], [], 0),
  (23, .bipush 8, 0, [], [(8, 0)], 0),
  (25, .invokestatic 243, 0, [3, 792], [], 0),
  (28, .istore_n 1, 0, [], [], 0),
  (29, .iconst 0, 0, [], [(0, 0)], 0),
  (30, .istore_n 2, 0, [], [], 0),
  (31, .iload_n 2, 0, [], [], 0),
  (32, .iload_n 1, 0, [], [], 0),
  (33, .if_icmp .ge 29, 62, [], [], 0),
  (36, .aload_n 0, 0, [], [], 0),
  (37, .getfield 59, 0, [8, 6, 388, 0], [], 0),
  (40, .iconst 1, 0, [], [(1, 0)], 0),
  (41, .iload_n 2, 0, [], [], 0),
  (42, .ishl, 0, [], [], 0),
  (43, .invokevirtual 219, 0, [0], [], 0),
  (46, .invokestatic 262, 0, [0], [], 0),
  (49, .ifCond .ne 7, 56, [], [], 0),
  (52, .iconst 1, 0, [], [(1, 0)], 0),
  (53, .iload_n 2, 0, [], [], 0),
  (54, .ishl, 0, [], [], 0),
  (55, .ireturn, 0, [], [], 0),
  (56, .iinc 2 1, 0, [], [(1, 0)], 0),
  (59, .goto (-28), 31, [], [], 0),
  (62, .iconst 0, 0, [], [(0, 0)], 0),
  (63, .istore_n 2, 0, [], [], 0),
  (64, .iload_n 2, 0, [], [], 0),
  (65, .iload_n 1, 0, [], [], 0),
  (66, .if_icmp .ge 51, 117, [], [], 0),
  (69, .iload_n 2, 0, [], [], 0),
  (70, .iconst 1, 0, [], [(1, 0)], 0),
  (71, .iadd, 0, [], [], 0),
  (72, .istore_n 3, 0, [], [], 0),
  (73, .iload_n 3, 0, [], [], 0),
  (74, .iload_n 1, 0, [], [], 0),
  (75, .if_icmp .ge 36, 111, [], [], 0),
  (78, .iconst 1, 0, [], [(1, 0)], 0),
  (79, .iload_n 2, 0, [], [], 0),
  (80, .ishl, 0, [], [], 0),
  (81, .iconst 1, 0, [], [(1, 0)], 0),
  (82, .iload_n 3, 0, [], [], 0),
  (83, .ishl, 0, [], [], 0),
  (84, .ior, 0, [], [], 0),
  (85, .istore 4, 0, [], [], 0),
  (87, .aload_n 0, 0, [], [], 0),
  (88, .getfield 59, 0, [8, 6, 388, 0], [], 0),
  (91, .iload 4, 0, [], [], 0),
  (93, .invokevirtual 219, 0, [0], [], 0),
  (96, .invokestatic 262, 0, [0], [], 0),
  (99, .ifCond .ne 6, 105, [], [], 0),
  (102, .iload 4, 0, [], [], 0),
  (104, .ireturn, 0, [], [], 0),
  (105, .iinc 3 1, 0, [], [(1, 0)], 0),
  (108, .goto (-35), 73, [], [], 0),
  (111, .iinc 2 1, 0, [], [(1, 0)], 0),
  (114, .goto (-50), 64, [], [], 0),
  (117, .iconst (-1), 0, [], [((-1), 0)], 0),
  (118, .ireturn, 0, [], [], 0)])
def mr_X8_bitAt : MR := (8, 2, ⟨"Samovar", "bitAt", "(II)I"⟩, prog_1_method_48_code, 4, (Option.some Jvm.ClassFile.FieldType.int), 0, 0, [(0, .iconst 0, 0, [], [(0, 0)], 0),
  (1, .istore_n 2, 0, [], [], 0),
  (2, .iconst 0, 0, [], [(0, 0)], 0),
  (3, .istore_n 3, 0, [], [], 0),
  (4, .iload_n 3, 0, [], [], 0),
  (5, .bipush 8, 0, [], [(8, 0)], 0),
  (7, .if_icmp .ge 28, 35, [], [], 0),
  (10, .iload_n 0, 0, [], [], 0),
  (11, .iload_n 3, 0, [], [], 0),
  (12, .ishr, 0, [], [], 0),
  (13, .iconst 1, 0, [], [(1, 0)], 0),
  (14, .iand, 0, [], [], 0),
  (15, .iconst 1, 0, [], [(1, 0)], 0),
  (16, .if_icmp .ne 13, 29, [], [], 0),
  (19, .iload_n 2, 0, [], [], 0),
  (20, .iload_n 1, 0, [], [], 0),
  (21, .if_icmp .ne 5, 26, [], [], 0),
  (24, .iload_n 3, 0, [], [], 0),
  (25, .ireturn, 0, [], [], 0),
  (26, .iinc 2 1, 0, [], [(1, 0)], 0),
  (29, .iinc 3 1, 0, [], [(1, 0)], 0),
  (32, .goto (-28), 4, [], [], 0),
  (35, .iconst (-1), 0, [], [((-1), 0)], 0),
  (36, .ireturn, 0, [], [], 0)])
def mr_X8_spare : MR := (8, 1, ⟨"Samovar", "spare", "(I)I"⟩, prog_1_method_23_code, 3, (Option.some Jvm.ClassFile.FieldType.int), 5, 117, [(0, .iload_n 1, 0, [], [], 0),
  (1, .iconst (-1), 0, [], [((-1), 0)], 0),
  (2, .if_icmp .lt 8, 10, [], [], 0),
  (5, .iload_n 1, 0, [], [], 0),
  (6, .iconst 1, 0, [], [(1, 0)], 0),
  (7, .if_icmp .le 6, 13, [], [], 0),
  (10, .bipush (-2), 0, [], [((-2), 0)], 0),
  (12, .ireturn, 0, [], [], 0),
  (13, .aload_n 0, 0, [], [], 0),
  (14, .invokevirtual 212, 0, [0], [], 0),
  (17, .istore_n 2, 0, [], [], 0),
  (18, .iload_n 2, 0, [], [], 0),
  (19, .iconst (-1), 0, [], [((-1), 0)], 0),
  (20, .if_icmp .ne 5, 25, [], [], 0),
  (23, .iconst (-1), 0, [], [((-1), 0)], 0),
  (24, .ireturn, 0, [], [], 0),
  (25, .iload_n 1, 0, [], [], 0),
  (26, .iconst (-1), 0, [], [((-1), 0)], 0),
  (27, .if_icmp .ne 10, 37, [], [], 0),
  (30, .iload_n 2, 0, [], [], 0),
  (31, .invokestatic 185, 0, [0], [], 0),
  (34, .goto 8, 42, [], [], 0),
  (37, .iload_n 2, 0, [], [], 0),
  (38, .iload_n 1, 0, [], [], 0),
  (39, .invokestatic 216, 0, [0], [], 0),
  (42, .ireturn, 0, [], [], 0)])
def mr_X9_isSpared : MR := (9, 1, ⟨"SamovarModel", "isSpared", "(I)Z"⟩, prog_11_method_67_code, 2, (Option.some Jvm.ClassFile.FieldType.boolean), 4, 94, [(0, .aload_n 0, 0, [], [], 0),
  (1, .iload_n 1, 0, [], [], 0),
  (2, .putfield 187, 0, [9, 21, 983, 0], [], 0),
  (5, .aload_n 0, 0, [], [], 0),
  (6, .invokevirtual 250, 0, [0], [], 0),
  (9, .aload_n 0, 0, [], [], 0),
  (10, .iconst 4, 0, [], [(4, 0)], 0),
  (11, .invokevirtual 269, 0, [0], [], 0),
  (14, .ifCond .ne 7, 21, [], [], 0),
  (17, .iconst 1, 0, [], [(1, 0)], 0),
  (18, .goto 4, 22, [], [], 0),
  (21, .iconst 0, 0, [], [(0, 0)], 0),
  (22, .ireturn, 0, [], [], 0)])
def mr_X9_spareBy : MR := (9, 0, ⟨"SamovarModel", "spareBy", "()I"⟩, prog_11_method_68_code, 3, (Option.some Jvm.ClassFile.FieldType.int), 7, 158, [(0, .aload_n 0, 0, [], [], 0),
  (1, .invokevirtual 247, 0, [0], [], 0),
  (4, .aload_n 0, 0, [], [], 0),
  (5, .iconst 0, 0, [], [(0, 0)], 0),
  (6, .invokevirtual 308, 0, [0], [], 0),
  (9, .ifCond .eq 5, 14, [], [], 0),
  (12, .iconst 0, 0, [], [(0, 0)], 0),
  (13, .ireturn, 0, [], [], 0),
  (14, .iconst 0, 0, [], [(0, 0)], 0),
  (15, .istore_n 1, 0, [], [], 0),
  (16, .iload_n 1, 0, [], [], 0),
  (17, .aload_n 0, 0, [], [], 0),
  (18, .getfield 169, 0, [9, 12, 974, 0], [], 0),
  (21, .if_icmp .ge 28, 49, [], [], 0),
  (24, .aload_n 0, 0, [], [], 0),
  (25, .getfield 82, 0, [9, 42, 1004, 0], [], 0),
  (28, .iconst 0, 0, [], [(0, 0)], 0),
  (29, .iload_n 1, 0, [], [], 0),
  (30, .iastore, 0, [], [], 0),
  (31, .aload_n 0, 0, [], [], 0),
  (32, .iconst 1, 0, [], [(1, 0)], 0),
  (33, .iload_n 1, 0, [], [], 0),
  (34, .ishl, 0, [], [], 0),
  (35, .invokevirtual 308, 0, [0], [], 0),
  (38, .ifCond .eq 5, 43, [], [], 0),
  (41, .iconst 1, 0, [], [(1, 0)], 0),
  (42, .ireturn, 0, [], [], 0),
  (43, .iinc 1 1, 0, [], [(1, 0)], 0),
  (46, .goto (-30), 16, [], [], 0),
  (49, .iconst 0, 0, [], [(0, 0)], 0),
  (50, .istore_n 1, 0, [], [], 0),
  (51, .iload_n 1, 0, [], [], 0),
  (52, .aload_n 0, 0, [], [], 0),
  (53, .getfield 169, 0, [9, 12, 974, 0], [], 0),
  (56, .if_icmp .ge 57, 113, [], [], 0),
  (59, .iload_n 1, 0, [], [], 0),
  (60, .iconst 1, 0, [], [(1, 0)], 0),
  (61, .iadd, 0, [], [], 0),
  (62, .istore_n 2, 0, [], [], 0),
  (63, .iload_n 2, 0, [], [], 0),
  (64, .aload_n 0, 0, [], [], 0),
  (65, .getfield 169, 0, [9, 12, 974, 0], [], 0),
  (68, .if_icmp .ge 39, 107, [], [], 0),
  (71, .aload_n 0, 0, [], [], 0),
  (72, .getfield 82, 0, [9, 42, 1004, 0], [], 0),
  (75, .iconst 0, 0, [], [(0, 0)], 0),
  (76, .iload_n 1, 0, [], [], 0),
  (77, .iastore, 0, [], [], 0),
  (78, .aload_n 0, 0, [], [], 0),
  (79, .getfield 82, 0, [9, 42, 1004, 0], [], 0),
  (82, .iconst 1, 0, [], [(1, 0)], 0),
  (83, .iload_n 2, 0, [], [], 0),
  (84, .iastore, 0, [], [], 0),
  (85, .aload_n 0, 0, [], [], 0),
  (86, .iconst 1, 0, [], [(1, 0)], 0),
  (87, .iload_n 1, 0, [], [], 0),
  (88, .ishl, 0, [], [], 0),
  (89, .iconst 1, 0, [], [(1, 0)], 0),
  (90, .iload_n 2, 0, [], [], 0),
  (91, .ishl, 0, [], [], 0),
  (92, .ior, 0, [], [], 0),
  (93, .invokevirtual 308, 0, [0], [], 0),
  (96, .ifCond .eq 5, 101, [], [], 0),
  (99, .iconst 2, 0, [], [(2, 0)], 0),
  (100, .ireturn, 0, [], [], 0),
  (101, .iinc 2 1, 0, [], [(1, 0)], 0),
  (104, .goto (-41), 63, [], [], 0),
  (107, .iinc 1 1, 0, [], [(1, 0)], 0),
  (110, .goto (-59), 51, [], [], 0),
  (113, .iconst (-1), 0, [], [((-1), 0)], 0),
  (114, .ireturn, 0, [], [], 0)])
def mr_X9_ofRow : MR := (9, 2, ⟨"SamovarModel", "ofRow", "(II)I"⟩, prog_11_method_69_code, 3, (Option.some Jvm.ClassFile.FieldType.int), 0, 0, [(0, .iload_n 2, 0, [], [], 0),
  (1, .iconst (-1), 0, [], [((-1), 0)], 0),
  (2, .if_icmp .ne 7, 9, [], [], 0),
  (5, .iload_n 1, 0, [], [], 0),
  (6, .goto 18, 24, [], [], 0),
  (9, .iload_n 2, 0, [], [], 0),
  (10, .iload_n 1, 0, [], [], 0),
  (11, .if_icmp .ge 12, 23, [], [], 0),
  (14, .aload_n 0, 0, [], [], 0),
  (15, .getfield 82, 0, [9, 42, 1004, 0], [], 0),
  (18, .iload_n 2, 0, [], [], 0),
  (19, .iaload, 0, [], [], 0),
  (20, .goto 4, 24, [], [], 0),
  (23, .iconst (-1), 0, [], [((-1), 0)], 0),
  (24, .ireturn, 0, [], [], 0)])
def mr_X9_spare : MR := (9, 1, ⟨"SamovarModel", "spare", "(I)I"⟩, prog_11_method_70_code, 2, (Option.some Jvm.ClassFile.FieldType.int), 8, 180, [(0, .iload_n 1, 0, [], [], 0),
  (1, .iconst (-1), 0, [], [((-1), 0)], 0),
  (2, .iconst 1, 0, [], [(1, 0)], 0),
  (3, .invokestatic 119, 0, [0], [], 0),
  (6, .ifCond .eq 15, 21, [], [], 0),
  (9, .aload_n 0, 0, [], [], 0),
  (10, .aload_n 0, 0, [], [], 0),
  (11, .invokevirtual 311, 0, [0], [], 0),
  (14, .iload_n 1, 0, [], [], 0),
  (15, .invokevirtual 314, 0, [0], [], 0),
  (18, .goto 5, 23, [], [], 0),
  (21, .bipush (-2), 0, [], [((-2), 0)], 0),
  (23, .ireturn, 0, [], [], 0)])
def mr_X8_seen : MR := (8, 2, ⟨"Samovar", "seen", "(II)I"⟩, prog_1_method_24_code, 3, (Option.some Jvm.ClassFile.FieldType.int), 1, 23, [(0, .iload_n 1, 0, [], [], 0),
  (1, .bipush 23, 0, [], [(23, 0)], 0),
  (3, .invokestatic 83, 0, [0], [], 0),
  (6, .ifCond .eq 11, 17, [], [], 0),
  (9, .iload_n 2, 0, [], [], 0),
  (10, .iconst 1, 0, [], [(1, 0)], 0),
  (11, .invokestatic 83, 0, [0], [], 0),
  (14, .ifCond .ne 6, 20, [], [], 0),
  (17, .bipush (-2), 0, [], [((-2), 0)], 0),
  (19, .ireturn, 0, [], [], 0),
  (20, .aload_n 0, 0, [], [], 0),
  (21, .getfield 32, 0, [8, 3, 385, 0], [], 0),
  (24, .getfield 118, 0, [1, 3, 136, 0], [], 0),
  (27, .bipush 8, 0, [], [(8, 0)], 0),
  (29, .if_icmp .lt 6, 35, [], [], 0),
  (32, .bipush (-4), 0, [], [((-4), 0)], 0),
  (34, .ireturn, 0, [], [], 0),
  (35, .aload_n 0, 0, [], [], 0),
  (36, .getfield 32, 0, [8, 3, 385, 0], [], 0),
  (39, .iload_n 1, 0, [], [], 0),
  (40, .iload_n 2, 0, [], [], 0),
  (41, .iconst 0, 0, [], [(0, 0)], 0),
  (42, .invokevirtual 119, 0, [0], [], 0),
  (45, .aload_n 0, 0, [], [], 0),
  (46, .getfield 32, 0, [8, 3, 385, 0], [], 0),
  (49, .getfield 118, 0, [1, 3, 136, 0], [], 0),
  (52, .ireturn, 0, [], [], 0)])
def mr_X9_seen : MR := (9, 2, ⟨"SamovarModel", "seen", "(II)I"⟩, prog_11_method_71_code, 3, (Option.some Jvm.ClassFile.FieldType.int), 2, 42, [(0, .iload_n 1, 0, [], [], 0),
  (1, .invokestatic 131, 0, [0], [], 0),
  (4, .ifCond .eq 10, 14, [], [], 0),
  (7, .iload_n 2, 0, [], [], 0),
  (8, .invokestatic 123, 0, [0], [], 0),
  (11, .ifCond .ne 6, 17, [], [], 0),
  (14, .bipush (-2), 0, [], [((-2), 0)], 0),
  (16, .ireturn, 0, [], [], 0),
  (17, .aload_n 0, 0, [], [], 0),
  (18, .getfield 317, 0, [9, 43, 1005, 0], [], 0),
  (21, .bipush 8, 0, [], [(8, 0)], 0),
  (23, .if_icmp .ne 6, 29, [], [], 0),
  (26, .bipush (-4), 0, [], [((-4), 0)], 0),
  (28, .ireturn, 0, [], [], 0),
  (29, .aload_n 0, 0, [], [], 0),
  (30, .getfield 85, 0, [9, 44, 1006, 0], [], 0),
  (33, .aload_n 0, 0, [], [], 0),
  (34, .getfield 317, 0, [9, 43, 1005, 0], [], 0),
  (37, .iload_n 1, 0, [], [], 0),
  (38, .iastore, 0, [], [], 0),
  (39, .aload_n 0, 0, [], [], 0),
  (40, .getfield 88, 0, [9, 45, 1007, 0], [], 0),
  (43, .aload_n 0, 0, [], [], 0),
  (44, .getfield 317, 0, [9, 43, 1005, 0], [], 0),
  (47, .iload_n 2, 0, [], [], 0),
  (48, .iastore, 0, [], [], 0),
  (49, .aload_n 0, 0, [], [], 0),
  (50, .dup, 0, [], [], 0),
  (51, .getfield 317, 0, [9, 43, 1005, 0], [], 0),
  (54, .iconst 1, 0, [], [(1, 0)], 0),
  (55, .iadd, 0, [], [], 0),
  (56, .putfield 317, 0, [9, 43, 1005, 0], [], 0),
  (59, .aload_n 0, 0, [], [], 0),
  (60, .getfield 317, 0, [9, 43, 1005, 0], [], 0),
  (63, .ireturn, 0, [], [], 0)])
def mr_X8_forget : MR := (8, 0, ⟨"Samovar", "forget", "()I"⟩, prog_1_method_25_code, 2, (Option.some Jvm.ClassFile.FieldType.int), 0, 0, [(0, .aload_n 0, 0, [], [], 0),
  (1, .getfield 32, 0, [8, 3, 385, 0], [], 0),
  (4, .getfield 118, 0, [1, 3, 136, 0], [], 0),
  (7, .istore_n 1, 0, [], [], 0),
  (8, .aload_n 0, 0, [], [], 0),
  (9, .getfield 32, 0, [8, 3, 385, 0], [], 0),
  (12, .iconst 0, 0, [], [(0, 0)], 0),
  (13, .putfield 118, 0, [1, 3, 136, 0], [], 0),
  (16, .iload_n 1, 0, [], [], 0),
  (17, .ireturn, 0, [], [], 0)])
def mr_X9_forget : MR := (9, 0, ⟨"SamovarModel", "forget", "()I"⟩, prog_11_method_72_code, 2, (Option.some Jvm.ClassFile.FieldType.int), 0, 0, [(0, .aload_n 0, 0, [], [], 0),
  (1, .getfield 317, 0, [9, 43, 1005, 0], [], 0),
  (4, .istore_n 1, 0, [], [], 0),
  (5, .aload_n 0, 0, [], [], 0),
  (6, .iconst 0, 0, [], [(0, 0)], 0),
  (7, .putfield 317, 0, [9, 43, 1005, 0], [], 0),
  (10, .iload_n 1, 0, [], [], 0),
  (11, .ireturn, 0, [], [], 0)])
def mr_X7_boiledIn : MR := (7, 1, ⟨"Samovar$Trials", "boiledIn", "(J)I"⟩, prog_9_method_4_code, 2, (Option.some Jvm.ClassFile.FieldType.int), 0, 0, [(0, .lload_n 0, 0, [], [], 0),
  (1, .ldc2_w 41, 815, [], [], 16777215),
  (4, .land, 0, [], [], 0),
  (5, .l2i, 0, [], [], 0),
  (6, .ireturn, 0, [], [], 0)])
def mr_X8_comesOutAsSeen : MR := (8, 1, ⟨"Samovar", "comesOutAsSeen", "(J)Z"⟩, prog_1_method_51_code, 5, (Option.some Jvm.ClassFile.FieldType.boolean), 1, 21, [(0, .lload_n 1, 0, [], [], 0),
  (1, .invokestatic 355, 0, [0], [], 0),
  (4, .istore_n 3, 0, [], [], 0),
  (5, .iconst 0, 0, [], [(0, 0)], 0),
  (6, .istore 4, 0, [], [], 0),
  (8, .iload 4, 0, [], [], 0),
  (10, .aload_n 0, 0, [], [], 0),
  (11, .getfield 32, 0, [8, 3, 385, 0], [], 0),
  (14, .getfield 118, 0, [1, 3, 136, 0], [], 0),
  (17, .if_icmp .ge 45, 62, [], [], 0),
  (20, .iload 4, 0, [], [], 0),
  (22, .bipush 8, 0, [], [(8, 0)], 0),
  (24, .if_icmp .ge 38, 62, [], [], 0),
  (27, .iload_n 3, 0, [], [], 0),
  (28, .aload_n 0, 0, [], [], 0),
  (29, .getfield 32, 0, [8, 3, 385, 0], [], 0),
  (32, .getfield 358, 0, [1, 0, 120, 0], [], 0),
  (35, .iload 4, 0, [], [], 0),
  (37, .iaload, 0, [], [], 0),
  (38, .ishr, 0, [], [], 0),
  (39, .iconst 1, 0, [], [(1, 0)], 0),
  (40, .iand, 0, [], [], 0),
  (41, .aload_n 0, 0, [], [], 0),
  (42, .getfield 32, 0, [8, 3, 385, 0], [], 0),
  (45, .getfield 361, 0, [1, 1, 126, 0], [], 0),
  (48, .iload 4, 0, [], [], 0),
  (50, .iaload, 0, [], [], 0),
  (51, .if_icmp .eq 5, 56, [], [], 0),
  (54, .iconst 0, 0, [], [(0, 0)], 0),
  (55, .ireturn, 0, [], [], 0),
  (56, .iinc 4 1, 0, [], [(1, 0)], 0),
  (59, .goto (-51), 8, [], [], 0),
  (62, .iconst 1, 0, [], [(1, 0)], 0),
  (63, .ireturn, 0, [], [], 0)])
def mr_X8_never : MR := (8, 0, ⟨"Samovar", "never", "()I"⟩, prog_1_method_26_code, 3, (Option.some Jvm.ClassFile.FieldType.int), 4, 93, [(0, .iconst 0, 0, [], [(0, 0)], 0),
  (1, .istore_n 1, 0, [], [], 0),
  (2, .iconst 0, 0, [], [(0, 0)], 0),
  (3, .istore_n 2, 0, [], [], 0),
  (4, .iload_n 2, 0, [], [], 0),
  (5, .aload_n 0, 0, [], [], 0),
  (6, .getfield 28, 0, [8, 2, 384, 0], [], 0),
  (9, .getfield 118, 0, [1, 3, 136, 0], [], 0),
  (12, .if_icmp .ge 38, 50, [], [], 0),
  (15, .iload_n 2, 0, [], [], 0),
  (16, .bipush 8, 0, [], [(8, 0)], 0),
  (18, .if_icmp .ge 32, 50, [], [], 0),
  (21, .aload_n 0, 0, [], [], 0),
  (22, .aload_n 0, 0, [], [], 0),
  (23, .getfield 59, 0, [8, 6, 388, 0], [], 0),
  (26, .iconst 1, 0, [], [(1, 0)], 0),
  (27, .iload_n 2, 0, [], [], 0),
  (28, .ishl, 0, [], [], 0),
  (29, .invokevirtual 219, 0, [0], [], 0),
  (32, .invokevirtual 223, 0, [0], [], 0),
  (35, .ifCond .eq 9, 44, [], [], 0),
  (38, .iload_n 1, 0, [], [], 0),
  (39, .iconst 1, 0, [], [(1, 0)], 0),
  (40, .iload_n 2, 0, [], [], 0),
  (41, .ishl, 0, [], [], 0),
  (42, .ior, 0, [], [], 0),
  (43, .istore_n 1, 0, [], [], 0),
  (44, .iinc 2 1, 0, [], [(1, 0)], 0),
  (47, .goto (-43), 4, [], [], 0),
  (50, .iload_n 1, 0, [], [], 0),
  (51, .ireturn, 0, [], [], 0)])
def mr_X9_isSeen : MR := (9, 0, ⟨"SamovarModel", "isSeen", "()Z"⟩, prog_11_method_73_code, 3, (Option.some Jvm.ClassFile.FieldType.boolean), 4, 94, [(0, .aload_n 0, 0, [], [], 0),
  (1, .invokevirtual 250, 0, [0], [], 0),
  (4, .iconst 1, 0, [], [(1, 0)], 0),
  (5, .istore_n 1, 0, [], [], 0),
  (6, .iconst 0, 0, [], [(0, 0)], 0),
  (7, .istore_n 2, 0, [], [], 0),
  (8, .iload_n 2, 0, [], [], 0),
  (9, .aload_n 0, 0, [], [], 0),
  (10, .getfield 317, 0, [9, 43, 1005, 0], [], 0),
  (13, .if_icmp .ge 44, 57, [], [], 0),
  (16, .iload_n 1, 0, [], [], 0),
  (17, .ifCond .eq 40, 57, [], [], 0),
  (20, .aload_n 0, 0, [], [], 0),
  (21, .getfield 70, 0, [9, 36, 998, 0], [], 0),
  (24, .bipush 6, 0, [], [(6, 0)], 0),
  (26, .aload_n 0, 0, [], [], 0),
  (27, .getfield 85, 0, [9, 44, 1006, 0], [], 0),
  (30, .iload_n 2, 0, [], [], 0),
  (31, .iaload, 0, [], [], 0),
  (32, .imul, 0, [], [], 0),
  (33, .iconst 4, 0, [], [(4, 0)], 0),
  (34, .iadd, 0, [], [], 0),
  (35, .iaload, 0, [], [], 0),
  (36, .aload_n 0, 0, [], [], 0),
  (37, .getfield 88, 0, [9, 45, 1007, 0], [], 0),
  (40, .iload_n 2, 0, [], [], 0),
  (41, .iaload, 0, [], [], 0),
  (42, .if_icmp .ne 7, 49, [], [], 0),
  (45, .iconst 1, 0, [], [(1, 0)], 0),
  (46, .goto 4, 50, [], [], 0),
  (49, .iconst 0, 0, [], [(0, 0)], 0),
  (50, .istore_n 1, 0, [], [], 0),
  (51, .iinc 2 1, 0, [], [(1, 0)], 0),
  (54, .goto (-46), 8, [], [], 0),
  (57, .iload_n 1, 0, [], [], 0),
  (58, .ireturn, 0, [], [], 0)])
def mr_X9_neverNow : MR := (9, 0, ⟨"SamovarModel", "neverNow", "()I"⟩, prog_11_method_74_code, 3, (Option.some Jvm.ClassFile.FieldType.int), 7, 158, [(0, .aload_n 0, 0, [], [], 0),
  (1, .invokevirtual 247, 0, [0], [], 0),
  (4, .iconst 0, 0, [], [(0, 0)], 0),
  (5, .istore_n 1, 0, [], [], 0),
  (6, .iconst 0, 0, [], [(0, 0)], 0),
  (7, .istore_n 2, 0, [], [], 0),
  (8, .iload_n 2, 0, [], [], 0),
  (9, .aload_n 0, 0, [], [], 0),
  (10, .getfield 169, 0, [9, 12, 974, 0], [], 0),
  (13, .if_icmp .ge 33, 46, [], [], 0),
  (16, .aload_n 0, 0, [], [], 0),
  (17, .iconst 1, 0, [], [(1, 0)], 0),
  (18, .iload_n 2, 0, [], [], 0),
  (19, .ishl, 0, [], [], 0),
  (20, .putfield 187, 0, [9, 21, 983, 0], [], 0),
  (23, .iload_n 1, 0, [], [], 0),
  (24, .aload_n 0, 0, [], [], 0),
  (25, .invokevirtual 320, 0, [0], [], 0),
  (28, .ifCond .eq 9, 37, [], [], 0),
  (31, .iconst 1, 0, [], [(1, 0)], 0),
  (32, .iload_n 2, 0, [], [], 0),
  (33, .ishl, 0, [], [], 0),
  (34, .goto 4, 38, [], [], 0),
  (37, .iconst 0, 0, [], [(0, 0)], 0),
  (38, .ior, 0, [], [], 0),
  (39, .istore_n 1, 0, [], [], 0),
  (40, .iinc 2 1, 0, [], [(1, 0)], 0),
  (43, .goto (-35), 8, [], [], 0),
  (46, .iload_n 1, 0, [], [], 0),
  (47, .ireturn, 0, [], [], 0)])
def mr_X9_never : MR := (9, 0, ⟨"SamovarModel", "never", "()I"⟩, prog_11_method_75_code, 1, (Option.some Jvm.ClassFile.FieldType.int), 8, 180, [(0, .aload_n 0, 0, [], [], 0),
  (1, .invokevirtual 324, 0, [0], [], 0),
  (4, .ireturn, 0, [], [], 0)])
def mr_X8_comingOutAsSeen : MR := (8, 2, ⟨"Samovar", "comingOutAsSeen", "(II)I"⟩, prog_1_method_50_code, 5, (Option.some Jvm.ClassFile.FieldType.int), 4, 93, [(0, .iconst 0, 0, [], [(0, 0)], 0),
  (1, .istore_n 3, 0, [], [], 0),
  (2, .iconst 0, 0, [], [(0, 0)], 0),
  (3, .istore 4, 0, [], [], 0),
  (5, .iload 4, 0, [], [], 0),
  (7, .iload_n 2, 0, [], [], 0),
  (8, .if_icmp .ge 34, 42, [], [], 0),
  (11, .aload_n 0, 0, [], [], 0),
  (12, .aload_n 0, 0, [], [], 0),
  (13, .getfield 59, 0, [8, 6, 388, 0], [], 0),
  (16, .iload_n 1, 0, [], [], 0),
  (17, .iload 4, 0, [], [], 0),
  (19, .iadd, 0, [], [], 0),
  (20, .invokevirtual 219, 0, [0], [], 0),
  (23, .invokevirtual 223, 0, [0], [], 0),
  (26, .ifCond .eq 10, 36, [], [], 0),
  (29, .iload_n 3, 0, [], [], 0),
  (30, .iconst 1, 0, [], [(1, 0)], 0),
  (31, .iload 4, 0, [], [], 0),
  (33, .ishl, 0, [], [], 0),
  (34, .ior, 0, [], [], 0),
  (35, .istore_n 3, 0, [], [], 0),
  (36, .iinc 4 1, 0, [], [(1, 0)], 0),
  (39, .goto (-34), 5, [], [], 0),
  (42, .iload_n 3, 0, [], [], 0),
  (43, .ireturn, 0, [], [], 0)])
def mr_X8_waters : MR := (8, 0, ⟨"Samovar", "waters", "()I"⟩, prog_1_method_27_code, 1, (Option.some Jvm.ClassFile.FieldType.int), 5, 117, [(0, .aload_n 0, 0, [], [], 0),
  (1, .sipush 256, 0, [], [(256, 0)], 0),
  (4, .bipush 31, 0, [], [(31, 0)], 0),
  (6, .invokevirtual 227, 0, [0], [], 0),
  (9, .ireturn, 0, [], [], 0)])
def mr_X9_watersBy : MR := (9, 0, ⟨"SamovarModel", "watersBy", "()I"⟩, prog_11_method_76_code, 4, (Option.some Jvm.ClassFile.FieldType.int), 7, 158, [(0, .aload_n 0, 0, [], [], 0),
  (1, .invokevirtual 247, 0, [0], [], 0),
  (4, .iconst 0, 0, [], [(0, 0)], 0),
  (5, .istore_n 1, 0, [], [], 0),
  (6, .iconst 0, 0, [], [(0, 0)], 0),
  (7, .istore_n 2, 0, [], [], 0),
  (8, .iload_n 2, 0, [], [], 0),
  (9, .bipush 24, 0, [], [(24, 0)], 0),
  (11, .if_icmp .ge 16, 27, [], [], 0),
  (14, .aload_n 0, 0, [], [], 0),
  (15, .getfield 91, 0, [9, 46, 1008, 0], [], 0),
  (18, .iload_n 2, 0, [], [], 0),
  (19, .iconst 0, 0, [], [(0, 0)], 0),
  (20, .iastore, 0, [], [], 0),
  (21, .iinc 2 1, 0, [], [(1, 0)], 0),
  (24, .goto (-16), 8, [], [], 0),
  (27, .iconst 0, 0, [], [(0, 0)], 0),
  (28, .istore_n 2, 0, [], [], 0),
  (29, .iload_n 2, 0, [], [], 0),
  (30, .bipush 30, 0, [], [(30, 0)], 0),
  (32, .if_icmp .gt 76, 108, [], [], 0),
  (35, .aload_n 0, 0, [], [], 0),
  (36, .iload_n 2, 0, [], [], 0),
  (37, .putfield 184, 0, [9, 20, 982, 0], [], 0),
  (40, .iload_n 1, 0, [], [], 0),
  (41, .aload_n 0, 0, [], [], 0),
  (42, .invokevirtual 320, 0, [0], [], 0),
  (45, .ifCond .eq 9, 54, [], [], 0),
  (48, .iconst 1, 0, [], [(1, 0)], 0),
  (49, .iload_n 2, 0, [], [], 0),
  (50, .ishl, 0, [], [], 0),
  (51, .goto 4, 55, [], [], 0),
  (54, .iconst 0, 0, [], [(0, 0)], 0),
  (55, .ior, 0, [], [], 0),
  (56, .istore_n 1, 0, [], [], 0),
  (57, .iconst 0, 0, [], [(0, 0)], 0),
  (58, .istore_n 3, 0, [], [], 0),
  (59, .iload_n 3, 0, [], [], 0),
  (60, .bipush 24, 0, [], [(24, 0)], 0),
  (62, .if_icmp .ge 40, 102, [], [], 0),
  (65, .aload_n 0, 0, [], [], 0),
  (66, .getfield 91, 0, [9, 46, 1008, 0], [], 0),
  (69, .iload_n 3, 0, [], [], 0),
  (70, .dup2, 0, [], [], 0),
  (71, .iaload, 0, [], [], 0),
  (72, .aload_n 0, 0, [], [], 0),
  (73, .getfield 70, 0, [9, 36, 998, 0], [], 0),
  (76, .bipush 6, 0, [], [(6, 0)], 0),
  (78, .iload_n 3, 0, [], [], 0),
  (79, .imul, 0, [], [], 0),
  (80, .iconst 4, 0, [], [(4, 0)], 0),
  (81, .iadd, 0, [], [], 0),
  (82, .iaload, 0, [], [], 0),
  (83, .iconst 1, 0, [], [(1, 0)], 0),
  (84, .if_icmp .ne 9, 93, [], [], 0),
  (87, .iconst 1, 0, [], [(1, 0)], 0),
  (88, .iload_n 2, 0, [], [], 0),
  (89, .ishl, 0, [], [], 0),
  (90, .goto 4, 94, [], [], 0),
  (93, .iconst 0, 0, [], [(0, 0)], 0),
  (94, .ior, 0, [], [], 0),
  (95, .iastore, 0, [], [], 0),
  (96, .iinc 3 1, 0, [], [(1, 0)], 0),
  (99, .goto (-40), 59, [], [], 0),
  (102, .iinc 2 1, 0, [], [(1, 0)], 0),
  (105, .goto (-76), 29, [], [], 0),
  (108, .iload_n 1, 0, [], [], 0),
  (109, .ireturn, 0, [], [], 0)])
def mr_X9_waters : MR := (9, 0, ⟨"SamovarModel", "waters", "()I"⟩, prog_11_method_77_code, 1, (Option.some Jvm.ClassFile.FieldType.int), 8, 181, [(0, .aload_n 0, 0, [], [], 0),
  (1, .invokevirtual 327, 0, [0], [], 0),
  (4, .ireturn, 0, [], [], 0)])
def mr_X8_kind : MR := (8, 1, ⟨"Samovar", "kind", "(I)I"⟩, prog_1_method_28_code, 2, (Option.some Jvm.ClassFile.FieldType.int), 5, 117, [(0, .aload_n 0, 0, [], [], 0),
  (1, .getfield 16, 0, [8, 0, 382, 0], [], 0),
  (4, .getfield 37, 0, [6, 0, 150, 0], [], 0),
  (7, .iload_n 1, 0, [], [], 0),
  (8, .invokevirtual 160, 0, [0], [], 0),
  (11, .ifCond .eq 15, 26, [], [], 0),
  (14, .aload_n 0, 0, [], [], 0),
  (15, .iload_n 1, 0, [], [], 0),
  (16, .invokestatic 202, 0, [0], [], 0),
  (19, .iconst 3, 0, [], [(3, 0)], 0),
  (20, .invokevirtual 227, 0, [0], [], 0),
  (23, .goto 5, 28, [], [], 0),
  (26, .bipush (-2), 0, [], [((-2), 0)], 0),
  (28, .ireturn, 0, [], [], 0)])
def mr_X9_kindsBy : MR := (9, 1, ⟨"SamovarModel", "kindsBy", "(I)I"⟩, prog_11_method_78_code, 5, (Option.some Jvm.ClassFile.FieldType.int), 7, 158, [(0, .aload_n 0, 0, [], [], 0),
  (1, .invokevirtual 247, 0, [0], [], 0),
  (4, .aload_n 0, 0, [], [], 0),
  (5, .getfield 19, 0, [9, 4, 966, 0], [], 0),
  (8, .iload_n 1, 0, [], [], 0),
  (9, .iaload, 0, [], [], 0),
  (10, .istore_n 2, 0, [], [], 0),
  (11, .iconst 0, 0, [], [(0, 0)], 0),
  (12, .istore_n 3, 0, [], [], 0),
  (13, .iconst 0, 0, [], [(0, 0)], 0),
  (14, .istore 4, 0, [], [], 0),
  (16, .iload 4, 0, [], [], 0),
  (18, .iconst 3, 0, [], [(3, 0)], 0),
  (19, .if_icmp .ge 35, 54, [], [], 0),
  (22, .aload_n 0, 0, [], [], 0),
  (23, .getfield 19, 0, [9, 4, 966, 0], [], 0),
  (26, .iload_n 1, 0, [], [], 0),
  (27, .iload 4, 0, [], [], 0),
  (29, .iastore, 0, [], [], 0),
  (30, .iload_n 3, 0, [], [], 0),
  (31, .aload_n 0, 0, [], [], 0),
  (32, .invokevirtual 320, 0, [0], [], 0),
  (35, .ifCond .eq 10, 45, [], [], 0),
  (38, .iconst 1, 0, [], [(1, 0)], 0),
  (39, .iload 4, 0, [], [], 0),
  (41, .ishl, 0, [], [], 0),
  (42, .goto 4, 46, [], [], 0),
  (45, .iconst 0, 0, [], [(0, 0)], 0),
  (46, .ior, 0, [], [], 0),
  (47, .istore_n 3, 0, [], [], 0),
  (48, .iinc 4 1, 0, [], [(1, 0)], 0),
  (51, .goto (-35), 16, [], [], 0),
  (54, .aload_n 0, 0, [], [], 0),
  (55, .getfield 19, 0, [9, 4, 966, 0], [], 0),
  (58, .iload_n 1, 0, [], [], 0),
  (59, .iload_n 2, 0, [], [], 0),
  (60, .iastore, 0, [], [], 0),
  (61, .iload_n 3, 0, [], [], 0),
  (62, .ireturn, 0, [], [], 0)])
def mr_X9_kind : MR := (9, 1, ⟨"SamovarModel", "kind", "(I)I"⟩, prog_11_method_79_code, 2, (Option.some Jvm.ClassFile.FieldType.int), 8, 182, [(0, .aload_n 0, 0, [], [], 0),
  (1, .iload_n 1, 0, [], [], 0),
  (2, .invokevirtual 154, 0, [0], [], 0),
  (5, .ifCond .eq 11, 16, [], [], 0),
  (8, .aload_n 0, 0, [], [], 0),
  (9, .iload_n 1, 0, [], [], 0),
  (10, .invokevirtual 330, 0, [0], [], 0),
  (13, .goto 5, 18, [], [], 0),
  (16, .bipush (-2), 0, [], [((-2), 0)], 0),
  (18, .ireturn, 0, [], [], 0)])
def mr_X8_boilingWaters : MR := (8, 2, ⟨"Samovar", "boilingWaters", "(II)I"⟩, prog_1_method_52_code, 5, (Option.some Jvm.ClassFile.FieldType.int), 4, 93, [(0, .iconst 0, 0, [], [(0, 0)], 0),
  (1, .istore_n 3, 0, [], [], 0),
  (2, .iconst 0, 0, [], [(0, 0)], 0),
  (3, .istore 4, 0, [], [], 0),
  (5, .iload 4, 0, [], [], 0),
  (7, .bipush 31, 0, [], [(31, 0)], 0),
  (9, .if_icmp .ge 42, 51, [], [], 0),
  (12, .iload_n 1, 0, [], [], 0),
  (13, .iload 4, 0, [], [], 0),
  (15, .ishr, 0, [], [], 0),
  (16, .iconst 1, 0, [], [(1, 0)], 0),
  (17, .iand, 0, [], [], 0),
  (18, .iconst 1, 0, [], [(1, 0)], 0),
  (19, .if_icmp .ne 26, 45, [], [], 0),
  (22, .iload_n 3, 0, [], [], 0),
  (23, .aload_n 0, 0, [], [], 0),
  (24, .getfield 59, 0, [8, 6, 388, 0], [], 0),
  (27, .sipush 256, 0, [], [(256, 0)], 0),
  (30, .iload 4, 0, [], [], 0),
  (32, .iadd, 0, [], [], 0),
  (33, .invokevirtual 219, 0, [0], [], 0),
  (36, .invokestatic 355, 0, [0], [], 0),
  (39, .iload_n 2, 0, [], [], 0),
  (40, .ishr, 0, [], [], 0),
  (41, .iconst 1, 0, [], [(1, 0)], 0),
  (42, .iand, 0, [], [], 0),
  (43, .iadd, 0, [], [], 0),
  (44, .istore_n 3, 0, [], [], 0),
  (45, .iinc 4 1, 0, [], [(1, 0)], 0),
  (48, .goto (-43), 5, [], [], 0),
  (51, .iload_n 3, 0, [], [], 0),
  (52, .ireturn, 0, [], [], 0)])
def mr_X8_ask : MR := (8, 0, ⟨"Samovar", "ask", "()I"⟩, prog_1_method_29_code, 8, (Option.some Jvm.ClassFile.FieldType.int), 6, 137, [(0, .aload_n 0, 0, [], [], 0),
  (1, .invokevirtual 230, 0, [0], [], 0),
  (4, .istore_n 1, 0, [], [], 0),
  (5, .iload_n 1, 0, [], [], 0),
  (6, .invokestatic 185, 0, [0], [], 0),
  (9, .istore_n 2, 0, [], [], 0),
  (10, .iconst 0, 0, [], [(0, 0)], 0),
  (11, .istore_n 3, 0, [], [], 0),
  (12, .iload_n 2, 0, [], [], 0),
  (13, .istore 4, 0, [], [], 0),
  (15, .iconst 0, 0, [], [(0, 0)], 0),
  (16, .istore 5, 0, [], [], 0),
  (18, .iload 5, 0, [], [], 0),
  (20, .bipush 24, 0, [], [(24, 0)], 0),
  (22, .if_icmp .ge 43, 65, [], [], 0),
  (25, .aload_n 0, 0, [], [], 0),
  (26, .iload_n 1, 0, [], [], 0),
  (27, .iload 5, 0, [], [], 0),
  (29, .invokevirtual 233, 0, [0], [], 0),
  (32, .istore 6, 0, [], [], 0),
  (34, .iload 6, 0, [], [], 0),
  (36, .iload_n 2, 0, [], [], 0),
  (37, .iload 6, 0, [], [], 0),
  (39, .isub, 0, [], [], 0),
  (40, .invokestatic 236, 0, [2, 837], [], 0),
  (43, .istore 7, 0, [], [], 0),
  (45, .iload 7, 0, [], [], 0),
  (47, .iload 4, 0, [], [], 0),
  (49, .if_icmp .ge 10, 59, [], [], 0),
  (52, .iload 5, 0, [], [], 0),
  (54, .istore_n 3, 0, [], [], 0),
  (55, .iload 7, 0, [], [], 0),
  (57, .istore 4, 0, [], [], 0),
  (59, .iinc 5 1, 0, [], [(1, 0)], 0),
  (62, .goto (-44), 18, [], [], 0),
  (65, .iload_n 3, 0, [], [], 0),
  (66, .ireturn, 0, [], [], 0)])
def mr_X9_many : MR := (9, 1, ⟨"SamovarModel", "many", "(I)I"⟩, prog_11_method_80_code, 3, (Option.some Jvm.ClassFile.FieldType.int), 1, 21, [(0, .iconst 0, 0, [], [(0, 0)], 0),
  (1, .istore_n 1, 0, [], [], 0),
  (2, .iconst 0, 0, [], [(0, 0)], 0),
  (3, .istore_n 2, 0, [], [], 0),
  (4, .iload_n 2, 0, [], [], 0),
  (5, .bipush 30, 0, [], [(30, 0)], 0),
  (7, .if_icmp .gt 25, 32, [], [], 0),
  (10, .iload_n 1, 0, [], [], 0),
  (11, .iload_n 0, 0, [], [], 0),
  (12, .iload_n 2, 0, [], [], 0),
  (13, .invokestatic 193, 0, [0], [], 0),
  (16, .ifCond .eq 7, 23, [], [], 0),
  (19, .iconst 1, 0, [], [(1, 0)], 0),
  (20, .goto 4, 24, [], [], 0),
  (23, .iconst 0, 0, [], [(0, 0)], 0),
  (24, .iadd, 0, [], [], 0),
  (25, .istore_n 1, 0, [], [], 0),
  (26, .iinc 2 1, 0, [], [(1, 0)], 0),
  (29, .goto (-25), 4, [], [], 0),
  (32, .iload_n 1, 0, [], [], 0),
  (33, .ireturn, 0, [], [], 0)])
def mr_X9_askOf : MR := (9, 0, ⟨"SamovarModel", "askOf", "()I"⟩, prog_11_method_81_code, 9, (Option.some Jvm.ClassFile.FieldType.int), 8, 181, [(0, .aload_n 0, 0, [], [], 0),
  (1, .invokevirtual 327, 0, [0], [], 0),
  (4, .istore_n 1, 0, [], [], 0),
  (5, .iconst (-1), 0, [], [((-1), 0)], 0),
  (6, .istore_n 2, 0, [], [], 0),
  (7, .iconst 0, 0, [], [(0, 0)], 0),
  (8, .istore_n 3, 0, [], [], 0),
  (9, .iconst 0, 0, [], [(0, 0)], 0),
  (10, .istore 4, 0, [], [], 0),
  (12, .iload 4, 0, [], [], 0),
  (14, .bipush 24, 0, [], [(24, 0)], 0),
  (16, .if_icmp .ge 97, 113, [], [], 0),
  (19, .iload_n 1, 0, [], [], 0),
  (20, .aload_n 0, 0, [], [], 0),
  (21, .getfield 91, 0, [9, 46, 1008, 0], [], 0),
  (24, .iload 4, 0, [], [], 0),
  (26, .iaload, 0, [], [], 0),
  (27, .iand, 0, [], [], 0),
  (28, .invokestatic 333, 0, [0], [], 0),
  (31, .istore 5, 0, [], [], 0),
  (33, .iload_n 1, 0, [], [], 0),
  (34, .aload_n 0, 0, [], [], 0),
  (35, .getfield 91, 0, [9, 46, 1008, 0], [], 0),
  (38, .iload 4, 0, [], [], 0),
  (40, .iaload, 0, [], [], 0),
  (41, .iconst (-1), 0, [], [((-1), 0)], 0),
  (42, .ixor, 0, [], [], 0),
  (43, .iand, 0, [], [], 0),
  (44, .invokestatic 333, 0, [0], [], 0),
  (47, .istore 6, 0, [], [], 0),
  (49, .iload 5, 0, [], [], 0),
  (51, .iload 6, 0, [], [], 0),
  (53, .if_icmp .le 8, 61, [], [], 0),
  (56, .iload 5, 0, [], [], 0),
  (58, .goto 5, 63, [], [], 0),
  (61, .iload 6, 0, [], [], 0),
  (63, .istore 7, 0, [], [], 0),
  (65, .iload_n 2, 0, [], [], 0),
  (66, .iconst (-1), 0, [], [((-1), 0)], 0),
  (67, .if_icmp .eq 9, 76, [], [], 0),
  (70, .iload 7, 0, [], [], 0),
  (72, .iload_n 3, 0, [], [], 0),
  (73, .if_icmp .ge 7, 80, [], [], 0),
  (76, .iconst 1, 0, [], [(1, 0)], 0),
  (77, .goto 4, 81, [], [], 0),
  (80, .iconst 0, 0, [], [(0, 0)], 0),
  (81, .istore 8, 0, [], [], 0),
  (83, .iload 8, 0, [], [], 0),
  (85, .ifCond .eq 8, 93, [], [], 0),
  (88, .iload 4, 0, [], [], 0),
  (90, .goto 4, 94, [], [], 0),
  (93, .iload_n 2, 0, [], [], 0),
  (94, .istore_n 2, 0, [], [], 0),
  (95, .iload 8, 0, [], [], 0),
  (97, .ifCond .eq 8, 105, [], [], 0),
  (100, .iload 7, 0, [], [], 0),
  (102, .goto 4, 106, [], [], 0),
  (105, .iload_n 3, 0, [], [], 0),
  (106, .istore_n 3, 0, [], [], 0),
  (107, .iinc 4 1, 0, [], [(1, 0)], 0),
  (110, .goto (-98), 12, [], [], 0),
  (113, .iload_n 2, 0, [], [], 0),
  (114, .ireturn, 0, [], [], 0)])
def mr_X9_ask : MR := (9, 0, ⟨"SamovarModel", "ask", "()I"⟩, prog_11_method_82_code, 1, (Option.some Jvm.ClassFile.FieldType.int), 9, 209, [(0, .aload_n 0, 0, [], [], 0),
  (1, .invokevirtual 336, 0, [0], [], 0),
  (4, .ireturn, 0, [], [], 0)])
def mr_X7_contentIn : MR := (7, 1, ⟨"Samovar$Trials", "contentIn", "(J)I"⟩, prog_9_method_5_code, 2, (Option.some Jvm.ClassFile.FieldType.int), 0, 0, [(0, .lload_n 0, 0, [], [], 0),
  (1, .bipush 24, 0, [], [(24, 0)], 0),
  (3, .lshr, 0, [], [], 0),
  (4, .ldc2_w 43, 769, [], [], 255),
  (7, .land, 0, [], [], 0),
  (8, .l2i, 0, [], [], 0),
  (9, .ireturn, 0, [], [], 0)])
def mr_X8_power : MR := (8, 2, ⟨"Samovar", "power", "(II)J"⟩, prog_1_method_53_code, 5, (Option.some Jvm.ClassFile.FieldType.long), 0, 0, [(0, .lconst 1, 0, [], [], 1),
  (1, .lstore_n 2, 0, [], [], 0),
  (2, .iconst 0, 0, [], [(0, 0)], 0),
  (3, .istore 4, 0, [], [], 0),
  (5, .iload 4, 0, [], [], 0),
  (7, .iload_n 1, 0, [], [], 0),
  (8, .if_icmp .ge 21, 29, [], [], 0),
  (11, .iload 4, 0, [], [], 0),
  (13, .bipush 8, 0, [], [(8, 0)], 0),
  (15, .if_icmp .ge 14, 29, [], [], 0),
  (18, .lload_n 2, 0, [], [], 0),
  (19, .iload_n 0, 0, [], [], 0),
  (20, .i2l, 0, [], [], 0),
  (21, .lmul, 0, [], [], 0),
  (22, .lstore_n 2, 0, [], [], 0),
  (23, .iinc 4 1, 0, [], [(1, 0)], 0),
  (26, .goto (-21), 5, [], [], 0),
  (29, .lload_n 2, 0, [], [], 0),
  (30, .lreturn, 0, [], [], 0)])
def mr_X8_chance : MR := (8, 3, ⟨"Samovar", "chance", "(III)J"⟩, prog_1_method_30_code, 10, (Option.some Jvm.ClassFile.FieldType.long), 4, 93, [(0, .iload_n 1, 0, [], [], 0),
  (1, .bipush 16, 0, [], [(16, 0)], 0),
  (3, .invokestatic 83, 0, [0], [], 0),
  (6, .ifCond .eq 25, 31, [], [], 0),
  (9, .aload_n 0, 0, [], [], 0),
  (10, .getfield 22, 0, [8, 1, 383, 0], [], 0),
  (13, .getfield 37, 0, [6, 0, 150, 0], [], 0),
  (16, .iload_n 2, 0, [], [], 0),
  (17, .invokevirtual 160, 0, [0], [], 0),
  (20, .ifCond .eq 11, 31, [], [], 0),
  (23, .iload_n 3, 0, [], [], 0),
  (24, .iconst 1, 0, [], [(1, 0)], 0),
  (25, .invokestatic 83, 0, [0], [], 0),
  (28, .ifCond .ne 7, 35, [], [], 0),
  (31, .ldc2_w 241, 842, [], [], (-9223372036854775806)),
  (34, .lreturn, 0, [], [], 0),
  (35, .aload_n 0, 0, [], [], 0),
  (36, .getfield 28, 0, [8, 2, 384, 0], [], 0),
  (39, .getfield 118, 0, [1, 3, 136, 0], [], 0),
  (42, .bipush 8, 0, [], [(8, 0)], 0),
  (44, .invokestatic 243, 0, [3, 792], [], 0),
  (47, .istore 4, 0, [], [], 0),
  (49, .lconst 0, 0, [], [], 0),
  (50, .lstore 5, 0, [], [], 0),
  (52, .iconst 0, 0, [], [(0, 0)], 0),
  (53, .istore 7, 0, [], [], 0),
  (55, .iload 7, 0, [], [], 0),
  (57, .iconst 1, 0, [], [(1, 0)], 0),
  (58, .iload 4, 0, [], [], 0),
  (60, .ishl, 0, [], [], 0),
  (61, .if_icmp .ge 60, 121, [], [], 0),
  (64, .aload_n 0, 0, [], [], 0),
  (65, .getfield 59, 0, [8, 6, 388, 0], [], 0),
  (68, .iload 7, 0, [], [], 0),
  (70, .invokevirtual 219, 0, [0], [], 0),
  (73, .invokestatic 246, 0, [0], [], 0),
  (76, .iload_n 2, 0, [], [], 0),
  (77, .ishr, 0, [], [], 0),
  (78, .iconst 1, 0, [], [(1, 0)], 0),
  (79, .iand, 0, [], [], 0),
  (80, .iconst 1, 0, [], [(1, 0)], 0),
  (81, .if_icmp .ne 34, 115, [], [], 0),
  (84, .iload 7, 0, [], [], 0),
  (86, .invokestatic 185, 0, [0], [], 0),
  (89, .istore 8, 0, [], [], 0),
  (91, .lload 5, 0, [], [], 0),
  (93, .iload_n 1, 0, [], [], 0),
  (94, .iload 4, 0, [], [], 0),
  (96, .iload 8, 0, [], [], 0),
  (98, .isub, 0, [], [], 0),
  (99, .invokestatic 250, 0, [0], [], 0),
  (102, .bipush 16, 0, [], [(16, 0)], 0),
  (104, .iload_n 1, 0, [], [], 0),
  (105, .isub, 0, [], [], 0),
  (106, .iload 8, 0, [], [], 0),
  (108, .invokestatic 250, 0, [0], [], 0),
  (111, .lmul, 0, [], [], 0),
  (112, .ladd, 0, [], [], 0),
  (113, .lstore 5, 0, [], [], 0),
  (115, .iinc 7 1, 0, [], [(1, 0)], 0),
  (118, .goto (-63), 55, [], [], 0),
  (121, .bipush 16, 0, [], [(16, 0)], 0),
  (123, .iload 4, 0, [], [], 0),
  (125, .invokestatic 250, 0, [0], [], 0),
  (128, .lstore 7, 0, [], [], 0),
  (130, .iconst 0, 0, [], [(0, 0)], 0),
  (131, .istore 9, 0, [], [], 0),
  (133, .iload 9, 0, [], [], 0),
  (135, .bipush 32, 0, [], [(32, 0)], 0),
  (137, .if_icmp .ge 43, 180, [], [], 0),
  (140, .lload 7, 0, [], [], 0),
  (142, .lconst 1, 0, [], [], 1),
  (143, .lcmp, 0, [], [], 0),
  (144, .ifCond .le 36, 180, [], [], 0),
  (147, .lload 5, 0, [], [], 0),
  (149, .ldc2_w 254, 849, [], [], 2),
  (152, .lrem, 0, [], [], 0),
  (153, .lconst 0, 0, [], [], 0),
  (154, .lcmp, 0, [], [], 0),
  (155, .ifCond .ne 25, 180, [], [], 0),
  (158, .lload 5, 0, [], [], 0),
  (160, .ldc2_w 254, 849, [], [], 2),
  (163, .ldiv, 0, [], [], 0),
  (164, .lstore 5, 0, [], [], 0),
  (166, .lload 7, 0, [], [], 0),
  (168, .ldc2_w 254, 849, [], [], 2),
  (171, .ldiv, 0, [], [], 0),
  (172, .lstore 7, 0, [], [], 0),
  (174, .iinc 9 1, 0, [], [(1, 0)], 0),
  (177, .goto (-44), 133, [], [], 0),
  (180, .iload_n 3, 0, [], [], 0),
  (181, .ifCond .ne 8, 189, [], [], 0),
  (184, .lload 5, 0, [], [], 0),
  (186, .goto 5, 191, [], [], 0),
  (189, .lload 7, 0, [], [], 0),
  (191, .lreturn, 0, [], [], 0)])
def mr_X9_lowest : MR := (9, 3, ⟨"SamovarModel", "lowest", "(JJI)J"⟩, prog_11_method_7_code, 11, (Option.some Jvm.ClassFile.FieldType.long), 0, 0, [(0, .lload_n 0, 0, [], [], 0),
  (1, .lstore 5, 0, [], [], 0),
  (3, .lload_n 2, 0, [], [], 0),
  (4, .lstore 7, 0, [], [], 0),
  (6, .lload 7, 0, [], [], 0),
  (8, .lconst 0, 0, [], [], 0),
  (9, .lcmp, 0, [], [], 0),
  (10, .ifCond .eq 21, 31, [], [], 0),
  (13, .lload 5, 0, [], [], 0),
  (15, .lload 7, 0, [], [], 0),
  (17, .lrem, 0, [], [], 0),
  (18, .lstore 9, 0, [], [], 0),
  (20, .lload 7, 0, [], [], 0),
  (22, .lstore 5, 0, [], [], 0),
  (24, .lload 9, 0, [], [], 0),
  (26, .lstore 7, 0, [], [], 0),
  (28, .goto (-22), 6, [], [], 0),
  (31, .iload 4, 0, [], [], 0),
  (33, .ifCond .ne 10, 43, [], [], 0),
  (36, .lload_n 0, 0, [], [], 0),
  (37, .lload 5, 0, [], [], 0),
  (39, .ldiv, 0, [], [], 0),
  (40, .goto 7, 47, [], [], 0),
  (43, .lload_n 2, 0, [], [], 0),
  (44, .lload 5, 0, [], [], 0),
  (46, .ldiv, 0, [], [], 0),
  (47, .lreturn, 0, [], [], 0)])
def mr_X9_chanceOf : MR := (9, 3, ⟨"SamovarModel", "chanceOf", "(III)J"⟩, prog_11_method_83_code, 10, (Option.some Jvm.ClassFile.FieldType.long), 7, 158, [(0, .aload_n 0, 0, [], [], 0),
  (1, .invokevirtual 247, 0, [0], [], 0),
  (4, .lconst 0, 0, [], [], 0),
  (5, .lstore 4, 0, [], [], 0),
  (7, .iconst 0, 0, [], [(0, 0)], 0),
  (8, .istore 6, 0, [], [], 0),
  (10, .iload 6, 0, [], [], 0),
  (12, .iconst 1, 0, [], [(1, 0)], 0),
  (13, .aload_n 0, 0, [], [], 0),
  (14, .getfield 169, 0, [9, 12, 974, 0], [], 0),
  (17, .ishl, 0, [], [], 0),
  (18, .if_icmp .ge 93, 111, [], [], 0),
  (21, .lconst 1, 0, [], [], 1),
  (22, .lstore 7, 0, [], [], 0),
  (24, .iconst 0, 0, [], [(0, 0)], 0),
  (25, .istore 9, 0, [], [], 0),
  (27, .iload 9, 0, [], [], 0),
  (29, .aload_n 0, 0, [], [], 0),
  (30, .getfield 169, 0, [9, 12, 974, 0], [], 0),
  (33, .if_icmp .ge 34, 67, [], [], 0),
  (36, .lload 7, 0, [], [], 0),
  (38, .iload 6, 0, [], [], 0),
  (40, .iload 9, 0, [], [], 0),
  (42, .invokestatic 193, 0, [0], [], 0),
  (45, .ifCond .eq 11, 56, [], [], 0),
  (48, .bipush 16, 0, [], [(16, 0)], 0),
  (50, .iload_n 1, 0, [], [], 0),
  (51, .isub, 0, [], [], 0),
  (52, .i2l, 0, [], [], 0),
  (53, .goto 5, 58, [], [], 0),
  (56, .iload_n 1, 0, [], [], 0),
  (57, .i2l, 0, [], [], 0),
  (58, .lmul, 0, [], [], 0),
  (59, .lstore 7, 0, [], [], 0),
  (61, .iinc 9 1, 0, [], [(1, 0)], 0),
  (64, .goto (-37), 27, [], [], 0),
  (67, .lload 7, 0, [], [], 0),
  (69, .lconst 0, 0, [], [], 0),
  (70, .lcmp, 0, [], [], 0),
  (71, .ifCond .le 34, 105, [], [], 0),
  (74, .aload_n 0, 0, [], [], 0),
  (75, .iload 6, 0, [], [], 0),
  (77, .putfield 187, 0, [9, 21, 983, 0], [], 0),
  (80, .aload_n 0, 0, [], [], 0),
  (81, .invokevirtual 250, 0, [0], [], 0),
  (84, .lload 4, 0, [], [], 0),
  (86, .aload_n 0, 0, [], [], 0),
  (87, .getfield 55, 0, [9, 31, 993, 0], [], 0),
  (90, .iload_n 2, 0, [], [], 0),
  (91, .iaload, 0, [], [], 0),
  (92, .iconst 3, 0, [], [(3, 0)], 0),
  (93, .if_icmp .ne 8, 101, [], [], 0),
  (96, .lload 7, 0, [], [], 0),
  (98, .goto 4, 102, [], [], 0),
  (101, .lconst 0, 0, [], [], 0),
  (102, .ladd, 0, [], [], 0),
  (103, .lstore 4, 0, [], [], 0),
  (105, .iinc 6 1, 0, [], [(1, 0)], 0),
  (108, .goto (-98), 10, [], [], 0),
  (111, .lload 4, 0, [], [], 0),
  (113, .lconst 1, 0, [], [], 1),
  (114, .iconst 4, 0, [], [(4, 0)], 0),
  (115, .aload_n 0, 0, [], [], 0),
  (116, .getfield 169, 0, [9, 12, 974, 0], [], 0),
  (119, .imul, 0, [], [], 0),
  (120, .lshl, 0, [], [], 0),
  (121, .iload_n 3, 0, [], [], 0),
  (122, .invokestatic 339, 0, [0], [], 0),
  (125, .lreturn, 0, [], [], 0)])
def mr_X9_no : MR := (9, 1, ⟨"SamovarModel", "no", "(I)J"⟩, prog_11_method_5_code, 1, (Option.some Jvm.ClassFile.FieldType.long), 0, 0, [(0, .ldc2_w 117, 1450, [], [], (-9223372036854775808)),
  (3, .iload_n 0, 0, [], [], 0),
  (4, .i2l, 0, [], [], 0),
  (5, .lsub, 0, [], [], 0),
  (6, .lreturn, 0, [], [], 0)])
def mr_X9_chance : MR := (9, 3, ⟨"SamovarModel", "chance", "(III)J"⟩, prog_11_method_84_code, 4, (Option.some Jvm.ClassFile.FieldType.long), 8, 187, [(0, .iload_n 1, 0, [], [], 0),
  (1, .iconst 0, 0, [], [(0, 0)], 0),
  (2, .bipush 16, 0, [], [(16, 0)], 0),
  (4, .invokestatic 119, 0, [0], [], 0),
  (7, .ifCond .eq 28, 35, [], [], 0),
  (10, .aload_n 0, 0, [], [], 0),
  (11, .iload_n 2, 0, [], [], 0),
  (12, .invokevirtual 163, 0, [0], [], 0),
  (15, .ifCond .eq 20, 35, [], [], 0),
  (18, .iload_n 3, 0, [], [], 0),
  (19, .invokestatic 123, 0, [0], [], 0),
  (22, .ifCond .eq 13, 35, [], [], 0),
  (25, .aload_n 0, 0, [], [], 0),
  (26, .iload_n 1, 0, [], [], 0),
  (27, .iload_n 2, 0, [], [], 0),
  (28, .iload_n 3, 0, [], [], 0),
  (29, .invokevirtual 343, 0, [0], [], 0),
  (32, .goto 8, 40, [], [], 0),
  (35, .bipush (-2), 0, [], [((-2), 0)], 0),
  (37, .invokestatic 347, 0, [0], [], 0),
  (40, .lreturn, 0, [], [], 0)])
def mr_X7_nextSeed : MR := (7, 1, ⟨"Samovar$Trials", "nextSeed", "(I)I"⟩, prog_9_method_12_code, 1, (Option.some Jvm.ClassFile.FieldType.int), 0, 0, [(0, .ldc 98, 861, [], [(1103515245, 0)], 0),
  (2, .iload_n 0, 0, [], [], 0),
  (3, .imul, 0, [], [], 0),
  (4, .sipush 12345, 0, [], [(12345, 0)], 0),
  (7, .iadd, 0, [], [], 0),
  (8, .ireturn, 0, [], [], 0)])
def mr_X7_outcomeByLots : MR := (7, 2, ⟨"Samovar$Trials", "outcomeByLots", "(II)J"⟩, prog_9_method_11_code, 7, (Option.some Jvm.ClassFile.FieldType.long), 3, 72, [(0, .aload_n 0, 0, [], [], 0),
  (1, .getfield 23, 0, [7, 2, 344, 0], [], 0),
  (4, .aload_n 0, 0, [], [], 0),
  (5, .getfield 38, 0, [7, 1, 343, 0], [], 0),
  (8, .invokevirtual 51, 0, [0], [], 0),
  (11, .aload_n 0, 0, [], [], 0),
  (12, .getfield 23, 0, [7, 2, 344, 0], [], 0),
  (15, .getfield 81, 0, [4, 1, 185, 0], [], 0),
  (18, .iconst 0, 0, [], [(0, 0)], 0),
  (19, .putfield 87, 0, [1, 3, 137, 0], [], 0),
  (22, .iload_n 1, 0, [], [], 0),
  (23, .istore_n 3, 0, [], [], 0),
  (24, .iconst 0, 0, [], [(0, 0)], 0),
  (25, .istore 4, 0, [], [], 0),
  (27, .iload 4, 0, [], [], 0),
  (29, .iload_n 2, 0, [], [], 0),
  (30, .if_icmp .ge 70, 100, [], [], 0),
  (33, .iload 4, 0, [], [], 0),
  (35, .bipush 8, 0, [], [(8, 0)], 0),
  (37, .if_icmp .ge 63, 100, [], [], 0),
  (40, .iload_n 3, 0, [], [], 0),
  (41, .invokestatic 90, 0, [0], [], 0),
  (44, .istore_n 3, 0, [], [], 0),
  (45, .iload_n 3, 0, [], [], 0),
  (46, .bipush 16, 0, [], [(16, 0)], 0),
  (48, .iushr, 0, [], [], 0),
  (49, .bipush 24, 0, [], [(24, 0)], 0),
  (51, .irem, 0, [], [], 0),
  (52, .istore 5, 0, [], [], 0),
  (54, .iload_n 3, 0, [], [], 0),
  (55, .invokestatic 90, 0, [0], [], 0),
  (58, .istore_n 3, 0, [], [], 0),
  (59, .iload_n 3, 0, [], [], 0),
  (60, .bipush 16, 0, [], [(16, 0)], 0),
  (62, .iushr, 0, [], [], 0),
  (63, .iconst 2, 0, [], [(2, 0)], 0),
  (64, .irem, 0, [], [], 0),
  (65, .istore 6, 0, [], [], 0),
  (67, .iload_n 3, 0, [], [], 0),
  (68, .invokestatic 90, 0, [0], [], 0),
  (71, .istore_n 3, 0, [], [], 0),
  (72, .aload_n 0, 0, [], [], 0),
  (73, .getfield 23, 0, [7, 2, 344, 0], [], 0),
  (76, .getfield 81, 0, [4, 1, 185, 0], [], 0),
  (79, .iload 5, 0, [], [], 0),
  (81, .iload 6, 0, [], [], 0),
  (83, .iload_n 3, 0, [], [], 0),
  (84, .bipush 16, 0, [], [(16, 0)], 0),
  (86, .iushr, 0, [], [], 0),
  (87, .iconst 4, 0, [], [(4, 0)], 0),
  (88, .irem, 0, [], [], 0),
  (89, .iconst 1, 0, [], [(1, 0)], 0),
  (90, .iadd, 0, [], [], 0),
  (91, .invokevirtual 94, 0, [0], [], 0),
  (94, .iinc 4 1, 0, [], [(1, 0)], 0),
  (97, .goto (-70), 27, [], [], 0),
  (100, .aload_n 0, 0, [], [], 0),
  (101, .getfield 30, 0, [7, 3, 345, 0], [], 0),
  (104, .aload_n 0, 0, [], [], 0),
  (105, .getfield 23, 0, [7, 2, 344, 0], [], 0),
  (108, .invokevirtual 59, 0, [0], [], 0),
  (111, .aload_n 0, 0, [], [], 0),
  (112, .getfield 30, 0, [7, 3, 345, 0], [], 0),
  (115, .invokestatic 62, 0, [0], [], 0),
  (118, .lreturn, 0, [], [], 0)])
def mr_X8_evenings : MR := (8, 3, ⟨"Samovar", "evenings", "(III)I"⟩, prog_1_method_31_code, 6, (Option.some Jvm.ClassFile.FieldType.int), 4, 98, [(0, .iload_n 2, 0, [], [], 0),
  (1, .bipush 8, 0, [], [(8, 0)], 0),
  (3, .invokestatic 83, 0, [0], [], 0),
  (6, .ifCond .eq 11, 17, [], [], 0),
  (9, .iload_n 3, 0, [], [], 0),
  (10, .iconst 1, 0, [], [(1, 0)], 0),
  (11, .invokestatic 83, 0, [0], [], 0),
  (14, .ifCond .ne 6, 20, [], [], 0),
  (17, .bipush (-2), 0, [], [((-2), 0)], 0),
  (19, .ireturn, 0, [], [], 0),
  (20, .aload_n 0, 0, [], [], 0),
  (21, .getfield 59, 0, [8, 6, 388, 0], [], 0),
  (24, .iload_n 1, 0, [], [], 0),
  (25, .iload_n 2, 0, [], [], 0),
  (26, .invokevirtual 256, 0, [0], [], 0),
  (29, .lstore 4, 0, [], [], 0),
  (31, .iload_n 3, 0, [], [], 0),
  (32, .ifCond .ne 11, 43, [], [], 0),
  (35, .lload 4, 0, [], [], 0),
  (37, .invokestatic 259, 0, [0], [], 0),
  (40, .goto 11, 51, [], [], 0),
  (43, .lload 4, 0, [], [], 0),
  (45, .invokestatic 262, 0, [0], [], 0),
  (48, .invokestatic 185, 0, [0], [], 0),
  (51, .ireturn, 0, [], [], 0)])
def mr_X9_eveningsOf : MR := (9, 3, ⟨"SamovarModel", "eveningsOf", "(III)I"⟩, prog_11_method_85_code, 6, (Option.some Jvm.ClassFile.FieldType.int), 7, 158, [(0, .aload_n 0, 0, [], [], 0),
  (1, .invokevirtual 247, 0, [0], [], 0),
  (4, .iload_n 1, 0, [], [], 0),
  (5, .istore 4, 0, [], [], 0),
  (7, .aload_n 0, 0, [], [], 0),
  (8, .iload_n 2, 0, [], [], 0),
  (9, .putfield 181, 0, [9, 16, 978, 0], [], 0),
  (12, .iconst 0, 0, [], [(0, 0)], 0),
  (13, .istore 5, 0, [], [], 0),
  (15, .iload 5, 0, [], [], 0),
  (17, .iload_n 2, 0, [], [], 0),
  (18, .if_icmp .ge 90, 108, [], [], 0),
  (21, .ldc_w 351, 1459, [], [(1103515245, 0)], 0),
  (24, .iload 4, 0, [], [], 0),
  (26, .imul, 0, [], [], 0),
  (27, .sipush 12345, 0, [], [(12345, 0)], 0),
  (30, .iadd, 0, [], [], 0),
  (31, .istore 4, 0, [], [], 0),
  (33, .aload_n 0, 0, [], [], 0),
  (34, .getfield 43, 0, [9, 17, 979, 0], [], 0),
  (37, .iload 5, 0, [], [], 0),
  (39, .iload 4, 0, [], [], 0),
  (41, .bipush 16, 0, [], [(16, 0)], 0),
  (43, .iushr, 0, [], [], 0),
  (44, .bipush 24, 0, [], [(24, 0)], 0),
  (46, .irem, 0, [], [], 0),
  (47, .iastore, 0, [], [], 0),
  (48, .ldc_w 351, 1459, [], [(1103515245, 0)], 0),
  (51, .iload 4, 0, [], [], 0),
  (53, .imul, 0, [], [], 0),
  (54, .sipush 12345, 0, [], [(12345, 0)], 0),
  (57, .iadd, 0, [], [], 0),
  (58, .istore 4, 0, [], [], 0),
  (60, .aload_n 0, 0, [], [], 0),
  (61, .getfield 46, 0, [9, 18, 980, 0], [], 0),
  (64, .iload 5, 0, [], [], 0),
  (66, .iload 4, 0, [], [], 0),
  (68, .bipush 16, 0, [], [(16, 0)], 0),
  (70, .iushr, 0, [], [], 0),
  (71, .iconst 2, 0, [], [(2, 0)], 0),
  (72, .irem, 0, [], [], 0),
  (73, .iastore, 0, [], [], 0),
  (74, .ldc_w 351, 1459, [], [(1103515245, 0)], 0),
  (77, .iload 4, 0, [], [], 0),
  (79, .imul, 0, [], [], 0),
  (80, .sipush 12345, 0, [], [(12345, 0)], 0),
  (83, .iadd, 0, [], [], 0),
  (84, .istore 4, 0, [], [], 0),
  (86, .aload_n 0, 0, [], [], 0),
  (87, .getfield 49, 0, [9, 19, 981, 0], [], 0),
  (90, .iload 5, 0, [], [], 0),
  (92, .iload 4, 0, [], [], 0),
  (94, .bipush 16, 0, [], [(16, 0)], 0),
  (96, .iushr, 0, [], [], 0),
  (97, .iconst 4, 0, [], [(4, 0)], 0),
  (98, .irem, 0, [], [], 0),
  (99, .iconst 1, 0, [], [(1, 0)], 0),
  (100, .iadd, 0, [], [], 0),
  (101, .iastore, 0, [], [], 0),
  (102, .iinc 5 1, 0, [], [(1, 0)], 0),
  (105, .goto (-90), 15, [], [], 0),
  (108, .aload_n 0, 0, [], [], 0),
  (109, .invokevirtual 250, 0, [0], [], 0),
  (112, .iload_n 3, 0, [], [], 0),
  (113, .ifCond .ne 10, 123, [], [], 0),
  (116, .aload_n 0, 0, [], [], 0),
  (117, .invokevirtual 265, 0, [0], [], 0),
  (120, .goto 8, 128, [], [], 0),
  (123, .aload_n 0, 0, [], [], 0),
  (124, .iconst 4, 0, [], [(4, 0)], 0),
  (125, .invokevirtual 269, 0, [0], [], 0),
  (128, .ireturn, 0, [], [], 0)])
def mr_X9_evenings : MR := (9, 3, ⟨"SamovarModel", "evenings", "(III)I"⟩, prog_11_method_86_code, 4, (Option.some Jvm.ClassFile.FieldType.int), 8, 183, [(0, .iload_n 2, 0, [], [], 0),
  (1, .iconst 0, 0, [], [(0, 0)], 0),
  (2, .bipush 8, 0, [], [(8, 0)], 0),
  (4, .invokestatic 119, 0, [0], [], 0),
  (7, .ifCond .eq 20, 27, [], [], 0),
  (10, .iload_n 3, 0, [], [], 0),
  (11, .invokestatic 123, 0, [0], [], 0),
  (14, .ifCond .eq 13, 27, [], [], 0),
  (17, .aload_n 0, 0, [], [], 0),
  (18, .iload_n 1, 0, [], [], 0),
  (19, .iload_n 2, 0, [], [], 0),
  (20, .iload_n 3, 0, [], [], 0),
  (21, .invokevirtual 352, 0, [0], [], 0),
  (24, .goto 5, 29, [], [], 0),
  (27, .bipush (-2), 0, [], [((-2), 0)], 0),
  (29, .ireturn, 0, [], [], 0)])
def mr_X5_renew : MR := (5, 2, ⟨"Samovar$Sheet", "renew", "(II)V"⟩, prog_7_method_2_code, 3, (Option.none : Option Jvm.ClassFile.FieldType), 1, 23, [(0, .aload_n 0, 0, [], [], 0),
  (1, .iconst 0, 0, [], [(0, 0)], 0),
  (2, .putfield 15, 0, [5, 1, 367, 1], [], 0),
  (5, .aload_n 0, 0, [], [], 0),
  (6, .iload_n 1, 0, [], [], 0),
  (7, .putfield 19, 0, [5, 2, 369, 0], [], 0),
  (10, .aload_n 0, 0, [], [], 0),
  (11, .iload_n 2, 0, [], [], 0),
  (12, .putfield 23, 0, [5, 3, 371, 0], [], 0),
  (15, .aload_n 0, 0, [], [], 0),
  (16, .getfield 9, 0, [5, 0, 365, 0], [], 0),
  (19, .iconst 0, 0, [], [(0, 0)], 0),
  (20, .invokestatic 26, 0, [0], [], 0),
  (23, .return_, 0, [], [], 0)])
def mr_X8_sheet : MR := (8, 3, ⟨"Samovar", "sheet", "(III)I"⟩, prog_1_method_32_code, 5, (Option.some Jvm.ClassFile.FieldType.int), 2, 45, [(0, .aload_n 0, 0, [], [], 0),
  (1, .iload_n 1, 0, [], [], 0),
  (2, .invokevirtual 123, 0, [0], [], 0),
  (5, .astore 4, 0, [], [], 0),
  (7, .aload 4, 0, [], [], 0),
  (9, .ifnull 17, 26, [], [], 0),
  (12, .iload_n 2, 0, [], [], 0),
  (13, .iconst 2, 0, [], [(2, 0)], 0),
  (14, .invokestatic 83, 0, [0], [], 0),
  (17, .ifCond .eq 9, 26, [], [], 0),
  (20, .iload_n 3, 0, [], [], 0),
  (21, .bipush 60, 0, [], [(60, 0)], 0),
  (23, .if_icmp .le 6, 29, [], [], 0),
  (26, .bipush (-2), 0, [], [((-2), 0)], 0),
  (28, .ireturn, 0, [], [], 0),
  (29, .iload_n 3, 0, [], [], 0),
  (30, .ifCond .ge 9, 39, [], [], 0),
  (33, .aload_n 0, 0, [], [], 0),
  (34, .iconst 5, 0, [], [(5, 0)], 0),
  (35, .invokevirtual 131, 0, [0], [], 0),
  (38, .ireturn, 0, [], [], 0),
  (39, .aload 4, 0, [], [], 0),
  (41, .iload_n 2, 0, [], [], 0),
  (42, .iload_n 3, 0, [], [], 0),
  (43, .invokevirtual 265, 0, [0], [], 0),
  (46, .iload_n 3, 0, [], [], 0),
  (47, .ireturn, 0, [], [], 0)])
def mr_X9_sheet : MR := (9, 3, ⟨"SamovarModel", "sheet", "(III)I"⟩, prog_11_method_89_code, 5, (Option.some Jvm.ClassFile.FieldType.int), 2, 42, [(0, .iload_n 1, 0, [], [], 0),
  (1, .invokestatic 172, 0, [0], [], 0),
  (4, .ifCond .eq 18, 22, [], [], 0),
  (7, .iload_n 2, 0, [], [], 0),
  (8, .iconst 0, 0, [], [(0, 0)], 0),
  (9, .iconst 2, 0, [], [(2, 0)], 0),
  (10, .invokestatic 119, 0, [0], [], 0),
  (13, .ifCond .eq 9, 22, [], [], 0),
  (16, .iload_n 3, 0, [], [], 0),
  (17, .bipush 60, 0, [], [(60, 0)], 0),
  (19, .if_icmp .le 6, 25, [], [], 0),
  (22, .bipush (-2), 0, [], [((-2), 0)], 0),
  (24, .ireturn, 0, [], [], 0),
  (25, .iload_n 3, 0, [], [], 0),
  (26, .ifCond .ge 9, 35, [], [], 0),
  (29, .aload_n 0, 0, [], [], 0),
  (30, .iconst 5, 0, [], [(5, 0)], 0),
  (31, .invokevirtual 175, 0, [0], [], 0),
  (34, .ireturn, 0, [], [], 0),
  (35, .aload_n 0, 0, [], [], 0),
  (36, .getfield 94, 0, [9, 47, 1009, 0], [], 0),
  (39, .iload_n 1, 0, [], [], 0),
  (40, .iconst 1, 0, [], [(1, 0)], 0),
  (41, .bastore, 0, [], [], 0),
  (42, .aload_n 0, 0, [], [], 0),
  (43, .getfield 98, 0, [9, 48, 1010, 0], [], 0),
  (46, .iload_n 1, 0, [], [], 0),
  (47, .iload_n 2, 0, [], [], 0),
  (48, .iastore, 0, [], [], 0),
  (49, .aload_n 0, 0, [], [], 0),
  (50, .getfield 101, 0, [9, 49, 1011, 0], [], 0),
  (53, .iload_n 1, 0, [], [], 0),
  (54, .iload_n 3, 0, [], [], 0),
  (55, .iastore, 0, [], [], 0),
  (56, .iconst 0, 0, [], [(0, 0)], 0),
  (57, .istore 4, 0, [], [], 0),
  (59, .iload 4, 0, [], [], 0),
  (61, .bipush 60, 0, [], [(60, 0)], 0),
  (63, .if_icmp .ge 22, 85, [], [], 0),
  (66, .aload_n 0, 0, [], [], 0),
  (67, .getfield 104, 0, [9, 50, 1012, 0], [], 0),
  (70, .bipush 60, 0, [], [(60, 0)], 0),
  (72, .iload_n 1, 0, [], [], 0),
  (73, .imul, 0, [], [], 0),
  (74, .iload 4, 0, [], [], 0),
  (76, .iadd, 0, [], [], 0),
  (77, .iconst 0, 0, [], [(0, 0)], 0),
  (78, .iastore, 0, [], [], 0),
  (79, .iinc 4 1, 0, [], [(1, 0)], 0),
  (82, .goto (-23), 59, [], [], 0),
  (85, .iload_n 3, 0, [], [], 0),
  (86, .ireturn, 0, [], [], 0)])
def mr_X8_lose : MR := (8, 1, ⟨"Samovar", "lose", "(I)I"⟩, prog_1_method_33_code, 3, (Option.some Jvm.ClassFile.FieldType.int), 1, 21, [(0, .aload_n 0, 0, [], [], 0),
  (1, .iload_n 1, 0, [], [], 0),
  (2, .invokevirtual 123, 0, [0], [], 0),
  (5, .astore_n 2, 0, [], [], 0),
  (6, .aload_n 2, 0, [], [], 0),
  (7, .ifnonnull 6, 13, [], [], 0),
  (10, .bipush (-2), 0, [], [((-2), 0)], 0),
  (12, .ireturn, 0, [], [], 0),
  (13, .aload_n 2, 0, [], [], 0),
  (14, .getfield 127, 0, [5, 1, 368, 1], [], 0),
  (17, .ifCond .eq 9, 26, [], [], 0),
  (20, .aload_n 0, 0, [], [], 0),
  (21, .iconst 1, 0, [], [(1, 0)], 0),
  (22, .invokevirtual 131, 0, [0], [], 0),
  (25, .ireturn, 0, [], [], 0),
  (26, .aload_n 2, 0, [], [], 0),
  (27, .iconst 1, 0, [], [(1, 0)], 0),
  (28, .putfield 127, 0, [5, 1, 368, 1], [], 0),
  (31, .aload_n 2, 0, [], [], 0),
  (32, .getfield 135, 0, [5, 3, 372, 0], [], 0),
  (35, .ireturn, 0, [], [], 0)])
def mr_X9_lose : MR := (9, 1, ⟨"SamovarModel", "lose", "(I)I"⟩, prog_11_method_90_code, 2, (Option.some Jvm.ClassFile.FieldType.int), 2, 42, [(0, .iload_n 1, 0, [], [], 0),
  (1, .invokestatic 172, 0, [0], [], 0),
  (4, .ifCond .ne 6, 10, [], [], 0),
  (7, .bipush (-2), 0, [], [((-2), 0)], 0),
  (9, .ireturn, 0, [], [], 0),
  (10, .aload_n 0, 0, [], [], 0),
  (11, .getfield 94, 0, [9, 47, 1009, 0], [], 0),
  (14, .iload_n 1, 0, [], [], 0),
  (15, .baload, 0, [], [], 0),
  (16, .ifCond .ne 9, 25, [], [], 0),
  (19, .aload_n 0, 0, [], [], 0),
  (20, .iconst 1, 0, [], [(1, 0)], 0),
  (21, .invokevirtual 175, 0, [0], [], 0),
  (24, .ireturn, 0, [], [], 0),
  (25, .aload_n 0, 0, [], [], 0),
  (26, .getfield 94, 0, [9, 47, 1009, 0], [], 0),
  (29, .iload_n 1, 0, [], [], 0),
  (30, .iconst 0, 0, [], [(0, 0)], 0),
  (31, .bastore, 0, [], [], 0),
  (32, .aload_n 0, 0, [], [], 0),
  (33, .getfield 101, 0, [9, 49, 1011, 0], [], 0),
  (36, .iload_n 1, 0, [], [], 0),
  (37, .iaload, 0, [], [], 0),
  (38, .ireturn, 0, [], [], 0)])
def mr_X5_faultOf : MR := (5, 2, ⟨"Samovar$Sheet", "faultOf", "(II)I"⟩, prog_7_method_3_code, 3, (Option.some Jvm.ClassFile.FieldType.int), 1, 21, [(0, .aload_n 0, 0, [], [], 0),
  (1, .getfield 15, 0, [5, 1, 367, 1], [], 0),
  (4, .ifCond .eq 5, 9, [], [], 0),
  (7, .iconst 1, 0, [], [(1, 0)], 0),
  (8, .ireturn, 0, [], [], 0),
  (9, .iload_n 1, 0, [], [], 0),
  (10, .aload_n 0, 0, [], [], 0),
  (11, .getfield 19, 0, [5, 2, 369, 0], [], 0),
  (14, .if_icmp .eq 5, 19, [], [], 0),
  (17, .iconst 3, 0, [], [(3, 0)], 0),
  (18, .ireturn, 0, [], [], 0),
  (19, .aload_n 0, 0, [], [], 0),
  (20, .iload_n 2, 0, [], [], 0),
  (21, .invokevirtual 32, 0, [0], [], 0),
  (24, .ifCond .eq 7, 31, [], [], 0),
  (27, .iconst 0, 0, [], [(0, 0)], 0),
  (28, .goto 4, 32, [], [], 0),
  (31, .iconst 2, 0, [], [(2, 0)], 0),
  (32, .ireturn, 0, [], [], 0)])
def mr_X5_store : MR := (5, 2, ⟨"Samovar$Sheet", "store", "(II)V"⟩, prog_7_method_7_code, 3, (Option.none : Option Jvm.ClassFile.FieldType), 1, 21, [(0, .aload_n 0, 0, [], [], 0),
  (1, .iload_n 1, 0, [], [], 0),
  (2, .invokevirtual 32, 0, [0], [], 0),
  (5, .ifCond .ne 4, 9, [], [], 0),
  (8, .return_, 0, [], [], 0),
  (9, .aload_n 0, 0, [], [], 0),
  (10, .getfield 19, 0, [5, 2, 369, 0], [], 0),
  (13, .lookupswitch 49 #[(0, 27), (1, 38)], 62, [], [(0, 40), (1, 51)], 0),
  (40, .aload_n 0, 0, [], [], 0),
  (41, .getfield 9, 0, [5, 0, 365, 0], [], 0),
  (44, .iload_n 1, 0, [], [], 0),
  (45, .iload_n 2, 0, [], [], 0),
  (46, .i2b, 0, [], [], 0),
  (47, .iastore, 0, [], [], 0),
  (48, .goto 21, 69, [], [], 0),
  (51, .aload_n 0, 0, [], [], 0),
  (52, .getfield 9, 0, [5, 0, 365, 0], [], 0),
  (55, .iload_n 1, 0, [], [], 0),
  (56, .iload_n 2, 0, [], [], 0),
  (57, .i2s, 0, [], [], 0),
  (58, .iastore, 0, [], [], 0),
  (59, .goto 10, 69, [], [], 0),
  (62, .aload_n 0, 0, [], [], 0),
  (63, .getfield 9, 0, [5, 0, 365, 0], [], 0),
  (66, .iload_n 1, 0, [], [], 0),
  (67, .iload_n 2, 0, [], [], 0),
  (68, .iastore, 0, [], [], 0),
  (69, .return_, 0, [], [], 0)])
def mr_X8_put : MR := (8, 4, ⟨"Samovar", "put", "(IIII)I"⟩, prog_1_method_34_code, 7, (Option.some Jvm.ClassFile.FieldType.int), 2, 43, [(0, .aload_n 0, 0, [], [], 0),
  (1, .iload_n 1, 0, [], [], 0),
  (2, .invokevirtual 123, 0, [0], [], 0),
  (5, .astore 5, 0, [], [], 0),
  (7, .aload 5, 0, [], [], 0),
  (9, .ifnull 11, 20, [], [], 0),
  (12, .iload_n 2, 0, [], [], 0),
  (13, .iconst 2, 0, [], [(2, 0)], 0),
  (14, .invokestatic 83, 0, [0], [], 0),
  (17, .ifCond .ne 6, 23, [], [], 0),
  (20, .bipush (-2), 0, [], [((-2), 0)], 0),
  (22, .ireturn, 0, [], [], 0),
  (23, .aload 5, 0, [], [], 0),
  (25, .iload_n 2, 0, [], [], 0),
  (26, .iload_n 3, 0, [], [], 0),
  (27, .invokevirtual 269, 0, [0], [], 0),
  (30, .istore 6, 0, [], [], 0),
  (32, .iload 6, 0, [], [], 0),
  (34, .ifCond .eq 10, 44, [], [], 0),
  (37, .aload_n 0, 0, [], [], 0),
  (38, .iload 6, 0, [], [], 0),
  (40, .invokevirtual 131, 0, [0], [], 0),
  (43, .ireturn, 0, [], [], 0),
  (44, .aload 5, 0, [], [], 0),
  (46, .iload_n 3, 0, [], [], 0),
  (47, .iload 4, 0, [], [], 0),
  (49, .invokevirtual 272, 0, [0], [], 0),
  (52, .iconst 1, 0, [], [(1, 0)], 0),
  (53, .ireturn, 0, [], [], 0)])
def mr_X9_lacks : MR := (9, 3, ⟨"SamovarModel", "lacks", "(III)I"⟩, prog_11_method_91_code, 4, (Option.some Jvm.ClassFile.FieldType.int), 1, 22, [(0, .aload_n 0, 0, [], [], 0),
  (1, .getfield 94, 0, [9, 47, 1009, 0], [], 0),
  (4, .iload_n 1, 0, [], [], 0),
  (5, .baload, 0, [], [], 0),
  (6, .ifCond .ne 7, 13, [], [], 0),
  (9, .iconst 1, 0, [], [(1, 0)], 0),
  (10, .goto 38, 48, [], [], 0),
  (13, .aload_n 0, 0, [], [], 0),
  (14, .getfield 98, 0, [9, 48, 1010, 0], [], 0),
  (17, .iload_n 1, 0, [], [], 0),
  (18, .iaload, 0, [], [], 0),
  (19, .iload_n 2, 0, [], [], 0),
  (20, .if_icmp .eq 7, 27, [], [], 0),
  (23, .iconst 3, 0, [], [(3, 0)], 0),
  (24, .goto 24, 48, [], [], 0),
  (27, .iload_n 3, 0, [], [], 0),
  (28, .iconst 0, 0, [], [(0, 0)], 0),
  (29, .aload_n 0, 0, [], [], 0),
  (30, .getfield 101, 0, [9, 49, 1011, 0], [], 0),
  (33, .iload_n 1, 0, [], [], 0),
  (34, .iaload, 0, [], [], 0),
  (35, .iconst 1, 0, [], [(1, 0)], 0),
  (36, .isub, 0, [], [], 0),
  (37, .invokestatic 119, 0, [0], [], 0),
  (40, .ifCond .eq 7, 47, [], [], 0),
  (43, .iconst 0, 0, [], [(0, 0)], 0),
  (44, .goto 4, 48, [], [], 0),
  (47, .iconst 2, 0, [], [(2, 0)], 0),
  (48, .ireturn, 0, [], [], 0)])
def mr_X9_keep : MR := (9, 3, ⟨"SamovarModel", "keep", "(III)V"⟩, prog_11_method_92_code, 4, (Option.none : Option Jvm.ClassFile.FieldType), 0, 0, [(0, .aload_n 0, 0, [], [], 0),
  (1, .getfield 104, 0, [9, 50, 1012, 0], [], 0),
  (4, .bipush 60, 0, [], [(60, 0)], 0),
  (6, .iload_n 1, 0, [], [], 0),
  (7, .imul, 0, [], [], 0),
  (8, .iload_n 2, 0, [], [], 0),
  (9, .iadd, 0, [], [], 0),
  (10, .aload_n 0, 0, [], [], 0),
  (11, .getfield 98, 0, [9, 48, 1010, 0], [], 0),
  (14, .iload_n 1, 0, [], [], 0),
  (15, .iaload, 0, [], [], 0),
  (16, .ifCond .ne 8, 24, [], [], 0),
  (19, .iload_n 3, 0, [], [], 0),
  (20, .i2b, 0, [], [], 0),
  (21, .goto 19, 40, [], [], 0),
  (24, .aload_n 0, 0, [], [], 0),
  (25, .getfield 98, 0, [9, 48, 1010, 0], [], 0),
  (28, .iload_n 1, 0, [], [], 0),
  (29, .iaload, 0, [], [], 0),
  (30, .iconst 1, 0, [], [(1, 0)], 0),
  (31, .if_icmp .ne 8, 39, [], [], 0),
  (34, .iload_n 3, 0, [], [], 0),
  (35, .i2s, 0, [], [], 0),
  (36, .goto 4, 40, [], [], 0),
  (39, .iload_n 3, 0, [], [], 0),
  (40, .iastore, 0, [], [], 0),
  (41, .return_, 0, [], [], 0)])
def mr_X9_put : MR := (9, 4, ⟨"SamovarModel", "put", "(IIII)I"⟩, prog_11_method_93_code, 6, (Option.some Jvm.ClassFile.FieldType.int), 2, 45, [(0, .iload_n 1, 0, [], [], 0),
  (1, .invokestatic 172, 0, [0], [], 0),
  (4, .ifCond .eq 12, 16, [], [], 0),
  (7, .iload_n 2, 0, [], [], 0),
  (8, .iconst 0, 0, [], [(0, 0)], 0),
  (9, .iconst 2, 0, [], [(2, 0)], 0),
  (10, .invokestatic 119, 0, [0], [], 0),
  (13, .ifCond .ne 6, 19, [], [], 0),
  (16, .bipush (-2), 0, [], [((-2), 0)], 0),
  (18, .ireturn, 0, [], [], 0),
  (19, .aload_n 0, 0, [], [], 0),
  (20, .iload_n 1, 0, [], [], 0),
  (21, .iload_n 2, 0, [], [], 0),
  (22, .iload_n 3, 0, [], [], 0),
  (23, .invokevirtual 358, 0, [0], [], 0),
  (26, .istore 5, 0, [], [], 0),
  (28, .iload 5, 0, [], [], 0),
  (30, .ifCond .le 10, 40, [], [], 0),
  (33, .aload_n 0, 0, [], [], 0),
  (34, .iload 5, 0, [], [], 0),
  (36, .invokevirtual 175, 0, [0], [], 0),
  (39, .ireturn, 0, [], [], 0),
  (40, .aload_n 0, 0, [], [], 0),
  (41, .iload_n 1, 0, [], [], 0),
  (42, .iload_n 3, 0, [], [], 0),
  (43, .iload 4, 0, [], [], 0),
  (45, .invokevirtual 361, 0, [0], [], 0),
  (48, .iconst 1, 0, [], [(1, 0)], 0),
  (49, .ireturn, 0, [], [], 0)])
def mr_X8_get : MR := (8, 3, ⟨"Samovar", "get", "(III)I"⟩, prog_1_method_35_code, 6, (Option.some Jvm.ClassFile.FieldType.int), 2, 43, [(0, .aload_n 0, 0, [], [], 0),
  (1, .iload_n 1, 0, [], [], 0),
  (2, .invokevirtual 123, 0, [0], [], 0),
  (5, .astore 4, 0, [], [], 0),
  (7, .aload 4, 0, [], [], 0),
  (9, .ifnull 11, 20, [], [], 0),
  (12, .iload_n 2, 0, [], [], 0),
  (13, .iconst 2, 0, [], [(2, 0)], 0),
  (14, .invokestatic 83, 0, [0], [], 0),
  (17, .ifCond .ne 7, 24, [], [], 0),
  (20, .ldc_w 275, 892, [], [((-2147483648), 0)], 0),
  (23, .ireturn, 0, [], [], 0),
  (24, .aload 4, 0, [], [], 0),
  (26, .iload_n 2, 0, [], [], 0),
  (27, .iload_n 3, 0, [], [], 0),
  (28, .invokevirtual 269, 0, [0], [], 0),
  (31, .istore 5, 0, [], [], 0),
  (33, .iload 5, 0, [], [], 0),
  (35, .ifCond .eq 13, 48, [], [], 0),
  (38, .aload_n 0, 0, [], [], 0),
  (39, .iload 5, 0, [], [], 0),
  (41, .putfield 276, 0, [8, 12, 394, 0], [], 0),
  (44, .ldc_w 275, 892, [], [((-2147483648), 0)], 0),
  (47, .ireturn, 0, [], [], 0),
  (48, .aload 4, 0, [], [], 0),
  (50, .iload_n 3, 0, [], [], 0),
  (51, .invokevirtual 136, 0, [0], [], 0),
  (54, .ireturn, 0, [], [], 0)])
def mr_X9_get : MR := (9, 3, ⟨"SamovarModel", "get", "(III)I"⟩, prog_11_method_94_code, 5, (Option.some Jvm.ClassFile.FieldType.int), 2, 45, [(0, .iload_n 1, 0, [], [], 0),
  (1, .invokestatic 172, 0, [0], [], 0),
  (4, .ifCond .eq 12, 16, [], [], 0),
  (7, .iload_n 2, 0, [], [], 0),
  (8, .iconst 0, 0, [], [(0, 0)], 0),
  (9, .iconst 2, 0, [], [(2, 0)], 0),
  (10, .invokestatic 119, 0, [0], [], 0),
  (13, .ifCond .ne 7, 20, [], [], 0),
  (16, .ldc_w 365, 1484, [], [((-2147483648), 0)], 0),
  (19, .ireturn, 0, [], [], 0),
  (20, .aload_n 0, 0, [], [], 0),
  (21, .iload_n 1, 0, [], [], 0),
  (22, .iload_n 2, 0, [], [], 0),
  (23, .iload_n 3, 0, [], [], 0),
  (24, .invokevirtual 358, 0, [0], [], 0),
  (27, .istore 4, 0, [], [], 0),
  (29, .iload 4, 0, [], [], 0),
  (31, .ifCond .le 13, 44, [], [], 0),
  (34, .aload_n 0, 0, [], [], 0),
  (35, .iload 4, 0, [], [], 0),
  (37, .putfield 355, 0, [9, 52, 1014, 0], [], 0),
  (40, .ldc_w 365, 1484, [], [((-2147483648), 0)], 0),
  (43, .ireturn, 0, [], [], 0),
  (44, .aload_n 0, 0, [], [], 0),
  (45, .getfield 104, 0, [9, 50, 1012, 0], [], 0),
  (48, .bipush 60, 0, [], [(60, 0)], 0),
  (50, .iload_n 1, 0, [], [], 0),
  (51, .imul, 0, [], [], 0),
  (52, .iload_n 3, 0, [], [], 0),
  (53, .iadd, 0, [], [], 0),
  (54, .iaload, 0, [], [], 0),
  (55, .ireturn, 0, [], [], 0)])
def mr_X5_hasSome : MR := (5, 2, ⟨"Samovar$Sheet", "hasSome", "(II)Z"⟩, prog_7_method_5_code, 3, (Option.some Jvm.ClassFile.FieldType.boolean), 0, 0, [(0, .iload_n 1, 0, [], [], 0),
  (1, .ifCond .lt 21, 22, [], [], 0),
  (4, .iload_n 2, 0, [], [], 0),
  (5, .ifCond .lt 17, 22, [], [], 0),
  (8, .iload_n 2, 0, [], [], 0),
  (9, .aload_n 0, 0, [], [], 0),
  (10, .getfield 23, 0, [5, 3, 371, 0], [], 0),
  (13, .iload_n 1, 0, [], [], 0),
  (14, .isub, 0, [], [], 0),
  (15, .if_icmp .gt 7, 22, [], [], 0),
  (18, .iconst 1, 0, [], [(1, 0)], 0),
  (19, .goto 4, 23, [], [], 0),
  (22, .iconst 0, 0, [], [(0, 0)], 0),
  (23, .ireturn, 0, [], [], 0)])
def mr_X8_copy : MR := (8, 5, ⟨"Samovar", "copy", "(IIIII)I"⟩, prog_1_method_36_code, 8, (Option.some Jvm.ClassFile.FieldType.int), 1, 26, [(0, .aload_n 0, 0, [], [], 0),
  (1, .iload_n 1, 0, [], [], 0),
  (2, .invokevirtual 123, 0, [0], [], 0),
  (5, .astore 6, 0, [], [], 0),
  (7, .aload_n 0, 0, [], [], 0),
  (8, .iload_n 3, 0, [], [], 0),
  (9, .invokevirtual 123, 0, [0], [], 0),
  (12, .astore 7, 0, [], [], 0),
  (14, .aload 6, 0, [], [], 0),
  (16, .ifnull 8, 24, [], [], 0),
  (19, .aload 7, 0, [], [], 0),
  (21, .ifnonnull 6, 27, [], [], 0),
  (24, .bipush (-2), 0, [], [((-2), 0)], 0),
  (26, .ireturn, 0, [], [], 0),
  (27, .aload 6, 0, [], [], 0),
  (29, .getfield 127, 0, [5, 1, 368, 1], [], 0),
  (32, .ifCond .ne 11, 43, [], [], 0),
  (35, .aload 7, 0, [], [], 0),
  (37, .getfield 127, 0, [5, 1, 368, 1], [], 0),
  (40, .ifCond .eq 9, 49, [], [], 0),
  (43, .aload_n 0, 0, [], [], 0),
  (44, .iconst 1, 0, [], [(1, 0)], 0),
  (45, .invokevirtual 131, 0, [0], [], 0),
  (48, .ireturn, 0, [], [], 0),
  (49, .aload 6, 0, [], [], 0),
  (51, .getfield 279, 0, [5, 2, 370, 0], [], 0),
  (54, .aload 7, 0, [], [], 0),
  (56, .getfield 279, 0, [5, 2, 370, 0], [], 0),
  (59, .if_icmp .eq 9, 68, [], [], 0),
  (62, .aload_n 0, 0, [], [], 0),
  (63, .iconst 4, 0, [], [(4, 0)], 0),
  (64, .invokevirtual 131, 0, [0], [], 0),
  (67, .ireturn, 0, [], [], 0),
  (68, .aload 6, 0, [], [], 0),
  (70, .iload_n 2, 0, [], [], 0),
  (71, .iload 5, 0, [], [], 0),
  (73, .invokevirtual 282, 0, [0], [], 0),
  (76, .ifCond .eq 15, 91, [], [], 0),
  (79, .aload 7, 0, [], [], 0),
  (81, .iload 4, 0, [], [], 0),
  (83, .iload 5, 0, [], [], 0),
  (85, .invokevirtual 282, 0, [0], [], 0),
  (88, .ifCond .ne 9, 97, [], [], 0),
  (91, .aload_n 0, 0, [], [], 0),
  (92, .iconst 2, 0, [], [(2, 0)], 0),
  (93, .invokevirtual 131, 0, [0], [], 0),
  (96, .ireturn, 0, [], [], 0),
  (97, .aload 6, 0, [], [], 0),
  (99, .getfield 285, 0, [5, 0, 366, 0], [], 0),
  (102, .iload_n 2, 0, [], [], 0),
  (103, .aload 7, 0, [], [], 0),
  (105, .getfield 285, 0, [5, 0, 366, 0], [], 0),
  (108, .iload 4, 0, [], [], 0),
  (110, .iload 5, 0, [], [], 0),
  (112, .invokestatic 288, 0, [1, 901], [], 0),
  (115, .iconst 1, 0, [], [(1, 0)], 0),
  (116, .ireturn, 0, [], [], 0)])
def mr_X9_copy : MR := (9, 5, ⟨"SamovarModel", "copy", "(IIIII)I"⟩, prog_11_method_95_code, 7, (Option.some Jvm.ClassFile.FieldType.int), 2, 42, [(0, .iload_n 1, 0, [], [], 0),
  (1, .invokestatic 172, 0, [0], [], 0),
  (4, .ifCond .eq 10, 14, [], [], 0),
  (7, .iload_n 3, 0, [], [], 0),
  (8, .invokestatic 172, 0, [0], [], 0),
  (11, .ifCond .ne 6, 17, [], [], 0),
  (14, .bipush (-2), 0, [], [((-2), 0)], 0),
  (16, .ireturn, 0, [], [], 0),
  (17, .aload_n 0, 0, [], [], 0),
  (18, .getfield 94, 0, [9, 47, 1009, 0], [], 0),
  (21, .iload_n 1, 0, [], [], 0),
  (22, .baload, 0, [], [], 0),
  (23, .ifCond .eq 12, 35, [], [], 0),
  (26, .aload_n 0, 0, [], [], 0),
  (27, .getfield 94, 0, [9, 47, 1009, 0], [], 0),
  (30, .iload_n 3, 0, [], [], 0),
  (31, .baload, 0, [], [], 0),
  (32, .ifCond .ne 9, 41, [], [], 0),
  (35, .aload_n 0, 0, [], [], 0),
  (36, .iconst 1, 0, [], [(1, 0)], 0),
  (37, .invokevirtual 175, 0, [0], [], 0),
  (40, .ireturn, 0, [], [], 0),
  (41, .aload_n 0, 0, [], [], 0),
  (42, .getfield 98, 0, [9, 48, 1010, 0], [], 0),
  (45, .iload_n 1, 0, [], [], 0),
  (46, .iaload, 0, [], [], 0),
  (47, .aload_n 0, 0, [], [], 0),
  (48, .getfield 98, 0, [9, 48, 1010, 0], [], 0),
  (51, .iload_n 3, 0, [], [], 0),
  (52, .iaload, 0, [], [], 0),
  (53, .if_icmp .eq 9, 62, [], [], 0),
  (56, .aload_n 0, 0, [], [], 0),
  (57, .iconst 4, 0, [], [(4, 0)], 0),
  (58, .invokevirtual 175, 0, [0], [], 0),
  (61, .ireturn, 0, [], [], 0),
  (62, .iload_n 2, 0, [], [], 0),
  (63, .ifCond .lt 48, 111, [], [], 0),
  (66, .iload 4, 0, [], [], 0),
  (68, .ifCond .lt 43, 111, [], [], 0),
  (71, .iload 5, 0, [], [], 0),
  (73, .ifCond .lt 38, 111, [], [], 0),
  (76, .iload_n 2, 0, [], [], 0),
  (77, .i2l, 0, [], [], 0),
  (78, .iload 5, 0, [], [], 0),
  (80, .i2l, 0, [], [], 0),
  (81, .ladd, 0, [], [], 0),
  (82, .aload_n 0, 0, [], [], 0),
  (83, .getfield 101, 0, [9, 49, 1011, 0], [], 0),
  (86, .iload_n 1, 0, [], [], 0),
  (87, .iaload, 0, [], [], 0),
  (88, .i2l, 0, [], [], 0),
  (89, .lcmp, 0, [], [], 0),
  (90, .ifCond .gt 21, 111, [], [], 0),
  (93, .iload 4, 0, [], [], 0),
  (95, .i2l, 0, [], [], 0),
  (96, .iload 5, 0, [], [], 0),
  (98, .i2l, 0, [], [], 0),
  (99, .ladd, 0, [], [], 0),
  (100, .aload_n 0, 0, [], [], 0),
  (101, .getfield 101, 0, [9, 49, 1011, 0], [], 0),
  (104, .iload_n 3, 0, [], [], 0),
  (105, .iaload, 0, [], [], 0),
  (106, .i2l, 0, [], [], 0),
  (107, .lcmp, 0, [], [], 0),
  (108, .ifCond .le 9, 117, [], [], 0),
  (111, .aload_n 0, 0, [], [], 0),
  (112, .iconst 2, 0, [], [(2, 0)], 0),
  (113, .invokevirtual 175, 0, [0], [], 0),
  (116, .ireturn, 0, [], [], 0),
  (117, .iconst 0, 0, [], [(0, 0)], 0),
  (118, .istore 6, 0, [], [], 0),
  (120, .iload 6, 0, [], [], 0),
  (122, .iload 5, 0, [], [], 0),
  (124, .if_icmp .ge 30, 154, [], [], 0),
  (127, .aload_n 0, 0, [], [], 0),
  (128, .getfield 107, 0, [9, 51, 1013, 0], [], 0),
  (131, .iload 6, 0, [], [], 0),
  (133, .aload_n 0, 0, [], [], 0),
  (134, .getfield 104, 0, [9, 50, 1012, 0], [], 0),
  (137, .bipush 60, 0, [], [(60, 0)], 0),
  (139, .iload_n 1, 0, [], [], 0),
  (140, .imul, 0, [], [], 0),
  (141, .iload_n 2, 0, [], [], 0),
  (142, .iadd, 0, [], [], 0),
  (143, .iload 6, 0, [], [], 0),
  (145, .iadd, 0, [], [], 0),
  (146, .iaload, 0, [], [], 0),
  (147, .iastore, 0, [], [], 0),
  (148, .iinc 6 1, 0, [], [(1, 0)], 0),
  (151, .goto (-31), 120, [], [], 0),
  (154, .iconst 0, 0, [], [(0, 0)], 0),
  (155, .istore 6, 0, [], [], 0),
  (157, .iload 6, 0, [], [], 0),
  (159, .iload 5, 0, [], [], 0),
  (161, .if_icmp .ge 31, 192, [], [], 0),
  (164, .aload_n 0, 0, [], [], 0),
  (165, .getfield 104, 0, [9, 50, 1012, 0], [], 0),
  (168, .bipush 60, 0, [], [(60, 0)], 0),
  (170, .iload_n 3, 0, [], [], 0),
  (171, .imul, 0, [], [], 0),
  (172, .iload 4, 0, [], [], 0),
  (174, .iadd, 0, [], [], 0),
  (175, .iload 6, 0, [], [], 0),
  (177, .iadd, 0, [], [], 0),
  (178, .aload_n 0, 0, [], [], 0),
  (179, .getfield 107, 0, [9, 51, 1013, 0], [], 0),
  (182, .iload 6, 0, [], [], 0),
  (184, .iaload, 0, [], [], 0),
  (185, .iastore, 0, [], [], 0),
  (186, .iinc 6 1, 0, [], [(1, 0)], 0),
  (189, .goto (-32), 157, [], [], 0),
  (192, .iconst 1, 0, [], [(1, 0)], 0),
  (193, .ireturn, 0, [], [], 0)])
def mr_X8_write : MR := (8, 2, ⟨"Samovar", "write", "(II)I"⟩, prog_1_method_37_code, 6, (Option.some Jvm.ClassFile.FieldType.int), 5, 115, [(0, .aload_n 0, 0, [], [], 0),
  (1, .iload_n 2, 0, [], [], 0),
  (2, .invokevirtual 123, 0, [0], [], 0),
  (5, .astore_n 3, 0, [], [], 0),
  (6, .aload_n 3, 0, [], [], 0),
  (7, .ifnull 11, 18, [], [], 0),
  (10, .iload_n 1, 0, [], [], 0),
  (11, .iconst 2, 0, [], [(2, 0)], 0),
  (12, .invokestatic 83, 0, [0], [], 0),
  (15, .ifCond .ne 6, 21, [], [], 0),
  (18, .bipush (-2), 0, [], [((-2), 0)], 0),
  (20, .ireturn, 0, [], [], 0),
  (21, .aload_n 3, 0, [], [], 0),
  (22, .getfield 127, 0, [5, 1, 368, 1], [], 0),
  (25, .ifCond .eq 9, 34, [], [], 0),
  (28, .aload_n 0, 0, [], [], 0),
  (29, .iconst 1, 0, [], [(1, 0)], 0),
  (30, .invokevirtual 131, 0, [0], [], 0),
  (33, .ireturn, 0, [], [], 0),
  (34, .aload_n 3, 0, [], [], 0),
  (35, .getfield 135, 0, [5, 3, 372, 0], [], 0),
  (38, .bipush 24, 0, [], [(24, 0)], 0),
  (40, .invokestatic 243, 0, [3, 792], [], 0),
  (43, .istore 4, 0, [], [], 0),
  (45, .iconst 0, 0, [], [(0, 0)], 0),
  (46, .istore 5, 0, [], [], 0),
  (48, .iload 5, 0, [], [], 0),
  (50, .iload 4, 0, [], [], 0),
  (52, .if_icmp .ge 22, 74, [], [], 0),
  (55, .aload_n 3, 0, [], [], 0),
  (56, .iload 5, 0, [], [], 0),
  (58, .aload_n 0, 0, [], [], 0),
  (59, .iload 5, 0, [], [], 0),
  (61, .iload_n 1, 0, [], [], 0),
  (62, .invokevirtual 294, 0, [0], [], 0),
  (65, .invokevirtual 272, 0, [0], [], 0),
  (68, .iinc 5 1, 0, [], [(1, 0)], 0),
  (71, .goto (-23), 48, [], [], 0),
  (74, .iload 4, 0, [], [], 0),
  (76, .ireturn, 0, [], [], 0)])
def mr_X9_write : MR := (9, 2, ⟨"SamovarModel", "write", "(II)I"⟩, prog_11_method_96_code, 4, (Option.some Jvm.ClassFile.FieldType.int), 8, 178, [(0, .iload_n 1, 0, [], [], 0),
  (1, .invokestatic 157, 0, [0], [], 0),
  (4, .ifCond .eq 10, 14, [], [], 0),
  (7, .iload_n 2, 0, [], [], 0),
  (8, .invokestatic 172, 0, [0], [], 0),
  (11, .ifCond .ne 6, 17, [], [], 0),
  (14, .bipush (-2), 0, [], [((-2), 0)], 0),
  (16, .ireturn, 0, [], [], 0),
  (17, .aload_n 0, 0, [], [], 0),
  (18, .getfield 94, 0, [9, 47, 1009, 0], [], 0),
  (21, .iload_n 2, 0, [], [], 0),
  (22, .baload, 0, [], [], 0),
  (23, .ifCond .ne 9, 32, [], [], 0),
  (26, .aload_n 0, 0, [], [], 0),
  (27, .iconst 1, 0, [], [(1, 0)], 0),
  (28, .invokevirtual 175, 0, [0], [], 0),
  (31, .ireturn, 0, [], [], 0),
  (32, .aload_n 0, 0, [], [], 0),
  (33, .invokevirtual 253, 0, [0], [], 0),
  (36, .iconst 0, 0, [], [(0, 0)], 0),
  (37, .istore_n 3, 0, [], [], 0),
  (38, .iload_n 3, 0, [], [], 0),
  (39, .aload_n 0, 0, [], [], 0),
  (40, .getfield 101, 0, [9, 49, 1011, 0], [], 0),
  (43, .iload_n 2, 0, [], [], 0),
  (44, .iaload, 0, [], [], 0),
  (45, .if_icmp .ge 32, 77, [], [], 0),
  (48, .iload_n 3, 0, [], [], 0),
  (49, .bipush 24, 0, [], [(24, 0)], 0),
  (51, .if_icmp .ge 26, 77, [], [], 0),
  (54, .aload_n 0, 0, [], [], 0),
  (55, .iload_n 2, 0, [], [], 0),
  (56, .iload_n 3, 0, [], [], 0),
  (57, .aload_n 0, 0, [], [], 0),
  (58, .getfield 70, 0, [9, 36, 998, 0], [], 0),
  (61, .bipush 6, 0, [], [(6, 0)], 0),
  (63, .iload_n 3, 0, [], [], 0),
  (64, .imul, 0, [], [], 0),
  (65, .iload_n 1, 0, [], [], 0),
  (66, .iadd, 0, [], [], 0),
  (67, .iaload, 0, [], [], 0),
  (68, .invokevirtual 361, 0, [0], [], 0),
  (71, .iinc 3 1, 0, [], [(1, 0)], 0),
  (74, .goto (-36), 38, [], [], 0),
  (77, .iload_n 3, 0, [], [], 0),
  (78, .ireturn, 0, [], [], 0)])
def mr_X8_count : MR := (8, 1, ⟨"Samovar", "count", "(I)I"⟩, prog_1_method_38_code, 2, (Option.some Jvm.ClassFile.FieldType.int), 5, 114, [(0, .iload_n 1, 0, [], [], 0),
  (1, .tableswitch 132 0 8 #[51, 62, 73, 89, 97, 103, 111, 119, 127], 133, [], [(0, 52), (1, 63), (2, 74), (3, 90), (4, 98), (5, 104), (6, 112), (7, 120), (8, 128)], 0),
  (52, .aload_n 0, 0, [], [], 0),
  (53, .getfield 16, 0, [8, 0, 382, 0], [], 0),
  (56, .getfield 37, 0, [6, 0, 150, 0], [], 0),
  (59, .getfield 118, 0, [1, 3, 136, 0], [], 0),
  (62, .ireturn, 0, [], [], 0),
  (63, .aload_n 0, 0, [], [], 0),
  (64, .getfield 22, 0, [8, 1, 383, 0], [], 0),
  (67, .getfield 37, 0, [6, 0, 150, 0], [], 0),
  (70, .getfield 118, 0, [1, 3, 136, 0], [], 0),
  (73, .ireturn, 0, [], [], 0),
  (74, .aload_n 0, 0, [], [], 0),
  (75, .getfield 16, 0, [8, 0, 382, 0], [], 0),
  (78, .getfield 87, 0, [6, 4, 155, 0], [], 0),
  (81, .aload_n 0, 0, [], [], 0),
  (82, .getfield 22, 0, [8, 1, 383, 0], [], 0),
  (85, .getfield 87, 0, [6, 4, 155, 0], [], 0),
  (88, .iadd, 0, [], [], 0),
  (89, .ireturn, 0, [], [], 0),
  (90, .aload_n 0, 0, [], [], 0),
  (91, .getfield 28, 0, [8, 2, 384, 0], [], 0),
  (94, .getfield 118, 0, [1, 3, 136, 0], [], 0),
  (97, .ireturn, 0, [], [], 0),
  (98, .aload_n 0, 0, [], [], 0),
  (99, .iconst 0, 0, [], [(0, 0)], 0),
  (100, .invokevirtual 297, 0, [0], [], 0),
  (103, .ireturn, 0, [], [], 0),
  (104, .aload_n 0, 0, [], [], 0),
  (105, .getfield 43, 0, [8, 4, 386, 0], [], 0),
  (108, .getfield 108, 0, [4, 3, 190, 0], [], 0),
  (111, .ireturn, 0, [], [], 0),
  (112, .aload_n 0, 0, [], [], 0),
  (113, .getfield 43, 0, [8, 4, 386, 0], [], 0),
  (116, .getfield 111, 0, [4, 4, 194, 0], [], 0),
  (119, .ireturn, 0, [], [], 0),
  (120, .aload_n 0, 0, [], [], 0),
  (121, .getfield 32, 0, [8, 3, 385, 0], [], 0),
  (124, .getfield 118, 0, [1, 3, 136, 0], [], 0),
  (127, .ireturn, 0, [], [], 0),
  (128, .aload_n 0, 0, [], [], 0),
  (129, .getfield 276, 0, [8, 12, 394, 0], [], 0),
  (132, .ireturn, 0, [], [], 0),
  (133, .bipush (-2), 0, [], [((-2), 0)], 0),
  (135, .ireturn, 0, [], [], 0)])
def mr_X9_tellOf : MR := (9, 1, ⟨"SamovarModel", "tellOf", "(I)I"⟩, prog_11_method_97_code, 2, (Option.some Jvm.ClassFile.FieldType.int), 6, 137, [(0, .aload_n 0, 0, [], [], 0),
  (1, .invokevirtual 151, 0, [0], [], 0),
  (4, .iload_n 1, 0, [], [], 0),
  (5, .ifCond .ne 10, 15, [], [], 0),
  (8, .aload_n 0, 0, [], [], 0),
  (9, .getfield 134, 0, [9, 2, 964, 0], [], 0),
  (12, .goto 7, 19, [], [], 0),
  (15, .aload_n 0, 0, [], [], 0),
  (16, .getfield 137, 0, [9, 6, 968, 0], [], 0),
  (19, .ireturn, 0, [], [], 0)])
def mr_X9_count : MR := (9, 1, ⟨"SamovarModel", "count", "(I)I"⟩, prog_11_method_98_code, 2, (Option.some Jvm.ClassFile.FieldType.int), 9, 199, [(0, .iload_n 1, 0, [], [], 0),
  (1, .tableswitch 102 0 8 #[51, 51, 57, 71, 76, 82, 87, 92, 97], 103, [], [(0, 52), (1, 52), (2, 58), (3, 72), (4, 77), (5, 83), (6, 88), (7, 93), (8, 98)], 0),
  (52, .aload_n 0, 0, [], [], 0),
  (53, .iload_n 1, 0, [], [], 0),
  (54, .invokevirtual 366, 0, [0], [], 0),
  (57, .ireturn, 0, [], [], 0),
  (58, .aload_n 0, 0, [], [], 0),
  (59, .getfield 7, 0, [9, 0, 962, 0], [], 0),
  (62, .iconst 0, 0, [], [(0, 0)], 0),
  (63, .iaload, 0, [], [], 0),
  (64, .aload_n 0, 0, [], [], 0),
  (65, .getfield 7, 0, [9, 0, 962, 0], [], 0),
  (68, .iconst 1, 0, [], [(1, 0)], 0),
  (69, .iaload, 0, [], [], 0),
  (70, .iadd, 0, [], [], 0),
  (71, .ireturn, 0, [], [], 0),
  (72, .aload_n 0, 0, [], [], 0),
  (73, .getfield 169, 0, [9, 12, 974, 0], [], 0),
  (76, .ireturn, 0, [], [], 0),
  (77, .aload_n 0, 0, [], [], 0),
  (78, .iconst 0, 0, [], [(0, 0)], 0),
  (79, .invokevirtual 272, 0, [0], [], 0),
  (82, .ireturn, 0, [], [], 0),
  (83, .aload_n 0, 0, [], [], 0),
  (84, .getfield 110, 0, [9, 10, 972, 0], [], 0),
  (87, .ireturn, 0, [], [], 0),
  (88, .aload_n 0, 0, [], [], 0),
  (89, .getfield 114, 0, [9, 11, 973, 0], [], 0),
  (92, .ireturn, 0, [], [], 0),
  (93, .aload_n 0, 0, [], [], 0),
  (94, .getfield 317, 0, [9, 43, 1005, 0], [], 0),
  (97, .ireturn, 0, [], [], 0),
  (98, .aload_n 0, 0, [], [], 0),
  (99, .getfield 355, 0, [9, 52, 1014, 0], [], 0),
  (102, .ireturn, 0, [], [], 0),
  (103, .bipush (-2), 0, [], [((-2), 0)], 0),
  (105, .ireturn, 0, [], [], 0)])
def mr_X8_joined : MR := (8, 2, ⟨"Samovar", "joined", "(JJ)J"⟩, prog_1_method_54_code, 4, (Option.some Jvm.ClassFile.FieldType.long), 0, 0, [(0, .ldc2_w 364, 921, [], [], 31),
  (3, .lload_n 0, 0, [], [], 0),
  (4, .lmul, 0, [], [], 0),
  (5, .lload_n 2, 0, [], [], 0),
  (6, .ladd, 0, [], [], 0),
  (7, .lreturn, 0, [], [], 0)])
def mr_X8_withMinutes : MR := (8, 1, ⟨"Samovar", "withMinutes", "(J)J"⟩, prog_1_method_55_code, 7, (Option.some Jvm.ClassFile.FieldType.long), 5, 115, [(0, .lload_n 1, 0, [], [], 0),
  (1, .lstore_n 3, 0, [], [], 0),
  (2, .iconst 0, 0, [], [(0, 0)], 0),
  (3, .istore 5, 0, [], [], 0),
  (5, .iload 5, 0, [], [], 0),
  (7, .bipush 24, 0, [], [(24, 0)], 0),
  (9, .if_icmp .ge 50, 59, [], [], 0),
  (12, .iconst 0, 0, [], [(0, 0)], 0),
  (13, .istore 6, 0, [], [], 0),
  (15, .iload 6, 0, [], [], 0),
  (17, .iconst 5, 0, [], [(5, 0)], 0),
  (18, .if_icmp .gt 23, 41, [], [], 0),
  (21, .lload_n 3, 0, [], [], 0),
  (22, .aload_n 0, 0, [], [], 0),
  (23, .iload 5, 0, [], [], 0),
  (25, .iload 6, 0, [], [], 0),
  (27, .invokevirtual 294, 0, [0], [], 0),
  (30, .i2l, 0, [], [], 0),
  (31, .invokestatic 305, 0, [0], [], 0),
  (34, .lstore_n 3, 0, [], [], 0),
  (35, .iinc 6 1, 0, [], [(1, 0)], 0),
  (38, .goto (-23), 15, [], [], 0),
  (41, .lload_n 3, 0, [], [], 0),
  (42, .aload_n 0, 0, [], [], 0),
  (43, .iload 5, 0, [], [], 0),
  (45, .invokevirtual 366, 0, [0], [], 0),
  (48, .i2l, 0, [], [], 0),
  (49, .invokestatic 305, 0, [0], [], 0),
  (52, .lstore_n 3, 0, [], [], 0),
  (53, .iinc 5 1, 0, [], [(1, 0)], 0),
  (56, .goto (-51), 5, [], [], 0),
  (59, .lload_n 3, 0, [], [], 0),
  (60, .lreturn, 0, [], [], 0)])
def mr_X8_withPiece : MR := (8, 2, ⟨"Samovar", "withPiece", "(JI)J"⟩, prog_1_method_56_code, 7, (Option.some Jvm.ClassFile.FieldType.long), 6, 142, [(0, .lload_n 1, 0, [], [], 0),
  (1, .lstore 4, 0, [], [], 0),
  (3, .iconst 0, 0, [], [(0, 0)], 0),
  (4, .istore 6, 0, [], [], 0),
  (6, .iload 6, 0, [], [], 0),
  (8, .iconst 2, 0, [], [(2, 0)], 0),
  (9, .if_icmp .gt 24, 33, [], [], 0),
  (12, .lload 4, 0, [], [], 0),
  (14, .aload_n 0, 0, [], [], 0),
  (15, .iload_n 3, 0, [], [], 0),
  (16, .iload 6, 0, [], [], 0),
  (18, .invokevirtual 369, 0, [0], [], 0),
  (21, .i2l, 0, [], [], 0),
  (22, .invokestatic 305, 0, [0], [], 0),
  (25, .lstore 4, 0, [], [], 0),
  (27, .iinc 6 1, 0, [], [(1, 0)], 0),
  (30, .goto (-24), 6, [], [], 0),
  (33, .lload 4, 0, [], [], 0),
  (35, .aload_n 0, 0, [], [], 0),
  (36, .iload_n 3, 0, [], [], 0),
  (37, .iconst 0, 0, [], [(0, 0)], 0),
  (38, .invokevirtual 372, 0, [0], [], 0),
  (41, .i2l, 0, [], [], 0),
  (42, .invokestatic 305, 0, [0], [], 0),
  (45, .lstore 4, 0, [], [], 0),
  (47, .lload 4, 0, [], [], 0),
  (49, .aload_n 0, 0, [], [], 0),
  (50, .iload_n 3, 0, [], [], 0),
  (51, .iconst 1, 0, [], [(1, 0)], 0),
  (52, .invokevirtual 372, 0, [0], [], 0),
  (55, .i2l, 0, [], [], 0),
  (56, .invokestatic 305, 0, [0], [], 0),
  (59, .lstore 4, 0, [], [], 0),
  (61, .lload 4, 0, [], [], 0),
  (63, .aload_n 0, 0, [], [], 0),
  (64, .iload_n 3, 0, [], [], 0),
  (65, .invokevirtual 375, 0, [0], [], 0),
  (68, .i2l, 0, [], [], 0),
  (69, .invokestatic 305, 0, [0], [], 0),
  (72, .lreturn, 0, [], [], 0)])
def mr_X8_withStay : MR := (8, 3, ⟨"Samovar", "withStay", "(JII)J"⟩, prog_1_method_58_code, 5, (Option.some Jvm.ClassFile.FieldType.long), 5, 116, [(0, .lload_n 1, 0, [], [], 0),
  (1, .aload_n 0, 0, [], [], 0),
  (2, .iload_n 3, 0, [], [], 0),
  (3, .iload 4, 0, [], [], 0),
  (5, .iconst 0, 0, [], [(0, 0)], 0),
  (6, .invokevirtual 394, 0, [0], [], 0),
  (9, .i2l, 0, [], [], 0),
  (10, .invokestatic 305, 0, [0], [], 0),
  (13, .aload_n 0, 0, [], [], 0),
  (14, .iload_n 3, 0, [], [], 0),
  (15, .iload 4, 0, [], [], 0),
  (17, .iconst 1, 0, [], [(1, 0)], 0),
  (18, .invokevirtual 394, 0, [0], [], 0),
  (21, .i2l, 0, [], [], 0),
  (22, .invokestatic 305, 0, [0], [], 0),
  (25, .lreturn, 0, [], [], 0)])
def mr_X8_withGuest : MR := (8, 2, ⟨"Samovar", "withGuest", "(JI)J"⟩, prog_1_method_57_code, 7, (Option.some Jvm.ClassFile.FieldType.long), 6, 142, [(0, .lload_n 1, 0, [], [], 0),
  (1, .lstore 4, 0, [], [], 0),
  (3, .iconst 0, 0, [], [(0, 0)], 0),
  (4, .istore 6, 0, [], [], 0),
  (6, .iload 6, 0, [], [], 0),
  (8, .iconst 2, 0, [], [(2, 0)], 0),
  (9, .if_icmp .gt 24, 33, [], [], 0),
  (12, .lload 4, 0, [], [], 0),
  (14, .aload_n 0, 0, [], [], 0),
  (15, .iload_n 3, 0, [], [], 0),
  (16, .iload 6, 0, [], [], 0),
  (18, .invokevirtual 377, 0, [0], [], 0),
  (21, .i2l, 0, [], [], 0),
  (22, .invokestatic 305, 0, [0], [], 0),
  (25, .lstore 4, 0, [], [], 0),
  (27, .iinc 6 1, 0, [], [(1, 0)], 0),
  (30, .goto (-24), 6, [], [], 0),
  (33, .aload_n 0, 0, [], [], 0),
  (34, .lload 4, 0, [], [], 0),
  (36, .iconst 4, 0, [], [(4, 0)], 0),
  (37, .iload_n 3, 0, [], [], 0),
  (38, .invokevirtual 380, 0, [0], [], 0),
  (41, .lstore 4, 0, [], [], 0),
  (43, .aload_n 0, 0, [], [], 0),
  (44, .lload 4, 0, [], [], 0),
  (46, .bipush 11, 0, [], [(11, 0)], 0),
  (48, .iload_n 3, 0, [], [], 0),
  (49, .invokevirtual 380, 0, [0], [], 0),
  (52, .lstore 4, 0, [], [], 0),
  (54, .aload_n 0, 0, [], [], 0),
  (55, .lload 4, 0, [], [], 0),
  (57, .bipush 23, 0, [], [(23, 0)], 0),
  (59, .iload_n 3, 0, [], [], 0),
  (60, .invokevirtual 380, 0, [0], [], 0),
  (63, .lstore 4, 0, [], [], 0),
  (65, .lload 4, 0, [], [], 0),
  (67, .aload_n 0, 0, [], [], 0),
  (68, .iload_n 3, 0, [], [], 0),
  (69, .invokevirtual 384, 0, [0], [], 0),
  (72, .i2l, 0, [], [], 0),
  (73, .invokestatic 305, 0, [0], [], 0),
  (76, .lstore 4, 0, [], [], 0),
  (78, .lload 4, 0, [], [], 0),
  (80, .aload_n 0, 0, [], [], 0),
  (81, .iload_n 3, 0, [], [], 0),
  (82, .iconst 0, 0, [], [(0, 0)], 0),
  (83, .invokevirtual 387, 0, [0], [], 0),
  (86, .i2l, 0, [], [], 0),
  (87, .invokestatic 305, 0, [0], [], 0),
  (90, .lstore 4, 0, [], [], 0),
  (92, .lload 4, 0, [], [], 0),
  (94, .aload_n 0, 0, [], [], 0),
  (95, .iload_n 3, 0, [], [], 0),
  (96, .iconst 1, 0, [], [(1, 0)], 0),
  (97, .invokevirtual 387, 0, [0], [], 0),
  (100, .i2l, 0, [], [], 0),
  (101, .invokestatic 305, 0, [0], [], 0),
  (104, .lstore 4, 0, [], [], 0),
  (106, .lload 4, 0, [], [], 0),
  (108, .aload_n 0, 0, [], [], 0),
  (109, .iconst 5, 0, [], [(5, 0)], 0),
  (110, .iload_n 3, 0, [], [], 0),
  (111, .iconst 0, 0, [], [(0, 0)], 0),
  (112, .invokevirtual 390, 0, [0], [], 0),
  (115, .invokestatic 305, 0, [0], [], 0),
  (118, .lstore 4, 0, [], [], 0),
  (120, .lload 4, 0, [], [], 0),
  (122, .aload_n 0, 0, [], [], 0),
  (123, .iconst 5, 0, [], [(5, 0)], 0),
  (124, .iload_n 3, 0, [], [], 0),
  (125, .iconst 1, 0, [], [(1, 0)], 0),
  (126, .invokevirtual 390, 0, [0], [], 0),
  (129, .invokestatic 305, 0, [0], [], 0),
  (132, .lreturn, 0, [], [], 0)])
def mr_X8_digest : MR := (8, 0, ⟨"Samovar", "digest", "()J"⟩, prog_1_method_39_code, 4, (Option.some Jvm.ClassFile.FieldType.long), 7, 168, [(0, .ldc2_w 300, 916, [], [], 17),
  (3, .lstore_n 1, 0, [], [], 0),
  (4, .iconst 0, 0, [], [(0, 0)], 0),
  (5, .istore_n 3, 0, [], [], 0),
  (6, .iload_n 3, 0, [], [], 0),
  (7, .bipush 7, 0, [], [(7, 0)], 0),
  (9, .if_icmp .gt 20, 29, [], [], 0),
  (12, .lload_n 1, 0, [], [], 0),
  (13, .aload_n 0, 0, [], [], 0),
  (14, .iload_n 3, 0, [], [], 0),
  (15, .invokevirtual 302, 0, [0], [], 0),
  (18, .i2l, 0, [], [], 0),
  (19, .invokestatic 305, 0, [0], [], 0),
  (22, .lstore_n 1, 0, [], [], 0),
  (23, .iinc 3 1, 0, [], [(1, 0)], 0),
  (26, .goto (-20), 6, [], [], 0),
  (29, .lload_n 1, 0, [], [], 0),
  (30, .aload_n 0, 0, [], [], 0),
  (31, .iconst 0, 0, [], [(0, 0)], 0),
  (32, .invokevirtual 309, 0, [0], [], 0),
  (35, .i2l, 0, [], [], 0),
  (36, .invokestatic 305, 0, [0], [], 0),
  (39, .lstore_n 1, 0, [], [], 0),
  (40, .lload_n 1, 0, [], [], 0),
  (41, .aload_n 0, 0, [], [], 0),
  (42, .iconst 1, 0, [], [(1, 0)], 0),
  (43, .invokevirtual 309, 0, [0], [], 0),
  (46, .i2l, 0, [], [], 0),
  (47, .invokestatic 305, 0, [0], [], 0),
  (50, .lstore_n 1, 0, [], [], 0),
  (51, .aload_n 0, 0, [], [], 0),
  (52, .lload_n 1, 0, [], [], 0),
  (53, .invokevirtual 311, 0, [0], [], 0),
  (56, .lstore_n 1, 0, [], [], 0),
  (57, .iconst 0, 0, [], [(0, 0)], 0),
  (58, .istore_n 3, 0, [], [], 0),
  (59, .iload_n 3, 0, [], [], 0),
  (60, .bipush 8, 0, [], [(8, 0)], 0),
  (62, .if_icmp .ge 30, 92, [], [], 0),
  (65, .iload_n 3, 0, [], [], 0),
  (66, .aload_n 0, 0, [], [], 0),
  (67, .getfield 16, 0, [8, 0, 382, 0], [], 0),
  (70, .getfield 37, 0, [6, 0, 150, 0], [], 0),
  (73, .getfield 118, 0, [1, 3, 136, 0], [], 0),
  (76, .if_icmp .ge 16, 92, [], [], 0),
  (79, .aload_n 0, 0, [], [], 0),
  (80, .lload_n 1, 0, [], [], 0),
  (81, .iload_n 3, 0, [], [], 0),
  (82, .invokevirtual 315, 0, [0], [], 0),
  (85, .lstore_n 1, 0, [], [], 0),
  (86, .iinc 3 1, 0, [], [(1, 0)], 0),
  (89, .goto (-30), 59, [], [], 0),
  (92, .iconst 0, 0, [], [(0, 0)], 0),
  (93, .istore_n 3, 0, [], [], 0),
  (94, .iload_n 3, 0, [], [], 0),
  (95, .bipush 8, 0, [], [(8, 0)], 0),
  (97, .if_icmp .ge 30, 127, [], [], 0),
  (100, .iload_n 3, 0, [], [], 0),
  (101, .aload_n 0, 0, [], [], 0),
  (102, .getfield 22, 0, [8, 1, 383, 0], [], 0),
  (105, .getfield 37, 0, [6, 0, 150, 0], [], 0),
  (108, .getfield 118, 0, [1, 3, 136, 0], [], 0),
  (111, .if_icmp .ge 16, 127, [], [], 0),
  (114, .aload_n 0, 0, [], [], 0),
  (115, .lload_n 1, 0, [], [], 0),
  (116, .iload_n 3, 0, [], [], 0),
  (117, .invokevirtual 319, 0, [0], [], 0),
  (120, .lstore_n 1, 0, [], [], 0),
  (121, .iinc 3 1, 0, [], [(1, 0)], 0),
  (124, .goto (-30), 94, [], [], 0),
  (127, .iconst 0, 0, [], [(0, 0)], 0),
  (128, .istore_n 3, 0, [], [], 0),
  (129, .iload_n 3, 0, [], [], 0),
  (130, .iconst 4, 0, [], [(4, 0)], 0),
  (131, .if_icmp .gt 20, 151, [], [], 0),
  (134, .lload_n 1, 0, [], [], 0),
  (135, .aload_n 0, 0, [], [], 0),
  (136, .iload_n 3, 0, [], [], 0),
  (137, .invokevirtual 297, 0, [0], [], 0),
  (140, .i2l, 0, [], [], 0),
  (141, .invokestatic 305, 0, [0], [], 0),
  (144, .lstore_n 1, 0, [], [], 0),
  (145, .iinc 3 1, 0, [], [(1, 0)], 0),
  (148, .goto (-19), 129, [], [], 0),
  (151, .lload_n 1, 0, [], [], 0),
  (152, .aload_n 0, 0, [], [], 0),
  (153, .invokevirtual 322, 0, [0], [], 0),
  (156, .i2l, 0, [], [], 0),
  (157, .invokestatic 305, 0, [0], [], 0),
  (160, .lstore_n 1, 0, [], [], 0),
  (161, .lload_n 1, 0, [], [], 0),
  (162, .aload_n 0, 0, [], [], 0),
  (163, .iconst 0, 0, [], [(0, 0)], 0),
  (164, .invokevirtual 325, 0, [0], [], 0),
  (167, .i2l, 0, [], [], 0),
  (168, .invokestatic 305, 0, [0], [], 0),
  (171, .lstore_n 1, 0, [], [], 0),
  (172, .lload_n 1, 0, [], [], 0),
  (173, .aload_n 0, 0, [], [], 0),
  (174, .iconst 1, 0, [], [(1, 0)], 0),
  (175, .invokevirtual 325, 0, [0], [], 0),
  (178, .i2l, 0, [], [], 0),
  (179, .invokestatic 305, 0, [0], [], 0),
  (182, .lstore_n 1, 0, [], [], 0),
  (183, .lload_n 1, 0, [], [], 0),
  (184, .aload_n 0, 0, [], [], 0),
  (185, .invokevirtual 328, 0, [0], [], 0),
  (188, .i2l, 0, [], [], 0),
  (189, .invokestatic 305, 0, [0], [], 0),
  (192, .lstore_n 1, 0, [], [], 0),
  (193, .lload_n 1, 0, [], [], 0),
  (194, .aload_n 0, 0, [], [], 0),
  (195, .iconst 0, 0, [], [(0, 0)], 0),
  (196, .invokevirtual 331, 0, [0], [], 0),
  (199, .i2l, 0, [], [], 0),
  (200, .invokestatic 305, 0, [0], [], 0),
  (203, .lstore_n 1, 0, [], [], 0),
  (204, .lload_n 1, 0, [], [], 0),
  (205, .aload_n 0, 0, [], [], 0),
  (206, .iconst 1, 0, [], [(1, 0)], 0),
  (207, .invokevirtual 331, 0, [0], [], 0),
  (210, .i2l, 0, [], [], 0),
  (211, .invokestatic 305, 0, [0], [], 0),
  (214, .lstore_n 1, 0, [], [], 0),
  (215, .lload_n 1, 0, [], [], 0),
  (216, .aload_n 0, 0, [], [], 0),
  (217, .iconst (-1), 0, [], [((-1), 0)], 0),
  (218, .invokevirtual 334, 0, [0], [], 0),
  (221, .i2l, 0, [], [], 0),
  (222, .invokestatic 305, 0, [0], [], 0),
  (225, .lstore_n 1, 0, [], [], 0),
  (226, .lload_n 1, 0, [], [], 0),
  (227, .aload_n 0, 0, [], [], 0),
  (228, .iconst 0, 0, [], [(0, 0)], 0),
  (229, .invokevirtual 334, 0, [0], [], 0),
  (232, .i2l, 0, [], [], 0),
  (233, .invokestatic 305, 0, [0], [], 0),
  (236, .lstore_n 1, 0, [], [], 0),
  (237, .lload_n 1, 0, [], [], 0),
  (238, .aload_n 0, 0, [], [], 0),
  (239, .invokevirtual 337, 0, [0], [], 0),
  (242, .i2l, 0, [], [], 0),
  (243, .invokestatic 305, 0, [0], [], 0),
  (246, .lstore_n 1, 0, [], [], 0),
  (247, .lload_n 1, 0, [], [], 0),
  (248, .aload_n 0, 0, [], [], 0),
  (249, .invokevirtual 230, 0, [0], [], 0),
  (252, .i2l, 0, [], [], 0),
  (253, .invokestatic 305, 0, [0], [], 0),
  (256, .lstore_n 1, 0, [], [], 0),
  (257, .lload_n 1, 0, [], [], 0),
  (258, .aload_n 0, 0, [], [], 0),
  (259, .invokevirtual 340, 0, [0], [], 0),
  (262, .i2l, 0, [], [], 0),
  (263, .invokestatic 305, 0, [0], [], 0),
  (266, .lstore_n 1, 0, [], [], 0),
  (267, .lload_n 1, 0, [], [], 0),
  (268, .aload_n 0, 0, [], [], 0),
  (269, .bipush 7, 0, [], [(7, 0)], 0),
  (271, .bipush 6, 0, [], [(6, 0)], 0),
  (273, .iconst 0, 0, [], [(0, 0)], 0),
  (274, .invokevirtual 343, 0, [0], [], 0),
  (277, .i2l, 0, [], [], 0),
  (278, .invokestatic 305, 0, [0], [], 0),
  (281, .lstore_n 1, 0, [], [], 0),
  (282, .lload_n 1, 0, [], [], 0),
  (283, .aload_n 0, 0, [], [], 0),
  (284, .bipush 7, 0, [], [(7, 0)], 0),
  (286, .bipush 6, 0, [], [(6, 0)], 0),
  (288, .iconst 1, 0, [], [(1, 0)], 0),
  (289, .invokevirtual 343, 0, [0], [], 0),
  (292, .i2l, 0, [], [], 0),
  (293, .invokestatic 305, 0, [0], [], 0),
  (296, .lreturn, 0, [], [], 0)])
def mr_X9_pieceDigest : MR := (9, 2, ⟨"SamovarModel", "pieceDigest", "(JI)J"⟩, prog_11_method_99_code, 7, (Option.some Jvm.ClassFile.FieldType.long), 9, 202, [(0, .lload_n 1, 0, [], [], 0),
  (1, .lstore 4, 0, [], [], 0),
  (3, .iconst 0, 0, [], [(0, 0)], 0),
  (4, .istore 6, 0, [], [], 0),
  (6, .iload 6, 0, [], [], 0),
  (8, .iconst 3, 0, [], [(3, 0)], 0),
  (9, .if_icmp .ge 26, 35, [], [], 0),
  (12, .ldc2_w 369, 1506, [], [], 31),
  (15, .lload 4, 0, [], [], 0),
  (17, .lmul, 0, [], [], 0),
  (18, .aload_n 0, 0, [], [], 0),
  (19, .iload_n 3, 0, [], [], 0),
  (20, .iload 6, 0, [], [], 0),
  (22, .invokevirtual 160, 0, [0], [], 0),
  (25, .i2l, 0, [], [], 0),
  (26, .ladd, 0, [], [], 0),
  (27, .lstore 4, 0, [], [], 0),
  (29, .iinc 6 1, 0, [], [(1, 0)], 0),
  (32, .goto (-26), 6, [], [], 0),
  (35, .ldc2_w 369, 1506, [], [], 31),
  (38, .lload 4, 0, [], [], 0),
  (40, .lmul, 0, [], [], 0),
  (41, .aload_n 0, 0, [], [], 0),
  (42, .iload_n 3, 0, [], [], 0),
  (43, .iconst 0, 0, [], [(0, 0)], 0),
  (44, .invokevirtual 299, 0, [0], [], 0),
  (47, .i2l, 0, [], [], 0),
  (48, .ladd, 0, [], [], 0),
  (49, .lstore 4, 0, [], [], 0),
  (51, .ldc2_w 369, 1506, [], [], 31),
  (54, .lload 4, 0, [], [], 0),
  (56, .lmul, 0, [], [], 0),
  (57, .aload_n 0, 0, [], [], 0),
  (58, .iload_n 3, 0, [], [], 0),
  (59, .iconst 1, 0, [], [(1, 0)], 0),
  (60, .invokevirtual 299, 0, [0], [], 0),
  (63, .i2l, 0, [], [], 0),
  (64, .ladd, 0, [], [], 0),
  (65, .lstore 4, 0, [], [], 0),
  (67, .ldc2_w 369, 1506, [], [], 31),
  (70, .lload 4, 0, [], [], 0),
  (72, .lmul, 0, [], [], 0),
  (73, .aload_n 0, 0, [], [], 0),
  (74, .iload_n 3, 0, [], [], 0),
  (75, .invokevirtual 330, 0, [0], [], 0),
  (78, .i2l, 0, [], [], 0),
  (79, .ladd, 0, [], [], 0),
  (80, .lreturn, 0, [], [], 0)])
def mr_X9_isDigest : MR := (9, 3, ⟨"SamovarModel", "isDigest", "(JII)J"⟩, prog_11_method_100_code, 7, (Option.some Jvm.ClassFile.FieldType.long), 9, 201, [(0, .ldc2_w 369, 1506, [], [], 31),
  (3, .lload_n 1, 0, [], [], 0),
  (4, .lmul, 0, [], [], 0),
  (5, .aload_n 0, 0, [], [], 0),
  (6, .iload_n 3, 0, [], [], 0),
  (7, .iload 4, 0, [], [], 0),
  (9, .iconst 0, 0, [], [(0, 0)], 0),
  (10, .invokevirtual 259, 0, [0], [], 0),
  (13, .i2l, 0, [], [], 0),
  (14, .ladd, 0, [], [], 0),
  (15, .lstore 5, 0, [], [], 0),
  (17, .ldc2_w 369, 1506, [], [], 31),
  (20, .lload 5, 0, [], [], 0),
  (22, .lmul, 0, [], [], 0),
  (23, .aload_n 0, 0, [], [], 0),
  (24, .iload_n 3, 0, [], [], 0),
  (25, .iload 4, 0, [], [], 0),
  (27, .iconst 1, 0, [], [(1, 0)], 0),
  (28, .invokevirtual 259, 0, [0], [], 0),
  (31, .i2l, 0, [], [], 0),
  (32, .ladd, 0, [], [], 0),
  (33, .lreturn, 0, [], [], 0)])
def mr_X9_guestDigest : MR := (9, 2, ⟨"SamovarModel", "guestDigest", "(JI)J"⟩, prog_11_method_101_code, 7, (Option.some Jvm.ClassFile.FieldType.long), 10, 227, [(0, .lload_n 1, 0, [], [], 0),
  (1, .lstore 4, 0, [], [], 0),
  (3, .iconst 0, 0, [], [(0, 0)], 0),
  (4, .istore 6, 0, [], [], 0),
  (6, .iload 6, 0, [], [], 0),
  (8, .iconst 3, 0, [], [(3, 0)], 0),
  (9, .if_icmp .ge 26, 35, [], [], 0),
  (12, .ldc2_w 369, 1506, [], [], 31),
  (15, .lload 4, 0, [], [], 0),
  (17, .lmul, 0, [], [], 0),
  (18, .aload_n 0, 0, [], [], 0),
  (19, .iload_n 3, 0, [], [], 0),
  (20, .iload 6, 0, [], [], 0),
  (22, .invokevirtual 166, 0, [0], [], 0),
  (25, .i2l, 0, [], [], 0),
  (26, .ladd, 0, [], [], 0),
  (27, .lstore 4, 0, [], [], 0),
  (29, .iinc 6 1, 0, [], [(1, 0)], 0),
  (32, .goto (-26), 6, [], [], 0),
  (35, .aload_n 0, 0, [], [], 0),
  (36, .lload 4, 0, [], [], 0),
  (38, .iconst 4, 0, [], [(4, 0)], 0),
  (39, .iload_n 3, 0, [], [], 0),
  (40, .invokevirtual 371, 0, [0], [], 0),
  (43, .lstore 4, 0, [], [], 0),
  (45, .aload_n 0, 0, [], [], 0),
  (46, .lload 4, 0, [], [], 0),
  (48, .bipush 11, 0, [], [(11, 0)], 0),
  (50, .iload_n 3, 0, [], [], 0),
  (51, .invokevirtual 371, 0, [0], [], 0),
  (54, .lstore 4, 0, [], [], 0),
  (56, .aload_n 0, 0, [], [], 0),
  (57, .lload 4, 0, [], [], 0),
  (59, .bipush 23, 0, [], [(23, 0)], 0),
  (61, .iload_n 3, 0, [], [], 0),
  (62, .invokevirtual 371, 0, [0], [], 0),
  (65, .lstore 4, 0, [], [], 0),
  (67, .ldc2_w 369, 1506, [], [], 31),
  (70, .lload 4, 0, [], [], 0),
  (72, .lmul, 0, [], [], 0),
  (73, .aload_n 0, 0, [], [], 0),
  (74, .iload_n 3, 0, [], [], 0),
  (75, .invokevirtual 281, 0, [0], [], 0),
  (78, .i2l, 0, [], [], 0),
  (79, .ladd, 0, [], [], 0),
  (80, .lstore 4, 0, [], [], 0),
  (82, .ldc2_w 369, 1506, [], [], 31),
  (85, .lload 4, 0, [], [], 0),
  (87, .lmul, 0, [], [], 0),
  (88, .aload_n 0, 0, [], [], 0),
  (89, .iload_n 3, 0, [], [], 0),
  (90, .iconst 0, 0, [], [(0, 0)], 0),
  (91, .invokevirtual 305, 0, [0], [], 0),
  (94, .i2l, 0, [], [], 0),
  (95, .ladd, 0, [], [], 0),
  (96, .lstore 4, 0, [], [], 0),
  (98, .ldc2_w 369, 1506, [], [], 31),
  (101, .lload 4, 0, [], [], 0),
  (103, .lmul, 0, [], [], 0),
  (104, .aload_n 0, 0, [], [], 0),
  (105, .iload_n 3, 0, [], [], 0),
  (106, .iconst 1, 0, [], [(1, 0)], 0),
  (107, .invokevirtual 305, 0, [0], [], 0),
  (110, .i2l, 0, [], [], 0),
  (111, .ladd, 0, [], [], 0),
  (112, .lstore 4, 0, [], [], 0),
  (114, .ldc2_w 369, 1506, [], [], 31),
  (117, .lload 4, 0, [], [], 0),
  (119, .lmul, 0, [], [], 0),
  (120, .aload_n 0, 0, [], [], 0),
  (121, .iconst 5, 0, [], [(5, 0)], 0),
  (122, .iload_n 3, 0, [], [], 0),
  (123, .iconst 0, 0, [], [(0, 0)], 0),
  (124, .invokevirtual 343, 0, [0], [], 0),
  (127, .ladd, 0, [], [], 0),
  (128, .lstore 4, 0, [], [], 0),
  (130, .ldc2_w 369, 1506, [], [], 31),
  (133, .lload 4, 0, [], [], 0),
  (135, .lmul, 0, [], [], 0),
  (136, .aload_n 0, 0, [], [], 0),
  (137, .iconst 5, 0, [], [(5, 0)], 0),
  (138, .iload_n 3, 0, [], [], 0),
  (139, .iconst 1, 0, [], [(1, 0)], 0),
  (140, .invokevirtual 343, 0, [0], [], 0),
  (143, .ladd, 0, [], [], 0),
  (144, .lreturn, 0, [], [], 0)])
def mr_X9_digest : MR := (9, 0, ⟨"SamovarModel", "digest", "()J"⟩, prog_11_method_102_code, 5, (Option.some Jvm.ClassFile.FieldType.long), 11, 253, [(0, .ldc2_w 375, 1505, [], [], 17),
  (3, .lstore_n 1, 0, [], [], 0),
  (4, .iconst 0, 0, [], [(0, 0)], 0),
  (5, .istore_n 3, 0, [], [], 0),
  (6, .iload_n 3, 0, [], [], 0),
  (7, .bipush 8, 0, [], [(8, 0)], 0),
  (9, .if_icmp .ge 22, 31, [], [], 0),
  (12, .ldc2_w 369, 1506, [], [], 31),
  (15, .lload_n 1, 0, [], [], 0),
  (16, .lmul, 0, [], [], 0),
  (17, .aload_n 0, 0, [], [], 0),
  (18, .iload_n 3, 0, [], [], 0),
  (19, .invokevirtual 377, 0, [0], [], 0),
  (22, .i2l, 0, [], [], 0),
  (23, .ladd, 0, [], [], 0),
  (24, .lstore_n 1, 0, [], [], 0),
  (25, .iinc 3 1, 0, [], [(1, 0)], 0),
  (28, .goto (-22), 6, [], [], 0),
  (31, .ldc2_w 369, 1506, [], [], 31),
  (34, .lload_n 1, 0, [], [], 0),
  (35, .lmul, 0, [], [], 0),
  (36, .aload_n 0, 0, [], [], 0),
  (37, .iconst 0, 0, [], [(0, 0)], 0),
  (38, .invokevirtual 148, 0, [0], [], 0),
  (41, .i2l, 0, [], [], 0),
  (42, .ladd, 0, [], [], 0),
  (43, .lstore_n 1, 0, [], [], 0),
  (44, .ldc2_w 369, 1506, [], [], 31),
  (47, .lload_n 1, 0, [], [], 0),
  (48, .lmul, 0, [], [], 0),
  (49, .aload_n 0, 0, [], [], 0),
  (50, .iconst 1, 0, [], [(1, 0)], 0),
  (51, .invokevirtual 148, 0, [0], [], 0),
  (54, .i2l, 0, [], [], 0),
  (55, .ladd, 0, [], [], 0),
  (56, .lstore_n 1, 0, [], [], 0),
  (57, .iconst 0, 0, [], [(0, 0)], 0),
  (58, .istore_n 3, 0, [], [], 0),
  (59, .iload_n 3, 0, [], [], 0),
  (60, .bipush 24, 0, [], [(24, 0)], 0),
  (62, .if_icmp .ge 53, 115, [], [], 0),
  (65, .iconst 0, 0, [], [(0, 0)], 0),
  (66, .istore 4, 0, [], [], 0),
  (68, .iload 4, 0, [], [], 0),
  (70, .bipush 6, 0, [], [(6, 0)], 0),
  (72, .if_icmp .ge 24, 96, [], [], 0),
  (75, .ldc2_w 369, 1506, [], [], 31),
  (78, .lload_n 1, 0, [], [], 0),
  (79, .lmul, 0, [], [], 0),
  (80, .aload_n 0, 0, [], [], 0),
  (81, .iload_n 3, 0, [], [], 0),
  (82, .iload 4, 0, [], [], 0),
  (84, .invokevirtual 256, 0, [0], [], 0),
  (87, .i2l, 0, [], [], 0),
  (88, .ladd, 0, [], [], 0),
  (89, .lstore_n 1, 0, [], [], 0),
  (90, .iinc 4 1, 0, [], [(1, 0)], 0),
  (93, .goto (-25), 68, [], [], 0),
  (96, .ldc2_w 369, 1506, [], [], 31),
  (99, .lload_n 1, 0, [], [], 0),
  (100, .lmul, 0, [], [], 0),
  (101, .aload_n 0, 0, [], [], 0),
  (102, .iload_n 3, 0, [], [], 0),
  (103, .invokevirtual 262, 0, [0], [], 0),
  (106, .i2l, 0, [], [], 0),
  (107, .ladd, 0, [], [], 0),
  (108, .lstore_n 1, 0, [], [], 0),
  (109, .iinc 3 1, 0, [], [(1, 0)], 0),
  (112, .goto (-53), 59, [], [], 0),
  (115, .iconst 0, 0, [], [(0, 0)], 0),
  (116, .istore_n 3, 0, [], [], 0),
  (117, .iload_n 3, 0, [], [], 0),
  (118, .aload_n 0, 0, [], [], 0),
  (119, .getfield 134, 0, [9, 2, 964, 0], [], 0),
  (122, .if_icmp .ge 16, 138, [], [], 0),
  (125, .aload_n 0, 0, [], [], 0),
  (126, .lload_n 1, 0, [], [], 0),
  (127, .iload_n 3, 0, [], [], 0),
  (128, .invokevirtual 380, 0, [0], [], 0),
  (131, .lstore_n 1, 0, [], [], 0),
  (132, .iinc 3 1, 0, [], [(1, 0)], 0),
  (135, .goto (-18), 117, [], [], 0),
  (138, .iconst 0, 0, [], [(0, 0)], 0),
  (139, .istore_n 3, 0, [], [], 0),
  (140, .iload_n 3, 0, [], [], 0),
  (141, .aload_n 0, 0, [], [], 0),
  (142, .getfield 137, 0, [9, 6, 968, 0], [], 0),
  (145, .if_icmp .ge 16, 161, [], [], 0),
  (148, .aload_n 0, 0, [], [], 0),
  (149, .lload_n 1, 0, [], [], 0),
  (150, .iload_n 3, 0, [], [], 0),
  (151, .invokevirtual 384, 0, [0], [], 0),
  (154, .lstore_n 1, 0, [], [], 0),
  (155, .iinc 3 1, 0, [], [(1, 0)], 0),
  (158, .goto (-18), 140, [], [], 0),
  (161, .iconst 0, 0, [], [(0, 0)], 0),
  (162, .istore_n 3, 0, [], [], 0),
  (163, .iload_n 3, 0, [], [], 0),
  (164, .iconst 5, 0, [], [(5, 0)], 0),
  (165, .if_icmp .ge 22, 187, [], [], 0),
  (168, .ldc2_w 369, 1506, [], [], 31),
  (171, .lload_n 1, 0, [], [], 0),
  (172, .lmul, 0, [], [], 0),
  (173, .aload_n 0, 0, [], [], 0),
  (174, .iload_n 3, 0, [], [], 0),
  (175, .invokevirtual 272, 0, [0], [], 0),
  (178, .i2l, 0, [], [], 0),
  (179, .ladd, 0, [], [], 0),
  (180, .lstore_n 1, 0, [], [], 0),
  (181, .iinc 3 1, 0, [], [(1, 0)], 0),
  (184, .goto (-21), 163, [], [], 0),
  (187, .ldc2_w 369, 1506, [], [], 31),
  (190, .lload_n 1, 0, [], [], 0),
  (191, .lmul, 0, [], [], 0),
  (192, .aload_n 0, 0, [], [], 0),
  (193, .invokevirtual 275, 0, [0], [], 0),
  (196, .i2l, 0, [], [], 0),
  (197, .ladd, 0, [], [], 0),
  (198, .lstore_n 1, 0, [], [], 0),
  (199, .ldc2_w 369, 1506, [], [], 31),
  (202, .lload_n 1, 0, [], [], 0),
  (203, .lmul, 0, [], [], 0),
  (204, .aload_n 0, 0, [], [], 0),
  (205, .iconst 0, 0, [], [(0, 0)], 0),
  (206, .invokevirtual 278, 0, [0], [], 0),
  (209, .i2l, 0, [], [], 0),
  (210, .ladd, 0, [], [], 0),
  (211, .lstore_n 1, 0, [], [], 0),
  (212, .ldc2_w 369, 1506, [], [], 31),
  (215, .lload_n 1, 0, [], [], 0),
  (216, .lmul, 0, [], [], 0),
  (217, .aload_n 0, 0, [], [], 0),
  (218, .iconst 1, 0, [], [(1, 0)], 0),
  (219, .invokevirtual 278, 0, [0], [], 0),
  (222, .i2l, 0, [], [], 0),
  (223, .ladd, 0, [], [], 0),
  (224, .lstore_n 1, 0, [], [], 0),
  (225, .ldc2_w 369, 1506, [], [], 31),
  (228, .lload_n 1, 0, [], [], 0),
  (229, .lmul, 0, [], [], 0),
  (230, .aload_n 0, 0, [], [], 0),
  (231, .invokevirtual 284, 0, [0], [], 0),
  (234, .i2l, 0, [], [], 0),
  (235, .ladd, 0, [], [], 0),
  (236, .lstore_n 1, 0, [], [], 0),
  (237, .ldc2_w 369, 1506, [], [], 31),
  (240, .lload_n 1, 0, [], [], 0),
  (241, .lmul, 0, [], [], 0),
  (242, .aload_n 0, 0, [], [], 0),
  (243, .iconst 0, 0, [], [(0, 0)], 0),
  (244, .invokevirtual 302, 0, [0], [], 0),
  (247, .i2l, 0, [], [], 0),
  (248, .ladd, 0, [], [], 0),
  (249, .lstore_n 1, 0, [], [], 0),
  (250, .ldc2_w 369, 1506, [], [], 31),
  (253, .lload_n 1, 0, [], [], 0),
  (254, .lmul, 0, [], [], 0),
  (255, .aload_n 0, 0, [], [], 0),
  (256, .iconst 1, 0, [], [(1, 0)], 0),
  (257, .invokevirtual 302, 0, [0], [], 0),
  (260, .i2l, 0, [], [], 0),
  (261, .ladd, 0, [], [], 0),
  (262, .lstore_n 1, 0, [], [], 0),
  (263, .aload_n 0, 0, [], [], 0),
  (264, .invokevirtual 311, 0, [0], [], 0),
  (267, .istore_n 3, 0, [], [], 0),
  (268, .ldc2_w 369, 1506, [], [], 31),
  (271, .lload_n 1, 0, [], [], 0),
  (272, .lmul, 0, [], [], 0),
  (273, .iload_n 3, 0, [], [], 0),
  (274, .i2l, 0, [], [], 0),
  (275, .ladd, 0, [], [], 0),
  (276, .lstore_n 1, 0, [], [], 0),
  (277, .ldc2_w 369, 1506, [], [], 31),
  (280, .lload_n 1, 0, [], [], 0),
  (281, .lmul, 0, [], [], 0),
  (282, .aload_n 0, 0, [], [], 0),
  (283, .iload_n 3, 0, [], [], 0),
  (284, .iconst 0, 0, [], [(0, 0)], 0),
  (285, .invokevirtual 314, 0, [0], [], 0),
  (288, .i2l, 0, [], [], 0),
  (289, .ladd, 0, [], [], 0),
  (290, .lstore_n 1, 0, [], [], 0),
  (291, .ldc2_w 369, 1506, [], [], 31),
  (294, .lload_n 1, 0, [], [], 0),
  (295, .lmul, 0, [], [], 0),
  (296, .aload_n 0, 0, [], [], 0),
  (297, .invokevirtual 324, 0, [0], [], 0),
  (300, .i2l, 0, [], [], 0),
  (301, .ladd, 0, [], [], 0),
  (302, .lstore_n 1, 0, [], [], 0),
  (303, .ldc2_w 369, 1506, [], [], 31),
  (306, .lload_n 1, 0, [], [], 0),
  (307, .lmul, 0, [], [], 0),
  (308, .aload_n 0, 0, [], [], 0),
  (309, .invokevirtual 327, 0, [0], [], 0),
  (312, .i2l, 0, [], [], 0),
  (313, .ladd, 0, [], [], 0),
  (314, .lstore_n 1, 0, [], [], 0),
  (315, .ldc2_w 369, 1506, [], [], 31),
  (318, .lload_n 1, 0, [], [], 0),
  (319, .lmul, 0, [], [], 0),
  (320, .aload_n 0, 0, [], [], 0),
  (321, .invokevirtual 336, 0, [0], [], 0),
  (324, .i2l, 0, [], [], 0),
  (325, .ladd, 0, [], [], 0),
  (326, .lstore_n 1, 0, [], [], 0),
  (327, .ldc2_w 369, 1506, [], [], 31),
  (330, .lload_n 1, 0, [], [], 0),
  (331, .lmul, 0, [], [], 0),
  (332, .aload_n 0, 0, [], [], 0),
  (333, .bipush 7, 0, [], [(7, 0)], 0),
  (335, .bipush 6, 0, [], [(6, 0)], 0),
  (337, .iconst 0, 0, [], [(0, 0)], 0),
  (338, .invokevirtual 352, 0, [0], [], 0),
  (341, .i2l, 0, [], [], 0),
  (342, .ladd, 0, [], [], 0),
  (343, .lstore_n 1, 0, [], [], 0),
  (344, .ldc2_w 369, 1506, [], [], 31),
  (347, .lload_n 1, 0, [], [], 0),
  (348, .lmul, 0, [], [], 0),
  (349, .aload_n 0, 0, [], [], 0),
  (350, .bipush 7, 0, [], [(7, 0)], 0),
  (352, .bipush 6, 0, [], [(6, 0)], 0),
  (354, .iconst 1, 0, [], [(1, 0)], 0),
  (355, .invokevirtual 352, 0, [0], [], 0),
  (358, .i2l, 0, [], [], 0),
  (359, .ladd, 0, [], [], 0),
  (360, .lreturn, 0, [], [], 0)])
def lawr_0 : List RW := [(3, .dup, 0, [], [], 0),
  (7, .astore_n 1, 0, [], [], 0),
  (11, .dup, 0, [], [], 0),
  (15, .astore_n 2, 0, [], [], 0),
  (16, .iconst 0, 0, [], [(0, 0)], 0),
  (17, .istore_n 3, 0, [], [], 0),
  (18, .iload_n 3, 0, [], [], 0),
  (19, .aload_n 0, 0, [], [], 0),
  (20, .arraylength, 0, [], [], 0),
  (21, .bipush 6, 0, [], [(6, 0)], 0),
  (23, .isub, 0, [], [], 0),
  (24, .if_icmp .gt 1258, 1282, [], [], 0),
  (27, .aload_n 0, 0, [], [], 0),
  (28, .iload_n 3, 0, [], [], 0),
  (29, .iaload, 0, [], [], 0),
  (30, .bipush 63, 0, [], [(63, 0)], 0),
  (32, .iand, 0, [], [], 0),
  (33, .tableswitch 1243 0 37 #[167, 200, 223, 246, 269, 302, 335, 368, 411, 424, 447, 480, 523, 546, 569, 582, 605, 628, 641, 674, 697, 730, 753, 786, 799, 812, 825, 848, 861, 905, 948, 991, 1014, 1067, 1110, 1173, 1206, 1229], 1276, [], [(0, 200), (1, 233), (2, 256), (3, 279), (4, 302), (5, 335), (6, 368), (7, 401), (8, 444), (9, 457), (10, 480), (11, 513), (12, 556), (13, 579), (14, 602), (15, 615), (16, 638), (17, 661), (18, 674), (19, 707), (20, 730), (21, 763), (22, 786), (23, 819), (24, 832), (25, 845), (26, 858), (27, 881), (28, 894), (29, 938), (30, 981), (31, 1024), (32, 1047), (33, 1100), (34, 1143), (35, 1206), (36, 1239), (37, 1262)], 0),
  (200, .aload_n 1, 0, [], [], 0),
  (201, .aload_n 0, 0, [], [], 0),
  (202, .iload_n 3, 0, [], [], 0),
  (203, .iconst 1, 0, [], [(1, 0)], 0),
  (204, .iadd, 0, [], [], 0),
  (205, .iaload, 0, [], [], 0),
  (206, .aload_n 0, 0, [], [], 0),
  (207, .iload_n 3, 0, [], [], 0),
  (208, .iconst 2, 0, [], [(2, 0)], 0),
  (209, .iadd, 0, [], [], 0),
  (210, .iaload, 0, [], [], 0),
  (211, .invokevirtual 13, 0, [0], [], 0),
  (214, .aload_n 2, 0, [], [], 0),
  (215, .aload_n 0, 0, [], [], 0),
  (216, .iload_n 3, 0, [], [], 0),
  (217, .iconst 1, 0, [], [(1, 0)], 0),
  (218, .iadd, 0, [], [], 0),
  (219, .iaload, 0, [], [], 0),
  (220, .aload_n 0, 0, [], [], 0),
  (221, .iload_n 3, 0, [], [], 0),
  (222, .iconst 2, 0, [], [(2, 0)], 0),
  (223, .iadd, 0, [], [], 0),
  (224, .iaload, 0, [], [], 0),
  (225, .invokevirtual 17, 0, [0], [], 0),
  (228, .if_icmp .eq 1048, 1276, [], [], 0),
  (231, .iconst 0, 0, [], [(0, 0)], 0),
  (232, .ireturn, 0, [], [], 0),
  (233, .aload_n 1, 0, [], [], 0),
  (234, .aload_n 0, 0, [], [], 0),
  (235, .iload_n 3, 0, [], [], 0),
  (236, .iconst 1, 0, [], [(1, 0)], 0),
  (237, .iadd, 0, [], [], 0),
  (238, .iaload, 0, [], [], 0),
  (239, .invokevirtual 18, 0, [0], [], 0),
  (242, .aload_n 2, 0, [], [], 0),
  (243, .aload_n 0, 0, [], [], 0),
  (244, .iload_n 3, 0, [], [], 0),
  (245, .iconst 1, 0, [], [(1, 0)], 0),
  (246, .iadd, 0, [], [], 0),
  (247, .iaload, 0, [], [], 0),
  (248, .invokevirtual 22, 0, [0], [], 0),
  (251, .if_icmp .eq 1025, 1276, [], [], 0)]
def lawr_1 : List RW := [(254, .iconst 0, 0, [], [(0, 0)], 0),
  (255, .ireturn, 0, [], [], 0),
  (256, .aload_n 1, 0, [], [], 0),
  (257, .aload_n 0, 0, [], [], 0),
  (258, .iload_n 3, 0, [], [], 0),
  (259, .iconst 1, 0, [], [(1, 0)], 0),
  (260, .iadd, 0, [], [], 0),
  (261, .iaload, 0, [], [], 0),
  (262, .invokevirtual 23, 0, [0], [], 0),
  (265, .aload_n 2, 0, [], [], 0),
  (266, .aload_n 0, 0, [], [], 0),
  (267, .iload_n 3, 0, [], [], 0),
  (268, .iconst 1, 0, [], [(1, 0)], 0),
  (269, .iadd, 0, [], [], 0),
  (270, .iaload, 0, [], [], 0),
  (271, .invokevirtual 26, 0, [0], [], 0),
  (274, .if_icmp .eq 1002, 1276, [], [], 0),
  (277, .iconst 0, 0, [], [(0, 0)], 0),
  (278, .ireturn, 0, [], [], 0),
  (279, .aload_n 1, 0, [], [], 0),
  (280, .aload_n 0, 0, [], [], 0),
  (281, .iload_n 3, 0, [], [], 0),
  (282, .iconst 1, 0, [], [(1, 0)], 0),
  (283, .iadd, 0, [], [], 0),
  (284, .iaload, 0, [], [], 0),
  (285, .invokevirtual 27, 0, [0], [], 0),
  (288, .aload_n 2, 0, [], [], 0),
  (289, .aload_n 0, 0, [], [], 0),
  (290, .iload_n 3, 0, [], [], 0),
  (291, .iconst 1, 0, [], [(1, 0)], 0),
  (292, .iadd, 0, [], [], 0),
  (293, .iaload, 0, [], [], 0),
  (294, .invokevirtual 30, 0, [0], [], 0),
  (297, .if_icmp .eq 979, 1276, [], [], 0),
  (300, .iconst 0, 0, [], [(0, 0)], 0),
  (301, .ireturn, 0, [], [], 0),
  (302, .aload_n 1, 0, [], [], 0),
  (303, .aload_n 0, 0, [], [], 0),
  (304, .iload_n 3, 0, [], [], 0),
  (305, .iconst 1, 0, [], [(1, 0)], 0),
  (306, .iadd, 0, [], [], 0),
  (307, .iaload, 0, [], [], 0),
  (308, .aload_n 0, 0, [], [], 0),
  (309, .iload_n 3, 0, [], [], 0),
  (310, .iconst 2, 0, [], [(2, 0)], 0),
  (311, .iadd, 0, [], [], 0),
  (312, .iaload, 0, [], [], 0),
  (313, .invokevirtual 31, 0, [0], [], 0),
  (316, .aload_n 2, 0, [], [], 0),
  (317, .aload_n 0, 0, [], [], 0),
  (318, .iload_n 3, 0, [], [], 0),
  (319, .iconst 1, 0, [], [(1, 0)], 0),
  (320, .iadd, 0, [], [], 0),
  (321, .iaload, 0, [], [], 0),
  (322, .aload_n 0, 0, [], [], 0),
  (323, .iload_n 3, 0, [], [], 0),
  (324, .iconst 2, 0, [], [(2, 0)], 0),
  (325, .iadd, 0, [], [], 0),
  (326, .iaload, 0, [], [], 0),
  (327, .invokevirtual 34, 0, [0], [], 0)]
def lawr_2 : List RW := [(330, .if_icmp .eq 946, 1276, [], [], 0),
  (333, .iconst 0, 0, [], [(0, 0)], 0),
  (334, .ireturn, 0, [], [], 0),
  (335, .aload_n 1, 0, [], [], 0),
  (336, .aload_n 0, 0, [], [], 0),
  (337, .iload_n 3, 0, [], [], 0),
  (338, .iconst 1, 0, [], [(1, 0)], 0),
  (339, .iadd, 0, [], [], 0),
  (340, .iaload, 0, [], [], 0),
  (341, .aload_n 0, 0, [], [], 0),
  (342, .iload_n 3, 0, [], [], 0),
  (343, .iconst 2, 0, [], [(2, 0)], 0),
  (344, .iadd, 0, [], [], 0),
  (345, .iaload, 0, [], [], 0),
  (346, .invokevirtual 35, 0, [0], [], 0),
  (349, .aload_n 2, 0, [], [], 0),
  (350, .aload_n 0, 0, [], [], 0),
  (351, .iload_n 3, 0, [], [], 0),
  (352, .iconst 1, 0, [], [(1, 0)], 0),
  (353, .iadd, 0, [], [], 0),
  (354, .iaload, 0, [], [], 0),
  (355, .aload_n 0, 0, [], [], 0),
  (356, .iload_n 3, 0, [], [], 0),
  (357, .iconst 2, 0, [], [(2, 0)], 0),
  (358, .iadd, 0, [], [], 0),
  (359, .iaload, 0, [], [], 0),
  (360, .invokevirtual 38, 0, [0], [], 0),
  (363, .if_icmp .eq 913, 1276, [], [], 0),
  (366, .iconst 0, 0, [], [(0, 0)], 0),
  (367, .ireturn, 0, [], [], 0),
  (368, .aload_n 1, 0, [], [], 0),
  (369, .aload_n 0, 0, [], [], 0),
  (370, .iload_n 3, 0, [], [], 0),
  (371, .iconst 1, 0, [], [(1, 0)], 0),
  (372, .iadd, 0, [], [], 0),
  (373, .iaload, 0, [], [], 0),
  (374, .aload_n 0, 0, [], [], 0),
  (375, .iload_n 3, 0, [], [], 0),
  (376, .iconst 2, 0, [], [(2, 0)], 0),
  (377, .iadd, 0, [], [], 0),
  (378, .iaload, 0, [], [], 0),
  (379, .invokevirtual 39, 0, [0], [], 0),
  (382, .aload_n 2, 0, [], [], 0),
  (383, .aload_n 0, 0, [], [], 0),
  (384, .iload_n 3, 0, [], [], 0),
  (385, .iconst 1, 0, [], [(1, 0)], 0),
  (386, .iadd, 0, [], [], 0),
  (387, .iaload, 0, [], [], 0),
  (388, .aload_n 0, 0, [], [], 0),
  (389, .iload_n 3, 0, [], [], 0),
  (390, .iconst 2, 0, [], [(2, 0)], 0),
  (391, .iadd, 0, [], [], 0),
  (392, .iaload, 0, [], [], 0),
  (393, .invokevirtual 42, 0, [0], [], 0),
  (396, .if_icmp .eq 880, 1276, [], [], 0),
  (399, .iconst 0, 0, [], [(0, 0)], 0),
  (400, .ireturn, 0, [], [], 0),
  (401, .aload_n 1, 0, [], [], 0),
  (402, .aload_n 0, 0, [], [], 0),
  (403, .iload_n 3, 0, [], [], 0)]
def lawr_3 : List RW := [(404, .iconst 1, 0, [], [(1, 0)], 0),
  (405, .iadd, 0, [], [], 0),
  (406, .iaload, 0, [], [], 0),
  (407, .aload_n 0, 0, [], [], 0),
  (408, .iload_n 3, 0, [], [], 0),
  (409, .iconst 2, 0, [], [(2, 0)], 0),
  (410, .iadd, 0, [], [], 0),
  (411, .iaload, 0, [], [], 0),
  (412, .aload_n 0, 0, [], [], 0),
  (413, .iload_n 3, 0, [], [], 0),
  (414, .iconst 3, 0, [], [(3, 0)], 0),
  (415, .iadd, 0, [], [], 0),
  (416, .iaload, 0, [], [], 0),
  (417, .invokevirtual 43, 0, [0], [], 0),
  (420, .aload_n 2, 0, [], [], 0),
  (421, .aload_n 0, 0, [], [], 0),
  (422, .iload_n 3, 0, [], [], 0),
  (423, .iconst 1, 0, [], [(1, 0)], 0),
  (424, .iadd, 0, [], [], 0),
  (425, .iaload, 0, [], [], 0),
  (426, .aload_n 0, 0, [], [], 0),
  (427, .iload_n 3, 0, [], [], 0),
  (428, .iconst 2, 0, [], [(2, 0)], 0),
  (429, .iadd, 0, [], [], 0),
  (430, .iaload, 0, [], [], 0),
  (431, .aload_n 0, 0, [], [], 0),
  (432, .iload_n 3, 0, [], [], 0),
  (433, .iconst 3, 0, [], [(3, 0)], 0),
  (434, .iadd, 0, [], [], 0),
  (435, .iaload, 0, [], [], 0),
  (436, .invokevirtual 47, 0, [0], [], 0),
  (439, .if_icmp .eq 837, 1276, [], [], 0),
  (442, .iconst 0, 0, [], [(0, 0)], 0),
  (443, .ireturn, 0, [], [], 0),
  (444, .aload_n 1, 0, [], [], 0),
  (445, .invokevirtual 48, 0, [0], [], 0),
  (448, .aload_n 2, 0, [], [], 0),
  (449, .invokevirtual 52, 0, [0], [], 0),
  (452, .if_icmp .eq 824, 1276, [], [], 0),
  (455, .iconst 0, 0, [], [(0, 0)], 0),
  (456, .ireturn, 0, [], [], 0),
  (457, .aload_n 1, 0, [], [], 0),
  (458, .aload_n 0, 0, [], [], 0),
  (459, .iload_n 3, 0, [], [], 0),
  (460, .iconst 1, 0, [], [(1, 0)], 0),
  (461, .iadd, 0, [], [], 0),
  (462, .iaload, 0, [], [], 0),
  (463, .invokevirtual 53, 0, [0], [], 0),
  (466, .aload_n 2, 0, [], [], 0),
  (467, .aload_n 0, 0, [], [], 0),
  (468, .iload_n 3, 0, [], [], 0),
  (469, .iconst 1, 0, [], [(1, 0)], 0),
  (470, .iadd, 0, [], [], 0),
  (471, .iaload, 0, [], [], 0),
  (472, .invokevirtual 56, 0, [0], [], 0),
  (475, .if_icmp .eq 801, 1276, [], [], 0),
  (478, .iconst 0, 0, [], [(0, 0)], 0),
  (479, .ireturn, 0, [], [], 0),
  (480, .aload_n 1, 0, [], [], 0),
  (481, .aload_n 0, 0, [], [], 0)]
def lawr_4 : List RW := [(482, .iload_n 3, 0, [], [], 0),
  (483, .iconst 1, 0, [], [(1, 0)], 0),
  (484, .iadd, 0, [], [], 0),
  (485, .iaload, 0, [], [], 0),
  (486, .aload_n 0, 0, [], [], 0),
  (487, .iload_n 3, 0, [], [], 0),
  (488, .iconst 2, 0, [], [(2, 0)], 0),
  (489, .iadd, 0, [], [], 0),
  (490, .iaload, 0, [], [], 0),
  (491, .invokevirtual 57, 0, [0], [], 0),
  (494, .aload_n 2, 0, [], [], 0),
  (495, .aload_n 0, 0, [], [], 0),
  (496, .iload_n 3, 0, [], [], 0),
  (497, .iconst 1, 0, [], [(1, 0)], 0),
  (498, .iadd, 0, [], [], 0),
  (499, .iaload, 0, [], [], 0),
  (500, .aload_n 0, 0, [], [], 0),
  (501, .iload_n 3, 0, [], [], 0),
  (502, .iconst 2, 0, [], [(2, 0)], 0),
  (503, .iadd, 0, [], [], 0),
  (504, .iaload, 0, [], [], 0),
  (505, .invokevirtual 60, 0, [0], [], 0),
  (508, .if_icmp .eq 768, 1276, [], [], 0),
  (511, .iconst 0, 0, [], [(0, 0)], 0),
  (512, .ireturn, 0, [], [], 0),
  (513, .aload_n 1, 0, [], [], 0),
  (514, .aload_n 0, 0, [], [], 0),
  (515, .iload_n 3, 0, [], [], 0),
  (516, .iconst 1, 0, [], [(1, 0)], 0),
  (517, .iadd, 0, [], [], 0),
  (518, .iaload, 0, [], [], 0),
  (519, .aload_n 0, 0, [], [], 0),
  (520, .iload_n 3, 0, [], [], 0),
  (521, .iconst 2, 0, [], [(2, 0)], 0),
  (522, .iadd, 0, [], [], 0),
  (523, .iaload, 0, [], [], 0),
  (524, .aload_n 0, 0, [], [], 0),
  (525, .iload_n 3, 0, [], [], 0),
  (526, .iconst 3, 0, [], [(3, 0)], 0),
  (527, .iadd, 0, [], [], 0),
  (528, .iaload, 0, [], [], 0),
  (529, .invokevirtual 61, 0, [0], [], 0),
  (532, .aload_n 2, 0, [], [], 0),
  (533, .aload_n 0, 0, [], [], 0),
  (534, .iload_n 3, 0, [], [], 0),
  (535, .iconst 1, 0, [], [(1, 0)], 0),
  (536, .iadd, 0, [], [], 0),
  (537, .iaload, 0, [], [], 0),
  (538, .aload_n 0, 0, [], [], 0),
  (539, .iload_n 3, 0, [], [], 0),
  (540, .iconst 2, 0, [], [(2, 0)], 0),
  (541, .iadd, 0, [], [], 0),
  (542, .iaload, 0, [], [], 0),
  (543, .aload_n 0, 0, [], [], 0),
  (544, .iload_n 3, 0, [], [], 0),
  (545, .iconst 3, 0, [], [(3, 0)], 0),
  (546, .iadd, 0, [], [], 0),
  (547, .iaload, 0, [], [], 0),
  (548, .invokevirtual 64, 0, [0], [], 0),
  (551, .if_icmp .eq 725, 1276, [], [], 0)]
def lawr_5 : List RW := [(554, .iconst 0, 0, [], [(0, 0)], 0),
  (555, .ireturn, 0, [], [], 0),
  (556, .aload_n 1, 0, [], [], 0),
  (557, .aload_n 0, 0, [], [], 0),
  (558, .iload_n 3, 0, [], [], 0),
  (559, .iconst 1, 0, [], [(1, 0)], 0),
  (560, .iadd, 0, [], [], 0),
  (561, .iaload, 0, [], [], 0),
  (562, .invokevirtual 65, 0, [0], [], 0),
  (565, .aload_n 2, 0, [], [], 0),
  (566, .aload_n 0, 0, [], [], 0),
  (567, .iload_n 3, 0, [], [], 0),
  (568, .iconst 1, 0, [], [(1, 0)], 0),
  (569, .iadd, 0, [], [], 0),
  (570, .iaload, 0, [], [], 0),
  (571, .invokevirtual 68, 0, [0], [], 0),
  (574, .if_icmp .eq 702, 1276, [], [], 0),
  (577, .iconst 0, 0, [], [(0, 0)], 0),
  (578, .ireturn, 0, [], [], 0),
  (579, .aload_n 1, 0, [], [], 0),
  (580, .aload_n 0, 0, [], [], 0),
  (581, .iload_n 3, 0, [], [], 0),
  (582, .iconst 1, 0, [], [(1, 0)], 0),
  (583, .iadd, 0, [], [], 0),
  (584, .iaload, 0, [], [], 0),
  (585, .invokevirtual 69, 0, [0], [], 0),
  (588, .aload_n 2, 0, [], [], 0),
  (589, .aload_n 0, 0, [], [], 0),
  (590, .iload_n 3, 0, [], [], 0),
  (591, .iconst 1, 0, [], [(1, 0)], 0),
  (592, .iadd, 0, [], [], 0),
  (593, .iaload, 0, [], [], 0),
  (594, .invokevirtual 72, 0, [0], [], 0),
  (597, .if_icmp .eq 679, 1276, [], [], 0),
  (600, .iconst 0, 0, [], [(0, 0)], 0),
  (601, .ireturn, 0, [], [], 0),
  (602, .aload_n 1, 0, [], [], 0),
  (603, .invokevirtual 73, 0, [0], [], 0),
  (606, .aload_n 2, 0, [], [], 0),
  (607, .invokevirtual 76, 0, [0], [], 0),
  (610, .if_icmp .eq 666, 1276, [], [], 0),
  (613, .iconst 0, 0, [], [(0, 0)], 0),
  (614, .ireturn, 0, [], [], 0),
  (615, .aload_n 1, 0, [], [], 0),
  (616, .aload_n 0, 0, [], [], 0),
  (617, .iload_n 3, 0, [], [], 0),
  (618, .iconst 1, 0, [], [(1, 0)], 0),
  (619, .iadd, 0, [], [], 0),
  (620, .iaload, 0, [], [], 0),
  (621, .invokevirtual 77, 0, [0], [], 0),
  (624, .aload_n 2, 0, [], [], 0),
  (625, .aload_n 0, 0, [], [], 0),
  (626, .iload_n 3, 0, [], [], 0),
  (627, .iconst 1, 0, [], [(1, 0)], 0),
  (628, .iadd, 0, [], [], 0),
  (629, .iaload, 0, [], [], 0),
  (630, .invokevirtual 80, 0, [0], [], 0),
  (633, .if_icmp .eq 643, 1276, [], [], 0),
  (636, .iconst 0, 0, [], [(0, 0)], 0),
  (637, .ireturn, 0, [], [], 0)]
def lawr_6 : List RW := [(638, .aload_n 1, 0, [], [], 0),
  (639, .aload_n 0, 0, [], [], 0),
  (640, .iload_n 3, 0, [], [], 0),
  (641, .iconst 1, 0, [], [(1, 0)], 0),
  (642, .iadd, 0, [], [], 0),
  (643, .iaload, 0, [], [], 0),
  (644, .invokevirtual 81, 0, [0], [], 0),
  (647, .aload_n 2, 0, [], [], 0),
  (648, .aload_n 0, 0, [], [], 0),
  (649, .iload_n 3, 0, [], [], 0),
  (650, .iconst 1, 0, [], [(1, 0)], 0),
  (651, .iadd, 0, [], [], 0),
  (652, .iaload, 0, [], [], 0),
  (653, .invokevirtual 84, 0, [0], [], 0),
  (656, .if_icmp .eq 620, 1276, [], [], 0),
  (659, .iconst 0, 0, [], [(0, 0)], 0),
  (660, .ireturn, 0, [], [], 0),
  (661, .aload_n 1, 0, [], [], 0),
  (662, .invokevirtual 85, 0, [0], [], 0),
  (665, .aload_n 2, 0, [], [], 0),
  (666, .invokevirtual 88, 0, [0], [], 0),
  (669, .if_icmp .eq 607, 1276, [], [], 0),
  (672, .iconst 0, 0, [], [(0, 0)], 0),
  (673, .ireturn, 0, [], [], 0),
  (674, .aload_n 1, 0, [], [], 0),
  (675, .aload_n 0, 0, [], [], 0),
  (676, .iload_n 3, 0, [], [], 0),
  (677, .iconst 1, 0, [], [(1, 0)], 0),
  (678, .iadd, 0, [], [], 0),
  (679, .iaload, 0, [], [], 0),
  (680, .aload_n 0, 0, [], [], 0),
  (681, .iload_n 3, 0, [], [], 0),
  (682, .iconst 2, 0, [], [(2, 0)], 0),
  (683, .iadd, 0, [], [], 0),
  (684, .iaload, 0, [], [], 0),
  (685, .invokevirtual 89, 0, [0], [], 0),
  (688, .aload_n 2, 0, [], [], 0),
  (689, .aload_n 0, 0, [], [], 0),
  (690, .iload_n 3, 0, [], [], 0),
  (691, .iconst 1, 0, [], [(1, 0)], 0),
  (692, .iadd, 0, [], [], 0),
  (693, .iaload, 0, [], [], 0),
  (694, .aload_n 0, 0, [], [], 0),
  (695, .iload_n 3, 0, [], [], 0),
  (696, .iconst 2, 0, [], [(2, 0)], 0),
  (697, .iadd, 0, [], [], 0),
  (698, .iaload, 0, [], [], 0),
  (699, .invokevirtual 92, 0, [0], [], 0),
  (702, .if_icmp .eq 574, 1276, [], [], 0),
  (705, .iconst 0, 0, [], [(0, 0)], 0),
  (706, .ireturn, 0, [], [], 0),
  (707, .aload_n 1, 0, [], [], 0),
  (708, .aload_n 0, 0, [], [], 0),
  (709, .iload_n 3, 0, [], [], 0),
  (710, .iconst 1, 0, [], [(1, 0)], 0),
  (711, .iadd, 0, [], [], 0),
  (712, .iaload, 0, [], [], 0),
  (713, .invokevirtual 93, 0, [0], [], 0),
  (716, .aload_n 2, 0, [], [], 0),
  (717, .aload_n 0, 0, [], [], 0)]
def lawr_7 : List RW := [(718, .iload_n 3, 0, [], [], 0),
  (719, .iconst 1, 0, [], [(1, 0)], 0),
  (720, .iadd, 0, [], [], 0),
  (721, .iaload, 0, [], [], 0),
  (722, .invokevirtual 96, 0, [0], [], 0),
  (725, .if_icmp .eq 551, 1276, [], [], 0),
  (728, .iconst 0, 0, [], [(0, 0)], 0),
  (729, .ireturn, 0, [], [], 0),
  (730, .aload_n 1, 0, [], [], 0),
  (731, .aload_n 0, 0, [], [], 0),
  (732, .iload_n 3, 0, [], [], 0),
  (733, .iconst 1, 0, [], [(1, 0)], 0),
  (734, .iadd, 0, [], [], 0),
  (735, .iaload, 0, [], [], 0),
  (736, .aload_n 0, 0, [], [], 0),
  (737, .iload_n 3, 0, [], [], 0),
  (738, .iconst 2, 0, [], [(2, 0)], 0),
  (739, .iadd, 0, [], [], 0),
  (740, .iaload, 0, [], [], 0),
  (741, .invokevirtual 97, 0, [0], [], 0),
  (744, .aload_n 2, 0, [], [], 0),
  (745, .aload_n 0, 0, [], [], 0),
  (746, .iload_n 3, 0, [], [], 0),
  (747, .iconst 1, 0, [], [(1, 0)], 0),
  (748, .iadd, 0, [], [], 0),
  (749, .iaload, 0, [], [], 0),
  (750, .aload_n 0, 0, [], [], 0),
  (751, .iload_n 3, 0, [], [], 0),
  (752, .iconst 2, 0, [], [(2, 0)], 0),
  (753, .iadd, 0, [], [], 0),
  (754, .iaload, 0, [], [], 0),
  (755, .invokevirtual 100, 0, [0], [], 0),
  (758, .if_icmp .eq 518, 1276, [], [], 0),
  (761, .iconst 0, 0, [], [(0, 0)], 0),
  (762, .ireturn, 0, [], [], 0),
  (763, .aload_n 1, 0, [], [], 0),
  (764, .aload_n 0, 0, [], [], 0),
  (765, .iload_n 3, 0, [], [], 0),
  (766, .iconst 1, 0, [], [(1, 0)], 0),
  (767, .iadd, 0, [], [], 0),
  (768, .iaload, 0, [], [], 0),
  (769, .invokevirtual 101, 0, [0], [], 0),
  (772, .aload_n 2, 0, [], [], 0),
  (773, .aload_n 0, 0, [], [], 0),
  (774, .iload_n 3, 0, [], [], 0),
  (775, .iconst 1, 0, [], [(1, 0)], 0),
  (776, .iadd, 0, [], [], 0),
  (777, .iaload, 0, [], [], 0),
  (778, .invokevirtual 104, 0, [0], [], 0),
  (781, .if_icmp .eq 495, 1276, [], [], 0),
  (784, .iconst 0, 0, [], [(0, 0)], 0),
  (785, .ireturn, 0, [], [], 0),
  (786, .aload_n 1, 0, [], [], 0),
  (787, .aload_n 0, 0, [], [], 0),
  (788, .iload_n 3, 0, [], [], 0),
  (789, .iconst 1, 0, [], [(1, 0)], 0),
  (790, .iadd, 0, [], [], 0),
  (791, .iaload, 0, [], [], 0),
  (792, .aload_n 0, 0, [], [], 0),
  (793, .iload_n 3, 0, [], [], 0)]
def lawr_8 : List RW := [(794, .iconst 2, 0, [], [(2, 0)], 0),
  (795, .iadd, 0, [], [], 0),
  (796, .iaload, 0, [], [], 0),
  (797, .invokevirtual 105, 0, [0], [], 0),
  (800, .aload_n 2, 0, [], [], 0),
  (801, .aload_n 0, 0, [], [], 0),
  (802, .iload_n 3, 0, [], [], 0),
  (803, .iconst 1, 0, [], [(1, 0)], 0),
  (804, .iadd, 0, [], [], 0),
  (805, .iaload, 0, [], [], 0),
  (806, .aload_n 0, 0, [], [], 0),
  (807, .iload_n 3, 0, [], [], 0),
  (808, .iconst 2, 0, [], [(2, 0)], 0),
  (809, .iadd, 0, [], [], 0),
  (810, .iaload, 0, [], [], 0),
  (811, .invokevirtual 108, 0, [0], [], 0),
  (814, .if_icmp .eq 462, 1276, [], [], 0),
  (817, .iconst 0, 0, [], [(0, 0)], 0),
  (818, .ireturn, 0, [], [], 0),
  (819, .aload_n 1, 0, [], [], 0),
  (820, .invokevirtual 109, 0, [0], [], 0),
  (823, .aload_n 2, 0, [], [], 0),
  (824, .invokevirtual 112, 0, [0], [], 0),
  (827, .if_icmp .eq 449, 1276, [], [], 0),
  (830, .iconst 0, 0, [], [(0, 0)], 0),
  (831, .ireturn, 0, [], [], 0),
  (832, .aload_n 1, 0, [], [], 0),
  (833, .invokevirtual 113, 0, [0], [], 0),
  (836, .aload_n 2, 0, [], [], 0),
  (837, .invokevirtual 116, 0, [0], [], 0),
  (840, .if_icmp .eq 436, 1276, [], [], 0),
  (843, .iconst 0, 0, [], [(0, 0)], 0),
  (844, .ireturn, 0, [], [], 0),
  (845, .aload_n 1, 0, [], [], 0),
  (846, .invokevirtual 117, 0, [0], [], 0),
  (849, .aload_n 2, 0, [], [], 0),
  (850, .invokevirtual 120, 0, [0], [], 0),
  (853, .if_icmp .eq 423, 1276, [], [], 0),
  (856, .iconst 0, 0, [], [(0, 0)], 0),
  (857, .ireturn, 0, [], [], 0),
  (858, .aload_n 1, 0, [], [], 0),
  (859, .aload_n 0, 0, [], [], 0),
  (860, .iload_n 3, 0, [], [], 0),
  (861, .iconst 1, 0, [], [(1, 0)], 0),
  (862, .iadd, 0, [], [], 0),
  (863, .iaload, 0, [], [], 0),
  (864, .invokevirtual 121, 0, [0], [], 0),
  (867, .aload_n 2, 0, [], [], 0),
  (868, .aload_n 0, 0, [], [], 0),
  (869, .iload_n 3, 0, [], [], 0),
  (870, .iconst 1, 0, [], [(1, 0)], 0),
  (871, .iadd, 0, [], [], 0),
  (872, .iaload, 0, [], [], 0),
  (873, .invokevirtual 124, 0, [0], [], 0),
  (876, .if_icmp .eq 400, 1276, [], [], 0),
  (879, .iconst 0, 0, [], [(0, 0)], 0),
  (880, .ireturn, 0, [], [], 0),
  (881, .aload_n 1, 0, [], [], 0),
  (882, .invokevirtual 125, 0, [0], [], 0),
  (885, .aload_n 2, 0, [], [], 0)]
def lawr_9 : List RW := [(886, .invokevirtual 128, 0, [0], [], 0),
  (889, .if_icmp .eq 387, 1276, [], [], 0),
  (892, .iconst 0, 0, [], [(0, 0)], 0),
  (893, .ireturn, 0, [], [], 0),
  (894, .aload_n 1, 0, [], [], 0),
  (895, .aload_n 0, 0, [], [], 0),
  (896, .iload_n 3, 0, [], [], 0),
  (897, .iconst 1, 0, [], [(1, 0)], 0),
  (898, .iadd, 0, [], [], 0),
  (899, .iaload, 0, [], [], 0),
  (900, .aload_n 0, 0, [], [], 0),
  (901, .iload_n 3, 0, [], [], 0),
  (902, .iconst 2, 0, [], [(2, 0)], 0),
  (903, .iadd, 0, [], [], 0),
  (904, .iaload, 0, [], [], 0),
  (905, .aload_n 0, 0, [], [], 0),
  (906, .iload_n 3, 0, [], [], 0),
  (907, .iconst 3, 0, [], [(3, 0)], 0),
  (908, .iadd, 0, [], [], 0),
  (909, .iaload, 0, [], [], 0),
  (910, .invokevirtual 129, 0, [0], [], 0),
  (913, .aload_n 2, 0, [], [], 0),
  (914, .aload_n 0, 0, [], [], 0),
  (915, .iload_n 3, 0, [], [], 0),
  (916, .iconst 1, 0, [], [(1, 0)], 0),
  (917, .iadd, 0, [], [], 0),
  (918, .iaload, 0, [], [], 0),
  (919, .aload_n 0, 0, [], [], 0),
  (920, .iload_n 3, 0, [], [], 0),
  (921, .iconst 2, 0, [], [(2, 0)], 0),
  (922, .iadd, 0, [], [], 0),
  (923, .iaload, 0, [], [], 0),
  (924, .aload_n 0, 0, [], [], 0),
  (925, .iload_n 3, 0, [], [], 0),
  (926, .iconst 3, 0, [], [(3, 0)], 0),
  (927, .iadd, 0, [], [], 0),
  (928, .iaload, 0, [], [], 0),
  (929, .invokevirtual 133, 0, [0], [], 0),
  (932, .lcmp, 0, [], [], 0),
  (933, .ifCond .eq 343, 1276, [], [], 0),
  (936, .iconst 0, 0, [], [(0, 0)], 0),
  (937, .ireturn, 0, [], [], 0),
  (938, .aload_n 1, 0, [], [], 0),
  (939, .aload_n 0, 0, [], [], 0),
  (940, .iload_n 3, 0, [], [], 0),
  (941, .iconst 1, 0, [], [(1, 0)], 0),
  (942, .iadd, 0, [], [], 0),
  (943, .iaload, 0, [], [], 0),
  (944, .aload_n 0, 0, [], [], 0),
  (945, .iload_n 3, 0, [], [], 0),
  (946, .iconst 2, 0, [], [(2, 0)], 0),
  (947, .iadd, 0, [], [], 0),
  (948, .iaload, 0, [], [], 0),
  (949, .aload_n 0, 0, [], [], 0),
  (950, .iload_n 3, 0, [], [], 0),
  (951, .iconst 3, 0, [], [(3, 0)], 0),
  (952, .iadd, 0, [], [], 0),
  (953, .iaload, 0, [], [], 0),
  (954, .invokevirtual 134, 0, [0], [], 0),
  (957, .aload_n 2, 0, [], [], 0)]
def lawr_10 : List RW := [(958, .aload_n 0, 0, [], [], 0),
  (959, .iload_n 3, 0, [], [], 0),
  (960, .iconst 1, 0, [], [(1, 0)], 0),
  (961, .iadd, 0, [], [], 0),
  (962, .iaload, 0, [], [], 0),
  (963, .aload_n 0, 0, [], [], 0),
  (964, .iload_n 3, 0, [], [], 0),
  (965, .iconst 2, 0, [], [(2, 0)], 0),
  (966, .iadd, 0, [], [], 0),
  (967, .iaload, 0, [], [], 0),
  (968, .aload_n 0, 0, [], [], 0),
  (969, .iload_n 3, 0, [], [], 0),
  (970, .iconst 3, 0, [], [(3, 0)], 0),
  (971, .iadd, 0, [], [], 0),
  (972, .iaload, 0, [], [], 0),
  (973, .invokevirtual 137, 0, [0], [], 0),
  (976, .if_icmp .eq 300, 1276, [], [], 0),
  (979, .iconst 0, 0, [], [(0, 0)], 0),
  (980, .ireturn, 0, [], [], 0),
  (981, .aload_n 1, 0, [], [], 0),
  (982, .aload_n 0, 0, [], [], 0),
  (983, .iload_n 3, 0, [], [], 0),
  (984, .iconst 1, 0, [], [(1, 0)], 0),
  (985, .iadd, 0, [], [], 0),
  (986, .iaload, 0, [], [], 0),
  (987, .aload_n 0, 0, [], [], 0),
  (988, .iload_n 3, 0, [], [], 0),
  (989, .iconst 2, 0, [], [(2, 0)], 0),
  (990, .iadd, 0, [], [], 0),
  (991, .iaload, 0, [], [], 0),
  (992, .aload_n 0, 0, [], [], 0),
  (993, .iload_n 3, 0, [], [], 0),
  (994, .iconst 3, 0, [], [(3, 0)], 0),
  (995, .iadd, 0, [], [], 0),
  (996, .iaload, 0, [], [], 0),
  (997, .invokevirtual 138, 0, [0], [], 0),
  (1000, .aload_n 2, 0, [], [], 0),
  (1001, .aload_n 0, 0, [], [], 0),
  (1002, .iload_n 3, 0, [], [], 0),
  (1003, .iconst 1, 0, [], [(1, 0)], 0),
  (1004, .iadd, 0, [], [], 0),
  (1005, .iaload, 0, [], [], 0),
  (1006, .aload_n 0, 0, [], [], 0),
  (1007, .iload_n 3, 0, [], [], 0),
  (1008, .iconst 2, 0, [], [(2, 0)], 0),
  (1009, .iadd, 0, [], [], 0),
  (1010, .iaload, 0, [], [], 0),
  (1011, .aload_n 0, 0, [], [], 0),
  (1012, .iload_n 3, 0, [], [], 0),
  (1013, .iconst 3, 0, [], [(3, 0)], 0),
  (1014, .iadd, 0, [], [], 0),
  (1015, .iaload, 0, [], [], 0),
  (1016, .invokevirtual 141, 0, [0], [], 0),
  (1019, .if_icmp .eq 257, 1276, [], [], 0),
  (1022, .iconst 0, 0, [], [(0, 0)], 0),
  (1023, .ireturn, 0, [], [], 0),
  (1024, .aload_n 1, 0, [], [], 0),
  (1025, .aload_n 0, 0, [], [], 0),
  (1026, .iload_n 3, 0, [], [], 0),
  (1027, .iconst 1, 0, [], [(1, 0)], 0)]
def lawr_11 : List RW := [(1028, .iadd, 0, [], [], 0),
  (1029, .iaload, 0, [], [], 0),
  (1030, .invokevirtual 142, 0, [0], [], 0),
  (1033, .aload_n 2, 0, [], [], 0),
  (1034, .aload_n 0, 0, [], [], 0),
  (1035, .iload_n 3, 0, [], [], 0),
  (1036, .iconst 1, 0, [], [(1, 0)], 0),
  (1037, .iadd, 0, [], [], 0),
  (1038, .iaload, 0, [], [], 0),
  (1039, .invokevirtual 145, 0, [0], [], 0),
  (1042, .if_icmp .eq 234, 1276, [], [], 0),
  (1045, .iconst 0, 0, [], [(0, 0)], 0),
  (1046, .ireturn, 0, [], [], 0),
  (1047, .aload_n 1, 0, [], [], 0),
  (1048, .aload_n 0, 0, [], [], 0),
  (1049, .iload_n 3, 0, [], [], 0),
  (1050, .iconst 1, 0, [], [(1, 0)], 0),
  (1051, .iadd, 0, [], [], 0),
  (1052, .iaload, 0, [], [], 0),
  (1053, .aload_n 0, 0, [], [], 0),
  (1054, .iload_n 3, 0, [], [], 0),
  (1055, .iconst 2, 0, [], [(2, 0)], 0),
  (1056, .iadd, 0, [], [], 0),
  (1057, .iaload, 0, [], [], 0),
  (1058, .aload_n 0, 0, [], [], 0),
  (1059, .iload_n 3, 0, [], [], 0),
  (1060, .iconst 3, 0, [], [(3, 0)], 0),
  (1061, .iadd, 0, [], [], 0),
  (1062, .iaload, 0, [], [], 0),
  (1063, .aload_n 0, 0, [], [], 0),
  (1064, .iload_n 3, 0, [], [], 0),
  (1065, .iconst 4, 0, [], [(4, 0)], 0),
  (1066, .iadd, 0, [], [], 0),
  (1067, .iaload, 0, [], [], 0),
  (1068, .invokevirtual 146, 0, [0], [], 0),
  (1071, .aload_n 2, 0, [], [], 0),
  (1072, .aload_n 0, 0, [], [], 0),
  (1073, .iload_n 3, 0, [], [], 0),
  (1074, .iconst 1, 0, [], [(1, 0)], 0),
  (1075, .iadd, 0, [], [], 0),
  (1076, .iaload, 0, [], [], 0),
  (1077, .aload_n 0, 0, [], [], 0),
  (1078, .iload_n 3, 0, [], [], 0),
  (1079, .iconst 2, 0, [], [(2, 0)], 0),
  (1080, .iadd, 0, [], [], 0),
  (1081, .iaload, 0, [], [], 0),
  (1082, .aload_n 0, 0, [], [], 0),
  (1083, .iload_n 3, 0, [], [], 0),
  (1084, .iconst 3, 0, [], [(3, 0)], 0),
  (1085, .iadd, 0, [], [], 0),
  (1086, .iaload, 0, [], [], 0),
  (1087, .aload_n 0, 0, [], [], 0),
  (1088, .iload_n 3, 0, [], [], 0),
  (1089, .iconst 4, 0, [], [(4, 0)], 0),
  (1090, .iadd, 0, [], [], 0),
  (1091, .iaload, 0, [], [], 0),
  (1092, .invokevirtual 150, 0, [0], [], 0),
  (1095, .if_icmp .eq 181, 1276, [], [], 0),
  (1098, .iconst 0, 0, [], [(0, 0)], 0),
  (1099, .ireturn, 0, [], [], 0)]
def lawr_12 : List RW := [(1100, .aload_n 1, 0, [], [], 0),
  (1101, .aload_n 0, 0, [], [], 0),
  (1102, .iload_n 3, 0, [], [], 0),
  (1103, .iconst 1, 0, [], [(1, 0)], 0),
  (1104, .iadd, 0, [], [], 0),
  (1105, .iaload, 0, [], [], 0),
  (1106, .aload_n 0, 0, [], [], 0),
  (1107, .iload_n 3, 0, [], [], 0),
  (1108, .iconst 2, 0, [], [(2, 0)], 0),
  (1109, .iadd, 0, [], [], 0),
  (1110, .iaload, 0, [], [], 0),
  (1111, .aload_n 0, 0, [], [], 0),
  (1112, .iload_n 3, 0, [], [], 0),
  (1113, .iconst 3, 0, [], [(3, 0)], 0),
  (1114, .iadd, 0, [], [], 0),
  (1115, .iaload, 0, [], [], 0),
  (1116, .invokevirtual 151, 0, [0], [], 0),
  (1119, .aload_n 2, 0, [], [], 0),
  (1120, .aload_n 0, 0, [], [], 0),
  (1121, .iload_n 3, 0, [], [], 0),
  (1122, .iconst 1, 0, [], [(1, 0)], 0),
  (1123, .iadd, 0, [], [], 0),
  (1124, .iaload, 0, [], [], 0),
  (1125, .aload_n 0, 0, [], [], 0),
  (1126, .iload_n 3, 0, [], [], 0),
  (1127, .iconst 2, 0, [], [(2, 0)], 0),
  (1128, .iadd, 0, [], [], 0),
  (1129, .iaload, 0, [], [], 0),
  (1130, .aload_n 0, 0, [], [], 0),
  (1131, .iload_n 3, 0, [], [], 0),
  (1132, .iconst 3, 0, [], [(3, 0)], 0),
  (1133, .iadd, 0, [], [], 0),
  (1134, .iaload, 0, [], [], 0),
  (1135, .invokevirtual 154, 0, [0], [], 0),
  (1138, .if_icmp .eq 138, 1276, [], [], 0),
  (1141, .iconst 0, 0, [], [(0, 0)], 0),
  (1142, .ireturn, 0, [], [], 0),
  (1143, .aload_n 1, 0, [], [], 0),
  (1144, .aload_n 0, 0, [], [], 0),
  (1145, .iload_n 3, 0, [], [], 0),
  (1146, .iconst 1, 0, [], [(1, 0)], 0),
  (1147, .iadd, 0, [], [], 0),
  (1148, .iaload, 0, [], [], 0),
  (1149, .aload_n 0, 0, [], [], 0),
  (1150, .iload_n 3, 0, [], [], 0),
  (1151, .iconst 2, 0, [], [(2, 0)], 0),
  (1152, .iadd, 0, [], [], 0),
  (1153, .iaload, 0, [], [], 0),
  (1154, .aload_n 0, 0, [], [], 0),
  (1155, .iload_n 3, 0, [], [], 0),
  (1156, .iconst 3, 0, [], [(3, 0)], 0),
  (1157, .iadd, 0, [], [], 0),
  (1158, .iaload, 0, [], [], 0),
  (1159, .aload_n 0, 0, [], [], 0),
  (1160, .iload_n 3, 0, [], [], 0),
  (1161, .iconst 4, 0, [], [(4, 0)], 0),
  (1162, .iadd, 0, [], [], 0),
  (1163, .iaload, 0, [], [], 0),
  (1164, .aload_n 0, 0, [], [], 0),
  (1165, .iload_n 3, 0, [], [], 0)]
def lawr_13 : List RW := [(1166, .iconst 5, 0, [], [(5, 0)], 0),
  (1167, .iadd, 0, [], [], 0),
  (1168, .iaload, 0, [], [], 0),
  (1169, .invokevirtual 155, 0, [0], [], 0),
  (1172, .aload_n 2, 0, [], [], 0),
  (1173, .aload_n 0, 0, [], [], 0),
  (1174, .iload_n 3, 0, [], [], 0),
  (1175, .iconst 1, 0, [], [(1, 0)], 0),
  (1176, .iadd, 0, [], [], 0),
  (1177, .iaload, 0, [], [], 0),
  (1178, .aload_n 0, 0, [], [], 0),
  (1179, .iload_n 3, 0, [], [], 0),
  (1180, .iconst 2, 0, [], [(2, 0)], 0),
  (1181, .iadd, 0, [], [], 0),
  (1182, .iaload, 0, [], [], 0),
  (1183, .aload_n 0, 0, [], [], 0),
  (1184, .iload_n 3, 0, [], [], 0),
  (1185, .iconst 3, 0, [], [(3, 0)], 0),
  (1186, .iadd, 0, [], [], 0),
  (1187, .iaload, 0, [], [], 0),
  (1188, .aload_n 0, 0, [], [], 0),
  (1189, .iload_n 3, 0, [], [], 0),
  (1190, .iconst 4, 0, [], [(4, 0)], 0),
  (1191, .iadd, 0, [], [], 0),
  (1192, .iaload, 0, [], [], 0),
  (1193, .aload_n 0, 0, [], [], 0),
  (1194, .iload_n 3, 0, [], [], 0),
  (1195, .iconst 5, 0, [], [(5, 0)], 0),
  (1196, .iadd, 0, [], [], 0),
  (1197, .iaload, 0, [], [], 0),
  (1198, .invokevirtual 159, 0, [0], [], 0),
  (1201, .if_icmp .eq 75, 1276, [], [], 0),
  (1204, .iconst 0, 0, [], [(0, 0)], 0),
  (1205, .ireturn, 0, [], [], 0),
  (1206, .aload_n 1, 0, [], [], 0),
  (1207, .aload_n 0, 0, [], [], 0),
  (1208, .iload_n 3, 0, [], [], 0),
  (1209, .iconst 1, 0, [], [(1, 0)], 0),
  (1210, .iadd, 0, [], [], 0),
  (1211, .iaload, 0, [], [], 0),
  (1212, .aload_n 0, 0, [], [], 0),
  (1213, .iload_n 3, 0, [], [], 0),
  (1214, .iconst 2, 0, [], [(2, 0)], 0),
  (1215, .iadd, 0, [], [], 0),
  (1216, .iaload, 0, [], [], 0),
  (1217, .invokevirtual 160, 0, [0], [], 0),
  (1220, .aload_n 2, 0, [], [], 0),
  (1221, .aload_n 0, 0, [], [], 0),
  (1222, .iload_n 3, 0, [], [], 0),
  (1223, .iconst 1, 0, [], [(1, 0)], 0),
  (1224, .iadd, 0, [], [], 0),
  (1225, .iaload, 0, [], [], 0),
  (1226, .aload_n 0, 0, [], [], 0),
  (1227, .iload_n 3, 0, [], [], 0),
  (1228, .iconst 2, 0, [], [(2, 0)], 0),
  (1229, .iadd, 0, [], [], 0),
  (1230, .iaload, 0, [], [], 0),
  (1231, .invokevirtual 163, 0, [0], [], 0),
  (1234, .if_icmp .eq 42, 1276, [], [], 0),
  (1237, .iconst 0, 0, [], [(0, 0)], 0)]
def lawr_14 : List RW := [(1238, .ireturn, 0, [], [], 0),
  (1239, .aload_n 1, 0, [], [], 0),
  (1240, .aload_n 0, 0, [], [], 0),
  (1241, .iload_n 3, 0, [], [], 0),
  (1242, .iconst 1, 0, [], [(1, 0)], 0),
  (1243, .iadd, 0, [], [], 0),
  (1244, .iaload, 0, [], [], 0),
  (1245, .invokevirtual 164, 0, [0], [], 0),
  (1248, .aload_n 2, 0, [], [], 0),
  (1249, .aload_n 0, 0, [], [], 0),
  (1250, .iload_n 3, 0, [], [], 0),
  (1251, .iconst 1, 0, [], [(1, 0)], 0),
  (1252, .iadd, 0, [], [], 0),
  (1253, .iaload, 0, [], [], 0),
  (1254, .invokevirtual 167, 0, [0], [], 0),
  (1257, .if_icmp .eq 19, 1276, [], [], 0),
  (1260, .iconst 0, 0, [], [(0, 0)], 0),
  (1261, .ireturn, 0, [], [], 0),
  (1262, .aload_n 1, 0, [], [], 0),
  (1263, .invokevirtual 168, 0, [0], [], 0),
  (1266, .aload_n 2, 0, [], [], 0),
  (1267, .invokevirtual 172, 0, [0], [], 0),
  (1270, .lcmp, 0, [], [], 0),
  (1271, .ifCond .eq 5, 1276, [], [], 0),
  (1274, .iconst 0, 0, [], [(0, 0)], 0),
  (1275, .ireturn, 0, [], [], 0),
  (1276, .iinc 3 6, 0, [], [(6, 0)], 0),
  (1279, .goto (-1261), 18, [], [], 0),
  (1282, .iconst 1, 0, [], [(1, 0)], 0),
  (1283, .ireturn, 0, [], [], 0)]
def mr_L_law : MR := (15, 1, ⟨"SamovarLaw", "law", "([I)Z"⟩, code, 4, (Option.some Jvm.ClassFile.FieldType.boolean), 12, 277, lawr_0 ++ (lawr_1 ++ (lawr_2 ++ (lawr_3 ++ (lawr_4 ++ (lawr_5 ++ (lawr_6 ++ (lawr_7 ++ (lawr_8 ++ (lawr_9 ++ (lawr_10 ++ (lawr_11 ++ (lawr_12 ++ (lawr_13 ++ (lawr_14)))))))))))))))
abbrev ML : Type := Nat × MR × List Nat
def mlt_0 : List ML := [(24, mr_J14_fill_I, [1, 638, 639, 0, 91, 0]),
  (54, mr_X0_join, [0, 671, 673, 10, 81, 0])]
def mlt_1 : List ML := [(25, mr_X1_has, [0, 574, 575, 576, 77, 0])]
def mlt_2 : List ML := [(50, mr_X3_begin, [0, 630, 631, 632, 80, 0]),
  (54, mr_X0_begin, [0, 634, 635, 636, 81, 0]),
  (66, mr_X2_light, [0, 641, 643, 9, 79, 0]),
  (70, mr_X3_meet, [0, 653, 654, 655, 80, 0]),
  (74, mr_X3_warm, [0, 659, 660, 661, 80, 0]),
  (78, mr_X3_boils, [0, 663, 664, 665, 80, 0]),
  (85, mr_X0_lineUp, [0, 667, 668, 669, 81, 0]),
  (89, mr_X0_serve, [0, 675, 676, 677, 81, 0]),
  (93, mr_X0_losePatience, [0, 679, 680, 681, 81, 0]),
  (96, mr_X2_note, [0, 683, 685, 11, 79, 0]),
  (99, mr_J14_fill_I, [1, 645, 639, 0, 91, 0]),
  (113, mr_X8_within, [2, 0, 431, 0, 75, 0])]
def mlt_3 : List ML := []
def mlt_4 : List ML := [(26, mr_X1_becomeLike, [0, 752, 753, 754, 77, 0])]
def mlt_5 : List ML := [(26, mr_J14_fill_I, [1, 871, 639, 0, 91, 0]),
  (32, mr_X5_has, [0, 614, 616, 7, 83, 0])]
def mlt_6 : List ML := [(36, mr_X6_scan, [0, 437, 439, 1, 76, 0]),
  (40, mr_X6_firstFault, [0, 441, 443, 2, 76, 0]),
  (44, mr_X6_fits, [0, 445, 447, 3, 76, 0]),
  (48, mr_J10_indexOf_1, [0, 449, 450, 451, 85, 0]),
  (54, mr_X1_add, [0, 535, 536, 537, 77, 0])]
def mlt_7 : List ML := [(45, mr_J14_fill_J, [1, 547, 548, 0, 91, 0]),
  (51, mr_X4_becomeLike, [0, 748, 749, 750, 78, 0]),
  (55, mr_X7_alter, [0, 757, 759, 13, 82, 0]),
  (59, mr_X2_pass, [0, 761, 627, 628, 79, 0]),
  (62, mr_X7_pack, [1, 762, 763, 0, 82, 0]),
  (90, mr_X7_nextSeed, [1, 858, 859, 0, 82, 0]),
  (94, mr_X1_add, [0, 862, 536, 537, 77, 0])]
def mlt_8 : List ML := [(79, mr_X8_textAt, [0, 426, 428, 0, 75, 0]),
  (83, mr_X8_within, [1, 430, 431, 0, 75, 0]),
  (91, mr_X6_append, [0, 433, 434, 435, 76, 0]),
  (95, mr_X8_changed, [0, 539, 541, 4, 75, 0]),
  (98, mr_X6_shorten, [0, 554, 555, 556, 76, 0]),
  (104, mr_X1_part, [0, 570, 571, 572, 77, 0]),
  (114, mr_X8_mayBeEvent, [1, 590, 591, 0, 75, 0]),
  (119, mr_X1_add, [0, 593, 536, 537, 77, 0]),
  (123, mr_X8_sheetAt, [0, 602, 604, 5, 75, 0]),
  (131, mr_X8_found, [0, 606, 608, 6, 75, 0]),
  (136, mr_X5_item, [0, 610, 611, 612, 83, 0]),
  (139, mr_X8_toldEvening, [0, 622, 624, 8, 75, 0]),
  (160, mr_X1_has, [0, 694, 575, 576, 77, 0]),
  (164, mr_X2_stateOf, [0, 695, 696, 697, 79, 0]),
  (167, mr_X2_glassesOf, [0, 699, 700, 701, 79, 0]),
  (185, mr_J13_bitCount, [1, 711, 712, 0, 93, 0]),
  (202, mr_X7_kindsOf, [1, 737, 738, 0, 82, 0]),
  (205, mr_X8_mostGlasses, [0, 740, 742, 12, 75, 0]),
  (209, mr_X7_minutesOf, [1, 778, 779, 0, 82, 0]),
  (212, mr_X8_sparedEvents, [0, 785, 787, 14, 75, 0]),
  (216, mr_X8_bitAt, [1, 793, 794, 0, 75, 0]),
  (219, mr_X7_outcome, [0, 744, 745, 746, 82, 0]),
  (223, mr_X8_comesOutAsSeen, [0, 808, 810, 15, 75, 0]),
  (227, mr_X8_comingOutAsSeen, [0, 820, 822, 16, 75, 0]),
  (230, mr_X8_waters, [0, 832, 817, 818, 75, 0]),
  (233, mr_X8_boilingWaters, [0, 833, 835, 17, 75, 0]),
  (246, mr_X7_contentIn, [1, 843, 844, 0, 82, 0]),
  (250, mr_X8_power, [1, 846, 847, 0, 75, 0]),
  (256, mr_X7_outcomeByLots, [0, 854, 855, 856, 82, 0]),
  (259, mr_X7_glassesIn, [1, 766, 767, 0, 82, 0]),
  (262, mr_X7_goneIn, [1, 789, 790, 0, 82, 0]),
  (265, mr_X5_renew, [0, 867, 868, 869, 83, 0]),
  (269, mr_X5_faultOf, [0, 880, 881, 882, 83, 0]),
  (272, mr_X5_store, [0, 884, 885, 886, 83, 0]),
  (282, mr_X5_hasSome, [0, 897, 898, 899, 83, 0]),
  (294, mr_X8_at, [0, 906, 619, 620, 75, 0]),
  (297, mr_X8_sum, [0, 911, 708, 709, 75, 0]),
  (302, mr_X8_count, [0, 917, 908, 909, 75, 0]),
  (305, mr_X8_joined, [1, 918, 919, 0, 75, 0]),
  (309, mr_X8_fault, [0, 922, 563, 564, 75, 0]),
  (311, mr_X8_withMinutes, [0, 923, 925, 18, 75, 0]),
  (315, mr_X8_withPiece, [0, 928, 930, 19, 75, 0]),
  (319, mr_X8_withGuest, [0, 935, 937, 20, 75, 0]),
  (322, mr_X8_first, [0, 948, 718, 719, 75, 0]),
  (325, mr_X8_hottest, [0, 949, 722, 723, 75, 0]),
  (328, mr_X8_thirst, [0, 950, 730, 731, 75, 0]),
  (331, mr_X8_fill, [0, 951, 771, 772, 75, 0]),
  (334, mr_X8_spare, [0, 952, 782, 783, 75, 0]),
  (337, mr_X8_never, [0, 953, 805, 806, 75, 0]),
  (340, mr_X8_ask, [0, 954, 829, 830, 75, 0]),
  (343, mr_X8_evenings, [0, 955, 851, 852, 75, 0]),
  (349, mr_X7_drop, [0, 543, 544, 545, 82, 0]),
  (352, mr_X2_pass, [0, 626, 627, 628, 79, 0]),
  (355, mr_X7_boiledIn, [1, 812, 813, 0, 82, 0]),
  (366, mr_X8_line, [0, 927, 704, 705, 75, 0]),
  (369, mr_X8_piece, [0, 932, 567, 568, 75, 0]),
  (372, mr_X8_better, [0, 933, 734, 735, 75, 0]),
  (375, mr_X8_kind, [0, 934, 825, 826, 75, 0]),
  (377, mr_X8_guest, [0, 939, 579, 580, 75, 0]),
  (380, mr_X8_withStay, [0, 940, 942, 21, 75, 0]),
  (384, mr_X8_waited, [0, 945, 726, 727, 75, 0]),
  (387, mr_X8_come, [0, 946, 775, 776, 75, 0]),
  (390, mr_X8_chance, [0, 947, 839, 840, 75, 0]),
  (394, mr_X8_is, [0, 944, 691, 692, 75, 0])]
def mlt_9 : List ML := [(119, mr_X9_in, [1, 1130, 1131, 0, 84, 0]),
  (123, mr_X9_isTwo, [1, 1127, 1128, 0, 84, 0]),
  (127, mr_X9_byteAt, [0, 1157, 1159, 25, 84, 0]),
  (131, mr_X9_isMinute, [1, 1161, 1162, 0, 84, 0]),
  (140, mr_X9_readsPart, [0, 1153, 1155, 24, 84, 0]),
  (144, mr_X9_readsText, [0, 1149, 1151, 23, 84, 0]),
  (148, mr_X9_faultOf, [0, 1145, 1147, 22, 84, 0]),
  (151, mr_X9_reads, [0, 1172, 1174, 27, 84, 0]),
  (154, mr_X9_isPiece, [0, 1168, 1170, 26, 84, 0]),
  (157, mr_X9_isThree, [1, 1176, 1177, 0, 84, 0]),
  (160, mr_X9_pieceOf, [0, 1179, 1181, 28, 84, 0]),
  (163, mr_X9_isGuest, [0, 1187, 1189, 29, 84, 0]),
  (166, mr_X9_guestOf, [0, 1191, 1193, 30, 84, 0]),
  (172, mr_X9_isSheet, [1, 1211, 1212, 0, 84, 0]),
  (175, mr_X9_meets, [0, 1214, 1216, 31, 84, 0]),
  (178, mr_X9_event, [0, 1218, 1200, 1201, 84, 0]),
  (193, mr_X9_isIn, [1, 1247, 1248, 0, 84, 0]),
  (200, mr_X9_less, [1, 1250, 1251, 0, 84, 0]),
  (212, mr_X9_joins, [0, 1261, 1263, 40, 84, 0]),
  (216, mr_X9_leaves, [0, 1269, 1271, 42, 84, 0]),
  (220, mr_X9_befalls, [0, 1243, 1245, 37, 84, 0]),
  (223, mr_X9_fireAt, [0, 1253, 1255, 38, 84, 0]),
  (235, mr_X9_comes, [0, 1257, 1259, 39, 84, 0]),
  (238, mr_X9_serves, [0, 1265, 1267, 41, 84, 0]),
  (241, mr_X9_goAway, [0, 1273, 1275, 43, 84, 0]),
  (244, mr_X9_goesBy, [0, 1239, 1241, 36, 84, 0]),
  (247, mr_X9_asTold, [0, 1231, 1233, 34, 84, 0]),
  (250, mr_X9_runs, [0, 1235, 1237, 35, 84, 0]),
  (253, mr_X9_runsTold, [0, 1227, 1229, 33, 84, 0]),
  (256, mr_X9_atOf, [0, 1223, 1225, 32, 84, 0]),
  (259, mr_X9_isOf, [0, 1281, 1283, 44, 84, 0]),
  (262, mr_X9_lineOf, [0, 1289, 1291, 45, 84, 0]),
  (265, mr_X9_drunkNow, [0, 1301, 1303, 47, 84, 0]),
  (269, mr_X9_manyOf, [0, 1305, 1307, 48, 84, 0]),
  (272, mr_X9_sumOf, [0, 1297, 1299, 46, 84, 0]),
  (275, mr_X9_firstOf, [0, 1313, 1315, 49, 84, 0]),
  (278, mr_X9_hottestOf, [0, 1321, 1323, 50, 84, 0]),
  (281, mr_X9_waitedOf, [0, 1329, 1331, 51, 84, 0]),
  (284, mr_X9_thirstOf, [0, 1337, 1339, 52, 84, 0]),
  (293, mr_X9_starts, [0, 1349, 1351, 54, 84, 0]),
  (296, mr_X9_tries, [0, 1353, 1355, 55, 84, 0]),
  (299, mr_X9_betterOf, [0, 1345, 1347, 53, 84, 0]),
  (302, mr_X9_fillOf, [0, 1361, 1363, 56, 84, 0]),
  (305, mr_X9_comeOf, [0, 1369, 1371, 57, 84, 0]),
  (308, mr_X9_isSpared, [0, 1381, 1383, 59, 84, 0]),
  (311, mr_X9_spareBy, [0, 1377, 1379, 58, 84, 0]),
  (314, mr_X9_ofRow, [0, 1385, 1387, 60, 84, 0]),
  (320, mr_X9_isSeen, [0, 1405, 1407, 62, 84, 0]),
  (324, mr_X9_neverNow, [0, 1401, 1403, 61, 84, 0]),
  (327, mr_X9_watersBy, [0, 1413, 1415, 63, 84, 0]),
  (330, mr_X9_kindsBy, [0, 1421, 1423, 64, 84, 0]),
  (333, mr_X9_many, [1, 1433, 1434, 0, 84, 0]),
  (336, mr_X9_askOf, [0, 1429, 1431, 65, 84, 0]),
  (339, mr_X9_lowest, [1, 1444, 1445, 0, 84, 0]),
  (343, mr_X9_chanceOf, [0, 1440, 1442, 66, 84, 0]),
  (347, mr_X9_no, [1, 1447, 1448, 0, 84, 0]),
  (352, mr_X9_eveningsOf, [0, 1455, 1457, 67, 84, 0]),
  (358, mr_X9_lacks, [0, 1472, 1474, 68, 84, 0]),
  (361, mr_X9_keep, [0, 1476, 1478, 69, 84, 0]),
  (366, mr_X9_tellOf, [0, 1497, 1499, 70, 84, 0]),
  (371, mr_X9_isDigest, [0, 1516, 1518, 73, 84, 0]),
  (377, mr_X9_count, [0, 1507, 1494, 1495, 84, 0]),
  (380, mr_X9_pieceDigest, [0, 1508, 1510, 71, 84, 0]),
  (384, mr_X9_guestDigest, [0, 1512, 1514, 72, 84, 0])]
def mlt_10 : List ML := [(335, mr_J10_coder, [0, 467, 468, 469, 85, 0]),
  (492, mr_J10_isLatin1, [0, 457, 458, 459, 85, 0]),
  (505, mr_J10_length, [0, 463, 464, 465, 85, 0]),
  (633, mr_J10_indexOf_2, [0, 453, 454, 455, 85, 0]),
  (637, mr_J11_indexOf, [1, 471, 472, 0, 86, 0])]
def mlt_11 : List ML := [(88, mr_J11_canEncode, [1, 474, 475, 0, 86, 0]),
  (95, mr_J11_indexOfChar, [1, 483, 484, 0, 86, 0])]
def mlt_12 : List ML := []
def mlt_13 : List ML := []
def mlt_14 : List ML := []
def mlt_15 : List ML := [(13, mr_X8_type, [0, 422, 423, 424, 75, 0]),
  (17, mr_X9_type, [0, 1123, 1124, 1125, 84, 0]),
  (18, mr_X8_wipe, [0, 550, 551, 552, 75, 0]),
  (22, mr_X9_wipe, [0, 1133, 1134, 1135, 84, 0]),
  (23, mr_X8_undo, [0, 558, 559, 560, 75, 0]),
  (26, mr_X9_undo, [0, 1137, 1138, 1139, 84, 0]),
  (27, mr_X8_fault, [0, 562, 563, 564, 75, 0]),
  (30, mr_X9_fault, [0, 1141, 1142, 1143, 84, 0]),
  (31, mr_X8_piece, [0, 566, 567, 568, 75, 0]),
  (34, mr_X9_piece, [0, 1164, 1165, 1166, 84, 0]),
  (35, mr_X8_guest, [0, 578, 579, 580, 75, 0]),
  (38, mr_X9_guest, [0, 1183, 1184, 1185, 84, 0]),
  (39, mr_X8_set, [0, 582, 583, 584, 75, 0]),
  (42, mr_X9_set, [0, 1195, 1196, 1197, 84, 0]),
  (43, mr_X8_event, [0, 586, 587, 588, 75, 0]),
  (47, mr_X9_event, [0, 1199, 1200, 1201, 84, 0]),
  (48, mr_X8_back, [0, 594, 595, 596, 75, 0]),
  (52, mr_X9_back, [0, 1203, 1204, 1205, 84, 0]),
  (53, mr_X8_read, [0, 598, 599, 600, 75, 0]),
  (56, mr_X9_read, [0, 1207, 1208, 1209, 84, 0]),
  (57, mr_X8_at, [0, 618, 619, 620, 75, 0]),
  (60, mr_X9_at, [0, 1219, 1220, 1221, 84, 0]),
  (61, mr_X8_is, [0, 690, 691, 692, 75, 0]),
  (64, mr_X9_is, [0, 1277, 1278, 1279, 84, 0]),
  (65, mr_X8_line, [0, 703, 704, 705, 75, 0]),
  (68, mr_X9_line, [0, 1285, 1286, 1287, 84, 0]),
  (69, mr_X8_sum, [0, 707, 708, 709, 75, 0]),
  (72, mr_X9_sum, [0, 1293, 1294, 1295, 84, 0]),
  (73, mr_X8_first, [0, 717, 718, 719, 75, 0]),
  (76, mr_X9_first, [0, 1309, 1310, 1311, 84, 0]),
  (77, mr_X8_hottest, [0, 721, 722, 723, 75, 0]),
  (80, mr_X9_hottest, [0, 1317, 1318, 1319, 84, 0]),
  (81, mr_X8_waited, [0, 725, 726, 727, 75, 0]),
  (84, mr_X9_waited, [0, 1325, 1326, 1327, 84, 0]),
  (85, mr_X8_thirst, [0, 729, 730, 731, 75, 0]),
  (88, mr_X9_thirst, [0, 1333, 1334, 1335, 84, 0]),
  (89, mr_X8_better, [0, 733, 734, 735, 75, 0]),
  (92, mr_X9_better, [0, 1341, 1342, 1343, 84, 0]),
  (93, mr_X8_fill, [0, 770, 771, 772, 75, 0]),
  (96, mr_X9_fill, [0, 1357, 1358, 1359, 84, 0]),
  (97, mr_X8_come, [0, 774, 775, 776, 75, 0]),
  (100, mr_X9_come, [0, 1365, 1366, 1367, 84, 0]),
  (101, mr_X8_spare, [0, 781, 782, 783, 75, 0]),
  (104, mr_X9_spare, [0, 1373, 1374, 1375, 84, 0]),
  (105, mr_X8_seen, [0, 796, 797, 798, 75, 0]),
  (108, mr_X9_seen, [0, 1389, 1390, 1391, 84, 0]),
  (109, mr_X8_forget, [0, 800, 801, 802, 75, 0]),
  (112, mr_X9_forget, [0, 1393, 1394, 1395, 84, 0]),
  (113, mr_X8_never, [0, 804, 805, 806, 75, 0]),
  (116, mr_X9_never, [0, 1397, 1398, 1399, 84, 0]),
  (117, mr_X8_waters, [0, 816, 817, 818, 75, 0]),
  (120, mr_X9_waters, [0, 1409, 1410, 1411, 84, 0]),
  (121, mr_X8_kind, [0, 824, 825, 826, 75, 0]),
  (124, mr_X9_kind, [0, 1417, 1418, 1419, 84, 0]),
  (125, mr_X8_ask, [0, 828, 829, 830, 75, 0]),
  (128, mr_X9_ask, [0, 1425, 1426, 1427, 84, 0]),
  (129, mr_X8_chance, [0, 838, 839, 840, 75, 0]),
  (133, mr_X9_chance, [0, 1436, 1437, 1438, 84, 0]),
  (134, mr_X8_evenings, [0, 850, 851, 852, 75, 0]),
  (137, mr_X9_evenings, [0, 1451, 1452, 1453, 84, 0]),
  (138, mr_X8_sheet, [0, 863, 864, 865, 75, 0]),
  (141, mr_X9_sheet, [0, 1460, 1461, 1462, 84, 0]),
  (142, mr_X8_lose, [0, 872, 873, 874, 75, 0]),
  (145, mr_X9_lose, [0, 1464, 1465, 1466, 84, 0]),
  (146, mr_X8_put, [0, 876, 877, 878, 75, 0]),
  (150, mr_X9_put, [0, 1468, 1469, 1470, 84, 0]),
  (151, mr_X8_get, [0, 888, 889, 890, 75, 0]),
  (154, mr_X9_get, [0, 1480, 1481, 1482, 84, 0]),
  (155, mr_X8_copy, [0, 893, 894, 895, 75, 0]),
  (159, mr_X9_copy, [0, 1485, 1486, 1487, 84, 0]),
  (160, mr_X8_write, [0, 902, 903, 904, 75, 0]),
  (163, mr_X9_write, [0, 1489, 1490, 1491, 84, 0]),
  (164, mr_X8_count, [0, 907, 908, 909, 75, 0]),
  (167, mr_X9_count, [0, 1493, 1494, 1495, 84, 0]),
  (168, mr_X8_digest, [0, 912, 913, 914, 75, 0]),
  (172, mr_X9_digest, [0, 1501, 1502, 1503, 84, 0])]
def am_mlt : Nat → List ML := fun o => match o with
  | 0 => mlt_0
  | 1 => mlt_1
  | 2 => mlt_2
  | 3 => mlt_3
  | 4 => mlt_4
  | 5 => mlt_5
  | 6 => mlt_6
  | 7 => mlt_7
  | 8 => mlt_8
  | 9 => mlt_9
  | 10 => mlt_10
  | 11 => mlt_11
  | 12 => mlt_12
  | 13 => mlt_13
  | 14 => mlt_14
  | 15 => mlt_15
  | _ => []
def am_mfind : List ML → Nat → Option (MR × List Nat)
  | [], _ => none
  | q :: l, i => bif Nat.beq q.1 i then some q.2 else am_mfind l i
theorem am_mfind_mem : ∀ {l : List ML} {i : Nat} {v : MR × List Nat}, am_mfind l i = some v → (i, v) ∈ l
  | [], _, _, h => by cases h
  | (j, w) :: l, i, v, h => by
    unfold am_mfind at h
    cases hq : Nat.beq j i with
    | true =>
      simp only [hq, cond_true, Option.some.injEq] at h
      rw [← Nat.eq_of_beq_eq_true hq, ← h]
      exact List.mem_cons_self
    | false =>
      simp only [hq, cond_false] at h
      exact List.mem_cons_of_mem _ (am_mfind_mem h)
def am_ml (o idx : Nat) : Option (MR × List Nat) := am_mfind (am_mlt o) idx
def am_gm : Nat := 126
def am_gf : Nat := 132
def am_gw : Nat := 113
end
section
/-! what an instruction does -/
def am_cls (i : Nat) : Option Nat := match am_shp[i]? with
  | some (.inr q) => some q.1
  | some (.inl _) => none
  | none => if i = 200 ∨ i = 201 then some 10 else none
/-- the value of a field -/
def am_fv (h : AH) (i ci k : Nat) : Option Value := match am_shp[i]? with
  | some (.inr q) => if q.1 = ci then (match q.2[k]? with
      | some (some j) => some (.ref j)
      | some none => some (.int (h.1 i k))
      | none => none) else none
  | some (.inl _) => none
  | none => if ci = 100 ∧ (i = 200 ∨ i = 201) then (if k = 0 then some (.int 0) else some (.ref (i + 4))) else none
/-- a field that may be written -/
def am_wr (i ci k : Nat) : Bool := match am_shp[i]? with
  | some (.inr q) => decide (q.1 = ci) && decide (q.2[k]? = some none)
  | _ => false
/-- the length of an array of the world of that kind -/
def am_wa (a kind : Nat) : Option Nat := match am_shp[a]? with
  | some (.inl q) => if q.1 = kind then some q.2 else none
  | _ => none
def am_aI (sc : Option (Nat × (Nat → Int32))) (h : AH) (a : Nat) : Option (Nat × (Nat → Int32)) := match am_shp[a]? with
  | some (.inl q) => if q.1 = 0 then some (q.2, h.2.1 a) else none
  | some (.inr _) => none
  | none => am_roI sc a
def am_aB (h : AH) (a : Nat) : Option (Nat × (Nat → Int32)) := match am_shp[a]? with
  | some (.inl q) => if q.1 = 2 then some (q.2, h.2.1 a) else none
  | some (.inr _) => none
  | none => am_roB a
def am_alen (sc : Option (Nat × (Nat → Int32))) (a : Nat) : Option Nat := match am_shp[a]? with
  | some (.inl q) => some q.2
  | some (.inr _) => none
  | none => match am_roB a with
    | some q => some q.1
    | none => match am_roI sc a with
      | some q => some q.1
      | none => none
def am_cpok (sp dp n : Int32) (na nb : Nat) : Bool := !(decide (sp < 0)) && (!(decide (dp < 0)) && (!(decide (n < 0)) && (decide (sp.toNatClampNeg + n.toNatClampNeg ≤ na) && decide (dp.toNatClampNeg + n.toNatClampNeg ≤ nb))))
def am_retok (r : Option FieldType) (v : Int32) : Bool := match r with
  | some .int => true
  | some .boolean => decide (v = 0) || decide (v = 1)
  | some .byte => decide (v = 0)
  | _ => false
def am_refret (r : Option FieldType) : Bool := match r with
  | some (.object _) => true
  | some (.array _) => true
  | _ => false
def am_ii (pc : Nat) (lv : LV) (st : List Value) (h : AH) (f : Int32 → Int32 → Int32) : Option ACT := match st with
  | .int y :: .int x :: r => some (.inl (pc + 1, lv, .int (f x y) :: r, h))
  | _ => none
def am_ll (pc : Nat) (lv : LV) (st : List Value) (h : AH) (f : Int64 → Int64 → Int64) : Option ACT := match st with
  | .long y :: .long x :: r => some (.inl (pc + 1, lv, .long (f x y) :: r, h))
  | _ => none
def am_load (p : Value → Bool) (pc : Nat) (lv : LV) (st : List Value) (h : AH) (i : Nat) : Option ACT := match am_get lv i with
  | some v => bif p v then some (.inl (pc, lv, v :: st, h)) else none
  | none => none
def am_store (p : Value → Bool) (L pc : Nat) (lv : LV) (st : List Value) (h : AH) (i : Nat) : Option ACT := match st with
  | v :: r => bif p v && Nat.blt i L then some (.inl (pc, am_st1 lv i v, r, h)) else none
  | [] => none
def am_storeL (L pc : Nat) (lv : LV) (st : List Value) (h : AH) (i : Nat) : Option ACT := match st with
  | v :: r => bif am_isLong v && Nat.blt (i + 1) L then some (.inl (pc, am_st2 lv i v, r, h)) else none
  | [] => none
/-- a call's room -/
def am_fits (R R' : MR) (as rest : List Value) : Bool := Nat.ble (mr_f R' + 1) (mr_f R) && (Nat.ble (8 + (mr_L R' + 11) + mr_w R') (mr_w R) && (Nat.ble (am_cat as) (mr_L R') && Nat.ble (am_cat rest) 8))
def am_callS (R : MR) (idx : Nat) (st : List Value) : Option ACT := match am_ml (mr_o R) idx with
  | some (R', kd :: _) => bif !(Nat.beq kd 0) && (Nat.ble (mr_n R') st.length && am_fits R R' (st.take (mr_n R')).reverse (st.drop (mr_n R'))) then some (.inr (.inr (R', (st.take (mr_n R')).reverse, st.drop (mr_n R')))) else none
  | _ => none
def am_callV (R : MR) (idx : Nat) (st : List Value) : Option ACT := match am_ml (mr_o R) idx with
  | some (R', kd :: _) => match st.drop (mr_n R') with
    | .ref i :: rest => bif Nat.beq kd 0 && (Nat.ble (mr_n R') st.length && (decide (am_cls i = some (mr_o R')) && am_fits R R' (.ref i :: (st.take (mr_n R')).reverse) rest)) then some (.inr (.inr (R', .ref i :: (st.take (mr_n R')).reverse, rest))) else none
    | _ => none
  | _ => none
def am_copy (R : MR) (pc : Nat) (lv : LV) (st : List Value) (h : AH) : Option ACT := match st with
  | .int n :: .int dp :: .ref b :: .int sp :: .ref a :: r => match am_wa a 0, am_wa b 0 with
    | some na, some nb => bif Nat.ble 1 (mr_f R) && Nat.ble (am_cat r + 18) (mr_w R) then (bif am_cpok sp dp n na nb then some (.inl (pc + 3, lv, r, am_sa h b (va_cpy (h.2.1 a) (h.2.1 b) sp.toNatClampNeg dp.toNatClampNeg n.toNatClampNeg))) else none) else none
    | _, _ => none
  | _ => none
def am_mm (R : MR) (pc : Nat) (lv : LV) (st : List Value) (h : AH) (f : Int32 → Int32 → Int32) : Option ACT := match st with
  | .int y :: .int x :: r => bif Nat.ble 1 (mr_f R) && Nat.ble (am_cat r + 13) (mr_w R) then some (.inl (pc + 3, lv, .int (f x y) :: r, h)) else none
  | _ => none
def am_max (x y : Int32) : Int32 := if x < y then y else x
def am_min (x y : Int32) : Int32 := if y < x then y else x
def am_exec (sc : Option (Nat × (Nat → Int32))) (R : MR) (pc : Nat) (i : Jvm.ClassFile.Instr) (tg : Nat) (ex : List Nat) (sw : List (Int32 × Nat)) (lg : Int64) (lv : LV) (st : List Value) (h : AH) : Option ACT := match i with
  | .iconst _ => match sw with
    | q :: _ => some (.inl (pc + 1, lv, .int q.1 :: st, h))
    | [] => none
  | .bipush _ => match sw with
    | q :: _ => some (.inl (pc + 2, lv, .int q.1 :: st, h))
    | [] => none
  | .sipush _ => match sw with
    | q :: _ => some (.inl (pc + 3, lv, .int q.1 :: st, h))
    | [] => none
  | .ldc _ => match sw with
    | q :: _ => some (.inl (pc + 2, lv, .int q.1 :: st, h))
    | [] => none
  | .ldc_w _ => match sw with
    | q :: _ => some (.inl (pc + 3, lv, .int q.1 :: st, h))
    | [] => none
  | .lconst _ => some (.inl (pc + 1, lv, .long lg :: st, h))
  | .ldc2_w _ => some (.inl (pc + 3, lv, .long lg :: st, h))
  | .aconst_null => some (.inl (pc + 1, lv, .null :: st, h))
  | .iload_n k => am_load am_isInt (pc + 1) lv st h k
  | .iload k => am_load am_isInt (pc + 2) lv st h k
  | .lload_n k => am_load am_isLong (pc + 1) lv st h k
  | .lload k => am_load am_isLong (pc + 2) lv st h k
  | .aload_n k => am_load am_isRef (pc + 1) lv st h k
  | .aload k => am_load am_isRef (pc + 2) lv st h k
  | .istore_n k => am_store am_isInt (mr_L R) (pc + 1) lv st h k
  | .istore k => am_store am_isInt (mr_L R) (pc + 2) lv st h k
  | .astore_n k => am_store am_isRef (mr_L R) (pc + 1) lv st h k
  | .astore k => am_store am_isRef (mr_L R) (pc + 2) lv st h k
  | .lstore_n k => am_storeL (mr_L R) (pc + 1) lv st h k
  | .lstore k => am_storeL (mr_L R) (pc + 2) lv st h k
  | .iinc k _ => match am_get lv k, sw with
    | some (.int x), q :: _ => bif Nat.blt k (mr_L R) then some (.inl (pc + 3, am_st1 lv k (.int (x + q.1)), st, h)) else none
    | _, _ => none
  | .iadd => am_ii pc lv st h (fun x y => x + y)
  | .isub => am_ii pc lv st h (fun x y => x - y)
  | .imul => am_ii pc lv st h (fun x y => x * y)
  | .iand => am_ii pc lv st h (fun x y => x &&& y)
  | .ior => am_ii pc lv st h (fun x y => x ||| y)
  | .ixor => am_ii pc lv st h (fun x y => x ^^^ y)
  | .ishl => am_ii pc lv st h (fun x y => x <<< (y &&& 31))
  | .ishr => am_ii pc lv st h (fun x y => x >>> (y &&& 31))
  | .iushr => am_ii pc lv st h (fun x y => (x.toUInt32 >>> (y.toUInt32 &&& Int32.toUInt32 31)).toInt32)
  | .idiv => match st with
    | .int y :: .int x :: r => if y = 0 then none else some (.inl (pc + 1, lv, .int (x / y) :: r, h))
    | _ => none
  | .irem => match st with
    | .int y :: .int x :: r => if y = 0 then none else some (.inl (pc + 1, lv, .int (x - x / y * y) :: r, h))
    | _ => none
  | .ladd => am_ll pc lv st h (fun x y => x + y)
  | .lsub => am_ll pc lv st h (fun x y => x - y)
  | .lmul => am_ll pc lv st h (fun x y => x * y)
  | .land => am_ll pc lv st h (fun x y => x &&& y)
  | .lor => am_ll pc lv st h (fun x y => x ||| y)
  | .ldiv => match st with
    | .long y :: .long x :: r => if y = 0 then none else some (.inl (pc + 1, lv, .long (x / y) :: r, h))
    | _ => none
  | .lrem => match st with
    | .long y :: .long x :: r => if y = 0 then none else some (.inl (pc + 1, lv, .long (x - x / y * y) :: r, h))
    | _ => none
  | .lshl => match st with
    | .int y :: .long x :: r => some (.inl (pc + 1, lv, .long (x <<< (y.toInt64 &&& 63)) :: r, h))
    | _ => none
  | .lshr => match st with
    | .int y :: .long x :: r => some (.inl (pc + 1, lv, .long (x >>> (y.toInt64 &&& 63)) :: r, h))
    | _ => none
  | .lcmp => match st with
    | .long y :: .long x :: r => some (.inl (pc + 1, lv, .int (lg_cmp x y) :: r, h))
    | _ => none
  | .i2l => match st with
    | .int x :: r => some (.inl (pc + 1, lv, .long x.toInt64 :: r, h))
    | _ => none
  | .l2i => match st with
    | .long x :: r => some (.inl (pc + 1, lv, .int x.toInt32 :: r, h))
    | _ => none
  | .i2b => match st with
    | .int x :: r => some (.inl (pc + 1, lv, .int x.toInt8.toInt32 :: r, h))
    | _ => none
  | .i2s => match st with
    | .int x :: r => some (.inl (pc + 1, lv, .int x.toInt16.toInt32 :: r, h))
    | _ => none
  | .i2c => match st with
    | .int x :: r => some (.inl (pc + 1, lv, .int (x.toUInt32 % 65536).toInt32 :: r, h))
    | _ => none
  | .dup => match st with
    | v :: r => bif Nat.beq v.category 1 then some (.inl (pc + 1, lv, v :: v :: r, h)) else none
    | _ => none
  | .dup2 => match st with
    | v :: w :: r => bif Nat.beq v.category 1 && Nat.beq w.category 1 then some (.inl (pc + 1, lv, v :: w :: v :: w :: r, h)) else none
    | _ => none
  | .goto _ => some (.inl (tg, lv, st, h))
  | .if_icmp c _ => match st with
    | .int y :: .int x :: r => some (.inl (bif am_cmp c x y then tg else pc + 3, lv, r, h))
    | _ => none
  | .ifCond c _ => match st with
    | .int x :: r => some (.inl (bif am_cmp c x 0 then tg else pc + 3, lv, r, h))
    | _ => none
  | .ifnull _ => match st with
    | .ref _ :: r => some (.inl (pc + 3, lv, r, h))
    | .null :: r => some (.inl (tg, lv, r, h))
    | _ => none
  | .ifnonnull _ => match st with
    | .ref _ :: r => some (.inl (tg, lv, r, h))
    | .null :: r => some (.inl (pc + 3, lv, r, h))
    | _ => none
  | .tableswitch _ _ _ _ => match st with
    | .int x :: r => some (.inl (am_sel x sw tg, lv, r, h))
    | _ => none
  | .lookupswitch _ _ => match st with
    | .int x :: r => some (.inl (am_sel x sw tg, lv, r, h))
    | _ => none
  | .getfield _ => match st, ex with
    | .ref a :: r, ci :: k :: _ => match am_fv h a ci k with
      | some v => some (.inl (pc + 3, lv, v :: r, h))
      | none => none
    | _, _ => none
  | .putfield _ => match st, ex with
    | .int v :: .ref a :: r, [ci, k, _, b] => bif am_wr a ci k && (Nat.beq b 0 || (decide (v = 0) || decide (v = 1))) then some (.inl (pc + 3, lv, r, am_sf h a k v)) else none
    | _, _ => none
  | .getstatic _ => match ex with
    | [0, _] => some (.inl (pc + 3, lv, .int 1 :: st, h))
    | [1, _] => some (.inl (pc + 3, lv, .ref 202 :: st, h))
    | [2, _] => some (.inl (pc + 3, lv, .ref 203 :: st, h))
    | _ => none
  | .iaload => match st with
    | .int j :: .ref a :: r => match am_aI sc h a with
      | some q => bif am_in j q.1 then some (.inl (pc + 1, lv, .int (q.2 j.toNatClampNeg) :: r, h)) else none
      | none => none
    | _ => none
  | .baload => match st with
    | .int j :: .ref a :: r => match am_aB h a with
      | some q => bif am_in j q.1 then some (.inl (pc + 1, lv, .int (q.2 j.toNatClampNeg) :: r, h)) else none
      | none => none
    | _ => none
  | .laload => match st with
    | .int j :: .ref a :: r => match am_wa a 1 with
      | some n => bif am_in j n then some (.inl (pc + 1, lv, .long (h.2.2 a j.toNatClampNeg) :: r, h)) else none
      | none => none
    | _ => none
  | .iastore => match st with
    | .int x :: .int j :: .ref a :: r => match am_wa a 0 with
      | some n => bif am_in j n then some (.inl (pc + 1, lv, r, am_sa h a (upd (h.2.1 a) j.toNatClampNeg x))) else none
      | none => none
    | _ => none
  | .bastore => match st with
    | .int x :: .int j :: .ref a :: r => match am_wa a 2 with
      | some n => bif am_in j n then some (.inl (pc + 1, lv, r, am_sa h a (upd (h.2.1 a) j.toNatClampNeg (vp_nar .boolean x)))) else none
      | none => none
    | _ => none
  | .lastore => match st with
    | .long x :: .int j :: .ref a :: r => match am_wa a 1 with
      | some n => bif am_in j n then some (.inl (pc + 1, lv, r, am_sl h a (vp_updL (h.2.2 a) j.toNatClampNeg x))) else none
      | none => none
    | _ => none
  | .arraylength => match st with
    | .ref a :: r => match am_alen sc a with
      | some n => some (.inl (pc + 1, lv, .int (Int32.ofNat n) :: r, h))
      | none => none
    | _ => none
  | .invokestatic idx => match ex with
    | 0 :: _ => am_callS R idx st
    | 1 :: _ => am_copy R pc lv st h
    | 2 :: _ => am_mm R pc lv st h am_max
    | 3 :: _ => am_mm R pc lv st h am_min
    | _ => none
  | .invokevirtual idx => am_callV R idx st
  | .ireturn => match st with
    | [.int v] => bif am_retok (mr_r R) v then some (.inr (.inl (some (.int v)))) else none
    | _ => none
  | .lreturn => match st with
    | [.long v] => bif decide (mr_r R = some .long) then some (.inr (.inl (some (.long v)))) else none
    | _ => none
  | .areturn => match st with
    | [v] => bif am_isRef v && am_refret (mr_r R) then some (.inr (.inl (some v))) else none
    | _ => none
  | .return_ => match st with
    | [] => bif decide (mr_r R = none) then some (.inr (.inl none)) else none
    | _ => none
  | _ => none
def am_step (sc : Option (Nat × (Nat → Int32))) (R : MR) (A : AS) : Option ACT := match am_row (mr_c R) A.1 with
  | some q => am_exec sc R A.1 q.1 q.2.1 q.2.2.1 q.2.2.2.1 q.2.2.2.2 A.2.1 A.2.2.1 A.2.2.2
  | none => none
def am_run : Nat → Option (Nat × (Nat → Int32)) → MR → AS → Option (Option Value × AH)
  | 0, _, _, _ => none
  | n + 1, sc, R, A => match am_step sc R A with
    | some (.inl B) => am_run n sc R B
    | some (.inr (.inl v)) => some (v, A.2.2.2)
    | some (.inr (.inr q)) => match am_run n none q.1 (0, lv_args 0 q.2.1, [], A.2.2.2) with
      | some w => am_run n sc R (A.1 + 3, A.2.1, w.1.toList ++ q.2.2, w.2)
      | none => none
    | none => none
end
section
/-! what the rows must keep: decided by the kernel, a method at a time -/
def am_wd (p : Nat) (w : Jvm.Cond) : Bool := decide (lw_tbl[p]? = some w) && goodWord w
theorem am_wd_mem {p : Nat} {w : Jvm.Cond} (h : am_wd p w = true) : w ∈ am_all := by
  simp only [am_wd, Bool.and_eq_true, decide_eq_true_eq] at h
  exact am_mem p h.1 h.2
def am_isSw : Jvm.ClassFile.Instr → Bool
  | .tableswitch _ _ _ _ => true
  | .lookupswitch _ _ => true
  | _ => false
def am_tsw (pc : Nat) : Int → List Int → List (Int32 × Nat) → Bool
  | lo, o :: os, q :: qs => decide (q.1.toInt = lo) && (decide ((pc : Int) + o = (q.2 : Int)) && am_tsw pc (lo + 1) os qs)
  | _, [], [] => true
  | _, _, _ => false
def am_lsw (pc : Nat) : List (Int × Int) → List (Int32 × Nat) → Bool
  | a :: os, q :: qs => decide (q.1.toInt = a.1) && (decide ((pc : Int) + a.2 = (q.2 : Int)) && am_lsw pc os qs)
  | [], [] => true
  | _, _ => false
def am_fl (o idx : Nat) (ex : List Nat) : Bool := match ex with
  | ci :: k :: p :: _ => if ci = 100 then decide (k < 2) && am_wd p (.fieldLink (am_cn o) idx "java/lang/String" (if k = 0 then "coder" else "value") (if k = 0 then "B" else "[B")) else match am_cl[ci]? with
    | some q => decide (k < q.2.2) && am_wd p (.fieldLink (am_cn o) idx (q.2.1 k).1 (q.2.1 k).2.1 (q.2.1 k).2.2.1)
    | none => false
  | _ => false
def am_pl (o idx : Nat) (ex : List Nat) : Bool := match ex with
  | [ci, k, p, b] => match am_cl[ci]? with
    | some q => decide (k < q.2.2) && (am_wd p (.fieldLink (am_cn o) idx (q.2.1 k).1 (q.2.1 k).2.1 (q.2.1 k).2.2.1) && (!((q.2.1 k).2.2.2) && decide (parseFieldDescriptor (q.2.1 k).2.2.1 = some (if b = 0 then .int else .boolean))))
    | none => false
  | _ => false
def am_rowx (o : Nat) (r : RW) : Bool := match r.2.1 with
  | .iconst n => match r.2.2.2.2.1 with
    | q :: _ => decide (Int32.ofInt n = q.1)
    | [] => false
  | .bipush n => match r.2.2.2.2.1 with
    | q :: _ => decide ((Int8.ofInt n).toInt32 = q.1)
    | [] => false
  | .sipush n => match r.2.2.2.2.1 with
    | q :: _ => decide ((Int16.ofInt n).toInt32 = q.1)
    | [] => false
  | .iinc _ n => match r.2.2.2.2.1 with
    | q :: _ => decide (Int32.ofInt n = q.1)
    | [] => false
  | .lconst n => decide (Int64.ofNat n = r.2.2.2.2.2)
  | .goto off => decide ((r.1 : Int) + off = (r.2.2.1 : Int))
  | .if_icmp _ off => decide ((r.1 : Int) + off = (r.2.2.1 : Int))
  | .ifCond _ off => decide ((r.1 : Int) + off = (r.2.2.1 : Int))
  | .ifnull off => decide ((r.1 : Int) + off = (r.2.2.1 : Int))
  | .ifnonnull off => decide ((r.1 : Int) + off = (r.2.2.1 : Int))
  | .ldc idx => match r.2.2.2.2.1 with
    | q :: _ => am_wd r.2.2.1 (.constant (am_cn o) idx q.1)
    | [] => false
  | .ldc_w idx => match r.2.2.2.2.1 with
    | q :: _ => am_wd r.2.2.1 (.constant (am_cn o) idx q.1)
    | [] => false
  | .ldc2_w idx => am_wd r.2.2.1 (.constantLong (am_cn o) idx r.2.2.2.2.2)
  | .tableswitch d lo hi offs => am_tsw r.1 lo offs.toList r.2.2.2.2.1 && (decide (hi + 1 = lo + offs.toList.length) && decide ((r.1 : Int) + d = (r.2.2.1 : Int)))
  | .lookupswitch d ps => am_lsw r.1 ps.toList r.2.2.2.2.1 && ((ps.toList.zip (ps.toList.drop 1)).all (fun (a, next) => a.1 < next.1) && decide ((r.1 : Int) + d = (r.2.2.1 : Int)))
  | .getfield idx => am_fl o idx r.2.2.2.1
  | .putfield idx => am_pl o idx r.2.2.2.1
  | .getstatic idx => match r.2.2.2.1 with
    | [0, p] => am_wd p (.fieldLink (am_cn o) idx "java/lang/String" "COMPACT_STRINGS" "Z")
    | [1, _] => decide (o = 2 ∧ idx = am_gm)
    | [2, _] => decide (o = 2 ∧ idx = am_gf)
    | _ => false
  | .invokestatic idx => match r.2.2.2.1 with
    | 0 :: _ => true
    | [1, p] => am_wd p (.methodLink (am_cn o) idx arraycopyName)
    | [2, p] => am_wd p (.methodLink (am_cn o) idx Lib.Math.max.name)
    | [3, p] => am_wd p (.methodLink (am_cn o) idx Lib.Math.min.name)
    | _ => false
  | _ => true
def am_rowok (o : Nat) (b : ByteArray) (r : RW) : Bool := (match decode b r.1 with
    | .ok (j, n) => decide (j = r.2.1) && (am_isSw r.2.1 || Nat.beq n (am_len r.2.1))
    | .error _ => false) && am_rowx o r
/-- a method's own words -/
def am_nm (R : MR) : Bool := decide ((mr_y R).cls = am_cn (mr_o R)) && (Jvm.plainName (mr_y R).cls && (!(decide ((mr_y R).cls = "java/lang/invoke/MethodHandle")) && (!(decide ((mr_y R).cls = "java/lang/invoke/VarHandle")) && decide ((parseMethodDescriptor (mr_y R).desc).map (fun d => d.parameters.length) = some (mr_n R)))))
/-- a method that keeps its rows -/
def am_G (R : MR) : Prop := (mr_c R).all (am_rowok (mr_o R) (mr_b R)) = true ∧ am_nm R = true ∧ Jvm.Cond.code (mr_y R) (mr_b R) (mr_L R) (mr_r R) ∈ am_all
def am_mlk (o : Nat) (e : ML) : Bool := match e.2.2 with
  | [0, p1, p2, p3, p4, _] => am_wd p1 (.methodLink (am_cn o) e.1 (mr_y e.2.1)) && (am_wd p2 (.instanceMethod (mr_y e.2.1)) && (am_wd p3 (.selects (mr_y e.2.1).cls (mr_y e.2.1) (mr_y e.2.1)) && (am_wd p4 (.initialized (mr_y e.2.1).cls))))
  | [1, p1, p2, _, p4, _] => am_wd p1 (.methodLink (am_cn o) e.1 (mr_y e.2.1)) && (am_wd p2 (.static (mr_y e.2.1)) && (am_wd p4 (.initialized (mr_y e.2.1).cls)))
  | [2, _, p2, _, p4, _] => decide (o = 2 ∧ e.1 = am_gw ∧ mr_y e.2.1 = ⟨"Samovar", "within", "(II)Z"⟩) && (am_wd p2 (.static (mr_y e.2.1)) && (am_wd p4 (.initialized (mr_y e.2.1).cls)))
  | _ => false
/-- a link that keeps its words -/
def am_GL (o : Nat) (e : ML) : Prop := am_mlk o e = true ∧ am_G e.2.1
end
section
theorem t_in_all : ∀ w ∈ tables_1, w ∈ lw_tbl := fun w h => List.mem_append_right _ h
theorem t_in_1 : ∀ w ∈ tables_1_1, w ∈ lw_tbl := fun w h => t_in_all w (List.mem_append_left _ h)
theorem t_in_2 : ∀ w ∈ tables_1_2, w ∈ lw_tbl := fun w h => t_in_all w (List.mem_append_right _ (List.mem_append_left _ h))
theorem t_in_3 : ∀ w ∈ tables_1_3, w ∈ lw_tbl := fun w h => t_in_all w (List.mem_append_right _ (List.mem_append_right _ (List.mem_append_left _ h)))
theorem t_in_4 : ∀ w ∈ tables_1_4, w ∈ lw_tbl := fun w h => t_in_all w (List.mem_append_right _ (List.mem_append_right _ (List.mem_append_right _ (List.mem_append_left _ h))))
theorem t_in_5 : ∀ w ∈ tables_1_5, w ∈ lw_tbl := fun w h => t_in_all w (List.mem_append_right _ (List.mem_append_right _ (List.mem_append_right _ (List.mem_append_right _ (List.mem_append_left _ h)))))
theorem t_in_6 : ∀ w ∈ tables_1_6, w ∈ lw_tbl := fun w h => t_in_all w (List.mem_append_right _ (List.mem_append_right _ (List.mem_append_right _ (List.mem_append_right _ (List.mem_append_right _ (List.mem_append_left _ h))))))
theorem t_in_7 : ∀ w ∈ tables_1_7, w ∈ lw_tbl := fun w h => t_in_all w (List.mem_append_right _ (List.mem_append_right _ (List.mem_append_right _ (List.mem_append_right _ (List.mem_append_right _ (List.mem_append_right _ (h)))))))
theorem am_memT {w : Jvm.Cond} (h : w ∈ lw_tbl) (hg : goodWord w = true) : w ∈ am_all := List.mem_filter.mpr ⟨h, hg⟩
end
section
set_option maxRecDepth 100000 in
theorem gk_X8_textAt : am_G mr_X8_textAt := ⟨by decide +kernel, by decide +kernel, am_memT (t_in_2 _ (List.mem_of_getElem? (i := 115) rfl)) rfl⟩
set_option maxRecDepth 100000 in
theorem gk_X8_within : am_G mr_X8_within := ⟨by decide +kernel, by decide +kernel, am_memT (t_in_2 _ (List.mem_of_getElem? (i := 118) rfl)) rfl⟩
set_option maxRecDepth 100000 in
theorem gk_J10_isLatin1 : am_G mr_J10_isLatin1 := ⟨by decide +kernel, by decide +kernel, am_memT (t_in_2 _ (List.mem_of_getElem? (i := 146) rfl)) rfl⟩
set_option maxRecDepth 100000 in
theorem gk_J10_coder : am_G mr_J10_coder := ⟨by decide +kernel, by decide +kernel, am_memT (t_in_2 _ (List.mem_of_getElem? (i := 156) rfl)) rfl⟩
set_option maxRecDepth 100000 in
theorem gk_J10_length : am_G mr_J10_length := ⟨by decide +kernel, by decide +kernel, am_memT (t_in_2 _ (List.mem_of_getElem? (i := 152) rfl)) rfl⟩
set_option maxRecDepth 100000 in
theorem gk_J11_canEncode : am_G mr_J11_canEncode := ⟨by decide +kernel, by decide +kernel, am_memT (t_in_2 _ (List.mem_of_getElem? (i := 162) rfl)) rfl⟩
set_option maxRecDepth 100000 in
theorem gk_J11_indexOfChar : am_G mr_J11_indexOfChar := ⟨by decide +kernel, by decide +kernel, am_memT (t_in_2 _ (List.mem_of_getElem? (i := 171) rfl)) rfl⟩
set_option maxRecDepth 100000 in
theorem gk_J11_indexOf : am_G mr_J11_indexOf := ⟨by decide +kernel, by decide +kernel, am_memT (t_in_2 _ (List.mem_of_getElem? (i := 159) rfl)) rfl⟩
set_option maxRecDepth 100000 in
theorem gk_J10_indexOf_2 : am_G mr_J10_indexOf_2 := ⟨by decide +kernel, by decide +kernel, am_memT (t_in_2 _ (List.mem_of_getElem? (i := 142) rfl)) rfl⟩
set_option maxRecDepth 100000 in
theorem gk_J10_indexOf_1 : am_G mr_J10_indexOf_1 := ⟨by decide +kernel, by decide +kernel, am_memT (t_in_2 _ (List.mem_of_getElem? (i := 138) rfl)) rfl⟩
set_option maxRecDepth 100000 in
theorem gk_X6_fits : am_G mr_X6_fits := ⟨by decide +kernel, by decide +kernel, am_memT (t_in_2 _ (List.mem_of_getElem? (i := 134) rfl)) rfl⟩
set_option maxRecDepth 100000 in
theorem gk_X1_add : am_G mr_X1_add := ⟨by decide +kernel, by decide +kernel, am_memT (t_in_2 _ (List.mem_of_getElem? (i := 224) rfl)) rfl⟩
set_option maxRecDepth 100000 in
theorem gk_X6_firstFault : am_G mr_X6_firstFault := ⟨by decide +kernel, by decide +kernel, am_memT (t_in_2 _ (List.mem_of_getElem? (i := 130) rfl)) rfl⟩
set_option maxRecDepth 100000 in
theorem gk_X6_scan : am_G mr_X6_scan := ⟨by decide +kernel, by decide +kernel, am_memT (t_in_2 _ (List.mem_of_getElem? (i := 126) rfl)) rfl⟩
set_option maxRecDepth 100000 in
theorem gk_X6_append : am_G mr_X6_append := ⟨by decide +kernel, by decide +kernel, am_memT (t_in_2 _ (List.mem_of_getElem? (i := 122) rfl)) rfl⟩
set_option maxRecDepth 100000 in
theorem gk_J14_fill_J : am_G mr_J14_fill_J := ⟨by decide +kernel, by decide +kernel, am_memT (t_in_2 _ (List.mem_of_getElem? (i := 235) rfl)) rfl⟩
set_option maxRecDepth 100000 in
theorem gk_X7_drop : am_G mr_X7_drop := ⟨by decide +kernel, by decide +kernel, am_memT (t_in_2 _ (List.mem_of_getElem? (i := 232) rfl)) rfl⟩
set_option maxRecDepth 100000 in
theorem gk_X8_changed : am_G mr_X8_changed := ⟨by decide +kernel, by decide +kernel, am_memT (t_in_2 _ (List.mem_of_getElem? (i := 228) rfl)) rfl⟩
set_option maxRecDepth 100000 in
theorem gk_X8_type : am_G mr_X8_type := ⟨by decide +kernel, by decide +kernel, am_memT (t_in_2 _ (List.mem_of_getElem? (i := 111) rfl)) rfl⟩
set_option maxRecDepth 100000 in
theorem gk_X9_in : am_G mr_X9_in := ⟨by decide +kernel, by decide +kernel, am_memT (t_in_5 _ (List.mem_of_getElem? (i := 98) rfl)) rfl⟩
set_option maxRecDepth 100000 in
theorem gk_X9_isTwo : am_G mr_X9_isTwo := ⟨by decide +kernel, by decide +kernel, am_memT (t_in_5 _ (List.mem_of_getElem? (i := 95) rfl)) rfl⟩
set_option maxRecDepth 100000 in
theorem gk_X9_type : am_G mr_X9_type := ⟨by decide +kernel, by decide +kernel, am_memT (t_in_5 _ (List.mem_of_getElem? (i := 92) rfl)) rfl⟩
set_option maxRecDepth 100000 in
theorem gk_X6_shorten : am_G mr_X6_shorten := ⟨by decide +kernel, by decide +kernel, am_memT (t_in_3 _ (List.mem_of_getElem? (i := 3) rfl)) rfl⟩
set_option maxRecDepth 100000 in
theorem gk_X8_wipe : am_G mr_X8_wipe := ⟨by decide +kernel, by decide +kernel, am_memT (t_in_2 _ (List.mem_of_getElem? (i := 239) rfl)) rfl⟩
set_option maxRecDepth 100000 in
theorem gk_X9_wipe : am_G mr_X9_wipe := ⟨by decide +kernel, by decide +kernel, am_memT (t_in_5 _ (List.mem_of_getElem? (i := 102) rfl)) rfl⟩
set_option maxRecDepth 100000 in
theorem gk_X8_undo : am_G mr_X8_undo := ⟨by decide +kernel, by decide +kernel, am_memT (t_in_3 _ (List.mem_of_getElem? (i := 7) rfl)) rfl⟩
set_option maxRecDepth 100000 in
theorem gk_X9_undo : am_G mr_X9_undo := ⟨by decide +kernel, by decide +kernel, am_memT (t_in_5 _ (List.mem_of_getElem? (i := 106) rfl)) rfl⟩
set_option maxRecDepth 100000 in
theorem gk_X8_fault : am_G mr_X8_fault := ⟨by decide +kernel, by decide +kernel, am_memT (t_in_3 _ (List.mem_of_getElem? (i := 11) rfl)) rfl⟩
set_option maxRecDepth 100000 in
theorem gk_X9_byteAt : am_G mr_X9_byteAt := ⟨by decide +kernel, by decide +kernel, am_memT (t_in_5 _ (List.mem_of_getElem? (i := 126) rfl)) rfl⟩
set_option maxRecDepth 100000 in
theorem gk_X9_isMinute : am_G mr_X9_isMinute := ⟨by decide +kernel, by decide +kernel, am_memT (t_in_5 _ (List.mem_of_getElem? (i := 129) rfl)) rfl⟩
set_option maxRecDepth 100000 in
theorem gk_X9_readsPart : am_G mr_X9_readsPart := ⟨by decide +kernel, by decide +kernel, am_memT (t_in_5 _ (List.mem_of_getElem? (i := 122) rfl)) rfl⟩
set_option maxRecDepth 100000 in
theorem gk_X9_readsText : am_G mr_X9_readsText := ⟨by decide +kernel, by decide +kernel, am_memT (t_in_5 _ (List.mem_of_getElem? (i := 118) rfl)) rfl⟩
set_option maxRecDepth 100000 in
theorem gk_X9_faultOf : am_G mr_X9_faultOf := ⟨by decide +kernel, by decide +kernel, am_memT (t_in_5 _ (List.mem_of_getElem? (i := 114) rfl)) rfl⟩
set_option maxRecDepth 100000 in
theorem gk_X9_fault : am_G mr_X9_fault := ⟨by decide +kernel, by decide +kernel, am_memT (t_in_5 _ (List.mem_of_getElem? (i := 110) rfl)) rfl⟩
set_option maxRecDepth 100000 in
theorem gk_X1_has : am_G mr_X1_has := ⟨by decide +kernel, by decide +kernel, am_memT (t_in_3 _ (List.mem_of_getElem? (i := 23) rfl)) rfl⟩
set_option maxRecDepth 100000 in
theorem gk_X1_part : am_G mr_X1_part := ⟨by decide +kernel, by decide +kernel, am_memT (t_in_3 _ (List.mem_of_getElem? (i := 19) rfl)) rfl⟩
set_option maxRecDepth 100000 in
theorem gk_X8_piece : am_G mr_X8_piece := ⟨by decide +kernel, by decide +kernel, am_memT (t_in_3 _ (List.mem_of_getElem? (i := 15) rfl)) rfl⟩
set_option maxRecDepth 100000 in
theorem gk_X9_reads : am_G mr_X9_reads := ⟨by decide +kernel, by decide +kernel, am_memT (t_in_5 _ (List.mem_of_getElem? (i := 141) rfl)) rfl⟩
set_option maxRecDepth 100000 in
theorem gk_X9_isPiece : am_G mr_X9_isPiece := ⟨by decide +kernel, by decide +kernel, am_memT (t_in_5 _ (List.mem_of_getElem? (i := 137) rfl)) rfl⟩
set_option maxRecDepth 100000 in
theorem gk_X9_isThree : am_G mr_X9_isThree := ⟨by decide +kernel, by decide +kernel, am_memT (t_in_5 _ (List.mem_of_getElem? (i := 144) rfl)) rfl⟩
set_option maxRecDepth 100000 in
theorem gk_X9_pieceOf : am_G mr_X9_pieceOf := ⟨by decide +kernel, by decide +kernel, am_memT (t_in_5 _ (List.mem_of_getElem? (i := 148) rfl)) rfl⟩
set_option maxRecDepth 100000 in
theorem gk_X9_piece : am_G mr_X9_piece := ⟨by decide +kernel, by decide +kernel, am_memT (t_in_5 _ (List.mem_of_getElem? (i := 133) rfl)) rfl⟩
set_option maxRecDepth 100000 in
theorem gk_X8_guest : am_G mr_X8_guest := ⟨by decide +kernel, by decide +kernel, am_memT (t_in_3 _ (List.mem_of_getElem? (i := 27) rfl)) rfl⟩
set_option maxRecDepth 100000 in
theorem gk_X9_isGuest : am_G mr_X9_isGuest := ⟨by decide +kernel, by decide +kernel, am_memT (t_in_5 _ (List.mem_of_getElem? (i := 156) rfl)) rfl⟩
set_option maxRecDepth 100000 in
theorem gk_X9_guestOf : am_G mr_X9_guestOf := ⟨by decide +kernel, by decide +kernel, am_memT (t_in_5 _ (List.mem_of_getElem? (i := 160) rfl)) rfl⟩
set_option maxRecDepth 100000 in
theorem gk_X9_guest : am_G mr_X9_guest := ⟨by decide +kernel, by decide +kernel, am_memT (t_in_5 _ (List.mem_of_getElem? (i := 152) rfl)) rfl⟩
set_option maxRecDepth 100000 in
theorem gk_X8_set : am_G mr_X8_set := ⟨by decide +kernel, by decide +kernel, am_memT (t_in_3 _ (List.mem_of_getElem? (i := 31) rfl)) rfl⟩
set_option maxRecDepth 100000 in
theorem gk_X9_set : am_G mr_X9_set := ⟨by decide +kernel, by decide +kernel, am_memT (t_in_5 _ (List.mem_of_getElem? (i := 164) rfl)) rfl⟩
set_option maxRecDepth 100000 in
theorem gk_X8_mayBeEvent : am_G mr_X8_mayBeEvent := ⟨by decide +kernel, by decide +kernel, am_memT (t_in_3 _ (List.mem_of_getElem? (i := 38) rfl)) rfl⟩
set_option maxRecDepth 100000 in
theorem gk_X8_event : am_G mr_X8_event := ⟨by decide +kernel, by decide +kernel, am_memT (t_in_3 _ (List.mem_of_getElem? (i := 35) rfl)) rfl⟩
set_option maxRecDepth 100000 in
theorem gk_X9_event : am_G mr_X9_event := ⟨by decide +kernel, by decide +kernel, am_memT (t_in_5 _ (List.mem_of_getElem? (i := 168) rfl)) rfl⟩
set_option maxRecDepth 100000 in
theorem gk_X8_back : am_G mr_X8_back := ⟨by decide +kernel, by decide +kernel, am_memT (t_in_3 _ (List.mem_of_getElem? (i := 43) rfl)) rfl⟩
set_option maxRecDepth 100000 in
theorem gk_X9_back : am_G mr_X9_back := ⟨by decide +kernel, by decide +kernel, am_memT (t_in_5 _ (List.mem_of_getElem? (i := 172) rfl)) rfl⟩
set_option maxRecDepth 100000 in
theorem gk_X8_sheetAt : am_G mr_X8_sheetAt := ⟨by decide +kernel, by decide +kernel, am_memT (t_in_3 _ (List.mem_of_getElem? (i := 51) rfl)) rfl⟩
set_option maxRecDepth 100000 in
theorem gk_X8_found : am_G mr_X8_found := ⟨by decide +kernel, by decide +kernel, am_memT (t_in_3 _ (List.mem_of_getElem? (i := 55) rfl)) rfl⟩
set_option maxRecDepth 100000 in
theorem gk_X5_has : am_G mr_X5_has := ⟨by decide +kernel, by decide +kernel, am_memT (t_in_3 _ (List.mem_of_getElem? (i := 63) rfl)) rfl⟩
set_option maxRecDepth 100000 in
theorem gk_X5_item : am_G mr_X5_item := ⟨by decide +kernel, by decide +kernel, am_memT (t_in_3 _ (List.mem_of_getElem? (i := 59) rfl)) rfl⟩
set_option maxRecDepth 100000 in
theorem gk_X8_read : am_G mr_X8_read := ⟨by decide +kernel, by decide +kernel, am_memT (t_in_3 _ (List.mem_of_getElem? (i := 47) rfl)) rfl⟩
set_option maxRecDepth 100000 in
theorem gk_X9_isSheet : am_G mr_X9_isSheet := ⟨by decide +kernel, by decide +kernel, am_memT (t_in_5 _ (List.mem_of_getElem? (i := 179) rfl)) rfl⟩
set_option maxRecDepth 100000 in
theorem gk_X9_meets : am_G mr_X9_meets := ⟨by decide +kernel, by decide +kernel, am_memT (t_in_5 _ (List.mem_of_getElem? (i := 183) rfl)) rfl⟩
end
section
set_option maxRecDepth 100000 in
theorem gk_X9_read : am_G mr_X9_read := ⟨by decide +kernel, by decide +kernel, am_memT (t_in_5 _ (List.mem_of_getElem? (i := 176) rfl)) rfl⟩
set_option maxRecDepth 100000 in
theorem gk_X3_begin : am_G mr_X3_begin := ⟨by decide +kernel, by decide +kernel, am_memT (t_in_3 _ (List.mem_of_getElem? (i := 79) rfl)) rfl⟩
set_option maxRecDepth 100000 in
theorem gk_J14_fill_I : am_G mr_J14_fill_I := ⟨by decide +kernel, by decide +kernel, am_memT (t_in_3 _ (List.mem_of_getElem? (i := 86) rfl)) rfl⟩
set_option maxRecDepth 100000 in
theorem gk_X0_begin : am_G mr_X0_begin := ⟨by decide +kernel, by decide +kernel, am_memT (t_in_3 _ (List.mem_of_getElem? (i := 83) rfl)) rfl⟩
set_option maxRecDepth 100000 in
theorem gk_X2_light : am_G mr_X2_light := ⟨by decide +kernel, by decide +kernel, am_memT (t_in_3 _ (List.mem_of_getElem? (i := 90) rfl)) rfl⟩
set_option maxRecDepth 100000 in
theorem gk_X3_meet : am_G mr_X3_meet := ⟨by decide +kernel, by decide +kernel, am_memT (t_in_3 _ (List.mem_of_getElem? (i := 102) rfl)) rfl⟩
set_option maxRecDepth 100000 in
theorem gk_X3_warm : am_G mr_X3_warm := ⟨by decide +kernel, by decide +kernel, am_memT (t_in_3 _ (List.mem_of_getElem? (i := 108) rfl)) rfl⟩
set_option maxRecDepth 100000 in
theorem gk_X3_boils : am_G mr_X3_boils := ⟨by decide +kernel, by decide +kernel, am_memT (t_in_3 _ (List.mem_of_getElem? (i := 112) rfl)) rfl⟩
set_option maxRecDepth 100000 in
theorem gk_X0_join : am_G mr_X0_join := ⟨by decide +kernel, by decide +kernel, am_memT (t_in_3 _ (List.mem_of_getElem? (i := 120) rfl)) rfl⟩
set_option maxRecDepth 100000 in
theorem gk_X0_lineUp : am_G mr_X0_lineUp := ⟨by decide +kernel, by decide +kernel, am_memT (t_in_3 _ (List.mem_of_getElem? (i := 116) rfl)) rfl⟩
set_option maxRecDepth 100000 in
theorem gk_X0_serve : am_G mr_X0_serve := ⟨by decide +kernel, by decide +kernel, am_memT (t_in_3 _ (List.mem_of_getElem? (i := 124) rfl)) rfl⟩
set_option maxRecDepth 100000 in
theorem gk_X0_losePatience : am_G mr_X0_losePatience := ⟨by decide +kernel, by decide +kernel, am_memT (t_in_3 _ (List.mem_of_getElem? (i := 128) rfl)) rfl⟩
set_option maxRecDepth 100000 in
theorem gk_X2_note : am_G mr_X2_note := ⟨by decide +kernel, by decide +kernel, am_memT (t_in_3 _ (List.mem_of_getElem? (i := 132) rfl)) rfl⟩
set_option maxRecDepth 100000 in
theorem gk_X2_pass : am_G mr_X2_pass := ⟨by decide +kernel, by decide +kernel, am_memT (t_in_3 _ (List.mem_of_getElem? (i := 75) rfl)) rfl⟩
set_option maxRecDepth 100000 in
theorem gk_X8_toldEvening : am_G mr_X8_toldEvening := ⟨by decide +kernel, by decide +kernel, am_memT (t_in_3 _ (List.mem_of_getElem? (i := 71) rfl)) rfl⟩
set_option maxRecDepth 100000 in
theorem gk_X8_at : am_G mr_X8_at := ⟨by decide +kernel, by decide +kernel, am_memT (t_in_3 _ (List.mem_of_getElem? (i := 67) rfl)) rfl⟩
set_option maxRecDepth 100000 in
theorem gk_X9_asTold : am_G mr_X9_asTold := ⟨by decide +kernel, by decide +kernel, am_memT (t_in_5 _ (List.mem_of_getElem? (i := 200) rfl)) rfl⟩
set_option maxRecDepth 100000 in
theorem gk_X9_isIn : am_G mr_X9_isIn := ⟨by decide +kernel, by decide +kernel, am_memT (t_in_5 _ (List.mem_of_getElem? (i := 215) rfl)) rfl⟩
set_option maxRecDepth 100000 in
theorem gk_X9_less : am_G mr_X9_less := ⟨by decide +kernel, by decide +kernel, am_memT (t_in_5 _ (List.mem_of_getElem? (i := 218) rfl)) rfl⟩
set_option maxRecDepth 100000 in
theorem gk_X9_befalls : am_G mr_X9_befalls := ⟨by decide +kernel, by decide +kernel, am_memT (t_in_5 _ (List.mem_of_getElem? (i := 212) rfl)) rfl⟩
set_option maxRecDepth 100000 in
theorem gk_X9_fireAt : am_G mr_X9_fireAt := ⟨by decide +kernel, by decide +kernel, am_memT (t_in_5 _ (List.mem_of_getElem? (i := 222) rfl)) rfl⟩
set_option maxRecDepth 100000 in
theorem gk_X9_joins : am_G mr_X9_joins := ⟨by decide +kernel, by decide +kernel, am_memT (t_in_5 _ (List.mem_of_getElem? (i := 230) rfl)) rfl⟩
set_option maxRecDepth 100000 in
theorem gk_X9_comes : am_G mr_X9_comes := ⟨by decide +kernel, by decide +kernel, am_memT (t_in_5 _ (List.mem_of_getElem? (i := 226) rfl)) rfl⟩
set_option maxRecDepth 100000 in
theorem gk_X9_leaves : am_G mr_X9_leaves := ⟨by decide +kernel, by decide +kernel, am_memT (t_in_5 _ (List.mem_of_getElem? (i := 238) rfl)) rfl⟩
set_option maxRecDepth 100000 in
theorem gk_X9_serves : am_G mr_X9_serves := ⟨by decide +kernel, by decide +kernel, am_memT (t_in_5 _ (List.mem_of_getElem? (i := 234) rfl)) rfl⟩
set_option maxRecDepth 100000 in
theorem gk_X9_goAway : am_G mr_X9_goAway := ⟨by decide +kernel, by decide +kernel, am_memT (t_in_6 _ (List.mem_of_getElem? (i := 2) rfl)) rfl⟩
end
section
set_option maxRecDepth 100000 in
theorem gk_X9_goesBy : am_G mr_X9_goesBy := ⟨by decide +kernel, by decide +kernel, am_memT (t_in_5 _ (List.mem_of_getElem? (i := 208) rfl)) rfl⟩
set_option maxRecDepth 100000 in
theorem gk_X9_runs : am_G mr_X9_runs := ⟨by decide +kernel, by decide +kernel, am_memT (t_in_5 _ (List.mem_of_getElem? (i := 204) rfl)) rfl⟩
set_option maxRecDepth 100000 in
theorem gk_X9_runsTold : am_G mr_X9_runsTold := ⟨by decide +kernel, by decide +kernel, am_memT (t_in_5 _ (List.mem_of_getElem? (i := 196) rfl)) rfl⟩
set_option maxRecDepth 100000 in
theorem gk_X9_atOf : am_G mr_X9_atOf := ⟨by decide +kernel, by decide +kernel, am_memT (t_in_5 _ (List.mem_of_getElem? (i := 192) rfl)) rfl⟩
set_option maxRecDepth 100000 in
theorem gk_X9_at : am_G mr_X9_at := ⟨by decide +kernel, by decide +kernel, am_memT (t_in_5 _ (List.mem_of_getElem? (i := 188) rfl)) rfl⟩
set_option maxRecDepth 100000 in
theorem gk_X2_stateOf : am_G mr_X2_stateOf := ⟨by decide +kernel, by decide +kernel, am_memT (t_in_3 _ (List.mem_of_getElem? (i := 144) rfl)) rfl⟩
set_option maxRecDepth 100000 in
theorem gk_X2_glassesOf : am_G mr_X2_glassesOf := ⟨by decide +kernel, by decide +kernel, am_memT (t_in_3 _ (List.mem_of_getElem? (i := 148) rfl)) rfl⟩
set_option maxRecDepth 100000 in
theorem gk_X8_is : am_G mr_X8_is := ⟨by decide +kernel, by decide +kernel, am_memT (t_in_3 _ (List.mem_of_getElem? (i := 139) rfl)) rfl⟩
set_option maxRecDepth 100000 in
theorem gk_X9_isOf : am_G mr_X9_isOf := ⟨by decide +kernel, by decide +kernel, am_memT (t_in_6 _ (List.mem_of_getElem? (i := 10) rfl)) rfl⟩
set_option maxRecDepth 100000 in
theorem gk_X9_is : am_G mr_X9_is := ⟨by decide +kernel, by decide +kernel, am_memT (t_in_6 _ (List.mem_of_getElem? (i := 6) rfl)) rfl⟩
set_option maxRecDepth 100000 in
theorem gk_X8_line : am_G mr_X8_line := ⟨by decide +kernel, by decide +kernel, am_memT (t_in_3 _ (List.mem_of_getElem? (i := 152) rfl)) rfl⟩
set_option maxRecDepth 100000 in
theorem gk_X9_lineOf : am_G mr_X9_lineOf := ⟨by decide +kernel, by decide +kernel, am_memT (t_in_6 _ (List.mem_of_getElem? (i := 18) rfl)) rfl⟩
set_option maxRecDepth 100000 in
theorem gk_X9_line : am_G mr_X9_line := ⟨by decide +kernel, by decide +kernel, am_memT (t_in_6 _ (List.mem_of_getElem? (i := 14) rfl)) rfl⟩
set_option maxRecDepth 100000 in
theorem gk_J13_bitCount : am_G mr_J13_bitCount := ⟨by decide +kernel, by decide +kernel, am_memT (t_in_3 _ (List.mem_of_getElem? (i := 159) rfl)) rfl⟩
set_option maxRecDepth 100000 in
theorem gk_X8_sum : am_G mr_X8_sum := ⟨by decide +kernel, by decide +kernel, am_memT (t_in_3 _ (List.mem_of_getElem? (i := 156) rfl)) rfl⟩
set_option maxRecDepth 100000 in
theorem gk_X9_drunkNow : am_G mr_X9_drunkNow := ⟨by decide +kernel, by decide +kernel, am_memT (t_in_6 _ (List.mem_of_getElem? (i := 30) rfl)) rfl⟩
set_option maxRecDepth 100000 in
theorem gk_X9_manyOf : am_G mr_X9_manyOf := ⟨by decide +kernel, by decide +kernel, am_memT (t_in_6 _ (List.mem_of_getElem? (i := 34) rfl)) rfl⟩
set_option maxRecDepth 100000 in
theorem gk_X9_sumOf : am_G mr_X9_sumOf := ⟨by decide +kernel, by decide +kernel, am_memT (t_in_6 _ (List.mem_of_getElem? (i := 26) rfl)) rfl⟩
set_option maxRecDepth 100000 in
theorem gk_X9_sum : am_G mr_X9_sum := ⟨by decide +kernel, by decide +kernel, am_memT (t_in_6 _ (List.mem_of_getElem? (i := 22) rfl)) rfl⟩
set_option maxRecDepth 100000 in
theorem gk_X8_first : am_G mr_X8_first := ⟨by decide +kernel, by decide +kernel, am_memT (t_in_3 _ (List.mem_of_getElem? (i := 166) rfl)) rfl⟩
set_option maxRecDepth 100000 in
theorem gk_X9_firstOf : am_G mr_X9_firstOf := ⟨by decide +kernel, by decide +kernel, am_memT (t_in_6 _ (List.mem_of_getElem? (i := 42) rfl)) rfl⟩
set_option maxRecDepth 100000 in
theorem gk_X9_first : am_G mr_X9_first := ⟨by decide +kernel, by decide +kernel, am_memT (t_in_6 _ (List.mem_of_getElem? (i := 38) rfl)) rfl⟩
set_option maxRecDepth 100000 in
theorem gk_X8_hottest : am_G mr_X8_hottest := ⟨by decide +kernel, by decide +kernel, am_memT (t_in_3 _ (List.mem_of_getElem? (i := 170) rfl)) rfl⟩
set_option maxRecDepth 100000 in
theorem gk_X9_hottestOf : am_G mr_X9_hottestOf := ⟨by decide +kernel, by decide +kernel, am_memT (t_in_6 _ (List.mem_of_getElem? (i := 50) rfl)) rfl⟩
set_option maxRecDepth 100000 in
theorem gk_X9_hottest : am_G mr_X9_hottest := ⟨by decide +kernel, by decide +kernel, am_memT (t_in_6 _ (List.mem_of_getElem? (i := 46) rfl)) rfl⟩
set_option maxRecDepth 100000 in
theorem gk_X8_waited : am_G mr_X8_waited := ⟨by decide +kernel, by decide +kernel, am_memT (t_in_3 _ (List.mem_of_getElem? (i := 174) rfl)) rfl⟩
set_option maxRecDepth 100000 in
theorem gk_X9_waitedOf : am_G mr_X9_waitedOf := ⟨by decide +kernel, by decide +kernel, am_memT (t_in_6 _ (List.mem_of_getElem? (i := 58) rfl)) rfl⟩
set_option maxRecDepth 100000 in
theorem gk_X9_waited : am_G mr_X9_waited := ⟨by decide +kernel, by decide +kernel, am_memT (t_in_6 _ (List.mem_of_getElem? (i := 54) rfl)) rfl⟩
set_option maxRecDepth 100000 in
theorem gk_X8_thirst : am_G mr_X8_thirst := ⟨by decide +kernel, by decide +kernel, am_memT (t_in_3 _ (List.mem_of_getElem? (i := 178) rfl)) rfl⟩
set_option maxRecDepth 100000 in
theorem gk_X9_thirstOf : am_G mr_X9_thirstOf := ⟨by decide +kernel, by decide +kernel, am_memT (t_in_6 _ (List.mem_of_getElem? (i := 66) rfl)) rfl⟩
set_option maxRecDepth 100000 in
theorem gk_X9_thirst : am_G mr_X9_thirst := ⟨by decide +kernel, by decide +kernel, am_memT (t_in_6 _ (List.mem_of_getElem? (i := 62) rfl)) rfl⟩
set_option maxRecDepth 100000 in
theorem gk_X7_kindsOf : am_G mr_X7_kindsOf := ⟨by decide +kernel, by decide +kernel, am_memT (t_in_3 _ (List.mem_of_getElem? (i := 185) rfl)) rfl⟩
set_option maxRecDepth 100000 in
theorem gk_X1_becomeLike : am_G mr_X1_becomeLike := ⟨by decide +kernel, by decide +kernel, am_memT (t_in_3 _ (List.mem_of_getElem? (i := 201) rfl)) rfl⟩
set_option maxRecDepth 100000 in
theorem gk_X4_becomeLike : am_G mr_X4_becomeLike := ⟨by decide +kernel, by decide +kernel, am_memT (t_in_3 _ (List.mem_of_getElem? (i := 197) rfl)) rfl⟩
set_option maxRecDepth 100000 in
theorem gk_X7_alter : am_G mr_X7_alter := ⟨by decide +kernel, by decide +kernel, am_memT (t_in_3 _ (List.mem_of_getElem? (i := 206) rfl)) rfl⟩
set_option maxRecDepth 100000 in
theorem gk_X7_pack : am_G mr_X7_pack := ⟨by decide +kernel, by decide +kernel, am_memT (t_in_3 _ (List.mem_of_getElem? (i := 210) rfl)) rfl⟩
set_option maxRecDepth 100000 in
theorem gk_X7_outcome : am_G mr_X7_outcome := ⟨by decide +kernel, by decide +kernel, am_memT (t_in_3 _ (List.mem_of_getElem? (i := 193) rfl)) rfl⟩
set_option maxRecDepth 100000 in
theorem gk_X7_glassesIn : am_G mr_X7_glassesIn := ⟨by decide +kernel, by decide +kernel, am_memT (t_in_3 _ (List.mem_of_getElem? (i := 214) rfl)) rfl⟩
set_option maxRecDepth 100000 in
theorem gk_X8_mostGlasses : am_G mr_X8_mostGlasses := ⟨by decide +kernel, by decide +kernel, am_memT (t_in_3 _ (List.mem_of_getElem? (i := 189) rfl)) rfl⟩
set_option maxRecDepth 100000 in
theorem gk_X8_better : am_G mr_X8_better := ⟨by decide +kernel, by decide +kernel, am_memT (t_in_3 _ (List.mem_of_getElem? (i := 182) rfl)) rfl⟩
set_option maxRecDepth 100000 in
theorem gk_X9_starts : am_G mr_X9_starts := ⟨by decide +kernel, by decide +kernel, am_memT (t_in_6 _ (List.mem_of_getElem? (i := 78) rfl)) rfl⟩
set_option maxRecDepth 100000 in
theorem gk_X9_tries : am_G mr_X9_tries := ⟨by decide +kernel, by decide +kernel, am_memT (t_in_6 _ (List.mem_of_getElem? (i := 82) rfl)) rfl⟩
set_option maxRecDepth 100000 in
theorem gk_X9_betterOf : am_G mr_X9_betterOf := ⟨by decide +kernel, by decide +kernel, am_memT (t_in_6 _ (List.mem_of_getElem? (i := 74) rfl)) rfl⟩
set_option maxRecDepth 100000 in
theorem gk_X9_better : am_G mr_X9_better := ⟨by decide +kernel, by decide +kernel, am_memT (t_in_6 _ (List.mem_of_getElem? (i := 70) rfl)) rfl⟩
set_option maxRecDepth 100000 in
theorem gk_X8_fill : am_G mr_X8_fill := ⟨by decide +kernel, by decide +kernel, am_memT (t_in_3 _ (List.mem_of_getElem? (i := 219) rfl)) rfl⟩
set_option maxRecDepth 100000 in
theorem gk_X9_fillOf : am_G mr_X9_fillOf := ⟨by decide +kernel, by decide +kernel, am_memT (t_in_6 _ (List.mem_of_getElem? (i := 90) rfl)) rfl⟩
set_option maxRecDepth 100000 in
theorem gk_X9_fill : am_G mr_X9_fill := ⟨by decide +kernel, by decide +kernel, am_memT (t_in_6 _ (List.mem_of_getElem? (i := 86) rfl)) rfl⟩
set_option maxRecDepth 100000 in
theorem gk_X7_minutesOf : am_G mr_X7_minutesOf := ⟨by decide +kernel, by decide +kernel, am_memT (t_in_3 _ (List.mem_of_getElem? (i := 226) rfl)) rfl⟩
set_option maxRecDepth 100000 in
theorem gk_X8_come : am_G mr_X8_come := ⟨by decide +kernel, by decide +kernel, am_memT (t_in_3 _ (List.mem_of_getElem? (i := 223) rfl)) rfl⟩
set_option maxRecDepth 100000 in
theorem gk_X9_comeOf : am_G mr_X9_comeOf := ⟨by decide +kernel, by decide +kernel, am_memT (t_in_6 _ (List.mem_of_getElem? (i := 98) rfl)) rfl⟩
set_option maxRecDepth 100000 in
theorem gk_X9_come : am_G mr_X9_come := ⟨by decide +kernel, by decide +kernel, am_memT (t_in_6 _ (List.mem_of_getElem? (i := 94) rfl)) rfl⟩
set_option maxRecDepth 100000 in
theorem gk_X7_goneIn : am_G mr_X7_goneIn := ⟨by decide +kernel, by decide +kernel, am_memT (t_in_3 _ (List.mem_of_getElem? (i := 237) rfl)) rfl⟩
end
section
set_option maxRecDepth 100000 in
theorem gk_X8_sparedEvents : am_G mr_X8_sparedEvents := ⟨by decide +kernel, by decide +kernel, am_memT (t_in_3 _ (List.mem_of_getElem? (i := 234) rfl)) rfl⟩
set_option maxRecDepth 100000 in
theorem gk_X8_bitAt : am_G mr_X8_bitAt := ⟨by decide +kernel, by decide +kernel, am_memT (t_in_4 _ (List.mem_of_getElem? (i := 1) rfl)) rfl⟩
set_option maxRecDepth 100000 in
theorem gk_X8_spare : am_G mr_X8_spare := ⟨by decide +kernel, by decide +kernel, am_memT (t_in_3 _ (List.mem_of_getElem? (i := 230) rfl)) rfl⟩
set_option maxRecDepth 100000 in
theorem gk_X9_isSpared : am_G mr_X9_isSpared := ⟨by decide +kernel, by decide +kernel, am_memT (t_in_6 _ (List.mem_of_getElem? (i := 110) rfl)) rfl⟩
set_option maxRecDepth 100000 in
theorem gk_X9_spareBy : am_G mr_X9_spareBy := ⟨by decide +kernel, by decide +kernel, am_memT (t_in_6 _ (List.mem_of_getElem? (i := 106) rfl)) rfl⟩
set_option maxRecDepth 100000 in
theorem gk_X9_ofRow : am_G mr_X9_ofRow := ⟨by decide +kernel, by decide +kernel, am_memT (t_in_6 _ (List.mem_of_getElem? (i := 114) rfl)) rfl⟩
set_option maxRecDepth 100000 in
theorem gk_X9_spare : am_G mr_X9_spare := ⟨by decide +kernel, by decide +kernel, am_memT (t_in_6 _ (List.mem_of_getElem? (i := 102) rfl)) rfl⟩
set_option maxRecDepth 100000 in
theorem gk_X8_seen : am_G mr_X8_seen := ⟨by decide +kernel, by decide +kernel, am_memT (t_in_4 _ (List.mem_of_getElem? (i := 5) rfl)) rfl⟩
set_option maxRecDepth 100000 in
theorem gk_X9_seen : am_G mr_X9_seen := ⟨by decide +kernel, by decide +kernel, am_memT (t_in_6 _ (List.mem_of_getElem? (i := 118) rfl)) rfl⟩
set_option maxRecDepth 100000 in
theorem gk_X8_forget : am_G mr_X8_forget := ⟨by decide +kernel, by decide +kernel, am_memT (t_in_4 _ (List.mem_of_getElem? (i := 9) rfl)) rfl⟩
set_option maxRecDepth 100000 in
theorem gk_X9_forget : am_G mr_X9_forget := ⟨by decide +kernel, by decide +kernel, am_memT (t_in_6 _ (List.mem_of_getElem? (i := 122) rfl)) rfl⟩
set_option maxRecDepth 100000 in
theorem gk_X7_boiledIn : am_G mr_X7_boiledIn := ⟨by decide +kernel, by decide +kernel, am_memT (t_in_4 _ (List.mem_of_getElem? (i := 20) rfl)) rfl⟩
set_option maxRecDepth 100000 in
theorem gk_X8_comesOutAsSeen : am_G mr_X8_comesOutAsSeen := ⟨by decide +kernel, by decide +kernel, am_memT (t_in_4 _ (List.mem_of_getElem? (i := 17) rfl)) rfl⟩
set_option maxRecDepth 100000 in
theorem gk_X8_never : am_G mr_X8_never := ⟨by decide +kernel, by decide +kernel, am_memT (t_in_4 _ (List.mem_of_getElem? (i := 13) rfl)) rfl⟩
set_option maxRecDepth 100000 in
theorem gk_X9_isSeen : am_G mr_X9_isSeen := ⟨by decide +kernel, by decide +kernel, am_memT (t_in_6 _ (List.mem_of_getElem? (i := 134) rfl)) rfl⟩
set_option maxRecDepth 100000 in
theorem gk_X9_neverNow : am_G mr_X9_neverNow := ⟨by decide +kernel, by decide +kernel, am_memT (t_in_6 _ (List.mem_of_getElem? (i := 130) rfl)) rfl⟩
set_option maxRecDepth 100000 in
theorem gk_X9_never : am_G mr_X9_never := ⟨by decide +kernel, by decide +kernel, am_memT (t_in_6 _ (List.mem_of_getElem? (i := 126) rfl)) rfl⟩
set_option maxRecDepth 100000 in
theorem gk_X8_comingOutAsSeen : am_G mr_X8_comingOutAsSeen := ⟨by decide +kernel, by decide +kernel, am_memT (t_in_4 _ (List.mem_of_getElem? (i := 29) rfl)) rfl⟩
set_option maxRecDepth 100000 in
theorem gk_X8_waters : am_G mr_X8_waters := ⟨by decide +kernel, by decide +kernel, am_memT (t_in_4 _ (List.mem_of_getElem? (i := 25) rfl)) rfl⟩
set_option maxRecDepth 100000 in
theorem gk_X9_watersBy : am_G mr_X9_watersBy := ⟨by decide +kernel, by decide +kernel, am_memT (t_in_6 _ (List.mem_of_getElem? (i := 142) rfl)) rfl⟩
set_option maxRecDepth 100000 in
theorem gk_X9_waters : am_G mr_X9_waters := ⟨by decide +kernel, by decide +kernel, am_memT (t_in_6 _ (List.mem_of_getElem? (i := 138) rfl)) rfl⟩
set_option maxRecDepth 100000 in
theorem gk_X8_kind : am_G mr_X8_kind := ⟨by decide +kernel, by decide +kernel, am_memT (t_in_4 _ (List.mem_of_getElem? (i := 33) rfl)) rfl⟩
set_option maxRecDepth 100000 in
theorem gk_X9_kindsBy : am_G mr_X9_kindsBy := ⟨by decide +kernel, by decide +kernel, am_memT (t_in_6 _ (List.mem_of_getElem? (i := 150) rfl)) rfl⟩
set_option maxRecDepth 100000 in
theorem gk_X9_kind : am_G mr_X9_kind := ⟨by decide +kernel, by decide +kernel, am_memT (t_in_6 _ (List.mem_of_getElem? (i := 146) rfl)) rfl⟩
set_option maxRecDepth 100000 in
theorem gk_X8_boilingWaters : am_G mr_X8_boilingWaters := ⟨by decide +kernel, by decide +kernel, am_memT (t_in_4 _ (List.mem_of_getElem? (i := 42) rfl)) rfl⟩
set_option maxRecDepth 100000 in
theorem gk_X8_ask : am_G mr_X8_ask := ⟨by decide +kernel, by decide +kernel, am_memT (t_in_4 _ (List.mem_of_getElem? (i := 37) rfl)) rfl⟩
set_option maxRecDepth 100000 in
theorem gk_X9_many : am_G mr_X9_many := ⟨by decide +kernel, by decide +kernel, am_memT (t_in_6 _ (List.mem_of_getElem? (i := 161) rfl)) rfl⟩
set_option maxRecDepth 100000 in
theorem gk_X9_askOf : am_G mr_X9_askOf := ⟨by decide +kernel, by decide +kernel, am_memT (t_in_6 _ (List.mem_of_getElem? (i := 158) rfl)) rfl⟩
set_option maxRecDepth 100000 in
theorem gk_X9_ask : am_G mr_X9_ask := ⟨by decide +kernel, by decide +kernel, am_memT (t_in_6 _ (List.mem_of_getElem? (i := 154) rfl)) rfl⟩
set_option maxRecDepth 100000 in
theorem gk_X7_contentIn : am_G mr_X7_contentIn := ⟨by decide +kernel, by decide +kernel, am_memT (t_in_4 _ (List.mem_of_getElem? (i := 51) rfl)) rfl⟩
set_option maxRecDepth 100000 in
theorem gk_X8_power : am_G mr_X8_power := ⟨by decide +kernel, by decide +kernel, am_memT (t_in_4 _ (List.mem_of_getElem? (i := 54) rfl)) rfl⟩
set_option maxRecDepth 100000 in
theorem gk_X8_chance : am_G mr_X8_chance := ⟨by decide +kernel, by decide +kernel, am_memT (t_in_4 _ (List.mem_of_getElem? (i := 47) rfl)) rfl⟩
set_option maxRecDepth 100000 in
theorem gk_X9_lowest : am_G mr_X9_lowest := ⟨by decide +kernel, by decide +kernel, am_memT (t_in_6 _ (List.mem_of_getElem? (i := 172) rfl)) rfl⟩
set_option maxRecDepth 100000 in
theorem gk_X9_chanceOf : am_G mr_X9_chanceOf := ⟨by decide +kernel, by decide +kernel, am_memT (t_in_6 _ (List.mem_of_getElem? (i := 169) rfl)) rfl⟩
set_option maxRecDepth 100000 in
theorem gk_X9_no : am_G mr_X9_no := ⟨by decide +kernel, by decide +kernel, am_memT (t_in_6 _ (List.mem_of_getElem? (i := 175) rfl)) rfl⟩
set_option maxRecDepth 100000 in
theorem gk_X9_chance : am_G mr_X9_chance := ⟨by decide +kernel, by decide +kernel, am_memT (t_in_6 _ (List.mem_of_getElem? (i := 165) rfl)) rfl⟩
set_option maxRecDepth 100000 in
theorem gk_X7_nextSeed : am_G mr_X7_nextSeed := ⟨by decide +kernel, by decide +kernel, am_memT (t_in_4 _ (List.mem_of_getElem? (i := 66) rfl)) rfl⟩
set_option maxRecDepth 100000 in
theorem gk_X7_outcomeByLots : am_G mr_X7_outcomeByLots := ⟨by decide +kernel, by decide +kernel, am_memT (t_in_4 _ (List.mem_of_getElem? (i := 63) rfl)) rfl⟩
set_option maxRecDepth 100000 in
theorem gk_X8_evenings : am_G mr_X8_evenings := ⟨by decide +kernel, by decide +kernel, am_memT (t_in_4 _ (List.mem_of_getElem? (i := 59) rfl)) rfl⟩
set_option maxRecDepth 100000 in
theorem gk_X9_eveningsOf : am_G mr_X9_eveningsOf := ⟨by decide +kernel, by decide +kernel, am_memT (t_in_6 _ (List.mem_of_getElem? (i := 184) rfl)) rfl⟩
set_option maxRecDepth 100000 in
theorem gk_X9_evenings : am_G mr_X9_evenings := ⟨by decide +kernel, by decide +kernel, am_memT (t_in_6 _ (List.mem_of_getElem? (i := 180) rfl)) rfl⟩
set_option maxRecDepth 100000 in
theorem gk_X5_renew : am_G mr_X5_renew := ⟨by decide +kernel, by decide +kernel, am_memT (t_in_4 _ (List.mem_of_getElem? (i := 76) rfl)) rfl⟩
set_option maxRecDepth 100000 in
theorem gk_X8_sheet : am_G mr_X8_sheet := ⟨by decide +kernel, by decide +kernel, am_memT (t_in_4 _ (List.mem_of_getElem? (i := 72) rfl)) rfl⟩
set_option maxRecDepth 100000 in
theorem gk_X9_sheet : am_G mr_X9_sheet := ⟨by decide +kernel, by decide +kernel, am_memT (t_in_6 _ (List.mem_of_getElem? (i := 189) rfl)) rfl⟩
end
section
set_option maxRecDepth 100000 in
theorem gk_X8_lose : am_G mr_X8_lose := ⟨by decide +kernel, by decide +kernel, am_memT (t_in_4 _ (List.mem_of_getElem? (i := 81) rfl)) rfl⟩
set_option maxRecDepth 100000 in
theorem gk_X9_lose : am_G mr_X9_lose := ⟨by decide +kernel, by decide +kernel, am_memT (t_in_6 _ (List.mem_of_getElem? (i := 193) rfl)) rfl⟩
set_option maxRecDepth 100000 in
theorem gk_X5_faultOf : am_G mr_X5_faultOf := ⟨by decide +kernel, by decide +kernel, am_memT (t_in_4 _ (List.mem_of_getElem? (i := 89) rfl)) rfl⟩
set_option maxRecDepth 100000 in
theorem gk_X5_store : am_G mr_X5_store := ⟨by decide +kernel, by decide +kernel, am_memT (t_in_4 _ (List.mem_of_getElem? (i := 93) rfl)) rfl⟩
set_option maxRecDepth 100000 in
theorem gk_X8_put : am_G mr_X8_put := ⟨by decide +kernel, by decide +kernel, am_memT (t_in_4 _ (List.mem_of_getElem? (i := 85) rfl)) rfl⟩
set_option maxRecDepth 100000 in
theorem gk_X9_lacks : am_G mr_X9_lacks := ⟨by decide +kernel, by decide +kernel, am_memT (t_in_6 _ (List.mem_of_getElem? (i := 201) rfl)) rfl⟩
set_option maxRecDepth 100000 in
theorem gk_X9_keep : am_G mr_X9_keep := ⟨by decide +kernel, by decide +kernel, am_memT (t_in_6 _ (List.mem_of_getElem? (i := 205) rfl)) rfl⟩
set_option maxRecDepth 100000 in
theorem gk_X9_put : am_G mr_X9_put := ⟨by decide +kernel, by decide +kernel, am_memT (t_in_6 _ (List.mem_of_getElem? (i := 197) rfl)) rfl⟩
set_option maxRecDepth 100000 in
theorem gk_X8_get : am_G mr_X8_get := ⟨by decide +kernel, by decide +kernel, am_memT (t_in_4 _ (List.mem_of_getElem? (i := 97) rfl)) rfl⟩
set_option maxRecDepth 100000 in
theorem gk_X9_get : am_G mr_X9_get := ⟨by decide +kernel, by decide +kernel, am_memT (t_in_6 _ (List.mem_of_getElem? (i := 209) rfl)) rfl⟩
set_option maxRecDepth 100000 in
theorem gk_X5_hasSome : am_G mr_X5_hasSome := ⟨by decide +kernel, by decide +kernel, am_memT (t_in_4 _ (List.mem_of_getElem? (i := 106) rfl)) rfl⟩
set_option maxRecDepth 100000 in
theorem gk_X8_copy : am_G mr_X8_copy := ⟨by decide +kernel, by decide +kernel, am_memT (t_in_4 _ (List.mem_of_getElem? (i := 102) rfl)) rfl⟩
set_option maxRecDepth 100000 in
theorem gk_X9_copy : am_G mr_X9_copy := ⟨by decide +kernel, by decide +kernel, am_memT (t_in_6 _ (List.mem_of_getElem? (i := 214) rfl)) rfl⟩
set_option maxRecDepth 100000 in
theorem gk_X8_write : am_G mr_X8_write := ⟨by decide +kernel, by decide +kernel, am_memT (t_in_4 _ (List.mem_of_getElem? (i := 111) rfl)) rfl⟩
set_option maxRecDepth 100000 in
theorem gk_X9_write : am_G mr_X9_write := ⟨by decide +kernel, by decide +kernel, am_memT (t_in_6 _ (List.mem_of_getElem? (i := 218) rfl)) rfl⟩
set_option maxRecDepth 100000 in
theorem gk_X8_count : am_G mr_X8_count := ⟨by decide +kernel, by decide +kernel, am_memT (t_in_4 _ (List.mem_of_getElem? (i := 116) rfl)) rfl⟩
set_option maxRecDepth 100000 in
theorem gk_X9_tellOf : am_G mr_X9_tellOf := ⟨by decide +kernel, by decide +kernel, am_memT (t_in_6 _ (List.mem_of_getElem? (i := 226) rfl)) rfl⟩
set_option maxRecDepth 100000 in
theorem gk_X9_count : am_G mr_X9_count := ⟨by decide +kernel, by decide +kernel, am_memT (t_in_6 _ (List.mem_of_getElem? (i := 222) rfl)) rfl⟩
set_option maxRecDepth 100000 in
theorem gk_X8_joined : am_G mr_X8_joined := ⟨by decide +kernel, by decide +kernel, am_memT (t_in_4 _ (List.mem_of_getElem? (i := 126) rfl)) rfl⟩
set_option maxRecDepth 100000 in
theorem gk_X8_withMinutes : am_G mr_X8_withMinutes := ⟨by decide +kernel, by decide +kernel, am_memT (t_in_4 _ (List.mem_of_getElem? (i := 132) rfl)) rfl⟩
set_option maxRecDepth 100000 in
theorem gk_X8_withPiece : am_G mr_X8_withPiece := ⟨by decide +kernel, by decide +kernel, am_memT (t_in_4 _ (List.mem_of_getElem? (i := 137) rfl)) rfl⟩
set_option maxRecDepth 100000 in
theorem gk_X8_withStay : am_G mr_X8_withStay := ⟨by decide +kernel, by decide +kernel, am_memT (t_in_4 _ (List.mem_of_getElem? (i := 149) rfl)) rfl⟩
set_option maxRecDepth 100000 in
theorem gk_X8_withGuest : am_G mr_X8_withGuest := ⟨by decide +kernel, by decide +kernel, am_memT (t_in_4 _ (List.mem_of_getElem? (i := 144) rfl)) rfl⟩
set_option maxRecDepth 100000 in
theorem gk_X8_digest : am_G mr_X8_digest := ⟨by decide +kernel, by decide +kernel, am_memT (t_in_4 _ (List.mem_of_getElem? (i := 121) rfl)) rfl⟩
set_option maxRecDepth 100000 in
theorem gk_X9_pieceDigest : am_G mr_X9_pieceDigest := ⟨by decide +kernel, by decide +kernel, am_memT (t_in_6 _ (List.mem_of_getElem? (i := 237) rfl)) rfl⟩
set_option maxRecDepth 100000 in
theorem gk_X9_isDigest : am_G mr_X9_isDigest := ⟨by decide +kernel, by decide +kernel, am_memT (t_in_7 _ (List.mem_of_getElem? (i := 5) rfl)) rfl⟩
set_option maxRecDepth 100000 in
theorem gk_X9_guestDigest : am_G mr_X9_guestDigest := ⟨by decide +kernel, by decide +kernel, am_memT (t_in_7 _ (List.mem_of_getElem? (i := 1) rfl)) rfl⟩
end
section
set_option maxRecDepth 100000 in
theorem gk_X9_digest : am_G mr_X9_digest := ⟨by decide +kernel, by decide +kernel, am_memT (t_in_6 _ (List.mem_of_getElem? (i := 230) rfl)) rfl⟩
end
section
set_option maxRecDepth 100000 in
theorem gkl_0 : lawr_0.all (am_rowok 15 code) = true := by decide +kernel
set_option maxRecDepth 100000 in
theorem gkl_1 : lawr_1.all (am_rowok 15 code) = true := by decide +kernel
set_option maxRecDepth 100000 in
theorem gkl_2 : lawr_2.all (am_rowok 15 code) = true := by decide +kernel
set_option maxRecDepth 100000 in
theorem gkl_3 : lawr_3.all (am_rowok 15 code) = true := by decide +kernel
set_option maxRecDepth 100000 in
theorem gkl_4 : lawr_4.all (am_rowok 15 code) = true := by decide +kernel
end
section
set_option maxRecDepth 100000 in
theorem gkl_5 : lawr_5.all (am_rowok 15 code) = true := by decide +kernel
set_option maxRecDepth 100000 in
theorem gkl_6 : lawr_6.all (am_rowok 15 code) = true := by decide +kernel
set_option maxRecDepth 100000 in
theorem gkl_7 : lawr_7.all (am_rowok 15 code) = true := by decide +kernel
set_option maxRecDepth 100000 in
theorem gkl_8 : lawr_8.all (am_rowok 15 code) = true := by decide +kernel
set_option maxRecDepth 100000 in
theorem gkl_9 : lawr_9.all (am_rowok 15 code) = true := by decide +kernel
end
section
set_option maxRecDepth 100000 in
theorem gkl_10 : lawr_10.all (am_rowok 15 code) = true := by decide +kernel
set_option maxRecDepth 100000 in
theorem gkl_11 : lawr_11.all (am_rowok 15 code) = true := by decide +kernel
set_option maxRecDepth 100000 in
theorem gkl_12 : lawr_12.all (am_rowok 15 code) = true := by decide +kernel
set_option maxRecDepth 100000 in
theorem gkl_13 : lawr_13.all (am_rowok 15 code) = true := by decide +kernel
set_option maxRecDepth 100000 in
theorem gkl_14 : lawr_14.all (am_rowok 15 code) = true := by decide +kernel
end
section
theorem am_allapp {a b : List RW} {f : RW → Bool} (h1 : a.all f = true) (h2 : b.all f = true) : (a ++ b).all f = true := by rw [List.all_append, h1, h2]; rfl
theorem gk_L_law : (mr_c mr_L_law).all (am_rowok (mr_o mr_L_law) (mr_b mr_L_law)) = true := (am_allapp gkl_0 (am_allapp gkl_1 (am_allapp gkl_2 (am_allapp gkl_3 (am_allapp gkl_4 (am_allapp gkl_5 (am_allapp gkl_6 (am_allapp gkl_7 (am_allapp gkl_8 (am_allapp gkl_9 (am_allapp gkl_10 (am_allapp gkl_11 (am_allapp gkl_12 (am_allapp gkl_13 gkl_14))))))))))))))
theorem w_acN : Cond.native arraycopyName ∈ am_all := am_wd_mem (p := 689) (by decide +kernel)
theorem w_acS : Cond.static arraycopyName ∈ am_all := am_wd_mem (p := 688) (by decide +kernel)
theorem w_acI : Cond.initialized "java/lang/System" ∈ am_all := am_wd_mem (p := 92) (by decide +kernel)
theorem w_mI : Cond.initialized "java/lang/Math" ∈ am_all := am_wd_mem (p := 87) (by decide +kernel)
theorem w_mxS : Cond.static Lib.Math.max.name ∈ am_all := am_wd_mem (p := 478) (by decide +kernel)
theorem w_mxC : Cond.code Lib.Math.max.name Lib.Math.max.code 2 (some .int) ∈ am_all := am_wd_mem (p := 479) (by decide +kernel)
theorem w_miS : Cond.static Lib.Math.min.name ∈ am_all := am_wd_mem (p := 481) (by decide +kernel)
theorem w_miC : Cond.code Lib.Math.min.name Lib.Math.min.code 2 (some .int) ∈ am_all := am_wd_mem (p := 482) (by decide +kernel)
set_option maxRecDepth 100000 in
theorem glk_0 : mlt_0.all (am_mlk 0) = true := by decide +kernel
theorem glg_0 : ∀ e ∈ mlt_0, am_G e.2.1 := List.forall_mem_cons.mpr ⟨gk_J14_fill_I, List.forall_mem_cons.mpr ⟨gk_X0_join, fun _ h => absurd h List.not_mem_nil⟩⟩
set_option maxRecDepth 100000 in
theorem glk_1 : mlt_1.all (am_mlk 1) = true := by decide +kernel
theorem glg_1 : ∀ e ∈ mlt_1, am_G e.2.1 := List.forall_mem_cons.mpr ⟨gk_X1_has, fun _ h => absurd h List.not_mem_nil⟩
set_option maxRecDepth 100000 in
theorem glk_2 : mlt_2.all (am_mlk 2) = true := by decide +kernel
theorem glg_2 : ∀ e ∈ mlt_2, am_G e.2.1 := List.forall_mem_cons.mpr ⟨gk_X3_begin, List.forall_mem_cons.mpr ⟨gk_X0_begin, List.forall_mem_cons.mpr ⟨gk_X2_light, List.forall_mem_cons.mpr ⟨gk_X3_meet, List.forall_mem_cons.mpr ⟨gk_X3_warm, List.forall_mem_cons.mpr ⟨gk_X3_boils, List.forall_mem_cons.mpr ⟨gk_X0_lineUp, List.forall_mem_cons.mpr ⟨gk_X0_serve, List.forall_mem_cons.mpr ⟨gk_X0_losePatience, List.forall_mem_cons.mpr ⟨gk_X2_note, List.forall_mem_cons.mpr ⟨gk_J14_fill_I, List.forall_mem_cons.mpr ⟨gk_X8_within, fun _ h => absurd h List.not_mem_nil⟩⟩⟩⟩⟩⟩⟩⟩⟩⟩⟩⟩
set_option maxRecDepth 100000 in
theorem glk_3 : mlt_3.all (am_mlk 3) = true := by decide +kernel
theorem glg_3 : ∀ e ∈ mlt_3, am_G e.2.1 := fun _ h => absurd h List.not_mem_nil
set_option maxRecDepth 100000 in
theorem glk_4 : mlt_4.all (am_mlk 4) = true := by decide +kernel
theorem glg_4 : ∀ e ∈ mlt_4, am_G e.2.1 := List.forall_mem_cons.mpr ⟨gk_X1_becomeLike, fun _ h => absurd h List.not_mem_nil⟩
set_option maxRecDepth 100000 in
theorem glk_5 : mlt_5.all (am_mlk 5) = true := by decide +kernel
theorem glg_5 : ∀ e ∈ mlt_5, am_G e.2.1 := List.forall_mem_cons.mpr ⟨gk_J14_fill_I, List.forall_mem_cons.mpr ⟨gk_X5_has, fun _ h => absurd h List.not_mem_nil⟩⟩
set_option maxRecDepth 100000 in
theorem glk_6 : mlt_6.all (am_mlk 6) = true := by decide +kernel
theorem glg_6 : ∀ e ∈ mlt_6, am_G e.2.1 := List.forall_mem_cons.mpr ⟨gk_X6_scan, List.forall_mem_cons.mpr ⟨gk_X6_firstFault, List.forall_mem_cons.mpr ⟨gk_X6_fits, List.forall_mem_cons.mpr ⟨gk_J10_indexOf_1, List.forall_mem_cons.mpr ⟨gk_X1_add, fun _ h => absurd h List.not_mem_nil⟩⟩⟩⟩⟩
set_option maxRecDepth 100000 in
theorem glk_7 : mlt_7.all (am_mlk 7) = true := by decide +kernel
theorem glg_7 : ∀ e ∈ mlt_7, am_G e.2.1 := List.forall_mem_cons.mpr ⟨gk_J14_fill_J, List.forall_mem_cons.mpr ⟨gk_X4_becomeLike, List.forall_mem_cons.mpr ⟨gk_X7_alter, List.forall_mem_cons.mpr ⟨gk_X2_pass, List.forall_mem_cons.mpr ⟨gk_X7_pack, List.forall_mem_cons.mpr ⟨gk_X7_nextSeed, List.forall_mem_cons.mpr ⟨gk_X1_add, fun _ h => absurd h List.not_mem_nil⟩⟩⟩⟩⟩⟩⟩
set_option maxRecDepth 100000 in
theorem glk_8 : mlt_8.all (am_mlk 8) = true := by decide +kernel
theorem glg_8 : ∀ e ∈ mlt_8, am_G e.2.1 := List.forall_mem_cons.mpr ⟨gk_X8_textAt, List.forall_mem_cons.mpr ⟨gk_X8_within, List.forall_mem_cons.mpr ⟨gk_X6_append, List.forall_mem_cons.mpr ⟨gk_X8_changed, List.forall_mem_cons.mpr ⟨gk_X6_shorten, List.forall_mem_cons.mpr ⟨gk_X1_part, List.forall_mem_cons.mpr ⟨gk_X8_mayBeEvent, List.forall_mem_cons.mpr ⟨gk_X1_add, List.forall_mem_cons.mpr ⟨gk_X8_sheetAt, List.forall_mem_cons.mpr ⟨gk_X8_found, List.forall_mem_cons.mpr ⟨gk_X5_item, List.forall_mem_cons.mpr ⟨gk_X8_toldEvening, List.forall_mem_cons.mpr ⟨gk_X1_has, List.forall_mem_cons.mpr ⟨gk_X2_stateOf, List.forall_mem_cons.mpr ⟨gk_X2_glassesOf, List.forall_mem_cons.mpr ⟨gk_J13_bitCount, List.forall_mem_cons.mpr ⟨gk_X7_kindsOf, List.forall_mem_cons.mpr ⟨gk_X8_mostGlasses, List.forall_mem_cons.mpr ⟨gk_X7_minutesOf, List.forall_mem_cons.mpr ⟨gk_X8_sparedEvents, List.forall_mem_cons.mpr ⟨gk_X8_bitAt, List.forall_mem_cons.mpr ⟨gk_X7_outcome, List.forall_mem_cons.mpr ⟨gk_X8_comesOutAsSeen, List.forall_mem_cons.mpr ⟨gk_X8_comingOutAsSeen, List.forall_mem_cons.mpr ⟨gk_X8_waters, List.forall_mem_cons.mpr ⟨gk_X8_boilingWaters, List.forall_mem_cons.mpr ⟨gk_X7_contentIn, List.forall_mem_cons.mpr ⟨gk_X8_power, List.forall_mem_cons.mpr ⟨gk_X7_outcomeByLots, List.forall_mem_cons.mpr ⟨gk_X7_glassesIn, List.forall_mem_cons.mpr ⟨gk_X7_goneIn, List.forall_mem_cons.mpr ⟨gk_X5_renew, List.forall_mem_cons.mpr ⟨gk_X5_faultOf, List.forall_mem_cons.mpr ⟨gk_X5_store, List.forall_mem_cons.mpr ⟨gk_X5_hasSome, List.forall_mem_cons.mpr ⟨gk_X8_at, List.forall_mem_cons.mpr ⟨gk_X8_sum, List.forall_mem_cons.mpr ⟨gk_X8_count, List.forall_mem_cons.mpr ⟨gk_X8_joined, List.forall_mem_cons.mpr ⟨gk_X8_fault, List.forall_mem_cons.mpr ⟨gk_X8_withMinutes, List.forall_mem_cons.mpr ⟨gk_X8_withPiece, List.forall_mem_cons.mpr ⟨gk_X8_withGuest, List.forall_mem_cons.mpr ⟨gk_X8_first, List.forall_mem_cons.mpr ⟨gk_X8_hottest, List.forall_mem_cons.mpr ⟨gk_X8_thirst, List.forall_mem_cons.mpr ⟨gk_X8_fill, List.forall_mem_cons.mpr ⟨gk_X8_spare, List.forall_mem_cons.mpr ⟨gk_X8_never, List.forall_mem_cons.mpr ⟨gk_X8_ask, List.forall_mem_cons.mpr ⟨gk_X8_evenings, List.forall_mem_cons.mpr ⟨gk_X7_drop, List.forall_mem_cons.mpr ⟨gk_X2_pass, List.forall_mem_cons.mpr ⟨gk_X7_boiledIn, List.forall_mem_cons.mpr ⟨gk_X8_line, List.forall_mem_cons.mpr ⟨gk_X8_piece, List.forall_mem_cons.mpr ⟨gk_X8_better, List.forall_mem_cons.mpr ⟨gk_X8_kind, List.forall_mem_cons.mpr ⟨gk_X8_guest, List.forall_mem_cons.mpr ⟨gk_X8_withStay, List.forall_mem_cons.mpr ⟨gk_X8_waited, List.forall_mem_cons.mpr ⟨gk_X8_come, List.forall_mem_cons.mpr ⟨gk_X8_chance, List.forall_mem_cons.mpr ⟨gk_X8_is, fun _ h => absurd h List.not_mem_nil⟩⟩⟩⟩⟩⟩⟩⟩⟩⟩⟩⟩⟩⟩⟩⟩⟩⟩⟩⟩⟩⟩⟩⟩⟩⟩⟩⟩⟩⟩⟩⟩⟩⟩⟩⟩⟩⟩⟩⟩⟩⟩⟩⟩⟩⟩⟩⟩⟩⟩⟩⟩⟩⟩⟩⟩⟩⟩⟩⟩⟩⟩⟩⟩
set_option maxRecDepth 100000 in
theorem glk_9 : mlt_9.all (am_mlk 9) = true := by decide +kernel
theorem glg_9 : ∀ e ∈ mlt_9, am_G e.2.1 := List.forall_mem_cons.mpr ⟨gk_X9_in, List.forall_mem_cons.mpr ⟨gk_X9_isTwo, List.forall_mem_cons.mpr ⟨gk_X9_byteAt, List.forall_mem_cons.mpr ⟨gk_X9_isMinute, List.forall_mem_cons.mpr ⟨gk_X9_readsPart, List.forall_mem_cons.mpr ⟨gk_X9_readsText, List.forall_mem_cons.mpr ⟨gk_X9_faultOf, List.forall_mem_cons.mpr ⟨gk_X9_reads, List.forall_mem_cons.mpr ⟨gk_X9_isPiece, List.forall_mem_cons.mpr ⟨gk_X9_isThree, List.forall_mem_cons.mpr ⟨gk_X9_pieceOf, List.forall_mem_cons.mpr ⟨gk_X9_isGuest, List.forall_mem_cons.mpr ⟨gk_X9_guestOf, List.forall_mem_cons.mpr ⟨gk_X9_isSheet, List.forall_mem_cons.mpr ⟨gk_X9_meets, List.forall_mem_cons.mpr ⟨gk_X9_event, List.forall_mem_cons.mpr ⟨gk_X9_isIn, List.forall_mem_cons.mpr ⟨gk_X9_less, List.forall_mem_cons.mpr ⟨gk_X9_joins, List.forall_mem_cons.mpr ⟨gk_X9_leaves, List.forall_mem_cons.mpr ⟨gk_X9_befalls, List.forall_mem_cons.mpr ⟨gk_X9_fireAt, List.forall_mem_cons.mpr ⟨gk_X9_comes, List.forall_mem_cons.mpr ⟨gk_X9_serves, List.forall_mem_cons.mpr ⟨gk_X9_goAway, List.forall_mem_cons.mpr ⟨gk_X9_goesBy, List.forall_mem_cons.mpr ⟨gk_X9_asTold, List.forall_mem_cons.mpr ⟨gk_X9_runs, List.forall_mem_cons.mpr ⟨gk_X9_runsTold, List.forall_mem_cons.mpr ⟨gk_X9_atOf, List.forall_mem_cons.mpr ⟨gk_X9_isOf, List.forall_mem_cons.mpr ⟨gk_X9_lineOf, List.forall_mem_cons.mpr ⟨gk_X9_drunkNow, List.forall_mem_cons.mpr ⟨gk_X9_manyOf, List.forall_mem_cons.mpr ⟨gk_X9_sumOf, List.forall_mem_cons.mpr ⟨gk_X9_firstOf, List.forall_mem_cons.mpr ⟨gk_X9_hottestOf, List.forall_mem_cons.mpr ⟨gk_X9_waitedOf, List.forall_mem_cons.mpr ⟨gk_X9_thirstOf, List.forall_mem_cons.mpr ⟨gk_X9_starts, List.forall_mem_cons.mpr ⟨gk_X9_tries, List.forall_mem_cons.mpr ⟨gk_X9_betterOf, List.forall_mem_cons.mpr ⟨gk_X9_fillOf, List.forall_mem_cons.mpr ⟨gk_X9_comeOf, List.forall_mem_cons.mpr ⟨gk_X9_isSpared, List.forall_mem_cons.mpr ⟨gk_X9_spareBy, List.forall_mem_cons.mpr ⟨gk_X9_ofRow, List.forall_mem_cons.mpr ⟨gk_X9_isSeen, List.forall_mem_cons.mpr ⟨gk_X9_neverNow, List.forall_mem_cons.mpr ⟨gk_X9_watersBy, List.forall_mem_cons.mpr ⟨gk_X9_kindsBy, List.forall_mem_cons.mpr ⟨gk_X9_many, List.forall_mem_cons.mpr ⟨gk_X9_askOf, List.forall_mem_cons.mpr ⟨gk_X9_lowest, List.forall_mem_cons.mpr ⟨gk_X9_chanceOf, List.forall_mem_cons.mpr ⟨gk_X9_no, List.forall_mem_cons.mpr ⟨gk_X9_eveningsOf, List.forall_mem_cons.mpr ⟨gk_X9_lacks, List.forall_mem_cons.mpr ⟨gk_X9_keep, List.forall_mem_cons.mpr ⟨gk_X9_tellOf, List.forall_mem_cons.mpr ⟨gk_X9_isDigest, List.forall_mem_cons.mpr ⟨gk_X9_count, List.forall_mem_cons.mpr ⟨gk_X9_pieceDigest, List.forall_mem_cons.mpr ⟨gk_X9_guestDigest, fun _ h => absurd h List.not_mem_nil⟩⟩⟩⟩⟩⟩⟩⟩⟩⟩⟩⟩⟩⟩⟩⟩⟩⟩⟩⟩⟩⟩⟩⟩⟩⟩⟩⟩⟩⟩⟩⟩⟩⟩⟩⟩⟩⟩⟩⟩⟩⟩⟩⟩⟩⟩⟩⟩⟩⟩⟩⟩⟩⟩⟩⟩⟩⟩⟩⟩⟩⟩⟩⟩
set_option maxRecDepth 100000 in
theorem glk_10 : mlt_10.all (am_mlk 10) = true := by decide +kernel
theorem glg_10 : ∀ e ∈ mlt_10, am_G e.2.1 := List.forall_mem_cons.mpr ⟨gk_J10_coder, List.forall_mem_cons.mpr ⟨gk_J10_isLatin1, List.forall_mem_cons.mpr ⟨gk_J10_length, List.forall_mem_cons.mpr ⟨gk_J10_indexOf_2, List.forall_mem_cons.mpr ⟨gk_J11_indexOf, fun _ h => absurd h List.not_mem_nil⟩⟩⟩⟩⟩
set_option maxRecDepth 100000 in
theorem glk_11 : mlt_11.all (am_mlk 11) = true := by decide +kernel
theorem glg_11 : ∀ e ∈ mlt_11, am_G e.2.1 := List.forall_mem_cons.mpr ⟨gk_J11_canEncode, List.forall_mem_cons.mpr ⟨gk_J11_indexOfChar, fun _ h => absurd h List.not_mem_nil⟩⟩
set_option maxRecDepth 100000 in
theorem glk_12 : mlt_12.all (am_mlk 12) = true := by decide +kernel
theorem glg_12 : ∀ e ∈ mlt_12, am_G e.2.1 := fun _ h => absurd h List.not_mem_nil
set_option maxRecDepth 100000 in
theorem glk_13 : mlt_13.all (am_mlk 13) = true := by decide +kernel
theorem glg_13 : ∀ e ∈ mlt_13, am_G e.2.1 := fun _ h => absurd h List.not_mem_nil
set_option maxRecDepth 100000 in
theorem glk_14 : mlt_14.all (am_mlk 14) = true := by decide +kernel
theorem glg_14 : ∀ e ∈ mlt_14, am_G e.2.1 := fun _ h => absurd h List.not_mem_nil
set_option maxRecDepth 100000 in
theorem glk_15 : mlt_15.all (am_mlk 15) = true := by decide +kernel
theorem glg_15 : ∀ e ∈ mlt_15, am_G e.2.1 := List.forall_mem_cons.mpr ⟨gk_X8_type, List.forall_mem_cons.mpr ⟨gk_X9_type, List.forall_mem_cons.mpr ⟨gk_X8_wipe, List.forall_mem_cons.mpr ⟨gk_X9_wipe, List.forall_mem_cons.mpr ⟨gk_X8_undo, List.forall_mem_cons.mpr ⟨gk_X9_undo, List.forall_mem_cons.mpr ⟨gk_X8_fault, List.forall_mem_cons.mpr ⟨gk_X9_fault, List.forall_mem_cons.mpr ⟨gk_X8_piece, List.forall_mem_cons.mpr ⟨gk_X9_piece, List.forall_mem_cons.mpr ⟨gk_X8_guest, List.forall_mem_cons.mpr ⟨gk_X9_guest, List.forall_mem_cons.mpr ⟨gk_X8_set, List.forall_mem_cons.mpr ⟨gk_X9_set, List.forall_mem_cons.mpr ⟨gk_X8_event, List.forall_mem_cons.mpr ⟨gk_X9_event, List.forall_mem_cons.mpr ⟨gk_X8_back, List.forall_mem_cons.mpr ⟨gk_X9_back, List.forall_mem_cons.mpr ⟨gk_X8_read, List.forall_mem_cons.mpr ⟨gk_X9_read, List.forall_mem_cons.mpr ⟨gk_X8_at, List.forall_mem_cons.mpr ⟨gk_X9_at, List.forall_mem_cons.mpr ⟨gk_X8_is, List.forall_mem_cons.mpr ⟨gk_X9_is, List.forall_mem_cons.mpr ⟨gk_X8_line, List.forall_mem_cons.mpr ⟨gk_X9_line, List.forall_mem_cons.mpr ⟨gk_X8_sum, List.forall_mem_cons.mpr ⟨gk_X9_sum, List.forall_mem_cons.mpr ⟨gk_X8_first, List.forall_mem_cons.mpr ⟨gk_X9_first, List.forall_mem_cons.mpr ⟨gk_X8_hottest, List.forall_mem_cons.mpr ⟨gk_X9_hottest, List.forall_mem_cons.mpr ⟨gk_X8_waited, List.forall_mem_cons.mpr ⟨gk_X9_waited, List.forall_mem_cons.mpr ⟨gk_X8_thirst, List.forall_mem_cons.mpr ⟨gk_X9_thirst, List.forall_mem_cons.mpr ⟨gk_X8_better, List.forall_mem_cons.mpr ⟨gk_X9_better, List.forall_mem_cons.mpr ⟨gk_X8_fill, List.forall_mem_cons.mpr ⟨gk_X9_fill, List.forall_mem_cons.mpr ⟨gk_X8_come, List.forall_mem_cons.mpr ⟨gk_X9_come, List.forall_mem_cons.mpr ⟨gk_X8_spare, List.forall_mem_cons.mpr ⟨gk_X9_spare, List.forall_mem_cons.mpr ⟨gk_X8_seen, List.forall_mem_cons.mpr ⟨gk_X9_seen, List.forall_mem_cons.mpr ⟨gk_X8_forget, List.forall_mem_cons.mpr ⟨gk_X9_forget, List.forall_mem_cons.mpr ⟨gk_X8_never, List.forall_mem_cons.mpr ⟨gk_X9_never, List.forall_mem_cons.mpr ⟨gk_X8_waters, List.forall_mem_cons.mpr ⟨gk_X9_waters, List.forall_mem_cons.mpr ⟨gk_X8_kind, List.forall_mem_cons.mpr ⟨gk_X9_kind, List.forall_mem_cons.mpr ⟨gk_X8_ask, List.forall_mem_cons.mpr ⟨gk_X9_ask, List.forall_mem_cons.mpr ⟨gk_X8_chance, List.forall_mem_cons.mpr ⟨gk_X9_chance, List.forall_mem_cons.mpr ⟨gk_X8_evenings, List.forall_mem_cons.mpr ⟨gk_X9_evenings, List.forall_mem_cons.mpr ⟨gk_X8_sheet, List.forall_mem_cons.mpr ⟨gk_X9_sheet, List.forall_mem_cons.mpr ⟨gk_X8_lose, List.forall_mem_cons.mpr ⟨gk_X9_lose, List.forall_mem_cons.mpr ⟨gk_X8_put, List.forall_mem_cons.mpr ⟨gk_X9_put, List.forall_mem_cons.mpr ⟨gk_X8_get, List.forall_mem_cons.mpr ⟨gk_X9_get, List.forall_mem_cons.mpr ⟨gk_X8_copy, List.forall_mem_cons.mpr ⟨gk_X9_copy, List.forall_mem_cons.mpr ⟨gk_X8_write, List.forall_mem_cons.mpr ⟨gk_X9_write, List.forall_mem_cons.mpr ⟨gk_X8_count, List.forall_mem_cons.mpr ⟨gk_X9_count, List.forall_mem_cons.mpr ⟨gk_X8_digest, List.forall_mem_cons.mpr ⟨gk_X9_digest, fun _ h => absurd h List.not_mem_nil⟩⟩⟩⟩⟩⟩⟩⟩⟩⟩⟩⟩⟩⟩⟩⟩⟩⟩⟩⟩⟩⟩⟩⟩⟩⟩⟩⟩⟩⟩⟩⟩⟩⟩⟩⟩⟩⟩⟩⟩⟩⟩⟩⟩⟩⟩⟩⟩⟩⟩⟩⟩⟩⟩⟩⟩⟩⟩⟩⟩⟩⟩⟩⟩⟩⟩⟩⟩⟩⟩⟩⟩⟩⟩⟩⟩
theorem am_links (o : Nat) : ∀ e ∈ am_mlt o, am_GL o e := by
  intro e he
  match o, he with
  | 0, he => exact ⟨List.all_eq_true.mp glk_0 e he, glg_0 e he⟩
  | 1, he => exact ⟨List.all_eq_true.mp glk_1 e he, glg_1 e he⟩
  | 2, he => exact ⟨List.all_eq_true.mp glk_2 e he, glg_2 e he⟩
  | 3, he => exact ⟨List.all_eq_true.mp glk_3 e he, glg_3 e he⟩
  | 4, he => exact ⟨List.all_eq_true.mp glk_4 e he, glg_4 e he⟩
  | 5, he => exact ⟨List.all_eq_true.mp glk_5 e he, glg_5 e he⟩
  | 6, he => exact ⟨List.all_eq_true.mp glk_6 e he, glg_6 e he⟩
  | 7, he => exact ⟨List.all_eq_true.mp glk_7 e he, glg_7 e he⟩
  | 8, he => exact ⟨List.all_eq_true.mp glk_8 e he, glg_8 e he⟩
  | 9, he => exact ⟨List.all_eq_true.mp glk_9 e he, glg_9 e he⟩
  | 10, he => exact ⟨List.all_eq_true.mp glk_10 e he, glg_10 e he⟩
  | 11, he => exact ⟨List.all_eq_true.mp glk_11 e he, glg_11 e he⟩
  | 12, he => exact ⟨List.all_eq_true.mp glk_12 e he, glg_12 e he⟩
  | 13, he => exact ⟨List.all_eq_true.mp glk_13 e he, glg_13 e he⟩
  | 14, he => exact ⟨List.all_eq_true.mp glk_14 e he, glg_14 e he⟩
  | 15, he => exact ⟨List.all_eq_true.mp glk_15 e he, glg_15 e he⟩
  | n + 16, he => exact absurd he List.not_mem_nil
end
section
/-! the world's cells as the kit has them -/
def am_cv (ad : Nat → Nat) : Value → Value
  | .ref i => .ref (ad i)
  | .int x => .int x
  | .long x => .long x
  | .float x => .float x
  | .double x => .double x
  | .null => .null
  | .retAddr x => .retAddr x
def am_ff (ad : Nat → Nat) (h : AH) (i : Nat) (k : Nat) (r : Option Nat) : Value := match r with
  | some j => .ref (ad j)
  | none => .int (h.1 i k)
def am_ce (tc : Nat → ClassId) (ad : Nat → Nat) (h : AH) (i : Nat) (q : SP) : Nat × va_E := (ad i, match q with
  | .inl a => if a.1 = 1 then .inl (tc 1, a.2, .inr (.inl (h.2.2 i))) else .inl (tc a.1, a.2, .inl (h.2.1 i))
  | .inr a => .inr (a.1, a.2.mapIdx (am_ff ad h i)))
def am_W (tc : Nat → ClassId) (ad : Nat → Nat) (h : AH) : va_W := am_shp.mapIdx (am_ce tc ad h)
abbrev am_tys (tc : Nat → ClassId) : List (ClassId × FieldType) := [(tc 0, .int), (tc 1, .long), (tc 2, .boolean)]
theorem am_cv_cat (ad : Nat → Nat) (v : Value) : (am_cv ad v).category = v.category := by cases v <;> rfl
theorem am_W_at {tc : Nat → ClassId} {ad : Nat → Nat} {h : AH} {i : Nat} {q : SP} (hq : am_shp[i]? = some q) : (am_W tc ad h)[i]? = some (am_ce tc ad h i q) := by
  unfold am_W
  rw [List.getElem?_mapIdx, hq]
  rfl
theorem am_W_len {tc : Nat → ClassId} {ad : Nat → Nat} {h : AH} : (am_W tc ad h).length = am_shp.length := by
  unfold am_W
  rw [List.length_mapIdx]
theorem am_ce_eq {tc : Nat → ClassId} {ad : Nat → Nat} {h h' : AH} {i : Nat} {q : SP} (h1 : ∀ k, h.1 i k = h'.1 i k) (h2 : h.2.1 i = h'.2.1 i) (h3 : h.2.2 i = h'.2.2 i) : am_ce tc ad h i q = am_ce tc ad h' i q := by
  have e : am_ff ad h i = am_ff ad h' i := by
    funext k r
    cases r with
    | some j => rfl
    | none => show Value.int _ = Value.int _; rw [h1]
  cases q with
  | inl a => unfold am_ce; simp only [h2, h3]
  | inr a => unfold am_ce; simp only [e]
/-- one cell is another -/
theorem am_W_set {tc : Nat → ClassId} {ad : Nat → Nat} {h h' : AH} {i : Nat} {q : SP} {e : va_E} (hq : am_shp[i]? = some q) (he : (ad i, e) = am_ce tc ad h' i q) (ho : ∀ j, j ≠ i → (∀ k, h.1 j k = h'.1 j k) ∧ h.2.1 j = h'.2.1 j ∧ h.2.2 j = h'.2.2 j) : (am_W tc ad h).set i (ad i, e) = am_W tc ad h' := by
  have hlt : i < (am_W tc ad h).length := by
    rw [am_W_len]
    exact (List.getElem?_eq_some_iff.mp hq).1
  apply List.ext_getElem?
  intro j
  by_cases hj : i = j
  · subst hj
    rw [List.getElem?_set_self hlt, he, am_W_at hq]
  · rw [List.getElem?_set_ne hj]
    unfold am_W
    rw [List.getElem?_mapIdx, List.getElem?_mapIdx]
    cases hs : am_shp[j]? with
    | none => rfl
    | some r =>
      obtain ⟨o1, o2, o3⟩ := ho j (fun z => hj z.symm)
      show some _ = some _
      rw [am_ce_eq o1 o2 o3]
theorem am_W_sf {tc : Nat → ClassId} {ad : Nat → Nat} {h : AH} {i k : Nat} {a : Nat × List (Option Nat)} (v : Int32) (hq : am_shp[i]? = some (.inr a)) (hk : a.2[k]? = some none) : (am_W tc ad h).set i (ad i, .inr (a.1, (a.2.mapIdx (am_ff ad h i)).set k (.int v))) = am_W tc ad (am_sf h i k v) := by
  refine am_W_set hq ?_ (fun j hj => ⟨fun b => ?_, rfl, rfl⟩)
  · have hlt : k < (a.2.mapIdx (am_ff ad h i)).length := by
      rw [List.length_mapIdx]
      exact (List.getElem?_eq_some_iff.mp hk).1
    have e : (a.2.mapIdx (am_ff ad h i)).set k (.int v) = a.2.mapIdx (am_ff ad (am_sf h i k v) i) := by
      apply List.ext_getElem?
      intro j
      by_cases hj : k = j
      · subst hj
        rw [List.getElem?_set_self hlt, List.getElem?_mapIdx, hk]
        show some (Value.int v) = some (Value.int _)
        simp [am_sf]
      · rw [List.getElem?_set_ne hj, List.getElem?_mapIdx, List.getElem?_mapIdx]
        cases hs : a.2[j]? with
        | none => rfl
        | some r =>
          cases r with
          | some z => rfl
          | none =>
            show some (Value.int _) = some (Value.int _)
            have hj' : ¬ j = k := fun z => hj z.symm
            simp [am_sf, hj']
    unfold am_ce
    simp only [e]
  · simp [am_sf, hj]
theorem am_W_sa {tc : Nat → ClassId} {ad : Nat → Nat} {h : AH} {i : Nat} {a : Nat × Nat} (g : Nat → Int32) (hq : am_shp[i]? = some (.inl a)) (hk : ¬ a.1 = 1) : (am_W tc ad h).set i (ad i, .inl (tc a.1, a.2, .inl g)) = am_W tc ad (am_sa h i g) := by
  refine am_W_set hq ?_ (fun j hj => ⟨fun b => rfl, ?_, rfl⟩)
  · unfold am_ce
    simp only [if_neg hk]
    simp [am_sa]
  · simp [am_sa, hj]
theorem am_W_sl {tc : Nat → ClassId} {ad : Nat → Nat} {h : AH} {i : Nat} {a : Nat × Nat} (g : Nat → Int64) (hq : am_shp[i]? = some (.inl a)) (hk : a.1 = 1) : (am_W tc ad h).set i (ad i, .inl (tc 1, a.2, .inr (.inl g))) = am_W tc ad (am_sl h i g) := by
  refine am_W_set hq ?_ (fun j hj => ⟨fun b => rfl, rfl, ?_⟩)
  · unfold am_ce
    simp only [if_pos hk]
    simp [am_sl]
  · simp [am_sl, hj]
/-- the addresses don't depend on what the cells hold -/
theorem am_D_any {tc : Nat → ClassId} {ad : Nat → Nat} {A : Nat → Prop} {h : AH} (hD : va_D A (am_W tc ad h)) (h' : AH) : va_D A (am_W tc ad h') := by
  have key : ∀ (k : Nat) (q : Nat × va_E), (am_W tc ad h')[k]? = some q → ∃ q0, (am_W tc ad h)[k]? = some q0 ∧ q0.1 = q.1 := by
    intro k q hk
    unfold am_W at hk
    rw [List.getElem?_mapIdx] at hk
    cases hs : am_shp[k]? with
    | none => rw [hs] at hk; cases hk
    | some r =>
      rw [hs] at hk
      cases hk
      exact ⟨_, am_W_at hs, rfl⟩
  refine ⟨fun i j x y hx hy hxy => ?_, fun k q hk => ?_⟩
  · obtain ⟨x0, a1, a2⟩ := key i x hx
    obtain ⟨y0, b1, b2⟩ := key j y hy
    exact hD.1 i j x0 y0 a1 b1 (by rw [a2, b2]; exact hxy)
  · obtain ⟨q0, a1, a2⟩ := key k q hk
    rw [← a2]
    exact hD.2 k q0 a1
theorem am_A_any {tc : Nat → ClassId} {ad : Nat → Nat} {h h' : AH} {sz q : Nat} (hq : va_A (am_W tc ad h) sz q) : va_A (am_W tc ad h') sz q := by
  rcases hq with ⟨k, e, hk⟩ | hq
  · unfold am_W at hk
    rw [List.getElem?_mapIdx] at hk
    cases hs : am_shp[k]? with
    | none => rw [hs] at hk; cases hk
    | some r =>
      rw [hs] at hk
      cases hk
      exact Or.inl ⟨k, _, am_W_at hs⟩
  · exact Or.inr hq
/-- what nobody writes -/
def am_RO (ad : Nat → Nat) (A : Nat → Prop) (U : State) (H : Heap) : Prop :=
  vk_S 2 [3, 2] [[107, 98, 99], [119, 100]] (fun i => ad (200 + i)) (fun i => ad (204 + i)) A U H ∧
  va_Z "java/lang/String" "COMPACT_STRINGS" "Z" (.int 1) A U H ∧
  (va_Z "Samovar" "MINUTES_OF_KIND" "[I" (.ref (ad 202)) A U H ∧ va_T .int (ad 202) 3 (fun j => .int ([3, 5, 9].getD j 0)) A U H) ∧
  (va_Z "Samovar" "FIRE_OF_KIND" "[I" (.ref (ad 203)) A U H ∧ va_T .int (ad 203) 3 (fun j => .int ([3, 4, 3].getD j 0)) A U H) ∧
  va_Nw (.fieldLinkNest "Samovar$Evening" am_gm "Samovar" "MINUTES_OF_KIND" "[I" "Samovar") U ∧
  va_Nw (.fieldLinkNest "Samovar$Evening" am_gf "Samovar" "FIRE_OF_KIND" "[I" "Samovar") U ∧
  va_Nw (.methodLinkNest "Samovar$Evening" am_gw ⟨"Samovar", "within", "(II)Z"⟩ "Samovar") U
theorem am_RO.warm {ad : Nat → Nat} {A : Nat → Prop} {u U : State} {H : Heap} (hW : u.WarmedH U.vm) (h : am_RO ad A u H) : am_RO ad A U H := by
  obtain ⟨h1, h2, ⟨h3, h4⟩, ⟨h5, h6⟩, h7, h8, h9⟩ := h
  exact ⟨h1.moved hW.alike, h2.moved hW.alike, ⟨h3.moved hW.alike, h4.moved hW.alike⟩, ⟨h5.moved hW.alike, h6.moved hW.alike⟩, h7.warmF hW, h8.warmF hW, h9.warmM hW⟩
theorem am_RO.same {ad : Nat → Nat} {A : Nat → Prop} {u U : State} {H : Heap} (hv : u.vm = U.vm) (h : am_RO ad A u H) : am_RO ad A U H := by
  obtain ⟨h1, h2, ⟨h3, h4⟩, ⟨h5, h6⟩, h7, h8, h9⟩ := h
  have ha : u.vm.Alike U.vm := by rw [hv]; exact Vm.Alike.refl _
  exact ⟨h1.moved ha, h2.moved ha, ⟨h3.moved ha, h4.moved ha⟩, ⟨h5.moved ha, h6.moved ha⟩, va_Nw.same rfl hv h7, va_Nw.same rfl hv h8, va_Nw.same rfl hv h9⟩
theorem am_RO.kept {ad : Nat → Nat} {A : Nat → Prop} {U : State} {H H1 : Heap} (h : am_RO ad A U H) (hq : ∀ a : Nat, a < H.size → ¬ A a → H1[a]? = H[a]?) : am_RO ad A U H1 := by
  obtain ⟨h1, h2, ⟨h3, h4⟩, ⟨h5, h6⟩, h7, h8, h9⟩ := h
  exact ⟨h1.kept hq, h2.kept hq, ⟨h3.kept hq, h4.kept hq⟩, ⟨h5.kept hq, h6.kept hq⟩, h7, h8, h9⟩
theorem am_RO.narrow {ad : Nat → Nat} {A B : Nat → Prop} {U : State} {H : Heap} (h : am_RO ad A U H) (hAB : ∀ q, B q → A q) : am_RO ad B U H := by
  obtain ⟨h1, h2, ⟨h3, h4⟩, ⟨h5, h6⟩, h7, h8, h9⟩ := h
  exact ⟨h1.narrow hAB, h2.narrow hAB, ⟨h3.narrow hAB, h4.narrow hAB⟩, ⟨h5.narrow hAB, h6.narrow hAB⟩, h7, h8, h9⟩
/-- the tables of a kind of object -/
theorem am_inc {ci : Nat} {q : vw_C} (h : am_cl[ci]? = some q) : ∀ w ∈ u_ws q.1 q.2.1 q.2.2, w ∈ am_all := by
  match ci, h with
  | 0, h => cases h; exact inX0
  | 1, h => cases h; exact inX1
  | 2, h => cases h; exact inX2
  | 3, h => cases h; exact inX3
  | 4, h => cases h; exact inX4
  | 5, h => cases h; exact inX5
  | 6, h => cases h; exact inX6
  | 7, h => cases h; exact inX7
  | 8, h => cases h; exact inX8
  | 9, h => cases h; exact inX9
  | n + 10, h => simp [am_cl] at h
theorem am_tyc {ci : Nat} {q : vw_C} (h : am_cl[ci]? = some q) : (∃ ty0 : Nat → FieldType, ∀ k, k < q.2.2 → parseFieldDescriptor (q.2.1 k).2.2.1 = some (ty0 k)) ∧ ∀ a, a < q.2.2 → ∀ b, b < q.2.2 → a ≠ b → (q.2.1 a).2.1 ≠ (q.2.1 b).2.1 := by
  match ci, h with
  | 0, h => cases h; exact ⟨⟨_, tyX0_ok⟩, nmX0⟩
  | 1, h => cases h; exact ⟨⟨_, tyX1_ok⟩, nmX1⟩
  | 2, h => cases h; exact ⟨⟨_, tyX2_ok⟩, nmX2⟩
  | 3, h => cases h; exact ⟨⟨_, tyX3_ok⟩, nmX3⟩
  | 4, h => cases h; exact ⟨⟨_, tyX4_ok⟩, nmX4⟩
  | 5, h => cases h; exact ⟨⟨_, tyX5_ok⟩, nmX5⟩
  | 6, h => cases h; exact ⟨⟨_, tyX6_ok⟩, nmX6⟩
  | 7, h => cases h; exact ⟨⟨_, tyX7_ok⟩, nmX7⟩
  | 8, h => cases h; exact ⟨⟨_, tyX8_ok⟩, nmX8⟩
  | 9, h => cases h; exact ⟨⟨_, tyX9_ok⟩, nmX9⟩
  | n + 10, h => simp [am_cl] at h
end
section
/-! a step of the abstract machine is a step of the machine -/
abbrev am_lv (ad : Nat → Nat) (lv : LV) : List (Nat × Value) := lv.map (fun q => (q.1, am_cv ad q.2))
/-- what a frame stands on -/
abbrev am_FX (p : Program) (s : State) (m : MethodId) (args : Array Value) (c : Code) (Rm : Room) (cells slots : Nat) (D : va_G) (tc : Nat → ClassId) (ad : Nat → Nat) (A : Nat → Prop) (sc : Option (Nat × (Nat → Int32))) (R : MR) : Prop :=
  p.tables.exec = Jvm.exec ∧ c.code = mr_b R ∧ c.maxLocals = mr_L R ∧ s.vm.findClass (am_cn (mr_o R)) = some m.cls ∧ (∀ w ∈ am_all, w.before args s = true) ∧ va_K D am_cl (am_tys tc) s ∧ am_RO ad A s s.heap ∧ (∀ h, va_D A (am_W tc ad h)) ∧ (∀ q : Nat, s.heap.size ≤ q → A q) ∧ (mr_f R ≤ Rm.frames ∧ mr_w R ≤ Rm.locals ∧ cells ≤ Rm.cells ∧ slots ≤ Rm.slots) ∧ (∀ (L : Nat) (xs : Nat → Int32), sc = some (L, xs) → va_X (ad 206) L xs s s.heap ∧ ad 206 < s.heap.size ∧ ¬ A (ad 206)) ∧ (mr_c R).all (am_rowok (mr_o R) (mr_b R)) = true
/-- from that state on the machine comes to Q -/
def am_WA (p : Program) (l : Launch) (e : Env) (Rm : Room) (s : State) (m : MethodId) (args : Array Value) (below : List Frame) (meth : Method) (c : Code) (cells slots : Nat) (Q : State → Prop) (D : va_G) (tc : Nat → ClassId) (ad : Nat → Nat) (A : Nat → Prop) (R : MR) (B : AS) : Prop :=
  ∀ (ls : Array Slot) (H : Heap) (locs : List Loc), lv_has ls (mr_L R) (am_lv ad B.2.1) → va_P D am_cl (am_W tc ad B.2.2.2) H → va_S A s.heap H locs → W p l e Rm s m args below meth c H locs cells slots Q (F0 m B.1 ls (B.2.2.1.map (am_cv ad)))
theorem am_lv_get {ad : Nat → Nat} {lv : LV} {ls : Array Slot} {n i : Nat} {v : Value} (hl : lv_has ls n (am_lv ad lv)) (h : am_get lv i = some v) : ls[i]? = some (.val (am_cv ad v)) := hl.2.2 (i, am_cv ad v) (List.mem_map.mpr ⟨(i, v), am_get_mem h, rfl⟩)
theorem am_lv_st1 (ad : Nat → Nat) (lv : LV) (i : Nat) (v : Value) : (i, am_cv ad v) :: (am_lv ad lv).filter (fun q => !(q.1 == i) && !(q.1 + 1 == i && q.2.category == 2)) = am_lv ad (am_st1 lv i v) := by
  unfold am_lv am_st1
  rw [List.map_cons, List.filter_map]
  congr 2
  apply List.filter_congr
  intro q _
  simp [am_cv_cat]
theorem am_lv_st2 (ad : Nat → Nat) (lv : LV) (i : Nat) (v : Value) : (i, am_cv ad v) :: (am_lv ad lv).filter (fun q => !(q.1 == i) && (!(q.1 == i + 1) && !(q.1 + 1 == i && q.2.category == 2))) = am_lv ad (am_st2 lv i v) := by
  unfold am_lv am_st2
  rw [List.map_cons, List.filter_map]
  congr 2
  apply List.filter_congr
  intro q _
  simp [am_cv_cat]
theorem am_cat_cv (ad : Nat → Nat) (st : List Value) : ((st.map (am_cv ad)).map fun v => v.category).sum = am_cat st := by
  unfold am_cat
  rw [List.map_map]
  congr 1
  apply List.map_congr_left
  intro v _
  exact am_cv_cat ad v
section AMS
variable {p : Program} {l : Launch} {e : Env} {Rm : Room} {s : State} {m : MethodId} {args : Array Value} {below : List Frame} {meth : Method} {c : Code} {cells slots : Nat} {Q : State → Prop} {D : va_G} {tc : Nat → ClassId} {ad : Nat → Nat} {A : Nat → Prop} {R : MR} {sc : Option (Nat × (Nat → Int32))}
variable {pc : Nat} {lv : LV} {st : List Value} {h : AH} {B : AS}
/-- a row's decoding, and what it keeps -/
theorem am_dec (X : am_FX p s m args c Rm cells slots D tc ad A sc R) {i : Jvm.ClassFile.Instr} {tg : Nat} {ex : List Nat} {sw : List (Int32 × Nat)} {lg : Int64} (hr : am_row (mr_c R) pc = some (i, tg, ex, sw, lg)) : (∃ n, decode (mr_b R) pc = .ok (i, n) ∧ (am_isSw i = true ∨ n = am_len i)) ∧ am_rowx (mr_o R) (pc, i, tg, ex, sw, lg) = true := by
  have h1 := List.all_eq_true.mp X.2.2.2.2.2.2.2.2.2.2.2 _ (am_row_mem hr)
  unfold am_rowok at h1
  rw [Bool.and_eq_true] at h1
  obtain ⟨h1, h2⟩ := h1
  refine ⟨?_, h2⟩
  dsimp only at h1
  split at h1
  · rename_i j n hd
    simp only [Bool.and_eq_true, decide_eq_true_eq, Bool.or_eq_true] at h1
    obtain ⟨rfl, h3⟩ := h1
    exact ⟨n, hd, h3.imp id (fun z => Nat.eq_of_beq_eq_true z)⟩
  · cases h1
theorem am_n_ii {f : Int32 → Int32 → Int32} (he : am_ii pc lv st h f = some (.inl B)) (k : am_WA p l e Rm s m args below meth c cells slots Q D tc ad A R B)
    (row : ∀ {ls : Array Slot} {H : Heap} {locs : List Loc} {rest : List Value} {x y : Int32}, W p l e Rm s m args below meth c H locs cells slots Q (F0 m (pc + 1) ls (.int (f x y) :: rest)) → W p l e Rm s m args below meth c H locs cells slots Q (F0 m pc ls (.int y :: .int x :: rest))) :
    am_WA p l e Rm s m args below meth c cells slots Q D tc ad A R (pc, lv, st, h) := by
  unfold am_ii at he
  split at he
  · cases he
    intro ls H locs hl hP hS
    exact row (k ls H locs hl hP hS)
  · cases he
theorem am_n_ll {f : Int64 → Int64 → Int64} (he : am_ll pc lv st h f = some (.inl B)) (k : am_WA p l e Rm s m args below meth c cells slots Q D tc ad A R B)
    (row : ∀ {ls : Array Slot} {H : Heap} {locs : List Loc} {rest : List Value} {x y : Int64}, W p l e Rm s m args below meth c H locs cells slots Q (F0 m (pc + 1) ls (.long (f x y) :: rest)) → W p l e Rm s m args below meth c H locs cells slots Q (F0 m pc ls (.long y :: .long x :: rest))) :
    am_WA p l e Rm s m args below meth c cells slots Q D tc ad A R (pc, lv, st, h) := by
  unfold am_ll at he
  split at he
  · cases he
    intro ls H locs hl hP hS
    exact row (k ls H locs hl hP hS)
  · cases he
theorem am_n_load {pv : Value → Bool} {pc' i : Nat} (he : am_load pv pc' lv st h i = some (.inl B)) (k : am_WA p l e Rm s m args below meth c cells slots Q D tc ad A R B)
    (row : ∀ {ls : Array Slot} {H : Heap} {locs : List Loc} {rest : List Value} {v : Value}, pv v = true → ls[i]? = some (.val (am_cv ad v)) → W p l e Rm s m args below meth c H locs cells slots Q (F0 m pc' ls (am_cv ad v :: rest)) → W p l e Rm s m args below meth c H locs cells slots Q (F0 m pc ls rest)) :
    am_WA p l e Rm s m args below meth c cells slots Q D tc ad A R (pc, lv, st, h) := by
  unfold am_load at he
  split at he
  · rename_i v hv
    cases hp : pv v with
    | false => rw [hp] at he; cases he
    | true =>
      rw [hp] at he
      cases he
      intro ls H locs hl hP hS
      exact row hp (am_lv_get hl hv) (k ls H locs hl hP hS)
  · cases he
theorem am_n_store {pv : Value → Bool} {pc' i : Nat} (he : am_store pv (mr_L R) pc' lv st h i = some (.inl B)) (k : am_WA p l e Rm s m args below meth c cells slots Q D tc ad A R B)
    (row : ∀ {ls : Array Slot} {H : Heap} {locs : List Loc} {rest : List Value} {v : Value} {l0 : List (Nat × Value)}, pv v = true → lv_has ls (mr_L R) l0 → i < mr_L R → (∀ ls' : Array Slot, lv_has ls' (mr_L R) ((i, am_cv ad v) :: l0.filter (fun q => !(q.1 == i) && !(q.1 + 1 == i && q.2.category == 2))) → W p l e Rm s m args below meth c H locs cells slots Q (F0 m pc' ls' rest)) → W p l e Rm s m args below meth c H locs cells slots Q (F0 m pc ls (am_cv ad v :: rest))) :
    am_WA p l e Rm s m args below meth c cells slots Q D tc ad A R (pc, lv, st, h) := by
  unfold am_store at he
  split at he
  · rename_i v r
    cases hp : pv v && Nat.blt i (mr_L R) with
    | false => rw [hp] at he; cases he
    | true =>
      rw [hp] at he
      cases he
      rw [Bool.and_eq_true] at hp
      intro ls H locs hl hP hS
      refine row hp.1 hl (Nat.le_of_ble_eq_true hp.2) (fun ls' hl' => ?_)
      rw [am_lv_st1] at hl'
      exact k ls' H locs hl' hP hS
  · cases he
theorem am_n_storeL {pc' i : Nat} (he : am_storeL (mr_L R) pc' lv st h i = some (.inl B)) (k : am_WA p l e Rm s m args below meth c cells slots Q D tc ad A R B)
    (row : ∀ {ls : Array Slot} {H : Heap} {locs : List Loc} {rest : List Value} {x : Int64} {l0 : List (Nat × Value)}, lv_has ls (mr_L R) l0 → i + 1 < mr_L R → (∀ ls' : Array Slot, lv_has ls' (mr_L R) ((i, .long x) :: l0.filter (fun q => !(q.1 == i) && (!(q.1 == i + 1) && !(q.1 + 1 == i && q.2.category == 2)))) → W p l e Rm s m args below meth c H locs cells slots Q (F0 m pc' ls' rest)) → W p l e Rm s m args below meth c H locs cells slots Q (F0 m pc ls (.long x :: rest))) :
    am_WA p l e Rm s m args below meth c cells slots Q D tc ad A R (pc, lv, st, h) := by
  unfold am_storeL at he
  split at he
  · rename_i v r
    cases hp : am_isLong v && Nat.blt (i + 1) (mr_L R) with
    | false => rw [hp] at he; cases he
    | true =>
      rw [hp] at he
      cases he
      rw [Bool.and_eq_true] at hp
      cases v with
      | long x =>
        intro ls H locs hl hP hS
        refine row hl (Nat.le_of_ble_eq_true hp.2) (fun ls' hl' => ?_)
        have e := am_lv_st2 ad lv i (.long x)
        rw [show am_cv ad (.long x) = .long x from rfl] at e
        rw [e] at hl'
        exact k ls' H locs hl' hP hS
      | _ => cases hp.1
  · cases he
/-- a branch -/
theorem am_n_br {b : Bool} {t1 t2 : Nat} {r : List Value} (k : am_WA p l e Rm s m args below meth c cells slots Q D tc ad A R (bif b then t1 else t2, lv, r, h)) : (b = true → am_WA p l e Rm s m args below meth c cells slots Q D tc ad A R (t1, lv, r, h)) ∧ (b = false → am_WA p l e Rm s m args below meth c cells slots Q D tc ad A R (t2, lv, r, h)) := by
  cases b with
  | true => exact ⟨fun _ => k, fun z => Bool.noConfusion z⟩
  | false => exact ⟨fun z => Bool.noConfusion z, fun _ => k⟩
theorem am_n_icmp (X : am_FX p s m args c Rm cells slots D tc ad A sc R) {cd : Jvm.ClassFile.Cond} {off : Int} {tg : Nat} {x y : Int32} {r : List Value} (hd : decode (mr_b R) pc = .ok (.if_icmp cd off, 3)) (ht : (pc : Int) + off = (tg : Int)) (k : am_WA p l e Rm s m args below meth c cells slots Q D tc ad A R (bif am_cmp cd x y then tg else pc + 3, lv, r, h)) :
    am_WA p l e Rm s m args below meth c cells slots Q D tc ad A R (pc, lv, .int y :: .int x :: r, h) := by
  obtain ⟨hx, hb, -⟩ := X
  obtain ⟨k1, k2⟩ := am_n_br k
  intro ls H locs hl hP hS
  cases cd with
  | eq => exact lv_icmp_eq hx hb hd ht (fun z => k1 (decide_eq_true z) ls H locs hl hP hS) (fun z => k2 (decide_eq_false z) ls H locs hl hP hS)
  | ne => exact lv_icmp_ne hx hb hd ht (fun z => k1 (decide_eq_true z) ls H locs hl hP hS) (fun z => k2 (decide_eq_false (fun q => q z)) ls H locs hl hP hS)
  | lt => exact lv_icmp_lt hx hb hd ht (fun z => k1 (decide_eq_true z) ls H locs hl hP hS) (fun z => k2 (decide_eq_false z) ls H locs hl hP hS)
  | ge => exact lv_icmp_ge hx hb hd ht (fun z => k1 (decide_eq_true z) ls H locs hl hP hS) (fun z => k2 (decide_eq_false z) ls H locs hl hP hS)
  | gt => exact lv_icmp_gt hx hb hd ht (fun z => k1 (decide_eq_true z) ls H locs hl hP hS) (fun z => k2 (decide_eq_false z) ls H locs hl hP hS)
  | le => exact lv_icmp_le hx hb hd ht (fun z => k1 (decide_eq_true z) ls H locs hl hP hS) (fun z => k2 (decide_eq_false z) ls H locs hl hP hS)
theorem am_n_if (X : am_FX p s m args c Rm cells slots D tc ad A sc R) {cd : Jvm.ClassFile.Cond} {off : Int} {tg : Nat} {x : Int32} {r : List Value} (hd : decode (mr_b R) pc = .ok (.ifCond cd off, 3)) (ht : (pc : Int) + off = (tg : Int)) (k : am_WA p l e Rm s m args below meth c cells slots Q D tc ad A R (bif am_cmp cd x 0 then tg else pc + 3, lv, r, h)) :
    am_WA p l e Rm s m args below meth c cells slots Q D tc ad A R (pc, lv, .int x :: r, h) := by
  obtain ⟨hx, hb, -⟩ := X
  obtain ⟨k1, k2⟩ := am_n_br k
  intro ls H locs hl hP hS
  cases cd with
  | eq => exact lv_if_eq hx hb hd ht (fun z => k1 (decide_eq_true z) ls H locs hl hP hS) (fun z => k2 (decide_eq_false z) ls H locs hl hP hS)
  | ne => exact lv_if_ne hx hb hd ht (fun z => k1 (decide_eq_true z) ls H locs hl hP hS) (fun z => k2 (decide_eq_false (fun q => q z)) ls H locs hl hP hS)
  | lt => exact lv_if_lt hx hb hd ht (fun z => k1 (decide_eq_true z) ls H locs hl hP hS) (fun z => k2 (decide_eq_false z) ls H locs hl hP hS)
  | ge => exact lv_if_ge hx hb hd ht (fun z => k1 (decide_eq_true z) ls H locs hl hP hS) (fun z => k2 (decide_eq_false z) ls H locs hl hP hS)
  | gt => exact lv_if_gt hx hb hd ht (fun z => k1 (decide_eq_true z) ls H locs hl hP hS) (fun z => k2 (decide_eq_false z) ls H locs hl hP hS)
  | le => exact lv_if_le hx hb hd ht (fun z => k1 (decide_eq_true z) ls H locs hl hP hS) (fun z => k2 (decide_eq_false z) ls H locs hl hP hS)
/-- switches -/
theorem am_tsw_in {pc : Nat} {x : Int32} {d : Nat} : ∀ (os : List Int) (qs : List (Int32 × Nat)) (lo : Int), am_tsw pc lo os qs = true → ((x.toInt < lo ∨ lo + os.length ≤ x.toInt) ∧ am_sel x qs d = d) ∨ (lo ≤ x.toInt ∧ x.toInt < lo + os.length ∧ ∃ off : Int, os[(x.toInt - lo).toNat]? = some off ∧ (pc : Int) + off = (am_sel x qs d : Int)) := by
  intro os
  induction os with
  | nil =>
    intro qs lo ht
    cases qs with
    | nil =>
      refine Or.inl ⟨?_, rfl⟩
      simp only [List.length_nil]
      omega
    | cons q qs => cases ht
  | cons o os ih =>
    intro qs lo ht
    cases qs with
    | nil => cases ht
    | cons q qs =>
      simp only [am_tsw, Bool.and_eq_true, decide_eq_true_eq] at ht
      obtain ⟨h1, h2, h3⟩ := ht
      by_cases hx : x = q.1
      · refine Or.inr ⟨by rw [hx, h1]; omega, by rw [hx, h1, List.length_cons]; omega, o, ?_, ?_⟩
        · rw [hx, h1, Int.sub_self]
          rfl
        · rw [am_sel, if_pos hx]
          exact h2
      · have hne : ¬ x.toInt = lo := fun z => hx (Int32.toInt_inj.mp (by rw [h1]; exact z))
        rcases ih qs (lo + 1) h3 with ⟨g1, g2⟩ | ⟨g1, g2, off, g3, g4⟩
        · refine Or.inl ⟨?_, by rw [am_sel, if_neg hx]; exact g2⟩
          rw [List.length_cons]
          omega
        · refine Or.inr ⟨by omega, by rw [List.length_cons]; omega, off, ?_, by rw [am_sel, if_neg hx]; exact g4⟩
          rw [show (x.toInt - lo).toNat = (x.toInt - (lo + 1)).toNat + 1 by omega, List.getElem?_cons_succ]
          exact g3
theorem am_lsw_in {pc : Nat} {x : Int32} {d : Nat} {df : Int} (hd : (pc : Int) + df = (d : Int)) : ∀ (os : List (Int × Int)) (qs : List (Int32 × Nat)), am_lsw pc os qs = true → (pc : Int) + Op.lookupswitch.offset os df x.toInt = (am_sel x qs d : Int) := by
  intro os
  induction os with
  | nil =>
    intro qs ht
    cases qs with
    | nil => exact hd
    | cons q qs => cases ht
  | cons o os ih =>
    intro qs ht
    cases qs with
    | nil => cases ht
    | cons q qs =>
      simp only [am_lsw, Bool.and_eq_true, decide_eq_true_eq] at ht
      obtain ⟨h1, h2, h3⟩ := ht
      obtain ⟨a, b⟩ := o
      rw [Op.lookupswitch.offset_cons]
      by_cases hx : x = q.1
      · rw [if_pos (by rw [hx, h1]), am_sel, if_pos hx]
        exact h2
      · rw [if_neg (fun z => hx (Int32.toInt_inj.mp (by rw [h1]; exact z.symm))), am_sel, if_neg hx]
        exact ih qs h3
theorem am_n_tsw (X : am_FX p s m args c Rm cells slots D tc ad A sc R) {d lo hi : Int} {offs : Array Int} {n tg : Nat} {sw : List (Int32 × Nat)} {x : Int32} {r : List Value} (hd : decode (mr_b R) pc = .ok (.tableswitch d lo hi offs, n)) (h1 : am_tsw pc lo offs.toList sw = true) (h2 : hi + 1 = lo + offs.toList.length) (h3 : (pc : Int) + d = (tg : Int)) (k : am_WA p l e Rm s m args below meth c cells slots Q D tc ad A R (am_sel x sw tg, lv, r, h)) :
    am_WA p l e Rm s m args below meth c cells slots Q D tc ad A R (pc, lv, .int x :: r, h) := by
  obtain ⟨hx, hb, -⟩ := X
  intro ls H locs hl hP hS
  rcases am_tsw_in (x := x) (d := tg) _ _ _ h1 with ⟨g1, g2⟩ | ⟨g1, g2, off, g3, g4⟩
  · rw [g2] at k
    exact lv_tableOut hx hb hd (by omega) h3 (k ls H locs hl hP hS)
  · exact lv_tableIn hx hb hd (by omega) (by omega) (by rw [← Array.getElem?_toList]; exact g3) g4 (k ls H locs hl hP hS)
theorem am_n_lsw (X : am_FX p s m args c Rm cells slots D tc ad A sc R) {d : Int} {ps : Array (Int × Int)} {n tg : Nat} {sw : List (Int32 × Nat)} {x : Int32} {r : List Value} (hd : decode (mr_b R) pc = .ok (.lookupswitch d ps, n)) (h1 : am_lsw pc ps.toList sw = true) (h2 : (ps.toList.zip (ps.toList.drop 1)).all (fun (a, next) => a.1 < next.1) = true) (h3 : (pc : Int) + d = (tg : Int)) (k : am_WA p l e Rm s m args below meth c cells slots Q D tc ad A R (am_sel x sw tg, lv, r, h)) :
    am_WA p l e Rm s m args below meth c cells slots Q D tc ad A R (pc, lv, .int x :: r, h) := by
  obtain ⟨hx, hb, -⟩ := X
  intro ls H locs hl hP hS
  exact lv_lookup hx hb hd h2 rfl (am_lsw_in h3 _ _ h1) (k ls H locs hl hP hS)
end AMS
end
section
/-! steps at the heap -/
section AMH
variable {p : Program} {l : Launch} {e : Env} {Rm : Room} {s : State} {m : MethodId} {args : Array Value} {below : List Frame} {meth : Method} {c : Code} {cells slots : Nat} {Q : State → Prop} {D : va_G} {tc : Nat → ClassId} {ad : Nat → Nat} {A : Nat → Prop} {R : MR} {sc : Option (Nat × (Nat → Int32))}
variable {pc : Nat} {lv : LV} {st : List Value} {h : AH} {B : AS}
theorem am_n_get (X : am_FX p s m args c Rm cells slots D tc ad A sc R) {idx a ci k : Nat} {ex : List Nat} {v : Value} {r : List Value} (hd : decode (mr_b R) pc = .ok (.getfield idx, 3)) (hf : am_fl (mr_o R) idx (ci :: k :: ex) = true) (hv : am_fv h a ci k = some v) (kk : am_WA p l e Rm s m args below meth c cells slots Q D tc ad A R (pc + 3, lv, v :: r, h)) :
    am_WA p l e Rm s m args below meth c cells slots Q D tc ad A R (pc, lv, .ref a :: r, h) := by
  obtain ⟨hx, hb, hml, hown, hts, hK, hRO, hD, -⟩ := X
  intro ls H locs hl hP hS
  have kk := kk ls H locs hl hP hS
  cases ex with
  | nil => cases hf
  | cons pp ex =>
    unfold am_fl at hf
    unfold am_fv at hv
    split at hv
    · rename_i q hq
      split at hv
      · rename_i hci
        by_cases h100 : ci = 100
        · exfalso
          subst h100
          have hb2 : am_shp.all (fun z => match z with | .inr q => decide (q.1 < 10) | .inl _ => true) = true := by decide +kernel
          have h3 := List.all_eq_true.mp hb2 _ (List.mem_of_getElem? hq)
          simp only [decide_eq_true_eq] at h3
          omega
        · simp only [if_neg h100] at hf
          split at hf
          · rename_i qq hqq
            simp only [Bool.and_eq_true, decide_eq_true_eq] at hf
            obtain ⟨hk, hw⟩ := hf
            have hfv : (q.2.mapIdx (am_ff ad h a))[k]? = some (am_cv ad v) := by
              rw [List.getElem?_mapIdx]
              split at hv
              · rename_i j hj
                cases hv
                rw [hj]
                rfl
              · rename_i hj
                cases hv
                rw [hj]
                rfl
              · cases hv
            have he := am_W_at (tc := tc) (ad := ad) (h := h) hq
            rw [← hci] at hqq
            exact va_get (D := D) (ci := q.1) (v := am_cv ad v) (C := qq.1) (T := qq.2.1) (N := qq.2.2) hx hb hts (am_inc hqq) hown hK hP a he hqq k hk (hts _ (am_wd_mem hw)) (fun _ z => z) hfv hd kk
          · cases hf
      · cases hv
    · cases hv
    · split at hv
      · rename_i hci
        obtain ⟨h100, hi⟩ := hci
        subst h100
        dsimp only at hf
        rw [if_pos rfl, Bool.and_eq_true, decide_eq_true_eq] at hf
        obtain ⟨hk, hw⟩ := hf
        have hE : ∀ i, i < 2 → _ := hRO.1.1
        have hi2 : ∃ i, i < 2 ∧ a = 200 + i := by
          rcases hi with rfl | rfl
          · exact ⟨0, by omega, rfl⟩
          · exact ⟨1, by omega, rfl⟩
        obtain ⟨i, hi2, rfl⟩ := hi2
        obtain ⟨-, e1, e2, -⟩ := hE i hi2
        by_cases hk0 : k = 0
        · subst hk0
          rw [if_pos rfl] at hv
          cases hv
          exact vk_getf hx hb e1 hS hown (hts _ (am_wd_mem hw)) (fun _ z => z) hd kk
        · rw [if_neg hk0] at hv
          cases hv
          rw [if_neg hk0, if_neg hk0] at hw
          rw [show 200 + i + 4 = 204 + i by omega] at kk
          exact vk_getf hx hb e2 hS hown (hts _ (am_wd_mem hw)) (fun _ z => z) hd kk
      · cases hv
theorem am_n_put (X : am_FX p s m args c Rm cells slots D tc ad A sc R) {idx a ci k pp b : Nat} {v : Int32} {r : List Value} (hd : decode (mr_b R) pc = .ok (.putfield idx, 3)) (hf : am_pl (mr_o R) idx [ci, k, pp, b] = true) (hw : am_wr a ci k = true) (hb0 : b = 0 ∨ v = 0 ∨ v = 1) (kk : am_WA p l e Rm s m args below meth c cells slots Q D tc ad A R (pc + 3, lv, r, am_sf h a k v)) :
    am_WA p l e Rm s m args below meth c cells slots Q D tc ad A R (pc, lv, .int v :: .ref a :: r, h) := by
  obtain ⟨hx, hb, hml, hown, hts, hK, hRO, hD, -⟩ := X
  intro ls H locs hl hP hS
  unfold am_pl at hf
  unfold am_wr at hw
  split at hw
  · rename_i q hq
    simp only [Bool.and_eq_true, decide_eq_true_eq] at hw
    obtain ⟨hci, hkn⟩ := hw
    dsimp only at hf
    split at hf
    · rename_i qq hqq
      simp only [Bool.and_eq_true, decide_eq_true_eq, Bool.not_eq_true'] at hf
      obtain ⟨hk, hwd, hfin, hpd⟩ := hf
      have he := am_W_at (tc := tc) (ad := ad) (h := h) hq
      rw [← hci] at hqq
      obtain ⟨⟨ty0, hty⟩, hnm⟩ := am_tyc hqq
      have hlen : k < (q.2.mapIdx (am_ff ad h a)).length := by
        rw [List.length_mapIdx]
        exact (List.getElem?_eq_some_iff.mp hkn).1
      have hn : narrow (if b = 0 then FieldType.int else FieldType.boolean) (Value.int v) = Value.int v := by
        rcases hb0 with z | z | z
        · rw [if_pos z]
          rfl
        · subst z
          split
          · rfl
          · decide
        · subst z
          split
          · rfl
          · decide
      have hfit : fits (if b = 0 then FieldType.int else FieldType.boolean) (Value.int v) = true := by
        rcases hb0 with z | z | z
        · rw [if_pos z]
          rfl
        · subst z
          split
          · rfl
          · decide
        · subst z
          split
          · rfl
          · decide
      refine va_put (D := D) (ci := q.1) (v := .int v) (C := qq.1) (T := qq.2.1) (N := qq.2.2) hx hb hts (am_inc hqq) ty0 hty hnm hown hK hP (hD h) hS a he hqq k hk (hts _ (am_wd_mem hwd)) (fun _ z => z) hfin hpd hn hfit hlen hd (fun H1 locs1 hP1 hD1 hS1 => ?_)
      have e1 := am_W_sf (tc := tc) (ad := ad) (h := h) v hq hkn
      have hP1 : va_P D am_cl ((am_W tc ad h).set a (ad a, .inr (q.1, (q.2.mapIdx (am_ff ad h a)).set k (.int v)))) H1 := hP1
      rw [e1] at hP1
      exact kk ls H1 locs1 hl hP1 hS1
    · cases hf
  · cases hw
theorem am_kind_tc {tc : Nat → ClassId} {ad : Nat → Nat} {h : AH} {a : Nat} {q : Nat × Nat} (hq : ¬ q.1 = 1) : am_ce tc ad h a (.inl q) = (ad a, .inl (tc q.1, q.2, .inl (h.2.1 a))) := by
  unfold am_ce
  simp only [if_neg hq]
theorem am_n_iald (X : am_FX p s m args c Rm cells slots D tc ad A sc R) {a : Nat} {j : Int32} {q : Nat × (Nat → Int32)} {r : List Value} (hd : decode (mr_b R) pc = .ok (.iaload, 1)) (ha : am_aI sc h a = some q) (hin : am_in j q.1 = true) (kk : am_WA p l e Rm s m args below meth c cells slots Q D tc ad A R (pc + 1, lv, .int (q.2 j.toNatClampNeg) :: r, h)) :
    am_WA p l e Rm s m args below meth c cells slots Q D tc ad A R (pc, lv, .int j :: .ref a :: r, h) := by
  obtain ⟨hx, hb, hml, hown, hts, hK, hRO, hD, hA, hrm, hsc, -⟩ := X
  intro ls H locs hl hP hS
  have kk := kk ls H locs hl hP hS
  unfold am_aI at ha
  split at ha
  · rename_i w hw
    split at ha
    · rename_i h0
      cases ha
      have he := am_W_at (tc := tc) (ad := ad) (h := h) hw
      rw [am_kind_tc (by omega), h0] at he
      exact va_iald hx hb hK hP a 0 he rfl (am_in_vp hin) hd kk
    · cases ha
  · cases ha
  · unfold am_roI at ha
    split at ha
    · cases ha
      exact va_ti hx hb hRO.2.2.1.2 hS (am_in_vp hin) rfl hd kk
    · cases ha
      exact va_ti hx hb hRO.2.2.2.1.2 hS (am_in_vp hin) rfl hd kk
    · obtain ⟨L, xs⟩ := q
      obtain ⟨g1, g2, g3⟩ := hsc L xs ha
      exact va_sld hx hb g1 g2 g3 hS (am_in_vp hin) hd kk
    · cases ha
theorem am_n_bald (X : am_FX p s m args c Rm cells slots D tc ad A sc R) {a : Nat} {j : Int32} {q : Nat × (Nat → Int32)} {r : List Value} (hd : decode (mr_b R) pc = .ok (.baload, 1)) (ha : am_aB h a = some q) (hin : am_in j q.1 = true) (kk : am_WA p l e Rm s m args below meth c cells slots Q D tc ad A R (pc + 1, lv, .int (q.2 j.toNatClampNeg) :: r, h)) :
    am_WA p l e Rm s m args below meth c cells slots Q D tc ad A R (pc, lv, .int j :: .ref a :: r, h) := by
  obtain ⟨hx, hb, hml, hown, hts, hK, hRO, hD, hA, hrm, hsc, -⟩ := X
  intro ls H locs hl hP hS
  have kk := kk ls H locs hl hP hS
  unfold am_aB at ha
  split at ha
  · rename_i w hw
    split at ha
    · rename_i h0
      cases ha
      have he := am_W_at (tc := tc) (ad := ad) (h := h) hw
      rw [am_kind_tc (by omega), h0] at he
      exact va_zald hx hb hK hP a 2 he rfl (am_in_vp hin) hd kk
    · cases ha
  · cases ha
  · unfold am_roB at ha
    split at ha
    · cases ha
      exact va_tb hx hb (hRO.1.1 0 (by omega)).2.2.2 hS (am_in_vp hin) rfl hd kk
    · cases ha
      exact va_tb hx hb (hRO.1.1 1 (by omega)).2.2.2 hS (am_in_vp hin) rfl hd kk
    · cases ha
theorem am_wa_at {a kind n : Nat} (ha : am_wa a kind = some n) : am_shp[a]? = some (.inl (kind, n)) := by
  unfold am_wa at ha
  split at ha
  · rename_i q hq
    split at ha
    · rename_i hk
      cases ha
      rw [hq, ← hk]
    · cases ha
  · cases ha
theorem am_n_lald (X : am_FX p s m args c Rm cells slots D tc ad A sc R) {a n : Nat} {j : Int32} {r : List Value} (hd : decode (mr_b R) pc = .ok (.laload, 1)) (ha : am_wa a 1 = some n) (hin : am_in j n = true) (kk : am_WA p l e Rm s m args below meth c cells slots Q D tc ad A R (pc + 1, lv, .long (h.2.2 a j.toNatClampNeg) :: r, h)) :
    am_WA p l e Rm s m args below meth c cells slots Q D tc ad A R (pc, lv, .int j :: .ref a :: r, h) := by
  obtain ⟨hx, hb, hml, hown, hts, hK, hRO, hD, hA, hrm, hsc, -⟩ := X
  intro ls H locs hl hP hS
  have kk := kk ls H locs hl hP hS
  have he := am_W_at (tc := tc) (ad := ad) (h := h) (am_wa_at ha)
  exact va_lald hx hb hK hP a 1 he rfl (am_in_vp hin) hd kk
theorem am_n_iast (X : am_FX p s m args c Rm cells slots D tc ad A sc R) {a n : Nat} {j x : Int32} {r : List Value} (hd : decode (mr_b R) pc = .ok (.iastore, 1)) (ha : am_wa a 0 = some n) (hin : am_in j n = true) (kk : am_WA p l e Rm s m args below meth c cells slots Q D tc ad A R (pc + 1, lv, r, am_sa h a (upd (h.2.1 a) j.toNatClampNeg x))) :
    am_WA p l e Rm s m args below meth c cells slots Q D tc ad A R (pc, lv, .int x :: .int j :: .ref a :: r, h) := by
  obtain ⟨hx, hb, hml, hown, hts, hK, hRO, hD, hA, hrm, hsc, -⟩ := X
  intro ls H locs hl hP hS
  have hq := am_wa_at ha
  have he := am_W_at (tc := tc) (ad := ad) (h := h) hq
  refine va_iast hx hb hK hP (hD h) hS a 0 he rfl (am_in_vp hin) hd (fun H1 locs1 hP1 hD1 hS1 => ?_)
  have e1 := am_W_sa (tc := tc) (ad := ad) (h := h) (upd (h.2.1 a) j.toNatClampNeg x) hq (by show ¬ 0 = 1; omega)
  exact kk ls H1 locs1 hl (by rw [← e1]; exact hP1) hS1
theorem am_n_bast (X : am_FX p s m args c Rm cells slots D tc ad A sc R) {a n : Nat} {j x : Int32} {r : List Value} (hd : decode (mr_b R) pc = .ok (.bastore, 1)) (ha : am_wa a 2 = some n) (hin : am_in j n = true) (kk : am_WA p l e Rm s m args below meth c cells slots Q D tc ad A R (pc + 1, lv, r, am_sa h a (upd (h.2.1 a) j.toNatClampNeg (vp_nar .boolean x)))) :
    am_WA p l e Rm s m args below meth c cells slots Q D tc ad A R (pc, lv, .int x :: .int j :: .ref a :: r, h) := by
  obtain ⟨hx, hb, hml, hown, hts, hK, hRO, hD, hA, hrm, hsc, -⟩ := X
  intro ls H locs hl hP hS
  have hq := am_wa_at ha
  have he := am_W_at (tc := tc) (ad := ad) (h := h) hq
  refine va_zast hx hb hK hP (hD h) hS a 2 he rfl (am_in_vp hin) hd (fun H1 locs1 hP1 hD1 hS1 => ?_)
  have e1 := am_W_sa (tc := tc) (ad := ad) (h := h) (upd (h.2.1 a) j.toNatClampNeg (vp_nar .boolean x)) hq (by show ¬ 2 = 1; omega)
  exact kk ls H1 locs1 hl (by rw [← e1]; exact hP1) hS1
theorem am_n_last (X : am_FX p s m args c Rm cells slots D tc ad A sc R) {a n : Nat} {j : Int32} {x : Int64} {r : List Value} (hd : decode (mr_b R) pc = .ok (.lastore, 1)) (ha : am_wa a 1 = some n) (hin : am_in j n = true) (kk : am_WA p l e Rm s m args below meth c cells slots Q D tc ad A R (pc + 1, lv, r, am_sl h a (vp_updL (h.2.2 a) j.toNatClampNeg x))) :
    am_WA p l e Rm s m args below meth c cells slots Q D tc ad A R (pc, lv, .long x :: .int j :: .ref a :: r, h) := by
  obtain ⟨hx, hb, hml, hown, hts, hK, hRO, hD, hA, hrm, hsc, -⟩ := X
  intro ls H locs hl hP hS
  have hq := am_wa_at ha
  have he := am_W_at (tc := tc) (ad := ad) (h := h) hq
  refine va_last hx hb hK hP (hD h) hS a 1 he rfl (am_in_vp hin) hd (fun H1 locs1 hP1 hD1 hS1 => ?_)
  have e1 := am_W_sl (tc := tc) (ad := ad) (h := h) (vp_updL (h.2.2 a) j.toNatClampNeg x) hq rfl
  exact kk ls H1 locs1 hl (by rw [← e1]; exact hP1) hS1
theorem am_shp_kind {a : Nat} {q : Nat × Nat} (hq : am_shp[a]? = some (.inl q)) : q.1 < 3 := by
  have hb2 : am_shp.all (fun z => match z with | .inl q => decide (q.1 < 3) | .inr _ => true) = true := by decide +kernel
  have h3 := List.all_eq_true.mp hb2 _ (List.mem_of_getElem? hq)
  simpa only [decide_eq_true_eq] using h3
theorem am_n_alen (X : am_FX p s m args c Rm cells slots D tc ad A sc R) {a n : Nat} {r : List Value} (hd : decode (mr_b R) pc = .ok (.arraylength, 1)) (ha : am_alen sc a = some n) (kk : am_WA p l e Rm s m args below meth c cells slots Q D tc ad A R (pc + 1, lv, .int (Int32.ofNat n) :: r, h)) :
    am_WA p l e Rm s m args below meth c cells slots Q D tc ad A R (pc, lv, .ref a :: r, h) := by
  obtain ⟨hx, hb, hml, hown, hts, hK, hRO, hD, hA, hrm, hsc, -⟩ := X
  intro ls H locs hl hP hS
  have kk := kk ls H locs hl hP hS
  unfold am_alen at ha
  split at ha
  · rename_i q hq
    cases ha
    have hk := am_shp_kind hq
    obtain ⟨kd, n⟩ := q
    have he := am_W_at (tc := tc) (ad := ad) (h := h) hq
    have h3 : kd = 0 ∨ kd = 1 ∨ kd = 2 := by
      have hk : kd < 3 := hk
      omega
    rcases h3 with rfl | rfl | rfl
    · exact va_alen hx hb hK hP a 0 he rfl rfl hd kk
    · exact va_alen hx hb hK hP a 1 he rfl rfl hd kk
    · exact va_alen hx hb hK hP a 2 he rfl rfl hd kk
  · cases ha
  · split at ha
    · rename_i q hq
      cases ha
      unfold am_roB at hq
      split at hq
      · cases hq
        exact va_tlen hx hb (hRO.1.1 0 (by omega)).2.2.2 hS rfl hd kk
      · cases hq
        exact va_tlen hx hb (hRO.1.1 1 (by omega)).2.2.2 hS rfl hd kk
      · cases hq
    · split at ha
      · rename_i q hq
        cases ha
        unfold am_roI at hq
        split at hq
        · cases hq
          exact va_tlen hx hb hRO.2.2.1.2 hS rfl hd kk
        · cases hq
          exact va_tlen hx hb hRO.2.2.2.1.2 hS rfl hd kk
        · obtain ⟨L, xs⟩ := q
          obtain ⟨g1, g2, g3⟩ := hsc L xs hq
          exact va_slen hx hb g1 g2 g3 hS hd kk
        · cases hq
      · cases ha
theorem am_n_copy (X : am_FX p s m args c Rm cells slots D tc ad A sc R) {idx pp : Nat} (hd : decode (mr_b R) pc = .ok (.invokestatic idx, 3)) (hw : am_wd pp (.methodLink (am_cn (mr_o R)) idx arraycopyName) = true) (he : am_copy R pc lv st h = some (.inl B)) (kk : am_WA p l e Rm s m args below meth c cells slots Q D tc ad A R B) :
    am_WA p l e Rm s m args below meth c cells slots Q D tc ad A R (pc, lv, st, h) := by
  obtain ⟨hx, hb, hml, hown, hts, hK, hRO, hD, hA, hrm, hsc, -⟩ := X
  unfold am_copy at he
  split at he
  · rename_i n dp b sp a r
    split at he
    · rename_i na nb ha hb2
      cases h1 : Nat.ble 1 (mr_f R) && Nat.ble (am_cat r + 18) (mr_w R) with
      | false => rw [h1] at he; cases he
      | true =>
        rw [h1] at he
        cases h2 : am_cpok sp dp n na nb with
        | false => rw [h2] at he; cases he
        | true =>
          rw [h2] at he
          cases he
          rw [Bool.and_eq_true] at h1
          simp only [am_cpok, Bool.and_eq_true, Bool.not_eq_true', decide_eq_false_iff_not, decide_eq_true_eq] at h2
          obtain ⟨c1, c2, c3, c4, c5⟩ := h2
          have r1 := Nat.le_of_ble_eq_true h1.1
          have r2 := Nat.le_of_ble_eq_true h1.2
          have qa := am_wa_at ha
          have qb := am_wa_at hb2
          have ea := am_W_at (tc := tc) (ad := ad) (h := h) qa
          have eb := am_W_at (tc := tc) (ad := ad) (h := h) qb
          intro ls H locs hl hP hS
          refine va_copyi (ty := .int) hx hb (by rw [hml]; exact hl.1.symm) hown (hts _ (am_wd_mem hw)) (hts _ w_acN) (hts _ w_acS) (hts _ w_acI) hK hP (hD h) hS a b 0 0 ea eb rfl rfl rfl c1 c2 c3 c4 c5 (fun _ _ => rfl) (by omega) (by rw [am_cat_cv]; show _ + (7 + 11) ≤ _; omega) hd (fun H1 locs1 hP1 hD1 hS1 => ?_)
          have e1 := am_W_sa (tc := tc) (ad := ad) (h := h) (va_cpy (h.2.1 a) (h.2.1 b) sp.toNatClampNeg dp.toNatClampNeg n.toNatClampNeg) qb (by show ¬ 0 = 1; omega)
          exact kk ls H1 locs1 hl (by rw [← e1]; exact hP1) hS1
    · cases he
  · cases he
theorem am_n_mm (X : am_FX p s m args c Rm cells slots D tc ad A sc R) {f : Int32 → Int32 → Int32} (he : am_mm R pc lv st h f = some (.inl B)) (kk : am_WA p l e Rm s m args below meth c cells slots Q D tc ad A R B)
    (row : ∀ {ls : Array Slot} {H : Heap} {locs : List Loc} {rest : List Value} {x y : Int32}, c.maxLocals = ls.size → 1 ≤ Rm.frames → (rest.map fun v => v.category).sum + 13 ≤ Rm.locals → W p l e Rm s m args below meth c H locs cells slots Q (F0 m (pc + 3) ls (.int (f x y) :: rest)) → W p l e Rm s m args below meth c H locs cells slots Q (F0 m pc ls (.int y :: .int x :: rest))) :
    am_WA p l e Rm s m args below meth c cells slots Q D tc ad A R (pc, lv, st, h) := by
  obtain ⟨hx, hb, hml, hown, hts, hK, hRO, hD, hA, hrm, hsc, -⟩ := X
  unfold am_mm at he
  split at he
  · rename_i y x r
    cases h1 : Nat.ble 1 (mr_f R) && Nat.ble (am_cat r + 13) (mr_w R) with
    | false => rw [h1] at he; cases he
    | true =>
      rw [h1] at he
      cases he
      rw [Bool.and_eq_true] at h1
      have r1 := Nat.le_of_ble_eq_true h1.1
      have r2 := Nat.le_of_ble_eq_true h1.2
      intro ls H locs hl hP hS
      exact row (by rw [hml]; exact hl.1.symm) (by omega) (by rw [am_cat_cv]; omega) (kk ls H locs hl hP hS)
  · cases he
end AMH
end
section
/-! every step -/
section AMN
variable {p : Program} {l : Launch} {e : Env} {Rm : Room} {s : State} {m : MethodId} {args : Array Value} {below : List Frame} {meth : Method} {c : Code} {cells slots : Nat} {Q : State → Prop} {D : va_G} {tc : Nat → ClassId} {ad : Nat → Nat} {A : Nat → Prop} {R : MR} {sc : Option (Nat × (Nat → Int32))}
variable {pc : Nat} {lv : LV} {st : List Value} {h : AH} {B : AS}
theorem am_no {α : Type} {x : α} (z : (none : Option α) = some x) : False := by cases z
theorem am_ft (z : false = true) : False := by cases z
theorem am_bifI {b : Bool} {x : AS} (z : (bif b then some (Sum.inl x : ACT) else none) = some (.inl B)) : b = true ∧ x = B := by
  cases b with
  | false => cases z
  | true => cases z; exact ⟨rfl, rfl⟩
theorem am_bifR {b : Bool} {x : Option Value ⊕ (MR × List Value × List Value)} (z : (bif b then some (Sum.inr x : ACT) else none) = some (.inl B)) : False := by
  cases b with
  | false => cases z
  | true => cases z
set_option maxHeartbeats 4000000 in
theorem am_next (X : am_FX p s m args c Rm cells slots D tc ad A sc R) {i : Jvm.ClassFile.Instr} {tg : Nat} {ex : List Nat} {sw : List (Int32 × Nat)} {lg : Int64} (hr : am_row (mr_c R) pc = some (i, tg, ex, sw, lg)) (he : am_exec sc R pc i tg ex sw lg lv st h = some (.inl B)) (k : am_WA p l e Rm s m args below meth c cells slots Q D tc ad A R B) :
    am_WA p l e Rm s m args below meth c cells slots Q D tc ad A R (pc, lv, st, h) := by
  obtain ⟨⟨n, hd, hn⟩, hw⟩ := am_dec X hr
  have hx := X.1
  have hb := X.2.1
  have hown := X.2.2.2.1
  have hts := X.2.2.2.2.1
  cases i with
  | iconst z =>
    have hn : n = 1 := hn.resolve_left (fun q => am_ft q)
    subst hn
    cases sw with
    | nil => cases he
    | cons q sw =>
      cases he
      intro ls H locs hl hP hS
      exact lv_iconst hx hb hd (of_decide_eq_true hw) (k ls H locs hl hP hS)
  | bipush z =>
    have hn : n = 2 := hn.resolve_left (fun q => am_ft q)
    subst hn
    cases sw with
    | nil => cases he
    | cons q sw =>
      cases he
      intro ls H locs hl hP hS
      exact lv_bipush hx hb hd (of_decide_eq_true hw) (k ls H locs hl hP hS)
  | sipush z =>
    have hn : n = 3 := hn.resolve_left (fun q => am_ft q)
    subst hn
    cases sw with
    | nil => cases he
    | cons q sw =>
      cases he
      intro ls H locs hl hP hS
      exact lv_sipush hx hb hd (of_decide_eq_true hw) (k ls H locs hl hP hS)
  | ldc z =>
    have hn : n = 2 := hn.resolve_left (fun q => am_ft q)
    subst hn
    cases sw with
    | nil => cases he
    | cons q sw =>
      cases he
      intro ls H locs hl hP hS
      exact lv_ldc hx hb hown (hts _ (am_wd_mem hw)) hd (k ls H locs hl hP hS)
  | ldc_w z =>
    have hn : n = 3 := hn.resolve_left (fun q => am_ft q)
    subst hn
    cases sw with
    | nil => cases he
    | cons q sw =>
      cases he
      intro ls H locs hl hP hS
      exact lv_ldcw hx hb hown (hts _ (am_wd_mem hw)) hd (k ls H locs hl hP hS)
  | lconst z =>
    have hn : n = 1 := hn.resolve_left (fun q => am_ft q)
    subst hn
    cases he
    intro ls H locs hl hP hS
    exact lv_lconst hx hb hd (of_decide_eq_true hw) (k ls H locs hl hP hS)
  | ldc2_w z =>
    have hn : n = 3 := hn.resolve_left (fun q => am_ft q)
    subst hn
    cases he
    intro ls H locs hl hP hS
    exact lv_ldc2 hx hb hown (hts _ (am_wd_mem hw)) hd (k ls H locs hl hP hS)
  | aconst_null =>
    have hn : n = 1 := hn.resolve_left (fun q => am_ft q)
    subst hn
    cases he
    intro ls H locs hl hP hS
    exact lv_null hx hb hd (k ls H locs hl hP hS)
  | iload_n z =>
    have hn : n = 1 := hn.resolve_left (fun q => am_ft q)
    subst hn
    refine am_n_load he k (fun {ls H locs rest v} hv hl w => ?_)
    cases v with
    | int x => exact lv_iload_n hx hb hd rfl hl w
    | _ => cases hv
  | iload z =>
    have hn : n = 2 := hn.resolve_left (fun q => am_ft q)
    subst hn
    refine am_n_load he k (fun {ls H locs rest v} hv hl w => ?_)
    cases v with
    | int x => exact lv_iload hx hb hd hl w
    | _ => cases hv
  | lload_n z =>
    have hn : n = 1 := hn.resolve_left (fun q => am_ft q)
    subst hn
    refine am_n_load he k (fun {ls H locs rest v} hv hl w => ?_)
    cases v with
    | long x => exact lv_lload_n hx hb hd rfl hl w
    | _ => cases hv
  | lload z =>
    have hn : n = 2 := hn.resolve_left (fun q => am_ft q)
    subst hn
    refine am_n_load he k (fun {ls H locs rest v} hv hl w => ?_)
    cases v with
    | long x => exact lv_lload hx hb hd hl w
    | _ => cases hv
  | aload_n z =>
    have hn : n = 1 := hn.resolve_left (fun q => am_ft q)
    subst hn
    refine am_n_load he k (fun {ls H locs rest v} hv hl w => ?_)
    cases v with
    | ref x => exact lv_aload_n hx hb hd rfl hl w
    | null => exact lv_aload_nN hx hb hd rfl hl w
    | _ => cases hv
  | aload z =>
    have hn : n = 2 := hn.resolve_left (fun q => am_ft q)
    subst hn
    refine am_n_load he k (fun {ls H locs rest v} hv hl w => ?_)
    cases v with
    | ref x => exact lv_aload hx hb hd hl w
    | null => exact lv_aloadN hx hb hd hl w
    | _ => cases hv
  | istore_n z =>
    have hn : n = 1 := hn.resolve_left (fun q => am_ft q)
    subst hn
    refine am_n_store he k (fun {ls H locs rest v l0} hv hl hi w => ?_)
    cases v with
    | int x => exact lv_istore_n hx hb hd rfl hl hi rfl w
    | _ => cases hv
  | istore z =>
    have hn : n = 2 := hn.resolve_left (fun q => am_ft q)
    subst hn
    refine am_n_store he k (fun {ls H locs rest v l0} hv hl hi w => ?_)
    cases v with
    | int x => exact lv_istore hx hb hd hl hi rfl w
    | _ => cases hv
  | astore_n z =>
    have hn : n = 1 := hn.resolve_left (fun q => am_ft q)
    subst hn
    refine am_n_store he k (fun {ls H locs rest v l0} hv hl hi w => ?_)
    cases v with
    | ref x => exact lv_astore_n hx hb hd rfl hl hi rfl w
    | null => exact lv_astore_nN hx hb hd rfl hl hi rfl w
    | _ => cases hv
  | astore z =>
    have hn : n = 2 := hn.resolve_left (fun q => am_ft q)
    subst hn
    refine am_n_store he k (fun {ls H locs rest v l0} hv hl hi w => ?_)
    cases v with
    | ref x => exact lv_astore hx hb hd hl hi rfl w
    | null => exact lv_astoreN hx hb hd hl hi rfl w
    | _ => cases hv
  | lstore_n z =>
    have hn : n = 1 := hn.resolve_left (fun q => am_ft q)
    subst hn
    exact am_n_storeL he k (fun {ls H locs rest x l0} hl hi w => lv_lstore_n hx hb hd rfl hl hi rfl w)
  | lstore z =>
    have hn : n = 2 := hn.resolve_left (fun q => am_ft q)
    subst hn
    exact am_n_storeL he k (fun {ls H locs rest x l0} hl hi w => lv_lstore hx hb hd hl hi rfl w)
  | iinc z z2 =>
    have hn : n = 3 := hn.resolve_left (fun q => am_ft q)
    subst hn
    replace he : (match am_get lv z, sw with
      | some (.int x), q :: _ => bif Nat.blt z (mr_L R) then some (Sum.inl (pc + 3, am_st1 lv z (.int (x + q.1)), st, h) : ACT) else none
      | _, _ => none) = some (.inl B) := he
    split at he
    · rename_i x q sw hg
      obtain ⟨h1, rfl⟩ := am_bifI he
      have h1 := Nat.le_of_ble_eq_true h1
      intro ls H locs hl hP hS
      obtain ⟨kk, hkk⟩ := List.getElem?_of_mem (List.mem_map.mpr ⟨(z, Value.int x), am_get_mem hg, rfl⟩ : (z, am_cv ad (.int x)) ∈ am_lv ad lv)
      refine lv_iinc (k := kk) (v := x + q.1) hx hb hd hl hkk (by rw [of_decide_eq_true hw]) h1 (am_lv_st1 ad lv z (.int (x + q.1))) (fun ls' hl' => ?_)
      exact k ls' H locs hl' hP hS
    · cases he
  | iadd =>
    have hn : n = 1 := hn.resolve_left (fun q => am_ft q)
    subst hn
    exact am_n_ii (f := _) he k (fun w => lv_iadd hx hb hd w)
  | isub =>
    have hn : n = 1 := hn.resolve_left (fun q => am_ft q)
    subst hn
    exact am_n_ii (f := _) he k (fun w => lv_isub hx hb hd w)
  | imul =>
    have hn : n = 1 := hn.resolve_left (fun q => am_ft q)
    subst hn
    exact am_n_ii (f := _) he k (fun w => lv_imul hx hb hd w)
  | iand =>
    have hn : n = 1 := hn.resolve_left (fun q => am_ft q)
    subst hn
    exact am_n_ii (f := _) he k (fun w => lv_iand hx hb hd w)
  | ior =>
    have hn : n = 1 := hn.resolve_left (fun q => am_ft q)
    subst hn
    exact am_n_ii (f := _) he k (fun w => lv_ior hx hb hd w)
  | ixor =>
    have hn : n = 1 := hn.resolve_left (fun q => am_ft q)
    subst hn
    exact am_n_ii (f := _) he k (fun w => lv_ixor hx hb hd w)
  | ishl =>
    have hn : n = 1 := hn.resolve_left (fun q => am_ft q)
    subst hn
    exact am_n_ii (f := _) he k (fun w => lv_ishl hx hb hd w)
  | ishr =>
    have hn : n = 1 := hn.resolve_left (fun q => am_ft q)
    subst hn
    exact am_n_ii (f := _) he k (fun w => lv_ishr hx hb hd w)
  | iushr =>
    have hn : n = 1 := hn.resolve_left (fun q => am_ft q)
    subst hn
    exact am_n_ii (f := _) he k (fun w => lv_iushr hx hb hd rfl w)
  | ladd =>
    have hn : n = 1 := hn.resolve_left (fun q => am_ft q)
    subst hn
    exact am_n_ll (f := _) he k (fun w => lv_ladd hx hb hd w)
  | lsub =>
    have hn : n = 1 := hn.resolve_left (fun q => am_ft q)
    subst hn
    exact am_n_ll (f := _) he k (fun w => lv_lsub hx hb hd w)
  | lmul =>
    have hn : n = 1 := hn.resolve_left (fun q => am_ft q)
    subst hn
    exact am_n_ll (f := _) he k (fun w => lv_lmul hx hb hd w)
  | land =>
    have hn : n = 1 := hn.resolve_left (fun q => am_ft q)
    subst hn
    exact am_n_ll (f := _) he k (fun w => lv_land hx hb hd w)
  | lor =>
    have hn : n = 1 := hn.resolve_left (fun q => am_ft q)
    subst hn
    exact am_n_ll (f := _) he k (fun w => lv_lor hx hb hd w)
  | idiv =>
    have hn : n = 1 := hn.resolve_left (fun q => am_ft q)
    subst hn
    replace he : (match st with
      | .int y :: .int x :: r => if y = 0 then none else some (Sum.inl (pc + 1, lv, Value.int (x / y) :: r, h) : ACT)
      | _ => none) = some (.inl B) := he
    split at he
    · rename_i y x r
      by_cases hy : y = 0
      · rw [if_pos hy] at he
        cases he
      · rw [if_neg hy] at he
        cases he
        intro ls H locs hl hP hS
        exact lv_idiv hx hb hd hy (k ls H locs hl hP hS)
    · cases he
  | irem =>
    have hn : n = 1 := hn.resolve_left (fun q => am_ft q)
    subst hn
    replace he : (match st with
      | .int y :: .int x :: r => if y = 0 then none else some (Sum.inl (pc + 1, lv, Value.int (x - x / y * y) :: r, h) : ACT)
      | _ => none) = some (.inl B) := he
    split at he
    · rename_i y x r
      by_cases hy : y = 0
      · rw [if_pos hy] at he
        cases he
      · rw [if_neg hy] at he
        cases he
        intro ls H locs hl hP hS
        exact lv_irem hx hb hd hy (k ls H locs hl hP hS)
    · cases he
  | ldiv =>
    have hn : n = 1 := hn.resolve_left (fun q => am_ft q)
    subst hn
    replace he : (match st with
      | .long y :: .long x :: r => if y = 0 then none else some (Sum.inl (pc + 1, lv, Value.long (x / y) :: r, h) : ACT)
      | _ => none) = some (.inl B) := he
    split at he
    · rename_i y x r
      by_cases hy : y = 0
      · rw [if_pos hy] at he
        cases he
      · rw [if_neg hy] at he
        cases he
        intro ls H locs hl hP hS
        exact lv_ldiv hx hb hd hy (k ls H locs hl hP hS)
    · cases he
  | lrem =>
    have hn : n = 1 := hn.resolve_left (fun q => am_ft q)
    subst hn
    replace he : (match st with
      | .long y :: .long x :: r => if y = 0 then none else some (Sum.inl (pc + 1, lv, Value.long (x - x / y * y) :: r, h) : ACT)
      | _ => none) = some (.inl B) := he
    split at he
    · rename_i y x r
      by_cases hy : y = 0
      · rw [if_pos hy] at he
        cases he
      · rw [if_neg hy] at he
        cases he
        intro ls H locs hl hP hS
        exact lv_lrem hx hb hd hy (k ls H locs hl hP hS)
    · cases he
  | lshl =>
    have hn : n = 1 := hn.resolve_left (fun q => am_ft q)
    subst hn
    replace he : (match st with
      | .int y :: .long x :: r => some (Sum.inl (pc + 1, lv, Value.long (x <<< (y.toInt64 &&& 63)) :: r, h) : ACT)
      | _ => none) = some (.inl B) := he
    split at he
    · cases he
      intro ls H locs hl hP hS
      exact lv_lshl hx hb hd rfl (k ls H locs hl hP hS)
    · cases he
  | lshr =>
    have hn : n = 1 := hn.resolve_left (fun q => am_ft q)
    subst hn
    replace he : (match st with
      | .int y :: .long x :: r => some (Sum.inl (pc + 1, lv, Value.long (x >>> (y.toInt64 &&& 63)) :: r, h) : ACT)
      | _ => none) = some (.inl B) := he
    split at he
    · cases he
      intro ls H locs hl hP hS
      exact lv_lshr hx hb hd rfl (k ls H locs hl hP hS)
    · cases he
  | lcmp =>
    have hn : n = 1 := hn.resolve_left (fun q => am_ft q)
    subst hn
    replace he : (match st with
      | .long y :: .long x :: r => some (Sum.inl (pc + 1, lv, Value.int (lg_cmp x y) :: r, h) : ACT)
      | _ => none) = some (.inl B) := he
    split at he
    · cases he
      intro ls H locs hl hP hS
      exact W.lcmp hx hb hd (k ls H locs hl hP hS)
    · cases he
  | i2l =>
    have hn : n = 1 := hn.resolve_left (fun q => am_ft q)
    subst hn
    replace he : (match st with
      | .int x :: r => some (Sum.inl (pc + 1, lv, Value.long x.toInt64 :: r, h) : ACT)
      | _ => none) = some (.inl B) := he
    split at he
    · cases he
      intro ls H locs hl hP hS
      exact lv_i2l hx hb hd rfl (k ls H locs hl hP hS)
    · cases he
  | l2i =>
    have hn : n = 1 := hn.resolve_left (fun q => am_ft q)
    subst hn
    replace he : (match st with
      | .long x :: r => some (Sum.inl (pc + 1, lv, Value.int x.toInt32 :: r, h) : ACT)
      | _ => none) = some (.inl B) := he
    split at he
    · cases he
      intro ls H locs hl hP hS
      exact lv_l2i hx hb hd rfl (k ls H locs hl hP hS)
    · cases he
  | i2b =>
    have hn : n = 1 := hn.resolve_left (fun q => am_ft q)
    subst hn
    replace he : (match st with
      | .int x :: r => some (Sum.inl (pc + 1, lv, Value.int x.toInt8.toInt32 :: r, h) : ACT)
      | _ => none) = some (.inl B) := he
    split at he
    · cases he
      intro ls H locs hl hP hS
      exact lv_i2b hx hb hd rfl (k ls H locs hl hP hS)
    · cases he
  | i2s =>
    have hn : n = 1 := hn.resolve_left (fun q => am_ft q)
    subst hn
    replace he : (match st with
      | .int x :: r => some (Sum.inl (pc + 1, lv, Value.int x.toInt16.toInt32 :: r, h) : ACT)
      | _ => none) = some (.inl B) := he
    split at he
    · cases he
      intro ls H locs hl hP hS
      exact lv_i2s hx hb hd rfl (k ls H locs hl hP hS)
    · cases he
  | i2c =>
    have hn : n = 1 := hn.resolve_left (fun q => am_ft q)
    subst hn
    replace he : (match st with
      | .int x :: r => some (Sum.inl (pc + 1, lv, Value.int (x.toUInt32 % 65536).toInt32 :: r, h) : ACT)
      | _ => none) = some (.inl B) := he
    split at he
    · cases he
      intro ls H locs hl hP hS
      exact lv_i2c hx hb hd rfl (k ls H locs hl hP hS)
    · cases he
  | dup =>
    have hn : n = 1 := hn.resolve_left (fun q => am_ft q)
    subst hn
    replace he : (match st with
      | v :: r => bif Nat.beq v.category 1 then some (Sum.inl (pc + 1, lv, v :: v :: r, h) : ACT) else none
      | _ => none) = some (.inl B) := he
    split at he
    · obtain ⟨h1, rfl⟩ := am_bifI he
      intro ls H locs hl hP hS
      exact lv_dup hx hb hd (by rw [am_cv_cat]; exact Nat.eq_of_beq_eq_true h1) (k ls H locs hl hP hS)
    · cases he
  | dup2 =>
    have hn : n = 1 := hn.resolve_left (fun q => am_ft q)
    subst hn
    replace he : (match st with
      | v :: w :: r => bif Nat.beq v.category 1 && Nat.beq w.category 1 then some (Sum.inl (pc + 1, lv, v :: w :: v :: w :: r, h) : ACT) else none
      | _ => none) = some (.inl B) := he
    split at he
    · obtain ⟨h1, rfl⟩ := am_bifI he
      rw [Bool.and_eq_true] at h1
      intro ls H locs hl hP hS
      exact lv_dup2_11 hx hb hd (by rw [am_cv_cat]; exact Nat.eq_of_beq_eq_true h1.1) (by rw [am_cv_cat]; exact Nat.eq_of_beq_eq_true h1.2) (k ls H locs hl hP hS)
    · cases he
  | goto z =>
    have hn : n = 3 := hn.resolve_left (fun q => am_ft q)
    subst hn
    cases he
    intro ls H locs hl hP hS
    exact lv_goto hx hb hd (of_decide_eq_true hw) (k ls H locs hl hP hS)
  | if_icmp cd z =>
    have hn : n = 3 := hn.resolve_left (fun q => am_ft q)
    subst hn
    replace he : (match st with
      | .int y :: .int x :: r => some (Sum.inl (bif am_cmp cd x y then tg else pc + 3, lv, r, h) : ACT)
      | _ => none) = some (.inl B) := he
    split at he
    · cases he
      exact am_n_icmp X hd (of_decide_eq_true hw) k
    · cases he
  | ifCond cd z =>
    have hn : n = 3 := hn.resolve_left (fun q => am_ft q)
    subst hn
    replace he : (match st with
      | .int x :: r => some (Sum.inl (bif am_cmp cd x 0 then tg else pc + 3, lv, r, h) : ACT)
      | _ => none) = some (.inl B) := he
    split at he
    · cases he
      exact am_n_if X hd (of_decide_eq_true hw) k
    · cases he
  | ifnull z =>
    have hn : n = 3 := hn.resolve_left (fun q => am_ft q)
    subst hn
    replace he : (match st with
      | .ref _ :: r => some (Sum.inl (pc + 3, lv, r, h) : ACT)
      | .null :: r => some (Sum.inl (tg, lv, r, h) : ACT)
      | _ => none) = some (.inl B) := he
    split at he
    · cases he
      intro ls H locs hl hP hS
      exact lv_ifnull hx hb hd (k ls H locs hl hP hS)
    · cases he
      intro ls H locs hl hP hS
      exact lv_ifnullN hx hb hd (of_decide_eq_true hw) (k ls H locs hl hP hS)
    · cases he
  | ifnonnull z =>
    have hn : n = 3 := hn.resolve_left (fun q => am_ft q)
    subst hn
    replace he : (match st with
      | .ref _ :: r => some (Sum.inl (tg, lv, r, h) : ACT)
      | .null :: r => some (Sum.inl (pc + 3, lv, r, h) : ACT)
      | _ => none) = some (.inl B) := he
    split at he
    · cases he
      intro ls H locs hl hP hS
      exact lv_ifnonnull hx hb hd (of_decide_eq_true hw) (k ls H locs hl hP hS)
    · cases he
      intro ls H locs hl hP hS
      exact lv_ifnonnullN hx hb hd (k ls H locs hl hP hS)
    · cases he
  | tableswitch d lo hi offs =>
    replace he : (match st with
      | .int x :: r => some (Sum.inl (am_sel x sw tg, lv, r, h) : ACT)
      | _ => none) = some (.inl B) := he
    have hw : (am_tsw pc lo offs.toList sw && (decide (hi + 1 = lo + offs.toList.length) && decide ((pc : Int) + d = (tg : Int)))) = true := hw
    simp only [Bool.and_eq_true, decide_eq_true_eq] at hw
    obtain ⟨w1, w2, w3⟩ := hw
    split at he
    · cases he
      exact am_n_tsw X hd w1 w2 w3 k
    · cases he
  | lookupswitch d ps =>
    replace he : (match st with
      | .int x :: r => some (Sum.inl (am_sel x sw tg, lv, r, h) : ACT)
      | _ => none) = some (.inl B) := he
    have hw : (am_lsw pc ps.toList sw && ((ps.toList.zip (ps.toList.drop 1)).all (fun (a, next) => a.1 < next.1) && decide ((pc : Int) + d = (tg : Int)))) = true := hw
    rw [Bool.and_eq_true, Bool.and_eq_true, decide_eq_true_eq] at hw
    obtain ⟨w1, w2, w3⟩ := hw
    split at he
    · cases he
      exact am_n_lsw X hd w1 w2 w3 k
    · cases he
  | getfield idx =>
    have hn : n = 3 := hn.resolve_left (fun q => am_ft q)
    subst hn
    replace he : (match st, ex with
      | .ref a :: r, ci :: k :: _ => match am_fv h a ci k with
        | some v => some (Sum.inl (pc + 3, lv, v :: r, h) : ACT)
        | none => none
      | _, _ => none) = some (.inl B) := he
    split at he
    · split at he
      · rename_i hv
        cases he
        exact am_n_get X hd hw hv k
      · cases he
    · cases he
  | putfield idx =>
    have hn : n = 3 := hn.resolve_left (fun q => am_ft q)
    subst hn
    replace he : (match st, ex with
      | .int v :: .ref a :: r, [ci, k, _, b] => bif am_wr a ci k && (Nat.beq b 0 || (decide (v = 0) || decide (v = 1))) then some (Sum.inl (pc + 3, lv, r, am_sf h a k v) : ACT) else none
      | _, _ => none) = some (.inl B) := he
    split at he
    · obtain ⟨h1, rfl⟩ := am_bifI he
      simp only [Bool.and_eq_true, Bool.or_eq_true, decide_eq_true_eq] at h1
      exact am_n_put X hd hw h1.1 (h1.2.imp (fun z => Nat.eq_of_beq_eq_true z) id) k
    · cases he
  | getstatic idx =>
    have hn : n = 3 := hn.resolve_left (fun q => am_ft q)
    subst hn
    replace he : (match ex with
      | [0, _] => some (Sum.inl (pc + 3, lv, Value.int 1 :: st, h) : ACT)
      | [1, _] => some (Sum.inl (pc + 3, lv, Value.ref 202 :: st, h) : ACT)
      | [2, _] => some (Sum.inl (pc + 3, lv, Value.ref 203 :: st, h) : ACT)
      | _ => none) = some (.inl B) := he
    have hRO := X.2.2.2.2.2.2.1
    split at he
    · cases he
      intro ls H locs hl hP hS
      exact va_gets hx hb hRO.2.1 hS hown (hts _ (am_wd_mem hw)) (fun _ z => z) hd (k ls H locs hl hP hS)
    · cases he
      have hw := of_decide_eq_true hw
      have ho : am_cn (mr_o R) = "Samovar$Evening" := by rw [hw.1]; rfl
      rw [ho] at hown
      rw [hw.2] at hd
      intro ls H locs hl hP hS
      exact va_getsN hx hb hRO.2.2.1.1 hS hown (va_Nw.use rfl hRO.2.2.2.2.1) (fun _ z => z) hd (k ls H locs hl hP hS)
    · cases he
      have hw := of_decide_eq_true hw
      have ho : am_cn (mr_o R) = "Samovar$Evening" := by rw [hw.1]; rfl
      rw [ho] at hown
      rw [hw.2] at hd
      intro ls H locs hl hP hS
      exact va_getsN hx hb hRO.2.2.2.1.1 hS hown (va_Nw.use rfl hRO.2.2.2.2.2.1) (fun _ z => z) hd (k ls H locs hl hP hS)
    · cases he
  | iaload =>
    have hn : n = 1 := hn.resolve_left (fun q => am_ft q)
    subst hn
    replace he : (match st with
      | .int j :: .ref a :: r => match am_aI sc h a with
        | some q => bif am_in j q.1 then some (Sum.inl (pc + 1, lv, Value.int (q.2 j.toNatClampNeg) :: r, h) : ACT) else none
        | none => none
      | _ => none) = some (.inl B) := he
    split at he
    · split at he
      · rename_i hq
        obtain ⟨h1, rfl⟩ := am_bifI he
        exact am_n_iald X hd hq h1 k
      · cases he
    · cases he
  | baload =>
    have hn : n = 1 := hn.resolve_left (fun q => am_ft q)
    subst hn
    replace he : (match st with
      | .int j :: .ref a :: r => match am_aB h a with
        | some q => bif am_in j q.1 then some (Sum.inl (pc + 1, lv, Value.int (q.2 j.toNatClampNeg) :: r, h) : ACT) else none
        | none => none
      | _ => none) = some (.inl B) := he
    split at he
    · split at he
      · rename_i hq
        obtain ⟨h1, rfl⟩ := am_bifI he
        exact am_n_bald X hd hq h1 k
      · cases he
    · cases he
  | laload =>
    have hn : n = 1 := hn.resolve_left (fun q => am_ft q)
    subst hn
    replace he : (match st with
      | .int j :: .ref a :: r => match am_wa a 1 with
        | some n => bif am_in j n then some (Sum.inl (pc + 1, lv, Value.long (h.2.2 a j.toNatClampNeg) :: r, h) : ACT) else none
        | none => none
      | _ => none) = some (.inl B) := he
    split at he
    · split at he
      · rename_i hq
        obtain ⟨h1, rfl⟩ := am_bifI he
        exact am_n_lald X hd hq h1 k
      · cases he
    · cases he
  | iastore =>
    have hn : n = 1 := hn.resolve_left (fun q => am_ft q)
    subst hn
    replace he : (match st with
      | .int x :: .int j :: .ref a :: r => match am_wa a 0 with
        | some n => bif am_in j n then some (Sum.inl (pc + 1, lv, r, am_sa h a (upd (h.2.1 a) j.toNatClampNeg x)) : ACT) else none
        | none => none
      | _ => none) = some (.inl B) := he
    split at he
    · split at he
      · rename_i hq
        obtain ⟨h1, rfl⟩ := am_bifI he
        exact am_n_iast X hd hq h1 k
      · cases he
    · cases he
  | bastore =>
    have hn : n = 1 := hn.resolve_left (fun q => am_ft q)
    subst hn
    replace he : (match st with
      | .int x :: .int j :: .ref a :: r => match am_wa a 2 with
        | some n => bif am_in j n then some (Sum.inl (pc + 1, lv, r, am_sa h a (upd (h.2.1 a) j.toNatClampNeg (vp_nar .boolean x))) : ACT) else none
        | none => none
      | _ => none) = some (.inl B) := he
    split at he
    · split at he
      · rename_i hq
        obtain ⟨h1, rfl⟩ := am_bifI he
        exact am_n_bast X hd hq h1 k
      · cases he
    · cases he
  | lastore =>
    have hn : n = 1 := hn.resolve_left (fun q => am_ft q)
    subst hn
    replace he : (match st with
      | .long x :: .int j :: .ref a :: r => match am_wa a 1 with
        | some n => bif am_in j n then some (Sum.inl (pc + 1, lv, r, am_sl h a (vp_updL (h.2.2 a) j.toNatClampNeg x)) : ACT) else none
        | none => none
      | _ => none) = some (.inl B) := he
    split at he
    · split at he
      · rename_i hq
        obtain ⟨h1, rfl⟩ := am_bifI he
        exact am_n_last X hd hq h1 k
      · cases he
    · cases he
  | arraylength =>
    have hn : n = 1 := hn.resolve_left (fun q => am_ft q)
    subst hn
    replace he : (match st with
      | .ref a :: r => match am_alen sc a with
        | some n => some (Sum.inl (pc + 1, lv, Value.int (Int32.ofNat n) :: r, h) : ACT)
        | none => none
      | _ => none) = some (.inl B) := he
    split at he
    · split at he
      · rename_i hq
        cases he
        exact am_n_alen X hd hq k
      · cases he
    · cases he
  | invokestatic idx =>
    have hn : n = 3 := hn.resolve_left (fun q => am_ft q)
    subst hn
    replace he : (match ex with
      | 0 :: _ => am_callS R idx st
      | 1 :: _ => am_copy R pc lv st h
      | 2 :: _ => am_mm R pc lv st h am_max
      | 3 :: _ => am_mm R pc lv st h am_min
      | _ => none) = some (.inl B) := he
    have hc := X.2.2.2.2.2.2.2.2.2.1
    split at he
    · unfold am_callS at he
      split at he
      · exact (am_bifR he).elim
      · cases he
    · rename_i tl
      cases tl with
      | nil => exact (am_ft hw).elim
      | cons pp t => cases t with
        | nil => exact am_n_copy X hd hw he k
        | cons _ _ => exact (am_ft hw).elim
    · rename_i tl
      cases tl with
      | nil => exact (am_ft hw).elim
      | cons pp t => cases t with
        | nil => exact am_n_mm X he k (fun a1 a2 a3 w => va_mmax hx hb a1 hown (hts _ (am_wd_mem hw)) (hts _ w_mxS) (hts _ w_mI) (hts _ w_mxC) a2 a3 hc.2.2.1 hc.2.2.2 hd w)
        | cons _ _ => exact (am_ft hw).elim
    · rename_i tl
      cases tl with
      | nil => exact (am_ft hw).elim
      | cons pp t => cases t with
        | nil => exact am_n_mm X he k (fun a1 a2 a3 w => va_mmin hx hb a1 hown (hts _ (am_wd_mem hw)) (hts _ w_miS) (hts _ w_mI) (hts _ w_miC) a2 a3 hc.2.2.1 hc.2.2.2 hd w)
        | cons _ _ => exact (am_ft hw).elim
    · cases he
  | invokevirtual idx =>
    have he : am_callV R idx st = some (.inl B) := he
    unfold am_callV at he
    split at he
    · split at he
      · exact (am_bifR he).elim
      · cases he
    · cases he
  | ireturn =>
    replace he : (match st with
      | [.int v] => bif am_retok (mr_r R) v then some (Sum.inr (.inl (some (.int v))) : ACT) else none
      | _ => none) = some (.inl B) := he
    split at he
    · exact (am_bifR he).elim
    · cases he
  | lreturn =>
    replace he : (match st with
      | [.long v] => bif decide (mr_r R = some .long) then some (Sum.inr (.inl (some (.long v))) : ACT) else none
      | _ => none) = some (.inl B) := he
    split at he
    · exact (am_bifR he).elim
    · cases he
  | areturn =>
    replace he : (match st with
      | [v] => bif am_isRef v && am_refret (mr_r R) then some (Sum.inr (.inl (some v)) : ACT) else none
      | _ => none) = some (.inl B) := he
    split at he
    · exact (am_bifR he).elim
    · cases he
  | return_ =>
    replace he : (match st with
      | [] => bif decide (mr_r R = none) then some (Sum.inr (.inl none) : ACT) else none
      | _ => none) = some (.inl B) := he
    split at he
    · exact (am_bifR he).elim
    · cases he
  | _ => exact (am_no he).elim
end AMN
end
section
/-! calls, returns, and the whole -/
def am_Pc (D : va_G) (tc : Nat → ClassId) (ad : Nat → Nat) (h : AH) (sz : Nat) (as : List Value) : Array Value → State → Prop := va_Pc (as.map (am_cv ad)) (fun U => U.heap.size = sz ∧ va_P D am_cl (am_W tc ad h) U.heap ∧ va_K D am_cl (am_tys tc) U ∧ va_D (fun _ => True) (am_W tc ad h) ∧ am_RO ad (va_A (am_W tc ad h) sz) U U.heap)
def am_Qc (D : va_G) (tc : Nat → ClassId) (ad : Nat → Nat) (h h' : AH) (sz : Nat) (v : Option Value) : Array Value → State → Outcome → State → Prop := fun _ st oc t => oc = .returned (v.map (am_cv ad)) ∧ va_P D am_cl (am_W tc ad h') t.heap ∧ va_K D am_cl (am_tys tc) t ∧ va_F (va_A (am_W tc ad h) sz) st t
def am_ws (R : MR) : List Jvm.Cond := Jvm.Cond.code (mr_y R) (mr_b R) (mr_L R) (mr_r R) :: am_all
def am_rm (R : MR) : Room := { frames := mr_f R, cells := 0, slots := 0, locals := mr_w R }
/-- the contract of a method at these arguments and this heap -/
def am_C (l : Launch) (R : MR) (as : List Value) (h : AH) (v : Option Value) (h' : AH) : Prop := ∀ (D : va_G) (tc : Nat → ClassId) (ad : Nat → Nat) (sz : Nat), Met l (mr_y R) (am_ws R) (am_rm R) (am_Pc D tc ad h sz as) (am_Qc D tc ad h h' sz v) 0 0 (va_A (am_W tc ad h) sz)
theorem am_bifW {b : Bool} {x : Option ACT} {y : ACT} (z : (bif b then x else none) = some y) : b = true ∧ x = some y := by
  cases b with
  | false => cases z
  | true => exact ⟨rfl, z⟩
theorem am_lv_args (ad : Nat → Nat) : ∀ (as : List Value) (i : Nat), lv_args i (as.map (am_cv ad)) = am_lv ad (lv_args i as)
  | [], _ => rfl
  | v :: vs, i => by
    rw [List.map_cons, lv_args, am_lv_args ad vs, lv_args, am_cv_cat]
    rfl
theorem am_lgsl : ∀ (vs : List Value), (lg_sl vs).length = am_cat vs
  | [] => rfl
  | v :: vs => by
    have ih := am_lgsl vs
    unfold lg_sl am_cat at *
    rw [List.flatMap_cons, List.length_append, ih, List.map_cons, List.sum_cons]
    rcases lv_cat v with hc | hc
    · rw [if_neg (by omega), hc]
      rfl
    · rw [if_pos hc, hc]
      rfl
theorem am_cat_map (ad : Nat → Nat) (st : List Value) : am_cat (st.map (am_cv ad)) = am_cat st := by
  unfold am_cat
  rw [List.map_map]
  congr 1
  apply List.map_congr_left
  intro v _
  exact am_cv_cat ad v
section AMC
variable {p : Program} {l : Launch} {e : Env} {Rm : Room} {s : State} {m : MethodId} {args : Array Value} {below : List Frame} {meth : Method} {c : Code} {cells slots : Nat} {Q : State → Prop} {D : va_G} {tc : Nat → ClassId} {ad : Nat → Nat} {A : Nat → Prop} {R : MR} {sc : Option (Nat × (Nat → Int32))}
variable {pc : Nat} {lv : LV} {st : List Value} {h : AH} {B : AS}
set_option maxHeartbeats 4000000 in
theorem am_exec_call {i : Jvm.ClassFile.Instr} {tg : Nat} {ex : List Nat} {sw : List (Int32 × Nat)} {lg : Int64} {q : MR × List Value × List Value} (he : am_exec sc R pc i tg ex sw lg lv st h = some (.inr (.inr q))) : (∃ idx, i = .invokestatic idx ∧ am_callS R idx st = some (.inr (.inr q))) ∨ (∃ idx, i = .invokevirtual idx ∧ am_callV R idx st = some (.inr (.inr q))) := by
  cases i with
  | invokestatic idx =>
    replace he : (match ex with
      | 0 :: _ => am_callS R idx st
      | 1 :: _ => am_copy R pc lv st h
      | 2 :: _ => am_mm R pc lv st h am_max
      | 3 :: _ => am_mm R pc lv st h am_min
      | _ => none) = some (.inr (.inr q)) := he
    split at he
    · exact Or.inl ⟨idx, rfl, he⟩
    · exfalso
      unfold am_copy at he
      split at he
      · split at he
        · have he := (am_bifW (am_bifW he).2).2
          cases he
        · cases he
      · cases he
    · exfalso
      unfold am_mm at he
      split at he
      · have he := (am_bifW he).2
        cases he
      · cases he
    · exfalso
      unfold am_mm at he
      split at he
      · have he := (am_bifW he).2
        cases he
      · cases he
    · cases he
  | invokevirtual idx => exact Or.inr ⟨idx, rfl, he⟩
  | _ =>
    exfalso
    first
    | exact am_no he
    | (unfold am_exec at he
       dsimp only at he
       (try unfold am_ii at he)
       (try unfold am_ll at he)
       (try unfold am_load at he)
       (try unfold am_store at he)
       (try unfold am_storeL at he)
       repeat' (first | (cases he; done) | (have he' := (am_bifW he).2; cases he'; done) | (split at he)))
theorem am_blind (D : va_G) (tc : Nat → ClassId) (ad : Nat → Nat) (h : AH) (sz : Nat) (as : List Value) : FrameBlind (am_Pc D tc ad h sz as) := by
  intro a U g mk q
  obtain ⟨q1, q2, q3, q4, q5, q6⟩ := q
  exact ⟨q1, q2, q3, va_K.moved (u := U) (U := U.calling g mk a) (Vm.Alike.refl U.vm) q4, q5, am_RO.same (u := U) (U := U.calling g mk a) rfl q6⟩
/-- behind a call -/
theorem am_cont {H : Heap} {locs : List Loc} {ls : Array Slot} {st0 : List Value} {h1 : AH} {v1 : Option Value} {rest : List Value} {a : Array Value} (hA : ∀ q : Nat, s.heap.size ≤ q → A q) (hD : ∀ h, va_D A (am_W tc ad h)) (hS : va_S A s.heap H locs) (hl : lv_has ls (mr_L R) (am_lv ad lv))
    (hr : va_Run p l e Rm s m args below meth c H locs cells slots 0 0 (F0 m pc ls st0) (rest.map (am_cv ad)) (am_Qc D tc ad h h1 H.size v1 a) (va_A (am_W tc ad h) H.size)) (k : am_WA p l e Rm s m args below meth c cells slots Q D tc ad A R (pc + 3, lv, v1.toList ++ rest, h1)) :
    W p l e Rm s m args below meth c H locs cells slots Q (F0 m pc ls st0) := by
  have hF : ∀ q, va_A (am_W tc ad h) H.size q → A q := by
    rintro q (⟨k, e, hk⟩ | hq)
    · exact (hD h).2 k _ hk
    · exact hA q (Nat.le_trans hS.1 hq)
  intro T hT X
  obtain ⟨v, st₀, t, T', L, h0, X', hL, e1, e2, ⟨hv, hP1, hK1, hz, hk⟩, st⟩ := hr T hT X
  have hv : v = v1.map (am_cv ad) := by
    injection hv
  subst hv
  rw [h0] at hz hk
  have hS' : va_S A s.heap T'.heap (locs ++ L) := by
    refine ⟨Nat.le_trans hS.1 (by rw [e1]; exact hz), fun q h1 h2 => ?_, fun q hq => ?_⟩
    · rw [e1, hk q (Nat.lt_of_lt_of_le h1 hS.1) (fun z => h2 (hF q z))]
      exact hS.2.1 q h1 h2
    · rcases List.mem_append.mp hq with h | h
      · exact hS.2.2 q h
      · exact hF _ (hL q h)
  obtain ⟨t2, a1, b1⟩ := k ls T'.heap (locs ++ L) hl (by rw [e1]; exact hP1) hS' T' rfl X'
  refine ⟨t2, st t2 ?_, b1⟩
  have es : (v1.map (am_cv ad)).toList ++ rest.map (am_cv ad) = (v1.toList ++ rest).map (am_cv ad) := by
    cases v1 <;> simp
  rw [es]
  exact a1
theorem am_okws {R' : MR} (hG : am_G R') (hts : ∀ w ∈ am_all, w.before args s = true) : ∀ w ∈ am_ws R', ∀ (a' : Array Value) (U : State), s.WarmedH U.vm → w.before a' U = true := by
  intro w hw a' U hW
  have hm : w ∈ am_all := by
    rcases List.mem_cons.mp hw with rfl | h
    · exact hG.2.2
    · exact h
  exact word_at hW (am_good hm) (hts w hm)
theorem am_nm_spec {R' : MR} (hn : am_nm R' = true) : (mr_y R').cls = am_cn (mr_o R') ∧ Jvm.plainName (mr_y R').cls = true ∧ (mr_y R').cls ≠ "java/lang/invoke/MethodHandle" ∧ (mr_y R').cls ≠ "java/lang/invoke/VarHandle" ∧ (∀ sig, parseMethodDescriptor (mr_y R').desc = some sig → mr_n R' = sig.parameters.length) := by
  simp only [am_nm, Bool.and_eq_true, decide_eq_true_eq, Bool.not_eq_true', decide_eq_false_iff_not] at hn
  obtain ⟨h1, h2, h3, h4, h5⟩ := hn
  refine ⟨h1, h2, h3, h4, fun sig hs => ?_⟩
  rw [hs] at h5
  exact (Option.some.inj h5).symm
theorem am_fits_spec {R R' : MR} {as rest : List Value} (hf : am_fits R R' as rest = true) : mr_f R' + 1 ≤ mr_f R ∧ 8 + (mr_L R' + 11) + mr_w R' ≤ mr_w R ∧ am_cat as ≤ mr_L R' ∧ am_cat rest ≤ 8 := by
  simp only [am_fits, Bool.and_eq_true] at hf
  exact ⟨Nat.le_of_ble_eq_true hf.1, Nat.le_of_ble_eq_true hf.2.1, Nat.le_of_ble_eq_true hf.2.2.1, Nat.le_of_ble_eq_true hf.2.2.2⟩
theorem am_clname {ci : Nat} (h : ci < 10) : ∃ q : vw_C, am_cl[ci]? = some q ∧ q.1 = am_cn ci := by
  match ci, h with
  | 0, _ => exact ⟨_, rfl, rfl⟩
  | 1, _ => exact ⟨_, rfl, rfl⟩
  | 2, _ => exact ⟨_, rfl, rfl⟩
  | 3, _ => exact ⟨_, rfl, rfl⟩
  | 4, _ => exact ⟨_, rfl, rfl⟩
  | 5, _ => exact ⟨_, rfl, rfl⟩
  | 6, _ => exact ⟨_, rfl, rfl⟩
  | 7, _ => exact ⟨_, rfl, rfl⟩
  | 8, _ => exact ⟨_, rfl, rfl⟩
  | 9, _ => exact ⟨_, rfl, rfl⟩
theorem am_shp_cls {a : Nat} {q : Nat × List (Option Nat)} (hq : am_shp[a]? = some (.inr q)) : q.1 < 10 := by
  have hb2 : am_shp.all (fun z => match z with | .inr q => decide (q.1 < 10) | .inl _ => true) = true := by decide +kernel
  have h3 := List.all_eq_true.mp hb2 _ (List.mem_of_getElem? hq)
  simpa only [decide_eq_true_eq] using h3
set_option maxHeartbeats 4000000 in
theorem am_call (X : am_FX p s m args c Rm cells slots D tc ad A sc R) {v1 : Option Value} {h1 : AH} {q : MR × List Value × List Value} (hst : am_step sc R (pc, lv, st, h) = some (.inr (.inr q))) (hM : am_C l q.1 q.2.1 h v1 h1) (k : am_WA p l e Rm s m args below meth c cells slots Q D tc ad A R (pc + 3, lv, v1.toList ++ q.2.2, h1)) :
    am_WA p l e Rm s m args below meth c cells slots Q D tc ad A R (pc, lv, st, h) := by
  unfold am_step at hst
  split at hst
  case h_2 => cases hst
  rename_i rw hrow
  obtain ⟨i, tg, ex, sw, lg⟩ := rw
  obtain ⟨⟨n, hd, hn⟩, hw⟩ := am_dec X hrow
  obtain ⟨hx, hb, hml, hown, hts, hK, hRO, hD, hA, ⟨hm1, hm2, hm3, hm4⟩, hsc, hall⟩ := id X
  intro ls H locs hl hP hS
  have hROH : ∀ U : State, U.heap = H → s.WarmedH U.vm → am_RO ad (va_A (am_W tc ad h) H.size) U U.heap := by
    intro U hU hW
    have g1 := (hRO.kept hS.2.1).warm hW
    rw [hU]
    refine g1.narrow ?_
    rintro q (⟨k, e, hk⟩ | hq)
    · exact (hD h).2 k _ hk
    · exact hA q (Nat.le_trans hS.1 hq)
  have hDT : va_D (fun _ => True) (am_W tc ad h) := (hD h).weaken (fun _ _ _ _ => trivial)
  rcases am_exec_call hst with ⟨idx, rfl, hc⟩ | ⟨idx, rfl, hc⟩
  · have hn : n = 3 := hn.resolve_left (fun q => am_ft q)
    subst hn
    unfold am_callS at hc
    split at hc
    case h_2 => cases hc
    rename_i R' kd tl hml2
    obtain ⟨hcond, hq⟩ := am_bifW hc
    cases hq
    rw [Bool.and_eq_true, Bool.and_eq_true] at hcond
    obtain ⟨hkd, hlen, hfit⟩ := hcond
    have hlen := Nat.le_of_ble_eq_true hlen
    obtain ⟨f1, f2, f3, f4⟩ := am_fits_spec hfit
    obtain ⟨hlk, hG⟩ := am_links _ _ (am_mfind_mem hml2)
    obtain ⟨n1, n2, n3, n4, n5⟩ := am_nm_spec hG.2.1
    have hcode := hG.2.2
    have hstack : (st.map (am_cv ad)) = ((((st.take (mr_n R')).reverse).map (am_cv ad))).reverse ++ (st.drop (mr_n R')).map (am_cv ad) := by
      rw [List.map_reverse, List.reverse_reverse, ← List.map_append, List.take_append_drop]
    have hAl : (((st.take (mr_n R')).reverse).map (am_cv ad)).length = mr_n R' := by
      rw [List.length_map, List.length_reverse, List.length_take, Nat.min_eq_left hlen]
    have hp : PreS s H (am_Pc D tc ad h H.size ((st.take (mr_n R')).reverse)) (((st.take (mr_n R')).reverse).map (am_cv ad)) := ⟨am_blind _ _ _ _ _ _, fun U hU hW => ⟨rfl, by rw [hU], by rw [hU]; exact hP, va_K.moved hW.alike hK, hDT, hROH U hU hW⟩⟩
    have hroom : 2 * (F0 m pc ls (st.map (am_cv ad))).monitorRoom + (((st.drop (mr_n R')).map (am_cv ad)).map fun v => v.category).sum ≤ 8 := lv_room (by rw [am_cat_cv]; exact f4)
    refine am_cont (h := h) hA hD hS hl (a := (((st.take (mr_n R')).reverse).map (am_cv ad)).toArray) ?_ k
    unfold am_mlk at hlk
    split at hlk
    · rename_i h9
      simp only [List.cons.injEq] at h9
      rw [h9.1] at hkd
      cases hkd
    · rename_i p1 p2 p4 _ h9
      simp only [Bool.and_eq_true] at hlk
      have e1 := hts _ (am_wd_mem hlk.1)
      have e2 := hts _ (am_wd_mem hlk.2.1)
      have e4 := hts _ (am_wd_mem hlk.2.2)
      exact va_runS (As := ((st.take (mr_n R')).reverse).map (am_cv ad)) (n := mr_n R') (nL := mr_L R) (bytes := mr_b R') (maxL := mr_L R') (ret := mr_r R') ⟨hx, hb, hml, hown, hts⟩ (hM D tc ad H.size) ⟨⟨rfl, rfl, Nat.le_trans f1 hm1, Nat.le_trans f2 hm2, am_okws hG hts, List.mem_cons_self, hts _ hcode, e4, ⟨n3, n4⟩, n5, e1⟩, e2⟩ hp rfl hAl hl.1 hstack hroom hd ⟨hm3, hm4⟩
    · rename_i p2 p4 _ h9
      rw [Bool.and_eq_true, Bool.and_eq_true, decide_eq_true_eq] at hlk
      obtain ⟨⟨o1, o2, o3⟩, w2, w4⟩ := hlk
      have e2 := hts _ (am_wd_mem w2)
      have e4 := hts _ (am_wd_mem w4)
      have e1 : (Cond.methodLinkNest (am_cn (mr_o R)) idx (mr_y R') "Samovar").before args s = true := by
        rw [show am_cn (mr_o R) = "Samovar$Evening" by rw [o1]; rfl, show idx = am_gw from o2, show mr_y R' = _ from o3]
        exact va_Nw.use rfl hRO.2.2.2.2.2.2
      exact va_runSN (As := ((st.take (mr_n R')).reverse).map (am_cv ad)) (n := mr_n R') (nL := mr_L R) (bytes := mr_b R') (maxL := mr_L R') (ret := mr_r R') (host := "Samovar") ⟨hx, hb, hml, hown, hts⟩ (hM D tc ad H.size) ⟨⟨⟨rfl, rfl, Nat.le_trans f1 hm1, Nat.le_trans f2 hm2, am_okws hG hts, List.mem_cons_self⟩, hts _ hcode, e4, ⟨n3, n4⟩, n5, e1⟩, e2, trivial⟩ hp rfl hAl hl.1 hstack hroom hd ⟨hm3, hm4⟩
    · cases hlk
  · have hn : n = 3 := hn.resolve_left (fun q => am_ft q)
    subst hn
    unfold am_callV at hc
    split at hc
    case h_2 => cases hc
    rename_i R' kd tl hml2
    split at hc
    case h_2 => cases hc
    rename_i a rest hdrop
    obtain ⟨hcond, hq⟩ := am_bifW hc
    cases hq
    rw [Bool.and_eq_true, Bool.and_eq_true, Bool.and_eq_true, decide_eq_true_eq] at hcond
    obtain ⟨hkd, hlen, hcls, hfit⟩ := hcond
    have hlen := Nat.le_of_ble_eq_true hlen
    obtain ⟨f1, f2, f3, f4⟩ := am_fits_spec hfit
    obtain ⟨hlk, hG⟩ := am_links _ _ (am_mfind_mem hml2)
    obtain ⟨n1, n2, n3, n4, n5⟩ := am_nm_spec hG.2.1
    have hcode := hG.2.2
    have hstack : (st.map (am_cv ad)) = ((((st.take (mr_n R')).reverse).map (am_cv ad))).reverse ++ .ref (ad a) :: rest.map (am_cv ad) := by
      rw [List.map_reverse, List.reverse_reverse]
      have e0 : Value.ref (ad a) :: rest.map (am_cv ad) = (st.drop (mr_n R')).map (am_cv ad) := by rw [hdrop]; rfl
      rw [e0, ← List.map_append, List.take_append_drop]
    have hAl : (((st.take (mr_n R')).reverse).map (am_cv ad)).length = mr_n R' := by
      rw [List.length_map, List.length_reverse, List.length_take, Nat.min_eq_left hlen]
    have hrecv : ∃ cellB : Cell, H[ad a]? = some cellB ∧ cellB.vm.isStatics = false ∧ s.vm.findClass (mr_y R').cls = some cellB.cls := by
      unfold am_cls at hcls
      split at hcls
      · rename_i q hq
        have hcls := Option.some.inj hcls
        obtain ⟨qq, g1, g2⟩ := am_clname (am_shp_cls hq)
        have he := am_W_at (tc := tc) (ad := ad) (h := h) hq
        have g3 := va_recv hK hP g1 he
        rw [g2, hcls] at g3
        rw [n1]
        exact g3
      · cases hcls
      · split at hcls
        · rename_i hi
          have hcls := Option.some.inj hcls
          have hi2 : ∃ i : Nat, i < 2 ∧ a = 200 + i := by
            rcases hi with rfl | rfl
            · exact ⟨0, by omega, rfl⟩
            · exact ⟨1, by omega, rfl⟩
          obtain ⟨i, hi2, rfl⟩ := hi2
          rw [n1, ← hcls]
          exact vk_recv (adK := fun i => ad (200 + i)) (adV := fun i => ad (204 + i)) (i := i) hRO.1 hi2 hS
        · cases hcls
    have hp : PreV s H (mr_y R').cls (ad a) (am_Pc D tc ad h H.size (.ref a :: (st.take (mr_n R')).reverse)) (((st.take (mr_n R')).reverse).map (am_cv ad)) := ⟨am_blind _ _ _ _ _ _, hrecv, fun U hU hW => ⟨rfl, by rw [hU], by rw [hU]; exact hP, va_K.moved hW.alike hK, hDT, hROH U hU hW⟩⟩
    have hroom : 2 * (F0 m pc ls (st.map (am_cv ad))).monitorRoom + ((rest.map (am_cv ad)).map fun v => v.category).sum ≤ 8 := lv_room (by rw [am_cat_cv]; exact f4)
    refine am_cont (h := h) hA hD hS hl (a := (Value.ref (ad a) :: ((st.take (mr_n R')).reverse).map (am_cv ad)).toArray) ?_ k
    unfold am_mlk at hlk
    split at hlk
    · rename_i p1 p2 p3 p4 _ h9
      simp only [Bool.and_eq_true] at hlk
      have e1 := hts _ (am_wd_mem hlk.1)
      have e2 := hts _ (am_wd_mem hlk.2.1)
      have e3 := hts _ (am_wd_mem hlk.2.2.1)
      have e4 := hts _ (am_wd_mem hlk.2.2.2)
      exact va_runV (As := ((st.take (mr_n R')).reverse).map (am_cv ad)) (n := mr_n R') (nL := mr_L R) (bytes := mr_b R') (maxL := mr_L R') (ret := mr_r R') (C := (mr_y R').cls) ⟨hx, hb, hml, hown, hts⟩ (hM D tc ad H.size) ⟨⟨rfl, rfl, Nat.le_trans f1 hm1, Nat.le_trans f2 hm2, am_okws hG hts, List.mem_cons_self, hts _ hcode, e4, ⟨n3, n4⟩, n5, e1⟩, e2, e3⟩ hp rfl hAl hl.1 hstack hroom hd ⟨hm3, hm4⟩
    · rename_i p1 p2 p4 _ h9
      simp only [List.cons.injEq] at h9
      rw [h9.1] at hkd
      cases hkd
    · rename_i p2 p4 _ h9
      simp only [List.cons.injEq] at h9
      rw [h9.1] at hkd
      cases hkd
    · cases hlk
end AMC
end
section
/-! the abstract machine's runs are the machine's -/
section AMW
variable {p : Program} {l : Launch} {e : Env} {Rm : Room} {s : State} {m : MethodId} {args : Array Value} {below : List Frame} {meth : Method} {c : Code} {cells slots : Nat} {Q : State → Prop} {D : va_G} {tc : Nat → ClassId} {ad : Nat → Nat} {A : Nat → Prop} {R : MR} {sc : Option (Nat × (Nat → Int32))}
variable {pc : Nat} {lv : LV} {st : List Value} {h : AH} {B : AS}
set_option maxHeartbeats 4000000 in
theorem am_exec_ret {i : Jvm.ClassFile.Instr} {tg : Nat} {ex : List Nat} {sw : List (Int32 × Nat)} {lg : Int64} {v : Option Value} (he : am_exec sc R pc i tg ex sw lg lv st h = some (.inr (.inl v))) : (i = .ireturn ∧ ∃ x : Int32, st = [.int x] ∧ v = some (.int x) ∧ am_retok (mr_r R) x = true) ∨ (i = .lreturn ∧ ∃ x : Int64, st = [.long x] ∧ v = some (.long x) ∧ mr_r R = some .long) ∨ (i = .areturn ∧ ∃ x : Value, st = [x] ∧ v = some x ∧ am_isRef x = true ∧ am_refret (mr_r R) = true) ∨ (i = .return_ ∧ st = [] ∧ v = none ∧ mr_r R = none) := by
  cases i with
  | ireturn =>
    replace he : (match st with
      | [.int v] => bif am_retok (mr_r R) v then some (Sum.inr (.inl (some (.int v))) : ACT) else none
      | _ => none) = some (.inr (.inl v)) := he
    split at he
    · obtain ⟨h1, h2⟩ := am_bifW he
      cases h2
      exact Or.inl ⟨rfl, _, rfl, rfl, h1⟩
    · cases he
  | lreturn =>
    replace he : (match st with
      | [.long v] => bif decide (mr_r R = some .long) then some (Sum.inr (.inl (some (.long v))) : ACT) else none
      | _ => none) = some (.inr (.inl v)) := he
    split at he
    · obtain ⟨h1, h2⟩ := am_bifW he
      cases h2
      exact Or.inr (Or.inl ⟨rfl, _, rfl, rfl, of_decide_eq_true h1⟩)
    · cases he
  | areturn =>
    replace he : (match st with
      | [v] => bif am_isRef v && am_refret (mr_r R) then some (Sum.inr (.inl (some v)) : ACT) else none
      | _ => none) = some (.inr (.inl v)) := he
    split at he
    · obtain ⟨h1, h2⟩ := am_bifW he
      cases h2
      rw [Bool.and_eq_true] at h1
      exact Or.inr (Or.inr (Or.inl ⟨rfl, _, rfl, rfl, h1.1, h1.2⟩))
    · cases he
  | return_ =>
    replace he : (match st with
      | [] => bif decide (mr_r R = none) then some (Sum.inr (.inl none) : ACT) else none
      | _ => none) = some (.inr (.inl v)) := he
    split at he
    · obtain ⟨h1, h2⟩ := am_bifW he
      cases h2
      exact Or.inr (Or.inr (Or.inr ⟨rfl, rfl, rfl, of_decide_eq_true h1⟩))
    · cases he
  | invokestatic idx =>
    exfalso
    replace he : (match ex with
      | 0 :: _ => am_callS R idx st
      | 1 :: _ => am_copy R pc lv st h
      | 2 :: _ => am_mm R pc lv st h am_max
      | 3 :: _ => am_mm R pc lv st h am_min
      | _ => none) = some (.inr (.inl v)) := he
    split at he
    · unfold am_callS at he
      split at he
      · have he := (am_bifW he).2
        cases he
      · cases he
    · unfold am_copy at he
      split at he
      · split at he
        · have he := (am_bifW (am_bifW he).2).2
          cases he
        · cases he
      · cases he
    · unfold am_mm at he
      split at he
      · have he := (am_bifW he).2
        cases he
      · cases he
    · unfold am_mm at he
      split at he
      · have he := (am_bifW he).2
        cases he
      · cases he
    · cases he
  | invokevirtual idx =>
    exfalso
    replace he : am_callV R idx st = some (.inr (.inl v)) := he
    unfold am_callV at he
    split at he
    · split at he
      · have he := (am_bifW he).2
        cases he
      · cases he
    · cases he
  | _ =>
    exfalso
    first
    | exact am_no he
    | (unfold am_exec at he
       dsimp only at he
       (try unfold am_ii at he)
       (try unfold am_ll at he)
       (try unfold am_load at he)
       (try unfold am_store at he)
       (try unfold am_storeL at he)
       repeat' (first | (cases he; done) | (have he' := (am_bifW he).2; cases he'; done) | (split at he)))
/-- a method's end -/
theorem am_fin (X : am_FX p s m args c Rm 0 0 D tc ad A none R) (hret : meth.sig.returnType = mr_r R) (hlocks : meth.locks = false) {h0 h' : AH} {sz : Nat} (hA : A = va_A (am_W tc ad h0) sz) {v : Option Value} (hst : am_step none R (pc, lv, st, h') = some (.inr (.inl v))) :
    am_WA p l e Rm s m args below meth c 0 0 (MQ below (am_Qc D tc ad h0 h' sz v) args s 0 0 A) D tc ad A R (pc, lv, st, h') := by
  unfold am_step at hst
  split at hst
  case h_2 => cases hst
  rename_i rw hrow
  obtain ⟨i, tg, ex, sw, lg⟩ := rw
  obtain ⟨⟨n, hd, hn⟩, hw⟩ := am_dec X hrow
  obtain ⟨hx, hb, hml, hown, hts, hK, hRO, hD, -⟩ := id X
  intro ls H locs hl hP hS
  have hq : ∀ t : State, t.heap = H → s.WarmedH t.vm → am_Qc D tc ad h0 h' sz v args s (.returned (v.map (am_cv ad))) t := fun t ht hW => ⟨rfl, by rw [ht]; exact hP, va_K.moved hW.alike hK, by rw [← hA]; exact hS.F ht⟩
  rcases am_exec_ret hst with ⟨rfl, x, h1, rfl, h3⟩ | ⟨rfl, x, h1, rfl, h3⟩ | ⟨rfl, x, h1, rfl, h3, h4⟩ | ⟨rfl, h1, rfl, h3⟩
  · have hn : n = 1 := hn.resolve_left (fun q => am_ft q)
    subst hn
    have h1 : st = [.int x] := h1
    subst h1
    unfold am_retok at h3
    split at h3
    · rename_i hr
      exact W.iret (v := x) hx hb (by rw [hret, hr]) hq hS.2.2 hd hlocks
    · rename_i hr
      refine W.zret (v := x) (ty := .boolean) hx hb (by rw [hret, hr]) ?_ hq hS.2.2 hd hlocks
      rw [Bool.or_eq_true, decide_eq_true_eq, decide_eq_true_eq] at h3
      rcases h3 with rfl | rfl <;> decide
    · rename_i hr
      refine W.zret (v := x) (ty := .byte) hx hb (by rw [hret, hr]) ?_ hq hS.2.2 hd hlocks
      rw [decide_eq_true_eq] at h3
      subst h3
      decide
    · cases h3
  · have hn : n = 1 := hn.resolve_left (fun q => am_ft q)
    subst hn
    have h1 : st = [.long x] := h1
    subst h1
    exact W.lret (v := x) hx hb (by rw [hret, h3]) hq hS.2.2 hd hlocks
  · have hn : n = 1 := hn.resolve_left (fun q => am_ft q)
    subst hn
    have h1 : st = [x] := h1
    subst h1
    unfold am_refret at h4
    have hv : am_cv ad x = .null ∨ ∃ a, am_cv ad x = .ref a := by
      cases x with
      | ref a => exact Or.inr ⟨_, rfl⟩
      | null => exact Or.inl rfl
      | _ => cases h3
    split at h4
    · rename_i nm hr
      exact W.aret (v := am_cv ad x) (rt := .object nm) hx hb (by rw [hret, hr]) (Or.inl ⟨_, rfl⟩) hv hq hS.2.2 hd hlocks
    · rename_i nm hr
      exact W.aret (v := am_cv ad x) (rt := .array nm) hx hb (by rw [hret, hr]) (Or.inr ⟨_, rfl⟩) hv hq hS.2.2 hd hlocks
    · cases h4
  · have hn : n = 1 := hn.resolve_left (fun q => am_ft q)
    subst hn
    have h1 : st = [] := h1
    subst h1
    exact W.vret hx hb (by rw [hret, h3]) hq hS.2.2 hd hlocks
end AMW
/-- what is claimed of runs of at most n steps -/
def am_S (l : Launch) (n : Nat) : Prop := ∀ (p : Program) (e : Env) (Rm : Room) (s : State) (m : MethodId) (args : Array Value) (below : List Frame) (meth : Method) (c : Code) (cells slots : Nat) (Q : State → Prop) (D : va_G) (tc : Nat → ClassId) (ad : Nat → Nat) (A : Nat → Prop) (R : MR) (sc : Option (Nat × (Nat → Int32))) (B : AS) (v : Option Value) (h' : AH),
  am_FX p s m args c Rm cells slots D tc ad A sc R → am_run n sc R B = some (v, h') → (∀ (pc : Nat) (lv : LV) (st : List Value), am_step sc R (pc, lv, st, h') = some (.inr (.inl v)) → am_WA p l e Rm s m args below meth c cells slots Q D tc ad A R (pc, lv, st, h')) → am_WA p l e Rm s m args below meth c cells slots Q D tc ad A R B
theorem am_met {l : Launch} {n : Nat} (ih : am_S l n) {R : MR} (hG : am_G R) {as : List Value} {h h' : AH} {v : Option Value} (hcat : am_cat as ≤ mr_L R) (hrun : am_run n none R (0, lv_args 0 as, [], h) = some (v, h')) : am_C l R as h v h' := by
  intro D tc ad sz
  obtain ⟨n1, n2, -⟩ := am_nm_spec hG.2.1
  refine Met.ofW (cc := mr_b R) (maxL := mr_L R) (ret := mr_r R) n2 rfl ?_
  intro p e s m args below meth c s₁ B hml hv
  obtain ⟨rfl, hsz, hP, hK, hD0, hRO⟩ := hv
  subst hsz
  have hts := atoms_spec (ws := am_ws R) B.pre
  have hown : s.vm.findClass (mr_y R).cls = some m.cls := findClass_of_methodNamed B.named
  rw [n1] at hown
  have hD := hD0.self (sz := s.heap.size)
  have X : am_FX p s m (as.map (am_cv ad)).toArray c (am_rm R) 0 0 D tc ad (va_A (am_W tc ad h) s.heap.size) none R := ⟨B.exec, B.bytes, hml, hown, fun w hw => hts w (List.mem_cons_of_mem _ hw), hK, hRO, fun h'' => am_D_any hD h'', fun q hq => Or.inr hq, ⟨Nat.le_refl _, Nat.le_refl _, Nat.le_refl _, Nat.le_refl _⟩, (fun _ _ z => by cases z), hG.1⟩
  rw [lg_entry_eq]
  have hl := lv_entry (as.map (am_cv ad)) (n := mr_L R) (by rw [am_lgsl, am_cat_map]; exact hcat)
  rw [am_lv_args] at hl
  exact ih p e (am_rm R) s m (as.map (am_cv ad)).toArray below meth c 0 0 _ D tc ad _ R none (0, lv_args 0 as, [], h) v h' X hrun (fun pc lv st hst => am_fin X B.returns B.notSynchronized rfl hst) _ _ [] hl hP va_S.rf
theorem am_sound (l : Launch) : ∀ n : Nat, am_S l n
  | 0 => by
    intro p e Rm s m args below meth c cells slots Q D tc ad A R sc B v h' X hrun
    cases hrun
  | n + 1 => by
    have ih := am_sound l n
    intro p e Rm s m args below meth c cells slots Q D tc ad A R sc B v h' X hrun hfin
    obtain ⟨pc, lv, st, h⟩ := B
    unfold am_run at hrun
    split at hrun
    · rename_i B' hst
      have hW := ih p e Rm s m args below meth c cells slots Q D tc ad A R sc B' v h' X hrun hfin
      unfold am_step at hst
      split at hst
      · rename_i rw hrow
        obtain ⟨i, tg, ex, sw, lg⟩ := rw
        exact am_next X hrow hst hW
      · cases hst
    · rename_i v' hst
      cases hrun
      exact hfin pc lv st hst
    · rename_i q hst
      split at hrun
      · rename_i w hcallee
        obtain ⟨v1, h1⟩ := w
        have hW := ih p e Rm s m args below meth c cells slots Q D tc ad A R sc _ v h' X hrun hfin
        have hcat : am_cat q.2.1 ≤ mr_L q.1 ∧ am_G q.1 := by
          unfold am_step at hst
          split at hst
          case h_2 => cases hst
          rename_i rw hrow
          rcases am_exec_call hst with ⟨idx, -, hc⟩ | ⟨idx, -, hc⟩
          · unfold am_callS at hc
            split at hc
            case h_2 => cases hc
            rename_i R' kd tl hml2
            obtain ⟨hcond, hq⟩ := am_bifW hc
            cases hq
            rw [Bool.and_eq_true, Bool.and_eq_true] at hcond
            exact ⟨(am_fits_spec hcond.2.2).2.2.1, (am_links _ _ (am_mfind_mem hml2)).2⟩
          · unfold am_callV at hc
            split at hc
            case h_2 => cases hc
            rename_i R' kd tl hml2
            split at hc
            case h_2 => cases hc
            obtain ⟨hcond, hq⟩ := am_bifW hc
            cases hq
            rw [Bool.and_eq_true, Bool.and_eq_true, Bool.and_eq_true] at hcond
            exact ⟨(am_fits_spec hcond.2.2.2).2.2.1, (am_links _ _ (am_mfind_mem hml2)).2⟩
        exact am_call X hst (am_met ih hcat.2 hcat.1 hcallee) hW
      · cases hrun
    · cases hrun
end
section
/-! runs, without their number of steps -/
def Ev (sc : Option (Nat × (Nat → Int32))) (R : MR) (A : AS) (v : Option Value) (h : AH) : Prop := ∃ n, am_run n sc R A = some (v, h)
theorem am_run_mono : ∀ (n : Nat) (sc : Option (Nat × (Nat → Int32))) (R : MR) (A : AS) (o : Option Value × AH), am_run n sc R A = some o → am_run (n + 1) sc R A = some o
  | 0, _, _, _, _, h => by cases h
  | n + 1, sc, R, A, o, h => by
    rw [am_run] at h
    rw [am_run]
    split at h
    · exact am_run_mono n _ _ _ _ h
    · exact h
    · split at h
      · rename_i w hw
        rw [am_run_mono n _ _ _ _ hw]
        exact am_run_mono n _ _ _ _ h
      · cases h
    · cases h
theorem am_run_le {n m : Nat} (hm : n ≤ m) {sc : Option (Nat × (Nat → Int32))} {R : MR} {A : AS} {o : Option Value × AH} (h : am_run n sc R A = some o) : am_run m sc R A = some o := by
  induction hm with
  | refl => exact h
  | step _ ih => exact am_run_mono _ _ _ _ _ ih
/-- k steps that are no calls -/
def am_steps (sc : Option (Nat × (Nat → Int32))) (R : MR) : Nat → AS → Option AS
  | 0, A => some A
  | k + 1, A => match am_step sc R A with
    | some (.inl B) => am_steps sc R k B
    | _ => none
section EVR
variable {sc : Option (Nat × (Nat → Int32))} {R : MR} {A B : AS} {v : Option Value} {h : AH}
theorem Ev.step (hs : am_step sc R A = some (.inl B)) (k : Ev sc R B v h) : Ev sc R A v h := by
  obtain ⟨n, hn⟩ := k
  refine ⟨n + 1, ?_⟩
  rw [am_run, hs]
  exact hn
theorem Ev.steps : ∀ (k : Nat) {A : AS}, am_steps sc R k A = some B → Ev sc R B v h → Ev sc R A v h
  | 0, A, hs, e => by
    cases hs
    exact e
  | k + 1, A, hs, e => by
    rw [am_steps] at hs
    split at hs
    · rename_i C hC
      exact Ev.step hC (Ev.steps k hs e)
    · cases hs
theorem Ev.ret (hs : am_step sc R A = some (.inr (.inl v))) : Ev sc R A v A.2.2.2 := ⟨1, by rw [am_run, hs]⟩
theorem Ev.call {q : MR × List Value × List Value} {w : Option Value} {h1 : AH} (hs : am_step sc R A = some (.inr (.inr q))) (hc : Ev none q.1 (0, lv_args 0 q.2.1, [], A.2.2.2) w h1) (k : Ev sc R (A.1 + 3, A.2.1, w.toList ++ q.2.2, h1) v h) : Ev sc R A v h := by
  obtain ⟨n, hn⟩ := hc
  obtain ⟨m, hm⟩ := k
  refine ⟨max n m + 1, ?_⟩
  rw [am_run, hs]
  dsimp only
  rw [am_run_le (Nat.le_max_left n m) hn]
  exact am_run_le (Nat.le_max_right n m) hm
/-- a step that asks: an index, a guard -/
theorem Ev.g {b : Bool} (hb : b = true) (hs : am_step sc R A = (bif b then some (.inl B) else none)) (k : Ev sc R B v h) : Ev sc R A v h := by
  subst hb
  exact Ev.step hs k
theorem Ev.br {b : Bool} {t1 t2 : Nat} {lv : LV} {st : List Value} {h0 : AH} (hs : am_step sc R A = some (.inl (bif b then t1 else t2, lv, st, h0))) (k1 : b = true → Ev sc R (t1, lv, st, h0) v h) (k2 : b = false → Ev sc R (t2, lv, st, h0) v h) : Ev sc R A v h := by
  cases b with
  | true => exact Ev.step hs (k1 rfl)
  | false => exact Ev.step hs (k2 rfl)
theorem Ev.retg {b : Bool} (hb : b = true) (hs : am_step sc R A = (bif b then some (.inr (.inl v)) else none)) : Ev sc R A v A.2.2.2 := by
  subst hb
  exact Ev.ret hs
theorem Ev.sw {x k : Int32} {t d : Nat} {l : List (Int32 × Nat)} {lv : LV} {st : List Value} {h0 : AH} (k1 : x = k → Ev sc R (t, lv, st, h0) v h) (k2 : ¬ x = k → Ev sc R (am_sel x l d, lv, st, h0) v h) : Ev sc R (am_sel x ((k, t) :: l) d, lv, st, h0) v h := by
  by_cases c : x = k
  · rw [am_sel, if_pos c]
    exact k1 c
  · rw [am_sel, if_neg c]
    exact k2 c
end EVR
/-- pieces of the functions that are printed for methods -/
def am_b {α β : Type} (o : Option (α × AH)) (f : α → AH → Option β) : Option β := match o with
  | some q => f q.1 q.2
  | none => none
def am_v {β : Type} (o : Option AH) (f : AH → Option β) : Option β := match o with
  | some q => f q
  | none => none
def am_o {α β : Type} (o : Option α) (f : α → Option β) : Option β := match o with
  | some q => f q
  | none => none
theorem am_bS {α β : Type} {o : Option (α × AH)} {f : α → AH → Option β} {y : β} (h : am_b o f = some y) : ∃ r h1, o = some (r, h1) ∧ f r h1 = some y := by
  cases o with
  | none => cases h
  | some q => exact ⟨q.1, q.2, rfl, h⟩
theorem am_vS {β : Type} {o : Option AH} {f : AH → Option β} {y : β} (h : am_v o f = some y) : ∃ h1, o = some h1 ∧ f h1 = some y := by
  cases o with
  | none => cases h
  | some q => exact ⟨q, rfl, h⟩
theorem am_oS {α β : Type} {o : Option α} {f : α → Option β} {y : β} (h : am_o o f = some y) : ∃ r, o = some r ∧ f r = some y := by
  cases o with
  | none => cases h
  | some q => exact ⟨q, rfl, h⟩
theorem am_gS {α : Type} {b : Bool} {x : Option α} {y : α} (z : (bif b then x else none) = some y) : b = true ∧ x = some y := by
  cases b with
  | false => cases z
  | true => exact ⟨rfl, z⟩
def am_b01 (x : Int32) : Bool := decide (x = 0) || decide (x = 1)
end
section
/-! more variables, in another order -/
def am_sub : LV → LV → Prop
  | [], _ => True
  | q :: l, lv => am_get lv q.1 = some q.2 ∧ am_sub l lv
def am_has (l : LV) (i : Nat) : Bool := match l with
  | [] => false
  | q :: l => Nat.beq q.1 i || am_has l i
def am_nk : LV → Bool
  | [] => true
  | q :: l => !(am_has l q.1) && am_nk l
def am_le (lv lv' : LV) : Prop := ∀ (i : Nat) (v : Value), am_get lv i = some v → am_get lv' i = some v
theorem am_sub_le : ∀ {lv lv' : LV}, am_sub lv lv' → am_le lv lv'
  | [], _, _ => fun _ _ h => by cases h
  | q :: l, lv', hs => by
    intro i v hv
    unfold am_get at hv
    cases hq : Nat.beq q.1 i with
    | true =>
      rw [hq] at hv
      cases hv
      rw [← Nat.eq_of_beq_eq_true hq]
      exact hs.1
    | false =>
      rw [hq] at hv
      exact am_sub_le hs.2 i v hv
theorem am_has_get : ∀ {l : LV} {i : Nat}, am_has l i = false → am_get l i = none
  | [], _, _ => rfl
  | q :: l, i, h => by
    rw [am_has, Bool.or_eq_false_iff] at h
    rw [am_get, h.1]
    exact am_has_get h.2
theorem am_has_filter {f : Nat × Value → Bool} : ∀ {l : LV} {i : Nat}, am_has l i = false → am_has (l.filter f) i = false
  | [], _, _ => rfl
  | q :: l, i, h => by
    rw [am_has, Bool.or_eq_false_iff] at h
    rw [List.filter_cons]
    split
    · rw [am_has, Bool.or_eq_false_iff]
      exact ⟨h.1, am_has_filter h.2⟩
    · exact am_has_filter h.2
theorem am_nk_filter {f : Nat × Value → Bool} : ∀ {l : LV}, am_nk l = true → am_nk (l.filter f) = true
  | [], _ => rfl
  | q :: l, h => by
    rw [am_nk, Bool.and_eq_true, Bool.not_eq_true'] at h
    rw [List.filter_cons]
    split
    · rw [am_nk, Bool.and_eq_true, Bool.not_eq_true']
      exact ⟨am_has_filter h.1, am_nk_filter h.2⟩
    · exact am_nk_filter h.2
theorem am_get_filter {f : Nat × Value → Bool} : ∀ {l : LV} {i : Nat}, am_nk l = true → am_get (l.filter f) i = (am_get l i).bind (fun v => if f (i, v) = true then some v else none)
  | [], _, _ => rfl
  | (j, w) :: l, i, h => by
    rw [am_nk, Bool.and_eq_true, Bool.not_eq_true'] at h
    rw [List.filter_cons]
    cases hq : Nat.beq j i with
    | true =>
      have hji := Nat.eq_of_beq_eq_true hq
      subst hji
      split
      · rename_i hf
        rw [am_get, am_get, hq]
        show some w = (if f (j, w) = true then some w else none)
        rw [if_pos hf]
      · rename_i hf
        rw [am_get_filter h.2, am_has_get h.1, am_get, hq]
        show none = (if f (j, w) = true then some w else none)
        rw [if_neg hf]
    | false =>
      split
      · rw [am_get, am_get, hq]
        exact am_get_filter h.2
      · rw [am_get, hq]
        exact am_get_filter h.2
theorem am_has_self {f : Nat × Value → Bool} {i : Nat} (hf : ∀ v, f (i, v) = false) : ∀ (l : LV), am_has (l.filter f) i = false
  | [] => rfl
  | (j, w) :: l => by
    rw [List.filter_cons]
    split
    · rename_i hj
      rw [am_has, Bool.or_eq_false_iff]
      refine ⟨?_, am_has_self hf l⟩
      cases hq : Nat.beq j i with
      | true =>
        have hji := Nat.eq_of_beq_eq_true hq
        subst hji
        rw [hf w] at hj
        cases hj
      | false => rfl
    · exact am_has_self hf l
/-- storing keeps it -/
theorem am_le_st {f : Nat × Value → Bool} {i : Nat} {v : Value} {lv lv' : LV} (hf : ∀ v, f (i, v) = false) (hle : am_le lv lv') (h1 : am_nk lv = true) (h2 : am_nk lv' = true) : am_le ((i, v) :: lv.filter f) ((i, v) :: lv'.filter f) ∧ am_nk ((i, v) :: lv.filter f) = true ∧ am_nk ((i, v) :: lv'.filter f) = true := by
  refine ⟨fun j w hw => ?_, ?_, ?_⟩
  · unfold am_get at hw ⊢
    cases hq : Nat.beq i j with
    | true =>
      rw [hq] at hw
      exact hw
    | false =>
      simp only [hq, cond_false] at hw ⊢
      rw [am_get_filter h1] at hw
      rw [am_get_filter h2]
      cases hg : am_get lv j with
      | none => rw [hg] at hw; cases hw
      | some u =>
        rw [hg] at hw
        rw [hle j u hg]
        exact hw
  · rw [am_nk, Bool.and_eq_true, Bool.not_eq_true']
    exact ⟨am_has_self hf lv, am_nk_filter h1⟩
  · rw [am_nk, Bool.and_eq_true, Bool.not_eq_true']
    exact ⟨am_has_self hf lv', am_nk_filter h2⟩
/-- what a step does with more variables -/
def am_rel (lv' : LV) : ACT → ACT → Prop
  | .inl B, .inl B' => B.1 = B'.1 ∧ B.2.2 = B'.2.2 ∧ am_le B.2.1 B'.2.1 ∧ am_nk B.2.1 = true ∧ am_nk B'.2.1 = true
  | .inr a, .inr b => a = b
  | _, _ => False
section AMV
variable {sc : Option (Nat × (Nat → Int32))} {R : MR} {pc : Nat} {lv lv' : LV} {st : List Value} {h : AH} {a : ACT}
theorem am_w_load {pv : Value → Bool} {pc' i : Nat} (hle : am_le lv lv') (h1 : am_nk lv = true) (h2 : am_nk lv' = true) (he : am_load pv pc' lv st h i = some a) : ∃ a', am_load pv pc' lv' st h i = some a' ∧ am_rel lv' a a' := by
  unfold am_load at he ⊢
  split at he
  · rename_i v hv
    obtain ⟨hb, he⟩ := am_bifW he
    cases he
    rw [hle i v hv]
    try dsimp only
    rw [hb]
    exact ⟨_, rfl, rfl, rfl, hle, h1, h2⟩
  · cases he
theorem am_w_store {pv : Value → Bool} {L pc' i : Nat} (hle : am_le lv lv') (h1 : am_nk lv = true) (h2 : am_nk lv' = true) (he : am_store pv L pc' lv st h i = some a) : ∃ a', am_store pv L pc' lv' st h i = some a' ∧ am_rel lv' a a' := by
  unfold am_store at he ⊢
  split at he
  · rename_i v r
    obtain ⟨hb, he⟩ := am_bifW he
    cases he
    try dsimp only
    rw [hb]
    have q := am_le_st (f := fun q => !(q.1 == i) && !(q.1 + 1 == i && q.2.category == 2)) (i := i) (v := v) (fun _ => by simp) hle h1 h2
    exact ⟨_, rfl, rfl, rfl, q⟩
  · cases he
theorem am_w_storeL {L pc' i : Nat} (hle : am_le lv lv') (h1 : am_nk lv = true) (h2 : am_nk lv' = true) (he : am_storeL L pc' lv st h i = some a) : ∃ a', am_storeL L pc' lv' st h i = some a' ∧ am_rel lv' a a' := by
  unfold am_storeL at he ⊢
  split at he
  · rename_i v r
    obtain ⟨hb, he⟩ := am_bifW he
    cases he
    try dsimp only
    rw [hb]
    have q := am_le_st (f := fun q => !(q.1 == i) && (!(q.1 == i + 1) && !(q.1 + 1 == i && q.2.category == 2))) (i := i) (v := v) (fun _ => by simp) hle h1 h2
    exact ⟨_, rfl, rfl, rfl, q⟩
  · cases he
set_option maxHeartbeats 8000000 in
theorem am_w_exec {i : Jvm.ClassFile.Instr} {tg : Nat} {ex : List Nat} {sw : List (Int32 × Nat)} {lg : Int64} (hle : am_le lv lv') (h1 : am_nk lv = true) (h2 : am_nk lv' = true) (he : am_exec sc R pc i tg ex sw lg lv st h = some a) : ∃ a', am_exec sc R pc i tg ex sw lg lv' st h = some a' ∧ am_rel lv' a a' := by
  cases i with
  | iload_n k => exact am_w_load hle h1 h2 he
  | iload k => exact am_w_load hle h1 h2 he
  | lload_n k => exact am_w_load hle h1 h2 he
  | lload k => exact am_w_load hle h1 h2 he
  | aload_n k => exact am_w_load hle h1 h2 he
  | aload k => exact am_w_load hle h1 h2 he
  | istore_n k => exact am_w_store hle h1 h2 he
  | istore k => exact am_w_store hle h1 h2 he
  | astore_n k => exact am_w_store hle h1 h2 he
  | astore k => exact am_w_store hle h1 h2 he
  | lstore_n k => exact am_w_storeL hle h1 h2 he
  | lstore k => exact am_w_storeL hle h1 h2 he
  | iinc z z2 =>
    unfold am_exec at he ⊢
    dsimp only at he ⊢
    split at he
    · rename_i x q sw hg
      obtain ⟨hb, he⟩ := am_bifW he
      cases he
      rw [hle z _ hg]
      try dsimp only
      rw [hb]
      have q := am_le_st (f := fun q => !(q.1 == z) && !(q.1 + 1 == z && q.2.category == 2)) (i := z) (v := .int (x + q.1)) (fun _ => by simp) hle h1 h2
      exact ⟨_, rfl, rfl, rfl, q⟩
    · cases he
  | invokestatic idx =>
    unfold am_exec at he ⊢
    dsimp only at he ⊢
    split at he
    · refine ⟨a, he, ?_⟩
      unfold am_callS at he
      split at he
      · obtain ⟨hb, he⟩ := am_bifW he
        cases he
        exact rfl
      · cases he
    · unfold am_copy at he ⊢
      split at he
      · split at he
        · rename_i g1 g2
          obtain ⟨hb, he⟩ := am_bifW he
          obtain ⟨hc, he⟩ := am_bifW he
          cases he
          try dsimp only
          try rw [g1, g2]
          try dsimp only
          rw [hb, hc]
          exact ⟨_, rfl, rfl, rfl, hle, h1, h2⟩
        · cases he
      · cases he
    · unfold am_mm at he ⊢
      split at he
      · obtain ⟨hb, he⟩ := am_bifW he
        cases he
        try dsimp only
        rw [hb]
        exact ⟨_, rfl, rfl, rfl, hle, h1, h2⟩
      · cases he
    · unfold am_mm at he ⊢
      split at he
      · obtain ⟨hb, he⟩ := am_bifW he
        cases he
        try dsimp only
        rw [hb]
        exact ⟨_, rfl, rfl, rfl, hle, h1, h2⟩
      · cases he
    · cases he
  | invokevirtual idx =>
    replace he : am_callV R idx st = some a := he
    refine ⟨a, he, ?_⟩
    unfold am_callV at he
    split at he
    · split at he
      · obtain ⟨hb, he⟩ := am_bifW he
        cases he
        exact rfl
      · cases he
    · cases he
  | iaload =>
    unfold am_exec at he ⊢
    dsimp only at he ⊢
    split at he
    · split at he
      · rename_i hq
        obtain ⟨hb, he⟩ := am_bifW he
        cases he
        try dsimp only
        try rw [hq]
        try dsimp only
        rw [hb]
        exact ⟨_, rfl, rfl, rfl, hle, h1, h2⟩
      · cases he
    · cases he
  | baload =>
    unfold am_exec at he ⊢
    dsimp only at he ⊢
    split at he
    · split at he
      · rename_i hq
        obtain ⟨hb, he⟩ := am_bifW he
        cases he
        try dsimp only
        try rw [hq]
        try dsimp only
        rw [hb]
        exact ⟨_, rfl, rfl, rfl, hle, h1, h2⟩
      · cases he
    · cases he
  | laload =>
    unfold am_exec at he ⊢
    dsimp only at he ⊢
    split at he
    · split at he
      · rename_i hq
        obtain ⟨hb, he⟩ := am_bifW he
        cases he
        try dsimp only
        try rw [hq]
        try dsimp only
        rw [hb]
        exact ⟨_, rfl, rfl, rfl, hle, h1, h2⟩
      · cases he
    · cases he
  | iastore =>
    unfold am_exec at he ⊢
    dsimp only at he ⊢
    split at he
    · split at he
      · rename_i hq
        obtain ⟨hb, he⟩ := am_bifW he
        cases he
        try dsimp only
        try rw [hq]
        try dsimp only
        rw [hb]
        exact ⟨_, rfl, rfl, rfl, hle, h1, h2⟩
      · cases he
    · cases he
  | bastore =>
    unfold am_exec at he ⊢
    dsimp only at he ⊢
    split at he
    · split at he
      · rename_i hq
        obtain ⟨hb, he⟩ := am_bifW he
        cases he
        try dsimp only
        try rw [hq]
        try dsimp only
        rw [hb]
        exact ⟨_, rfl, rfl, rfl, hle, h1, h2⟩
      · cases he
    · cases he
  | lastore =>
    unfold am_exec at he ⊢
    dsimp only at he ⊢
    split at he
    · split at he
      · rename_i hq
        obtain ⟨hb, he⟩ := am_bifW he
        cases he
        try dsimp only
        try rw [hq]
        try dsimp only
        rw [hb]
        exact ⟨_, rfl, rfl, rfl, hle, h1, h2⟩
      · cases he
    · cases he
  | arraylength =>
    unfold am_exec at he ⊢
    dsimp only at he ⊢
    split at he
    · split at he
      · rename_i hq
        cases he
        try dsimp only
        try rw [hq]
        exact ⟨_, rfl, rfl, rfl, hle, h1, h2⟩
      · cases he
    · cases he
  | getfield z =>
    unfold am_exec at he ⊢
    dsimp only at he ⊢
    split at he
    · split at he
      · rename_i hq
        cases he
        try dsimp only
        try rw [hq]
        exact ⟨_, rfl, rfl, rfl, hle, h1, h2⟩
      · cases he
    · cases he
  | putfield z =>
    unfold am_exec at he ⊢
    dsimp only at he ⊢
    split at he
    · obtain ⟨hb, he⟩ := am_bifW he
      cases he
      try dsimp only
      rw [hb]
      exact ⟨_, rfl, rfl, rfl, hle, h1, h2⟩
    · cases he
  | dup =>
    unfold am_exec at he ⊢
    dsimp only at he ⊢
    split at he
    · obtain ⟨hb, he⟩ := am_bifW he
      cases he
      try dsimp only
      rw [hb]
      exact ⟨_, rfl, rfl, rfl, hle, h1, h2⟩
    · cases he
  | dup2 =>
    unfold am_exec at he ⊢
    dsimp only at he ⊢
    split at he
    · obtain ⟨hb, he⟩ := am_bifW he
      cases he
      try dsimp only
      rw [hb]
      exact ⟨_, rfl, rfl, rfl, hle, h1, h2⟩
    · cases he
  | ireturn =>
    unfold am_exec at he ⊢
    dsimp only at he ⊢
    split at he
    · obtain ⟨hb, he⟩ := am_bifW he
      cases he
      try dsimp only
      rw [hb]
      exact ⟨_, rfl, rfl⟩
    · cases he
  | lreturn =>
    unfold am_exec at he ⊢
    dsimp only at he ⊢
    split at he
    · obtain ⟨hb, he⟩ := am_bifW he
      cases he
      try dsimp only
      rw [hb]
      exact ⟨_, rfl, rfl⟩
    · cases he
  | areturn =>
    unfold am_exec at he ⊢
    dsimp only at he ⊢
    split at he
    · obtain ⟨hb, he⟩ := am_bifW he
      cases he
      try dsimp only
      rw [hb]
      exact ⟨_, rfl, rfl⟩
    · cases he
  | return_ =>
    unfold am_exec at he ⊢
    dsimp only at he ⊢
    split at he
    · obtain ⟨hb, he⟩ := am_bifW he
      cases he
      try dsimp only
      rw [hb]
      exact ⟨_, rfl, rfl⟩
    · cases he
  | idiv =>
    unfold am_exec at he ⊢
    dsimp only at he ⊢
    split at he
    · split at he
      · cases he
      · rename_i hy
        cases he
        try dsimp only
        rw [if_neg hy]
        exact ⟨_, rfl, rfl, rfl, hle, h1, h2⟩
    · cases he
  | irem =>
    unfold am_exec at he ⊢
    dsimp only at he ⊢
    split at he
    · split at he
      · cases he
      · rename_i hy
        cases he
        try dsimp only
        rw [if_neg hy]
        exact ⟨_, rfl, rfl, rfl, hle, h1, h2⟩
    · cases he
  | ldiv =>
    unfold am_exec at he ⊢
    dsimp only at he ⊢
    split at he
    · split at he
      · cases he
      · rename_i hy
        cases he
        try dsimp only
        rw [if_neg hy]
        exact ⟨_, rfl, rfl, rfl, hle, h1, h2⟩
    · cases he
  | lrem =>
    unfold am_exec at he ⊢
    dsimp only at he ⊢
    split at he
    · split at he
      · cases he
      · rename_i hy
        cases he
        try dsimp only
        rw [if_neg hy]
        exact ⟨_, rfl, rfl, rfl, hle, h1, h2⟩
    · cases he
  | _ =>
    first
    | exact (am_no he).elim
    | (unfold am_exec at he ⊢
       dsimp only at he ⊢
       (try unfold am_ii at he ⊢)
       (try unfold am_ll at he ⊢)
       repeat' (first
         | exact (am_no he).elim
         | (cases he; exact ⟨_, rfl, rfl, rfl, hle, h1, h2⟩)
         | (split at he)))
end AMV
/-- the same run with more variables -/
theorem am_run_weak : ∀ (n : Nat) (sc : Option (Nat × (Nat → Int32))) (R : MR) (pc : Nat) (lv lv' : LV) (st : List Value) (h : AH) (o : Option Value × AH), am_le lv lv' → am_nk lv = true → am_nk lv' = true → am_run n sc R (pc, lv, st, h) = some o → am_run n sc R (pc, lv', st, h) = some o
  | 0, _, _, _, _, _, _, _, _, _, _, _, hr => by cases hr
  | n + 1, sc, R, pc, lv, lv', st, h, o, hle, h1, h2, hr => by
    have key : ∀ a, am_step sc R (pc, lv, st, h) = some a → ∃ a', am_step sc R (pc, lv', st, h) = some a' ∧ am_rel lv' a a' := by
      intro a ha
      unfold am_step at ha ⊢
      dsimp only at ha ⊢
      cases hq : am_row (mr_c R) pc with
      | none => rw [hq] at ha; cases ha
      | some q =>
        rw [hq] at ha
        exact am_w_exec hle h1 h2 ha
    rw [am_run] at hr ⊢
    split at hr
    · rename_i B hB
      obtain ⟨a', g1, g2⟩ := key _ hB
      rw [g1]
      cases a' with
      | inl B' =>
        obtain ⟨e1, e2, e3, e4, e5⟩ := g2
        obtain ⟨b1, b2, b3, b4⟩ := B
        obtain ⟨c1, c2, c3, c4⟩ := B'
        dsimp only at e1 e2 e3 e4 e5
        subst e1
        cases e2
        exact am_run_weak n sc R _ _ _ _ _ o e3 e4 e5 hr
      | inr _ => exact g2.elim
    · rename_i v hB
      obtain ⟨a', g1, g2⟩ := key _ hB
      rw [g1]
      cases a' with
      | inl _ => exact g2.elim
      | inr b =>
        have g2 : Sum.inl v = b := g2
        subst g2
        exact hr
    · rename_i q hB
      obtain ⟨a', g1, g2⟩ := key _ hB
      rw [g1]
      cases a' with
      | inl _ => exact g2.elim
      | inr b =>
        have g2 : Sum.inr q = b := g2
        subst g2
        dsimp only at hr ⊢
        split at hr
        · rename_i w hw
          try rw [hw]
          exact am_run_weak n sc R _ _ _ _ _ o hle h1 h2 hr
        · cases hr
    · cases hr
theorem Ev.lv {sc : Option (Nat × (Nat → Int32))} {R : MR} {pc : Nat} {lv lv' : LV} {st : List Value} {h h' : AH} {v : Option Value} (hs : am_sub lv lv') (h1 : am_nk lv = true) (h2 : am_nk lv' = true) (k : Ev sc R (pc, lv, st, h) v h') : Ev sc R (pc, lv', st, h) v h' := by
  obtain ⟨n, hn⟩ := k
  exact ⟨n, am_run_weak n sc R pc lv lv' st h _ (am_sub_le hs) h1 h2 hn⟩
end
section
/-! the functions of the methods, and that the machine runs so: printed by program -/
def am_lna (a : Nat) : Nat := match am_shp[a]? with
  | some (.inl q) => q.2
  | _ => 0
def pl_f (r : Nat) : Nat := if r = 21 then 2 else 40
def pl_g (r : Nat) : Nat := if r = 21 then 8 else 44
def pl_e (r : Nat) : Nat := if r = 21 then 13 else 48
def tx_s (r : Nat) : Nat := if r = 1 then 200 else 201
theorem am_nzS {α : Type} {y : Int64} {x : Option α} {z : α} (h : (if y = 0 then none else x) = some z) : ¬ y = 0 ∧ x = some z := by
  by_cases c : y = 0
  · rw [if_pos c] at h
    cases h
  · rw [if_neg c] at h
    exact ⟨c, h⟩
theorem Ev.nz {sc : Option (Nat × (Nat → Int32))} {R : MR} {A B : AS} {v : Option Value} {h : AH} {y : Int64} (hy : ¬ y = 0) (hs : am_step sc R A = (if y = 0 then none else some (.inl B))) (k : Ev sc R B v h) : Ev sc R A v h := by
  rw [if_neg hy] at hs
  exact Ev.step hs k
theorem E_X8_textAt_1 (x : Int32) (h : AH) (c0 : x = 0) : Ev none mr_X8_textAt (0, [(0, .ref 0), (1, .int x)], [], h) (some (.ref 1)) h := by
  refine Ev.steps (B := (1, [(0, .ref 0), (1, .int x)], [.int x], h)) 1 rfl ?_
  refine Ev.step (B := (am_sel x [(0, 28), (1, 33)] 38, [(0, .ref 0), (1, .int x)], [], h)) rfl ?_
  refine Ev.sw (fun _ => ?_) (fun c => absurd c0 c)
  refine Ev.steps (B := (32, [(0, .ref 0), (1, .int x)], [.ref 1], h)) 2 rfl ?_
  exact Ev.ret rfl
theorem E_X8_textAt_7 (x : Int32) (h : AH) (c0 : x = 1) : Ev none mr_X8_textAt (0, [(0, .ref 0), (1, .int x)], [], h) (some (.ref 7)) h := by
  refine Ev.steps (B := (1, [(0, .ref 0), (1, .int x)], [.int x], h)) 1 rfl ?_
  refine Ev.step (B := (am_sel x [(0, 28), (1, 33)] 38, [(0, .ref 0), (1, .int x)], [], h)) rfl ?_
  refine Ev.sw (fun c => absurd (c.symm.trans c0) (by decide)) (fun _ => ?_)
  refine Ev.sw (fun _ => ?_) (fun c => absurd c0 c)
  refine Ev.steps (B := (37, [(0, .ref 0), (1, .int x)], [.ref 7], h)) 2 rfl ?_
  exact Ev.ret rfl
theorem E_X8_textAt_d (x : Int32) (h : AH) (c0 : ¬ x = 0) (c1 : ¬ x = 1) : Ev none mr_X8_textAt (0, [(0, .ref 0), (1, .int x)], [], h) (some .null) h := by
  refine Ev.steps (B := (1, [(0, .ref 0), (1, .int x)], [.int x], h)) 1 rfl ?_
  refine Ev.step (B := (am_sel x [(0, 28), (1, 33)] 38, [(0, .ref 0), (1, .int x)], [], h)) rfl ?_
  refine Ev.sw (fun c => absurd c c0) (fun _ => ?_)
  refine Ev.sw (fun c => absurd c c1) (fun _ => ?_)
  refine Ev.steps (B := (39, [(0, .ref 0), (1, .int x)], [.null], h)) 1 rfl ?_
  exact Ev.ret rfl
theorem E_X8_sheetAt_67 (x : Int32) (h : AH) (c0 : x = 0) : Ev none mr_X8_sheetAt (0, [(0, .ref 0), (1, .int x)], [], h) (some (.ref 67)) h := by
  refine Ev.steps (B := (1, [(0, .ref 0), (1, .int x)], [.int x], h)) 1 rfl ?_
  refine Ev.step (B := (am_sel x [(0, 32), (1, 37), (2, 42), (3, 47)] 52, [(0, .ref 0), (1, .int x)], [], h)) rfl ?_
  refine Ev.sw (fun _ => ?_) (fun c => absurd c0 c)
  refine Ev.steps (B := (36, [(0, .ref 0), (1, .int x)], [.ref 67], h)) 2 rfl ?_
  exact Ev.ret rfl
theorem E_X8_sheetAt_69 (x : Int32) (h : AH) (c0 : x = 1) : Ev none mr_X8_sheetAt (0, [(0, .ref 0), (1, .int x)], [], h) (some (.ref 69)) h := by
  refine Ev.steps (B := (1, [(0, .ref 0), (1, .int x)], [.int x], h)) 1 rfl ?_
  refine Ev.step (B := (am_sel x [(0, 32), (1, 37), (2, 42), (3, 47)] 52, [(0, .ref 0), (1, .int x)], [], h)) rfl ?_
  refine Ev.sw (fun c => absurd (c.symm.trans c0) (by decide)) (fun _ => ?_)
  refine Ev.sw (fun _ => ?_) (fun c => absurd c0 c)
  refine Ev.steps (B := (41, [(0, .ref 0), (1, .int x)], [.ref 69], h)) 2 rfl ?_
  exact Ev.ret rfl
theorem E_X8_sheetAt_71 (x : Int32) (h : AH) (c0 : x = 2) : Ev none mr_X8_sheetAt (0, [(0, .ref 0), (1, .int x)], [], h) (some (.ref 71)) h := by
  refine Ev.steps (B := (1, [(0, .ref 0), (1, .int x)], [.int x], h)) 1 rfl ?_
  refine Ev.step (B := (am_sel x [(0, 32), (1, 37), (2, 42), (3, 47)] 52, [(0, .ref 0), (1, .int x)], [], h)) rfl ?_
  refine Ev.sw (fun c => absurd (c.symm.trans c0) (by decide)) (fun _ => ?_)
  refine Ev.sw (fun c => absurd (c.symm.trans c0) (by decide)) (fun _ => ?_)
  refine Ev.sw (fun _ => ?_) (fun c => absurd c0 c)
  refine Ev.steps (B := (46, [(0, .ref 0), (1, .int x)], [.ref 71], h)) 2 rfl ?_
  exact Ev.ret rfl
theorem E_X8_sheetAt_73 (x : Int32) (h : AH) (c0 : x = 3) : Ev none mr_X8_sheetAt (0, [(0, .ref 0), (1, .int x)], [], h) (some (.ref 73)) h := by
  refine Ev.steps (B := (1, [(0, .ref 0), (1, .int x)], [.int x], h)) 1 rfl ?_
  refine Ev.step (B := (am_sel x [(0, 32), (1, 37), (2, 42), (3, 47)] 52, [(0, .ref 0), (1, .int x)], [], h)) rfl ?_
  refine Ev.sw (fun c => absurd (c.symm.trans c0) (by decide)) (fun _ => ?_)
  refine Ev.sw (fun c => absurd (c.symm.trans c0) (by decide)) (fun _ => ?_)
  refine Ev.sw (fun c => absurd (c.symm.trans c0) (by decide)) (fun _ => ?_)
  refine Ev.sw (fun _ => ?_) (fun c => absurd c0 c)
  refine Ev.steps (B := (51, [(0, .ref 0), (1, .int x)], [.ref 73], h)) 2 rfl ?_
  exact Ev.ret rfl
theorem E_X8_sheetAt_d (x : Int32) (h : AH) (c0 : ¬ x = 0) (c1 : ¬ x = 1) (c2 : ¬ x = 2) (c3 : ¬ x = 3) : Ev none mr_X8_sheetAt (0, [(0, .ref 0), (1, .int x)], [], h) (some .null) h := by
  refine Ev.steps (B := (1, [(0, .ref 0), (1, .int x)], [.int x], h)) 1 rfl ?_
  refine Ev.step (B := (am_sel x [(0, 32), (1, 37), (2, 42), (3, 47)] 52, [(0, .ref 0), (1, .int x)], [], h)) rfl ?_
  refine Ev.sw (fun c => absurd c c0) (fun _ => ?_)
  refine Ev.sw (fun c => absurd c c1) (fun _ => ?_)
  refine Ev.sw (fun c => absurd c c2) (fun _ => ?_)
  refine Ev.sw (fun c => absurd c c3) (fun _ => ?_)
  refine Ev.steps (B := (53, [(0, .ref 0), (1, .int x)], [.null], h)) 1 rfl ?_
  exact Ev.ret rfl
def M_J11_canEncode (a1 : Int32) : Int32 :=
  if a1 < 0 then
    0
  else
    if 255 < a1 then
      0
    else
      1
theorem E_J11_canEncode (a1 : Int32) (h : AH) : Ev none mr_J11_canEncode (0, [(0, .int a1)], [], h) (some (.int (M_J11_canEncode a1))) h := by
  unfold M_J11_canEncode
  refine Ev.steps (B := (1, [(0, .int a1)], [.int a1], h)) 1 rfl ?_
  refine Ev.br (b := decide (a1 < 0)) rfl (fun c1 => ?_) (fun c1 => ?_)
  · have c1 := of_decide_eq_true c1
    rw [if_pos c1]
    refine Ev.steps (B := (16, [(0, .int a1)], [.int 0], h)) 1 rfl ?_
    exact Ev.ret rfl
  · have c1 := of_decide_eq_false c1
    rw [if_neg c1]
    refine Ev.steps (B := (8, [(0, .int a1)], [.int 255, .int a1], h)) 2 rfl ?_
    refine Ev.br (b := decide (255 < a1)) rfl (fun c2 => ?_) (fun c2 => ?_)
    · have c2 := of_decide_eq_true c2
      rw [if_pos c2]
      refine Ev.steps (B := (16, [(0, .int a1)], [.int 0], h)) 1 rfl ?_
      exact Ev.ret rfl
    · have c2 := of_decide_eq_false c2
      rw [if_neg c2]
      refine Ev.steps (B := (16, [(0, .int a1)], [.int 1], h)) 2 rfl ?_
      exact Ev.ret rfl
theorem Z_J11_canEncode (a1 : Int32) : am_b01 (M_J11_canEncode a1) = true := by
  unfold M_J11_canEncode
  split
  · rfl
  · split
    · rfl
    · rfl
def kc_200 (c : Int32) : Int32 := if 107 = (Int32.toInt8 c).toInt32 then 0 else if 98 = (Int32.toInt8 c).toInt32 then 1 else if 99 = (Int32.toInt8 c).toInt32 then 2 else (-1)
def kc_201 (c : Int32) : Int32 := if 119 = (Int32.toInt8 c).toInt32 then 0 else if 100 = (Int32.toInt8 c).toInt32 then 1 else (-1)
def kx (s : Nat) (c : Int32) : Int32 := if M_J11_canEncode c = 0 then (-1) else if s = 200 then kc_200 c else kc_201 c
theorem E_isLatin1_200 (h : AH) : Ev none mr_J10_isLatin1 (0, [(0, .ref 200)], [], h) (some (.int 1)) h := by
  refine Ev.steps (B := (18, [(0, .ref 200)], [.int 1], h)) 7 rfl ?_
  exact Ev.ret rfl
theorem E_coder_200 (h : AH) : Ev none mr_J10_coder (0, [(0, .ref 200)], [], h) (some (.int 0)) h := by
  refine Ev.steps (B := (14, [(0, .ref 200)], [.int 0], h)) 5 rfl ?_
  exact Ev.ret rfl
theorem E_length_200 (h : AH) : Ev none mr_J10_length (0, [(0, .ref 200)], [], h) (some (.int 3)) h := by
  refine Ev.steps (B := (6, [(0, .ref 200)], [.ref 200, .int 3], h)) 4 rfl ?_
  refine Ev.call (q := (mr_J10_coder, [.ref 200], [.int 3])) rfl (E_coder_200 h) ?_
  refine Ev.steps (B := (10, [(0, .ref 200)], [.int 3], h)) 1 rfl ?_
  exact Ev.ret rfl
theorem E_indexOfChar_200 (c : Int32) (h : AH) : Ev none mr_J11_indexOfChar (0, [(0, .ref 204), (1, .int c), (2, .int 0), (3, .int 3)], [], h) (some (.int (kc_200 c))) h := by
  unfold kc_200
  refine Ev.steps (B := (19, [(5, .int 0), (4, .int (Int32.toInt8 c).toInt32), (0, .ref 204), (1, .int c), (2, .int 0), (3, .int 3)], [.int (Int32.toInt8 c).toInt32, .int 107], h)) 12 rfl ?_
  refine Ev.br (b := decide (¬ 107 = (Int32.toInt8 c).toInt32)) rfl (fun q => ?_) (fun q => ?_)
  case refine_2 =>
    rw [if_pos (Decidable.of_not_not (of_decide_eq_false q))]
    refine Ev.steps (B := (24, [(5, .int 0), (4, .int (Int32.toInt8 c).toInt32), (0, .ref 204), (1, .int c), (2, .int 0), (3, .int 3)], [.int 0], h)) 1 rfl ?_
    exact Ev.ret rfl
  case refine_1 =>
    rw [if_neg (of_decide_eq_true q)]
    refine Ev.steps (B := (19, [(5, .int 1), (4, .int (Int32.toInt8 c).toInt32), (0, .ref 204), (1, .int c), (2, .int 0), (3, .int 3)], [.int (Int32.toInt8 c).toInt32, .int 98], h)) 9 rfl ?_
    refine Ev.br (b := decide (¬ 98 = (Int32.toInt8 c).toInt32)) rfl (fun q => ?_) (fun q => ?_)
    case refine_2 =>
      rw [if_pos (Decidable.of_not_not (of_decide_eq_false q))]
      refine Ev.steps (B := (24, [(5, .int 1), (4, .int (Int32.toInt8 c).toInt32), (0, .ref 204), (1, .int c), (2, .int 0), (3, .int 3)], [.int 1], h)) 1 rfl ?_
      exact Ev.ret rfl
    case refine_1 =>
      rw [if_neg (of_decide_eq_true q)]
      refine Ev.steps (B := (19, [(5, .int 2), (4, .int (Int32.toInt8 c).toInt32), (0, .ref 204), (1, .int c), (2, .int 0), (3, .int 3)], [.int (Int32.toInt8 c).toInt32, .int 99], h)) 9 rfl ?_
      refine Ev.br (b := decide (¬ 99 = (Int32.toInt8 c).toInt32)) rfl (fun q => ?_) (fun q => ?_)
      case refine_2 =>
        rw [if_pos (Decidable.of_not_not (of_decide_eq_false q))]
        refine Ev.steps (B := (24, [(5, .int 2), (4, .int (Int32.toInt8 c).toInt32), (0, .ref 204), (1, .int c), (2, .int 0), (3, .int 3)], [.int 2], h)) 1 rfl ?_
        exact Ev.ret rfl
      case refine_1 =>
        rw [if_neg (of_decide_eq_true q)]
        refine Ev.steps (B := (32, [(5, .int 3), (4, .int (Int32.toInt8 c).toInt32), (0, .ref 204), (1, .int c), (2, .int 0), (3, .int 3)], [.int (-1)], h)) 6 rfl ?_
        exact Ev.ret rfl
theorem E_L1_200 (c : Int32) (h : AH) : Ev none mr_J11_indexOf (0, [(0, .ref 204), (1, .int c), (2, .int 0), (3, .int 3)], [], h) (some (.int (kx 200 c))) h := by
  unfold kx
  refine Ev.steps (B := (1, [(0, .ref 204), (1, .int c), (2, .int 0), (3, .int 3)], [.int c], h)) 1 rfl ?_
  refine Ev.call (q := (mr_J11_canEncode, [.int c], [])) rfl (E_J11_canEncode c h) ?_
  refine Ev.br (b := decide (¬ M_J11_canEncode c = 0)) rfl (fun q => ?_) (fun q => ?_)
  · rw [if_neg (of_decide_eq_true q)]
    refine Ev.steps (B := (33, [(3, .int 3), (2, .int 0), (0, .ref 204), (1, .int c)], [.int 3, .int 0, .int c, .ref 204], h)) 16 rfl ?_
    refine Ev.call (q := (mr_J11_indexOfChar, [.ref 204, .int c, .int 0, .int 3], [])) rfl (E_indexOfChar_200 c h) ?_
    exact Ev.ret rfl
  · rw [if_pos (Decidable.of_not_not (of_decide_eq_false q))]
    refine Ev.steps (B := (8, [(0, .ref 204), (1, .int c), (2, .int 0), (3, .int 3)], [.int (-1)], h)) 1 rfl ?_
    exact Ev.ret rfl
theorem E_IO2_200 (c : Int32) (h : AH) : Ev none mr_J10_indexOf_2 (0, [(0, .ref 200), (1, .int c), (2, .int 0)], [], h) (some (.int (kx 200 c))) h := by
  refine Ev.steps (B := (1, [(0, .ref 200), (1, .int c), (2, .int 0)], [.ref 200], h)) 1 rfl ?_
  refine Ev.call (q := (mr_J10_isLatin1, [.ref 200], [])) rfl (E_isLatin1_200 h) ?_
  refine Ev.steps (B := (14, [(0, .ref 200), (1, .int c), (2, .int 0)], [.ref 200, .int 0, .int c, .ref 204], h)) 6 rfl ?_
  refine Ev.call (q := (mr_J10_length, [.ref 200], [.int 0, .int c, .ref 204])) rfl (E_length_200 h) ?_
  refine Ev.call (q := (mr_J11_indexOf, [.ref 204, .int c, .int 0, .int 3], [])) rfl (E_L1_200 c h) ?_
  refine Ev.steps (B := (36, [(0, .ref 200), (1, .int c), (2, .int 0)], [.int (kx 200 c)], h)) 1 rfl ?_
  exact Ev.ret rfl
theorem E_indexOf_200 (c : Int32) (h : AH) : Ev none mr_J10_indexOf_1 (0, [(0, .ref 200), (1, .int c)], [], h) (some (.int (kx 200 c))) h := by
  refine Ev.steps (B := (3, [(0, .ref 200), (1, .int c)], [.int 0, .int c, .ref 200], h)) 3 rfl ?_
  refine Ev.call (q := (mr_J10_indexOf_2, [.ref 200, .int c, .int 0], [])) rfl (E_IO2_200 c h) ?_
  exact Ev.ret rfl
theorem E_isLatin1_201 (h : AH) : Ev none mr_J10_isLatin1 (0, [(0, .ref 201)], [], h) (some (.int 1)) h := by
  refine Ev.steps (B := (18, [(0, .ref 201)], [.int 1], h)) 7 rfl ?_
  exact Ev.ret rfl
theorem E_coder_201 (h : AH) : Ev none mr_J10_coder (0, [(0, .ref 201)], [], h) (some (.int 0)) h := by
  refine Ev.steps (B := (14, [(0, .ref 201)], [.int 0], h)) 5 rfl ?_
  exact Ev.ret rfl
theorem E_length_201 (h : AH) : Ev none mr_J10_length (0, [(0, .ref 201)], [], h) (some (.int 2)) h := by
  refine Ev.steps (B := (6, [(0, .ref 201)], [.ref 201, .int 2], h)) 4 rfl ?_
  refine Ev.call (q := (mr_J10_coder, [.ref 201], [.int 2])) rfl (E_coder_201 h) ?_
  refine Ev.steps (B := (10, [(0, .ref 201)], [.int 2], h)) 1 rfl ?_
  exact Ev.ret rfl
theorem E_indexOfChar_201 (c : Int32) (h : AH) : Ev none mr_J11_indexOfChar (0, [(0, .ref 205), (1, .int c), (2, .int 0), (3, .int 2)], [], h) (some (.int (kc_201 c))) h := by
  unfold kc_201
  refine Ev.steps (B := (19, [(5, .int 0), (4, .int (Int32.toInt8 c).toInt32), (0, .ref 205), (1, .int c), (2, .int 0), (3, .int 2)], [.int (Int32.toInt8 c).toInt32, .int 119], h)) 12 rfl ?_
  refine Ev.br (b := decide (¬ 119 = (Int32.toInt8 c).toInt32)) rfl (fun q => ?_) (fun q => ?_)
  case refine_2 =>
    rw [if_pos (Decidable.of_not_not (of_decide_eq_false q))]
    refine Ev.steps (B := (24, [(5, .int 0), (4, .int (Int32.toInt8 c).toInt32), (0, .ref 205), (1, .int c), (2, .int 0), (3, .int 2)], [.int 0], h)) 1 rfl ?_
    exact Ev.ret rfl
  case refine_1 =>
    rw [if_neg (of_decide_eq_true q)]
    refine Ev.steps (B := (19, [(5, .int 1), (4, .int (Int32.toInt8 c).toInt32), (0, .ref 205), (1, .int c), (2, .int 0), (3, .int 2)], [.int (Int32.toInt8 c).toInt32, .int 100], h)) 9 rfl ?_
    refine Ev.br (b := decide (¬ 100 = (Int32.toInt8 c).toInt32)) rfl (fun q => ?_) (fun q => ?_)
    case refine_2 =>
      rw [if_pos (Decidable.of_not_not (of_decide_eq_false q))]
      refine Ev.steps (B := (24, [(5, .int 1), (4, .int (Int32.toInt8 c).toInt32), (0, .ref 205), (1, .int c), (2, .int 0), (3, .int 2)], [.int 1], h)) 1 rfl ?_
      exact Ev.ret rfl
    case refine_1 =>
      rw [if_neg (of_decide_eq_true q)]
      refine Ev.steps (B := (32, [(5, .int 2), (4, .int (Int32.toInt8 c).toInt32), (0, .ref 205), (1, .int c), (2, .int 0), (3, .int 2)], [.int (-1)], h)) 6 rfl ?_
      exact Ev.ret rfl
theorem E_L1_201 (c : Int32) (h : AH) : Ev none mr_J11_indexOf (0, [(0, .ref 205), (1, .int c), (2, .int 0), (3, .int 2)], [], h) (some (.int (kx 201 c))) h := by
  unfold kx
  refine Ev.steps (B := (1, [(0, .ref 205), (1, .int c), (2, .int 0), (3, .int 2)], [.int c], h)) 1 rfl ?_
  refine Ev.call (q := (mr_J11_canEncode, [.int c], [])) rfl (E_J11_canEncode c h) ?_
  refine Ev.br (b := decide (¬ M_J11_canEncode c = 0)) rfl (fun q => ?_) (fun q => ?_)
  · rw [if_neg (of_decide_eq_true q)]
    refine Ev.steps (B := (33, [(3, .int 2), (2, .int 0), (0, .ref 205), (1, .int c)], [.int 2, .int 0, .int c, .ref 205], h)) 16 rfl ?_
    refine Ev.call (q := (mr_J11_indexOfChar, [.ref 205, .int c, .int 0, .int 2], [])) rfl (E_indexOfChar_201 c h) ?_
    exact Ev.ret rfl
  · rw [if_pos (Decidable.of_not_not (of_decide_eq_false q))]
    refine Ev.steps (B := (8, [(0, .ref 205), (1, .int c), (2, .int 0), (3, .int 2)], [.int (-1)], h)) 1 rfl ?_
    exact Ev.ret rfl
theorem E_IO2_201 (c : Int32) (h : AH) : Ev none mr_J10_indexOf_2 (0, [(0, .ref 201), (1, .int c), (2, .int 0)], [], h) (some (.int (kx 201 c))) h := by
  refine Ev.steps (B := (1, [(0, .ref 201), (1, .int c), (2, .int 0)], [.ref 201], h)) 1 rfl ?_
  refine Ev.call (q := (mr_J10_isLatin1, [.ref 201], [])) rfl (E_isLatin1_201 h) ?_
  refine Ev.steps (B := (14, [(0, .ref 201), (1, .int c), (2, .int 0)], [.ref 201, .int 0, .int c, .ref 205], h)) 6 rfl ?_
  refine Ev.call (q := (mr_J10_length, [.ref 201], [.int 0, .int c, .ref 205])) rfl (E_length_201 h) ?_
  refine Ev.call (q := (mr_J11_indexOf, [.ref 205, .int c, .int 0, .int 2], [])) rfl (E_L1_201 c h) ?_
  refine Ev.steps (B := (36, [(0, .ref 201), (1, .int c), (2, .int 0)], [.int (kx 201 c)], h)) 1 rfl ?_
  exact Ev.ret rfl
theorem E_indexOf_201 (c : Int32) (h : AH) : Ev none mr_J10_indexOf_1 (0, [(0, .ref 201), (1, .int c)], [], h) (some (.int (kx 201 c))) h := by
  refine Ev.steps (B := (3, [(0, .ref 201), (1, .int c)], [.int 0, .int c, .ref 201], h)) 3 rfl ?_
  refine Ev.call (q := (mr_J10_indexOf_2, [.ref 201, .int c, .int 0], [])) rfl (E_IO2_201 c h) ?_
  exact Ev.ret rfl
end
section
def M_X8_within (a1 : Int32) (a2 : Int32) : Int32 :=
  if a1 < 0 then
    0
  else
    if a2 < a1 then
      0
    else
      1
set_option maxRecDepth 10000 in
theorem E_X8_within (a1 : Int32) (a2 : Int32) (h : AH) : Ev none mr_X8_within (0, [(0, .int a1), (1, .int a2)], [], h) (some (.int (M_X8_within a1 a2))) h := by
  unfold M_X8_within
  refine Ev.steps (B := (1, [(0, .int a1), (1, .int a2)], [.int a1], h)) 1 rfl ?_
  refine Ev.br (b := decide (a1 < 0)) rfl (fun c1 => ?_) (fun c1 => ?_)
  · have c1 := of_decide_eq_true c1
    rw [if_pos c1]
    refine Ev.steps (B := (14, [(0, .int a1), (1, .int a2)], [.int 0], h)) 1 rfl ?_
    exact Ev.ret rfl
  · have c1 := of_decide_eq_false c1
    rw [if_neg c1]
    refine Ev.steps (B := (6, [(0, .int a1), (1, .int a2)], [.int a2, .int a1], h)) 2 rfl ?_
    refine Ev.br (b := decide (a2 < a1)) rfl (fun c2 => ?_) (fun c2 => ?_)
    · have c2 := of_decide_eq_true c2
      rw [if_pos c2]
      refine Ev.steps (B := (14, [(0, .int a1), (1, .int a2)], [.int 0], h)) 1 rfl ?_
      exact Ev.ret rfl
    · have c2 := of_decide_eq_false c2
      rw [if_neg c2]
      refine Ev.steps (B := (14, [(0, .int a1), (1, .int a2)], [.int 1], h)) 2 rfl ?_
      exact Ev.ret rfl
set_option maxRecDepth 10000 in
theorem Z_X8_within (a1 : Int32) (a2 : Int32) : am_b01 (M_X8_within a1 a2) = true := by
  unfold M_X8_within
  split
  · rfl
  · split
    · rfl
    · rfl
def M_X6_fits (r0 : Nat) (a1 : Int32) (a2 : Int32) (h : AH) : Int32 :=
  if a1 = 0 then
    if 8 ≤ (h.1 (r0 + 1) 3) then
      0
    else
      if a2 < 97 then
        0
      else
        if 120 < a2 then
          0
        else
          1
  else
  if a1 = 1 then
    if (kx (tx_s r0) ((Int32.toUInt32 a2 % 65536).toInt32)) < 0 then
      0
    else
      1
  else
  if a1 = 2 then
    if a2 < 49 then
      0
    else
      if (48 + (h.1 r0 3)) < a2 then
        0
      else
        1
  else
    if a2 = 59 then
      1
    else
      0
set_option maxRecDepth 10000 in
theorem E_X6_fits_1 (a1 : Int32) (a2 : Int32) (h : AH) : Ev none mr_X6_fits (0, [(0, .ref 1), (1, .int a1), (2, .int a2)], [], h) (some (.int (M_X6_fits 1 a1 a2 h))) h := by
  unfold M_X6_fits
  refine Ev.steps (B := (1, [(0, .ref 1), (1, .int a1), (2, .int a2)], [.int a1], h)) 1 rfl ?_
  refine Ev.step (B := (am_sel a1 [(0, 28), (1, 58), (2, 76)] 99, [(0, .ref 1), (1, .int a1), (2, .int a2)], [], h)) rfl ?_
  refine Ev.sw (fun c1 => ?_) (fun c1 => ?_)
  · rw [if_pos c1]
    refine Ev.steps (B := (37, [(0, .ref 1), (1, .int a1), (2, .int a2)], [.int 8, .int (h.1 (1 + 1) 3)], h)) 4 rfl ?_
    refine Ev.br (b := decide (8 ≤ (h.1 (1 + 1) 3))) rfl (fun c2 => ?_) (fun c2 => ?_)
    · have c2 := of_decide_eq_true c2
      rw [if_pos c2]
      refine Ev.steps (B := (57, [(0, .ref 1), (1, .int a1), (2, .int a2)], [.int 0], h)) 1 rfl ?_
      exact Ev.ret rfl
    · have c2 := of_decide_eq_false c2
      rw [if_neg c2]
      refine Ev.steps (B := (43, [(0, .ref 1), (1, .int a1), (2, .int a2)], [.int 97, .int a2], h)) 2 rfl ?_
      refine Ev.br (b := decide (a2 < 97)) rfl (fun c3 => ?_) (fun c3 => ?_)
      · have c3 := of_decide_eq_true c3
        rw [if_pos c3]
        refine Ev.steps (B := (57, [(0, .ref 1), (1, .int a1), (2, .int a2)], [.int 0], h)) 1 rfl ?_
        exact Ev.ret rfl
      · have c3 := of_decide_eq_false c3
        rw [if_neg c3]
        refine Ev.steps (B := (49, [(0, .ref 1), (1, .int a1), (2, .int a2)], [.int 120, .int a2], h)) 2 rfl ?_
        refine Ev.br (b := decide (120 < a2)) rfl (fun c4 => ?_) (fun c4 => ?_)
        · have c4 := of_decide_eq_true c4
          rw [if_pos c4]
          refine Ev.steps (B := (57, [(0, .ref 1), (1, .int a1), (2, .int a2)], [.int 0], h)) 1 rfl ?_
          exact Ev.ret rfl
        · have c4 := of_decide_eq_false c4
          rw [if_neg c4]
          refine Ev.steps (B := (57, [(0, .ref 1), (1, .int a1), (2, .int a2)], [.int 1], h)) 2 rfl ?_
          exact Ev.ret rfl
  · rw [if_neg c1]
    refine Ev.sw (fun c5 => ?_) (fun c5 => ?_)
    · rw [if_pos c5]
      refine Ev.steps (B := (64, [(0, .ref 1), (1, .int a1), (2, .int a2)], [.int ((Int32.toUInt32 a2 % 65536).toInt32), .ref (tx_s 1)], h)) 4 rfl ?_
      refine Ev.call (q := (mr_J10_indexOf_1, [.ref (tx_s 1), .int ((Int32.toUInt32 a2 % 65536).toInt32)], [])) rfl (E_indexOf_200 ((Int32.toUInt32 a2 % 65536).toInt32) h) ?_
      refine Ev.br (b := decide ((kx (tx_s 1) ((Int32.toUInt32 a2 % 65536).toInt32)) < 0)) rfl (fun c6 => ?_) (fun c6 => ?_)
      · have c6 := of_decide_eq_true c6
        rw [if_pos c6]
        refine Ev.steps (B := (75, [(0, .ref 1), (1, .int a1), (2, .int a2)], [.int 0], h)) 1 rfl ?_
        exact Ev.ret rfl
      · have c6 := of_decide_eq_false c6
        rw [if_neg c6]
        refine Ev.steps (B := (75, [(0, .ref 1), (1, .int a1), (2, .int a2)], [.int 1], h)) 2 rfl ?_
        exact Ev.ret rfl
    · rw [if_neg c5]
      refine Ev.sw (fun c7 => ?_) (fun c7 => ?_)
      · rw [if_pos c7]
        refine Ev.steps (B := (79, [(0, .ref 1), (1, .int a1), (2, .int a2)], [.int 49, .int a2], h)) 2 rfl ?_
        refine Ev.br (b := decide (a2 < 49)) rfl (fun c8 => ?_) (fun c8 => ?_)
        · have c8 := of_decide_eq_true c8
          rw [if_pos c8]
          refine Ev.steps (B := (98, [(0, .ref 1), (1, .int a1), (2, .int a2)], [.int 0], h)) 1 rfl ?_
          exact Ev.ret rfl
        · have c8 := of_decide_eq_false c8
          rw [if_neg c8]
          refine Ev.steps (B := (90, [(0, .ref 1), (1, .int a1), (2, .int a2)], [.int (48 + (h.1 1 3)), .int a2], h)) 5 rfl ?_
          refine Ev.br (b := decide ((48 + (h.1 1 3)) < a2)) rfl (fun c9 => ?_) (fun c9 => ?_)
          · have c9 := of_decide_eq_true c9
            rw [if_pos c9]
            refine Ev.steps (B := (98, [(0, .ref 1), (1, .int a1), (2, .int a2)], [.int 0], h)) 1 rfl ?_
            exact Ev.ret rfl
          · have c9 := of_decide_eq_false c9
            rw [if_neg c9]
            refine Ev.steps (B := (98, [(0, .ref 1), (1, .int a1), (2, .int a2)], [.int 1], h)) 2 rfl ?_
            exact Ev.ret rfl
      · rw [if_neg c7]
        refine Ev.steps (B := (102, [(0, .ref 1), (1, .int a1), (2, .int a2)], [.int 59, .int a2], h)) 2 rfl ?_
        refine Ev.br (b := decide (¬ a2 = 59)) rfl (fun c10 => ?_) (fun c10 => ?_)
        · have c10 := of_decide_eq_true c10
          rw [if_neg c10]
          refine Ev.steps (B := (110, [(0, .ref 1), (1, .int a1), (2, .int a2)], [.int 0], h)) 1 rfl ?_
          exact Ev.ret rfl
        · have c10 := Decidable.of_not_not (of_decide_eq_false c10)
          rw [if_pos c10]
          refine Ev.steps (B := (110, [(0, .ref 1), (1, .int a1), (2, .int a2)], [.int 1], h)) 2 rfl ?_
          exact Ev.ret rfl
set_option maxRecDepth 10000 in
theorem Z_X6_fits (r0 : Nat) (a1 : Int32) (a2 : Int32) (h : AH) : am_b01 (M_X6_fits r0 a1 a2 h) = true := by
  unfold M_X6_fits
  split
  · split
    · rfl
    · split
      · rfl
      · split
        · rfl
        · rfl
  · split
    · split
      · rfl
      · rfl
    · split
      · split
        · rfl
        · split
          · rfl
          · rfl
      · split
        · rfl
        · rfl
def M_X1_add (r0 : Nat) (a1 : Int32) (a2 : Int32) (a3 : Int32) (h : AH) : Option AH :=
  if (h.1 r0 3) < 0 then
    some h
  else
    if (h.1 r0 3) < 8 then
      bif (am_in (h.1 r0 3) 8) then
        bif (am_in (h.1 r0 3) 8) then
          bif (am_in (h.1 r0 3) 8) then
            some (am_sf (am_sa (am_sa (am_sa h (r0 + 1) (upd (h.2.1 (r0 + 1)) (Int32.toNatClampNeg (h.1 r0 3)) a1)) (r0 + 2) (upd (h.2.1 (r0 + 2)) (Int32.toNatClampNeg (h.1 r0 3)) a2)) (r0 + 3) (upd (h.2.1 (r0 + 3)) (Int32.toNatClampNeg (h.1 r0 3)) a3)) r0 3 ((h.1 r0 3) + 1))
          else none
        else none
      else none
    else
      some h
set_option maxRecDepth 10000 in
theorem E_X1_add_2 (a1 : Int32) (a2 : Int32) (a3 : Int32) (h : AH) (hR : AH) (hM : M_X1_add 2 a1 a2 a3 h = some hR) : Ev none mr_X1_add (0, [(0, .ref 2), (1, .int a1), (2, .int a2), (3, .int a3)], [], h) none hR := by
  unfold M_X1_add at hM
  refine Ev.steps (B := (4, [(0, .ref 2), (1, .int a1), (2, .int a2), (3, .int a3)], [.int (h.1 2 3)], h)) 2 rfl ?_
  refine Ev.br (b := decide ((h.1 2 3) < 0)) rfl (fun c1 => ?_) (fun c1 => ?_)
  · have c1 := of_decide_eq_true c1
    rw [if_pos c1] at hM
    cases hM
    exact Ev.ret rfl
  · have c1 := of_decide_eq_false c1
    rw [if_neg c1] at hM
    refine Ev.steps (B := (13, [(0, .ref 2), (1, .int a1), (2, .int a2), (3, .int a3)], [.int 8, .int (h.1 2 3)], h)) 3 rfl ?_
    refine Ev.br (b := decide ((h.1 2 3) < 8)) rfl (fun c2 => ?_) (fun c2 => ?_)
    · have c2 := of_decide_eq_true c2
      rw [if_pos c2] at hM
      refine Ev.steps (B := (26, [(0, .ref 2), (1, .int a1), (2, .int a2), (3, .int a3)], [.int a1, .int (h.1 2 3), .ref (2 + 1)], h)) 5 rfl ?_
      obtain ⟨g3, hM⟩ := am_gS hM
      refine Ev.g (B := (27, [(0, .ref 2), (1, .int a1), (2, .int a2), (3, .int a3)], [], (am_sa h (2 + 1) (upd (h.2.1 (2 + 1)) (Int32.toNatClampNeg (h.1 2 3)) a1)))) g3 rfl ?_
      refine Ev.steps (B := (36, [(0, .ref 2), (1, .int a1), (2, .int a2), (3, .int a3)], [.int a2, .int (h.1 2 3), .ref (2 + 2)], (am_sa h (2 + 1) (upd (h.2.1 (2 + 1)) (Int32.toNatClampNeg (h.1 2 3)) a1)))) 5 rfl ?_
      obtain ⟨g4, hM⟩ := am_gS hM
      refine Ev.g (B := (37, [(0, .ref 2), (1, .int a1), (2, .int a2), (3, .int a3)], [], (am_sa (am_sa h (2 + 1) (upd (h.2.1 (2 + 1)) (Int32.toNatClampNeg (h.1 2 3)) a1)) (2 + 2) (upd (h.2.1 (2 + 2)) (Int32.toNatClampNeg (h.1 2 3)) a2)))) g4 rfl ?_
      refine Ev.steps (B := (46, [(0, .ref 2), (1, .int a1), (2, .int a2), (3, .int a3)], [.int a3, .int (h.1 2 3), .ref (2 + 3)], (am_sa (am_sa h (2 + 1) (upd (h.2.1 (2 + 1)) (Int32.toNatClampNeg (h.1 2 3)) a1)) (2 + 2) (upd (h.2.1 (2 + 2)) (Int32.toNatClampNeg (h.1 2 3)) a2)))) 5 rfl ?_
      obtain ⟨g5, hM⟩ := am_gS hM
      refine Ev.g (B := (47, [(0, .ref 2), (1, .int a1), (2, .int a2), (3, .int a3)], [], (am_sa (am_sa (am_sa h (2 + 1) (upd (h.2.1 (2 + 1)) (Int32.toNatClampNeg (h.1 2 3)) a1)) (2 + 2) (upd (h.2.1 (2 + 2)) (Int32.toNatClampNeg (h.1 2 3)) a2)) (2 + 3) (upd (h.2.1 (2 + 3)) (Int32.toNatClampNeg (h.1 2 3)) a3)))) g5 rfl ?_
      refine Ev.steps (B := (57, [(0, .ref 2), (1, .int a1), (2, .int a2), (3, .int a3)], [], (am_sf (am_sa (am_sa (am_sa h (2 + 1) (upd (h.2.1 (2 + 1)) (Int32.toNatClampNeg (h.1 2 3)) a1)) (2 + 2) (upd (h.2.1 (2 + 2)) (Int32.toNatClampNeg (h.1 2 3)) a2)) (2 + 3) (upd (h.2.1 (2 + 3)) (Int32.toNatClampNeg (h.1 2 3)) a3)) 2 3 ((h.1 2 3) + 1)))) 6 rfl ?_
      cases hM
      exact Ev.ret rfl
    · have c2 := of_decide_eq_false c2
      rw [if_neg c2] at hM
      cases hM
      exact Ev.ret rfl
def B_X6_firstFault_95 (n : Nat) (r0 : Nat) (h : AH) : Option (Int32 × AH) :=
  if ((h.1 r0 4) - (h.1 r0 4) / 4 * 4) = 3 then
    some ((-1), h)
  else
    some ((h.1 r0 4), h)
set_option maxRecDepth 10000 in
theorem E_B_X6_firstFault_95_1 (n : Nat) (vR : Int32) (hR : AH) (h : AH) (hM : B_X6_firstFault_95 n 1 h = some (vR, hR)) : Ev none mr_X6_firstFault (95, [(0, .ref 1)], [], h) (some (.int vR)) hR := by
  unfold B_X6_firstFault_95 at hM
  refine Ev.steps (B := (102, [(0, .ref 1)], [.int 3, .int ((h.1 1 4) - (h.1 1 4) / 4 * 4)], h)) 5 rfl ?_
  refine Ev.br (b := decide (¬ ((h.1 1 4) - (h.1 1 4) / 4 * 4) = 3)) rfl (fun c1 => ?_) (fun c1 => ?_)
  · have c1 := of_decide_eq_true c1
    rw [if_neg c1] at hM
    refine Ev.steps (B := (113, [(0, .ref 1)], [.int (h.1 1 4)], h)) 2 rfl ?_
    cases hM
    exact Ev.ret rfl
  · have c1 := Decidable.of_not_not (of_decide_eq_false c1)
    rw [if_pos c1] at hM
    refine Ev.steps (B := (113, [(0, .ref 1)], [.int (-1)], h)) 2 rfl ?_
    cases hM
    exact Ev.ret rfl
def L_X6_firstFault_2 (n : Nat) (r0 : Nat) : Nat → Int32 → AH → Option (Int32 × AH)
  | 0, _, _ => none
  | m + 1, x1, h =>
    if (h.1 r0 4) ≤ x1 then
      B_X6_firstFault_95 n r0 h
    else
      if 31 ≤ x1 then
        B_X6_firstFault_95 n r0 h
      else
        bif (am_in x1 31) then
          if (M_X6_fits r0 (x1 - x1 / 4 * 4) ((h.2.1 (r0 + 5)) (Int32.toNatClampNeg x1)) h) = 0 then
            some (x1, h)
          else
            if (x1 - x1 / 4 * 4) = 2 then
              if x1 < 2 then
                L_X6_firstFault_2 n r0 m (x1 + 1) h
              else
                bif (am_in (x1 - 2) 31) then
                  bif (am_in (x1 - 1) 31) then
                    bif (am_in x1 31) then
                      am_v (M_X1_add (r0 + 1) (((h.2.1 (r0 + 5)) (Int32.toNatClampNeg (x1 - 2))) - 97) (kx (tx_s r0) ((Int32.toUInt32 ((h.2.1 (r0 + 5)) (Int32.toNatClampNeg (x1 - 1))) % 65536).toInt32)) (((h.2.1 (r0 + 5)) (Int32.toNatClampNeg x1)) - 48) h) fun h1 =>
                      L_X6_firstFault_2 n r0 m (x1 + 1) h1
                    else none
                  else none
                else none
            else
              L_X6_firstFault_2 n r0 m (x1 + 1) h
        else none
set_option maxRecDepth 10000 in
theorem E_L_X6_firstFault_2_1 (n : Nat) (vR : Int32) (hR : AH) : ∀ (m : Nat) (x1 : Int32) (h : AH), L_X6_firstFault_2 n 1 m x1 h = some (vR, hR) → Ev none mr_X6_firstFault (2, [(0, .ref 1), (1, .int x1)], [], h) (some (.int vR)) hR := by
  intro m
  induction m with
  | zero =>
    intro x1 h hM
    exact (am_no hM).elim
  | succ m ih =>
    intro x1 h hM
    rw [L_X6_firstFault_2] at hM
    refine Ev.steps (B := (7, [(0, .ref 1), (1, .int x1)], [.int (h.1 1 4), .int x1], h)) 3 rfl ?_
    refine Ev.br (b := decide ((h.1 1 4) ≤ x1)) rfl (fun c1 => ?_) (fun c1 => ?_)
    · have c1 := of_decide_eq_true c1
      rw [if_pos c1] at hM
      refine Ev.lv (lv := [(0, .ref 1)]) ⟨rfl, trivial⟩ rfl rfl ?_
      exact E_B_X6_firstFault_95_1 n vR hR h hM
    · have c1 := of_decide_eq_false c1
      rw [if_neg c1] at hM
      refine Ev.steps (B := (13, [(0, .ref 1), (1, .int x1)], [.int 31, .int x1], h)) 2 rfl ?_
      refine Ev.br (b := decide (31 ≤ x1)) rfl (fun c2 => ?_) (fun c2 => ?_)
      · have c2 := of_decide_eq_true c2
        rw [if_pos c2] at hM
        refine Ev.lv (lv := [(0, .ref 1)]) ⟨rfl, trivial⟩ rfl rfl ?_
        exact E_B_X6_firstFault_95_1 n vR hR h hM
      · have c2 := of_decide_eq_false c2
        rw [if_neg c2] at hM
        refine Ev.steps (B := (25, [(0, .ref 1), (1, .int x1)], [.int x1, .ref (1 + 5), .int (x1 - x1 / 4 * 4), .ref 1], h)) 7 rfl ?_
        obtain ⟨g3, hM⟩ := am_gS hM
        refine Ev.g (B := (26, [(0, .ref 1), (1, .int x1)], [.int ((h.2.1 (1 + 5)) (Int32.toNatClampNeg x1)), .int (x1 - x1 / 4 * 4), .ref 1], h)) g3 rfl ?_
        refine Ev.call (q := (mr_X6_fits, [.ref 1, .int (x1 - x1 / 4 * 4), .int ((h.2.1 (1 + 5)) (Int32.toNatClampNeg x1))], [])) rfl (E_X6_fits_1 (x1 - x1 / 4 * 4) ((h.2.1 (1 + 5)) (Int32.toNatClampNeg x1)) h) ?_
        refine Ev.br (b := decide (¬ (M_X6_fits 1 (x1 - x1 / 4 * 4) ((h.2.1 (1 + 5)) (Int32.toNatClampNeg x1)) h) = 0)) rfl (fun c4 => ?_) (fun c4 => ?_)
        · have c4 := of_decide_eq_true c4
          rw [if_neg c4] at hM
          refine Ev.steps (B := (38, [(0, .ref 1), (1, .int x1)], [.int 2, .int (x1 - x1 / 4 * 4)], h)) 4 rfl ?_
          refine Ev.br (b := decide (¬ (x1 - x1 / 4 * 4) = 2)) rfl (fun c5 => ?_) (fun c5 => ?_)
          · have c5 := of_decide_eq_true c5
            rw [if_neg c5] at hM
            refine Ev.steps (B := (2, [(1, .int (x1 + 1)), (0, .ref 1)], [], h)) 2 rfl ?_
            refine Ev.lv (lv := [(0, .ref 1), (1, .int (x1 + 1))]) ⟨rfl, rfl, trivial⟩ rfl rfl ?_
            exact ih (x1 + 1) h hM
          · have c5 := Decidable.of_not_not (of_decide_eq_false c5)
            rw [if_pos c5] at hM
            refine Ev.steps (B := (43, [(0, .ref 1), (1, .int x1)], [.int 2, .int x1], h)) 2 rfl ?_
            refine Ev.br (b := decide (x1 < 2)) rfl (fun c6 => ?_) (fun c6 => ?_)
            · have c6 := of_decide_eq_true c6
              rw [if_pos c6] at hM
              refine Ev.steps (B := (2, [(1, .int (x1 + 1)), (0, .ref 1)], [], h)) 2 rfl ?_
              refine Ev.lv (lv := [(0, .ref 1), (1, .int (x1 + 1))]) ⟨rfl, rfl, trivial⟩ rfl rfl ?_
              exact ih (x1 + 1) h hM
            · have c6 := of_decide_eq_false c6
              rw [if_neg c6] at hM
              refine Ev.steps (B := (57, [(0, .ref 1), (1, .int x1)], [.int (x1 - 2), .ref (1 + 5), .ref (1 + 1)], h)) 7 rfl ?_
              obtain ⟨g7, hM⟩ := am_gS hM
              refine Ev.g (B := (58, [(0, .ref 1), (1, .int x1)], [.int ((h.2.1 (1 + 5)) (Int32.toNatClampNeg (x1 - 2))), .ref (1 + 1)], h)) g7 rfl ?_
              refine Ev.steps (B := (72, [(0, .ref 1), (1, .int x1)], [.int (x1 - 1), .ref (1 + 5), .ref (tx_s 1), .int (((h.2.1 (1 + 5)) (Int32.toNatClampNeg (x1 - 2))) - 97), .ref (1 + 1)], h)) 9 rfl ?_
              obtain ⟨g8, hM⟩ := am_gS hM
              refine Ev.g (B := (73, [(0, .ref 1), (1, .int x1)], [.int ((h.2.1 (1 + 5)) (Int32.toNatClampNeg (x1 - 1))), .ref (tx_s 1), .int (((h.2.1 (1 + 5)) (Int32.toNatClampNeg (x1 - 2))) - 97), .ref (1 + 1)], h)) g8 rfl ?_
              refine Ev.steps (B := (74, [(0, .ref 1), (1, .int x1)], [.int ((Int32.toUInt32 ((h.2.1 (1 + 5)) (Int32.toNatClampNeg (x1 - 1))) % 65536).toInt32), .ref (tx_s 1), .int (((h.2.1 (1 + 5)) (Int32.toNatClampNeg (x1 - 2))) - 97), .ref (1 + 1)], h)) 1 rfl ?_
              refine Ev.call (q := (mr_J10_indexOf_1, [.ref (tx_s 1), .int ((Int32.toUInt32 ((h.2.1 (1 + 5)) (Int32.toNatClampNeg (x1 - 1))) % 65536).toInt32)], [.int (((h.2.1 (1 + 5)) (Int32.toNatClampNeg (x1 - 2))) - 97), .ref (1 + 1)])) rfl (E_indexOf_200 ((Int32.toUInt32 ((h.2.1 (1 + 5)) (Int32.toNatClampNeg (x1 - 1))) % 65536).toInt32) h) ?_
              refine Ev.steps (B := (82, [(0, .ref 1), (1, .int x1)], [.int x1, .ref (1 + 5), .int (kx (tx_s 1) ((Int32.toUInt32 ((h.2.1 (1 + 5)) (Int32.toNatClampNeg (x1 - 1))) % 65536).toInt32)), .int (((h.2.1 (1 + 5)) (Int32.toNatClampNeg (x1 - 2))) - 97), .ref (1 + 1)], h)) 3 rfl ?_
              obtain ⟨g9, hM⟩ := am_gS hM
              refine Ev.g (B := (83, [(0, .ref 1), (1, .int x1)], [.int ((h.2.1 (1 + 5)) (Int32.toNatClampNeg x1)), .int (kx (tx_s 1) ((Int32.toUInt32 ((h.2.1 (1 + 5)) (Int32.toNatClampNeg (x1 - 1))) % 65536).toInt32)), .int (((h.2.1 (1 + 5)) (Int32.toNatClampNeg (x1 - 2))) - 97), .ref (1 + 1)], h)) g9 rfl ?_
              refine Ev.steps (B := (86, [(0, .ref 1), (1, .int x1)], [.int (((h.2.1 (1 + 5)) (Int32.toNatClampNeg x1)) - 48), .int (kx (tx_s 1) ((Int32.toUInt32 ((h.2.1 (1 + 5)) (Int32.toNatClampNeg (x1 - 1))) % 65536).toInt32)), .int (((h.2.1 (1 + 5)) (Int32.toNatClampNeg (x1 - 2))) - 97), .ref (1 + 1)], h)) 2 rfl ?_
              obtain ⟨h1, e10, hM⟩ := am_vS hM
              refine Ev.call (q := (mr_X1_add, [.ref (1 + 1), .int (((h.2.1 (1 + 5)) (Int32.toNatClampNeg (x1 - 2))) - 97), .int (kx (tx_s 1) ((Int32.toUInt32 ((h.2.1 (1 + 5)) (Int32.toNatClampNeg (x1 - 1))) % 65536).toInt32)), .int (((h.2.1 (1 + 5)) (Int32.toNatClampNeg x1)) - 48)], [])) rfl (E_X1_add_2 (((h.2.1 (1 + 5)) (Int32.toNatClampNeg (x1 - 2))) - 97) (kx (tx_s 1) ((Int32.toUInt32 ((h.2.1 (1 + 5)) (Int32.toNatClampNeg (x1 - 1))) % 65536).toInt32)) (((h.2.1 (1 + 5)) (Int32.toNatClampNeg x1)) - 48) h h1 e10) ?_
              refine Ev.steps (B := (2, [(1, .int (x1 + 1)), (0, .ref 1)], [], h1)) 2 rfl ?_
              refine Ev.lv (lv := [(0, .ref 1), (1, .int (x1 + 1))]) ⟨rfl, rfl, trivial⟩ rfl rfl ?_
              exact ih (x1 + 1) h1 hM
        · have c4 := Decidable.of_not_not (of_decide_eq_false c4)
          rw [if_pos c4] at hM
          refine Ev.steps (B := (33, [(0, .ref 1), (1, .int x1)], [.int x1], h)) 1 rfl ?_
          cases hM
          exact Ev.ret rfl
def M_X6_firstFault (n : Nat) (r0 : Nat) (h : AH) : Option (Int32 × AH) :=
  L_X6_firstFault_2 n r0 n 0 h
set_option maxRecDepth 10000 in
theorem E_X6_firstFault_1 (n : Nat) (h : AH) (vR : Int32) (hR : AH) (hM : M_X6_firstFault n 1 h = some (vR, hR)) : Ev none mr_X6_firstFault (0, [(0, .ref 1)], [], h) (some (.int vR)) hR := by
  unfold M_X6_firstFault at hM
  refine Ev.steps (B := (2, [(1, .int 0), (0, .ref 1)], [], h)) 2 rfl ?_
  refine Ev.lv (lv := [(0, .ref 1), (1, .int 0)]) ⟨rfl, rfl, trivial⟩ rfl rfl ?_
  exact E_L_X6_firstFault_2_1 n vR hR n 0 h hM
def B_X6_scan_24 (n : Nat) (r0 : Nat) (y0 : Int32) (h : AH) : Option AH :=
  if y0 = (-1) then
    some (am_sf h r0 5 y0)
  else
    some (am_sf (am_sf h r0 5 y0) (r0 + 1) 3 0)
set_option maxRecDepth 10000 in
theorem E_B_X6_scan_24_1 (n : Nat) (hR : AH) (y0 : Int32) (h : AH) (hM : B_X6_scan_24 n 1 y0 h = some hR) : Ev none mr_X6_scan (24, [(0, .ref 1)], [.int y0, .ref 1], h) none hR := by
  unfold B_X6_scan_24 at hM
  refine Ev.steps (B := (32, [(0, .ref 1)], [.int (-1), .int y0], (am_sf h 1 5 y0))) 4 rfl ?_
  refine Ev.br (b := decide (y0 = (-1))) rfl (fun c1 => ?_) (fun c1 => ?_)
  · have c1 := of_decide_eq_true c1
    rw [if_pos c1] at hM
    cases hM
    exact Ev.ret rfl
  · have c1 := of_decide_eq_false c1
    rw [if_neg c1] at hM
    refine Ev.steps (B := (43, [(0, .ref 1)], [], (am_sf (am_sf h 1 5 y0) (1 + 1) 3 0))) 4 rfl ?_
    cases hM
    exact Ev.ret rfl
def M_X6_scan (n : Nat) (r0 : Nat) (h : AH) : Option AH :=
  if (h.1 r0 4) = 0 then
    B_X6_scan_24 n r0 (-1) (am_sf h (r0 + 1) 3 0)
  else
    am_b (M_X6_firstFault n r0 (am_sf h (r0 + 1) 3 0)) fun v2 h1 =>
    B_X6_scan_24 n r0 v2 h1
set_option maxRecDepth 10000 in
theorem E_X6_scan_1 (n : Nat) (h : AH) (hR : AH) (hM : M_X6_scan n 1 h = some hR) : Ev none mr_X6_scan (0, [(0, .ref 1)], [], h) none hR := by
  unfold M_X6_scan at hM
  refine Ev.steps (B := (13, [(0, .ref 1)], [.int (h.1 1 4), .ref 1], (am_sf h (1 + 1) 3 0))) 7 rfl ?_
  refine Ev.br (b := decide (¬ (h.1 1 4) = 0)) rfl (fun c1 => ?_) (fun c1 => ?_)
  · have c1 := of_decide_eq_true c1
    rw [if_neg c1] at hM
    refine Ev.steps (B := (21, [(0, .ref 1)], [.ref 1, .ref 1], (am_sf h (1 + 1) 3 0))) 1 rfl ?_
    obtain ⟨v2, h1, e2, hM⟩ := am_bS hM
    refine Ev.call (q := (mr_X6_firstFault, [.ref 1], [.ref 1])) rfl (E_X6_firstFault_1 n (am_sf h (1 + 1) 3 0) v2 h1 e2) ?_
    exact E_B_X6_scan_24_1 n hR v2 h1 hM
  · have c1 := Decidable.of_not_not (of_decide_eq_false c1)
    rw [if_pos c1] at hM
    refine Ev.steps (B := (24, [(0, .ref 1)], [.int (-1), .ref 1], (am_sf h (1 + 1) 3 0))) 2 rfl ?_
    exact E_B_X6_scan_24_1 n hR (-1) (am_sf h (1 + 1) 3 0) hM
def M_X6_append (n : Nat) (r0 : Nat) (a1 : Int32) (h : AH) : Option AH :=
  if (h.1 r0 4) < 0 then
    some h
  else
    if (h.1 r0 4) < 31 then
      bif (am_in (h.1 r0 4) 31) then
        am_v (M_X6_scan n r0 (am_sf (am_sa h (r0 + 5) (upd (h.2.1 (r0 + 5)) (Int32.toNatClampNeg (h.1 r0 4)) a1)) r0 4 ((h.1 r0 4) + 1))) fun h1 =>
        some h1
      else none
    else
      some h
set_option maxRecDepth 10000 in
theorem E_X6_append_1 (n : Nat) (a1 : Int32) (h : AH) (hR : AH) (hM : M_X6_append n 1 a1 h = some hR) : Ev none mr_X6_append (0, [(0, .ref 1), (1, .int a1)], [], h) none hR := by
  unfold M_X6_append at hM
  refine Ev.steps (B := (4, [(0, .ref 1), (1, .int a1)], [.int (h.1 1 4)], h)) 2 rfl ?_
  refine Ev.br (b := decide ((h.1 1 4) < 0)) rfl (fun c1 => ?_) (fun c1 => ?_)
  · have c1 := of_decide_eq_true c1
    rw [if_pos c1] at hM
    cases hM
    exact Ev.ret rfl
  · have c1 := of_decide_eq_false c1
    rw [if_neg c1] at hM
    refine Ev.steps (B := (13, [(0, .ref 1), (1, .int a1)], [.int 31, .int (h.1 1 4)], h)) 3 rfl ?_
    refine Ev.br (b := decide ((h.1 1 4) < 31)) rfl (fun c2 => ?_) (fun c2 => ?_)
    · have c2 := of_decide_eq_true c2
      rw [if_pos c2] at hM
      refine Ev.steps (B := (26, [(0, .ref 1), (1, .int a1)], [.int a1, .int (h.1 1 4), .ref (1 + 5)], h)) 5 rfl ?_
      obtain ⟨g3, hM⟩ := am_gS hM
      refine Ev.g (B := (27, [(0, .ref 1), (1, .int a1)], [], (am_sa h (1 + 5) (upd (h.2.1 (1 + 5)) (Int32.toNatClampNeg (h.1 1 4)) a1)))) g3 rfl ?_
      refine Ev.steps (B := (38, [(0, .ref 1), (1, .int a1)], [.ref 1], (am_sf (am_sa h (1 + 5) (upd (h.2.1 (1 + 5)) (Int32.toNatClampNeg (h.1 1 4)) a1)) 1 4 ((h.1 1 4) + 1)))) 7 rfl ?_
      obtain ⟨h1, e4, hM⟩ := am_vS hM
      refine Ev.call (q := (mr_X6_scan, [.ref 1], [])) rfl (E_X6_scan_1 n (am_sf (am_sa h (1 + 5) (upd (h.2.1 (1 + 5)) (Int32.toNatClampNeg (h.1 1 4)) a1)) 1 4 ((h.1 1 4) + 1)) h1 e4) ?_
      cases hM
      exact Ev.ret rfl
    · have c2 := of_decide_eq_false c2
      rw [if_neg c2] at hM
      cases hM
      exact Ev.ret rfl
def L_J14_fill_J_6 (n : Nat) (r1 : Nat) : Nat → Int64 → Int32 → Int32 → AH → Option AH
  | 0, _, _, _, _ => none
  | m + 1, x1, x3, x4, h =>
    if x4 ≤ x3 then
      some h
    else
      bif (am_in x3 (am_lna r1)) then
        L_J14_fill_J_6 n r1 m x1 (x3 + 1) x4 (am_sl h r1 (vp_updL (h.2.2 r1) (Int32.toNatClampNeg x3) x1))
      else none
set_option maxRecDepth 10000 in
theorem E_L_J14_fill_J_6_38 (n : Nat) (hR : AH) : ∀ (m : Nat) (x1 : Int64) (x3 : Int32) (x4 : Int32) (h : AH), L_J14_fill_J_6 n 38 m x1 x3 x4 h = some hR → Ev none mr_J14_fill_J (6, [(0, .ref 38), (1, .long x1), (3, .int x3), (4, .int x4)], [], h) none hR := by
  intro m
  induction m with
  | zero =>
    intro x1 x3 x4 h hM
    exact (am_no hM).elim
  | succ m ih =>
    intro x1 x3 x4 h hM
    rw [L_J14_fill_J_6] at hM
    refine Ev.steps (B := (9, [(0, .ref 38), (1, .long x1), (3, .int x3), (4, .int x4)], [.int x4, .int x3], h)) 2 rfl ?_
    refine Ev.br (b := decide (x4 ≤ x3)) rfl (fun c1 => ?_) (fun c1 => ?_)
    · have c1 := of_decide_eq_true c1
      rw [if_pos c1] at hM
      cases hM
      exact Ev.ret rfl
    · have c1 := of_decide_eq_false c1
      rw [if_neg c1] at hM
      refine Ev.steps (B := (15, [(0, .ref 38), (1, .long x1), (3, .int x3), (4, .int x4)], [.long x1, .int x3, .ref 38], h)) 3 rfl ?_
      obtain ⟨g2, hM⟩ := am_gS hM
      refine Ev.g (B := (16, [(0, .ref 38), (1, .long x1), (3, .int x3), (4, .int x4)], [], (am_sl h 38 (vp_updL (h.2.2 38) (Int32.toNatClampNeg x3) x1)))) g2 rfl ?_
      refine Ev.steps (B := (6, [(3, .int (x3 + 1)), (0, .ref 38), (1, .long x1), (4, .int x4)], [], (am_sl h 38 (vp_updL (h.2.2 38) (Int32.toNatClampNeg x3) x1)))) 2 rfl ?_
      refine Ev.lv (lv := [(0, .ref 38), (1, .long x1), (3, .int (x3 + 1)), (4, .int x4)]) ⟨rfl, rfl, rfl, rfl, trivial⟩ rfl rfl ?_
      exact ih x1 (x3 + 1) x4 (am_sl h 38 (vp_updL (h.2.2 38) (Int32.toNatClampNeg x3) x1)) hM
def M_J14_fill_J (n : Nat) (r1 : Nat) (a2 : Int64) (h : AH) : Option AH :=
  L_J14_fill_J_6 n r1 n a2 0 (Int32.ofNat (am_lna r1)) h
set_option maxRecDepth 10000 in
theorem E_J14_fill_J_38 (n : Nat) (a2 : Int64) (h : AH) (hR : AH) (hM : M_J14_fill_J n 38 a2 h = some hR) : Ev none mr_J14_fill_J (0, [(0, .ref 38), (1, .long a2)], [], h) none hR := by
  unfold M_J14_fill_J at hM
  refine Ev.steps (B := (6, [(4, .int (Int32.ofNat (am_lna 38))), (3, .int 0), (0, .ref 38), (1, .long a2)], [], h)) 5 rfl ?_
  refine Ev.lv (lv := [(0, .ref 38), (1, .long a2), (3, .int 0), (4, .int (Int32.ofNat (am_lna 38)))]) ⟨rfl, rfl, rfl, rfl, trivial⟩ rfl rfl ?_
  exact E_L_J14_fill_J_6_38 n hR n a2 0 (Int32.ofNat (am_lna 38)) h hM
def M_X7_drop (n : Nat) (h : AH) : Option AH :=
  if (h.1 37 4) = 0 then
    am_v (M_J14_fill_J n 38 0 h) fun h1 =>
    some (am_sf h1 37 4 1)
  else
    some h
set_option maxRecDepth 10000 in
theorem E_X7_drop_37 (n : Nat) (h : AH) (hR : AH) (hM : M_X7_drop n h = some hR) : Ev none mr_X7_drop (0, [(0, .ref 37)], [], h) none hR := by
  unfold M_X7_drop at hM
  refine Ev.steps (B := (4, [(0, .ref 37)], [.int (h.1 37 4)], h)) 2 rfl ?_
  refine Ev.br (b := decide (¬ (h.1 37 4) = 0)) rfl (fun c1 => ?_) (fun c1 => ?_)
  · have c1 := of_decide_eq_true c1
    rw [if_neg c1] at hM
    cases hM
    exact Ev.ret rfl
  · have c1 := Decidable.of_not_not (of_decide_eq_false c1)
    rw [if_pos c1] at hM
    refine Ev.steps (B := (12, [(0, .ref 37)], [.long 0, .ref 38], h)) 3 rfl ?_
    obtain ⟨h1, e2, hM⟩ := am_vS hM
    refine Ev.call (q := (mr_J14_fill_J, [.ref 38, .long 0], [])) rfl (E_J14_fill_J_38 n 0 h h1 e2) ?_
    refine Ev.steps (B := (20, [(0, .ref 37)], [], (am_sf h1 37 4 1))) 3 rfl ?_
    cases hM
    exact Ev.ret rfl
def M_X8_changed (n : Nat) (h : AH) : Option AH :=
  am_v (M_X7_drop n (am_sf h 0 11 0)) fun h1 =>
  some h1
set_option maxRecDepth 10000 in
theorem E_X8_changed_0 (n : Nat) (h : AH) (hR : AH) (hM : M_X8_changed n h = some hR) : Ev none mr_X8_changed (0, [(0, .ref 0)], [], h) none hR := by
  unfold M_X8_changed at hM
  refine Ev.steps (B := (9, [(0, .ref 0)], [.ref 37], (am_sf h 0 11 0))) 5 rfl ?_
  obtain ⟨h1, e1, hM⟩ := am_vS hM
  refine Ev.call (q := (mr_X7_drop, [.ref 37], [])) rfl (E_X7_drop_37 n (am_sf h 0 11 0) h1 e1) ?_
  cases hM
  exact Ev.ret rfl
def B_X8_type_6 (n : Nat) (x2 : Int32) (q3 : Nat) (h : AH) : Option (Int32 × AH) :=
  if (M_X8_within x2 255) = 0 then
    some ((-2), h)
  else
    if (h.1 q3 4) < 31 then
      am_v (M_X6_append n q3 x2 h) fun h1 =>
      am_v (M_X8_changed n h1) fun h2 =>
      some ((h2.1 q3 4), h2)
    else
      some ((-4), h)
set_option maxRecDepth 10000 in
theorem E_B_X8_type_6_1 (n : Nat) (vR : Int32) (hR : AH) (x2 : Int32) (h : AH) (hM : B_X8_type_6 n x2 1 h = some (vR, hR)) : Ev none mr_X8_type (6, [(0, .ref 0), (2, .int x2), (3, .ref 1)], [], h) (some (.int vR)) hR := by
  unfold B_X8_type_6 at hM
  refine Ev.steps (B := (14, [(0, .ref 0), (2, .int x2), (3, .ref 1)], [.int 255, .int x2], h)) 4 rfl ?_
  refine Ev.call (q := (mr_X8_within, [.int x2, .int 255], [])) rfl (E_X8_within x2 255 h) ?_
  refine Ev.br (b := decide (¬ (M_X8_within x2 255) = 0)) rfl (fun c1 => ?_) (fun c1 => ?_)
  · have c1 := of_decide_eq_true c1
    rw [if_neg c1] at hM
    refine Ev.steps (B := (29, [(0, .ref 0), (2, .int x2), (3, .ref 1)], [.int 31, .int (h.1 1 4)], h)) 3 rfl ?_
    refine Ev.br (b := decide ((h.1 1 4) < 31)) rfl (fun c2 => ?_) (fun c2 => ?_)
    · have c2 := of_decide_eq_true c2
      rw [if_pos c2] at hM
      refine Ev.steps (B := (37, [(0, .ref 0), (2, .int x2), (3, .ref 1)], [.int x2, .ref 1], h)) 2 rfl ?_
      obtain ⟨h1, e3, hM⟩ := am_vS hM
      refine Ev.call (q := (mr_X6_append, [.ref 1, .int x2], [])) rfl (E_X6_append_1 n x2 h h1 e3) ?_
      refine Ev.steps (B := (41, [(0, .ref 0), (2, .int x2), (3, .ref 1)], [.ref 0], h1)) 1 rfl ?_
      obtain ⟨h2, e4, hM⟩ := am_vS hM
      refine Ev.call (q := (mr_X8_changed, [.ref 0], [])) rfl (E_X8_changed_0 n h1 h2 e4) ?_
      refine Ev.steps (B := (48, [(0, .ref 0), (2, .int x2), (3, .ref 1)], [.int (h2.1 1 4)], h2)) 2 rfl ?_
      cases hM
      exact Ev.ret rfl
    · have c2 := of_decide_eq_false c2
      rw [if_neg c2] at hM
      refine Ev.steps (B := (34, [(0, .ref 0), (2, .int x2), (3, .ref 1)], [.int (-4)], h)) 1 rfl ?_
      cases hM
      exact Ev.ret rfl
  · have c1 := Decidable.of_not_not (of_decide_eq_false c1)
    rw [if_pos c1] at hM
    refine Ev.steps (B := (22, [(0, .ref 0), (2, .int x2), (3, .ref 1)], [.int (-2)], h)) 1 rfl ?_
    cases hM
    exact Ev.ret rfl
set_option maxRecDepth 10000 in
theorem E_X6_fits_7 (a1 : Int32) (a2 : Int32) (h : AH) : Ev none mr_X6_fits (0, [(0, .ref 7), (1, .int a1), (2, .int a2)], [], h) (some (.int (M_X6_fits 7 a1 a2 h))) h := by
  unfold M_X6_fits
  refine Ev.steps (B := (1, [(0, .ref 7), (1, .int a1), (2, .int a2)], [.int a1], h)) 1 rfl ?_
  refine Ev.step (B := (am_sel a1 [(0, 28), (1, 58), (2, 76)] 99, [(0, .ref 7), (1, .int a1), (2, .int a2)], [], h)) rfl ?_
  refine Ev.sw (fun c1 => ?_) (fun c1 => ?_)
  · rw [if_pos c1]
    refine Ev.steps (B := (37, [(0, .ref 7), (1, .int a1), (2, .int a2)], [.int 8, .int (h.1 (7 + 1) 3)], h)) 4 rfl ?_
    refine Ev.br (b := decide (8 ≤ (h.1 (7 + 1) 3))) rfl (fun c2 => ?_) (fun c2 => ?_)
    · have c2 := of_decide_eq_true c2
      rw [if_pos c2]
      refine Ev.steps (B := (57, [(0, .ref 7), (1, .int a1), (2, .int a2)], [.int 0], h)) 1 rfl ?_
      exact Ev.ret rfl
    · have c2 := of_decide_eq_false c2
      rw [if_neg c2]
      refine Ev.steps (B := (43, [(0, .ref 7), (1, .int a1), (2, .int a2)], [.int 97, .int a2], h)) 2 rfl ?_
      refine Ev.br (b := decide (a2 < 97)) rfl (fun c3 => ?_) (fun c3 => ?_)
      · have c3 := of_decide_eq_true c3
        rw [if_pos c3]
        refine Ev.steps (B := (57, [(0, .ref 7), (1, .int a1), (2, .int a2)], [.int 0], h)) 1 rfl ?_
        exact Ev.ret rfl
      · have c3 := of_decide_eq_false c3
        rw [if_neg c3]
        refine Ev.steps (B := (49, [(0, .ref 7), (1, .int a1), (2, .int a2)], [.int 120, .int a2], h)) 2 rfl ?_
        refine Ev.br (b := decide (120 < a2)) rfl (fun c4 => ?_) (fun c4 => ?_)
        · have c4 := of_decide_eq_true c4
          rw [if_pos c4]
          refine Ev.steps (B := (57, [(0, .ref 7), (1, .int a1), (2, .int a2)], [.int 0], h)) 1 rfl ?_
          exact Ev.ret rfl
        · have c4 := of_decide_eq_false c4
          rw [if_neg c4]
          refine Ev.steps (B := (57, [(0, .ref 7), (1, .int a1), (2, .int a2)], [.int 1], h)) 2 rfl ?_
          exact Ev.ret rfl
  · rw [if_neg c1]
    refine Ev.sw (fun c5 => ?_) (fun c5 => ?_)
    · rw [if_pos c5]
      refine Ev.steps (B := (64, [(0, .ref 7), (1, .int a1), (2, .int a2)], [.int ((Int32.toUInt32 a2 % 65536).toInt32), .ref (tx_s 7)], h)) 4 rfl ?_
      refine Ev.call (q := (mr_J10_indexOf_1, [.ref (tx_s 7), .int ((Int32.toUInt32 a2 % 65536).toInt32)], [])) rfl (E_indexOf_201 ((Int32.toUInt32 a2 % 65536).toInt32) h) ?_
      refine Ev.br (b := decide ((kx (tx_s 7) ((Int32.toUInt32 a2 % 65536).toInt32)) < 0)) rfl (fun c6 => ?_) (fun c6 => ?_)
      · have c6 := of_decide_eq_true c6
        rw [if_pos c6]
        refine Ev.steps (B := (75, [(0, .ref 7), (1, .int a1), (2, .int a2)], [.int 0], h)) 1 rfl ?_
        exact Ev.ret rfl
      · have c6 := of_decide_eq_false c6
        rw [if_neg c6]
        refine Ev.steps (B := (75, [(0, .ref 7), (1, .int a1), (2, .int a2)], [.int 1], h)) 2 rfl ?_
        exact Ev.ret rfl
    · rw [if_neg c5]
      refine Ev.sw (fun c7 => ?_) (fun c7 => ?_)
      · rw [if_pos c7]
        refine Ev.steps (B := (79, [(0, .ref 7), (1, .int a1), (2, .int a2)], [.int 49, .int a2], h)) 2 rfl ?_
        refine Ev.br (b := decide (a2 < 49)) rfl (fun c8 => ?_) (fun c8 => ?_)
        · have c8 := of_decide_eq_true c8
          rw [if_pos c8]
          refine Ev.steps (B := (98, [(0, .ref 7), (1, .int a1), (2, .int a2)], [.int 0], h)) 1 rfl ?_
          exact Ev.ret rfl
        · have c8 := of_decide_eq_false c8
          rw [if_neg c8]
          refine Ev.steps (B := (90, [(0, .ref 7), (1, .int a1), (2, .int a2)], [.int (48 + (h.1 7 3)), .int a2], h)) 5 rfl ?_
          refine Ev.br (b := decide ((48 + (h.1 7 3)) < a2)) rfl (fun c9 => ?_) (fun c9 => ?_)
          · have c9 := of_decide_eq_true c9
            rw [if_pos c9]
            refine Ev.steps (B := (98, [(0, .ref 7), (1, .int a1), (2, .int a2)], [.int 0], h)) 1 rfl ?_
            exact Ev.ret rfl
          · have c9 := of_decide_eq_false c9
            rw [if_neg c9]
            refine Ev.steps (B := (98, [(0, .ref 7), (1, .int a1), (2, .int a2)], [.int 1], h)) 2 rfl ?_
            exact Ev.ret rfl
      · rw [if_neg c7]
        refine Ev.steps (B := (102, [(0, .ref 7), (1, .int a1), (2, .int a2)], [.int 59, .int a2], h)) 2 rfl ?_
        refine Ev.br (b := decide (¬ a2 = 59)) rfl (fun c10 => ?_) (fun c10 => ?_)
        · have c10 := of_decide_eq_true c10
          rw [if_neg c10]
          refine Ev.steps (B := (110, [(0, .ref 7), (1, .int a1), (2, .int a2)], [.int 0], h)) 1 rfl ?_
          exact Ev.ret rfl
        · have c10 := Decidable.of_not_not (of_decide_eq_false c10)
          rw [if_pos c10]
          refine Ev.steps (B := (110, [(0, .ref 7), (1, .int a1), (2, .int a2)], [.int 1], h)) 2 rfl ?_
          exact Ev.ret rfl
set_option maxRecDepth 10000 in
theorem E_X1_add_8 (a1 : Int32) (a2 : Int32) (a3 : Int32) (h : AH) (hR : AH) (hM : M_X1_add 8 a1 a2 a3 h = some hR) : Ev none mr_X1_add (0, [(0, .ref 8), (1, .int a1), (2, .int a2), (3, .int a3)], [], h) none hR := by
  unfold M_X1_add at hM
  refine Ev.steps (B := (4, [(0, .ref 8), (1, .int a1), (2, .int a2), (3, .int a3)], [.int (h.1 8 3)], h)) 2 rfl ?_
  refine Ev.br (b := decide ((h.1 8 3) < 0)) rfl (fun c1 => ?_) (fun c1 => ?_)
  · have c1 := of_decide_eq_true c1
    rw [if_pos c1] at hM
    cases hM
    exact Ev.ret rfl
  · have c1 := of_decide_eq_false c1
    rw [if_neg c1] at hM
    refine Ev.steps (B := (13, [(0, .ref 8), (1, .int a1), (2, .int a2), (3, .int a3)], [.int 8, .int (h.1 8 3)], h)) 3 rfl ?_
    refine Ev.br (b := decide ((h.1 8 3) < 8)) rfl (fun c2 => ?_) (fun c2 => ?_)
    · have c2 := of_decide_eq_true c2
      rw [if_pos c2] at hM
      refine Ev.steps (B := (26, [(0, .ref 8), (1, .int a1), (2, .int a2), (3, .int a3)], [.int a1, .int (h.1 8 3), .ref (8 + 1)], h)) 5 rfl ?_
      obtain ⟨g3, hM⟩ := am_gS hM
      refine Ev.g (B := (27, [(0, .ref 8), (1, .int a1), (2, .int a2), (3, .int a3)], [], (am_sa h (8 + 1) (upd (h.2.1 (8 + 1)) (Int32.toNatClampNeg (h.1 8 3)) a1)))) g3 rfl ?_
      refine Ev.steps (B := (36, [(0, .ref 8), (1, .int a1), (2, .int a2), (3, .int a3)], [.int a2, .int (h.1 8 3), .ref (8 + 2)], (am_sa h (8 + 1) (upd (h.2.1 (8 + 1)) (Int32.toNatClampNeg (h.1 8 3)) a1)))) 5 rfl ?_
      obtain ⟨g4, hM⟩ := am_gS hM
      refine Ev.g (B := (37, [(0, .ref 8), (1, .int a1), (2, .int a2), (3, .int a3)], [], (am_sa (am_sa h (8 + 1) (upd (h.2.1 (8 + 1)) (Int32.toNatClampNeg (h.1 8 3)) a1)) (8 + 2) (upd (h.2.1 (8 + 2)) (Int32.toNatClampNeg (h.1 8 3)) a2)))) g4 rfl ?_
      refine Ev.steps (B := (46, [(0, .ref 8), (1, .int a1), (2, .int a2), (3, .int a3)], [.int a3, .int (h.1 8 3), .ref (8 + 3)], (am_sa (am_sa h (8 + 1) (upd (h.2.1 (8 + 1)) (Int32.toNatClampNeg (h.1 8 3)) a1)) (8 + 2) (upd (h.2.1 (8 + 2)) (Int32.toNatClampNeg (h.1 8 3)) a2)))) 5 rfl ?_
      obtain ⟨g5, hM⟩ := am_gS hM
      refine Ev.g (B := (47, [(0, .ref 8), (1, .int a1), (2, .int a2), (3, .int a3)], [], (am_sa (am_sa (am_sa h (8 + 1) (upd (h.2.1 (8 + 1)) (Int32.toNatClampNeg (h.1 8 3)) a1)) (8 + 2) (upd (h.2.1 (8 + 2)) (Int32.toNatClampNeg (h.1 8 3)) a2)) (8 + 3) (upd (h.2.1 (8 + 3)) (Int32.toNatClampNeg (h.1 8 3)) a3)))) g5 rfl ?_
      refine Ev.steps (B := (57, [(0, .ref 8), (1, .int a1), (2, .int a2), (3, .int a3)], [], (am_sf (am_sa (am_sa (am_sa h (8 + 1) (upd (h.2.1 (8 + 1)) (Int32.toNatClampNeg (h.1 8 3)) a1)) (8 + 2) (upd (h.2.1 (8 + 2)) (Int32.toNatClampNeg (h.1 8 3)) a2)) (8 + 3) (upd (h.2.1 (8 + 3)) (Int32.toNatClampNeg (h.1 8 3)) a3)) 8 3 ((h.1 8 3) + 1)))) 6 rfl ?_
      cases hM
      exact Ev.ret rfl
    · have c2 := of_decide_eq_false c2
      rw [if_neg c2] at hM
      cases hM
      exact Ev.ret rfl
set_option maxRecDepth 10000 in
theorem E_B_X6_firstFault_95_7 (n : Nat) (vR : Int32) (hR : AH) (h : AH) (hM : B_X6_firstFault_95 n 7 h = some (vR, hR)) : Ev none mr_X6_firstFault (95, [(0, .ref 7)], [], h) (some (.int vR)) hR := by
  unfold B_X6_firstFault_95 at hM
  refine Ev.steps (B := (102, [(0, .ref 7)], [.int 3, .int ((h.1 7 4) - (h.1 7 4) / 4 * 4)], h)) 5 rfl ?_
  refine Ev.br (b := decide (¬ ((h.1 7 4) - (h.1 7 4) / 4 * 4) = 3)) rfl (fun c1 => ?_) (fun c1 => ?_)
  · have c1 := of_decide_eq_true c1
    rw [if_neg c1] at hM
    refine Ev.steps (B := (113, [(0, .ref 7)], [.int (h.1 7 4)], h)) 2 rfl ?_
    cases hM
    exact Ev.ret rfl
  · have c1 := Decidable.of_not_not (of_decide_eq_false c1)
    rw [if_pos c1] at hM
    refine Ev.steps (B := (113, [(0, .ref 7)], [.int (-1)], h)) 2 rfl ?_
    cases hM
    exact Ev.ret rfl
set_option maxRecDepth 10000 in
theorem E_L_X6_firstFault_2_7 (n : Nat) (vR : Int32) (hR : AH) : ∀ (m : Nat) (x1 : Int32) (h : AH), L_X6_firstFault_2 n 7 m x1 h = some (vR, hR) → Ev none mr_X6_firstFault (2, [(0, .ref 7), (1, .int x1)], [], h) (some (.int vR)) hR := by
  intro m
  induction m with
  | zero =>
    intro x1 h hM
    exact (am_no hM).elim
  | succ m ih =>
    intro x1 h hM
    rw [L_X6_firstFault_2] at hM
    refine Ev.steps (B := (7, [(0, .ref 7), (1, .int x1)], [.int (h.1 7 4), .int x1], h)) 3 rfl ?_
    refine Ev.br (b := decide ((h.1 7 4) ≤ x1)) rfl (fun c1 => ?_) (fun c1 => ?_)
    · have c1 := of_decide_eq_true c1
      rw [if_pos c1] at hM
      refine Ev.lv (lv := [(0, .ref 7)]) ⟨rfl, trivial⟩ rfl rfl ?_
      exact E_B_X6_firstFault_95_7 n vR hR h hM
    · have c1 := of_decide_eq_false c1
      rw [if_neg c1] at hM
      refine Ev.steps (B := (13, [(0, .ref 7), (1, .int x1)], [.int 31, .int x1], h)) 2 rfl ?_
      refine Ev.br (b := decide (31 ≤ x1)) rfl (fun c2 => ?_) (fun c2 => ?_)
      · have c2 := of_decide_eq_true c2
        rw [if_pos c2] at hM
        refine Ev.lv (lv := [(0, .ref 7)]) ⟨rfl, trivial⟩ rfl rfl ?_
        exact E_B_X6_firstFault_95_7 n vR hR h hM
      · have c2 := of_decide_eq_false c2
        rw [if_neg c2] at hM
        refine Ev.steps (B := (25, [(0, .ref 7), (1, .int x1)], [.int x1, .ref (7 + 5), .int (x1 - x1 / 4 * 4), .ref 7], h)) 7 rfl ?_
        obtain ⟨g3, hM⟩ := am_gS hM
        refine Ev.g (B := (26, [(0, .ref 7), (1, .int x1)], [.int ((h.2.1 (7 + 5)) (Int32.toNatClampNeg x1)), .int (x1 - x1 / 4 * 4), .ref 7], h)) g3 rfl ?_
        refine Ev.call (q := (mr_X6_fits, [.ref 7, .int (x1 - x1 / 4 * 4), .int ((h.2.1 (7 + 5)) (Int32.toNatClampNeg x1))], [])) rfl (E_X6_fits_7 (x1 - x1 / 4 * 4) ((h.2.1 (7 + 5)) (Int32.toNatClampNeg x1)) h) ?_
        refine Ev.br (b := decide (¬ (M_X6_fits 7 (x1 - x1 / 4 * 4) ((h.2.1 (7 + 5)) (Int32.toNatClampNeg x1)) h) = 0)) rfl (fun c4 => ?_) (fun c4 => ?_)
        · have c4 := of_decide_eq_true c4
          rw [if_neg c4] at hM
          refine Ev.steps (B := (38, [(0, .ref 7), (1, .int x1)], [.int 2, .int (x1 - x1 / 4 * 4)], h)) 4 rfl ?_
          refine Ev.br (b := decide (¬ (x1 - x1 / 4 * 4) = 2)) rfl (fun c5 => ?_) (fun c5 => ?_)
          · have c5 := of_decide_eq_true c5
            rw [if_neg c5] at hM
            refine Ev.steps (B := (2, [(1, .int (x1 + 1)), (0, .ref 7)], [], h)) 2 rfl ?_
            refine Ev.lv (lv := [(0, .ref 7), (1, .int (x1 + 1))]) ⟨rfl, rfl, trivial⟩ rfl rfl ?_
            exact ih (x1 + 1) h hM
          · have c5 := Decidable.of_not_not (of_decide_eq_false c5)
            rw [if_pos c5] at hM
            refine Ev.steps (B := (43, [(0, .ref 7), (1, .int x1)], [.int 2, .int x1], h)) 2 rfl ?_
            refine Ev.br (b := decide (x1 < 2)) rfl (fun c6 => ?_) (fun c6 => ?_)
            · have c6 := of_decide_eq_true c6
              rw [if_pos c6] at hM
              refine Ev.steps (B := (2, [(1, .int (x1 + 1)), (0, .ref 7)], [], h)) 2 rfl ?_
              refine Ev.lv (lv := [(0, .ref 7), (1, .int (x1 + 1))]) ⟨rfl, rfl, trivial⟩ rfl rfl ?_
              exact ih (x1 + 1) h hM
            · have c6 := of_decide_eq_false c6
              rw [if_neg c6] at hM
              refine Ev.steps (B := (57, [(0, .ref 7), (1, .int x1)], [.int (x1 - 2), .ref (7 + 5), .ref (7 + 1)], h)) 7 rfl ?_
              obtain ⟨g7, hM⟩ := am_gS hM
              refine Ev.g (B := (58, [(0, .ref 7), (1, .int x1)], [.int ((h.2.1 (7 + 5)) (Int32.toNatClampNeg (x1 - 2))), .ref (7 + 1)], h)) g7 rfl ?_
              refine Ev.steps (B := (72, [(0, .ref 7), (1, .int x1)], [.int (x1 - 1), .ref (7 + 5), .ref (tx_s 7), .int (((h.2.1 (7 + 5)) (Int32.toNatClampNeg (x1 - 2))) - 97), .ref (7 + 1)], h)) 9 rfl ?_
              obtain ⟨g8, hM⟩ := am_gS hM
              refine Ev.g (B := (73, [(0, .ref 7), (1, .int x1)], [.int ((h.2.1 (7 + 5)) (Int32.toNatClampNeg (x1 - 1))), .ref (tx_s 7), .int (((h.2.1 (7 + 5)) (Int32.toNatClampNeg (x1 - 2))) - 97), .ref (7 + 1)], h)) g8 rfl ?_
              refine Ev.steps (B := (74, [(0, .ref 7), (1, .int x1)], [.int ((Int32.toUInt32 ((h.2.1 (7 + 5)) (Int32.toNatClampNeg (x1 - 1))) % 65536).toInt32), .ref (tx_s 7), .int (((h.2.1 (7 + 5)) (Int32.toNatClampNeg (x1 - 2))) - 97), .ref (7 + 1)], h)) 1 rfl ?_
              refine Ev.call (q := (mr_J10_indexOf_1, [.ref (tx_s 7), .int ((Int32.toUInt32 ((h.2.1 (7 + 5)) (Int32.toNatClampNeg (x1 - 1))) % 65536).toInt32)], [.int (((h.2.1 (7 + 5)) (Int32.toNatClampNeg (x1 - 2))) - 97), .ref (7 + 1)])) rfl (E_indexOf_201 ((Int32.toUInt32 ((h.2.1 (7 + 5)) (Int32.toNatClampNeg (x1 - 1))) % 65536).toInt32) h) ?_
              refine Ev.steps (B := (82, [(0, .ref 7), (1, .int x1)], [.int x1, .ref (7 + 5), .int (kx (tx_s 7) ((Int32.toUInt32 ((h.2.1 (7 + 5)) (Int32.toNatClampNeg (x1 - 1))) % 65536).toInt32)), .int (((h.2.1 (7 + 5)) (Int32.toNatClampNeg (x1 - 2))) - 97), .ref (7 + 1)], h)) 3 rfl ?_
              obtain ⟨g9, hM⟩ := am_gS hM
              refine Ev.g (B := (83, [(0, .ref 7), (1, .int x1)], [.int ((h.2.1 (7 + 5)) (Int32.toNatClampNeg x1)), .int (kx (tx_s 7) ((Int32.toUInt32 ((h.2.1 (7 + 5)) (Int32.toNatClampNeg (x1 - 1))) % 65536).toInt32)), .int (((h.2.1 (7 + 5)) (Int32.toNatClampNeg (x1 - 2))) - 97), .ref (7 + 1)], h)) g9 rfl ?_
              refine Ev.steps (B := (86, [(0, .ref 7), (1, .int x1)], [.int (((h.2.1 (7 + 5)) (Int32.toNatClampNeg x1)) - 48), .int (kx (tx_s 7) ((Int32.toUInt32 ((h.2.1 (7 + 5)) (Int32.toNatClampNeg (x1 - 1))) % 65536).toInt32)), .int (((h.2.1 (7 + 5)) (Int32.toNatClampNeg (x1 - 2))) - 97), .ref (7 + 1)], h)) 2 rfl ?_
              obtain ⟨h1, e10, hM⟩ := am_vS hM
              refine Ev.call (q := (mr_X1_add, [.ref (7 + 1), .int (((h.2.1 (7 + 5)) (Int32.toNatClampNeg (x1 - 2))) - 97), .int (kx (tx_s 7) ((Int32.toUInt32 ((h.2.1 (7 + 5)) (Int32.toNatClampNeg (x1 - 1))) % 65536).toInt32)), .int (((h.2.1 (7 + 5)) (Int32.toNatClampNeg x1)) - 48)], [])) rfl (E_X1_add_8 (((h.2.1 (7 + 5)) (Int32.toNatClampNeg (x1 - 2))) - 97) (kx (tx_s 7) ((Int32.toUInt32 ((h.2.1 (7 + 5)) (Int32.toNatClampNeg (x1 - 1))) % 65536).toInt32)) (((h.2.1 (7 + 5)) (Int32.toNatClampNeg x1)) - 48) h h1 e10) ?_
              refine Ev.steps (B := (2, [(1, .int (x1 + 1)), (0, .ref 7)], [], h1)) 2 rfl ?_
              refine Ev.lv (lv := [(0, .ref 7), (1, .int (x1 + 1))]) ⟨rfl, rfl, trivial⟩ rfl rfl ?_
              exact ih (x1 + 1) h1 hM
        · have c4 := Decidable.of_not_not (of_decide_eq_false c4)
          rw [if_pos c4] at hM
          refine Ev.steps (B := (33, [(0, .ref 7), (1, .int x1)], [.int x1], h)) 1 rfl ?_
          cases hM
          exact Ev.ret rfl
set_option maxRecDepth 10000 in
theorem E_X6_firstFault_7 (n : Nat) (h : AH) (vR : Int32) (hR : AH) (hM : M_X6_firstFault n 7 h = some (vR, hR)) : Ev none mr_X6_firstFault (0, [(0, .ref 7)], [], h) (some (.int vR)) hR := by
  unfold M_X6_firstFault at hM
  refine Ev.steps (B := (2, [(1, .int 0), (0, .ref 7)], [], h)) 2 rfl ?_
  refine Ev.lv (lv := [(0, .ref 7), (1, .int 0)]) ⟨rfl, rfl, trivial⟩ rfl rfl ?_
  exact E_L_X6_firstFault_2_7 n vR hR n 0 h hM
set_option maxRecDepth 10000 in
theorem E_B_X6_scan_24_7 (n : Nat) (hR : AH) (y0 : Int32) (h : AH) (hM : B_X6_scan_24 n 7 y0 h = some hR) : Ev none mr_X6_scan (24, [(0, .ref 7)], [.int y0, .ref 7], h) none hR := by
  unfold B_X6_scan_24 at hM
  refine Ev.steps (B := (32, [(0, .ref 7)], [.int (-1), .int y0], (am_sf h 7 5 y0))) 4 rfl ?_
  refine Ev.br (b := decide (y0 = (-1))) rfl (fun c1 => ?_) (fun c1 => ?_)
  · have c1 := of_decide_eq_true c1
    rw [if_pos c1] at hM
    cases hM
    exact Ev.ret rfl
  · have c1 := of_decide_eq_false c1
    rw [if_neg c1] at hM
    refine Ev.steps (B := (43, [(0, .ref 7)], [], (am_sf (am_sf h 7 5 y0) (7 + 1) 3 0))) 4 rfl ?_
    cases hM
    exact Ev.ret rfl
set_option maxRecDepth 10000 in
theorem E_X6_scan_7 (n : Nat) (h : AH) (hR : AH) (hM : M_X6_scan n 7 h = some hR) : Ev none mr_X6_scan (0, [(0, .ref 7)], [], h) none hR := by
  unfold M_X6_scan at hM
  refine Ev.steps (B := (13, [(0, .ref 7)], [.int (h.1 7 4), .ref 7], (am_sf h (7 + 1) 3 0))) 7 rfl ?_
  refine Ev.br (b := decide (¬ (h.1 7 4) = 0)) rfl (fun c1 => ?_) (fun c1 => ?_)
  · have c1 := of_decide_eq_true c1
    rw [if_neg c1] at hM
    refine Ev.steps (B := (21, [(0, .ref 7)], [.ref 7, .ref 7], (am_sf h (7 + 1) 3 0))) 1 rfl ?_
    obtain ⟨v2, h1, e2, hM⟩ := am_bS hM
    refine Ev.call (q := (mr_X6_firstFault, [.ref 7], [.ref 7])) rfl (E_X6_firstFault_7 n (am_sf h (7 + 1) 3 0) v2 h1 e2) ?_
    exact E_B_X6_scan_24_7 n hR v2 h1 hM
  · have c1 := Decidable.of_not_not (of_decide_eq_false c1)
    rw [if_pos c1] at hM
    refine Ev.steps (B := (24, [(0, .ref 7)], [.int (-1), .ref 7], (am_sf h (7 + 1) 3 0))) 2 rfl ?_
    exact E_B_X6_scan_24_7 n hR (-1) (am_sf h (7 + 1) 3 0) hM
set_option maxRecDepth 10000 in
theorem E_X6_append_7 (n : Nat) (a1 : Int32) (h : AH) (hR : AH) (hM : M_X6_append n 7 a1 h = some hR) : Ev none mr_X6_append (0, [(0, .ref 7), (1, .int a1)], [], h) none hR := by
  unfold M_X6_append at hM
  refine Ev.steps (B := (4, [(0, .ref 7), (1, .int a1)], [.int (h.1 7 4)], h)) 2 rfl ?_
  refine Ev.br (b := decide ((h.1 7 4) < 0)) rfl (fun c1 => ?_) (fun c1 => ?_)
  · have c1 := of_decide_eq_true c1
    rw [if_pos c1] at hM
    cases hM
    exact Ev.ret rfl
  · have c1 := of_decide_eq_false c1
    rw [if_neg c1] at hM
    refine Ev.steps (B := (13, [(0, .ref 7), (1, .int a1)], [.int 31, .int (h.1 7 4)], h)) 3 rfl ?_
    refine Ev.br (b := decide ((h.1 7 4) < 31)) rfl (fun c2 => ?_) (fun c2 => ?_)
    · have c2 := of_decide_eq_true c2
      rw [if_pos c2] at hM
      refine Ev.steps (B := (26, [(0, .ref 7), (1, .int a1)], [.int a1, .int (h.1 7 4), .ref (7 + 5)], h)) 5 rfl ?_
      obtain ⟨g3, hM⟩ := am_gS hM
      refine Ev.g (B := (27, [(0, .ref 7), (1, .int a1)], [], (am_sa h (7 + 5) (upd (h.2.1 (7 + 5)) (Int32.toNatClampNeg (h.1 7 4)) a1)))) g3 rfl ?_
      refine Ev.steps (B := (38, [(0, .ref 7), (1, .int a1)], [.ref 7], (am_sf (am_sa h (7 + 5) (upd (h.2.1 (7 + 5)) (Int32.toNatClampNeg (h.1 7 4)) a1)) 7 4 ((h.1 7 4) + 1)))) 7 rfl ?_
      obtain ⟨h1, e4, hM⟩ := am_vS hM
      refine Ev.call (q := (mr_X6_scan, [.ref 7], [])) rfl (E_X6_scan_7 n (am_sf (am_sa h (7 + 5) (upd (h.2.1 (7 + 5)) (Int32.toNatClampNeg (h.1 7 4)) a1)) 7 4 ((h.1 7 4) + 1)) h1 e4) ?_
      cases hM
      exact Ev.ret rfl
    · have c2 := of_decide_eq_false c2
      rw [if_neg c2] at hM
      cases hM
      exact Ev.ret rfl
set_option maxRecDepth 10000 in
theorem E_B_X8_type_6_7 (n : Nat) (vR : Int32) (hR : AH) (x2 : Int32) (h : AH) (hM : B_X8_type_6 n x2 7 h = some (vR, hR)) : Ev none mr_X8_type (6, [(0, .ref 0), (2, .int x2), (3, .ref 7)], [], h) (some (.int vR)) hR := by
  unfold B_X8_type_6 at hM
  refine Ev.steps (B := (14, [(0, .ref 0), (2, .int x2), (3, .ref 7)], [.int 255, .int x2], h)) 4 rfl ?_
  refine Ev.call (q := (mr_X8_within, [.int x2, .int 255], [])) rfl (E_X8_within x2 255 h) ?_
  refine Ev.br (b := decide (¬ (M_X8_within x2 255) = 0)) rfl (fun c1 => ?_) (fun c1 => ?_)
  · have c1 := of_decide_eq_true c1
    rw [if_neg c1] at hM
    refine Ev.steps (B := (29, [(0, .ref 0), (2, .int x2), (3, .ref 7)], [.int 31, .int (h.1 7 4)], h)) 3 rfl ?_
    refine Ev.br (b := decide ((h.1 7 4) < 31)) rfl (fun c2 => ?_) (fun c2 => ?_)
    · have c2 := of_decide_eq_true c2
      rw [if_pos c2] at hM
      refine Ev.steps (B := (37, [(0, .ref 0), (2, .int x2), (3, .ref 7)], [.int x2, .ref 7], h)) 2 rfl ?_
      obtain ⟨h1, e3, hM⟩ := am_vS hM
      refine Ev.call (q := (mr_X6_append, [.ref 7, .int x2], [])) rfl (E_X6_append_7 n x2 h h1 e3) ?_
      refine Ev.steps (B := (41, [(0, .ref 0), (2, .int x2), (3, .ref 7)], [.ref 0], h1)) 1 rfl ?_
      obtain ⟨h2, e4, hM⟩ := am_vS hM
      refine Ev.call (q := (mr_X8_changed, [.ref 0], [])) rfl (E_X8_changed_0 n h1 h2 e4) ?_
      refine Ev.steps (B := (48, [(0, .ref 0), (2, .int x2), (3, .ref 7)], [.int (h2.1 7 4)], h2)) 2 rfl ?_
      cases hM
      exact Ev.ret rfl
    · have c2 := of_decide_eq_false c2
      rw [if_neg c2] at hM
      refine Ev.steps (B := (34, [(0, .ref 0), (2, .int x2), (3, .ref 7)], [.int (-4)], h)) 1 rfl ?_
      cases hM
      exact Ev.ret rfl
  · have c1 := Decidable.of_not_not (of_decide_eq_false c1)
    rw [if_pos c1] at hM
    refine Ev.steps (B := (22, [(0, .ref 0), (2, .int x2), (3, .ref 7)], [.int (-2)], h)) 1 rfl ?_
    cases hM
    exact Ev.ret rfl
def M_X8_type (n : Nat) (a1 : Int32) (a2 : Int32) (h : AH) : Option (Int32 × AH) :=
  if a1 = 0 then
    B_X8_type_6 n a2 1 h
  else
  if a1 = 1 then
    B_X8_type_6 n a2 7 h
  else
    some ((-2), h)
set_option maxRecDepth 10000 in
theorem E_X8_type_0 (n : Nat) (a1 : Int32) (a2 : Int32) (h : AH) (vR : Int32) (hR : AH) (hM : M_X8_type n a1 a2 h = some (vR, hR)) : Ev none mr_X8_type (0, [(0, .ref 0), (1, .int a1), (2, .int a2)], [], h) (some (.int vR)) hR := by
  unfold M_X8_type at hM
  refine Ev.steps (B := (2, [(0, .ref 0), (1, .int a1), (2, .int a2)], [.int a1, .ref 0], h)) 2 rfl ?_
  by_cases c1 : a1 = 0
  · rw [if_pos c1] at hM
    refine Ev.call (q := (mr_X8_textAt, [.ref 0, .int a1], [])) rfl (E_X8_textAt_1 a1 h c1) ?_
    refine Ev.steps (B := (6, [(3, .ref 1), (0, .ref 0), (1, .int a1), (2, .int a2)], [], h)) 1 rfl ?_
    refine Ev.lv (lv := [(0, .ref 0), (2, .int a2), (3, .ref 1)]) ⟨rfl, rfl, rfl, trivial⟩ rfl rfl ?_
    exact E_B_X8_type_6_1 n vR hR a2 h hM
  · rw [if_neg c1] at hM
    by_cases c2 : a1 = 1
    · rw [if_pos c2] at hM
      refine Ev.call (q := (mr_X8_textAt, [.ref 0, .int a1], [])) rfl (E_X8_textAt_7 a1 h c2) ?_
      refine Ev.steps (B := (6, [(3, .ref 7), (0, .ref 0), (1, .int a1), (2, .int a2)], [], h)) 1 rfl ?_
      refine Ev.lv (lv := [(0, .ref 0), (2, .int a2), (3, .ref 7)]) ⟨rfl, rfl, rfl, trivial⟩ rfl rfl ?_
      exact E_B_X8_type_6_7 n vR hR a2 h hM
    · rw [if_neg c2] at hM
      refine Ev.call (q := (mr_X8_textAt, [.ref 0, .int a1], [])) rfl (E_X8_textAt_d a1 h c1 c2) ?_
      refine Ev.steps (B := (22, [(3, .null), (0, .ref 0), (1, .int a1), (2, .int a2)], [.int (-2)], h)) 4 rfl ?_
      cases hM
      exact Ev.ret rfl
def M_X9_in (a1 : Int32) (a2 : Int32) (a3 : Int32) : Int32 :=
  if a1 < a2 then
    0
  else
    if a3 < a1 then
      0
    else
      1
set_option maxRecDepth 10000 in
theorem E_X9_in (a1 : Int32) (a2 : Int32) (a3 : Int32) (h : AH) : Ev none mr_X9_in (0, [(0, .int a1), (1, .int a2), (2, .int a3)], [], h) (some (.int (M_X9_in a1 a2 a3))) h := by
  unfold M_X9_in
  refine Ev.steps (B := (2, [(0, .int a1), (1, .int a2), (2, .int a3)], [.int a2, .int a1], h)) 2 rfl ?_
  refine Ev.br (b := decide (a1 < a2)) rfl (fun c1 => ?_) (fun c1 => ?_)
  · have c1 := of_decide_eq_true c1
    rw [if_pos c1]
    refine Ev.steps (B := (15, [(0, .int a1), (1, .int a2), (2, .int a3)], [.int 0], h)) 1 rfl ?_
    exact Ev.ret rfl
  · have c1 := of_decide_eq_false c1
    rw [if_neg c1]
    refine Ev.steps (B := (7, [(0, .int a1), (1, .int a2), (2, .int a3)], [.int a3, .int a1], h)) 2 rfl ?_
    refine Ev.br (b := decide (a3 < a1)) rfl (fun c2 => ?_) (fun c2 => ?_)
    · have c2 := of_decide_eq_true c2
      rw [if_pos c2]
      refine Ev.steps (B := (15, [(0, .int a1), (1, .int a2), (2, .int a3)], [.int 0], h)) 1 rfl ?_
      exact Ev.ret rfl
    · have c2 := of_decide_eq_false c2
      rw [if_neg c2]
      refine Ev.steps (B := (15, [(0, .int a1), (1, .int a2), (2, .int a3)], [.int 1], h)) 2 rfl ?_
      exact Ev.ret rfl
set_option maxRecDepth 10000 in
theorem Z_X9_in (a1 : Int32) (a2 : Int32) (a3 : Int32) : am_b01 (M_X9_in a1 a2 a3) = true := by
  unfold M_X9_in
  split
  · rfl
  · split
    · rfl
    · rfl
def M_X9_isTwo (a1 : Int32) : Int32 :=
  (M_X9_in a1 0 1)
set_option maxRecDepth 10000 in
theorem E_X9_isTwo (a1 : Int32) (h : AH) : Ev none mr_X9_isTwo (0, [(0, .int a1)], [], h) (some (.int (M_X9_isTwo a1))) h := by
  unfold M_X9_isTwo
  refine Ev.steps (B := (3, [(0, .int a1)], [.int 1, .int 0, .int a1], h)) 3 rfl ?_
  refine Ev.call (q := (mr_X9_in, [.int a1, .int 0, .int 1], [])) rfl (E_X9_in a1 0 1 h) ?_
  exact Ev.retg (b := am_b01 (M_X9_in a1 0 1)) (by apply Z_X9_in) rfl
set_option maxRecDepth 10000 in
theorem Z_X9_isTwo (a1 : Int32) : am_b01 (M_X9_isTwo a1) = true := by
  unfold M_X9_isTwo
  apply Z_X9_in
def M_X9_type (a1 : Int32) (a2 : Int32) (h : AH) : Option (Int32 × AH) :=
  if (M_X9_isTwo a1) = 0 then
    some ((-2), h)
  else
    if (M_X9_in a2 0 255) = 0 then
      some ((-2), h)
    else
      bif (am_in a1 2) then
        if ((h.2.1 76) (Int32.toNatClampNeg a1)) = 31 then
          some ((-4), h)
        else
          bif (am_in a1 2) then
            bif (am_in ((31 * a1) + ((h.2.1 76) (Int32.toNatClampNeg a1))) 62) then
              bif (am_in a1 2) then
                bif (am_in a1 2) then
                  bif (am_in a1 2) then
                    some (((upd (h.2.1 76) (Int32.toNatClampNeg a1) (((h.2.1 76) (Int32.toNatClampNeg a1)) + 1)) (Int32.toNatClampNeg a1)), (am_sa (am_sa h 77 (upd (h.2.1 77) (Int32.toNatClampNeg ((31 * a1) + ((h.2.1 76) (Int32.toNatClampNeg a1)))) a2)) 76 (upd (h.2.1 76) (Int32.toNatClampNeg a1) (((h.2.1 76) (Int32.toNatClampNeg a1)) + 1))))
                  else none
                else none
              else none
            else none
          else none
      else none
set_option maxRecDepth 10000 in
theorem E_X9_type_75 (a1 : Int32) (a2 : Int32) (h : AH) (vR : Int32) (hR : AH) (hM : M_X9_type a1 a2 h = some (vR, hR)) : Ev none mr_X9_type (0, [(0, .ref 75), (1, .int a1), (2, .int a2)], [], h) (some (.int vR)) hR := by
  unfold M_X9_type at hM
  refine Ev.steps (B := (1, [(0, .ref 75), (1, .int a1), (2, .int a2)], [.int a1], h)) 1 rfl ?_
  refine Ev.call (q := (mr_X9_isTwo, [.int a1], [])) rfl (E_X9_isTwo a1 h) ?_
  refine Ev.br (b := decide ((M_X9_isTwo a1) = 0)) rfl (fun c1 => ?_) (fun c1 => ?_)
  · have c1 := of_decide_eq_true c1
    rw [if_pos c1] at hM
    refine Ev.steps (B := (20, [(0, .ref 75), (1, .int a1), (2, .int a2)], [.int (-2)], h)) 1 rfl ?_
    cases hM
    exact Ev.ret rfl
  · have c1 := of_decide_eq_false c1
    rw [if_neg c1] at hM
    refine Ev.steps (B := (12, [(0, .ref 75), (1, .int a1), (2, .int a2)], [.int 255, .int 0, .int a2], h)) 3 rfl ?_
    refine Ev.call (q := (mr_X9_in, [.int a2, .int 0, .int 255], [])) rfl (E_X9_in a2 0 255 h) ?_
    refine Ev.br (b := decide (¬ (M_X9_in a2 0 255) = 0)) rfl (fun c2 => ?_) (fun c2 => ?_)
    · have c2 := of_decide_eq_true c2
      rw [if_neg c2] at hM
      refine Ev.steps (B := (26, [(0, .ref 75), (1, .int a1), (2, .int a2)], [.int a1, .ref 76], h)) 3 rfl ?_
      obtain ⟨g3, hM⟩ := am_gS hM
      refine Ev.g (B := (27, [(0, .ref 75), (1, .int a1), (2, .int a2)], [.int ((h.2.1 76) (Int32.toNatClampNeg a1))], h)) g3 rfl ?_
      refine Ev.steps (B := (29, [(0, .ref 75), (1, .int a1), (2, .int a2)], [.int 31, .int ((h.2.1 76) (Int32.toNatClampNeg a1))], h)) 1 rfl ?_
      refine Ev.br (b := decide (¬ ((h.2.1 76) (Int32.toNatClampNeg a1)) = 31)) rfl (fun c4 => ?_) (fun c4 => ?_)
      · have c4 := of_decide_eq_true c4
        rw [if_neg c4] at hM
        refine Ev.steps (B := (48, [(0, .ref 75), (1, .int a1), (2, .int a2)], [.int a1, .ref 76, .int (31 * a1), .ref 77], h)) 8 rfl ?_
        obtain ⟨g5, hM⟩ := am_gS hM
        refine Ev.g (B := (49, [(0, .ref 75), (1, .int a1), (2, .int a2)], [.int ((h.2.1 76) (Int32.toNatClampNeg a1)), .int (31 * a1), .ref 77], h)) g5 rfl ?_
        refine Ev.steps (B := (51, [(0, .ref 75), (1, .int a1), (2, .int a2)], [.int a2, .int ((31 * a1) + ((h.2.1 76) (Int32.toNatClampNeg a1))), .ref 77], h)) 2 rfl ?_
        obtain ⟨g6, hM⟩ := am_gS hM
        refine Ev.g (B := (52, [(0, .ref 75), (1, .int a1), (2, .int a2)], [], (am_sa h 77 (upd (h.2.1 77) (Int32.toNatClampNeg ((31 * a1) + ((h.2.1 76) (Int32.toNatClampNeg a1)))) a2)))) g6 rfl ?_
        refine Ev.steps (B := (58, [(0, .ref 75), (1, .int a1), (2, .int a2)], [.int a1, .ref 76, .int a1, .ref 76], (am_sa h 77 (upd (h.2.1 77) (Int32.toNatClampNeg ((31 * a1) + ((h.2.1 76) (Int32.toNatClampNeg a1)))) a2)))) 4 rfl ?_
        obtain ⟨g7, hM⟩ := am_gS hM
        refine Ev.g (B := (59, [(0, .ref 75), (1, .int a1), (2, .int a2)], [.int ((h.2.1 76) (Int32.toNatClampNeg a1)), .int a1, .ref 76], (am_sa h 77 (upd (h.2.1 77) (Int32.toNatClampNeg ((31 * a1) + ((h.2.1 76) (Int32.toNatClampNeg a1)))) a2)))) g7 rfl ?_
        refine Ev.steps (B := (61, [(0, .ref 75), (1, .int a1), (2, .int a2)], [.int (((h.2.1 76) (Int32.toNatClampNeg a1)) + 1), .int a1, .ref 76], (am_sa h 77 (upd (h.2.1 77) (Int32.toNatClampNeg ((31 * a1) + ((h.2.1 76) (Int32.toNatClampNeg a1)))) a2)))) 2 rfl ?_
        obtain ⟨g8, hM⟩ := am_gS hM
        refine Ev.g (B := (62, [(0, .ref 75), (1, .int a1), (2, .int a2)], [], (am_sa (am_sa h 77 (upd (h.2.1 77) (Int32.toNatClampNeg ((31 * a1) + ((h.2.1 76) (Int32.toNatClampNeg a1)))) a2)) 76 (upd (h.2.1 76) (Int32.toNatClampNeg a1) (((h.2.1 76) (Int32.toNatClampNeg a1)) + 1))))) g8 rfl ?_
        refine Ev.steps (B := (67, [(0, .ref 75), (1, .int a1), (2, .int a2)], [.int a1, .ref 76], (am_sa (am_sa h 77 (upd (h.2.1 77) (Int32.toNatClampNeg ((31 * a1) + ((h.2.1 76) (Int32.toNatClampNeg a1)))) a2)) 76 (upd (h.2.1 76) (Int32.toNatClampNeg a1) (((h.2.1 76) (Int32.toNatClampNeg a1)) + 1))))) 3 rfl ?_
        obtain ⟨g9, hM⟩ := am_gS hM
        refine Ev.g (B := (68, [(0, .ref 75), (1, .int a1), (2, .int a2)], [.int ((upd (h.2.1 76) (Int32.toNatClampNeg a1) (((h.2.1 76) (Int32.toNatClampNeg a1)) + 1)) (Int32.toNatClampNeg a1))], (am_sa (am_sa h 77 (upd (h.2.1 77) (Int32.toNatClampNeg ((31 * a1) + ((h.2.1 76) (Int32.toNatClampNeg a1)))) a2)) 76 (upd (h.2.1 76) (Int32.toNatClampNeg a1) (((h.2.1 76) (Int32.toNatClampNeg a1)) + 1))))) g9 rfl ?_
        cases hM
        exact Ev.ret rfl
      · have c4 := Decidable.of_not_not (of_decide_eq_false c4)
        rw [if_pos c4] at hM
        refine Ev.steps (B := (34, [(0, .ref 75), (1, .int a1), (2, .int a2)], [.int (-4)], h)) 1 rfl ?_
        cases hM
        exact Ev.ret rfl
    · have c2 := Decidable.of_not_not (of_decide_eq_false c2)
      rw [if_pos c2] at hM
      refine Ev.steps (B := (20, [(0, .ref 75), (1, .int a1), (2, .int a2)], [.int (-2)], h)) 1 rfl ?_
      cases hM
      exact Ev.ret rfl
def M_X6_shorten (n : Nat) (r0 : Nat) (a1 : Int32) (h : AH) : Option AH :=
  am_v (M_X6_scan n r0 (am_sf h r0 4 a1)) fun h1 =>
  some h1
set_option maxRecDepth 10000 in
theorem E_X6_shorten_1 (n : Nat) (a1 : Int32) (h : AH) (hR : AH) (hM : M_X6_shorten n 1 a1 h = some hR) : Ev none mr_X6_shorten (0, [(0, .ref 1), (1, .int a1)], [], h) none hR := by
  unfold M_X6_shorten at hM
  refine Ev.steps (B := (6, [(0, .ref 1), (1, .int a1)], [.ref 1], (am_sf h 1 4 a1))) 4 rfl ?_
  obtain ⟨h1, e1, hM⟩ := am_vS hM
  refine Ev.call (q := (mr_X6_scan, [.ref 1], [])) rfl (E_X6_scan_1 n (am_sf h 1 4 a1) h1 e1) ?_
  cases hM
  exact Ev.ret rfl
def B_X8_wipe_6 (n : Nat) (q2 : Nat) (h : AH) : Option (Int32 × AH) :=
  am_v (M_X6_shorten n q2 0 h) fun h1 =>
  am_v (M_X8_changed n h1) fun h2 =>
  some ((h.1 q2 4), h2)
set_option maxRecDepth 10000 in
theorem E_B_X8_wipe_6_1 (n : Nat) (vR : Int32) (hR : AH) (h : AH) (hM : B_X8_wipe_6 n 1 h = some (vR, hR)) : Ev none mr_X8_wipe (6, [(0, .ref 0), (2, .ref 1)], [], h) (some (.int vR)) hR := by
  unfold B_X8_wipe_6 at hM
  refine Ev.steps (B := (20, [(3, .int (h.1 1 4)), (0, .ref 0), (2, .ref 1)], [.int 0, .ref 1], h)) 7 rfl ?_
  obtain ⟨h1, e1, hM⟩ := am_vS hM
  refine Ev.call (q := (mr_X6_shorten, [.ref 1, .int 0], [])) rfl (E_X6_shorten_1 n 0 h h1 e1) ?_
  refine Ev.steps (B := (24, [(3, .int (h.1 1 4)), (0, .ref 0), (2, .ref 1)], [.ref 0], h1)) 1 rfl ?_
  obtain ⟨h2, e2, hM⟩ := am_vS hM
  refine Ev.call (q := (mr_X8_changed, [.ref 0], [])) rfl (E_X8_changed_0 n h1 h2 e2) ?_
  refine Ev.steps (B := (28, [(3, .int (h.1 1 4)), (0, .ref 0), (2, .ref 1)], [.int (h.1 1 4)], h2)) 1 rfl ?_
  cases hM
  exact Ev.ret rfl
set_option maxRecDepth 10000 in
theorem E_X6_shorten_7 (n : Nat) (a1 : Int32) (h : AH) (hR : AH) (hM : M_X6_shorten n 7 a1 h = some hR) : Ev none mr_X6_shorten (0, [(0, .ref 7), (1, .int a1)], [], h) none hR := by
  unfold M_X6_shorten at hM
  refine Ev.steps (B := (6, [(0, .ref 7), (1, .int a1)], [.ref 7], (am_sf h 7 4 a1))) 4 rfl ?_
  obtain ⟨h1, e1, hM⟩ := am_vS hM
  refine Ev.call (q := (mr_X6_scan, [.ref 7], [])) rfl (E_X6_scan_7 n (am_sf h 7 4 a1) h1 e1) ?_
  cases hM
  exact Ev.ret rfl
set_option maxRecDepth 10000 in
theorem E_B_X8_wipe_6_7 (n : Nat) (vR : Int32) (hR : AH) (h : AH) (hM : B_X8_wipe_6 n 7 h = some (vR, hR)) : Ev none mr_X8_wipe (6, [(0, .ref 0), (2, .ref 7)], [], h) (some (.int vR)) hR := by
  unfold B_X8_wipe_6 at hM
  refine Ev.steps (B := (20, [(3, .int (h.1 7 4)), (0, .ref 0), (2, .ref 7)], [.int 0, .ref 7], h)) 7 rfl ?_
  obtain ⟨h1, e1, hM⟩ := am_vS hM
  refine Ev.call (q := (mr_X6_shorten, [.ref 7, .int 0], [])) rfl (E_X6_shorten_7 n 0 h h1 e1) ?_
  refine Ev.steps (B := (24, [(3, .int (h.1 7 4)), (0, .ref 0), (2, .ref 7)], [.ref 0], h1)) 1 rfl ?_
  obtain ⟨h2, e2, hM⟩ := am_vS hM
  refine Ev.call (q := (mr_X8_changed, [.ref 0], [])) rfl (E_X8_changed_0 n h1 h2 e2) ?_
  refine Ev.steps (B := (28, [(3, .int (h.1 7 4)), (0, .ref 0), (2, .ref 7)], [.int (h.1 7 4)], h2)) 1 rfl ?_
  cases hM
  exact Ev.ret rfl
def M_X8_wipe (n : Nat) (a1 : Int32) (h : AH) : Option (Int32 × AH) :=
  if a1 = 0 then
    B_X8_wipe_6 n 1 h
  else
  if a1 = 1 then
    B_X8_wipe_6 n 7 h
  else
    some ((-2), h)
set_option maxRecDepth 10000 in
theorem E_X8_wipe_0 (n : Nat) (a1 : Int32) (h : AH) (vR : Int32) (hR : AH) (hM : M_X8_wipe n a1 h = some (vR, hR)) : Ev none mr_X8_wipe (0, [(0, .ref 0), (1, .int a1)], [], h) (some (.int vR)) hR := by
  unfold M_X8_wipe at hM
  refine Ev.steps (B := (2, [(0, .ref 0), (1, .int a1)], [.int a1, .ref 0], h)) 2 rfl ?_
  by_cases c1 : a1 = 0
  · rw [if_pos c1] at hM
    refine Ev.call (q := (mr_X8_textAt, [.ref 0, .int a1], [])) rfl (E_X8_textAt_1 a1 h c1) ?_
    refine Ev.steps (B := (6, [(2, .ref 1), (0, .ref 0), (1, .int a1)], [], h)) 1 rfl ?_
    refine Ev.lv (lv := [(0, .ref 0), (2, .ref 1)]) ⟨rfl, rfl, trivial⟩ rfl rfl ?_
    exact E_B_X8_wipe_6_1 n vR hR h hM
  · rw [if_neg c1] at hM
    by_cases c2 : a1 = 1
    · rw [if_pos c2] at hM
      refine Ev.call (q := (mr_X8_textAt, [.ref 0, .int a1], [])) rfl (E_X8_textAt_7 a1 h c2) ?_
      refine Ev.steps (B := (6, [(2, .ref 7), (0, .ref 0), (1, .int a1)], [], h)) 1 rfl ?_
      refine Ev.lv (lv := [(0, .ref 0), (2, .ref 7)]) ⟨rfl, rfl, trivial⟩ rfl rfl ?_
      exact E_B_X8_wipe_6_7 n vR hR h hM
    · rw [if_neg c2] at hM
      refine Ev.call (q := (mr_X8_textAt, [.ref 0, .int a1], [])) rfl (E_X8_textAt_d a1 h c1 c2) ?_
      refine Ev.steps (B := (12, [(2, .null), (0, .ref 0), (1, .int a1)], [.int (-2)], h)) 4 rfl ?_
      cases hM
      exact Ev.ret rfl
def M_X9_wipe (a1 : Int32) (h : AH) : Option (Int32 × AH) :=
  if (M_X9_isTwo a1) = 0 then
    some ((-2), h)
  else
    bif (am_in a1 2) then
      bif (am_in a1 2) then
        some (((h.2.1 76) (Int32.toNatClampNeg a1)), (am_sa h 76 (upd (h.2.1 76) (Int32.toNatClampNeg a1) 0)))
      else none
    else none
set_option maxRecDepth 10000 in
theorem E_X9_wipe_75 (a1 : Int32) (h : AH) (vR : Int32) (hR : AH) (hM : M_X9_wipe a1 h = some (vR, hR)) : Ev none mr_X9_wipe (0, [(0, .ref 75), (1, .int a1)], [], h) (some (.int vR)) hR := by
  unfold M_X9_wipe at hM
  refine Ev.steps (B := (1, [(0, .ref 75), (1, .int a1)], [.int a1], h)) 1 rfl ?_
  refine Ev.call (q := (mr_X9_isTwo, [.int a1], [])) rfl (E_X9_isTwo a1 h) ?_
  refine Ev.br (b := decide (¬ (M_X9_isTwo a1) = 0)) rfl (fun c1 => ?_) (fun c1 => ?_)
  · have c1 := of_decide_eq_true c1
    rw [if_neg c1] at hM
    refine Ev.steps (B := (15, [(0, .ref 75), (1, .int a1)], [.int a1, .ref 76], h)) 3 rfl ?_
    obtain ⟨g2, hM⟩ := am_gS hM
    refine Ev.g (B := (16, [(0, .ref 75), (1, .int a1)], [.int ((h.2.1 76) (Int32.toNatClampNeg a1))], h)) g2 rfl ?_
    refine Ev.steps (B := (23, [(2, .int ((h.2.1 76) (Int32.toNatClampNeg a1))), (0, .ref 75), (1, .int a1)], [.int 0, .int a1, .ref 76], h)) 5 rfl ?_
    obtain ⟨g3, hM⟩ := am_gS hM
    refine Ev.g (B := (24, [(2, .int ((h.2.1 76) (Int32.toNatClampNeg a1))), (0, .ref 75), (1, .int a1)], [], (am_sa h 76 (upd (h.2.1 76) (Int32.toNatClampNeg a1) 0)))) g3 rfl ?_
    refine Ev.steps (B := (25, [(2, .int ((h.2.1 76) (Int32.toNatClampNeg a1))), (0, .ref 75), (1, .int a1)], [.int ((h.2.1 76) (Int32.toNatClampNeg a1))], (am_sa h 76 (upd (h.2.1 76) (Int32.toNatClampNeg a1) 0)))) 1 rfl ?_
    cases hM
    exact Ev.ret rfl
  · have c1 := Decidable.of_not_not (of_decide_eq_false c1)
    rw [if_pos c1] at hM
    refine Ev.steps (B := (9, [(0, .ref 75), (1, .int a1)], [.int (-2)], h)) 1 rfl ?_
    cases hM
    exact Ev.ret rfl
def B_X8_undo_6 (n : Nat) (q2 : Nat) (h : AH) : Option (Int32 × AH) :=
  if 0 < (h.1 q2 4) then
    am_v (M_X6_shorten n q2 ((h.1 q2 4) - 1) h) fun h1 =>
    am_v (M_X8_changed n h1) fun h2 =>
    some ((h2.1 q2 4), h2)
  else
    some ((-3), h)
set_option maxRecDepth 10000 in
theorem E_B_X8_undo_6_1 (n : Nat) (vR : Int32) (hR : AH) (h : AH) (hM : B_X8_undo_6 n 1 h = some (vR, hR)) : Ev none mr_X8_undo (6, [(0, .ref 0), (2, .ref 1)], [], h) (some (.int vR)) hR := by
  unfold B_X8_undo_6 at hM
  refine Ev.steps (B := (17, [(0, .ref 0), (2, .ref 1)], [.int (h.1 1 4)], h)) 4 rfl ?_
  refine Ev.br (b := decide (0 < (h.1 1 4))) rfl (fun c1 => ?_) (fun c1 => ?_)
  · have c1 := of_decide_eq_true c1
    rw [if_pos c1] at hM
    refine Ev.steps (B := (30, [(0, .ref 0), (2, .ref 1)], [.int ((h.1 1 4) - 1), .ref 1], h)) 5 rfl ?_
    obtain ⟨h1, e2, hM⟩ := am_vS hM
    refine Ev.call (q := (mr_X6_shorten, [.ref 1, .int ((h.1 1 4) - 1)], [])) rfl (E_X6_shorten_1 n ((h.1 1 4) - 1) h h1 e2) ?_
    refine Ev.steps (B := (34, [(0, .ref 0), (2, .ref 1)], [.ref 0], h1)) 1 rfl ?_
    obtain ⟨h2, e3, hM⟩ := am_vS hM
    refine Ev.call (q := (mr_X8_changed, [.ref 0], [])) rfl (E_X8_changed_0 n h1 h2 e3) ?_
    refine Ev.steps (B := (41, [(0, .ref 0), (2, .ref 1)], [.int (h2.1 1 4)], h2)) 2 rfl ?_
    cases hM
    exact Ev.ret rfl
  · have c1 := of_decide_eq_false c1
    rw [if_neg c1] at hM
    refine Ev.steps (B := (22, [(0, .ref 0), (2, .ref 1)], [.int (-3)], h)) 1 rfl ?_
    cases hM
    exact Ev.ret rfl
set_option maxRecDepth 10000 in
theorem E_B_X8_undo_6_7 (n : Nat) (vR : Int32) (hR : AH) (h : AH) (hM : B_X8_undo_6 n 7 h = some (vR, hR)) : Ev none mr_X8_undo (6, [(0, .ref 0), (2, .ref 7)], [], h) (some (.int vR)) hR := by
  unfold B_X8_undo_6 at hM
  refine Ev.steps (B := (17, [(0, .ref 0), (2, .ref 7)], [.int (h.1 7 4)], h)) 4 rfl ?_
  refine Ev.br (b := decide (0 < (h.1 7 4))) rfl (fun c1 => ?_) (fun c1 => ?_)
  · have c1 := of_decide_eq_true c1
    rw [if_pos c1] at hM
    refine Ev.steps (B := (30, [(0, .ref 0), (2, .ref 7)], [.int ((h.1 7 4) - 1), .ref 7], h)) 5 rfl ?_
    obtain ⟨h1, e2, hM⟩ := am_vS hM
    refine Ev.call (q := (mr_X6_shorten, [.ref 7, .int ((h.1 7 4) - 1)], [])) rfl (E_X6_shorten_7 n ((h.1 7 4) - 1) h h1 e2) ?_
    refine Ev.steps (B := (34, [(0, .ref 0), (2, .ref 7)], [.ref 0], h1)) 1 rfl ?_
    obtain ⟨h2, e3, hM⟩ := am_vS hM
    refine Ev.call (q := (mr_X8_changed, [.ref 0], [])) rfl (E_X8_changed_0 n h1 h2 e3) ?_
    refine Ev.steps (B := (41, [(0, .ref 0), (2, .ref 7)], [.int (h2.1 7 4)], h2)) 2 rfl ?_
    cases hM
    exact Ev.ret rfl
  · have c1 := of_decide_eq_false c1
    rw [if_neg c1] at hM
    refine Ev.steps (B := (22, [(0, .ref 0), (2, .ref 7)], [.int (-3)], h)) 1 rfl ?_
    cases hM
    exact Ev.ret rfl
def M_X8_undo (n : Nat) (a1 : Int32) (h : AH) : Option (Int32 × AH) :=
  if a1 = 0 then
    B_X8_undo_6 n 1 h
  else
  if a1 = 1 then
    B_X8_undo_6 n 7 h
  else
    some ((-2), h)
set_option maxRecDepth 10000 in
theorem E_X8_undo_0 (n : Nat) (a1 : Int32) (h : AH) (vR : Int32) (hR : AH) (hM : M_X8_undo n a1 h = some (vR, hR)) : Ev none mr_X8_undo (0, [(0, .ref 0), (1, .int a1)], [], h) (some (.int vR)) hR := by
  unfold M_X8_undo at hM
  refine Ev.steps (B := (2, [(0, .ref 0), (1, .int a1)], [.int a1, .ref 0], h)) 2 rfl ?_
  by_cases c1 : a1 = 0
  · rw [if_pos c1] at hM
    refine Ev.call (q := (mr_X8_textAt, [.ref 0, .int a1], [])) rfl (E_X8_textAt_1 a1 h c1) ?_
    refine Ev.steps (B := (6, [(2, .ref 1), (0, .ref 0), (1, .int a1)], [], h)) 1 rfl ?_
    refine Ev.lv (lv := [(0, .ref 0), (2, .ref 1)]) ⟨rfl, rfl, trivial⟩ rfl rfl ?_
    exact E_B_X8_undo_6_1 n vR hR h hM
  · rw [if_neg c1] at hM
    by_cases c2 : a1 = 1
    · rw [if_pos c2] at hM
      refine Ev.call (q := (mr_X8_textAt, [.ref 0, .int a1], [])) rfl (E_X8_textAt_7 a1 h c2) ?_
      refine Ev.steps (B := (6, [(2, .ref 7), (0, .ref 0), (1, .int a1)], [], h)) 1 rfl ?_
      refine Ev.lv (lv := [(0, .ref 0), (2, .ref 7)]) ⟨rfl, rfl, trivial⟩ rfl rfl ?_
      exact E_B_X8_undo_6_7 n vR hR h hM
    · rw [if_neg c2] at hM
      refine Ev.call (q := (mr_X8_textAt, [.ref 0, .int a1], [])) rfl (E_X8_textAt_d a1 h c1 c2) ?_
      refine Ev.steps (B := (12, [(2, .null), (0, .ref 0), (1, .int a1)], [.int (-2)], h)) 4 rfl ?_
      cases hM
      exact Ev.ret rfl
def M_X9_undo (a1 : Int32) (h : AH) : Option (Int32 × AH) :=
  if (M_X9_isTwo a1) = 0 then
    some ((-2), h)
  else
    bif (am_in a1 2) then
      if ((h.2.1 76) (Int32.toNatClampNeg a1)) = 0 then
        some ((-3), h)
      else
        bif (am_in a1 2) then
          bif (am_in a1 2) then
            bif (am_in a1 2) then
              some (((upd (h.2.1 76) (Int32.toNatClampNeg a1) (((h.2.1 76) (Int32.toNatClampNeg a1)) - 1)) (Int32.toNatClampNeg a1)), (am_sa h 76 (upd (h.2.1 76) (Int32.toNatClampNeg a1) (((h.2.1 76) (Int32.toNatClampNeg a1)) - 1))))
            else none
          else none
        else none
    else none
set_option maxRecDepth 10000 in
theorem E_X9_undo_75 (a1 : Int32) (h : AH) (vR : Int32) (hR : AH) (hM : M_X9_undo a1 h = some (vR, hR)) : Ev none mr_X9_undo (0, [(0, .ref 75), (1, .int a1)], [], h) (some (.int vR)) hR := by
  unfold M_X9_undo at hM
  refine Ev.steps (B := (1, [(0, .ref 75), (1, .int a1)], [.int a1], h)) 1 rfl ?_
  refine Ev.call (q := (mr_X9_isTwo, [.int a1], [])) rfl (E_X9_isTwo a1 h) ?_
  refine Ev.br (b := decide (¬ (M_X9_isTwo a1) = 0)) rfl (fun c1 => ?_) (fun c1 => ?_)
  · have c1 := of_decide_eq_true c1
    rw [if_neg c1] at hM
    refine Ev.steps (B := (15, [(0, .ref 75), (1, .int a1)], [.int a1, .ref 76], h)) 3 rfl ?_
    obtain ⟨g2, hM⟩ := am_gS hM
    refine Ev.g (B := (16, [(0, .ref 75), (1, .int a1)], [.int ((h.2.1 76) (Int32.toNatClampNeg a1))], h)) g2 rfl ?_
    refine Ev.br (b := decide (¬ ((h.2.1 76) (Int32.toNatClampNeg a1)) = 0)) rfl (fun c3 => ?_) (fun c3 => ?_)
    · have c3 := of_decide_eq_true c3
      rw [if_neg c3] at hM
      refine Ev.steps (B := (28, [(0, .ref 75), (1, .int a1)], [.int a1, .ref 76, .int a1, .ref 76], h)) 4 rfl ?_
      obtain ⟨g4, hM⟩ := am_gS hM
      refine Ev.g (B := (29, [(0, .ref 75), (1, .int a1)], [.int ((h.2.1 76) (Int32.toNatClampNeg a1)), .int a1, .ref 76], h)) g4 rfl ?_
      refine Ev.steps (B := (31, [(0, .ref 75), (1, .int a1)], [.int (((h.2.1 76) (Int32.toNatClampNeg a1)) - 1), .int a1, .ref 76], h)) 2 rfl ?_
      obtain ⟨g5, hM⟩ := am_gS hM
      refine Ev.g (B := (32, [(0, .ref 75), (1, .int a1)], [], (am_sa h 76 (upd (h.2.1 76) (Int32.toNatClampNeg a1) (((h.2.1 76) (Int32.toNatClampNeg a1)) - 1))))) g5 rfl ?_
      refine Ev.steps (B := (37, [(0, .ref 75), (1, .int a1)], [.int a1, .ref 76], (am_sa h 76 (upd (h.2.1 76) (Int32.toNatClampNeg a1) (((h.2.1 76) (Int32.toNatClampNeg a1)) - 1))))) 3 rfl ?_
      obtain ⟨g6, hM⟩ := am_gS hM
      refine Ev.g (B := (38, [(0, .ref 75), (1, .int a1)], [.int ((upd (h.2.1 76) (Int32.toNatClampNeg a1) (((h.2.1 76) (Int32.toNatClampNeg a1)) - 1)) (Int32.toNatClampNeg a1))], (am_sa h 76 (upd (h.2.1 76) (Int32.toNatClampNeg a1) (((h.2.1 76) (Int32.toNatClampNeg a1)) - 1))))) g6 rfl ?_
      cases hM
      exact Ev.ret rfl
    · have c3 := Decidable.of_not_not (of_decide_eq_false c3)
      rw [if_pos c3] at hM
      refine Ev.steps (B := (21, [(0, .ref 75), (1, .int a1)], [.int (-3)], h)) 1 rfl ?_
      cases hM
      exact Ev.ret rfl
  · have c1 := Decidable.of_not_not (of_decide_eq_false c1)
    rw [if_pos c1] at hM
    refine Ev.steps (B := (9, [(0, .ref 75), (1, .int a1)], [.int (-2)], h)) 1 rfl ?_
    cases hM
    exact Ev.ret rfl
def B_X8_fault_6 (q2 : Nat) (h : AH) : Int32 :=
  (h.1 q2 5)
set_option maxRecDepth 10000 in
theorem E_B_X8_fault_6_1 (h : AH) : Ev none mr_X8_fault (6, [(2, .ref 1)], [], h) (some (.int (B_X8_fault_6 1 h))) h := by
  unfold B_X8_fault_6
  refine Ev.steps (B := (19, [(2, .ref 1)], [.int (h.1 1 5)], h)) 4 rfl ?_
  exact Ev.ret rfl
set_option maxRecDepth 10000 in
theorem E_B_X8_fault_6_7 (h : AH) : Ev none mr_X8_fault (6, [(2, .ref 7)], [], h) (some (.int (B_X8_fault_6 7 h))) h := by
  unfold B_X8_fault_6
  refine Ev.steps (B := (19, [(2, .ref 7)], [.int (h.1 7 5)], h)) 4 rfl ?_
  exact Ev.ret rfl
def M_X8_fault (a1 : Int32) (h : AH) : Int32 :=
  if a1 = 0 then
    B_X8_fault_6 1 h
  else
  if a1 = 1 then
    B_X8_fault_6 7 h
  else
    (-2)
set_option maxRecDepth 10000 in
theorem E_X8_fault_0 (a1 : Int32) (h : AH) : Ev none mr_X8_fault (0, [(0, .ref 0), (1, .int a1)], [], h) (some (.int (M_X8_fault a1 h))) h := by
  unfold M_X8_fault
  refine Ev.steps (B := (2, [(0, .ref 0), (1, .int a1)], [.int a1, .ref 0], h)) 2 rfl ?_
  by_cases c1 : a1 = 0
  · rw [if_pos c1]
    refine Ev.call (q := (mr_X8_textAt, [.ref 0, .int a1], [])) rfl (E_X8_textAt_1 a1 h c1) ?_
    refine Ev.steps (B := (6, [(2, .ref 1), (0, .ref 0), (1, .int a1)], [], h)) 1 rfl ?_
    refine Ev.lv (lv := [(2, .ref 1)]) ⟨rfl, trivial⟩ rfl rfl ?_
    exact E_B_X8_fault_6_1 h
  · rw [if_neg c1]
    by_cases c2 : a1 = 1
    · rw [if_pos c2]
      refine Ev.call (q := (mr_X8_textAt, [.ref 0, .int a1], [])) rfl (E_X8_textAt_7 a1 h c2) ?_
      refine Ev.steps (B := (6, [(2, .ref 7), (0, .ref 0), (1, .int a1)], [], h)) 1 rfl ?_
      refine Ev.lv (lv := [(2, .ref 7)]) ⟨rfl, trivial⟩ rfl rfl ?_
      exact E_B_X8_fault_6_7 h
    · rw [if_neg c2]
      refine Ev.call (q := (mr_X8_textAt, [.ref 0, .int a1], [])) rfl (E_X8_textAt_d a1 h c1 c2) ?_
      refine Ev.steps (B := (19, [(2, .null), (0, .ref 0), (1, .int a1)], [.int (-2)], h)) 5 rfl ?_
      exact Ev.ret rfl
def M_X9_byteAt (a1 : Int32) (a2 : Int32) (h : AH) : Option Int32 :=
  bif (am_in a1 2) then
    if ((h.2.1 76) (Int32.toNatClampNeg a1)) ≤ a2 then
      some (-1)
    else
      bif (am_in ((31 * a1) + a2) 62) then
        some ((h.2.1 77) (Int32.toNatClampNeg ((31 * a1) + a2)))
      else none
  else none
set_option maxRecDepth 10000 in
theorem E_X9_byteAt_75 (a1 : Int32) (a2 : Int32) (h : AH) (vR : Int32) (hM : M_X9_byteAt a1 a2 h = some vR) : Ev none mr_X9_byteAt (0, [(0, .ref 75), (1, .int a1), (2, .int a2)], [], h) (some (.int vR)) h := by
  unfold M_X9_byteAt at hM
  refine Ev.steps (B := (6, [(0, .ref 75), (1, .int a1), (2, .int a2)], [.int a1, .ref 76, .int a2], h)) 4 rfl ?_
  obtain ⟨g1, hM⟩ := am_gS hM
  refine Ev.g (B := (7, [(0, .ref 75), (1, .int a1), (2, .int a2)], [.int ((h.2.1 76) (Int32.toNatClampNeg a1)), .int a2], h)) g1 rfl ?_
  refine Ev.br (b := decide (((h.2.1 76) (Int32.toNatClampNeg a1)) ≤ a2)) rfl (fun c2 => ?_) (fun c2 => ?_)
  · have c2 := of_decide_eq_true c2
    rw [if_pos c2] at hM
    refine Ev.steps (B := (25, [(0, .ref 75), (1, .int a1), (2, .int a2)], [.int (-1)], h)) 1 rfl ?_
    cases hM
    exact Ev.ret rfl
  · have c2 := of_decide_eq_false c2
    rw [if_neg c2] at hM
    refine Ev.steps (B := (20, [(0, .ref 75), (1, .int a1), (2, .int a2)], [.int ((31 * a1) + a2), .ref 77], h)) 7 rfl ?_
    obtain ⟨g3, hM⟩ := am_gS hM
    refine Ev.g (B := (21, [(0, .ref 75), (1, .int a1), (2, .int a2)], [.int ((h.2.1 77) (Int32.toNatClampNeg ((31 * a1) + a2)))], h)) g3 rfl ?_
    refine Ev.steps (B := (25, [(0, .ref 75), (1, .int a1), (2, .int a2)], [.int ((h.2.1 77) (Int32.toNatClampNeg ((31 * a1) + a2)))], h)) 1 rfl ?_
    cases hM
    exact Ev.ret rfl
def M_X9_isMinute (a1 : Int32) : Int32 :=
  (M_X9_in a1 0 23)
set_option maxRecDepth 10000 in
theorem E_X9_isMinute (a1 : Int32) (h : AH) : Ev none mr_X9_isMinute (0, [(0, .int a1)], [], h) (some (.int (M_X9_isMinute a1))) h := by
  unfold M_X9_isMinute
  refine Ev.steps (B := (4, [(0, .int a1)], [.int 23, .int 0, .int a1], h)) 3 rfl ?_
  refine Ev.call (q := (mr_X9_in, [.int a1, .int 0, .int 23], [])) rfl (E_X9_in a1 0 23 h) ?_
  exact Ev.retg (b := am_b01 (M_X9_in a1 0 23)) (by apply Z_X9_in) rfl
set_option maxRecDepth 10000 in
theorem Z_X9_isMinute (a1 : Int32) : am_b01 (M_X9_isMinute a1) = true := by
  unfold M_X9_isMinute
  apply Z_X9_in
def B_X9_readsPart_136 (x1 : Int32) (x2 : Int32) (x4 : Int32) (x6 : Int32) (x7 : Int32) (y0 : Int32) (y1 : Int32) (y2 : Int32) (h : AH) : Option (Int32 × AH) :=
  if (M_X9_in y2 y1 y0) = 0 then
    some (2, h)
  else
    if x1 = 0 then
      bif (am_in x2 9) then
        bif (am_in x2 9) then
          bif (am_in x2 9) then
            some (3, (am_sa (am_sa (am_sa h 78 (upd (h.2.1 78) (Int32.toNatClampNeg x2) x4)) 79 (upd (h.2.1 79) (Int32.toNatClampNeg x2) x6)) 80 (upd (h.2.1 80) (Int32.toNatClampNeg x2) x7)))
          else none
        else none
      else none
    else
      bif (am_in x2 9) then
        bif (am_in x2 9) then
          bif (am_in x2 9) then
            some (3, (am_sa (am_sa (am_sa h 81 (upd (h.2.1 81) (Int32.toNatClampNeg x2) x4)) 82 (upd (h.2.1 82) (Int32.toNatClampNeg x2) x6)) 83 (upd (h.2.1 83) (Int32.toNatClampNeg x2) x7)))
          else none
        else none
      else none
set_option maxRecDepth 10000 in
theorem E_B_X9_readsPart_136 (vR : Int32) (hR : AH) (x1 : Int32) (x2 : Int32) (x4 : Int32) (x6 : Int32) (x7 : Int32) (y0 : Int32) (y1 : Int32) (y2 : Int32) (h : AH) (hM : B_X9_readsPart_136 x1 x2 x4 x6 x7 y0 y1 y2 h = some (vR, hR)) : Ev none mr_X9_readsPart (136, [(0, .ref 75), (1, .int x1), (2, .int x2), (4, .int x4), (6, .int x6), (7, .int x7)], [.int y0, .int y1, .int y2], h) (some (.int vR)) hR := by
  unfold B_X9_readsPart_136 at hM
  refine Ev.call (q := (mr_X9_in, [.int y2, .int y1, .int y0], [])) rfl (E_X9_in y2 y1 y0 h) ?_
  refine Ev.br (b := decide (¬ (M_X9_in y2 y1 y0) = 0)) rfl (fun c1 => ?_) (fun c1 => ?_)
  · have c1 := of_decide_eq_true c1
    rw [if_neg c1] at hM
    refine Ev.steps (B := (145, [(0, .ref 75), (1, .int x1), (2, .int x2), (4, .int x4), (6, .int x6), (7, .int x7)], [.int x1], h)) 1 rfl ?_
    refine Ev.br (b := decide (¬ x1 = 0)) rfl (fun c2 => ?_) (fun c2 => ?_)
    · have c2 := of_decide_eq_true c2
      rw [if_neg c2] at hM
      refine Ev.steps (B := (182, [(0, .ref 75), (1, .int x1), (2, .int x2), (4, .int x4), (6, .int x6), (7, .int x7)], [.int x4, .int x2, .ref 81], h)) 4 rfl ?_
      obtain ⟨g3, hM⟩ := am_gS hM
      refine Ev.g (B := (183, [(0, .ref 75), (1, .int x1), (2, .int x2), (4, .int x4), (6, .int x6), (7, .int x7)], [], (am_sa h 81 (upd (h.2.1 81) (Int32.toNatClampNeg x2) x4)))) g3 rfl ?_
      refine Ev.steps (B := (190, [(0, .ref 75), (1, .int x1), (2, .int x2), (4, .int x4), (6, .int x6), (7, .int x7)], [.int x6, .int x2, .ref 82], (am_sa h 81 (upd (h.2.1 81) (Int32.toNatClampNeg x2) x4)))) 4 rfl ?_
      obtain ⟨g4, hM⟩ := am_gS hM
      refine Ev.g (B := (191, [(0, .ref 75), (1, .int x1), (2, .int x2), (4, .int x4), (6, .int x6), (7, .int x7)], [], (am_sa (am_sa h 81 (upd (h.2.1 81) (Int32.toNatClampNeg x2) x4)) 82 (upd (h.2.1 82) (Int32.toNatClampNeg x2) x6)))) g4 rfl ?_
      refine Ev.steps (B := (198, [(0, .ref 75), (1, .int x1), (2, .int x2), (4, .int x4), (6, .int x6), (7, .int x7)], [.int x7, .int x2, .ref 83], (am_sa (am_sa h 81 (upd (h.2.1 81) (Int32.toNatClampNeg x2) x4)) 82 (upd (h.2.1 82) (Int32.toNatClampNeg x2) x6)))) 4 rfl ?_
      obtain ⟨g5, hM⟩ := am_gS hM
      refine Ev.g (B := (199, [(0, .ref 75), (1, .int x1), (2, .int x2), (4, .int x4), (6, .int x6), (7, .int x7)], [], (am_sa (am_sa (am_sa h 81 (upd (h.2.1 81) (Int32.toNatClampNeg x2) x4)) 82 (upd (h.2.1 82) (Int32.toNatClampNeg x2) x6)) 83 (upd (h.2.1 83) (Int32.toNatClampNeg x2) x7)))) g5 rfl ?_
      refine Ev.steps (B := (200, [(0, .ref 75), (1, .int x1), (2, .int x2), (4, .int x4), (6, .int x6), (7, .int x7)], [.int 3], (am_sa (am_sa (am_sa h 81 (upd (h.2.1 81) (Int32.toNatClampNeg x2) x4)) 82 (upd (h.2.1 82) (Int32.toNatClampNeg x2) x6)) 83 (upd (h.2.1 83) (Int32.toNatClampNeg x2) x7)))) 1 rfl ?_
      cases hM
      exact Ev.ret rfl
    · have c2 := Decidable.of_not_not (of_decide_eq_false c2)
      rw [if_pos c2] at hM
      refine Ev.steps (B := (155, [(0, .ref 75), (1, .int x1), (2, .int x2), (4, .int x4), (6, .int x6), (7, .int x7)], [.int x4, .int x2, .ref 78], h)) 4 rfl ?_
      obtain ⟨g6, hM⟩ := am_gS hM
      refine Ev.g (B := (156, [(0, .ref 75), (1, .int x1), (2, .int x2), (4, .int x4), (6, .int x6), (7, .int x7)], [], (am_sa h 78 (upd (h.2.1 78) (Int32.toNatClampNeg x2) x4)))) g6 rfl ?_
      refine Ev.steps (B := (163, [(0, .ref 75), (1, .int x1), (2, .int x2), (4, .int x4), (6, .int x6), (7, .int x7)], [.int x6, .int x2, .ref 79], (am_sa h 78 (upd (h.2.1 78) (Int32.toNatClampNeg x2) x4)))) 4 rfl ?_
      obtain ⟨g7, hM⟩ := am_gS hM
      refine Ev.g (B := (164, [(0, .ref 75), (1, .int x1), (2, .int x2), (4, .int x4), (6, .int x6), (7, .int x7)], [], (am_sa (am_sa h 78 (upd (h.2.1 78) (Int32.toNatClampNeg x2) x4)) 79 (upd (h.2.1 79) (Int32.toNatClampNeg x2) x6)))) g7 rfl ?_
      refine Ev.steps (B := (171, [(0, .ref 75), (1, .int x1), (2, .int x2), (4, .int x4), (6, .int x6), (7, .int x7)], [.int x7, .int x2, .ref 80], (am_sa (am_sa h 78 (upd (h.2.1 78) (Int32.toNatClampNeg x2) x4)) 79 (upd (h.2.1 79) (Int32.toNatClampNeg x2) x6)))) 4 rfl ?_
      obtain ⟨g8, hM⟩ := am_gS hM
      refine Ev.g (B := (172, [(0, .ref 75), (1, .int x1), (2, .int x2), (4, .int x4), (6, .int x6), (7, .int x7)], [], (am_sa (am_sa (am_sa h 78 (upd (h.2.1 78) (Int32.toNatClampNeg x2) x4)) 79 (upd (h.2.1 79) (Int32.toNatClampNeg x2) x6)) 80 (upd (h.2.1 80) (Int32.toNatClampNeg x2) x7)))) g8 rfl ?_
      refine Ev.steps (B := (200, [(0, .ref 75), (1, .int x1), (2, .int x2), (4, .int x4), (6, .int x6), (7, .int x7)], [.int 3], (am_sa (am_sa (am_sa h 78 (upd (h.2.1 78) (Int32.toNatClampNeg x2) x4)) 79 (upd (h.2.1 79) (Int32.toNatClampNeg x2) x6)) 80 (upd (h.2.1 80) (Int32.toNatClampNeg x2) x7)))) 2 rfl ?_
      cases hM
      exact Ev.ret rfl
  · have c1 := Decidable.of_not_not (of_decide_eq_false c1)
    rw [if_pos c1] at hM
    refine Ev.steps (B := (143, [(0, .ref 75), (1, .int x1), (2, .int x2), (4, .int x4), (6, .int x6), (7, .int x7)], [.int 2], h)) 1 rfl ?_
    cases hM
    exact Ev.ret rfl
def B_X9_readsPart_85 (x1 : Int32) (x2 : Int32) (x3 : Int32) (x4 : Int32) (y0 : Int32) (h : AH) : Option (Int32 × AH) :=
  am_o (M_X9_byteAt x1 (x3 + 2) h) fun v1 =>
  if x2 = 8 then
    some (0, h)
  else
    if (M_X9_isMinute x4) = 0 then
      some (0, h)
    else
      if y0 = (-1) then
        some (1, h)
      else
        if x1 = 0 then
          B_X9_readsPart_136 x1 x2 x4 y0 (v1 - 48) 3 1 (v1 - 48) h
        else
          B_X9_readsPart_136 x1 x2 x4 y0 (v1 - 48) 4 1 (v1 - 48) h
set_option maxRecDepth 10000 in
theorem E_B_X9_readsPart_85 (vR : Int32) (hR : AH) (x1 : Int32) (x2 : Int32) (x3 : Int32) (x4 : Int32) (y0 : Int32) (h : AH) (hM : B_X9_readsPart_85 x1 x2 x3 x4 y0 h = some (vR, hR)) : Ev none mr_X9_readsPart (85, [(0, .ref 75), (1, .int x1), (2, .int x2), (3, .int x3), (4, .int x4)], [.int y0], h) (some (.int vR)) hR := by
  unfold B_X9_readsPart_85 at hM
  refine Ev.steps (B := (92, [(6, .int y0), (0, .ref 75), (1, .int x1), (2, .int x2), (3, .int x3), (4, .int x4)], [.int (x3 + 2), .int x1, .ref 75], h)) 6 rfl ?_
  obtain ⟨v1, e1, hM⟩ := am_oS hM
  refine Ev.call (q := (mr_X9_byteAt, [.ref 75, .int x1, .int (x3 + 2)], [])) rfl (E_X9_byteAt_75 x1 (x3 + 2) h v1 e1) ?_
  refine Ev.steps (B := (103, [(7, .int (v1 - 48)), (6, .int y0), (0, .ref 75), (1, .int x1), (2, .int x2), (3, .int x3), (4, .int x4)], [.int 8, .int x2], h)) 5 rfl ?_
  refine Ev.br (b := decide (x2 = 8)) rfl (fun c2 => ?_) (fun c2 => ?_)
  · have c2 := of_decide_eq_true c2
    rw [if_pos c2] at hM
    refine Ev.steps (B := (115, [(7, .int (v1 - 48)), (6, .int y0), (0, .ref 75), (1, .int x1), (2, .int x2), (3, .int x3), (4, .int x4)], [.int 0], h)) 1 rfl ?_
    cases hM
    exact Ev.ret rfl
  · have c2 := of_decide_eq_false c2
    rw [if_neg c2] at hM
    refine Ev.steps (B := (108, [(7, .int (v1 - 48)), (6, .int y0), (0, .ref 75), (1, .int x1), (2, .int x2), (3, .int x3), (4, .int x4)], [.int x4], h)) 1 rfl ?_
    refine Ev.call (q := (mr_X9_isMinute, [.int x4], [])) rfl (E_X9_isMinute x4 h) ?_
    refine Ev.br (b := decide (¬ (M_X9_isMinute x4) = 0)) rfl (fun c3 => ?_) (fun c3 => ?_)
    · have c3 := of_decide_eq_true c3
      rw [if_neg c3] at hM
      refine Ev.steps (B := (119, [(7, .int (v1 - 48)), (6, .int y0), (0, .ref 75), (1, .int x1), (2, .int x2), (3, .int x3), (4, .int x4)], [.int (-1), .int y0], h)) 2 rfl ?_
      refine Ev.br (b := decide (¬ y0 = (-1))) rfl (fun c4 => ?_) (fun c4 => ?_)
      · have c4 := of_decide_eq_true c4
        rw [if_neg c4] at hM
        refine Ev.steps (B := (128, [(7, .int (v1 - 48)), (6, .int y0), (0, .ref 75), (1, .int x1), (2, .int x2), (3, .int x3), (4, .int x4)], [.int x1, .int 1, .int (v1 - 48)], h)) 3 rfl ?_
        refine Ev.br (b := decide (¬ x1 = 0)) rfl (fun c5 => ?_) (fun c5 => ?_)
        · have c5 := of_decide_eq_true c5
          rw [if_neg c5] at hM
          refine Ev.steps (B := (136, [(7, .int (v1 - 48)), (6, .int y0), (0, .ref 75), (1, .int x1), (2, .int x2), (3, .int x3), (4, .int x4)], [.int 4, .int 1, .int (v1 - 48)], h)) 1 rfl ?_
          refine Ev.lv (lv := [(0, .ref 75), (1, .int x1), (2, .int x2), (4, .int x4), (6, .int y0), (7, .int (v1 - 48))]) ⟨rfl, rfl, rfl, rfl, rfl, rfl, trivial⟩ rfl rfl ?_
          exact E_B_X9_readsPart_136 vR hR x1 x2 x4 y0 (v1 - 48) 4 1 (v1 - 48) h hM
        · have c5 := Decidable.of_not_not (of_decide_eq_false c5)
          rw [if_pos c5] at hM
          refine Ev.steps (B := (136, [(7, .int (v1 - 48)), (6, .int y0), (0, .ref 75), (1, .int x1), (2, .int x2), (3, .int x3), (4, .int x4)], [.int 3, .int 1, .int (v1 - 48)], h)) 2 rfl ?_
          refine Ev.lv (lv := [(0, .ref 75), (1, .int x1), (2, .int x2), (4, .int x4), (6, .int y0), (7, .int (v1 - 48))]) ⟨rfl, rfl, rfl, rfl, rfl, rfl, trivial⟩ rfl rfl ?_
          exact E_B_X9_readsPart_136 vR hR x1 x2 x4 y0 (v1 - 48) 3 1 (v1 - 48) h hM
      · have c4 := Decidable.of_not_not (of_decide_eq_false c4)
        rw [if_pos c4] at hM
        refine Ev.steps (B := (123, [(7, .int (v1 - 48)), (6, .int y0), (0, .ref 75), (1, .int x1), (2, .int x2), (3, .int x3), (4, .int x4)], [.int 1], h)) 1 rfl ?_
        cases hM
        exact Ev.ret rfl
    · have c3 := Decidable.of_not_not (of_decide_eq_false c3)
      rw [if_pos c3] at hM
      refine Ev.steps (B := (115, [(7, .int (v1 - 48)), (6, .int y0), (0, .ref 75), (1, .int x1), (2, .int x2), (3, .int x3), (4, .int x4)], [.int 0], h)) 1 rfl ?_
      cases hM
      exact Ev.ret rfl
def M_X9_readsPart (a1 : Int32) (a2 : Int32) (a3 : Int32) (h : AH) : Option (Int32 × AH) :=
  am_o (M_X9_byteAt a1 a3 h) fun v1 =>
  am_o (M_X9_byteAt a1 (a3 + 1) h) fun v2 =>
  if a1 = 0 then
    if v2 = 107 then
      B_X9_readsPart_85 a1 a2 a3 (v1 - 97) 0 h
    else
      if v2 = 98 then
        B_X9_readsPart_85 a1 a2 a3 (v1 - 97) 1 h
      else
        if v2 = 99 then
          B_X9_readsPart_85 a1 a2 a3 (v1 - 97) 2 h
        else
          B_X9_readsPart_85 a1 a2 a3 (v1 - 97) (-1) h
  else
    if v2 = 119 then
      B_X9_readsPart_85 a1 a2 a3 (v1 - 97) 0 h
    else
      if v2 = 100 then
        B_X9_readsPart_85 a1 a2 a3 (v1 - 97) 1 h
      else
        B_X9_readsPart_85 a1 a2 a3 (v1 - 97) (-1) h
set_option maxRecDepth 10000 in
theorem E_X9_readsPart_75 (a1 : Int32) (a2 : Int32) (a3 : Int32) (h : AH) (vR : Int32) (hR : AH) (hM : M_X9_readsPart a1 a2 a3 h = some (vR, hR)) : Ev none mr_X9_readsPart (0, [(0, .ref 75), (1, .int a1), (2, .int a2), (3, .int a3)], [], h) (some (.int vR)) hR := by
  unfold M_X9_readsPart at hM
  refine Ev.steps (B := (3, [(0, .ref 75), (1, .int a1), (2, .int a2), (3, .int a3)], [.int a3, .int a1, .ref 75], h)) 3 rfl ?_
  obtain ⟨v1, e1, hM⟩ := am_oS hM
  refine Ev.call (q := (mr_X9_byteAt, [.ref 75, .int a1, .int a3], [])) rfl (E_X9_byteAt_75 a1 a3 h v1 e1) ?_
  refine Ev.steps (B := (16, [(4, .int (v1 - 97)), (0, .ref 75), (1, .int a1), (2, .int a2), (3, .int a3)], [.int (a3 + 1), .int a1, .ref 75], h)) 8 rfl ?_
  obtain ⟨v2, e2, hM⟩ := am_oS hM
  refine Ev.call (q := (mr_X9_byteAt, [.ref 75, .int a1, .int (a3 + 1)], [])) rfl (E_X9_byteAt_75 a1 (a3 + 1) h v2 e2) ?_
  refine Ev.steps (B := (22, [(5, .int v2), (4, .int (v1 - 97)), (0, .ref 75), (1, .int a1), (2, .int a2), (3, .int a3)], [.int a1], h)) 2 rfl ?_
  refine Ev.br (b := decide (¬ a1 = 0)) rfl (fun c3 => ?_) (fun c3 => ?_)
  · have c3 := of_decide_eq_true c3
    rw [if_neg c3] at hM
    refine Ev.steps (B := (66, [(5, .int v2), (4, .int (v1 - 97)), (0, .ref 75), (1, .int a1), (2, .int a2), (3, .int a3)], [.int 119, .int v2], h)) 2 rfl ?_
    refine Ev.br (b := decide (¬ v2 = 119)) rfl (fun c4 => ?_) (fun c4 => ?_)
    · have c4 := of_decide_eq_true c4
      rw [if_neg c4] at hM
      refine Ev.steps (B := (77, [(5, .int v2), (4, .int (v1 - 97)), (0, .ref 75), (1, .int a1), (2, .int a2), (3, .int a3)], [.int 100, .int v2], h)) 2 rfl ?_
      refine Ev.br (b := decide (¬ v2 = 100)) rfl (fun c5 => ?_) (fun c5 => ?_)
      · have c5 := of_decide_eq_true c5
        rw [if_neg c5] at hM
        refine Ev.steps (B := (85, [(5, .int v2), (4, .int (v1 - 97)), (0, .ref 75), (1, .int a1), (2, .int a2), (3, .int a3)], [.int (-1)], h)) 1 rfl ?_
        refine Ev.lv (lv := [(0, .ref 75), (1, .int a1), (2, .int a2), (3, .int a3), (4, .int (v1 - 97))]) ⟨rfl, rfl, rfl, rfl, rfl, trivial⟩ rfl rfl ?_
        exact E_B_X9_readsPart_85 vR hR a1 a2 a3 (v1 - 97) (-1) h hM
      · have c5 := Decidable.of_not_not (of_decide_eq_false c5)
        rw [if_pos c5] at hM
        refine Ev.steps (B := (85, [(5, .int v2), (4, .int (v1 - 97)), (0, .ref 75), (1, .int a1), (2, .int a2), (3, .int a3)], [.int 1], h)) 2 rfl ?_
        refine Ev.lv (lv := [(0, .ref 75), (1, .int a1), (2, .int a2), (3, .int a3), (4, .int (v1 - 97))]) ⟨rfl, rfl, rfl, rfl, rfl, trivial⟩ rfl rfl ?_
        exact E_B_X9_readsPart_85 vR hR a1 a2 a3 (v1 - 97) 1 h hM
    · have c4 := Decidable.of_not_not (of_decide_eq_false c4)
      rw [if_pos c4] at hM
      refine Ev.steps (B := (85, [(5, .int v2), (4, .int (v1 - 97)), (0, .ref 75), (1, .int a1), (2, .int a2), (3, .int a3)], [.int 0], h)) 2 rfl ?_
      refine Ev.lv (lv := [(0, .ref 75), (1, .int a1), (2, .int a2), (3, .int a3), (4, .int (v1 - 97))]) ⟨rfl, rfl, rfl, rfl, rfl, trivial⟩ rfl rfl ?_
      exact E_B_X9_readsPart_85 vR hR a1 a2 a3 (v1 - 97) 0 h hM
  · have c3 := Decidable.of_not_not (of_decide_eq_false c3)
    rw [if_pos c3] at hM
    refine Ev.steps (B := (29, [(5, .int v2), (4, .int (v1 - 97)), (0, .ref 75), (1, .int a1), (2, .int a2), (3, .int a3)], [.int 107, .int v2], h)) 2 rfl ?_
    refine Ev.br (b := decide (¬ v2 = 107)) rfl (fun c6 => ?_) (fun c6 => ?_)
    · have c6 := of_decide_eq_true c6
      rw [if_neg c6] at hM
      refine Ev.steps (B := (40, [(5, .int v2), (4, .int (v1 - 97)), (0, .ref 75), (1, .int a1), (2, .int a2), (3, .int a3)], [.int 98, .int v2], h)) 2 rfl ?_
      refine Ev.br (b := decide (¬ v2 = 98)) rfl (fun c7 => ?_) (fun c7 => ?_)
      · have c7 := of_decide_eq_true c7
        rw [if_neg c7] at hM
        refine Ev.steps (B := (51, [(5, .int v2), (4, .int (v1 - 97)), (0, .ref 75), (1, .int a1), (2, .int a2), (3, .int a3)], [.int 99, .int v2], h)) 2 rfl ?_
        refine Ev.br (b := decide (¬ v2 = 99)) rfl (fun c8 => ?_) (fun c8 => ?_)
        · have c8 := of_decide_eq_true c8
          rw [if_neg c8] at hM
          refine Ev.steps (B := (85, [(5, .int v2), (4, .int (v1 - 97)), (0, .ref 75), (1, .int a1), (2, .int a2), (3, .int a3)], [.int (-1)], h)) 2 rfl ?_
          refine Ev.lv (lv := [(0, .ref 75), (1, .int a1), (2, .int a2), (3, .int a3), (4, .int (v1 - 97))]) ⟨rfl, rfl, rfl, rfl, rfl, trivial⟩ rfl rfl ?_
          exact E_B_X9_readsPart_85 vR hR a1 a2 a3 (v1 - 97) (-1) h hM
        · have c8 := Decidable.of_not_not (of_decide_eq_false c8)
          rw [if_pos c8] at hM
          refine Ev.steps (B := (85, [(5, .int v2), (4, .int (v1 - 97)), (0, .ref 75), (1, .int a1), (2, .int a2), (3, .int a3)], [.int 2], h)) 2 rfl ?_
          refine Ev.lv (lv := [(0, .ref 75), (1, .int a1), (2, .int a2), (3, .int a3), (4, .int (v1 - 97))]) ⟨rfl, rfl, rfl, rfl, rfl, trivial⟩ rfl rfl ?_
          exact E_B_X9_readsPart_85 vR hR a1 a2 a3 (v1 - 97) 2 h hM
      · have c7 := Decidable.of_not_not (of_decide_eq_false c7)
        rw [if_pos c7] at hM
        refine Ev.steps (B := (85, [(5, .int v2), (4, .int (v1 - 97)), (0, .ref 75), (1, .int a1), (2, .int a2), (3, .int a3)], [.int 1], h)) 2 rfl ?_
        refine Ev.lv (lv := [(0, .ref 75), (1, .int a1), (2, .int a2), (3, .int a3), (4, .int (v1 - 97))]) ⟨rfl, rfl, rfl, rfl, rfl, trivial⟩ rfl rfl ?_
        exact E_B_X9_readsPart_85 vR hR a1 a2 a3 (v1 - 97) 1 h hM
    · have c6 := Decidable.of_not_not (of_decide_eq_false c6)
      rw [if_pos c6] at hM
      refine Ev.steps (B := (85, [(5, .int v2), (4, .int (v1 - 97)), (0, .ref 75), (1, .int a1), (2, .int a2), (3, .int a3)], [.int 0], h)) 2 rfl ?_
      refine Ev.lv (lv := [(0, .ref 75), (1, .int a1), (2, .int a2), (3, .int a3), (4, .int (v1 - 97))]) ⟨rfl, rfl, rfl, rfl, rfl, trivial⟩ rfl rfl ?_
      exact E_B_X9_readsPart_85 vR hR a1 a2 a3 (v1 - 97) 0 h hM
end
