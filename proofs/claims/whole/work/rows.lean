section
-- ===== PART A: goes FIRST, ahead of the names: the tables' words, and 'selects' of the private methods out of them =====
/-- a private method of a class that the tables say can be made, by its rows of tables_1 -/
def lw_okq (q : MethodName × Nat) : Prop := (q.1.cls ≠ "java/lang/invoke/MethodHandle" ∧ q.1.cls ≠ "java/lang/invoke/VarHandle") ∧ Cond.instantiable q.1.cls q.2 ∈ tables_1 ∧ Cond.privateMethod q.1 ∈ tables_1 ∧ Cond.instanceMethod q.1 ∈ tables_1
theorem lw_p0 : lw_okq (⟨"FoundOffice$Questions", "tellOneWay", "(IIZ)V"⟩, 5) := ⟨⟨by decide +kernel, by decide +kernel⟩, List.mem_of_getElem? (i := 28) (by decide +kernel), List.mem_of_getElem? (i := 328) (by decide +kernel), List.mem_of_getElem? (i := 329) (by decide +kernel)⟩
theorem lw_p1 : lw_okq (⟨"FoundOffice", "isThere", "(ZI)Z"⟩, 13) := ⟨⟨by decide +kernel, by decide +kernel⟩, List.mem_of_getElem? (i := 20) (by decide +kernel), List.mem_of_getElem? (i := 376) (by decide +kernel), List.mem_of_getElem? (i := 377) (by decide +kernel)⟩
theorem lw_p2 : lw_okq (⟨"FoundOffice", "rowsOf", "(Z)LFoundOffice$Rows;"⟩, 13) := ⟨⟨by decide +kernel, by decide +kernel⟩, List.mem_of_getElem? (i := 20) (by decide +kernel), List.mem_of_getElem? (i := 392) (by decide +kernel), List.mem_of_getElem? (i := 393) (by decide +kernel)⟩
theorem lw_p3 : lw_okq (⟨"FoundOffice$Rows", "isRow", "(I)Z"⟩, 2) := ⟨⟨by decide +kernel, by decide +kernel⟩, List.mem_of_getElem? (i := 52) (by decide +kernel), List.mem_of_getElem? (i := 400) (by decide +kernel), List.mem_of_getElem? (i := 401) (by decide +kernel)⟩
theorem lw_p4 : lw_okq (⟨"FoundOffice", "arePair", "(II)Z"⟩, 13) := ⟨⟨by decide +kernel, by decide +kernel⟩, List.mem_of_getElem? (i := 20) (by decide +kernel), List.mem_of_getElem? (i := 433) (by decide +kernel), List.mem_of_getElem? (i := 434) (by decide +kernel)⟩
theorem lw_p5 : lw_okq (⟨"FoundOffice$Match", "countHolders", "(III)I"⟩, 5) := ⟨⟨by decide +kernel, by decide +kernel⟩, List.mem_of_getElem? (i := 147) (by decide +kernel), List.mem_of_getElem? (i := 467) (by decide +kernel), List.mem_of_getElem? (i := 468) (by decide +kernel)⟩
theorem lw_p6 : lw_okq (⟨"FoundOffice", "matchGroup", "(I)I"⟩, 13) := ⟨⟨by decide +kernel, by decide +kernel⟩, List.mem_of_getElem? (i := 20) (by decide +kernel), List.mem_of_getElem? (i := 510) (by decide +kernel), List.mem_of_getElem? (i := 511) (by decide +kernel)⟩
theorem lw_p7 : lw_okq (⟨"FoundOffice$Group", "hangTogether", "(I)J"⟩, 8) := ⟨⟨by decide +kernel, by decide +kernel⟩, List.mem_of_getElem? (i := 169) (by decide +kernel), List.mem_of_getElem? (i := 529) (by decide +kernel), List.mem_of_getElem? (i := 530) (by decide +kernel)⟩
theorem lw_p8 : lw_okq (⟨"FoundOffice$Group", "listMembers", "(J)V"⟩, 8) := ⟨⟨by decide +kernel, by decide +kernel⟩, List.mem_of_getElem? (i := 169) (by decide +kernel), List.mem_of_getElem? (i := 534) (by decide +kernel), List.mem_of_getElem? (i := 535) (by decide +kernel)⟩
theorem lw_p9 : lw_okq (⟨"FoundOffice$Assignment", "reachFree", "()I"⟩, 11) := ⟨⟨by decide +kernel, by decide +kernel⟩, List.mem_of_getElem? (i := 175) (by decide +kernel), List.mem_of_getElem? (i := 566) (by decide +kernel), List.mem_of_getElem? (i := 567) (by decide +kernel)⟩
theorem lw_p10 : lw_okq (⟨"FoundOffice$Assignment", "holderOf", "(I)I"⟩, 11) := ⟨⟨by decide +kernel, by decide +kernel⟩, List.mem_of_getElem? (i := 175) (by decide +kernel), List.mem_of_getElem? (i := 571) (by decide +kernel), List.mem_of_getElem? (i := 572) (by decide +kernel)⟩
theorem lw_p11 : lw_okq (⟨"FoundOffice$Assignment", "lookFrom", "(I)V"⟩, 11) := ⟨⟨by decide +kernel, by decide +kernel⟩, List.mem_of_getElem? (i := 175) (by decide +kernel), List.mem_of_getElem? (i := 575) (by decide +kernel), List.mem_of_getElem? (i := 576) (by decide +kernel)⟩
theorem lw_p12 : lw_okq (⟨"FoundOffice$Assignment", "nearest", "()I"⟩, 11) := ⟨⟨by decide +kernel, by decide +kernel⟩, List.mem_of_getElem? (i := 175) (by decide +kernel), List.mem_of_getElem? (i := 579) (by decide +kernel), List.mem_of_getElem? (i := 580) (by decide +kernel)⟩
theorem lw_p13 : lw_okq (⟨"FoundOffice$Assignment", "changePrices", "(J)V"⟩, 11) := ⟨⟨by decide +kernel, by decide +kernel⟩, List.mem_of_getElem? (i := 175) (by decide +kernel), List.mem_of_getElem? (i := 583) (by decide +kernel), List.mem_of_getElem? (i := 584) (by decide +kernel)⟩
theorem lw_p14 : lw_okq (⟨"FoundOffice$Assignment", "passOn", "(I)V"⟩, 11) := ⟨⟨by decide +kernel, by decide +kernel⟩, List.mem_of_getElem? (i := 175) (by decide +kernel), List.mem_of_getElem? (i := 587) (by decide +kernel), List.mem_of_getElem? (i := 588) (by decide +kernel)⟩
theorem lw_p15 : lw_okq (⟨"FoundOffice$Asking", "isFirstOfClass", "(JII)Z"⟩, 6) := ⟨⟨by decide +kernel, by decide +kernel⟩, List.mem_of_getElem? (i := 240) (by decide +kernel), List.mem_of_getElem? (i := 657) (by decide +kernel), List.mem_of_getElem? (i := 658) (by decide +kernel)⟩
def lw_privs_1 : List (MethodName × Nat) := [(⟨"FoundOffice$Questions", "tellOneWay", "(IIZ)V"⟩, 5), (⟨"FoundOffice", "isThere", "(ZI)Z"⟩, 13), (⟨"FoundOffice", "rowsOf", "(Z)LFoundOffice$Rows;"⟩, 13), (⟨"FoundOffice$Rows", "isRow", "(I)Z"⟩, 2), (⟨"FoundOffice", "arePair", "(II)Z"⟩, 13), (⟨"FoundOffice$Match", "countHolders", "(III)I"⟩, 5), (⟨"FoundOffice", "matchGroup", "(I)I"⟩, 13), (⟨"FoundOffice$Group", "hangTogether", "(I)J"⟩, 8), (⟨"FoundOffice$Group", "listMembers", "(J)V"⟩, 8), (⟨"FoundOffice$Assignment", "reachFree", "()I"⟩, 11), (⟨"FoundOffice$Assignment", "holderOf", "(I)I"⟩, 11), (⟨"FoundOffice$Assignment", "lookFrom", "(I)V"⟩, 11), (⟨"FoundOffice$Assignment", "nearest", "()I"⟩, 11), (⟨"FoundOffice$Assignment", "changePrices", "(J)V"⟩, 11), (⟨"FoundOffice$Assignment", "passOn", "(I)V"⟩, 11), (⟨"FoundOffice$Asking", "isFirstOfClass", "(JII)Z"⟩, 6)]
theorem lw_r1 : ∀ q ∈ lw_privs_1, lw_okq q := List.forall_mem_cons.mpr ⟨lw_p0, List.forall_mem_cons.mpr ⟨lw_p1, List.forall_mem_cons.mpr ⟨lw_p2, List.forall_mem_cons.mpr ⟨lw_p3, List.forall_mem_cons.mpr ⟨lw_p4, List.forall_mem_cons.mpr ⟨lw_p5, List.forall_mem_cons.mpr ⟨lw_p6, List.forall_mem_cons.mpr ⟨lw_p7, List.forall_mem_cons.mpr ⟨lw_p8, List.forall_mem_cons.mpr ⟨lw_p9, List.forall_mem_cons.mpr ⟨lw_p10, List.forall_mem_cons.mpr ⟨lw_p11, List.forall_mem_cons.mpr ⟨lw_p12, List.forall_mem_cons.mpr ⟨lw_p13, List.forall_mem_cons.mpr ⟨lw_p14, List.forall_mem_cons.mpr ⟨lw_p15, fun _ h => absurd h List.not_mem_nil⟩⟩⟩⟩⟩⟩⟩⟩⟩⟩⟩⟩⟩⟩⟩⟩
theorem lw_p16 : lw_okq (⟨"FoundOffice$Asking", "listDistinct", "(J)V"⟩, 6) := ⟨⟨by decide +kernel, by decide +kernel⟩, List.mem_of_getElem? (i := 240) (by decide +kernel), List.mem_of_getElem? (i := 678) (by decide +kernel), List.mem_of_getElem? (i := 679) (by decide +kernel)⟩
theorem lw_p17 : lw_okq (⟨"FoundOffice$Asking", "isListed", "(I)Z"⟩, 6) := ⟨⟨by decide +kernel, by decide +kernel⟩, List.mem_of_getElem? (i := 240) (by decide +kernel), List.mem_of_getElem? (i := 682) (by decide +kernel), List.mem_of_getElem? (i := 683) (by decide +kernel)⟩
theorem lw_p18 : lw_okq (⟨"FoundOffice$Asking", "classOf", "(II)I"⟩, 6) := ⟨⟨by decide +kernel, by decide +kernel⟩, List.mem_of_getElem? (i := 240) (by decide +kernel), List.mem_of_getElem? (i := 687) (by decide +kernel), List.mem_of_getElem? (i := 688) (by decide +kernel)⟩
theorem lw_p19 : lw_okq (⟨"FoundOffice$Asking", "search", "(II)I"⟩, 6) := ⟨⟨by decide +kernel, by decide +kernel⟩, List.mem_of_getElem? (i := 240) (by decide +kernel), List.mem_of_getElem? (i := 691) (by decide +kernel), List.mem_of_getElem? (i := 692) (by decide +kernel)⟩
theorem lw_p20 : lw_okq (⟨"FoundOffice$Asking", "lowerBound", "(II)I"⟩, 6) := ⟨⟨by decide +kernel, by decide +kernel⟩, List.mem_of_getElem? (i := 240) (by decide +kernel), List.mem_of_getElem? (i := 701) (by decide +kernel), List.mem_of_getElem? (i := 702) (by decide +kernel)⟩
theorem lw_p21 : lw_okq (⟨"FoundOffice$Asking", "countParts", "(II)I"⟩, 6) := ⟨⟨by decide +kernel, by decide +kernel⟩, List.mem_of_getElem? (i := 240) (by decide +kernel), List.mem_of_getElem? (i := 705) (by decide +kernel), List.mem_of_getElem? (i := 706) (by decide +kernel)⟩
theorem lw_p22 : lw_okq (⟨"FoundOffice$Asking", "neededBehind", "(IIII)I"⟩, 6) := ⟨⟨by decide +kernel, by decide +kernel⟩, List.mem_of_getElem? (i := 240) (by decide +kernel), List.mem_of_getElem? (i := 710) (by decide +kernel), List.mem_of_getElem? (i := 711) (by decide +kernel)⟩
theorem lw_p23 : lw_okq (⟨"FoundOffice$Claims", "isTarget", "(I)Z"⟩, 6) := ⟨⟨by decide +kernel, by decide +kernel⟩, List.mem_of_getElem? (i := 122) (by decide +kernel), List.mem_of_getElem? (i := 737) (by decide +kernel), List.mem_of_getElem? (i := 738) (by decide +kernel)⟩
theorem lw_p24 : lw_okq (⟨"FoundOffice", "shut", "(I)V"⟩, 13) := ⟨⟨by decide +kernel, by decide +kernel⟩, List.mem_of_getElem? (i := 20) (by decide +kernel), List.mem_of_getElem? (i := 787) (by decide +kernel), List.mem_of_getElem? (i := 788) (by decide +kernel)⟩
theorem lw_p25 : lw_okq (⟨"FoundOffice", "sendWithContents", "(III)V"⟩, 13) := ⟨⟨by decide +kernel, by decide +kernel⟩, List.mem_of_getElem? (i := 20) (by decide +kernel), List.mem_of_getElem? (i := 804) (by decide +kernel), List.mem_of_getElem? (i := 805) (by decide +kernel)⟩
theorem lw_p26 : lw_okq (⟨"FoundOffice", "sendOut", "(III)V"⟩, 13) := ⟨⟨by decide +kernel, by decide +kernel⟩, List.mem_of_getElem? (i := 20) (by decide +kernel), List.mem_of_getElem? (i := 808) (by decide +kernel), List.mem_of_getElem? (i := 809) (by decide +kernel)⟩
theorem lw_p27 : lw_okq (⟨"FoundOffice", "passDay", "()V"⟩, 13) := ⟨⟨by decide +kernel, by decide +kernel⟩, List.mem_of_getElem? (i := 20) (by decide +kernel), List.mem_of_getElem? (i := 865) (by decide +kernel), List.mem_of_getElem? (i := 866) (by decide +kernel)⟩
theorem lw_p28 : lw_okq (⟨"FoundOffice", "ripen", "(I)V"⟩, 13) := ⟨⟨by decide +kernel, by decide +kernel⟩, List.mem_of_getElem? (i := 20) (by decide +kernel), List.mem_of_getElem? (i := 874) (by decide +kernel), List.mem_of_getElem? (i := 875) (by decide +kernel)⟩
theorem lw_p29 : lw_okq (⟨"java/lang/Throwable", "fillInStackTrace", "(I)Ljava/lang/Throwable;"⟩, 6) := ⟨⟨by decide +kernel, by decide +kernel⟩, List.mem_of_getElem? (i := 970) (by decide +kernel), List.mem_of_getElem? (i := 968) (by decide +kernel), List.mem_of_getElem? (i := 969) (by decide +kernel)⟩
theorem lw_p30 : lw_okq (⟨"FoundOfficeModel", "isQuestion", "(I)Z"⟩, 42) := ⟨⟨by decide +kernel, by decide +kernel⟩, List.mem_of_getElem? (i := 1031) (by decide +kernel), List.mem_of_getElem? (i := 1179) (by decide +kernel), List.mem_of_getElem? (i := 1180) (by decide +kernel)⟩
theorem lw_p31 : lw_okq (⟨"FoundOfficeModel", "isAnswer", "(II)Z"⟩, 42) := ⟨⟨by decide +kernel, by decide +kernel⟩, List.mem_of_getElem? (i := 1031) (by decide +kernel), List.mem_of_getElem? (i := 1183) (by decide +kernel), List.mem_of_getElem? (i := 1184) (by decide +kernel)⟩
def lw_privs_2 : List (MethodName × Nat) := [(⟨"FoundOffice$Asking", "listDistinct", "(J)V"⟩, 6), (⟨"FoundOffice$Asking", "isListed", "(I)Z"⟩, 6), (⟨"FoundOffice$Asking", "classOf", "(II)I"⟩, 6), (⟨"FoundOffice$Asking", "search", "(II)I"⟩, 6), (⟨"FoundOffice$Asking", "lowerBound", "(II)I"⟩, 6), (⟨"FoundOffice$Asking", "countParts", "(II)I"⟩, 6), (⟨"FoundOffice$Asking", "neededBehind", "(IIII)I"⟩, 6), (⟨"FoundOffice$Claims", "isTarget", "(I)Z"⟩, 6), (⟨"FoundOffice", "shut", "(I)V"⟩, 13), (⟨"FoundOffice", "sendWithContents", "(III)V"⟩, 13), (⟨"FoundOffice", "sendOut", "(III)V"⟩, 13), (⟨"FoundOffice", "passDay", "()V"⟩, 13), (⟨"FoundOffice", "ripen", "(I)V"⟩, 13), (⟨"java/lang/Throwable", "fillInStackTrace", "(I)Ljava/lang/Throwable;"⟩, 6), (⟨"FoundOfficeModel", "isQuestion", "(I)Z"⟩, 42), (⟨"FoundOfficeModel", "isAnswer", "(II)Z"⟩, 42)]
theorem lw_r2 : ∀ q ∈ lw_privs_2, lw_okq q := List.forall_mem_cons.mpr ⟨lw_p16, List.forall_mem_cons.mpr ⟨lw_p17, List.forall_mem_cons.mpr ⟨lw_p18, List.forall_mem_cons.mpr ⟨lw_p19, List.forall_mem_cons.mpr ⟨lw_p20, List.forall_mem_cons.mpr ⟨lw_p21, List.forall_mem_cons.mpr ⟨lw_p22, List.forall_mem_cons.mpr ⟨lw_p23, List.forall_mem_cons.mpr ⟨lw_p24, List.forall_mem_cons.mpr ⟨lw_p25, List.forall_mem_cons.mpr ⟨lw_p26, List.forall_mem_cons.mpr ⟨lw_p27, List.forall_mem_cons.mpr ⟨lw_p28, List.forall_mem_cons.mpr ⟨lw_p29, List.forall_mem_cons.mpr ⟨lw_p30, List.forall_mem_cons.mpr ⟨lw_p31, fun _ h => absurd h List.not_mem_nil⟩⟩⟩⟩⟩⟩⟩⟩⟩⟩⟩⟩⟩⟩⟩⟩
theorem lw_p32 : lw_okq (⟨"FoundOfficeModel", "mayBe", "(III)Z"⟩, 42) := ⟨⟨by decide +kernel, by decide +kernel⟩, List.mem_of_getElem? (i := 1031) (by decide +kernel), List.mem_of_getElem? (i := 1191) (by decide +kernel), List.mem_of_getElem? (i := 1192) (by decide +kernel)⟩
theorem lw_p33 : lw_okq (⟨"FoundOfficeModel", "isBag", "(I)Z"⟩, 42) := ⟨⟨by decide +kernel, by decide +kernel⟩, List.mem_of_getElem? (i := 1031) (by decide +kernel), List.mem_of_getElem? (i := 1199) (by decide +kernel), List.mem_of_getElem? (i := 1200) (by decide +kernel)⟩
theorem lw_p34 : lw_okq (⟨"FoundOfficeModel", "isThing", "(I)Z"⟩, 42) := ⟨⟨by decide +kernel, by decide +kernel⟩, List.mem_of_getElem? (i := 1031) (by decide +kernel), List.mem_of_getElem? (i := 1203) (by decide +kernel), List.mem_of_getElem? (i := 1204) (by decide +kernel)⟩
theorem lw_p35 : lw_okq (⟨"FoundOfficeModel", "isOut", "(I)Z"⟩, 42) := ⟨⟨by decide +kernel, by decide +kernel⟩, List.mem_of_getElem? (i := 1031) (by decide +kernel), List.mem_of_getElem? (i := 1207) (by decide +kernel), List.mem_of_getElem? (i := 1208) (by decide +kernel)⟩
theorem lw_p36 : lw_okq (⟨"FoundOfficeModel", "rowOf", "(ZI)I"⟩, 42) := ⟨⟨by decide +kernel, by decide +kernel⟩, List.mem_of_getElem? (i := 1031) (by decide +kernel), List.mem_of_getElem? (i := 1219) (by decide +kernel), List.mem_of_getElem? (i := 1220) (by decide +kernel)⟩
theorem lw_p37 : lw_okq (⟨"FoundOfficeModel", "isReport", "(I)Z"⟩, 42) := ⟨⟨by decide +kernel, by decide +kernel⟩, List.mem_of_getElem? (i := 1031) (by decide +kernel), List.mem_of_getElem? (i := 1223) (by decide +kernel), List.mem_of_getElem? (i := 1224) (by decide +kernel)⟩
theorem lw_p38 : lw_okq (⟨"FoundOfficeModel", "knows", "(II)I"⟩, 42) := ⟨⟨by decide +kernel, by decide +kernel⟩, List.mem_of_getElem? (i := 1031) (by decide +kernel), List.mem_of_getElem? (i := 1235) (by decide +kernel), List.mem_of_getElem? (i := 1236) (by decide +kernel)⟩
theorem lw_p39 : lw_okq (⟨"FoundOfficeModel", "isFit", "(II)Z"⟩, 42) := ⟨⟨by decide +kernel, by decide +kernel⟩, List.mem_of_getElem? (i := 1031) (by decide +kernel), List.mem_of_getElem? (i := 1247) (by decide +kernel), List.mem_of_getElem? (i := 1248) (by decide +kernel)⟩
theorem lw_p40 : lw_okq (⟨"FoundOfficeModel", "apart", "(II)I"⟩, 42) := ⟨⟨by decide +kernel, by decide +kernel⟩, List.mem_of_getElem? (i := 1031) (by decide +kernel), List.mem_of_getElem? (i := 1251) (by decide +kernel), List.mem_of_getElem? (i := 1252) (by decide +kernel)⟩
theorem lw_p41 : lw_okq (⟨"FoundOfficeModel", "strengthOf", "(II)I"⟩, 42) := ⟨⟨by decide +kernel, by decide +kernel⟩, List.mem_of_getElem? (i := 1031) (by decide +kernel), List.mem_of_getElem? (i := 1263) (by decide +kernel), List.mem_of_getElem? (i := 1264) (by decide +kernel)⟩
theorem lw_p42 : lw_okq (⟨"FoundOfficeModel", "fitting0", "(I)I"⟩, 42) := ⟨⟨by decide +kernel, by decide +kernel⟩, List.mem_of_getElem? (i := 1031) (by decide +kernel), List.mem_of_getElem? (i := 1271) (by decide +kernel), List.mem_of_getElem? (i := 1272) (by decide +kernel)⟩
theorem lw_p43 : lw_okq (⟨"FoundOfficeModel", "isFitIn", "(II)Z"⟩, 42) := ⟨⟨by decide +kernel, by decide +kernel⟩, List.mem_of_getElem? (i := 1031) (by decide +kernel), List.mem_of_getElem? (i := 1275) (by decide +kernel), List.mem_of_getElem? (i := 1276) (by decide +kernel)⟩
theorem lw_p44 : lw_okq (⟨"FoundOfficeModel", "isOpen", "(I)Z"⟩, 42) := ⟨⟨by decide +kernel, by decide +kernel⟩, List.mem_of_getElem? (i := 1031) (by decide +kernel), List.mem_of_getElem? (i := 1287) (by decide +kernel), List.mem_of_getElem? (i := 1288) (by decide +kernel)⟩
theorem lw_p45 : lw_okq (⟨"FoundOfficeModel", "given", "(I)I"⟩, 42) := ⟨⟨by decide +kernel, by decide +kernel⟩, List.mem_of_getElem? (i := 1031) (by decide +kernel), List.mem_of_getElem? (i := 1291) (by decide +kernel), List.mem_of_getElem? (i := 1292) (by decide +kernel)⟩
theorem lw_p46 : lw_okq (⟨"FoundOfficeModel", "findGroup", "(I)V"⟩, 42) := ⟨⟨by decide +kernel, by decide +kernel⟩, List.mem_of_getElem? (i := 1031) (by decide +kernel), List.mem_of_getElem? (i := 1295) (by decide +kernel), List.mem_of_getElem? (i := 1296) (by decide +kernel)⟩
theorem lw_p47 : lw_okq (⟨"FoundOfficeModel", "isTooLarge", "()Z"⟩, 42) := ⟨⟨by decide +kernel, by decide +kernel⟩, List.mem_of_getElem? (i := 1031) (by decide +kernel), List.mem_of_getElem? (i := 1299) (by decide +kernel), List.mem_of_getElem? (i := 1300) (by decide +kernel)⟩
def lw_privs_3 : List (MethodName × Nat) := [(⟨"FoundOfficeModel", "mayBe", "(III)Z"⟩, 42), (⟨"FoundOfficeModel", "isBag", "(I)Z"⟩, 42), (⟨"FoundOfficeModel", "isThing", "(I)Z"⟩, 42), (⟨"FoundOfficeModel", "isOut", "(I)Z"⟩, 42), (⟨"FoundOfficeModel", "rowOf", "(ZI)I"⟩, 42), (⟨"FoundOfficeModel", "isReport", "(I)Z"⟩, 42), (⟨"FoundOfficeModel", "knows", "(II)I"⟩, 42), (⟨"FoundOfficeModel", "isFit", "(II)Z"⟩, 42), (⟨"FoundOfficeModel", "apart", "(II)I"⟩, 42), (⟨"FoundOfficeModel", "strengthOf", "(II)I"⟩, 42), (⟨"FoundOfficeModel", "fitting0", "(I)I"⟩, 42), (⟨"FoundOfficeModel", "isFitIn", "(II)Z"⟩, 42), (⟨"FoundOfficeModel", "isOpen", "(I)Z"⟩, 42), (⟨"FoundOfficeModel", "given", "(I)I"⟩, 42), (⟨"FoundOfficeModel", "findGroup", "(I)V"⟩, 42), (⟨"FoundOfficeModel", "isTooLarge", "()Z"⟩, 42)]
theorem lw_r3 : ∀ q ∈ lw_privs_3, lw_okq q := List.forall_mem_cons.mpr ⟨lw_p32, List.forall_mem_cons.mpr ⟨lw_p33, List.forall_mem_cons.mpr ⟨lw_p34, List.forall_mem_cons.mpr ⟨lw_p35, List.forall_mem_cons.mpr ⟨lw_p36, List.forall_mem_cons.mpr ⟨lw_p37, List.forall_mem_cons.mpr ⟨lw_p38, List.forall_mem_cons.mpr ⟨lw_p39, List.forall_mem_cons.mpr ⟨lw_p40, List.forall_mem_cons.mpr ⟨lw_p41, List.forall_mem_cons.mpr ⟨lw_p42, List.forall_mem_cons.mpr ⟨lw_p43, List.forall_mem_cons.mpr ⟨lw_p44, List.forall_mem_cons.mpr ⟨lw_p45, List.forall_mem_cons.mpr ⟨lw_p46, List.forall_mem_cons.mpr ⟨lw_p47, fun _ h => absurd h List.not_mem_nil⟩⟩⟩⟩⟩⟩⟩⟩⟩⟩⟩⟩⟩⟩⟩⟩
theorem lw_p48 : lw_okq (⟨"FoundOfficeModel", "match", "()V"⟩, 42) := ⟨⟨by decide +kernel, by decide +kernel⟩, List.mem_of_getElem? (i := 1031) (by decide +kernel), List.mem_of_getElem? (i := 1303) (by decide +kernel), List.mem_of_getElem? (i := 1304) (by decide +kernel)⟩
theorem lw_p49 : lw_okq (⟨"FoundOfficeModel", "worth", "(II)J"⟩, 42) := ⟨⟨by decide +kernel, by decide +kernel⟩, List.mem_of_getElem? (i := 1031) (by decide +kernel), List.mem_of_getElem? (i := 1307) (by decide +kernel), List.mem_of_getElem? (i := 1308) (by decide +kernel)⟩
theorem lw_p50 : lw_okq (⟨"FoundOfficeModel", "findFitted", "(I)V"⟩, 42) := ⟨⟨by decide +kernel, by decide +kernel⟩, List.mem_of_getElem? (i := 1031) (by decide +kernel), List.mem_of_getElem? (i := 1335) (by decide +kernel), List.mem_of_getElem? (i := 1336) (by decide +kernel)⟩
theorem lw_p51 : lw_okq (⟨"FoundOfficeModel", "classes", "(I)I"⟩, 42) := ⟨⟨by decide +kernel, by decide +kernel⟩, List.mem_of_getElem? (i := 1031) (by decide +kernel), List.mem_of_getElem? (i := 1339) (by decide +kernel), List.mem_of_getElem? (i := 1340) (by decide +kernel)⟩
theorem lw_p52 : lw_okq (⟨"FoundOfficeModel", "worst", "(II)I"⟩, 42) := ⟨⟨by decide +kernel, by decide +kernel⟩, List.mem_of_getElem? (i := 1031) (by decide +kernel), List.mem_of_getElem? (i := 1351) (by decide +kernel), List.mem_of_getElem? (i := 1352) (by decide +kernel)⟩
theorem lw_p53 : lw_okq (⟨"FoundOfficeModel", "classOf", "(III)I"⟩, 42) := ⟨⟨by decide +kernel, by decide +kernel⟩, List.mem_of_getElem? (i := 1031) (by decide +kernel), List.mem_of_getElem? (i := 1355) (by decide +kernel), List.mem_of_getElem? (i := 1356) (by decide +kernel)⟩
theorem lw_p54 : lw_okq (⟨"FoundOfficeModel", "stands", "(I)Z"⟩, 42) := ⟨⟨by decide +kernel, by decide +kernel⟩, List.mem_of_getElem? (i := 1031) (by decide +kernel), List.mem_of_getElem? (i := 1363) (by decide +kernel), List.mem_of_getElem? (i := 1364) (by decide +kernel)⟩
theorem lw_p55 : lw_okq (⟨"FoundOfficeModel", "withdrawAll", "(I)V"⟩, 42) := ⟨⟨by decide +kernel, by decide +kernel⟩, List.mem_of_getElem? (i := 1031) (by decide +kernel), List.mem_of_getElem? (i := 1375) (by decide +kernel), List.mem_of_getElem? (i := 1376) (by decide +kernel)⟩
theorem lw_p56 : lw_okq (⟨"FoundOfficeModel", "goesOut", "(III)V"⟩, 42) := ⟨⟨by decide +kernel, by decide +kernel⟩, List.mem_of_getElem? (i := 1031) (by decide +kernel), List.mem_of_getElem? (i := 1379) (by decide +kernel), List.mem_of_getElem? (i := 1380) (by decide +kernel)⟩
theorem lw_p57 : lw_okq (⟨"FoundOfficeModel", "standing", "(I)I"⟩, 42) := ⟨⟨by decide +kernel, by decide +kernel⟩, List.mem_of_getElem? (i := 1031) (by decide +kernel), List.mem_of_getElem? (i := 1383) (by decide +kernel), List.mem_of_getElem? (i := 1384) (by decide +kernel)⟩
theorem lw_p58 : lw_okq (⟨"FoundOfficeModel", "inside", "(I)I"⟩, 42) := ⟨⟨by decide +kernel, by decide +kernel⟩, List.mem_of_getElem? (i := 1031) (by decide +kernel), List.mem_of_getElem? (i := 1407) (by decide +kernel), List.mem_of_getElem? (i := 1408) (by decide +kernel)⟩
theorem lw_p59 : lw_okq (⟨"FoundOfficeModel", "oneDay", "()V"⟩, 42) := ⟨⟨by decide +kernel, by decide +kernel⟩, List.mem_of_getElem? (i := 1031) (by decide +kernel), List.mem_of_getElem? (i := 1419) (by decide +kernel), List.mem_of_getElem? (i := 1420) (by decide +kernel)⟩
def lw_privs_4 : List (MethodName × Nat) := [(⟨"FoundOfficeModel", "match", "()V"⟩, 42), (⟨"FoundOfficeModel", "worth", "(II)J"⟩, 42), (⟨"FoundOfficeModel", "findFitted", "(I)V"⟩, 42), (⟨"FoundOfficeModel", "classes", "(I)I"⟩, 42), (⟨"FoundOfficeModel", "worst", "(II)I"⟩, 42), (⟨"FoundOfficeModel", "classOf", "(III)I"⟩, 42), (⟨"FoundOfficeModel", "stands", "(I)Z"⟩, 42), (⟨"FoundOfficeModel", "withdrawAll", "(I)V"⟩, 42), (⟨"FoundOfficeModel", "goesOut", "(III)V"⟩, 42), (⟨"FoundOfficeModel", "standing", "(I)I"⟩, 42), (⟨"FoundOfficeModel", "inside", "(I)I"⟩, 42), (⟨"FoundOfficeModel", "oneDay", "()V"⟩, 42)]
theorem lw_r4 : ∀ q ∈ lw_privs_4, lw_okq q := List.forall_mem_cons.mpr ⟨lw_p48, List.forall_mem_cons.mpr ⟨lw_p49, List.forall_mem_cons.mpr ⟨lw_p50, List.forall_mem_cons.mpr ⟨lw_p51, List.forall_mem_cons.mpr ⟨lw_p52, List.forall_mem_cons.mpr ⟨lw_p53, List.forall_mem_cons.mpr ⟨lw_p54, List.forall_mem_cons.mpr ⟨lw_p55, List.forall_mem_cons.mpr ⟨lw_p56, List.forall_mem_cons.mpr ⟨lw_p57, List.forall_mem_cons.mpr ⟨lw_p58, List.forall_mem_cons.mpr ⟨lw_p59, fun _ h => absurd h List.not_mem_nil⟩⟩⟩⟩⟩⟩⟩⟩⟩⟩⟩⟩
def lw_privs : List (MethodName × Nat) := lw_privs_1 ++ (lw_privs_2 ++ (lw_privs_3 ++ (lw_privs_4)))
def lw_tbl : List Cond := k2_sels lw_privs ++ tables_1
theorem lw_privs_ok : ∀ q ∈ lw_privs, lw_okq q := by
  show ∀ q ∈ lw_privs_1 ++ (lw_privs_2 ++ (lw_privs_3 ++ (lw_privs_4))), lw_okq q
  exact List.forall_mem_append.mpr ⟨lw_r1, List.forall_mem_append.mpr ⟨lw_r2, List.forall_mem_append.mpr ⟨lw_r3, lw_r4⟩⟩⟩
end
section
/-! ===== BEGIN words of one list among another's, by their places ===== -/
theorem goodIn_r {big : List Cond} (ws : List Cond) (ps : List Nat) (hp : ws = ps.filterMap (fun i => big[i]?)) (h : ws.all goodWord = true) : GoodIn big ws := by
  intro w hw
  have h1 := List.all_eq_true.mp h w hw
  rw [hp] at hw
  obtain ⟨i, -, hi⟩ := List.mem_filterMap.mp hw
  have hm : w ∈ big := by first | exact List.mem_of_getElem? hi | exact List.getElem?_mem hi
  exact ⟨hm, good_of_word h1⟩
theorem goodIn_app {big a b : List Cond} (ha : GoodIn big a) (hb : GoodIn big b) : GoodIn big (a ++ b) := fun w h => (List.mem_append.mp h).elim (ha w) (hb w)
theorem goodIn_ca {big a b : List Cond} {c : Cond} (ha : GoodIn big (c :: a)) (hb : GoodIn big b) : GoodIn big (c :: (a ++ b)) := fun w h => (List.mem_cons.mp h).elim (fun e => ha w (List.mem_cons.mpr (Or.inl e))) (fun h => (List.mem_append.mp h).elim (fun h => ha w (List.mem_cons.mpr (Or.inr h))) (hb w))
theorem goodIn_sub {big ws : List Cond} (hm : ∀ w ∈ ws, w ∈ big) (h : ws.all goodWord = true) : GoodIn big ws := fun w hw => ⟨hm w hw, good_of_word (List.all_eq_true.mp h w hw)⟩
/-! ===== END ===== -/

/-! ===== BEGIN exceptions that leave a method, and their catching by the caller (launches without stack traces) ===== -/
section VXA
/-! The laws vx_back, vx_callV, vx_callS, vx_callSW, vx_throw0, vx_throwS follow proofs of the library, with one case more: JvmDerived/Free/Laws.lean (Back.of_free), Shelf42/LK1.lean (callV, callS), Shelf/KitTraced.lean (throwNew0V, throwNewS). -/
/-- where a method has thrown q: the class by its name, the cell, what was written, the world -/
def vx_T (XC : String → State → State → Prop) (st : State) (q : Addr) (t : State) (mc ms : Nat) (free : Addr → Prop) : Prop :=
  ∃ (E : String) (ce : Cell) (L : List Loc), XC E st t ∧ t.heap[q]? = some ce ∧ ce.vm = .none ∧ st.vm.findClass E = some ce.cls ∧ st.WarmedH t.vm ∧ st.sameButNew ({ t with vm := st.vm } : State) L mc ms ∧ ∀ z ∈ L, free z.base
def vx_Q (Qc : Array Value → State → Outcome → State → Prop) (XC : String → State → State → Prop) (mc ms : Nat) (free : Addr → Prop) : Array Value → State → Outcome → State → Prop := fun a st o t =>
  (Qc a st o t ∧ ∃ L, FrameEnd st o t L mc ms ∧ ∀ q ∈ L, free q.base) ∨ ∃ q, o = .threw q ∧ vx_T XC st q t mc ms free
/-- a callee that returns or throws -/
def vx_Met (l : Launch) (y : MethodName) (ws : List Cond) (rm : Room) (Pc : Array Value → State → Prop) (Qc : Array Value → State → Outcome → State → Prop) (XC : String → State → State → Prop) (mc ms : Nat) (free : Addr → Prop) : Prop :=
  MetFree l y (headSpec ws rm) Pc (fun _ _ _ _ _ => True) (vx_Q Qc XC mc ms free)
def vx_Post (XC : String → State → State → Prop) (mc ms : Nat) (free : Addr → Prop) : Pt → Array Value → Addr → Pt → Prop := fun A a q B =>
  ∃ (g : JFrame) (mk : MethodId) (t : State) (L : List Loc) (E : String) (ce : Cell), B.U.heap = t.heap ∧ B.U.vm = t.vm ∧ XC E (A.U.calling g mk a) t ∧ t.heap[q]? = some ce ∧ ce.vm = .none ∧ A.U.vm.findClass E = some ce.cls ∧ B.locs = A.locs ++ L ∧ (∀ z ∈ L, free z.base) ∧ B.cells = A.cells + mc ∧ B.slots = A.slots + ms
def vx_Back (l : Launch) (R : Room) (p : Program) (e : Env) (below : List Frame) (s : State) (sargs : Array Value) (y : MethodName) (len W9 : Nat)
    (Pre : Pt → Array Value → Prop) (Post : Pt → Array Value → Option Value → Pt → Prop) (PostX : Pt → Array Value → Addr → Pt → Prop) : Prop :=
  ∀ (m : MethodId) (meth : Method) (c : Code) (A : Pt) (g : JFrame) (ig : Instr) (mk : MethodId) (a : Array Value),
    Stand p l e R s m sargs below meth c A.U A.locs A.cells A.slots → g.method = m → g.locals.size = c.maxLocals → decode c.code g.pc = .ok (ig, len) →
    2 * g.monitorRoom + (g.stack.map fun v => v.category).sum ≤ W9 → A.U.methodNamed? y = some mk → Pre A a →
    (∃ (v : Option Value) (B : Pt), Stand p l e R s m sargs below meth c B.U B.locs B.cells B.slots ∧ Post A a v B ∧
      Steps p.tables e below (doInvoke e (A.U.setTop g) [] mk a).1 (B.U.setTop { g with pc := g.pc + len, stack := v.toList ++ g.stack })) ∨
    (∃ (q : Addr) (B : Pt), Stand p l e R s m sargs below meth c B.U B.locs B.cells B.slots ∧ PostX A a q B ∧
      Steps p.tables e below (doInvoke e (A.U.setTop g) [] mk a).1 ((B.U.setTop g).pushFrame (.throwing q)))
section Payer
variable {l : Launch} {R : Room} {p : Program} {e : Env} {below : List Frame} {s : State} {sargs : Array Value} {y : MethodName} {len W9 : Nat}
theorem vx_back {ws : List Cond} {rm : Room} {Pc : Array Value → State → Prop} {Qc : Array Value → State → Outcome → State → Prop} {XC : String → State → State → Prop} {mc ms : Nat} {free : Addr → Prop} {bytes : ByteArray} {maxL : Nat} {ret : Option FieldType}
    (hM : vx_Met l y ws rm Pc Qc XC mc ms free) (hblind : FrameBlind Pc) (hrc : rm.cells = mc) (hrs : rm.slots = ms)
    (hframes : rm.frames + 1 ≤ R.frames) (hlocals : W9 + (maxL + 11) + rm.locals ≤ R.locals)
    (hws : ∀ w ∈ ws, ∀ a' U, s.WarmedH U.vm → w.before a' U = true) (hcode : Cond.code y bytes maxL ret ∈ ws) (hinit : ∀ a' U, s.WarmedH U.vm → (Cond.initialized y.cls).before a' U = true) :
    vx_Back l R p e below s sargs y len W9 (PreOf R mc ms Pc) (PostOf Qc mc ms free) (vx_Post XC mc ms free) := by
  intro m meth c A g ig mk a X hg hsize hdg hW hn hp
  have h1 : (headSpec ws rm).pre.before a A.U = true := atoms_intro fun w hw => hws w hw _ _ X.warmed
  have h2 : (Cond.code y bytes maxL ret).before a A.U = true := hws _ hcode _ _ X.warmed
  have h3 : (Cond.initialized y.cls).before a A.U = true := hinit _ _ X.warmed
  have h4 : A.cells + (headSpec ws rm).room.cells ≤ R.cells := by rw [show (headSpec ws rm).room.cells = mc from hrc]; exact hp.1
  have h5 : A.slots + (headSpec ws rm).room.slots ≤ R.slots := by rw [show (headSpec ws rm).room.slots = ms from hrs]; exact hp.2.1
  have hPc : Pc a (A.U.calling g mk a) := hblind _ _ _ _ hp.2.2
  obtain ⟨U, Ls, c0, s0⟩ := A
  dsimp only [Pt.U, Pt.locs, Pt.cells, Pt.slots] at h1 h2 h3 h4 h5 X hn hPc ⊢
  obtain ⟨methY, cY, hmY, hcY, -, hlY, -, -, -, -⟩ := Cond.code_spec hn h2
  obtain ⟨kY, hkY, -⟩ := className_of_methodNamed hn
  have hinitY : kY.init = .initialized := Cond.initialized_spec (findClass_of_methodNamed hn) hkY h3
  have h : At U g.method c below := by rw [hg]; exact X.here
  have hlocals9 : W9 + (maxL + 11) + (headSpec ws rm).room.locals ≤ R.locals := hlocals
  have happ : (headSpec ws rm).appliesLoose y e.platform (U.calling g mk a) = true :=
    Spec.appliesLoose_calling (g := g) h hdg hn hkY hinitY
      (X.room_calling (g := g) (R' := (headSpec ws rm).room) hsize hmY hcY hframes (by rw [hlY]; omega) h4 h5) h1
  obtain ⟨mid, hmid⟩ := h.above
  have hfr : (U.setTop g).frames = (.java g :: mid) ++ below := by rw [State.frames_setTop' g h.top, hmid]; rfl
  obtain ⟨o, s₂, hsteps, -, hend, hq⟩ := Steps.callFree hM p X.admits X.cas X.clock (acts := []) hfr happ hPc trivial
  have hq' : vx_Q Qc XC mc ms free a (U.calling g mk a) o s₂ := hq
  rw [State.frames_setTop' g h.top] at hend
  obtain ⟨g₀, hg0⟩ := Option.isSome_iff_exists.mp h.top
  obtain ⟨r, hr⟩ := State.topJava?_eq_some.mp hg0
  have hr' : (({ U with heap := s₂.heap, slotsUsed := s₂.slotsUsed } : State).setVm s₂.vm).frames = .java g₀ :: r := hr
  rcases hq' with ⟨hqc, L, hfe, hL⟩ | ⟨q, rfl, E, ce, L, hx, hce, hcv, hcl, hW₂, hsm, hL⟩
  · obtain ⟨⟨v, rfl⟩, hW₂, e2, q2, q3, q4, q5, q6⟩ := id hfe
    have e3 : s₂ = ({ (U.calling g mk a).setFrames s₂.frames with heap := s₂.heap, slotsUsed := s₂.slotsUsed } : State).setVm s₂.vm := by
      have : s₂ = ({ s₂ with vm := (U.calling g mk a).vm } : State).setVm s₂.vm := rfl
      rw [e2] at this
      exact this
    obtain ⟨c₂, i₂, len₂, hc₂, hd₂, hf₂⟩ := hend
    have hW' : U.WarmedH s₂.vm := hW₂
    have hcc : c₂ = c := by
      have h1 : s₂.code? g.method = U.code? g.method := by
        rw [State.code?_eq, State.code?_eq, hW'.alike.method?]
      exact Option.some.inj (hc₂.symm.trans (h1.trans h.code))
    subst hcc
    have hlen : len₂ = len := by rw [hdg] at hd₂; cases hd₂; rfl
    subst hlen
    have hs₂ : s₂ = (({ U with heap := s₂.heap, slotsUsed := s₂.slotsUsed } : State).setVm s₂.vm).setTop { g with pc := g.pc + len₂, stack := v.toList ++ g.stack } := by
      refine e3.trans ?_
      rw [hf₂, State.calling_eq h.top, State.setFrames_setFrames, State.setTop_of_frames _ hr', hr]
      rfl
    have hsame : U.sameButNew ({ U with heap := s₂.heap, slotsUsed := s₂.slotsUsed } : State) L mc ms := by
      refine ⟨?_, q2, q3, q4, q5, q6⟩
      obtain ⟨t, ht, -⟩ := State.frames_cons hr
      show ({ U with heap := s₂.heap, slotsUsed := s₂.slotsUsed } : State) = { U.setFrames U.frames with heap := s₂.heap, slotsUsed := s₂.slotsUsed }
      rw [State.setFrames_self ht]
    subst hg
    refine Or.inl ⟨v, ⟨(({ U with heap := s₂.heap, slotsUsed := s₂.slotsUsed } : State).setVm s₂.vm), Ls ++ L, c0 + mc, s0 + ms⟩,
      ⟨X.admits, X.cas, X.clock, X.frames, X.room, X.hears, X.method, X.code, (X.here.setHeapUsed s₂.heap s₂.slotsUsed).setVm hW'.alike, X.tail, State.WarmedH.trans X.warmed hW', X.limits, X.bytes, X.same.trans (hsame.setVm s.vm)⟩,
      ⟨g, mk, s₂, L, rfl, rfl, hqc, rfl, hL, rfl, rfl⟩, ?_⟩
    show Steps p.tables e below _ ((({ U with heap := s₂.heap, slotsUsed := s₂.slotsUsed } : State).setVm s₂.vm).setTop { g with pc := g.pc + len₂, stack := v.toList ++ g.stack })
    rw [← hs₂]
    exact hsteps
  · obtain ⟨e2, q2, q3, q4, q5, q6⟩ := id hsm
    have e3 : s₂ = ({ (U.calling g mk a).setFrames s₂.frames with heap := s₂.heap, slotsUsed := s₂.slotsUsed } : State).setVm s₂.vm := by
      have : s₂ = ({ s₂ with vm := (U.calling g mk a).vm } : State).setVm s₂.vm := rfl
      rw [e2] at this
      exact this
    have hf₂ : s₂.frames = .throwing q :: .java g :: U.frames.tail := hend
    have hW' : U.WarmedH s₂.vm := hW₂
    have hs₂ : s₂ = ((({ U with heap := s₂.heap, slotsUsed := s₂.slotsUsed } : State).setVm s₂.vm).setTop g).pushFrame (.throwing q) := by
      refine e3.trans ?_
      rw [hf₂, State.calling_eq h.top, State.setFrames_setFrames, State.pushFrame, State.frames_setTop _ hr', State.setTop_of_frames _ hr', State.setFrames_setFrames, hr]
      rfl
    have hsame : U.sameButNew ({ U with heap := s₂.heap, slotsUsed := s₂.slotsUsed } : State) L mc ms := by
      refine ⟨?_, q2, q3, q4, q5, q6⟩
      obtain ⟨t, ht, -⟩ := State.frames_cons hr
      show ({ U with heap := s₂.heap, slotsUsed := s₂.slotsUsed } : State) = { U.setFrames U.frames with heap := s₂.heap, slotsUsed := s₂.slotsUsed }
      rw [State.setFrames_self ht]
    subst hg
    refine Or.inr ⟨q, ⟨(({ U with heap := s₂.heap, slotsUsed := s₂.slotsUsed } : State).setVm s₂.vm), Ls ++ L, c0 + mc, s0 + ms⟩,
      ⟨X.admits, X.cas, X.clock, X.frames, X.room, X.hears, X.method, X.code, (X.here.setHeapUsed s₂.heap s₂.slotsUsed).setVm hW'.alike, X.tail, State.WarmedH.trans X.warmed hW', X.limits, X.bytes, X.same.trans (hsame.setVm s.vm)⟩,
      ⟨g, mk, s₂, L, E, ce, rfl, rfl, hx, hce, hcv, hcl, rfl, hL, rfl, rfl⟩, ?_⟩
    show Steps p.tables e below _ (((({ U with heap := s₂.heap, slotsUsed := s₂.slotsUsed } : State).setVm s₂.vm).setTop g).pushFrame (.throwing q))
    rw [← hs₂]
    exact hsteps
end Payer
section Calls
variable {p : Program} {l : Launch} {e : Env} {R : Room} {s : State} {m : MethodId} {args : Array Value} {below : List Frame} {meth : Method} {c : Code} {T : State} {locs : List Loc} {cells slots : Nat}
theorem vx_callV (X : Stand p l e R s m args below meth c T locs cells slots) (hexec : p.tables.exec = Jvm.exec) {own C : String} {index : Nat} {y : MethodName} {bytes : ByteArray} {maxL : Nat} {ret : Option FieldType}
    (hown : s.vm.findClass own = some m.cls) (hlink : (Cond.methodLink own index y).before args s = true) (hinst : (Cond.instanceMethod y).before args s = true) (hsel : (Cond.selects C y y).before args s = true)
    (hcode : (Cond.code y bytes maxL ret).before args s = true) (hy : y.cls ≠ "java/lang/invoke/MethodHandle" ∧ y.cls ≠ "java/lang/invoke/VarHandle")
    {W9 : Nat} {Pre : Pt → Array Value → Prop} {Post : Pt → Array Value → Option Value → Pt → Prop} {PostX : Pt → Array Value → Addr → Pt → Prop} (hK : vx_Back l R p e below s args y 3 W9 Pre Post PostX)
    {b : Addr} {cellB : Cell} (hcell : T.heap[b]? = some cellB) (hobj : cellB.vm.isStatics = false) (hcls : s.vm.findClass C = some cellB.cls)
    {g : JFrame} (hg : g.method = m) (hsize : g.locals.size = c.maxLocals) {argsL rest : List Value} (hlen : ∀ sig, parseMethodDescriptor y.desc = some sig → argsL.length = sig.parameters.length)
    (hstack : g.stack = argsL.reverse ++ .ref b :: rest) (hW : 2 * g.monitorRoom + (rest.map fun v => v.category).sum ≤ W9) (hdg : decode c.code g.pc = .ok (.invokevirtual index, 3))
    (hpre : ∀ vm₁, s.WarmedH vm₁ → Pre ⟨T.setVm vm₁, locs, cells, slots⟩ (Value.ref b :: argsL).toArray) :
    (∃ (v : Option Value) (vm₁ : Vm) (B : Pt), s.WarmedH vm₁ ∧ Stand p l e R s m args below meth c B.U B.locs B.cells B.slots ∧ Post ⟨T.setVm vm₁, locs, cells, slots⟩ (Value.ref b :: argsL).toArray v B ∧
      ∀ target, Steps p.tables e below (B.U.setTop { g with pc := g.pc + 3, stack := v.toList ++ rest }) target → Steps p.tables e below (T.setTop g) target) ∨
    (∃ (q : Addr) (vm₁ : Vm) (B : Pt), s.WarmedH vm₁ ∧ Stand p l e R s m args below meth c B.U B.locs B.cells B.slots ∧ PostX ⟨T.setVm vm₁, locs, cells, slots⟩ (Value.ref b :: argsL).toArray q B ∧
      Steps p.tables e below (T.setTop g) ((B.U.setTop { g with stack := rest }).pushFrame (.throwing q))) := by
  obtain ⟨mk, methM, hnamed, hmethM, hstM, habM⟩ := Cond.instanceMethod_spec hinst
  obtain ⟨methM', cM, hmethM', -, -, -, -, -, -, hsigM⟩ := Cond.code_spec hnamed hcode
  cases hmethM.symm.trans hmethM'
  obtain ⟨c2, r2, m2, q1, q2, q3, q4, kP, hkP, hkPi⟩ := Cond.selects_spec hsel
  cases hcls.symm.trans q1
  cases (State.methodFound?_of_named hnamed hy).symm.trans q2
  cases hnamed.symm.trans q3
  have hselP : selectMethod e.platform s.vm cellB.cls mk = .method mk := by rw [Launch.admits_selectMethod X.admits]; exact q4
  obtain ⟨vm₁, X₁, hstep₁⟩ := X.invokevirtual hexec hown hlink hnamed hmethM hstM hkP hkPi hy (a := b) (cell := cellB) hcell
    (fun z h => by rw [h] at hobj; cases hobj) hselP hmethM habM hkP hkPi (g := g) hg (argsL := argsL) (rest := rest) (hlen _ hsigM) hstack hdg
  rcases hK m meth c ⟨T.setVm vm₁, locs, cells, slots⟩ { g with stack := rest } (.invokevirtual index) mk (Value.ref b :: argsL).toArray X₁ hg hsize hdg hW (X₁.named hnamed) (hpre vm₁ X₁.warmed) with ⟨v, B, X', hpost, hsteps⟩ | ⟨q, B, X', hpost, hsteps⟩
  · exact Or.inl ⟨v, vm₁, B, X₁.warmed, X', hpost, fun target h => hstep₁ _ fun acts => by rw [doInvoke_state]; exact hsteps.trans h⟩
  · exact Or.inr ⟨q, vm₁, B, X₁.warmed, X', hpost, hstep₁ _ fun acts => by rw [doInvoke_state]; exact hsteps⟩
theorem vx_callS (X : Stand p l e R s m args below meth c T locs cells slots) (hexec : p.tables.exec = Jvm.exec) {own : String} {index : Nat} {y : MethodName} {bytes : ByteArray} {maxL : Nat} {ret : Option FieldType}
    (hown : s.vm.findClass own = some m.cls) (hlink : (Cond.methodLink own index y).before args s = true) (hstat : (Cond.static y).before args s = true) (hinit : (Cond.initialized y.cls).before args s = true)
    (hcode : (Cond.code y bytes maxL ret).before args s = true) (hy : y.cls ≠ "java/lang/invoke/MethodHandle" ∧ y.cls ≠ "java/lang/invoke/VarHandle")
    {W9 : Nat} {Pre : Pt → Array Value → Prop} {Post : Pt → Array Value → Option Value → Pt → Prop} {PostX : Pt → Array Value → Addr → Pt → Prop} (hK : vx_Back l R p e below s args y 3 W9 Pre Post PostX)
    {g : JFrame} (hg : g.method = m) (hsize : g.locals.size = c.maxLocals) {argsL rest : List Value} (hlen : ∀ sig, parseMethodDescriptor y.desc = some sig → argsL.length = sig.parameters.length)
    (hstack : g.stack = argsL.reverse ++ rest) (hW : 2 * g.monitorRoom + (rest.map fun v => v.category).sum ≤ W9) (hdg : decode c.code g.pc = .ok (.invokestatic index, 3))
    (hpre : ∀ vm₁, s.WarmedH vm₁ → Pre ⟨T.setVm vm₁, locs, cells, slots⟩ argsL.toArray) :
    (∃ (v : Option Value) (vm₁ : Vm) (B : Pt), s.WarmedH vm₁ ∧ Stand p l e R s m args below meth c B.U B.locs B.cells B.slots ∧ Post ⟨T.setVm vm₁, locs, cells, slots⟩ argsL.toArray v B ∧
      ∀ target, Steps p.tables e below (B.U.setTop { g with pc := g.pc + 3, stack := v.toList ++ rest }) target → Steps p.tables e below (T.setTop g) target) ∨
    (∃ (q : Addr) (vm₁ : Vm) (B : Pt), s.WarmedH vm₁ ∧ Stand p l e R s m args below meth c B.U B.locs B.cells B.slots ∧ PostX ⟨T.setVm vm₁, locs, cells, slots⟩ argsL.toArray q B ∧
      Steps p.tables e below (T.setTop g) ((B.U.setTop { g with stack := rest }).pushFrame (.throwing q))) := by
  obtain ⟨mk, hnamed⟩ := Cond.code_named hcode
  obtain ⟨methM, cM, hmethM, -, -, -, -, -, -, hsigM⟩ := Cond.code_spec hnamed hcode
  have hstatic : methM.isStatic = true := Cond.static_spec hnamed hmethM hstat
  obtain ⟨kP, hkP, -⟩ := className_of_methodNamed hnamed
  have hinitP : kP.init = .initialized := Cond.initialized_spec (findClass_of_methodNamed hnamed) hkP hinit
  obtain ⟨vm₁, X₁, hstep₁⟩ := X.invokestatic hexec hown hlink hnamed hmethM hstatic hkP hinitP hy (g := g) hg (argsL := argsL) (rest := rest) (hlen _ hsigM) hstack hdg
  rcases hK m meth c ⟨T.setVm vm₁, locs, cells, slots⟩ { g with stack := rest } (.invokestatic index) mk argsL.toArray X₁ hg hsize hdg hW (X₁.named hnamed) (hpre vm₁ X₁.warmed) with ⟨v, B, X', hpost, hsteps⟩ | ⟨q, B, X', hpost, hsteps⟩
  · exact Or.inl ⟨v, vm₁, B, X₁.warmed, X', hpost, fun target h => hstep₁ _ fun acts => by rw [doInvoke_state]; exact hsteps.trans h⟩
  · exact Or.inr ⟨q, vm₁, B, X₁.warmed, X', hpost, hstep₁ _ fun acts => by rw [doInvoke_state]; exact hsteps⟩
end Calls
theorem vx_cls {s : State} {T : State} {vm₁ : Vm} {E : String} {k : ClassId} (hW : s.WarmedH vm₁) (h : (T.setVm vm₁).vm.findClass E = some k) : s.vm.findClass E = some k := by
  have h1 : vm₁.findClass E = some k := h
  rw [hW.alike.findClass] at h1
  exact h1
/-- the method's frame g, with q thrown over it -/
def vx_W (p : Program) (l : Launch) (e : Env) (R : Room) (s : State) (m : MethodId) (args : Array Value) (below : List Frame) (meth : Method) (c : Code) (H : Heap) (locs : List Loc) (cells slots : Nat) (Q : State → Prop) (g : JFrame) (q : Addr) : Prop :=
  ∀ T : State, T.heap = H → Stand p l e R s m args below meth c T locs cells slots → ∃ t, Steps p.tables e below ((T.setTop g).pushFrame (.throwing q)) t ∧ Q t
def vx_Run (p : Program) (l : Launch) (e : Env) (R : Room) (s : State) (m : MethodId) (args : Array Value) (below : List Frame) (meth : Method) (c : Code) (H : Heap) (locs : List Loc) (cells slots mc ms : Nat) (g : JFrame) (rest : List Value) (Qa : State → Outcome → State → Prop) (XC : String → State → State → Prop) (free : Addr → Prop) : Prop :=
  ∀ T : State, T.heap = H → Stand p l e R s m args below meth c T locs cells slots →
    (∃ (v : Option Value) (st₀ t T' : State) (L : List Loc), st₀.heap = H ∧ Stand p l e R s m args below meth c T' (locs ++ L) (cells + mc) (slots + ms) ∧ (∀ q ∈ L, free q.base) ∧ T'.heap = t.heap ∧ T'.vm = t.vm ∧ Qa st₀ (.returned v) t ∧
      Goes p e below T g T' { g with pc := g.pc + 3, stack := v.toList ++ rest }) ∨
    (∃ (q : Addr) (st₀ t T' : State) (L : List Loc) (E : String) (ce : Cell), st₀.heap = H ∧ Stand p l e R s m args below meth c T' (locs ++ L) (cells + mc) (slots + ms) ∧ (∀ z ∈ L, free z.base) ∧ T'.heap = t.heap ∧ T'.vm = t.vm ∧ XC E st₀ t ∧ t.heap[q]? = some ce ∧ ce.vm = .none ∧ s.vm.findClass E = some ce.cls ∧
      Steps p.tables e below (T.setTop g) ((T'.setTop { g with stack := rest }).pushFrame (.throwing q)))
def vx_X {S : Type} (px : S → Prop) (B : String → S → State → Prop) (A : Nat → Prop) : String → State → State → Prop := fun E st t => ∃ u : S, px u ∧ B E u t ∧ va_F A st t
section Runs
variable {p : Program} {l : Launch} {e : Env} {R : Room} {s : State} {m : MethodId} {args : Array Value} {below : List Frame} {meth : Method} {c : Code} {H : Heap} {locs : List Loc} {cells slots : Nat}
variable {y : MethodName} {bytes cc : ByteArray} {maxL nL mc ms n index : Nat} {ret : Option FieldType} {ws : List Cond} {rm : Room} {Pc : Array Value → State → Prop} {Qc : Array Value → State → Outcome → State → Prop} {XC : String → State → State → Prop} {free : Addr → Prop} {Ts : List Cond} {own C : String} {b : Addr} {As rest : List Value} {g : JFrame}
theorem vx_callBack (cb : CallB R s args own index y bytes maxL ret ws rm mc ms n) (hM : vx_Met l y ws rm Pc Qc XC mc ms free) (hbl : FrameBlind Pc) : vx_Back l R p e below s args y 3 8 (PreOf R mc ms Pc) (PostOf Qc mc ms free) (vx_Post XC mc ms free) := by
  obtain ⟨hrc, hrs, hfr, hlo, hws, hcw, -, hini, -⟩ := cb
  exact vx_back (bytes := bytes) (maxL := maxL) (ret := ret) hM hbl hrc hrs hfr hlo hws hcw (fun a' U hW => word_at hW (Or.inl (by first | rfl | simp [Cond.onTables, Cond.keeps, Cond.steady])) hini)
theorem vx_runV (S : CallFix p m c cc nL s args Ts own) (hM : vx_Met l y ws rm Pc Qc XC mc ms free) (cw : CallW R s args own C index y bytes maxL ret ws rm mc ms n) (hp : PreV s H C b Pc As)
    (hg : g.method = m) (hn : As.length = n) (hsize : g.locals.size = nL) (hstack : g.stack = As.reverse ++ .ref b :: rest) (hW : 2 * g.monitorRoom + (rest.map fun v => v.category).sum ≤ 8) (hdg : decode cc g.pc = .ok (.invokevirtual index, 3)) (hf : cells + mc ≤ R.cells ∧ slots + ms ≤ R.slots) :
    vx_Run p l e R s m args below meth c H locs cells slots mc ms g rest (Qc (Value.ref b :: As).toArray) XC free := by
  have hK : vx_Back l R p e below s args y 3 8 (PreOf R mc ms Pc) (PostOf Qc mc ms free) (vx_Post XC mc ms free) := vx_callBack cw.1 hM hp.1
  obtain ⟨⟨-, -, -, -, -, -, hcode, -, hy, hlen, hl⟩, hin, hse⟩ := cw
  obtain ⟨hx, hb, hml, ho, -⟩ := S
  obtain ⟨-, ⟨cellB, hcB, hoB, hclB⟩, hPc⟩ := hp
  intro T hT X
  rcases vx_callV X hx (C := C) (bytes := bytes) (maxL := maxL) (ret := ret) ho hl hin hse hcode hy hK (by rw [hT]; exact hcB) hoB hclB hg (hsize.trans hml.symm) (argsL := As) (rest := rest) (fun sig h => hn.trans (hlen sig h)) hstack hW (by rw [hb]; exact hdg)
    (fun vm₁ hW₁ => ⟨hf.1, hf.2, hPc (T.setVm vm₁) hT hW₁⟩) with ⟨v, vm₁, ⟨U', l2, c2, s2⟩, hW₁, X', ⟨g', mk, t, L, e1, e2, hq, h1, hL, h2, h3⟩, st⟩ | ⟨q, vm₁, ⟨U', l2, c2, s2⟩, hW₁, X', ⟨g', mk, t, L, E, ce, e1, e2, hq, hce, hcv, hcl, h1, hL, h2, h3⟩, st⟩
  · dsimp only [Pt.U, Pt.locs, Pt.cells, Pt.slots] at X' e1 e2 h1 h2 h3 st
    subst h1; subst h2; subst h3
    exact Or.inl ⟨v, (T.setVm vm₁).calling g' mk (Value.ref b :: As).toArray, t, U', L, hT, X', hL, e1, e2, hq, st⟩
  · dsimp only [Pt.U, Pt.locs, Pt.cells, Pt.slots] at X' e1 e2 h1 h2 h3 st hcl
    subst h1; subst h2; subst h3
    exact Or.inr ⟨q, (T.setVm vm₁).calling g' mk (Value.ref b :: As).toArray, t, U', L, E, ce, hT, X', hL, e1, e2, hq, hce, hcv, vx_cls hW₁ hcl, st⟩
theorem vx_runS (S : CallFix p m c cc nL s args Ts own) (hM : vx_Met l y ws rm Pc Qc XC mc ms free) (cw : CallB R s args own index y bytes maxL ret ws rm mc ms n ∧ (Cond.static y).before args s = true) (hp : PreS s H Pc As)
    (hg : g.method = m) (hn : As.length = n) (hsize : g.locals.size = nL) (hstack : g.stack = As.reverse ++ rest) (hW : 2 * g.monitorRoom + (rest.map fun v => v.category).sum ≤ 8) (hdg : decode cc g.pc = .ok (.invokestatic index, 3)) (hf : cells + mc ≤ R.cells ∧ slots + ms ≤ R.slots) :
    vx_Run p l e R s m args below meth c H locs cells slots mc ms g rest (Qc As.toArray) XC free := by
  have hK : vx_Back l R p e below s args y 3 8 (PreOf R mc ms Pc) (PostOf Qc mc ms free) (vx_Post XC mc ms free) := vx_callBack cw.1 hM hp.1
  obtain ⟨⟨-, -, -, -, -, -, hcode, hini, hy, hlen, hl⟩, hstt⟩ := cw
  obtain ⟨hx, hb, hml, ho, -⟩ := S
  intro T hT X
  rcases vx_callS X hx (bytes := bytes) (maxL := maxL) (ret := ret) ho hl hstt hini hcode hy hK hg (hsize.trans hml.symm) (argsL := As) (rest := rest) (fun sig h => hn.trans (hlen sig h)) hstack hW (by rw [hb]; exact hdg)
    (fun vm₁ hW₁ => ⟨hf.1, hf.2, hp.2 (T.setVm vm₁) hT hW₁⟩) with ⟨v, vm₁, ⟨U', l2, c2, s2⟩, hW₁, X', ⟨g', mk, t, L, e1, e2, hq, h1, hL, h2, h3⟩, st⟩ | ⟨q, vm₁, ⟨U', l2, c2, s2⟩, hW₁, X', ⟨g', mk, t, L, E, ce, e1, e2, hq, hce, hcv, hcl, h1, hL, h2, h3⟩, st⟩
  · dsimp only [Pt.U, Pt.locs, Pt.cells, Pt.slots] at X' e1 e2 h1 h2 h3 st
    subst h1; subst h2; subst h3
    exact Or.inl ⟨v, (T.setVm vm₁).calling g' mk As.toArray, t, U', L, hT, X', hL, e1, e2, hq, st⟩
  · dsimp only [Pt.U, Pt.locs, Pt.cells, Pt.slots] at X' e1 e2 h1 h2 h3 st hcl
    subst h1; subst h2; subst h3
    exact Or.inr ⟨q, (T.setVm vm₁).calling g' mk As.toArray, t, U', L, E, ce, hT, X', hL, e1, e2, hq, hce, hcv, vx_cls hW₁ hcl, st⟩
end Runs
section Rows
variable {p : Program} {l : Launch} {e : Env} {R : Room} {s : State} {m : MethodId} {args : Array Value} {below : List Frame} {meth : Method} {c : Code} {H : Heap} {locs : List Loc} {cells slots : Nat} {Q : State → Prop}
variable {mc ms : Nat} {free : Addr → Prop} {A0 A1 : Nat → Prop} {H0 : Heap} {a : Array Value} {pc : Nat} {ls : Array Slot} {st0 rest : List Value}
theorem vx_keep {st₀ t T' : State} {L : List Loc} (h0 : st₀.heap = H) (e1 : T'.heap = t.heap) (hS : va_S A0 H0 H locs) (hA : ∀ q, q < H.size → A1 q → A0 q) (hf : ∀ q, free q → A0 q) (hL : ∀ q ∈ L, free q.base) (hF : va_F A1 st₀ t) :
    H.size ≤ T'.heap.size ∧ (∀ q : Nat, q < H.size → ¬ A1 q → T'.heap[q]? = H[q]?) ∧ va_S A0 H0 T'.heap (locs ++ L) := by
  obtain ⟨hz, hk⟩ := hF
  rw [h0] at hz hk
  exact ⟨by rw [e1]; exact hz, fun q h1 h2 => by rw [e1]; exact hk q h1 h2,
    ⟨Nat.le_trans hS.1 (by rw [e1]; exact hz), fun q h1 h2 => by rw [e1, hk q (Nat.lt_of_lt_of_le h1 hS.1) (fun z => h2 (hA q (Nat.lt_of_lt_of_le h1 hS.1) z))]; exact hS.2.1 q h1 h2, fun q hq => by
      rcases List.mem_append.mp hq with h | h
      · exact hS.2.2 q h
      · exact hf _ (hL q h)⟩⟩
theorem vx_calli {S SX : Type} {post : Int32 → S → Prop} {px : SX → Prop} {B : S → State → Prop} {BX : String → SX → State → Prop} {AX : Nat → Prop} (hr : vx_Run p l e R s m args below meth c H locs cells slots mc ms (F0 m pc ls st0) rest (va_Qi post B A1 a) (vx_X px BX AX) free) (hS : va_S A0 H0 H locs) (hA : ∀ q, q < H.size → A1 q → A0 q) (hf : ∀ q, free q → A0 q) (hAX : ∀ q, q < H.size → AX q → A0 q)
    (kx : ∀ (E : String) (ce : Cell) (q9 : Addr) (u : SX) (t : State) (H1 : Heap) (locs1 : List Loc), t.heap = H1 → s.vm.Alike t.vm → px u → BX E u t → H.size ≤ H1.size → (∀ q : Nat, q < H.size → ¬ AX q → H1[q]? = H[q]?) → va_S A0 H0 H1 locs1 → H1[q9]? = some ce → ce.vm = .none → s.vm.findClass E = some ce.cls → vx_W p l e R s m args below meth c H1 locs1 (cells + mc) (slots + ms) Q (F0 m pc ls rest) q9)
    (kk : ∀ (r : Int32) (u : S) (t : State) (H1 : Heap) (locs1 : List Loc), t.heap = H1 → s.vm.Alike t.vm → post r u → B u t → H.size ≤ H1.size → (∀ q : Nat, q < H.size → ¬ A1 q → H1[q]? = H[q]?) → va_S A0 H0 H1 locs1 → W p l e R s m args below meth c H1 locs1 (cells + mc) (slots + ms) Q (F0 m (pc + 3) ls (.int r :: rest))) : W p l e R s m args below meth c H locs cells slots Q (F0 m pc ls st0) := by
  intro T hT X
  rcases hr T hT X with ⟨v, st₀, t, T', L, h0, X', hL, e1, e2, ⟨⟨r, u, hv, hp, hb⟩, hF⟩, st⟩ | ⟨q, st₀, t, T', L, E, ce, h0, X', hL, e1, e2, ⟨u, hp, hb, hF⟩, hce, hcv, hcl, st⟩
  · cases hv
    obtain ⟨k1, k2, k3⟩ := vx_keep h0 e1 hS hA hf hL hF
    obtain ⟨t2, a1, b1⟩ := kk r u t T'.heap (locs ++ L) e1.symm (by rw [← e2]; exact X'.warmed.alike) hp hb k1 k2 k3 T' rfl X'
    exact ⟨t2, st t2 a1, b1⟩
  · obtain ⟨k1, k2, k3⟩ := vx_keep h0 e1 hS hAX hf hL hF
    obtain ⟨t2, a1, b1⟩ := kx E ce q u t T'.heap (locs ++ L) e1.symm (by rw [← e2]; exact X'.warmed.alike) hp hb k1 k2 k3 (by rw [e1]; exact hce) hcv hcl T' rfl X'
    exact ⟨t2, st.trans a1, b1⟩
theorem vx_calll {S SX : Type} {post : Int64 → S → Prop} {px : SX → Prop} {B : S → State → Prop} {BX : String → SX → State → Prop} {AX : Nat → Prop} (hr : vx_Run p l e R s m args below meth c H locs cells slots mc ms (F0 m pc ls st0) rest (va_Ql post B A1 a) (vx_X px BX AX) free) (hS : va_S A0 H0 H locs) (hA : ∀ q, q < H.size → A1 q → A0 q) (hf : ∀ q, free q → A0 q) (hAX : ∀ q, q < H.size → AX q → A0 q)
    (kx : ∀ (E : String) (ce : Cell) (q9 : Addr) (u : SX) (t : State) (H1 : Heap) (locs1 : List Loc), t.heap = H1 → s.vm.Alike t.vm → px u → BX E u t → H.size ≤ H1.size → (∀ q : Nat, q < H.size → ¬ AX q → H1[q]? = H[q]?) → va_S A0 H0 H1 locs1 → H1[q9]? = some ce → ce.vm = .none → s.vm.findClass E = some ce.cls → vx_W p l e R s m args below meth c H1 locs1 (cells + mc) (slots + ms) Q (F0 m pc ls rest) q9)
    (kk : ∀ (r : Int64) (u : S) (t : State) (H1 : Heap) (locs1 : List Loc), t.heap = H1 → s.vm.Alike t.vm → post r u → B u t → H.size ≤ H1.size → (∀ q : Nat, q < H.size → ¬ A1 q → H1[q]? = H[q]?) → va_S A0 H0 H1 locs1 → W p l e R s m args below meth c H1 locs1 (cells + mc) (slots + ms) Q (F0 m (pc + 3) ls (.long r :: rest))) : W p l e R s m args below meth c H locs cells slots Q (F0 m pc ls st0) := by
  intro T hT X
  rcases hr T hT X with ⟨v, st₀, t, T', L, h0, X', hL, e1, e2, ⟨⟨r, u, hv, hp, hb⟩, hF⟩, st⟩ | ⟨q, st₀, t, T', L, E, ce, h0, X', hL, e1, e2, ⟨u, hp, hb, hF⟩, hce, hcv, hcl, st⟩
  · cases hv
    obtain ⟨k1, k2, k3⟩ := vx_keep h0 e1 hS hA hf hL hF
    obtain ⟨t2, a1, b1⟩ := kk r u t T'.heap (locs ++ L) e1.symm (by rw [← e2]; exact X'.warmed.alike) hp hb k1 k2 k3 T' rfl X'
    exact ⟨t2, st t2 a1, b1⟩
  · obtain ⟨k1, k2, k3⟩ := vx_keep h0 e1 hS hAX hf hL hF
    obtain ⟨t2, a1, b1⟩ := kx E ce q u t T'.heap (locs ++ L) e1.symm (by rw [← e2]; exact X'.warmed.alike) hp hb k1 k2 k3 (by rw [e1]; exact hce) hcv hcl T' rfl X'
    exact ⟨t2, st.trans a1, b1⟩
theorem vx_callf {S SX : Type} {post : UInt32 → S → Prop} {px : SX → Prop} {B : S → State → Prop} {BX : String → SX → State → Prop} {AX : Nat → Prop} (hr : vx_Run p l e R s m args below meth c H locs cells slots mc ms (F0 m pc ls st0) rest (va_Qf post B A1 a) (vx_X px BX AX) free) (hS : va_S A0 H0 H locs) (hA : ∀ q, q < H.size → A1 q → A0 q) (hf : ∀ q, free q → A0 q) (hAX : ∀ q, q < H.size → AX q → A0 q)
    (kx : ∀ (E : String) (ce : Cell) (q9 : Addr) (u : SX) (t : State) (H1 : Heap) (locs1 : List Loc), t.heap = H1 → s.vm.Alike t.vm → px u → BX E u t → H.size ≤ H1.size → (∀ q : Nat, q < H.size → ¬ AX q → H1[q]? = H[q]?) → va_S A0 H0 H1 locs1 → H1[q9]? = some ce → ce.vm = .none → s.vm.findClass E = some ce.cls → vx_W p l e R s m args below meth c H1 locs1 (cells + mc) (slots + ms) Q (F0 m pc ls rest) q9)
    (kk : ∀ (r : UInt32) (u : S) (t : State) (H1 : Heap) (locs1 : List Loc), t.heap = H1 → s.vm.Alike t.vm → post r u → B u t → H.size ≤ H1.size → (∀ q : Nat, q < H.size → ¬ A1 q → H1[q]? = H[q]?) → va_S A0 H0 H1 locs1 → W p l e R s m args below meth c H1 locs1 (cells + mc) (slots + ms) Q (F0 m (pc + 3) ls (.float r :: rest))) : W p l e R s m args below meth c H locs cells slots Q (F0 m pc ls st0) := by
  intro T hT X
  rcases hr T hT X with ⟨v, st₀, t, T', L, h0, X', hL, e1, e2, ⟨⟨r, u, hv, hp, hb⟩, hF⟩, st⟩ | ⟨q, st₀, t, T', L, E, ce, h0, X', hL, e1, e2, ⟨u, hp, hb, hF⟩, hce, hcv, hcl, st⟩
  · cases hv
    obtain ⟨k1, k2, k3⟩ := vx_keep h0 e1 hS hA hf hL hF
    obtain ⟨t2, a1, b1⟩ := kk r u t T'.heap (locs ++ L) e1.symm (by rw [← e2]; exact X'.warmed.alike) hp hb k1 k2 k3 T' rfl X'
    exact ⟨t2, st t2 a1, b1⟩
  · obtain ⟨k1, k2, k3⟩ := vx_keep h0 e1 hS hAX hf hL hF
    obtain ⟨t2, a1, b1⟩ := kx E ce q u t T'.heap (locs ++ L) e1.symm (by rw [← e2]; exact X'.warmed.alike) hp hb k1 k2 k3 (by rw [e1]; exact hce) hcv hcl T' rfl X'
    exact ⟨t2, st.trans a1, b1⟩
theorem vx_calld {S SX : Type} {post : UInt64 → S → Prop} {px : SX → Prop} {B : S → State → Prop} {BX : String → SX → State → Prop} {AX : Nat → Prop} (hr : vx_Run p l e R s m args below meth c H locs cells slots mc ms (F0 m pc ls st0) rest (va_Qd post B A1 a) (vx_X px BX AX) free) (hS : va_S A0 H0 H locs) (hA : ∀ q, q < H.size → A1 q → A0 q) (hf : ∀ q, free q → A0 q) (hAX : ∀ q, q < H.size → AX q → A0 q)
    (kx : ∀ (E : String) (ce : Cell) (q9 : Addr) (u : SX) (t : State) (H1 : Heap) (locs1 : List Loc), t.heap = H1 → s.vm.Alike t.vm → px u → BX E u t → H.size ≤ H1.size → (∀ q : Nat, q < H.size → ¬ AX q → H1[q]? = H[q]?) → va_S A0 H0 H1 locs1 → H1[q9]? = some ce → ce.vm = .none → s.vm.findClass E = some ce.cls → vx_W p l e R s m args below meth c H1 locs1 (cells + mc) (slots + ms) Q (F0 m pc ls rest) q9)
    (kk : ∀ (r : UInt64) (u : S) (t : State) (H1 : Heap) (locs1 : List Loc), t.heap = H1 → s.vm.Alike t.vm → post r u → B u t → H.size ≤ H1.size → (∀ q : Nat, q < H.size → ¬ A1 q → H1[q]? = H[q]?) → va_S A0 H0 H1 locs1 → W p l e R s m args below meth c H1 locs1 (cells + mc) (slots + ms) Q (F0 m (pc + 3) ls (.double r :: rest))) : W p l e R s m args below meth c H locs cells slots Q (F0 m pc ls st0) := by
  intro T hT X
  rcases hr T hT X with ⟨v, st₀, t, T', L, h0, X', hL, e1, e2, ⟨⟨r, u, hv, hp, hb⟩, hF⟩, st⟩ | ⟨q, st₀, t, T', L, E, ce, h0, X', hL, e1, e2, ⟨u, hp, hb, hF⟩, hce, hcv, hcl, st⟩
  · cases hv
    obtain ⟨k1, k2, k3⟩ := vx_keep h0 e1 hS hA hf hL hF
    obtain ⟨t2, a1, b1⟩ := kk r u t T'.heap (locs ++ L) e1.symm (by rw [← e2]; exact X'.warmed.alike) hp hb k1 k2 k3 T' rfl X'
    exact ⟨t2, st t2 a1, b1⟩
  · obtain ⟨k1, k2, k3⟩ := vx_keep h0 e1 hS hAX hf hL hF
    obtain ⟨t2, a1, b1⟩ := kx E ce q u t T'.heap (locs ++ L) e1.symm (by rw [← e2]; exact X'.warmed.alike) hp hb k1 k2 k3 (by rw [e1]; exact hce) hcv hcl T' rfl X'
    exact ⟨t2, st.trans a1, b1⟩
theorem vx_callv {S SX : Type} {post : S → Prop} {px : SX → Prop} {B : S → State → Prop} {BX : String → SX → State → Prop} {AX : Nat → Prop} (hr : vx_Run p l e R s m args below meth c H locs cells slots mc ms (F0 m pc ls st0) rest (va_Qv post B A1 a) (vx_X px BX AX) free) (hS : va_S A0 H0 H locs) (hA : ∀ q, q < H.size → A1 q → A0 q) (hf : ∀ q, free q → A0 q) (hAX : ∀ q, q < H.size → AX q → A0 q)
    (kx : ∀ (E : String) (ce : Cell) (q9 : Addr) (u : SX) (t : State) (H1 : Heap) (locs1 : List Loc), t.heap = H1 → s.vm.Alike t.vm → px u → BX E u t → H.size ≤ H1.size → (∀ q : Nat, q < H.size → ¬ AX q → H1[q]? = H[q]?) → va_S A0 H0 H1 locs1 → H1[q9]? = some ce → ce.vm = .none → s.vm.findClass E = some ce.cls → vx_W p l e R s m args below meth c H1 locs1 (cells + mc) (slots + ms) Q (F0 m pc ls rest) q9)
    (kk : ∀ (u : S) (t : State) (H1 : Heap) (locs1 : List Loc), t.heap = H1 → s.vm.Alike t.vm → post u → B u t → H.size ≤ H1.size → (∀ q : Nat, q < H.size → ¬ A1 q → H1[q]? = H[q]?) → va_S A0 H0 H1 locs1 → W p l e R s m args below meth c H1 locs1 (cells + mc) (slots + ms) Q (F0 m (pc + 3) ls (rest))) : W p l e R s m args below meth c H locs cells slots Q (F0 m pc ls st0) := by
  intro T hT X
  rcases hr T hT X with ⟨v, st₀, t, T', L, h0, X', hL, e1, e2, ⟨⟨u, hv, hp, hb⟩, hF⟩, st⟩ | ⟨q, st₀, t, T', L, E, ce, h0, X', hL, e1, e2, ⟨u, hp, hb, hF⟩, hce, hcv, hcl, st⟩
  · cases hv
    obtain ⟨k1, k2, k3⟩ := vx_keep h0 e1 hS hA hf hL hF
    obtain ⟨t2, a1, b1⟩ := kk u t T'.heap (locs ++ L) e1.symm (by rw [← e2]; exact X'.warmed.alike) hp hb k1 k2 k3 T' rfl X'
    exact ⟨t2, st t2 a1, b1⟩
  · obtain ⟨k1, k2, k3⟩ := vx_keep h0 e1 hS hAX hf hL hF
    obtain ⟨t2, a1, b1⟩ := kx E ce q u t T'.heap (locs ++ L) e1.symm (by rw [← e2]; exact X'.warmed.alike) hp hb k1 k2 k3 (by rw [e1]; exact hce) hcv hcl T' rfl X'
    exact ⟨t2, st.trans a1, b1⟩
/-- caught by the row x of this method's table; the rows ahead don't take it -/
theorem vx_catch {own name : String} {E : String} {ce : Cell} {q : Addr} (hown : s.vm.findClass own = some m.cls) (pre : List ExceptionTableEntry) (x : ExceptionTableEntry) (suf : List ExceptionTableEntry) (hsplit : c.exceptionTable.toList = pre ++ x :: suf)
    (hpass : ∀ z ∈ pre, covers z pc = false ∨ (z.catchType ≠ 0 ∧ ∃ nm : String, (Cond.classLink own z.catchType nm).before args s = true ∧ va_Nc E nm s)) (hx : covers x pc = true) (h0 : x.catchType ≠ 0)
    (hlink : (Cond.classLink own x.catchType name).before args s = true) (hcast : (Cond.castable E name).before args s = true) (hcell : H[q]? = some ce) (hv : ce.vm = .none) (hcl : s.vm.findClass E = some ce.cls)
    (kk : W p l e R s m args below meth c H locs cells slots Q (F0 m x.handlerPc ls [.ref q])) : vx_W p l e R s m args below meth c H locs cells slots Q (F0 m pc ls rest) q := by
  intro T hT X
  have hpl : e.platform.magicAccessors = ({} : Platform).magicAccessors := by rw [X.admits.platform]
  obtain ⟨c3, c4, hc3, hc4, hasg⟩ := Cond.castable_spec hcast
  cases Option.some.inj (hc3.symm.trans hcl)
  obtain ⟨c5, hc5, hcl5⟩ := Cond.classLink_spec hown hlink e.platform hpl
  cases Option.some.inj (hc4.symm.trans hc5)
  obtain ⟨vm', X', st⟩ := X.thenCaughtThrough q (g := F0 m pc ls rest) rfl (Steps.refl _) (by rw [hT]; exact hcell) (by rw [hv]; rfl) (by obtain ⟨k9, h9, -⟩ := Vm.findClass_spec hcl; exact ⟨k9, h9⟩) pre x suf hsplit
    (fun z hz => by
      rcases hpass z hz with h | ⟨hz0, nm, hl1, hn1⟩
      · exact Or.inl h
      · obtain ⟨c6, hc6, hcl6⟩ := Cond.classLink_spec hown hl1 e.platform hpl
        obtain ⟨a8, b8, h1, h2, h3⟩ := hn1
        cases Option.some.inj (h1.symm.trans hcl)
        cases Option.some.inj (h2.symm.trans hc6)
        exact Or.inr ⟨hz0, _, hcl6, h3⟩) hx (Or.inr ⟨h0, c4, hcl5, hasg⟩)
  obtain ⟨t, a1, b1⟩ := kk (T.setVm vm') hT X'
  exact ⟨t, st.trans a1, b1⟩
end Rows
section Ends
variable {p : Program} {l : Launch} {e : Env} {R : Room} {s : State} {m : MethodId} {args : Array Value} {below : List Frame} {meth : Method} {c : Code} {H : Heap} {locs : List Loc} {cells slots : Nat} {Q : State → Prop}
variable {mc ms : Nat} {free : Addr → Prop} {A0 A1 : Nat → Prop} {H0 : Heap} {a : Array Value} {ls : Array Slot} {st0 rest : List Value}
variable {Qc : Array Value → State → Outcome → State → Prop} {XC : String → State → State → Prop}
/-- what a body that may throw owes at its end -/
def vx_MQ (below : List Frame) (Qc : Array Value → State → Outcome → State → Prop) (XC : String → State → State → Prop) (a : Array Value) (s : State) (mc ms : Nat) (free : Addr → Prop) : State → Prop := fun t =>
  ∃ o, t.status = .running ∧ Ended t below o ∧ vx_Q Qc XC mc ms free a s o t
theorem vx_ret {g : JFrame} {mc ms : Nat} (k : W p l e R s m args below meth c H locs cells slots (MQ below Qc args s mc ms free) g) : W p l e R s m args below meth c H locs cells slots (vx_MQ below Qc XC args s mc ms free) g := by
  intro T hT X
  obtain ⟨t, a1, o, b1, b2, b3, b4⟩ := k T hT X
  exact ⟨t, a1, o, b1, b2, Or.inl ⟨b3, b4⟩⟩
/-- not caught here: it goes on to the caller -/
theorem vx_widen {g : JFrame} {q : Addr} {k n : Nat} (h1 : cells ≤ k) (h2 : slots ≤ n) (kk : vx_W p l e R s m args below meth c H locs k n Q g q) : vx_W p l e R s m args below meth c H locs cells slots Q g q := fun T hT X => kk T hT (stand_widen X h1 h2)
theorem vx_out {pc : Nat} {E : String} {ce : Cell} {q : Addr} {mc ms : Nat} (hout : ∀ x ∈ c.exceptionTable.toList, covers x pc = false) (hlocks : meth.locks = false) (hcell : H[q]? = some ce) (hv : ce.vm = .none) (hcl : s.vm.findClass E = some ce.cls)
    (hx : ∀ t : State, t.heap = H → s.vm.Alike t.vm → XC E s t) (hf : ∀ z ∈ locs, free z.base) (hc : cells ≤ mc) (hs : slots ≤ ms) :
    vx_W p l e R s m args below meth c H locs cells slots (vx_MQ below Qc XC args s mc ms free) (F0 m pc ls rest) q := by
  intro T hT X
  obtain ⟨st1, hrun, hend, hW, hsm⟩ := X.leaveThrown q (g := F0 m pc ls rest) rfl rfl rfl hout hlocks
  have hcell9 : (T.setFrames (.throwing q :: below)).heap[q]? = some ce := by
    show T.heap[q]? = some ce
    rw [hT]; exact hcell
  exact ⟨_, st1, .threw q, hrun, hend, Or.inr ⟨q, rfl, E, ce, locs, hx _ hT hW.alike, hcell9, hv, hcl, hW, hsm.mono hc hs, hf⟩⟩
theorem vx_frame {U : State} {k n : Nat} (h : s.sameButNew ({ U with vm := s.vm } : State) locs k n) : s.heap.size ≤ U.heap.size ∧ ∀ q : Nat, q < s.heap.size → (∀ z ∈ locs, z.base ≠ q) → U.heap[q]? = s.heap[q]? := by
  obtain ⟨-, h2, -, -, -, h6⟩ := h
  refine ⟨h2, fun q hq hz => ?_⟩
  obtain ⟨c9, e1, e2, e3, e4⟩ := h6 q _ (Array.getElem?_eq_getElem hq)
  have hs : c9.slots = (s.heap[q]).slots := Array.ext_getElem? fun i => e4 i fun hm => hz _ hm rfl
  have h9 : c9 = s.heap[q] := by
    rw [hs] at e2
    exact e2
  have e5 : U.heap[q]? = some c9 := e1
  rw [e5, h9, Array.getElem?_eq_getElem hq]
/-- the words of a throw but the four that speak of the heap -/
def vx_no (w : Cond) : Bool := decide (w ≠ .isRef (.static Bundle.tN "UNASSIGNED_STACK" Bundle.steD)) && decide (w ≠ .isRef (.static Bundle.tN "SUPPRESSED_SENTINEL" Bundle.listD)) && decide (w ≠ .laysStatic Bundle.tN "UNASSIGNED_STACK" Bundle.steD) && decide (w ≠ .laysStatic Bundle.tN "SUPPRESSED_SENTINEL" Bundle.listD)
def vx_at0 (own : String) (ic : Nat) (X : String) (names : List String) : List Cond := (Bundle.ownAtoms0 own ic X names).filter vx_no
def vx_atS (own : String) (ic : Nat) (X : String) (names : List String) : List Cond := (Bundle.ownAtoms own ic X names).filter vx_no
/-- a word that the tables alone decide, or a good one -/
def vx_ot (w : Cond) : Bool := w.onTables || goodWord w
theorem vx_ot_at {args a' : Array Value} {s U : State} {w : Cond} (hW : s.WarmedH U.vm) (hvm : s.vm = U.vm) (hg : vx_ot w = true) (h : w.before args s = true) : w.before a' U = true := by
  simp only [vx_ot, Bool.or_eq_true] at hg
  rcases hg with hg | hg
  · exact va_tabs hg hvm h
  · exact word_at hW (good_of_word hg) h
/-- a list's words: the good ones out of the method's own list, the others by premises of their own -/
theorem vx_hat {args : Array Value} {s : State} {L B : List Cond} (h1 : ∀ w ∈ L.filter goodWord, w.before args s = true) (h2 : ∀ w ∈ L.filter (fun w => !goodWord w), w ∈ B) (h3 : ∀ w ∈ B, w.before args s = true) : ∀ w ∈ L, w.before args s = true := by
  intro w hw
  by_cases g : goodWord w = true
  · exact h1 w (List.mem_filter.mpr ⟨hw, g⟩)
  · refine h3 w (h2 w (List.mem_filter.mpr ⟨hw, ?_⟩))
    show (!goodWord w) = true
    cases hgw : goodWord w
    · rfl
    · exact absurd hgw g
theorem vx_c {args : Array Value} {s : State} {w : Cond} {B : List Cond} (h : w.before args s = true) (t : ∀ w ∈ B, w.before args s = true) : ∀ w' ∈ w :: B, w'.before args s = true := fun w' h' => (List.mem_cons.mp h').elim (fun e => by rw [e]; exact h) (t w')
theorem vx_n {args : Array Value} {s : State} : ∀ w ∈ ([] : List Cond), w.before args s = true := fun _ h => nomatch h
theorem vx_own {args : Array Value} {s : State} {L : List Cond} (h1 : ∀ w ∈ L.filter vx_no, w.before args s = true)
    (hU : (Cond.isRef (.static Bundle.tN "UNASSIGNED_STACK" Bundle.steD)).before args s = true) (hN : (Cond.isRef (.static Bundle.tN "SUPPRESSED_SENTINEL" Bundle.listD)).before args s = true)
    (lU : (Cond.laysStatic Bundle.tN "UNASSIGNED_STACK" Bundle.steD).before args s = true) (lN : (Cond.laysStatic Bundle.tN "SUPPRESSED_SENTINEL" Bundle.listD).before args s = true) : ∀ w ∈ L, w.before args s = true := by
  intro w hw
  by_cases e1 : w = .isRef (.static Bundle.tN "UNASSIGNED_STACK" Bundle.steD)
  · rw [e1]; exact hU
  · by_cases e2 : w = .isRef (.static Bundle.tN "SUPPRESSED_SENTINEL" Bundle.listD)
    · rw [e2]; exact hN
    · by_cases e3 : w = .laysStatic Bundle.tN "UNASSIGNED_STACK" Bundle.steD
      · rw [e3]; exact lU
      · by_cases e4 : w = .laysStatic Bundle.tN "SUPPRESSED_SENTINEL" Bundle.listD
        · rw [e4]; exact lN
        · exact h1 w (List.mem_filter.mpr ⟨hw, by unfold vx_no; rw [decide_eq_true e1, decide_eq_true e2, decide_eq_true e3, decide_eq_true e4]; rfl⟩)
/-- where a static field lies, its class's statics cell in H -/
def vx_L (C n d : String) (A : Nat → Prop) (U : State) (H : Heap) : Prop := ∃ (c : ClassId) (k : Class) (i : Nat) (f : Field) (a : Nat) (cell : Cell), U.vm.findClass C = some c ∧ U.fieldFound? C n d = some (c, k, i, f) ∧ f.isStatic = true ∧ k.statics = some a ∧ H[a]? = some cell ∧ cell.vm.isStatics = true ∧ cell.cls = c ∧ f.slot < cell.slots.size ∧ k.staticTypes[f.slot]? = some f.type ∧ ¬ A a
theorem vx_L.moved {C n d : String} {A : Nat → Prop} {u U : State} {H : Heap} (hvm : u.vm.Alike U.vm) (h : vx_L C n d A u H) : vx_L C n d A U H := by
  obtain ⟨c, k, i, f, a, cell, h1, h2, h3, h4, h5, h6, h7, h8, h9, h10⟩ := h
  obtain ⟨k', hi', he⟩ := State.fieldFound?_setVm hvm h2
  exact ⟨c, k', i, f, a, cell, by rw [hvm.findClass]; exact h1, hi', h3, by rw [he]; exact h4, h5, h6, h7, h8, by rw [he]; exact h9, h10⟩
theorem vx_L.kept {C n d : String} {A : Nat → Prop} {U : State} {H H1 : Heap} (h : vx_L C n d A U H) (hq : ∀ a : Nat, a < H.size → ¬ A a → H1[a]? = H[a]?) : vx_L C n d A U H1 := by
  obtain ⟨c, k, i, f, a, cell, h1, h2, h3, h4, h5, h6, h7, h8, h9, h10⟩ := h
  exact ⟨c, k, i, f, a, cell, h1, h2, h3, h4, by rw [hq a (Array.getElem?_eq_some_iff.mp h5).1 h10]; exact h5, h6, h7, h8, h9, h10⟩
theorem vx_L.narrow {C n d : String} {A B : Nat → Prop} {U : State} {H : Heap} (h : vx_L C n d A U H) (hAB : ∀ q, B q → A q) : vx_L C n d B U H := by
  obtain ⟨c, k, i, f, a, cell, h1, h2, h3, h4, h5, h6, h7, h8, h9, h10⟩ := h
  exact ⟨c, k, i, f, a, cell, h1, h2, h3, h4, h5, h6, h7, h8, h9, fun z => h10 (hAB _ z)⟩
theorem vx_L.word {C n d : String} {A : Nat → Prop} {s : State} {args : Array Value} (h : vx_L C n d A s s.heap) : (Cond.laysStatic C n d).before args s = true := by
  obtain ⟨c, k, i, f, a, cell, h1, h2, h3, h4, h5, h6, h7, h8, h9, -⟩ := h
  show (Cond.laysStatic C n d).holds args s none s [] = true
  exact Cond.laysStatic_of h1 h2 h3 h4 h5 h6 h7 h8 h9
/-- .. and what it holds: null or some reference -/
def vx_Zq (C n d : String) (A : Nat → Prop) (U : State) (H : Heap) : Prop := va_Zq C n d A U H ∧ vx_L C n d A U H
theorem vx_Zq.moved {C n d : String} {A : Nat → Prop} {u U : State} {H : Heap} (hvm : u.vm.Alike U.vm) (h : vx_Zq C n d A u H) : vx_Zq C n d A U H := ⟨va_Zq.moved hvm h.1, vx_L.moved hvm h.2⟩
theorem vx_Zq.kept {C n d : String} {A : Nat → Prop} {U : State} {H H1 : Heap} (h : vx_Zq C n d A U H) (hq : ∀ a : Nat, a < H.size → ¬ A a → H1[a]? = H[a]?) : vx_Zq C n d A U H1 := ⟨va_Zq.kept h.1 hq, vx_L.kept h.2 hq⟩
theorem vx_Zq.narrow {C n d : String} {A B : Nat → Prop} {U : State} {H : Heap} (h : vx_Zq C n d A U H) (hAB : ∀ q, B q → A q) : vx_Zq C n d B U H := ⟨va_Zq.narrow h.1 hAB, vx_L.narrow h.2 hAB⟩
theorem vx_Zqof {args : Array Value} {s : State} {C n d : String} {A : Nat → Prop} (hl : (Cond.laysStatic C n d).before args s = true) (hini : (Cond.initialized C).before args s = true) (h : (Cond.isRef (.static C n d)).before args s = true) (hA : ∀ a : Nat, a < s.heap.size → ¬ A a) : vx_Zq C n d A s s.heap := by
  refine ⟨va_Zqof hl hini h hA, ?_⟩
  obtain ⟨c, k, i, f, a, cell, h1, h2, h3, h4, h5, h6, h7, h8, h9⟩ := Cond.laysStatic_spec hl
  exact ⟨c, k, i, f, a, cell, h1, h2, h3, h4, h5, h6, h7, h8, h9, hA a (Array.getElem?_eq_some_iff.mp h5).1⟩
theorem vx_isRef {C n d : String} {v : Value} {A : Nat → Prop} {s : State} {args : Array Value} (h : va_Z C n d v A s s.heap) (hv : v.isRef = true) : (Cond.isRef (.static C n d)).before args s = true := by
  obtain ⟨cf, kf, fi, f, a, cell, h1, h2, h3, h4, h5, h6, h7, -⟩ := h
  have he : (Term.static C n d).eval args s none [] s = some v := by
    simp [Term.eval, State.fieldNamed?, h1, h2, h4, h5, h6, h7]
  simp only [Cond.before, Cond.holds, Cond.value, he]
  cases v <;> simp_all [Value.isRef]
theorem vx_isRefq {C n d : String} {A : Nat → Prop} {s : State} {args : Array Value} (h : va_Zq C n d A s s.heap) : (Cond.isRef (.static C n d)).before args s = true := by
  rcases h with h | ⟨t, h⟩
  · exact vx_isRef h rfl
  · exact vx_isRef h rfl
/-- the same frame, seen from here: as if the method were called anew in this heap -/
theorem vx_rebase {T : State} (X : Stand p l e R s m args below meth c T locs cells slots) {R' : Room} (hf : R'.frames ≤ R.frames) (hl : R'.locals ≤ R.locals) (hc : cells + R'.cells ≤ R.cells) (hs : slots + R'.slots ≤ R.slots) :
    Stand p l e R' ((T.setVm s.vm).setFrames (.invoking m args :: below)) m args below meth c T [] 0 0 := by
  have htop : (T.setVm s.vm).topJava?.isSome := X.here.top
  have hF : ((T.setVm s.vm).setFrames (.invoking m args :: below)).frames = .invoking m args :: below := State.frames_setFrames _ (State.cur_lt_of_top htop)
  obtain ⟨g₀, hg0⟩ := Option.isSome_iff_exists.mp htop
  obtain ⟨r, hr⟩ := State.topJava?_eq_some.mp hg0
  have hl9 : e.platform.stackLimits (T.setVm s.vm).me = e.platform.stackLimits s.me := X.limits
  have hb9 : (T.setVm s.vm).me.stackBytes = s.me.stackBytes := X.bytes
  refine ⟨X.admits, X.cas, X.clock, hF, ?_, X.hears, X.method, X.code, X.here, X.tail, X.warmed, ?_, ?_, ?_⟩
  · have h := X.room
    have hU : ((T.setVm s.vm).setFrames (.invoking m args :: below)).localsInUse = s.localsInUse := by
      rw [State.localsInUse_invoking hF (meth := meth) (c := c) X.method X.code, State.localsInUse_invoking X.frames X.method X.code]
    simp only [State.hasRoom, Bool.and_eq_true, decide_eq_true_eq] at h ⊢
    obtain ⟨⟨⟨⟨h1, h2, h3, h4, h5, h6⟩, h7⟩, h8⟩, h9⟩ := h
    rw [X.frames, List.length_cons] at h2 h3
    have q1 := X.heapSize
    have q2 := X.used
    simp only [hF, hU, List.length_cons, State.stackLimits_setFrames, State.stackBytes_setFrames, hl9, hb9]
    refine ⟨⟨⟨⟨by omega, by omega, by omega, by omega, by omega, h6⟩, ?_⟩, ?_⟩, X.book⟩
    · show T.heap.size + R'.cells ≤ e.platform.maxCells
      omega
    · show T.slotsUsed + R'.slots ≤ e.platform.maxSlots
      omega
  · rw [State.stackLimits_setFrames]; rfl
  · rw [State.stackBytes_setFrames]; rfl
  · refine ⟨?_, Nat.le_refl _, Nat.le_refl _, ?_, ?_, fun a c9 h9 => ⟨c9, h9, rfl, rfl, fun _ _ => rfl⟩⟩
    · obtain ⟨t, ht, -⟩ := State.frames_cons hr
      show T.setVm s.vm = { ((T.setVm s.vm).setFrames (.invoking m args :: below)).setFrames (T.setVm s.vm).frames with heap := T.heap, slotsUsed := T.slotsUsed }
      rw [State.setFrames_setFrames, State.setFrames_self ht]
      rfl
    · show T.slotsUsed = T.slotsUsed + ((T.heap.toList.drop T.heap.size).map (·.slots.size)).sum
      rw [List.drop_eq_nil_of_le (Nat.le_of_eq Array.length_toList)]
      rfl
    · show ((T.heap.toList.drop T.heap.size).map (·.slots.size)).sum ≤ 0
      rw [List.drop_eq_nil_of_le (Nat.le_of_eq Array.length_toList)]
      exact Nat.le_refl _
/-- 'throw new E()': new; dup; invokespecial; athrow -/
theorem vx_throw0 {cc : ByteArray} {pc : Nat} (hexec : p.tables.exec = Jvm.exec) (hb : c.code = cc) (hl : l.stackTraces = false) {own cls : String} {names : List String} {ik ic mc ms : Nat} {A : Nat → Prop}
    (hown : s.vm.findClass own = some m.cls) (hcls : Bundle.fit cls = true) (hnames : ∀ n ∈ names, Bundle.fit n = true)
    (hk : (Cond.classLink own ik cls).before args s = true) (hini : (Cond.initialized cls).before args s = true) (hat : ∀ w ∈ vx_at0 own ic cls names, w.before args s = true)
    (hgood : ∀ w ∈ Cond.classLink own ik cls :: Cond.initialized cls :: vx_at0 own ic cls names, vx_ot w = true)
    (hU : vx_Zq Bundle.tN "UNASSIGNED_STACK" Bundle.steD A s s.heap) (hN : vx_Zq Bundle.tN "SUPPRESSED_SENTINEL" Bundle.listD A s s.heap) (hS : va_S A s.heap H locs) (hsize : ls.size = c.maxLocals)
    (d0 : decode cc pc = .ok (.new ik, 3)) (d3 : decode cc (pc + 3) = .ok (.dup, 1)) (d4 : decode cc (pc + 4) = .ok (.invokespecial ic, 3)) (d7 : decode cc (pc + 7) = .ok (.athrow, 1))
    (hout : ∀ x ∈ c.exceptionTable.toList, covers x (pc + 7) = false)
    (hRframes : names.length + 3 < R.frames) (hRlocals : (rest.map fun v => v.category).sum + (13 * (names.length + 1) + 42) ≤ R.locals) (hRcells : cells + 1 ≤ R.cells) (hRslots : slots + 6 ≤ R.slots) (hlocks : meth.locks = false)
    (hx : ∀ t : State, s.vm.Alike t.vm → H.size ≤ t.heap.size → (∀ q : Nat, q < H.size → t.heap[q]? = H[q]?) → XC cls s t)
    (hf : ∀ z ∈ locs, free z.base) (hc : cells + 1 ≤ mc) (hs : slots + 6 ≤ ms) :
    W p l e R s m args below meth c H locs cells slots (vx_MQ below Qc XC args s mc ms free) (F0 m pc ls rest) := by
  intro T hT X
  have htr : e.platform.stackTraces = false := (show e.platform.stackTraces = l.stackTraces by rw [X.admits.platform]).trans hl
  have Y := vx_rebase X (R' := { frames := R.frames, locals := R.locals, cells := 1, slots := 6 }) (Nat.le_refl _) (Nat.le_refl _) hRcells hRslots
  obtain ⟨s', hA⟩ : ∃ z, z = (T.setVm s.vm).setFrames (.invoking m args :: below) := ⟨_, rfl⟩
  rw [← hA] at Y
  have hvm : s'.vm = s.vm := by rw [hA]; rfl
  have hhp : s'.heap = H := by rw [hA]; exact hT
  have hW0 : s.WarmedH s'.vm := by rw [hvm]; exact State.WarmedH.refl s
  have hat' : ∀ w ∈ vx_at0 own ic cls names, w.before args s' = true := fun w hw => vx_ot_at hW0 hvm.symm (hgood w (List.mem_cons_of_mem _ (List.mem_cons_of_mem _ hw))) (hat w hw)
  have hk' : (Cond.classLink own ik cls).before args s' = true := vx_ot_at hW0 hvm.symm (hgood _ List.mem_cons_self) hk
  have hini' : (Cond.initialized cls).before args s' = true := vx_ot_at hW0 hvm.symm (hgood _ (List.mem_cons_of_mem _ List.mem_cons_self)) hini
  have hU' : vx_Zq Bundle.tN "UNASSIGNED_STACK" Bundle.steD A s' s'.heap := by rw [hhp]; exact vx_Zq.moved hW0.alike (hU.kept hS.2.1)
  have hN' : vx_Zq Bundle.tN "SUPPRESSED_SENTINEL" Bundle.listD A s' s'.heap := by rw [hhp]; exact vx_Zq.moved hW0.alike (hN.kept hS.2.1)
  have h : ∀ w ∈ Bundle.ownAtoms0 own ic cls names, w.before args s' = true := vx_own hat' (vx_isRefq hU'.1) (vx_isRefq hN'.1) hU'.2.word hN'.2.word
  have hown' : s'.vm.findClass own = some m.cls := by rw [hvm]; exact hown
  have hins : (Cond.instantiable cls 6).before args s' = true := h _ (by simp [Bundle.ownAtoms0])
  obtain ⟨vm₁, cX, kX, hfX, hkX, -, -, X₁, st1⟩ := Y.newCold hexec (own := own) (C := cls) (index := ik) (n := 6) hown' hk' hins hini'
    (g := F0 m pc ls rest) rfl (by rw [hb]; exact d0) (Nat.le_refl _) (Nat.le_refl _)
  generalize hT1 : (T.setVm vm₁).pushCell { cls := cX, slots := kX.instanceTypes.map defaultValue, vm := .none } = T1 at X₁ st1
  have hcat : (Value.ref T.heap.size).category = 1 := rfl
  have hcellA : T1.heap[T.heap.size]? = some (freshCell cX kX) := by rw [← hT1]; exact State.heap_pushCell_size _ _
  have d3' : decode c.code (pc + 3) = .ok (.dup, 1) := by rw [hb]; exact d3
  obtain ⟨U, hsteps, hrun, hend, hW, hsame, ce, hce, hO⟩ := X₁.ctorThrow0 hexec htr (own := own) (cls := cls) (names := names) (ic := ic) hown' hcls hnames h (fun x hx => nomatch hx) hfX hkX hcellA (by rw [hhp, hT]; exact Nat.le_refl _)
    (g := { method := m, pc := pc + 4, locals := ls, stack := .ref T.heap.size :: .ref T.heap.size :: rest, locked := none }) rfl hsize rfl rfl (rest := rest) rfl
    (by rw [hb]; exact d4) (by rw [hb]; exact d7) hout hRframes (by simp only [List.map_cons, List.sum_cons, hcat]; omega) hlocks
  obtain ⟨f1, f2⟩ := vx_frame hsame
  rw [hhp] at f1 f2
  have hWs : s.WarmedH U.vm := State.WarmedH.trans hW0 hW
  have hcl : s.vm.findClass cls = some ce.cls := by
    have h9 := hO.cls
    rw [hvm] at h9
    exact h9
  have hall : s.sameButNew ({ U with vm := s.vm } : State) locs mc ms := by
    subst hA
    obtain ⟨e1, e2⟩ := hsame
    rw [State.setFrames_setFrames] at e1
    have h2 : (T.setVm s.vm).sameButNew ({ U with vm := s.vm } : State) [] (0 + 1) (0 + 6) := ⟨e1, e2⟩
    have h3 := X.same.trans h2
    rw [List.append_nil] at h3
    exact h3.mono hc hs
  refine ⟨U, ?_, .threw T.heap.size, hrun, hend, Or.inr ⟨T.heap.size, rfl, cls, ce, locs, hx U hWs.alike f1 (fun q hq => f2 q hq (fun z hz => nomatch hz)), hce, hO.vm, hcl, hWs, hall, hf⟩⟩
  refine st1 _ ?_
  show Steps p.tables e below (T1.setTop { method := m, pc := pc + 3, locals := ls, stack := .ref T.heap.size :: rest, locked := none }) _
  jvm_step X₁.here [X₁.here.top, hexec, d3', Value.category]
  exact hsteps
/-- 'throw new E("text")': new; dup; ldc; invokespecial; athrow -/
theorem vx_throwS {cc : ByteArray} {pc : Nat} (hexec : p.tables.exec = Jvm.exec) (hb : c.code = cc) (hl : l.stackTraces = false) {own cls text : String} {names : List String} {ik is ic mc ms sa : Nat} {A : Nat → Prop}
    (hown : s.vm.findClass own = some m.cls) (hcls : Bundle.fit cls = true) (hnames : ∀ n ∈ names, Bundle.fit n = true)
    (hk : (Cond.classLink own ik cls).before args s = true) (hini : (Cond.initialized cls).before args s = true) (hstr : vk_R own is text sa s) (hat : ∀ w ∈ vx_atS own ic cls names, w.before args s = true)
    (hgood : ∀ w ∈ Cond.classLink own ik cls :: Cond.initialized cls :: vx_atS own ic cls names, vx_ot w = true)
    (hU : vx_Zq Bundle.tN "UNASSIGNED_STACK" Bundle.steD A s s.heap) (hN : vx_Zq Bundle.tN "SUPPRESSED_SENTINEL" Bundle.listD A s s.heap) (hS : va_S A s.heap H locs) (hsize : ls.size = c.maxLocals)
    (d0 : decode cc pc = .ok (.new ik, 3)) (d3 : decode cc (pc + 3) = .ok (.dup, 1)) (d4 : decode cc (pc + 4) = .ok (.ldc is, 2)) (d6 : decode cc (pc + 6) = .ok (.invokespecial ic, 3)) (d9 : decode cc (pc + 9) = .ok (.athrow, 1))
    (hout : ∀ x ∈ c.exceptionTable.toList, covers x (pc + 9) = false)
    (hRframes : names.length + 3 < R.frames) (hRlocals : (rest.map fun v => v.category).sum + (13 * (names.length + 1) + 43) ≤ R.locals) (hRcells : cells + 1 ≤ R.cells) (hRslots : slots + 6 ≤ R.slots) (hlocks : meth.locks = false)
    (hx : ∀ t : State, s.vm.Alike t.vm → H.size ≤ t.heap.size → (∀ q : Nat, q < H.size → t.heap[q]? = H[q]?) → XC cls s t)
    (hf : ∀ z ∈ locs, free z.base) (hc : cells + 1 ≤ mc) (hs : slots + 6 ≤ ms) :
    W p l e R s m args below meth c H locs cells slots (vx_MQ below Qc XC args s mc ms free) (F0 m pc ls rest) := by
  intro T hT X
  have htr : e.platform.stackTraces = false := (show e.platform.stackTraces = l.stackTraces by rw [X.admits.platform]).trans hl
  have Y := vx_rebase X (R' := { frames := R.frames, locals := R.locals, cells := 1, slots := 6 }) (Nat.le_refl _) (Nat.le_refl _) hRcells hRslots
  obtain ⟨s', hA⟩ : ∃ z, z = (T.setVm s.vm).setFrames (.invoking m args :: below) := ⟨_, rfl⟩
  rw [← hA] at Y
  have hvm : s'.vm = s.vm := by rw [hA]; rfl
  have hhp : s'.heap = H := by rw [hA]; exact hT
  have hW0 : s.WarmedH s'.vm := by rw [hvm]; exact State.WarmedH.refl s
  have hat' : ∀ w ∈ vx_atS own ic cls names, w.before args s' = true := fun w hw => vx_ot_at hW0 hvm.symm (hgood w (List.mem_cons_of_mem _ (List.mem_cons_of_mem _ hw))) (hat w hw)
  have hk' : (Cond.classLink own ik cls).before args s' = true := vx_ot_at hW0 hvm.symm (hgood _ List.mem_cons_self) hk
  have hini' : (Cond.initialized cls).before args s' = true := vx_ot_at hW0 hvm.symm (hgood _ (List.mem_cons_of_mem _ List.mem_cons_self)) hini
  have hU' : vx_Zq Bundle.tN "UNASSIGNED_STACK" Bundle.steD A s' s'.heap := by rw [hhp]; exact vx_Zq.moved hW0.alike (hU.kept hS.2.1)
  have hN' : vx_Zq Bundle.tN "SUPPRESSED_SENTINEL" Bundle.listD A s' s'.heap := by rw [hhp]; exact vx_Zq.moved hW0.alike (hN.kept hS.2.1)
  have h : ∀ w ∈ Bundle.ownAtoms own ic cls names, w.before args s' = true := vx_own hat' (vx_isRefq hU'.1) (vx_isRefq hN'.1) hU'.2.word hN'.2.word
  have hown' : s'.vm.findClass own = some m.cls := by rw [hvm]; exact hown
  have hins : (Cond.instantiable cls 6).before args s' = true := h _ (by simp [Bundle.ownAtoms])
  obtain ⟨vm₁, cX, kX, hfX, hkX, -, -, X₁, st1⟩ := Y.newCold hexec (own := own) (C := cls) (index := ik) (n := 6) hown' hk' hins hini'
    (g := F0 m pc ls rest) rfl (by rw [hb]; exact d0) (Nat.le_refl _) (Nat.le_refl _)
  generalize hT1 : (T.setVm vm₁).pushCell { cls := cX, slots := kX.instanceTypes.map defaultValue, vm := .none } = T1 at X₁ st1
  have hcat : (Value.ref T.heap.size).category = 1 := rfl
  have hcellA : T1.heap[T.heap.size]? = some (freshCell cX kX) := by rw [← hT1]; exact State.heap_pushCell_size _ _
  have d3' : decode c.code (pc + 3) = .ok (.dup, 1) := by rw [hb]; exact d3
  have d4' : decode c.code (pc + 4) = .ok (.ldc is, 2) := by rw [hb]; exact d4
  have hstr' : vk_R own is text sa s' := vk_R.warm hW0 hstr
  obtain ⟨U, hsteps, hrun, hend, hW, hsame, ce, hce, hO⟩ := X₁.ctorThrowS hexec htr (own := own) (cls := cls) (names := names) (ic := ic) hown' hcls hnames h (fun x hx => nomatch hx) hfX hkX hcellA (by rw [hhp, hT]; exact Nat.le_refl _) (msg := .ref sa) rfl
    (g := { method := m, pc := pc + 6, locals := ls, stack := .ref sa :: .ref T.heap.size :: .ref T.heap.size :: rest, locked := none }) rfl hsize rfl rfl (rest := rest) rfl
    (by rw [hb]; exact d6) (by rw [hb]; exact d9) hout hRframes (by simp only [List.map_cons, List.sum_cons, hcat]; omega) hlocks
  obtain ⟨f1, f2⟩ := vx_frame hsame
  rw [hhp] at f1 f2
  have hWs : s.WarmedH U.vm := State.WarmedH.trans hW0 hW
  have hcl : s.vm.findClass cls = some ce.cls := by
    have h9 := hO.cls
    rw [hvm] at h9
    exact h9
  have hall : s.sameButNew ({ U with vm := s.vm } : State) locs mc ms := by
    subst hA
    obtain ⟨e1, e2⟩ := hsame
    rw [State.setFrames_setFrames] at e1
    have h2 : (T.setVm s.vm).sameButNew ({ U with vm := s.vm } : State) [] (0 + 1) (0 + 6) := ⟨e1, e2⟩
    have h3 := X.same.trans h2
    rw [List.append_nil] at h3
    exact h3.mono hc hs
  refine ⟨U, ?_, .threw T.heap.size, hrun, hend, Or.inr ⟨T.heap.size, rfl, cls, ce, locs, hx U hWs.alike f1 (fun q hq => f2 q hq (fun z hz => nomatch hz)), hce, hO.vm, hcl, hWs, hall, hf⟩⟩
  refine st1 _ ?_
  show Steps p.tables e below (T1.setTop { method := m, pc := pc + 3, locals := ls, stack := .ref T.heap.size :: rest, locked := none }) _
  jvm_step X₁.here [X₁.here.top, hexec, d3', Value.category]
  exact X₁.ldcString hexec (own := own) (text := text) (index := is) (a := sa) hown' hstr'.1 hstr'.2
    (g := { method := m, pc := pc + 4, locals := ls, stack := .ref T.heap.size :: .ref T.heap.size :: rest, locked := none }) rfl d4' _ hsteps
/-- 'throw new E("text")', the text by a wide index -/
theorem vx_throwSW {cc : ByteArray} {pc : Nat} (hexec : p.tables.exec = Jvm.exec) (hb : c.code = cc) (hl : l.stackTraces = false) {own cls text : String} {names : List String} {ik is ic mc ms sa : Nat} {A : Nat → Prop}
    (hown : s.vm.findClass own = some m.cls) (hcls : Bundle.fit cls = true) (hnames : ∀ n ∈ names, Bundle.fit n = true)
    (hk : (Cond.classLink own ik cls).before args s = true) (hini : (Cond.initialized cls).before args s = true) (hstr : vk_R own is text sa s) (hat : ∀ w ∈ vx_atS own ic cls names, w.before args s = true)
    (hgood : ∀ w ∈ Cond.classLink own ik cls :: Cond.initialized cls :: vx_atS own ic cls names, vx_ot w = true)
    (hU : vx_Zq Bundle.tN "UNASSIGNED_STACK" Bundle.steD A s s.heap) (hN : vx_Zq Bundle.tN "SUPPRESSED_SENTINEL" Bundle.listD A s s.heap) (hS : va_S A s.heap H locs) (hsize : ls.size = c.maxLocals)
    (d0 : decode cc pc = .ok (.new ik, 3)) (d3 : decode cc (pc + 3) = .ok (.dup, 1)) (d4 : decode cc (pc + 4) = .ok (.ldc_w is, 3)) (d7 : decode cc (pc + 7) = .ok (.invokespecial ic, 3)) (d10 : decode cc (pc + 10) = .ok (.athrow, 1))
    (hout : ∀ x ∈ c.exceptionTable.toList, covers x (pc + 10) = false)
    (hRframes : names.length + 3 < R.frames) (hRlocals : (rest.map fun v => v.category).sum + (13 * (names.length + 1) + 43) ≤ R.locals) (hRcells : cells + 1 ≤ R.cells) (hRslots : slots + 6 ≤ R.slots) (hlocks : meth.locks = false)
    (hx : ∀ t : State, s.vm.Alike t.vm → H.size ≤ t.heap.size → (∀ q : Nat, q < H.size → t.heap[q]? = H[q]?) → XC cls s t)
    (hf : ∀ z ∈ locs, free z.base) (hc : cells + 1 ≤ mc) (hs : slots + 6 ≤ ms) :
    W p l e R s m args below meth c H locs cells slots (vx_MQ below Qc XC args s mc ms free) (F0 m pc ls rest) := by
  intro T hT X
  have htr : e.platform.stackTraces = false := (show e.platform.stackTraces = l.stackTraces by rw [X.admits.platform]).trans hl
  have Y := vx_rebase X (R' := { frames := R.frames, locals := R.locals, cells := 1, slots := 6 }) (Nat.le_refl _) (Nat.le_refl _) hRcells hRslots
  obtain ⟨s', hA⟩ : ∃ z, z = (T.setVm s.vm).setFrames (.invoking m args :: below) := ⟨_, rfl⟩
  rw [← hA] at Y
  have hvm : s'.vm = s.vm := by rw [hA]; rfl
  have hhp : s'.heap = H := by rw [hA]; exact hT
  have hW0 : s.WarmedH s'.vm := by rw [hvm]; exact State.WarmedH.refl s
  have hat' : ∀ w ∈ vx_atS own ic cls names, w.before args s' = true := fun w hw => vx_ot_at hW0 hvm.symm (hgood w (List.mem_cons_of_mem _ (List.mem_cons_of_mem _ hw))) (hat w hw)
  have hk' : (Cond.classLink own ik cls).before args s' = true := vx_ot_at hW0 hvm.symm (hgood _ List.mem_cons_self) hk
  have hini' : (Cond.initialized cls).before args s' = true := vx_ot_at hW0 hvm.symm (hgood _ (List.mem_cons_of_mem _ List.mem_cons_self)) hini
  have hU' : vx_Zq Bundle.tN "UNASSIGNED_STACK" Bundle.steD A s' s'.heap := by rw [hhp]; exact vx_Zq.moved hW0.alike (hU.kept hS.2.1)
  have hN' : vx_Zq Bundle.tN "SUPPRESSED_SENTINEL" Bundle.listD A s' s'.heap := by rw [hhp]; exact vx_Zq.moved hW0.alike (hN.kept hS.2.1)
  have h : ∀ w ∈ Bundle.ownAtoms own ic cls names, w.before args s' = true := vx_own hat' (vx_isRefq hU'.1) (vx_isRefq hN'.1) hU'.2.word hN'.2.word
  have hown' : s'.vm.findClass own = some m.cls := by rw [hvm]; exact hown
  have hins : (Cond.instantiable cls 6).before args s' = true := h _ (by simp [Bundle.ownAtoms])
  obtain ⟨vm₁, cX, kX, hfX, hkX, -, -, X₁, st1⟩ := Y.newCold hexec (own := own) (C := cls) (index := ik) (n := 6) hown' hk' hins hini'
    (g := F0 m pc ls rest) rfl (by rw [hb]; exact d0) (Nat.le_refl _) (Nat.le_refl _)
  generalize hT1 : (T.setVm vm₁).pushCell { cls := cX, slots := kX.instanceTypes.map defaultValue, vm := .none } = T1 at X₁ st1
  have hcat : (Value.ref T.heap.size).category = 1 := rfl
  have hcellA : T1.heap[T.heap.size]? = some (freshCell cX kX) := by rw [← hT1]; exact State.heap_pushCell_size _ _
  have d3' : decode c.code (pc + 3) = .ok (.dup, 1) := by rw [hb]; exact d3
  have d4' : decode c.code (pc + 4) = .ok (.ldc_w is, 3) := by rw [hb]; exact d4
  have hstr' : vk_R own is text sa s' := vk_R.warm hW0 hstr
  obtain ⟨U, hsteps, hrun, hend, hW, hsame, ce, hce, hO⟩ := X₁.ctorThrowS hexec htr (own := own) (cls := cls) (names := names) (ic := ic) hown' hcls hnames h (fun x hx => nomatch hx) hfX hkX hcellA (by rw [hhp, hT]; exact Nat.le_refl _) (msg := .ref sa) rfl
    (g := { method := m, pc := pc + 7, locals := ls, stack := .ref sa :: .ref T.heap.size :: .ref T.heap.size :: rest, locked := none }) rfl hsize rfl rfl (rest := rest) rfl
    (by rw [hb]; exact d7) (by rw [hb]; exact d10) hout hRframes (by simp only [List.map_cons, List.sum_cons, hcat]; omega) hlocks
  obtain ⟨f1, f2⟩ := vx_frame hsame
  rw [hhp] at f1 f2
  have hWs : s.WarmedH U.vm := State.WarmedH.trans hW0 hW
  have hcl : s.vm.findClass cls = some ce.cls := by
    have h9 := hO.cls
    rw [hvm] at h9
    exact h9
  have hall : s.sameButNew ({ U with vm := s.vm } : State) locs mc ms := by
    subst hA
    obtain ⟨e1, e2⟩ := hsame
    rw [State.setFrames_setFrames] at e1
    have h2 : (T.setVm s.vm).sameButNew ({ U with vm := s.vm } : State) [] (0 + 1) (0 + 6) := ⟨e1, e2⟩
    have h3 := X.same.trans h2
    rw [List.append_nil] at h3
    exact h3.mono hc hs
  refine ⟨U, ?_, .threw T.heap.size, hrun, hend, Or.inr ⟨T.heap.size, rfl, cls, ce, locs, hx U hWs.alike f1 (fun q hq => f2 q hq (fun z hz => nomatch hz)), hce, hO.vm, hcl, hWs, hall, hf⟩⟩
  refine st1 _ ?_
  show Steps p.tables e below (T1.setTop { method := m, pc := pc + 3, locals := ls, stack := .ref T.heap.size :: rest, locked := none }) _
  jvm_step X₁.here [X₁.here.top, hexec, d3', Value.category]
  exact X₁.ldcStringW hexec (own := own) (text := text) (index := is) (a := sa) hown' hstr'.1 hstr'.2
    (g := { method := m, pc := pc + 4, locals := ls, stack := .ref T.heap.size :: .ref T.heap.size :: rest, locked := none }) rfl d4' _ hsteps
end Ends
section Bodies
variable {l : Launch}
theorem vx_ofW {y : MethodName} {ws ws' : List Cond} {rm : Room} {Pc : Array Value → State → Prop} {Qc : Array Value → State → Outcome → State → Prop} {XC : String → State → State → Prop} {mc ms : Nat} {free : Addr → Prop} {cc : ByteArray} {maxL : Nat} {ret : Option FieldType}
    (hy : plainName y.cls = true) (hw : ws = Cond.code y cc maxL ret :: ws')
    (body : ∀ p e s m args below meth c s₁, BodyLoose p l y (headSpec ws rm) cc maxL ret e s m args below meth c s₁ → c.maxLocals = maxL → (∀ x ∈ c.exceptionTable.toList, False) → Pc args s →
      W p l e (headSpec ws rm).room s m args below meth c s.heap [] 0 0 (vx_MQ below Qc XC args s mc ms free) (entryFrame m args maxL)) : vx_Met l y ws rm Pc Qc XC mc ms free := by
  refine MetFree.of_bodyS (code := cc) (maxLocals := maxL) (ret := ret) hy ?_ ?_
  · intro args s m h hn
    obtain ⟨meth, c, h1, h2, h3, h4, h5, h6, -, -⟩ := Cond.code_spec hn (atoms_spec (ws := ws) h _ (by rw [hw]; exact List.mem_cons_self))
    exact ⟨meth, c, h1, h2, h3, h4, h5, h6⟩
  · intro p e s m args below meth c s₁ B hml hP _
    have hh0 : s₁.heap = s.heap := by rw [B.state]; rfl
    have ht : ∀ x ∈ c.exceptionTable.toList, False := by
      obtain ⟨meth9, c9, h1, h2, -, -, -, -, h7, -⟩ := Cond.code_spec B.named (atoms_spec (ws := ws) B.pre _ (by rw [hw]; exact List.mem_cons_self))
      cases Option.some.inj (h1.symm.trans B.method)
      cases Option.some.inj (h2.symm.trans (Stand.of_body B).code)
      intro x hx
      rw [Array.isEmpty_iff.mp h7] at hx
      cases hx
    obtain ⟨t, a1, o, b1, b2, b3⟩ := body p e s m args below meth c s₁ B hml ht hP s₁ hh0 (Stand.of_body B)
    exact ⟨t, o, a1, b1, b2, b3⟩
/-- the table of a body with handlers -/
theorem vx_table {p : Program} {x y : MethodName} {S : Spec} {cc bytes : ByteArray} {maxL maxL' : Nat} {ret ret' : Option FieldType} {e : Env} {s s₁ : State} {m : MethodId} {args : Array Value} {below : List Frame} {meth : Method} {c : Code} {hh : List (Nat × Nat × Nat × Nat)}
    (B : BodyLoose p l y S cc maxL ret e s m args below meth c s₁) (h : (Cond.codeWith y bytes maxL' ret' hh).before args s = true) : c.exceptionTable.toList = tableOf hh := by
  obtain ⟨m9, meth9, c9, hn9, h1, h2, -, -, h6, -⟩ := Cond.codeWith_spec h
  cases Option.some.inj (hn9.symm.trans B.named)
  cases Option.some.inj (h1.symm.trans B.method)
  cases Option.some.inj (h2.symm.trans (Stand.of_body B).code)
  rw [← h6, table_eq]
end Bodies
end VXA
/-! ===== END ===== -/
/-! ===== BEGIN a static call of a method with an exception table ===== -/
section VXS
variable {p : Program} {l : Launch} {e : Env} {R : Room} {s : State} {m : MethodId} {args : Array Value} {below : List Frame} {meth : Method} {c : Code} {T : State} {H : Heap} {locs : List Loc} {cells slots : Nat}
abbrev vx_CSW (R : Room) (s : State) (args : Array Value) (own : String) (index : Nat) (y : MethodName) (bytes : ByteArray) (maxL : Nat) (ret : Option FieldType) (hh : List (Nat × Nat × Nat × Nat)) (ws : List Cond) (rm : Room) (mc ms n : Nat) : Prop :=
  (rm.cells = mc ∧ rm.slots = ms ∧ rm.frames + 1 ≤ R.frames ∧ 8 + (maxL + 11) + rm.locals ≤ R.locals ∧ (∀ w ∈ ws, ∀ (a' : Array Value) (U : State), s.WarmedH U.vm → w.before a' U = true) ∧ Cond.codeWith y bytes maxL ret hh ∈ ws) ∧
  (Cond.codeWith y bytes maxL ret hh).before args s = true ∧ (Cond.initialized y.cls).before args s = true ∧ (y.cls ≠ "java/lang/invoke/MethodHandle" ∧ y.cls ≠ "java/lang/invoke/VarHandle") ∧
  (∀ sig, parseMethodDescriptor y.desc = some sig → n = sig.parameters.length) ∧ (Cond.methodLink own index y).before args s = true ∧ (Cond.static y).before args s = true
theorem vx_cwSW {own : String} {index maxL mc ms : Nat} {y : MethodName} {bytes : ByteArray} {ret : Option FieldType} {hh : List (Nat × Nat × Nat × Nat)} {Ts ws ws' : List Cond} {rm : Room} (n : Nat) (ht : ∀ w ∈ Ts, w.before args s = true) (hT : GoodIn Ts (va_wsS own index y ws)) (hw : ws = Cond.codeWith y bytes maxL ret hh :: ws') (hrc : rm.cells = mc) (hrs : rm.slots = ms)
    (hd : y.cls ≠ "java/lang/invoke/MethodHandle" ∧ y.cls ≠ "java/lang/invoke/VarHandle" ∧ (parseMethodDescriptor y.desc).map (fun d => d.parameters.length) = some n) (hR : rm.frames + 1 ≤ R.frames ∧ 8 + (maxL + 11) + rm.locals ≤ R.locals) :
    vx_CSW R s args own index y bytes maxL ret hh ws rm mc ms n := by
  have ok : ∀ w ∈ va_wsS own index y ws, w.before args s = true := fun w h => ht w (hT w h).1
  have hG : GoodIn Ts ws := fun w h => hT w (by unfold va_wsS; exact List.mem_append_right _ h)
  have hc : Cond.codeWith y bytes maxL ret hh ∈ ws := by rw [hw]; exact List.mem_cons_self
  refine ⟨⟨hrc, hrs, hR.1, hR.2, pay_in ht hG, hc⟩, ht _ (hG _ hc).1, ok _ (by simp [va_wsS]), ⟨hd.1, hd.2.1⟩, fun sig h => ?_, ok _ (by simp [va_wsS]), ok _ (by simp [va_wsS])⟩
  have h2 := hd.2.2
  rw [h] at h2
  exact (Option.some.inj h2).symm
theorem vx_callSW (X : Stand p l e R s m args below meth c T locs cells slots) (hexec : p.tables.exec = Jvm.exec) {own : String} {index : Nat} {y : MethodName} {bytes : ByteArray} {maxL : Nat} {ret : Option FieldType} {hh : List (Nat × Nat × Nat × Nat)}
    (hown : s.vm.findClass own = some m.cls) (hlink : (Cond.methodLink own index y).before args s = true) (hstat : (Cond.static y).before args s = true) (hinit : (Cond.initialized y.cls).before args s = true)
    (hcode : (Cond.codeWith y bytes maxL ret hh).before args s = true) (hy : y.cls ≠ "java/lang/invoke/MethodHandle" ∧ y.cls ≠ "java/lang/invoke/VarHandle")
    {W9 : Nat} {Pre : Pt → Array Value → Prop} {Post : Pt → Array Value → Option Value → Pt → Prop} (hK : Back l R p e below s args y 3 W9 Pre Post)
    {g : JFrame} (hg : g.method = m) (hsize : g.locals.size = c.maxLocals) {argsL rest : List Value} (hlen : ∀ sig, parseMethodDescriptor y.desc = some sig → argsL.length = sig.parameters.length)
    (hstack : g.stack = argsL.reverse ++ rest) (hW : 2 * g.monitorRoom + (rest.map fun v => v.category).sum ≤ W9) (hdg : decode c.code g.pc = .ok (.invokestatic index, 3))
    (hpre : ∀ vm₁, s.WarmedH vm₁ → Pre ⟨T.setVm vm₁, locs, cells, slots⟩ argsL.toArray) :
    ∃ (v : Option Value) (vm₁ : Vm) (B : Pt), s.WarmedH vm₁ ∧ Stand p l e R s m args below meth c B.U B.locs B.cells B.slots ∧ Post ⟨T.setVm vm₁, locs, cells, slots⟩ argsL.toArray v B ∧
      ∀ target, Steps p.tables e below (B.U.setTop { g with pc := g.pc + 3, stack := v.toList ++ rest }) target → Steps p.tables e below (T.setTop g) target := by
  obtain ⟨mk, methM, cM, hnamed, hmethM, -, -, -, -, -, -, hsigM⟩ := Cond.codeWith_spec hcode
  have hstatic : methM.isStatic = true := Cond.static_spec hnamed hmethM hstat
  obtain ⟨kP, hkP, -⟩ := className_of_methodNamed hnamed
  have hinitP : kP.init = .initialized := Cond.initialized_spec (findClass_of_methodNamed hnamed) hkP hinit
  obtain ⟨vm₁, X₁, hstep₁⟩ := X.invokestatic hexec hown hlink hnamed hmethM hstatic hkP hinitP hy (g := g) hg (argsL := argsL) (rest := rest) (hlen _ hsigM) hstack hdg
  obtain ⟨v, B, X', hpost, hsteps⟩ := hK m meth c ⟨T.setVm vm₁, locs, cells, slots⟩ { g with stack := rest } (.invokestatic index) mk argsL.toArray X₁ hg hsize hdg hW (X₁.named hnamed) (hpre vm₁ X₁.warmed)
  exact ⟨v, vm₁, B, X₁.warmed, X', hpost, fun target h => hstep₁ _ fun acts => by rw [doInvoke_state]; exact hsteps.trans h⟩
theorem vx_runSW {y : MethodName} {bytes cc : ByteArray} {maxL nL mc ms n index : Nat} {ret : Option FieldType} {hh : List (Nat × Nat × Nat × Nat)} {ws : List Cond} {rm : Room} {Pc : Array Value → State → Prop} {Qc : Array Value → State → Outcome → State → Prop} {free : Addr → Prop} {Ts : List Cond} {own : String} {As rest : List Value} {g : JFrame}
    (S : CallFix p m c cc nL s args Ts own) (hM : Met l y ws rm Pc Qc mc ms free) (cw : vx_CSW R s args own index y bytes maxL ret hh ws rm mc ms n) (hp : PreS s H Pc As)
    (hg : g.method = m) (hn : As.length = n) (hsize : g.locals.size = nL) (hstack : g.stack = As.reverse ++ rest) (hW : 2 * g.monitorRoom + (rest.map fun v => v.category).sum ≤ 8) (hdg : decode cc g.pc = .ok (.invokestatic index, 3)) (hf : cells + mc ≤ R.cells ∧ slots + ms ≤ R.slots) :
    va_Run p l e R s m args below meth c H locs cells slots mc ms g rest (Qc As.toArray) (free) := by
  obtain ⟨⟨hrc, hrs, hfr, hlo, hws, hcw⟩, hcode, hini, hy, hlen, hl, hstt⟩ := cw
  have hK : Back l R p e below s args y 3 8 (PreOf R mc ms Pc) (PostOf Qc mc ms free) := va_backW (hh := hh) (bytes := bytes) (maxL := maxL) (ret := ret) hM hp.1 hrc hrs hfr hlo hws hcw (fun a' U hW => word_at hW (Or.inl (by first | rfl | simp [Cond.onTables, Cond.keeps, Cond.steady])) hini)
  obtain ⟨hx, hb, hml, ho, -⟩ := S
  intro T hT X
  obtain ⟨v, vm₁, ⟨U', l2, c2, s2⟩, hW₁, X', ⟨g', mk, t, L, e1, e2, hq, h1, hL, h2, h3⟩, st⟩ := vx_callSW X hx (hh := hh) (bytes := bytes) (maxL := maxL) (ret := ret) ho hl hstt hini hcode hy hK hg (hsize.trans hml.symm) (argsL := As) (rest := rest) (fun sig h => hn.trans (hlen sig h)) hstack hW (by rw [hb]; exact hdg)
    (fun vm₁ hW₁ => ⟨hf.1, hf.2, hp.2 (T.setVm vm₁) hT hW₁⟩)
  dsimp only [Pt.U, Pt.locs, Pt.cells, Pt.slots] at X' e1 e2 h1 h2 h3 st
  subst h1; subst h2; subst h3
  exact ⟨v, (T.setVm vm₁).calling g' mk As.toArray, t, U', L, hT, X', hL, e1, e2, hq, st⟩
/-- not caught here, past rows that name other classes: it goes on to the caller -/
theorem vx_outP {p : Program} {l : Launch} {e : Env} {R : Room} {s : State} {m : MethodId} {args : Array Value} {below : List Frame} {meth : Method} {c : Code} {H : Heap} {locs : List Loc} {cells slots : Nat} {free : Addr → Prop} {ls : Array Slot} {rest : List Value} {Qc : Array Value → State → Outcome → State → Prop} {XC : String → State → State → Prop}
    {pc : Nat} {own E : String} {ce : Cell} {q : Addr} {mc ms : Nat} (hown : s.vm.findClass own = some m.cls) (hlocks : meth.locks = false)
    (hpass : ∀ z ∈ c.exceptionTable.toList, covers z pc = false ∨ (z.catchType ≠ 0 ∧ ∃ nm : String, (Cond.classLink own z.catchType nm).before args s = true ∧ va_Nc E nm s)) (hcell : H[q]? = some ce) (hv : ce.vm = .none) (hcl : s.vm.findClass E = some ce.cls)
    (hx : ∀ t : State, t.heap = H → s.vm.Alike t.vm → XC E s t) (hf : ∀ z ∈ locs, free z.base) (hc : cells ≤ mc) (hs : slots ≤ ms) :
    vx_W p l e R s m args below meth c H locs cells slots (vx_MQ below Qc XC args s mc ms free) (F0 m pc ls rest) q := by
  intro T hT X
  have hpl : e.platform.magicAccessors = ({} : Platform).magicAccessors := by rw [X.admits.platform]
  obtain ⟨vm', hW', X', st⟩ := X.outThrough hlocks q (g := F0 m pc ls rest) rfl rfl rfl (cell := ce) (by rw [hT]; exact hcell) (by rw [hv]; rfl)
    (by obtain ⟨k9, h9, -⟩ := Vm.findClass_spec hcl; exact ⟨k9, h9⟩) (fun z hz => by
      rcases hpass z hz with h | ⟨hz0, nm, hl1, hn1⟩
      · exact Or.inl h
      · obtain ⟨c6, hc6, hcl6⟩ := Cond.classLink_spec hown hl1 e.platform hpl
        obtain ⟨a8, b8, h1, h2, h3⟩ := hn1
        cases Option.some.inj (h1.symm.trans hcl)
        cases Option.some.inj (h2.symm.trans hc6)
        exact Or.inr ⟨hz0, _, hcl6, h3⟩)
  obtain ⟨g₀, hfr⟩ := X'.frames_eq
  have hcell9 : ((T.setVm vm').setFrames (.throwing q :: below)).heap[q]? = some ce := by
    show T.heap[q]? = some ce
    rw [hT]; exact hcell
  have hend : Ended ((T.setVm vm').setFrames (.throwing q :: below)) below (.threw q) := State.frames_setFrames _ (State.cur_lt_of_frames hfr)
  refine ⟨(T.setVm vm').setFrames (.throwing q :: below), ?_, .threw q, X'.here.running, hend, Or.inr ⟨q, rfl, E, ce, locs, hx _ hT (X'.ends _).1.alike, hcell9, hv, hcl, (X'.ends _).1, (X'.ends _).2.mono hc hs, hf⟩⟩
  rw [X.pushThrowing_eq]
  exact st
/-- a thing of a world lies in the heap -/
theorem vx_lt {D : va_G} {cl : List vw_C} {ws : va_W} {H1 : Heap} (h : va_P D cl ws H1) {k : Nat} {q : Nat × va_E} (hk : ws[k]? = some q) : q.1 < H1.size := (h k q hk).lt
end VXS
/-! ===== END ===== -/
/-! ===== BEGIN methods with a table of their own: called by a name, returning or throwing ===== -/
section VXH
/-! vx_backW, vx_callVX, vx_callSX, vx_callVW, vx_runVW, vx_runVX, vx_runSX, vx_ofWH follow the same proofs as their sisters above (Free/Laws.lean, Shelf42/LK1.lean); vx_outP calls Shelf42/NT130.lean (outThrough). -/
section
variable {l : Launch} {R : Room} {p : Program} {e : Env} {below : List Frame} {s : State} {sargs : Array Value} {y : MethodName} {len W9 : Nat}
theorem vx_backW {ws : List Cond} {rm : Room} {Pc : Array Value → State → Prop} {Qc : Array Value → State → Outcome → State → Prop} {XC : String → State → State → Prop} {mc ms : Nat} {free : Addr → Prop} {bytes : ByteArray} {maxL : Nat} {ret : Option FieldType} {hh : List (Nat × Nat × Nat × Nat)}
    (hM : vx_Met l y ws rm Pc Qc XC mc ms free) (hblind : FrameBlind Pc) (hrc : rm.cells = mc) (hrs : rm.slots = ms)
    (hframes : rm.frames + 1 ≤ R.frames) (hlocals : W9 + (maxL + 11) + rm.locals ≤ R.locals)
    (hws : ∀ w ∈ ws, ∀ a' U, s.WarmedH U.vm → w.before a' U = true) (hcode : Cond.codeWith y bytes maxL ret hh ∈ ws) (hinit : ∀ a' U, s.WarmedH U.vm → (Cond.initialized y.cls).before a' U = true) :
    vx_Back l R p e below s sargs y len W9 (PreOf R mc ms Pc) (PostOf Qc mc ms free) (vx_Post XC mc ms free) := by
  intro m meth c A g ig mk a X hg hsize hdg hW hn hp
  have h1 : (headSpec ws rm).pre.before a A.U = true := atoms_intro fun w hw => hws w hw _ _ X.warmed
  have h2 : (Cond.codeWith y bytes maxL ret hh).before a A.U = true := hws _ hcode _ _ X.warmed
  have h3 : (Cond.initialized y.cls).before a A.U = true := hinit _ _ X.warmed
  have h4 : A.cells + (headSpec ws rm).room.cells ≤ R.cells := by rw [show (headSpec ws rm).room.cells = mc from hrc]; exact hp.1
  have h5 : A.slots + (headSpec ws rm).room.slots ≤ R.slots := by rw [show (headSpec ws rm).room.slots = ms from hrs]; exact hp.2.1
  have hPc : Pc a (A.U.calling g mk a) := hblind _ _ _ _ hp.2.2
  obtain ⟨U, Ls, c0, s0⟩ := A
  dsimp only [Pt.U, Pt.locs, Pt.cells, Pt.slots] at h1 h2 h3 h4 h5 X hn hPc ⊢
  obtain ⟨m9, methY, cY, hn9, hmY, hcY, -, hlY, -⟩ := Cond.codeWith_spec h2
  cases Option.some.inj (hn9.symm.trans hn)
  obtain ⟨kY, hkY, -⟩ := className_of_methodNamed hn
  have hinitY : kY.init = .initialized := Cond.initialized_spec (findClass_of_methodNamed hn) hkY h3
  have h : At U g.method c below := by rw [hg]; exact X.here
  have hlocals9 : W9 + (maxL + 11) + (headSpec ws rm).room.locals ≤ R.locals := hlocals
  have happ : (headSpec ws rm).appliesLoose y e.platform (U.calling g mk a) = true :=
    Spec.appliesLoose_calling (g := g) h hdg hn hkY hinitY
      (X.room_calling (g := g) (R' := (headSpec ws rm).room) hsize hmY hcY hframes (by rw [hlY]; omega) h4 h5) h1
  obtain ⟨mid, hmid⟩ := h.above
  have hfr : (U.setTop g).frames = (.java g :: mid) ++ below := by rw [State.frames_setTop' g h.top, hmid]; rfl
  obtain ⟨o, s₂, hsteps, -, hend, hq⟩ := Steps.callFree hM p X.admits X.cas X.clock (acts := []) hfr happ hPc trivial
  have hq' : vx_Q Qc XC mc ms free a (U.calling g mk a) o s₂ := hq
  rw [State.frames_setTop' g h.top] at hend
  obtain ⟨g₀, hg0⟩ := Option.isSome_iff_exists.mp h.top
  obtain ⟨r, hr⟩ := State.topJava?_eq_some.mp hg0
  have hr' : (({ U with heap := s₂.heap, slotsUsed := s₂.slotsUsed } : State).setVm s₂.vm).frames = .java g₀ :: r := hr
  rcases hq' with ⟨hqc, L, hfe, hL⟩ | ⟨q, rfl, E, ce, L, hx, hce, hcv, hcl, hW₂, hsm, hL⟩
  · obtain ⟨⟨v, rfl⟩, hW₂, e2, q2, q3, q4, q5, q6⟩ := id hfe
    have e3 : s₂ = ({ (U.calling g mk a).setFrames s₂.frames with heap := s₂.heap, slotsUsed := s₂.slotsUsed } : State).setVm s₂.vm := by
      have : s₂ = ({ s₂ with vm := (U.calling g mk a).vm } : State).setVm s₂.vm := rfl
      rw [e2] at this
      exact this
    obtain ⟨c₂, i₂, len₂, hc₂, hd₂, hf₂⟩ := hend
    have hW' : U.WarmedH s₂.vm := hW₂
    have hcc : c₂ = c := by
      have h1 : s₂.code? g.method = U.code? g.method := by
        rw [State.code?_eq, State.code?_eq, hW'.alike.method?]
      exact Option.some.inj (hc₂.symm.trans (h1.trans h.code))
    subst hcc
    have hlen : len₂ = len := by rw [hdg] at hd₂; cases hd₂; rfl
    subst hlen
    have hs₂ : s₂ = (({ U with heap := s₂.heap, slotsUsed := s₂.slotsUsed } : State).setVm s₂.vm).setTop { g with pc := g.pc + len₂, stack := v.toList ++ g.stack } := by
      refine e3.trans ?_
      rw [hf₂, State.calling_eq h.top, State.setFrames_setFrames, State.setTop_of_frames _ hr', hr]
      rfl
    have hsame : U.sameButNew ({ U with heap := s₂.heap, slotsUsed := s₂.slotsUsed } : State) L mc ms := by
      refine ⟨?_, q2, q3, q4, q5, q6⟩
      obtain ⟨t, ht, -⟩ := State.frames_cons hr
      show ({ U with heap := s₂.heap, slotsUsed := s₂.slotsUsed } : State) = { U.setFrames U.frames with heap := s₂.heap, slotsUsed := s₂.slotsUsed }
      rw [State.setFrames_self ht]
    subst hg
    refine Or.inl ⟨v, ⟨(({ U with heap := s₂.heap, slotsUsed := s₂.slotsUsed } : State).setVm s₂.vm), Ls ++ L, c0 + mc, s0 + ms⟩,
      ⟨X.admits, X.cas, X.clock, X.frames, X.room, X.hears, X.method, X.code, (X.here.setHeapUsed s₂.heap s₂.slotsUsed).setVm hW'.alike, X.tail, State.WarmedH.trans X.warmed hW', X.limits, X.bytes, X.same.trans (hsame.setVm s.vm)⟩,
      ⟨g, mk, s₂, L, rfl, rfl, hqc, rfl, hL, rfl, rfl⟩, ?_⟩
    show Steps p.tables e below _ ((({ U with heap := s₂.heap, slotsUsed := s₂.slotsUsed } : State).setVm s₂.vm).setTop { g with pc := g.pc + len₂, stack := v.toList ++ g.stack })
    rw [← hs₂]
    exact hsteps
  · obtain ⟨e2, q2, q3, q4, q5, q6⟩ := id hsm
    have e3 : s₂ = ({ (U.calling g mk a).setFrames s₂.frames with heap := s₂.heap, slotsUsed := s₂.slotsUsed } : State).setVm s₂.vm := by
      have : s₂ = ({ s₂ with vm := (U.calling g mk a).vm } : State).setVm s₂.vm := rfl
      rw [e2] at this
      exact this
    have hf₂ : s₂.frames = .throwing q :: .java g :: U.frames.tail := hend
    have hW' : U.WarmedH s₂.vm := hW₂
    have hs₂ : s₂ = ((({ U with heap := s₂.heap, slotsUsed := s₂.slotsUsed } : State).setVm s₂.vm).setTop g).pushFrame (.throwing q) := by
      refine e3.trans ?_
      rw [hf₂, State.calling_eq h.top, State.setFrames_setFrames, State.pushFrame, State.frames_setTop _ hr', State.setTop_of_frames _ hr', State.setFrames_setFrames, hr]
      rfl
    have hsame : U.sameButNew ({ U with heap := s₂.heap, slotsUsed := s₂.slotsUsed } : State) L mc ms := by
      refine ⟨?_, q2, q3, q4, q5, q6⟩
      obtain ⟨t, ht, -⟩ := State.frames_cons hr
      show ({ U with heap := s₂.heap, slotsUsed := s₂.slotsUsed } : State) = { U.setFrames U.frames with heap := s₂.heap, slotsUsed := s₂.slotsUsed }
      rw [State.setFrames_self ht]
    subst hg
    refine Or.inr ⟨q, ⟨(({ U with heap := s₂.heap, slotsUsed := s₂.slotsUsed } : State).setVm s₂.vm), Ls ++ L, c0 + mc, s0 + ms⟩,
      ⟨X.admits, X.cas, X.clock, X.frames, X.room, X.hears, X.method, X.code, (X.here.setHeapUsed s₂.heap s₂.slotsUsed).setVm hW'.alike, X.tail, State.WarmedH.trans X.warmed hW', X.limits, X.bytes, X.same.trans (hsame.setVm s.vm)⟩,
      ⟨g, mk, s₂, L, E, ce, rfl, rfl, hx, hce, hcv, hcl, rfl, hL, rfl, rfl⟩, ?_⟩
    show Steps p.tables e below _ (((({ U with heap := s₂.heap, slotsUsed := s₂.slotsUsed } : State).setVm s₂.vm).setTop g).pushFrame (.throwing q))
    rw [← hs₂]
    exact hsteps
end
variable {p : Program} {l : Launch} {e : Env} {R : Room} {s : State} {m : MethodId} {args : Array Value} {below : List Frame} {meth : Method} {c : Code} {T : State} {H : Heap} {locs : List Loc} {cells slots : Nat}
theorem vx_callVX (X : Stand p l e R s m args below meth c T locs cells slots) (hexec : p.tables.exec = Jvm.exec) {own C : String} {index : Nat} {y : MethodName} {bytes : ByteArray} {maxL : Nat} {ret : Option FieldType} {hh : List (Nat × Nat × Nat × Nat)}
    (hown : s.vm.findClass own = some m.cls) (hlink : (Cond.methodLink own index y).before args s = true) (hinst : (Cond.instanceMethod y).before args s = true) (hsel : (Cond.selects C y y).before args s = true)
    (hcode : (Cond.codeWith y bytes maxL ret hh).before args s = true) (hy : y.cls ≠ "java/lang/invoke/MethodHandle" ∧ y.cls ≠ "java/lang/invoke/VarHandle")
    {W9 : Nat} {Pre : Pt → Array Value → Prop} {Post : Pt → Array Value → Option Value → Pt → Prop} {PostX : Pt → Array Value → Addr → Pt → Prop} (hK : vx_Back l R p e below s args y 3 W9 Pre Post PostX)
    {b : Addr} {cellB : Cell} (hcell : T.heap[b]? = some cellB) (hobj : cellB.vm.isStatics = false) (hcls : s.vm.findClass C = some cellB.cls)
    {g : JFrame} (hg : g.method = m) (hsize : g.locals.size = c.maxLocals) {argsL rest : List Value} (hlen : ∀ sig, parseMethodDescriptor y.desc = some sig → argsL.length = sig.parameters.length)
    (hstack : g.stack = argsL.reverse ++ .ref b :: rest) (hW : 2 * g.monitorRoom + (rest.map fun v => v.category).sum ≤ W9) (hdg : decode c.code g.pc = .ok (.invokevirtual index, 3))
    (hpre : ∀ vm₁, s.WarmedH vm₁ → Pre ⟨T.setVm vm₁, locs, cells, slots⟩ (Value.ref b :: argsL).toArray) :
    (∃ (v : Option Value) (vm₁ : Vm) (B : Pt), s.WarmedH vm₁ ∧ Stand p l e R s m args below meth c B.U B.locs B.cells B.slots ∧ Post ⟨T.setVm vm₁, locs, cells, slots⟩ (Value.ref b :: argsL).toArray v B ∧
      ∀ target, Steps p.tables e below (B.U.setTop { g with pc := g.pc + 3, stack := v.toList ++ rest }) target → Steps p.tables e below (T.setTop g) target) ∨
    (∃ (q : Addr) (vm₁ : Vm) (B : Pt), s.WarmedH vm₁ ∧ Stand p l e R s m args below meth c B.U B.locs B.cells B.slots ∧ PostX ⟨T.setVm vm₁, locs, cells, slots⟩ (Value.ref b :: argsL).toArray q B ∧
      Steps p.tables e below (T.setTop g) ((B.U.setTop { g with stack := rest }).pushFrame (.throwing q))) := by
  obtain ⟨mk, methM, hnamed, hmethM, hstM, habM⟩ := Cond.instanceMethod_spec hinst
  obtain ⟨m8, methM', cM, hn8, hmethM', -, -, -, -, -, -, hsigM⟩ := Cond.codeWith_spec hcode
  cases Option.some.inj (hn8.symm.trans hnamed)
  cases hmethM.symm.trans hmethM'
  obtain ⟨c2, r2, m2, q1, q2, q3, q4, kP, hkP, hkPi⟩ := Cond.selects_spec hsel
  cases hcls.symm.trans q1
  cases (State.methodFound?_of_named hnamed hy).symm.trans q2
  cases hnamed.symm.trans q3
  have hselP : selectMethod e.platform s.vm cellB.cls mk = .method mk := by rw [Launch.admits_selectMethod X.admits]; exact q4
  obtain ⟨vm₁, X₁, hstep₁⟩ := X.invokevirtual hexec hown hlink hnamed hmethM hstM hkP hkPi hy (a := b) (cell := cellB) hcell
    (fun z h => by rw [h] at hobj; cases hobj) hselP hmethM habM hkP hkPi (g := g) hg (argsL := argsL) (rest := rest) (hlen _ hsigM) hstack hdg
  rcases hK m meth c ⟨T.setVm vm₁, locs, cells, slots⟩ { g with stack := rest } (.invokevirtual index) mk (Value.ref b :: argsL).toArray X₁ hg hsize hdg hW (X₁.named hnamed) (hpre vm₁ X₁.warmed) with ⟨v, B, X', hpost, hsteps⟩ | ⟨q, B, X', hpost, hsteps⟩
  · exact Or.inl ⟨v, vm₁, B, X₁.warmed, X', hpost, fun target h => hstep₁ _ fun acts => by rw [doInvoke_state]; exact hsteps.trans h⟩
  · exact Or.inr ⟨q, vm₁, B, X₁.warmed, X', hpost, hstep₁ _ fun acts => by rw [doInvoke_state]; exact hsteps⟩
theorem vx_callSX (X : Stand p l e R s m args below meth c T locs cells slots) (hexec : p.tables.exec = Jvm.exec) {own : String} {index : Nat} {y : MethodName} {bytes : ByteArray} {maxL : Nat} {ret : Option FieldType} {hh : List (Nat × Nat × Nat × Nat)}
    (hown : s.vm.findClass own = some m.cls) (hlink : (Cond.methodLink own index y).before args s = true) (hstat : (Cond.static y).before args s = true) (hinit : (Cond.initialized y.cls).before args s = true)
    (hcode : (Cond.codeWith y bytes maxL ret hh).before args s = true) (hy : y.cls ≠ "java/lang/invoke/MethodHandle" ∧ y.cls ≠ "java/lang/invoke/VarHandle")
    {W9 : Nat} {Pre : Pt → Array Value → Prop} {Post : Pt → Array Value → Option Value → Pt → Prop} {PostX : Pt → Array Value → Addr → Pt → Prop} (hK : vx_Back l R p e below s args y 3 W9 Pre Post PostX)
    {g : JFrame} (hg : g.method = m) (hsize : g.locals.size = c.maxLocals) {argsL rest : List Value} (hlen : ∀ sig, parseMethodDescriptor y.desc = some sig → argsL.length = sig.parameters.length)
    (hstack : g.stack = argsL.reverse ++ rest) (hW : 2 * g.monitorRoom + (rest.map fun v => v.category).sum ≤ W9) (hdg : decode c.code g.pc = .ok (.invokestatic index, 3))
    (hpre : ∀ vm₁, s.WarmedH vm₁ → Pre ⟨T.setVm vm₁, locs, cells, slots⟩ argsL.toArray) :
    (∃ (v : Option Value) (vm₁ : Vm) (B : Pt), s.WarmedH vm₁ ∧ Stand p l e R s m args below meth c B.U B.locs B.cells B.slots ∧ Post ⟨T.setVm vm₁, locs, cells, slots⟩ argsL.toArray v B ∧
      ∀ target, Steps p.tables e below (B.U.setTop { g with pc := g.pc + 3, stack := v.toList ++ rest }) target → Steps p.tables e below (T.setTop g) target) ∨
    (∃ (q : Addr) (vm₁ : Vm) (B : Pt), s.WarmedH vm₁ ∧ Stand p l e R s m args below meth c B.U B.locs B.cells B.slots ∧ PostX ⟨T.setVm vm₁, locs, cells, slots⟩ argsL.toArray q B ∧
      Steps p.tables e below (T.setTop g) ((B.U.setTop { g with stack := rest }).pushFrame (.throwing q))) := by
  obtain ⟨mk, methM, cM, hnamed, hmethM, -, -, -, -, -, -, hsigM⟩ := Cond.codeWith_spec hcode
  have hstatic : methM.isStatic = true := Cond.static_spec hnamed hmethM hstat
  obtain ⟨kP, hkP, -⟩ := className_of_methodNamed hnamed
  have hinitP : kP.init = .initialized := Cond.initialized_spec (findClass_of_methodNamed hnamed) hkP hinit
  obtain ⟨vm₁, X₁, hstep₁⟩ := X.invokestatic hexec hown hlink hnamed hmethM hstatic hkP hinitP hy (g := g) hg (argsL := argsL) (rest := rest) (hlen _ hsigM) hstack hdg
  rcases hK m meth c ⟨T.setVm vm₁, locs, cells, slots⟩ { g with stack := rest } (.invokestatic index) mk argsL.toArray X₁ hg hsize hdg hW (X₁.named hnamed) (hpre vm₁ X₁.warmed) with ⟨v, B, X', hpost, hsteps⟩ | ⟨q, B, X', hpost, hsteps⟩
  · exact Or.inl ⟨v, vm₁, B, X₁.warmed, X', hpost, fun target h => hstep₁ _ fun acts => by rw [doInvoke_state]; exact hsteps.trans h⟩
  · exact Or.inr ⟨q, vm₁, B, X₁.warmed, X', hpost, hstep₁ _ fun acts => by rw [doInvoke_state]; exact hsteps⟩
theorem vx_callVW (X : Stand p l e R s m args below meth c T locs cells slots) (hexec : p.tables.exec = Jvm.exec) {own C : String} {index : Nat} {y : MethodName} {bytes : ByteArray} {maxL : Nat} {ret : Option FieldType} {hh : List (Nat × Nat × Nat × Nat)}
    (hown : s.vm.findClass own = some m.cls) (hlink : (Cond.methodLink own index y).before args s = true) (hinst : (Cond.instanceMethod y).before args s = true) (hsel : (Cond.selects C y y).before args s = true)
    (hcode : (Cond.codeWith y bytes maxL ret hh).before args s = true) (hy : y.cls ≠ "java/lang/invoke/MethodHandle" ∧ y.cls ≠ "java/lang/invoke/VarHandle")
    {W9 : Nat} {Pre : Pt → Array Value → Prop} {Post : Pt → Array Value → Option Value → Pt → Prop} (hK : Back l R p e below s args y 3 W9 Pre Post)
    {b : Addr} {cellB : Cell} (hcell : T.heap[b]? = some cellB) (hobj : cellB.vm.isStatics = false) (hcls : s.vm.findClass C = some cellB.cls)
    {g : JFrame} (hg : g.method = m) (hsize : g.locals.size = c.maxLocals) {argsL rest : List Value} (hlen : ∀ sig, parseMethodDescriptor y.desc = some sig → argsL.length = sig.parameters.length)
    (hstack : g.stack = argsL.reverse ++ .ref b :: rest) (hW : 2 * g.monitorRoom + (rest.map fun v => v.category).sum ≤ W9) (hdg : decode c.code g.pc = .ok (.invokevirtual index, 3))
    (hpre : ∀ vm₁, s.WarmedH vm₁ → Pre ⟨T.setVm vm₁, locs, cells, slots⟩ (Value.ref b :: argsL).toArray) :
    ∃ (v : Option Value) (vm₁ : Vm) (B : Pt), s.WarmedH vm₁ ∧ Stand p l e R s m args below meth c B.U B.locs B.cells B.slots ∧ Post ⟨T.setVm vm₁, locs, cells, slots⟩ (Value.ref b :: argsL).toArray v B ∧
      ∀ target, Steps p.tables e below (B.U.setTop { g with pc := g.pc + 3, stack := v.toList ++ rest }) target → Steps p.tables e below (T.setTop g) target := by
  obtain ⟨mk, methM, hnamed, hmethM, hstM, habM⟩ := Cond.instanceMethod_spec hinst
  obtain ⟨m8, methM', cM, hn8, hmethM', -, -, -, -, -, -, hsigM⟩ := Cond.codeWith_spec hcode
  cases Option.some.inj (hn8.symm.trans hnamed)
  cases hmethM.symm.trans hmethM'
  obtain ⟨c2, r2, m2, q1, q2, q3, q4, kP, hkP, hkPi⟩ := Cond.selects_spec hsel
  cases hcls.symm.trans q1
  cases (State.methodFound?_of_named hnamed hy).symm.trans q2
  cases hnamed.symm.trans q3
  have hselP : selectMethod e.platform s.vm cellB.cls mk = .method mk := by rw [Launch.admits_selectMethod X.admits]; exact q4
  obtain ⟨vm₁, X₁, hstep₁⟩ := X.invokevirtual hexec hown hlink hnamed hmethM hstM hkP hkPi hy (a := b) (cell := cellB) hcell
    (fun z h => by rw [h] at hobj; cases hobj) hselP hmethM habM hkP hkPi (g := g) hg (argsL := argsL) (rest := rest) (hlen _ hsigM) hstack hdg
  obtain ⟨v, B, X', hpost, hsteps⟩ := hK m meth c ⟨T.setVm vm₁, locs, cells, slots⟩ { g with stack := rest } (.invokevirtual index) mk (Value.ref b :: argsL).toArray X₁ hg hsize hdg hW (X₁.named hnamed) (hpre vm₁ X₁.warmed)
  exact ⟨v, vm₁, B, X₁.warmed, X', hpost, fun target h => hstep₁ _ fun acts => by rw [doInvoke_state]; exact hsteps.trans h⟩
abbrev vx_CVW (R : Room) (s : State) (args : Array Value) (own C : String) (index : Nat) (y : MethodName) (bytes : ByteArray) (maxL : Nat) (ret : Option FieldType) (hh : List (Nat × Nat × Nat × Nat)) (ws : List Cond) (rm : Room) (mc ms n : Nat) : Prop :=
  (rm.cells = mc ∧ rm.slots = ms ∧ rm.frames + 1 ≤ R.frames ∧ 8 + (maxL + 11) + rm.locals ≤ R.locals ∧ (∀ w ∈ ws, ∀ (a' : Array Value) (U : State), s.WarmedH U.vm → w.before a' U = true) ∧ Cond.codeWith y bytes maxL ret hh ∈ ws) ∧
  (Cond.codeWith y bytes maxL ret hh).before args s = true ∧ (Cond.initialized y.cls).before args s = true ∧ (y.cls ≠ "java/lang/invoke/MethodHandle" ∧ y.cls ≠ "java/lang/invoke/VarHandle") ∧
  (∀ sig, parseMethodDescriptor y.desc = some sig → n = sig.parameters.length) ∧ (Cond.methodLink own index y).before args s = true ∧ (Cond.instanceMethod y).before args s = true ∧ (Cond.selects C y y).before args s = true
theorem vx_cwVW {own C : String} {index maxL mc ms : Nat} {y : MethodName} {bytes : ByteArray} {ret : Option FieldType} {hh : List (Nat × Nat × Nat × Nat)} {Ts ws ws' : List Cond} {rm : Room} (n : Nat) (ht : ∀ w ∈ Ts, w.before args s = true) (hT : GoodIn Ts (wsV own index C y ws)) (hw : ws = Cond.codeWith y bytes maxL ret hh :: ws') (hrc : rm.cells = mc) (hrs : rm.slots = ms)
    (hd : y.cls = C ∧ y.cls ≠ "java/lang/invoke/MethodHandle" ∧ y.cls ≠ "java/lang/invoke/VarHandle" ∧ (parseMethodDescriptor y.desc).map (fun d => d.parameters.length) = some n) (hR : rm.frames + 1 ≤ R.frames ∧ 8 + (maxL + 11) + rm.locals ≤ R.locals) :
    vx_CVW R s args own C index y bytes maxL ret hh ws rm mc ms n := by
  obtain ⟨hC, hd⟩ := hd
  subst hC
  have ok : ∀ w ∈ wsV own index y.cls y ws, w.before args s = true := fun w h => ht w (hT w h).1
  have hG : GoodIn Ts ws := fun w h => hT w (by unfold wsV; exact List.mem_append_right _ h)
  have hc : Cond.codeWith y bytes maxL ret hh ∈ ws := by rw [hw]; exact List.mem_cons_self
  refine ⟨⟨hrc, hrs, hR.1, hR.2, pay_in ht hG, hc⟩, ht _ (hG _ hc).1, ok _ (by simp [wsV]), ⟨hd.1, hd.2.1⟩, fun sig h => ?_, ok _ (by simp [wsV]), ok _ (by simp [wsV]), ok _ (by simp [wsV])⟩
  have h2 := hd.2.2
  rw [h] at h2
  exact (Option.some.inj h2).symm
theorem vx_runVW {y : MethodName} {bytes cc : ByteArray} {maxL nL mc ms n index : Nat} {ret : Option FieldType} {hh : List (Nat × Nat × Nat × Nat)} {ws : List Cond} {rm : Room} {Pc : Array Value → State → Prop} {Qc : Array Value → State → Outcome → State → Prop} {free : Addr → Prop} {Ts : List Cond} {own C : String} {b : Addr} {As rest : List Value} {g : JFrame}
    (S : CallFix p m c cc nL s args Ts own) (hM : Met l y ws rm Pc Qc mc ms free) (cw : vx_CVW R s args own C index y bytes maxL ret hh ws rm mc ms n) (hp : PreV s H C b Pc As)
    (hg : g.method = m) (hn : As.length = n) (hsize : g.locals.size = nL) (hstack : g.stack = As.reverse ++ .ref b :: rest) (hW : 2 * g.monitorRoom + (rest.map fun v => v.category).sum ≤ 8) (hdg : decode cc g.pc = .ok (.invokevirtual index, 3)) (hf : cells + mc ≤ R.cells ∧ slots + ms ≤ R.slots) :
    va_Run p l e R s m args below meth c H locs cells slots mc ms g rest (Qc (Value.ref b :: As).toArray) free := by
  obtain ⟨⟨hrc, hrs, hfr, hlo, hws, hcw⟩, hcode, hini, hy, hlen, hl, hin, hse⟩ := cw
  have hK : Back l R p e below s args y 3 8 (PreOf R mc ms Pc) (PostOf Qc mc ms free) := va_backW (hh := hh) (bytes := bytes) (maxL := maxL) (ret := ret) hM hp.1 hrc hrs hfr hlo hws hcw (fun a' U hW => word_at hW (Or.inl (by first | rfl | simp [Cond.onTables, Cond.keeps, Cond.steady])) hini)
  obtain ⟨hx, hb, hml, ho, -⟩ := S
  obtain ⟨-, ⟨cellB, hcB, hoB, hclB⟩, hPc⟩ := hp
  intro T hT X
  obtain ⟨v, vm₁, ⟨U', l2, c2, s2⟩, hW₁, X', ⟨g', mk, t, L, e1, e2, hq, h1, hL, h2, h3⟩, st⟩ := vx_callVW X hx (C := C) (hh := hh) (bytes := bytes) (maxL := maxL) (ret := ret) ho hl hin hse hcode hy hK (by rw [hT]; exact hcB) hoB hclB hg (hsize.trans hml.symm) (argsL := As) (rest := rest) (fun sig h => hn.trans (hlen sig h)) hstack hW (by rw [hb]; exact hdg)
    (fun vm₁ hW₁ => ⟨hf.1, hf.2, hPc (T.setVm vm₁) hT hW₁⟩)
  dsimp only [Pt.U, Pt.locs, Pt.cells, Pt.slots] at X' e1 e2 h1 h2 h3 st
  subst h1; subst h2; subst h3
  exact ⟨v, (T.setVm vm₁).calling g' mk (Value.ref b :: As).toArray, t, U', L, hT, X', hL, e1, e2, hq, st⟩
section
variable {y : MethodName} {bytes cc : ByteArray} {maxL nL mc ms n index : Nat} {ret : Option FieldType} {ws : List Cond} {rm : Room} {Pc : Array Value → State → Prop} {Qc : Array Value → State → Outcome → State → Prop} {XC : String → State → State → Prop} {free : Addr → Prop} {Ts : List Cond} {own C : String} {b : Addr} {As rest : List Value} {g : JFrame}
theorem vx_runVX {hh : List (Nat × Nat × Nat × Nat)} (S : CallFix p m c cc nL s args Ts own) (hM : vx_Met l y ws rm Pc Qc XC mc ms free) (cw : vx_CVW R s args own C index y bytes maxL ret hh ws rm mc ms n) (hp : PreV s H C b Pc As)
    (hg : g.method = m) (hn : As.length = n) (hsize : g.locals.size = nL) (hstack : g.stack = As.reverse ++ .ref b :: rest) (hW : 2 * g.monitorRoom + (rest.map fun v => v.category).sum ≤ 8) (hdg : decode cc g.pc = .ok (.invokevirtual index, 3)) (hf : cells + mc ≤ R.cells ∧ slots + ms ≤ R.slots) :
    vx_Run p l e R s m args below meth c H locs cells slots mc ms g rest (Qc (Value.ref b :: As).toArray) XC free := by
  obtain ⟨⟨hrc, hrs, hfr, hlo, hws, hcw⟩, hcode, hini, hy, hlen, hl, hin, hse⟩ := cw
  have hK : vx_Back l R p e below s args y 3 8 (PreOf R mc ms Pc) (PostOf Qc mc ms free) (vx_Post XC mc ms free) := vx_backW (hh := hh) (bytes := bytes) (maxL := maxL) (ret := ret) hM hp.1 hrc hrs hfr hlo hws hcw (fun a' U hW => word_at hW (Or.inl (by first | rfl | simp [Cond.onTables, Cond.keeps, Cond.steady])) hini)
  obtain ⟨hx, hb, hml, ho, -⟩ := S
  obtain ⟨-, ⟨cellB, hcB, hoB, hclB⟩, hPc⟩ := hp
  intro T hT X
  rcases vx_callVX X hx (C := C) (hh := hh) (bytes := bytes) (maxL := maxL) (ret := ret) ho hl hin hse hcode hy hK (by rw [hT]; exact hcB) hoB hclB hg (hsize.trans hml.symm) (argsL := As) (rest := rest) (fun sig h => hn.trans (hlen sig h)) hstack hW (by rw [hb]; exact hdg)
    (fun vm₁ hW₁ => ⟨hf.1, hf.2, hPc (T.setVm vm₁) hT hW₁⟩) with ⟨v, vm₁, ⟨U', l2, c2, s2⟩, hW₁, X', ⟨g', mk, t, L, e1, e2, hq, h1, hL, h2, h3⟩, st⟩ | ⟨q, vm₁, ⟨U', l2, c2, s2⟩, hW₁, X', ⟨g', mk, t, L, E, ce, e1, e2, hq, hce, hcv, hcl, h1, hL, h2, h3⟩, st⟩
  · dsimp only [Pt.U, Pt.locs, Pt.cells, Pt.slots] at X' e1 e2 h1 h2 h3 st
    subst h1; subst h2; subst h3
    exact Or.inl ⟨v, (T.setVm vm₁).calling g' mk (Value.ref b :: As).toArray, t, U', L, hT, X', hL, e1, e2, hq, st⟩
  · dsimp only [Pt.U, Pt.locs, Pt.cells, Pt.slots] at X' e1 e2 h1 h2 h3 st hcl
    subst h1; subst h2; subst h3
    exact Or.inr ⟨q, (T.setVm vm₁).calling g' mk (Value.ref b :: As).toArray, t, U', L, E, ce, hT, X', hL, e1, e2, hq, hce, hcv, vx_cls hW₁ hcl, st⟩
theorem vx_runSX {hh : List (Nat × Nat × Nat × Nat)} (S : CallFix p m c cc nL s args Ts own) (hM : vx_Met l y ws rm Pc Qc XC mc ms free) (cw : vx_CSW R s args own index y bytes maxL ret hh ws rm mc ms n) (hp : PreS s H Pc As)
    (hg : g.method = m) (hn : As.length = n) (hsize : g.locals.size = nL) (hstack : g.stack = As.reverse ++ rest) (hW : 2 * g.monitorRoom + (rest.map fun v => v.category).sum ≤ 8) (hdg : decode cc g.pc = .ok (.invokestatic index, 3)) (hf : cells + mc ≤ R.cells ∧ slots + ms ≤ R.slots) :
    vx_Run p l e R s m args below meth c H locs cells slots mc ms g rest (Qc As.toArray) XC free := by
  obtain ⟨⟨hrc, hrs, hfr, hlo, hws, hcw⟩, hcode, hini, hy, hlen, hl, hstt⟩ := cw
  have hK : vx_Back l R p e below s args y 3 8 (PreOf R mc ms Pc) (PostOf Qc mc ms free) (vx_Post XC mc ms free) := vx_backW (hh := hh) (bytes := bytes) (maxL := maxL) (ret := ret) hM hp.1 hrc hrs hfr hlo hws hcw (fun a' U hW => word_at hW (Or.inl (by first | rfl | simp [Cond.onTables, Cond.keeps, Cond.steady])) hini)
  obtain ⟨hx, hb, hml, ho, -⟩ := S
  intro T hT X
  rcases vx_callSX X hx (hh := hh) (bytes := bytes) (maxL := maxL) (ret := ret) ho hl hstt hini hcode hy hK hg (hsize.trans hml.symm) (argsL := As) (rest := rest) (fun sig h => hn.trans (hlen sig h)) hstack hW (by rw [hb]; exact hdg)
    (fun vm₁ hW₁ => ⟨hf.1, hf.2, hp.2 (T.setVm vm₁) hT hW₁⟩) with ⟨v, vm₁, ⟨U', l2, c2, s2⟩, hW₁, X', ⟨g', mk, t, L, e1, e2, hq, h1, hL, h2, h3⟩, st⟩ | ⟨q, vm₁, ⟨U', l2, c2, s2⟩, hW₁, X', ⟨g', mk, t, L, E, ce, e1, e2, hq, hce, hcv, hcl, h1, hL, h2, h3⟩, st⟩
  · dsimp only [Pt.U, Pt.locs, Pt.cells, Pt.slots] at X' e1 e2 h1 h2 h3 st
    subst h1; subst h2; subst h3
    exact Or.inl ⟨v, (T.setVm vm₁).calling g' mk As.toArray, t, U', L, hT, X', hL, e1, e2, hq, st⟩
  · dsimp only [Pt.U, Pt.locs, Pt.cells, Pt.slots] at X' e1 e2 h1 h2 h3 st hcl
    subst h1; subst h2; subst h3
    exact Or.inr ⟨q, (T.setVm vm₁).calling g' mk As.toArray, t, U', L, E, ce, hT, X', hL, e1, e2, hq, hce, hcv, vx_cls hW₁ hcl, st⟩
end
end VXH
theorem vx_ofWH {l : Launch} {y : MethodName} {ws ws' : List Cond} {rm : Room} {Pc : Array Value → State → Prop} {Qc : Array Value → State → Outcome → State → Prop} {XC : String → State → State → Prop} {mc ms : Nat} {free : Addr → Prop} {cc : ByteArray} {maxL : Nat} {ret : Option FieldType} {hh : List (Nat × Nat × Nat × Nat)}
    (hy : plainName y.cls = true) (hw : ws = Cond.codeWith y cc maxL ret hh :: ws')
    (body : ∀ p e s m args below meth c s₁, BodyLoose p l y (headSpec ws rm) cc maxL ret e s m args below meth c s₁ → c.maxLocals = maxL → Pc args s →
      W p l e (headSpec ws rm).room s m args below meth c s.heap [] 0 0 (vx_MQ below Qc XC args s mc ms free) (entryFrame m args maxL)) : vx_Met l y ws rm Pc Qc XC mc ms free := by
  refine MetFree.of_bodyS (code := cc) (maxLocals := maxL) (ret := ret) hy ?_ ?_
  · intro args s m h hn
    obtain ⟨m9, meth, c, hn9, h1, h2, h3, h4, -, h5, h6, -⟩ := Cond.codeWith_spec (atoms_spec (ws := ws) h _ (by rw [hw]; exact List.mem_cons_self))
    cases hn.symm.trans hn9
    exact ⟨meth, c, h1, h2, h3, h4, h5, h6⟩
  · intro p e s m args below meth c s₁ B hml hP _
    have hh0 : s₁.heap = s.heap := by rw [B.state]; rfl
    obtain ⟨t, a1, o, b1, b2, b3⟩ := body p e s m args below meth c s₁ B hml hP s₁ hh0 (Stand.of_body B)
    exact ⟨t, o, a1, b1, b2, b3⟩
/-! ===== END ===== -/
end
section
/-! ===== BEGIN printed: names, fields, word lists, decode rows ===== -/
def RX0 : String := "FoundOffice$Asking"
def TX0 : u_T := fun k => match k with
  | 0 => ("FoundOffice$Asking", "questions", "LFoundOffice$Questions;", true)
  | 1 => ("FoundOffice$Asking", "thingRows", "LFoundOffice$Rows;", true)
  | 2 => ("FoundOffice$Asking", "distinct", "[I", true)
  | 3 => ("FoundOffice$Asking", "classes", "[I", true)
  | 4 => ("FoundOffice$Asking", "found", "[I", true)
  | _ => ("FoundOffice$Asking", "distinctCount", "I", false)
def tyX0 : Nat → FieldType := fun k => match k with
  | 0 => .object "FoundOffice$Questions"
  | 1 => .object "FoundOffice$Rows"
  | 2 => .array .int
  | 3 => .array .int
  | 4 => .array .int
  | _ => .int
abbrev wsX00 : List Cond := u_ws RX0 TX0 6
theorem nmX0 : ∀ a, a < 6 → ∀ b, b < 6 → a ≠ b → (TX0 a).2.1 ≠ (TX0 b).2.1 := by decide +kernel
theorem tyX0_ok : ∀ k, k < 6 → parseFieldDescriptor (TX0 k).2.2.1 = some (tyX0 k) := by decide +kernel
abbrev cX0_init : ByteArray := prog_2_method_1_code
def yX0_init : MethodName := ⟨RX0, "<init>", "(LFoundOffice$Questions;LFoundOffice$Rows;)V"⟩
abbrev cX0_isAlike : ByteArray := prog_2_method_2_code
def yX0_isAlike : MethodName := ⟨RX0, "isAlike", "(II)Z"⟩
abbrev cX0_countClasses : ByteArray := prog_2_method_3_code
def yX0_countClasses : MethodName := ⟨RX0, "countClasses", "(JI)I"⟩
abbrev cX0_isFirstOfClass : ByteArray := prog_2_method_4_code
def yX0_isFirstOfClass : MethodName := ⟨RX0, "isFirstOfClass", "(JII)Z"⟩
abbrev cX0_mostParting : ByteArray := prog_2_method_5_code
def yX0_mostParting : MethodName := ⟨RX0, "mostParting", "(J)I"⟩
abbrev cX0_neededFor : ByteArray := prog_2_method_6_code
def yX0_neededFor : MethodName := ⟨RX0, "neededFor", "(J)I"⟩
abbrev cX0_listDistinct : ByteArray := prog_2_method_7_code
def yX0_listDistinct : MethodName := ⟨RX0, "listDistinct", "(J)V"⟩
abbrev cX0_isListed : ByteArray := prog_2_method_8_code
def yX0_isListed : MethodName := ⟨RX0, "isListed", "(I)Z"⟩
abbrev cX0_classOf : ByteArray := prog_2_method_9_code
def yX0_classOf : MethodName := ⟨RX0, "classOf", "(II)I"⟩
abbrev cX0_search : ByteArray := prog_2_method_10_code
def yX0_search : MethodName := ⟨RX0, "search", "(II)I"⟩
abbrev cX0_neededBehind : ByteArray := prog_2_method_11_code
def yX0_neededBehind : MethodName := ⟨RX0, "neededBehind", "(IIII)I"⟩
abbrev cX0_lowerBound : ByteArray := prog_2_method_12_code
def yX0_lowerBound : MethodName := ⟨RX0, "lowerBound", "(II)I"⟩
abbrev cX0_countParts : ByteArray := prog_2_method_13_code
def yX0_countParts : MethodName := ⟨RX0, "countParts", "(II)I"⟩
def RX1 : String := "FoundOffice$Assignment"
def TX1 : u_T := fun k => match k with
  | 0 => ("FoundOffice$Assignment", "costs", "[J", true)
  | 1 => ("FoundOffice$Assignment", "gains", "[I", true)
  | 2 => ("FoundOffice$Assignment", "rowPrices", "[J", true)
  | 3 => ("FoundOffice$Assignment", "columnPrices", "[J", true)
  | 4 => ("FoundOffice$Assignment", "slacks", "[J", true)
  | 5 => ("FoundOffice$Assignment", "cameFrom", "[I", true)
  | 6 => ("FoundOffice$Assignment", "holders", "[I", true)
  | 7 => ("FoundOffice$Assignment", "reached", "[Z", true)
  | 8 => ("FoundOffice$Assignment", "rows", "I", false)
  | 9 => ("FoundOffice$Assignment", "realColumns", "I", false)
  | _ => ("FoundOffice$Assignment", "columns", "I", false)
def tyX1 : Nat → FieldType := fun k => match k with
  | 0 => .array .long
  | 1 => .array .int
  | 2 => .array .long
  | 3 => .array .long
  | 4 => .array .long
  | 5 => .array .int
  | 6 => .array .int
  | 7 => .array .boolean
  | 8 => .int
  | 9 => .int
  | _ => .int
abbrev wsX10 : List Cond := u_ws RX1 TX1 11
theorem nmX1 : ∀ a, a < 11 → ∀ b, b < 11 → a ≠ b → (TX1 a).2.1 ≠ (TX1 b).2.1 := by decide +kernel
theorem tyX1_ok : ∀ k, k < 11 → parseFieldDescriptor (TX1 k).2.2.1 = some (tyX1 k) := by decide +kernel
abbrev cX1_init : ByteArray := prog_3_method_1_code
def yX1_init : MethodName := ⟨RX1, "<init>", "()V"⟩
abbrev cX1_start : ByteArray := prog_3_method_2_code
def yX1_start : MethodName := ⟨RX1, "start", "(II)V"⟩
abbrev cX1_allow : ByteArray := prog_3_method_3_code
def yX1_allow : MethodName := ⟨RX1, "allow", "(III)V"⟩
abbrev cX1_solve : ByteArray := prog_3_method_4_code
def yX1_solve : MethodName := ⟨RX1, "solve", "()V"⟩
abbrev cX1_reachFree : ByteArray := prog_3_method_5_code
def yX1_reachFree : MethodName := ⟨RX1, "reachFree", "()I"⟩
abbrev cX1_holderOf : ByteArray := prog_3_method_6_code
def yX1_holderOf : MethodName := ⟨RX1, "holderOf", "(I)I"⟩
abbrev cX1_lookFrom : ByteArray := prog_3_method_7_code
def yX1_lookFrom : MethodName := ⟨RX1, "lookFrom", "(I)V"⟩
abbrev cX1_nearest : ByteArray := prog_3_method_8_code
def yX1_nearest : MethodName := ⟨RX1, "nearest", "()I"⟩
abbrev cX1_changePrices : ByteArray := prog_3_method_9_code
def yX1_changePrices : MethodName := ⟨RX1, "changePrices", "(J)V"⟩
abbrev cX1_passOn : ByteArray := prog_3_method_10_code
def yX1_passOn : MethodName := ⟨RX1, "passOn", "(I)V"⟩
abbrev cX1_columnOf : ByteArray := prog_3_method_11_code
def yX1_columnOf : MethodName := ⟨RX1, "columnOf", "(I)I"⟩
abbrev cX1_gainOf : ByteArray := prog_3_method_12_code
def yX1_gainOf : MethodName := ⟨RX1, "gainOf", "(I)I"⟩
def RX2 : String := "FoundOffice$Claims"
def TX2 : u_T := fun k => match k with
  | 0 => ("FoundOffice$Claims", "claimants", "[I", true)
  | 1 => ("FoundOffice$Claims", "targets", "[I", true)
  | 2 => ("FoundOffice$Claims", "states", "[I", true)
  | 3 => ("FoundOffice$Claims", "heldBack", "[Z", true)
  | 4 => ("FoundOffice$Claims", "standing", "[I", true)
  | _ => ("FoundOffice$Claims", "size", "I", false)
def tyX2 : Nat → FieldType := fun k => match k with
  | 0 => .array .int
  | 1 => .array .int
  | 2 => .array .int
  | 3 => .array .boolean
  | 4 => .array .int
  | _ => .int
abbrev wsX20 : List Cond := u_ws RX2 TX2 6
theorem nmX2 : ∀ a, a < 6 → ∀ b, b < 6 → a ≠ b → (TX2 a).2.1 ≠ (TX2 b).2.1 := by decide +kernel
theorem tyX2_ok : ∀ k, k < 6 → parseFieldDescriptor (TX2 k).2.2.1 = some (tyX2 k) := by decide +kernel
abbrev cX2_init : ByteArray := prog_4_method_1_code
def yX2_init : MethodName := ⟨RX2, "<init>", "()V"⟩
abbrev cX2_size : ByteArray := prog_4_method_2_code
def yX2_size : MethodName := ⟨RX2, "size", "()I"⟩
abbrev cX2_has : ByteArray := prog_4_method_3_code
def yX2_has : MethodName := ⟨RX2, "has", "(I)Z"⟩
abbrev cX2_isFull : ByteArray := prog_4_method_4_code
def yX2_isFull : MethodName := ⟨RX2, "isFull", "()Z"⟩
abbrev cX2_isStanding : ByteArray := prog_4_method_5_code
def yX2_isStanding : MethodName := ⟨RX2, "isStanding", "(I)Z"⟩
abbrev cX2_stateOf : ByteArray := prog_4_method_6_code
def yX2_stateOf : MethodName := ⟨RX2, "stateOf", "(I)I"⟩
abbrev cX2_reportOf : ByteArray := prog_4_method_7_code
def yX2_reportOf : MethodName := ⟨RX2, "reportOf", "(I)I"⟩
abbrev cX2_thingOf : ByteArray := prog_4_method_8_code
def yX2_thingOf : MethodName := ⟨RX2, "thingOf", "(I)I"⟩
abbrev cX2_standingOn : ByteArray := prog_4_method_9_code
def yX2_standingOn : MethodName := ⟨RX2, "standingOn", "(I)I"⟩
abbrev cX2_isTarget : ByteArray := prog_4_method_10_code
def yX2_isTarget : MethodName := ⟨RX2, "isTarget", "(I)Z"⟩
abbrev cX2_standingCount : ByteArray := prog_4_method_11_code
def yX2_standingCount : MethodName := ⟨RX2, "standingCount", "()I"⟩
abbrev cX2_add : ByteArray := prog_4_method_12_code
def yX2_add : MethodName := ⟨RX2, "add", "(II)I"⟩
abbrev cX2_isClaimedBy : ByteArray := prog_4_method_13_code
def yX2_isClaimedBy : MethodName := ⟨RX2, "isClaimedBy", "(II)Z"⟩
abbrev cX2_isProvedAhead : ByteArray := prog_4_method_14_code
def yX2_isProvedAhead : MethodName := ⟨RX2, "isProvedAhead", "(II)Z"⟩
abbrev cX2_isFirstAsked : ByteArray := prog_4_method_15_code
def yX2_isFirstAsked : MethodName := ⟨RX2, "isFirstAsked", "(I)Z"⟩
abbrev cX2_setProved : ByteArray := prog_4_method_16_code
def yX2_setProved : MethodName := ⟨RX2, "setProved", "(I)V"⟩
abbrev cX2_finish : ByteArray := prog_4_method_17_code
def yX2_finish : MethodName := ⟨RX2, "finish", "(II)V"⟩
abbrev cX2_finishAllOf : ByteArray := prog_4_method_18_code
def yX2_finishAllOf : MethodName := ⟨RX2, "finishAllOf", "(II)V"⟩
abbrev cX2_finishAllOn : ByteArray := prog_4_method_19_code
def yX2_finishAllOn : MethodName := ⟨RX2, "finishAllOn", "(II)V"⟩
def RX3 : String := "FoundOffice$Group"
def TX3 : u_T := fun k => match k with
  | 0 => ("FoundOffice$Group", "match", "LFoundOffice$Match;", true)
  | 1 => ("FoundOffice$Group", "reports", "LFoundOffice$Reports;", true)
  | 2 => ("FoundOffice$Group", "assignment", "LFoundOffice$Assignment;", true)
  | 3 => ("FoundOffice$Group", "fitSets", "[J", true)
  | 4 => ("FoundOffice$Group", "members", "[I", true)
  | 5 => ("FoundOffice$Group", "goods", "[I", true)
  | 6 => ("FoundOffice$Group", "reportCount", "I", false)
  | _ => ("FoundOffice$Group", "thingCount", "I", false)
def tyX3 : Nat → FieldType := fun k => match k with
  | 0 => .object "FoundOffice$Match"
  | 1 => .object "FoundOffice$Reports"
  | 2 => .object "FoundOffice$Assignment"
  | 3 => .array .long
  | 4 => .array .int
  | 5 => .array .int
  | 6 => .int
  | _ => .int
abbrev wsX30 : List Cond := u_ws RX3 TX3 8
theorem nmX3 : ∀ a, a < 8 → ∀ b, b < 8 → a ≠ b → (TX3 a).2.1 ≠ (TX3 b).2.1 := by decide +kernel
theorem tyX3_ok : ∀ k, k < 8 → parseFieldDescriptor (TX3 k).2.2.1 = some (tyX3 k) := by decide +kernel
abbrev cX3_init : ByteArray := prog_5_method_1_code
def yX3_init : MethodName := ⟨RX3, "<init>", "(LFoundOffice$Match;LFoundOffice$Reports;)V"⟩
abbrev cX3_reportCount : ByteArray := prog_5_method_2_code
def yX3_reportCount : MethodName := ⟨RX3, "reportCount", "()I"⟩
abbrev cX3_thingCount : ByteArray := prog_5_method_3_code
def yX3_thingCount : MethodName := ⟨RX3, "thingCount", "()I"⟩
abbrev cX3_isTooLarge : ByteArray := prog_5_method_4_code
def yX3_isTooLarge : MethodName := ⟨RX3, "isTooLarge", "()Z"⟩
abbrev cX3_gather : ByteArray := prog_5_method_5_code
def yX3_gather : MethodName := ⟨RX3, "gather", "(I)V"⟩
abbrev cX3_hangTogether : ByteArray := prog_5_method_6_code
def yX3_hangTogether : MethodName := ⟨RX3, "hangTogether", "(I)J"⟩
abbrev cX3_listMembers : ByteArray := prog_5_method_7_code
def yX3_listMembers : MethodName := ⟨RX3, "listMembers", "(J)V"⟩
abbrev cX3_findBestWay : ByteArray := prog_5_method_8_code
def yX3_findBestWay : MethodName := ⟨RX3, "findBestWay", "()V"⟩
abbrev cX3_strengthSum : ByteArray := prog_5_method_9_code
def yX3_strengthSum : MethodName := ⟨RX3, "strengthSum", "()I"⟩
abbrev cX3_givenTo : ByteArray := prog_5_method_10_code
def yX3_givenTo : MethodName := ⟨RX3, "givenTo", "(I)I"⟩
def RX4 : String := "FoundOffice$Match"
def TX4 : u_T := fun k => match k with
  | 0 => ("FoundOffice$Match", "questions", "LFoundOffice$Questions;", true)
  | 1 => ("FoundOffice$Match", "reportRows", "LFoundOffice$Rows;", true)
  | 2 => ("FoundOffice$Match", "thingRows", "LFoundOffice$Rows;", true)
  | 3 => ("FoundOffice$Match", "things", "LFoundOffice$Things;", true)
  | _ => ("FoundOffice$Match", "worths", "[I", true)
def tyX4 : Nat → FieldType := fun k => match k with
  | 0 => .object "FoundOffice$Questions"
  | 1 => .object "FoundOffice$Rows"
  | 2 => .object "FoundOffice$Rows"
  | 3 => .object "FoundOffice$Things"
  | _ => .array .int
abbrev wsX40 : List Cond := u_ws RX4 TX4 5
theorem nmX4 : ∀ a, a < 5 → ∀ b, b < 5 → a ≠ b → (TX4 a).2.1 ≠ (TX4 b).2.1 := by decide +kernel
theorem tyX4_ok : ∀ k, k < 5 → parseFieldDescriptor (TX4 k).2.2.1 = some (tyX4 k) := by decide +kernel
abbrev cX4_init : ByteArray := prog_6_method_1_code
def yX4_init : MethodName := ⟨RX4, "<init>", "(LFoundOffice$Questions;LFoundOffice$Rows;LFoundOffice$Rows;LFoundOffice$Things;)V"⟩
abbrev cX4_firstClash : ByteArray := prog_6_method_2_code
def yX4_firstClash : MethodName := ⟨RX4, "firstClash", "(II)I"⟩
abbrev cX4_isFit : ByteArray := prog_6_method_3_code
def yX4_isFit : MethodName := ⟨RX4, "isFit", "(II)Z"⟩
abbrev cX4_fitSet : ByteArray := prog_6_method_4_code
def yX4_fitSet : MethodName := ⟨RX4, "fitSet", "(I)J"⟩
abbrev cX4_weigh : ByteArray := prog_6_method_5_code
def yX4_weigh : MethodName := ⟨RX4, "weigh", "(I)V"⟩
abbrev cX4_countHolders : ByteArray := prog_6_method_6_code
def yX4_countHolders : MethodName := ⟨RX4, "countHolders", "(III)I"⟩
abbrev cX4_addWorths : ByteArray := prog_6_method_7_code
def yX4_addWorths : MethodName := ⟨RX4, "addWorths", "(I)I"⟩
abbrev cX4_strengthOf : ByteArray := prog_6_method_8_code
def yX4_strengthOf : MethodName := ⟨RX4, "strengthOf", "(II)I"⟩
abbrev cX4_countAsStrong : ByteArray := prog_6_method_9_code
def yX4_countAsStrong : MethodName := ⟨RX4, "countAsStrong", "(II)I"⟩
def RX5 : String := "FoundOffice$Questions"
def TX5 : u_T := fun k => match k with
  | 0 => ("FoundOffice$Questions", "sorts", "[I", true)
  | 1 => ("FoundOffice$Questions", "numbers", "[I", true)
  | 2 => ("FoundOffice$Questions", "weights", "[I", true)
  | 3 => ("FoundOffice$Questions", "toldAlike", "[J", true)
  | _ => ("FoundOffice$Questions", "size", "I", false)
def tyX5 : Nat → FieldType := fun k => match k with
  | 0 => .array .int
  | 1 => .array .int
  | 2 => .array .int
  | 3 => .array .long
  | _ => .int
abbrev wsX50 : List Cond := u_ws RX5 TX5 5
theorem nmX5 : ∀ a, a < 5 → ∀ b, b < 5 → a ≠ b → (TX5 a).2.1 ≠ (TX5 b).2.1 := by decide +kernel
theorem tyX5_ok : ∀ k, k < 5 → parseFieldDescriptor (TX5 k).2.2.1 = some (tyX5 k) := by decide +kernel
abbrev cX5_init : ByteArray := prog_7_method_1_code
def yX5_init : MethodName := ⟨RX5, "<init>", "()V"⟩
abbrev cX5_size : ByteArray := prog_7_method_2_code
def yX5_size : MethodName := ⟨RX5, "size", "()I"⟩
abbrev cX5_has : ByteArray := prog_7_method_3_code
def yX5_has : MethodName := ⟨RX5, "has", "(I)Z"⟩
abbrev cX5_weightOf : ByteArray := prog_7_method_4_code
def yX5_weightOf : MethodName := ⟨RX5, "weightOf", "(I)I"⟩
abbrev cX5_add : ByteArray := prog_7_method_5_code
def yX5_add : MethodName := ⟨RX5, "add", "(III)I"⟩
abbrev cX5_isNumberOf : ByteArray := prog_7_method_6_code
def yX5_isNumberOf : MethodName := ⟨RX5, "isNumberOf", "(II)Z"⟩
abbrev cX5_isAnswer : ByteArray := prog_7_method_7_code
def yX5_isAnswer : MethodName := ⟨RX5, "isAnswer", "(II)Z"⟩
abbrev cX5_tellOfTable : ByteArray := prog_7_method_8_code
def yX5_tellOfTable : MethodName := ⟨RX5, "tellOfTable", "(IIIZ)Z"⟩
abbrev cX5_tellOneWay : ByteArray := prog_7_method_9_code
def yX5_tellOneWay : MethodName := ⟨RX5, "tellOneWay", "(IIZ)V"⟩
abbrev cX5_agree : ByteArray := prog_7_method_10_code
def yX5_agree : MethodName := ⟨RX5, "agree", "(III)Z"⟩
def RX6 : String := "FoundOffice$Reports"
def TX6 : u_T := fun k => match k with
  | 0 => ("FoundOffice$Reports", "persons", "[I", true)
  | 1 => ("FoundOffice$Reports", "open", "[Z", true)
  | _ => ("FoundOffice$Reports", "size", "I", false)
def tyX6 : Nat → FieldType := fun k => match k with
  | 0 => .array .int
  | 1 => .array .boolean
  | _ => .int
abbrev wsX60 : List Cond := u_ws RX6 TX6 3
theorem nmX6 : ∀ a, a < 3 → ∀ b, b < 3 → a ≠ b → (TX6 a).2.1 ≠ (TX6 b).2.1 := by decide +kernel
theorem tyX6_ok : ∀ k, k < 3 → parseFieldDescriptor (TX6 k).2.2.1 = some (tyX6 k) := by decide +kernel
abbrev cX6_init : ByteArray := prog_8_method_1_code
def yX6_init : MethodName := ⟨RX6, "<init>", "()V"⟩
abbrev cX6_size : ByteArray := prog_8_method_2_code
def yX6_size : MethodName := ⟨RX6, "size", "()I"⟩
abbrev cX6_has : ByteArray := prog_8_method_3_code
def yX6_has : MethodName := ⟨RX6, "has", "(I)Z"⟩
abbrev cX6_isOpen : ByteArray := prog_8_method_4_code
def yX6_isOpen : MethodName := ⟨RX6, "isOpen", "(I)Z"⟩
abbrev cX6_personOf : ByteArray := prog_8_method_5_code
def yX6_personOf : MethodName := ⟨RX6, "personOf", "(I)I"⟩
abbrev cX6_add : ByteArray := prog_8_method_6_code
def yX6_add : MethodName := ⟨RX6, "add", "(I)I"⟩
abbrev cX6_shut : ByteArray := prog_8_method_7_code
def yX6_shut : MethodName := ⟨RX6, "shut", "(I)V"⟩
abbrev cX6_openCount : ByteArray := prog_8_method_8_code
def yX6_openCount : MethodName := ⟨RX6, "openCount", "()I"⟩
def RX7 : String := "FoundOffice$Rows"
def TX7 : u_T := fun k => match k with
  | 0 => ("FoundOffice$Rows", "lengths", "[I", true)
  | _ => ("FoundOffice$Rows", "answers", "[I", true)
def tyX7 : Nat → FieldType := fun k => match k with
  | 0 => .array .int
  | _ => .array .int
abbrev wsX70 : List Cond := u_ws RX7 TX7 2
theorem nmX7 : ∀ a, a < 2 → ∀ b, b < 2 → a ≠ b → (TX7 a).2.1 ≠ (TX7 b).2.1 := by decide +kernel
theorem tyX7_ok : ∀ k, k < 2 → parseFieldDescriptor (TX7 k).2.2.1 = some (tyX7 k) := by decide +kernel
abbrev cX7_init : ByteArray := prog_9_method_1_code
def yX7_init : MethodName := ⟨RX7, "<init>", "()V"⟩
abbrev cX7_isRow : ByteArray := prog_9_method_2_code
def yX7_isRow : MethodName := ⟨RX7, "isRow", "(I)Z"⟩
abbrev cX7_lengthOf : ByteArray := prog_9_method_3_code
def yX7_lengthOf : MethodName := ⟨RX7, "lengthOf", "(I)I"⟩
abbrev cX7_answerOf : ByteArray := prog_9_method_4_code
def yX7_answerOf : MethodName := ⟨RX7, "answerOf", "(II)I"⟩
abbrev cX7_put : ByteArray := prog_9_method_5_code
def yX7_put : MethodName := ⟨RX7, "put", "(III)V"⟩
abbrev cX7_cut : ByteArray := prog_9_method_6_code
def yX7_cut : MethodName := ⟨RX7, "cut", "(II)Z"⟩
def RX8 : String := "FoundOffice$Things"
def TX8 : u_T := fun k => match k with
  | 0 => ("FoundOffice$Things", "kinds", "[I", true)
  | 1 => ("FoundOffice$Things", "finders", "[I", true)
  | 2 => ("FoundOffice$Things", "wanted", "[Z", true)
  | 3 => ("FoundOffice$Things", "bags", "[I", true)
  | 4 => ("FoundOffice$Things", "ages", "[I", true)
  | 5 => ("FoundOffice$Things", "takers", "[I", true)
  | 6 => ("FoundOffice$Things", "outDays", "[I", true)
  | 7 => ("FoundOffice$Things", "whys", "[I", true)
  | 8 => ("FoundOffice$Things", "wentOut", "[I", true)
  | 9 => ("FoundOffice$Things", "size", "I", false)
  | _ => ("FoundOffice$Things", "outCount", "I", false)
def tyX8 : Nat → FieldType := fun k => match k with
  | 0 => .array .int
  | 1 => .array .int
  | 2 => .array .boolean
  | 3 => .array .int
  | 4 => .array .int
  | 5 => .array .int
  | 6 => .array .int
  | 7 => .array .int
  | 8 => .array .int
  | 9 => .int
  | _ => .int
abbrev wsX80 : List Cond := u_ws RX8 TX8 11
theorem nmX8 : ∀ a, a < 11 → ∀ b, b < 11 → a ≠ b → (TX8 a).2.1 ≠ (TX8 b).2.1 := by decide +kernel
theorem tyX8_ok : ∀ k, k < 11 → parseFieldDescriptor (TX8 k).2.2.1 = some (tyX8 k) := by decide +kernel
abbrev cX8_init : ByteArray := prog_10_method_1_code
def yX8_init : MethodName := ⟨RX8, "<init>", "()V"⟩
abbrev cX8_size : ByteArray := prog_10_method_2_code
def yX8_size : MethodName := ⟨RX8, "size", "()I"⟩
abbrev cX8_has : ByteArray := prog_10_method_3_code
def yX8_has : MethodName := ⟨RX8, "has", "(I)Z"⟩
abbrev cX8_isHere : ByteArray := prog_10_method_4_code
def yX8_isHere : MethodName := ⟨RX8, "isHere", "(I)Z"⟩
abbrev cX8_isBagHere : ByteArray := prog_10_method_5_code
def yX8_isBagHere : MethodName := ⟨RX8, "isBagHere", "(I)Z"⟩
abbrev cX8_add : ByteArray := prog_10_method_6_code
def yX8_add : MethodName := ⟨RX8, "add", "(IIZI)I"⟩
abbrev cX8_whereOf : ByteArray := prog_10_method_7_code
def yX8_whereOf : MethodName := ⟨RX8, "whereOf", "(I)I"⟩
abbrev cX8_kindOf : ByteArray := prog_10_method_8_code
def yX8_kindOf : MethodName := ⟨RX8, "kindOf", "(I)I"⟩
abbrev cX8_finderOf : ByteArray := prog_10_method_9_code
def yX8_finderOf : MethodName := ⟨RX8, "finderOf", "(I)I"⟩
abbrev cX8_isWantedByFinder : ByteArray := prog_10_method_10_code
def yX8_isWantedByFinder : MethodName := ⟨RX8, "isWantedByFinder", "(I)Z"⟩
abbrev cX8_bagOf : ByteArray := prog_10_method_11_code
def yX8_bagOf : MethodName := ⟨RX8, "bagOf", "(I)I"⟩
abbrev cX8_ageOf : ByteArray := prog_10_method_12_code
def yX8_ageOf : MethodName := ⟨RX8, "ageOf", "(I)I"⟩
abbrev cX8_takerOf : ByteArray := prog_10_method_13_code
def yX8_takerOf : MethodName := ⟨RX8, "takerOf", "(I)I"⟩
abbrev cX8_outDayOf : ByteArray := prog_10_method_14_code
def yX8_outDayOf : MethodName := ⟨RX8, "outDayOf", "(I)I"⟩
abbrev cX8_whyOf : ByteArray := prog_10_method_15_code
def yX8_whyOf : MethodName := ⟨RX8, "whyOf", "(I)I"⟩
abbrev cX8_growOlder : ByteArray := prog_10_method_16_code
def yX8_growOlder : MethodName := ⟨RX8, "growOlder", "(I)I"⟩
abbrev cX8_moveTo : ByteArray := prog_10_method_17_code
def yX8_moveTo : MethodName := ⟨RX8, "moveTo", "(II)V"⟩
abbrev cX8_holds : ByteArray := prog_10_method_18_code
def yX8_holds : MethodName := ⟨RX8, "holds", "(II)Z"⟩
abbrev cX8_nextInside : ByteArray := prog_10_method_19_code
def yX8_nextInside : MethodName := ⟨RX8, "nextInside", "(II)I"⟩
abbrev cX8_countInside : ByteArray := prog_10_method_20_code
def yX8_countInside : MethodName := ⟨RX8, "countInside", "(I)I"⟩
abbrev cX8_leave : ByteArray := prog_10_method_21_code
def yX8_leave : MethodName := ⟨RX8, "leave", "(IIII)V"⟩
abbrev cX8_goneCount : ByteArray := prog_10_method_22_code
def yX8_goneCount : MethodName := ⟨RX8, "goneCount", "()I"⟩
abbrev cX8_goneAt : ByteArray := prog_10_method_23_code
def yX8_goneAt : MethodName := ⟨RX8, "goneAt", "(I)I"⟩
abbrev cX8_countPlaced : ByteArray := prog_10_method_24_code
def yX8_countPlaced : MethodName := ⟨RX8, "countPlaced", "(I)I"⟩
abbrev cX8_countWhy : ByteArray := prog_10_method_25_code
def yX8_countWhy : MethodName := ⟨RX8, "countWhy", "(I)I"⟩
def RX9 : String := "FoundOffice"
def TX9 : u_T := fun k => match k with
  | 0 => ("FoundOffice", "questions", "LFoundOffice$Questions;", true)
  | 1 => ("FoundOffice", "reportRows", "LFoundOffice$Rows;", true)
  | 2 => ("FoundOffice", "thingRows", "LFoundOffice$Rows;", true)
  | 3 => ("FoundOffice", "reports", "LFoundOffice$Reports;", true)
  | 4 => ("FoundOffice", "things", "LFoundOffice$Things;", true)
  | 5 => ("FoundOffice", "claims", "LFoundOffice$Claims;", true)
  | 6 => ("FoundOffice", "match", "LFoundOffice$Match;", true)
  | 7 => ("FoundOffice", "groups", "LFoundOffice$Group;", true)
  | 8 => ("FoundOffice", "asking", "LFoundOffice$Asking;", true)
  | 9 => ("FoundOffice", "kindDays", "[I", true)
  | 10 => ("FoundOffice", "openedBags", "[I", true)
  | 11 => ("FoundOffice", "openedAt", "[I", true)
  | _ => ("FoundOffice", "today", "I", false)
def tyX9 : Nat → FieldType := fun k => match k with
  | 0 => .object "FoundOffice$Questions"
  | 1 => .object "FoundOffice$Rows"
  | 2 => .object "FoundOffice$Rows"
  | 3 => .object "FoundOffice$Reports"
  | 4 => .object "FoundOffice$Things"
  | 5 => .object "FoundOffice$Claims"
  | 6 => .object "FoundOffice$Match"
  | 7 => .object "FoundOffice$Group"
  | 8 => .object "FoundOffice$Asking"
  | 9 => .array .int
  | 10 => .array .int
  | 11 => .array .int
  | _ => .int
abbrev wsX90 : List Cond := u_ws RX9 TX9 13
theorem nmX9 : ∀ a, a < 13 → ∀ b, b < 13 → a ≠ b → (TX9 a).2.1 ≠ (TX9 b).2.1 := by decide +kernel
theorem tyX9_ok : ∀ k, k < 13 → parseFieldDescriptor (TX9 k).2.2.1 = some (tyX9 k) := by decide +kernel
abbrev cX9_init : ByteArray := prog_1_method_1_code
def yX9_init : MethodName := ⟨RX9, "<init>", "()V"⟩
abbrev cX9_question : ByteArray := prog_1_method_2_code
def yX9_question : MethodName := ⟨RX9, "question", "(III)I"⟩
abbrev cX9_may : ByteArray := prog_1_method_3_code
def yX9_may : MethodName := ⟨RX9, "may", "(IIIZ)Z"⟩
abbrev cX9_mays : ByteArray := prog_1_method_4_code
def yX9_mays : MethodName := ⟨RX9, "mays", "(III)I"⟩
abbrev cX9_thing : ByteArray := prog_1_method_5_code
def yX9_thing : MethodName := ⟨RX9, "thing", "(IIZI)I"⟩
abbrev cX9_report : ByteArray := prog_1_method_6_code
def yX9_report : MethodName := ⟨RX9, "report", "(I)I"⟩
abbrev cX9_mark : ByteArray := prog_1_method_7_code
def yX9_mark : MethodName := ⟨RX9, "mark", "(ZIII)Z"⟩
abbrev cX9_tear : ByteArray := prog_1_method_8_code
def yX9_tear : MethodName := ⟨RX9, "tear", "(ZII)Z"⟩
abbrev cX9_known : ByteArray := prog_1_method_9_code
def yX9_known : MethodName := ⟨RX9, "known", "(ZII)I"⟩
abbrev cX9_length : ByteArray := prog_1_method_10_code
def yX9_length : MethodName := ⟨RX9, "length", "(ZI)I"⟩
abbrev cX9_isThere : ByteArray := prog_1_method_11_code
def yX9_isThere : MethodName := ⟨RX9, "isThere", "(ZI)Z"⟩
abbrev cX9_rowsOf : ByteArray := prog_1_method_12_code
def yX9_rowsOf : MethodName := ⟨RX9, "rowsOf", "(Z)LFoundOffice$Rows;"⟩
abbrev cX9_fits : ByteArray := prog_1_method_13_code
def yX9_fits : MethodName := ⟨RX9, "fits", "(II)I"⟩
abbrev cX9_tells : ByteArray := prog_1_method_14_code
def yX9_tells : MethodName := ⟨RX9, "tells", "(II)I"⟩
abbrev cX9_strength : ByteArray := prog_1_method_15_code
def yX9_strength : MethodName := ⟨RX9, "strength", "(II)I"⟩
abbrev cX9_arePair : ByteArray := prog_1_method_16_code
def yX9_arePair : MethodName := ⟨RX9, "arePair", "(II)Z"⟩
abbrev cX9_fitting : ByteArray := prog_1_method_17_code
def yX9_fitting : MethodName := ⟨RX9, "fitting", "(I)I"⟩
abbrev cX9_fit : ByteArray := prog_1_method_18_code
def yX9_fit : MethodName := ⟨RX9, "fit", "(II)I"⟩
abbrev cX9_isIn : ByteArray := prog_1_method_19_code
def yX9_isIn : MethodName := ⟨RX9, "isIn", "(JI)Z"⟩
abbrev cX9_best : ByteArray := prog_1_method_20_code
def yX9_best : MethodName := ⟨RX9, "best", "(I)I"⟩
abbrev cX9_sum : ByteArray := prog_1_method_21_code
def yX9_sum : MethodName := ⟨RX9, "sum", "(I)I"⟩
abbrev cX9_also : ByteArray := prog_1_method_22_code
def yX9_also : MethodName := ⟨RX9, "also", "(I)I"⟩
abbrev cX9_matchGroup : ByteArray := prog_1_method_23_code
def yX9_matchGroup : MethodName := ⟨RX9, "matchGroup", "(I)I"⟩
abbrev cX9_group : ByteArray := prog_1_method_24_code
def yX9_group : MethodName := ⟨RX9, "group", "(II)I"⟩
abbrev cX9_like : ByteArray := prog_1_method_25_code
def yX9_like : MethodName := ⟨RX9, "like", "(II)I"⟩
abbrev cX9_parts : ByteArray := prog_1_method_26_code
def yX9_parts : MethodName := ⟨RX9, "parts", "(II)I"⟩
abbrev cX9_ask : ByteArray := prog_1_method_27_code
def yX9_ask : MethodName := ⟨RX9, "ask", "(I)I"⟩
abbrev cX9_fewest : ByteArray := prog_1_method_28_code
def yX9_fewest : MethodName := ⟨RX9, "fewest", "(I)I"⟩
abbrev cX9_claim : ByteArray := prog_1_method_29_code
def yX9_claim : MethodName := ⟨RX9, "claim", "(II)I"⟩
abbrev cX9_prove : ByteArray := prog_1_method_30_code
def yX9_prove : MethodName := ⟨RX9, "prove", "(III)I"⟩
abbrev cX9_give : ByteArray := prog_1_method_31_code
def yX9_give : MethodName := ⟨RX9, "give", "(I)I"⟩
abbrev cX9_withdraw : ByteArray := prog_1_method_32_code
def yX9_withdraw : MethodName := ⟨RX9, "withdraw", "(I)Z"⟩
abbrev cX9_close : ByteArray := prog_1_method_33_code
def yX9_close : MethodName := ⟨RX9, "close", "(I)Z"⟩
abbrev cX9_shut : ByteArray := prog_1_method_34_code
def yX9_shut : MethodName := ⟨RX9, "shut", "(I)V"⟩
abbrev cX9_claimed : ByteArray := prog_1_method_35_code
def yX9_claimed : MethodName := ⟨RX9, "claimed", "(II)I"⟩
abbrev cX9_into : ByteArray := prog_1_method_36_code
def yX9_into : MethodName := ⟨RX9, "into", "(II)Z"⟩
abbrev cX9_place : ByteArray := prog_1_method_37_code
def yX9_place : MethodName := ⟨RX9, "place", "(II)I"⟩
abbrev cX9_days : ByteArray := prog_1_method_38_code
def yX9_days : MethodName := ⟨RX9, "days", "(II)Z"⟩
abbrev cX9_day : ByteArray := prog_1_method_39_code
def yX9_day : MethodName := ⟨RX9, "day", "(I)I"⟩
abbrev cX9_passDay : ByteArray := prog_1_method_40_code
def yX9_passDay : MethodName := ⟨RX9, "passDay", "()V"⟩
abbrev cX9_ripen : ByteArray := prog_1_method_41_code
def yX9_ripen : MethodName := ⟨RX9, "ripen", "(I)V"⟩
abbrev cX9_sendWithContents : ByteArray := prog_1_method_42_code
def yX9_sendWithContents : MethodName := ⟨RX9, "sendWithContents", "(III)V"⟩
abbrev cX9_sendOut : ByteArray := prog_1_method_43_code
def yX9_sendOut : MethodName := ⟨RX9, "sendOut", "(III)V"⟩
abbrev cX9_count : ByteArray := prog_1_method_44_code
def yX9_count : MethodName := ⟨RX9, "count", "(I)I"⟩
abbrev cX9_gone : ByteArray := prog_1_method_45_code
def yX9_gone : MethodName := ⟨RX9, "gone", "(I)I"⟩
def RX10 : String := "FoundOfficeModel"
def TX10 : u_T := fun k => match k with
  | 0 => ("FoundOfficeModel", "thrown", "I", false)
  | 1 => ("FoundOfficeModel", "questions", "I", false)
  | 2 => ("FoundOfficeModel", "sort", "[I", true)
  | 3 => ("FoundOfficeModel", "size", "[I", true)
  | 4 => ("FoundOfficeModel", "weight", "[I", true)
  | 5 => ("FoundOfficeModel", "told", "[Z", true)
  | 6 => ("FoundOfficeModel", "answer", "[I", true)
  | 7 => ("FoundOfficeModel", "length", "[I", true)
  | 8 => ("FoundOfficeModel", "things", "I", false)
  | 9 => ("FoundOfficeModel", "reports", "I", false)
  | 10 => ("FoundOfficeModel", "kind", "[I", true)
  | 11 => ("FoundOfficeModel", "finder", "[I", true)
  | 12 => ("FoundOfficeModel", "wants", "[Z", true)
  | 13 => ("FoundOfficeModel", "state", "[I", true)
  | 14 => ("FoundOfficeModel", "bagOf", "[I", true)
  | 15 => ("FoundOfficeModel", "age", "[I", true)
  | 16 => ("FoundOfficeModel", "outTo", "[I", true)
  | 17 => ("FoundOfficeModel", "outDay", "[I", true)
  | 18 => ("FoundOfficeModel", "outWhy", "[I", true)
  | 19 => ("FoundOfficeModel", "person", "[I", true)
  | 20 => ("FoundOfficeModel", "isClosed", "[Z", true)
  | 21 => ("FoundOfficeModel", "limit", "[I", true)
  | 22 => ("FoundOfficeModel", "today", "I", false)
  | 23 => ("FoundOfficeModel", "reportIn", "[Z", true)
  | 24 => ("FoundOfficeModel", "thingIn", "[Z", true)
  | 25 => ("FoundOfficeModel", "groupReport", "[I", true)
  | 26 => ("FoundOfficeModel", "groupThing", "[I", true)
  | 27 => ("FoundOfficeModel", "groupReports", "I", false)
  | 28 => ("FoundOfficeModel", "groupThings", "I", false)
  | 29 => ("FoundOfficeModel", "score", "[J", true)
  | 30 => ("FoundOfficeModel", "chosen", "[I", true)
  | 31 => ("FoundOfficeModel", "bestSum", "I", false)
  | 32 => ("FoundOfficeModel", "fitted", "[I", true)
  | 33 => ("FoundOfficeModel", "fittedMany", "I", false)
  | 34 => ("FoundOfficeModel", "needed", "[I", true)
  | 35 => ("FoundOfficeModel", "claims", "I", false)
  | 36 => ("FoundOfficeModel", "claimReport", "[I", true)
  | 37 => ("FoundOfficeModel", "claimThing", "[I", true)
  | 38 => ("FoundOfficeModel", "claimState", "[I", true)
  | 39 => ("FoundOfficeModel", "cameSoFar", "[Z", true)
  | 40 => ("FoundOfficeModel", "goneAt", "[I", false)
  | _ => ("FoundOfficeModel", "goneMany", "I", false)
def tyX10 : Nat → FieldType := fun k => match k with
  | 0 => .int
  | 1 => .int
  | 2 => .array .int
  | 3 => .array .int
  | 4 => .array .int
  | 5 => .array .boolean
  | 6 => .array .int
  | 7 => .array .int
  | 8 => .int
  | 9 => .int
  | 10 => .array .int
  | 11 => .array .int
  | 12 => .array .boolean
  | 13 => .array .int
  | 14 => .array .int
  | 15 => .array .int
  | 16 => .array .int
  | 17 => .array .int
  | 18 => .array .int
  | 19 => .array .int
  | 20 => .array .boolean
  | 21 => .array .int
  | 22 => .int
  | 23 => .array .boolean
  | 24 => .array .boolean
  | 25 => .array .int
  | 26 => .array .int
  | 27 => .int
  | 28 => .int
  | 29 => .array .long
  | 30 => .array .int
  | 31 => .int
  | 32 => .array .int
  | 33 => .int
  | 34 => .array .int
  | 35 => .int
  | 36 => .array .int
  | 37 => .array .int
  | 38 => .array .int
  | 39 => .array .boolean
  | 40 => .array .int
  | _ => .int
abbrev wsX100 : List Cond := u_ws RX10 TX10 42
theorem nmX10 : ∀ a, a < 42 → ∀ b, b < 42 → a ≠ b → (TX10 a).2.1 ≠ (TX10 b).2.1 := by decide +kernel
theorem tyX10_ok : ∀ k, k < 42 → parseFieldDescriptor (TX10 k).2.2.1 = some (tyX10 k) := by decide +kernel
abbrev cX10_init : ByteArray := prog_12_method_1_code
def yX10_init : MethodName := ⟨RX10, "<init>", "()V"⟩
abbrev cX10_thrown : ByteArray := prog_12_method_2_code
def yX10_thrown : MethodName := ⟨RX10, "thrown", "()I"⟩
abbrev cX10_in : ByteArray := prog_12_method_3_code
def yX10_in : MethodName := ⟨RX10, "in", "(III)Z"⟩
abbrev cX10_question : ByteArray := prog_12_method_4_code
def yX10_question : MethodName := ⟨RX10, "question", "(III)I"⟩
abbrev cX10_isQuestion : ByteArray := prog_12_method_5_code
def yX10_isQuestion : MethodName := ⟨RX10, "isQuestion", "(I)Z"⟩
abbrev cX10_isAnswer : ByteArray := prog_12_method_6_code
def yX10_isAnswer : MethodName := ⟨RX10, "isAnswer", "(II)Z"⟩
abbrev cX10_mayBe : ByteArray := prog_12_method_7_code
def yX10_mayBe : MethodName := ⟨RX10, "mayBe", "(III)Z"⟩
abbrev cX10_may : ByteArray := prog_12_method_8_code
def yX10_may : MethodName := ⟨RX10, "may", "(IIIZ)Z"⟩
abbrev cX10_mays : ByteArray := prog_12_method_9_code
def yX10_mays : MethodName := ⟨RX10, "mays", "(III)I"⟩
abbrev cX10_isThing : ByteArray := prog_12_method_10_code
def yX10_isThing : MethodName := ⟨RX10, "isThing", "(I)Z"⟩
abbrev cX10_isReport : ByteArray := prog_12_method_11_code
def yX10_isReport : MethodName := ⟨RX10, "isReport", "(I)Z"⟩
abbrev cX10_isOut : ByteArray := prog_12_method_12_code
def yX10_isOut : MethodName := ⟨RX10, "isOut", "(I)Z"⟩
abbrev cX10_isBag : ByteArray := prog_12_method_13_code
def yX10_isBag : MethodName := ⟨RX10, "isBag", "(I)Z"⟩
abbrev cX10_thing : ByteArray := prog_12_method_14_code
def yX10_thing : MethodName := ⟨RX10, "thing", "(IIZI)I"⟩
abbrev cX10_report : ByteArray := prog_12_method_15_code
def yX10_report : MethodName := ⟨RX10, "report", "(I)I"⟩
abbrev cX10_rowOf : ByteArray := prog_12_method_16_code
def yX10_rowOf : MethodName := ⟨RX10, "rowOf", "(ZI)I"⟩
abbrev cX10_mark : ByteArray := prog_12_method_17_code
def yX10_mark : MethodName := ⟨RX10, "mark", "(ZIII)Z"⟩
abbrev cX10_tear : ByteArray := prog_12_method_18_code
def yX10_tear : MethodName := ⟨RX10, "tear", "(ZII)Z"⟩
abbrev cX10_knows : ByteArray := prog_12_method_19_code
def yX10_knows : MethodName := ⟨RX10, "knows", "(II)I"⟩
abbrev cX10_known : ByteArray := prog_12_method_20_code
def yX10_known : MethodName := ⟨RX10, "known", "(ZII)I"⟩
abbrev cX10_length : ByteArray := prog_12_method_21_code
def yX10_length : MethodName := ⟨RX10, "length", "(ZI)I"⟩
abbrev cX10_apart : ByteArray := prog_12_method_22_code
def yX10_apart : MethodName := ⟨RX10, "apart", "(II)I"⟩
abbrev cX10_isFit : ByteArray := prog_12_method_23_code
def yX10_isFit : MethodName := ⟨RX10, "isFit", "(II)Z"⟩
abbrev cX10_isFitIn : ByteArray := prog_12_method_24_code
def yX10_isFitIn : MethodName := ⟨RX10, "isFitIn", "(II)Z"⟩
abbrev cX10_fits : ByteArray := prog_12_method_25_code
def yX10_fits : MethodName := ⟨RX10, "fits", "(II)I"⟩
abbrev cX10_tells : ByteArray := prog_12_method_26_code
def yX10_tells : MethodName := ⟨RX10, "tells", "(II)I"⟩
abbrev cX10_strengthOf : ByteArray := prog_12_method_27_code
def yX10_strengthOf : MethodName := ⟨RX10, "strengthOf", "(II)I"⟩
abbrev cX10_strength : ByteArray := prog_12_method_28_code
def yX10_strength : MethodName := ⟨RX10, "strength", "(II)I"⟩
abbrev cX10_fitting0 : ByteArray := prog_12_method_29_code
def yX10_fitting0 : MethodName := ⟨RX10, "fitting0", "(I)I"⟩
abbrev cX10_fitting : ByteArray := prog_12_method_30_code
def yX10_fitting : MethodName := ⟨RX10, "fitting", "(I)I"⟩
abbrev cX10_fit : ByteArray := prog_12_method_31_code
def yX10_fit : MethodName := ⟨RX10, "fit", "(II)I"⟩
abbrev cX10_findGroup : ByteArray := prog_12_method_32_code
def yX10_findGroup : MethodName := ⟨RX10, "findGroup", "(I)V"⟩
abbrev cX10_isTooLarge : ByteArray := prog_12_method_33_code
def yX10_isTooLarge : MethodName := ⟨RX10, "isTooLarge", "()Z"⟩
abbrev cX10_worth : ByteArray := prog_12_method_34_code
def yX10_worth : MethodName := ⟨RX10, "worth", "(II)J"⟩
abbrev cX10_match : ByteArray := prog_12_method_35_code
def yX10_match : MethodName := ⟨RX10, "match", "()V"⟩
abbrev cX10_isOpen : ByteArray := prog_12_method_36_code
def yX10_isOpen : MethodName := ⟨RX10, "isOpen", "(I)Z"⟩
abbrev cX10_given : ByteArray := prog_12_method_37_code
def yX10_given : MethodName := ⟨RX10, "given", "(I)I"⟩
abbrev cX10_best : ByteArray := prog_12_method_38_code
def yX10_best : MethodName := ⟨RX10, "best", "(I)I"⟩
abbrev cX10_sum : ByteArray := prog_12_method_39_code
def yX10_sum : MethodName := ⟨RX10, "sum", "(I)I"⟩
abbrev cX10_also : ByteArray := prog_12_method_40_code
def yX10_also : MethodName := ⟨RX10, "also", "(I)I"⟩
abbrev cX10_group : ByteArray := prog_12_method_41_code
def yX10_group : MethodName := ⟨RX10, "group", "(II)I"⟩
abbrev cX10_like : ByteArray := prog_12_method_42_code
def yX10_like : MethodName := ⟨RX10, "like", "(II)I"⟩
abbrev cX10_findFitted : ByteArray := prog_12_method_43_code
def yX10_findFitted : MethodName := ⟨RX10, "findFitted", "(I)V"⟩
abbrev cX10_classes : ByteArray := prog_12_method_44_code
def yX10_classes : MethodName := ⟨RX10, "classes", "(I)I"⟩
abbrev cX10_parts : ByteArray := prog_12_method_45_code
def yX10_parts : MethodName := ⟨RX10, "parts", "(II)I"⟩
abbrev cX10_ask : ByteArray := prog_12_method_46_code
def yX10_ask : MethodName := ⟨RX10, "ask", "(I)I"⟩
abbrev cX10_classOf : ByteArray := prog_12_method_47_code
def yX10_classOf : MethodName := ⟨RX10, "classOf", "(III)I"⟩
abbrev cX10_worst : ByteArray := prog_12_method_48_code
def yX10_worst : MethodName := ⟨RX10, "worst", "(II)I"⟩
abbrev cX10_fewest : ByteArray := prog_12_method_49_code
def yX10_fewest : MethodName := ⟨RX10, "fewest", "(I)I"⟩
abbrev cX10_stands : ByteArray := prog_12_method_50_code
def yX10_stands : MethodName := ⟨RX10, "stands", "(I)Z"⟩
abbrev cX10_standing : ByteArray := prog_12_method_51_code
def yX10_standing : MethodName := ⟨RX10, "standing", "(I)I"⟩
abbrev cX10_claim : ByteArray := prog_12_method_52_code
def yX10_claim : MethodName := ⟨RX10, "claim", "(II)I"⟩
abbrev cX10_prove : ByteArray := prog_12_method_53_code
def yX10_prove : MethodName := ⟨RX10, "prove", "(III)I"⟩
abbrev cX10_goesOut : ByteArray := prog_12_method_54_code
def yX10_goesOut : MethodName := ⟨RX10, "goesOut", "(III)V"⟩
abbrev cX10_withdrawAll : ByteArray := prog_12_method_55_code
def yX10_withdrawAll : MethodName := ⟨RX10, "withdrawAll", "(I)V"⟩
abbrev cX10_give : ByteArray := prog_12_method_56_code
def yX10_give : MethodName := ⟨RX10, "give", "(I)I"⟩
abbrev cX10_withdraw : ByteArray := prog_12_method_57_code
def yX10_withdraw : MethodName := ⟨RX10, "withdraw", "(I)Z"⟩
abbrev cX10_close : ByteArray := prog_12_method_58_code
def yX10_close : MethodName := ⟨RX10, "close", "(I)Z"⟩
abbrev cX10_claimed : ByteArray := prog_12_method_59_code
def yX10_claimed : MethodName := ⟨RX10, "claimed", "(II)I"⟩
abbrev cX10_into : ByteArray := prog_12_method_60_code
def yX10_into : MethodName := ⟨RX10, "into", "(II)Z"⟩
abbrev cX10_inside : ByteArray := prog_12_method_61_code
def yX10_inside : MethodName := ⟨RX10, "inside", "(I)I"⟩
abbrev cX10_place : ByteArray := prog_12_method_62_code
def yX10_place : MethodName := ⟨RX10, "place", "(II)I"⟩
abbrev cX10_days : ByteArray := prog_12_method_63_code
def yX10_days : MethodName := ⟨RX10, "days", "(II)Z"⟩
abbrev cX10_oneDay : ByteArray := prog_12_method_64_code
def yX10_oneDay : MethodName := ⟨RX10, "oneDay", "()V"⟩
abbrev cX10_day : ByteArray := prog_12_method_65_code
def yX10_day : MethodName := ⟨RX10, "day", "(I)I"⟩
abbrev cX10_count : ByteArray := prog_12_method_66_code
def yX10_count : MethodName := ⟨RX10, "count", "(I)I"⟩
abbrev cX10_gone : ByteArray := prog_12_method_67_code
def yX10_gone : MethodName := ⟨RX10, "gone", "(I)I"⟩
def RJx145de : String := "java/io/Serializable"
def TJx145de : u_T := fun k => match k with
  | _ => ("", "", "", false)
def tyJx145de : Nat → FieldType := fun k => match k with
  | _ => .int
abbrev wsJx145de0 : List Cond := u_ws RJx145de TJx145de 0
theorem nmJx145de : ∀ a, a < 0 → ∀ b, b < 0 → a ≠ b → (TJx145de a).2.1 ≠ (TJx145de b).2.1 := by decide +kernel
theorem tyJx145de_ok : ∀ k, k < 0 → parseFieldDescriptor (TJx145de k).2.2.1 = some (tyJx145de k) := by decide +kernel
def RJ6 : String := "java/lang/Integer"
def TJ6 : u_T := fun k => match k with
  | _ => ("", "", "", false)
def tyJ6 : Nat → FieldType := fun k => match k with
  | _ => .int
abbrev wsJ60 : List Cond := u_ws RJ6 TJ6 0
theorem nmJ6 : ∀ a, a < 0 → ∀ b, b < 0 → a ≠ b → (TJ6 a).2.1 ≠ (TJ6 b).2.1 := by decide +kernel
theorem tyJ6_ok : ∀ k, k < 0 → parseFieldDescriptor (TJ6 k).2.2.1 = some (tyJ6 k) := by decide +kernel
abbrev cJ6_bitCount_0f7a4 : ByteArray := prog_15_method_49_code
def yJ6_bitCount_0f7a4 : MethodName := ⟨RJ6, "bitCount", "(I)I"⟩
def RJ13 : String := "java/lang/Long"
def TJ13 : u_T := fun k => match k with
  | _ => ("", "", "", false)
def tyJ13 : Nat → FieldType := fun k => match k with
  | _ => .int
abbrev wsJ130 : List Cond := u_ws RJ13 TJ13 0
theorem nmJ13 : ∀ a, a < 0 → ∀ b, b < 0 → a ≠ b → (TJ13 a).2.1 ≠ (TJ13 b).2.1 := by decide +kernel
theorem tyJ13_ok : ∀ k, k < 0 → parseFieldDescriptor (TJ13 k).2.2.1 = some (tyJ13 k) := by decide +kernel
abbrev cJ13_bitCount_95d88 : ByteArray := prog_16_method_50_code
def yJ13_bitCount_95d88 : MethodName := ⟨RJ13, "bitCount", "(J)I"⟩
def RJ9 : String := "java/lang/Math"
def TJ9 : u_T := fun k => match k with
  | _ => ("", "", "", false)
def tyJ9 : Nat → FieldType := fun k => match k with
  | _ => .int
abbrev wsJ90 : List Cond := u_ws RJ9 TJ9 0
theorem nmJ9 : ∀ a, a < 0 → ∀ b, b < 0 → a ≠ b → (TJ9 a).2.1 ≠ (TJ9 b).2.1 := by decide +kernel
theorem tyJ9_ok : ∀ k, k < 0 → parseFieldDescriptor (TJ9 k).2.2.1 = some (tyJ9 k) := by decide +kernel
abbrev cJ9_max_7cf53 : ByteArray := prog_17_method_65_code
def yJ9_max_7cf53 : MethodName := ⟨RJ9, "max", "(II)I"⟩
abbrev cJ9_min_7cf53 : ByteArray := prog_17_method_69_code
def yJ9_min_7cf53 : MethodName := ⟨RJ9, "min", "(II)I"⟩
def RJ0 : String := "java/lang/String"
def TJ0 : u_T := fun k => match k with
  | _ => ("", "", "", false)
def tyJ0 : Nat → FieldType := fun k => match k with
  | _ => .int
abbrev wsJ00 : List Cond := u_ws RJ0 TJ0 0
theorem nmJ0 : ∀ a, a < 0 → ∀ b, b < 0 → a ≠ b → (TJ0 a).2.1 ≠ (TJ0 b).2.1 := by decide +kernel
theorem tyJ0_ok : ∀ k, k < 0 → parseFieldDescriptor (TJ0 k).2.2.1 = some (tyJ0 k) := by decide +kernel
def RL : String := "FoundOfficeLaw"
abbrev cL_claimed : ByteArray := method_3_code
def yL_claimed : MethodName := ⟨RL, "claimed", "(LFoundOffice;II[J)I"⟩
abbrev cL_place : ByteArray := method_4_code
def yL_place : MethodName := ⟨RL, "place", "(LFoundOffice;II[J)I"⟩
abbrev cL_law : ByteArray := code
def yL_law : MethodName := ⟨RL, "law", "([I)Z"⟩
abbrev vwCl : List vw_C := [(RX0, TX0, 6), (RX1, TX1, 11), (RX2, TX2, 6), (RX3, TX3, 8), (RX4, TX4, 5), (RX5, TX5, 5), (RX6, TX6, 3), (RX7, TX7, 2), (RX8, TX8, 11), (RX9, TX9, 13), (RX10, TX10, 42)]
end
section
/-! A SMALL MACHINE over one fixed layout of cells: its state, its steps (each step a transformer of what is wanted behind it), and what its steps mean to the kit's W (next part). -/
/-- what the cells hold: fields that are ints, by place and code; arrays of int and boolean, by place; arrays of long -/
abbrev sm_G : Type := (Nat → Nat → Int32) × (Nat → Nat → Int32) × (Nat → Nat → Int64)
abbrev sm_Lo : Type := List (Option Value)
abbrev sm_SP : Type := List Value → sm_G → (Option Value → sm_G → Prop) → Prop
abbrev sm_NF : Type := Nat → Option (Instr × Nat × Bool)
def rS (g : sm_G) (p c : Nat) : Int32 := g.1 p c
def rA (g : sm_G) (p : Nat) : Nat → Int32 := g.2.1 p
def rL (g : sm_G) (p : Nat) : Nat → Int64 := g.2.2 p
def gS (g : sm_G) (p c : Nat) (v : Int32) : sm_G := (fun a b => if a = p ∧ b = c then v else g.1 a b, g.2)
def gA (g : sm_G) (p : Nat) (f : Nat → Int32) : sm_G := (g.1, fun a => if a = p then f else g.2.1 a, g.2.2)
def gL (g : sm_G) (p : Nat) (f : Nat → Int64) : sm_G := (g.1, g.2.1, fun a => if a = p then f else g.2.2 a)
theorem rS_gS (g : sm_G) (p c : Nat) (v : Int32) (a b : Nat) : rS (gS g p c v) a b = if a = p ∧ b = c then v else rS g a b := rfl
theorem rS_gA (g : sm_G) (p : Nat) (f : Nat → Int32) (a b : Nat) : rS (gA g p f) a b = rS g a b := rfl
theorem rS_gL (g : sm_G) (p : Nat) (f : Nat → Int64) (a b : Nat) : rS (gL g p f) a b = rS g a b := rfl
theorem rA_gS (g : sm_G) (p c : Nat) (v : Int32) (a : Nat) : rA (gS g p c v) a = rA g a := rfl
theorem rA_gA (g : sm_G) (p : Nat) (f : Nat → Int32) (a : Nat) : rA (gA g p f) a = if a = p then f else rA g a := rfl
theorem rA_gL (g : sm_G) (p : Nat) (f : Nat → Int64) (a : Nat) : rA (gL g p f) a = rA g a := rfl
theorem rL_gS (g : sm_G) (p c : Nat) (v : Int32) (a : Nat) : rL (gS g p c v) a = rL g a := rfl
theorem rL_gA (g : sm_G) (p : Nat) (f : Nat → Int32) (a : Nat) : rL (gA g p f) a = rL g a := rfl
theorem rL_gL (g : sm_G) (p : Nat) (f : Nat → Int64) (a : Nat) : rL (gL g p f) a = if a = p then f else rL g a := rfl
/-- -(n + 1) -/
def sI (n : Nat) : Int32 := Int32.ofInt (-((n : Int) + 1))
-- the steps' parts
def sm_ldi : sm_Lo → Nat → (Int32 → Prop) → Prop
  | [], _, _ => False
  | o :: _, 0, f => (match o with
    | some (.int x) => f x
    | _ => False)
  | _ :: l, n + 1, f => sm_ldi l n f
def sm_ldl : sm_Lo → Nat → (Int64 → Prop) → Prop
  | [], _, _ => False
  | o :: _, 0, f => (match o with
    | some (.long x) => f x
    | _ => False)
  | _ :: l, n + 1, f => sm_ldl l n f
def sm_ldr : sm_Lo → Nat → (Nat → Prop) → Prop
  | [], _, _ => False
  | o :: _, 0, f => (match o with
    | some (.ref x) => f x
    | _ => False)
  | _ :: l, n + 1, f => sm_ldr l n f
/-- a place whose neighbour is written: a long there is gone -/
def sm_un : Option Value → Option Value
  | some (.long _) => none
  | o => o
/-- a value of one slot, or of two, is put into a place -/
def sm_st1 : sm_Lo → Nat → Value → sm_Lo
  | [], _, _ => []
  | _ :: l, 0, v => some v :: l
  | x :: l, n + 1, v => (if n = 0 then sm_un x else x) :: sm_st1 l n v
def sm_st2 : sm_Lo → Nat → Value → sm_Lo
  | [], _, _ => []
  | _ :: l, 0, v => some v :: (match l with | [] => [] | _ :: r => none :: r)
  | x :: l, n + 1, v => (if n = 0 then sm_un x else x) :: sm_st2 l n v
def sm_i1 : List Value → (Int32 → List Value → Prop) → Prop
  | .int x :: r, f => f x r
  | _, _ => False
def sm_i2 : List Value → (Int32 → Int32 → List Value → Prop) → Prop
  | .int y :: .int x :: r, f => f x y r
  | _, _ => False
def sm_l1 : List Value → (Int64 → List Value → Prop) → Prop
  | .long x :: r, f => f x r
  | _, _ => False
def sm_l2 : List Value → (Int64 → Int64 → List Value → Prop) → Prop
  | .long y :: .long x :: r, f => f x y r
  | _, _ => False
def sm_li : List Value → (Int64 → Int32 → List Value → Prop) → Prop
  | .int y :: .long x :: r, f => f x y r
  | _, _ => False
def sm_r1 : List Value → (Nat → List Value → Prop) → Prop
  | .ref x :: r, f => f x r
  | _, _ => False
def sm_ir : List Value → (Int32 → Nat → List Value → Prop) → Prop
  | .int x :: .ref p :: r, f => f x p r
  | _, _ => False
def sm_iir : List Value → (Int32 → Int32 → Nat → List Value → Prop) → Prop
  | .int x :: .int i :: .ref p :: r, f => f x i p r
  | _, _ => False
def sm_lir : List Value → (Int64 → Int32 → Nat → List Value → Prop) → Prop
  | .long x :: .int i :: .ref p :: r, f => f x i p r
  | _, _ => False
def sm_bc (c a b : Prop) : Prop := (c → a) ∧ (¬ c → b)
/-- a field: 0 none such, 1 an int, q + 2 the thing at place q -/
def sm_fg (d : Nat) (x : Int32) (f : Value → Prop) : Prop := match d with
  | 0 => False
  | 1 => f (.int x)
  | q + 2 => f (.ref q)
def sm_pop : Nat → List Value → List Value → (List Value → List Value → Prop) → Prop
  | 0, st, as, f => f as st
  | n + 1, v :: st, as, f => sm_pop n st (v :: as) f
  | _ + 1, [], _, _ => False
def sm_psh : Option Value → List Value → List Value
  | some v, r => v :: r
  | none, r => r
def sm_tsw : List Int → Int → Int → (Nat → Prop) → Prop
  | [], _, _, _ => True
  | o :: os, lo, x, f => (x = lo → f o.toNat) ∧ sm_tsw os (lo + 1) x f
def sm_lsw : List (Int × Int) → Int → Int → (Nat → Prop) → Prop
  | [], d, _, f => f d.toNat
  | (a, o) :: ps, d, x, f => (x = a → f o.toNat) ∧ (¬ x = a → sm_lsw ps d x f)
/-- what a boolean method returns is 0 or 1 -/
def sm_zr (rk : Nat) (x : Int32) : Prop := rk = 0 ∨ (rk = 1 ∧ (x = nI 0 ∨ x = nI 1))
/-- an index that is in range -/
def sm_in (i : Int32) (n : Nat) : Prop := 0 ≤ i.toInt ∧ i.toInt < (n : Int)
def sm_fd (lay : List ((Nat × List Nat) ⊕ (Nat × Nat))) (p c : Nat) : Nat := match lay[p]? with
  | some (.inl (ci, ds)) => if c / 100 = ci then ds.getD (c % 100) 0 else 0
  | _ => 0
def sm_ar (lay : List ((Nat × List Nat) ⊕ (Nat × Nat))) (p : Nat) : Nat × Nat := match lay[p]? with
  | some (.inr q) => q
  | _ => (0, 0)
/-- one step: what is wanted of the state behind it, k; K is what is wanted of a method's answer -/
def sm_stp (lay : List ((Nat × List Nat) ⊕ (Nat × Nat))) (cs : Nat → sm_SP) (xs : Option (Nat × (Nat → Int32))) (rk : Nat) (K : Option Value → sm_G → Prop) (i : Instr) (nx : Nat) (ls : sm_Lo) (st : List Value) (g : sm_G) (k : Nat → sm_Lo → List Value → sm_G → Prop) : Prop :=
  match i with
  | .iload n => sm_ldi ls n fun x => k nx ls (.int x :: st) g
  | .lload n => sm_ldl ls n fun x => k nx ls (.long x :: st) g
  | .aload n => sm_ldr ls n fun x => k nx ls (.ref x :: st) g
  | .istore n => sm_i1 st fun x r => k nx (sm_st1 ls n (.int x)) r g
  | .lstore n => sm_l1 st fun x r => k nx (sm_st2 ls n (.long x)) r g
  | .astore n => sm_r1 st fun x r => k nx (sm_st1 ls n (.ref x)) r g
  | .ret n => k nx ls (.int (nI n) :: st) g
  | .putstatic n => k nx ls (.int (sI n) :: st) g
  | .getstatic n => k nx ls (.long (lN n) :: st) g
  | .jsr v => k nx ls (.long (Int64.ofInt v) :: st) g
  | .multianewarray n d => sm_ldi ls n fun x => k nx (sm_st1 ls n (.int (x + nI d))) st g
  | .iinc n d => sm_ldi ls n fun x => k nx (sm_st1 ls n (.int (x + Int32.ofInt d))) st g
  | .iadd => sm_i2 st fun x y r => k nx ls (.int (x + y) :: r) g
  | .isub => sm_i2 st fun x y r => k nx ls (.int (x - y) :: r) g
  | .imul => sm_i2 st fun x y r => k nx ls (.int (x * y) :: r) g
  | .idiv => sm_i2 st fun x y r => y ≠ 0 ∧ k nx ls (.int (x / y) :: r) g
  | .irem => sm_i2 st fun x y r => y ≠ 0 ∧ k nx ls (.int (x - x / y * y) :: r) g
  | .iand => sm_i2 st fun x y r => k nx ls (.int (x &&& y) :: r) g
  | .ior => sm_i2 st fun x y r => k nx ls (.int (x ||| y) :: r) g
  | .ixor => sm_i2 st fun x y r => k nx ls (.int (x ^^^ y) :: r) g
  | .ishl => sm_i2 st fun x y r => k nx ls (.int (x <<< (y &&& 31)) :: r) g
  | .ishr => sm_i2 st fun x y r => k nx ls (.int (x >>> (y &&& 31)) :: r) g
  | .iushr => sm_i2 st fun x y r => k nx ls (.int (x.toUInt32 >>> (y.toUInt32 &&& Int32.toUInt32 31)).toInt32 :: r) g
  | .ladd => sm_l2 st fun x y r => k nx ls (.long (x + y) :: r) g
  | .lsub => sm_l2 st fun x y r => k nx ls (.long (x - y) :: r) g
  | .lmul => sm_l2 st fun x y r => k nx ls (.long (x * y) :: r) g
  | .ldiv => sm_l2 st fun x y r => y ≠ 0 ∧ k nx ls (.long (x / y) :: r) g
  | .land => sm_l2 st fun x y r => k nx ls (.long (x &&& y) :: r) g
  | .lor => sm_l2 st fun x y r => k nx ls (.long (x ||| y) :: r) g
  | .lxor => sm_l2 st fun x y r => k nx ls (.long (x ^^^ y) :: r) g
  | .lneg => sm_l1 st fun x r => k nx ls (.long (-x) :: r) g
  | .lshl => sm_li st fun x y r => k nx ls (.long (x <<< (y.toInt64 &&& 63)) :: r) g
  | .lshr => sm_li st fun x y r => k nx ls (.long (x >>> (y.toInt64 &&& 63)) :: r) g
  | .lushr => sm_li st fun x y r => k nx ls (.long (x.toUInt64 >>> (y.toInt64.toUInt64 &&& Int64.toUInt64 63)).toInt64 :: r) g
  | .lcmp => sm_l2 st fun x y r => k nx ls (.int (lg_cmp x y) :: r) g
  | .i2l => sm_i1 st fun x r => k nx ls (.long x.toInt64 :: r) g
  | .l2i => sm_l1 st fun x r => k nx ls (.int x.toInt32 :: r) g
  | .dup => (match st with | v :: r => v.category = 1 ∧ k nx ls (v :: v :: r) g | _ => False)
  | .dup2 => (match st with
    | .long x :: r => k nx ls (.long x :: .long x :: r) g
    | v :: w :: r => v.category = 1 ∧ w.category = 1 ∧ k nx ls (v :: w :: v :: w :: r) g
    | _ => False)
  | .goto t => k t.toNat ls st g
  | .ifCond .eq t => sm_i1 st fun x r => sm_bc (x = 0) (k t.toNat ls r g) (k nx ls r g)
  | .ifCond .ne t => sm_i1 st fun x r => sm_bc (x = 0) (k nx ls r g) (k t.toNat ls r g)
  | .ifCond .lt t => sm_i1 st fun x r => sm_bc (x.toInt < 0) (k t.toNat ls r g) (k nx ls r g)
  | .ifCond .ge t => sm_i1 st fun x r => sm_bc (x.toInt < 0) (k nx ls r g) (k t.toNat ls r g)
  | .ifCond .gt t => sm_i1 st fun x r => sm_bc (0 < x.toInt) (k t.toNat ls r g) (k nx ls r g)
  | .ifCond .le t => sm_i1 st fun x r => sm_bc (0 < x.toInt) (k nx ls r g) (k t.toNat ls r g)
  | .if_icmp .eq t => sm_i2 st fun x y r => sm_bc (x = y) (k t.toNat ls r g) (k nx ls r g)
  | .if_icmp .ne t => sm_i2 st fun x y r => sm_bc (x = y) (k nx ls r g) (k t.toNat ls r g)
  | .if_icmp .lt t => sm_i2 st fun x y r => sm_bc (x.toInt < y.toInt) (k t.toNat ls r g) (k nx ls r g)
  | .if_icmp .ge t => sm_i2 st fun x y r => sm_bc (x.toInt < y.toInt) (k nx ls r g) (k t.toNat ls r g)
  | .if_icmp .gt t => sm_i2 st fun x y r => sm_bc (y.toInt < x.toInt) (k t.toNat ls r g) (k nx ls r g)
  | .if_icmp .le t => sm_i2 st fun x y r => sm_bc (y.toInt < x.toInt) (k nx ls r g) (k t.toNat ls r g)
  | .tableswitch d lo hi os => sm_i1 st fun x r => (x.toInt < lo ∨ hi < x.toInt → k d.toNat ls r g) ∧ sm_tsw os.toList lo x.toInt (fun t => k t ls r g)
  | .lookupswitch d ps => sm_i1 st fun x r => sm_lsw ps.toList d x.toInt (fun t => k t ls r g)
  | .getfield c => sm_r1 st fun p r => sm_fg (sm_fd lay p c) (rS g p c) fun v => k nx ls (v :: r) g
  | .putfield c => sm_i1 st fun x r => sm_r1 r fun p r => sm_fd lay p c = 1 ∧ k nx ls r (gS g p c x)
  | .arraylength => sm_r1 st fun p r => if p = 1000 then (match xs with | some q => k nx ls (.int (nI q.1) :: r) g | none => False) else 0 < (sm_ar lay p).1 ∧ k nx ls (.int (nI (sm_ar lay p).2) :: r) g
  | .iaload => sm_ir st fun x p r => if p = 1000 then (match xs with | some q => sm_in x q.1 ∧ k nx ls (.int (q.2 x.toNatClampNeg) :: r) g | none => False) else (sm_ar lay p).1 = 1 ∧ sm_in x (sm_ar lay p).2 ∧ k nx ls (.int (rA g p x.toNatClampNeg) :: r) g
  | .baload => sm_ir st fun x p r => (sm_ar lay p).1 = 2 ∧ sm_in x (sm_ar lay p).2 ∧ k nx ls (.int (rA g p x.toNatClampNeg) :: r) g
  | .laload => sm_ir st fun x p r => (sm_ar lay p).1 = 3 ∧ sm_in x (sm_ar lay p).2 ∧ k nx ls (.long (rL g p x.toNatClampNeg) :: r) g
  | .iastore => sm_iir st fun x i p r => (sm_ar lay p).1 = 1 ∧ sm_in i (sm_ar lay p).2 ∧ k nx ls r (gA g p (upd (rA g p) i.toNatClampNeg x))
  | .bastore => sm_iir st fun x i p r => (sm_ar lay p).1 = 2 ∧ sm_in i (sm_ar lay p).2 ∧ sm_zr 1 x ∧ k nx ls r (gA g p (upd (rA g p) i.toNatClampNeg x))
  | .lastore => sm_lir st fun x i p r => (sm_ar lay p).1 = 3 ∧ sm_in i (sm_ar lay p).2 ∧ k nx ls r (gL g p (vp_updL (rL g p) i.toNatClampNeg x))
  | .invokeinterface mid n => sm_pop n st [] fun as r => r.length ≤ 4 ∧ cs mid as g fun v g' => k nx ls (sm_psh v r) g'
  | .ireturn => sm_i1 st fun x r => r = [] ∧ sm_zr rk x ∧ K (some (.int x)) g
  | .lreturn => sm_l1 st fun x r => r = [] ∧ rk = 2 ∧ K (some (.long x)) g
  | .areturn => sm_r1 st fun x r => r = [] ∧ rk = 3 ∧ K (some (.ref x)) g
  | .return_ => st = [] ∧ rk = 4 ∧ K none g
  | _ => False
/-- the code, made plain: constants as numbers, targets whole, fields and methods by the class's tables -/
def sm_ck (b : Bool) (i : Instr) : Option Instr := if b = true then some i else none
def sm_cst (b : Bool) (v : Int) : Option Instr := if b = true then (if 0 ≤ v then some (.ret v.toNat) else some (.putstatic (-v - 1).toNat)) else none
def sm_nm (fl : List (Nat × Nat)) (cl : List (Nat × Nat × Nat)) (ll : List (Nat × Int)) (il : List (Nat × Nat)) (nL pc : Nat) (i : Instr) (n : Nat) : Option Instr :=
  match i with
  | .iload_n k => sm_ck (n == 1) (.iload k)
  | .lload_n k => sm_ck (n == 1) (.lload k)
  | .aload_n k => sm_ck (n == 1) (.aload k)
  | .iload k => sm_ck (n == 2) (.iload k)
  | .lload k => sm_ck (n == 2) (.lload k)
  | .aload k => sm_ck (n == 2) (.aload k)
  | .istore_n k => sm_ck (n == 1 && k.val < nL) (.istore k)
  | .lstore_n k => sm_ck (n == 1 && k.val + 1 < nL) (.lstore k)
  | .astore_n k => sm_ck (n == 1 && k.val < nL) (.astore k)
  | .istore k => sm_ck (n == 2 && k < nL) (.istore k)
  | .lstore k => sm_ck (n == 2 && k + 1 < nL) (.lstore k)
  | .astore k => sm_ck (n == 2 && k < nL) (.astore k)
  | .iconst v => sm_cst (n == 1 && -6 < v && v < 6) v
  | .bipush v => sm_cst (n == 2 && -128 ≤ v && v < 128) v
  | .sipush v => sm_cst (n == 3 && -32768 ≤ v && v < 32768) v
  | .ldc_w ix => if n = 3 then (il.lookup ix).map .ret else none
  | .ldc2_w ix => if n = 3 then (ll.lookup ix).map (fun v => if 0 ≤ v then .getstatic v.toNat else .jsr v) else none
  | .lconst k => sm_ck (n == 1) (.getstatic k)
  | .iinc k d => if (n == 3 && k < nL && -128 ≤ d && d < 128) = true then (if 0 ≤ d then some (.multianewarray k d.toNat) else some (.iinc k d)) else none
  | .goto o => sm_ck (n == 3 && 0 ≤ (pc : Int) + o) (.goto (pc + o))
  | .ifCond c o => sm_ck (n == 3 && 0 ≤ (pc : Int) + o) (.ifCond c (pc + o))
  | .if_icmp c o => sm_ck (n == 3 && 0 ≤ (pc : Int) + o) (.if_icmp c (pc + o))
  | .tableswitch d lo hi os => sm_ck (hi - lo + 1 == os.size && 0 ≤ (pc : Int) + d && os.toList.all (fun o => 0 ≤ (pc : Int) + o)) (.tableswitch (pc + d) lo hi (os.toList.map (fun o => (pc : Int) + o)).toArray)
  | .lookupswitch d ps => sm_ck ((ps.toList.zip (ps.toList.drop 1)).all (fun (a, next) => a.1 < next.1) && 0 ≤ (pc : Int) + d && ps.toList.all (fun o => 0 ≤ (pc : Int) + o.2)) (.lookupswitch (pc + d) (ps.toList.map (fun o => (o.1, (pc : Int) + o.2))).toArray)
  | .getfield ix => if n = 3 then (fl.lookup ix).map .getfield else none
  | .putfield ix => if n = 3 then (fl.lookup ix).map .putfield else none
  | .invokevirtual ix => if n = 3 ∧ ix < 100000 then (cl.lookup ix).map (fun q => .invokeinterface q.1 q.2) else none
  | .invokestatic ix => if n = 3 then (cl.lookup (ix + 100000)).map (fun q => .invokeinterface q.1 q.2) else none
  | .iadd => sm_ck (n == 1) .iadd | .isub => sm_ck (n == 1) .isub | .imul => sm_ck (n == 1) .imul | .idiv => sm_ck (n == 1) .idiv | .irem => sm_ck (n == 1) .irem
  | .iand => sm_ck (n == 1) .iand | .ior => sm_ck (n == 1) .ior | .ixor => sm_ck (n == 1) .ixor | .ishl => sm_ck (n == 1) .ishl | .ishr => sm_ck (n == 1) .ishr | .iushr => sm_ck (n == 1) .iushr
  | .ladd => sm_ck (n == 1) .ladd | .lsub => sm_ck (n == 1) .lsub | .lmul => sm_ck (n == 1) .lmul | .ldiv => sm_ck (n == 1) .ldiv | .land => sm_ck (n == 1) .land | .lor => sm_ck (n == 1) .lor | .lxor => sm_ck (n == 1) .lxor | .lneg => sm_ck (n == 1) .lneg
  | .lshl => sm_ck (n == 1) .lshl | .lshr => sm_ck (n == 1) .lshr | .lushr => sm_ck (n == 1) .lushr | .lcmp => sm_ck (n == 1) .lcmp | .i2l => sm_ck (n == 1) .i2l | .l2i => sm_ck (n == 1) .l2i
  | .dup => sm_ck (n == 1) .dup | .dup2 => sm_ck (n == 1) .dup2
  | .arraylength => sm_ck (n == 1) .arraylength | .iaload => sm_ck (n == 1) .iaload | .baload => sm_ck (n == 1) .baload | .laload => sm_ck (n == 1) .laload
  | .iastore => sm_ck (n == 1) .iastore | .bastore => sm_ck (n == 1) .bastore | .lastore => sm_ck (n == 1) .lastore
  | .ireturn => sm_ck (n == 1) .ireturn | .lreturn => sm_ck (n == 1) .lreturn | .areturn => sm_ck (n == 1) .areturn | .return_ => sm_ck (n == 1) .return_
  | _ => none
/-- a class's tables: its name; fields, calls, long and int constants by their entries -/
abbrev sm_T : Type := String × List (Nat × Nat) × List (Nat × Nat × Nat) × List (Nat × Int) × List (Nat × Nat)
/-- a method's plain code: what stands at pc, where the next one stands, whether a walk stops here -/
def sm_nd (T : sm_T) (bc : ByteArray) (nL : Nat) (hd : List Nat) : sm_NF := fun pc => match decode bc pc with
  | .ok (i, n) => (sm_nm T.2.1 T.2.2.1 T.2.2.2.1 T.2.2.2.2 nL pc i n).map (fun j => (j, pc + n, hd.contains pc))
  | _ => none
/-- what a walk does at a place: it takes a step, or stops -/
def sm_go (lay : List ((Nat × List Nat) ⊕ (Nat × Nat))) (cs : Nat → sm_SP) (xs : Option (Nat × (Nat → Int32))) (rk : Nat) (K : Option Value → sm_G → Prop) (o : Option (Instr × Nat × Bool)) (P : Prop) (ls : sm_Lo) (st : List Value) (g : sm_G) (k : Nat → sm_Lo → List Value → sm_G → Prop) : Prop := match o with
  | some (i, nx, false) => sm_stp lay cs xs rk K i nx ls st g k
  | some (_, _, true) => P
  | none => False
/-- its first step is taken in any case -/
def sm_g1 (lay : List ((Nat × List Nat) ⊕ (Nat × Nat))) (cs : Nat → sm_SP) (xs : Option (Nat × (Nat → Int32))) (rk : Nat) (K : Option Value → sm_G → Prop) (o : Option (Instr × Nat × Bool)) (ls : sm_Lo) (st : List Value) (g : sm_G) (k : Nat → sm_Lo → List Value → sm_G → Prop) : Prop := match o with
  | some (i, nx, _) => sm_stp lay cs xs rk K i nx ls st g k
  | none => False
/-- up to n steps, till a place where walks stop -/
def sm_sx (lay : List ((Nat × List Nat) ⊕ (Nat × Nat))) (N : sm_NF) (cs : Nat → sm_SP) (xs : Option (Nat × (Nat → Int32))) (rk : Nat) (K : Option Value → sm_G → Prop) (J : Nat → sm_Lo → List Value → sm_G → Prop) : Nat → Nat → sm_Lo → List Value → sm_G → Prop
  | 0, pc, ls, st, g => J pc ls st g
  | n + 1, pc, ls, st, g => sm_go lay cs xs rk K (N pc) (J pc ls st g) ls st g (sm_sx lay N cs xs rk K J n)
/-- J can be read backwards along walks; S, walks of some steps -/
def sm_walk (lay : List ((Nat × List Nat) ⊕ (Nat × Nat))) (N : sm_NF) (cs : Nat → sm_SP) (xs : Option (Nat × (Nat → Int32))) (rk : Nat) (K : Option Value → sm_G → Prop) (J : Nat → sm_Lo → List Value → sm_G → Prop) (S : Nat → Nat → sm_Lo → List Value → sm_G → Prop) : Prop :=
  (∀ n pc ls st g, S (n + 1) pc ls st g = sm_go lay cs xs rk K (N pc) (J pc ls st g) ls st g (S n)) ∧
  ∀ n pc ls st g, sm_g1 lay cs xs rk K (N pc) ls st g (S n) → J pc ls st g
def sm_cl (l : List (Nat × sm_SP)) (mid : Nat) : sm_SP := match l with
  | [] => fun _ _ _ => False
  | (m, s) :: r => if mid = m then s else sm_cl r mid
def sm_arg : List Value → sm_Lo
  | [] => []
  | .long x :: vs => some (.long x) :: none :: sm_arg vs
  | v :: vs => some v :: sm_arg vs
def sm_pad (n : Nat) (l : sm_Lo) : sm_Lo := l ++ List.replicate (n - l.length) none
/-- a method's body does what its spec says -/
def sm_body (lay : List ((Nat × List Nat) ⊕ (Nat × Nat))) (N : sm_NF) (nL : Nat) (rk : Nat) (cs : Nat → sm_SP) (sp : sm_SP) : Prop :=
  ∀ (K : Option Value → sm_G → Prop) (J : Nat → sm_Lo → List Value → sm_G → Prop) (S : Nat → Nat → sm_Lo → List Value → sm_G → Prop), sm_walk lay N cs none rk K J S →
    ∀ as g, sp as g K → J 0 (sm_pad nL (sm_arg as)) [] g
-- the steps' equations, as rewriting rules that are no definitional ones
theorem e_iload (lay : List ((Nat × List Nat) ⊕ (Nat × Nat))) (cs : Nat → sm_SP) (xs : Option (Nat × (Nat → Int32))) (rk : Nat) (K : Option Value → sm_G → Prop) (nx : Nat) (ls : sm_Lo) (st : List Value) (g : sm_G) (k : Nat → sm_Lo → List Value → sm_G → Prop) (n : Nat) : sm_stp lay cs xs rk K (.iload n) nx ls st g k = (sm_ldi ls n fun x => k nx ls (.int x :: st) g) := (rfl)
theorem e_lload (lay : List ((Nat × List Nat) ⊕ (Nat × Nat))) (cs : Nat → sm_SP) (xs : Option (Nat × (Nat → Int32))) (rk : Nat) (K : Option Value → sm_G → Prop) (nx : Nat) (ls : sm_Lo) (st : List Value) (g : sm_G) (k : Nat → sm_Lo → List Value → sm_G → Prop) (n : Nat) : sm_stp lay cs xs rk K (.lload n) nx ls st g k = (sm_ldl ls n fun x => k nx ls (.long x :: st) g) := (rfl)
theorem e_aload (lay : List ((Nat × List Nat) ⊕ (Nat × Nat))) (cs : Nat → sm_SP) (xs : Option (Nat × (Nat → Int32))) (rk : Nat) (K : Option Value → sm_G → Prop) (nx : Nat) (ls : sm_Lo) (st : List Value) (g : sm_G) (k : Nat → sm_Lo → List Value → sm_G → Prop) (n : Nat) : sm_stp lay cs xs rk K (.aload n) nx ls st g k = (sm_ldr ls n fun x => k nx ls (.ref x :: st) g) := (rfl)
theorem e_istore (lay : List ((Nat × List Nat) ⊕ (Nat × Nat))) (cs : Nat → sm_SP) (xs : Option (Nat × (Nat → Int32))) (rk : Nat) (K : Option Value → sm_G → Prop) (nx : Nat) (ls : sm_Lo) (st : List Value) (g : sm_G) (k : Nat → sm_Lo → List Value → sm_G → Prop) (n : Nat) : sm_stp lay cs xs rk K (.istore n) nx ls st g k = (sm_i1 st fun x r => k nx (sm_st1 ls n (.int x)) r g) := (rfl)
theorem e_lstore (lay : List ((Nat × List Nat) ⊕ (Nat × Nat))) (cs : Nat → sm_SP) (xs : Option (Nat × (Nat → Int32))) (rk : Nat) (K : Option Value → sm_G → Prop) (nx : Nat) (ls : sm_Lo) (st : List Value) (g : sm_G) (k : Nat → sm_Lo → List Value → sm_G → Prop) (n : Nat) : sm_stp lay cs xs rk K (.lstore n) nx ls st g k = (sm_l1 st fun x r => k nx (sm_st2 ls n (.long x)) r g) := (rfl)
theorem e_astore (lay : List ((Nat × List Nat) ⊕ (Nat × Nat))) (cs : Nat → sm_SP) (xs : Option (Nat × (Nat → Int32))) (rk : Nat) (K : Option Value → sm_G → Prop) (nx : Nat) (ls : sm_Lo) (st : List Value) (g : sm_G) (k : Nat → sm_Lo → List Value → sm_G → Prop) (n : Nat) : sm_stp lay cs xs rk K (.astore n) nx ls st g k = (sm_r1 st fun x r => k nx (sm_st1 ls n (.ref x)) r g) := (rfl)
theorem e_ret (lay : List ((Nat × List Nat) ⊕ (Nat × Nat))) (cs : Nat → sm_SP) (xs : Option (Nat × (Nat → Int32))) (rk : Nat) (K : Option Value → sm_G → Prop) (nx : Nat) (ls : sm_Lo) (st : List Value) (g : sm_G) (k : Nat → sm_Lo → List Value → sm_G → Prop) (n : Nat) : sm_stp lay cs xs rk K (.ret n) nx ls st g k = (k nx ls (.int (nI n) :: st) g) := (rfl)
theorem e_putstatic (lay : List ((Nat × List Nat) ⊕ (Nat × Nat))) (cs : Nat → sm_SP) (xs : Option (Nat × (Nat → Int32))) (rk : Nat) (K : Option Value → sm_G → Prop) (nx : Nat) (ls : sm_Lo) (st : List Value) (g : sm_G) (k : Nat → sm_Lo → List Value → sm_G → Prop) (n : Nat) : sm_stp lay cs xs rk K (.putstatic n) nx ls st g k = (k nx ls (.int (sI n) :: st) g) := (rfl)
theorem e_getstatic (lay : List ((Nat × List Nat) ⊕ (Nat × Nat))) (cs : Nat → sm_SP) (xs : Option (Nat × (Nat → Int32))) (rk : Nat) (K : Option Value → sm_G → Prop) (nx : Nat) (ls : sm_Lo) (st : List Value) (g : sm_G) (k : Nat → sm_Lo → List Value → sm_G → Prop) (n : Nat) : sm_stp lay cs xs rk K (.getstatic n) nx ls st g k = (k nx ls (.long (lN n) :: st) g) := (rfl)
theorem e_jsr (lay : List ((Nat × List Nat) ⊕ (Nat × Nat))) (cs : Nat → sm_SP) (xs : Option (Nat × (Nat → Int32))) (rk : Nat) (K : Option Value → sm_G → Prop) (nx : Nat) (ls : sm_Lo) (st : List Value) (g : sm_G) (k : Nat → sm_Lo → List Value → sm_G → Prop) (v : Int) : sm_stp lay cs xs rk K (.jsr v) nx ls st g k = (k nx ls (.long (Int64.ofInt v) :: st) g) := (rfl)
theorem e_multianewarray (lay : List ((Nat × List Nat) ⊕ (Nat × Nat))) (cs : Nat → sm_SP) (xs : Option (Nat × (Nat → Int32))) (rk : Nat) (K : Option Value → sm_G → Prop) (nx : Nat) (ls : sm_Lo) (st : List Value) (g : sm_G) (k : Nat → sm_Lo → List Value → sm_G → Prop) (n : Nat) (d : Nat) : sm_stp lay cs xs rk K (.multianewarray n d) nx ls st g k = (sm_ldi ls n fun x => k nx (sm_st1 ls n (.int (x + nI d))) st g) := (rfl)
theorem e_iinc (lay : List ((Nat × List Nat) ⊕ (Nat × Nat))) (cs : Nat → sm_SP) (xs : Option (Nat × (Nat → Int32))) (rk : Nat) (K : Option Value → sm_G → Prop) (nx : Nat) (ls : sm_Lo) (st : List Value) (g : sm_G) (k : Nat → sm_Lo → List Value → sm_G → Prop) (n : Nat) (d : Int) : sm_stp lay cs xs rk K (.iinc n d) nx ls st g k = (sm_ldi ls n fun x => k nx (sm_st1 ls n (.int (x + Int32.ofInt d))) st g) := (rfl)
theorem e_iadd (lay : List ((Nat × List Nat) ⊕ (Nat × Nat))) (cs : Nat → sm_SP) (xs : Option (Nat × (Nat → Int32))) (rk : Nat) (K : Option Value → sm_G → Prop) (nx : Nat) (ls : sm_Lo) (st : List Value) (g : sm_G) (k : Nat → sm_Lo → List Value → sm_G → Prop)  : sm_stp lay cs xs rk K (.iadd) nx ls st g k = (sm_i2 st fun x y r => k nx ls (.int (x + y) :: r) g) := (rfl)
theorem e_isub (lay : List ((Nat × List Nat) ⊕ (Nat × Nat))) (cs : Nat → sm_SP) (xs : Option (Nat × (Nat → Int32))) (rk : Nat) (K : Option Value → sm_G → Prop) (nx : Nat) (ls : sm_Lo) (st : List Value) (g : sm_G) (k : Nat → sm_Lo → List Value → sm_G → Prop)  : sm_stp lay cs xs rk K (.isub) nx ls st g k = (sm_i2 st fun x y r => k nx ls (.int (x - y) :: r) g) := (rfl)
theorem e_imul (lay : List ((Nat × List Nat) ⊕ (Nat × Nat))) (cs : Nat → sm_SP) (xs : Option (Nat × (Nat → Int32))) (rk : Nat) (K : Option Value → sm_G → Prop) (nx : Nat) (ls : sm_Lo) (st : List Value) (g : sm_G) (k : Nat → sm_Lo → List Value → sm_G → Prop)  : sm_stp lay cs xs rk K (.imul) nx ls st g k = (sm_i2 st fun x y r => k nx ls (.int (x * y) :: r) g) := (rfl)
theorem e_idiv (lay : List ((Nat × List Nat) ⊕ (Nat × Nat))) (cs : Nat → sm_SP) (xs : Option (Nat × (Nat → Int32))) (rk : Nat) (K : Option Value → sm_G → Prop) (nx : Nat) (ls : sm_Lo) (st : List Value) (g : sm_G) (k : Nat → sm_Lo → List Value → sm_G → Prop)  : sm_stp lay cs xs rk K (.idiv) nx ls st g k = (sm_i2 st fun x y r => y ≠ 0 ∧ k nx ls (.int (x / y) :: r) g) := (rfl)
theorem e_irem (lay : List ((Nat × List Nat) ⊕ (Nat × Nat))) (cs : Nat → sm_SP) (xs : Option (Nat × (Nat → Int32))) (rk : Nat) (K : Option Value → sm_G → Prop) (nx : Nat) (ls : sm_Lo) (st : List Value) (g : sm_G) (k : Nat → sm_Lo → List Value → sm_G → Prop)  : sm_stp lay cs xs rk K (.irem) nx ls st g k = (sm_i2 st fun x y r => y ≠ 0 ∧ k nx ls (.int (x - x / y * y) :: r) g) := (rfl)
theorem e_iand (lay : List ((Nat × List Nat) ⊕ (Nat × Nat))) (cs : Nat → sm_SP) (xs : Option (Nat × (Nat → Int32))) (rk : Nat) (K : Option Value → sm_G → Prop) (nx : Nat) (ls : sm_Lo) (st : List Value) (g : sm_G) (k : Nat → sm_Lo → List Value → sm_G → Prop)  : sm_stp lay cs xs rk K (.iand) nx ls st g k = (sm_i2 st fun x y r => k nx ls (.int (x &&& y) :: r) g) := (rfl)
theorem e_ior (lay : List ((Nat × List Nat) ⊕ (Nat × Nat))) (cs : Nat → sm_SP) (xs : Option (Nat × (Nat → Int32))) (rk : Nat) (K : Option Value → sm_G → Prop) (nx : Nat) (ls : sm_Lo) (st : List Value) (g : sm_G) (k : Nat → sm_Lo → List Value → sm_G → Prop)  : sm_stp lay cs xs rk K (.ior) nx ls st g k = (sm_i2 st fun x y r => k nx ls (.int (x ||| y) :: r) g) := (rfl)
theorem e_ixor (lay : List ((Nat × List Nat) ⊕ (Nat × Nat))) (cs : Nat → sm_SP) (xs : Option (Nat × (Nat → Int32))) (rk : Nat) (K : Option Value → sm_G → Prop) (nx : Nat) (ls : sm_Lo) (st : List Value) (g : sm_G) (k : Nat → sm_Lo → List Value → sm_G → Prop)  : sm_stp lay cs xs rk K (.ixor) nx ls st g k = (sm_i2 st fun x y r => k nx ls (.int (x ^^^ y) :: r) g) := (rfl)
theorem e_ishl (lay : List ((Nat × List Nat) ⊕ (Nat × Nat))) (cs : Nat → sm_SP) (xs : Option (Nat × (Nat → Int32))) (rk : Nat) (K : Option Value → sm_G → Prop) (nx : Nat) (ls : sm_Lo) (st : List Value) (g : sm_G) (k : Nat → sm_Lo → List Value → sm_G → Prop)  : sm_stp lay cs xs rk K (.ishl) nx ls st g k = (sm_i2 st fun x y r => k nx ls (.int (x <<< (y &&& 31)) :: r) g) := (rfl)
theorem e_ishr (lay : List ((Nat × List Nat) ⊕ (Nat × Nat))) (cs : Nat → sm_SP) (xs : Option (Nat × (Nat → Int32))) (rk : Nat) (K : Option Value → sm_G → Prop) (nx : Nat) (ls : sm_Lo) (st : List Value) (g : sm_G) (k : Nat → sm_Lo → List Value → sm_G → Prop)  : sm_stp lay cs xs rk K (.ishr) nx ls st g k = (sm_i2 st fun x y r => k nx ls (.int (x >>> (y &&& 31)) :: r) g) := (rfl)
theorem e_iushr (lay : List ((Nat × List Nat) ⊕ (Nat × Nat))) (cs : Nat → sm_SP) (xs : Option (Nat × (Nat → Int32))) (rk : Nat) (K : Option Value → sm_G → Prop) (nx : Nat) (ls : sm_Lo) (st : List Value) (g : sm_G) (k : Nat → sm_Lo → List Value → sm_G → Prop)  : sm_stp lay cs xs rk K (.iushr) nx ls st g k = (sm_i2 st fun x y r => k nx ls (.int (x.toUInt32 >>> (y.toUInt32 &&& Int32.toUInt32 31)).toInt32 :: r) g) := (rfl)
theorem e_ladd (lay : List ((Nat × List Nat) ⊕ (Nat × Nat))) (cs : Nat → sm_SP) (xs : Option (Nat × (Nat → Int32))) (rk : Nat) (K : Option Value → sm_G → Prop) (nx : Nat) (ls : sm_Lo) (st : List Value) (g : sm_G) (k : Nat → sm_Lo → List Value → sm_G → Prop)  : sm_stp lay cs xs rk K (.ladd) nx ls st g k = (sm_l2 st fun x y r => k nx ls (.long (x + y) :: r) g) := (rfl)
theorem e_lsub (lay : List ((Nat × List Nat) ⊕ (Nat × Nat))) (cs : Nat → sm_SP) (xs : Option (Nat × (Nat → Int32))) (rk : Nat) (K : Option Value → sm_G → Prop) (nx : Nat) (ls : sm_Lo) (st : List Value) (g : sm_G) (k : Nat → sm_Lo → List Value → sm_G → Prop)  : sm_stp lay cs xs rk K (.lsub) nx ls st g k = (sm_l2 st fun x y r => k nx ls (.long (x - y) :: r) g) := (rfl)
theorem e_lmul (lay : List ((Nat × List Nat) ⊕ (Nat × Nat))) (cs : Nat → sm_SP) (xs : Option (Nat × (Nat → Int32))) (rk : Nat) (K : Option Value → sm_G → Prop) (nx : Nat) (ls : sm_Lo) (st : List Value) (g : sm_G) (k : Nat → sm_Lo → List Value → sm_G → Prop)  : sm_stp lay cs xs rk K (.lmul) nx ls st g k = (sm_l2 st fun x y r => k nx ls (.long (x * y) :: r) g) := (rfl)
theorem e_ldiv (lay : List ((Nat × List Nat) ⊕ (Nat × Nat))) (cs : Nat → sm_SP) (xs : Option (Nat × (Nat → Int32))) (rk : Nat) (K : Option Value → sm_G → Prop) (nx : Nat) (ls : sm_Lo) (st : List Value) (g : sm_G) (k : Nat → sm_Lo → List Value → sm_G → Prop)  : sm_stp lay cs xs rk K (.ldiv) nx ls st g k = (sm_l2 st fun x y r => y ≠ 0 ∧ k nx ls (.long (x / y) :: r) g) := (rfl)
theorem e_land (lay : List ((Nat × List Nat) ⊕ (Nat × Nat))) (cs : Nat → sm_SP) (xs : Option (Nat × (Nat → Int32))) (rk : Nat) (K : Option Value → sm_G → Prop) (nx : Nat) (ls : sm_Lo) (st : List Value) (g : sm_G) (k : Nat → sm_Lo → List Value → sm_G → Prop)  : sm_stp lay cs xs rk K (.land) nx ls st g k = (sm_l2 st fun x y r => k nx ls (.long (x &&& y) :: r) g) := (rfl)
theorem e_lor (lay : List ((Nat × List Nat) ⊕ (Nat × Nat))) (cs : Nat → sm_SP) (xs : Option (Nat × (Nat → Int32))) (rk : Nat) (K : Option Value → sm_G → Prop) (nx : Nat) (ls : sm_Lo) (st : List Value) (g : sm_G) (k : Nat → sm_Lo → List Value → sm_G → Prop)  : sm_stp lay cs xs rk K (.lor) nx ls st g k = (sm_l2 st fun x y r => k nx ls (.long (x ||| y) :: r) g) := (rfl)
theorem e_lxor (lay : List ((Nat × List Nat) ⊕ (Nat × Nat))) (cs : Nat → sm_SP) (xs : Option (Nat × (Nat → Int32))) (rk : Nat) (K : Option Value → sm_G → Prop) (nx : Nat) (ls : sm_Lo) (st : List Value) (g : sm_G) (k : Nat → sm_Lo → List Value → sm_G → Prop)  : sm_stp lay cs xs rk K (.lxor) nx ls st g k = (sm_l2 st fun x y r => k nx ls (.long (x ^^^ y) :: r) g) := (rfl)
theorem e_lneg (lay : List ((Nat × List Nat) ⊕ (Nat × Nat))) (cs : Nat → sm_SP) (xs : Option (Nat × (Nat → Int32))) (rk : Nat) (K : Option Value → sm_G → Prop) (nx : Nat) (ls : sm_Lo) (st : List Value) (g : sm_G) (k : Nat → sm_Lo → List Value → sm_G → Prop)  : sm_stp lay cs xs rk K (.lneg) nx ls st g k = (sm_l1 st fun x r => k nx ls (.long (-x) :: r) g) := (rfl)
theorem e_lshl (lay : List ((Nat × List Nat) ⊕ (Nat × Nat))) (cs : Nat → sm_SP) (xs : Option (Nat × (Nat → Int32))) (rk : Nat) (K : Option Value → sm_G → Prop) (nx : Nat) (ls : sm_Lo) (st : List Value) (g : sm_G) (k : Nat → sm_Lo → List Value → sm_G → Prop)  : sm_stp lay cs xs rk K (.lshl) nx ls st g k = (sm_li st fun x y r => k nx ls (.long (x <<< (y.toInt64 &&& 63)) :: r) g) := (rfl)
theorem e_lshr (lay : List ((Nat × List Nat) ⊕ (Nat × Nat))) (cs : Nat → sm_SP) (xs : Option (Nat × (Nat → Int32))) (rk : Nat) (K : Option Value → sm_G → Prop) (nx : Nat) (ls : sm_Lo) (st : List Value) (g : sm_G) (k : Nat → sm_Lo → List Value → sm_G → Prop)  : sm_stp lay cs xs rk K (.lshr) nx ls st g k = (sm_li st fun x y r => k nx ls (.long (x >>> (y.toInt64 &&& 63)) :: r) g) := (rfl)
theorem e_lushr (lay : List ((Nat × List Nat) ⊕ (Nat × Nat))) (cs : Nat → sm_SP) (xs : Option (Nat × (Nat → Int32))) (rk : Nat) (K : Option Value → sm_G → Prop) (nx : Nat) (ls : sm_Lo) (st : List Value) (g : sm_G) (k : Nat → sm_Lo → List Value → sm_G → Prop)  : sm_stp lay cs xs rk K (.lushr) nx ls st g k = (sm_li st fun x y r => k nx ls (.long (x.toUInt64 >>> (y.toInt64.toUInt64 &&& Int64.toUInt64 63)).toInt64 :: r) g) := (rfl)
theorem e_lcmp (lay : List ((Nat × List Nat) ⊕ (Nat × Nat))) (cs : Nat → sm_SP) (xs : Option (Nat × (Nat → Int32))) (rk : Nat) (K : Option Value → sm_G → Prop) (nx : Nat) (ls : sm_Lo) (st : List Value) (g : sm_G) (k : Nat → sm_Lo → List Value → sm_G → Prop)  : sm_stp lay cs xs rk K (.lcmp) nx ls st g k = (sm_l2 st fun x y r => k nx ls (.int (lg_cmp x y) :: r) g) := (rfl)
theorem e_i2l (lay : List ((Nat × List Nat) ⊕ (Nat × Nat))) (cs : Nat → sm_SP) (xs : Option (Nat × (Nat → Int32))) (rk : Nat) (K : Option Value → sm_G → Prop) (nx : Nat) (ls : sm_Lo) (st : List Value) (g : sm_G) (k : Nat → sm_Lo → List Value → sm_G → Prop)  : sm_stp lay cs xs rk K (.i2l) nx ls st g k = (sm_i1 st fun x r => k nx ls (.long x.toInt64 :: r) g) := (rfl)
theorem e_l2i (lay : List ((Nat × List Nat) ⊕ (Nat × Nat))) (cs : Nat → sm_SP) (xs : Option (Nat × (Nat → Int32))) (rk : Nat) (K : Option Value → sm_G → Prop) (nx : Nat) (ls : sm_Lo) (st : List Value) (g : sm_G) (k : Nat → sm_Lo → List Value → sm_G → Prop)  : sm_stp lay cs xs rk K (.l2i) nx ls st g k = (sm_l1 st fun x r => k nx ls (.int x.toInt32 :: r) g) := (rfl)
theorem e_dup (lay : List ((Nat × List Nat) ⊕ (Nat × Nat))) (cs : Nat → sm_SP) (xs : Option (Nat × (Nat → Int32))) (rk : Nat) (K : Option Value → sm_G → Prop) (nx : Nat) (ls : sm_Lo) (st : List Value) (g : sm_G) (k : Nat → sm_Lo → List Value → sm_G → Prop)  : sm_stp lay cs xs rk K (.dup) nx ls st g k = ((match st with | v :: r => v.category = 1 ∧ k nx ls (v :: v :: r) g | _ => False)) := (rfl)
theorem e_dup2 (lay : List ((Nat × List Nat) ⊕ (Nat × Nat))) (cs : Nat → sm_SP) (xs : Option (Nat × (Nat → Int32))) (rk : Nat) (K : Option Value → sm_G → Prop) (nx : Nat) (ls : sm_Lo) (st : List Value) (g : sm_G) (k : Nat → sm_Lo → List Value → sm_G → Prop)  : sm_stp lay cs xs rk K (.dup2) nx ls st g k = ((match st with | .long x :: r => k nx ls (.long x :: .long x :: r) g | v :: w :: r => v.category = 1 ∧ w.category = 1 ∧ k nx ls (v :: w :: v :: w :: r) g | _ => False)) := (rfl)
theorem e_goto (lay : List ((Nat × List Nat) ⊕ (Nat × Nat))) (cs : Nat → sm_SP) (xs : Option (Nat × (Nat → Int32))) (rk : Nat) (K : Option Value → sm_G → Prop) (nx : Nat) (ls : sm_Lo) (st : List Value) (g : sm_G) (k : Nat → sm_Lo → List Value → sm_G → Prop) (t : Int) : sm_stp lay cs xs rk K (.goto t) nx ls st g k = (k t.toNat ls st g) := (rfl)
theorem e_ifCond_eq (lay : List ((Nat × List Nat) ⊕ (Nat × Nat))) (cs : Nat → sm_SP) (xs : Option (Nat × (Nat → Int32))) (rk : Nat) (K : Option Value → sm_G → Prop) (nx : Nat) (ls : sm_Lo) (st : List Value) (g : sm_G) (k : Nat → sm_Lo → List Value → sm_G → Prop) (t : Int) : sm_stp lay cs xs rk K (.ifCond .eq t) nx ls st g k = (sm_i1 st fun x r => sm_bc (x = 0) (k t.toNat ls r g) (k nx ls r g)) := (rfl)
theorem e_ifCond_ne (lay : List ((Nat × List Nat) ⊕ (Nat × Nat))) (cs : Nat → sm_SP) (xs : Option (Nat × (Nat → Int32))) (rk : Nat) (K : Option Value → sm_G → Prop) (nx : Nat) (ls : sm_Lo) (st : List Value) (g : sm_G) (k : Nat → sm_Lo → List Value → sm_G → Prop) (t : Int) : sm_stp lay cs xs rk K (.ifCond .ne t) nx ls st g k = (sm_i1 st fun x r => sm_bc (x = 0) (k nx ls r g) (k t.toNat ls r g)) := (rfl)
theorem e_ifCond_lt (lay : List ((Nat × List Nat) ⊕ (Nat × Nat))) (cs : Nat → sm_SP) (xs : Option (Nat × (Nat → Int32))) (rk : Nat) (K : Option Value → sm_G → Prop) (nx : Nat) (ls : sm_Lo) (st : List Value) (g : sm_G) (k : Nat → sm_Lo → List Value → sm_G → Prop) (t : Int) : sm_stp lay cs xs rk K (.ifCond .lt t) nx ls st g k = (sm_i1 st fun x r => sm_bc (x.toInt < 0) (k t.toNat ls r g) (k nx ls r g)) := (rfl)
theorem e_ifCond_ge (lay : List ((Nat × List Nat) ⊕ (Nat × Nat))) (cs : Nat → sm_SP) (xs : Option (Nat × (Nat → Int32))) (rk : Nat) (K : Option Value → sm_G → Prop) (nx : Nat) (ls : sm_Lo) (st : List Value) (g : sm_G) (k : Nat → sm_Lo → List Value → sm_G → Prop) (t : Int) : sm_stp lay cs xs rk K (.ifCond .ge t) nx ls st g k = (sm_i1 st fun x r => sm_bc (x.toInt < 0) (k nx ls r g) (k t.toNat ls r g)) := (rfl)
theorem e_ifCond_gt (lay : List ((Nat × List Nat) ⊕ (Nat × Nat))) (cs : Nat → sm_SP) (xs : Option (Nat × (Nat → Int32))) (rk : Nat) (K : Option Value → sm_G → Prop) (nx : Nat) (ls : sm_Lo) (st : List Value) (g : sm_G) (k : Nat → sm_Lo → List Value → sm_G → Prop) (t : Int) : sm_stp lay cs xs rk K (.ifCond .gt t) nx ls st g k = (sm_i1 st fun x r => sm_bc (0 < x.toInt) (k t.toNat ls r g) (k nx ls r g)) := (rfl)
theorem e_ifCond_le (lay : List ((Nat × List Nat) ⊕ (Nat × Nat))) (cs : Nat → sm_SP) (xs : Option (Nat × (Nat → Int32))) (rk : Nat) (K : Option Value → sm_G → Prop) (nx : Nat) (ls : sm_Lo) (st : List Value) (g : sm_G) (k : Nat → sm_Lo → List Value → sm_G → Prop) (t : Int) : sm_stp lay cs xs rk K (.ifCond .le t) nx ls st g k = (sm_i1 st fun x r => sm_bc (0 < x.toInt) (k nx ls r g) (k t.toNat ls r g)) := (rfl)
theorem e_if_icmp_eq (lay : List ((Nat × List Nat) ⊕ (Nat × Nat))) (cs : Nat → sm_SP) (xs : Option (Nat × (Nat → Int32))) (rk : Nat) (K : Option Value → sm_G → Prop) (nx : Nat) (ls : sm_Lo) (st : List Value) (g : sm_G) (k : Nat → sm_Lo → List Value → sm_G → Prop) (t : Int) : sm_stp lay cs xs rk K (.if_icmp .eq t) nx ls st g k = (sm_i2 st fun x y r => sm_bc (x = y) (k t.toNat ls r g) (k nx ls r g)) := (rfl)
theorem e_if_icmp_ne (lay : List ((Nat × List Nat) ⊕ (Nat × Nat))) (cs : Nat → sm_SP) (xs : Option (Nat × (Nat → Int32))) (rk : Nat) (K : Option Value → sm_G → Prop) (nx : Nat) (ls : sm_Lo) (st : List Value) (g : sm_G) (k : Nat → sm_Lo → List Value → sm_G → Prop) (t : Int) : sm_stp lay cs xs rk K (.if_icmp .ne t) nx ls st g k = (sm_i2 st fun x y r => sm_bc (x = y) (k nx ls r g) (k t.toNat ls r g)) := (rfl)
theorem e_if_icmp_lt (lay : List ((Nat × List Nat) ⊕ (Nat × Nat))) (cs : Nat → sm_SP) (xs : Option (Nat × (Nat → Int32))) (rk : Nat) (K : Option Value → sm_G → Prop) (nx : Nat) (ls : sm_Lo) (st : List Value) (g : sm_G) (k : Nat → sm_Lo → List Value → sm_G → Prop) (t : Int) : sm_stp lay cs xs rk K (.if_icmp .lt t) nx ls st g k = (sm_i2 st fun x y r => sm_bc (x.toInt < y.toInt) (k t.toNat ls r g) (k nx ls r g)) := (rfl)
theorem e_if_icmp_ge (lay : List ((Nat × List Nat) ⊕ (Nat × Nat))) (cs : Nat → sm_SP) (xs : Option (Nat × (Nat → Int32))) (rk : Nat) (K : Option Value → sm_G → Prop) (nx : Nat) (ls : sm_Lo) (st : List Value) (g : sm_G) (k : Nat → sm_Lo → List Value → sm_G → Prop) (t : Int) : sm_stp lay cs xs rk K (.if_icmp .ge t) nx ls st g k = (sm_i2 st fun x y r => sm_bc (x.toInt < y.toInt) (k nx ls r g) (k t.toNat ls r g)) := (rfl)
theorem e_if_icmp_gt (lay : List ((Nat × List Nat) ⊕ (Nat × Nat))) (cs : Nat → sm_SP) (xs : Option (Nat × (Nat → Int32))) (rk : Nat) (K : Option Value → sm_G → Prop) (nx : Nat) (ls : sm_Lo) (st : List Value) (g : sm_G) (k : Nat → sm_Lo → List Value → sm_G → Prop) (t : Int) : sm_stp lay cs xs rk K (.if_icmp .gt t) nx ls st g k = (sm_i2 st fun x y r => sm_bc (y.toInt < x.toInt) (k t.toNat ls r g) (k nx ls r g)) := (rfl)
theorem e_if_icmp_le (lay : List ((Nat × List Nat) ⊕ (Nat × Nat))) (cs : Nat → sm_SP) (xs : Option (Nat × (Nat → Int32))) (rk : Nat) (K : Option Value → sm_G → Prop) (nx : Nat) (ls : sm_Lo) (st : List Value) (g : sm_G) (k : Nat → sm_Lo → List Value → sm_G → Prop) (t : Int) : sm_stp lay cs xs rk K (.if_icmp .le t) nx ls st g k = (sm_i2 st fun x y r => sm_bc (y.toInt < x.toInt) (k nx ls r g) (k t.toNat ls r g)) := (rfl)
theorem e_tableswitch (lay : List ((Nat × List Nat) ⊕ (Nat × Nat))) (cs : Nat → sm_SP) (xs : Option (Nat × (Nat → Int32))) (rk : Nat) (K : Option Value → sm_G → Prop) (nx : Nat) (ls : sm_Lo) (st : List Value) (g : sm_G) (k : Nat → sm_Lo → List Value → sm_G → Prop) (d : Int) (lo : Int) (hi : Int) (os : Array Int) : sm_stp lay cs xs rk K (.tableswitch d lo hi os) nx ls st g k = (sm_i1 st fun x r => (x.toInt < lo ∨ hi < x.toInt → k d.toNat ls r g) ∧ sm_tsw os.toList lo x.toInt (fun t => k t ls r g)) := (rfl)
theorem e_lookupswitch (lay : List ((Nat × List Nat) ⊕ (Nat × Nat))) (cs : Nat → sm_SP) (xs : Option (Nat × (Nat → Int32))) (rk : Nat) (K : Option Value → sm_G → Prop) (nx : Nat) (ls : sm_Lo) (st : List Value) (g : sm_G) (k : Nat → sm_Lo → List Value → sm_G → Prop) (d : Int) (ps : Array (Int × Int)) : sm_stp lay cs xs rk K (.lookupswitch d ps) nx ls st g k = (sm_i1 st fun x r => sm_lsw ps.toList d x.toInt (fun t => k t ls r g)) := (rfl)
theorem e_getfield (lay : List ((Nat × List Nat) ⊕ (Nat × Nat))) (cs : Nat → sm_SP) (xs : Option (Nat × (Nat → Int32))) (rk : Nat) (K : Option Value → sm_G → Prop) (nx : Nat) (ls : sm_Lo) (st : List Value) (g : sm_G) (k : Nat → sm_Lo → List Value → sm_G → Prop) (c : Nat) : sm_stp lay cs xs rk K (.getfield c) nx ls st g k = (sm_r1 st fun p r => sm_fg (sm_fd lay p c) (rS g p c) fun v => k nx ls (v :: r) g) := (rfl)
theorem e_putfield (lay : List ((Nat × List Nat) ⊕ (Nat × Nat))) (cs : Nat → sm_SP) (xs : Option (Nat × (Nat → Int32))) (rk : Nat) (K : Option Value → sm_G → Prop) (nx : Nat) (ls : sm_Lo) (st : List Value) (g : sm_G) (k : Nat → sm_Lo → List Value → sm_G → Prop) (c : Nat) : sm_stp lay cs xs rk K (.putfield c) nx ls st g k = (sm_i1 st fun x r => sm_r1 r fun p r => sm_fd lay p c = 1 ∧ k nx ls r (gS g p c x)) := (rfl)
theorem e_arraylength (lay : List ((Nat × List Nat) ⊕ (Nat × Nat))) (cs : Nat → sm_SP) (xs : Option (Nat × (Nat → Int32))) (rk : Nat) (K : Option Value → sm_G → Prop) (nx : Nat) (ls : sm_Lo) (st : List Value) (g : sm_G) (k : Nat → sm_Lo → List Value → sm_G → Prop)  : sm_stp lay cs xs rk K (.arraylength) nx ls st g k = (sm_r1 st fun p r => if p = 1000 then (match xs with | some q => k nx ls (.int (nI q.1) :: r) g | none => False) else 0 < (sm_ar lay p).1 ∧ k nx ls (.int (nI (sm_ar lay p).2) :: r) g) := (rfl)
theorem e_iaload (lay : List ((Nat × List Nat) ⊕ (Nat × Nat))) (cs : Nat → sm_SP) (xs : Option (Nat × (Nat → Int32))) (rk : Nat) (K : Option Value → sm_G → Prop) (nx : Nat) (ls : sm_Lo) (st : List Value) (g : sm_G) (k : Nat → sm_Lo → List Value → sm_G → Prop)  : sm_stp lay cs xs rk K (.iaload) nx ls st g k = (sm_ir st fun x p r => if p = 1000 then (match xs with | some q => sm_in x q.1 ∧ k nx ls (.int (q.2 x.toNatClampNeg) :: r) g | none => False) else (sm_ar lay p).1 = 1 ∧ sm_in x (sm_ar lay p).2 ∧ k nx ls (.int (rA g p x.toNatClampNeg) :: r) g) := (rfl)
theorem e_baload (lay : List ((Nat × List Nat) ⊕ (Nat × Nat))) (cs : Nat → sm_SP) (xs : Option (Nat × (Nat → Int32))) (rk : Nat) (K : Option Value → sm_G → Prop) (nx : Nat) (ls : sm_Lo) (st : List Value) (g : sm_G) (k : Nat → sm_Lo → List Value → sm_G → Prop)  : sm_stp lay cs xs rk K (.baload) nx ls st g k = (sm_ir st fun x p r => (sm_ar lay p).1 = 2 ∧ sm_in x (sm_ar lay p).2 ∧ k nx ls (.int (rA g p x.toNatClampNeg) :: r) g) := (rfl)
theorem e_laload (lay : List ((Nat × List Nat) ⊕ (Nat × Nat))) (cs : Nat → sm_SP) (xs : Option (Nat × (Nat → Int32))) (rk : Nat) (K : Option Value → sm_G → Prop) (nx : Nat) (ls : sm_Lo) (st : List Value) (g : sm_G) (k : Nat → sm_Lo → List Value → sm_G → Prop)  : sm_stp lay cs xs rk K (.laload) nx ls st g k = (sm_ir st fun x p r => (sm_ar lay p).1 = 3 ∧ sm_in x (sm_ar lay p).2 ∧ k nx ls (.long (rL g p x.toNatClampNeg) :: r) g) := (rfl)
theorem e_iastore (lay : List ((Nat × List Nat) ⊕ (Nat × Nat))) (cs : Nat → sm_SP) (xs : Option (Nat × (Nat → Int32))) (rk : Nat) (K : Option Value → sm_G → Prop) (nx : Nat) (ls : sm_Lo) (st : List Value) (g : sm_G) (k : Nat → sm_Lo → List Value → sm_G → Prop)  : sm_stp lay cs xs rk K (.iastore) nx ls st g k = (sm_iir st fun x i p r => (sm_ar lay p).1 = 1 ∧ sm_in i (sm_ar lay p).2 ∧ k nx ls r (gA g p (upd (rA g p) i.toNatClampNeg x))) := (rfl)
theorem e_bastore (lay : List ((Nat × List Nat) ⊕ (Nat × Nat))) (cs : Nat → sm_SP) (xs : Option (Nat × (Nat → Int32))) (rk : Nat) (K : Option Value → sm_G → Prop) (nx : Nat) (ls : sm_Lo) (st : List Value) (g : sm_G) (k : Nat → sm_Lo → List Value → sm_G → Prop)  : sm_stp lay cs xs rk K (.bastore) nx ls st g k = (sm_iir st fun x i p r => (sm_ar lay p).1 = 2 ∧ sm_in i (sm_ar lay p).2 ∧ sm_zr 1 x ∧ k nx ls r (gA g p (upd (rA g p) i.toNatClampNeg x))) := (rfl)
theorem e_lastore (lay : List ((Nat × List Nat) ⊕ (Nat × Nat))) (cs : Nat → sm_SP) (xs : Option (Nat × (Nat → Int32))) (rk : Nat) (K : Option Value → sm_G → Prop) (nx : Nat) (ls : sm_Lo) (st : List Value) (g : sm_G) (k : Nat → sm_Lo → List Value → sm_G → Prop)  : sm_stp lay cs xs rk K (.lastore) nx ls st g k = (sm_lir st fun x i p r => (sm_ar lay p).1 = 3 ∧ sm_in i (sm_ar lay p).2 ∧ k nx ls r (gL g p (vp_updL (rL g p) i.toNatClampNeg x))) := (rfl)
theorem e_invokeinterface (lay : List ((Nat × List Nat) ⊕ (Nat × Nat))) (cs : Nat → sm_SP) (xs : Option (Nat × (Nat → Int32))) (rk : Nat) (K : Option Value → sm_G → Prop) (nx : Nat) (ls : sm_Lo) (st : List Value) (g : sm_G) (k : Nat → sm_Lo → List Value → sm_G → Prop) (mid : Nat) (n : Nat) : sm_stp lay cs xs rk K (.invokeinterface mid n) nx ls st g k = (sm_pop n st [] fun as r => r.length ≤ 4 ∧ cs mid as g fun v g' => k nx ls (sm_psh v r) g') := (rfl)
theorem e_ireturn (lay : List ((Nat × List Nat) ⊕ (Nat × Nat))) (cs : Nat → sm_SP) (xs : Option (Nat × (Nat → Int32))) (rk : Nat) (K : Option Value → sm_G → Prop) (nx : Nat) (ls : sm_Lo) (st : List Value) (g : sm_G) (k : Nat → sm_Lo → List Value → sm_G → Prop)  : sm_stp lay cs xs rk K (.ireturn) nx ls st g k = (sm_i1 st fun x r => r = [] ∧ sm_zr rk x ∧ K (some (.int x)) g) := (rfl)
theorem e_lreturn (lay : List ((Nat × List Nat) ⊕ (Nat × Nat))) (cs : Nat → sm_SP) (xs : Option (Nat × (Nat → Int32))) (rk : Nat) (K : Option Value → sm_G → Prop) (nx : Nat) (ls : sm_Lo) (st : List Value) (g : sm_G) (k : Nat → sm_Lo → List Value → sm_G → Prop)  : sm_stp lay cs xs rk K (.lreturn) nx ls st g k = (sm_l1 st fun x r => r = [] ∧ rk = 2 ∧ K (some (.long x)) g) := (rfl)
theorem e_areturn (lay : List ((Nat × List Nat) ⊕ (Nat × Nat))) (cs : Nat → sm_SP) (xs : Option (Nat × (Nat → Int32))) (rk : Nat) (K : Option Value → sm_G → Prop) (nx : Nat) (ls : sm_Lo) (st : List Value) (g : sm_G) (k : Nat → sm_Lo → List Value → sm_G → Prop)  : sm_stp lay cs xs rk K (.areturn) nx ls st g k = (sm_r1 st fun x r => r = [] ∧ rk = 3 ∧ K (some (.ref x)) g) := (rfl)
theorem e_return_ (lay : List ((Nat × List Nat) ⊕ (Nat × Nat))) (cs : Nat → sm_SP) (xs : Option (Nat × (Nat → Int32))) (rk : Nat) (K : Option Value → sm_G → Prop) (nx : Nat) (ls : sm_Lo) (st : List Value) (g : sm_G) (k : Nat → sm_Lo → List Value → sm_G → Prop)  : sm_stp lay cs xs rk K (.return_) nx ls st g k = (st = [] ∧ rk = 4 ∧ K none g) := (rfl)
theorem e_ldi_0 (x : Int32) (l : sm_Lo) (f : Int32 → Prop) : sm_ldi (some (.int x) :: l) 0 f = f x := (rfl)
theorem e_ldi_1 (o : Option Value) (l : sm_Lo) (n : Nat) (f : Int32 → Prop) : sm_ldi (o :: l) (n + 1) f = sm_ldi l n f := (rfl)
theorem e_ldl_0 (x : Int64) (l : sm_Lo) (f : Int64 → Prop) : sm_ldl (some (.long x) :: l) 0 f = f x := (rfl)
theorem e_ldl_1 (o : Option Value) (l : sm_Lo) (n : Nat) (f : Int64 → Prop) : sm_ldl (o :: l) (n + 1) f = sm_ldl l n f := (rfl)
theorem e_ldr_0 (x : Nat) (l : sm_Lo) (f : Nat → Prop) : sm_ldr (some (.ref x) :: l) 0 f = f x := (rfl)
theorem e_ldr_1 (o : Option Value) (l : sm_Lo) (n : Nat) (f : Nat → Prop) : sm_ldr (o :: l) (n + 1) f = sm_ldr l n f := (rfl)
theorem e_un_0 (x : Int32) : sm_un (some (.int x)) = some (.int x) := (rfl)
theorem e_un_1 (x : Nat) : sm_un (some (.ref x)) = some (.ref x) := (rfl)
theorem e_un_2 (x : Int64) : sm_un (some (.long x)) = none := (rfl)
theorem e_un_3  : sm_un none = none := (rfl)
theorem e_st1_0 (o : Option Value) (l : sm_Lo) (v : Value) : sm_st1 (o :: l) 0 v = some v :: l := (rfl)
theorem e_st1_1 (o : Option Value) (l : sm_Lo) (n : Nat) (v : Value) : sm_st1 (o :: l) (n + 1) v = (if n = 0 then sm_un o else o) :: sm_st1 l n v := (rfl)
theorem e_st2_0 (o w : Option Value) (l : sm_Lo) (v : Value) : sm_st2 (o :: w :: l) 0 v = some v :: none :: l := (rfl)
theorem e_st2_1 (o : Option Value) (l : sm_Lo) (n : Nat) (v : Value) : sm_st2 (o :: l) (n + 1) v = (if n = 0 then sm_un o else o) :: sm_st2 l n v := (rfl)
theorem e_i1_0 (x : Int32) (r : List Value) (f : Int32 → List Value → Prop) : sm_i1 (.int x :: r) f = f x r := (rfl)
theorem e_i2_0 (x y : Int32) (r : List Value) (f : Int32 → Int32 → List Value → Prop) : sm_i2 (.int y :: .int x :: r) f = f x y r := (rfl)
theorem e_l1_0 (x : Int64) (r : List Value) (f : Int64 → List Value → Prop) : sm_l1 (.long x :: r) f = f x r := (rfl)
theorem e_l2_0 (x y : Int64) (r : List Value) (f : Int64 → Int64 → List Value → Prop) : sm_l2 (.long y :: .long x :: r) f = f x y r := (rfl)
theorem e_li_0 (x : Int64) (y : Int32) (r : List Value) (f : Int64 → Int32 → List Value → Prop) : sm_li (.int y :: .long x :: r) f = f x y r := (rfl)
theorem e_r1_0 (x : Nat) (r : List Value) (f : Nat → List Value → Prop) : sm_r1 (.ref x :: r) f = f x r := (rfl)
theorem e_ir_0 (x : Int32) (p : Nat) (r : List Value) (f : Int32 → Nat → List Value → Prop) : sm_ir (.int x :: .ref p :: r) f = f x p r := (rfl)
theorem e_iir_0 (x i : Int32) (p : Nat) (r : List Value) (f : Int32 → Int32 → Nat → List Value → Prop) : sm_iir (.int x :: .int i :: .ref p :: r) f = f x i p r := (rfl)
theorem e_lir_0 (x : Int64) (i : Int32) (p : Nat) (r : List Value) (f : Int64 → Int32 → Nat → List Value → Prop) : sm_lir (.long x :: .int i :: .ref p :: r) f = f x i p r := (rfl)
theorem e_bc_0 (c a b : Prop) : sm_bc c a b = ((c → a) ∧ (¬ c → b)) := (rfl)
theorem e_fg_0 (x : Int32) (f : Value → Prop) : sm_fg 1 x f = f (.int x) := (rfl)
theorem e_fg_1 (q : Nat) (x : Int32) (f : Value → Prop) : sm_fg (q + 2) x f = f (.ref q) := (rfl)
theorem e_pop_0 (st as : List Value) (f : List Value → List Value → Prop) : sm_pop 0 st as f = f as st := (rfl)
theorem e_pop_1 (n : Nat) (v : Value) (st as : List Value) (f : List Value → List Value → Prop) : sm_pop (n + 1) (v :: st) as f = sm_pop n st (v :: as) f := (rfl)
theorem e_psh_0 (v : Value) (r : List Value) : sm_psh (some v) r = v :: r := (rfl)
theorem e_psh_1 (r : List Value) : sm_psh none r = r := (rfl)
theorem e_tsw_0 (lo x : Int) (f : Nat → Prop) : sm_tsw [] lo x f = True := (rfl)
theorem e_tsw_1 (o : Int) (os : List Int) (lo x : Int) (f : Nat → Prop) : sm_tsw (o :: os) lo x f = ((x = lo → f o.toNat) ∧ sm_tsw os (lo + 1) x f) := (rfl)
theorem e_lsw_0 (d x : Int) (f : Nat → Prop) : sm_lsw [] d x f = f d.toNat := (rfl)
theorem e_lsw_1 (a o : Int) (ps : List (Int × Int)) (d x : Int) (f : Nat → Prop) : sm_lsw ((a, o) :: ps) d x f = ((x = a → f o.toNat) ∧ (¬ x = a → sm_lsw ps d x f)) := (rfl)
theorem e_cl_0 (m : Nat) (s : sm_SP) (r : List (Nat × sm_SP)) (mid : Nat) : sm_cl ((m, s) :: r) mid = if mid = m then s else sm_cl r mid := (rfl)
theorem e_zr_f (x : Int32) : sm_zr 0 x = True := eq_true (Or.inl rfl)
theorem e_zr_0 : sm_zr 1 (nI 0) = True := eq_true (Or.inr ⟨rfl, Or.inl rfl⟩)
theorem e_zr_1 : sm_zr 1 (nI 1) = True := eq_true (Or.inr ⟨rfl, Or.inr rfl⟩)
theorem e_go_f (lay : List ((Nat × List Nat) ⊕ (Nat × Nat))) (cs : Nat → sm_SP) (xs : Option (Nat × (Nat → Int32))) (rk : Nat) (K : Option Value → sm_G → Prop) (i : Instr) (nx : Nat) (P : Prop) (ls : sm_Lo) (st : List Value) (g : sm_G) (k : Nat → sm_Lo → List Value → sm_G → Prop) : sm_go lay cs xs rk K (some (i, nx, false)) P ls st g k = sm_stp lay cs xs rk K i nx ls st g k := (rfl)
theorem e_go_t (lay : List ((Nat × List Nat) ⊕ (Nat × Nat))) (cs : Nat → sm_SP) (xs : Option (Nat × (Nat → Int32))) (rk : Nat) (K : Option Value → sm_G → Prop) (i : Instr) (nx : Nat) (P : Prop) (ls : sm_Lo) (st : List Value) (g : sm_G) (k : Nat → sm_Lo → List Value → sm_G → Prop) : sm_go lay cs xs rk K (some (i, nx, true)) P ls st g k = P := (rfl)
theorem e_g1 (lay : List ((Nat × List Nat) ⊕ (Nat × Nat))) (cs : Nat → sm_SP) (xs : Option (Nat × (Nat → Int32))) (rk : Nat) (K : Option Value → sm_G → Prop) (i : Instr) (nx : Nat) (b : Bool) (ls : sm_Lo) (st : List Value) (g : sm_G) (k : Nat → sm_Lo → List Value → sm_G → Prop) : sm_g1 lay cs xs rk K (some (i, nx, b)) ls st g k = sm_stp lay cs xs rk K i nx ls st g k := (rfl)
/-- all of them, for simp -/
theorem sm_eqs : (∀ (lay : List ((Nat × List Nat) ⊕ (Nat × Nat))) (cs : Nat → sm_SP) (xs : Option (Nat × (Nat → Int32))) (rk : Nat) (K : Option Value → sm_G → Prop) (nx : Nat) (ls : sm_Lo) (st : List Value) (g : sm_G) (k : Nat → sm_Lo → List Value → sm_G → Prop) (n : Nat), sm_stp lay cs xs rk K (.iload n) nx ls st g k = (sm_ldi ls n fun x => k nx ls (.int x :: st) g)) ∧ (∀ (lay : List ((Nat × List Nat) ⊕ (Nat × Nat))) (cs : Nat → sm_SP) (xs : Option (Nat × (Nat → Int32))) (rk : Nat) (K : Option Value → sm_G → Prop) (nx : Nat) (ls : sm_Lo) (st : List Value) (g : sm_G) (k : Nat → sm_Lo → List Value → sm_G → Prop) (n : Nat), sm_stp lay cs xs rk K (.lload n) nx ls st g k = (sm_ldl ls n fun x => k nx ls (.long x :: st) g)) ∧ (∀ (lay : List ((Nat × List Nat) ⊕ (Nat × Nat))) (cs : Nat → sm_SP) (xs : Option (Nat × (Nat → Int32))) (rk : Nat) (K : Option Value → sm_G → Prop) (nx : Nat) (ls : sm_Lo) (st : List Value) (g : sm_G) (k : Nat → sm_Lo → List Value → sm_G → Prop) (n : Nat), sm_stp lay cs xs rk K (.aload n) nx ls st g k = (sm_ldr ls n fun x => k nx ls (.ref x :: st) g)) ∧ (∀ (lay : List ((Nat × List Nat) ⊕ (Nat × Nat))) (cs : Nat → sm_SP) (xs : Option (Nat × (Nat → Int32))) (rk : Nat) (K : Option Value → sm_G → Prop) (nx : Nat) (ls : sm_Lo) (st : List Value) (g : sm_G) (k : Nat → sm_Lo → List Value → sm_G → Prop) (n : Nat), sm_stp lay cs xs rk K (.istore n) nx ls st g k = (sm_i1 st fun x r => k nx (sm_st1 ls n (.int x)) r g)) ∧ (∀ (lay : List ((Nat × List Nat) ⊕ (Nat × Nat))) (cs : Nat → sm_SP) (xs : Option (Nat × (Nat → Int32))) (rk : Nat) (K : Option Value → sm_G → Prop) (nx : Nat) (ls : sm_Lo) (st : List Value) (g : sm_G) (k : Nat → sm_Lo → List Value → sm_G → Prop) (n : Nat), sm_stp lay cs xs rk K (.lstore n) nx ls st g k = (sm_l1 st fun x r => k nx (sm_st2 ls n (.long x)) r g)) ∧ (∀ (lay : List ((Nat × List Nat) ⊕ (Nat × Nat))) (cs : Nat → sm_SP) (xs : Option (Nat × (Nat → Int32))) (rk : Nat) (K : Option Value → sm_G → Prop) (nx : Nat) (ls : sm_Lo) (st : List Value) (g : sm_G) (k : Nat → sm_Lo → List Value → sm_G → Prop) (n : Nat), sm_stp lay cs xs rk K (.astore n) nx ls st g k = (sm_r1 st fun x r => k nx (sm_st1 ls n (.ref x)) r g)) ∧ (∀ (lay : List ((Nat × List Nat) ⊕ (Nat × Nat))) (cs : Nat → sm_SP) (xs : Option (Nat × (Nat → Int32))) (rk : Nat) (K : Option Value → sm_G → Prop) (nx : Nat) (ls : sm_Lo) (st : List Value) (g : sm_G) (k : Nat → sm_Lo → List Value → sm_G → Prop) (n : Nat), sm_stp lay cs xs rk K (.ret n) nx ls st g k = (k nx ls (.int (nI n) :: st) g)) ∧ (∀ (lay : List ((Nat × List Nat) ⊕ (Nat × Nat))) (cs : Nat → sm_SP) (xs : Option (Nat × (Nat → Int32))) (rk : Nat) (K : Option Value → sm_G → Prop) (nx : Nat) (ls : sm_Lo) (st : List Value) (g : sm_G) (k : Nat → sm_Lo → List Value → sm_G → Prop) (n : Nat), sm_stp lay cs xs rk K (.putstatic n) nx ls st g k = (k nx ls (.int (sI n) :: st) g)) ∧ (∀ (lay : List ((Nat × List Nat) ⊕ (Nat × Nat))) (cs : Nat → sm_SP) (xs : Option (Nat × (Nat → Int32))) (rk : Nat) (K : Option Value → sm_G → Prop) (nx : Nat) (ls : sm_Lo) (st : List Value) (g : sm_G) (k : Nat → sm_Lo → List Value → sm_G → Prop) (n : Nat), sm_stp lay cs xs rk K (.getstatic n) nx ls st g k = (k nx ls (.long (lN n) :: st) g)) ∧ (∀ (lay : List ((Nat × List Nat) ⊕ (Nat × Nat))) (cs : Nat → sm_SP) (xs : Option (Nat × (Nat → Int32))) (rk : Nat) (K : Option Value → sm_G → Prop) (nx : Nat) (ls : sm_Lo) (st : List Value) (g : sm_G) (k : Nat → sm_Lo → List Value → sm_G → Prop) (v : Int), sm_stp lay cs xs rk K (.jsr v) nx ls st g k = (k nx ls (.long (Int64.ofInt v) :: st) g)) ∧ (∀ (lay : List ((Nat × List Nat) ⊕ (Nat × Nat))) (cs : Nat → sm_SP) (xs : Option (Nat × (Nat → Int32))) (rk : Nat) (K : Option Value → sm_G → Prop) (nx : Nat) (ls : sm_Lo) (st : List Value) (g : sm_G) (k : Nat → sm_Lo → List Value → sm_G → Prop) (n : Nat) (d : Nat), sm_stp lay cs xs rk K (.multianewarray n d) nx ls st g k = (sm_ldi ls n fun x => k nx (sm_st1 ls n (.int (x + nI d))) st g)) ∧ (∀ (lay : List ((Nat × List Nat) ⊕ (Nat × Nat))) (cs : Nat → sm_SP) (xs : Option (Nat × (Nat → Int32))) (rk : Nat) (K : Option Value → sm_G → Prop) (nx : Nat) (ls : sm_Lo) (st : List Value) (g : sm_G) (k : Nat → sm_Lo → List Value → sm_G → Prop) (n : Nat) (d : Int), sm_stp lay cs xs rk K (.iinc n d) nx ls st g k = (sm_ldi ls n fun x => k nx (sm_st1 ls n (.int (x + Int32.ofInt d))) st g)) ∧ (∀ (lay : List ((Nat × List Nat) ⊕ (Nat × Nat))) (cs : Nat → sm_SP) (xs : Option (Nat × (Nat → Int32))) (rk : Nat) (K : Option Value → sm_G → Prop) (nx : Nat) (ls : sm_Lo) (st : List Value) (g : sm_G) (k : Nat → sm_Lo → List Value → sm_G → Prop) , sm_stp lay cs xs rk K (.iadd) nx ls st g k = (sm_i2 st fun x y r => k nx ls (.int (x + y) :: r) g)) ∧ (∀ (lay : List ((Nat × List Nat) ⊕ (Nat × Nat))) (cs : Nat → sm_SP) (xs : Option (Nat × (Nat → Int32))) (rk : Nat) (K : Option Value → sm_G → Prop) (nx : Nat) (ls : sm_Lo) (st : List Value) (g : sm_G) (k : Nat → sm_Lo → List Value → sm_G → Prop) , sm_stp lay cs xs rk K (.isub) nx ls st g k = (sm_i2 st fun x y r => k nx ls (.int (x - y) :: r) g)) ∧ (∀ (lay : List ((Nat × List Nat) ⊕ (Nat × Nat))) (cs : Nat → sm_SP) (xs : Option (Nat × (Nat → Int32))) (rk : Nat) (K : Option Value → sm_G → Prop) (nx : Nat) (ls : sm_Lo) (st : List Value) (g : sm_G) (k : Nat → sm_Lo → List Value → sm_G → Prop) , sm_stp lay cs xs rk K (.imul) nx ls st g k = (sm_i2 st fun x y r => k nx ls (.int (x * y) :: r) g)) ∧ (∀ (lay : List ((Nat × List Nat) ⊕ (Nat × Nat))) (cs : Nat → sm_SP) (xs : Option (Nat × (Nat → Int32))) (rk : Nat) (K : Option Value → sm_G → Prop) (nx : Nat) (ls : sm_Lo) (st : List Value) (g : sm_G) (k : Nat → sm_Lo → List Value → sm_G → Prop) , sm_stp lay cs xs rk K (.idiv) nx ls st g k = (sm_i2 st fun x y r => y ≠ 0 ∧ k nx ls (.int (x / y) :: r) g)) ∧ (∀ (lay : List ((Nat × List Nat) ⊕ (Nat × Nat))) (cs : Nat → sm_SP) (xs : Option (Nat × (Nat → Int32))) (rk : Nat) (K : Option Value → sm_G → Prop) (nx : Nat) (ls : sm_Lo) (st : List Value) (g : sm_G) (k : Nat → sm_Lo → List Value → sm_G → Prop) , sm_stp lay cs xs rk K (.irem) nx ls st g k = (sm_i2 st fun x y r => y ≠ 0 ∧ k nx ls (.int (x - x / y * y) :: r) g)) ∧ (∀ (lay : List ((Nat × List Nat) ⊕ (Nat × Nat))) (cs : Nat → sm_SP) (xs : Option (Nat × (Nat → Int32))) (rk : Nat) (K : Option Value → sm_G → Prop) (nx : Nat) (ls : sm_Lo) (st : List Value) (g : sm_G) (k : Nat → sm_Lo → List Value → sm_G → Prop) , sm_stp lay cs xs rk K (.iand) nx ls st g k = (sm_i2 st fun x y r => k nx ls (.int (x &&& y) :: r) g)) ∧ (∀ (lay : List ((Nat × List Nat) ⊕ (Nat × Nat))) (cs : Nat → sm_SP) (xs : Option (Nat × (Nat → Int32))) (rk : Nat) (K : Option Value → sm_G → Prop) (nx : Nat) (ls : sm_Lo) (st : List Value) (g : sm_G) (k : Nat → sm_Lo → List Value → sm_G → Prop) , sm_stp lay cs xs rk K (.ior) nx ls st g k = (sm_i2 st fun x y r => k nx ls (.int (x ||| y) :: r) g)) ∧ (∀ (lay : List ((Nat × List Nat) ⊕ (Nat × Nat))) (cs : Nat → sm_SP) (xs : Option (Nat × (Nat → Int32))) (rk : Nat) (K : Option Value → sm_G → Prop) (nx : Nat) (ls : sm_Lo) (st : List Value) (g : sm_G) (k : Nat → sm_Lo → List Value → sm_G → Prop) , sm_stp lay cs xs rk K (.ixor) nx ls st g k = (sm_i2 st fun x y r => k nx ls (.int (x ^^^ y) :: r) g)) ∧ (∀ (lay : List ((Nat × List Nat) ⊕ (Nat × Nat))) (cs : Nat → sm_SP) (xs : Option (Nat × (Nat → Int32))) (rk : Nat) (K : Option Value → sm_G → Prop) (nx : Nat) (ls : sm_Lo) (st : List Value) (g : sm_G) (k : Nat → sm_Lo → List Value → sm_G → Prop) , sm_stp lay cs xs rk K (.ishl) nx ls st g k = (sm_i2 st fun x y r => k nx ls (.int (x <<< (y &&& 31)) :: r) g)) ∧ (∀ (lay : List ((Nat × List Nat) ⊕ (Nat × Nat))) (cs : Nat → sm_SP) (xs : Option (Nat × (Nat → Int32))) (rk : Nat) (K : Option Value → sm_G → Prop) (nx : Nat) (ls : sm_Lo) (st : List Value) (g : sm_G) (k : Nat → sm_Lo → List Value → sm_G → Prop) , sm_stp lay cs xs rk K (.ishr) nx ls st g k = (sm_i2 st fun x y r => k nx ls (.int (x >>> (y &&& 31)) :: r) g)) ∧ (∀ (lay : List ((Nat × List Nat) ⊕ (Nat × Nat))) (cs : Nat → sm_SP) (xs : Option (Nat × (Nat → Int32))) (rk : Nat) (K : Option Value → sm_G → Prop) (nx : Nat) (ls : sm_Lo) (st : List Value) (g : sm_G) (k : Nat → sm_Lo → List Value → sm_G → Prop) , sm_stp lay cs xs rk K (.iushr) nx ls st g k = (sm_i2 st fun x y r => k nx ls (.int (x.toUInt32 >>> (y.toUInt32 &&& Int32.toUInt32 31)).toInt32 :: r) g)) ∧ (∀ (lay : List ((Nat × List Nat) ⊕ (Nat × Nat))) (cs : Nat → sm_SP) (xs : Option (Nat × (Nat → Int32))) (rk : Nat) (K : Option Value → sm_G → Prop) (nx : Nat) (ls : sm_Lo) (st : List Value) (g : sm_G) (k : Nat → sm_Lo → List Value → sm_G → Prop) , sm_stp lay cs xs rk K (.ladd) nx ls st g k = (sm_l2 st fun x y r => k nx ls (.long (x + y) :: r) g)) ∧ (∀ (lay : List ((Nat × List Nat) ⊕ (Nat × Nat))) (cs : Nat → sm_SP) (xs : Option (Nat × (Nat → Int32))) (rk : Nat) (K : Option Value → sm_G → Prop) (nx : Nat) (ls : sm_Lo) (st : List Value) (g : sm_G) (k : Nat → sm_Lo → List Value → sm_G → Prop) , sm_stp lay cs xs rk K (.lsub) nx ls st g k = (sm_l2 st fun x y r => k nx ls (.long (x - y) :: r) g)) ∧ (∀ (lay : List ((Nat × List Nat) ⊕ (Nat × Nat))) (cs : Nat → sm_SP) (xs : Option (Nat × (Nat → Int32))) (rk : Nat) (K : Option Value → sm_G → Prop) (nx : Nat) (ls : sm_Lo) (st : List Value) (g : sm_G) (k : Nat → sm_Lo → List Value → sm_G → Prop) , sm_stp lay cs xs rk K (.lmul) nx ls st g k = (sm_l2 st fun x y r => k nx ls (.long (x * y) :: r) g)) ∧ (∀ (lay : List ((Nat × List Nat) ⊕ (Nat × Nat))) (cs : Nat → sm_SP) (xs : Option (Nat × (Nat → Int32))) (rk : Nat) (K : Option Value → sm_G → Prop) (nx : Nat) (ls : sm_Lo) (st : List Value) (g : sm_G) (k : Nat → sm_Lo → List Value → sm_G → Prop) , sm_stp lay cs xs rk K (.ldiv) nx ls st g k = (sm_l2 st fun x y r => y ≠ 0 ∧ k nx ls (.long (x / y) :: r) g)) ∧ (∀ (lay : List ((Nat × List Nat) ⊕ (Nat × Nat))) (cs : Nat → sm_SP) (xs : Option (Nat × (Nat → Int32))) (rk : Nat) (K : Option Value → sm_G → Prop) (nx : Nat) (ls : sm_Lo) (st : List Value) (g : sm_G) (k : Nat → sm_Lo → List Value → sm_G → Prop) , sm_stp lay cs xs rk K (.land) nx ls st g k = (sm_l2 st fun x y r => k nx ls (.long (x &&& y) :: r) g)) ∧ (∀ (lay : List ((Nat × List Nat) ⊕ (Nat × Nat))) (cs : Nat → sm_SP) (xs : Option (Nat × (Nat → Int32))) (rk : Nat) (K : Option Value → sm_G → Prop) (nx : Nat) (ls : sm_Lo) (st : List Value) (g : sm_G) (k : Nat → sm_Lo → List Value → sm_G → Prop) , sm_stp lay cs xs rk K (.lor) nx ls st g k = (sm_l2 st fun x y r => k nx ls (.long (x ||| y) :: r) g)) ∧ (∀ (lay : List ((Nat × List Nat) ⊕ (Nat × Nat))) (cs : Nat → sm_SP) (xs : Option (Nat × (Nat → Int32))) (rk : Nat) (K : Option Value → sm_G → Prop) (nx : Nat) (ls : sm_Lo) (st : List Value) (g : sm_G) (k : Nat → sm_Lo → List Value → sm_G → Prop) , sm_stp lay cs xs rk K (.lxor) nx ls st g k = (sm_l2 st fun x y r => k nx ls (.long (x ^^^ y) :: r) g)) ∧ (∀ (lay : List ((Nat × List Nat) ⊕ (Nat × Nat))) (cs : Nat → sm_SP) (xs : Option (Nat × (Nat → Int32))) (rk : Nat) (K : Option Value → sm_G → Prop) (nx : Nat) (ls : sm_Lo) (st : List Value) (g : sm_G) (k : Nat → sm_Lo → List Value → sm_G → Prop) , sm_stp lay cs xs rk K (.lneg) nx ls st g k = (sm_l1 st fun x r => k nx ls (.long (-x) :: r) g)) ∧ (∀ (lay : List ((Nat × List Nat) ⊕ (Nat × Nat))) (cs : Nat → sm_SP) (xs : Option (Nat × (Nat → Int32))) (rk : Nat) (K : Option Value → sm_G → Prop) (nx : Nat) (ls : sm_Lo) (st : List Value) (g : sm_G) (k : Nat → sm_Lo → List Value → sm_G → Prop) , sm_stp lay cs xs rk K (.lshl) nx ls st g k = (sm_li st fun x y r => k nx ls (.long (x <<< (y.toInt64 &&& 63)) :: r) g)) ∧ (∀ (lay : List ((Nat × List Nat) ⊕ (Nat × Nat))) (cs : Nat → sm_SP) (xs : Option (Nat × (Nat → Int32))) (rk : Nat) (K : Option Value → sm_G → Prop) (nx : Nat) (ls : sm_Lo) (st : List Value) (g : sm_G) (k : Nat → sm_Lo → List Value → sm_G → Prop) , sm_stp lay cs xs rk K (.lshr) nx ls st g k = (sm_li st fun x y r => k nx ls (.long (x >>> (y.toInt64 &&& 63)) :: r) g)) ∧ (∀ (lay : List ((Nat × List Nat) ⊕ (Nat × Nat))) (cs : Nat → sm_SP) (xs : Option (Nat × (Nat → Int32))) (rk : Nat) (K : Option Value → sm_G → Prop) (nx : Nat) (ls : sm_Lo) (st : List Value) (g : sm_G) (k : Nat → sm_Lo → List Value → sm_G → Prop) , sm_stp lay cs xs rk K (.lushr) nx ls st g k = (sm_li st fun x y r => k nx ls (.long (x.toUInt64 >>> (y.toInt64.toUInt64 &&& Int64.toUInt64 63)).toInt64 :: r) g)) ∧ (∀ (lay : List ((Nat × List Nat) ⊕ (Nat × Nat))) (cs : Nat → sm_SP) (xs : Option (Nat × (Nat → Int32))) (rk : Nat) (K : Option Value → sm_G → Prop) (nx : Nat) (ls : sm_Lo) (st : List Value) (g : sm_G) (k : Nat → sm_Lo → List Value → sm_G → Prop) , sm_stp lay cs xs rk K (.lcmp) nx ls st g k = (sm_l2 st fun x y r => k nx ls (.int (lg_cmp x y) :: r) g)) ∧ (∀ (lay : List ((Nat × List Nat) ⊕ (Nat × Nat))) (cs : Nat → sm_SP) (xs : Option (Nat × (Nat → Int32))) (rk : Nat) (K : Option Value → sm_G → Prop) (nx : Nat) (ls : sm_Lo) (st : List Value) (g : sm_G) (k : Nat → sm_Lo → List Value → sm_G → Prop) , sm_stp lay cs xs rk K (.i2l) nx ls st g k = (sm_i1 st fun x r => k nx ls (.long x.toInt64 :: r) g)) ∧ (∀ (lay : List ((Nat × List Nat) ⊕ (Nat × Nat))) (cs : Nat → sm_SP) (xs : Option (Nat × (Nat → Int32))) (rk : Nat) (K : Option Value → sm_G → Prop) (nx : Nat) (ls : sm_Lo) (st : List Value) (g : sm_G) (k : Nat → sm_Lo → List Value → sm_G → Prop) , sm_stp lay cs xs rk K (.l2i) nx ls st g k = (sm_l1 st fun x r => k nx ls (.int x.toInt32 :: r) g)) ∧ (∀ (lay : List ((Nat × List Nat) ⊕ (Nat × Nat))) (cs : Nat → sm_SP) (xs : Option (Nat × (Nat → Int32))) (rk : Nat) (K : Option Value → sm_G → Prop) (nx : Nat) (ls : sm_Lo) (st : List Value) (g : sm_G) (k : Nat → sm_Lo → List Value → sm_G → Prop) , sm_stp lay cs xs rk K (.dup) nx ls st g k = ((match st with | v :: r => v.category = 1 ∧ k nx ls (v :: v :: r) g | _ => False))) ∧ (∀ (lay : List ((Nat × List Nat) ⊕ (Nat × Nat))) (cs : Nat → sm_SP) (xs : Option (Nat × (Nat → Int32))) (rk : Nat) (K : Option Value → sm_G → Prop) (nx : Nat) (ls : sm_Lo) (st : List Value) (g : sm_G) (k : Nat → sm_Lo → List Value → sm_G → Prop) , sm_stp lay cs xs rk K (.dup2) nx ls st g k = ((match st with | .long x :: r => k nx ls (.long x :: .long x :: r) g | v :: w :: r => v.category = 1 ∧ w.category = 1 ∧ k nx ls (v :: w :: v :: w :: r) g | _ => False))) ∧ (∀ (lay : List ((Nat × List Nat) ⊕ (Nat × Nat))) (cs : Nat → sm_SP) (xs : Option (Nat × (Nat → Int32))) (rk : Nat) (K : Option Value → sm_G → Prop) (nx : Nat) (ls : sm_Lo) (st : List Value) (g : sm_G) (k : Nat → sm_Lo → List Value → sm_G → Prop) (t : Int), sm_stp lay cs xs rk K (.goto t) nx ls st g k = (k t.toNat ls st g)) ∧ (∀ (lay : List ((Nat × List Nat) ⊕ (Nat × Nat))) (cs : Nat → sm_SP) (xs : Option (Nat × (Nat → Int32))) (rk : Nat) (K : Option Value → sm_G → Prop) (nx : Nat) (ls : sm_Lo) (st : List Value) (g : sm_G) (k : Nat → sm_Lo → List Value → sm_G → Prop) (t : Int), sm_stp lay cs xs rk K (.ifCond .eq t) nx ls st g k = (sm_i1 st fun x r => sm_bc (x = 0) (k t.toNat ls r g) (k nx ls r g))) ∧ (∀ (lay : List ((Nat × List Nat) ⊕ (Nat × Nat))) (cs : Nat → sm_SP) (xs : Option (Nat × (Nat → Int32))) (rk : Nat) (K : Option Value → sm_G → Prop) (nx : Nat) (ls : sm_Lo) (st : List Value) (g : sm_G) (k : Nat → sm_Lo → List Value → sm_G → Prop) (t : Int), sm_stp lay cs xs rk K (.ifCond .ne t) nx ls st g k = (sm_i1 st fun x r => sm_bc (x = 0) (k nx ls r g) (k t.toNat ls r g))) ∧ (∀ (lay : List ((Nat × List Nat) ⊕ (Nat × Nat))) (cs : Nat → sm_SP) (xs : Option (Nat × (Nat → Int32))) (rk : Nat) (K : Option Value → sm_G → Prop) (nx : Nat) (ls : sm_Lo) (st : List Value) (g : sm_G) (k : Nat → sm_Lo → List Value → sm_G → Prop) (t : Int), sm_stp lay cs xs rk K (.ifCond .lt t) nx ls st g k = (sm_i1 st fun x r => sm_bc (x.toInt < 0) (k t.toNat ls r g) (k nx ls r g))) ∧ (∀ (lay : List ((Nat × List Nat) ⊕ (Nat × Nat))) (cs : Nat → sm_SP) (xs : Option (Nat × (Nat → Int32))) (rk : Nat) (K : Option Value → sm_G → Prop) (nx : Nat) (ls : sm_Lo) (st : List Value) (g : sm_G) (k : Nat → sm_Lo → List Value → sm_G → Prop) (t : Int), sm_stp lay cs xs rk K (.ifCond .ge t) nx ls st g k = (sm_i1 st fun x r => sm_bc (x.toInt < 0) (k nx ls r g) (k t.toNat ls r g))) ∧ (∀ (lay : List ((Nat × List Nat) ⊕ (Nat × Nat))) (cs : Nat → sm_SP) (xs : Option (Nat × (Nat → Int32))) (rk : Nat) (K : Option Value → sm_G → Prop) (nx : Nat) (ls : sm_Lo) (st : List Value) (g : sm_G) (k : Nat → sm_Lo → List Value → sm_G → Prop) (t : Int), sm_stp lay cs xs rk K (.ifCond .gt t) nx ls st g k = (sm_i1 st fun x r => sm_bc (0 < x.toInt) (k t.toNat ls r g) (k nx ls r g))) ∧ (∀ (lay : List ((Nat × List Nat) ⊕ (Nat × Nat))) (cs : Nat → sm_SP) (xs : Option (Nat × (Nat → Int32))) (rk : Nat) (K : Option Value → sm_G → Prop) (nx : Nat) (ls : sm_Lo) (st : List Value) (g : sm_G) (k : Nat → sm_Lo → List Value → sm_G → Prop) (t : Int), sm_stp lay cs xs rk K (.ifCond .le t) nx ls st g k = (sm_i1 st fun x r => sm_bc (0 < x.toInt) (k nx ls r g) (k t.toNat ls r g))) ∧ (∀ (lay : List ((Nat × List Nat) ⊕ (Nat × Nat))) (cs : Nat → sm_SP) (xs : Option (Nat × (Nat → Int32))) (rk : Nat) (K : Option Value → sm_G → Prop) (nx : Nat) (ls : sm_Lo) (st : List Value) (g : sm_G) (k : Nat → sm_Lo → List Value → sm_G → Prop) (t : Int), sm_stp lay cs xs rk K (.if_icmp .eq t) nx ls st g k = (sm_i2 st fun x y r => sm_bc (x = y) (k t.toNat ls r g) (k nx ls r g))) ∧ (∀ (lay : List ((Nat × List Nat) ⊕ (Nat × Nat))) (cs : Nat → sm_SP) (xs : Option (Nat × (Nat → Int32))) (rk : Nat) (K : Option Value → sm_G → Prop) (nx : Nat) (ls : sm_Lo) (st : List Value) (g : sm_G) (k : Nat → sm_Lo → List Value → sm_G → Prop) (t : Int), sm_stp lay cs xs rk K (.if_icmp .ne t) nx ls st g k = (sm_i2 st fun x y r => sm_bc (x = y) (k nx ls r g) (k t.toNat ls r g))) ∧ (∀ (lay : List ((Nat × List Nat) ⊕ (Nat × Nat))) (cs : Nat → sm_SP) (xs : Option (Nat × (Nat → Int32))) (rk : Nat) (K : Option Value → sm_G → Prop) (nx : Nat) (ls : sm_Lo) (st : List Value) (g : sm_G) (k : Nat → sm_Lo → List Value → sm_G → Prop) (t : Int), sm_stp lay cs xs rk K (.if_icmp .lt t) nx ls st g k = (sm_i2 st fun x y r => sm_bc (x.toInt < y.toInt) (k t.toNat ls r g) (k nx ls r g))) ∧ (∀ (lay : List ((Nat × List Nat) ⊕ (Nat × Nat))) (cs : Nat → sm_SP) (xs : Option (Nat × (Nat → Int32))) (rk : Nat) (K : Option Value → sm_G → Prop) (nx : Nat) (ls : sm_Lo) (st : List Value) (g : sm_G) (k : Nat → sm_Lo → List Value → sm_G → Prop) (t : Int), sm_stp lay cs xs rk K (.if_icmp .ge t) nx ls st g k = (sm_i2 st fun x y r => sm_bc (x.toInt < y.toInt) (k nx ls r g) (k t.toNat ls r g))) ∧ (∀ (lay : List ((Nat × List Nat) ⊕ (Nat × Nat))) (cs : Nat → sm_SP) (xs : Option (Nat × (Nat → Int32))) (rk : Nat) (K : Option Value → sm_G → Prop) (nx : Nat) (ls : sm_Lo) (st : List Value) (g : sm_G) (k : Nat → sm_Lo → List Value → sm_G → Prop) (t : Int), sm_stp lay cs xs rk K (.if_icmp .gt t) nx ls st g k = (sm_i2 st fun x y r => sm_bc (y.toInt < x.toInt) (k t.toNat ls r g) (k nx ls r g))) ∧ (∀ (lay : List ((Nat × List Nat) ⊕ (Nat × Nat))) (cs : Nat → sm_SP) (xs : Option (Nat × (Nat → Int32))) (rk : Nat) (K : Option Value → sm_G → Prop) (nx : Nat) (ls : sm_Lo) (st : List Value) (g : sm_G) (k : Nat → sm_Lo → List Value → sm_G → Prop) (t : Int), sm_stp lay cs xs rk K (.if_icmp .le t) nx ls st g k = (sm_i2 st fun x y r => sm_bc (y.toInt < x.toInt) (k nx ls r g) (k t.toNat ls r g))) ∧ (∀ (lay : List ((Nat × List Nat) ⊕ (Nat × Nat))) (cs : Nat → sm_SP) (xs : Option (Nat × (Nat → Int32))) (rk : Nat) (K : Option Value → sm_G → Prop) (nx : Nat) (ls : sm_Lo) (st : List Value) (g : sm_G) (k : Nat → sm_Lo → List Value → sm_G → Prop) (d : Int) (lo : Int) (hi : Int) (os : Array Int), sm_stp lay cs xs rk K (.tableswitch d lo hi os) nx ls st g k = (sm_i1 st fun x r => (x.toInt < lo ∨ hi < x.toInt → k d.toNat ls r g) ∧ sm_tsw os.toList lo x.toInt (fun t => k t ls r g))) ∧ (∀ (lay : List ((Nat × List Nat) ⊕ (Nat × Nat))) (cs : Nat → sm_SP) (xs : Option (Nat × (Nat → Int32))) (rk : Nat) (K : Option Value → sm_G → Prop) (nx : Nat) (ls : sm_Lo) (st : List Value) (g : sm_G) (k : Nat → sm_Lo → List Value → sm_G → Prop) (d : Int) (ps : Array (Int × Int)), sm_stp lay cs xs rk K (.lookupswitch d ps) nx ls st g k = (sm_i1 st fun x r => sm_lsw ps.toList d x.toInt (fun t => k t ls r g))) ∧ (∀ (lay : List ((Nat × List Nat) ⊕ (Nat × Nat))) (cs : Nat → sm_SP) (xs : Option (Nat × (Nat → Int32))) (rk : Nat) (K : Option Value → sm_G → Prop) (nx : Nat) (ls : sm_Lo) (st : List Value) (g : sm_G) (k : Nat → sm_Lo → List Value → sm_G → Prop) (c : Nat), sm_stp lay cs xs rk K (.getfield c) nx ls st g k = (sm_r1 st fun p r => sm_fg (sm_fd lay p c) (rS g p c) fun v => k nx ls (v :: r) g)) ∧ (∀ (lay : List ((Nat × List Nat) ⊕ (Nat × Nat))) (cs : Nat → sm_SP) (xs : Option (Nat × (Nat → Int32))) (rk : Nat) (K : Option Value → sm_G → Prop) (nx : Nat) (ls : sm_Lo) (st : List Value) (g : sm_G) (k : Nat → sm_Lo → List Value → sm_G → Prop) (c : Nat), sm_stp lay cs xs rk K (.putfield c) nx ls st g k = (sm_i1 st fun x r => sm_r1 r fun p r => sm_fd lay p c = 1 ∧ k nx ls r (gS g p c x))) ∧ (∀ (lay : List ((Nat × List Nat) ⊕ (Nat × Nat))) (cs : Nat → sm_SP) (xs : Option (Nat × (Nat → Int32))) (rk : Nat) (K : Option Value → sm_G → Prop) (nx : Nat) (ls : sm_Lo) (st : List Value) (g : sm_G) (k : Nat → sm_Lo → List Value → sm_G → Prop) , sm_stp lay cs xs rk K (.arraylength) nx ls st g k = (sm_r1 st fun p r => if p = 1000 then (match xs with | some q => k nx ls (.int (nI q.1) :: r) g | none => False) else 0 < (sm_ar lay p).1 ∧ k nx ls (.int (nI (sm_ar lay p).2) :: r) g)) ∧ (∀ (lay : List ((Nat × List Nat) ⊕ (Nat × Nat))) (cs : Nat → sm_SP) (xs : Option (Nat × (Nat → Int32))) (rk : Nat) (K : Option Value → sm_G → Prop) (nx : Nat) (ls : sm_Lo) (st : List Value) (g : sm_G) (k : Nat → sm_Lo → List Value → sm_G → Prop) , sm_stp lay cs xs rk K (.iaload) nx ls st g k = (sm_ir st fun x p r => if p = 1000 then (match xs with | some q => sm_in x q.1 ∧ k nx ls (.int (q.2 x.toNatClampNeg) :: r) g | none => False) else (sm_ar lay p).1 = 1 ∧ sm_in x (sm_ar lay p).2 ∧ k nx ls (.int (rA g p x.toNatClampNeg) :: r) g)) ∧ (∀ (lay : List ((Nat × List Nat) ⊕ (Nat × Nat))) (cs : Nat → sm_SP) (xs : Option (Nat × (Nat → Int32))) (rk : Nat) (K : Option Value → sm_G → Prop) (nx : Nat) (ls : sm_Lo) (st : List Value) (g : sm_G) (k : Nat → sm_Lo → List Value → sm_G → Prop) , sm_stp lay cs xs rk K (.baload) nx ls st g k = (sm_ir st fun x p r => (sm_ar lay p).1 = 2 ∧ sm_in x (sm_ar lay p).2 ∧ k nx ls (.int (rA g p x.toNatClampNeg) :: r) g)) ∧ (∀ (lay : List ((Nat × List Nat) ⊕ (Nat × Nat))) (cs : Nat → sm_SP) (xs : Option (Nat × (Nat → Int32))) (rk : Nat) (K : Option Value → sm_G → Prop) (nx : Nat) (ls : sm_Lo) (st : List Value) (g : sm_G) (k : Nat → sm_Lo → List Value → sm_G → Prop) , sm_stp lay cs xs rk K (.laload) nx ls st g k = (sm_ir st fun x p r => (sm_ar lay p).1 = 3 ∧ sm_in x (sm_ar lay p).2 ∧ k nx ls (.long (rL g p x.toNatClampNeg) :: r) g)) ∧ (∀ (lay : List ((Nat × List Nat) ⊕ (Nat × Nat))) (cs : Nat → sm_SP) (xs : Option (Nat × (Nat → Int32))) (rk : Nat) (K : Option Value → sm_G → Prop) (nx : Nat) (ls : sm_Lo) (st : List Value) (g : sm_G) (k : Nat → sm_Lo → List Value → sm_G → Prop) , sm_stp lay cs xs rk K (.iastore) nx ls st g k = (sm_iir st fun x i p r => (sm_ar lay p).1 = 1 ∧ sm_in i (sm_ar lay p).2 ∧ k nx ls r (gA g p (upd (rA g p) i.toNatClampNeg x)))) ∧ (∀ (lay : List ((Nat × List Nat) ⊕ (Nat × Nat))) (cs : Nat → sm_SP) (xs : Option (Nat × (Nat → Int32))) (rk : Nat) (K : Option Value → sm_G → Prop) (nx : Nat) (ls : sm_Lo) (st : List Value) (g : sm_G) (k : Nat → sm_Lo → List Value → sm_G → Prop) , sm_stp lay cs xs rk K (.bastore) nx ls st g k = (sm_iir st fun x i p r => (sm_ar lay p).1 = 2 ∧ sm_in i (sm_ar lay p).2 ∧ sm_zr 1 x ∧ k nx ls r (gA g p (upd (rA g p) i.toNatClampNeg x)))) ∧ (∀ (lay : List ((Nat × List Nat) ⊕ (Nat × Nat))) (cs : Nat → sm_SP) (xs : Option (Nat × (Nat → Int32))) (rk : Nat) (K : Option Value → sm_G → Prop) (nx : Nat) (ls : sm_Lo) (st : List Value) (g : sm_G) (k : Nat → sm_Lo → List Value → sm_G → Prop) , sm_stp lay cs xs rk K (.lastore) nx ls st g k = (sm_lir st fun x i p r => (sm_ar lay p).1 = 3 ∧ sm_in i (sm_ar lay p).2 ∧ k nx ls r (gL g p (vp_updL (rL g p) i.toNatClampNeg x)))) ∧ (∀ (lay : List ((Nat × List Nat) ⊕ (Nat × Nat))) (cs : Nat → sm_SP) (xs : Option (Nat × (Nat → Int32))) (rk : Nat) (K : Option Value → sm_G → Prop) (nx : Nat) (ls : sm_Lo) (st : List Value) (g : sm_G) (k : Nat → sm_Lo → List Value → sm_G → Prop) (mid : Nat) (n : Nat), sm_stp lay cs xs rk K (.invokeinterface mid n) nx ls st g k = (sm_pop n st [] fun as r => r.length ≤ 4 ∧ cs mid as g fun v g' => k nx ls (sm_psh v r) g')) ∧ (∀ (lay : List ((Nat × List Nat) ⊕ (Nat × Nat))) (cs : Nat → sm_SP) (xs : Option (Nat × (Nat → Int32))) (rk : Nat) (K : Option Value → sm_G → Prop) (nx : Nat) (ls : sm_Lo) (st : List Value) (g : sm_G) (k : Nat → sm_Lo → List Value → sm_G → Prop) , sm_stp lay cs xs rk K (.ireturn) nx ls st g k = (sm_i1 st fun x r => r = [] ∧ sm_zr rk x ∧ K (some (.int x)) g)) ∧ (∀ (lay : List ((Nat × List Nat) ⊕ (Nat × Nat))) (cs : Nat → sm_SP) (xs : Option (Nat × (Nat → Int32))) (rk : Nat) (K : Option Value → sm_G → Prop) (nx : Nat) (ls : sm_Lo) (st : List Value) (g : sm_G) (k : Nat → sm_Lo → List Value → sm_G → Prop) , sm_stp lay cs xs rk K (.lreturn) nx ls st g k = (sm_l1 st fun x r => r = [] ∧ rk = 2 ∧ K (some (.long x)) g)) ∧ (∀ (lay : List ((Nat × List Nat) ⊕ (Nat × Nat))) (cs : Nat → sm_SP) (xs : Option (Nat × (Nat → Int32))) (rk : Nat) (K : Option Value → sm_G → Prop) (nx : Nat) (ls : sm_Lo) (st : List Value) (g : sm_G) (k : Nat → sm_Lo → List Value → sm_G → Prop) , sm_stp lay cs xs rk K (.areturn) nx ls st g k = (sm_r1 st fun x r => r = [] ∧ rk = 3 ∧ K (some (.ref x)) g)) ∧ (∀ (lay : List ((Nat × List Nat) ⊕ (Nat × Nat))) (cs : Nat → sm_SP) (xs : Option (Nat × (Nat → Int32))) (rk : Nat) (K : Option Value → sm_G → Prop) (nx : Nat) (ls : sm_Lo) (st : List Value) (g : sm_G) (k : Nat → sm_Lo → List Value → sm_G → Prop) , sm_stp lay cs xs rk K (.return_) nx ls st g k = (st = [] ∧ rk = 4 ∧ K none g)) ∧ (∀ (x : Int32) (l : sm_Lo) (f : Int32 → Prop), sm_ldi (some (.int x) :: l) 0 f = f x) ∧ (∀ (o : Option Value) (l : sm_Lo) (n : Nat) (f : Int32 → Prop), sm_ldi (o :: l) (n + 1) f = sm_ldi l n f) ∧ (∀ (x : Int64) (l : sm_Lo) (f : Int64 → Prop), sm_ldl (some (.long x) :: l) 0 f = f x) ∧ (∀ (o : Option Value) (l : sm_Lo) (n : Nat) (f : Int64 → Prop), sm_ldl (o :: l) (n + 1) f = sm_ldl l n f) ∧ (∀ (x : Nat) (l : sm_Lo) (f : Nat → Prop), sm_ldr (some (.ref x) :: l) 0 f = f x) ∧ (∀ (o : Option Value) (l : sm_Lo) (n : Nat) (f : Nat → Prop), sm_ldr (o :: l) (n + 1) f = sm_ldr l n f) ∧ (∀ (x : Int32), sm_un (some (.int x)) = some (.int x)) ∧ (∀ (x : Nat), sm_un (some (.ref x)) = some (.ref x)) ∧ (∀ (x : Int64), sm_un (some (.long x)) = none) ∧ (sm_un none = none) ∧ (∀ (o : Option Value) (l : sm_Lo) (v : Value), sm_st1 (o :: l) 0 v = some v :: l) ∧ (∀ (o : Option Value) (l : sm_Lo) (n : Nat) (v : Value), sm_st1 (o :: l) (n + 1) v = (if n = 0 then sm_un o else o) :: sm_st1 l n v) ∧ (∀ (o w : Option Value) (l : sm_Lo) (v : Value), sm_st2 (o :: w :: l) 0 v = some v :: none :: l) ∧ (∀ (o : Option Value) (l : sm_Lo) (n : Nat) (v : Value), sm_st2 (o :: l) (n + 1) v = (if n = 0 then sm_un o else o) :: sm_st2 l n v) ∧ (∀ (x : Int32) (r : List Value) (f : Int32 → List Value → Prop), sm_i1 (.int x :: r) f = f x r) ∧ (∀ (x y : Int32) (r : List Value) (f : Int32 → Int32 → List Value → Prop), sm_i2 (.int y :: .int x :: r) f = f x y r) ∧ (∀ (x : Int64) (r : List Value) (f : Int64 → List Value → Prop), sm_l1 (.long x :: r) f = f x r) ∧ (∀ (x y : Int64) (r : List Value) (f : Int64 → Int64 → List Value → Prop), sm_l2 (.long y :: .long x :: r) f = f x y r) ∧ (∀ (x : Int64) (y : Int32) (r : List Value) (f : Int64 → Int32 → List Value → Prop), sm_li (.int y :: .long x :: r) f = f x y r) ∧ (∀ (x : Nat) (r : List Value) (f : Nat → List Value → Prop), sm_r1 (.ref x :: r) f = f x r) ∧ (∀ (x : Int32) (p : Nat) (r : List Value) (f : Int32 → Nat → List Value → Prop), sm_ir (.int x :: .ref p :: r) f = f x p r) ∧ (∀ (x i : Int32) (p : Nat) (r : List Value) (f : Int32 → Int32 → Nat → List Value → Prop), sm_iir (.int x :: .int i :: .ref p :: r) f = f x i p r) ∧ (∀ (x : Int64) (i : Int32) (p : Nat) (r : List Value) (f : Int64 → Int32 → Nat → List Value → Prop), sm_lir (.long x :: .int i :: .ref p :: r) f = f x i p r) ∧ (∀ (c a b : Prop), sm_bc c a b = ((c → a) ∧ (¬ c → b))) ∧ (∀ (x : Int32) (f : Value → Prop), sm_fg 1 x f = f (.int x)) ∧ (∀ (q : Nat) (x : Int32) (f : Value → Prop), sm_fg (q + 2) x f = f (.ref q)) ∧ (∀ (st as : List Value) (f : List Value → List Value → Prop), sm_pop 0 st as f = f as st) ∧ (∀ (n : Nat) (v : Value) (st as : List Value) (f : List Value → List Value → Prop), sm_pop (n + 1) (v :: st) as f = sm_pop n st (v :: as) f) ∧ (∀ (v : Value) (r : List Value), sm_psh (some v) r = v :: r) ∧ (∀ (r : List Value), sm_psh none r = r) ∧ (∀ (lo x : Int) (f : Nat → Prop), sm_tsw [] lo x f = True) ∧ (∀ (o : Int) (os : List Int) (lo x : Int) (f : Nat → Prop), sm_tsw (o :: os) lo x f = ((x = lo → f o.toNat) ∧ sm_tsw os (lo + 1) x f)) ∧ (∀ (d x : Int) (f : Nat → Prop), sm_lsw [] d x f = f d.toNat) ∧ (∀ (a o : Int) (ps : List (Int × Int)) (d x : Int) (f : Nat → Prop), sm_lsw ((a, o) :: ps) d x f = ((x = a → f o.toNat) ∧ (¬ x = a → sm_lsw ps d x f))) ∧ (∀ (m : Nat) (s : sm_SP) (r : List (Nat × sm_SP)) (mid : Nat), sm_cl ((m, s) :: r) mid = if mid = m then s else sm_cl r mid) ∧ (∀ (x : Int32), sm_zr 0 x = True) ∧ (sm_zr 1 (nI 0) = True) ∧ (sm_zr 1 (nI 1) = True) ∧ (∀ (lay : List ((Nat × List Nat) ⊕ (Nat × Nat))) (cs : Nat → sm_SP) (xs : Option (Nat × (Nat → Int32))) (rk : Nat) (K : Option Value → sm_G → Prop) (i : Instr) (nx : Nat) (P : Prop) (ls : sm_Lo) (st : List Value) (g : sm_G) (k : Nat → sm_Lo → List Value → sm_G → Prop), sm_go lay cs xs rk K (some (i, nx, false)) P ls st g k = sm_stp lay cs xs rk K i nx ls st g k) ∧ (∀ (lay : List ((Nat × List Nat) ⊕ (Nat × Nat))) (cs : Nat → sm_SP) (xs : Option (Nat × (Nat → Int32))) (rk : Nat) (K : Option Value → sm_G → Prop) (i : Instr) (nx : Nat) (P : Prop) (ls : sm_Lo) (st : List Value) (g : sm_G) (k : Nat → sm_Lo → List Value → sm_G → Prop), sm_go lay cs xs rk K (some (i, nx, true)) P ls st g k = P) ∧ (∀ (lay : List ((Nat × List Nat) ⊕ (Nat × Nat))) (cs : Nat → sm_SP) (xs : Option (Nat × (Nat → Int32))) (rk : Nat) (K : Option Value → sm_G → Prop) (i : Instr) (nx : Nat) (b : Bool) (ls : sm_Lo) (st : List Value) (g : sm_G) (k : Nat → sm_Lo → List Value → sm_G → Prop), sm_g1 lay cs xs rk K (some (i, nx, b)) ls st g k = sm_stp lay cs xs rk K i nx ls st g k) :=
  ⟨e_iload, e_lload, e_aload, e_istore, e_lstore, e_astore, e_ret, e_putstatic, e_getstatic, e_jsr, e_multianewarray, e_iinc, e_iadd, e_isub, e_imul, e_idiv, e_irem, e_iand, e_ior, e_ixor, e_ishl, e_ishr, e_iushr, e_ladd, e_lsub, e_lmul, e_ldiv, e_land, e_lor, e_lxor, e_lneg, e_lshl, e_lshr, e_lushr, e_lcmp, e_i2l, e_l2i, e_dup, e_dup2, e_goto, e_ifCond_eq, e_ifCond_ne, e_ifCond_lt, e_ifCond_ge, e_ifCond_gt, e_ifCond_le, e_if_icmp_eq, e_if_icmp_ne, e_if_icmp_lt, e_if_icmp_ge, e_if_icmp_gt, e_if_icmp_le, e_tableswitch, e_lookupswitch, e_getfield, e_putfield, e_arraylength, e_iaload, e_baload, e_laload, e_iastore, e_bastore, e_lastore, e_invokeinterface, e_ireturn, e_lreturn, e_areturn, e_return_, e_ldi_0, e_ldi_1, e_ldl_0, e_ldl_1, e_ldr_0, e_ldr_1, e_un_0, e_un_1, e_un_2, e_un_3, e_st1_0, e_st1_1, e_st2_0, e_st2_1, e_i1_0, e_i2_0, e_l1_0, e_l2_0, e_li_0, e_r1_0, e_ir_0, e_iir_0, e_lir_0, e_bc_0, e_fg_0, e_fg_1, e_pop_0, e_pop_1, e_psh_0, e_psh_1, e_tsw_0, e_tsw_1, e_lsw_0, e_lsw_1, e_cl_0, e_zr_f, e_zr_0, e_zr_1, e_go_f, e_go_t, e_g1⟩
end
section
/-! The layout of cells, the classes' tables, the methods' plain code: written by program out of the listing. -/
def sm_mmax : Nat := 227
def sm_mmin : Nat := 228
def lay : List ((Nat × List Nat) ⊕ (Nat × Nat)) := [.inl (9, [3, 8, 11, 14, 17, 27, 33, 35, 48, 52, 53, 54, 1]), .inl (5, [4, 5, 6, 7, 1]), .inr (1, 16), .inr (1, 16), .inr (1, 16), .inr (3, 640), .inl (7, [9, 10]), .inr (1, 60), .inr (1, 960), .inl (7, [12, 13]), .inr (1, 60), .inr (1, 960), .inl (6, [15, 16, 1]), .inr (1, 60), .inr (2, 60), .inl (8, [18, 19, 20, 21, 22, 23, 24, 25, 26, 1, 1]), .inr (1, 60), .inr (1, 60), .inr (2, 60), .inr (1, 60), .inr (1, 60), .inr (1, 60), .inr (1, 60), .inr (1, 60), .inr (1, 60), .inl (2, [28, 29, 30, 31, 32, 1]), .inr (1, 100), .inr (1, 100), .inr (1, 100), .inr (2, 100), .inr (1, 60), .inl (4, [3, 8, 11, 17, 34]), .inr (1, 16), .inl (3, [33, 14, 36, 45, 46, 47, 1, 1]), .inl (1, [37, 38, 39, 40, 41, 42, 43, 44, 1, 1, 1]), .inr (3, 341), .inr (1, 341), .inr (3, 11), .inr (3, 31), .inr (3, 31), .inr (1, 31), .inr (1, 31), .inr (2, 31), .inr (3, 60), .inr (1, 60), .inr (1, 60), .inl (0, [3, 11, 49, 50, 51, 1]), .inr (1, 12), .inr (1, 192), .inr (1, 4096), .inr (1, 6), .inr (1, 60), .inr (1, 60), .inl (10, [1, 1, 56, 57, 58, 59, 60, 61, 1, 1, 62, 63, 64, 65, 66, 67, 68, 69, 70, 71, 72, 73, 1, 74, 75, 76, 77, 1, 1, 78, 79, 1, 80, 1, 81, 1, 82, 83, 84, 85, 86, 1]), .inr (1, 16), .inr (1, 16), .inr (1, 16), .inr (2, 25600), .inr (1, 1920), .inr (1, 120), .inr (1, 60), .inr (1, 60), .inr (2, 60), .inr (1, 60), .inr (1, 60), .inr (1, 60), .inr (1, 60), .inr (1, 60), .inr (1, 60), .inr (1, 60), .inr (2, 60), .inr (1, 6), .inr (2, 60), .inr (2, 60), .inr (1, 60), .inr (1, 60), .inr (3, 21504), .inr (1, 10), .inr (1, 60), .inr (1, 4096), .inr (1, 100), .inr (1, 100), .inr (1, 100), .inr (2, 100), .inr (1, 60), .inr (3, 1)]
theorem fd_all : (sm_fd lay 0 900 = 3 ∧ sm_fd lay 0 901 = 8 ∧ sm_fd lay 0 902 = 11 ∧ sm_fd lay 0 903 = 14 ∧ sm_fd lay 0 904 = 17 ∧ sm_fd lay 0 905 = 27 ∧ sm_fd lay 0 906 = 33 ∧ sm_fd lay 0 907 = 35 ∧ sm_fd lay 0 908 = 48 ∧ sm_fd lay 0 909 = 52) ∧ (sm_fd lay 0 910 = 53 ∧ sm_fd lay 0 911 = 54 ∧ sm_fd lay 0 912 = 1 ∧ sm_fd lay 1 500 = 4 ∧ sm_fd lay 1 501 = 5 ∧ sm_fd lay 1 502 = 6 ∧ sm_fd lay 1 503 = 7 ∧ sm_fd lay 1 504 = 1 ∧ sm_fd lay 6 700 = 9 ∧ sm_fd lay 6 701 = 10) ∧ (sm_fd lay 9 700 = 12 ∧ sm_fd lay 9 701 = 13 ∧ sm_fd lay 12 600 = 15 ∧ sm_fd lay 12 601 = 16 ∧ sm_fd lay 12 602 = 1 ∧ sm_fd lay 15 800 = 18 ∧ sm_fd lay 15 801 = 19 ∧ sm_fd lay 15 802 = 20 ∧ sm_fd lay 15 803 = 21 ∧ sm_fd lay 15 804 = 22) ∧ (sm_fd lay 15 805 = 23 ∧ sm_fd lay 15 806 = 24 ∧ sm_fd lay 15 807 = 25 ∧ sm_fd lay 15 808 = 26 ∧ sm_fd lay 15 809 = 1 ∧ sm_fd lay 15 810 = 1 ∧ sm_fd lay 25 200 = 28 ∧ sm_fd lay 25 201 = 29 ∧ sm_fd lay 25 202 = 30 ∧ sm_fd lay 25 203 = 31) ∧ (sm_fd lay 25 204 = 32 ∧ sm_fd lay 25 205 = 1 ∧ sm_fd lay 31 400 = 3 ∧ sm_fd lay 31 401 = 8 ∧ sm_fd lay 31 402 = 11 ∧ sm_fd lay 31 403 = 17 ∧ sm_fd lay 31 404 = 34 ∧ sm_fd lay 33 300 = 33 ∧ sm_fd lay 33 301 = 14 ∧ sm_fd lay 33 302 = 36) ∧ (sm_fd lay 33 303 = 45 ∧ sm_fd lay 33 304 = 46 ∧ sm_fd lay 33 305 = 47 ∧ sm_fd lay 33 306 = 1 ∧ sm_fd lay 33 307 = 1 ∧ sm_fd lay 34 100 = 37 ∧ sm_fd lay 34 101 = 38 ∧ sm_fd lay 34 102 = 39 ∧ sm_fd lay 34 103 = 40 ∧ sm_fd lay 34 104 = 41) ∧ (sm_fd lay 34 105 = 42 ∧ sm_fd lay 34 106 = 43 ∧ sm_fd lay 34 107 = 44 ∧ sm_fd lay 34 108 = 1 ∧ sm_fd lay 34 109 = 1 ∧ sm_fd lay 34 110 = 1 ∧ sm_fd lay 46 0 = 3 ∧ sm_fd lay 46 1 = 11 ∧ sm_fd lay 46 2 = 49 ∧ sm_fd lay 46 3 = 50) ∧ (sm_fd lay 46 4 = 51 ∧ sm_fd lay 46 5 = 1 ∧ sm_fd lay 53 1000 = 1 ∧ sm_fd lay 53 1001 = 1 ∧ sm_fd lay 53 1002 = 56 ∧ sm_fd lay 53 1003 = 57 ∧ sm_fd lay 53 1004 = 58 ∧ sm_fd lay 53 1005 = 59 ∧ sm_fd lay 53 1006 = 60 ∧ sm_fd lay 53 1007 = 61) ∧ (sm_fd lay 53 1008 = 1 ∧ sm_fd lay 53 1009 = 1 ∧ sm_fd lay 53 1010 = 62 ∧ sm_fd lay 53 1011 = 63 ∧ sm_fd lay 53 1012 = 64 ∧ sm_fd lay 53 1013 = 65 ∧ sm_fd lay 53 1014 = 66 ∧ sm_fd lay 53 1015 = 67 ∧ sm_fd lay 53 1016 = 68 ∧ sm_fd lay 53 1017 = 69) ∧ (sm_fd lay 53 1018 = 70 ∧ sm_fd lay 53 1019 = 71 ∧ sm_fd lay 53 1020 = 72 ∧ sm_fd lay 53 1021 = 73 ∧ sm_fd lay 53 1022 = 1 ∧ sm_fd lay 53 1023 = 74 ∧ sm_fd lay 53 1024 = 75 ∧ sm_fd lay 53 1025 = 76 ∧ sm_fd lay 53 1026 = 77 ∧ sm_fd lay 53 1027 = 1) ∧ (sm_fd lay 53 1028 = 1 ∧ sm_fd lay 53 1029 = 78 ∧ sm_fd lay 53 1030 = 79 ∧ sm_fd lay 53 1031 = 1 ∧ sm_fd lay 53 1032 = 80 ∧ sm_fd lay 53 1033 = 1 ∧ sm_fd lay 53 1034 = 81 ∧ sm_fd lay 53 1035 = 1 ∧ sm_fd lay 53 1036 = 82 ∧ sm_fd lay 53 1037 = 83) ∧ (sm_fd lay 53 1038 = 84 ∧ sm_fd lay 53 1039 = 85 ∧ sm_fd lay 53 1040 = 86 ∧ sm_fd lay 53 1041 = 1) := ⟨by decide +kernel, by decide +kernel, by decide +kernel, by decide +kernel, by decide +kernel, by decide +kernel, by decide +kernel, by decide +kernel, by decide +kernel, by decide +kernel, by decide +kernel, by decide +kernel⟩
theorem ar_all : (sm_ar lay 2 = (1, 16) ∧ sm_ar lay 3 = (1, 16) ∧ sm_ar lay 4 = (1, 16) ∧ sm_ar lay 5 = (3, 640) ∧ sm_ar lay 7 = (1, 60) ∧ sm_ar lay 8 = (1, 960) ∧ sm_ar lay 10 = (1, 60) ∧ sm_ar lay 11 = (1, 960) ∧ sm_ar lay 13 = (1, 60) ∧ sm_ar lay 14 = (2, 60)) ∧ (sm_ar lay 16 = (1, 60) ∧ sm_ar lay 17 = (1, 60) ∧ sm_ar lay 18 = (2, 60) ∧ sm_ar lay 19 = (1, 60) ∧ sm_ar lay 20 = (1, 60) ∧ sm_ar lay 21 = (1, 60) ∧ sm_ar lay 22 = (1, 60) ∧ sm_ar lay 23 = (1, 60) ∧ sm_ar lay 24 = (1, 60) ∧ sm_ar lay 26 = (1, 100)) ∧ (sm_ar lay 27 = (1, 100) ∧ sm_ar lay 28 = (1, 100) ∧ sm_ar lay 29 = (2, 100) ∧ sm_ar lay 30 = (1, 60) ∧ sm_ar lay 32 = (1, 16) ∧ sm_ar lay 35 = (3, 341) ∧ sm_ar lay 36 = (1, 341) ∧ sm_ar lay 37 = (3, 11) ∧ sm_ar lay 38 = (3, 31) ∧ sm_ar lay 39 = (3, 31)) ∧ (sm_ar lay 40 = (1, 31) ∧ sm_ar lay 41 = (1, 31) ∧ sm_ar lay 42 = (2, 31) ∧ sm_ar lay 43 = (3, 60) ∧ sm_ar lay 44 = (1, 60) ∧ sm_ar lay 45 = (1, 60) ∧ sm_ar lay 47 = (1, 12) ∧ sm_ar lay 48 = (1, 192) ∧ sm_ar lay 49 = (1, 4096) ∧ sm_ar lay 50 = (1, 6)) ∧ (sm_ar lay 51 = (1, 60) ∧ sm_ar lay 52 = (1, 60) ∧ sm_ar lay 54 = (1, 16) ∧ sm_ar lay 55 = (1, 16) ∧ sm_ar lay 56 = (1, 16) ∧ sm_ar lay 57 = (2, 25600) ∧ sm_ar lay 58 = (1, 1920) ∧ sm_ar lay 59 = (1, 120) ∧ sm_ar lay 60 = (1, 60) ∧ sm_ar lay 61 = (1, 60)) ∧ (sm_ar lay 62 = (2, 60) ∧ sm_ar lay 63 = (1, 60) ∧ sm_ar lay 64 = (1, 60) ∧ sm_ar lay 65 = (1, 60) ∧ sm_ar lay 66 = (1, 60) ∧ sm_ar lay 67 = (1, 60) ∧ sm_ar lay 68 = (1, 60) ∧ sm_ar lay 69 = (1, 60) ∧ sm_ar lay 70 = (2, 60) ∧ sm_ar lay 71 = (1, 6)) ∧ (sm_ar lay 72 = (2, 60) ∧ sm_ar lay 73 = (2, 60) ∧ sm_ar lay 74 = (1, 60) ∧ sm_ar lay 75 = (1, 60) ∧ sm_ar lay 76 = (3, 21504) ∧ sm_ar lay 77 = (1, 10) ∧ sm_ar lay 78 = (1, 60) ∧ sm_ar lay 79 = (1, 4096) ∧ sm_ar lay 80 = (1, 100) ∧ sm_ar lay 81 = (1, 100)) ∧ (sm_ar lay 82 = (1, 100) ∧ sm_ar lay 83 = (2, 100) ∧ sm_ar lay 84 = (1, 60) ∧ sm_ar lay 85 = (3, 1)) := ⟨by decide +kernel, by decide +kernel, by decide +kernel, by decide +kernel, by decide +kernel, by decide +kernel, by decide +kernel, by decide +kernel⟩
def TX0_ : sm_T := (RX0, [(9, 2), (15, 3), (18, 4), (21, 5), (25, 0), (29, 1)], [(33, 65, 1), (39, 85, 3), (49, 4, 4), (53, 3, 3), (57, 7, 2), (61, 9, 3), (64, 10, 3), (67, 8, 2), (71, 2, 3), (81, 12, 3), (84, 11, 5), (96, 13, 3), (100045, 131, 2), (100075, 225, 1), (100088, 228, 2), (100093, 227, 2)], [], [])
def TX1_ : sm_T := (RX1, [(11, 100), (15, 101), (19, 102), (22, 103), (25, 104), (28, 105), (31, 106), (34, 107), (38, 108), (42, 109), (45, 110)], [(63, 18, 1), (67, 23, 2), (73, 19, 2), (77, 20, 2), (80, 21, 1), (83, 22, 2), (87, 24, 2), (100048, 228, 2), (100054, 227, 2)], [(57, 1152921504606846976), (59, 21), (61, 16679880978201), (71, 4611686018427387904)], [])
def TX2_ : sm_T := (RX2, [(9, 200), (15, 201), (18, 202), (21, 203), (25, 204), (28, 205)], [(32, 28, 2), (36, 35, 2), (39, 29, 1), (43, 30, 2), (46, 42, 3)], [], [])
def TX3_ : sm_T := (RX3, [(12, 302), (18, 303), (22, 304), (26, 305), (29, 306), (33, 307), (36, 300), (40, 301)], [(44, 77, 2), (50, 75, 1), (54, 58, 2), (60, 50, 2), (63, 51, 2), (71, 48, 1), (75, 15, 3), (79, 59, 2), (83, 61, 2), (87, 16, 4), (91, 17, 1), (94, 25, 2), (97, 24, 2), (100067, 131, 2)], [], [])
def TX4_ : sm_T := (RX4, [(9, 404), (15, 400), (19, 401), (23, 402), (26, 403)], [(30, 84, 2), (42, 85, 3), (45, 73, 4), (51, 56, 3), (54, 89, 1), (60, 91, 2), (64, 60, 4), (68, 67, 2), (71, 57, 3), (75, 59, 2), (79, 61, 2), (82, 58, 2), (90, 62, 3), (100036, 228, 2), (100086, 131, 2)], [], [])
def TX5_ : sm_T := (RX5, [(9, 500), (15, 501), (18, 502), (21, 503), (25, 504)], [(29, 66, 2), (37, 70, 3), (40, 72, 4), (100033, 69, 2), (100046, 227, 2), (100052, 228, 2)], [(44, (-1))], [])
def TX6_ : sm_T := (RX6, [(9, 600), (15, 601), (19, 602)], [(23, 76, 2)], [], [])
def TX7_ : sm_T := (RX7, [(9, 700), (15, 701)], [(18, 83, 2), (100022, 227, 2)], [], [])
def TX8_ : sm_T := (RX8, [(9, 800), (15, 801), (18, 802), (22, 803), (25, 804), (28, 805), (31, 806), (34, 807), (37, 808), (40, 809), (44, 810)], [(47, 91, 2), (51, 90, 2), (54, 98, 2), (64, 94, 2), (100058, 227, 2)], [], [])
def TX9_ : sm_T := (RX9, [(10, 900), (19, 901), (23, 902), (29, 903), (36, 904), (43, 905), (52, 906), (61, 907), (70, 908), (74, 909), (78, 910), (81, 911), (84, 912)], [(88, 68, 4), (92, 71, 5), (96, 70, 3), (100, 73, 4), (104, 92, 2), (108, 93, 5), (111, 79, 2), (114, 123, 3), (118, 66, 2), (121, 124, 2), (125, 86, 4), (129, 87, 3), (132, 85, 3), (136, 84, 2), (139, 76, 2), (140, 90, 2), (141, 128, 3), (144, 57, 3), (147, 56, 3), (150, 62, 3), (153, 58, 2), (167, 135, 2), (170, 54, 2), (173, 53, 1), (177, 63, 3), (180, 77, 2), (183, 49, 2), (187, 48, 1), (191, 52, 1), (194, 46, 1), (197, 47, 1), (200, 2, 3), (203, 3, 3), (207, 5, 2), (210, 6, 2), (213, 91, 2), (216, 38, 3), (219, 29, 1), (222, 37, 3), (224, 30, 2), (227, 32, 2), (230, 33, 2), (233, 42, 3), (237, 41, 2), (240, 31, 2), (243, 39, 3), (246, 95, 2), (249, 40, 2), (252, 146, 2), (255, 78, 2), (258, 154, 4), (261, 80, 2), (262, 43, 3), (265, 28, 2), (275, 105, 3), (278, 104, 3), (283, 94, 2), (286, 98, 2), (289, 99, 2), (292, 96, 2), (295, 100, 2), (298, 101, 2), (301, 102, 2), (304, 107, 2), (307, 34, 2), (312, 109, 1), (315, 152, 1), (318, 89, 1), (321, 153, 2), (324, 103, 2), (327, 97, 2), (330, 155, 4), (333, 106, 3), (336, 44, 3), (339, 108, 5), (343, 65, 1), (344, 75, 1), (345, 81, 1), (348, 27, 1), (349, 36, 1), (352, 111, 2), (355, 112, 2), (358, 110, 2), (100157, 226, 1), (100163, 131, 2)], [], [])
def TX10_ : sm_T := (RX10, [(9, 1002), (13, 1003), (16, 1004), (19, 1005), (23, 1006), (26, 1007), (29, 1010), (32, 1011), (35, 1012), (38, 1013), (41, 1014), (44, 1015), (47, 1016), (50, 1017), (53, 1018), (56, 1019), (59, 1020), (62, 1021), (65, 1023), (68, 1024), (71, 1025), (74, 1026), (77, 1029), (81, 1030), (84, 1032), (87, 1034), (90, 1036), (93, 1037), (96, 1038), (99, 1039), (102, 1040), (105, 1000), (113, 1001), (127, 1008), (130, 1009), (169, 1027), (172, 1028), (187, 1031), (207, 1033), (223, 1035), (229, 1022), (232, 1041)], [(116, 162, 2), (120, 163, 3), (124, 164, 4), (133, 167, 2), (136, 169, 2), (139, 170, 2), (142, 168, 2), (145, 173, 3), (149, 176, 3), (153, 179, 3), (156, 180, 3), (159, 184, 3), (162, 181, 3), (165, 186, 2), (183, 191, 3), (190, 189, 2), (194, 190, 1), (198, 192, 1), (201, 193, 2), (204, 194, 2), (210, 200, 2), (213, 201, 2), (216, 204, 4), (220, 205, 3), (226, 207, 2), (235, 208, 2), (238, 211, 4), (242, 212, 2), (245, 218, 2), (248, 221, 1), (100109, 160, 3)], [(175, (-1)), (177, 20), (179, 21), (181, 16679880978201)], [])
def TL_ : sm_T := (RL, [], [(7, 147, 3), (15, 149, 3), (22, 114, 4), (26, 161, 4), (27, 115, 5), (31, 165, 5), (32, 116, 4), (35, 166, 4), (36, 117, 5), (40, 171, 5), (41, 118, 2), (45, 172, 2), (46, 119, 5), (50, 174, 5), (51, 120, 4), (55, 175, 4), (56, 121, 4), (60, 177, 4), (61, 122, 3), (65, 178, 3), (66, 125, 3), (69, 182, 3), (70, 126, 3), (73, 183, 3), (74, 127, 3), (77, 185, 3), (78, 129, 2), (81, 187, 2), (82, 130, 3), (85, 188, 3), (86, 132, 2), (89, 195, 2), (90, 133, 2), (93, 196, 2), (94, 134, 2), (97, 197, 2), (98, 136, 3), (101, 198, 3), (102, 137, 3), (105, 199, 3), (106, 138, 3), (109, 202, 3), (110, 139, 2), (113, 203, 2), (114, 140, 2), (117, 206, 2), (118, 141, 3), (121, 209, 3), (122, 142, 4), (125, 210, 4), (126, 143, 2), (129, 213, 2), (130, 144, 2), (134, 214, 2), (135, 145, 2), (138, 215, 2), (144, 216, 3), (145, 159, 1), (149, 148, 3), (153, 217, 3), (156, 219, 3), (157, 150, 3), (160, 220, 3), (161, 151, 2), (164, 222, 2), (165, 156, 2), (168, 223, 2), (169, 157, 2), (172, 224, 2), (100139, 229, 4), (100154, 230, 4)], [], [])
def TJ6_ : sm_T := (RJ6, [], [], [], [(265, 1431655765), (266, 858993459), (267, 252645135)])
def TJ13_ : sm_T := (RJ13, [], [], [(314, 6148914691236517205), (316, 3689348814741910323), (318, 1085102592571150095)], [])
def NX9_init : sm_NF := sm_nd TX9_ cX9_init 1 []
theorem n_X9_init : (NX9_init 0 = some (.aload 0, 1, false) ∧ NX9_init 4 = some (.aload 0, 5, false) ∧ NX9_init 8 = some (.dup, 9, false) ∧ NX9_init 12 = some (.putfield 900, 15, false) ∧ NX9_init 15 = some (.aload 0, 16, false)) ∧ (NX9_init 19 = some (.dup, 20, false) ∧ NX9_init 23 = some (.putfield 901, 26, false) ∧ NX9_init 26 = some (.aload 0, 27, false) ∧ NX9_init 30 = some (.dup, 31, false) ∧ NX9_init 34 = some (.putfield 902, 37, false)) ∧ (NX9_init 37 = some (.aload 0, 38, false) ∧ NX9_init 41 = some (.dup, 42, false) ∧ NX9_init 45 = some (.putfield 903, 48, false) ∧ NX9_init 48 = some (.aload 0, 49, false) ∧ NX9_init 52 = some (.dup, 53, false)) ∧ (NX9_init 56 = some (.putfield 904, 59, false) ∧ NX9_init 59 = some (.aload 0, 60, false) ∧ NX9_init 63 = some (.dup, 64, false) ∧ NX9_init 67 = some (.putfield 905, 70, false) ∧ NX9_init 70 = some (.aload 0, 71, false)) ∧ (NX9_init 74 = some (.dup, 75, false) ∧ NX9_init 75 = some (.aload 0, 76, false) ∧ NX9_init 76 = some (.getfield 900, 79, false) ∧ NX9_init 79 = some (.aload 0, 80, false) ∧ NX9_init 80 = some (.getfield 901, 83, false)) ∧ (NX9_init 83 = some (.aload 0, 84, false) ∧ NX9_init 84 = some (.getfield 902, 87, false) ∧ NX9_init 87 = some (.aload 0, 88, false) ∧ NX9_init 88 = some (.getfield 904, 91, false) ∧ NX9_init 94 = some (.putfield 906, 97, false)) ∧ (NX9_init 97 = some (.aload 0, 98, false) ∧ NX9_init 101 = some (.dup, 102, false) ∧ NX9_init 102 = some (.aload 0, 103, false) ∧ NX9_init 103 = some (.getfield 906, 106, false) ∧ NX9_init 106 = some (.aload 0, 107, false)) ∧ (NX9_init 107 = some (.getfield 903, 110, false) ∧ NX9_init 113 = some (.putfield 907, 116, false) ∧ NX9_init 116 = some (.aload 0, 117, false) ∧ NX9_init 120 = some (.dup, 121, false) ∧ NX9_init 121 = some (.aload 0, 122, false)) ∧ (NX9_init 122 = some (.getfield 900, 125, false) ∧ NX9_init 125 = some (.aload 0, 126, false) ∧ NX9_init 126 = some (.getfield 902, 129, false) ∧ NX9_init 132 = some (.putfield 908, 135, false) ∧ NX9_init 135 = some (.aload 0, 136, false)) ∧ (NX9_init 136 = some (.ret 6, 138, false) ∧ NX9_init 140 = some (.dup, 141, false) ∧ NX9_init 141 = some (.ret 0, 142, false) ∧ NX9_init 142 = some (.ret 30, 144, false) ∧ NX9_init 144 = some (.iastore, 145, false)) ∧ (NX9_init 145 = some (.dup, 146, false) ∧ NX9_init 146 = some (.ret 1, 147, false) ∧ NX9_init 147 = some (.ret 30, 149, false) ∧ NX9_init 149 = some (.iastore, 150, false) ∧ NX9_init 150 = some (.dup, 151, false)) ∧ (NX9_init 151 = some (.ret 2, 152, false) ∧ NX9_init 152 = some (.ret 10, 154, false) ∧ NX9_init 154 = some (.iastore, 155, false) ∧ NX9_init 155 = some (.dup, 156, false) ∧ NX9_init 156 = some (.ret 3, 157, false)) ∧ (NX9_init 157 = some (.ret 60, 159, false) ∧ NX9_init 159 = some (.iastore, 160, false) ∧ NX9_init 160 = some (.dup, 161, false) ∧ NX9_init 161 = some (.ret 4, 162, false) ∧ NX9_init 162 = some (.ret 1, 163, false)) ∧ (NX9_init 163 = some (.iastore, 164, false) ∧ NX9_init 164 = some (.dup, 165, false) ∧ NX9_init 165 = some (.ret 5, 166, false) ∧ NX9_init 166 = some (.ret 10, 168, false) ∧ NX9_init 168 = some (.iastore, 169, false)) ∧ (NX9_init 169 = some (.putfield 909, 172, false) ∧ NX9_init 172 = some (.aload 0, 173, false) ∧ NX9_init 173 = some (.ret 60, 175, false) ∧ NX9_init 177 = some (.putfield 910, 180, false) ∧ NX9_init 180 = some (.aload 0, 181, false)) ∧ (NX9_init 181 = some (.ret 60, 183, false) ∧ NX9_init 185 = some (.putfield 911, 188, false) ∧ NX9_init 188 = some (.aload 0, 189, false) ∧ NX9_init 189 = some (.ret 0, 190, false) ∧ NX9_init 190 = some (.putfield 912, 193, false)) ∧ (NX9_init 193 = some (.return_, 194, false)) := ⟨by decide +kernel, by decide +kernel, by decide +kernel, by decide +kernel, by decide +kernel, by decide +kernel, by decide +kernel, by decide +kernel, by decide +kernel, by decide +kernel, by decide +kernel, by decide +kernel, by decide +kernel, by decide +kernel, by decide +kernel, by decide +kernel, by decide +kernel⟩
def NX9_question : sm_NF := sm_nd TX9_ cX9_question 4 []
theorem n_X9_question : (NX9_question 0 = some (.aload 0, 1, false) ∧ NX9_question 1 = some (.getfield 900, 4, false) ∧ NX9_question 4 = some (.iload 1, 5, false) ∧ NX9_question 5 = some (.iload 2, 6, false) ∧ NX9_question 6 = some (.iload 3, 7, false)) ∧ (NX9_question 7 = some (.invokeinterface 68 4, 10, false) ∧ NX9_question 10 = some (.ireturn, 11, false)) := ⟨by decide +kernel, by decide +kernel⟩
def NX9_may : sm_NF := sm_nd TX9_ cX9_may 5 []
theorem n_X9_may : (NX9_may 0 = some (.aload 0, 1, false) ∧ NX9_may 1 = some (.getfield 900, 4, false) ∧ NX9_may 4 = some (.iload 1, 5, false) ∧ NX9_may 5 = some (.iload 2, 6, false) ∧ NX9_may 6 = some (.iload 3, 7, false)) ∧ (NX9_may 7 = some (.iload 4, 9, false) ∧ NX9_may 9 = some (.invokeinterface 71 5, 12, false) ∧ NX9_may 12 = some (.ireturn, 13, false)) := ⟨by decide +kernel, by decide +kernel⟩
def NX9_mays : sm_NF := sm_nd TX9_ cX9_mays 4 []
theorem n_X9_mays : (NX9_mays 0 = some (.aload 0, 1, false) ∧ NX9_mays 1 = some (.getfield 900, 4, false) ∧ NX9_mays 4 = some (.iload 1, 5, false) ∧ NX9_mays 5 = some (.iload 2, 6, false) ∧ NX9_mays 6 = some (.invokeinterface 70 3, 9, false)) ∧ (NX9_mays 9 = some (.ifCond .eq 24, 12, false) ∧ NX9_mays 12 = some (.aload 0, 13, false) ∧ NX9_mays 13 = some (.getfield 900, 16, false) ∧ NX9_mays 16 = some (.iload 1, 17, false) ∧ NX9_mays 17 = some (.iload 3, 18, false)) ∧ (NX9_mays 18 = some (.invokeinterface 70 3, 21, false) ∧ NX9_mays 21 = some (.ifCond .ne 26, 24, false) ∧ NX9_mays 24 = some (.putstatic 0, 25, false) ∧ NX9_mays 25 = some (.ireturn, 26, false) ∧ NX9_mays 26 = some (.aload 0, 27, false)) ∧ (NX9_mays 27 = some (.getfield 900, 30, false) ∧ NX9_mays 30 = some (.iload 1, 31, false) ∧ NX9_mays 31 = some (.iload 2, 32, false) ∧ NX9_mays 32 = some (.iload 3, 33, false) ∧ NX9_mays 33 = some (.invokeinterface 73 4, 36, false)) ∧ (NX9_mays 36 = some (.ifCond .eq 43, 39, false) ∧ NX9_mays 39 = some (.ret 1, 40, false) ∧ NX9_mays 40 = some (.goto 44, 43, false) ∧ NX9_mays 43 = some (.ret 0, 44, false) ∧ NX9_mays 44 = some (.ireturn, 45, false)) := ⟨by decide +kernel, by decide +kernel, by decide +kernel, by decide +kernel, by decide +kernel⟩
def NX9_thing : sm_NF := sm_nd TX9_ cX9_thing 5 []
theorem n_X9_thing : (NX9_thing 0 = some (.iload 1, 1, false) ∧ NX9_thing 1 = some (.ifCond .lt 21, 4, false) ∧ NX9_thing 4 = some (.iload 1, 5, false) ∧ NX9_thing 5 = some (.ret 6, 7, false) ∧ NX9_thing 7 = some (.if_icmp .ge 21, 10, false)) ∧ (NX9_thing 10 = some (.iload 2, 11, false) ∧ NX9_thing 11 = some (.ifCond .lt 21, 14, false) ∧ NX9_thing 14 = some (.iload 2, 15, false) ∧ NX9_thing 15 = some (.ret 999, 18, false) ∧ NX9_thing 18 = some (.if_icmp .le 23, 21, false)) ∧ (NX9_thing 21 = some (.putstatic 0, 22, false) ∧ NX9_thing 22 = some (.ireturn, 23, false) ∧ NX9_thing 23 = some (.iload 4, 25, false) ∧ NX9_thing 25 = some (.putstatic 0, 26, false) ∧ NX9_thing 26 = some (.if_icmp .eq 43, 29, false)) ∧ (NX9_thing 29 = some (.aload 0, 30, false) ∧ NX9_thing 30 = some (.getfield 904, 33, false) ∧ NX9_thing 33 = some (.iload 4, 35, false) ∧ NX9_thing 35 = some (.invokeinterface 92 2, 38, false) ∧ NX9_thing 38 = some (.ifCond .ne 43, 41, false)) ∧ (NX9_thing 41 = some (.putstatic 0, 42, false) ∧ NX9_thing 42 = some (.ireturn, 43, false) ∧ NX9_thing 43 = some (.aload 0, 44, false) ∧ NX9_thing 44 = some (.getfield 904, 47, false) ∧ NX9_thing 47 = some (.iload 1, 48, false)) ∧ (NX9_thing 48 = some (.iload 2, 49, false) ∧ NX9_thing 49 = some (.iload 3, 50, false) ∧ NX9_thing 50 = some (.iload 4, 52, false) ∧ NX9_thing 52 = some (.invokeinterface 93 5, 55, false) ∧ NX9_thing 55 = some (.ireturn, 56, false)) := ⟨by decide +kernel, by decide +kernel, by decide +kernel, by decide +kernel, by decide +kernel, by decide +kernel⟩
def NX9_report : sm_NF := sm_nd TX9_ cX9_report 2 []
theorem n_X9_report : NX9_report 0 = some (.aload 0, 1, false) ∧ NX9_report 1 = some (.getfield 903, 4, false) ∧ NX9_report 4 = some (.iload 1, 5, false) ∧ NX9_report 5 = some (.invokeinterface 79 2, 8, false) ∧ NX9_report 8 = some (.ireturn, 9, false) := by decide +kernel
def NX9_mark : sm_NF := sm_nd TX9_ cX9_mark 5 []
theorem n_X9_mark : (NX9_mark 0 = some (.aload 0, 1, false) ∧ NX9_mark 1 = some (.iload 1, 2, false) ∧ NX9_mark 2 = some (.iload 2, 3, false) ∧ NX9_mark 3 = some (.invokeinterface 123 3, 6, false) ∧ NX9_mark 6 = some (.ifCond .eq 20, 9, false)) ∧ (NX9_mark 9 = some (.aload 0, 10, false) ∧ NX9_mark 10 = some (.getfield 900, 13, false) ∧ NX9_mark 13 = some (.iload 3, 14, false) ∧ NX9_mark 14 = some (.invokeinterface 66 2, 17, false) ∧ NX9_mark 17 = some (.ifCond .ne 22, 20, false)) ∧ (NX9_mark 20 = some (.ret 0, 21, false) ∧ NX9_mark 21 = some (.ireturn, 22, false) ∧ NX9_mark 22 = some (.iload 4, 24, false) ∧ NX9_mark 24 = some (.putstatic 0, 25, false) ∧ NX9_mark 25 = some (.if_icmp .eq 43, 28, false)) ∧ (NX9_mark 28 = some (.aload 0, 29, false) ∧ NX9_mark 29 = some (.getfield 900, 32, false) ∧ NX9_mark 32 = some (.iload 3, 33, false) ∧ NX9_mark 33 = some (.iload 4, 35, false) ∧ NX9_mark 35 = some (.invokeinterface 70 3, 38, false)) ∧ (NX9_mark 38 = some (.ifCond .ne 43, 41, false) ∧ NX9_mark 41 = some (.ret 0, 42, false) ∧ NX9_mark 42 = some (.ireturn, 43, false) ∧ NX9_mark 43 = some (.aload 0, 44, false) ∧ NX9_mark 44 = some (.iload 1, 45, false)) ∧ (NX9_mark 45 = some (.invokeinterface 124 2, 48, false) ∧ NX9_mark 48 = some (.iload 2, 49, false) ∧ NX9_mark 49 = some (.iload 3, 50, false) ∧ NX9_mark 50 = some (.iload 4, 52, false) ∧ NX9_mark 52 = some (.invokeinterface 86 4, 55, false)) ∧ (NX9_mark 55 = some (.ret 1, 56, false) ∧ NX9_mark 56 = some (.ireturn, 57, false)) := ⟨by decide +kernel, by decide +kernel, by decide +kernel, by decide +kernel, by decide +kernel, by decide +kernel, by decide +kernel⟩
def NX9_tear : sm_NF := sm_nd TX9_ cX9_tear 4 []
theorem n_X9_tear : (NX9_tear 0 = some (.aload 0, 1, false) ∧ NX9_tear 1 = some (.iload 1, 2, false) ∧ NX9_tear 2 = some (.iload 2, 3, false) ∧ NX9_tear 3 = some (.invokeinterface 123 3, 6, false) ∧ NX9_tear 6 = some (.ifCond .eq 26, 9, false)) ∧ (NX9_tear 9 = some (.aload 0, 10, false) ∧ NX9_tear 10 = some (.iload 1, 11, false) ∧ NX9_tear 11 = some (.invokeinterface 124 2, 14, false) ∧ NX9_tear 14 = some (.iload 2, 15, false) ∧ NX9_tear 15 = some (.iload 3, 16, false)) ∧ (NX9_tear 16 = some (.invokeinterface 87 3, 19, false) ∧ NX9_tear 19 = some (.ifCond .eq 26, 22, false) ∧ NX9_tear 22 = some (.ret 1, 23, false) ∧ NX9_tear 23 = some (.goto 27, 26, false) ∧ NX9_tear 26 = some (.ret 0, 27, false)) ∧ (NX9_tear 27 = some (.ireturn, 28, false)) := ⟨by decide +kernel, by decide +kernel, by decide +kernel, by decide +kernel⟩
def NX9_known : sm_NF := sm_nd TX9_ cX9_known 4 []
theorem n_X9_known : (NX9_known 0 = some (.aload 0, 1, false) ∧ NX9_known 1 = some (.iload 1, 2, false) ∧ NX9_known 2 = some (.iload 2, 3, false) ∧ NX9_known 3 = some (.invokeinterface 123 3, 6, false) ∧ NX9_known 6 = some (.ifCond .eq 22, 9, false)) ∧ (NX9_known 9 = some (.aload 0, 10, false) ∧ NX9_known 10 = some (.iload 1, 11, false) ∧ NX9_known 11 = some (.invokeinterface 124 2, 14, false) ∧ NX9_known 14 = some (.iload 2, 15, false) ∧ NX9_known 15 = some (.iload 3, 16, false)) ∧ (NX9_known 16 = some (.invokeinterface 85 3, 19, false) ∧ NX9_known 19 = some (.goto 23, 22, false) ∧ NX9_known 22 = some (.putstatic 0, 23, false) ∧ NX9_known 23 = some (.ireturn, 24, false)) := ⟨by decide +kernel, by decide +kernel, by decide +kernel⟩
def NX9_length : sm_NF := sm_nd TX9_ cX9_length 3 []
theorem n_X9_length : (NX9_length 0 = some (.aload 0, 1, false) ∧ NX9_length 1 = some (.iload 1, 2, false) ∧ NX9_length 2 = some (.iload 2, 3, false) ∧ NX9_length 3 = some (.invokeinterface 123 3, 6, false) ∧ NX9_length 6 = some (.ifCond .eq 21, 9, false)) ∧ (NX9_length 9 = some (.aload 0, 10, false) ∧ NX9_length 10 = some (.iload 1, 11, false) ∧ NX9_length 11 = some (.invokeinterface 124 2, 14, false) ∧ NX9_length 14 = some (.iload 2, 15, false) ∧ NX9_length 15 = some (.invokeinterface 84 2, 18, false)) ∧ (NX9_length 18 = some (.goto 22, 21, false) ∧ NX9_length 21 = some (.putstatic 0, 22, false) ∧ NX9_length 22 = some (.ireturn, 23, false)) := ⟨by decide +kernel, by decide +kernel, by decide +kernel⟩
def NX9_isThere : sm_NF := sm_nd TX9_ cX9_isThere 3 []
theorem n_X9_isThere : (NX9_isThere 0 = some (.iload 1, 1, false) ∧ NX9_isThere 1 = some (.ifCond .eq 15, 4, false) ∧ NX9_isThere 4 = some (.aload 0, 5, false) ∧ NX9_isThere 5 = some (.getfield 903, 8, false) ∧ NX9_isThere 8 = some (.iload 2, 9, false)) ∧ (NX9_isThere 9 = some (.invokeinterface 76 2, 12, false) ∧ NX9_isThere 12 = some (.goto 23, 15, false) ∧ NX9_isThere 15 = some (.aload 0, 16, false) ∧ NX9_isThere 16 = some (.getfield 904, 19, false) ∧ NX9_isThere 19 = some (.iload 2, 20, false)) ∧ (NX9_isThere 20 = some (.invokeinterface 90 2, 23, false) ∧ NX9_isThere 23 = some (.ireturn, 24, false)) := ⟨by decide +kernel, by decide +kernel, by decide +kernel⟩
def NX9_rowsOf : sm_NF := sm_nd TX9_ cX9_rowsOf 2 []
theorem n_X9_rowsOf : (NX9_rowsOf 0 = some (.iload 1, 1, false) ∧ NX9_rowsOf 1 = some (.ifCond .eq 11, 4, false) ∧ NX9_rowsOf 4 = some (.aload 0, 5, false) ∧ NX9_rowsOf 5 = some (.getfield 901, 8, false) ∧ NX9_rowsOf 8 = some (.goto 15, 11, false)) ∧ (NX9_rowsOf 11 = some (.aload 0, 12, false) ∧ NX9_rowsOf 12 = some (.getfield 902, 15, false) ∧ NX9_rowsOf 15 = some (.areturn, 16, false)) := ⟨by decide +kernel, by decide +kernel⟩
def NX9_fits : sm_NF := sm_nd TX9_ cX9_fits 3 []
theorem n_X9_fits : (NX9_fits 0 = some (.aload 0, 1, false) ∧ NX9_fits 1 = some (.iload 1, 2, false) ∧ NX9_fits 2 = some (.iload 2, 3, false) ∧ NX9_fits 3 = some (.invokeinterface 128 3, 6, false) ∧ NX9_fits 6 = some (.ifCond .ne 11, 9, false)) ∧ (NX9_fits 9 = some (.putstatic 0, 10, false) ∧ NX9_fits 10 = some (.ireturn, 11, false) ∧ NX9_fits 11 = some (.aload 0, 12, false) ∧ NX9_fits 12 = some (.getfield 906, 15, false) ∧ NX9_fits 15 = some (.iload 1, 16, false)) ∧ (NX9_fits 16 = some (.iload 2, 17, false) ∧ NX9_fits 17 = some (.invokeinterface 57 3, 20, false) ∧ NX9_fits 20 = some (.ifCond .eq 27, 23, false) ∧ NX9_fits 23 = some (.ret 1, 24, false) ∧ NX9_fits 24 = some (.goto 28, 27, false)) ∧ (NX9_fits 27 = some (.ret 0, 28, false) ∧ NX9_fits 28 = some (.ireturn, 29, false)) := ⟨by decide +kernel, by decide +kernel, by decide +kernel, by decide +kernel⟩
def NX9_tells : sm_NF := sm_nd TX9_ cX9_tells 3 []
theorem n_X9_tells : (NX9_tells 0 = some (.aload 0, 1, false) ∧ NX9_tells 1 = some (.iload 1, 2, false) ∧ NX9_tells 2 = some (.iload 2, 3, false) ∧ NX9_tells 3 = some (.invokeinterface 128 3, 6, false) ∧ NX9_tells 6 = some (.ifCond .eq 21, 9, false)) ∧ (NX9_tells 9 = some (.aload 0, 10, false) ∧ NX9_tells 10 = some (.getfield 906, 13, false) ∧ NX9_tells 13 = some (.iload 1, 14, false) ∧ NX9_tells 14 = some (.iload 2, 15, false) ∧ NX9_tells 15 = some (.invokeinterface 56 3, 18, false)) ∧ (NX9_tells 18 = some (.goto 22, 21, false) ∧ NX9_tells 21 = some (.putstatic 0, 22, false) ∧ NX9_tells 22 = some (.ireturn, 23, false)) := ⟨by decide +kernel, by decide +kernel, by decide +kernel⟩
def NX9_strength : sm_NF := sm_nd TX9_ cX9_strength 3 []
theorem n_X9_strength : (NX9_strength 0 = some (.aload 0, 1, false) ∧ NX9_strength 1 = some (.iload 1, 2, false) ∧ NX9_strength 2 = some (.iload 2, 3, false) ∧ NX9_strength 3 = some (.invokeinterface 128 3, 6, false) ∧ NX9_strength 6 = some (.ifCond .eq 21, 9, false)) ∧ (NX9_strength 9 = some (.aload 0, 10, false) ∧ NX9_strength 10 = some (.getfield 906, 13, false) ∧ NX9_strength 13 = some (.iload 1, 14, false) ∧ NX9_strength 14 = some (.iload 2, 15, false) ∧ NX9_strength 15 = some (.invokeinterface 62 3, 18, false)) ∧ (NX9_strength 18 = some (.goto 22, 21, false) ∧ NX9_strength 21 = some (.putstatic 0, 22, false) ∧ NX9_strength 22 = some (.ireturn, 23, false)) := ⟨by decide +kernel, by decide +kernel, by decide +kernel⟩
def NX9_arePair : sm_NF := sm_nd TX9_ cX9_arePair 3 []
theorem n_X9_arePair : (NX9_arePair 0 = some (.aload 0, 1, false) ∧ NX9_arePair 1 = some (.getfield 903, 4, false) ∧ NX9_arePair 4 = some (.iload 1, 5, false) ∧ NX9_arePair 5 = some (.invokeinterface 76 2, 8, false) ∧ NX9_arePair 8 = some (.ifCond .eq 26, 11, false)) ∧ (NX9_arePair 11 = some (.aload 0, 12, false) ∧ NX9_arePair 12 = some (.getfield 904, 15, false) ∧ NX9_arePair 15 = some (.iload 2, 16, false) ∧ NX9_arePair 16 = some (.invokeinterface 90 2, 19, false) ∧ NX9_arePair 19 = some (.ifCond .eq 26, 22, false)) ∧ (NX9_arePair 22 = some (.ret 1, 23, false) ∧ NX9_arePair 23 = some (.goto 27, 26, false) ∧ NX9_arePair 26 = some (.ret 0, 27, false) ∧ NX9_arePair 27 = some (.ireturn, 28, false)) := ⟨by decide +kernel, by decide +kernel, by decide +kernel⟩
def NX9_fitting : sm_NF := sm_nd TX9_ cX9_fitting 2 []
theorem n_X9_fitting : (NX9_fitting 0 = some (.aload 0, 1, false) ∧ NX9_fitting 1 = some (.getfield 903, 4, false) ∧ NX9_fitting 4 = some (.iload 1, 5, false) ∧ NX9_fitting 5 = some (.invokeinterface 76 2, 8, false) ∧ NX9_fitting 8 = some (.ifCond .eq 25, 11, false)) ∧ (NX9_fitting 11 = some (.aload 0, 12, false) ∧ NX9_fitting 12 = some (.getfield 906, 15, false) ∧ NX9_fitting 15 = some (.iload 1, 16, false) ∧ NX9_fitting 16 = some (.invokeinterface 58 2, 19, false) ∧ NX9_fitting 19 = some (.invokeinterface 226 1, 22, false)) ∧ (NX9_fitting 22 = some (.goto 26, 25, false) ∧ NX9_fitting 25 = some (.putstatic 0, 26, false) ∧ NX9_fitting 26 = some (.ireturn, 27, false)) := ⟨by decide +kernel, by decide +kernel, by decide +kernel⟩
def NX9_fit : sm_NF := sm_nd TX9_ cX9_fit 7 [32]
theorem n_X9_fit : (NX9_fit 0 = some (.aload 0, 1, false) ∧ NX9_fit 1 = some (.getfield 903, 4, false) ∧ NX9_fit 4 = some (.iload 1, 5, false) ∧ NX9_fit 5 = some (.invokeinterface 76 2, 8, false) ∧ NX9_fit 8 = some (.ifCond .eq 15, 11, false)) ∧ (NX9_fit 11 = some (.iload 2, 12, false) ∧ NX9_fit 12 = some (.ifCond .ge 17, 15, false) ∧ NX9_fit 15 = some (.putstatic 0, 16, false) ∧ NX9_fit 16 = some (.ireturn, 17, false) ∧ NX9_fit 17 = some (.aload 0, 18, false)) ∧ (NX9_fit 18 = some (.getfield 906, 21, false) ∧ NX9_fit 21 = some (.iload 1, 22, false) ∧ NX9_fit 22 = some (.invokeinterface 58 2, 25, false) ∧ NX9_fit 25 = some (.lstore 3, 26, false) ∧ NX9_fit 26 = some (.iload 2, 27, false)) ∧ (NX9_fit 27 = some (.istore 5, 29, false) ∧ NX9_fit 29 = some (.ret 0, 30, false) ∧ NX9_fit 30 = some (.istore 6, 32, false) ∧ NX9_fit 32 = some (.iload 6, 34, true) ∧ NX9_fit 34 = some (.ret 60, 36, false)) ∧ (NX9_fit 36 = some (.if_icmp .ge 65, 39, false) ∧ NX9_fit 39 = some (.lload 3, 40, false) ∧ NX9_fit 40 = some (.iload 6, 42, false) ∧ NX9_fit 42 = some (.invokeinterface 131 2, 45, false) ∧ NX9_fit 45 = some (.ifCond .eq 59, 48, false)) ∧ (NX9_fit 48 = some (.iload 5, 50, false) ∧ NX9_fit 50 = some (.ifCond .ne 56, 53, false) ∧ NX9_fit 53 = some (.iload 6, 55, false) ∧ NX9_fit 55 = some (.ireturn, 56, false) ∧ NX9_fit 56 = some (.iinc 5 (-1), 59, false)) ∧ (NX9_fit 59 = some (.multianewarray 6 1, 62, false) ∧ NX9_fit 62 = some (.goto 32, 65, false) ∧ NX9_fit 65 = some (.putstatic 0, 66, false) ∧ NX9_fit 66 = some (.ireturn, 67, false)) := ⟨by decide +kernel, by decide +kernel, by decide +kernel, by decide +kernel, by decide +kernel, by decide +kernel, by decide +kernel⟩
def NX9_isIn : sm_NF := sm_nd TX9_ cX9_isIn 3 []
theorem n_X9_isIn : (NX9_isIn 0 = some (.lload 0, 1, false) ∧ NX9_isIn 1 = some (.iload 2, 2, false) ∧ NX9_isIn 2 = some (.lshr, 3, false) ∧ NX9_isIn 3 = some (.getstatic 1, 4, false) ∧ NX9_isIn 4 = some (.land, 5, false)) ∧ (NX9_isIn 5 = some (.getstatic 0, 6, false) ∧ NX9_isIn 6 = some (.lcmp, 7, false) ∧ NX9_isIn 7 = some (.ifCond .eq 14, 10, false) ∧ NX9_isIn 10 = some (.ret 1, 11, false) ∧ NX9_isIn 11 = some (.goto 15, 14, false)) ∧ (NX9_isIn 14 = some (.ret 0, 15, false) ∧ NX9_isIn 15 = some (.ireturn, 16, false)) := ⟨by decide +kernel, by decide +kernel, by decide +kernel⟩
def NX9_best : sm_NF := sm_nd TX9_ cX9_best 3 []
theorem n_X9_best : (NX9_best 0 = some (.aload 0, 1, false) ∧ NX9_best 1 = some (.iload 1, 2, false) ∧ NX9_best 2 = some (.invokeinterface 135 2, 5, false) ∧ NX9_best 5 = some (.istore 2, 6, false) ∧ NX9_best 6 = some (.iload 2, 7, false)) ∧ (NX9_best 7 = some (.ifCond .ne 21, 10, false) ∧ NX9_best 10 = some (.aload 0, 11, false) ∧ NX9_best 11 = some (.getfield 907, 14, false) ∧ NX9_best 14 = some (.iload 1, 15, false) ∧ NX9_best 15 = some (.invokeinterface 54 2, 18, false)) ∧ (NX9_best 18 = some (.goto 22, 21, false) ∧ NX9_best 21 = some (.iload 2, 22, false) ∧ NX9_best 22 = some (.ireturn, 23, false)) := ⟨by decide +kernel, by decide +kernel, by decide +kernel⟩
def NX9_sum : sm_NF := sm_nd TX9_ cX9_sum 3 []
theorem n_X9_sum : (NX9_sum 0 = some (.aload 0, 1, false) ∧ NX9_sum 1 = some (.iload 1, 2, false) ∧ NX9_sum 2 = some (.invokeinterface 135 2, 5, false) ∧ NX9_sum 5 = some (.istore 2, 6, false) ∧ NX9_sum 6 = some (.iload 2, 7, false)) ∧ (NX9_sum 7 = some (.ifCond .ne 20, 10, false) ∧ NX9_sum 10 = some (.aload 0, 11, false) ∧ NX9_sum 11 = some (.getfield 907, 14, false) ∧ NX9_sum 14 = some (.invokeinterface 53 1, 17, false) ∧ NX9_sum 17 = some (.goto 21, 20, false)) ∧ (NX9_sum 20 = some (.iload 2, 21, false) ∧ NX9_sum 21 = some (.ireturn, 22, false)) := ⟨by decide +kernel, by decide +kernel, by decide +kernel⟩
def NX9_also : sm_NF := sm_nd TX9_ cX9_also 4 []
theorem n_X9_also : (NX9_also 0 = some (.aload 0, 1, false) ∧ NX9_also 1 = some (.iload 1, 2, false) ∧ NX9_also 2 = some (.invokeinterface 135 2, 5, false) ∧ NX9_also 5 = some (.istore 2, 6, false) ∧ NX9_also 6 = some (.iload 2, 7, false)) ∧ (NX9_also 7 = some (.ifCond .eq 12, 10, false) ∧ NX9_also 10 = some (.iload 2, 11, false) ∧ NX9_also 11 = some (.ireturn, 12, false) ∧ NX9_also 12 = some (.aload 0, 13, false) ∧ NX9_also 13 = some (.getfield 907, 16, false)) ∧ (NX9_also 16 = some (.iload 1, 17, false) ∧ NX9_also 17 = some (.invokeinterface 54 2, 20, false) ∧ NX9_also 20 = some (.istore 3, 21, false) ∧ NX9_also 21 = some (.iload 3, 22, false) ∧ NX9_also 22 = some (.putstatic 0, 23, false)) ∧ (NX9_also 23 = some (.if_icmp .ne 30, 26, false) ∧ NX9_also 26 = some (.putstatic 0, 27, false) ∧ NX9_also 27 = some (.goto 47, 30, false) ∧ NX9_also 30 = some (.aload 0, 31, false) ∧ NX9_also 31 = some (.getfield 906, 34, false)) ∧ (NX9_also 34 = some (.iload 1, 35, false) ∧ NX9_also 35 = some (.aload 0, 36, false) ∧ NX9_also 36 = some (.getfield 906, 39, false) ∧ NX9_also 39 = some (.iload 1, 40, false) ∧ NX9_also 40 = some (.iload 3, 41, false)) ∧ (NX9_also 41 = some (.invokeinterface 62 3, 44, false) ∧ NX9_also 44 = some (.invokeinterface 63 3, 47, false) ∧ NX9_also 47 = some (.ireturn, 48, false)) := ⟨by decide +kernel, by decide +kernel, by decide +kernel, by decide +kernel, by decide +kernel, by decide +kernel⟩
def NX9_matchGroup : sm_NF := sm_nd TX9_ cX9_matchGroup 2 []
theorem n_X9_matchGroup : (NX9_matchGroup 0 = some (.aload 0, 1, false) ∧ NX9_matchGroup 1 = some (.getfield 903, 4, false) ∧ NX9_matchGroup 4 = some (.iload 1, 5, false) ∧ NX9_matchGroup 5 = some (.invokeinterface 77 2, 8, false) ∧ NX9_matchGroup 8 = some (.ifCond .ne 13, 11, false)) ∧ (NX9_matchGroup 11 = some (.putstatic 0, 12, false) ∧ NX9_matchGroup 12 = some (.ireturn, 13, false) ∧ NX9_matchGroup 13 = some (.aload 0, 14, false) ∧ NX9_matchGroup 14 = some (.getfield 907, 17, false) ∧ NX9_matchGroup 17 = some (.iload 1, 18, false)) ∧ (NX9_matchGroup 18 = some (.invokeinterface 49 2, 21, false) ∧ NX9_matchGroup 21 = some (.aload 0, 22, false) ∧ NX9_matchGroup 22 = some (.getfield 907, 25, false) ∧ NX9_matchGroup 25 = some (.invokeinterface 48 1, 28, false) ∧ NX9_matchGroup 28 = some (.ifCond .eq 34, 31, false)) ∧ (NX9_matchGroup 31 = some (.putstatic 1, 33, false) ∧ NX9_matchGroup 33 = some (.ireturn, 34, false) ∧ NX9_matchGroup 34 = some (.aload 0, 35, false) ∧ NX9_matchGroup 35 = some (.getfield 907, 38, false) ∧ NX9_matchGroup 38 = some (.invokeinterface 52 1, 41, false)) ∧ (NX9_matchGroup 41 = some (.ret 0, 42, false) ∧ NX9_matchGroup 42 = some (.ireturn, 43, false)) := ⟨by decide +kernel, by decide +kernel, by decide +kernel, by decide +kernel, by decide +kernel⟩
def NX9_group : sm_NF := sm_nd TX9_ cX9_group 3 []
theorem n_X9_group : (NX9_group 0 = some (.aload 0, 1, false) ∧ NX9_group 1 = some (.getfield 903, 4, false) ∧ NX9_group 4 = some (.iload 1, 5, false) ∧ NX9_group 5 = some (.invokeinterface 77 2, 8, false) ∧ NX9_group 8 = some (.ifCond .eq 20, 11, false)) ∧ (NX9_group 11 = some (.iload 2, 12, false) ∧ NX9_group 12 = some (.ifCond .lt 20, 15, false) ∧ NX9_group 15 = some (.iload 2, 16, false) ∧ NX9_group 16 = some (.ret 1, 17, false) ∧ NX9_group 17 = some (.if_icmp .le 22, 20, false)) ∧ (NX9_group 20 = some (.putstatic 0, 21, false) ∧ NX9_group 21 = some (.ireturn, 22, false) ∧ NX9_group 22 = some (.aload 0, 23, false) ∧ NX9_group 23 = some (.getfield 907, 26, false) ∧ NX9_group 26 = some (.iload 1, 27, false)) ∧ (NX9_group 27 = some (.invokeinterface 49 2, 30, false) ∧ NX9_group 30 = some (.iload 2, 31, false) ∧ NX9_group 31 = some (.ifCond .ne 44, 34, false) ∧ NX9_group 34 = some (.aload 0, 35, false) ∧ NX9_group 35 = some (.getfield 907, 38, false)) ∧ (NX9_group 38 = some (.invokeinterface 46 1, 41, false) ∧ NX9_group 41 = some (.goto 51, 44, false) ∧ NX9_group 44 = some (.aload 0, 45, false) ∧ NX9_group 45 = some (.getfield 907, 48, false) ∧ NX9_group 48 = some (.invokeinterface 47 1, 51, false)) ∧ (NX9_group 51 = some (.ireturn, 52, false)) := ⟨by decide +kernel, by decide +kernel, by decide +kernel, by decide +kernel, by decide +kernel, by decide +kernel⟩
def NX9_like : sm_NF := sm_nd TX9_ cX9_like 3 []
theorem n_X9_like : (NX9_like 0 = some (.aload 0, 1, false) ∧ NX9_like 1 = some (.getfield 904, 4, false) ∧ NX9_like 4 = some (.iload 1, 5, false) ∧ NX9_like 5 = some (.invokeinterface 90 2, 8, false) ∧ NX9_like 8 = some (.ifCond .eq 22, 11, false)) ∧ (NX9_like 11 = some (.aload 0, 12, false) ∧ NX9_like 12 = some (.getfield 904, 15, false) ∧ NX9_like 15 = some (.iload 2, 16, false) ∧ NX9_like 16 = some (.invokeinterface 90 2, 19, false) ∧ NX9_like 19 = some (.ifCond .ne 24, 22, false)) ∧ (NX9_like 22 = some (.putstatic 0, 23, false) ∧ NX9_like 23 = some (.ireturn, 24, false) ∧ NX9_like 24 = some (.aload 0, 25, false) ∧ NX9_like 25 = some (.getfield 908, 28, false) ∧ NX9_like 28 = some (.iload 1, 29, false)) ∧ (NX9_like 29 = some (.iload 2, 30, false) ∧ NX9_like 30 = some (.invokeinterface 2 3, 33, false) ∧ NX9_like 33 = some (.ifCond .eq 40, 36, false) ∧ NX9_like 36 = some (.ret 1, 37, false) ∧ NX9_like 37 = some (.goto 41, 40, false)) ∧ (NX9_like 40 = some (.ret 0, 41, false) ∧ NX9_like 41 = some (.ireturn, 42, false)) := ⟨by decide +kernel, by decide +kernel, by decide +kernel, by decide +kernel, by decide +kernel⟩
def NX9_parts : sm_NF := sm_nd TX9_ cX9_parts 3 []
theorem n_X9_parts : (NX9_parts 0 = some (.aload 0, 1, false) ∧ NX9_parts 1 = some (.getfield 903, 4, false) ∧ NX9_parts 4 = some (.iload 1, 5, false) ∧ NX9_parts 5 = some (.invokeinterface 76 2, 8, false) ∧ NX9_parts 8 = some (.ifCond .eq 22, 11, false)) ∧ (NX9_parts 11 = some (.aload 0, 12, false) ∧ NX9_parts 12 = some (.getfield 900, 15, false) ∧ NX9_parts 15 = some (.iload 2, 16, false) ∧ NX9_parts 16 = some (.invokeinterface 66 2, 19, false) ∧ NX9_parts 19 = some (.ifCond .ne 24, 22, false)) ∧ (NX9_parts 22 = some (.putstatic 0, 23, false) ∧ NX9_parts 23 = some (.ireturn, 24, false) ∧ NX9_parts 24 = some (.aload 0, 25, false) ∧ NX9_parts 25 = some (.getfield 908, 28, false) ∧ NX9_parts 28 = some (.aload 0, 29, false)) ∧ (NX9_parts 29 = some (.getfield 906, 32, false) ∧ NX9_parts 32 = some (.iload 1, 33, false) ∧ NX9_parts 33 = some (.invokeinterface 58 2, 36, false) ∧ NX9_parts 36 = some (.iload 2, 37, false) ∧ NX9_parts 37 = some (.invokeinterface 3 3, 40, false)) ∧ (NX9_parts 40 = some (.ireturn, 41, false)) := ⟨by decide +kernel, by decide +kernel, by decide +kernel, by decide +kernel, by decide +kernel⟩
def NX9_ask : sm_NF := sm_nd TX9_ cX9_ask 2 []
theorem n_X9_ask : (NX9_ask 0 = some (.aload 0, 1, false) ∧ NX9_ask 1 = some (.getfield 903, 4, false) ∧ NX9_ask 4 = some (.iload 1, 5, false) ∧ NX9_ask 5 = some (.invokeinterface 76 2, 8, false) ∧ NX9_ask 8 = some (.ifCond .eq 29, 11, false)) ∧ (NX9_ask 11 = some (.aload 0, 12, false) ∧ NX9_ask 12 = some (.getfield 908, 15, false) ∧ NX9_ask 15 = some (.aload 0, 16, false) ∧ NX9_ask 16 = some (.getfield 906, 19, false) ∧ NX9_ask 19 = some (.iload 1, 20, false)) ∧ (NX9_ask 20 = some (.invokeinterface 58 2, 23, false) ∧ NX9_ask 23 = some (.invokeinterface 5 2, 26, false) ∧ NX9_ask 26 = some (.goto 30, 29, false) ∧ NX9_ask 29 = some (.putstatic 0, 30, false) ∧ NX9_ask 30 = some (.ireturn, 31, false)) := ⟨by decide +kernel, by decide +kernel, by decide +kernel⟩
def NX9_fewest : sm_NF := sm_nd TX9_ cX9_fewest 4 []
theorem n_X9_fewest : (NX9_fewest 0 = some (.aload 0, 1, false) ∧ NX9_fewest 1 = some (.getfield 903, 4, false) ∧ NX9_fewest 4 = some (.iload 1, 5, false) ∧ NX9_fewest 5 = some (.invokeinterface 76 2, 8, false) ∧ NX9_fewest 8 = some (.ifCond .ne 13, 11, false)) ∧ (NX9_fewest 11 = some (.putstatic 0, 12, false) ∧ NX9_fewest 12 = some (.ireturn, 13, false) ∧ NX9_fewest 13 = some (.aload 0, 14, false) ∧ NX9_fewest 14 = some (.getfield 906, 17, false) ∧ NX9_fewest 17 = some (.iload 1, 18, false)) ∧ (NX9_fewest 18 = some (.invokeinterface 58 2, 21, false) ∧ NX9_fewest 21 = some (.lstore 2, 22, false) ∧ NX9_fewest 22 = some (.lload 2, 23, false) ∧ NX9_fewest 23 = some (.invokeinterface 226 1, 26, false) ∧ NX9_fewest 26 = some (.ret 12, 28, false)) ∧ (NX9_fewest 28 = some (.if_icmp .le 36, 31, false) ∧ NX9_fewest 31 = some (.putstatic 1, 33, false) ∧ NX9_fewest 33 = some (.goto 44, 36, false) ∧ NX9_fewest 36 = some (.aload 0, 37, false) ∧ NX9_fewest 37 = some (.getfield 908, 40, false)) ∧ (NX9_fewest 40 = some (.lload 2, 41, false) ∧ NX9_fewest 41 = some (.invokeinterface 6 2, 44, false) ∧ NX9_fewest 44 = some (.ireturn, 45, false)) := ⟨by decide +kernel, by decide +kernel, by decide +kernel, by decide +kernel, by decide +kernel⟩
def NX9_claim : sm_NF := sm_nd TX9_ cX9_claim 3 []
theorem n_X9_claim : (NX9_claim 0 = some (.aload 0, 1, false) ∧ NX9_claim 1 = some (.getfield 903, 4, false) ∧ NX9_claim 4 = some (.iload 1, 5, false) ∧ NX9_claim 5 = some (.invokeinterface 77 2, 8, false) ∧ NX9_claim 8 = some (.ifCond .ne 13, 11, false)) ∧ (NX9_claim 11 = some (.putstatic 0, 12, false) ∧ NX9_claim 12 = some (.ireturn, 13, false) ∧ NX9_claim 13 = some (.aload 0, 14, false) ∧ NX9_claim 14 = some (.getfield 904, 17, false) ∧ NX9_claim 17 = some (.iload 2, 18, false)) ∧ (NX9_claim 18 = some (.invokeinterface 90 2, 21, false) ∧ NX9_claim 21 = some (.ifCond .ne 27, 24, false) ∧ NX9_claim 24 = some (.putstatic 1, 26, false) ∧ NX9_claim 26 = some (.ireturn, 27, false) ∧ NX9_claim 27 = some (.aload 0, 28, false)) ∧ (NX9_claim 28 = some (.getfield 904, 31, false) ∧ NX9_claim 31 = some (.iload 2, 32, false) ∧ NX9_claim 32 = some (.invokeinterface 91 2, 35, false) ∧ NX9_claim 35 = some (.ifCond .ne 41, 38, false) ∧ NX9_claim 38 = some (.putstatic 2, 40, false)) ∧ (NX9_claim 40 = some (.ireturn, 41, false) ∧ NX9_claim 41 = some (.aload 0, 42, false) ∧ NX9_claim 42 = some (.getfield 906, 45, false) ∧ NX9_claim 45 = some (.iload 1, 46, false) ∧ NX9_claim 46 = some (.iload 2, 47, false)) ∧ (NX9_claim 47 = some (.invokeinterface 57 3, 50, false) ∧ NX9_claim 50 = some (.ifCond .ne 56, 53, false) ∧ NX9_claim 53 = some (.putstatic 3, 55, false) ∧ NX9_claim 55 = some (.ireturn, 56, false) ∧ NX9_claim 56 = some (.aload 0, 57, false)) ∧ (NX9_claim 57 = some (.getfield 905, 60, false) ∧ NX9_claim 60 = some (.iload 1, 61, false) ∧ NX9_claim 61 = some (.iload 2, 62, false) ∧ NX9_claim 62 = some (.invokeinterface 38 3, 65, false) ∧ NX9_claim 65 = some (.ifCond .eq 71, 68, false)) ∧ (NX9_claim 68 = some (.putstatic 4, 70, false) ∧ NX9_claim 70 = some (.ireturn, 71, false) ∧ NX9_claim 71 = some (.aload 0, 72, false) ∧ NX9_claim 72 = some (.getfield 905, 75, false) ∧ NX9_claim 75 = some (.invokeinterface 29 1, 78, false)) ∧ (NX9_claim 78 = some (.ifCond .eq 86, 81, false) ∧ NX9_claim 81 = some (.putstatic 5, 83, false) ∧ NX9_claim 83 = some (.goto 95, 86, false) ∧ NX9_claim 86 = some (.aload 0, 87, false) ∧ NX9_claim 87 = some (.getfield 905, 90, false)) ∧ (NX9_claim 90 = some (.iload 1, 91, false) ∧ NX9_claim 91 = some (.iload 2, 92, false) ∧ NX9_claim 92 = some (.invokeinterface 37 3, 95, false) ∧ NX9_claim 95 = some (.ireturn, 96, false)) := ⟨by decide +kernel, by decide +kernel, by decide +kernel, by decide +kernel, by decide +kernel, by decide +kernel, by decide +kernel, by decide +kernel, by decide +kernel, by decide +kernel⟩
def NX9_prove : sm_NF := sm_nd TX9_ cX9_prove 5 []
theorem n_X9_prove : (NX9_prove 0 = some (.aload 0, 1, false) ∧ NX9_prove 1 = some (.getfield 905, 4, false) ∧ NX9_prove 4 = some (.iload 1, 5, false) ∧ NX9_prove 5 = some (.invokeinterface 30 2, 8, false) ∧ NX9_prove 8 = some (.ifCond .ne 13, 11, false)) ∧ (NX9_prove 11 = some (.ret 1, 12, false) ∧ NX9_prove 12 = some (.ireturn, 13, false) ∧ NX9_prove 13 = some (.aload 0, 14, false) ∧ NX9_prove 14 = some (.getfield 900, 17, false) ∧ NX9_prove 17 = some (.iload 2, 18, false)) ∧ (NX9_prove 18 = some (.invokeinterface 66 2, 21, false) ∧ NX9_prove 21 = some (.ifCond .ne 26, 24, false) ∧ NX9_prove 24 = some (.ret 2, 25, false) ∧ NX9_prove 25 = some (.ireturn, 26, false) ∧ NX9_prove 26 = some (.aload 0, 27, false)) ∧ (NX9_prove 27 = some (.getfield 901, 30, false) ∧ NX9_prove 30 = some (.aload 0, 31, false) ∧ NX9_prove 31 = some (.getfield 905, 34, false) ∧ NX9_prove 34 = some (.iload 1, 35, false) ∧ NX9_prove 35 = some (.invokeinterface 32 2, 38, false)) ∧ (NX9_prove 38 = some (.iload 2, 39, false) ∧ NX9_prove 39 = some (.invokeinterface 85 3, 42, false) ∧ NX9_prove 42 = some (.putstatic 0, 43, false) ∧ NX9_prove 43 = some (.if_icmp .eq 48, 46, false) ∧ NX9_prove 46 = some (.ret 3, 47, false)) ∧ (NX9_prove 47 = some (.ireturn, 48, false) ∧ NX9_prove 48 = some (.aload 0, 49, false) ∧ NX9_prove 49 = some (.getfield 902, 52, false) ∧ NX9_prove 52 = some (.aload 0, 53, false) ∧ NX9_prove 53 = some (.getfield 905, 56, false)) ∧ (NX9_prove 56 = some (.iload 1, 57, false) ∧ NX9_prove 57 = some (.invokeinterface 33 2, 60, false) ∧ NX9_prove 60 = some (.iload 2, 61, false) ∧ NX9_prove 61 = some (.invokeinterface 85 3, 64, false) ∧ NX9_prove 64 = some (.istore 4, 66, false)) ∧ (NX9_prove 66 = some (.iload 4, 68, false) ∧ NX9_prove 68 = some (.putstatic 0, 69, false) ∧ NX9_prove 69 = some (.if_icmp .ne 74, 72, false) ∧ NX9_prove 72 = some (.ret 4, 73, false) ∧ NX9_prove 73 = some (.ireturn, 74, false)) ∧ (NX9_prove 74 = some (.iload 3, 75, false) ∧ NX9_prove 75 = some (.iload 4, 77, false) ∧ NX9_prove 77 = some (.if_icmp .eq 91, 80, false) ∧ NX9_prove 80 = some (.aload 0, 81, false) ∧ NX9_prove 81 = some (.getfield 905, 84, false)) ∧ (NX9_prove 84 = some (.iload 1, 85, false) ∧ NX9_prove 85 = some (.ret 3, 86, false) ∧ NX9_prove 86 = some (.invokeinterface 42 3, 89, false) ∧ NX9_prove 89 = some (.ret 5, 90, false) ∧ NX9_prove 90 = some (.ireturn, 91, false)) ∧ (NX9_prove 91 = some (.aload 0, 92, false) ∧ NX9_prove 92 = some (.getfield 905, 95, false) ∧ NX9_prove 95 = some (.iload 1, 96, false) ∧ NX9_prove 96 = some (.invokeinterface 41 2, 99, false) ∧ NX9_prove 99 = some (.ret 0, 100, false)) ∧ (NX9_prove 100 = some (.ireturn, 101, false)) := ⟨by decide +kernel, by decide +kernel, by decide +kernel, by decide +kernel, by decide +kernel, by decide +kernel, by decide +kernel, by decide +kernel, by decide +kernel, by decide +kernel, by decide +kernel, by decide +kernel⟩
def NX9_give : sm_NF := sm_nd TX9_ cX9_give 4 []
theorem n_X9_give : (NX9_give 0 = some (.aload 0, 1, false) ∧ NX9_give 1 = some (.getfield 905, 4, false) ∧ NX9_give 4 = some (.iload 1, 5, false) ∧ NX9_give 5 = some (.invokeinterface 30 2, 8, false) ∧ NX9_give 8 = some (.ifCond .ne 13, 11, false)) ∧ (NX9_give 11 = some (.ret 1, 12, false) ∧ NX9_give 12 = some (.ireturn, 13, false) ∧ NX9_give 13 = some (.aload 0, 14, false) ∧ NX9_give 14 = some (.getfield 905, 17, false) ∧ NX9_give 17 = some (.iload 1, 18, false)) ∧ (NX9_give 18 = some (.invokeinterface 31 2, 21, false) ∧ NX9_give 21 = some (.ret 1, 22, false) ∧ NX9_give 22 = some (.if_icmp .eq 27, 25, false) ∧ NX9_give 25 = some (.ret 2, 26, false) ∧ NX9_give 26 = some (.ireturn, 27, false)) ∧ (NX9_give 27 = some (.aload 0, 28, false) ∧ NX9_give 28 = some (.getfield 905, 31, false) ∧ NX9_give 31 = some (.iload 1, 32, false) ∧ NX9_give 32 = some (.invokeinterface 32 2, 35, false) ∧ NX9_give 35 = some (.istore 2, 36, false)) ∧ (NX9_give 36 = some (.aload 0, 37, false) ∧ NX9_give 37 = some (.getfield 905, 40, false) ∧ NX9_give 40 = some (.iload 1, 41, false) ∧ NX9_give 41 = some (.invokeinterface 33 2, 44, false) ∧ NX9_give 44 = some (.istore 3, 45, false)) ∧ (NX9_give 45 = some (.aload 0, 46, false) ∧ NX9_give 46 = some (.getfield 905, 49, false) ∧ NX9_give 49 = some (.iload 1, 50, false) ∧ NX9_give 50 = some (.iload 3, 51, false) ∧ NX9_give 51 = some (.invokeinterface 39 3, 54, false)) ∧ (NX9_give 54 = some (.ifCond .eq 59, 57, false) ∧ NX9_give 57 = some (.ret 3, 58, false) ∧ NX9_give 58 = some (.ireturn, 59, false) ∧ NX9_give 59 = some (.aload 0, 60, false) ∧ NX9_give 60 = some (.getfield 906, 63, false)) ∧ (NX9_give 63 = some (.iload 2, 64, false) ∧ NX9_give 64 = some (.iload 3, 65, false) ∧ NX9_give 65 = some (.invokeinterface 57 3, 68, false) ∧ NX9_give 68 = some (.ifCond .ne 73, 71, false) ∧ NX9_give 71 = some (.ret 4, 72, false)) ∧ (NX9_give 72 = some (.ireturn, 73, false) ∧ NX9_give 73 = some (.aload 0, 74, false) ∧ NX9_give 74 = some (.getfield 904, 77, false) ∧ NX9_give 77 = some (.iload 3, 78, false) ∧ NX9_give 78 = some (.invokeinterface 95 2, 81, false)) ∧ (NX9_give 81 = some (.ret 3, 82, false) ∧ NX9_give 82 = some (.if_icmp .ne 98, 85, false) ∧ NX9_give 85 = some (.aload 0, 86, false) ∧ NX9_give 86 = some (.getfield 905, 89, false) ∧ NX9_give 89 = some (.iload 1, 90, false)) ∧ (NX9_give 90 = some (.invokeinterface 40 2, 93, false) ∧ NX9_give 93 = some (.ifCond .eq 98, 96, false) ∧ NX9_give 96 = some (.ret 5, 97, false) ∧ NX9_give 97 = some (.ireturn, 98, false) ∧ NX9_give 98 = some (.aload 0, 99, false)) ∧ (NX9_give 99 = some (.getfield 905, 102, false) ∧ NX9_give 102 = some (.iload 1, 103, false) ∧ NX9_give 103 = some (.ret 4, 104, false) ∧ NX9_give 104 = some (.invokeinterface 42 3, 107, false) ∧ NX9_give 107 = some (.aload 0, 108, false)) ∧ (NX9_give 108 = some (.iload 2, 109, false) ∧ NX9_give 109 = some (.invokeinterface 146 2, 112, false) ∧ NX9_give 112 = some (.aload 0, 113, false) ∧ NX9_give 113 = some (.iload 3, 114, false) ∧ NX9_give 114 = some (.aload 0, 115, false)) ∧ (NX9_give 115 = some (.getfield 903, 118, false) ∧ NX9_give 118 = some (.iload 2, 119, false) ∧ NX9_give 119 = some (.invokeinterface 78 2, 122, false) ∧ NX9_give 122 = some (.ret 1, 123, false) ∧ NX9_give 123 = some (.invokeinterface 154 4, 126, false)) ∧ (NX9_give 126 = some (.ret 0, 127, false) ∧ NX9_give 127 = some (.ireturn, 128, false)) := ⟨by decide +kernel, by decide +kernel, by decide +kernel, by decide +kernel, by decide +kernel, by decide +kernel, by decide +kernel, by decide +kernel, by decide +kernel, by decide +kernel, by decide +kernel, by decide +kernel, by decide +kernel, by decide +kernel, by decide +kernel⟩
def NX9_withdraw : sm_NF := sm_nd TX9_ cX9_withdraw 2 []
theorem n_X9_withdraw : (NX9_withdraw 0 = some (.aload 0, 1, false) ∧ NX9_withdraw 1 = some (.getfield 905, 4, false) ∧ NX9_withdraw 4 = some (.iload 1, 5, false) ∧ NX9_withdraw 5 = some (.invokeinterface 30 2, 8, false) ∧ NX9_withdraw 8 = some (.ifCond .ne 13, 11, false)) ∧ (NX9_withdraw 11 = some (.ret 0, 12, false) ∧ NX9_withdraw 12 = some (.ireturn, 13, false) ∧ NX9_withdraw 13 = some (.aload 0, 14, false) ∧ NX9_withdraw 14 = some (.getfield 905, 17, false) ∧ NX9_withdraw 17 = some (.iload 1, 18, false)) ∧ (NX9_withdraw 18 = some (.ret 2, 19, false) ∧ NX9_withdraw 19 = some (.invokeinterface 42 3, 22, false) ∧ NX9_withdraw 22 = some (.ret 1, 23, false) ∧ NX9_withdraw 23 = some (.ireturn, 24, false)) := ⟨by decide +kernel, by decide +kernel, by decide +kernel⟩
def NX9_close : sm_NF := sm_nd TX9_ cX9_close 2 []
theorem n_X9_close : (NX9_close 0 = some (.aload 0, 1, false) ∧ NX9_close 1 = some (.getfield 903, 4, false) ∧ NX9_close 4 = some (.iload 1, 5, false) ∧ NX9_close 5 = some (.invokeinterface 77 2, 8, false) ∧ NX9_close 8 = some (.ifCond .ne 13, 11, false)) ∧ (NX9_close 11 = some (.ret 0, 12, false) ∧ NX9_close 12 = some (.ireturn, 13, false) ∧ NX9_close 13 = some (.aload 0, 14, false) ∧ NX9_close 14 = some (.iload 1, 15, false) ∧ NX9_close 15 = some (.invokeinterface 146 2, 18, false)) ∧ (NX9_close 18 = some (.ret 1, 19, false) ∧ NX9_close 19 = some (.ireturn, 20, false)) := ⟨by decide +kernel, by decide +kernel, by decide +kernel⟩
def NX9_shut : sm_NF := sm_nd TX9_ cX9_shut 2 []
theorem n_X9_shut : (NX9_shut 0 = some (.aload 0, 1, false) ∧ NX9_shut 1 = some (.getfield 903, 4, false) ∧ NX9_shut 4 = some (.iload 1, 5, false) ∧ NX9_shut 5 = some (.invokeinterface 80 2, 8, false) ∧ NX9_shut 8 = some (.aload 0, 9, false)) ∧ (NX9_shut 9 = some (.getfield 905, 12, false) ∧ NX9_shut 12 = some (.iload 1, 13, false) ∧ NX9_shut 13 = some (.ret 2, 14, false) ∧ NX9_shut 14 = some (.invokeinterface 43 3, 17, false) ∧ NX9_shut 17 = some (.return_, 18, false)) := ⟨by decide +kernel, by decide +kernel⟩
def NX9_claimed : sm_NF := sm_nd TX9_ cX9_claimed 3 []
theorem n_X9_claimed : (NX9_claimed 0 = some (.aload 0, 1, false) ∧ NX9_claimed 1 = some (.getfield 905, 4, false) ∧ NX9_claimed 4 = some (.iload 1, 5, false) ∧ NX9_claimed 5 = some (.invokeinterface 28 2, 8, false) ∧ NX9_claimed 8 = some (.ifCond .ne 22, 11, false)) ∧ (NX9_claimed 14 = some (.dup, 15, false) ∧ NX9_claimed 22 = some (.iload 2, 23, false) ∧ NX9_claimed 23 = some (.tableswitch 75 0 2 #[48, 57, 66], 48, false) ∧ NX9_claimed 48 = some (.aload 0, 49, false) ∧ NX9_claimed 49 = some (.getfield 905, 52, false)) ∧ (NX9_claimed 52 = some (.iload 1, 53, false) ∧ NX9_claimed 53 = some (.invokeinterface 31 2, 56, false) ∧ NX9_claimed 56 = some (.ireturn, 57, false) ∧ NX9_claimed 57 = some (.aload 0, 58, false) ∧ NX9_claimed 58 = some (.getfield 905, 61, false)) ∧ (NX9_claimed 61 = some (.iload 1, 62, false) ∧ NX9_claimed 62 = some (.invokeinterface 32 2, 65, false) ∧ NX9_claimed 65 = some (.ireturn, 66, false) ∧ NX9_claimed 66 = some (.aload 0, 67, false) ∧ NX9_claimed 67 = some (.getfield 905, 70, false)) ∧ (NX9_claimed 70 = some (.iload 1, 71, false) ∧ NX9_claimed 71 = some (.invokeinterface 33 2, 74, false) ∧ NX9_claimed 74 = some (.ireturn, 75, false) ∧ NX9_claimed 78 = some (.dup, 79, false)) := ⟨by decide +kernel, by decide +kernel, by decide +kernel, by decide +kernel, by decide +kernel⟩
def NX9_into : sm_NF := sm_nd TX9_ cX9_into 3 []
theorem n_X9_into : (NX9_into 0 = some (.aload 0, 1, false) ∧ NX9_into 1 = some (.getfield 904, 4, false) ∧ NX9_into 4 = some (.iload 1, 5, false) ∧ NX9_into 5 = some (.invokeinterface 91 2, 8, false) ∧ NX9_into 8 = some (.ifCond .ne 13, 11, false)) ∧ (NX9_into 11 = some (.ret 0, 12, false) ∧ NX9_into 12 = some (.ireturn, 13, false) ∧ NX9_into 13 = some (.iload 2, 14, false) ∧ NX9_into 14 = some (.putstatic 0, 15, false) ∧ NX9_into 15 = some (.if_icmp .eq 43, 18, false)) ∧ (NX9_into 18 = some (.aload 0, 19, false) ∧ NX9_into 19 = some (.getfield 904, 22, false) ∧ NX9_into 22 = some (.iload 2, 23, false) ∧ NX9_into 23 = some (.invokeinterface 92 2, 26, false) ∧ NX9_into 26 = some (.ifCond .eq 41, 29, false)) ∧ (NX9_into 29 = some (.aload 0, 30, false) ∧ NX9_into 30 = some (.getfield 904, 33, false) ∧ NX9_into 33 = some (.iload 1, 34, false) ∧ NX9_into 34 = some (.iload 2, 35, false) ∧ NX9_into 35 = some (.invokeinterface 105 3, 38, false)) ∧ (NX9_into 38 = some (.ifCond .eq 43, 41, false) ∧ NX9_into 41 = some (.ret 0, 42, false) ∧ NX9_into 42 = some (.ireturn, 43, false) ∧ NX9_into 43 = some (.aload 0, 44, false) ∧ NX9_into 44 = some (.getfield 904, 47, false)) ∧ (NX9_into 47 = some (.iload 1, 48, false) ∧ NX9_into 48 = some (.iload 2, 49, false) ∧ NX9_into 49 = some (.invokeinterface 104 3, 52, false) ∧ NX9_into 52 = some (.ret 1, 53, false) ∧ NX9_into 53 = some (.ireturn, 54, false)) := ⟨by decide +kernel, by decide +kernel, by decide +kernel, by decide +kernel, by decide +kernel, by decide +kernel⟩
def NX9_place : sm_NF := sm_nd TX9_ cX9_place 3 []
theorem n_X9_place : (NX9_place 0 = some (.aload 0, 1, false) ∧ NX9_place 1 = some (.getfield 904, 4, false) ∧ NX9_place 4 = some (.iload 1, 5, false) ∧ NX9_place 5 = some (.invokeinterface 90 2, 8, false) ∧ NX9_place 8 = some (.ifCond .ne 22, 11, false)) ∧ (NX9_place 14 = some (.dup, 15, false) ∧ NX9_place 22 = some (.iload 2, 23, false) ∧ NX9_place 23 = some (.tableswitch 166 0 9 #[76, 85, 94, 103, 112, 121, 130, 139, 148, 157], 76, false) ∧ NX9_place 76 = some (.aload 0, 77, false) ∧ NX9_place 77 = some (.getfield 904, 80, false)) ∧ (NX9_place 80 = some (.iload 1, 81, false) ∧ NX9_place 81 = some (.invokeinterface 94 2, 84, false) ∧ NX9_place 84 = some (.ireturn, 85, false) ∧ NX9_place 85 = some (.aload 0, 86, false) ∧ NX9_place 86 = some (.getfield 904, 89, false)) ∧ (NX9_place 89 = some (.iload 1, 90, false) ∧ NX9_place 90 = some (.invokeinterface 98 2, 93, false) ∧ NX9_place 93 = some (.ireturn, 94, false) ∧ NX9_place 94 = some (.aload 0, 95, false) ∧ NX9_place 95 = some (.getfield 904, 98, false)) ∧ (NX9_place 98 = some (.iload 1, 99, false) ∧ NX9_place 99 = some (.invokeinterface 99 2, 102, false) ∧ NX9_place 102 = some (.ireturn, 103, false) ∧ NX9_place 103 = some (.aload 0, 104, false) ∧ NX9_place 104 = some (.getfield 904, 107, false)) ∧ (NX9_place 107 = some (.iload 1, 108, false) ∧ NX9_place 108 = some (.invokeinterface 95 2, 111, false) ∧ NX9_place 111 = some (.ireturn, 112, false) ∧ NX9_place 112 = some (.aload 0, 113, false) ∧ NX9_place 113 = some (.getfield 904, 116, false)) ∧ (NX9_place 116 = some (.iload 1, 117, false) ∧ NX9_place 117 = some (.invokeinterface 96 2, 120, false) ∧ NX9_place 120 = some (.ireturn, 121, false) ∧ NX9_place 121 = some (.aload 0, 122, false) ∧ NX9_place 122 = some (.getfield 904, 125, false)) ∧ (NX9_place 125 = some (.iload 1, 126, false) ∧ NX9_place 126 = some (.invokeinterface 100 2, 129, false) ∧ NX9_place 129 = some (.ireturn, 130, false) ∧ NX9_place 130 = some (.aload 0, 131, false) ∧ NX9_place 131 = some (.getfield 904, 134, false)) ∧ (NX9_place 134 = some (.iload 1, 135, false) ∧ NX9_place 135 = some (.invokeinterface 101 2, 138, false) ∧ NX9_place 138 = some (.ireturn, 139, false) ∧ NX9_place 139 = some (.aload 0, 140, false) ∧ NX9_place 140 = some (.getfield 904, 143, false)) ∧ (NX9_place 143 = some (.iload 1, 144, false) ∧ NX9_place 144 = some (.invokeinterface 102 2, 147, false) ∧ NX9_place 147 = some (.ireturn, 148, false) ∧ NX9_place 148 = some (.aload 0, 149, false) ∧ NX9_place 149 = some (.getfield 904, 152, false)) ∧ (NX9_place 152 = some (.iload 1, 153, false) ∧ NX9_place 153 = some (.invokeinterface 107 2, 156, false) ∧ NX9_place 156 = some (.ireturn, 157, false) ∧ NX9_place 157 = some (.aload 0, 158, false) ∧ NX9_place 158 = some (.getfield 905, 161, false)) ∧ (NX9_place 161 = some (.iload 1, 162, false) ∧ NX9_place 162 = some (.invokeinterface 34 2, 165, false) ∧ NX9_place 165 = some (.ireturn, 166, false) ∧ NX9_place 169 = some (.dup, 170, false)) := ⟨by decide +kernel, by decide +kernel, by decide +kernel, by decide +kernel, by decide +kernel, by decide +kernel, by decide +kernel, by decide +kernel, by decide +kernel, by decide +kernel, by decide +kernel, by decide +kernel⟩
def NX9_days : sm_NF := sm_nd TX9_ cX9_days 3 []
theorem n_X9_days : (NX9_days 0 = some (.iload 1, 1, false) ∧ NX9_days 1 = some (.ifCond .lt 25, 4, false) ∧ NX9_days 4 = some (.iload 1, 5, false) ∧ NX9_days 5 = some (.aload 0, 6, false) ∧ NX9_days 6 = some (.getfield 909, 9, false)) ∧ (NX9_days 9 = some (.arraylength, 10, false) ∧ NX9_days 10 = some (.if_icmp .ge 25, 13, false) ∧ NX9_days 13 = some (.iload 2, 14, false) ∧ NX9_days 14 = some (.ret 1, 15, false) ∧ NX9_days 15 = some (.if_icmp .lt 25, 18, false)) ∧ (NX9_days 18 = some (.iload 2, 19, false) ∧ NX9_days 19 = some (.ret 1000, 22, false) ∧ NX9_days 22 = some (.if_icmp .le 27, 25, false) ∧ NX9_days 25 = some (.ret 0, 26, false) ∧ NX9_days 26 = some (.ireturn, 27, false)) ∧ (NX9_days 27 = some (.aload 0, 28, false) ∧ NX9_days 28 = some (.getfield 909, 31, false) ∧ NX9_days 31 = some (.iload 1, 32, false) ∧ NX9_days 32 = some (.iload 2, 33, false) ∧ NX9_days 33 = some (.iastore, 34, false)) ∧ (NX9_days 34 = some (.ret 1, 35, false) ∧ NX9_days 35 = some (.ireturn, 36, false)) := ⟨by decide +kernel, by decide +kernel, by decide +kernel, by decide +kernel, by decide +kernel⟩
def NX9_day : sm_NF := sm_nd TX9_ cX9_day 4 [22]
theorem n_X9_day : (NX9_day 0 = some (.iload 1, 1, false) ∧ NX9_day 1 = some (.ifCond .lt 10, 4, false) ∧ NX9_day 4 = some (.iload 1, 5, false) ∧ NX9_day 5 = some (.ret 100, 7, false) ∧ NX9_day 7 = some (.if_icmp .le 12, 10, false)) ∧ (NX9_day 10 = some (.putstatic 0, 11, false) ∧ NX9_day 11 = some (.ireturn, 12, false) ∧ NX9_day 12 = some (.aload 0, 13, false) ∧ NX9_day 13 = some (.getfield 904, 16, false) ∧ NX9_day 16 = some (.invokeinterface 109 1, 19, false)) ∧ (NX9_day 19 = some (.istore 2, 20, false) ∧ NX9_day 20 = some (.ret 0, 21, false) ∧ NX9_day 21 = some (.istore 3, 22, false) ∧ NX9_day 22 = some (.iload 3, 23, true) ∧ NX9_day 23 = some (.iload 1, 24, false)) ∧ (NX9_day 24 = some (.if_icmp .ge 37, 27, false) ∧ NX9_day 27 = some (.aload 0, 28, false) ∧ NX9_day 28 = some (.invokeinterface 152 1, 31, false) ∧ NX9_day 31 = some (.multianewarray 3 1, 34, false) ∧ NX9_day 34 = some (.goto 22, 37, false)) ∧ (NX9_day 37 = some (.aload 0, 38, false) ∧ NX9_day 38 = some (.getfield 904, 41, false) ∧ NX9_day 41 = some (.invokeinterface 109 1, 44, false) ∧ NX9_day 44 = some (.iload 2, 45, false) ∧ NX9_day 45 = some (.isub, 46, false)) ∧ (NX9_day 46 = some (.ireturn, 47, false)) := ⟨by decide +kernel, by decide +kernel, by decide +kernel, by decide +kernel, by decide +kernel, by decide +kernel⟩
def NX9_passDay : sm_NF := sm_nd TX9_ cX9_passDay 2 [12]
theorem n_X9_passDay : (NX9_passDay 0 = some (.aload 0, 1, false) ∧ NX9_passDay 1 = some (.dup, 2, false) ∧ NX9_passDay 2 = some (.getfield 912, 5, false) ∧ NX9_passDay 5 = some (.ret 1, 6, false) ∧ NX9_passDay 6 = some (.iadd, 7, false)) ∧ (NX9_passDay 7 = some (.putfield 912, 10, false) ∧ NX9_passDay 10 = some (.ret 0, 11, false) ∧ NX9_passDay 11 = some (.istore 1, 12, false) ∧ NX9_passDay 12 = some (.iload 1, 13, true) ∧ NX9_passDay 13 = some (.aload 0, 14, false)) ∧ (NX9_passDay 14 = some (.getfield 904, 17, false) ∧ NX9_passDay 17 = some (.invokeinterface 89 1, 20, false) ∧ NX9_passDay 20 = some (.if_icmp .ge 56, 23, false) ∧ NX9_passDay 23 = some (.aload 0, 24, false) ∧ NX9_passDay 24 = some (.getfield 904, 27, false)) ∧ (NX9_passDay 27 = some (.iload 1, 28, false) ∧ NX9_passDay 28 = some (.invokeinterface 94 2, 31, false) ∧ NX9_passDay 31 = some (.ifCond .ne 50, 34, false) ∧ NX9_passDay 34 = some (.aload 0, 35, false) ∧ NX9_passDay 35 = some (.getfield 905, 38, false)) ∧ (NX9_passDay 38 = some (.iload 1, 39, false) ∧ NX9_passDay 39 = some (.invokeinterface 34 2, 42, false) ∧ NX9_passDay 42 = some (.ifCond .ne 50, 45, false) ∧ NX9_passDay 45 = some (.aload 0, 46, false) ∧ NX9_passDay 46 = some (.iload 1, 47, false)) ∧ (NX9_passDay 47 = some (.invokeinterface 153 2, 50, false) ∧ NX9_passDay 50 = some (.multianewarray 1 1, 53, false) ∧ NX9_passDay 53 = some (.goto 12, 56, false) ∧ NX9_passDay 56 = some (.return_, 57, false)) := ⟨by decide +kernel, by decide +kernel, by decide +kernel, by decide +kernel, by decide +kernel, by decide +kernel⟩
def NX9_ripen : sm_NF := sm_nd TX9_ cX9_ripen 4 []
theorem n_X9_ripen : (NX9_ripen 0 = some (.aload 0, 1, false) ∧ NX9_ripen 1 = some (.getfield 904, 4, false) ∧ NX9_ripen 4 = some (.iload 1, 5, false) ∧ NX9_ripen 5 = some (.invokeinterface 95 2, 8, false) ∧ NX9_ripen 8 = some (.istore 2, 9, false)) ∧ (NX9_ripen 9 = some (.aload 0, 10, false) ∧ NX9_ripen 10 = some (.getfield 904, 13, false) ∧ NX9_ripen 13 = some (.iload 1, 14, false) ∧ NX9_ripen 14 = some (.invokeinterface 103 2, 17, false) ∧ NX9_ripen 17 = some (.istore 3, 18, false)) ∧ (NX9_ripen 18 = some (.iload 2, 19, false) ∧ NX9_ripen 19 = some (.ifCond .lt 41, 22, false) ∧ NX9_ripen 22 = some (.iload 2, 23, false) ∧ NX9_ripen 23 = some (.aload 0, 24, false) ∧ NX9_ripen 24 = some (.getfield 909, 27, false)) ∧ (NX9_ripen 27 = some (.arraylength, 28, false) ∧ NX9_ripen 28 = some (.if_icmp .ge 41, 31, false) ∧ NX9_ripen 31 = some (.iload 3, 32, false) ∧ NX9_ripen 32 = some (.aload 0, 33, false) ∧ NX9_ripen 33 = some (.getfield 909, 36, false)) ∧ (NX9_ripen 36 = some (.iload 2, 37, false) ∧ NX9_ripen 37 = some (.iaload, 38, false) ∧ NX9_ripen 38 = some (.if_icmp .ge 42, 41, false) ∧ NX9_ripen 41 = some (.return_, 42, false) ∧ NX9_ripen 42 = some (.aload 0, 43, false)) ∧ (NX9_ripen 43 = some (.getfield 904, 46, false) ∧ NX9_ripen 46 = some (.iload 1, 47, false) ∧ NX9_ripen 47 = some (.invokeinterface 97 2, 50, false) ∧ NX9_ripen 50 = some (.ifCond .eq 70, 53, false) ∧ NX9_ripen 53 = some (.aload 0, 54, false)) ∧ (NX9_ripen 54 = some (.iload 1, 55, false) ∧ NX9_ripen 55 = some (.aload 0, 56, false) ∧ NX9_ripen 56 = some (.getfield 904, 59, false) ∧ NX9_ripen 59 = some (.iload 1, 60, false) ∧ NX9_ripen 60 = some (.invokeinterface 96 2, 63, false)) ∧ (NX9_ripen 63 = some (.ret 2, 64, false) ∧ NX9_ripen 64 = some (.invokeinterface 154 4, 67, false) ∧ NX9_ripen 67 = some (.goto 86, 70, false) ∧ NX9_ripen 70 = some (.aload 0, 71, false) ∧ NX9_ripen 71 = some (.iload 1, 72, false)) ∧ (NX9_ripen 72 = some (.ret 0, 73, false) ∧ NX9_ripen 73 = some (.iload 2, 74, false) ∧ NX9_ripen 74 = some (.ret 4, 75, false) ∧ NX9_ripen 75 = some (.if_icmp .ne 82, 78, false) ∧ NX9_ripen 78 = some (.ret 3, 79, false)) ∧ (NX9_ripen 79 = some (.goto 83, 82, false) ∧ NX9_ripen 82 = some (.ret 4, 83, false) ∧ NX9_ripen 83 = some (.invokeinterface 154 4, 86, false) ∧ NX9_ripen 86 = some (.return_, 87, false)) := ⟨by decide +kernel, by decide +kernel, by decide +kernel, by decide +kernel, by decide +kernel, by decide +kernel, by decide +kernel, by decide +kernel, by decide +kernel, by decide +kernel⟩
def NX9_sendWithContents : sm_NF := sm_nd TX9_ cX9_sendWithContents 8 [32]
theorem n_X9_sendWithContents : (NX9_sendWithContents 0 = some (.aload 0, 1, false) ∧ NX9_sendWithContents 1 = some (.iload 1, 2, false) ∧ NX9_sendWithContents 2 = some (.iload 2, 3, false) ∧ NX9_sendWithContents 3 = some (.iload 3, 4, false) ∧ NX9_sendWithContents 4 = some (.invokeinterface 155 4, 7, false)) ∧ (NX9_sendWithContents 7 = some (.ret 1, 8, false) ∧ NX9_sendWithContents 8 = some (.istore 4, 10, false) ∧ NX9_sendWithContents 10 = some (.aload 0, 11, false) ∧ NX9_sendWithContents 11 = some (.getfield 910, 14, false) ∧ NX9_sendWithContents 14 = some (.ret 0, 15, false)) ∧ (NX9_sendWithContents 15 = some (.iload 1, 16, false) ∧ NX9_sendWithContents 16 = some (.iastore, 17, false) ∧ NX9_sendWithContents 17 = some (.aload 0, 18, false) ∧ NX9_sendWithContents 18 = some (.getfield 911, 21, false) ∧ NX9_sendWithContents 21 = some (.ret 0, 22, false)) ∧ (NX9_sendWithContents 22 = some (.ret 0, 23, false) ∧ NX9_sendWithContents 23 = some (.iastore, 24, false) ∧ NX9_sendWithContents 24 = some (.ret 3721, 27, false) ∧ NX9_sendWithContents 27 = some (.istore 5, 29, false) ∧ NX9_sendWithContents 29 = some (.ret 0, 30, false)) ∧ (NX9_sendWithContents 30 = some (.istore 6, 32, false) ∧ NX9_sendWithContents 32 = some (.iload 6, 34, true) ∧ NX9_sendWithContents 34 = some (.iload 5, 36, false) ∧ NX9_sendWithContents 36 = some (.if_icmp .ge 165, 39, false) ∧ NX9_sendWithContents 39 = some (.iload 4, 41, false)) ∧ (NX9_sendWithContents 41 = some (.ifCond .le 165, 44, false) ∧ NX9_sendWithContents 44 = some (.aload 0, 45, false) ∧ NX9_sendWithContents 45 = some (.getfield 904, 48, false) ∧ NX9_sendWithContents 48 = some (.aload 0, 49, false) ∧ NX9_sendWithContents 49 = some (.getfield 910, 52, false)) ∧ (NX9_sendWithContents 52 = some (.iload 4, 54, false) ∧ NX9_sendWithContents 54 = some (.ret 1, 55, false) ∧ NX9_sendWithContents 55 = some (.isub, 56, false) ∧ NX9_sendWithContents 56 = some (.iaload, 57, false) ∧ NX9_sendWithContents 57 = some (.aload 0, 58, false)) ∧ (NX9_sendWithContents 58 = some (.getfield 911, 61, false) ∧ NX9_sendWithContents 61 = some (.iload 4, 63, false) ∧ NX9_sendWithContents 63 = some (.ret 1, 64, false) ∧ NX9_sendWithContents 64 = some (.isub, 65, false) ∧ NX9_sendWithContents 65 = some (.iaload, 66, false)) ∧ (NX9_sendWithContents 66 = some (.invokeinterface 106 3, 69, false) ∧ NX9_sendWithContents 69 = some (.istore 7, 71, false) ∧ NX9_sendWithContents 71 = some (.iload 7, 73, false) ∧ NX9_sendWithContents 73 = some (.putstatic 0, 74, false) ∧ NX9_sendWithContents 74 = some (.if_icmp .ne 83, 77, false)) ∧ (NX9_sendWithContents 77 = some (.iinc 4 (-1), 80, false) ∧ NX9_sendWithContents 80 = some (.goto 159, 83, false) ∧ NX9_sendWithContents 83 = some (.aload 0, 84, false) ∧ NX9_sendWithContents 84 = some (.getfield 911, 87, false) ∧ NX9_sendWithContents 87 = some (.iload 4, 89, false)) ∧ (NX9_sendWithContents 89 = some (.ret 1, 90, false) ∧ NX9_sendWithContents 90 = some (.isub, 91, false) ∧ NX9_sendWithContents 91 = some (.iload 7, 93, false) ∧ NX9_sendWithContents 93 = some (.ret 1, 94, false) ∧ NX9_sendWithContents 94 = some (.iadd, 95, false)) ∧ (NX9_sendWithContents 95 = some (.iastore, 96, false) ∧ NX9_sendWithContents 96 = some (.aload 0, 97, false) ∧ NX9_sendWithContents 97 = some (.getfield 905, 100, false) ∧ NX9_sendWithContents 100 = some (.iload 7, 102, false) ∧ NX9_sendWithContents 102 = some (.invokeinterface 34 2, 105, false)) ∧ (NX9_sendWithContents 105 = some (.ifCond .le 121, 108, false) ∧ NX9_sendWithContents 108 = some (.aload 0, 109, false) ∧ NX9_sendWithContents 109 = some (.getfield 904, 112, false) ∧ NX9_sendWithContents 112 = some (.iload 7, 114, false) ∧ NX9_sendWithContents 114 = some (.putstatic 0, 115, false)) ∧ (NX9_sendWithContents 115 = some (.invokeinterface 104 3, 118, false) ∧ NX9_sendWithContents 118 = some (.goto 159, 121, false) ∧ NX9_sendWithContents 121 = some (.aload 0, 122, false) ∧ NX9_sendWithContents 122 = some (.iload 7, 124, false) ∧ NX9_sendWithContents 124 = some (.iload 2, 125, false)) ∧ (NX9_sendWithContents 125 = some (.iload 3, 126, false) ∧ NX9_sendWithContents 126 = some (.invokeinterface 155 4, 129, false) ∧ NX9_sendWithContents 129 = some (.iload 4, 131, false) ∧ NX9_sendWithContents 131 = some (.aload 0, 132, false) ∧ NX9_sendWithContents 132 = some (.getfield 910, 135, false)) ∧ (NX9_sendWithContents 135 = some (.arraylength, 136, false) ∧ NX9_sendWithContents 136 = some (.if_icmp .ge 159, 139, false) ∧ NX9_sendWithContents 139 = some (.aload 0, 140, false) ∧ NX9_sendWithContents 140 = some (.getfield 910, 143, false) ∧ NX9_sendWithContents 143 = some (.iload 4, 145, false)) ∧ (NX9_sendWithContents 145 = some (.iload 7, 147, false) ∧ NX9_sendWithContents 147 = some (.iastore, 148, false) ∧ NX9_sendWithContents 148 = some (.aload 0, 149, false) ∧ NX9_sendWithContents 149 = some (.getfield 911, 152, false) ∧ NX9_sendWithContents 152 = some (.iload 4, 154, false)) ∧ (NX9_sendWithContents 154 = some (.ret 0, 155, false) ∧ NX9_sendWithContents 155 = some (.iastore, 156, false) ∧ NX9_sendWithContents 156 = some (.multianewarray 4 1, 159, false) ∧ NX9_sendWithContents 159 = some (.multianewarray 6 1, 162, false) ∧ NX9_sendWithContents 162 = some (.goto 32, 165, false)) ∧ (NX9_sendWithContents 165 = some (.return_, 166, false)) := ⟨by decide +kernel, by decide +kernel, by decide +kernel, by decide +kernel, by decide +kernel, by decide +kernel, by decide +kernel, by decide +kernel, by decide +kernel, by decide +kernel, by decide +kernel, by decide +kernel, by decide +kernel, by decide +kernel, by decide +kernel, by decide +kernel, by decide +kernel, by decide +kernel, by decide +kernel⟩
def NX9_sendOut : sm_NF := sm_nd TX9_ cX9_sendOut 4 []
theorem n_X9_sendOut : (NX9_sendOut 0 = some (.aload 0, 1, false) ∧ NX9_sendOut 1 = some (.getfield 905, 4, false) ∧ NX9_sendOut 4 = some (.iload 1, 5, false) ∧ NX9_sendOut 5 = some (.ret 5, 6, false) ∧ NX9_sendOut 6 = some (.invokeinterface 44 3, 9, false)) ∧ (NX9_sendOut 9 = some (.aload 0, 10, false) ∧ NX9_sendOut 10 = some (.getfield 904, 13, false) ∧ NX9_sendOut 13 = some (.iload 1, 14, false) ∧ NX9_sendOut 14 = some (.iload 2, 15, false) ∧ NX9_sendOut 15 = some (.aload 0, 16, false)) ∧ (NX9_sendOut 16 = some (.getfield 912, 19, false) ∧ NX9_sendOut 19 = some (.iload 3, 20, false) ∧ NX9_sendOut 20 = some (.invokeinterface 108 5, 23, false) ∧ NX9_sendOut 23 = some (.return_, 24, false)) := ⟨by decide +kernel, by decide +kernel, by decide +kernel⟩
def NX9_count : sm_NF := sm_nd TX9_ cX9_count 2 []
theorem n_X9_count : (NX9_count 0 = some (.iload 1, 1, false) ∧ NX9_count 1 = some (.tableswitch 136 0 9 #[56, 61, 69, 77, 85, 93, 101, 109, 118, 127], 56, false) ∧ NX9_count 56 = some (.aload 0, 57, false) ∧ NX9_count 57 = some (.getfield 912, 60, false) ∧ NX9_count 60 = some (.ireturn, 61, false)) ∧ (NX9_count 61 = some (.aload 0, 62, false) ∧ NX9_count 62 = some (.getfield 900, 65, false) ∧ NX9_count 65 = some (.invokeinterface 65 1, 68, false) ∧ NX9_count 68 = some (.ireturn, 69, false) ∧ NX9_count 69 = some (.aload 0, 70, false)) ∧ (NX9_count 70 = some (.getfield 904, 73, false) ∧ NX9_count 73 = some (.invokeinterface 89 1, 76, false) ∧ NX9_count 76 = some (.ireturn, 77, false) ∧ NX9_count 77 = some (.aload 0, 78, false) ∧ NX9_count 78 = some (.getfield 903, 81, false)) ∧ (NX9_count 81 = some (.invokeinterface 75 1, 84, false) ∧ NX9_count 84 = some (.ireturn, 85, false) ∧ NX9_count 85 = some (.aload 0, 86, false) ∧ NX9_count 86 = some (.getfield 903, 89, false) ∧ NX9_count 89 = some (.invokeinterface 81 1, 92, false)) ∧ (NX9_count 92 = some (.ireturn, 93, false) ∧ NX9_count 93 = some (.aload 0, 94, false) ∧ NX9_count 94 = some (.getfield 905, 97, false) ∧ NX9_count 97 = some (.invokeinterface 27 1, 100, false) ∧ NX9_count 100 = some (.ireturn, 101, false)) ∧ (NX9_count 101 = some (.aload 0, 102, false) ∧ NX9_count 102 = some (.getfield 905, 105, false) ∧ NX9_count 105 = some (.invokeinterface 36 1, 108, false) ∧ NX9_count 108 = some (.ireturn, 109, false) ∧ NX9_count 109 = some (.aload 0, 110, false)) ∧ (NX9_count 110 = some (.getfield 904, 113, false) ∧ NX9_count 113 = some (.ret 0, 114, false) ∧ NX9_count 114 = some (.invokeinterface 111 2, 117, false) ∧ NX9_count 117 = some (.ireturn, 118, false) ∧ NX9_count 118 = some (.aload 0, 119, false)) ∧ (NX9_count 119 = some (.getfield 904, 122, false) ∧ NX9_count 122 = some (.ret 1, 123, false) ∧ NX9_count 123 = some (.invokeinterface 111 2, 126, false) ∧ NX9_count 126 = some (.ireturn, 127, false) ∧ NX9_count 127 = some (.aload 0, 128, false)) ∧ (NX9_count 128 = some (.getfield 904, 131, false) ∧ NX9_count 131 = some (.ret 2, 132, false) ∧ NX9_count 132 = some (.invokeinterface 111 2, 135, false) ∧ NX9_count 135 = some (.ireturn, 136, false) ∧ NX9_count 136 = some (.iload 1, 137, false)) ∧ (NX9_count 137 = some (.ret 10, 139, false) ∧ NX9_count 139 = some (.if_icmp .lt 162, 142, false) ∧ NX9_count 142 = some (.iload 1, 143, false) ∧ NX9_count 143 = some (.ret 13, 145, false) ∧ NX9_count 145 = some (.if_icmp .gt 162, 148, false)) ∧ (NX9_count 148 = some (.aload 0, 149, false) ∧ NX9_count 149 = some (.getfield 904, 152, false) ∧ NX9_count 152 = some (.iload 1, 153, false) ∧ NX9_count 153 = some (.ret 9, 155, false) ∧ NX9_count 155 = some (.isub, 156, false)) ∧ (NX9_count 156 = some (.invokeinterface 112 2, 159, false) ∧ NX9_count 159 = some (.goto 163, 162, false) ∧ NX9_count 162 = some (.putstatic 0, 163, false) ∧ NX9_count 163 = some (.ireturn, 164, false)) := ⟨by decide +kernel, by decide +kernel, by decide +kernel, by decide +kernel, by decide +kernel, by decide +kernel, by decide +kernel, by decide +kernel, by decide +kernel, by decide +kernel, by decide +kernel, by decide +kernel⟩
def NX9_gone : sm_NF := sm_nd TX9_ cX9_gone 2 []
theorem n_X9_gone : NX9_gone 0 = some (.aload 0, 1, false) ∧ NX9_gone 1 = some (.getfield 904, 4, false) ∧ NX9_gone 4 = some (.iload 1, 5, false) ∧ NX9_gone 5 = some (.invokeinterface 110 2, 8, false) ∧ NX9_gone 8 = some (.ireturn, 9, false) := by decide +kernel
def NX10_init : sm_NF := sm_nd TX10_ cX10_init 2 [258, 280, 301]
theorem n_X10_init : (NX10_init 0 = some (.aload 0, 1, false) ∧ NX10_init 4 = some (.aload 0, 5, false) ∧ NX10_init 5 = some (.ret 16, 7, false) ∧ NX10_init 9 = some (.putfield 1002, 12, false) ∧ NX10_init 12 = some (.aload 0, 13, false)) ∧ (NX10_init 13 = some (.ret 16, 15, false) ∧ NX10_init 17 = some (.putfield 1003, 20, false) ∧ NX10_init 20 = some (.aload 0, 21, false) ∧ NX10_init 21 = some (.ret 16, 23, false) ∧ NX10_init 25 = some (.putfield 1004, 28, false)) ∧ (NX10_init 28 = some (.aload 0, 29, false) ∧ NX10_init 29 = some (.ret 25600, 32, false) ∧ NX10_init 34 = some (.putfield 1005, 37, false) ∧ NX10_init 37 = some (.aload 0, 38, false) ∧ NX10_init 38 = some (.ret 1920, 41, false)) ∧ (NX10_init 43 = some (.putfield 1006, 46, false) ∧ NX10_init 46 = some (.aload 0, 47, false) ∧ NX10_init 47 = some (.ret 120, 49, false) ∧ NX10_init 51 = some (.putfield 1007, 54, false) ∧ NX10_init 54 = some (.aload 0, 55, false)) ∧ (NX10_init 55 = some (.ret 60, 57, false) ∧ NX10_init 59 = some (.putfield 1010, 62, false) ∧ NX10_init 62 = some (.aload 0, 63, false) ∧ NX10_init 63 = some (.ret 60, 65, false) ∧ NX10_init 67 = some (.putfield 1011, 70, false)) ∧ (NX10_init 70 = some (.aload 0, 71, false) ∧ NX10_init 71 = some (.ret 60, 73, false) ∧ NX10_init 75 = some (.putfield 1012, 78, false) ∧ NX10_init 78 = some (.aload 0, 79, false) ∧ NX10_init 79 = some (.ret 60, 81, false)) ∧ (NX10_init 83 = some (.putfield 1013, 86, false) ∧ NX10_init 86 = some (.aload 0, 87, false) ∧ NX10_init 87 = some (.ret 60, 89, false) ∧ NX10_init 91 = some (.putfield 1014, 94, false) ∧ NX10_init 94 = some (.aload 0, 95, false)) ∧ (NX10_init 95 = some (.ret 60, 97, false) ∧ NX10_init 99 = some (.putfield 1015, 102, false) ∧ NX10_init 102 = some (.aload 0, 103, false) ∧ NX10_init 103 = some (.ret 60, 105, false) ∧ NX10_init 107 = some (.putfield 1016, 110, false)) ∧ (NX10_init 110 = some (.aload 0, 111, false) ∧ NX10_init 111 = some (.ret 60, 113, false) ∧ NX10_init 115 = some (.putfield 1017, 118, false) ∧ NX10_init 118 = some (.aload 0, 119, false) ∧ NX10_init 119 = some (.ret 60, 121, false)) ∧ (NX10_init 123 = some (.putfield 1018, 126, false) ∧ NX10_init 126 = some (.aload 0, 127, false) ∧ NX10_init 127 = some (.ret 60, 129, false) ∧ NX10_init 131 = some (.putfield 1019, 134, false) ∧ NX10_init 134 = some (.aload 0, 135, false)) ∧ (NX10_init 135 = some (.ret 60, 137, false) ∧ NX10_init 139 = some (.putfield 1020, 142, false) ∧ NX10_init 142 = some (.aload 0, 143, false) ∧ NX10_init 143 = some (.ret 6, 145, false) ∧ NX10_init 147 = some (.putfield 1021, 150, false)) ∧ (NX10_init 150 = some (.aload 0, 151, false) ∧ NX10_init 151 = some (.ret 60, 153, false) ∧ NX10_init 155 = some (.putfield 1023, 158, false) ∧ NX10_init 158 = some (.aload 0, 159, false) ∧ NX10_init 159 = some (.ret 60, 161, false)) ∧ (NX10_init 163 = some (.putfield 1024, 166, false) ∧ NX10_init 166 = some (.aload 0, 167, false) ∧ NX10_init 167 = some (.ret 60, 169, false) ∧ NX10_init 171 = some (.putfield 1025, 174, false) ∧ NX10_init 174 = some (.aload 0, 175, false)) ∧ (NX10_init 175 = some (.ret 60, 177, false) ∧ NX10_init 179 = some (.putfield 1026, 182, false) ∧ NX10_init 182 = some (.aload 0, 183, false) ∧ NX10_init 183 = some (.ret 21504, 186, false) ∧ NX10_init 188 = some (.putfield 1029, 191, false)) ∧ (NX10_init 191 = some (.aload 0, 192, false) ∧ NX10_init 192 = some (.ret 10, 194, false) ∧ NX10_init 196 = some (.putfield 1030, 199, false) ∧ NX10_init 199 = some (.aload 0, 200, false) ∧ NX10_init 200 = some (.ret 60, 202, false)) ∧ (NX10_init 204 = some (.putfield 1032, 207, false) ∧ NX10_init 207 = some (.aload 0, 208, false) ∧ NX10_init 208 = some (.ret 4096, 211, false) ∧ NX10_init 213 = some (.putfield 1034, 216, false) ∧ NX10_init 216 = some (.aload 0, 217, false)) ∧ (NX10_init 217 = some (.ret 100, 219, false) ∧ NX10_init 221 = some (.putfield 1036, 224, false) ∧ NX10_init 224 = some (.aload 0, 225, false) ∧ NX10_init 225 = some (.ret 100, 227, false) ∧ NX10_init 229 = some (.putfield 1037, 232, false)) ∧ (NX10_init 232 = some (.aload 0, 233, false) ∧ NX10_init 233 = some (.ret 100, 235, false) ∧ NX10_init 237 = some (.putfield 1038, 240, false) ∧ NX10_init 240 = some (.aload 0, 241, false) ∧ NX10_init 241 = some (.ret 100, 243, false)) ∧ (NX10_init 245 = some (.putfield 1039, 248, false) ∧ NX10_init 248 = some (.aload 0, 249, false) ∧ NX10_init 249 = some (.ret 60, 251, false) ∧ NX10_init 253 = some (.putfield 1040, 256, false) ∧ NX10_init 256 = some (.ret 0, 257, false)) ∧ (NX10_init 257 = some (.istore 1, 258, false) ∧ NX10_init 258 = some (.iload 1, 259, true) ∧ NX10_init 259 = some (.ret 1920, 262, false) ∧ NX10_init 262 = some (.if_icmp .ge 278, 265, false) ∧ NX10_init 265 = some (.aload 0, 266, false)) ∧ (NX10_init 266 = some (.getfield 1006, 269, false) ∧ NX10_init 269 = some (.iload 1, 270, false) ∧ NX10_init 270 = some (.putstatic 0, 271, false) ∧ NX10_init 271 = some (.iastore, 272, false) ∧ NX10_init 272 = some (.multianewarray 1 1, 275, false)) ∧ (NX10_init 275 = some (.goto 258, 278, false) ∧ NX10_init 278 = some (.ret 0, 279, false) ∧ NX10_init 279 = some (.istore 1, 280, false) ∧ NX10_init 280 = some (.iload 1, 281, true) ∧ NX10_init 281 = some (.ret 120, 283, false)) ∧ (NX10_init 283 = some (.if_icmp .ge 299, 286, false) ∧ NX10_init 286 = some (.aload 0, 287, false) ∧ NX10_init 287 = some (.getfield 1007, 290, false) ∧ NX10_init 290 = some (.iload 1, 291, false) ∧ NX10_init 291 = some (.putstatic 0, 292, false)) ∧ (NX10_init 292 = some (.iastore, 293, false) ∧ NX10_init 293 = some (.multianewarray 1 1, 296, false) ∧ NX10_init 296 = some (.goto 280, 299, false) ∧ NX10_init 299 = some (.ret 0, 300, false) ∧ NX10_init 300 = some (.istore 1, 301, false)) ∧ (NX10_init 301 = some (.iload 1, 302, true) ∧ NX10_init 302 = some (.ret 6, 304, false) ∧ NX10_init 304 = some (.if_icmp .ge 350, 307, false) ∧ NX10_init 307 = some (.aload 0, 308, false) ∧ NX10_init 308 = some (.getfield 1021, 311, false)) ∧ (NX10_init 311 = some (.iload 1, 312, false) ∧ NX10_init 312 = some (.iload 1, 313, false) ∧ NX10_init 313 = some (.ret 2, 314, false) ∧ NX10_init 314 = some (.if_icmp .ge 322, 317, false) ∧ NX10_init 317 = some (.ret 30, 319, false)) ∧ (NX10_init 319 = some (.goto 343, 322, false) ∧ NX10_init 322 = some (.iload 1, 323, false) ∧ NX10_init 323 = some (.ret 3, 324, false) ∧ NX10_init 324 = some (.if_icmp .ne 332, 327, false) ∧ NX10_init 327 = some (.ret 60, 329, false)) ∧ (NX10_init 329 = some (.goto 343, 332, false) ∧ NX10_init 332 = some (.iload 1, 333, false) ∧ NX10_init 333 = some (.ret 4, 334, false) ∧ NX10_init 334 = some (.if_icmp .ne 341, 337, false) ∧ NX10_init 337 = some (.ret 1, 338, false)) ∧ (NX10_init 338 = some (.goto 343, 341, false) ∧ NX10_init 341 = some (.ret 10, 343, false) ∧ NX10_init 343 = some (.iastore, 344, false) ∧ NX10_init 344 = some (.multianewarray 1 1, 347, false) ∧ NX10_init 347 = some (.goto 301, 350, false)) ∧ (NX10_init 350 = some (.return_, 351, false)) := ⟨by decide +kernel, by decide +kernel, by decide +kernel, by decide +kernel, by decide +kernel, by decide +kernel, by decide +kernel, by decide +kernel, by decide +kernel, by decide +kernel, by decide +kernel, by decide +kernel, by decide +kernel, by decide +kernel, by decide +kernel, by decide +kernel, by decide +kernel, by decide +kernel, by decide +kernel, by decide +kernel, by decide +kernel, by decide +kernel, by decide +kernel, by decide +kernel, by decide +kernel, by decide +kernel, by decide +kernel, by decide +kernel, by decide +kernel, by decide +kernel⟩
def NX10_thrown : sm_NF := sm_nd TX10_ cX10_thrown 1 []
theorem n_X10_thrown : NX10_thrown 0 = some (.aload 0, 1, false) ∧ NX10_thrown 1 = some (.getfield 1000, 4, false) ∧ NX10_thrown 4 = some (.ireturn, 5, false) := by decide +kernel
def NX10_in : sm_NF := sm_nd TX10_ cX10_in 3 []
theorem n_X10_in : (NX10_in 0 = some (.iload 0, 1, false) ∧ NX10_in 1 = some (.iload 1, 2, false) ∧ NX10_in 2 = some (.if_icmp .lt 14, 5, false) ∧ NX10_in 5 = some (.iload 0, 6, false) ∧ NX10_in 6 = some (.iload 2, 7, false)) ∧ (NX10_in 7 = some (.if_icmp .gt 14, 10, false) ∧ NX10_in 10 = some (.ret 1, 11, false) ∧ NX10_in 11 = some (.goto 15, 14, false) ∧ NX10_in 14 = some (.ret 0, 15, false) ∧ NX10_in 15 = some (.ireturn, 16, false)) := ⟨by decide +kernel, by decide +kernel⟩
def NX10_question : sm_NF := sm_nd TX10_ cX10_question 5 []
theorem n_X10_question : (NX10_question 0 = some (.aload 0, 1, false) ∧ NX10_question 1 = some (.ret 0, 2, false) ∧ NX10_question 2 = some (.putfield 1000, 5, false) ∧ NX10_question 5 = some (.iload 1, 6, false) ∧ NX10_question 6 = some (.ifCond .ne 19, 9, false)) ∧ (NX10_question 9 = some (.iload 2, 10, false) ∧ NX10_question 10 = some (.ret 1, 11, false) ∧ NX10_question 11 = some (.ret 40, 13, false) ∧ NX10_question 13 = some (.invokeinterface 160 3, 16, false) ∧ NX10_question 16 = some (.goto 48, 19, false)) ∧ (NX10_question 19 = some (.iload 1, 20, false) ∧ NX10_question 20 = some (.ret 1, 21, false) ∧ NX10_question 21 = some (.if_icmp .ne 34, 24, false) ∧ NX10_question 24 = some (.iload 2, 25, false) ∧ NX10_question 25 = some (.ret 0, 26, false)) ∧ (NX10_question 26 = some (.ret 10, 28, false) ∧ NX10_question 28 = some (.invokeinterface 160 3, 31, false) ∧ NX10_question 31 = some (.goto 48, 34, false) ∧ NX10_question 34 = some (.iload 1, 35, false) ∧ NX10_question 35 = some (.ret 2, 36, false)) ∧ (NX10_question 36 = some (.if_icmp .ne 47, 39, false) ∧ NX10_question 39 = some (.iload 2, 40, false) ∧ NX10_question 40 = some (.ifCond .ne 47, 43, false) ∧ NX10_question 43 = some (.ret 1, 44, false) ∧ NX10_question 44 = some (.goto 48, 47, false)) ∧ (NX10_question 47 = some (.ret 0, 48, false) ∧ NX10_question 48 = some (.istore 4, 50, false) ∧ NX10_question 50 = some (.aload 0, 51, false) ∧ NX10_question 51 = some (.getfield 1001, 54, false) ∧ NX10_question 54 = some (.ret 16, 56, false)) ∧ (NX10_question 56 = some (.if_icmp .eq 74, 59, false) ∧ NX10_question 59 = some (.iload 4, 61, false) ∧ NX10_question 61 = some (.ifCond .eq 74, 64, false) ∧ NX10_question 64 = some (.iload 3, 65, false) ∧ NX10_question 65 = some (.ret 1, 66, false)) ∧ (NX10_question 66 = some (.ret 100, 68, false) ∧ NX10_question 68 = some (.invokeinterface 160 3, 71, false) ∧ NX10_question 71 = some (.ifCond .ne 76, 74, false) ∧ NX10_question 74 = some (.putstatic 0, 75, false) ∧ NX10_question 75 = some (.ireturn, 76, false)) ∧ (NX10_question 76 = some (.aload 0, 77, false) ∧ NX10_question 77 = some (.getfield 1002, 80, false) ∧ NX10_question 80 = some (.aload 0, 81, false) ∧ NX10_question 81 = some (.getfield 1001, 84, false) ∧ NX10_question 84 = some (.iload 1, 85, false)) ∧ (NX10_question 85 = some (.iastore, 86, false) ∧ NX10_question 86 = some (.aload 0, 87, false) ∧ NX10_question 87 = some (.getfield 1003, 90, false) ∧ NX10_question 90 = some (.aload 0, 91, false) ∧ NX10_question 91 = some (.getfield 1001, 94, false)) ∧ (NX10_question 94 = some (.iload 2, 95, false) ∧ NX10_question 95 = some (.iastore, 96, false) ∧ NX10_question 96 = some (.aload 0, 97, false) ∧ NX10_question 97 = some (.getfield 1004, 100, false) ∧ NX10_question 100 = some (.aload 0, 101, false)) ∧ (NX10_question 101 = some (.getfield 1001, 104, false) ∧ NX10_question 104 = some (.iload 3, 105, false) ∧ NX10_question 105 = some (.iastore, 106, false) ∧ NX10_question 106 = some (.aload 0, 107, false) ∧ NX10_question 107 = some (.dup, 108, false)) ∧ (NX10_question 108 = some (.getfield 1001, 111, false) ∧ NX10_question 111 = some (.ret 1, 112, false) ∧ NX10_question 112 = some (.iadd, 113, false) ∧ NX10_question 113 = some (.putfield 1001, 116, false) ∧ NX10_question 116 = some (.aload 0, 117, false)) ∧ (NX10_question 117 = some (.getfield 1001, 120, false) ∧ NX10_question 120 = some (.ret 1, 121, false) ∧ NX10_question 121 = some (.isub, 122, false) ∧ NX10_question 122 = some (.ireturn, 123, false)) := ⟨by decide +kernel, by decide +kernel, by decide +kernel, by decide +kernel, by decide +kernel, by decide +kernel, by decide +kernel, by decide +kernel, by decide +kernel, by decide +kernel, by decide +kernel, by decide +kernel, by decide +kernel, by decide +kernel⟩
def NX10_isQuestion : sm_NF := sm_nd TX10_ cX10_isQuestion 2 []
theorem n_X10_isQuestion : (NX10_isQuestion 0 = some (.iload 1, 1, false) ∧ NX10_isQuestion 1 = some (.ret 0, 2, false) ∧ NX10_isQuestion 2 = some (.aload 0, 3, false) ∧ NX10_isQuestion 3 = some (.getfield 1001, 6, false) ∧ NX10_isQuestion 6 = some (.ret 1, 7, false)) ∧ (NX10_isQuestion 7 = some (.isub, 8, false) ∧ NX10_isQuestion 8 = some (.invokeinterface 160 3, 11, false) ∧ NX10_isQuestion 11 = some (.ireturn, 12, false)) := ⟨by decide +kernel, by decide +kernel⟩
def NX10_isAnswer : sm_NF := sm_nd TX10_ cX10_isAnswer 3 []
theorem n_X10_isAnswer : (NX10_isAnswer 0 = some (.aload 0, 1, false) ∧ NX10_isAnswer 1 = some (.getfield 1002, 4, false) ∧ NX10_isAnswer 4 = some (.iload 1, 5, false) ∧ NX10_isAnswer 5 = some (.iaload, 6, false) ∧ NX10_isAnswer 6 = some (.ifCond .ne 23, 9, false)) ∧ (NX10_isAnswer 9 = some (.iload 2, 10, false) ∧ NX10_isAnswer 10 = some (.ret 0, 11, false) ∧ NX10_isAnswer 11 = some (.aload 0, 12, false) ∧ NX10_isAnswer 12 = some (.getfield 1003, 15, false) ∧ NX10_isAnswer 15 = some (.iload 1, 16, false)) ∧ (NX10_isAnswer 16 = some (.iaload, 17, false) ∧ NX10_isAnswer 17 = some (.ret 1, 18, false) ∧ NX10_isAnswer 18 = some (.isub, 19, false) ∧ NX10_isAnswer 19 = some (.invokeinterface 160 3, 22, false) ∧ NX10_isAnswer 22 = some (.ireturn, 23, false)) ∧ (NX10_isAnswer 23 = some (.aload 0, 24, false) ∧ NX10_isAnswer 24 = some (.getfield 1002, 27, false) ∧ NX10_isAnswer 27 = some (.iload 1, 28, false) ∧ NX10_isAnswer 28 = some (.iaload, 29, false) ∧ NX10_isAnswer 29 = some (.ret 1, 30, false)) ∧ (NX10_isAnswer 30 = some (.if_icmp .ne 42, 33, false) ∧ NX10_isAnswer 33 = some (.iload 2, 34, false) ∧ NX10_isAnswer 34 = some (.ret 0, 35, false) ∧ NX10_isAnswer 35 = some (.ret 30000, 38, false) ∧ NX10_isAnswer 38 = some (.invokeinterface 160 3, 41, false)) ∧ (NX10_isAnswer 41 = some (.ireturn, 42, false) ∧ NX10_isAnswer 42 = some (.iload 2, 43, false) ∧ NX10_isAnswer 43 = some (.ret 0, 44, false) ∧ NX10_isAnswer 44 = some (.ret 9999, 47, false) ∧ NX10_isAnswer 47 = some (.invokeinterface 160 3, 50, false)) ∧ (NX10_isAnswer 50 = some (.ifCond .eq 68, 53, false) ∧ NX10_isAnswer 53 = some (.iload 2, 54, false) ∧ NX10_isAnswer 54 = some (.ret 100, 56, false) ∧ NX10_isAnswer 56 = some (.idiv, 57, false) ∧ NX10_isAnswer 57 = some (.iload 2, 58, false)) ∧ (NX10_isAnswer 58 = some (.ret 100, 60, false) ∧ NX10_isAnswer 60 = some (.irem, 61, false) ∧ NX10_isAnswer 61 = some (.if_icmp .gt 68, 64, false) ∧ NX10_isAnswer 64 = some (.ret 1, 65, false) ∧ NX10_isAnswer 65 = some (.goto 69, 68, false)) ∧ (NX10_isAnswer 68 = some (.ret 0, 69, false) ∧ NX10_isAnswer 69 = some (.ireturn, 70, false)) := ⟨by decide +kernel, by decide +kernel, by decide +kernel, by decide +kernel, by decide +kernel, by decide +kernel, by decide +kernel, by decide +kernel, by decide +kernel⟩
def NX10_mayBe : sm_NF := sm_nd TX10_ cX10_mayBe 6 []
theorem n_X10_mayBe : (NX10_mayBe 0 = some (.aload 0, 1, false) ∧ NX10_mayBe 1 = some (.getfield 1002, 4, false) ∧ NX10_mayBe 4 = some (.iload 1, 5, false) ∧ NX10_mayBe 5 = some (.iaload, 6, false) ∧ NX10_mayBe 6 = some (.ifCond .ne 39, 9, false)) ∧ (NX10_mayBe 9 = some (.iload 2, 10, false) ∧ NX10_mayBe 10 = some (.iload 3, 11, false) ∧ NX10_mayBe 11 = some (.if_icmp .eq 33, 14, false) ∧ NX10_mayBe 14 = some (.aload 0, 15, false) ∧ NX10_mayBe 15 = some (.getfield 1005, 18, false)) ∧ (NX10_mayBe 18 = some (.iload 1, 19, false) ∧ NX10_mayBe 19 = some (.ret 40, 21, false) ∧ NX10_mayBe 21 = some (.imul, 22, false) ∧ NX10_mayBe 22 = some (.iload 2, 23, false) ∧ NX10_mayBe 23 = some (.iadd, 24, false)) ∧ (NX10_mayBe 24 = some (.ret 40, 26, false) ∧ NX10_mayBe 26 = some (.imul, 27, false) ∧ NX10_mayBe 27 = some (.iload 3, 28, false) ∧ NX10_mayBe 28 = some (.iadd, 29, false) ∧ NX10_mayBe 29 = some (.baload, 30, false)) ∧ (NX10_mayBe 30 = some (.ifCond .eq 37, 33, false) ∧ NX10_mayBe 33 = some (.ret 1, 34, false) ∧ NX10_mayBe 34 = some (.goto 38, 37, false) ∧ NX10_mayBe 37 = some (.ret 0, 38, false) ∧ NX10_mayBe 38 = some (.ireturn, 39, false)) ∧ (NX10_mayBe 39 = some (.aload 0, 40, false) ∧ NX10_mayBe 40 = some (.getfield 1002, 43, false) ∧ NX10_mayBe 43 = some (.iload 1, 44, false) ∧ NX10_mayBe 44 = some (.iaload, 45, false) ∧ NX10_mayBe 45 = some (.ret 1, 46, false)) ∧ (NX10_mayBe 46 = some (.if_icmp .ne 99, 49, false) ∧ NX10_mayBe 49 = some (.iload 2, 50, false) ∧ NX10_mayBe 50 = some (.iload 3, 51, false) ∧ NX10_mayBe 51 = some (.if_icmp .le 58, 54, false) ∧ NX10_mayBe 54 = some (.iload 2, 55, false)) ∧ (NX10_mayBe 55 = some (.goto 59, 58, false) ∧ NX10_mayBe 58 = some (.iload 3, 59, false) ∧ NX10_mayBe 59 = some (.istore 4, 61, false) ∧ NX10_mayBe 61 = some (.iload 2, 62, false) ∧ NX10_mayBe 62 = some (.iload 3, 63, false)) ∧ (NX10_mayBe 63 = some (.if_icmp .le 70, 66, false) ∧ NX10_mayBe 66 = some (.iload 3, 67, false) ∧ NX10_mayBe 67 = some (.goto 71, 70, false) ∧ NX10_mayBe 70 = some (.iload 2, 71, false) ∧ NX10_mayBe 71 = some (.istore 5, 73, false)) ∧ (NX10_mayBe 73 = some (.ret 10, 75, false) ∧ NX10_mayBe 75 = some (.iload 4, 77, false) ∧ NX10_mayBe 77 = some (.iload 5, 79, false) ∧ NX10_mayBe 79 = some (.isub, 80, false) ∧ NX10_mayBe 80 = some (.imul, 81, false)) ∧ (NX10_mayBe 81 = some (.aload 0, 82, false) ∧ NX10_mayBe 82 = some (.getfield 1003, 85, false) ∧ NX10_mayBe 85 = some (.iload 1, 86, false) ∧ NX10_mayBe 86 = some (.iaload, 87, false) ∧ NX10_mayBe 87 = some (.iload 4, 89, false)) ∧ (NX10_mayBe 89 = some (.imul, 90, false) ∧ NX10_mayBe 90 = some (.if_icmp .gt 97, 93, false) ∧ NX10_mayBe 93 = some (.ret 1, 94, false) ∧ NX10_mayBe 94 = some (.goto 98, 97, false) ∧ NX10_mayBe 97 = some (.ret 0, 98, false)) ∧ (NX10_mayBe 98 = some (.ireturn, 99, false) ∧ NX10_mayBe 99 = some (.iload 2, 100, false) ∧ NX10_mayBe 100 = some (.ret 100, 102, false) ∧ NX10_mayBe 102 = some (.idiv, 103, false) ∧ NX10_mayBe 103 = some (.iload 3, 104, false)) ∧ (NX10_mayBe 104 = some (.ret 100, 106, false) ∧ NX10_mayBe 106 = some (.irem, 107, false) ∧ NX10_mayBe 107 = some (.if_icmp .gt 125, 110, false) ∧ NX10_mayBe 110 = some (.iload 3, 111, false) ∧ NX10_mayBe 111 = some (.ret 100, 113, false)) ∧ (NX10_mayBe 113 = some (.idiv, 114, false) ∧ NX10_mayBe 114 = some (.iload 2, 115, false) ∧ NX10_mayBe 115 = some (.ret 100, 117, false) ∧ NX10_mayBe 117 = some (.irem, 118, false) ∧ NX10_mayBe 118 = some (.if_icmp .gt 125, 121, false)) ∧ (NX10_mayBe 121 = some (.ret 1, 122, false) ∧ NX10_mayBe 122 = some (.goto 126, 125, false) ∧ NX10_mayBe 125 = some (.ret 0, 126, false) ∧ NX10_mayBe 126 = some (.ireturn, 127, false)) := ⟨by decide +kernel, by decide +kernel, by decide +kernel, by decide +kernel, by decide +kernel, by decide +kernel, by decide +kernel, by decide +kernel, by decide +kernel, by decide +kernel, by decide +kernel, by decide +kernel, by decide +kernel, by decide +kernel, by decide +kernel, by decide +kernel⟩
def NX10_may : sm_NF := sm_nd TX10_ cX10_may 5 []
theorem n_X10_may : (NX10_may 0 = some (.aload 0, 1, false) ∧ NX10_may 1 = some (.ret 0, 2, false) ∧ NX10_may 2 = some (.putfield 1000, 5, false) ∧ NX10_may 5 = some (.aload 0, 6, false) ∧ NX10_may 6 = some (.iload 1, 7, false)) ∧ (NX10_may 7 = some (.invokeinterface 162 2, 10, false) ∧ NX10_may 10 = some (.ifCond .eq 50, 13, false) ∧ NX10_may 13 = some (.aload 0, 14, false) ∧ NX10_may 14 = some (.getfield 1002, 17, false) ∧ NX10_may 17 = some (.iload 1, 18, false)) ∧ (NX10_may 18 = some (.iaload, 19, false) ∧ NX10_may 19 = some (.ifCond .ne 50, 22, false) ∧ NX10_may 22 = some (.aload 0, 23, false) ∧ NX10_may 23 = some (.iload 1, 24, false) ∧ NX10_may 24 = some (.iload 2, 25, false)) ∧ (NX10_may 25 = some (.invokeinterface 163 3, 28, false) ∧ NX10_may 28 = some (.ifCond .eq 50, 31, false) ∧ NX10_may 31 = some (.aload 0, 32, false) ∧ NX10_may 32 = some (.iload 1, 33, false) ∧ NX10_may 33 = some (.iload 3, 34, false)) ∧ (NX10_may 34 = some (.invokeinterface 163 3, 37, false) ∧ NX10_may 37 = some (.ifCond .eq 50, 40, false) ∧ NX10_may 40 = some (.iload 2, 41, false) ∧ NX10_may 41 = some (.iload 3, 42, false) ∧ NX10_may 42 = some (.if_icmp .ne 52, 45, false)) ∧ (NX10_may 45 = some (.iload 4, 47, false) ∧ NX10_may 47 = some (.ifCond .ne 52, 50, false) ∧ NX10_may 50 = some (.ret 0, 51, false) ∧ NX10_may 51 = some (.ireturn, 52, false) ∧ NX10_may 52 = some (.aload 0, 53, false)) ∧ (NX10_may 53 = some (.getfield 1005, 56, false) ∧ NX10_may 56 = some (.iload 1, 57, false) ∧ NX10_may 57 = some (.ret 40, 59, false) ∧ NX10_may 59 = some (.imul, 60, false) ∧ NX10_may 60 = some (.iload 2, 61, false)) ∧ (NX10_may 61 = some (.iadd, 62, false) ∧ NX10_may 62 = some (.ret 40, 64, false) ∧ NX10_may 64 = some (.imul, 65, false) ∧ NX10_may 65 = some (.iload 3, 66, false) ∧ NX10_may 66 = some (.iadd, 67, false)) ∧ (NX10_may 67 = some (.iload 4, 69, false) ∧ NX10_may 69 = some (.bastore, 70, false) ∧ NX10_may 70 = some (.aload 0, 71, false) ∧ NX10_may 71 = some (.getfield 1005, 74, false) ∧ NX10_may 74 = some (.iload 1, 75, false)) ∧ (NX10_may 75 = some (.ret 40, 77, false) ∧ NX10_may 77 = some (.imul, 78, false) ∧ NX10_may 78 = some (.iload 3, 79, false) ∧ NX10_may 79 = some (.iadd, 80, false) ∧ NX10_may 80 = some (.ret 40, 82, false)) ∧ (NX10_may 82 = some (.imul, 83, false) ∧ NX10_may 83 = some (.iload 2, 84, false) ∧ NX10_may 84 = some (.iadd, 85, false) ∧ NX10_may 85 = some (.iload 4, 87, false) ∧ NX10_may 87 = some (.bastore, 88, false)) ∧ (NX10_may 88 = some (.ret 1, 89, false) ∧ NX10_may 89 = some (.ireturn, 90, false)) := ⟨by decide +kernel, by decide +kernel, by decide +kernel, by decide +kernel, by decide +kernel, by decide +kernel, by decide +kernel, by decide +kernel, by decide +kernel, by decide +kernel, by decide +kernel, by decide +kernel⟩
def NX10_mays : sm_NF := sm_nd TX10_ cX10_mays 4 []
theorem n_X10_mays : (NX10_mays 0 = some (.aload 0, 1, false) ∧ NX10_mays 1 = some (.ret 0, 2, false) ∧ NX10_mays 2 = some (.putfield 1000, 5, false) ∧ NX10_mays 5 = some (.aload 0, 6, false) ∧ NX10_mays 6 = some (.iload 1, 7, false)) ∧ (NX10_mays 7 = some (.invokeinterface 162 2, 10, false) ∧ NX10_mays 10 = some (.ifCond .eq 31, 13, false) ∧ NX10_mays 13 = some (.aload 0, 14, false) ∧ NX10_mays 14 = some (.iload 1, 15, false) ∧ NX10_mays 15 = some (.iload 2, 16, false)) ∧ (NX10_mays 16 = some (.invokeinterface 163 3, 19, false) ∧ NX10_mays 19 = some (.ifCond .eq 31, 22, false) ∧ NX10_mays 22 = some (.aload 0, 23, false) ∧ NX10_mays 23 = some (.iload 1, 24, false) ∧ NX10_mays 24 = some (.iload 3, 25, false)) ∧ (NX10_mays 25 = some (.invokeinterface 163 3, 28, false) ∧ NX10_mays 28 = some (.ifCond .ne 33, 31, false) ∧ NX10_mays 31 = some (.putstatic 0, 32, false) ∧ NX10_mays 32 = some (.ireturn, 33, false) ∧ NX10_mays 33 = some (.aload 0, 34, false)) ∧ (NX10_mays 34 = some (.iload 1, 35, false) ∧ NX10_mays 35 = some (.iload 2, 36, false) ∧ NX10_mays 36 = some (.iload 3, 37, false) ∧ NX10_mays 37 = some (.invokeinterface 164 4, 40, false) ∧ NX10_mays 40 = some (.ifCond .eq 47, 43, false)) ∧ (NX10_mays 43 = some (.ret 1, 44, false) ∧ NX10_mays 44 = some (.goto 48, 47, false) ∧ NX10_mays 47 = some (.ret 0, 48, false) ∧ NX10_mays 48 = some (.ireturn, 49, false)) := ⟨by decide +kernel, by decide +kernel, by decide +kernel, by decide +kernel, by decide +kernel, by decide +kernel⟩
def NX10_isThing : sm_NF := sm_nd TX10_ cX10_isThing 2 []
theorem n_X10_isThing : (NX10_isThing 0 = some (.iload 1, 1, false) ∧ NX10_isThing 1 = some (.ret 0, 2, false) ∧ NX10_isThing 2 = some (.aload 0, 3, false) ∧ NX10_isThing 3 = some (.getfield 1008, 6, false) ∧ NX10_isThing 6 = some (.ret 1, 7, false)) ∧ (NX10_isThing 7 = some (.isub, 8, false) ∧ NX10_isThing 8 = some (.invokeinterface 160 3, 11, false) ∧ NX10_isThing 11 = some (.ireturn, 12, false)) := ⟨by decide +kernel, by decide +kernel⟩
def NX10_isReport : sm_NF := sm_nd TX10_ cX10_isReport 2 []
theorem n_X10_isReport : (NX10_isReport 0 = some (.iload 1, 1, false) ∧ NX10_isReport 1 = some (.ret 0, 2, false) ∧ NX10_isReport 2 = some (.aload 0, 3, false) ∧ NX10_isReport 3 = some (.getfield 1009, 6, false) ∧ NX10_isReport 6 = some (.ret 1, 7, false)) ∧ (NX10_isReport 7 = some (.isub, 8, false) ∧ NX10_isReport 8 = some (.invokeinterface 160 3, 11, false) ∧ NX10_isReport 11 = some (.ireturn, 12, false)) := ⟨by decide +kernel, by decide +kernel⟩
def NX10_isOut : sm_NF := sm_nd TX10_ cX10_isOut 2 []
theorem n_X10_isOut : (NX10_isOut 0 = some (.aload 0, 1, false) ∧ NX10_isOut 1 = some (.getfield 1013, 4, false) ∧ NX10_isOut 4 = some (.iload 1, 5, false) ∧ NX10_isOut 5 = some (.iaload, 6, false) ∧ NX10_isOut 6 = some (.ret 2, 7, false)) ∧ (NX10_isOut 7 = some (.if_icmp .ne 14, 10, false) ∧ NX10_isOut 10 = some (.ret 1, 11, false) ∧ NX10_isOut 11 = some (.goto 15, 14, false) ∧ NX10_isOut 14 = some (.ret 0, 15, false) ∧ NX10_isOut 15 = some (.ireturn, 16, false)) := ⟨by decide +kernel, by decide +kernel⟩
def NX10_isBag : sm_NF := sm_nd TX10_ cX10_isBag 2 []
theorem n_X10_isBag : (NX10_isBag 0 = some (.aload 0, 1, false) ∧ NX10_isBag 1 = some (.iload 1, 2, false) ∧ NX10_isBag 2 = some (.invokeinterface 167 2, 5, false) ∧ NX10_isBag 5 = some (.ifCond .eq 30, 8, false) ∧ NX10_isBag 8 = some (.aload 0, 9, false)) ∧ (NX10_isBag 9 = some (.getfield 1010, 12, false) ∧ NX10_isBag 12 = some (.iload 1, 13, false) ∧ NX10_isBag 13 = some (.iaload, 14, false) ∧ NX10_isBag 14 = some (.ret 1, 15, false) ∧ NX10_isBag 15 = some (.if_icmp .ne 30, 18, false)) ∧ (NX10_isBag 18 = some (.aload 0, 19, false) ∧ NX10_isBag 19 = some (.iload 1, 20, false) ∧ NX10_isBag 20 = some (.invokeinterface 169 2, 23, false) ∧ NX10_isBag 23 = some (.ifCond .ne 30, 26, false) ∧ NX10_isBag 26 = some (.ret 1, 27, false)) ∧ (NX10_isBag 27 = some (.goto 31, 30, false) ∧ NX10_isBag 30 = some (.ret 0, 31, false) ∧ NX10_isBag 31 = some (.ireturn, 32, false)) := ⟨by decide +kernel, by decide +kernel, by decide +kernel, by decide +kernel⟩
def NX10_thing : sm_NF := sm_nd TX10_ cX10_thing 5 []
theorem n_X10_thing : (NX10_thing 0 = some (.aload 0, 1, false) ∧ NX10_thing 1 = some (.ret 0, 2, false) ∧ NX10_thing 2 = some (.putfield 1000, 5, false) ∧ NX10_thing 5 = some (.aload 0, 6, false) ∧ NX10_thing 6 = some (.getfield 1008, 9, false)) ∧ (NX10_thing 9 = some (.ret 60, 11, false) ∧ NX10_thing 11 = some (.if_icmp .eq 49, 14, false) ∧ NX10_thing 14 = some (.iload 1, 15, false) ∧ NX10_thing 15 = some (.ret 0, 16, false) ∧ NX10_thing 16 = some (.ret 5, 17, false)) ∧ (NX10_thing 17 = some (.invokeinterface 160 3, 20, false) ∧ NX10_thing 20 = some (.ifCond .eq 49, 23, false) ∧ NX10_thing 23 = some (.iload 2, 24, false) ∧ NX10_thing 24 = some (.ret 0, 25, false) ∧ NX10_thing 25 = some (.ret 999, 28, false)) ∧ (NX10_thing 28 = some (.invokeinterface 160 3, 31, false) ∧ NX10_thing 31 = some (.ifCond .eq 49, 34, false) ∧ NX10_thing 34 = some (.iload 4, 36, false) ∧ NX10_thing 36 = some (.putstatic 0, 37, false) ∧ NX10_thing 37 = some (.if_icmp .eq 51, 40, false)) ∧ (NX10_thing 40 = some (.aload 0, 41, false) ∧ NX10_thing 41 = some (.iload 4, 43, false) ∧ NX10_thing 43 = some (.invokeinterface 170 2, 46, false) ∧ NX10_thing 46 = some (.ifCond .ne 51, 49, false) ∧ NX10_thing 49 = some (.putstatic 0, 50, false)) ∧ (NX10_thing 50 = some (.ireturn, 51, false) ∧ NX10_thing 51 = some (.aload 0, 52, false) ∧ NX10_thing 52 = some (.getfield 1010, 55, false) ∧ NX10_thing 55 = some (.aload 0, 56, false) ∧ NX10_thing 56 = some (.getfield 1008, 59, false)) ∧ (NX10_thing 59 = some (.iload 1, 60, false) ∧ NX10_thing 60 = some (.iastore, 61, false) ∧ NX10_thing 61 = some (.aload 0, 62, false) ∧ NX10_thing 62 = some (.getfield 1011, 65, false) ∧ NX10_thing 65 = some (.aload 0, 66, false)) ∧ (NX10_thing 66 = some (.getfield 1008, 69, false) ∧ NX10_thing 69 = some (.iload 2, 70, false) ∧ NX10_thing 70 = some (.iastore, 71, false) ∧ NX10_thing 71 = some (.aload 0, 72, false) ∧ NX10_thing 72 = some (.getfield 1012, 75, false)) ∧ (NX10_thing 75 = some (.aload 0, 76, false) ∧ NX10_thing 76 = some (.getfield 1008, 79, false) ∧ NX10_thing 79 = some (.iload 3, 80, false) ∧ NX10_thing 80 = some (.bastore, 81, false) ∧ NX10_thing 81 = some (.aload 0, 82, false)) ∧ (NX10_thing 82 = some (.getfield 1013, 85, false) ∧ NX10_thing 85 = some (.aload 0, 86, false) ∧ NX10_thing 86 = some (.getfield 1008, 89, false) ∧ NX10_thing 89 = some (.iload 4, 91, false) ∧ NX10_thing 91 = some (.putstatic 0, 92, false)) ∧ (NX10_thing 92 = some (.if_icmp .ne 99, 95, false) ∧ NX10_thing 95 = some (.ret 0, 96, false) ∧ NX10_thing 96 = some (.goto 100, 99, false) ∧ NX10_thing 99 = some (.ret 1, 100, false) ∧ NX10_thing 100 = some (.iastore, 101, false)) ∧ (NX10_thing 101 = some (.aload 0, 102, false) ∧ NX10_thing 102 = some (.getfield 1014, 105, false) ∧ NX10_thing 105 = some (.aload 0, 106, false) ∧ NX10_thing 106 = some (.getfield 1008, 109, false) ∧ NX10_thing 109 = some (.iload 4, 111, false)) ∧ (NX10_thing 111 = some (.iastore, 112, false) ∧ NX10_thing 112 = some (.aload 0, 113, false) ∧ NX10_thing 113 = some (.dup, 114, false) ∧ NX10_thing 114 = some (.getfield 1008, 117, false) ∧ NX10_thing 117 = some (.ret 1, 118, false)) ∧ (NX10_thing 118 = some (.iadd, 119, false) ∧ NX10_thing 119 = some (.putfield 1008, 122, false) ∧ NX10_thing 122 = some (.aload 0, 123, false) ∧ NX10_thing 123 = some (.getfield 1008, 126, false) ∧ NX10_thing 126 = some (.ret 1, 127, false)) ∧ (NX10_thing 127 = some (.isub, 128, false) ∧ NX10_thing 128 = some (.ireturn, 129, false)) := ⟨by decide +kernel, by decide +kernel, by decide +kernel, by decide +kernel, by decide +kernel, by decide +kernel, by decide +kernel, by decide +kernel, by decide +kernel, by decide +kernel, by decide +kernel, by decide +kernel, by decide +kernel, by decide +kernel, by decide +kernel⟩
def NX10_report : sm_NF := sm_nd TX10_ cX10_report 2 []
theorem n_X10_report : (NX10_report 0 = some (.aload 0, 1, false) ∧ NX10_report 1 = some (.ret 0, 2, false) ∧ NX10_report 2 = some (.putfield 1000, 5, false) ∧ NX10_report 5 = some (.aload 0, 6, false) ∧ NX10_report 6 = some (.getfield 1009, 9, false)) ∧ (NX10_report 9 = some (.ret 60, 11, false) ∧ NX10_report 11 = some (.if_icmp .eq 25, 14, false) ∧ NX10_report 14 = some (.iload 1, 15, false) ∧ NX10_report 15 = some (.ret 1, 16, false) ∧ NX10_report 16 = some (.ret 999, 19, false)) ∧ (NX10_report 19 = some (.invokeinterface 160 3, 22, false) ∧ NX10_report 22 = some (.ifCond .ne 27, 25, false) ∧ NX10_report 25 = some (.putstatic 0, 26, false) ∧ NX10_report 26 = some (.ireturn, 27, false) ∧ NX10_report 27 = some (.aload 0, 28, false)) ∧ (NX10_report 28 = some (.getfield 1019, 31, false) ∧ NX10_report 31 = some (.aload 0, 32, false) ∧ NX10_report 32 = some (.getfield 1009, 35, false) ∧ NX10_report 35 = some (.iload 1, 36, false) ∧ NX10_report 36 = some (.iastore, 37, false)) ∧ (NX10_report 37 = some (.aload 0, 38, false) ∧ NX10_report 38 = some (.dup, 39, false) ∧ NX10_report 39 = some (.getfield 1009, 42, false) ∧ NX10_report 42 = some (.ret 1, 43, false) ∧ NX10_report 43 = some (.iadd, 44, false)) ∧ (NX10_report 44 = some (.putfield 1009, 47, false) ∧ NX10_report 47 = some (.aload 0, 48, false) ∧ NX10_report 48 = some (.getfield 1009, 51, false) ∧ NX10_report 51 = some (.ret 1, 52, false) ∧ NX10_report 52 = some (.isub, 53, false)) ∧ (NX10_report 53 = some (.ireturn, 54, false)) := ⟨by decide +kernel, by decide +kernel, by decide +kernel, by decide +kernel, by decide +kernel, by decide +kernel, by decide +kernel⟩
def NX10_rowOf : sm_NF := sm_nd TX10_ cX10_rowOf 3 []
theorem n_X10_rowOf : (NX10_rowOf 0 = some (.iload 1, 1, false) ∧ NX10_rowOf 1 = some (.ifCond .eq 23, 4, false) ∧ NX10_rowOf 4 = some (.aload 0, 5, false) ∧ NX10_rowOf 5 = some (.iload 2, 6, false) ∧ NX10_rowOf 6 = some (.invokeinterface 168 2, 9, false)) ∧ (NX10_rowOf 9 = some (.ifCond .eq 19, 12, false) ∧ NX10_rowOf 12 = some (.ret 60, 14, false) ∧ NX10_rowOf 14 = some (.iload 2, 15, false) ∧ NX10_rowOf 15 = some (.iadd, 16, false) ∧ NX10_rowOf 16 = some (.goto 36, 19, false)) ∧ (NX10_rowOf 19 = some (.putstatic 0, 20, false) ∧ NX10_rowOf 20 = some (.goto 36, 23, false) ∧ NX10_rowOf 23 = some (.aload 0, 24, false) ∧ NX10_rowOf 24 = some (.iload 2, 25, false) ∧ NX10_rowOf 25 = some (.invokeinterface 167 2, 28, false)) ∧ (NX10_rowOf 28 = some (.ifCond .eq 35, 31, false) ∧ NX10_rowOf 31 = some (.iload 2, 32, false) ∧ NX10_rowOf 32 = some (.goto 36, 35, false) ∧ NX10_rowOf 35 = some (.putstatic 0, 36, false) ∧ NX10_rowOf 36 = some (.ireturn, 37, false)) := ⟨by decide +kernel, by decide +kernel, by decide +kernel, by decide +kernel⟩
def NX10_mark : sm_NF := sm_nd TX10_ cX10_mark 6 []
theorem n_X10_mark : (NX10_mark 0 = some (.aload 0, 1, false) ∧ NX10_mark 1 = some (.ret 0, 2, false) ∧ NX10_mark 2 = some (.putfield 1000, 5, false) ∧ NX10_mark 5 = some (.aload 0, 6, false) ∧ NX10_mark 6 = some (.iload 1, 7, false)) ∧ (NX10_mark 7 = some (.iload 2, 8, false) ∧ NX10_mark 8 = some (.invokeinterface 173 3, 11, false) ∧ NX10_mark 11 = some (.istore 5, 13, false) ∧ NX10_mark 13 = some (.iload 5, 15, false) ∧ NX10_mark 15 = some (.putstatic 0, 16, false)) ∧ (NX10_mark 16 = some (.if_icmp .eq 43, 19, false) ∧ NX10_mark 19 = some (.aload 0, 20, false) ∧ NX10_mark 20 = some (.iload 3, 21, false) ∧ NX10_mark 21 = some (.invokeinterface 162 2, 24, false) ∧ NX10_mark 24 = some (.ifCond .eq 43, 27, false)) ∧ (NX10_mark 27 = some (.iload 4, 29, false) ∧ NX10_mark 29 = some (.putstatic 0, 30, false) ∧ NX10_mark 30 = some (.if_icmp .eq 45, 33, false) ∧ NX10_mark 33 = some (.aload 0, 34, false) ∧ NX10_mark 34 = some (.iload 3, 35, false)) ∧ (NX10_mark 35 = some (.iload 4, 37, false) ∧ NX10_mark 37 = some (.invokeinterface 163 3, 40, false) ∧ NX10_mark 40 = some (.ifCond .ne 45, 43, false) ∧ NX10_mark 43 = some (.ret 0, 44, false) ∧ NX10_mark 44 = some (.ireturn, 45, false)) ∧ (NX10_mark 45 = some (.aload 0, 46, false) ∧ NX10_mark 46 = some (.getfield 1006, 49, false) ∧ NX10_mark 49 = some (.ret 16, 51, false) ∧ NX10_mark 51 = some (.iload 5, 53, false) ∧ NX10_mark 53 = some (.imul, 54, false)) ∧ (NX10_mark 54 = some (.iload 3, 55, false) ∧ NX10_mark 55 = some (.iadd, 56, false) ∧ NX10_mark 56 = some (.iload 4, 58, false) ∧ NX10_mark 58 = some (.iastore, 59, false) ∧ NX10_mark 59 = some (.aload 0, 60, false)) ∧ (NX10_mark 60 = some (.getfield 1007, 63, false) ∧ NX10_mark 63 = some (.iload 5, 65, false) ∧ NX10_mark 65 = some (.iaload, 66, false) ∧ NX10_mark 66 = some (.iload 3, 67, false) ∧ NX10_mark 67 = some (.ret 1, 68, false)) ∧ (NX10_mark 68 = some (.iadd, 69, false) ∧ NX10_mark 69 = some (.if_icmp .ge 82, 72, false) ∧ NX10_mark 72 = some (.aload 0, 73, false) ∧ NX10_mark 73 = some (.getfield 1007, 76, false) ∧ NX10_mark 76 = some (.iload 5, 78, false)) ∧ (NX10_mark 78 = some (.iload 3, 79, false) ∧ NX10_mark 79 = some (.ret 1, 80, false) ∧ NX10_mark 80 = some (.iadd, 81, false) ∧ NX10_mark 81 = some (.iastore, 82, false) ∧ NX10_mark 82 = some (.ret 1, 83, false)) ∧ (NX10_mark 83 = some (.ireturn, 84, false)) := ⟨by decide +kernel, by decide +kernel, by decide +kernel, by decide +kernel, by decide +kernel, by decide +kernel, by decide +kernel, by decide +kernel, by decide +kernel, by decide +kernel, by decide +kernel⟩
def NX10_tear : sm_NF := sm_nd TX10_ cX10_tear 6 [67]
theorem n_X10_tear : (NX10_tear 0 = some (.aload 0, 1, false) ∧ NX10_tear 1 = some (.ret 0, 2, false) ∧ NX10_tear 2 = some (.putfield 1000, 5, false) ∧ NX10_tear 5 = some (.aload 0, 6, false) ∧ NX10_tear 6 = some (.iload 1, 7, false)) ∧ (NX10_tear 7 = some (.iload 2, 8, false) ∧ NX10_tear 8 = some (.invokeinterface 173 3, 11, false) ∧ NX10_tear 11 = some (.istore 4, 13, false) ∧ NX10_tear 13 = some (.iload 4, 15, false) ∧ NX10_tear 15 = some (.putstatic 0, 16, false)) ∧ (NX10_tear 16 = some (.if_icmp .eq 46, 19, false) ∧ NX10_tear 19 = some (.iload 3, 20, false) ∧ NX10_tear 20 = some (.putstatic 0, 21, false) ∧ NX10_tear 21 = some (.if_icmp .lt 46, 24, false) ∧ NX10_tear 24 = some (.aload 0, 25, false)) ∧ (NX10_tear 25 = some (.getfield 1007, 28, false) ∧ NX10_tear 28 = some (.iload 4, 30, false) ∧ NX10_tear 30 = some (.iaload, 31, false) ∧ NX10_tear 31 = some (.putstatic 0, 32, false) ∧ NX10_tear 32 = some (.if_icmp .eq 46, 35, false)) ∧ (NX10_tear 35 = some (.iload 3, 36, false) ∧ NX10_tear 36 = some (.aload 0, 37, false) ∧ NX10_tear 37 = some (.getfield 1007, 40, false) ∧ NX10_tear 40 = some (.iload 4, 42, false) ∧ NX10_tear 42 = some (.iaload, 43, false)) ∧ (NX10_tear 43 = some (.if_icmp .le 48, 46, false) ∧ NX10_tear 46 = some (.ret 0, 47, false) ∧ NX10_tear 47 = some (.ireturn, 48, false) ∧ NX10_tear 48 = some (.aload 0, 49, false) ∧ NX10_tear 49 = some (.getfield 1007, 52, false)) ∧ (NX10_tear 52 = some (.iload 4, 54, false) ∧ NX10_tear 54 = some (.iload 3, 55, false) ∧ NX10_tear 55 = some (.iastore, 56, false) ∧ NX10_tear 56 = some (.iload 3, 57, false) ∧ NX10_tear 57 = some (.ifCond .ge 64, 60, false)) ∧ (NX10_tear 60 = some (.ret 0, 61, false) ∧ NX10_tear 61 = some (.goto 65, 64, false) ∧ NX10_tear 64 = some (.iload 3, 65, false) ∧ NX10_tear 65 = some (.istore 5, 67, false) ∧ NX10_tear 67 = some (.iload 5, 69, true)) ∧ (NX10_tear 69 = some (.ret 16, 71, false) ∧ NX10_tear 71 = some (.if_icmp .ge 94, 74, false) ∧ NX10_tear 74 = some (.aload 0, 75, false) ∧ NX10_tear 75 = some (.getfield 1006, 78, false) ∧ NX10_tear 78 = some (.ret 16, 80, false)) ∧ (NX10_tear 80 = some (.iload 4, 82, false) ∧ NX10_tear 82 = some (.imul, 83, false) ∧ NX10_tear 83 = some (.iload 5, 85, false) ∧ NX10_tear 85 = some (.iadd, 86, false) ∧ NX10_tear 86 = some (.putstatic 0, 87, false)) ∧ (NX10_tear 87 = some (.iastore, 88, false) ∧ NX10_tear 88 = some (.multianewarray 5 1, 91, false) ∧ NX10_tear 91 = some (.goto 67, 94, false) ∧ NX10_tear 94 = some (.ret 1, 95, false) ∧ NX10_tear 95 = some (.ireturn, 96, false)) := ⟨by decide +kernel, by decide +kernel, by decide +kernel, by decide +kernel, by decide +kernel, by decide +kernel, by decide +kernel, by decide +kernel, by decide +kernel, by decide +kernel, by decide +kernel⟩
def NX10_knows : sm_NF := sm_nd TX10_ cX10_knows 3 []
theorem n_X10_knows : (NX10_knows 0 = some (.aload 0, 1, false) ∧ NX10_knows 1 = some (.getfield 1006, 4, false) ∧ NX10_knows 4 = some (.ret 16, 6, false) ∧ NX10_knows 6 = some (.iload 1, 7, false) ∧ NX10_knows 7 = some (.imul, 8, false)) ∧ (NX10_knows 8 = some (.iload 2, 9, false) ∧ NX10_knows 9 = some (.iadd, 10, false) ∧ NX10_knows 10 = some (.iaload, 11, false) ∧ NX10_knows 11 = some (.ireturn, 12, false)) := ⟨by decide +kernel, by decide +kernel⟩
def NX10_known : sm_NF := sm_nd TX10_ cX10_known 5 []
theorem n_X10_known : (NX10_known 0 = some (.aload 0, 1, false) ∧ NX10_known 1 = some (.ret 0, 2, false) ∧ NX10_known 2 = some (.putfield 1000, 5, false) ∧ NX10_known 5 = some (.aload 0, 6, false) ∧ NX10_known 6 = some (.iload 1, 7, false)) ∧ (NX10_known 7 = some (.iload 2, 8, false) ∧ NX10_known 8 = some (.invokeinterface 173 3, 11, false) ∧ NX10_known 11 = some (.istore 4, 13, false) ∧ NX10_known 13 = some (.iload 4, 15, false) ∧ NX10_known 15 = some (.putstatic 0, 16, false)) ∧ (NX10_known 16 = some (.if_icmp .eq 27, 19, false) ∧ NX10_known 19 = some (.aload 0, 20, false) ∧ NX10_known 20 = some (.iload 3, 21, false) ∧ NX10_known 21 = some (.invokeinterface 162 2, 24, false) ∧ NX10_known 24 = some (.ifCond .ne 31, 27, false)) ∧ (NX10_known 27 = some (.putstatic 0, 28, false) ∧ NX10_known 28 = some (.goto 38, 31, false) ∧ NX10_known 31 = some (.aload 0, 32, false) ∧ NX10_known 32 = some (.iload 4, 34, false) ∧ NX10_known 34 = some (.iload 3, 35, false)) ∧ (NX10_known 35 = some (.invokeinterface 176 3, 38, false) ∧ NX10_known 38 = some (.ireturn, 39, false)) := ⟨by decide +kernel, by decide +kernel, by decide +kernel, by decide +kernel, by decide +kernel⟩
def NX10_length : sm_NF := sm_nd TX10_ cX10_length 4 []
theorem n_X10_length : (NX10_length 0 = some (.aload 0, 1, false) ∧ NX10_length 1 = some (.ret 0, 2, false) ∧ NX10_length 2 = some (.putfield 1000, 5, false) ∧ NX10_length 5 = some (.aload 0, 6, false) ∧ NX10_length 6 = some (.iload 1, 7, false)) ∧ (NX10_length 7 = some (.iload 2, 8, false) ∧ NX10_length 8 = some (.invokeinterface 173 3, 11, false) ∧ NX10_length 11 = some (.istore 3, 12, false) ∧ NX10_length 12 = some (.iload 3, 13, false) ∧ NX10_length 13 = some (.putstatic 0, 14, false)) ∧ (NX10_length 14 = some (.if_icmp .ne 21, 17, false) ∧ NX10_length 17 = some (.putstatic 0, 18, false) ∧ NX10_length 18 = some (.goto 27, 21, false) ∧ NX10_length 21 = some (.aload 0, 22, false) ∧ NX10_length 22 = some (.getfield 1007, 25, false)) ∧ (NX10_length 25 = some (.iload 3, 26, false) ∧ NX10_length 26 = some (.iaload, 27, false) ∧ NX10_length 27 = some (.ireturn, 28, false)) := ⟨by decide +kernel, by decide +kernel, by decide +kernel, by decide +kernel⟩
def NX10_apart : sm_NF := sm_nd TX10_ cX10_apart 6 [2]
theorem n_X10_apart : (NX10_apart 0 = some (.ret 0, 1, false) ∧ NX10_apart 1 = some (.istore 3, 2, false) ∧ NX10_apart 2 = some (.iload 3, 3, true) ∧ NX10_apart 3 = some (.aload 0, 4, false) ∧ NX10_apart 4 = some (.getfield 1001, 7, false)) ∧ (NX10_apart 7 = some (.if_icmp .ge 61, 10, false) ∧ NX10_apart 10 = some (.aload 0, 11, false) ∧ NX10_apart 11 = some (.ret 60, 13, false) ∧ NX10_apart 13 = some (.iload 1, 14, false) ∧ NX10_apart 14 = some (.iadd, 15, false)) ∧ (NX10_apart 15 = some (.iload 3, 16, false) ∧ NX10_apart 16 = some (.invokeinterface 176 3, 19, false) ∧ NX10_apart 19 = some (.istore 4, 21, false) ∧ NX10_apart 21 = some (.aload 0, 22, false) ∧ NX10_apart 22 = some (.iload 2, 23, false)) ∧ (NX10_apart 23 = some (.iload 3, 24, false) ∧ NX10_apart 24 = some (.invokeinterface 176 3, 27, false) ∧ NX10_apart 27 = some (.istore 5, 29, false) ∧ NX10_apart 29 = some (.iload 4, 31, false) ∧ NX10_apart 31 = some (.putstatic 0, 32, false)) ∧ (NX10_apart 32 = some (.if_icmp .eq 55, 35, false) ∧ NX10_apart 35 = some (.iload 5, 37, false) ∧ NX10_apart 37 = some (.putstatic 0, 38, false) ∧ NX10_apart 38 = some (.if_icmp .eq 55, 41, false) ∧ NX10_apart 41 = some (.aload 0, 42, false)) ∧ (NX10_apart 42 = some (.iload 3, 43, false) ∧ NX10_apart 43 = some (.iload 4, 45, false) ∧ NX10_apart 45 = some (.iload 5, 47, false) ∧ NX10_apart 47 = some (.invokeinterface 164 4, 50, false) ∧ NX10_apart 50 = some (.ifCond .ne 55, 53, false)) ∧ (NX10_apart 53 = some (.iload 3, 54, false) ∧ NX10_apart 54 = some (.ireturn, 55, false) ∧ NX10_apart 55 = some (.multianewarray 3 1, 58, false) ∧ NX10_apart 58 = some (.goto 2, 61, false) ∧ NX10_apart 61 = some (.putstatic 0, 62, false)) ∧ (NX10_apart 62 = some (.ireturn, 63, false)) := ⟨by decide +kernel, by decide +kernel, by decide +kernel, by decide +kernel, by decide +kernel, by decide +kernel, by decide +kernel, by decide +kernel⟩
def NX10_isFit : sm_NF := sm_nd TX10_ cX10_isFit 3 []
theorem n_X10_isFit : (NX10_isFit 0 = some (.aload 0, 1, false) ∧ NX10_isFit 1 = some (.iload 1, 2, false) ∧ NX10_isFit 2 = some (.iload 2, 3, false) ∧ NX10_isFit 3 = some (.invokeinterface 179 3, 6, false) ∧ NX10_isFit 6 = some (.putstatic 0, 7, false)) ∧ (NX10_isFit 7 = some (.if_icmp .ne 14, 10, false) ∧ NX10_isFit 10 = some (.ret 1, 11, false) ∧ NX10_isFit 11 = some (.goto 15, 14, false) ∧ NX10_isFit 14 = some (.ret 0, 15, false) ∧ NX10_isFit 15 = some (.ireturn, 16, false)) := ⟨by decide +kernel, by decide +kernel⟩
def NX10_isFitIn : sm_NF := sm_nd TX10_ cX10_isFitIn 3 []
theorem n_X10_isFitIn : (NX10_isFitIn 0 = some (.aload 0, 1, false) ∧ NX10_isFitIn 1 = some (.iload 2, 2, false) ∧ NX10_isFitIn 2 = some (.invokeinterface 169 2, 5, false) ∧ NX10_isFitIn 5 = some (.ifCond .ne 21, 8, false) ∧ NX10_isFitIn 8 = some (.aload 0, 9, false)) ∧ (NX10_isFitIn 9 = some (.iload 1, 10, false) ∧ NX10_isFitIn 10 = some (.iload 2, 11, false) ∧ NX10_isFitIn 11 = some (.invokeinterface 180 3, 14, false) ∧ NX10_isFitIn 14 = some (.ifCond .eq 21, 17, false) ∧ NX10_isFitIn 17 = some (.ret 1, 18, false)) ∧ (NX10_isFitIn 18 = some (.goto 22, 21, false) ∧ NX10_isFitIn 21 = some (.ret 0, 22, false) ∧ NX10_isFitIn 22 = some (.ireturn, 23, false)) := ⟨by decide +kernel, by decide +kernel, by decide +kernel⟩
def NX10_fits : sm_NF := sm_nd TX10_ cX10_fits 3 []
theorem n_X10_fits : (NX10_fits 0 = some (.aload 0, 1, false) ∧ NX10_fits 1 = some (.ret 0, 2, false) ∧ NX10_fits 2 = some (.putfield 1000, 5, false) ∧ NX10_fits 5 = some (.aload 0, 6, false) ∧ NX10_fits 6 = some (.iload 1, 7, false)) ∧ (NX10_fits 7 = some (.invokeinterface 168 2, 10, false) ∧ NX10_fits 10 = some (.ifCond .eq 21, 13, false) ∧ NX10_fits 13 = some (.aload 0, 14, false) ∧ NX10_fits 14 = some (.iload 2, 15, false) ∧ NX10_fits 15 = some (.invokeinterface 167 2, 18, false)) ∧ (NX10_fits 18 = some (.ifCond .ne 25, 21, false) ∧ NX10_fits 21 = some (.putstatic 0, 22, false) ∧ NX10_fits 22 = some (.goto 39, 25, false) ∧ NX10_fits 25 = some (.aload 0, 26, false) ∧ NX10_fits 26 = some (.iload 1, 27, false)) ∧ (NX10_fits 27 = some (.iload 2, 28, false) ∧ NX10_fits 28 = some (.invokeinterface 180 3, 31, false) ∧ NX10_fits 31 = some (.ifCond .eq 38, 34, false) ∧ NX10_fits 34 = some (.ret 1, 35, false) ∧ NX10_fits 35 = some (.goto 39, 38, false)) ∧ (NX10_fits 38 = some (.ret 0, 39, false) ∧ NX10_fits 39 = some (.ireturn, 40, false)) := ⟨by decide +kernel, by decide +kernel, by decide +kernel, by decide +kernel, by decide +kernel⟩
def NX10_tells : sm_NF := sm_nd TX10_ cX10_tells 3 []
theorem n_X10_tells : (NX10_tells 0 = some (.aload 0, 1, false) ∧ NX10_tells 1 = some (.ret 0, 2, false) ∧ NX10_tells 2 = some (.putfield 1000, 5, false) ∧ NX10_tells 5 = some (.aload 0, 6, false) ∧ NX10_tells 6 = some (.iload 1, 7, false)) ∧ (NX10_tells 7 = some (.invokeinterface 168 2, 10, false) ∧ NX10_tells 10 = some (.ifCond .eq 30, 13, false) ∧ NX10_tells 13 = some (.aload 0, 14, false) ∧ NX10_tells 14 = some (.iload 2, 15, false) ∧ NX10_tells 15 = some (.invokeinterface 167 2, 18, false)) ∧ (NX10_tells 18 = some (.ifCond .eq 30, 21, false) ∧ NX10_tells 21 = some (.aload 0, 22, false) ∧ NX10_tells 22 = some (.iload 1, 23, false) ∧ NX10_tells 23 = some (.iload 2, 24, false) ∧ NX10_tells 24 = some (.invokeinterface 179 3, 27, false)) ∧ (NX10_tells 27 = some (.goto 31, 30, false) ∧ NX10_tells 30 = some (.putstatic 0, 31, false) ∧ NX10_tells 31 = some (.ireturn, 32, false)) := ⟨by decide +kernel, by decide +kernel, by decide +kernel, by decide +kernel⟩
def NX10_strengthOf : sm_NF := sm_nd TX10_ cX10_strengthOf 7 [5, 48]
theorem n_X10_strengthOf : (NX10_strengthOf 0 = some (.ret 0, 1, false) ∧ NX10_strengthOf 1 = some (.istore 3, 2, false) ∧ NX10_strengthOf 2 = some (.ret 0, 3, false) ∧ NX10_strengthOf 3 = some (.istore 4, 5, false) ∧ NX10_strengthOf 5 = some (.iload 4, 7, true)) ∧ (NX10_strengthOf 7 = some (.aload 0, 8, false) ∧ NX10_strengthOf 8 = some (.getfield 1001, 11, false) ∧ NX10_strengthOf 11 = some (.if_icmp .ge 128, 14, false) ∧ NX10_strengthOf 14 = some (.aload 0, 15, false) ∧ NX10_strengthOf 15 = some (.ret 60, 17, false)) ∧ (NX10_strengthOf 17 = some (.iload 1, 18, false) ∧ NX10_strengthOf 18 = some (.iadd, 19, false) ∧ NX10_strengthOf 19 = some (.iload 4, 21, false) ∧ NX10_strengthOf 21 = some (.invokeinterface 176 3, 24, false) ∧ NX10_strengthOf 24 = some (.putstatic 0, 25, false)) ∧ (NX10_strengthOf 25 = some (.if_icmp .eq 122, 28, false) ∧ NX10_strengthOf 28 = some (.aload 0, 29, false) ∧ NX10_strengthOf 29 = some (.iload 2, 30, false) ∧ NX10_strengthOf 30 = some (.iload 4, 32, false) ∧ NX10_strengthOf 32 = some (.invokeinterface 176 3, 35, false)) ∧ (NX10_strengthOf 35 = some (.putstatic 0, 36, false) ∧ NX10_strengthOf 36 = some (.if_icmp .ne 42, 39, false) ∧ NX10_strengthOf 39 = some (.goto 122, 42, false) ∧ NX10_strengthOf 42 = some (.ret 0, 43, false) ∧ NX10_strengthOf 43 = some (.istore 5, 45, false)) ∧ (NX10_strengthOf 45 = some (.ret 0, 46, false) ∧ NX10_strengthOf 46 = some (.istore 6, 48, false) ∧ NX10_strengthOf 48 = some (.iload 6, 50, true) ∧ NX10_strengthOf 50 = some (.aload 0, 51, false) ∧ NX10_strengthOf 51 = some (.getfield 1008, 54, false)) ∧ (NX10_strengthOf 54 = some (.if_icmp .ge 106, 57, false) ∧ NX10_strengthOf 57 = some (.iload 5, 59, false) ∧ NX10_strengthOf 59 = some (.iload 6, 61, false) ∧ NX10_strengthOf 61 = some (.iload 2, 62, false) ∧ NX10_strengthOf 62 = some (.if_icmp .eq 74, 65, false)) ∧ (NX10_strengthOf 65 = some (.aload 0, 66, false) ∧ NX10_strengthOf 66 = some (.iload 6, 68, false) ∧ NX10_strengthOf 68 = some (.invokeinterface 169 2, 71, false) ∧ NX10_strengthOf 71 = some (.ifCond .ne 96, 74, false) ∧ NX10_strengthOf 74 = some (.aload 0, 75, false)) ∧ (NX10_strengthOf 75 = some (.iload 6, 77, false) ∧ NX10_strengthOf 77 = some (.iload 4, 79, false) ∧ NX10_strengthOf 79 = some (.invokeinterface 176 3, 82, false) ∧ NX10_strengthOf 82 = some (.aload 0, 83, false) ∧ NX10_strengthOf 83 = some (.iload 2, 84, false)) ∧ (NX10_strengthOf 84 = some (.iload 4, 86, false) ∧ NX10_strengthOf 86 = some (.invokeinterface 176 3, 89, false) ∧ NX10_strengthOf 89 = some (.if_icmp .ne 96, 92, false) ∧ NX10_strengthOf 92 = some (.ret 1, 93, false) ∧ NX10_strengthOf 93 = some (.goto 97, 96, false)) ∧ (NX10_strengthOf 96 = some (.ret 0, 97, false) ∧ NX10_strengthOf 97 = some (.iadd, 98, false) ∧ NX10_strengthOf 98 = some (.istore 5, 100, false) ∧ NX10_strengthOf 100 = some (.multianewarray 6 1, 103, false) ∧ NX10_strengthOf 103 = some (.goto 48, 106, false)) ∧ (NX10_strengthOf 106 = some (.iload 3, 107, false) ∧ NX10_strengthOf 107 = some (.ret 12, 109, false) ∧ NX10_strengthOf 109 = some (.aload 0, 110, false) ∧ NX10_strengthOf 110 = some (.getfield 1004, 113, false) ∧ NX10_strengthOf 113 = some (.iload 4, 115, false)) ∧ (NX10_strengthOf 115 = some (.iaload, 116, false) ∧ NX10_strengthOf 116 = some (.imul, 117, false) ∧ NX10_strengthOf 117 = some (.iload 5, 119, false) ∧ NX10_strengthOf 119 = some (.idiv, 120, false) ∧ NX10_strengthOf 120 = some (.iadd, 121, false)) ∧ (NX10_strengthOf 121 = some (.istore 3, 122, false) ∧ NX10_strengthOf 122 = some (.multianewarray 4 1, 125, false) ∧ NX10_strengthOf 125 = some (.goto 5, 128, false) ∧ NX10_strengthOf 128 = some (.iload 3, 129, false) ∧ NX10_strengthOf 129 = some (.ireturn, 130, false)) := ⟨by decide +kernel, by decide +kernel, by decide +kernel, by decide +kernel, by decide +kernel, by decide +kernel, by decide +kernel, by decide +kernel, by decide +kernel, by decide +kernel, by decide +kernel, by decide +kernel, by decide +kernel, by decide +kernel⟩
def NX10_strength : sm_NF := sm_nd TX10_ cX10_strength 3 []
theorem n_X10_strength : (NX10_strength 0 = some (.aload 0, 1, false) ∧ NX10_strength 1 = some (.ret 0, 2, false) ∧ NX10_strength 2 = some (.putfield 1000, 5, false) ∧ NX10_strength 5 = some (.aload 0, 6, false) ∧ NX10_strength 6 = some (.iload 1, 7, false)) ∧ (NX10_strength 7 = some (.invokeinterface 168 2, 10, false) ∧ NX10_strength 10 = some (.ifCond .eq 39, 13, false) ∧ NX10_strength 13 = some (.aload 0, 14, false) ∧ NX10_strength 14 = some (.iload 2, 15, false) ∧ NX10_strength 15 = some (.invokeinterface 167 2, 18, false)) ∧ (NX10_strength 18 = some (.ifCond .eq 39, 21, false) ∧ NX10_strength 21 = some (.aload 0, 22, false) ∧ NX10_strength 22 = some (.iload 1, 23, false) ∧ NX10_strength 23 = some (.iload 2, 24, false) ∧ NX10_strength 24 = some (.invokeinterface 180 3, 27, false)) ∧ (NX10_strength 27 = some (.ifCond .eq 39, 30, false) ∧ NX10_strength 30 = some (.aload 0, 31, false) ∧ NX10_strength 31 = some (.iload 1, 32, false) ∧ NX10_strength 32 = some (.iload 2, 33, false) ∧ NX10_strength 33 = some (.invokeinterface 184 3, 36, false)) ∧ (NX10_strength 36 = some (.goto 40, 39, false) ∧ NX10_strength 39 = some (.putstatic 0, 40, false) ∧ NX10_strength 40 = some (.ireturn, 41, false)) := ⟨by decide +kernel, by decide +kernel, by decide +kernel, by decide +kernel, by decide +kernel⟩
def NX10_fitting0 : sm_NF := sm_nd TX10_ cX10_fitting0 4 [4]
theorem n_X10_fitting0 : (NX10_fitting0 0 = some (.ret 0, 1, false) ∧ NX10_fitting0 1 = some (.istore 2, 2, false) ∧ NX10_fitting0 2 = some (.ret 0, 3, false) ∧ NX10_fitting0 3 = some (.istore 3, 4, false) ∧ NX10_fitting0 4 = some (.iload 3, 5, true)) ∧ (NX10_fitting0 5 = some (.aload 0, 6, false) ∧ NX10_fitting0 6 = some (.getfield 1008, 9, false) ∧ NX10_fitting0 9 = some (.if_icmp .ge 35, 12, false) ∧ NX10_fitting0 12 = some (.iload 2, 13, false) ∧ NX10_fitting0 13 = some (.aload 0, 14, false)) ∧ (NX10_fitting0 14 = some (.iload 1, 15, false) ∧ NX10_fitting0 15 = some (.iload 3, 16, false) ∧ NX10_fitting0 16 = some (.invokeinterface 181 3, 19, false) ∧ NX10_fitting0 19 = some (.ifCond .eq 26, 22, false) ∧ NX10_fitting0 22 = some (.ret 1, 23, false)) ∧ (NX10_fitting0 23 = some (.goto 27, 26, false) ∧ NX10_fitting0 26 = some (.ret 0, 27, false) ∧ NX10_fitting0 27 = some (.iadd, 28, false) ∧ NX10_fitting0 28 = some (.istore 2, 29, false) ∧ NX10_fitting0 29 = some (.multianewarray 3 1, 32, false)) ∧ (NX10_fitting0 32 = some (.goto 4, 35, false) ∧ NX10_fitting0 35 = some (.iload 2, 36, false) ∧ NX10_fitting0 36 = some (.ireturn, 37, false)) := ⟨by decide +kernel, by decide +kernel, by decide +kernel, by decide +kernel, by decide +kernel⟩
def NX10_fitting : sm_NF := sm_nd TX10_ cX10_fitting 2 []
theorem n_X10_fitting : (NX10_fitting 0 = some (.aload 0, 1, false) ∧ NX10_fitting 1 = some (.ret 0, 2, false) ∧ NX10_fitting 2 = some (.putfield 1000, 5, false) ∧ NX10_fitting 5 = some (.aload 0, 6, false) ∧ NX10_fitting 6 = some (.iload 1, 7, false)) ∧ (NX10_fitting 7 = some (.invokeinterface 168 2, 10, false) ∧ NX10_fitting 10 = some (.ifCond .eq 21, 13, false) ∧ NX10_fitting 13 = some (.aload 0, 14, false) ∧ NX10_fitting 14 = some (.iload 1, 15, false) ∧ NX10_fitting 15 = some (.invokeinterface 186 2, 18, false)) ∧ (NX10_fitting 18 = some (.goto 22, 21, false) ∧ NX10_fitting 21 = some (.putstatic 0, 22, false) ∧ NX10_fitting 22 = some (.ireturn, 23, false)) := ⟨by decide +kernel, by decide +kernel, by decide +kernel⟩
def NX10_fit : sm_NF := sm_nd TX10_ cX10_fit 5 [24]
theorem n_X10_fit : (NX10_fit 0 = some (.aload 0, 1, false) ∧ NX10_fit 1 = some (.ret 0, 2, false) ∧ NX10_fit 2 = some (.putfield 1000, 5, false) ∧ NX10_fit 5 = some (.aload 0, 6, false) ∧ NX10_fit 6 = some (.iload 1, 7, false)) ∧ (NX10_fit 7 = some (.invokeinterface 168 2, 10, false) ∧ NX10_fit 10 = some (.ifCond .eq 17, 13, false) ∧ NX10_fit 13 = some (.iload 2, 14, false) ∧ NX10_fit 14 = some (.ifCond .ge 19, 17, false) ∧ NX10_fit 17 = some (.putstatic 0, 18, false)) ∧ (NX10_fit 18 = some (.ireturn, 19, false) ∧ NX10_fit 19 = some (.iload 2, 20, false) ∧ NX10_fit 20 = some (.istore 3, 21, false) ∧ NX10_fit 21 = some (.ret 0, 22, false) ∧ NX10_fit 22 = some (.istore 4, 24, false)) ∧ (NX10_fit 24 = some (.iload 4, 26, true) ∧ NX10_fit 26 = some (.aload 0, 27, false) ∧ NX10_fit 27 = some (.getfield 1008, 30, false) ∧ NX10_fit 30 = some (.if_icmp .ge 62, 33, false) ∧ NX10_fit 33 = some (.aload 0, 34, false)) ∧ (NX10_fit 34 = some (.iload 1, 35, false) ∧ NX10_fit 35 = some (.iload 4, 37, false) ∧ NX10_fit 37 = some (.invokeinterface 181 3, 40, false) ∧ NX10_fit 40 = some (.ifCond .ne 46, 43, false) ∧ NX10_fit 43 = some (.goto 56, 46, false)) ∧ (NX10_fit 46 = some (.iload 3, 47, false) ∧ NX10_fit 47 = some (.ifCond .ne 53, 50, false) ∧ NX10_fit 50 = some (.iload 4, 52, false) ∧ NX10_fit 52 = some (.ireturn, 53, false) ∧ NX10_fit 53 = some (.iinc 3 (-1), 56, false)) ∧ (NX10_fit 56 = some (.multianewarray 4 1, 59, false) ∧ NX10_fit 59 = some (.goto 24, 62, false) ∧ NX10_fit 62 = some (.putstatic 0, 63, false) ∧ NX10_fit 63 = some (.ireturn, 64, false)) := ⟨by decide +kernel, by decide +kernel, by decide +kernel, by decide +kernel, by decide +kernel, by decide +kernel, by decide +kernel⟩
def NX10_findGroup : sm_NF := sm_nd TX10_ cX10_findGroup 5 [2, 32, 53, 61, 72, 163, 211]
theorem n_X10_findGroup : (NX10_findGroup 0 = some (.ret 0, 1, false) ∧ NX10_findGroup 1 = some (.istore 2, 2, false) ∧ NX10_findGroup 2 = some (.iload 2, 3, true) ∧ NX10_findGroup 3 = some (.ret 60, 5, false) ∧ NX10_findGroup 5 = some (.if_icmp .ge 30, 8, false)) ∧ (NX10_findGroup 8 = some (.aload 0, 9, false) ∧ NX10_findGroup 9 = some (.getfield 1023, 12, false) ∧ NX10_findGroup 12 = some (.iload 2, 13, false) ∧ NX10_findGroup 13 = some (.iload 2, 14, false) ∧ NX10_findGroup 14 = some (.iload 1, 15, false)) ∧ (NX10_findGroup 15 = some (.if_icmp .ne 22, 18, false) ∧ NX10_findGroup 18 = some (.ret 1, 19, false) ∧ NX10_findGroup 19 = some (.goto 23, 22, false) ∧ NX10_findGroup 22 = some (.ret 0, 23, false) ∧ NX10_findGroup 23 = some (.bastore, 24, false)) ∧ (NX10_findGroup 24 = some (.multianewarray 2 1, 27, false) ∧ NX10_findGroup 27 = some (.goto 2, 30, false) ∧ NX10_findGroup 30 = some (.ret 0, 31, false) ∧ NX10_findGroup 31 = some (.istore 2, 32, false) ∧ NX10_findGroup 32 = some (.iload 2, 33, true)) ∧ (NX10_findGroup 33 = some (.ret 60, 35, false) ∧ NX10_findGroup 35 = some (.if_icmp .ge 51, 38, false) ∧ NX10_findGroup 38 = some (.aload 0, 39, false) ∧ NX10_findGroup 39 = some (.getfield 1024, 42, false) ∧ NX10_findGroup 42 = some (.iload 2, 43, false)) ∧ (NX10_findGroup 43 = some (.ret 0, 44, false) ∧ NX10_findGroup 44 = some (.bastore, 45, false) ∧ NX10_findGroup 45 = some (.multianewarray 2 1, 48, false) ∧ NX10_findGroup 48 = some (.goto 32, 51, false) ∧ NX10_findGroup 51 = some (.ret 1, 52, false)) ∧ (NX10_findGroup 52 = some (.istore 2, 53, false) ∧ NX10_findGroup 53 = some (.iload 2, 54, true) ∧ NX10_findGroup 54 = some (.ifCond .eq 151, 57, false) ∧ NX10_findGroup 57 = some (.ret 0, 58, false) ∧ NX10_findGroup 58 = some (.istore 2, 59, false)) ∧ (NX10_findGroup 59 = some (.ret 0, 60, false) ∧ NX10_findGroup 60 = some (.istore 3, 61, false) ∧ NX10_findGroup 61 = some (.iload 3, 62, true) ∧ NX10_findGroup 62 = some (.aload 0, 63, false) ∧ NX10_findGroup 63 = some (.getfield 1009, 66, false)) ∧ (NX10_findGroup 66 = some (.if_icmp .ge 148, 69, false) ∧ NX10_findGroup 69 = some (.ret 0, 70, false) ∧ NX10_findGroup 70 = some (.istore 4, 72, false) ∧ NX10_findGroup 72 = some (.iload 4, 74, true) ∧ NX10_findGroup 74 = some (.aload 0, 75, false)) ∧ (NX10_findGroup 75 = some (.getfield 1008, 78, false) ∧ NX10_findGroup 78 = some (.if_icmp .ge 142, 81, false) ∧ NX10_findGroup 81 = some (.aload 0, 82, false) ∧ NX10_findGroup 82 = some (.getfield 1020, 85, false) ∧ NX10_findGroup 85 = some (.iload 3, 86, false)) ∧ (NX10_findGroup 86 = some (.baload, 87, false) ∧ NX10_findGroup 87 = some (.ifCond .ne 136, 90, false) ∧ NX10_findGroup 90 = some (.aload 0, 91, false) ∧ NX10_findGroup 91 = some (.getfield 1023, 94, false) ∧ NX10_findGroup 94 = some (.iload 3, 95, false)) ∧ (NX10_findGroup 95 = some (.baload, 96, false) ∧ NX10_findGroup 96 = some (.aload 0, 97, false) ∧ NX10_findGroup 97 = some (.getfield 1024, 100, false) ∧ NX10_findGroup 100 = some (.iload 4, 102, false) ∧ NX10_findGroup 102 = some (.baload, 103, false)) ∧ (NX10_findGroup 103 = some (.if_icmp .eq 136, 106, false) ∧ NX10_findGroup 106 = some (.aload 0, 107, false) ∧ NX10_findGroup 107 = some (.iload 3, 108, false) ∧ NX10_findGroup 108 = some (.iload 4, 110, false) ∧ NX10_findGroup 110 = some (.invokeinterface 181 3, 113, false)) ∧ (NX10_findGroup 113 = some (.ifCond .ne 119, 116, false) ∧ NX10_findGroup 116 = some (.goto 136, 119, false) ∧ NX10_findGroup 119 = some (.aload 0, 120, false) ∧ NX10_findGroup 120 = some (.getfield 1023, 123, false) ∧ NX10_findGroup 123 = some (.iload 3, 124, false)) ∧ (NX10_findGroup 124 = some (.ret 1, 125, false) ∧ NX10_findGroup 125 = some (.bastore, 126, false) ∧ NX10_findGroup 126 = some (.aload 0, 127, false) ∧ NX10_findGroup 127 = some (.getfield 1024, 130, false) ∧ NX10_findGroup 130 = some (.iload 4, 132, false)) ∧ (NX10_findGroup 132 = some (.ret 1, 133, false) ∧ NX10_findGroup 133 = some (.bastore, 134, false) ∧ NX10_findGroup 134 = some (.ret 1, 135, false) ∧ NX10_findGroup 135 = some (.istore 2, 136, false) ∧ NX10_findGroup 136 = some (.multianewarray 4 1, 139, false)) ∧ (NX10_findGroup 139 = some (.goto 72, 142, false) ∧ NX10_findGroup 142 = some (.multianewarray 3 1, 145, false) ∧ NX10_findGroup 145 = some (.goto 61, 148, false) ∧ NX10_findGroup 148 = some (.goto 53, 151, false) ∧ NX10_findGroup 151 = some (.aload 0, 152, false)) ∧ (NX10_findGroup 152 = some (.ret 0, 153, false) ∧ NX10_findGroup 153 = some (.putfield 1027, 156, false) ∧ NX10_findGroup 156 = some (.aload 0, 157, false) ∧ NX10_findGroup 157 = some (.ret 0, 158, false) ∧ NX10_findGroup 158 = some (.putfield 1028, 161, false)) ∧ (NX10_findGroup 161 = some (.ret 0, 162, false) ∧ NX10_findGroup 162 = some (.istore 3, 163, false) ∧ NX10_findGroup 163 = some (.iload 3, 164, true) ∧ NX10_findGroup 164 = some (.aload 0, 165, false) ∧ NX10_findGroup 165 = some (.getfield 1009, 168, false)) ∧ (NX10_findGroup 168 = some (.if_icmp .ge 209, 171, false) ∧ NX10_findGroup 171 = some (.aload 0, 172, false) ∧ NX10_findGroup 172 = some (.getfield 1023, 175, false) ∧ NX10_findGroup 175 = some (.iload 3, 176, false) ∧ NX10_findGroup 176 = some (.baload, 177, false)) ∧ (NX10_findGroup 177 = some (.ifCond .ne 183, 180, false) ∧ NX10_findGroup 180 = some (.goto 203, 183, false) ∧ NX10_findGroup 183 = some (.aload 0, 184, false) ∧ NX10_findGroup 184 = some (.getfield 1025, 187, false) ∧ NX10_findGroup 187 = some (.aload 0, 188, false)) ∧ (NX10_findGroup 188 = some (.getfield 1027, 191, false) ∧ NX10_findGroup 191 = some (.iload 3, 192, false) ∧ NX10_findGroup 192 = some (.iastore, 193, false) ∧ NX10_findGroup 193 = some (.aload 0, 194, false) ∧ NX10_findGroup 194 = some (.dup, 195, false)) ∧ (NX10_findGroup 195 = some (.getfield 1027, 198, false) ∧ NX10_findGroup 198 = some (.ret 1, 199, false) ∧ NX10_findGroup 199 = some (.iadd, 200, false) ∧ NX10_findGroup 200 = some (.putfield 1027, 203, false) ∧ NX10_findGroup 203 = some (.multianewarray 3 1, 206, false)) ∧ (NX10_findGroup 206 = some (.goto 163, 209, false) ∧ NX10_findGroup 209 = some (.ret 0, 210, false) ∧ NX10_findGroup 210 = some (.istore 3, 211, false) ∧ NX10_findGroup 211 = some (.iload 3, 212, true) ∧ NX10_findGroup 212 = some (.aload 0, 213, false)) ∧ (NX10_findGroup 213 = some (.getfield 1008, 216, false) ∧ NX10_findGroup 216 = some (.if_icmp .ge 257, 219, false) ∧ NX10_findGroup 219 = some (.aload 0, 220, false) ∧ NX10_findGroup 220 = some (.getfield 1024, 223, false) ∧ NX10_findGroup 223 = some (.iload 3, 224, false)) ∧ (NX10_findGroup 224 = some (.baload, 225, false) ∧ NX10_findGroup 225 = some (.ifCond .ne 231, 228, false) ∧ NX10_findGroup 228 = some (.goto 251, 231, false) ∧ NX10_findGroup 231 = some (.aload 0, 232, false) ∧ NX10_findGroup 232 = some (.getfield 1026, 235, false)) ∧ (NX10_findGroup 235 = some (.aload 0, 236, false) ∧ NX10_findGroup 236 = some (.getfield 1028, 239, false) ∧ NX10_findGroup 239 = some (.iload 3, 240, false) ∧ NX10_findGroup 240 = some (.iastore, 241, false) ∧ NX10_findGroup 241 = some (.aload 0, 242, false)) ∧ (NX10_findGroup 242 = some (.dup, 243, false) ∧ NX10_findGroup 243 = some (.getfield 1028, 246, false) ∧ NX10_findGroup 246 = some (.ret 1, 247, false) ∧ NX10_findGroup 247 = some (.iadd, 248, false) ∧ NX10_findGroup 248 = some (.putfield 1028, 251, false)) ∧ (NX10_findGroup 251 = some (.multianewarray 3 1, 254, false) ∧ NX10_findGroup 254 = some (.goto 211, 257, false) ∧ NX10_findGroup 257 = some (.return_, 258, false)) := ⟨by decide +kernel, by decide +kernel, by decide +kernel, by decide +kernel, by decide +kernel, by decide +kernel, by decide +kernel, by decide +kernel, by decide +kernel, by decide +kernel, by decide +kernel, by decide +kernel, by decide +kernel, by decide +kernel, by decide +kernel, by decide +kernel, by decide +kernel, by decide +kernel, by decide +kernel, by decide +kernel, by decide +kernel, by decide +kernel, by decide +kernel, by decide +kernel, by decide +kernel, by decide +kernel, by decide +kernel, by decide +kernel, by decide +kernel⟩
def NX10_isTooLarge : sm_NF := sm_nd TX10_ cX10_isTooLarge 1 []
theorem n_X10_isTooLarge : (NX10_isTooLarge 0 = some (.aload 0, 1, false) ∧ NX10_isTooLarge 1 = some (.getfield 1027, 4, false) ∧ NX10_isTooLarge 4 = some (.ret 10, 6, false) ∧ NX10_isTooLarge 6 = some (.if_icmp .gt 18, 9, false) ∧ NX10_isTooLarge 9 = some (.aload 0, 10, false)) ∧ (NX10_isTooLarge 10 = some (.getfield 1028, 13, false) ∧ NX10_isTooLarge 13 = some (.ret 20, 15, false) ∧ NX10_isTooLarge 15 = some (.if_icmp .le 22, 18, false) ∧ NX10_isTooLarge 18 = some (.ret 1, 19, false) ∧ NX10_isTooLarge 19 = some (.goto 23, 22, false)) ∧ (NX10_isTooLarge 22 = some (.ret 0, 23, false) ∧ NX10_isTooLarge 23 = some (.ireturn, 24, false)) := ⟨by decide +kernel, by decide +kernel, by decide +kernel⟩
def NX10_worth : sm_NF := sm_nd TX10_ cX10_worth 8 [42]
theorem n_X10_worth : (NX10_worth 0 = some (.aload 0, 1, false) ∧ NX10_worth 1 = some (.getfield 1025, 4, false) ∧ NX10_worth 4 = some (.iload 1, 5, false) ∧ NX10_worth 5 = some (.iaload, 6, false) ∧ NX10_worth 6 = some (.istore 3, 7, false)) ∧ (NX10_worth 7 = some (.aload 0, 8, false) ∧ NX10_worth 8 = some (.getfield 1026, 11, false) ∧ NX10_worth 11 = some (.iload 2, 12, false) ∧ NX10_worth 12 = some (.iaload, 13, false) ∧ NX10_worth 13 = some (.istore 4, 15, false)) ∧ (NX10_worth 15 = some (.aload 0, 16, false) ∧ NX10_worth 16 = some (.iload 3, 17, false) ∧ NX10_worth 17 = some (.iload 4, 19, false) ∧ NX10_worth 19 = some (.invokeinterface 181 3, 22, false) ∧ NX10_worth 22 = some (.ifCond .ne 29, 25, false)) ∧ (NX10_worth 25 = some (.jsr (-1), 28, false) ∧ NX10_worth 28 = some (.lreturn, 29, false) ∧ NX10_worth 29 = some (.getstatic 20, 32, false) ∧ NX10_worth 32 = some (.iload 2, 33, false) ∧ NX10_worth 33 = some (.i2l, 34, false)) ∧ (NX10_worth 34 = some (.lsub, 35, false) ∧ NX10_worth 35 = some (.lstore 5, 37, false) ∧ NX10_worth 37 = some (.iload 1, 38, false) ∧ NX10_worth 38 = some (.ret 1, 39, false) ∧ NX10_worth 39 = some (.iadd, 40, false)) ∧ (NX10_worth 40 = some (.istore 7, 42, false) ∧ NX10_worth 42 = some (.iload 7, 44, true) ∧ NX10_worth 44 = some (.ret 10, 46, false) ∧ NX10_worth 46 = some (.if_icmp .ge 63, 49, false) ∧ NX10_worth 49 = some (.lload 5, 51, false)) ∧ (NX10_worth 51 = some (.getstatic 21, 54, false) ∧ NX10_worth 54 = some (.lmul, 55, false) ∧ NX10_worth 55 = some (.lstore 5, 57, false) ∧ NX10_worth 57 = some (.multianewarray 7 1, 60, false) ∧ NX10_worth 60 = some (.goto 42, 63, false)) ∧ (NX10_worth 63 = some (.getstatic 16679880978201, 66, false) ∧ NX10_worth 66 = some (.aload 0, 67, false) ∧ NX10_worth 67 = some (.iload 3, 68, false) ∧ NX10_worth 68 = some (.iload 4, 70, false) ∧ NX10_worth 70 = some (.invokeinterface 184 3, 73, false)) ∧ (NX10_worth 73 = some (.i2l, 74, false) ∧ NX10_worth 74 = some (.lmul, 75, false) ∧ NX10_worth 75 = some (.lload 5, 77, false) ∧ NX10_worth 77 = some (.ladd, 78, false) ∧ NX10_worth 78 = some (.lreturn, 79, false)) := ⟨by decide +kernel, by decide +kernel, by decide +kernel, by decide +kernel, by decide +kernel, by decide +kernel, by decide +kernel, by decide +kernel, by decide +kernel⟩
def NX10_match : sm_NF := sm_nd TX10_ cX10_match 9 [9, 41, 47, 82, 101, 202, 240, 280]
theorem n_X10_match : (NX10_match 0 = some (.ret 1, 1, false) ∧ NX10_match 1 = some (.aload 0, 2, false) ∧ NX10_match 2 = some (.getfield 1027, 5, false) ∧ NX10_match 5 = some (.ishl, 6, false) ∧ NX10_match 6 = some (.istore 1, 7, false)) ∧ (NX10_match 7 = some (.ret 0, 8, false) ∧ NX10_match 8 = some (.istore 2, 9, false) ∧ NX10_match 9 = some (.iload 2, 10, true) ∧ NX10_match 10 = some (.iload 1, 11, false) ∧ NX10_match 11 = some (.if_icmp .ge 34, 14, false)) ∧ (NX10_match 14 = some (.aload 0, 15, false) ∧ NX10_match 15 = some (.getfield 1029, 18, false) ∧ NX10_match 18 = some (.aload 0, 19, false) ∧ NX10_match 19 = some (.getfield 1028, 22, false) ∧ NX10_match 22 = some (.iload 1, 23, false)) ∧ (NX10_match 23 = some (.imul, 24, false) ∧ NX10_match 24 = some (.iload 2, 25, false) ∧ NX10_match 25 = some (.iadd, 26, false) ∧ NX10_match 26 = some (.getstatic 0, 27, false) ∧ NX10_match 27 = some (.lastore, 28, false)) ∧ (NX10_match 28 = some (.multianewarray 2 1, 31, false) ∧ NX10_match 31 = some (.goto 9, 34, false) ∧ NX10_match 34 = some (.aload 0, 35, false) ∧ NX10_match 35 = some (.getfield 1028, 38, false) ∧ NX10_match 38 = some (.ret 1, 39, false)) ∧ (NX10_match 39 = some (.isub, 40, false) ∧ NX10_match 40 = some (.istore 2, 41, false) ∧ NX10_match 41 = some (.iload 2, 42, true) ∧ NX10_match 42 = some (.ifCond .lt 196, 45, false) ∧ NX10_match 45 = some (.ret 0, 46, false)) ∧ (NX10_match 46 = some (.istore 3, 47, false) ∧ NX10_match 47 = some (.iload 3, 48, true) ∧ NX10_match 48 = some (.iload 1, 49, false) ∧ NX10_match 49 = some (.if_icmp .ge 80, 52, false) ∧ NX10_match 52 = some (.aload 0, 53, false)) ∧ (NX10_match 53 = some (.getfield 1029, 56, false) ∧ NX10_match 56 = some (.iload 2, 57, false) ∧ NX10_match 57 = some (.iload 1, 58, false) ∧ NX10_match 58 = some (.imul, 59, false) ∧ NX10_match 59 = some (.iload 3, 60, false)) ∧ (NX10_match 60 = some (.iadd, 61, false) ∧ NX10_match 61 = some (.aload 0, 62, false) ∧ NX10_match 62 = some (.getfield 1029, 65, false) ∧ NX10_match 65 = some (.iload 2, 66, false) ∧ NX10_match 66 = some (.ret 1, 67, false)) ∧ (NX10_match 67 = some (.iadd, 68, false) ∧ NX10_match 68 = some (.iload 1, 69, false) ∧ NX10_match 69 = some (.imul, 70, false) ∧ NX10_match 70 = some (.iload 3, 71, false) ∧ NX10_match 71 = some (.iadd, 72, false)) ∧ (NX10_match 72 = some (.laload, 73, false) ∧ NX10_match 73 = some (.lastore, 74, false) ∧ NX10_match 74 = some (.multianewarray 3 1, 77, false) ∧ NX10_match 77 = some (.goto 47, 80, false) ∧ NX10_match 80 = some (.ret 0, 81, false)) ∧ (NX10_match 81 = some (.istore 3, 82, false) ∧ NX10_match 82 = some (.iload 3, 83, true) ∧ NX10_match 83 = some (.aload 0, 84, false) ∧ NX10_match 84 = some (.getfield 1027, 87, false) ∧ NX10_match 87 = some (.if_icmp .ge 190, 90, false)) ∧ (NX10_match 90 = some (.aload 0, 91, false) ∧ NX10_match 91 = some (.iload 3, 92, false) ∧ NX10_match 92 = some (.iload 2, 93, false) ∧ NX10_match 93 = some (.invokeinterface 191 3, 96, false) ∧ NX10_match 96 = some (.lstore 4, 98, false)) ∧ (NX10_match 98 = some (.ret 0, 99, false) ∧ NX10_match 99 = some (.istore 6, 101, false) ∧ NX10_match 101 = some (.iload 6, 103, true) ∧ NX10_match 103 = some (.iload 1, 104, false) ∧ NX10_match 104 = some (.if_icmp .ge 184, 107, false)) ∧ (NX10_match 107 = some (.lload 4, 109, false) ∧ NX10_match 109 = some (.getstatic 0, 110, false) ∧ NX10_match 110 = some (.lcmp, 111, false) ∧ NX10_match 111 = some (.ifCond .lt 184, 114, false) ∧ NX10_match 114 = some (.iload 6, 116, false)) ∧ (NX10_match 116 = some (.iload 3, 117, false) ∧ NX10_match 117 = some (.ishr, 118, false) ∧ NX10_match 118 = some (.ret 1, 119, false) ∧ NX10_match 119 = some (.iand, 120, false) ∧ NX10_match 120 = some (.ifCond .ne 126, 123, false)) ∧ (NX10_match 123 = some (.goto 178, 126, false) ∧ NX10_match 126 = some (.lload 4, 128, false) ∧ NX10_match 128 = some (.aload 0, 129, false) ∧ NX10_match 129 = some (.getfield 1029, 132, false) ∧ NX10_match 132 = some (.iload 2, 133, false)) ∧ (NX10_match 133 = some (.ret 1, 134, false) ∧ NX10_match 134 = some (.iadd, 135, false) ∧ NX10_match 135 = some (.iload 1, 136, false) ∧ NX10_match 136 = some (.imul, 137, false) ∧ NX10_match 137 = some (.iload 6, 139, false)) ∧ (NX10_match 139 = some (.ret 1, 140, false) ∧ NX10_match 140 = some (.iload 3, 141, false) ∧ NX10_match 141 = some (.ishl, 142, false) ∧ NX10_match 142 = some (.ixor, 143, false) ∧ NX10_match 143 = some (.iadd, 144, false)) ∧ (NX10_match 144 = some (.laload, 145, false) ∧ NX10_match 145 = some (.ladd, 146, false) ∧ NX10_match 146 = some (.lstore 7, 148, false) ∧ NX10_match 148 = some (.lload 7, 150, false) ∧ NX10_match 150 = some (.aload 0, 151, false)) ∧ (NX10_match 151 = some (.getfield 1029, 154, false) ∧ NX10_match 154 = some (.iload 2, 155, false) ∧ NX10_match 155 = some (.iload 1, 156, false) ∧ NX10_match 156 = some (.imul, 157, false) ∧ NX10_match 157 = some (.iload 6, 159, false)) ∧ (NX10_match 159 = some (.iadd, 160, false) ∧ NX10_match 160 = some (.laload, 161, false) ∧ NX10_match 161 = some (.lcmp, 162, false) ∧ NX10_match 162 = some (.ifCond .le 178, 165, false) ∧ NX10_match 165 = some (.aload 0, 166, false)) ∧ (NX10_match 166 = some (.getfield 1029, 169, false) ∧ NX10_match 169 = some (.iload 2, 170, false) ∧ NX10_match 170 = some (.iload 1, 171, false) ∧ NX10_match 171 = some (.imul, 172, false) ∧ NX10_match 172 = some (.iload 6, 174, false)) ∧ (NX10_match 174 = some (.iadd, 175, false) ∧ NX10_match 175 = some (.lload 7, 177, false) ∧ NX10_match 177 = some (.lastore, 178, false) ∧ NX10_match 178 = some (.multianewarray 6 1, 181, false) ∧ NX10_match 181 = some (.goto 101, 184, false)) ∧ (NX10_match 184 = some (.multianewarray 3 1, 187, false) ∧ NX10_match 187 = some (.goto 82, 190, false) ∧ NX10_match 190 = some (.iinc 2 (-1), 193, false) ∧ NX10_match 193 = some (.goto 41, 196, false) ∧ NX10_match 196 = some (.iload 1, 197, false)) ∧ (NX10_match 197 = some (.ret 1, 198, false) ∧ NX10_match 198 = some (.isub, 199, false) ∧ NX10_match 199 = some (.istore 2, 200, false) ∧ NX10_match 200 = some (.ret 0, 201, false) ∧ NX10_match 201 = some (.istore 3, 202, false)) ∧ (NX10_match 202 = some (.iload 3, 203, true) ∧ NX10_match 203 = some (.aload 0, 204, false) ∧ NX10_match 204 = some (.getfield 1027, 207, false) ∧ NX10_match 207 = some (.if_icmp .ge 223, 210, false) ∧ NX10_match 210 = some (.aload 0, 211, false)) ∧ (NX10_match 211 = some (.getfield 1030, 214, false) ∧ NX10_match 214 = some (.iload 3, 215, false) ∧ NX10_match 215 = some (.putstatic 0, 216, false) ∧ NX10_match 216 = some (.iastore, 217, false) ∧ NX10_match 217 = some (.multianewarray 3 1, 220, false)) ∧ (NX10_match 220 = some (.goto 202, 223, false) ∧ NX10_match 223 = some (.aload 0, 224, false) ∧ NX10_match 224 = some (.aload 0, 225, false) ∧ NX10_match 225 = some (.getfield 1029, 228, false) ∧ NX10_match 228 = some (.iload 2, 229, false)) ∧ (NX10_match 229 = some (.laload, 230, false) ∧ NX10_match 230 = some (.getstatic 16679880978201, 233, false) ∧ NX10_match 233 = some (.ldiv, 234, false) ∧ NX10_match 234 = some (.l2i, 235, false) ∧ NX10_match 235 = some (.putfield 1031, 238, false)) ∧ (NX10_match 238 = some (.ret 0, 239, false) ∧ NX10_match 239 = some (.istore 3, 240, false) ∧ NX10_match 240 = some (.iload 3, 241, true) ∧ NX10_match 241 = some (.aload 0, 242, false) ∧ NX10_match 242 = some (.getfield 1028, 245, false)) ∧ (NX10_match 245 = some (.if_icmp .ge 372, 248, false) ∧ NX10_match 248 = some (.aload 0, 249, false) ∧ NX10_match 249 = some (.getfield 1029, 252, false) ∧ NX10_match 252 = some (.iload 3, 253, false) ∧ NX10_match 253 = some (.iload 1, 254, false)) ∧ (NX10_match 254 = some (.imul, 255, false) ∧ NX10_match 255 = some (.iload 2, 256, false) ∧ NX10_match 256 = some (.iadd, 257, false) ∧ NX10_match 257 = some (.laload, 258, false) ∧ NX10_match 258 = some (.aload 0, 259, false)) ∧ (NX10_match 259 = some (.getfield 1029, 262, false) ∧ NX10_match 262 = some (.iload 3, 263, false) ∧ NX10_match 263 = some (.ret 1, 264, false) ∧ NX10_match 264 = some (.iadd, 265, false) ∧ NX10_match 265 = some (.iload 1, 266, false)) ∧ (NX10_match 266 = some (.imul, 267, false) ∧ NX10_match 267 = some (.iload 2, 268, false) ∧ NX10_match 268 = some (.iadd, 269, false) ∧ NX10_match 269 = some (.laload, 270, false) ∧ NX10_match 270 = some (.lcmp, 271, false)) ∧ (NX10_match 271 = some (.ifCond .ne 277, 274, false) ∧ NX10_match 274 = some (.goto 366, 277, false) ∧ NX10_match 277 = some (.ret 0, 278, false) ∧ NX10_match 278 = some (.istore 4, 280, false) ∧ NX10_match 280 = some (.iload 2, 281, true)) ∧ (NX10_match 281 = some (.iload 4, 283, false) ∧ NX10_match 283 = some (.ishr, 284, false) ∧ NX10_match 284 = some (.ret 1, 285, false) ∧ NX10_match 285 = some (.iand, 286, false) ∧ NX10_match 286 = some (.ifCond .eq 340, 289, false)) ∧ (NX10_match 289 = some (.aload 0, 290, false) ∧ NX10_match 290 = some (.iload 4, 292, false) ∧ NX10_match 292 = some (.iload 3, 293, false) ∧ NX10_match 293 = some (.invokeinterface 191 3, 296, false) ∧ NX10_match 296 = some (.getstatic 0, 297, false)) ∧ (NX10_match 297 = some (.lcmp, 298, false) ∧ NX10_match 298 = some (.ifCond .lt 340, 301, false) ∧ NX10_match 301 = some (.aload 0, 302, false) ∧ NX10_match 302 = some (.iload 4, 304, false) ∧ NX10_match 304 = some (.iload 3, 305, false)) ∧ (NX10_match 305 = some (.invokeinterface 191 3, 308, false) ∧ NX10_match 308 = some (.aload 0, 309, false) ∧ NX10_match 309 = some (.getfield 1029, 312, false) ∧ NX10_match 312 = some (.iload 3, 313, false) ∧ NX10_match 313 = some (.ret 1, 314, false)) ∧ (NX10_match 314 = some (.iadd, 315, false) ∧ NX10_match 315 = some (.iload 1, 316, false) ∧ NX10_match 316 = some (.imul, 317, false) ∧ NX10_match 317 = some (.iload 2, 318, false) ∧ NX10_match 318 = some (.ret 1, 319, false)) ∧ (NX10_match 319 = some (.iload 4, 321, false) ∧ NX10_match 321 = some (.ishl, 322, false) ∧ NX10_match 322 = some (.ixor, 323, false) ∧ NX10_match 323 = some (.iadd, 324, false) ∧ NX10_match 324 = some (.laload, 325, false)) ∧ (NX10_match 325 = some (.ladd, 326, false) ∧ NX10_match 326 = some (.aload 0, 327, false) ∧ NX10_match 327 = some (.getfield 1029, 330, false) ∧ NX10_match 330 = some (.iload 3, 331, false) ∧ NX10_match 331 = some (.iload 1, 332, false)) ∧ (NX10_match 332 = some (.imul, 333, false) ∧ NX10_match 333 = some (.iload 2, 334, false) ∧ NX10_match 334 = some (.iadd, 335, false) ∧ NX10_match 335 = some (.laload, 336, false) ∧ NX10_match 336 = some (.lcmp, 337, false)) ∧ (NX10_match 337 = some (.ifCond .eq 346, 340, false) ∧ NX10_match 340 = some (.multianewarray 4 1, 343, false) ∧ NX10_match 343 = some (.goto 280, 346, false) ∧ NX10_match 346 = some (.aload 0, 347, false) ∧ NX10_match 347 = some (.getfield 1030, 350, false)) ∧ (NX10_match 350 = some (.iload 4, 352, false) ∧ NX10_match 352 = some (.aload 0, 353, false) ∧ NX10_match 353 = some (.getfield 1026, 356, false) ∧ NX10_match 356 = some (.iload 3, 357, false) ∧ NX10_match 357 = some (.iaload, 358, false)) ∧ (NX10_match 358 = some (.iastore, 359, false) ∧ NX10_match 359 = some (.iload 2, 360, false) ∧ NX10_match 360 = some (.ret 1, 361, false) ∧ NX10_match 361 = some (.iload 4, 363, false) ∧ NX10_match 363 = some (.ishl, 364, false)) ∧ (NX10_match 364 = some (.ixor, 365, false) ∧ NX10_match 365 = some (.istore 2, 366, false) ∧ NX10_match 366 = some (.multianewarray 3 1, 369, false) ∧ NX10_match 369 = some (.goto 240, 372, false) ∧ NX10_match 372 = some (.return_, 373, false)) := ⟨by decide +kernel, by decide +kernel, by decide +kernel, by decide +kernel, by decide +kernel, by decide +kernel, by decide +kernel, by decide +kernel, by decide +kernel, by decide +kernel, by decide +kernel, by decide +kernel, by decide +kernel, by decide +kernel, by decide +kernel, by decide +kernel, by decide +kernel, by decide +kernel, by decide +kernel, by decide +kernel, by decide +kernel, by decide +kernel, by decide +kernel, by decide +kernel, by decide +kernel, by decide +kernel, by decide +kernel, by decide +kernel, by decide +kernel, by decide +kernel, by decide +kernel, by decide +kernel, by decide +kernel, by decide +kernel, by decide +kernel, by decide +kernel, by decide +kernel, by decide +kernel, by decide +kernel, by decide +kernel, by decide +kernel, by decide +kernel, by decide +kernel, by decide +kernel, by decide +kernel, by decide +kernel, by decide +kernel, by decide +kernel⟩
def NX10_isOpen : sm_NF := sm_nd TX10_ cX10_isOpen 2 []
theorem n_X10_isOpen : (NX10_isOpen 0 = some (.aload 0, 1, false) ∧ NX10_isOpen 1 = some (.iload 1, 2, false) ∧ NX10_isOpen 2 = some (.invokeinterface 168 2, 5, false) ∧ NX10_isOpen 5 = some (.ifCond .eq 21, 8, false) ∧ NX10_isOpen 8 = some (.aload 0, 9, false)) ∧ (NX10_isOpen 9 = some (.getfield 1020, 12, false) ∧ NX10_isOpen 12 = some (.iload 1, 13, false) ∧ NX10_isOpen 13 = some (.baload, 14, false) ∧ NX10_isOpen 14 = some (.ifCond .ne 21, 17, false) ∧ NX10_isOpen 17 = some (.ret 1, 18, false)) ∧ (NX10_isOpen 18 = some (.goto 22, 21, false) ∧ NX10_isOpen 21 = some (.ret 0, 22, false) ∧ NX10_isOpen 22 = some (.ireturn, 23, false)) := ⟨by decide +kernel, by decide +kernel, by decide +kernel⟩
def NX10_given : sm_NF := sm_nd TX10_ cX10_given 3 [21]
theorem n_X10_given : (NX10_given 0 = some (.aload 0, 1, false) ∧ NX10_given 1 = some (.iload 1, 2, false) ∧ NX10_given 2 = some (.invokeinterface 189 2, 5, false) ∧ NX10_given 5 = some (.aload 0, 6, false) ∧ NX10_given 6 = some (.invokeinterface 190 1, 9, false)) ∧ (NX10_given 9 = some (.ifCond .eq 15, 12, false) ∧ NX10_given 12 = some (.putstatic 1, 14, false) ∧ NX10_given 14 = some (.ireturn, 15, false) ∧ NX10_given 15 = some (.aload 0, 16, false) ∧ NX10_given 16 = some (.invokeinterface 192 1, 19, false)) ∧ (NX10_given 19 = some (.ret 0, 20, false) ∧ NX10_given 20 = some (.istore 2, 21, false) ∧ NX10_given 21 = some (.aload 0, 22, true) ∧ NX10_given 22 = some (.getfield 1025, 25, false) ∧ NX10_given 25 = some (.iload 2, 26, false)) ∧ (NX10_given 26 = some (.iaload, 27, false) ∧ NX10_given 27 = some (.iload 1, 28, false) ∧ NX10_given 28 = some (.if_icmp .eq 37, 31, false) ∧ NX10_given 31 = some (.multianewarray 2 1, 34, false) ∧ NX10_given 34 = some (.goto 21, 37, false)) ∧ (NX10_given 37 = some (.aload 0, 38, false) ∧ NX10_given 38 = some (.getfield 1030, 41, false) ∧ NX10_given 41 = some (.iload 2, 42, false) ∧ NX10_given 42 = some (.iaload, 43, false) ∧ NX10_given 43 = some (.ireturn, 44, false)) := ⟨by decide +kernel, by decide +kernel, by decide +kernel, by decide +kernel, by decide +kernel⟩
def NX10_best : sm_NF := sm_nd TX10_ cX10_best 2 []
theorem n_X10_best : (NX10_best 0 = some (.aload 0, 1, false) ∧ NX10_best 1 = some (.ret 0, 2, false) ∧ NX10_best 2 = some (.putfield 1000, 5, false) ∧ NX10_best 5 = some (.aload 0, 6, false) ∧ NX10_best 6 = some (.iload 1, 7, false)) ∧ (NX10_best 7 = some (.invokeinterface 193 2, 10, false) ∧ NX10_best 10 = some (.ifCond .eq 21, 13, false) ∧ NX10_best 13 = some (.aload 0, 14, false) ∧ NX10_best 14 = some (.iload 1, 15, false) ∧ NX10_best 15 = some (.invokeinterface 194 2, 18, false)) ∧ (NX10_best 18 = some (.goto 22, 21, false) ∧ NX10_best 21 = some (.putstatic 0, 22, false) ∧ NX10_best 22 = some (.ireturn, 23, false)) := ⟨by decide +kernel, by decide +kernel, by decide +kernel⟩
def NX10_sum : sm_NF := sm_nd TX10_ cX10_sum 2 []
theorem n_X10_sum : (NX10_sum 0 = some (.aload 0, 1, false) ∧ NX10_sum 1 = some (.ret 0, 2, false) ∧ NX10_sum 2 = some (.putfield 1000, 5, false) ∧ NX10_sum 5 = some (.aload 0, 6, false) ∧ NX10_sum 6 = some (.iload 1, 7, false)) ∧ (NX10_sum 7 = some (.invokeinterface 193 2, 10, false) ∧ NX10_sum 10 = some (.ifCond .ne 15, 13, false) ∧ NX10_sum 13 = some (.putstatic 0, 14, false) ∧ NX10_sum 14 = some (.ireturn, 15, false) ∧ NX10_sum 15 = some (.aload 0, 16, false)) ∧ (NX10_sum 16 = some (.iload 1, 17, false) ∧ NX10_sum 17 = some (.invokeinterface 194 2, 20, false) ∧ NX10_sum 20 = some (.putstatic 1, 22, false) ∧ NX10_sum 22 = some (.if_icmp .ne 30, 25, false) ∧ NX10_sum 25 = some (.putstatic 1, 27, false)) ∧ (NX10_sum 27 = some (.goto 34, 30, false) ∧ NX10_sum 30 = some (.aload 0, 31, false) ∧ NX10_sum 31 = some (.getfield 1031, 34, false) ∧ NX10_sum 34 = some (.ireturn, 35, false)) := ⟨by decide +kernel, by decide +kernel, by decide +kernel, by decide +kernel⟩
def NX10_also : sm_NF := sm_nd TX10_ cX10_also 6 [40]
theorem n_X10_also : (NX10_also 0 = some (.aload 0, 1, false) ∧ NX10_also 1 = some (.ret 0, 2, false) ∧ NX10_also 2 = some (.putfield 1000, 5, false) ∧ NX10_also 5 = some (.aload 0, 6, false) ∧ NX10_also 6 = some (.iload 1, 7, false)) ∧ (NX10_also 7 = some (.invokeinterface 193 2, 10, false) ∧ NX10_also 10 = some (.ifCond .ne 15, 13, false) ∧ NX10_also 13 = some (.putstatic 0, 14, false) ∧ NX10_also 14 = some (.ireturn, 15, false) ∧ NX10_also 15 = some (.aload 0, 16, false)) ∧ (NX10_also 16 = some (.iload 1, 17, false) ∧ NX10_also 17 = some (.invokeinterface 194 2, 20, false) ∧ NX10_also 20 = some (.istore 2, 21, false) ∧ NX10_also 21 = some (.iload 2, 22, false) ∧ NX10_also 22 = some (.ifCond .ge 27, 25, false)) ∧ (NX10_also 25 = some (.iload 2, 26, false) ∧ NX10_also 26 = some (.ireturn, 27, false) ∧ NX10_also 27 = some (.aload 0, 28, false) ∧ NX10_also 28 = some (.iload 1, 29, false) ∧ NX10_also 29 = some (.iload 2, 30, false)) ∧ (NX10_also 30 = some (.invokeinterface 184 3, 33, false) ∧ NX10_also 33 = some (.istore 3, 34, false) ∧ NX10_also 34 = some (.ret 0, 35, false) ∧ NX10_also 35 = some (.istore 4, 37, false) ∧ NX10_also 37 = some (.ret 0, 38, false)) ∧ (NX10_also 38 = some (.istore 5, 40, false) ∧ NX10_also 40 = some (.iload 5, 42, true) ∧ NX10_also 42 = some (.aload 0, 43, false) ∧ NX10_also 43 = some (.getfield 1008, 46, false) ∧ NX10_also 46 = some (.if_icmp .ge 86, 49, false)) ∧ (NX10_also 49 = some (.iload 4, 51, false) ∧ NX10_also 51 = some (.aload 0, 52, false) ∧ NX10_also 52 = some (.iload 1, 53, false) ∧ NX10_also 53 = some (.iload 5, 55, false) ∧ NX10_also 55 = some (.invokeinterface 181 3, 58, false)) ∧ (NX10_also 58 = some (.ifCond .eq 76, 61, false) ∧ NX10_also 61 = some (.aload 0, 62, false) ∧ NX10_also 62 = some (.iload 1, 63, false) ∧ NX10_also 63 = some (.iload 5, 65, false) ∧ NX10_also 65 = some (.invokeinterface 184 3, 68, false)) ∧ (NX10_also 68 = some (.iload 3, 69, false) ∧ NX10_also 69 = some (.if_icmp .lt 76, 72, false) ∧ NX10_also 72 = some (.ret 1, 73, false) ∧ NX10_also 73 = some (.goto 77, 76, false) ∧ NX10_also 76 = some (.ret 0, 77, false)) ∧ (NX10_also 77 = some (.iadd, 78, false) ∧ NX10_also 78 = some (.istore 4, 80, false) ∧ NX10_also 80 = some (.multianewarray 5 1, 83, false) ∧ NX10_also 83 = some (.goto 40, 86, false) ∧ NX10_also 86 = some (.iload 4, 88, false)) ∧ (NX10_also 88 = some (.ireturn, 89, false)) := ⟨by decide +kernel, by decide +kernel, by decide +kernel, by decide +kernel, by decide +kernel, by decide +kernel, by decide +kernel, by decide +kernel, by decide +kernel, by decide +kernel, by decide +kernel⟩
def NX10_group : sm_NF := sm_nd TX10_ cX10_group 3 []
theorem n_X10_group : (NX10_group 0 = some (.aload 0, 1, false) ∧ NX10_group 1 = some (.ret 0, 2, false) ∧ NX10_group 2 = some (.putfield 1000, 5, false) ∧ NX10_group 5 = some (.aload 0, 6, false) ∧ NX10_group 6 = some (.iload 1, 7, false)) ∧ (NX10_group 7 = some (.invokeinterface 193 2, 10, false) ∧ NX10_group 10 = some (.ifCond .eq 22, 13, false) ∧ NX10_group 13 = some (.iload 2, 14, false) ∧ NX10_group 14 = some (.ret 0, 15, false) ∧ NX10_group 15 = some (.ret 1, 16, false)) ∧ (NX10_group 16 = some (.invokeinterface 160 3, 19, false) ∧ NX10_group 19 = some (.ifCond .ne 24, 22, false) ∧ NX10_group 22 = some (.putstatic 0, 23, false) ∧ NX10_group 23 = some (.ireturn, 24, false) ∧ NX10_group 24 = some (.aload 0, 25, false)) ∧ (NX10_group 25 = some (.iload 1, 26, false) ∧ NX10_group 26 = some (.invokeinterface 189 2, 29, false) ∧ NX10_group 29 = some (.iload 2, 30, false) ∧ NX10_group 30 = some (.ifCond .ne 40, 33, false) ∧ NX10_group 33 = some (.aload 0, 34, false)) ∧ (NX10_group 34 = some (.getfield 1027, 37, false) ∧ NX10_group 37 = some (.goto 44, 40, false) ∧ NX10_group 40 = some (.aload 0, 41, false) ∧ NX10_group 41 = some (.getfield 1028, 44, false) ∧ NX10_group 44 = some (.ireturn, 45, false)) := ⟨by decide +kernel, by decide +kernel, by decide +kernel, by decide +kernel, by decide +kernel⟩
def NX10_like : sm_NF := sm_nd TX10_ cX10_like 4 [25]
theorem n_X10_like : (NX10_like 0 = some (.aload 0, 1, false) ∧ NX10_like 1 = some (.ret 0, 2, false) ∧ NX10_like 2 = some (.putfield 1000, 5, false) ∧ NX10_like 5 = some (.aload 0, 6, false) ∧ NX10_like 6 = some (.iload 1, 7, false)) ∧ (NX10_like 7 = some (.invokeinterface 167 2, 10, false) ∧ NX10_like 10 = some (.ifCond .eq 21, 13, false) ∧ NX10_like 13 = some (.aload 0, 14, false) ∧ NX10_like 14 = some (.iload 2, 15, false) ∧ NX10_like 15 = some (.invokeinterface 167 2, 18, false)) ∧ (NX10_like 18 = some (.ifCond .ne 23, 21, false) ∧ NX10_like 21 = some (.putstatic 0, 22, false) ∧ NX10_like 22 = some (.ireturn, 23, false) ∧ NX10_like 23 = some (.ret 0, 24, false) ∧ NX10_like 24 = some (.istore 3, 25, false)) ∧ (NX10_like 25 = some (.iload 3, 26, true) ∧ NX10_like 26 = some (.aload 0, 27, false) ∧ NX10_like 27 = some (.getfield 1001, 30, false) ∧ NX10_like 30 = some (.if_icmp .ge 56, 33, false) ∧ NX10_like 33 = some (.aload 0, 34, false)) ∧ (NX10_like 34 = some (.iload 1, 35, false) ∧ NX10_like 35 = some (.iload 3, 36, false) ∧ NX10_like 36 = some (.invokeinterface 176 3, 39, false) ∧ NX10_like 39 = some (.aload 0, 40, false) ∧ NX10_like 40 = some (.iload 2, 41, false)) ∧ (NX10_like 41 = some (.iload 3, 42, false) ∧ NX10_like 42 = some (.invokeinterface 176 3, 45, false) ∧ NX10_like 45 = some (.if_icmp .eq 50, 48, false) ∧ NX10_like 48 = some (.ret 0, 49, false) ∧ NX10_like 49 = some (.ireturn, 50, false)) ∧ (NX10_like 50 = some (.multianewarray 3 1, 53, false) ∧ NX10_like 53 = some (.goto 25, 56, false) ∧ NX10_like 56 = some (.ret 1, 57, false) ∧ NX10_like 57 = some (.ireturn, 58, false)) := ⟨by decide +kernel, by decide +kernel, by decide +kernel, by decide +kernel, by decide +kernel, by decide +kernel, by decide +kernel⟩
def NX10_findFitted : sm_NF := sm_nd TX10_ cX10_findFitted 3 [7]
theorem n_X10_findFitted : (NX10_findFitted 0 = some (.aload 0, 1, false) ∧ NX10_findFitted 1 = some (.ret 0, 2, false) ∧ NX10_findFitted 2 = some (.putfield 1033, 5, false) ∧ NX10_findFitted 5 = some (.ret 0, 6, false) ∧ NX10_findFitted 6 = some (.istore 2, 7, false)) ∧ (NX10_findFitted 7 = some (.iload 2, 8, true) ∧ NX10_findFitted 8 = some (.aload 0, 9, false) ∧ NX10_findFitted 9 = some (.getfield 1008, 12, false) ∧ NX10_findFitted 12 = some (.if_icmp .ge 53, 15, false) ∧ NX10_findFitted 15 = some (.aload 0, 16, false)) ∧ (NX10_findFitted 16 = some (.iload 1, 17, false) ∧ NX10_findFitted 17 = some (.iload 2, 18, false) ∧ NX10_findFitted 18 = some (.invokeinterface 181 3, 21, false) ∧ NX10_findFitted 21 = some (.ifCond .ne 27, 24, false) ∧ NX10_findFitted 24 = some (.goto 47, 27, false)) ∧ (NX10_findFitted 27 = some (.aload 0, 28, false) ∧ NX10_findFitted 28 = some (.getfield 1032, 31, false) ∧ NX10_findFitted 31 = some (.aload 0, 32, false) ∧ NX10_findFitted 32 = some (.getfield 1033, 35, false) ∧ NX10_findFitted 35 = some (.iload 2, 36, false)) ∧ (NX10_findFitted 36 = some (.iastore, 37, false) ∧ NX10_findFitted 37 = some (.aload 0, 38, false) ∧ NX10_findFitted 38 = some (.dup, 39, false) ∧ NX10_findFitted 39 = some (.getfield 1033, 42, false) ∧ NX10_findFitted 42 = some (.ret 1, 43, false)) ∧ (NX10_findFitted 43 = some (.iadd, 44, false) ∧ NX10_findFitted 44 = some (.putfield 1033, 47, false) ∧ NX10_findFitted 47 = some (.multianewarray 2 1, 50, false) ∧ NX10_findFitted 50 = some (.goto 7, 53, false) ∧ NX10_findFitted 53 = some (.return_, 54, false)) := ⟨by decide +kernel, by decide +kernel, by decide +kernel, by decide +kernel, by decide +kernel, by decide +kernel⟩
def NX10_classes : sm_NF := sm_nd TX10_ cX10_classes 6 [4, 18]
theorem n_X10_classes : (NX10_classes 0 = some (.ret 0, 1, false) ∧ NX10_classes 1 = some (.istore 2, 2, false) ∧ NX10_classes 2 = some (.ret 0, 3, false) ∧ NX10_classes 3 = some (.istore 3, 4, false) ∧ NX10_classes 4 = some (.iload 3, 5, true)) ∧ (NX10_classes 5 = some (.aload 0, 6, false) ∧ NX10_classes 6 = some (.getfield 1033, 9, false) ∧ NX10_classes 9 = some (.if_icmp .ge 87, 12, false) ∧ NX10_classes 12 = some (.ret 1, 13, false) ∧ NX10_classes 13 = some (.istore 4, 15, false)) ∧ (NX10_classes 15 = some (.ret 0, 16, false) ∧ NX10_classes 16 = some (.istore 5, 18, false) ∧ NX10_classes 18 = some (.iload 5, 20, true) ∧ NX10_classes 20 = some (.iload 3, 21, false) ∧ NX10_classes 21 = some (.if_icmp .ge 68, 24, false)) ∧ (NX10_classes 24 = some (.iload 4, 26, false) ∧ NX10_classes 26 = some (.ifCond .eq 59, 29, false) ∧ NX10_classes 29 = some (.aload 0, 30, false) ∧ NX10_classes 30 = some (.aload 0, 31, false) ∧ NX10_classes 31 = some (.getfield 1032, 34, false)) ∧ (NX10_classes 34 = some (.iload 3, 35, false) ∧ NX10_classes 35 = some (.iaload, 36, false) ∧ NX10_classes 36 = some (.iload 1, 37, false) ∧ NX10_classes 37 = some (.invokeinterface 176 3, 40, false) ∧ NX10_classes 40 = some (.aload 0, 41, false)) ∧ (NX10_classes 41 = some (.aload 0, 42, false) ∧ NX10_classes 42 = some (.getfield 1032, 45, false) ∧ NX10_classes 45 = some (.iload 5, 47, false) ∧ NX10_classes 47 = some (.iaload, 48, false) ∧ NX10_classes 48 = some (.iload 1, 49, false)) ∧ (NX10_classes 49 = some (.invokeinterface 176 3, 52, false) ∧ NX10_classes 52 = some (.if_icmp .eq 59, 55, false) ∧ NX10_classes 55 = some (.ret 1, 56, false) ∧ NX10_classes 56 = some (.goto 60, 59, false) ∧ NX10_classes 59 = some (.ret 0, 60, false)) ∧ (NX10_classes 60 = some (.istore 4, 62, false) ∧ NX10_classes 62 = some (.multianewarray 5 1, 65, false) ∧ NX10_classes 65 = some (.goto 18, 68, false) ∧ NX10_classes 68 = some (.iload 2, 69, false) ∧ NX10_classes 69 = some (.iload 4, 71, false)) ∧ (NX10_classes 71 = some (.ifCond .eq 78, 74, false) ∧ NX10_classes 74 = some (.ret 1, 75, false) ∧ NX10_classes 75 = some (.goto 79, 78, false) ∧ NX10_classes 78 = some (.ret 0, 79, false) ∧ NX10_classes 79 = some (.iadd, 80, false)) ∧ (NX10_classes 80 = some (.istore 2, 81, false) ∧ NX10_classes 81 = some (.multianewarray 3 1, 84, false) ∧ NX10_classes 84 = some (.goto 4, 87, false) ∧ NX10_classes 87 = some (.iload 2, 88, false) ∧ NX10_classes 88 = some (.ireturn, 89, false)) := ⟨by decide +kernel, by decide +kernel, by decide +kernel, by decide +kernel, by decide +kernel, by decide +kernel, by decide +kernel, by decide +kernel, by decide +kernel, by decide +kernel⟩
def NX10_parts : sm_NF := sm_nd TX10_ cX10_parts 3 []
theorem n_X10_parts : (NX10_parts 0 = some (.aload 0, 1, false) ∧ NX10_parts 1 = some (.ret 0, 2, false) ∧ NX10_parts 2 = some (.putfield 1000, 5, false) ∧ NX10_parts 5 = some (.aload 0, 6, false) ∧ NX10_parts 6 = some (.iload 1, 7, false)) ∧ (NX10_parts 7 = some (.invokeinterface 168 2, 10, false) ∧ NX10_parts 10 = some (.ifCond .eq 21, 13, false) ∧ NX10_parts 13 = some (.aload 0, 14, false) ∧ NX10_parts 14 = some (.iload 2, 15, false) ∧ NX10_parts 15 = some (.invokeinterface 162 2, 18, false)) ∧ (NX10_parts 18 = some (.ifCond .ne 23, 21, false) ∧ NX10_parts 21 = some (.putstatic 0, 22, false) ∧ NX10_parts 22 = some (.ireturn, 23, false) ∧ NX10_parts 23 = some (.aload 0, 24, false) ∧ NX10_parts 24 = some (.iload 1, 25, false)) ∧ (NX10_parts 25 = some (.invokeinterface 200 2, 28, false) ∧ NX10_parts 28 = some (.aload 0, 29, false) ∧ NX10_parts 29 = some (.iload 2, 30, false) ∧ NX10_parts 30 = some (.invokeinterface 201 2, 33, false) ∧ NX10_parts 33 = some (.ireturn, 34, false)) := ⟨by decide +kernel, by decide +kernel, by decide +kernel, by decide +kernel⟩
def NX10_ask : sm_NF := sm_nd TX10_ cX10_ask 6 [27]
theorem n_X10_ask : (NX10_ask 0 = some (.aload 0, 1, false) ∧ NX10_ask 1 = some (.ret 0, 2, false) ∧ NX10_ask 2 = some (.putfield 1000, 5, false) ∧ NX10_ask 5 = some (.aload 0, 6, false) ∧ NX10_ask 6 = some (.iload 1, 7, false)) ∧ (NX10_ask 7 = some (.invokeinterface 168 2, 10, false) ∧ NX10_ask 10 = some (.ifCond .ne 15, 13, false) ∧ NX10_ask 13 = some (.putstatic 0, 14, false) ∧ NX10_ask 14 = some (.ireturn, 15, false) ∧ NX10_ask 15 = some (.aload 0, 16, false)) ∧ (NX10_ask 16 = some (.iload 1, 17, false) ∧ NX10_ask 17 = some (.invokeinterface 200 2, 20, false) ∧ NX10_ask 20 = some (.putstatic 0, 21, false) ∧ NX10_ask 21 = some (.istore 2, 22, false) ∧ NX10_ask 22 = some (.ret 1, 23, false)) ∧ (NX10_ask 23 = some (.istore 3, 24, false) ∧ NX10_ask 24 = some (.ret 0, 25, false) ∧ NX10_ask 25 = some (.istore 4, 27, false) ∧ NX10_ask 27 = some (.iload 4, 29, true) ∧ NX10_ask 29 = some (.aload 0, 30, false)) ∧ (NX10_ask 30 = some (.getfield 1001, 33, false) ∧ NX10_ask 33 = some (.if_icmp .ge 65, 36, false) ∧ NX10_ask 36 = some (.aload 0, 37, false) ∧ NX10_ask 37 = some (.iload 4, 39, false) ∧ NX10_ask 39 = some (.invokeinterface 201 2, 42, false)) ∧ (NX10_ask 42 = some (.istore 5, 44, false) ∧ NX10_ask 44 = some (.iload 5, 46, false) ∧ NX10_ask 46 = some (.iload 3, 47, false) ∧ NX10_ask 47 = some (.if_icmp .gt 53, 50, false) ∧ NX10_ask 50 = some (.goto 59, 53, false)) ∧ (NX10_ask 53 = some (.iload 5, 55, false) ∧ NX10_ask 55 = some (.istore 3, 56, false) ∧ NX10_ask 56 = some (.iload 4, 58, false) ∧ NX10_ask 58 = some (.istore 2, 59, false) ∧ NX10_ask 59 = some (.multianewarray 4 1, 62, false)) ∧ (NX10_ask 62 = some (.goto 27, 65, false) ∧ NX10_ask 65 = some (.iload 2, 66, false) ∧ NX10_ask 66 = some (.ireturn, 67, false)) := ⟨by decide +kernel, by decide +kernel, by decide +kernel, by decide +kernel, by decide +kernel, by decide +kernel, by decide +kernel, by decide +kernel⟩
def NX10_classOf : sm_NF := sm_nd TX10_ cX10_classOf 6 [6]
theorem n_X10_classOf : (NX10_classOf 0 = some (.ret 0, 1, false) ∧ NX10_classOf 1 = some (.istore 4, 3, false) ∧ NX10_classOf 3 = some (.ret 0, 4, false) ∧ NX10_classOf 4 = some (.istore 5, 6, false) ∧ NX10_classOf 6 = some (.iload 5, 8, true)) ∧ (NX10_classOf 8 = some (.aload 0, 9, false) ∧ NX10_classOf 9 = some (.getfield 1033, 12, false) ∧ NX10_classOf 12 = some (.if_icmp .ge 66, 15, false) ∧ NX10_classOf 15 = some (.iload 1, 16, false) ∧ NX10_classOf 16 = some (.iload 5, 18, false)) ∧ (NX10_classOf 18 = some (.ishr, 19, false) ∧ NX10_classOf 19 = some (.ret 1, 20, false) ∧ NX10_classOf 20 = some (.iand, 21, false) ∧ NX10_classOf 21 = some (.ret 1, 22, false) ∧ NX10_classOf 22 = some (.if_icmp .ne 60, 25, false)) ∧ (NX10_classOf 25 = some (.aload 0, 26, false) ∧ NX10_classOf 26 = some (.aload 0, 27, false) ∧ NX10_classOf 27 = some (.getfield 1032, 30, false) ∧ NX10_classOf 30 = some (.iload 5, 32, false) ∧ NX10_classOf 32 = some (.iaload, 33, false)) ∧ (NX10_classOf 33 = some (.iload 3, 34, false) ∧ NX10_classOf 34 = some (.invokeinterface 176 3, 37, false) ∧ NX10_classOf 37 = some (.aload 0, 38, false) ∧ NX10_classOf 38 = some (.aload 0, 39, false) ∧ NX10_classOf 39 = some (.getfield 1032, 42, false)) ∧ (NX10_classOf 42 = some (.iload 2, 43, false) ∧ NX10_classOf 43 = some (.iaload, 44, false) ∧ NX10_classOf 44 = some (.iload 3, 45, false) ∧ NX10_classOf 45 = some (.invokeinterface 176 3, 48, false) ∧ NX10_classOf 48 = some (.if_icmp .ne 60, 51, false)) ∧ (NX10_classOf 51 = some (.iload 4, 53, false) ∧ NX10_classOf 53 = some (.ret 1, 54, false) ∧ NX10_classOf 54 = some (.iload 5, 56, false) ∧ NX10_classOf 56 = some (.ishl, 57, false) ∧ NX10_classOf 57 = some (.ior, 58, false)) ∧ (NX10_classOf 58 = some (.istore 4, 60, false) ∧ NX10_classOf 60 = some (.multianewarray 5 1, 63, false) ∧ NX10_classOf 63 = some (.goto 6, 66, false) ∧ NX10_classOf 66 = some (.iload 4, 68, false) ∧ NX10_classOf 68 = some (.ireturn, 69, false)) := ⟨by decide +kernel, by decide +kernel, by decide +kernel, by decide +kernel, by decide +kernel, by decide +kernel, by decide +kernel, by decide +kernel⟩
def NX10_worst : sm_NF := sm_nd TX10_ cX10_worst 7 [8]
theorem n_X10_worst : (NX10_worst 0 = some (.ret 0, 1, false) ∧ NX10_worst 1 = some (.istore 3, 2, false) ∧ NX10_worst 2 = some (.iload 1, 3, false) ∧ NX10_worst 3 = some (.istore 4, 5, false) ∧ NX10_worst 5 = some (.ret 0, 6, false)) ∧ (NX10_worst 6 = some (.istore 5, 8, false) ∧ NX10_worst 8 = some (.iload 5, 10, true) ∧ NX10_worst 10 = some (.aload 0, 11, false) ∧ NX10_worst 11 = some (.getfield 1033, 14, false) ∧ NX10_worst 14 = some (.if_icmp .ge 86, 17, false)) ∧ (NX10_worst 17 = some (.iload 4, 19, false) ∧ NX10_worst 19 = some (.iload 5, 21, false) ∧ NX10_worst 21 = some (.ishr, 22, false) ∧ NX10_worst 22 = some (.ret 1, 23, false) ∧ NX10_worst 23 = some (.iand, 24, false)) ∧ (NX10_worst 24 = some (.ifCond .ne 30, 27, false) ∧ NX10_worst 27 = some (.goto 80, 30, false) ∧ NX10_worst 30 = some (.aload 0, 31, false) ∧ NX10_worst 31 = some (.iload 1, 32, false) ∧ NX10_worst 32 = some (.iload 5, 34, false)) ∧ (NX10_worst 34 = some (.iload 2, 35, false) ∧ NX10_worst 35 = some (.invokeinterface 204 4, 38, false) ∧ NX10_worst 38 = some (.istore 6, 40, false) ∧ NX10_worst 40 = some (.iload 6, 42, false) ∧ NX10_worst 42 = some (.iload 1, 43, false)) ∧ (NX10_worst 43 = some (.if_icmp .ne 48, 46, false) ∧ NX10_worst 46 = some (.putstatic 0, 47, false) ∧ NX10_worst 47 = some (.ireturn, 48, false) ∧ NX10_worst 48 = some (.iload 4, 50, false) ∧ NX10_worst 50 = some (.iload 6, 52, false)) ∧ (NX10_worst 52 = some (.putstatic 0, 53, false) ∧ NX10_worst 53 = some (.ixor, 54, false) ∧ NX10_worst 54 = some (.iand, 55, false) ∧ NX10_worst 55 = some (.istore 4, 57, false) ∧ NX10_worst 57 = some (.aload 0, 58, false)) ∧ (NX10_worst 58 = some (.getfield 1034, 61, false) ∧ NX10_worst 61 = some (.iload 6, 63, false) ∧ NX10_worst 63 = some (.iaload, 64, false) ∧ NX10_worst 64 = some (.iload 3, 65, false) ∧ NX10_worst 65 = some (.if_icmp .le 78, 68, false)) ∧ (NX10_worst 68 = some (.aload 0, 69, false) ∧ NX10_worst 69 = some (.getfield 1034, 72, false) ∧ NX10_worst 72 = some (.iload 6, 74, false) ∧ NX10_worst 74 = some (.iaload, 75, false) ∧ NX10_worst 75 = some (.goto 79, 78, false)) ∧ (NX10_worst 78 = some (.iload 3, 79, false) ∧ NX10_worst 79 = some (.istore 3, 80, false) ∧ NX10_worst 80 = some (.multianewarray 5 1, 83, false) ∧ NX10_worst 83 = some (.goto 8, 86, false) ∧ NX10_worst 86 = some (.iload 3, 87, false)) ∧ (NX10_worst 87 = some (.ireturn, 88, false)) := ⟨by decide +kernel, by decide +kernel, by decide +kernel, by decide +kernel, by decide +kernel, by decide +kernel, by decide +kernel, by decide +kernel, by decide +kernel, by decide +kernel, by decide +kernel⟩
def NX10_fewest : sm_NF := sm_nd TX10_ cX10_fewest 6 [41, 56]
theorem n_X10_fewest : (NX10_fewest 0 = some (.aload 0, 1, false) ∧ NX10_fewest 1 = some (.ret 0, 2, false) ∧ NX10_fewest 2 = some (.putfield 1000, 5, false) ∧ NX10_fewest 5 = some (.aload 0, 6, false) ∧ NX10_fewest 6 = some (.iload 1, 7, false)) ∧ (NX10_fewest 7 = some (.invokeinterface 168 2, 10, false) ∧ NX10_fewest 10 = some (.ifCond .ne 15, 13, false) ∧ NX10_fewest 13 = some (.putstatic 0, 14, false) ∧ NX10_fewest 14 = some (.ireturn, 15, false) ∧ NX10_fewest 15 = some (.aload 0, 16, false)) ∧ (NX10_fewest 16 = some (.iload 1, 17, false) ∧ NX10_fewest 17 = some (.invokeinterface 200 2, 20, false) ∧ NX10_fewest 20 = some (.aload 0, 21, false) ∧ NX10_fewest 21 = some (.getfield 1033, 24, false) ∧ NX10_fewest 24 = some (.ret 12, 26, false)) ∧ (NX10_fewest 26 = some (.if_icmp .le 32, 29, false) ∧ NX10_fewest 29 = some (.putstatic 1, 31, false) ∧ NX10_fewest 31 = some (.ireturn, 32, false) ∧ NX10_fewest 32 = some (.aload 0, 33, false) ∧ NX10_fewest 33 = some (.getfield 1034, 36, false)) ∧ (NX10_fewest 36 = some (.ret 0, 37, false) ∧ NX10_fewest 37 = some (.ret 0, 38, false) ∧ NX10_fewest 38 = some (.iastore, 39, false) ∧ NX10_fewest 39 = some (.ret 1, 40, false) ∧ NX10_fewest 40 = some (.istore 2, 41, false)) ∧ (NX10_fewest 41 = some (.iload 2, 42, true) ∧ NX10_fewest 42 = some (.ret 1, 43, false) ∧ NX10_fewest 43 = some (.aload 0, 44, false) ∧ NX10_fewest 44 = some (.getfield 1033, 47, false) ∧ NX10_fewest 47 = some (.ishl, 48, false)) ∧ (NX10_fewest 48 = some (.if_icmp .ge 115, 51, false) ∧ NX10_fewest 51 = some (.putstatic 0, 52, false) ∧ NX10_fewest 52 = some (.istore 3, 53, false) ∧ NX10_fewest 53 = some (.ret 0, 54, false) ∧ NX10_fewest 54 = some (.istore 4, 56, false)) ∧ (NX10_fewest 56 = some (.iload 4, 58, true) ∧ NX10_fewest 58 = some (.aload 0, 59, false) ∧ NX10_fewest 59 = some (.getfield 1001, 62, false) ∧ NX10_fewest 62 = some (.if_icmp .ge 100, 65, false) ∧ NX10_fewest 65 = some (.aload 0, 66, false)) ∧ (NX10_fewest 66 = some (.iload 2, 67, false) ∧ NX10_fewest 67 = some (.iload 4, 69, false) ∧ NX10_fewest 69 = some (.invokeinterface 205 3, 72, false) ∧ NX10_fewest 72 = some (.istore 5, 74, false) ∧ NX10_fewest 74 = some (.iload 5, 76, false)) ∧ (NX10_fewest 76 = some (.putstatic 0, 77, false) ∧ NX10_fewest 77 = some (.if_icmp .eq 94, 80, false) ∧ NX10_fewest 80 = some (.iload 3, 81, false) ∧ NX10_fewest 81 = some (.putstatic 0, 82, false) ∧ NX10_fewest 82 = some (.if_icmp .eq 91, 85, false)) ∧ (NX10_fewest 85 = some (.iload 5, 87, false) ∧ NX10_fewest 87 = some (.iload 3, 88, false) ∧ NX10_fewest 88 = some (.if_icmp .ge 94, 91, false) ∧ NX10_fewest 91 = some (.iload 5, 93, false) ∧ NX10_fewest 93 = some (.istore 3, 94, false)) ∧ (NX10_fewest 94 = some (.multianewarray 4 1, 97, false) ∧ NX10_fewest 97 = some (.goto 56, 100, false) ∧ NX10_fewest 100 = some (.aload 0, 101, false) ∧ NX10_fewest 101 = some (.getfield 1034, 104, false) ∧ NX10_fewest 104 = some (.iload 2, 105, false)) ∧ (NX10_fewest 105 = some (.iload 3, 106, false) ∧ NX10_fewest 106 = some (.ret 1, 107, false) ∧ NX10_fewest 107 = some (.iadd, 108, false) ∧ NX10_fewest 108 = some (.iastore, 109, false) ∧ NX10_fewest 109 = some (.multianewarray 2 1, 112, false)) ∧ (NX10_fewest 112 = some (.goto 41, 115, false) ∧ NX10_fewest 115 = some (.aload 0, 116, false) ∧ NX10_fewest 116 = some (.getfield 1034, 119, false) ∧ NX10_fewest 119 = some (.ret 1, 120, false) ∧ NX10_fewest 120 = some (.aload 0, 121, false)) ∧ (NX10_fewest 121 = some (.getfield 1033, 124, false) ∧ NX10_fewest 124 = some (.ishl, 125, false) ∧ NX10_fewest 125 = some (.ret 1, 126, false) ∧ NX10_fewest 126 = some (.isub, 127, false) ∧ NX10_fewest 127 = some (.iaload, 128, false)) ∧ (NX10_fewest 128 = some (.ireturn, 129, false)) := ⟨by decide +kernel, by decide +kernel, by decide +kernel, by decide +kernel, by decide +kernel, by decide +kernel, by decide +kernel, by decide +kernel, by decide +kernel, by decide +kernel, by decide +kernel, by decide +kernel, by decide +kernel, by decide +kernel, by decide +kernel, by decide +kernel⟩
def NX10_stands : sm_NF := sm_nd TX10_ cX10_stands 2 []
theorem n_X10_stands : (NX10_stands 0 = some (.iload 1, 1, false) ∧ NX10_stands 1 = some (.ret 0, 2, false) ∧ NX10_stands 2 = some (.aload 0, 3, false) ∧ NX10_stands 3 = some (.getfield 1035, 6, false) ∧ NX10_stands 6 = some (.ret 1, 7, false)) ∧ (NX10_stands 7 = some (.isub, 8, false) ∧ NX10_stands 8 = some (.invokeinterface 160 3, 11, false) ∧ NX10_stands 11 = some (.ifCond .eq 37, 14, false) ∧ NX10_stands 14 = some (.aload 0, 15, false) ∧ NX10_stands 15 = some (.getfield 1038, 18, false)) ∧ (NX10_stands 18 = some (.iload 1, 19, false) ∧ NX10_stands 19 = some (.iaload, 20, false) ∧ NX10_stands 20 = some (.ifCond .eq 33, 23, false) ∧ NX10_stands 23 = some (.aload 0, 24, false) ∧ NX10_stands 24 = some (.getfield 1038, 27, false)) ∧ (NX10_stands 27 = some (.iload 1, 28, false) ∧ NX10_stands 28 = some (.iaload, 29, false) ∧ NX10_stands 29 = some (.ret 1, 30, false) ∧ NX10_stands 30 = some (.if_icmp .ne 37, 33, false) ∧ NX10_stands 33 = some (.ret 1, 34, false)) ∧ (NX10_stands 34 = some (.goto 38, 37, false) ∧ NX10_stands 37 = some (.ret 0, 38, false) ∧ NX10_stands 38 = some (.ireturn, 39, false)) := ⟨by decide +kernel, by decide +kernel, by decide +kernel, by decide +kernel, by decide +kernel⟩
def NX10_standing : sm_NF := sm_nd TX10_ cX10_standing 4 [4]
theorem n_X10_standing : (NX10_standing 0 = some (.ret 0, 1, false) ∧ NX10_standing 1 = some (.istore 2, 2, false) ∧ NX10_standing 2 = some (.ret 0, 3, false) ∧ NX10_standing 3 = some (.istore 3, 4, false) ∧ NX10_standing 4 = some (.iload 3, 5, true)) ∧ (NX10_standing 5 = some (.aload 0, 6, false) ∧ NX10_standing 6 = some (.getfield 1035, 9, false) ∧ NX10_standing 9 = some (.if_icmp .ge 44, 12, false) ∧ NX10_standing 12 = some (.iload 2, 13, false) ∧ NX10_standing 13 = some (.aload 0, 14, false)) ∧ (NX10_standing 14 = some (.iload 3, 15, false) ∧ NX10_standing 15 = some (.invokeinterface 207 2, 18, false) ∧ NX10_standing 18 = some (.ifCond .eq 35, 21, false) ∧ NX10_standing 21 = some (.aload 0, 22, false) ∧ NX10_standing 22 = some (.getfield 1037, 25, false)) ∧ (NX10_standing 25 = some (.iload 3, 26, false) ∧ NX10_standing 26 = some (.iaload, 27, false) ∧ NX10_standing 27 = some (.iload 1, 28, false) ∧ NX10_standing 28 = some (.if_icmp .ne 35, 31, false) ∧ NX10_standing 31 = some (.ret 1, 32, false)) ∧ (NX10_standing 32 = some (.goto 36, 35, false) ∧ NX10_standing 35 = some (.ret 0, 36, false) ∧ NX10_standing 36 = some (.iadd, 37, false) ∧ NX10_standing 37 = some (.istore 2, 38, false) ∧ NX10_standing 38 = some (.multianewarray 3 1, 41, false)) ∧ (NX10_standing 41 = some (.goto 4, 44, false) ∧ NX10_standing 44 = some (.iload 2, 45, false) ∧ NX10_standing 45 = some (.ireturn, 46, false)) := ⟨by decide +kernel, by decide +kernel, by decide +kernel, by decide +kernel, by decide +kernel, by decide +kernel⟩
def NX10_claim : sm_NF := sm_nd TX10_ cX10_claim 4 [51]
theorem n_X10_claim : (NX10_claim 0 = some (.aload 0, 1, false) ∧ NX10_claim 1 = some (.ret 0, 2, false) ∧ NX10_claim 2 = some (.putfield 1000, 5, false) ∧ NX10_claim 5 = some (.aload 0, 6, false) ∧ NX10_claim 6 = some (.iload 1, 7, false)) ∧ (NX10_claim 7 = some (.invokeinterface 193 2, 10, false) ∧ NX10_claim 10 = some (.ifCond .ne 15, 13, false) ∧ NX10_claim 13 = some (.putstatic 0, 14, false) ∧ NX10_claim 14 = some (.ireturn, 15, false) ∧ NX10_claim 15 = some (.aload 0, 16, false)) ∧ (NX10_claim 16 = some (.iload 2, 17, false) ∧ NX10_claim 17 = some (.invokeinterface 167 2, 20, false) ∧ NX10_claim 20 = some (.ifCond .ne 26, 23, false) ∧ NX10_claim 23 = some (.putstatic 1, 25, false) ∧ NX10_claim 25 = some (.ireturn, 26, false)) ∧ (NX10_claim 26 = some (.aload 0, 27, false) ∧ NX10_claim 27 = some (.iload 2, 28, false) ∧ NX10_claim 28 = some (.invokeinterface 169 2, 31, false) ∧ NX10_claim 31 = some (.ifCond .eq 37, 34, false) ∧ NX10_claim 34 = some (.putstatic 2, 36, false)) ∧ (NX10_claim 36 = some (.ireturn, 37, false) ∧ NX10_claim 37 = some (.aload 0, 38, false) ∧ NX10_claim 38 = some (.iload 1, 39, false) ∧ NX10_claim 39 = some (.iload 2, 40, false) ∧ NX10_claim 40 = some (.invokeinterface 180 3, 43, false)) ∧ (NX10_claim 43 = some (.ifCond .ne 49, 46, false) ∧ NX10_claim 46 = some (.putstatic 3, 48, false) ∧ NX10_claim 48 = some (.ireturn, 49, false) ∧ NX10_claim 49 = some (.ret 0, 50, false) ∧ NX10_claim 50 = some (.istore 3, 51, false)) ∧ (NX10_claim 51 = some (.iload 3, 52, true) ∧ NX10_claim 52 = some (.aload 0, 53, false) ∧ NX10_claim 53 = some (.getfield 1035, 56, false) ∧ NX10_claim 56 = some (.if_icmp .ge 96, 59, false) ∧ NX10_claim 59 = some (.aload 0, 60, false)) ∧ (NX10_claim 60 = some (.iload 3, 61, false) ∧ NX10_claim 61 = some (.invokeinterface 207 2, 64, false) ∧ NX10_claim 64 = some (.ifCond .eq 90, 67, false) ∧ NX10_claim 67 = some (.aload 0, 68, false) ∧ NX10_claim 68 = some (.getfield 1036, 71, false)) ∧ (NX10_claim 71 = some (.iload 3, 72, false) ∧ NX10_claim 72 = some (.iaload, 73, false) ∧ NX10_claim 73 = some (.iload 1, 74, false) ∧ NX10_claim 74 = some (.if_icmp .ne 90, 77, false) ∧ NX10_claim 77 = some (.aload 0, 78, false)) ∧ (NX10_claim 78 = some (.getfield 1037, 81, false) ∧ NX10_claim 81 = some (.iload 3, 82, false) ∧ NX10_claim 82 = some (.iaload, 83, false) ∧ NX10_claim 83 = some (.iload 2, 84, false) ∧ NX10_claim 84 = some (.if_icmp .ne 90, 87, false)) ∧ (NX10_claim 87 = some (.putstatic 4, 89, false) ∧ NX10_claim 89 = some (.ireturn, 90, false) ∧ NX10_claim 90 = some (.multianewarray 3 1, 93, false) ∧ NX10_claim 93 = some (.goto 51, 96, false) ∧ NX10_claim 96 = some (.aload 0, 97, false)) ∧ (NX10_claim 97 = some (.getfield 1035, 100, false) ∧ NX10_claim 100 = some (.ret 100, 102, false) ∧ NX10_claim 102 = some (.if_icmp .ne 108, 105, false) ∧ NX10_claim 105 = some (.putstatic 5, 107, false) ∧ NX10_claim 107 = some (.ireturn, 108, false)) ∧ (NX10_claim 108 = some (.aload 0, 109, false) ∧ NX10_claim 109 = some (.getfield 1036, 112, false) ∧ NX10_claim 112 = some (.aload 0, 113, false) ∧ NX10_claim 113 = some (.getfield 1035, 116, false) ∧ NX10_claim 116 = some (.iload 1, 117, false)) ∧ (NX10_claim 117 = some (.iastore, 118, false) ∧ NX10_claim 118 = some (.aload 0, 119, false) ∧ NX10_claim 119 = some (.getfield 1037, 122, false) ∧ NX10_claim 122 = some (.aload 0, 123, false) ∧ NX10_claim 123 = some (.getfield 1035, 126, false)) ∧ (NX10_claim 126 = some (.iload 2, 127, false) ∧ NX10_claim 127 = some (.iastore, 128, false) ∧ NX10_claim 128 = some (.aload 0, 129, false) ∧ NX10_claim 129 = some (.getfield 1038, 132, false) ∧ NX10_claim 132 = some (.aload 0, 133, false)) ∧ (NX10_claim 133 = some (.getfield 1035, 136, false) ∧ NX10_claim 136 = some (.ret 0, 137, false) ∧ NX10_claim 137 = some (.iastore, 138, false) ∧ NX10_claim 138 = some (.aload 0, 139, false) ∧ NX10_claim 139 = some (.dup, 140, false)) ∧ (NX10_claim 140 = some (.getfield 1035, 143, false) ∧ NX10_claim 143 = some (.ret 1, 144, false) ∧ NX10_claim 144 = some (.iadd, 145, false) ∧ NX10_claim 145 = some (.putfield 1035, 148, false) ∧ NX10_claim 148 = some (.aload 0, 149, false)) ∧ (NX10_claim 149 = some (.getfield 1035, 152, false) ∧ NX10_claim 152 = some (.ret 1, 153, false) ∧ NX10_claim 153 = some (.isub, 154, false) ∧ NX10_claim 154 = some (.ireturn, 155, false)) := ⟨by decide +kernel, by decide +kernel, by decide +kernel, by decide +kernel, by decide +kernel, by decide +kernel, by decide +kernel, by decide +kernel, by decide +kernel, by decide +kernel, by decide +kernel, by decide +kernel, by decide +kernel, by decide +kernel, by decide +kernel, by decide +kernel, by decide +kernel, by decide +kernel⟩
def NX10_prove : sm_NF := sm_nd TX10_ cX10_prove 5 []
theorem n_X10_prove : (NX10_prove 0 = some (.aload 0, 1, false) ∧ NX10_prove 1 = some (.ret 0, 2, false) ∧ NX10_prove 2 = some (.putfield 1000, 5, false) ∧ NX10_prove 5 = some (.aload 0, 6, false) ∧ NX10_prove 6 = some (.iload 1, 7, false)) ∧ (NX10_prove 7 = some (.invokeinterface 207 2, 10, false) ∧ NX10_prove 10 = some (.ifCond .ne 15, 13, false) ∧ NX10_prove 13 = some (.ret 1, 14, false) ∧ NX10_prove 14 = some (.ireturn, 15, false) ∧ NX10_prove 15 = some (.aload 0, 16, false)) ∧ (NX10_prove 16 = some (.iload 2, 17, false) ∧ NX10_prove 17 = some (.invokeinterface 162 2, 20, false) ∧ NX10_prove 20 = some (.ifCond .ne 25, 23, false) ∧ NX10_prove 23 = some (.ret 2, 24, false) ∧ NX10_prove 24 = some (.ireturn, 25, false)) ∧ (NX10_prove 25 = some (.aload 0, 26, false) ∧ NX10_prove 26 = some (.ret 60, 28, false) ∧ NX10_prove 28 = some (.aload 0, 29, false) ∧ NX10_prove 29 = some (.getfield 1036, 32, false) ∧ NX10_prove 32 = some (.iload 1, 33, false)) ∧ (NX10_prove 33 = some (.iaload, 34, false) ∧ NX10_prove 34 = some (.iadd, 35, false) ∧ NX10_prove 35 = some (.iload 2, 36, false) ∧ NX10_prove 36 = some (.invokeinterface 176 3, 39, false) ∧ NX10_prove 39 = some (.putstatic 0, 40, false)) ∧ (NX10_prove 40 = some (.if_icmp .eq 45, 43, false) ∧ NX10_prove 43 = some (.ret 3, 44, false) ∧ NX10_prove 44 = some (.ireturn, 45, false) ∧ NX10_prove 45 = some (.aload 0, 46, false) ∧ NX10_prove 46 = some (.aload 0, 47, false)) ∧ (NX10_prove 47 = some (.getfield 1037, 50, false) ∧ NX10_prove 50 = some (.iload 1, 51, false) ∧ NX10_prove 51 = some (.iaload, 52, false) ∧ NX10_prove 52 = some (.iload 2, 53, false) ∧ NX10_prove 53 = some (.invokeinterface 176 3, 56, false)) ∧ (NX10_prove 56 = some (.istore 4, 58, false) ∧ NX10_prove 58 = some (.iload 4, 60, false) ∧ NX10_prove 60 = some (.putstatic 0, 61, false) ∧ NX10_prove 61 = some (.if_icmp .ne 66, 64, false) ∧ NX10_prove 64 = some (.ret 4, 65, false)) ∧ (NX10_prove 65 = some (.ireturn, 66, false) ∧ NX10_prove 66 = some (.aload 0, 67, false) ∧ NX10_prove 67 = some (.getfield 1038, 70, false) ∧ NX10_prove 70 = some (.iload 1, 71, false) ∧ NX10_prove 71 = some (.iload 4, 73, false)) ∧ (NX10_prove 73 = some (.iload 3, 74, false) ∧ NX10_prove 74 = some (.if_icmp .ne 81, 77, false) ∧ NX10_prove 77 = some (.ret 1, 78, false) ∧ NX10_prove 78 = some (.goto 82, 81, false) ∧ NX10_prove 81 = some (.ret 3, 82, false)) ∧ (NX10_prove 82 = some (.iastore, 83, false) ∧ NX10_prove 83 = some (.iload 4, 85, false) ∧ NX10_prove 85 = some (.iload 3, 86, false) ∧ NX10_prove 86 = some (.if_icmp .ne 93, 89, false) ∧ NX10_prove 89 = some (.ret 0, 90, false)) ∧ (NX10_prove 90 = some (.goto 94, 93, false) ∧ NX10_prove 93 = some (.ret 5, 94, false) ∧ NX10_prove 94 = some (.ireturn, 95, false)) := ⟨by decide +kernel, by decide +kernel, by decide +kernel, by decide +kernel, by decide +kernel, by decide +kernel, by decide +kernel, by decide +kernel, by decide +kernel, by decide +kernel, by decide +kernel, by decide +kernel⟩
def NX10_goesOut : sm_NF := sm_nd TX10_ cX10_goesOut 5 [61, 107]
theorem n_X10_goesOut : (NX10_goesOut 0 = some (.aload 0, 1, false) ∧ NX10_goesOut 1 = some (.getfield 1013, 4, false) ∧ NX10_goesOut 4 = some (.iload 1, 5, false) ∧ NX10_goesOut 5 = some (.ret 2, 6, false) ∧ NX10_goesOut 6 = some (.iastore, 7, false)) ∧ (NX10_goesOut 7 = some (.aload 0, 8, false) ∧ NX10_goesOut 8 = some (.getfield 1014, 11, false) ∧ NX10_goesOut 11 = some (.iload 1, 12, false) ∧ NX10_goesOut 12 = some (.putstatic 0, 13, false) ∧ NX10_goesOut 13 = some (.iastore, 14, false)) ∧ (NX10_goesOut 14 = some (.aload 0, 15, false) ∧ NX10_goesOut 15 = some (.getfield 1016, 18, false) ∧ NX10_goesOut 18 = some (.iload 1, 19, false) ∧ NX10_goesOut 19 = some (.iload 2, 20, false) ∧ NX10_goesOut 20 = some (.iastore, 21, false)) ∧ (NX10_goesOut 21 = some (.aload 0, 22, false) ∧ NX10_goesOut 22 = some (.getfield 1017, 25, false) ∧ NX10_goesOut 25 = some (.iload 1, 26, false) ∧ NX10_goesOut 26 = some (.aload 0, 27, false) ∧ NX10_goesOut 27 = some (.getfield 1022, 30, false)) ∧ (NX10_goesOut 30 = some (.iastore, 31, false) ∧ NX10_goesOut 31 = some (.aload 0, 32, false) ∧ NX10_goesOut 32 = some (.getfield 1018, 35, false) ∧ NX10_goesOut 35 = some (.iload 1, 36, false) ∧ NX10_goesOut 36 = some (.iload 3, 37, false)) ∧ (NX10_goesOut 37 = some (.iastore, 38, false) ∧ NX10_goesOut 38 = some (.aload 0, 39, false) ∧ NX10_goesOut 39 = some (.getfield 1040, 42, false) ∧ NX10_goesOut 42 = some (.aload 0, 43, false) ∧ NX10_goesOut 43 = some (.getfield 1041, 46, false)) ∧ (NX10_goesOut 46 = some (.iload 1, 47, false) ∧ NX10_goesOut 47 = some (.iastore, 48, false) ∧ NX10_goesOut 48 = some (.aload 0, 49, false) ∧ NX10_goesOut 49 = some (.dup, 50, false) ∧ NX10_goesOut 50 = some (.getfield 1041, 53, false)) ∧ (NX10_goesOut 53 = some (.ret 1, 54, false) ∧ NX10_goesOut 54 = some (.iadd, 55, false) ∧ NX10_goesOut 55 = some (.putfield 1041, 58, false) ∧ NX10_goesOut 58 = some (.ret 0, 59, false) ∧ NX10_goesOut 59 = some (.istore 4, 61, false)) ∧ (NX10_goesOut 61 = some (.iload 4, 63, true) ∧ NX10_goesOut 63 = some (.aload 0, 64, false) ∧ NX10_goesOut 64 = some (.getfield 1035, 67, false) ∧ NX10_goesOut 67 = some (.if_icmp .ge 104, 70, false) ∧ NX10_goesOut 70 = some (.aload 0, 71, false)) ∧ (NX10_goesOut 71 = some (.iload 4, 73, false) ∧ NX10_goesOut 73 = some (.invokeinterface 207 2, 76, false) ∧ NX10_goesOut 76 = some (.ifCond .eq 98, 79, false) ∧ NX10_goesOut 79 = some (.aload 0, 80, false) ∧ NX10_goesOut 80 = some (.getfield 1037, 83, false)) ∧ (NX10_goesOut 83 = some (.iload 4, 85, false) ∧ NX10_goesOut 85 = some (.iaload, 86, false) ∧ NX10_goesOut 86 = some (.iload 1, 87, false) ∧ NX10_goesOut 87 = some (.if_icmp .ne 98, 90, false) ∧ NX10_goesOut 90 = some (.aload 0, 91, false)) ∧ (NX10_goesOut 91 = some (.getfield 1038, 94, false) ∧ NX10_goesOut 94 = some (.iload 4, 96, false) ∧ NX10_goesOut 96 = some (.ret 5, 97, false) ∧ NX10_goesOut 97 = some (.iastore, 98, false) ∧ NX10_goesOut 98 = some (.multianewarray 4 1, 101, false)) ∧ (NX10_goesOut 101 = some (.goto 61, 104, false) ∧ NX10_goesOut 104 = some (.ret 0, 105, false) ∧ NX10_goesOut 105 = some (.istore 4, 107, false) ∧ NX10_goesOut 107 = some (.iload 4, 109, true) ∧ NX10_goesOut 109 = some (.aload 0, 110, false)) ∧ (NX10_goesOut 110 = some (.getfield 1008, 113, false) ∧ NX10_goesOut 113 = some (.if_icmp .ge 193, 116, false) ∧ NX10_goesOut 116 = some (.aload 0, 117, false) ∧ NX10_goesOut 117 = some (.getfield 1010, 120, false) ∧ NX10_goesOut 120 = some (.iload 1, 121, false)) ∧ (NX10_goesOut 121 = some (.iaload, 122, false) ∧ NX10_goesOut 122 = some (.ret 1, 123, false) ∧ NX10_goesOut 123 = some (.if_icmp .ne 193, 126, false) ∧ NX10_goesOut 126 = some (.aload 0, 127, false) ∧ NX10_goesOut 127 = some (.getfield 1013, 130, false)) ∧ (NX10_goesOut 130 = some (.iload 4, 132, false) ∧ NX10_goesOut 132 = some (.iaload, 133, false) ∧ NX10_goesOut 133 = some (.ret 1, 134, false) ∧ NX10_goesOut 134 = some (.if_icmp .ne 187, 137, false) ∧ NX10_goesOut 137 = some (.aload 0, 138, false)) ∧ (NX10_goesOut 138 = some (.getfield 1014, 141, false) ∧ NX10_goesOut 141 = some (.iload 4, 143, false) ∧ NX10_goesOut 143 = some (.iaload, 144, false) ∧ NX10_goesOut 144 = some (.iload 1, 145, false) ∧ NX10_goesOut 145 = some (.if_icmp .eq 151, 148, false)) ∧ (NX10_goesOut 148 = some (.goto 187, 151, false) ∧ NX10_goesOut 151 = some (.aload 0, 152, false) ∧ NX10_goesOut 152 = some (.iload 4, 154, false) ∧ NX10_goesOut 154 = some (.invokeinterface 208 2, 157, false) ∧ NX10_goesOut 157 = some (.ifCond .le 179, 160, false)) ∧ (NX10_goesOut 160 = some (.aload 0, 161, false) ∧ NX10_goesOut 161 = some (.getfield 1013, 164, false) ∧ NX10_goesOut 164 = some (.iload 4, 166, false) ∧ NX10_goesOut 166 = some (.ret 0, 167, false) ∧ NX10_goesOut 167 = some (.iastore, 168, false)) ∧ (NX10_goesOut 168 = some (.aload 0, 169, false) ∧ NX10_goesOut 169 = some (.getfield 1014, 172, false) ∧ NX10_goesOut 172 = some (.iload 4, 174, false) ∧ NX10_goesOut 174 = some (.putstatic 0, 175, false) ∧ NX10_goesOut 175 = some (.iastore, 176, false)) ∧ (NX10_goesOut 176 = some (.goto 187, 179, false) ∧ NX10_goesOut 179 = some (.aload 0, 180, false) ∧ NX10_goesOut 180 = some (.iload 4, 182, false) ∧ NX10_goesOut 182 = some (.iload 2, 183, false) ∧ NX10_goesOut 183 = some (.iload 3, 184, false)) ∧ (NX10_goesOut 184 = some (.invokeinterface 211 4, 187, false) ∧ NX10_goesOut 187 = some (.multianewarray 4 1, 190, false) ∧ NX10_goesOut 190 = some (.goto 107, 193, false) ∧ NX10_goesOut 193 = some (.return_, 194, false)) := ⟨by decide +kernel, by decide +kernel, by decide +kernel, by decide +kernel, by decide +kernel, by decide +kernel, by decide +kernel, by decide +kernel, by decide +kernel, by decide +kernel, by decide +kernel, by decide +kernel, by decide +kernel, by decide +kernel, by decide +kernel, by decide +kernel, by decide +kernel, by decide +kernel, by decide +kernel, by decide +kernel, by decide +kernel, by decide +kernel⟩
def NX10_withdrawAll : sm_NF := sm_nd TX10_ cX10_withdrawAll 3 [2]
theorem n_X10_withdrawAll : (NX10_withdrawAll 0 = some (.ret 0, 1, false) ∧ NX10_withdrawAll 1 = some (.istore 2, 2, false) ∧ NX10_withdrawAll 2 = some (.iload 2, 3, true) ∧ NX10_withdrawAll 3 = some (.aload 0, 4, false) ∧ NX10_withdrawAll 4 = some (.getfield 1035, 7, false)) ∧ (NX10_withdrawAll 7 = some (.if_icmp .ge 41, 10, false) ∧ NX10_withdrawAll 10 = some (.aload 0, 11, false) ∧ NX10_withdrawAll 11 = some (.iload 2, 12, false) ∧ NX10_withdrawAll 12 = some (.invokeinterface 207 2, 15, false) ∧ NX10_withdrawAll 15 = some (.ifCond .eq 35, 18, false)) ∧ (NX10_withdrawAll 18 = some (.aload 0, 19, false) ∧ NX10_withdrawAll 19 = some (.getfield 1036, 22, false) ∧ NX10_withdrawAll 22 = some (.iload 2, 23, false) ∧ NX10_withdrawAll 23 = some (.iaload, 24, false) ∧ NX10_withdrawAll 24 = some (.iload 1, 25, false)) ∧ (NX10_withdrawAll 25 = some (.if_icmp .ne 35, 28, false) ∧ NX10_withdrawAll 28 = some (.aload 0, 29, false) ∧ NX10_withdrawAll 29 = some (.getfield 1038, 32, false) ∧ NX10_withdrawAll 32 = some (.iload 2, 33, false) ∧ NX10_withdrawAll 33 = some (.ret 2, 34, false)) ∧ (NX10_withdrawAll 34 = some (.iastore, 35, false) ∧ NX10_withdrawAll 35 = some (.multianewarray 2 1, 38, false) ∧ NX10_withdrawAll 38 = some (.goto 2, 41, false) ∧ NX10_withdrawAll 41 = some (.return_, 42, false)) := ⟨by decide +kernel, by decide +kernel, by decide +kernel, by decide +kernel, by decide +kernel⟩
def NX10_give : sm_NF := sm_nd TX10_ cX10_give 5 [44]
theorem n_X10_give : (NX10_give 0 = some (.aload 0, 1, false) ∧ NX10_give 1 = some (.ret 0, 2, false) ∧ NX10_give 2 = some (.putfield 1000, 5, false) ∧ NX10_give 5 = some (.aload 0, 6, false) ∧ NX10_give 6 = some (.iload 1, 7, false)) ∧ (NX10_give 7 = some (.invokeinterface 207 2, 10, false) ∧ NX10_give 10 = some (.ifCond .ne 15, 13, false) ∧ NX10_give 13 = some (.ret 1, 14, false) ∧ NX10_give 14 = some (.ireturn, 15, false) ∧ NX10_give 15 = some (.aload 0, 16, false)) ∧ (NX10_give 16 = some (.getfield 1038, 19, false) ∧ NX10_give 19 = some (.iload 1, 20, false) ∧ NX10_give 20 = some (.iaload, 21, false) ∧ NX10_give 21 = some (.ret 1, 22, false) ∧ NX10_give 22 = some (.if_icmp .eq 27, 25, false)) ∧ (NX10_give 25 = some (.ret 2, 26, false) ∧ NX10_give 26 = some (.ireturn, 27, false) ∧ NX10_give 27 = some (.aload 0, 28, false) ∧ NX10_give 28 = some (.getfield 1037, 31, false) ∧ NX10_give 31 = some (.iload 1, 32, false)) ∧ (NX10_give 32 = some (.iaload, 33, false) ∧ NX10_give 33 = some (.istore 2, 34, false) ∧ NX10_give 34 = some (.aload 0, 35, false) ∧ NX10_give 35 = some (.getfield 1036, 38, false) ∧ NX10_give 38 = some (.iload 1, 39, false)) ∧ (NX10_give 39 = some (.iaload, 40, false) ∧ NX10_give 40 = some (.istore 3, 41, false) ∧ NX10_give 41 = some (.ret 0, 42, false) ∧ NX10_give 42 = some (.istore 4, 44, false) ∧ NX10_give 44 = some (.iload 4, 46, true)) ∧ (NX10_give 46 = some (.iload 1, 47, false) ∧ NX10_give 47 = some (.if_icmp .ge 80, 50, false) ∧ NX10_give 50 = some (.aload 0, 51, false) ∧ NX10_give 51 = some (.getfield 1037, 54, false) ∧ NX10_give 54 = some (.iload 4, 56, false)) ∧ (NX10_give 56 = some (.iaload, 57, false) ∧ NX10_give 57 = some (.iload 2, 58, false) ∧ NX10_give 58 = some (.if_icmp .ne 74, 61, false) ∧ NX10_give 61 = some (.aload 0, 62, false) ∧ NX10_give 62 = some (.getfield 1038, 65, false)) ∧ (NX10_give 65 = some (.iload 4, 67, false) ∧ NX10_give 67 = some (.iaload, 68, false) ∧ NX10_give 68 = some (.ret 1, 69, false) ∧ NX10_give 69 = some (.if_icmp .ne 74, 72, false) ∧ NX10_give 72 = some (.ret 3, 73, false)) ∧ (NX10_give 73 = some (.ireturn, 74, false) ∧ NX10_give 74 = some (.multianewarray 4 1, 77, false) ∧ NX10_give 77 = some (.goto 44, 80, false) ∧ NX10_give 80 = some (.aload 0, 81, false) ∧ NX10_give 81 = some (.iload 3, 82, false)) ∧ (NX10_give 82 = some (.iload 2, 83, false) ∧ NX10_give 83 = some (.invokeinterface 180 3, 86, false) ∧ NX10_give 86 = some (.ifCond .ne 91, 89, false) ∧ NX10_give 89 = some (.ret 4, 90, false) ∧ NX10_give 90 = some (.ireturn, 91, false)) ∧ (NX10_give 91 = some (.aload 0, 92, false) ∧ NX10_give 92 = some (.getfield 1010, 95, false) ∧ NX10_give 95 = some (.iload 2, 96, false) ∧ NX10_give 96 = some (.iaload, 97, false) ∧ NX10_give 97 = some (.ret 3, 98, false)) ∧ (NX10_give 98 = some (.if_icmp .ne 119, 101, false) ∧ NX10_give 101 = some (.aload 0, 102, false) ∧ NX10_give 102 = some (.getfield 1039, 105, false) ∧ NX10_give 105 = some (.iload 1, 106, false) ∧ NX10_give 106 = some (.baload, 107, false)) ∧ (NX10_give 107 = some (.ifCond .ne 119, 110, false) ∧ NX10_give 110 = some (.aload 0, 111, false) ∧ NX10_give 111 = some (.getfield 1039, 114, false) ∧ NX10_give 114 = some (.iload 1, 115, false) ∧ NX10_give 115 = some (.ret 1, 116, false)) ∧ (NX10_give 116 = some (.bastore, 117, false) ∧ NX10_give 117 = some (.ret 5, 118, false) ∧ NX10_give 118 = some (.ireturn, 119, false) ∧ NX10_give 119 = some (.aload 0, 120, false) ∧ NX10_give 120 = some (.getfield 1038, 123, false)) ∧ (NX10_give 123 = some (.iload 1, 124, false) ∧ NX10_give 124 = some (.ret 4, 125, false) ∧ NX10_give 125 = some (.iastore, 126, false) ∧ NX10_give 126 = some (.aload 0, 127, false) ∧ NX10_give 127 = some (.getfield 1020, 130, false)) ∧ (NX10_give 130 = some (.iload 3, 131, false) ∧ NX10_give 131 = some (.ret 1, 132, false) ∧ NX10_give 132 = some (.bastore, 133, false) ∧ NX10_give 133 = some (.aload 0, 134, false) ∧ NX10_give 134 = some (.iload 3, 135, false)) ∧ (NX10_give 135 = some (.invokeinterface 212 2, 138, false) ∧ NX10_give 138 = some (.aload 0, 139, false) ∧ NX10_give 139 = some (.iload 2, 140, false) ∧ NX10_give 140 = some (.aload 0, 141, false) ∧ NX10_give 141 = some (.getfield 1019, 144, false)) ∧ (NX10_give 144 = some (.iload 3, 145, false) ∧ NX10_give 145 = some (.iaload, 146, false) ∧ NX10_give 146 = some (.ret 1, 147, false) ∧ NX10_give 147 = some (.invokeinterface 211 4, 150, false) ∧ NX10_give 150 = some (.ret 0, 151, false)) ∧ (NX10_give 151 = some (.ireturn, 152, false)) := ⟨by decide +kernel, by decide +kernel, by decide +kernel, by decide +kernel, by decide +kernel, by decide +kernel, by decide +kernel, by decide +kernel, by decide +kernel, by decide +kernel, by decide +kernel, by decide +kernel, by decide +kernel, by decide +kernel, by decide +kernel, by decide +kernel, by decide +kernel, by decide +kernel, by decide +kernel, by decide +kernel⟩
def NX10_withdraw : sm_NF := sm_nd TX10_ cX10_withdraw 2 []
theorem n_X10_withdraw : (NX10_withdraw 0 = some (.aload 0, 1, false) ∧ NX10_withdraw 1 = some (.ret 0, 2, false) ∧ NX10_withdraw 2 = some (.putfield 1000, 5, false) ∧ NX10_withdraw 5 = some (.aload 0, 6, false) ∧ NX10_withdraw 6 = some (.iload 1, 7, false)) ∧ (NX10_withdraw 7 = some (.invokeinterface 207 2, 10, false) ∧ NX10_withdraw 10 = some (.ifCond .ne 15, 13, false) ∧ NX10_withdraw 13 = some (.ret 0, 14, false) ∧ NX10_withdraw 14 = some (.ireturn, 15, false) ∧ NX10_withdraw 15 = some (.aload 0, 16, false)) ∧ (NX10_withdraw 16 = some (.getfield 1038, 19, false) ∧ NX10_withdraw 19 = some (.iload 1, 20, false) ∧ NX10_withdraw 20 = some (.ret 2, 21, false) ∧ NX10_withdraw 21 = some (.iastore, 22, false) ∧ NX10_withdraw 22 = some (.ret 1, 23, false)) ∧ (NX10_withdraw 23 = some (.ireturn, 24, false)) := ⟨by decide +kernel, by decide +kernel, by decide +kernel, by decide +kernel⟩
def NX10_close : sm_NF := sm_nd TX10_ cX10_close 2 []
theorem n_X10_close : (NX10_close 0 = some (.aload 0, 1, false) ∧ NX10_close 1 = some (.ret 0, 2, false) ∧ NX10_close 2 = some (.putfield 1000, 5, false) ∧ NX10_close 5 = some (.aload 0, 6, false) ∧ NX10_close 6 = some (.iload 1, 7, false)) ∧ (NX10_close 7 = some (.invokeinterface 193 2, 10, false) ∧ NX10_close 10 = some (.ifCond .ne 15, 13, false) ∧ NX10_close 13 = some (.ret 0, 14, false) ∧ NX10_close 14 = some (.ireturn, 15, false) ∧ NX10_close 15 = some (.aload 0, 16, false)) ∧ (NX10_close 16 = some (.getfield 1020, 19, false) ∧ NX10_close 19 = some (.iload 1, 20, false) ∧ NX10_close 20 = some (.ret 1, 21, false) ∧ NX10_close 21 = some (.bastore, 22, false) ∧ NX10_close 22 = some (.aload 0, 23, false)) ∧ (NX10_close 23 = some (.iload 1, 24, false) ∧ NX10_close 24 = some (.invokeinterface 212 2, 27, false) ∧ NX10_close 27 = some (.ret 1, 28, false) ∧ NX10_close 28 = some (.ireturn, 29, false)) := ⟨by decide +kernel, by decide +kernel, by decide +kernel, by decide +kernel⟩
def NX10_claimed : sm_NF := sm_nd TX10_ cX10_claimed 3 []
theorem n_X10_claimed : (NX10_claimed 0 = some (.aload 0, 1, false) ∧ NX10_claimed 1 = some (.iload 1, 2, false) ∧ NX10_claimed 2 = some (.ret 0, 3, false) ∧ NX10_claimed 3 = some (.aload 0, 4, false) ∧ NX10_claimed 4 = some (.getfield 1035, 7, false)) ∧ (NX10_claimed 7 = some (.ret 1, 8, false) ∧ NX10_claimed 8 = some (.isub, 9, false) ∧ NX10_claimed 9 = some (.invokeinterface 160 3, 12, false) ∧ NX10_claimed 12 = some (.ifCond .eq 28, 15, false) ∧ NX10_claimed 15 = some (.iload 2, 16, false)) ∧ (NX10_claimed 16 = some (.ret 0, 17, false) ∧ NX10_claimed 17 = some (.ret 2, 18, false) ∧ NX10_claimed 18 = some (.invokeinterface 160 3, 21, false) ∧ NX10_claimed 21 = some (.ifCond .eq 28, 24, false) ∧ NX10_claimed 24 = some (.ret 0, 25, false)) ∧ (NX10_claimed 25 = some (.goto 29, 28, false) ∧ NX10_claimed 28 = some (.ret 1, 29, false) ∧ NX10_claimed 29 = some (.putfield 1000, 32, false) ∧ NX10_claimed 32 = some (.aload 0, 33, false) ∧ NX10_claimed 33 = some (.getfield 1000, 36, false)) ∧ (NX10_claimed 36 = some (.ifCond .le 41, 39, false) ∧ NX10_claimed 39 = some (.ret 0, 40, false) ∧ NX10_claimed 40 = some (.ireturn, 41, false) ∧ NX10_claimed 41 = some (.iload 2, 42, false) ∧ NX10_claimed 42 = some (.ifCond .ne 54, 45, false)) ∧ (NX10_claimed 45 = some (.aload 0, 46, false) ∧ NX10_claimed 46 = some (.getfield 1038, 49, false) ∧ NX10_claimed 49 = some (.iload 1, 50, false) ∧ NX10_claimed 50 = some (.iaload, 51, false) ∧ NX10_claimed 51 = some (.goto 74, 54, false)) ∧ (NX10_claimed 54 = some (.iload 2, 55, false) ∧ NX10_claimed 55 = some (.ret 1, 56, false) ∧ NX10_claimed 56 = some (.if_icmp .ne 68, 59, false) ∧ NX10_claimed 59 = some (.aload 0, 60, false) ∧ NX10_claimed 60 = some (.getfield 1036, 63, false)) ∧ (NX10_claimed 63 = some (.iload 1, 64, false) ∧ NX10_claimed 64 = some (.iaload, 65, false) ∧ NX10_claimed 65 = some (.goto 74, 68, false) ∧ NX10_claimed 68 = some (.aload 0, 69, false) ∧ NX10_claimed 69 = some (.getfield 1037, 72, false)) ∧ (NX10_claimed 72 = some (.iload 1, 73, false) ∧ NX10_claimed 73 = some (.iaload, 74, false) ∧ NX10_claimed 74 = some (.ireturn, 75, false)) := ⟨by decide +kernel, by decide +kernel, by decide +kernel, by decide +kernel, by decide +kernel, by decide +kernel, by decide +kernel, by decide +kernel, by decide +kernel⟩
def NX10_into : sm_NF := sm_nd TX10_ cX10_into 4 [38]
theorem n_X10_into : (NX10_into 0 = some (.aload 0, 1, false) ∧ NX10_into 1 = some (.ret 0, 2, false) ∧ NX10_into 2 = some (.putfield 1000, 5, false) ∧ NX10_into 5 = some (.aload 0, 6, false) ∧ NX10_into 6 = some (.iload 1, 7, false)) ∧ (NX10_into 7 = some (.invokeinterface 167 2, 10, false) ∧ NX10_into 10 = some (.ifCond .eq 34, 13, false) ∧ NX10_into 13 = some (.aload 0, 14, false) ∧ NX10_into 14 = some (.iload 1, 15, false) ∧ NX10_into 15 = some (.invokeinterface 169 2, 18, false)) ∧ (NX10_into 18 = some (.ifCond .ne 34, 21, false) ∧ NX10_into 21 = some (.iload 2, 22, false) ∧ NX10_into 22 = some (.putstatic 0, 23, false) ∧ NX10_into 23 = some (.if_icmp .eq 36, 26, false) ∧ NX10_into 26 = some (.aload 0, 27, false)) ∧ (NX10_into 27 = some (.iload 2, 28, false) ∧ NX10_into 28 = some (.invokeinterface 170 2, 31, false) ∧ NX10_into 31 = some (.ifCond .ne 36, 34, false) ∧ NX10_into 34 = some (.ret 0, 35, false) ∧ NX10_into 35 = some (.ireturn, 36, false)) ∧ (NX10_into 36 = some (.iload 2, 37, false) ∧ NX10_into 37 = some (.istore 3, 38, false) ∧ NX10_into 38 = some (.iload 3, 39, true) ∧ NX10_into 39 = some (.putstatic 0, 40, false) ∧ NX10_into 40 = some (.if_icmp .eq 60, 43, false)) ∧ (NX10_into 43 = some (.iload 3, 44, false) ∧ NX10_into 44 = some (.iload 1, 45, false) ∧ NX10_into 45 = some (.if_icmp .ne 50, 48, false) ∧ NX10_into 48 = some (.ret 0, 49, false) ∧ NX10_into 49 = some (.ireturn, 50, false)) ∧ (NX10_into 50 = some (.aload 0, 51, false) ∧ NX10_into 51 = some (.getfield 1014, 54, false) ∧ NX10_into 54 = some (.iload 3, 55, false) ∧ NX10_into 55 = some (.iaload, 56, false) ∧ NX10_into 56 = some (.istore 3, 57, false)) ∧ (NX10_into 57 = some (.goto 38, 60, false) ∧ NX10_into 60 = some (.aload 0, 61, false) ∧ NX10_into 61 = some (.getfield 1013, 64, false) ∧ NX10_into 64 = some (.iload 1, 65, false) ∧ NX10_into 65 = some (.iload 2, 66, false)) ∧ (NX10_into 66 = some (.putstatic 0, 67, false) ∧ NX10_into 67 = some (.if_icmp .ne 74, 70, false) ∧ NX10_into 70 = some (.ret 0, 71, false) ∧ NX10_into 71 = some (.goto 75, 74, false) ∧ NX10_into 74 = some (.ret 1, 75, false)) ∧ (NX10_into 75 = some (.iastore, 76, false) ∧ NX10_into 76 = some (.aload 0, 77, false) ∧ NX10_into 77 = some (.getfield 1014, 80, false) ∧ NX10_into 80 = some (.iload 1, 81, false) ∧ NX10_into 81 = some (.iload 2, 82, false)) ∧ (NX10_into 82 = some (.iastore, 83, false) ∧ NX10_into 83 = some (.ret 1, 84, false) ∧ NX10_into 84 = some (.ireturn, 85, false)) := ⟨by decide +kernel, by decide +kernel, by decide +kernel, by decide +kernel, by decide +kernel, by decide +kernel, by decide +kernel, by decide +kernel, by decide +kernel, by decide +kernel, by decide +kernel⟩
def NX10_inside : sm_NF := sm_nd TX10_ cX10_inside 4 [4]
theorem n_X10_inside : (NX10_inside 0 = some (.ret 0, 1, false) ∧ NX10_inside 1 = some (.istore 2, 2, false) ∧ NX10_inside 2 = some (.ret 0, 3, false) ∧ NX10_inside 3 = some (.istore 3, 4, false) ∧ NX10_inside 4 = some (.iload 3, 5, true)) ∧ (NX10_inside 5 = some (.aload 0, 6, false) ∧ NX10_inside 6 = some (.getfield 1008, 9, false) ∧ NX10_inside 9 = some (.if_icmp .ge 46, 12, false) ∧ NX10_inside 12 = some (.iload 2, 13, false) ∧ NX10_inside 13 = some (.aload 0, 14, false)) ∧ (NX10_inside 14 = some (.getfield 1013, 17, false) ∧ NX10_inside 17 = some (.iload 3, 18, false) ∧ NX10_inside 18 = some (.iaload, 19, false) ∧ NX10_inside 19 = some (.ret 1, 20, false) ∧ NX10_inside 20 = some (.if_icmp .ne 37, 23, false)) ∧ (NX10_inside 23 = some (.aload 0, 24, false) ∧ NX10_inside 24 = some (.getfield 1014, 27, false) ∧ NX10_inside 27 = some (.iload 3, 28, false) ∧ NX10_inside 28 = some (.iaload, 29, false) ∧ NX10_inside 29 = some (.iload 1, 30, false)) ∧ (NX10_inside 30 = some (.if_icmp .ne 37, 33, false) ∧ NX10_inside 33 = some (.ret 1, 34, false) ∧ NX10_inside 34 = some (.goto 38, 37, false) ∧ NX10_inside 37 = some (.ret 0, 38, false) ∧ NX10_inside 38 = some (.iadd, 39, false)) ∧ (NX10_inside 39 = some (.istore 2, 40, false) ∧ NX10_inside 40 = some (.multianewarray 3 1, 43, false) ∧ NX10_inside 43 = some (.goto 4, 46, false) ∧ NX10_inside 46 = some (.iload 2, 47, false) ∧ NX10_inside 47 = some (.ireturn, 48, false)) := ⟨by decide +kernel, by decide +kernel, by decide +kernel, by decide +kernel, by decide +kernel, by decide +kernel⟩
def NX10_place : sm_NF := sm_nd TX10_ cX10_place 3 []
theorem n_X10_place : (NX10_place 0 = some (.aload 0, 1, false) ∧ NX10_place 1 = some (.aload 0, 2, false) ∧ NX10_place 2 = some (.iload 1, 3, false) ∧ NX10_place 3 = some (.invokeinterface 167 2, 6, false) ∧ NX10_place 6 = some (.ifCond .eq 23, 9, false)) ∧ (NX10_place 9 = some (.iload 2, 10, false) ∧ NX10_place 10 = some (.ret 0, 11, false) ∧ NX10_place 11 = some (.ret 9, 13, false) ∧ NX10_place 13 = some (.invokeinterface 160 3, 16, false) ∧ NX10_place 16 = some (.ifCond .eq 23, 19, false)) ∧ (NX10_place 19 = some (.ret 0, 20, false) ∧ NX10_place 20 = some (.goto 24, 23, false) ∧ NX10_place 23 = some (.ret 1, 24, false) ∧ NX10_place 24 = some (.putfield 1000, 27, false) ∧ NX10_place 27 = some (.aload 0, 28, false)) ∧ (NX10_place 28 = some (.getfield 1000, 31, false) ∧ NX10_place 31 = some (.ifCond .le 36, 34, false) ∧ NX10_place 34 = some (.ret 0, 35, false) ∧ NX10_place 35 = some (.ireturn, 36, false) ∧ NX10_place 36 = some (.iload 2, 37, false)) ∧ (NX10_place 37 = some (.tableswitch 186 0 8 #[88, 95, 102, 109, 116, 123, 142, 161, 180], 88, false) ∧ NX10_place 88 = some (.aload 0, 89, false) ∧ NX10_place 89 = some (.getfield 1013, 92, false) ∧ NX10_place 92 = some (.iload 1, 93, false) ∧ NX10_place 93 = some (.iaload, 94, false)) ∧ (NX10_place 94 = some (.ireturn, 95, false) ∧ NX10_place 95 = some (.aload 0, 96, false) ∧ NX10_place 96 = some (.getfield 1014, 99, false) ∧ NX10_place 99 = some (.iload 1, 100, false) ∧ NX10_place 100 = some (.iaload, 101, false)) ∧ (NX10_place 101 = some (.ireturn, 102, false) ∧ NX10_place 102 = some (.aload 0, 103, false) ∧ NX10_place 103 = some (.getfield 1015, 106, false) ∧ NX10_place 106 = some (.iload 1, 107, false) ∧ NX10_place 107 = some (.iaload, 108, false)) ∧ (NX10_place 108 = some (.ireturn, 109, false) ∧ NX10_place 109 = some (.aload 0, 110, false) ∧ NX10_place 110 = some (.getfield 1010, 113, false) ∧ NX10_place 113 = some (.iload 1, 114, false) ∧ NX10_place 114 = some (.iaload, 115, false)) ∧ (NX10_place 115 = some (.ireturn, 116, false) ∧ NX10_place 116 = some (.aload 0, 117, false) ∧ NX10_place 117 = some (.getfield 1011, 120, false) ∧ NX10_place 120 = some (.iload 1, 121, false) ∧ NX10_place 121 = some (.iaload, 122, false)) ∧ (NX10_place 122 = some (.ireturn, 123, false) ∧ NX10_place 123 = some (.aload 0, 124, false) ∧ NX10_place 124 = some (.iload 1, 125, false) ∧ NX10_place 125 = some (.invokeinterface 169 2, 128, false) ∧ NX10_place 128 = some (.ifCond .eq 140, 131, false)) ∧ (NX10_place 131 = some (.aload 0, 132, false) ∧ NX10_place 132 = some (.getfield 1016, 135, false) ∧ NX10_place 135 = some (.iload 1, 136, false) ∧ NX10_place 136 = some (.iaload, 137, false) ∧ NX10_place 137 = some (.goto 141, 140, false)) ∧ (NX10_place 140 = some (.putstatic 0, 141, false) ∧ NX10_place 141 = some (.ireturn, 142, false) ∧ NX10_place 142 = some (.aload 0, 143, false) ∧ NX10_place 143 = some (.iload 1, 144, false) ∧ NX10_place 144 = some (.invokeinterface 169 2, 147, false)) ∧ (NX10_place 147 = some (.ifCond .eq 159, 150, false) ∧ NX10_place 150 = some (.aload 0, 151, false) ∧ NX10_place 151 = some (.getfield 1017, 154, false) ∧ NX10_place 154 = some (.iload 1, 155, false) ∧ NX10_place 155 = some (.iaload, 156, false)) ∧ (NX10_place 156 = some (.goto 160, 159, false) ∧ NX10_place 159 = some (.putstatic 0, 160, false) ∧ NX10_place 160 = some (.ireturn, 161, false) ∧ NX10_place 161 = some (.aload 0, 162, false) ∧ NX10_place 162 = some (.iload 1, 163, false)) ∧ (NX10_place 163 = some (.invokeinterface 169 2, 166, false) ∧ NX10_place 166 = some (.ifCond .eq 178, 169, false) ∧ NX10_place 169 = some (.aload 0, 170, false) ∧ NX10_place 170 = some (.getfield 1018, 173, false) ∧ NX10_place 173 = some (.iload 1, 174, false)) ∧ (NX10_place 174 = some (.iaload, 175, false) ∧ NX10_place 175 = some (.goto 179, 178, false) ∧ NX10_place 178 = some (.putstatic 0, 179, false) ∧ NX10_place 179 = some (.ireturn, 180, false) ∧ NX10_place 180 = some (.aload 0, 181, false)) ∧ (NX10_place 181 = some (.iload 1, 182, false) ∧ NX10_place 182 = some (.invokeinterface 218 2, 185, false) ∧ NX10_place 185 = some (.ireturn, 186, false) ∧ NX10_place 186 = some (.aload 0, 187, false) ∧ NX10_place 187 = some (.iload 1, 188, false)) ∧ (NX10_place 188 = some (.invokeinterface 208 2, 191, false) ∧ NX10_place 191 = some (.ireturn, 192, false)) := ⟨by decide +kernel, by decide +kernel, by decide +kernel, by decide +kernel, by decide +kernel, by decide +kernel, by decide +kernel, by decide +kernel, by decide +kernel, by decide +kernel, by decide +kernel, by decide +kernel, by decide +kernel, by decide +kernel, by decide +kernel, by decide +kernel, by decide +kernel, by decide +kernel⟩
def NX10_days : sm_NF := sm_nd TX10_ cX10_days 3 []
theorem n_X10_days : (NX10_days 0 = some (.aload 0, 1, false) ∧ NX10_days 1 = some (.ret 0, 2, false) ∧ NX10_days 2 = some (.putfield 1000, 5, false) ∧ NX10_days 5 = some (.iload 1, 6, false) ∧ NX10_days 6 = some (.ret 0, 7, false)) ∧ (NX10_days 7 = some (.ret 5, 8, false) ∧ NX10_days 8 = some (.invokeinterface 160 3, 11, false) ∧ NX10_days 11 = some (.ifCond .eq 25, 14, false) ∧ NX10_days 14 = some (.iload 2, 15, false) ∧ NX10_days 15 = some (.ret 1, 16, false)) ∧ (NX10_days 16 = some (.ret 1000, 19, false) ∧ NX10_days 19 = some (.invokeinterface 160 3, 22, false) ∧ NX10_days 22 = some (.ifCond .ne 27, 25, false) ∧ NX10_days 25 = some (.ret 0, 26, false) ∧ NX10_days 26 = some (.ireturn, 27, false)) ∧ (NX10_days 27 = some (.aload 0, 28, false) ∧ NX10_days 28 = some (.getfield 1021, 31, false) ∧ NX10_days 31 = some (.iload 1, 32, false) ∧ NX10_days 32 = some (.iload 2, 33, false) ∧ NX10_days 33 = some (.iastore, 34, false)) ∧ (NX10_days 34 = some (.ret 1, 35, false) ∧ NX10_days 35 = some (.ireturn, 36, false)) := ⟨by decide +kernel, by decide +kernel, by decide +kernel, by decide +kernel, by decide +kernel⟩
def NX10_oneDay : sm_NF := sm_nd TX10_ cX10_oneDay 2 [12]
theorem n_X10_oneDay : (NX10_oneDay 0 = some (.aload 0, 1, false) ∧ NX10_oneDay 1 = some (.dup, 2, false) ∧ NX10_oneDay 2 = some (.getfield 1022, 5, false) ∧ NX10_oneDay 5 = some (.ret 1, 6, false) ∧ NX10_oneDay 6 = some (.iadd, 7, false)) ∧ (NX10_oneDay 7 = some (.putfield 1022, 10, false) ∧ NX10_oneDay 10 = some (.ret 0, 11, false) ∧ NX10_oneDay 11 = some (.istore 1, 12, false) ∧ NX10_oneDay 12 = some (.iload 1, 13, true) ∧ NX10_oneDay 13 = some (.aload 0, 14, false)) ∧ (NX10_oneDay 14 = some (.getfield 1008, 17, false) ∧ NX10_oneDay 17 = some (.if_icmp .ge 133, 20, false) ∧ NX10_oneDay 20 = some (.aload 0, 21, false) ∧ NX10_oneDay 21 = some (.getfield 1013, 24, false) ∧ NX10_oneDay 24 = some (.iload 1, 25, false)) ∧ (NX10_oneDay 25 = some (.iaload, 26, false) ∧ NX10_oneDay 26 = some (.ifCond .ne 127, 29, false) ∧ NX10_oneDay 29 = some (.aload 0, 30, false) ∧ NX10_oneDay 30 = some (.iload 1, 31, false) ∧ NX10_oneDay 31 = some (.invokeinterface 208 2, 34, false)) ∧ (NX10_oneDay 34 = some (.ifCond .le 40, 37, false) ∧ NX10_oneDay 37 = some (.goto 127, 40, false) ∧ NX10_oneDay 40 = some (.aload 0, 41, false) ∧ NX10_oneDay 41 = some (.getfield 1015, 44, false) ∧ NX10_oneDay 44 = some (.iload 1, 45, false)) ∧ (NX10_oneDay 45 = some (.dup2, 46, false) ∧ NX10_oneDay 46 = some (.iaload, 47, false) ∧ NX10_oneDay 47 = some (.ret 1, 48, false) ∧ NX10_oneDay 48 = some (.iadd, 49, false) ∧ NX10_oneDay 49 = some (.iastore, 50, false)) ∧ (NX10_oneDay 50 = some (.aload 0, 51, false) ∧ NX10_oneDay 51 = some (.getfield 1015, 54, false) ∧ NX10_oneDay 54 = some (.iload 1, 55, false) ∧ NX10_oneDay 55 = some (.iaload, 56, false) ∧ NX10_oneDay 56 = some (.aload 0, 57, false)) ∧ (NX10_oneDay 57 = some (.getfield 1021, 60, false) ∧ NX10_oneDay 60 = some (.aload 0, 61, false) ∧ NX10_oneDay 61 = some (.getfield 1010, 64, false) ∧ NX10_oneDay 64 = some (.iload 1, 65, false) ∧ NX10_oneDay 65 = some (.iaload, 66, false)) ∧ (NX10_oneDay 66 = some (.iaload, 67, false) ∧ NX10_oneDay 67 = some (.if_icmp .ge 73, 70, false) ∧ NX10_oneDay 70 = some (.goto 127, 73, false) ∧ NX10_oneDay 73 = some (.aload 0, 74, false) ∧ NX10_oneDay 74 = some (.getfield 1011, 77, false)) ∧ (NX10_oneDay 77 = some (.iload 1, 78, false) ∧ NX10_oneDay 78 = some (.iaload, 79, false) ∧ NX10_oneDay 79 = some (.ifCond .le 106, 82, false) ∧ NX10_oneDay 82 = some (.aload 0, 83, false) ∧ NX10_oneDay 83 = some (.getfield 1012, 86, false)) ∧ (NX10_oneDay 86 = some (.iload 1, 87, false) ∧ NX10_oneDay 87 = some (.baload, 88, false) ∧ NX10_oneDay 88 = some (.ifCond .eq 106, 91, false) ∧ NX10_oneDay 91 = some (.aload 0, 92, false) ∧ NX10_oneDay 92 = some (.iload 1, 93, false)) ∧ (NX10_oneDay 93 = some (.aload 0, 94, false) ∧ NX10_oneDay 94 = some (.getfield 1011, 97, false) ∧ NX10_oneDay 97 = some (.iload 1, 98, false) ∧ NX10_oneDay 98 = some (.iaload, 99, false) ∧ NX10_oneDay 99 = some (.ret 2, 100, false)) ∧ (NX10_oneDay 100 = some (.invokeinterface 211 4, 103, false) ∧ NX10_oneDay 103 = some (.goto 127, 106, false) ∧ NX10_oneDay 106 = some (.aload 0, 107, false) ∧ NX10_oneDay 107 = some (.iload 1, 108, false) ∧ NX10_oneDay 108 = some (.ret 0, 109, false)) ∧ (NX10_oneDay 109 = some (.aload 0, 110, false) ∧ NX10_oneDay 110 = some (.getfield 1010, 113, false) ∧ NX10_oneDay 113 = some (.iload 1, 114, false) ∧ NX10_oneDay 114 = some (.iaload, 115, false) ∧ NX10_oneDay 115 = some (.ret 4, 116, false)) ∧ (NX10_oneDay 116 = some (.if_icmp .ne 123, 119, false) ∧ NX10_oneDay 119 = some (.ret 3, 120, false) ∧ NX10_oneDay 120 = some (.goto 124, 123, false) ∧ NX10_oneDay 123 = some (.ret 4, 124, false) ∧ NX10_oneDay 124 = some (.invokeinterface 211 4, 127, false)) ∧ (NX10_oneDay 127 = some (.multianewarray 1 1, 130, false) ∧ NX10_oneDay 130 = some (.goto 12, 133, false) ∧ NX10_oneDay 133 = some (.return_, 134, false)) := ⟨by decide +kernel, by decide +kernel, by decide +kernel, by decide +kernel, by decide +kernel, by decide +kernel, by decide +kernel, by decide +kernel, by decide +kernel, by decide +kernel, by decide +kernel, by decide +kernel, by decide +kernel, by decide +kernel, by decide +kernel, by decide +kernel⟩
def NX10_day : sm_NF := sm_nd TX10_ cX10_day 4 [24]
theorem n_X10_day : (NX10_day 0 = some (.aload 0, 1, false) ∧ NX10_day 1 = some (.ret 0, 2, false) ∧ NX10_day 2 = some (.putfield 1000, 5, false) ∧ NX10_day 5 = some (.iload 1, 6, false) ∧ NX10_day 6 = some (.ret 0, 7, false)) ∧ (NX10_day 7 = some (.ret 100, 9, false) ∧ NX10_day 9 = some (.invokeinterface 160 3, 12, false) ∧ NX10_day 12 = some (.ifCond .ne 17, 15, false) ∧ NX10_day 15 = some (.putstatic 0, 16, false) ∧ NX10_day 16 = some (.ireturn, 17, false)) ∧ (NX10_day 17 = some (.aload 0, 18, false) ∧ NX10_day 18 = some (.getfield 1041, 21, false) ∧ NX10_day 21 = some (.istore 2, 22, false) ∧ NX10_day 22 = some (.ret 0, 23, false) ∧ NX10_day 23 = some (.istore 3, 24, false)) ∧ (NX10_day 24 = some (.iload 3, 25, true) ∧ NX10_day 25 = some (.iload 1, 26, false) ∧ NX10_day 26 = some (.if_icmp .ge 39, 29, false) ∧ NX10_day 29 = some (.aload 0, 30, false) ∧ NX10_day 30 = some (.invokeinterface 221 1, 33, false)) ∧ (NX10_day 33 = some (.multianewarray 3 1, 36, false) ∧ NX10_day 36 = some (.goto 24, 39, false) ∧ NX10_day 39 = some (.aload 0, 40, false) ∧ NX10_day 40 = some (.getfield 1041, 43, false) ∧ NX10_day 43 = some (.iload 2, 44, false)) ∧ (NX10_day 44 = some (.isub, 45, false) ∧ NX10_day 45 = some (.ireturn, 46, false)) := ⟨by decide +kernel, by decide +kernel, by decide +kernel, by decide +kernel, by decide +kernel, by decide +kernel⟩
def NX10_count : sm_NF := sm_nd TX10_ cX10_count 4 [102, 142, 176, 215]
theorem n_X10_count : (NX10_count 0 = some (.aload 0, 1, false) ∧ NX10_count 1 = some (.ret 0, 2, false) ∧ NX10_count 2 = some (.putfield 1000, 5, false) ∧ NX10_count 5 = some (.ret 0, 6, false) ∧ NX10_count 6 = some (.istore 2, 7, false)) ∧ (NX10_count 7 = some (.iload 1, 8, false) ∧ NX10_count 8 = some (.tableswitch 260 0 13 #[80, 85, 90, 95, 100, 135, 140, 174, 174, 174, 213, 213, 213, 213], 80, false) ∧ NX10_count 80 = some (.aload 0, 81, false) ∧ NX10_count 81 = some (.getfield 1022, 84, false) ∧ NX10_count 84 = some (.ireturn, 85, false)) ∧ (NX10_count 85 = some (.aload 0, 86, false) ∧ NX10_count 86 = some (.getfield 1001, 89, false) ∧ NX10_count 89 = some (.ireturn, 90, false) ∧ NX10_count 90 = some (.aload 0, 91, false) ∧ NX10_count 91 = some (.getfield 1008, 94, false)) ∧ (NX10_count 94 = some (.ireturn, 95, false) ∧ NX10_count 95 = some (.aload 0, 96, false) ∧ NX10_count 96 = some (.getfield 1009, 99, false) ∧ NX10_count 99 = some (.ireturn, 100, false) ∧ NX10_count 100 = some (.ret 0, 101, false)) ∧ (NX10_count 101 = some (.istore 3, 102, false) ∧ NX10_count 102 = some (.iload 3, 103, true) ∧ NX10_count 103 = some (.aload 0, 104, false) ∧ NX10_count 104 = some (.getfield 1009, 107, false) ∧ NX10_count 107 = some (.if_icmp .ge 133, 110, false)) ∧ (NX10_count 110 = some (.iload 2, 111, false) ∧ NX10_count 111 = some (.aload 0, 112, false) ∧ NX10_count 112 = some (.getfield 1020, 115, false) ∧ NX10_count 115 = some (.iload 3, 116, false) ∧ NX10_count 116 = some (.baload, 117, false)) ∧ (NX10_count 117 = some (.ifCond .eq 124, 120, false) ∧ NX10_count 120 = some (.ret 0, 121, false) ∧ NX10_count 121 = some (.goto 125, 124, false) ∧ NX10_count 124 = some (.ret 1, 125, false) ∧ NX10_count 125 = some (.iadd, 126, false)) ∧ (NX10_count 126 = some (.istore 2, 127, false) ∧ NX10_count 127 = some (.multianewarray 3 1, 130, false) ∧ NX10_count 130 = some (.goto 102, 133, false) ∧ NX10_count 133 = some (.iload 2, 134, false) ∧ NX10_count 134 = some (.ireturn, 135, false)) ∧ (NX10_count 135 = some (.aload 0, 136, false) ∧ NX10_count 136 = some (.getfield 1035, 139, false) ∧ NX10_count 139 = some (.ireturn, 140, false) ∧ NX10_count 140 = some (.ret 0, 141, false) ∧ NX10_count 141 = some (.istore 3, 142, false)) ∧ (NX10_count 142 = some (.iload 3, 143, true) ∧ NX10_count 143 = some (.aload 0, 144, false) ∧ NX10_count 144 = some (.getfield 1035, 147, false) ∧ NX10_count 147 = some (.if_icmp .ge 172, 150, false) ∧ NX10_count 150 = some (.iload 2, 151, false)) ∧ (NX10_count 151 = some (.aload 0, 152, false) ∧ NX10_count 152 = some (.iload 3, 153, false) ∧ NX10_count 153 = some (.invokeinterface 207 2, 156, false) ∧ NX10_count 156 = some (.ifCond .eq 163, 159, false) ∧ NX10_count 159 = some (.ret 1, 160, false)) ∧ (NX10_count 160 = some (.goto 164, 163, false) ∧ NX10_count 163 = some (.ret 0, 164, false) ∧ NX10_count 164 = some (.iadd, 165, false) ∧ NX10_count 165 = some (.istore 2, 166, false) ∧ NX10_count 166 = some (.multianewarray 3 1, 169, false)) ∧ (NX10_count 169 = some (.goto 142, 172, false) ∧ NX10_count 172 = some (.iload 2, 173, false) ∧ NX10_count 173 = some (.ireturn, 174, false) ∧ NX10_count 174 = some (.ret 0, 175, false) ∧ NX10_count 175 = some (.istore 3, 176, false)) ∧ (NX10_count 176 = some (.iload 3, 177, true) ∧ NX10_count 177 = some (.aload 0, 178, false) ∧ NX10_count 178 = some (.getfield 1008, 181, false) ∧ NX10_count 181 = some (.if_icmp .ge 211, 184, false) ∧ NX10_count 184 = some (.iload 2, 185, false)) ∧ (NX10_count 185 = some (.aload 0, 186, false) ∧ NX10_count 186 = some (.getfield 1013, 189, false) ∧ NX10_count 189 = some (.iload 3, 190, false) ∧ NX10_count 190 = some (.iaload, 191, false) ∧ NX10_count 191 = some (.iload 1, 192, false)) ∧ (NX10_count 192 = some (.ret 7, 194, false) ∧ NX10_count 194 = some (.isub, 195, false) ∧ NX10_count 195 = some (.if_icmp .ne 202, 198, false) ∧ NX10_count 198 = some (.ret 1, 199, false) ∧ NX10_count 199 = some (.goto 203, 202, false)) ∧ (NX10_count 202 = some (.ret 0, 203, false) ∧ NX10_count 203 = some (.iadd, 204, false) ∧ NX10_count 204 = some (.istore 2, 205, false) ∧ NX10_count 205 = some (.multianewarray 3 1, 208, false) ∧ NX10_count 208 = some (.goto 176, 211, false)) ∧ (NX10_count 211 = some (.iload 2, 212, false) ∧ NX10_count 212 = some (.ireturn, 213, false) ∧ NX10_count 213 = some (.ret 0, 214, false) ∧ NX10_count 214 = some (.istore 3, 215, false) ∧ NX10_count 215 = some (.iload 3, 216, true)) ∧ (NX10_count 216 = some (.aload 0, 217, false) ∧ NX10_count 217 = some (.getfield 1008, 220, false) ∧ NX10_count 220 = some (.if_icmp .ge 258, 223, false) ∧ NX10_count 223 = some (.iload 2, 224, false) ∧ NX10_count 224 = some (.aload 0, 225, false)) ∧ (NX10_count 225 = some (.iload 3, 226, false) ∧ NX10_count 226 = some (.invokeinterface 169 2, 229, false) ∧ NX10_count 229 = some (.ifCond .eq 249, 232, false) ∧ NX10_count 232 = some (.aload 0, 233, false) ∧ NX10_count 233 = some (.getfield 1018, 236, false)) ∧ (NX10_count 236 = some (.iload 3, 237, false) ∧ NX10_count 237 = some (.iaload, 238, false) ∧ NX10_count 238 = some (.iload 1, 239, false) ∧ NX10_count 239 = some (.ret 9, 241, false) ∧ NX10_count 241 = some (.isub, 242, false)) ∧ (NX10_count 242 = some (.if_icmp .ne 249, 245, false) ∧ NX10_count 245 = some (.ret 1, 246, false) ∧ NX10_count 246 = some (.goto 250, 249, false) ∧ NX10_count 249 = some (.ret 0, 250, false) ∧ NX10_count 250 = some (.iadd, 251, false)) ∧ (NX10_count 251 = some (.istore 2, 252, false) ∧ NX10_count 252 = some (.multianewarray 3 1, 255, false) ∧ NX10_count 255 = some (.goto 215, 258, false) ∧ NX10_count 258 = some (.iload 2, 259, false) ∧ NX10_count 259 = some (.ireturn, 260, false)) ∧ (NX10_count 260 = some (.putstatic 0, 261, false) ∧ NX10_count 261 = some (.ireturn, 262, false)) := ⟨by decide +kernel, by decide +kernel, by decide +kernel, by decide +kernel, by decide +kernel, by decide +kernel, by decide +kernel, by decide +kernel, by decide +kernel, by decide +kernel, by decide +kernel, by decide +kernel, by decide +kernel, by decide +kernel, by decide +kernel, by decide +kernel, by decide +kernel, by decide +kernel, by decide +kernel, by decide +kernel, by decide +kernel, by decide +kernel, by decide +kernel, by decide +kernel⟩
def NX10_gone : sm_NF := sm_nd TX10_ cX10_gone 2 []
theorem n_X10_gone : (NX10_gone 0 = some (.aload 0, 1, false) ∧ NX10_gone 1 = some (.ret 0, 2, false) ∧ NX10_gone 2 = some (.putfield 1000, 5, false) ∧ NX10_gone 5 = some (.iload 1, 6, false) ∧ NX10_gone 6 = some (.ret 0, 7, false)) ∧ (NX10_gone 7 = some (.aload 0, 8, false) ∧ NX10_gone 8 = some (.getfield 1041, 11, false) ∧ NX10_gone 11 = some (.ret 1, 12, false) ∧ NX10_gone 12 = some (.isub, 13, false) ∧ NX10_gone 13 = some (.invokeinterface 160 3, 16, false)) ∧ (NX10_gone 16 = some (.ifCond .eq 28, 19, false) ∧ NX10_gone 19 = some (.aload 0, 20, false) ∧ NX10_gone 20 = some (.getfield 1040, 23, false) ∧ NX10_gone 23 = some (.iload 1, 24, false) ∧ NX10_gone 24 = some (.iaload, 25, false)) ∧ (NX10_gone 25 = some (.goto 29, 28, false) ∧ NX10_gone 28 = some (.putstatic 0, 29, false) ∧ NX10_gone 29 = some (.ireturn, 30, false)) := ⟨by decide +kernel, by decide +kernel, by decide +kernel, by decide +kernel⟩
def NX0_init : sm_NF := sm_nd TX0_ cX0_init 3 []
theorem n_X0_init : (NX0_init 0 = some (.aload 0, 1, false) ∧ NX0_init 4 = some (.aload 0, 5, false) ∧ NX0_init 5 = some (.ret 12, 7, false) ∧ NX0_init 9 = some (.putfield 2, 12, false) ∧ NX0_init 12 = some (.aload 0, 13, false)) ∧ (NX0_init 13 = some (.ret 192, 16, false) ∧ NX0_init 18 = some (.putfield 3, 21, false) ∧ NX0_init 21 = some (.aload 0, 22, false) ∧ NX0_init 22 = some (.ret 4096, 25, false) ∧ NX0_init 27 = some (.putfield 4, 30, false)) ∧ (NX0_init 30 = some (.aload 0, 31, false) ∧ NX0_init 31 = some (.ret 0, 32, false) ∧ NX0_init 32 = some (.putfield 5, 35, false) ∧ NX0_init 35 = some (.aload 0, 36, false) ∧ NX0_init 36 = some (.aload 1, 37, false)) ∧ (NX0_init 37 = some (.putfield 0, 40, false) ∧ NX0_init 40 = some (.aload 0, 41, false) ∧ NX0_init 41 = some (.aload 2, 42, false) ∧ NX0_init 42 = some (.putfield 1, 45, false) ∧ NX0_init 45 = some (.return_, 46, false)) := ⟨by decide +kernel, by decide +kernel, by decide +kernel, by decide +kernel⟩
def NX0_isAlike : sm_NF := sm_nd TX0_ cX0_isAlike 4 [2]
theorem n_X0_isAlike : (NX0_isAlike 0 = some (.ret 0, 1, false) ∧ NX0_isAlike 1 = some (.istore 3, 2, false) ∧ NX0_isAlike 2 = some (.iload 3, 3, true) ∧ NX0_isAlike 3 = some (.aload 0, 4, false) ∧ NX0_isAlike 4 = some (.getfield 0, 7, false)) ∧ (NX0_isAlike 7 = some (.invokeinterface 65 1, 10, false) ∧ NX0_isAlike 10 = some (.if_icmp .ge 42, 13, false) ∧ NX0_isAlike 13 = some (.aload 0, 14, false) ∧ NX0_isAlike 14 = some (.getfield 1, 17, false) ∧ NX0_isAlike 17 = some (.iload 1, 18, false)) ∧ (NX0_isAlike 18 = some (.iload 3, 19, false) ∧ NX0_isAlike 19 = some (.invokeinterface 85 3, 22, false) ∧ NX0_isAlike 22 = some (.aload 0, 23, false) ∧ NX0_isAlike 23 = some (.getfield 1, 26, false) ∧ NX0_isAlike 26 = some (.iload 2, 27, false)) ∧ (NX0_isAlike 27 = some (.iload 3, 28, false) ∧ NX0_isAlike 28 = some (.invokeinterface 85 3, 31, false) ∧ NX0_isAlike 31 = some (.if_icmp .eq 36, 34, false) ∧ NX0_isAlike 34 = some (.ret 0, 35, false) ∧ NX0_isAlike 35 = some (.ireturn, 36, false)) ∧ (NX0_isAlike 36 = some (.multianewarray 3 1, 39, false) ∧ NX0_isAlike 39 = some (.goto 2, 42, false) ∧ NX0_isAlike 42 = some (.ret 1, 43, false) ∧ NX0_isAlike 43 = some (.ireturn, 44, false)) := ⟨by decide +kernel, by decide +kernel, by decide +kernel, by decide +kernel, by decide +kernel⟩
def NX0_countClasses : sm_NF := sm_nd TX0_ cX0_countClasses 6 [6]
theorem n_X0_countClasses : (NX0_countClasses 0 = some (.ret 0, 1, false) ∧ NX0_countClasses 1 = some (.istore 4, 3, false) ∧ NX0_countClasses 3 = some (.ret 0, 4, false) ∧ NX0_countClasses 4 = some (.istore 5, 6, false) ∧ NX0_countClasses 6 = some (.iload 5, 8, true)) ∧ (NX0_countClasses 8 = some (.ret 60, 10, false) ∧ NX0_countClasses 10 = some (.if_icmp .ge 42, 13, false) ∧ NX0_countClasses 13 = some (.lload 1, 14, false) ∧ NX0_countClasses 14 = some (.iload 5, 16, false) ∧ NX0_countClasses 16 = some (.invokeinterface 131 2, 19, false)) ∧ (NX0_countClasses 19 = some (.ifCond .eq 36, 22, false) ∧ NX0_countClasses 22 = some (.aload 0, 23, false) ∧ NX0_countClasses 23 = some (.lload 1, 24, false) ∧ NX0_countClasses 24 = some (.iload 5, 26, false) ∧ NX0_countClasses 26 = some (.iload 3, 27, false)) ∧ (NX0_countClasses 27 = some (.invokeinterface 4 4, 30, false) ∧ NX0_countClasses 30 = some (.ifCond .eq 36, 33, false) ∧ NX0_countClasses 33 = some (.multianewarray 4 1, 36, false) ∧ NX0_countClasses 36 = some (.multianewarray 5 1, 39, false) ∧ NX0_countClasses 39 = some (.goto 6, 42, false)) ∧ (NX0_countClasses 42 = some (.iload 4, 44, false) ∧ NX0_countClasses 44 = some (.ireturn, 45, false)) := ⟨by decide +kernel, by decide +kernel, by decide +kernel, by decide +kernel, by decide +kernel⟩
def NX0_isFirstOfClass : sm_NF := sm_nd TX0_ cX0_isFirstOfClass 7 [15]
theorem n_X0_isFirstOfClass : (NX0_isFirstOfClass 0 = some (.aload 0, 1, false) ∧ NX0_isFirstOfClass 1 = some (.getfield 1, 4, false) ∧ NX0_isFirstOfClass 4 = some (.iload 3, 5, false) ∧ NX0_isFirstOfClass 5 = some (.iload 4, 7, false) ∧ NX0_isFirstOfClass 7 = some (.invokeinterface 85 3, 10, false)) ∧ (NX0_isFirstOfClass 10 = some (.istore 5, 12, false) ∧ NX0_isFirstOfClass 12 = some (.ret 0, 13, false) ∧ NX0_isFirstOfClass 13 = some (.istore 6, 15, false) ∧ NX0_isFirstOfClass 15 = some (.iload 6, 17, true) ∧ NX0_isFirstOfClass 17 = some (.iload 3, 18, false)) ∧ (NX0_isFirstOfClass 18 = some (.if_icmp .ge 54, 21, false) ∧ NX0_isFirstOfClass 21 = some (.lload 1, 22, false) ∧ NX0_isFirstOfClass 22 = some (.iload 6, 24, false) ∧ NX0_isFirstOfClass 24 = some (.invokeinterface 131 2, 27, false) ∧ NX0_isFirstOfClass 27 = some (.ifCond .eq 48, 30, false)) ∧ (NX0_isFirstOfClass 30 = some (.aload 0, 31, false) ∧ NX0_isFirstOfClass 31 = some (.getfield 1, 34, false) ∧ NX0_isFirstOfClass 34 = some (.iload 6, 36, false) ∧ NX0_isFirstOfClass 36 = some (.iload 4, 38, false) ∧ NX0_isFirstOfClass 38 = some (.invokeinterface 85 3, 41, false)) ∧ (NX0_isFirstOfClass 41 = some (.iload 5, 43, false) ∧ NX0_isFirstOfClass 43 = some (.if_icmp .ne 48, 46, false) ∧ NX0_isFirstOfClass 46 = some (.ret 0, 47, false) ∧ NX0_isFirstOfClass 47 = some (.ireturn, 48, false) ∧ NX0_isFirstOfClass 48 = some (.multianewarray 6 1, 51, false)) ∧ (NX0_isFirstOfClass 51 = some (.goto 15, 54, false) ∧ NX0_isFirstOfClass 54 = some (.ret 1, 55, false) ∧ NX0_isFirstOfClass 55 = some (.ireturn, 56, false)) := ⟨by decide +kernel, by decide +kernel, by decide +kernel, by decide +kernel, by decide +kernel, by decide +kernel⟩
def NX0_mostParting : sm_NF := sm_nd TX0_ cX0_mostParting 7 [8]
theorem n_X0_mostParting : (NX0_mostParting 0 = some (.putstatic 0, 1, false) ∧ NX0_mostParting 1 = some (.istore 3, 2, false) ∧ NX0_mostParting 2 = some (.ret 1, 3, false) ∧ NX0_mostParting 3 = some (.istore 4, 5, false) ∧ NX0_mostParting 5 = some (.ret 0, 6, false)) ∧ (NX0_mostParting 6 = some (.istore 5, 8, false) ∧ NX0_mostParting 8 = some (.iload 5, 10, true) ∧ NX0_mostParting 10 = some (.aload 0, 11, false) ∧ NX0_mostParting 11 = some (.getfield 0, 14, false) ∧ NX0_mostParting 14 = some (.invokeinterface 65 1, 17, false)) ∧ (NX0_mostParting 17 = some (.if_icmp .ge 49, 20, false) ∧ NX0_mostParting 20 = some (.aload 0, 21, false) ∧ NX0_mostParting 21 = some (.lload 1, 22, false) ∧ NX0_mostParting 22 = some (.iload 5, 24, false) ∧ NX0_mostParting 24 = some (.invokeinterface 3 3, 27, false)) ∧ (NX0_mostParting 27 = some (.istore 6, 29, false) ∧ NX0_mostParting 29 = some (.iload 6, 31, false) ∧ NX0_mostParting 31 = some (.iload 4, 33, false) ∧ NX0_mostParting 33 = some (.if_icmp .le 43, 36, false) ∧ NX0_mostParting 36 = some (.iload 6, 38, false)) ∧ (NX0_mostParting 38 = some (.istore 4, 40, false) ∧ NX0_mostParting 40 = some (.iload 5, 42, false) ∧ NX0_mostParting 42 = some (.istore 3, 43, false) ∧ NX0_mostParting 43 = some (.multianewarray 5 1, 46, false) ∧ NX0_mostParting 46 = some (.goto 8, 49, false)) ∧ (NX0_mostParting 49 = some (.iload 3, 50, false) ∧ NX0_mostParting 50 = some (.ireturn, 51, false)) := ⟨by decide +kernel, by decide +kernel, by decide +kernel, by decide +kernel, by decide +kernel, by decide +kernel⟩
def NX0_neededFor : sm_NF := sm_nd TX0_ cX0_neededFor 5 [7, 16, 66]
theorem n_X0_neededFor : (NX0_neededFor 0 = some (.aload 0, 1, false) ∧ NX0_neededFor 1 = some (.lload 1, 2, false) ∧ NX0_neededFor 2 = some (.invokeinterface 7 2, 5, false) ∧ NX0_neededFor 5 = some (.ret 0, 6, false) ∧ NX0_neededFor 6 = some (.istore 3, 7, false)) ∧ (NX0_neededFor 7 = some (.iload 3, 8, true) ∧ NX0_neededFor 8 = some (.ret 16, 10, false) ∧ NX0_neededFor 10 = some (.if_icmp .ge 56, 13, false) ∧ NX0_neededFor 13 = some (.ret 0, 14, false) ∧ NX0_neededFor 14 = some (.istore 4, 16, false)) ∧ (NX0_neededFor 16 = some (.iload 4, 18, true) ∧ NX0_neededFor 18 = some (.aload 0, 19, false) ∧ NX0_neededFor 19 = some (.getfield 5, 22, false) ∧ NX0_neededFor 22 = some (.if_icmp .ge 50, 25, false) ∧ NX0_neededFor 25 = some (.aload 0, 26, false)) ∧ (NX0_neededFor 26 = some (.getfield 3, 29, false) ∧ NX0_neededFor 29 = some (.iload 3, 30, false) ∧ NX0_neededFor 30 = some (.ret 12, 32, false) ∧ NX0_neededFor 32 = some (.imul, 33, false) ∧ NX0_neededFor 33 = some (.iload 4, 35, false)) ∧ (NX0_neededFor 35 = some (.iadd, 36, false) ∧ NX0_neededFor 36 = some (.aload 0, 37, false) ∧ NX0_neededFor 37 = some (.iload 4, 39, false) ∧ NX0_neededFor 39 = some (.iload 3, 40, false) ∧ NX0_neededFor 40 = some (.invokeinterface 9 3, 43, false)) ∧ (NX0_neededFor 43 = some (.iastore, 44, false) ∧ NX0_neededFor 44 = some (.multianewarray 4 1, 47, false) ∧ NX0_neededFor 47 = some (.goto 16, 50, false) ∧ NX0_neededFor 50 = some (.multianewarray 3 1, 53, false) ∧ NX0_neededFor 53 = some (.goto 7, 56, false)) ∧ (NX0_neededFor 56 = some (.ret 1, 57, false) ∧ NX0_neededFor 57 = some (.aload 0, 58, false) ∧ NX0_neededFor 58 = some (.getfield 5, 61, false) ∧ NX0_neededFor 61 = some (.ishl, 62, false) ∧ NX0_neededFor 62 = some (.istore 3, 63, false)) ∧ (NX0_neededFor 63 = some (.ret 0, 64, false) ∧ NX0_neededFor 64 = some (.istore 4, 66, false) ∧ NX0_neededFor 66 = some (.iload 4, 68, true) ∧ NX0_neededFor 68 = some (.iload 3, 69, false) ∧ NX0_neededFor 69 = some (.if_icmp .ge 96, 72, false)) ∧ (NX0_neededFor 72 = some (.iload 4, 74, false) ∧ NX0_neededFor 74 = some (.aload 0, 75, false) ∧ NX0_neededFor 75 = some (.getfield 4, 78, false) ∧ NX0_neededFor 78 = some (.arraylength, 79, false) ∧ NX0_neededFor 79 = some (.if_icmp .ge 96, 82, false)) ∧ (NX0_neededFor 82 = some (.aload 0, 83, false) ∧ NX0_neededFor 83 = some (.getfield 4, 86, false) ∧ NX0_neededFor 86 = some (.iload 4, 88, false) ∧ NX0_neededFor 88 = some (.ret 0, 89, false) ∧ NX0_neededFor 89 = some (.iastore, 90, false)) ∧ (NX0_neededFor 90 = some (.multianewarray 4 1, 93, false) ∧ NX0_neededFor 93 = some (.goto 66, 96, false) ∧ NX0_neededFor 96 = some (.aload 0, 97, false) ∧ NX0_neededFor 97 = some (.iload 3, 98, false) ∧ NX0_neededFor 98 = some (.ret 1, 99, false)) ∧ (NX0_neededFor 99 = some (.isub, 100, false) ∧ NX0_neededFor 100 = some (.ret 0, 101, false) ∧ NX0_neededFor 101 = some (.invokeinterface 10 3, 104, false) ∧ NX0_neededFor 104 = some (.ireturn, 105, false)) := ⟨by decide +kernel, by decide +kernel, by decide +kernel, by decide +kernel, by decide +kernel, by decide +kernel, by decide +kernel, by decide +kernel, by decide +kernel, by decide +kernel, by decide +kernel, by decide +kernel⟩
def NX0_listDistinct : sm_NF := sm_nd TX0_ cX0_listDistinct 4 [7]
theorem n_X0_listDistinct : (NX0_listDistinct 0 = some (.aload 0, 1, false) ∧ NX0_listDistinct 1 = some (.ret 0, 2, false) ∧ NX0_listDistinct 2 = some (.putfield 5, 5, false) ∧ NX0_listDistinct 5 = some (.ret 0, 6, false) ∧ NX0_listDistinct 6 = some (.istore 3, 7, false)) ∧ (NX0_listDistinct 7 = some (.iload 3, 8, true) ∧ NX0_listDistinct 8 = some (.ret 60, 10, false) ∧ NX0_listDistinct 10 = some (.if_icmp .ge 64, 13, false) ∧ NX0_listDistinct 13 = some (.lload 1, 14, false) ∧ NX0_listDistinct 14 = some (.iload 3, 15, false)) ∧ (NX0_listDistinct 15 = some (.invokeinterface 131 2, 18, false) ∧ NX0_listDistinct 18 = some (.ifCond .eq 58, 21, false) ∧ NX0_listDistinct 21 = some (.aload 0, 22, false) ∧ NX0_listDistinct 22 = some (.getfield 5, 25, false) ∧ NX0_listDistinct 25 = some (.ret 12, 27, false)) ∧ (NX0_listDistinct 27 = some (.if_icmp .ge 58, 30, false) ∧ NX0_listDistinct 30 = some (.aload 0, 31, false) ∧ NX0_listDistinct 31 = some (.iload 3, 32, false) ∧ NX0_listDistinct 32 = some (.invokeinterface 8 2, 35, false) ∧ NX0_listDistinct 35 = some (.ifCond .ne 58, 38, false)) ∧ (NX0_listDistinct 38 = some (.aload 0, 39, false) ∧ NX0_listDistinct 39 = some (.getfield 2, 42, false) ∧ NX0_listDistinct 42 = some (.aload 0, 43, false) ∧ NX0_listDistinct 43 = some (.getfield 5, 46, false) ∧ NX0_listDistinct 46 = some (.iload 3, 47, false)) ∧ (NX0_listDistinct 47 = some (.iastore, 48, false) ∧ NX0_listDistinct 48 = some (.aload 0, 49, false) ∧ NX0_listDistinct 49 = some (.dup, 50, false) ∧ NX0_listDistinct 50 = some (.getfield 5, 53, false) ∧ NX0_listDistinct 53 = some (.ret 1, 54, false)) ∧ (NX0_listDistinct 54 = some (.iadd, 55, false) ∧ NX0_listDistinct 55 = some (.putfield 5, 58, false) ∧ NX0_listDistinct 58 = some (.multianewarray 3 1, 61, false) ∧ NX0_listDistinct 61 = some (.goto 7, 64, false) ∧ NX0_listDistinct 64 = some (.return_, 65, false)) := ⟨by decide +kernel, by decide +kernel, by decide +kernel, by decide +kernel, by decide +kernel, by decide +kernel, by decide +kernel⟩
def NX0_isListed : sm_NF := sm_nd TX0_ cX0_isListed 3 [2]
theorem n_X0_isListed : (NX0_isListed 0 = some (.ret 0, 1, false) ∧ NX0_isListed 1 = some (.istore 2, 2, false) ∧ NX0_isListed 2 = some (.iload 2, 3, true) ∧ NX0_isListed 3 = some (.aload 0, 4, false) ∧ NX0_isListed 4 = some (.getfield 5, 7, false)) ∧ (NX0_isListed 7 = some (.if_icmp .ge 32, 10, false) ∧ NX0_isListed 10 = some (.aload 0, 11, false) ∧ NX0_isListed 11 = some (.aload 0, 12, false) ∧ NX0_isListed 12 = some (.getfield 2, 15, false) ∧ NX0_isListed 15 = some (.iload 2, 16, false)) ∧ (NX0_isListed 16 = some (.iaload, 17, false) ∧ NX0_isListed 17 = some (.iload 1, 18, false) ∧ NX0_isListed 18 = some (.invokeinterface 2 3, 21, false) ∧ NX0_isListed 21 = some (.ifCond .eq 26, 24, false) ∧ NX0_isListed 24 = some (.ret 1, 25, false)) ∧ (NX0_isListed 25 = some (.ireturn, 26, false) ∧ NX0_isListed 26 = some (.multianewarray 2 1, 29, false) ∧ NX0_isListed 29 = some (.goto 2, 32, false) ∧ NX0_isListed 32 = some (.ret 0, 33, false) ∧ NX0_isListed 33 = some (.ireturn, 34, false)) := ⟨by decide +kernel, by decide +kernel, by decide +kernel, by decide +kernel⟩
def NX0_classOf : sm_NF := sm_nd TX0_ cX0_classOf 6 [21]
theorem n_X0_classOf : (NX0_classOf 0 = some (.aload 0, 1, false) ∧ NX0_classOf 1 = some (.getfield 1, 4, false) ∧ NX0_classOf 4 = some (.aload 0, 5, false) ∧ NX0_classOf 5 = some (.getfield 2, 8, false) ∧ NX0_classOf 8 = some (.iload 1, 9, false)) ∧ (NX0_classOf 9 = some (.iaload, 10, false) ∧ NX0_classOf 10 = some (.iload 2, 11, false) ∧ NX0_classOf 11 = some (.invokeinterface 85 3, 14, false) ∧ NX0_classOf 14 = some (.istore 3, 15, false) ∧ NX0_classOf 15 = some (.ret 0, 16, false)) ∧ (NX0_classOf 16 = some (.istore 4, 18, false) ∧ NX0_classOf 18 = some (.ret 0, 19, false) ∧ NX0_classOf 19 = some (.istore 5, 21, false) ∧ NX0_classOf 21 = some (.iload 5, 23, true) ∧ NX0_classOf 23 = some (.aload 0, 24, false)) ∧ (NX0_classOf 24 = some (.getfield 5, 27, false) ∧ NX0_classOf 27 = some (.if_icmp .ge 64, 30, false) ∧ NX0_classOf 30 = some (.aload 0, 31, false) ∧ NX0_classOf 31 = some (.getfield 1, 34, false) ∧ NX0_classOf 34 = some (.aload 0, 35, false)) ∧ (NX0_classOf 35 = some (.getfield 2, 38, false) ∧ NX0_classOf 38 = some (.iload 5, 40, false) ∧ NX0_classOf 40 = some (.iaload, 41, false) ∧ NX0_classOf 41 = some (.iload 2, 42, false) ∧ NX0_classOf 42 = some (.invokeinterface 85 3, 45, false)) ∧ (NX0_classOf 45 = some (.iload 3, 46, false) ∧ NX0_classOf 46 = some (.if_icmp .ne 58, 49, false) ∧ NX0_classOf 49 = some (.iload 4, 51, false) ∧ NX0_classOf 51 = some (.ret 1, 52, false) ∧ NX0_classOf 52 = some (.iload 5, 54, false)) ∧ (NX0_classOf 54 = some (.ishl, 55, false) ∧ NX0_classOf 55 = some (.ior, 56, false) ∧ NX0_classOf 56 = some (.istore 4, 58, false) ∧ NX0_classOf 58 = some (.multianewarray 5 1, 61, false) ∧ NX0_classOf 61 = some (.goto 21, 64, false)) ∧ (NX0_classOf 64 = some (.iload 4, 66, false) ∧ NX0_classOf 66 = some (.ireturn, 67, false)) := ⟨by decide +kernel, by decide +kernel, by decide +kernel, by decide +kernel, by decide +kernel, by decide +kernel, by decide +kernel, by decide +kernel⟩
def NX0_search : sm_NF := sm_nd TX0_ cX0_search 7 [61]
theorem n_X0_search : (NX0_search 0 = some (.iload 1, 1, false) ∧ NX0_search 1 = some (.invokeinterface 225 1, 4, false) ∧ NX0_search 4 = some (.istore 3, 5, false) ∧ NX0_search 5 = some (.iload 3, 6, false) ∧ NX0_search 6 = some (.ret 1, 7, false)) ∧ (NX0_search 7 = some (.if_icmp .le 29, 10, false) ∧ NX0_search 10 = some (.iload 2, 11, false) ∧ NX0_search 11 = some (.ret 12, 13, false) ∧ NX0_search 13 = some (.if_icmp .ge 29, 16, false) ∧ NX0_search 16 = some (.iload 1, 17, false)) ∧ (NX0_search 17 = some (.ifCond .lt 29, 20, false) ∧ NX0_search 20 = some (.iload 1, 21, false) ∧ NX0_search 21 = some (.aload 0, 22, false) ∧ NX0_search 22 = some (.getfield 4, 25, false) ∧ NX0_search 25 = some (.arraylength, 26, false)) ∧ (NX0_search 26 = some (.if_icmp .lt 31, 29, false) ∧ NX0_search 29 = some (.ret 0, 30, false) ∧ NX0_search 30 = some (.ireturn, 31, false) ∧ NX0_search 31 = some (.aload 0, 32, false) ∧ NX0_search 32 = some (.getfield 4, 35, false)) ∧ (NX0_search 35 = some (.iload 1, 36, false) ∧ NX0_search 36 = some (.iaload, 37, false) ∧ NX0_search 37 = some (.ifCond .eq 47, 40, false) ∧ NX0_search 40 = some (.aload 0, 41, false) ∧ NX0_search 41 = some (.getfield 4, 44, false)) ∧ (NX0_search 44 = some (.iload 1, 45, false) ∧ NX0_search 45 = some (.iaload, 46, false) ∧ NX0_search 46 = some (.ireturn, 47, false) ∧ NX0_search 47 = some (.aload 0, 48, false) ∧ NX0_search 48 = some (.iload 1, 49, false)) ∧ (NX0_search 49 = some (.iload 3, 50, false) ∧ NX0_search 50 = some (.invokeinterface 12 3, 53, false) ∧ NX0_search 53 = some (.istore 4, 55, false) ∧ NX0_search 55 = some (.iload 3, 56, false) ∧ NX0_search 56 = some (.istore 5, 58, false)) ∧ (NX0_search 58 = some (.ret 0, 59, false) ∧ NX0_search 59 = some (.istore 6, 61, false) ∧ NX0_search 61 = some (.iload 6, 63, true) ∧ NX0_search 63 = some (.ret 16, 65, false) ∧ NX0_search 65 = some (.if_icmp .ge 98, 68, false)) ∧ (NX0_search 68 = some (.iload 5, 70, false) ∧ NX0_search 70 = some (.iload 4, 72, false) ∧ NX0_search 72 = some (.if_icmp .le 98, 75, false) ∧ NX0_search 75 = some (.iload 5, 77, false) ∧ NX0_search 77 = some (.aload 0, 78, false)) ∧ (NX0_search 78 = some (.iload 1, 79, false) ∧ NX0_search 79 = some (.iload 6, 81, false) ∧ NX0_search 81 = some (.iload 5, 83, false) ∧ NX0_search 83 = some (.iload 2, 84, false) ∧ NX0_search 84 = some (.invokeinterface 11 5, 87, false)) ∧ (NX0_search 87 = some (.invokeinterface 228 2, 90, false) ∧ NX0_search 90 = some (.istore 5, 92, false) ∧ NX0_search 92 = some (.multianewarray 6 1, 95, false) ∧ NX0_search 95 = some (.goto 61, 98, false) ∧ NX0_search 98 = some (.aload 0, 99, false)) ∧ (NX0_search 99 = some (.getfield 4, 102, false) ∧ NX0_search 102 = some (.iload 1, 103, false) ∧ NX0_search 103 = some (.iload 5, 105, false) ∧ NX0_search 105 = some (.iastore, 106, false) ∧ NX0_search 106 = some (.iload 5, 108, false)) ∧ (NX0_search 108 = some (.ireturn, 109, false)) := ⟨by decide +kernel, by decide +kernel, by decide +kernel, by decide +kernel, by decide +kernel, by decide +kernel, by decide +kernel, by decide +kernel, by decide +kernel, by decide +kernel, by decide +kernel, by decide +kernel, by decide +kernel⟩
def NX0_neededBehind : sm_NF := sm_nd TX0_ cX0_neededBehind 9 [9]
theorem n_X0_neededBehind : (NX0_neededBehind 0 = some (.ret 0, 1, false) ∧ NX0_neededBehind 1 = some (.istore 5, 3, false) ∧ NX0_neededBehind 3 = some (.iload 1, 4, false) ∧ NX0_neededBehind 4 = some (.istore 6, 6, false) ∧ NX0_neededBehind 6 = some (.ret 0, 7, false)) ∧ (NX0_neededBehind 7 = some (.istore 7, 9, false) ∧ NX0_neededBehind 9 = some (.iload 7, 11, true) ∧ NX0_neededBehind 11 = some (.aload 0, 12, false) ∧ NX0_neededBehind 12 = some (.getfield 5, 15, false) ∧ NX0_neededBehind 15 = some (.if_icmp .ge 103, 18, false)) ∧ (NX0_neededBehind 18 = some (.iload 6, 20, false) ∧ NX0_neededBehind 20 = some (.ifCond .eq 103, 23, false) ∧ NX0_neededBehind 23 = some (.iload 6, 25, false) ∧ NX0_neededBehind 25 = some (.iload 7, 27, false) ∧ NX0_neededBehind 27 = some (.ishr, 28, false)) ∧ (NX0_neededBehind 28 = some (.ret 1, 29, false) ∧ NX0_neededBehind 29 = some (.iand, 30, false) ∧ NX0_neededBehind 30 = some (.ifCond .ne 36, 33, false) ∧ NX0_neededBehind 33 = some (.goto 97, 36, false) ∧ NX0_neededBehind 36 = some (.aload 0, 37, false)) ∧ (NX0_neededBehind 37 = some (.getfield 3, 40, false) ∧ NX0_neededBehind 40 = some (.iload 2, 41, false) ∧ NX0_neededBehind 41 = some (.ret 12, 43, false) ∧ NX0_neededBehind 43 = some (.imul, 44, false) ∧ NX0_neededBehind 44 = some (.iload 7, 46, false)) ∧ (NX0_neededBehind 46 = some (.iadd, 47, false) ∧ NX0_neededBehind 47 = some (.iaload, 48, false) ∧ NX0_neededBehind 48 = some (.iload 6, 50, false) ∧ NX0_neededBehind 50 = some (.iand, 51, false) ∧ NX0_neededBehind 51 = some (.istore 8, 53, false)) ∧ (NX0_neededBehind 53 = some (.iload 8, 55, false) ∧ NX0_neededBehind 55 = some (.iload 1, 56, false) ∧ NX0_neededBehind 56 = some (.if_icmp .ne 61, 59, false) ∧ NX0_neededBehind 59 = some (.iload 3, 60, false) ∧ NX0_neededBehind 60 = some (.ireturn, 61, false)) ∧ (NX0_neededBehind 61 = some (.iload 5, 63, false) ∧ NX0_neededBehind 63 = some (.ret 1, 64, false) ∧ NX0_neededBehind 64 = some (.aload 0, 65, false) ∧ NX0_neededBehind 65 = some (.iload 8, 67, false) ∧ NX0_neededBehind 67 = some (.iload 4, 69, false)) ∧ (NX0_neededBehind 69 = some (.ret 1, 70, false) ∧ NX0_neededBehind 70 = some (.iadd, 71, false) ∧ NX0_neededBehind 71 = some (.invokeinterface 10 3, 74, false) ∧ NX0_neededBehind 74 = some (.iadd, 75, false) ∧ NX0_neededBehind 75 = some (.invokeinterface 227 2, 78, false)) ∧ (NX0_neededBehind 78 = some (.istore 5, 80, false) ∧ NX0_neededBehind 80 = some (.iload 5, 82, false) ∧ NX0_neededBehind 82 = some (.iload 3, 83, false) ∧ NX0_neededBehind 83 = some (.if_icmp .lt 88, 86, false) ∧ NX0_neededBehind 86 = some (.iload 3, 87, false)) ∧ (NX0_neededBehind 87 = some (.ireturn, 88, false) ∧ NX0_neededBehind 88 = some (.iload 6, 90, false) ∧ NX0_neededBehind 90 = some (.iload 8, 92, false) ∧ NX0_neededBehind 92 = some (.putstatic 0, 93, false) ∧ NX0_neededBehind 93 = some (.ixor, 94, false)) ∧ (NX0_neededBehind 94 = some (.iand, 95, false) ∧ NX0_neededBehind 95 = some (.istore 6, 97, false) ∧ NX0_neededBehind 97 = some (.multianewarray 7 1, 100, false) ∧ NX0_neededBehind 100 = some (.goto 9, 103, false) ∧ NX0_neededBehind 103 = some (.iload 5, 105, false)) ∧ (NX0_neededBehind 105 = some (.ireturn, 106, false)) := ⟨by decide +kernel, by decide +kernel, by decide +kernel, by decide +kernel, by decide +kernel, by decide +kernel, by decide +kernel, by decide +kernel, by decide +kernel, by decide +kernel, by decide +kernel, by decide +kernel, by decide +kernel⟩
def NX0_lowerBound : sm_NF := sm_nd TX0_ cX0_lowerBound 6 [5, 36]
theorem n_X0_lowerBound : (NX0_lowerBound 0 = some (.ret 2, 1, false) ∧ NX0_lowerBound 1 = some (.istore 3, 2, false) ∧ NX0_lowerBound 2 = some (.ret 0, 3, false) ∧ NX0_lowerBound 3 = some (.istore 4, 5, false) ∧ NX0_lowerBound 5 = some (.iload 4, 7, true)) ∧ (NX0_lowerBound 7 = some (.ret 16, 9, false) ∧ NX0_lowerBound 9 = some (.if_icmp .ge 30, 12, false) ∧ NX0_lowerBound 12 = some (.iload 3, 13, false) ∧ NX0_lowerBound 13 = some (.aload 0, 14, false) ∧ NX0_lowerBound 14 = some (.iload 1, 15, false)) ∧ (NX0_lowerBound 15 = some (.iload 4, 17, false) ∧ NX0_lowerBound 17 = some (.invokeinterface 13 3, 20, false) ∧ NX0_lowerBound 20 = some (.invokeinterface 227 2, 23, false) ∧ NX0_lowerBound 23 = some (.istore 3, 24, false) ∧ NX0_lowerBound 24 = some (.multianewarray 4 1, 27, false)) ∧ (NX0_lowerBound 27 = some (.goto 5, 30, false) ∧ NX0_lowerBound 30 = some (.ret 0, 31, false) ∧ NX0_lowerBound 31 = some (.istore 4, 33, false) ∧ NX0_lowerBound 33 = some (.ret 1, 34, false) ∧ NX0_lowerBound 34 = some (.istore 5, 36, false)) ∧ (NX0_lowerBound 36 = some (.iload 5, 38, true) ∧ NX0_lowerBound 38 = some (.iload 2, 39, false) ∧ NX0_lowerBound 39 = some (.if_icmp .ge 61, 42, false) ∧ NX0_lowerBound 42 = some (.iload 4, 44, false) ∧ NX0_lowerBound 44 = some (.ret 12, 46, false)) ∧ (NX0_lowerBound 46 = some (.if_icmp .ge 61, 49, false) ∧ NX0_lowerBound 49 = some (.multianewarray 4 1, 52, false) ∧ NX0_lowerBound 52 = some (.iload 5, 54, false) ∧ NX0_lowerBound 54 = some (.iload 3, 55, false) ∧ NX0_lowerBound 55 = some (.imul, 56, false)) ∧ (NX0_lowerBound 56 = some (.istore 5, 58, false) ∧ NX0_lowerBound 58 = some (.goto 36, 61, false) ∧ NX0_lowerBound 61 = some (.iload 4, 63, false) ∧ NX0_lowerBound 63 = some (.ireturn, 64, false)) := ⟨by decide +kernel, by decide +kernel, by decide +kernel, by decide +kernel, by decide +kernel, by decide +kernel, by decide +kernel⟩
def NX0_countParts : sm_NF := sm_nd TX0_ cX0_countParts 6 [8]
theorem n_X0_countParts : (NX0_countParts 0 = some (.ret 0, 1, false) ∧ NX0_countParts 1 = some (.istore 3, 2, false) ∧ NX0_countParts 2 = some (.iload 1, 3, false) ∧ NX0_countParts 3 = some (.istore 4, 5, false) ∧ NX0_countParts 5 = some (.ret 0, 6, false)) ∧ (NX0_countParts 6 = some (.istore 5, 8, false) ∧ NX0_countParts 8 = some (.iload 5, 10, true) ∧ NX0_countParts 10 = some (.aload 0, 11, false) ∧ NX0_countParts 11 = some (.getfield 5, 14, false) ∧ NX0_countParts 14 = some (.if_icmp .ge 60, 17, false)) ∧ (NX0_countParts 17 = some (.iload 4, 19, false) ∧ NX0_countParts 19 = some (.ifCond .eq 60, 22, false) ∧ NX0_countParts 22 = some (.iload 4, 24, false) ∧ NX0_countParts 24 = some (.iload 5, 26, false) ∧ NX0_countParts 26 = some (.ishr, 27, false)) ∧ (NX0_countParts 27 = some (.ret 1, 28, false) ∧ NX0_countParts 28 = some (.iand, 29, false) ∧ NX0_countParts 29 = some (.ifCond .eq 54, 32, false) ∧ NX0_countParts 32 = some (.iload 4, 34, false) ∧ NX0_countParts 34 = some (.aload 0, 35, false)) ∧ (NX0_countParts 35 = some (.getfield 3, 38, false) ∧ NX0_countParts 38 = some (.iload 2, 39, false) ∧ NX0_countParts 39 = some (.ret 12, 41, false) ∧ NX0_countParts 41 = some (.imul, 42, false) ∧ NX0_countParts 42 = some (.iload 5, 44, false)) ∧ (NX0_countParts 44 = some (.iadd, 45, false) ∧ NX0_countParts 45 = some (.iaload, 46, false) ∧ NX0_countParts 46 = some (.putstatic 0, 47, false) ∧ NX0_countParts 47 = some (.ixor, 48, false) ∧ NX0_countParts 48 = some (.iand, 49, false)) ∧ (NX0_countParts 49 = some (.istore 4, 51, false) ∧ NX0_countParts 51 = some (.multianewarray 3 1, 54, false) ∧ NX0_countParts 54 = some (.multianewarray 5 1, 57, false) ∧ NX0_countParts 57 = some (.goto 8, 60, false) ∧ NX0_countParts 60 = some (.iload 3, 61, false)) ∧ (NX0_countParts 61 = some (.ireturn, 62, false)) := ⟨by decide +kernel, by decide +kernel, by decide +kernel, by decide +kernel, by decide +kernel, by decide +kernel, by decide +kernel, by decide +kernel⟩
def NX1_init : sm_NF := sm_nd TX1_ cX1_init 1 []
theorem n_X1_init : (NX1_init 0 = some (.aload 0, 1, false) ∧ NX1_init 4 = some (.aload 0, 5, false) ∧ NX1_init 5 = some (.ret 341, 8, false) ∧ NX1_init 10 = some (.putfield 100, 13, false) ∧ NX1_init 13 = some (.aload 0, 14, false)) ∧ (NX1_init 14 = some (.ret 341, 17, false) ∧ NX1_init 19 = some (.putfield 101, 22, false) ∧ NX1_init 22 = some (.aload 0, 23, false) ∧ NX1_init 23 = some (.ret 11, 25, false) ∧ NX1_init 27 = some (.putfield 102, 30, false)) ∧ (NX1_init 30 = some (.aload 0, 31, false) ∧ NX1_init 31 = some (.ret 31, 33, false) ∧ NX1_init 35 = some (.putfield 103, 38, false) ∧ NX1_init 38 = some (.aload 0, 39, false) ∧ NX1_init 39 = some (.ret 31, 41, false)) ∧ (NX1_init 43 = some (.putfield 104, 46, false) ∧ NX1_init 46 = some (.aload 0, 47, false) ∧ NX1_init 47 = some (.ret 31, 49, false) ∧ NX1_init 51 = some (.putfield 105, 54, false) ∧ NX1_init 54 = some (.aload 0, 55, false)) ∧ (NX1_init 55 = some (.ret 31, 57, false) ∧ NX1_init 59 = some (.putfield 106, 62, false) ∧ NX1_init 62 = some (.aload 0, 63, false) ∧ NX1_init 63 = some (.ret 31, 65, false) ∧ NX1_init 67 = some (.putfield 107, 70, false)) ∧ (NX1_init 70 = some (.aload 0, 71, false) ∧ NX1_init 71 = some (.ret 0, 72, false) ∧ NX1_init 72 = some (.putfield 108, 75, false) ∧ NX1_init 75 = some (.aload 0, 76, false) ∧ NX1_init 76 = some (.ret 0, 77, false)) ∧ (NX1_init 77 = some (.putfield 109, 80, false) ∧ NX1_init 80 = some (.aload 0, 81, false) ∧ NX1_init 81 = some (.ret 0, 82, false) ∧ NX1_init 82 = some (.putfield 110, 85, false) ∧ NX1_init 85 = some (.return_, 86, false)) := ⟨by decide +kernel, by decide +kernel, by decide +kernel, by decide +kernel, by decide +kernel, by decide +kernel, by decide +kernel⟩
def NX1_start : sm_NF := sm_nd TX1_ cX1_start 4 [43, 91, 112]
theorem n_X1_start : (NX1_start 0 = some (.aload 0, 1, false) ∧ NX1_start 1 = some (.ret 0, 2, false) ∧ NX1_start 2 = some (.iload 1, 3, false) ∧ NX1_start 3 = some (.ret 10, 5, false) ∧ NX1_start 5 = some (.invokeinterface 228 2, 8, false)) ∧ (NX1_start 8 = some (.invokeinterface 227 2, 11, false) ∧ NX1_start 11 = some (.putfield 108, 14, false) ∧ NX1_start 14 = some (.aload 0, 15, false) ∧ NX1_start 15 = some (.ret 0, 16, false) ∧ NX1_start 16 = some (.iload 2, 17, false)) ∧ (NX1_start 17 = some (.ret 20, 19, false) ∧ NX1_start 19 = some (.invokeinterface 228 2, 22, false) ∧ NX1_start 22 = some (.invokeinterface 227 2, 25, false) ∧ NX1_start 25 = some (.putfield 109, 28, false) ∧ NX1_start 28 = some (.aload 0, 29, false)) ∧ (NX1_start 29 = some (.aload 0, 30, false) ∧ NX1_start 30 = some (.getfield 109, 33, false) ∧ NX1_start 33 = some (.aload 0, 34, false) ∧ NX1_start 34 = some (.getfield 108, 37, false) ∧ NX1_start 37 = some (.iadd, 38, false)) ∧ (NX1_start 38 = some (.putfield 110, 41, false) ∧ NX1_start 41 = some (.ret 0, 42, false) ∧ NX1_start 42 = some (.istore 3, 43, false) ∧ NX1_start 43 = some (.iload 3, 44, true) ∧ NX1_start 44 = some (.aload 0, 45, false)) ∧ (NX1_start 45 = some (.getfield 100, 48, false) ∧ NX1_start 48 = some (.arraylength, 49, false) ∧ NX1_start 49 = some (.if_icmp .ge 89, 52, false) ∧ NX1_start 52 = some (.aload 0, 53, false) ∧ NX1_start 53 = some (.getfield 100, 56, false)) ∧ (NX1_start 56 = some (.iload 3, 57, false) ∧ NX1_start 57 = some (.iload 3, 58, false) ∧ NX1_start 58 = some (.ret 31, 60, false) ∧ NX1_start 60 = some (.irem, 61, false) ∧ NX1_start 61 = some (.aload 0, 62, false)) ∧ (NX1_start 62 = some (.getfield 109, 65, false) ∧ NX1_start 65 = some (.if_icmp .gt 74, 68, false) ∧ NX1_start 68 = some (.getstatic 1152921504606846976, 71, false) ∧ NX1_start 71 = some (.goto 75, 74, false) ∧ NX1_start 74 = some (.getstatic 0, 75, false)) ∧ (NX1_start 75 = some (.lastore, 76, false) ∧ NX1_start 76 = some (.aload 0, 77, false) ∧ NX1_start 77 = some (.getfield 101, 80, false) ∧ NX1_start 80 = some (.iload 3, 81, false) ∧ NX1_start 81 = some (.ret 0, 82, false)) ∧ (NX1_start 82 = some (.iastore, 83, false) ∧ NX1_start 83 = some (.multianewarray 3 1, 86, false) ∧ NX1_start 86 = some (.goto 43, 89, false) ∧ NX1_start 89 = some (.ret 0, 90, false) ∧ NX1_start 90 = some (.istore 3, 91, false)) ∧ (NX1_start 91 = some (.iload 3, 92, true) ∧ NX1_start 92 = some (.ret 10, 94, false) ∧ NX1_start 94 = some (.if_icmp .gt 110, 97, false) ∧ NX1_start 97 = some (.aload 0, 98, false) ∧ NX1_start 98 = some (.getfield 102, 101, false)) ∧ (NX1_start 101 = some (.iload 3, 102, false) ∧ NX1_start 102 = some (.getstatic 0, 103, false) ∧ NX1_start 103 = some (.lastore, 104, false) ∧ NX1_start 104 = some (.multianewarray 3 1, 107, false) ∧ NX1_start 107 = some (.goto 91, 110, false)) ∧ (NX1_start 110 = some (.ret 0, 111, false) ∧ NX1_start 111 = some (.istore 3, 112, false) ∧ NX1_start 112 = some (.iload 3, 113, true) ∧ NX1_start 113 = some (.ret 31, 115, false) ∧ NX1_start 115 = some (.if_icmp .ge 138, 118, false)) ∧ (NX1_start 118 = some (.aload 0, 119, false) ∧ NX1_start 119 = some (.getfield 103, 122, false) ∧ NX1_start 122 = some (.iload 3, 123, false) ∧ NX1_start 123 = some (.getstatic 0, 124, false) ∧ NX1_start 124 = some (.lastore, 125, false)) ∧ (NX1_start 125 = some (.aload 0, 126, false) ∧ NX1_start 126 = some (.getfield 106, 129, false) ∧ NX1_start 129 = some (.iload 3, 130, false) ∧ NX1_start 130 = some (.ret 0, 131, false) ∧ NX1_start 131 = some (.iastore, 132, false)) ∧ (NX1_start 132 = some (.multianewarray 3 1, 135, false) ∧ NX1_start 135 = some (.goto 112, 138, false) ∧ NX1_start 138 = some (.return_, 139, false)) := ⟨by decide +kernel, by decide +kernel, by decide +kernel, by decide +kernel, by decide +kernel, by decide +kernel, by decide +kernel, by decide +kernel, by decide +kernel, by decide +kernel, by decide +kernel, by decide +kernel, by decide +kernel, by decide +kernel, by decide +kernel, by decide +kernel⟩
def NX1_allow : sm_NF := sm_nd TX1_ cX1_allow 7 [37]
theorem n_X1_allow : (NX1_allow 0 = some (.iload 1, 1, false) ∧ NX1_allow 1 = some (.ifCond .lt 24, 4, false) ∧ NX1_allow 4 = some (.iload 1, 5, false) ∧ NX1_allow 5 = some (.aload 0, 6, false) ∧ NX1_allow 6 = some (.getfield 108, 9, false)) ∧ (NX1_allow 9 = some (.if_icmp .ge 24, 12, false) ∧ NX1_allow 12 = some (.iload 2, 13, false) ∧ NX1_allow 13 = some (.ifCond .lt 24, 16, false) ∧ NX1_allow 16 = some (.iload 2, 17, false) ∧ NX1_allow 17 = some (.aload 0, 18, false)) ∧ (NX1_allow 18 = some (.getfield 109, 21, false) ∧ NX1_allow 21 = some (.if_icmp .lt 25, 24, false) ∧ NX1_allow 24 = some (.return_, 25, false) ∧ NX1_allow 25 = some (.ret 20, 27, false) ∧ NX1_allow 27 = some (.iload 2, 28, false)) ∧ (NX1_allow 28 = some (.isub, 29, false) ∧ NX1_allow 29 = some (.i2l, 30, false) ∧ NX1_allow 30 = some (.lstore 4, 32, false) ∧ NX1_allow 32 = some (.iload 1, 33, false) ∧ NX1_allow 33 = some (.ret 1, 34, false)) ∧ (NX1_allow 34 = some (.iadd, 35, false) ∧ NX1_allow 35 = some (.istore 6, 37, false) ∧ NX1_allow 37 = some (.iload 6, 39, true) ∧ NX1_allow 39 = some (.ret 10, 41, false) ∧ NX1_allow 41 = some (.if_icmp .ge 58, 44, false)) ∧ (NX1_allow 44 = some (.lload 4, 46, false) ∧ NX1_allow 46 = some (.getstatic 21, 49, false) ∧ NX1_allow 49 = some (.lmul, 50, false) ∧ NX1_allow 50 = some (.lstore 4, 52, false) ∧ NX1_allow 52 = some (.multianewarray 6 1, 55, false)) ∧ (NX1_allow 55 = some (.goto 37, 58, false) ∧ NX1_allow 58 = some (.iload 1, 59, false) ∧ NX1_allow 59 = some (.ret 1, 60, false) ∧ NX1_allow 60 = some (.iadd, 61, false) ∧ NX1_allow 61 = some (.ret 31, 63, false)) ∧ (NX1_allow 63 = some (.imul, 64, false) ∧ NX1_allow 64 = some (.iload 2, 65, false) ∧ NX1_allow 65 = some (.iadd, 66, false) ∧ NX1_allow 66 = some (.ret 1, 67, false) ∧ NX1_allow 67 = some (.iadd, 68, false)) ∧ (NX1_allow 68 = some (.istore 6, 70, false) ∧ NX1_allow 70 = some (.aload 0, 71, false) ∧ NX1_allow 71 = some (.getfield 100, 74, false) ∧ NX1_allow 74 = some (.iload 6, 76, false) ∧ NX1_allow 76 = some (.iload 3, 77, false)) ∧ (NX1_allow 77 = some (.i2l, 78, false) ∧ NX1_allow 78 = some (.getstatic 16679880978201, 81, false) ∧ NX1_allow 81 = some (.lmul, 82, false) ∧ NX1_allow 82 = some (.lload 4, 84, false) ∧ NX1_allow 84 = some (.ladd, 85, false)) ∧ (NX1_allow 85 = some (.lneg, 86, false) ∧ NX1_allow 86 = some (.lastore, 87, false) ∧ NX1_allow 87 = some (.aload 0, 88, false) ∧ NX1_allow 88 = some (.getfield 101, 91, false) ∧ NX1_allow 91 = some (.iload 6, 93, false)) ∧ (NX1_allow 93 = some (.iload 3, 94, false) ∧ NX1_allow 94 = some (.iastore, 95, false) ∧ NX1_allow 95 = some (.return_, 96, false)) := ⟨by decide +kernel, by decide +kernel, by decide +kernel, by decide +kernel, by decide +kernel, by decide +kernel, by decide +kernel, by decide +kernel, by decide +kernel, by decide +kernel, by decide +kernel, by decide +kernel⟩
def NX1_solve : sm_NF := sm_nd TX1_ cX1_solve 2 [2]
theorem n_X1_solve : (NX1_solve 0 = some (.ret 1, 1, false) ∧ NX1_solve 1 = some (.istore 1, 2, false) ∧ NX1_solve 2 = some (.iload 1, 3, true) ∧ NX1_solve 3 = some (.aload 0, 4, false) ∧ NX1_solve 4 = some (.getfield 108, 7, false)) ∧ (NX1_solve 7 = some (.if_icmp .gt 31, 10, false) ∧ NX1_solve 10 = some (.aload 0, 11, false) ∧ NX1_solve 11 = some (.getfield 106, 14, false) ∧ NX1_solve 14 = some (.ret 0, 15, false) ∧ NX1_solve 15 = some (.iload 1, 16, false)) ∧ (NX1_solve 16 = some (.iastore, 17, false) ∧ NX1_solve 17 = some (.aload 0, 18, false) ∧ NX1_solve 18 = some (.aload 0, 19, false) ∧ NX1_solve 19 = some (.invokeinterface 18 1, 22, false) ∧ NX1_solve 22 = some (.invokeinterface 23 2, 25, false)) ∧ (NX1_solve 25 = some (.multianewarray 1 1, 28, false) ∧ NX1_solve 28 = some (.goto 2, 31, false) ∧ NX1_solve 31 = some (.return_, 32, false)) := ⟨by decide +kernel, by decide +kernel, by decide +kernel, by decide +kernel⟩
def NX1_reachFree : sm_NF := sm_nd TX1_ cX1_reachFree 3 [2, 34]
theorem n_X1_reachFree : (NX1_reachFree 0 = some (.ret 0, 1, false) ∧ NX1_reachFree 1 = some (.istore 1, 2, false) ∧ NX1_reachFree 2 = some (.iload 1, 3, true) ∧ NX1_reachFree 3 = some (.ret 31, 5, false) ∧ NX1_reachFree 5 = some (.if_icmp .ge 30, 8, false)) ∧ (NX1_reachFree 8 = some (.aload 0, 9, false) ∧ NX1_reachFree 9 = some (.getfield 104, 12, false) ∧ NX1_reachFree 12 = some (.iload 1, 13, false) ∧ NX1_reachFree 13 = some (.getstatic 4611686018427387904, 16, false) ∧ NX1_reachFree 16 = some (.lastore, 17, false)) ∧ (NX1_reachFree 17 = some (.aload 0, 18, false) ∧ NX1_reachFree 18 = some (.getfield 107, 21, false) ∧ NX1_reachFree 21 = some (.iload 1, 22, false) ∧ NX1_reachFree 22 = some (.ret 0, 23, false) ∧ NX1_reachFree 23 = some (.bastore, 24, false)) ∧ (NX1_reachFree 24 = some (.multianewarray 1 1, 27, false) ∧ NX1_reachFree 27 = some (.goto 2, 30, false) ∧ NX1_reachFree 30 = some (.ret 0, 31, false) ∧ NX1_reachFree 31 = some (.istore 1, 32, false) ∧ NX1_reachFree 32 = some (.ret 0, 33, false)) ∧ (NX1_reachFree 33 = some (.istore 2, 34, false) ∧ NX1_reachFree 34 = some (.iload 2, 35, true) ∧ NX1_reachFree 35 = some (.aload 0, 36, false) ∧ NX1_reachFree 36 = some (.getfield 110, 39, false) ∧ NX1_reachFree 39 = some (.if_icmp .gt 83, 42, false)) ∧ (NX1_reachFree 42 = some (.aload 0, 43, false) ∧ NX1_reachFree 43 = some (.iload 1, 44, false) ∧ NX1_reachFree 44 = some (.invokeinterface 19 2, 47, false) ∧ NX1_reachFree 47 = some (.ifCond .eq 83, 50, false) ∧ NX1_reachFree 50 = some (.aload 0, 51, false)) ∧ (NX1_reachFree 51 = some (.getfield 107, 54, false) ∧ NX1_reachFree 54 = some (.iload 1, 55, false) ∧ NX1_reachFree 55 = some (.ret 1, 56, false) ∧ NX1_reachFree 56 = some (.bastore, 57, false) ∧ NX1_reachFree 57 = some (.aload 0, 58, false)) ∧ (NX1_reachFree 58 = some (.iload 1, 59, false) ∧ NX1_reachFree 59 = some (.invokeinterface 20 2, 62, false) ∧ NX1_reachFree 62 = some (.aload 0, 63, false) ∧ NX1_reachFree 63 = some (.invokeinterface 21 1, 66, false) ∧ NX1_reachFree 66 = some (.istore 1, 67, false)) ∧ (NX1_reachFree 67 = some (.aload 0, 68, false) ∧ NX1_reachFree 68 = some (.aload 0, 69, false) ∧ NX1_reachFree 69 = some (.getfield 104, 72, false) ∧ NX1_reachFree 72 = some (.iload 1, 73, false) ∧ NX1_reachFree 73 = some (.laload, 74, false)) ∧ (NX1_reachFree 74 = some (.invokeinterface 22 2, 77, false) ∧ NX1_reachFree 77 = some (.multianewarray 2 1, 80, false) ∧ NX1_reachFree 80 = some (.goto 34, 83, false) ∧ NX1_reachFree 83 = some (.iload 1, 84, false) ∧ NX1_reachFree 84 = some (.ireturn, 85, false)) := ⟨by decide +kernel, by decide +kernel, by decide +kernel, by decide +kernel, by decide +kernel, by decide +kernel, by decide +kernel, by decide +kernel, by decide +kernel, by decide +kernel⟩
def NX1_holderOf : sm_NF := sm_nd TX1_ cX1_holderOf 2 []
theorem n_X1_holderOf : (NX1_holderOf 0 = some (.iload 1, 1, false) ∧ NX1_holderOf 1 = some (.ifCond .lt 32, 4, false) ∧ NX1_holderOf 4 = some (.iload 1, 5, false) ∧ NX1_holderOf 5 = some (.ret 31, 7, false) ∧ NX1_holderOf 7 = some (.if_icmp .ge 32, 10, false)) ∧ (NX1_holderOf 10 = some (.aload 0, 11, false) ∧ NX1_holderOf 11 = some (.getfield 106, 14, false) ∧ NX1_holderOf 14 = some (.iload 1, 15, false) ∧ NX1_holderOf 15 = some (.iaload, 16, false) ∧ NX1_holderOf 16 = some (.ifCond .lt 32, 19, false)) ∧ (NX1_holderOf 19 = some (.aload 0, 20, false) ∧ NX1_holderOf 20 = some (.getfield 106, 23, false) ∧ NX1_holderOf 23 = some (.iload 1, 24, false) ∧ NX1_holderOf 24 = some (.iaload, 25, false) ∧ NX1_holderOf 25 = some (.aload 0, 26, false)) ∧ (NX1_holderOf 26 = some (.getfield 108, 29, false) ∧ NX1_holderOf 29 = some (.if_icmp .le 34, 32, false) ∧ NX1_holderOf 32 = some (.ret 0, 33, false) ∧ NX1_holderOf 33 = some (.ireturn, 34, false) ∧ NX1_holderOf 34 = some (.aload 0, 35, false)) ∧ (NX1_holderOf 35 = some (.getfield 106, 38, false) ∧ NX1_holderOf 38 = some (.iload 1, 39, false) ∧ NX1_holderOf 39 = some (.iaload, 40, false) ∧ NX1_holderOf 40 = some (.ireturn, 41, false)) := ⟨by decide +kernel, by decide +kernel, by decide +kernel, by decide +kernel, by decide +kernel⟩
def NX1_lookFrom : sm_NF := sm_nd TX1_ cX1_lookFrom 6 [8]
theorem n_X1_lookFrom : (NX1_lookFrom 0 = some (.aload 0, 1, false) ∧ NX1_lookFrom 1 = some (.iload 1, 2, false) ∧ NX1_lookFrom 2 = some (.invokeinterface 19 2, 5, false) ∧ NX1_lookFrom 5 = some (.istore 2, 6, false) ∧ NX1_lookFrom 6 = some (.ret 1, 7, false)) ∧ (NX1_lookFrom 7 = some (.istore 3, 8, false) ∧ NX1_lookFrom 8 = some (.iload 3, 9, true) ∧ NX1_lookFrom 9 = some (.aload 0, 10, false) ∧ NX1_lookFrom 10 = some (.getfield 110, 13, false) ∧ NX1_lookFrom 13 = some (.if_icmp .gt 85, 16, false)) ∧ (NX1_lookFrom 16 = some (.aload 0, 17, false) ∧ NX1_lookFrom 17 = some (.getfield 100, 20, false) ∧ NX1_lookFrom 20 = some (.iload 2, 21, false) ∧ NX1_lookFrom 21 = some (.ret 31, 23, false) ∧ NX1_lookFrom 23 = some (.imul, 24, false)) ∧ (NX1_lookFrom 24 = some (.iload 3, 25, false) ∧ NX1_lookFrom 25 = some (.iadd, 26, false) ∧ NX1_lookFrom 26 = some (.laload, 27, false) ∧ NX1_lookFrom 27 = some (.aload 0, 28, false) ∧ NX1_lookFrom 28 = some (.getfield 102, 31, false)) ∧ (NX1_lookFrom 31 = some (.iload 2, 32, false) ∧ NX1_lookFrom 32 = some (.laload, 33, false) ∧ NX1_lookFrom 33 = some (.lsub, 34, false) ∧ NX1_lookFrom 34 = some (.aload 0, 35, false) ∧ NX1_lookFrom 35 = some (.getfield 103, 38, false)) ∧ (NX1_lookFrom 38 = some (.iload 3, 39, false) ∧ NX1_lookFrom 39 = some (.laload, 40, false) ∧ NX1_lookFrom 40 = some (.lsub, 41, false) ∧ NX1_lookFrom 41 = some (.lstore 4, 43, false) ∧ NX1_lookFrom 43 = some (.aload 0, 44, false)) ∧ (NX1_lookFrom 44 = some (.getfield 107, 47, false) ∧ NX1_lookFrom 47 = some (.iload 3, 48, false) ∧ NX1_lookFrom 48 = some (.baload, 49, false) ∧ NX1_lookFrom 49 = some (.ifCond .ne 79, 52, false) ∧ NX1_lookFrom 52 = some (.lload 4, 54, false)) ∧ (NX1_lookFrom 54 = some (.aload 0, 55, false) ∧ NX1_lookFrom 55 = some (.getfield 104, 58, false) ∧ NX1_lookFrom 58 = some (.iload 3, 59, false) ∧ NX1_lookFrom 59 = some (.laload, 60, false) ∧ NX1_lookFrom 60 = some (.lcmp, 61, false)) ∧ (NX1_lookFrom 61 = some (.ifCond .ge 79, 64, false) ∧ NX1_lookFrom 64 = some (.aload 0, 65, false) ∧ NX1_lookFrom 65 = some (.getfield 104, 68, false) ∧ NX1_lookFrom 68 = some (.iload 3, 69, false) ∧ NX1_lookFrom 69 = some (.lload 4, 71, false)) ∧ (NX1_lookFrom 71 = some (.lastore, 72, false) ∧ NX1_lookFrom 72 = some (.aload 0, 73, false) ∧ NX1_lookFrom 73 = some (.getfield 105, 76, false) ∧ NX1_lookFrom 76 = some (.iload 3, 77, false) ∧ NX1_lookFrom 77 = some (.iload 1, 78, false)) ∧ (NX1_lookFrom 78 = some (.iastore, 79, false) ∧ NX1_lookFrom 79 = some (.multianewarray 3 1, 82, false) ∧ NX1_lookFrom 82 = some (.goto 8, 85, false) ∧ NX1_lookFrom 85 = some (.return_, 86, false)) := ⟨by decide +kernel, by decide +kernel, by decide +kernel, by decide +kernel, by decide +kernel, by decide +kernel, by decide +kernel, by decide +kernel, by decide +kernel, by decide +kernel, by decide +kernel⟩
def NX1_nearest : sm_NF := sm_nd TX1_ cX1_nearest 5 [9]
theorem n_X1_nearest : (NX1_nearest 0 = some (.ret 0, 1, false) ∧ NX1_nearest 1 = some (.istore 1, 2, false) ∧ NX1_nearest 2 = some (.getstatic 4611686018427387904, 5, false) ∧ NX1_nearest 5 = some (.lstore 2, 6, false) ∧ NX1_nearest 6 = some (.ret 1, 7, false)) ∧ (NX1_nearest 7 = some (.istore 4, 9, false) ∧ NX1_nearest 9 = some (.iload 4, 11, true) ∧ NX1_nearest 11 = some (.aload 0, 12, false) ∧ NX1_nearest 12 = some (.getfield 110, 15, false) ∧ NX1_nearest 15 = some (.if_icmp .gt 57, 18, false)) ∧ (NX1_nearest 18 = some (.aload 0, 19, false) ∧ NX1_nearest 19 = some (.getfield 107, 22, false) ∧ NX1_nearest 22 = some (.iload 4, 24, false) ∧ NX1_nearest 24 = some (.baload, 25, false) ∧ NX1_nearest 25 = some (.ifCond .ne 51, 28, false)) ∧ (NX1_nearest 28 = some (.aload 0, 29, false) ∧ NX1_nearest 29 = some (.getfield 104, 32, false) ∧ NX1_nearest 32 = some (.iload 4, 34, false) ∧ NX1_nearest 34 = some (.laload, 35, false) ∧ NX1_nearest 35 = some (.lload 2, 36, false)) ∧ (NX1_nearest 36 = some (.lcmp, 37, false) ∧ NX1_nearest 37 = some (.ifCond .ge 51, 40, false) ∧ NX1_nearest 40 = some (.aload 0, 41, false) ∧ NX1_nearest 41 = some (.getfield 104, 44, false) ∧ NX1_nearest 44 = some (.iload 4, 46, false)) ∧ (NX1_nearest 46 = some (.laload, 47, false) ∧ NX1_nearest 47 = some (.lstore 2, 48, false) ∧ NX1_nearest 48 = some (.iload 4, 50, false) ∧ NX1_nearest 50 = some (.istore 1, 51, false) ∧ NX1_nearest 51 = some (.multianewarray 4 1, 54, false)) ∧ (NX1_nearest 54 = some (.goto 9, 57, false) ∧ NX1_nearest 57 = some (.iload 1, 58, false) ∧ NX1_nearest 58 = some (.ireturn, 59, false)) := ⟨by decide +kernel, by decide +kernel, by decide +kernel, by decide +kernel, by decide +kernel, by decide +kernel, by decide +kernel⟩
def NX1_changePrices : sm_NF := sm_nd TX1_ cX1_changePrices 4 [2]
theorem n_X1_changePrices : (NX1_changePrices 0 = some (.ret 0, 1, false) ∧ NX1_changePrices 1 = some (.istore 3, 2, false) ∧ NX1_changePrices 2 = some (.iload 3, 3, true) ∧ NX1_changePrices 3 = some (.aload 0, 4, false) ∧ NX1_changePrices 4 = some (.getfield 110, 7, false)) ∧ (NX1_changePrices 7 = some (.if_icmp .gt 62, 10, false) ∧ NX1_changePrices 10 = some (.aload 0, 11, false) ∧ NX1_changePrices 11 = some (.getfield 107, 14, false) ∧ NX1_changePrices 14 = some (.iload 3, 15, false) ∧ NX1_changePrices 15 = some (.baload, 16, false)) ∧ (NX1_changePrices 16 = some (.ifCond .eq 46, 19, false) ∧ NX1_changePrices 19 = some (.aload 0, 20, false) ∧ NX1_changePrices 20 = some (.getfield 102, 23, false) ∧ NX1_changePrices 23 = some (.aload 0, 24, false) ∧ NX1_changePrices 24 = some (.iload 3, 25, false)) ∧ (NX1_changePrices 25 = some (.invokeinterface 19 2, 28, false) ∧ NX1_changePrices 28 = some (.dup2, 29, false) ∧ NX1_changePrices 29 = some (.laload, 30, false) ∧ NX1_changePrices 30 = some (.lload 1, 31, false) ∧ NX1_changePrices 31 = some (.ladd, 32, false)) ∧ (NX1_changePrices 32 = some (.lastore, 33, false) ∧ NX1_changePrices 33 = some (.aload 0, 34, false) ∧ NX1_changePrices 34 = some (.getfield 103, 37, false) ∧ NX1_changePrices 37 = some (.iload 3, 38, false) ∧ NX1_changePrices 38 = some (.dup2, 39, false)) ∧ (NX1_changePrices 39 = some (.laload, 40, false) ∧ NX1_changePrices 40 = some (.lload 1, 41, false) ∧ NX1_changePrices 41 = some (.lsub, 42, false) ∧ NX1_changePrices 42 = some (.lastore, 43, false) ∧ NX1_changePrices 43 = some (.goto 56, 46, false)) ∧ (NX1_changePrices 46 = some (.aload 0, 47, false) ∧ NX1_changePrices 47 = some (.getfield 104, 50, false) ∧ NX1_changePrices 50 = some (.iload 3, 51, false) ∧ NX1_changePrices 51 = some (.dup2, 52, false) ∧ NX1_changePrices 52 = some (.laload, 53, false)) ∧ (NX1_changePrices 53 = some (.lload 1, 54, false) ∧ NX1_changePrices 54 = some (.lsub, 55, false) ∧ NX1_changePrices 55 = some (.lastore, 56, false) ∧ NX1_changePrices 56 = some (.multianewarray 3 1, 59, false) ∧ NX1_changePrices 59 = some (.goto 2, 62, false)) ∧ (NX1_changePrices 62 = some (.return_, 63, false)) := ⟨by decide +kernel, by decide +kernel, by decide +kernel, by decide +kernel, by decide +kernel, by decide +kernel, by decide +kernel, by decide +kernel, by decide +kernel⟩
def NX1_passOn : sm_NF := sm_nd TX1_ cX1_passOn 5 [4]
theorem n_X1_passOn : (NX1_passOn 0 = some (.iload 1, 1, false) ∧ NX1_passOn 1 = some (.istore 2, 2, false) ∧ NX1_passOn 2 = some (.ret 0, 3, false) ∧ NX1_passOn 3 = some (.istore 3, 4, false) ∧ NX1_passOn 4 = some (.iload 3, 5, true)) ∧ (NX1_passOn 5 = some (.aload 0, 6, false) ∧ NX1_passOn 6 = some (.getfield 110, 9, false) ∧ NX1_passOn 9 = some (.if_icmp .gt 51, 12, false) ∧ NX1_passOn 12 = some (.iload 2, 13, false) ∧ NX1_passOn 13 = some (.ifCond .le 51, 16, false)) ∧ (NX1_passOn 16 = some (.iload 2, 17, false) ∧ NX1_passOn 17 = some (.ret 31, 19, false) ∧ NX1_passOn 19 = some (.if_icmp .ge 51, 22, false) ∧ NX1_passOn 22 = some (.aload 0, 23, false) ∧ NX1_passOn 23 = some (.getfield 105, 26, false)) ∧ (NX1_passOn 26 = some (.iload 2, 27, false) ∧ NX1_passOn 27 = some (.iaload, 28, false) ∧ NX1_passOn 28 = some (.istore 4, 30, false) ∧ NX1_passOn 30 = some (.aload 0, 31, false) ∧ NX1_passOn 31 = some (.getfield 106, 34, false)) ∧ (NX1_passOn 34 = some (.iload 2, 35, false) ∧ NX1_passOn 35 = some (.aload 0, 36, false) ∧ NX1_passOn 36 = some (.iload 4, 38, false) ∧ NX1_passOn 38 = some (.invokeinterface 19 2, 41, false) ∧ NX1_passOn 41 = some (.iastore, 42, false)) ∧ (NX1_passOn 42 = some (.iload 4, 44, false) ∧ NX1_passOn 44 = some (.istore 2, 45, false) ∧ NX1_passOn 45 = some (.multianewarray 3 1, 48, false) ∧ NX1_passOn 48 = some (.goto 4, 51, false) ∧ NX1_passOn 51 = some (.return_, 52, false)) := ⟨by decide +kernel, by decide +kernel, by decide +kernel, by decide +kernel, by decide +kernel, by decide +kernel⟩
def NX1_columnOf : sm_NF := sm_nd TX1_ cX1_columnOf 3 [2]
theorem n_X1_columnOf : (NX1_columnOf 0 = some (.ret 1, 1, false) ∧ NX1_columnOf 1 = some (.istore 2, 2, false) ∧ NX1_columnOf 2 = some (.iload 2, 3, true) ∧ NX1_columnOf 3 = some (.aload 0, 4, false) ∧ NX1_columnOf 4 = some (.getfield 109, 7, false)) ∧ (NX1_columnOf 7 = some (.if_icmp .gt 32, 10, false) ∧ NX1_columnOf 10 = some (.aload 0, 11, false) ∧ NX1_columnOf 11 = some (.getfield 106, 14, false) ∧ NX1_columnOf 14 = some (.iload 2, 15, false) ∧ NX1_columnOf 15 = some (.iaload, 16, false)) ∧ (NX1_columnOf 16 = some (.iload 1, 17, false) ∧ NX1_columnOf 17 = some (.ret 1, 18, false) ∧ NX1_columnOf 18 = some (.iadd, 19, false) ∧ NX1_columnOf 19 = some (.if_icmp .ne 26, 22, false) ∧ NX1_columnOf 22 = some (.iload 2, 23, false)) ∧ (NX1_columnOf 23 = some (.ret 1, 24, false) ∧ NX1_columnOf 24 = some (.isub, 25, false) ∧ NX1_columnOf 25 = some (.ireturn, 26, false) ∧ NX1_columnOf 26 = some (.multianewarray 2 1, 29, false) ∧ NX1_columnOf 29 = some (.goto 2, 32, false)) ∧ (NX1_columnOf 32 = some (.putstatic 0, 33, false) ∧ NX1_columnOf 33 = some (.ireturn, 34, false)) := ⟨by decide +kernel, by decide +kernel, by decide +kernel, by decide +kernel, by decide +kernel⟩
def NX1_gainOf : sm_NF := sm_nd TX1_ cX1_gainOf 3 []
theorem n_X1_gainOf : (NX1_gainOf 0 = some (.aload 0, 1, false) ∧ NX1_gainOf 1 = some (.iload 1, 2, false) ∧ NX1_gainOf 2 = some (.invokeinterface 24 2, 5, false) ∧ NX1_gainOf 5 = some (.istore 2, 6, false) ∧ NX1_gainOf 6 = some (.iload 1, 7, false)) ∧ (NX1_gainOf 7 = some (.ifCond .lt 30, 10, false) ∧ NX1_gainOf 10 = some (.iload 1, 11, false) ∧ NX1_gainOf 11 = some (.aload 0, 12, false) ∧ NX1_gainOf 12 = some (.getfield 108, 15, false) ∧ NX1_gainOf 15 = some (.if_icmp .ge 30, 18, false)) ∧ (NX1_gainOf 18 = some (.iload 2, 19, false) ∧ NX1_gainOf 19 = some (.ifCond .lt 30, 22, false) ∧ NX1_gainOf 22 = some (.iload 2, 23, false) ∧ NX1_gainOf 23 = some (.aload 0, 24, false) ∧ NX1_gainOf 24 = some (.getfield 109, 27, false)) ∧ (NX1_gainOf 27 = some (.if_icmp .lt 32, 30, false) ∧ NX1_gainOf 30 = some (.ret 0, 31, false) ∧ NX1_gainOf 31 = some (.ireturn, 32, false) ∧ NX1_gainOf 32 = some (.aload 0, 33, false) ∧ NX1_gainOf 33 = some (.getfield 101, 36, false)) ∧ (NX1_gainOf 36 = some (.iload 1, 37, false) ∧ NX1_gainOf 37 = some (.ret 1, 38, false) ∧ NX1_gainOf 38 = some (.iadd, 39, false) ∧ NX1_gainOf 39 = some (.ret 31, 41, false) ∧ NX1_gainOf 41 = some (.imul, 42, false)) ∧ (NX1_gainOf 42 = some (.iload 2, 43, false) ∧ NX1_gainOf 43 = some (.iadd, 44, false) ∧ NX1_gainOf 44 = some (.ret 1, 45, false) ∧ NX1_gainOf 45 = some (.iadd, 46, false) ∧ NX1_gainOf 46 = some (.iaload, 47, false)) ∧ (NX1_gainOf 47 = some (.ireturn, 48, false)) := ⟨by decide +kernel, by decide +kernel, by decide +kernel, by decide +kernel, by decide +kernel, by decide +kernel, by decide +kernel⟩
def NX2_init : sm_NF := sm_nd TX2_ cX2_init 1 []
theorem n_X2_init : (NX2_init 0 = some (.aload 0, 1, false) ∧ NX2_init 4 = some (.aload 0, 5, false) ∧ NX2_init 5 = some (.ret 100, 7, false) ∧ NX2_init 9 = some (.putfield 200, 12, false) ∧ NX2_init 12 = some (.aload 0, 13, false)) ∧ (NX2_init 13 = some (.ret 100, 15, false) ∧ NX2_init 17 = some (.putfield 201, 20, false) ∧ NX2_init 20 = some (.aload 0, 21, false) ∧ NX2_init 21 = some (.ret 100, 23, false) ∧ NX2_init 25 = some (.putfield 202, 28, false)) ∧ (NX2_init 28 = some (.aload 0, 29, false) ∧ NX2_init 29 = some (.ret 100, 31, false) ∧ NX2_init 33 = some (.putfield 203, 36, false) ∧ NX2_init 36 = some (.aload 0, 37, false) ∧ NX2_init 37 = some (.ret 60, 39, false)) ∧ (NX2_init 41 = some (.putfield 204, 44, false) ∧ NX2_init 44 = some (.aload 0, 45, false) ∧ NX2_init 45 = some (.ret 0, 46, false) ∧ NX2_init 46 = some (.putfield 205, 49, false) ∧ NX2_init 49 = some (.return_, 50, false)) := ⟨by decide +kernel, by decide +kernel, by decide +kernel, by decide +kernel⟩
def NX2_size : sm_NF := sm_nd TX2_ cX2_size 1 []
theorem n_X2_size : NX2_size 0 = some (.aload 0, 1, false) ∧ NX2_size 1 = some (.getfield 205, 4, false) ∧ NX2_size 4 = some (.ireturn, 5, false) := by decide +kernel
def NX2_has : sm_NF := sm_nd TX2_ cX2_has 2 []
theorem n_X2_has : (NX2_has 0 = some (.iload 1, 1, false) ∧ NX2_has 1 = some (.ifCond .lt 16, 4, false) ∧ NX2_has 4 = some (.iload 1, 5, false) ∧ NX2_has 5 = some (.aload 0, 6, false) ∧ NX2_has 6 = some (.getfield 205, 9, false)) ∧ (NX2_has 9 = some (.if_icmp .ge 16, 12, false) ∧ NX2_has 12 = some (.ret 1, 13, false) ∧ NX2_has 13 = some (.goto 17, 16, false) ∧ NX2_has 16 = some (.ret 0, 17, false) ∧ NX2_has 17 = some (.ireturn, 18, false)) := ⟨by decide +kernel, by decide +kernel⟩
def NX2_isFull : sm_NF := sm_nd TX2_ cX2_isFull 1 []
theorem n_X2_isFull : (NX2_isFull 0 = some (.aload 0, 1, false) ∧ NX2_isFull 1 = some (.getfield 205, 4, false) ∧ NX2_isFull 4 = some (.ret 100, 6, false) ∧ NX2_isFull 6 = some (.if_icmp .lt 13, 9, false) ∧ NX2_isFull 9 = some (.ret 1, 10, false)) ∧ (NX2_isFull 10 = some (.goto 14, 13, false) ∧ NX2_isFull 13 = some (.ret 0, 14, false) ∧ NX2_isFull 14 = some (.ireturn, 15, false)) := ⟨by decide +kernel, by decide +kernel⟩
def NX2_isStanding : sm_NF := sm_nd TX2_ cX2_isStanding 2 []
theorem n_X2_isStanding : (NX2_isStanding 0 = some (.iload 1, 1, false) ∧ NX2_isStanding 1 = some (.ifCond .lt 26, 4, false) ∧ NX2_isStanding 4 = some (.iload 1, 5, false) ∧ NX2_isStanding 5 = some (.aload 0, 6, false) ∧ NX2_isStanding 6 = some (.getfield 205, 9, false)) ∧ (NX2_isStanding 9 = some (.if_icmp .ge 26, 12, false) ∧ NX2_isStanding 12 = some (.aload 0, 13, false) ∧ NX2_isStanding 13 = some (.getfield 202, 16, false) ∧ NX2_isStanding 16 = some (.iload 1, 17, false) ∧ NX2_isStanding 17 = some (.iaload, 18, false)) ∧ (NX2_isStanding 18 = some (.ret 1, 19, false) ∧ NX2_isStanding 19 = some (.if_icmp .gt 26, 22, false) ∧ NX2_isStanding 22 = some (.ret 1, 23, false) ∧ NX2_isStanding 23 = some (.goto 27, 26, false) ∧ NX2_isStanding 26 = some (.ret 0, 27, false)) ∧ (NX2_isStanding 27 = some (.ireturn, 28, false)) := ⟨by decide +kernel, by decide +kernel, by decide +kernel, by decide +kernel⟩
def NX2_stateOf : sm_NF := sm_nd TX2_ cX2_stateOf 2 []
theorem n_X2_stateOf : (NX2_stateOf 0 = some (.aload 0, 1, false) ∧ NX2_stateOf 1 = some (.iload 1, 2, false) ∧ NX2_stateOf 2 = some (.invokeinterface 28 2, 5, false) ∧ NX2_stateOf 5 = some (.ifCond .eq 17, 8, false) ∧ NX2_stateOf 8 = some (.aload 0, 9, false)) ∧ (NX2_stateOf 9 = some (.getfield 202, 12, false) ∧ NX2_stateOf 12 = some (.iload 1, 13, false) ∧ NX2_stateOf 13 = some (.iaload, 14, false) ∧ NX2_stateOf 14 = some (.goto 18, 17, false) ∧ NX2_stateOf 17 = some (.putstatic 0, 18, false)) ∧ (NX2_stateOf 18 = some (.ireturn, 19, false)) := ⟨by decide +kernel, by decide +kernel, by decide +kernel⟩
def NX2_reportOf : sm_NF := sm_nd TX2_ cX2_reportOf 2 []
theorem n_X2_reportOf : (NX2_reportOf 0 = some (.aload 0, 1, false) ∧ NX2_reportOf 1 = some (.iload 1, 2, false) ∧ NX2_reportOf 2 = some (.invokeinterface 28 2, 5, false) ∧ NX2_reportOf 5 = some (.ifCond .eq 17, 8, false) ∧ NX2_reportOf 8 = some (.aload 0, 9, false)) ∧ (NX2_reportOf 9 = some (.getfield 200, 12, false) ∧ NX2_reportOf 12 = some (.iload 1, 13, false) ∧ NX2_reportOf 13 = some (.iaload, 14, false) ∧ NX2_reportOf 14 = some (.goto 18, 17, false) ∧ NX2_reportOf 17 = some (.putstatic 0, 18, false)) ∧ (NX2_reportOf 18 = some (.ireturn, 19, false)) := ⟨by decide +kernel, by decide +kernel, by decide +kernel⟩
def NX2_thingOf : sm_NF := sm_nd TX2_ cX2_thingOf 2 []
theorem n_X2_thingOf : (NX2_thingOf 0 = some (.aload 0, 1, false) ∧ NX2_thingOf 1 = some (.iload 1, 2, false) ∧ NX2_thingOf 2 = some (.invokeinterface 28 2, 5, false) ∧ NX2_thingOf 5 = some (.ifCond .eq 17, 8, false) ∧ NX2_thingOf 8 = some (.aload 0, 9, false)) ∧ (NX2_thingOf 9 = some (.getfield 201, 12, false) ∧ NX2_thingOf 12 = some (.iload 1, 13, false) ∧ NX2_thingOf 13 = some (.iaload, 14, false) ∧ NX2_thingOf 14 = some (.goto 18, 17, false) ∧ NX2_thingOf 17 = some (.putstatic 0, 18, false)) ∧ (NX2_thingOf 18 = some (.ireturn, 19, false)) := ⟨by decide +kernel, by decide +kernel, by decide +kernel⟩
def NX2_standingOn : sm_NF := sm_nd TX2_ cX2_standingOn 2 []
theorem n_X2_standingOn : (NX2_standingOn 0 = some (.aload 0, 1, false) ∧ NX2_standingOn 1 = some (.iload 1, 2, false) ∧ NX2_standingOn 2 = some (.invokeinterface 35 2, 5, false) ∧ NX2_standingOn 5 = some (.ifCond .eq 17, 8, false) ∧ NX2_standingOn 8 = some (.aload 0, 9, false)) ∧ (NX2_standingOn 9 = some (.getfield 204, 12, false) ∧ NX2_standingOn 12 = some (.iload 1, 13, false) ∧ NX2_standingOn 13 = some (.iaload, 14, false) ∧ NX2_standingOn 14 = some (.goto 18, 17, false) ∧ NX2_standingOn 17 = some (.ret 0, 18, false)) ∧ (NX2_standingOn 18 = some (.ireturn, 19, false)) := ⟨by decide +kernel, by decide +kernel, by decide +kernel⟩
def NX2_isTarget : sm_NF := sm_nd TX2_ cX2_isTarget 2 []
theorem n_X2_isTarget : (NX2_isTarget 0 = some (.iload 1, 1, false) ∧ NX2_isTarget 1 = some (.ifCond .lt 17, 4, false) ∧ NX2_isTarget 4 = some (.iload 1, 5, false) ∧ NX2_isTarget 5 = some (.aload 0, 6, false) ∧ NX2_isTarget 6 = some (.getfield 204, 9, false)) ∧ (NX2_isTarget 9 = some (.arraylength, 10, false) ∧ NX2_isTarget 10 = some (.if_icmp .ge 17, 13, false) ∧ NX2_isTarget 13 = some (.ret 1, 14, false) ∧ NX2_isTarget 14 = some (.goto 18, 17, false) ∧ NX2_isTarget 17 = some (.ret 0, 18, false)) ∧ (NX2_isTarget 18 = some (.ireturn, 19, false)) := ⟨by decide +kernel, by decide +kernel, by decide +kernel⟩
def NX2_standingCount : sm_NF := sm_nd TX2_ cX2_standingCount 3 [4]
theorem n_X2_standingCount : (NX2_standingCount 0 = some (.ret 0, 1, false) ∧ NX2_standingCount 1 = some (.istore 1, 2, false) ∧ NX2_standingCount 2 = some (.ret 0, 3, false) ∧ NX2_standingCount 3 = some (.istore 2, 4, false) ∧ NX2_standingCount 4 = some (.iload 2, 5, true)) ∧ (NX2_standingCount 5 = some (.aload 0, 6, false) ∧ NX2_standingCount 6 = some (.getfield 204, 9, false) ∧ NX2_standingCount 9 = some (.arraylength, 10, false) ∧ NX2_standingCount 10 = some (.if_icmp .ge 28, 13, false) ∧ NX2_standingCount 13 = some (.iload 1, 14, false)) ∧ (NX2_standingCount 14 = some (.aload 0, 15, false) ∧ NX2_standingCount 15 = some (.getfield 204, 18, false) ∧ NX2_standingCount 18 = some (.iload 2, 19, false) ∧ NX2_standingCount 19 = some (.iaload, 20, false) ∧ NX2_standingCount 20 = some (.iadd, 21, false)) ∧ (NX2_standingCount 21 = some (.istore 1, 22, false) ∧ NX2_standingCount 22 = some (.multianewarray 2 1, 25, false) ∧ NX2_standingCount 25 = some (.goto 4, 28, false) ∧ NX2_standingCount 28 = some (.iload 1, 29, false) ∧ NX2_standingCount 29 = some (.ireturn, 30, false)) := ⟨by decide +kernel, by decide +kernel, by decide +kernel, by decide +kernel⟩
def NX2_add : sm_NF := sm_nd TX2_ cX2_add 4 []
theorem n_X2_add : (NX2_add 0 = some (.aload 0, 1, false) ∧ NX2_add 1 = some (.invokeinterface 29 1, 4, false) ∧ NX2_add 4 = some (.ifCond .ne 15, 7, false) ∧ NX2_add 7 = some (.aload 0, 8, false) ∧ NX2_add 8 = some (.iload 2, 9, false)) ∧ (NX2_add 9 = some (.invokeinterface 35 2, 12, false) ∧ NX2_add 12 = some (.ifCond .ne 17, 15, false) ∧ NX2_add 15 = some (.putstatic 0, 16, false) ∧ NX2_add 16 = some (.ireturn, 17, false) ∧ NX2_add 17 = some (.aload 0, 18, false)) ∧ (NX2_add 18 = some (.getfield 205, 21, false) ∧ NX2_add 21 = some (.istore 3, 22, false) ∧ NX2_add 22 = some (.aload 0, 23, false) ∧ NX2_add 23 = some (.getfield 200, 26, false) ∧ NX2_add 26 = some (.iload 3, 27, false)) ∧ (NX2_add 27 = some (.iload 1, 28, false) ∧ NX2_add 28 = some (.iastore, 29, false) ∧ NX2_add 29 = some (.aload 0, 30, false) ∧ NX2_add 30 = some (.getfield 201, 33, false) ∧ NX2_add 33 = some (.iload 3, 34, false)) ∧ (NX2_add 34 = some (.iload 2, 35, false) ∧ NX2_add 35 = some (.iastore, 36, false) ∧ NX2_add 36 = some (.aload 0, 37, false) ∧ NX2_add 37 = some (.getfield 202, 40, false) ∧ NX2_add 40 = some (.iload 3, 41, false)) ∧ (NX2_add 41 = some (.ret 0, 42, false) ∧ NX2_add 42 = some (.iastore, 43, false) ∧ NX2_add 43 = some (.aload 0, 44, false) ∧ NX2_add 44 = some (.getfield 203, 47, false) ∧ NX2_add 47 = some (.iload 3, 48, false)) ∧ (NX2_add 48 = some (.ret 0, 49, false) ∧ NX2_add 49 = some (.bastore, 50, false) ∧ NX2_add 50 = some (.aload 0, 51, false) ∧ NX2_add 51 = some (.getfield 204, 54, false) ∧ NX2_add 54 = some (.iload 2, 55, false)) ∧ (NX2_add 55 = some (.dup2, 56, false) ∧ NX2_add 56 = some (.iaload, 57, false) ∧ NX2_add 57 = some (.ret 1, 58, false) ∧ NX2_add 58 = some (.iadd, 59, false) ∧ NX2_add 59 = some (.iastore, 60, false)) ∧ (NX2_add 60 = some (.aload 0, 61, false) ∧ NX2_add 61 = some (.iload 3, 62, false) ∧ NX2_add 62 = some (.ret 1, 63, false) ∧ NX2_add 63 = some (.iadd, 64, false) ∧ NX2_add 64 = some (.putfield 205, 67, false)) ∧ (NX2_add 67 = some (.iload 3, 68, false) ∧ NX2_add 68 = some (.ireturn, 69, false)) := ⟨by decide +kernel, by decide +kernel, by decide +kernel, by decide +kernel, by decide +kernel, by decide +kernel, by decide +kernel, by decide +kernel, by decide +kernel, by decide +kernel⟩
def NX2_isClaimedBy : sm_NF := sm_nd TX2_ cX2_isClaimedBy 4 [2]
theorem n_X2_isClaimedBy : (NX2_isClaimedBy 0 = some (.ret 0, 1, false) ∧ NX2_isClaimedBy 1 = some (.istore 3, 2, false) ∧ NX2_isClaimedBy 2 = some (.iload 3, 3, true) ∧ NX2_isClaimedBy 3 = some (.aload 0, 4, false) ∧ NX2_isClaimedBy 4 = some (.getfield 205, 7, false)) ∧ (NX2_isClaimedBy 7 = some (.if_icmp .ge 46, 10, false) ∧ NX2_isClaimedBy 10 = some (.aload 0, 11, false) ∧ NX2_isClaimedBy 11 = some (.iload 3, 12, false) ∧ NX2_isClaimedBy 12 = some (.invokeinterface 30 2, 15, false) ∧ NX2_isClaimedBy 15 = some (.ifCond .eq 40, 18, false)) ∧ (NX2_isClaimedBy 18 = some (.aload 0, 19, false) ∧ NX2_isClaimedBy 19 = some (.getfield 200, 22, false) ∧ NX2_isClaimedBy 22 = some (.iload 3, 23, false) ∧ NX2_isClaimedBy 23 = some (.iaload, 24, false) ∧ NX2_isClaimedBy 24 = some (.iload 1, 25, false)) ∧ (NX2_isClaimedBy 25 = some (.if_icmp .ne 40, 28, false) ∧ NX2_isClaimedBy 28 = some (.aload 0, 29, false) ∧ NX2_isClaimedBy 29 = some (.getfield 201, 32, false) ∧ NX2_isClaimedBy 32 = some (.iload 3, 33, false) ∧ NX2_isClaimedBy 33 = some (.iaload, 34, false)) ∧ (NX2_isClaimedBy 34 = some (.iload 2, 35, false) ∧ NX2_isClaimedBy 35 = some (.if_icmp .ne 40, 38, false) ∧ NX2_isClaimedBy 38 = some (.ret 1, 39, false) ∧ NX2_isClaimedBy 39 = some (.ireturn, 40, false) ∧ NX2_isClaimedBy 40 = some (.multianewarray 3 1, 43, false)) ∧ (NX2_isClaimedBy 43 = some (.goto 2, 46, false) ∧ NX2_isClaimedBy 46 = some (.ret 0, 47, false) ∧ NX2_isClaimedBy 47 = some (.ireturn, 48, false)) := ⟨by decide +kernel, by decide +kernel, by decide +kernel, by decide +kernel, by decide +kernel, by decide +kernel⟩
def NX2_isProvedAhead : sm_NF := sm_nd TX2_ cX2_isProvedAhead 4 [2]
theorem n_X2_isProvedAhead : (NX2_isProvedAhead 0 = some (.ret 0, 1, false) ∧ NX2_isProvedAhead 1 = some (.istore 3, 2, false) ∧ NX2_isProvedAhead 2 = some (.iload 3, 3, true) ∧ NX2_isProvedAhead 3 = some (.iload 1, 4, false) ∧ NX2_isProvedAhead 4 = some (.if_icmp .ge 43, 7, false)) ∧ (NX2_isProvedAhead 7 = some (.iload 3, 8, false) ∧ NX2_isProvedAhead 8 = some (.aload 0, 9, false) ∧ NX2_isProvedAhead 9 = some (.getfield 205, 12, false) ∧ NX2_isProvedAhead 12 = some (.if_icmp .ge 43, 15, false) ∧ NX2_isProvedAhead 15 = some (.aload 0, 16, false)) ∧ (NX2_isProvedAhead 16 = some (.getfield 202, 19, false) ∧ NX2_isProvedAhead 19 = some (.iload 3, 20, false) ∧ NX2_isProvedAhead 20 = some (.iaload, 21, false) ∧ NX2_isProvedAhead 21 = some (.ret 1, 22, false) ∧ NX2_isProvedAhead 22 = some (.if_icmp .ne 37, 25, false)) ∧ (NX2_isProvedAhead 25 = some (.aload 0, 26, false) ∧ NX2_isProvedAhead 26 = some (.getfield 201, 29, false) ∧ NX2_isProvedAhead 29 = some (.iload 3, 30, false) ∧ NX2_isProvedAhead 30 = some (.iaload, 31, false) ∧ NX2_isProvedAhead 31 = some (.iload 2, 32, false)) ∧ (NX2_isProvedAhead 32 = some (.if_icmp .ne 37, 35, false) ∧ NX2_isProvedAhead 35 = some (.ret 1, 36, false) ∧ NX2_isProvedAhead 36 = some (.ireturn, 37, false) ∧ NX2_isProvedAhead 37 = some (.multianewarray 3 1, 40, false) ∧ NX2_isProvedAhead 40 = some (.goto 2, 43, false)) ∧ (NX2_isProvedAhead 43 = some (.ret 0, 44, false) ∧ NX2_isProvedAhead 44 = some (.ireturn, 45, false)) := ⟨by decide +kernel, by decide +kernel, by decide +kernel, by decide +kernel, by decide +kernel, by decide +kernel⟩
def NX2_isFirstAsked : sm_NF := sm_nd TX2_ cX2_isFirstAsked 2 []
theorem n_X2_isFirstAsked : (NX2_isFirstAsked 0 = some (.aload 0, 1, false) ∧ NX2_isFirstAsked 1 = some (.iload 1, 2, false) ∧ NX2_isFirstAsked 2 = some (.invokeinterface 28 2, 5, false) ∧ NX2_isFirstAsked 5 = some (.ifCond .eq 17, 8, false) ∧ NX2_isFirstAsked 8 = some (.aload 0, 9, false)) ∧ (NX2_isFirstAsked 9 = some (.getfield 203, 12, false) ∧ NX2_isFirstAsked 12 = some (.iload 1, 13, false) ∧ NX2_isFirstAsked 13 = some (.baload, 14, false) ∧ NX2_isFirstAsked 14 = some (.ifCond .eq 19, 17, false) ∧ NX2_isFirstAsked 17 = some (.ret 0, 18, false)) ∧ (NX2_isFirstAsked 18 = some (.ireturn, 19, false) ∧ NX2_isFirstAsked 19 = some (.aload 0, 20, false) ∧ NX2_isFirstAsked 20 = some (.getfield 203, 23, false) ∧ NX2_isFirstAsked 23 = some (.iload 1, 24, false) ∧ NX2_isFirstAsked 24 = some (.ret 1, 25, false)) ∧ (NX2_isFirstAsked 25 = some (.bastore, 26, false) ∧ NX2_isFirstAsked 26 = some (.ret 1, 27, false) ∧ NX2_isFirstAsked 27 = some (.ireturn, 28, false)) := ⟨by decide +kernel, by decide +kernel, by decide +kernel, by decide +kernel⟩
def NX2_setProved : sm_NF := sm_nd TX2_ cX2_setProved 2 []
theorem n_X2_setProved : (NX2_setProved 0 = some (.aload 0, 1, false) ∧ NX2_setProved 1 = some (.iload 1, 2, false) ∧ NX2_setProved 2 = some (.invokeinterface 30 2, 5, false) ∧ NX2_setProved 5 = some (.ifCond .eq 15, 8, false) ∧ NX2_setProved 8 = some (.aload 0, 9, false)) ∧ (NX2_setProved 9 = some (.getfield 202, 12, false) ∧ NX2_setProved 12 = some (.iload 1, 13, false) ∧ NX2_setProved 13 = some (.ret 1, 14, false) ∧ NX2_setProved 14 = some (.iastore, 15, false) ∧ NX2_setProved 15 = some (.return_, 16, false)) := ⟨by decide +kernel, by decide +kernel⟩
def NX2_finish : sm_NF := sm_nd TX2_ cX2_finish 4 []
theorem n_X2_finish : (NX2_finish 0 = some (.iload 1, 1, false) ∧ NX2_finish 1 = some (.ifCond .lt 22, 4, false) ∧ NX2_finish 4 = some (.iload 1, 5, false) ∧ NX2_finish 5 = some (.aload 0, 6, false) ∧ NX2_finish 6 = some (.getfield 205, 9, false)) ∧ (NX2_finish 9 = some (.if_icmp .ge 22, 12, false) ∧ NX2_finish 12 = some (.aload 0, 13, false) ∧ NX2_finish 13 = some (.getfield 202, 16, false) ∧ NX2_finish 16 = some (.iload 1, 17, false) ∧ NX2_finish 17 = some (.iaload, 18, false)) ∧ (NX2_finish 18 = some (.ret 1, 19, false) ∧ NX2_finish 19 = some (.if_icmp .le 23, 22, false) ∧ NX2_finish 22 = some (.return_, 23, false) ∧ NX2_finish 23 = some (.aload 0, 24, false) ∧ NX2_finish 24 = some (.getfield 202, 27, false)) ∧ (NX2_finish 27 = some (.iload 1, 28, false) ∧ NX2_finish 28 = some (.iload 2, 29, false) ∧ NX2_finish 29 = some (.iastore, 30, false) ∧ NX2_finish 30 = some (.aload 0, 31, false) ∧ NX2_finish 31 = some (.getfield 201, 34, false)) ∧ (NX2_finish 34 = some (.iload 1, 35, false) ∧ NX2_finish 35 = some (.iaload, 36, false) ∧ NX2_finish 36 = some (.istore 3, 37, false) ∧ NX2_finish 37 = some (.iload 3, 38, false) ∧ NX2_finish 38 = some (.ifCond .lt 60, 41, false)) ∧ (NX2_finish 41 = some (.iload 3, 42, false) ∧ NX2_finish 42 = some (.aload 0, 43, false) ∧ NX2_finish 43 = some (.getfield 204, 46, false) ∧ NX2_finish 46 = some (.arraylength, 47, false) ∧ NX2_finish 47 = some (.if_icmp .ge 60, 50, false)) ∧ (NX2_finish 50 = some (.aload 0, 51, false) ∧ NX2_finish 51 = some (.getfield 204, 54, false) ∧ NX2_finish 54 = some (.iload 3, 55, false) ∧ NX2_finish 55 = some (.dup2, 56, false) ∧ NX2_finish 56 = some (.iaload, 57, false)) ∧ (NX2_finish 57 = some (.ret 1, 58, false) ∧ NX2_finish 58 = some (.isub, 59, false) ∧ NX2_finish 59 = some (.iastore, 60, false) ∧ NX2_finish 60 = some (.return_, 61, false)) := ⟨by decide +kernel, by decide +kernel, by decide +kernel, by decide +kernel, by decide +kernel, by decide +kernel, by decide +kernel, by decide +kernel⟩
def NX2_finishAllOf : sm_NF := sm_nd TX2_ cX2_finishAllOf 4 [2]
theorem n_X2_finishAllOf : (NX2_finishAllOf 0 = some (.ret 0, 1, false) ∧ NX2_finishAllOf 1 = some (.istore 3, 2, false) ∧ NX2_finishAllOf 2 = some (.iload 3, 3, true) ∧ NX2_finishAllOf 3 = some (.aload 0, 4, false) ∧ NX2_finishAllOf 4 = some (.getfield 205, 7, false)) ∧ (NX2_finishAllOf 7 = some (.if_icmp .ge 32, 10, false) ∧ NX2_finishAllOf 10 = some (.aload 0, 11, false) ∧ NX2_finishAllOf 11 = some (.getfield 200, 14, false) ∧ NX2_finishAllOf 14 = some (.iload 3, 15, false) ∧ NX2_finishAllOf 15 = some (.iaload, 16, false)) ∧ (NX2_finishAllOf 16 = some (.iload 1, 17, false) ∧ NX2_finishAllOf 17 = some (.if_icmp .ne 26, 20, false) ∧ NX2_finishAllOf 20 = some (.aload 0, 21, false) ∧ NX2_finishAllOf 21 = some (.iload 3, 22, false) ∧ NX2_finishAllOf 22 = some (.iload 2, 23, false)) ∧ (NX2_finishAllOf 23 = some (.invokeinterface 42 3, 26, false) ∧ NX2_finishAllOf 26 = some (.multianewarray 3 1, 29, false) ∧ NX2_finishAllOf 29 = some (.goto 2, 32, false) ∧ NX2_finishAllOf 32 = some (.return_, 33, false)) := ⟨by decide +kernel, by decide +kernel, by decide +kernel, by decide +kernel⟩
def NX2_finishAllOn : sm_NF := sm_nd TX2_ cX2_finishAllOn 4 [2]
theorem n_X2_finishAllOn : (NX2_finishAllOn 0 = some (.ret 0, 1, false) ∧ NX2_finishAllOn 1 = some (.istore 3, 2, false) ∧ NX2_finishAllOn 2 = some (.iload 3, 3, true) ∧ NX2_finishAllOn 3 = some (.aload 0, 4, false) ∧ NX2_finishAllOn 4 = some (.getfield 205, 7, false)) ∧ (NX2_finishAllOn 7 = some (.if_icmp .ge 32, 10, false) ∧ NX2_finishAllOn 10 = some (.aload 0, 11, false) ∧ NX2_finishAllOn 11 = some (.getfield 201, 14, false) ∧ NX2_finishAllOn 14 = some (.iload 3, 15, false) ∧ NX2_finishAllOn 15 = some (.iaload, 16, false)) ∧ (NX2_finishAllOn 16 = some (.iload 1, 17, false) ∧ NX2_finishAllOn 17 = some (.if_icmp .ne 26, 20, false) ∧ NX2_finishAllOn 20 = some (.aload 0, 21, false) ∧ NX2_finishAllOn 21 = some (.iload 3, 22, false) ∧ NX2_finishAllOn 22 = some (.iload 2, 23, false)) ∧ (NX2_finishAllOn 23 = some (.invokeinterface 42 3, 26, false) ∧ NX2_finishAllOn 26 = some (.multianewarray 3 1, 29, false) ∧ NX2_finishAllOn 29 = some (.goto 2, 32, false) ∧ NX2_finishAllOn 32 = some (.return_, 33, false)) := ⟨by decide +kernel, by decide +kernel, by decide +kernel, by decide +kernel⟩
def NX3_init : sm_NF := sm_nd TX3_ cX3_init 3 []
theorem n_X3_init : (NX3_init 0 = some (.aload 0, 1, false) ∧ NX3_init 4 = some (.aload 0, 5, false) ∧ NX3_init 8 = some (.dup, 9, false) ∧ NX3_init 12 = some (.putfield 302, 15, false) ∧ NX3_init 15 = some (.aload 0, 16, false)) ∧ (NX3_init 16 = some (.ret 60, 18, false) ∧ NX3_init 20 = some (.putfield 303, 23, false) ∧ NX3_init 23 = some (.aload 0, 24, false) ∧ NX3_init 24 = some (.ret 60, 26, false) ∧ NX3_init 28 = some (.putfield 304, 31, false)) ∧ (NX3_init 31 = some (.aload 0, 32, false) ∧ NX3_init 32 = some (.ret 60, 34, false) ∧ NX3_init 36 = some (.putfield 305, 39, false) ∧ NX3_init 39 = some (.aload 0, 40, false) ∧ NX3_init 40 = some (.ret 0, 41, false)) ∧ (NX3_init 41 = some (.putfield 306, 44, false) ∧ NX3_init 44 = some (.aload 0, 45, false) ∧ NX3_init 45 = some (.ret 0, 46, false) ∧ NX3_init 46 = some (.putfield 307, 49, false) ∧ NX3_init 49 = some (.aload 0, 50, false)) ∧ (NX3_init 50 = some (.aload 1, 51, false) ∧ NX3_init 51 = some (.putfield 300, 54, false) ∧ NX3_init 54 = some (.aload 0, 55, false) ∧ NX3_init 55 = some (.aload 2, 56, false) ∧ NX3_init 56 = some (.putfield 301, 59, false)) ∧ (NX3_init 59 = some (.return_, 60, false)) := ⟨by decide +kernel, by decide +kernel, by decide +kernel, by decide +kernel, by decide +kernel, by decide +kernel⟩
def NX3_reportCount : sm_NF := sm_nd TX3_ cX3_reportCount 1 []
theorem n_X3_reportCount : NX3_reportCount 0 = some (.aload 0, 1, false) ∧ NX3_reportCount 1 = some (.getfield 306, 4, false) ∧ NX3_reportCount 4 = some (.ireturn, 5, false) := by decide +kernel
def NX3_thingCount : sm_NF := sm_nd TX3_ cX3_thingCount 1 []
theorem n_X3_thingCount : NX3_thingCount 0 = some (.aload 0, 1, false) ∧ NX3_thingCount 1 = some (.getfield 307, 4, false) ∧ NX3_thingCount 4 = some (.ireturn, 5, false) := by decide +kernel
def NX3_isTooLarge : sm_NF := sm_nd TX3_ cX3_isTooLarge 1 []
theorem n_X3_isTooLarge : (NX3_isTooLarge 0 = some (.aload 0, 1, false) ∧ NX3_isTooLarge 1 = some (.getfield 306, 4, false) ∧ NX3_isTooLarge 4 = some (.ret 10, 6, false) ∧ NX3_isTooLarge 6 = some (.if_icmp .gt 18, 9, false) ∧ NX3_isTooLarge 9 = some (.aload 0, 10, false)) ∧ (NX3_isTooLarge 10 = some (.getfield 307, 13, false) ∧ NX3_isTooLarge 13 = some (.ret 20, 15, false) ∧ NX3_isTooLarge 15 = some (.if_icmp .le 22, 18, false) ∧ NX3_isTooLarge 18 = some (.ret 1, 19, false) ∧ NX3_isTooLarge 19 = some (.goto 23, 22, false)) ∧ (NX3_isTooLarge 22 = some (.ret 0, 23, false) ∧ NX3_isTooLarge 23 = some (.ireturn, 24, false)) := ⟨by decide +kernel, by decide +kernel, by decide +kernel⟩
def NX3_gather : sm_NF := sm_nd TX3_ cX3_gather 3 [33]
theorem n_X3_gather : (NX3_gather 0 = some (.aload 0, 1, false) ∧ NX3_gather 1 = some (.ret 0, 2, false) ∧ NX3_gather 2 = some (.putfield 306, 5, false) ∧ NX3_gather 5 = some (.aload 0, 6, false) ∧ NX3_gather 6 = some (.ret 0, 7, false)) ∧ (NX3_gather 7 = some (.putfield 307, 10, false) ∧ NX3_gather 10 = some (.aload 0, 11, false) ∧ NX3_gather 11 = some (.getfield 301, 14, false) ∧ NX3_gather 14 = some (.iload 1, 15, false) ∧ NX3_gather 15 = some (.invokeinterface 77 2, 18, false)) ∧ (NX3_gather 18 = some (.ifCond .eq 30, 21, false) ∧ NX3_gather 21 = some (.iload 1, 22, false) ∧ NX3_gather 22 = some (.aload 0, 23, false) ∧ NX3_gather 23 = some (.getfield 303, 26, false) ∧ NX3_gather 26 = some (.arraylength, 27, false)) ∧ (NX3_gather 27 = some (.if_icmp .lt 31, 30, false) ∧ NX3_gather 30 = some (.return_, 31, false) ∧ NX3_gather 31 = some (.ret 0, 32, false) ∧ NX3_gather 32 = some (.istore 2, 33, false) ∧ NX3_gather 33 = some (.iload 2, 34, true)) ∧ (NX3_gather 34 = some (.aload 0, 35, false) ∧ NX3_gather 35 = some (.getfield 301, 38, false) ∧ NX3_gather 38 = some (.invokeinterface 75 1, 41, false) ∧ NX3_gather 41 = some (.if_icmp .ge 88, 44, false) ∧ NX3_gather 44 = some (.iload 2, 45, false)) ∧ (NX3_gather 45 = some (.aload 0, 46, false) ∧ NX3_gather 46 = some (.getfield 303, 49, false) ∧ NX3_gather 49 = some (.arraylength, 50, false) ∧ NX3_gather 50 = some (.if_icmp .ge 88, 53, false) ∧ NX3_gather 53 = some (.aload 0, 54, false)) ∧ (NX3_gather 54 = some (.getfield 303, 57, false) ∧ NX3_gather 57 = some (.iload 2, 58, false) ∧ NX3_gather 58 = some (.aload 0, 59, false) ∧ NX3_gather 59 = some (.getfield 301, 62, false) ∧ NX3_gather 62 = some (.iload 2, 63, false)) ∧ (NX3_gather 63 = some (.invokeinterface 77 2, 66, false) ∧ NX3_gather 66 = some (.ifCond .eq 80, 69, false) ∧ NX3_gather 69 = some (.aload 0, 70, false) ∧ NX3_gather 70 = some (.getfield 300, 73, false) ∧ NX3_gather 73 = some (.iload 2, 74, false)) ∧ (NX3_gather 74 = some (.invokeinterface 58 2, 77, false) ∧ NX3_gather 77 = some (.goto 81, 80, false) ∧ NX3_gather 80 = some (.getstatic 0, 81, false) ∧ NX3_gather 81 = some (.lastore, 82, false) ∧ NX3_gather 82 = some (.multianewarray 2 1, 85, false)) ∧ (NX3_gather 85 = some (.goto 33, 88, false) ∧ NX3_gather 88 = some (.aload 0, 89, false) ∧ NX3_gather 89 = some (.aload 0, 90, false) ∧ NX3_gather 90 = some (.iload 1, 91, false) ∧ NX3_gather 91 = some (.invokeinterface 50 2, 94, false)) ∧ (NX3_gather 94 = some (.invokeinterface 51 2, 97, false) ∧ NX3_gather 97 = some (.return_, 98, false)) := ⟨by decide +kernel, by decide +kernel, by decide +kernel, by decide +kernel, by decide +kernel, by decide +kernel, by decide +kernel, by decide +kernel, by decide +kernel, by decide +kernel, by decide +kernel⟩
def NX3_hangTogether : sm_NF := sm_nd TX3_ cX3_hangTogether 9 [18, 36]
theorem n_X3_hangTogether : (NX3_hangTogether 0 = some (.getstatic 1, 1, false) ∧ NX3_hangTogether 1 = some (.iload 1, 2, false) ∧ NX3_hangTogether 2 = some (.lshl, 3, false) ∧ NX3_hangTogether 3 = some (.lstore 2, 4, false) ∧ NX3_hangTogether 4 = some (.aload 0, 5, false)) ∧ (NX3_hangTogether 5 = some (.getfield 303, 8, false) ∧ NX3_hangTogether 8 = some (.iload 1, 9, false) ∧ NX3_hangTogether 9 = some (.laload, 10, false) ∧ NX3_hangTogether 10 = some (.lstore 4, 12, false) ∧ NX3_hangTogether 12 = some (.ret 1, 13, false)) ∧ (NX3_hangTogether 13 = some (.istore 6, 15, false) ∧ NX3_hangTogether 15 = some (.ret 0, 16, false) ∧ NX3_hangTogether 16 = some (.istore 7, 18, false) ∧ NX3_hangTogether 18 = some (.iload 7, 20, true) ∧ NX3_hangTogether 20 = some (.ret 60, 22, false)) ∧ (NX3_hangTogether 22 = some (.if_icmp .ge 116, 25, false) ∧ NX3_hangTogether 25 = some (.iload 6, 27, false) ∧ NX3_hangTogether 27 = some (.ifCond .eq 116, 30, false) ∧ NX3_hangTogether 30 = some (.ret 0, 31, false) ∧ NX3_hangTogether 31 = some (.istore 6, 33, false)) ∧ (NX3_hangTogether 33 = some (.ret 0, 34, false) ∧ NX3_hangTogether 34 = some (.istore 8, 36, false) ∧ NX3_hangTogether 36 = some (.iload 8, 38, true) ∧ NX3_hangTogether 38 = some (.aload 0, 39, false) ∧ NX3_hangTogether 39 = some (.getfield 301, 42, false)) ∧ (NX3_hangTogether 42 = some (.invokeinterface 75 1, 45, false) ∧ NX3_hangTogether 45 = some (.if_icmp .ge 110, 48, false) ∧ NX3_hangTogether 48 = some (.iload 8, 50, false) ∧ NX3_hangTogether 50 = some (.aload 0, 51, false) ∧ NX3_hangTogether 51 = some (.getfield 303, 54, false)) ∧ (NX3_hangTogether 54 = some (.arraylength, 55, false) ∧ NX3_hangTogether 55 = some (.if_icmp .ge 110, 58, false) ∧ NX3_hangTogether 58 = some (.lload 2, 59, false) ∧ NX3_hangTogether 59 = some (.iload 8, 61, false) ∧ NX3_hangTogether 61 = some (.invokeinterface 131 2, 64, false)) ∧ (NX3_hangTogether 64 = some (.ifCond .ne 104, 67, false) ∧ NX3_hangTogether 67 = some (.aload 0, 68, false) ∧ NX3_hangTogether 68 = some (.getfield 303, 71, false) ∧ NX3_hangTogether 71 = some (.iload 8, 73, false) ∧ NX3_hangTogether 73 = some (.laload, 74, false)) ∧ (NX3_hangTogether 74 = some (.lload 4, 76, false) ∧ NX3_hangTogether 76 = some (.land, 77, false) ∧ NX3_hangTogether 77 = some (.getstatic 0, 78, false) ∧ NX3_hangTogether 78 = some (.lcmp, 79, false) ∧ NX3_hangTogether 79 = some (.ifCond .eq 104, 82, false)) ∧ (NX3_hangTogether 82 = some (.lload 2, 83, false) ∧ NX3_hangTogether 83 = some (.getstatic 1, 84, false) ∧ NX3_hangTogether 84 = some (.iload 8, 86, false) ∧ NX3_hangTogether 86 = some (.lshl, 87, false) ∧ NX3_hangTogether 87 = some (.lor, 88, false)) ∧ (NX3_hangTogether 88 = some (.lstore 2, 89, false) ∧ NX3_hangTogether 89 = some (.lload 4, 91, false) ∧ NX3_hangTogether 91 = some (.aload 0, 92, false) ∧ NX3_hangTogether 92 = some (.getfield 303, 95, false) ∧ NX3_hangTogether 95 = some (.iload 8, 97, false)) ∧ (NX3_hangTogether 97 = some (.laload, 98, false) ∧ NX3_hangTogether 98 = some (.lor, 99, false) ∧ NX3_hangTogether 99 = some (.lstore 4, 101, false) ∧ NX3_hangTogether 101 = some (.ret 1, 102, false) ∧ NX3_hangTogether 102 = some (.istore 6, 104, false)) ∧ (NX3_hangTogether 104 = some (.multianewarray 8 1, 107, false) ∧ NX3_hangTogether 107 = some (.goto 36, 110, false) ∧ NX3_hangTogether 110 = some (.multianewarray 7 1, 113, false) ∧ NX3_hangTogether 113 = some (.goto 18, 116, false) ∧ NX3_hangTogether 116 = some (.lload 2, 117, false)) ∧ (NX3_hangTogether 117 = some (.lreturn, 118, false)) := ⟨by decide +kernel, by decide +kernel, by decide +kernel, by decide +kernel, by decide +kernel, by decide +kernel, by decide +kernel, by decide +kernel, by decide +kernel, by decide +kernel, by decide +kernel, by decide +kernel, by decide +kernel, by decide +kernel⟩
def NX3_listMembers : sm_NF := sm_nd TX3_ cX3_listMembers 6 [5, 61]
theorem n_X3_listMembers : (NX3_listMembers 0 = some (.getstatic 0, 1, false) ∧ NX3_listMembers 1 = some (.lstore 3, 2, false) ∧ NX3_listMembers 2 = some (.ret 0, 3, false) ∧ NX3_listMembers 3 = some (.istore 5, 5, false) ∧ NX3_listMembers 5 = some (.iload 5, 7, true)) ∧ (NX3_listMembers 7 = some (.ret 60, 9, false) ∧ NX3_listMembers 9 = some (.if_icmp .ge 58, 12, false) ∧ NX3_listMembers 12 = some (.lload 1, 13, false) ∧ NX3_listMembers 13 = some (.iload 5, 15, false) ∧ NX3_listMembers 15 = some (.invokeinterface 131 2, 18, false)) ∧ (NX3_listMembers 18 = some (.ifCond .eq 52, 21, false) ∧ NX3_listMembers 21 = some (.aload 0, 22, false) ∧ NX3_listMembers 22 = some (.getfield 304, 25, false) ∧ NX3_listMembers 25 = some (.aload 0, 26, false) ∧ NX3_listMembers 26 = some (.getfield 306, 29, false)) ∧ (NX3_listMembers 29 = some (.iload 5, 31, false) ∧ NX3_listMembers 31 = some (.iastore, 32, false) ∧ NX3_listMembers 32 = some (.aload 0, 33, false) ∧ NX3_listMembers 33 = some (.dup, 34, false) ∧ NX3_listMembers 34 = some (.getfield 306, 37, false)) ∧ (NX3_listMembers 37 = some (.ret 1, 38, false) ∧ NX3_listMembers 38 = some (.iadd, 39, false) ∧ NX3_listMembers 39 = some (.putfield 306, 42, false) ∧ NX3_listMembers 42 = some (.lload 3, 43, false) ∧ NX3_listMembers 43 = some (.aload 0, 44, false)) ∧ (NX3_listMembers 44 = some (.getfield 303, 47, false) ∧ NX3_listMembers 47 = some (.iload 5, 49, false) ∧ NX3_listMembers 49 = some (.laload, 50, false) ∧ NX3_listMembers 50 = some (.lor, 51, false) ∧ NX3_listMembers 51 = some (.lstore 3, 52, false)) ∧ (NX3_listMembers 52 = some (.multianewarray 5 1, 55, false) ∧ NX3_listMembers 55 = some (.goto 5, 58, false) ∧ NX3_listMembers 58 = some (.ret 0, 59, false) ∧ NX3_listMembers 59 = some (.istore 5, 61, false) ∧ NX3_listMembers 61 = some (.iload 5, 63, true)) ∧ (NX3_listMembers 63 = some (.ret 60, 65, false) ∧ NX3_listMembers 65 = some (.if_icmp .ge 104, 68, false) ∧ NX3_listMembers 68 = some (.lload 3, 69, false) ∧ NX3_listMembers 69 = some (.iload 5, 71, false) ∧ NX3_listMembers 71 = some (.invokeinterface 131 2, 74, false)) ∧ (NX3_listMembers 74 = some (.ifCond .eq 98, 77, false) ∧ NX3_listMembers 77 = some (.aload 0, 78, false) ∧ NX3_listMembers 78 = some (.getfield 305, 81, false) ∧ NX3_listMembers 81 = some (.aload 0, 82, false) ∧ NX3_listMembers 82 = some (.getfield 307, 85, false)) ∧ (NX3_listMembers 85 = some (.iload 5, 87, false) ∧ NX3_listMembers 87 = some (.iastore, 88, false) ∧ NX3_listMembers 88 = some (.aload 0, 89, false) ∧ NX3_listMembers 89 = some (.dup, 90, false) ∧ NX3_listMembers 90 = some (.getfield 307, 93, false)) ∧ (NX3_listMembers 93 = some (.ret 1, 94, false) ∧ NX3_listMembers 94 = some (.iadd, 95, false) ∧ NX3_listMembers 95 = some (.putfield 307, 98, false) ∧ NX3_listMembers 98 = some (.multianewarray 5 1, 101, false) ∧ NX3_listMembers 101 = some (.goto 61, 104, false)) ∧ (NX3_listMembers 104 = some (.return_, 105, false)) := ⟨by decide +kernel, by decide +kernel, by decide +kernel, by decide +kernel, by decide +kernel, by decide +kernel, by decide +kernel, by decide +kernel, by decide +kernel, by decide +kernel, by decide +kernel, by decide +kernel⟩
def NX3_findBestWay : sm_NF := sm_nd TX3_ cX3_findBestWay 4 [25, 48]
theorem n_X3_findBestWay : (NX3_findBestWay 0 = some (.aload 0, 1, false) ∧ NX3_findBestWay 1 = some (.invokeinterface 48 1, 4, false) ∧ NX3_findBestWay 4 = some (.ifCond .eq 8, 7, false) ∧ NX3_findBestWay 7 = some (.return_, 8, false) ∧ NX3_findBestWay 8 = some (.aload 0, 9, false)) ∧ (NX3_findBestWay 9 = some (.getfield 302, 12, false) ∧ NX3_findBestWay 12 = some (.aload 0, 13, false) ∧ NX3_findBestWay 13 = some (.getfield 306, 16, false) ∧ NX3_findBestWay 16 = some (.aload 0, 17, false) ∧ NX3_findBestWay 17 = some (.getfield 307, 20, false)) ∧ (NX3_findBestWay 20 = some (.invokeinterface 15 3, 23, false) ∧ NX3_findBestWay 23 = some (.ret 0, 24, false) ∧ NX3_findBestWay 24 = some (.istore 1, 25, false) ∧ NX3_findBestWay 25 = some (.iload 1, 26, true) ∧ NX3_findBestWay 26 = some (.aload 0, 27, false)) ∧ (NX3_findBestWay 27 = some (.getfield 307, 30, false) ∧ NX3_findBestWay 30 = some (.if_icmp .ge 123, 33, false) ∧ NX3_findBestWay 33 = some (.aload 0, 34, false) ∧ NX3_findBestWay 34 = some (.getfield 300, 37, false) ∧ NX3_findBestWay 37 = some (.aload 0, 38, false)) ∧ (NX3_findBestWay 38 = some (.getfield 305, 41, false) ∧ NX3_findBestWay 41 = some (.iload 1, 42, false) ∧ NX3_findBestWay 42 = some (.iaload, 43, false) ∧ NX3_findBestWay 43 = some (.invokeinterface 59 2, 46, false) ∧ NX3_findBestWay 46 = some (.ret 0, 47, false)) ∧ (NX3_findBestWay 47 = some (.istore 2, 48, false) ∧ NX3_findBestWay 48 = some (.iload 2, 49, true) ∧ NX3_findBestWay 49 = some (.aload 0, 50, false) ∧ NX3_findBestWay 50 = some (.getfield 306, 53, false) ∧ NX3_findBestWay 53 = some (.if_icmp .ge 117, 56, false)) ∧ (NX3_findBestWay 56 = some (.aload 0, 57, false) ∧ NX3_findBestWay 57 = some (.getfield 304, 60, false) ∧ NX3_findBestWay 60 = some (.iload 2, 61, false) ∧ NX3_findBestWay 61 = some (.iaload, 62, false) ∧ NX3_findBestWay 62 = some (.istore 3, 63, false)) ∧ (NX3_findBestWay 63 = some (.iload 3, 64, false) ∧ NX3_findBestWay 64 = some (.ifCond .lt 111, 67, false) ∧ NX3_findBestWay 67 = some (.iload 3, 68, false) ∧ NX3_findBestWay 68 = some (.aload 0, 69, false) ∧ NX3_findBestWay 69 = some (.getfield 303, 72, false)) ∧ (NX3_findBestWay 72 = some (.arraylength, 73, false) ∧ NX3_findBestWay 73 = some (.if_icmp .ge 111, 76, false) ∧ NX3_findBestWay 76 = some (.aload 0, 77, false) ∧ NX3_findBestWay 77 = some (.getfield 303, 80, false) ∧ NX3_findBestWay 80 = some (.iload 3, 81, false)) ∧ (NX3_findBestWay 81 = some (.laload, 82, false) ∧ NX3_findBestWay 82 = some (.aload 0, 83, false) ∧ NX3_findBestWay 83 = some (.getfield 305, 86, false) ∧ NX3_findBestWay 86 = some (.iload 1, 87, false) ∧ NX3_findBestWay 87 = some (.iaload, 88, false)) ∧ (NX3_findBestWay 88 = some (.invokeinterface 131 2, 91, false) ∧ NX3_findBestWay 91 = some (.ifCond .eq 111, 94, false) ∧ NX3_findBestWay 94 = some (.aload 0, 95, false) ∧ NX3_findBestWay 95 = some (.getfield 302, 98, false) ∧ NX3_findBestWay 98 = some (.iload 2, 99, false)) ∧ (NX3_findBestWay 99 = some (.iload 1, 100, false) ∧ NX3_findBestWay 100 = some (.aload 0, 101, false) ∧ NX3_findBestWay 101 = some (.getfield 300, 104, false) ∧ NX3_findBestWay 104 = some (.iload 3, 105, false) ∧ NX3_findBestWay 105 = some (.invokeinterface 61 2, 108, false)) ∧ (NX3_findBestWay 108 = some (.invokeinterface 16 4, 111, false) ∧ NX3_findBestWay 111 = some (.multianewarray 2 1, 114, false) ∧ NX3_findBestWay 114 = some (.goto 48, 117, false) ∧ NX3_findBestWay 117 = some (.multianewarray 1 1, 120, false) ∧ NX3_findBestWay 120 = some (.goto 25, 123, false)) ∧ (NX3_findBestWay 123 = some (.aload 0, 124, false) ∧ NX3_findBestWay 124 = some (.getfield 302, 127, false) ∧ NX3_findBestWay 127 = some (.invokeinterface 17 1, 130, false) ∧ NX3_findBestWay 130 = some (.return_, 131, false)) := ⟨by decide +kernel, by decide +kernel, by decide +kernel, by decide +kernel, by decide +kernel, by decide +kernel, by decide +kernel, by decide +kernel, by decide +kernel, by decide +kernel, by decide +kernel, by decide +kernel, by decide +kernel, by decide +kernel⟩
def NX3_strengthSum : sm_NF := sm_nd TX3_ cX3_strengthSum 3 [4]
theorem n_X3_strengthSum : (NX3_strengthSum 0 = some (.ret 0, 1, false) ∧ NX3_strengthSum 1 = some (.istore 1, 2, false) ∧ NX3_strengthSum 2 = some (.ret 0, 3, false) ∧ NX3_strengthSum 3 = some (.istore 2, 4, false) ∧ NX3_strengthSum 4 = some (.iload 2, 5, true)) ∧ (NX3_strengthSum 5 = some (.aload 0, 6, false) ∧ NX3_strengthSum 6 = some (.getfield 306, 9, false) ∧ NX3_strengthSum 9 = some (.if_icmp .ge 29, 12, false) ∧ NX3_strengthSum 12 = some (.iload 1, 13, false) ∧ NX3_strengthSum 13 = some (.aload 0, 14, false)) ∧ (NX3_strengthSum 14 = some (.getfield 302, 17, false) ∧ NX3_strengthSum 17 = some (.iload 2, 18, false) ∧ NX3_strengthSum 18 = some (.invokeinterface 25 2, 21, false) ∧ NX3_strengthSum 21 = some (.iadd, 22, false) ∧ NX3_strengthSum 22 = some (.istore 1, 23, false)) ∧ (NX3_strengthSum 23 = some (.multianewarray 2 1, 26, false) ∧ NX3_strengthSum 26 = some (.goto 4, 29, false) ∧ NX3_strengthSum 29 = some (.iload 1, 30, false) ∧ NX3_strengthSum 30 = some (.ireturn, 31, false)) := ⟨by decide +kernel, by decide +kernel, by decide +kernel, by decide +kernel⟩
def NX3_givenTo : sm_NF := sm_nd TX3_ cX3_givenTo 4 [2]
theorem n_X3_givenTo : (NX3_givenTo 0 = some (.ret 0, 1, false) ∧ NX3_givenTo 1 = some (.istore 2, 2, false) ∧ NX3_givenTo 2 = some (.iload 2, 3, true) ∧ NX3_givenTo 3 = some (.aload 0, 4, false) ∧ NX3_givenTo 4 = some (.getfield 306, 7, false)) ∧ (NX3_givenTo 7 = some (.if_icmp .ge 58, 10, false) ∧ NX3_givenTo 10 = some (.aload 0, 11, false) ∧ NX3_givenTo 11 = some (.getfield 304, 14, false) ∧ NX3_givenTo 14 = some (.iload 2, 15, false) ∧ NX3_givenTo 15 = some (.iaload, 16, false)) ∧ (NX3_givenTo 16 = some (.iload 1, 17, false) ∧ NX3_givenTo 17 = some (.if_icmp .ne 52, 20, false) ∧ NX3_givenTo 20 = some (.aload 0, 21, false) ∧ NX3_givenTo 21 = some (.getfield 302, 24, false) ∧ NX3_givenTo 24 = some (.iload 2, 25, false)) ∧ (NX3_givenTo 25 = some (.invokeinterface 24 2, 28, false) ∧ NX3_givenTo 28 = some (.istore 3, 29, false) ∧ NX3_givenTo 29 = some (.iload 3, 30, false) ∧ NX3_givenTo 30 = some (.ifCond .lt 50, 33, false) ∧ NX3_givenTo 33 = some (.iload 3, 34, false)) ∧ (NX3_givenTo 34 = some (.aload 0, 35, false) ∧ NX3_givenTo 35 = some (.getfield 307, 38, false) ∧ NX3_givenTo 38 = some (.if_icmp .ge 50, 41, false) ∧ NX3_givenTo 41 = some (.aload 0, 42, false) ∧ NX3_givenTo 42 = some (.getfield 305, 45, false)) ∧ (NX3_givenTo 45 = some (.iload 3, 46, false) ∧ NX3_givenTo 46 = some (.iaload, 47, false) ∧ NX3_givenTo 47 = some (.goto 51, 50, false) ∧ NX3_givenTo 50 = some (.putstatic 0, 51, false) ∧ NX3_givenTo 51 = some (.ireturn, 52, false)) ∧ (NX3_givenTo 52 = some (.multianewarray 2 1, 55, false) ∧ NX3_givenTo 55 = some (.goto 2, 58, false) ∧ NX3_givenTo 58 = some (.putstatic 0, 59, false) ∧ NX3_givenTo 59 = some (.ireturn, 60, false)) := ⟨by decide +kernel, by decide +kernel, by decide +kernel, by decide +kernel, by decide +kernel, by decide +kernel, by decide +kernel⟩
def NX4_init : sm_NF := sm_nd TX4_ cX4_init 5 []
theorem n_X4_init : (NX4_init 0 = some (.aload 0, 1, false) ∧ NX4_init 4 = some (.aload 0, 5, false) ∧ NX4_init 5 = some (.ret 16, 7, false) ∧ NX4_init 9 = some (.putfield 404, 12, false) ∧ NX4_init 12 = some (.aload 0, 13, false)) ∧ (NX4_init 13 = some (.aload 1, 14, false) ∧ NX4_init 14 = some (.putfield 400, 17, false) ∧ NX4_init 17 = some (.aload 0, 18, false) ∧ NX4_init 18 = some (.aload 2, 19, false) ∧ NX4_init 19 = some (.putfield 401, 22, false)) ∧ (NX4_init 22 = some (.aload 0, 23, false) ∧ NX4_init 23 = some (.aload 3, 24, false) ∧ NX4_init 24 = some (.putfield 402, 27, false) ∧ NX4_init 27 = some (.aload 0, 28, false) ∧ NX4_init 28 = some (.aload 4, 30, false)) ∧ (NX4_init 30 = some (.putfield 403, 33, false) ∧ NX4_init 33 = some (.return_, 34, false)) := ⟨by decide +kernel, by decide +kernel, by decide +kernel, by decide +kernel⟩
def NX4_firstClash : sm_NF := sm_nd TX4_ cX4_firstClash 7 [23]
theorem n_X4_firstClash : (NX4_firstClash 0 = some (.aload 0, 1, false) ∧ NX4_firstClash 1 = some (.getfield 401, 4, false) ∧ NX4_firstClash 4 = some (.iload 1, 5, false) ∧ NX4_firstClash 5 = some (.invokeinterface 84 2, 8, false) ∧ NX4_firstClash 8 = some (.aload 0, 9, false)) ∧ (NX4_firstClash 9 = some (.getfield 402, 12, false) ∧ NX4_firstClash 12 = some (.iload 2, 13, false) ∧ NX4_firstClash 13 = some (.invokeinterface 84 2, 16, false) ∧ NX4_firstClash 16 = some (.invokeinterface 228 2, 19, false) ∧ NX4_firstClash 19 = some (.istore 3, 20, false)) ∧ (NX4_firstClash 20 = some (.ret 0, 21, false) ∧ NX4_firstClash 21 = some (.istore 4, 23, false) ∧ NX4_firstClash 23 = some (.iload 4, 25, true) ∧ NX4_firstClash 25 = some (.iload 3, 26, false) ∧ NX4_firstClash 26 = some (.if_icmp .ge 90, 29, false)) ∧ (NX4_firstClash 29 = some (.aload 0, 30, false) ∧ NX4_firstClash 30 = some (.getfield 401, 33, false) ∧ NX4_firstClash 33 = some (.iload 1, 34, false) ∧ NX4_firstClash 34 = some (.iload 4, 36, false) ∧ NX4_firstClash 36 = some (.invokeinterface 85 3, 39, false)) ∧ (NX4_firstClash 39 = some (.istore 5, 41, false) ∧ NX4_firstClash 41 = some (.aload 0, 42, false) ∧ NX4_firstClash 42 = some (.getfield 402, 45, false) ∧ NX4_firstClash 45 = some (.iload 2, 46, false) ∧ NX4_firstClash 46 = some (.iload 4, 48, false)) ∧ (NX4_firstClash 48 = some (.invokeinterface 85 3, 51, false) ∧ NX4_firstClash 51 = some (.istore 6, 53, false) ∧ NX4_firstClash 53 = some (.iload 5, 55, false) ∧ NX4_firstClash 55 = some (.putstatic 0, 56, false) ∧ NX4_firstClash 56 = some (.if_icmp .eq 84, 59, false)) ∧ (NX4_firstClash 59 = some (.iload 6, 61, false) ∧ NX4_firstClash 61 = some (.putstatic 0, 62, false) ∧ NX4_firstClash 62 = some (.if_icmp .eq 84, 65, false) ∧ NX4_firstClash 65 = some (.aload 0, 66, false) ∧ NX4_firstClash 66 = some (.getfield 400, 69, false)) ∧ (NX4_firstClash 69 = some (.iload 4, 71, false) ∧ NX4_firstClash 71 = some (.iload 5, 73, false) ∧ NX4_firstClash 73 = some (.iload 6, 75, false) ∧ NX4_firstClash 75 = some (.invokeinterface 73 4, 78, false) ∧ NX4_firstClash 78 = some (.ifCond .ne 84, 81, false)) ∧ (NX4_firstClash 81 = some (.iload 4, 83, false) ∧ NX4_firstClash 83 = some (.ireturn, 84, false) ∧ NX4_firstClash 84 = some (.multianewarray 4 1, 87, false) ∧ NX4_firstClash 87 = some (.goto 23, 90, false) ∧ NX4_firstClash 90 = some (.putstatic 0, 91, false)) ∧ (NX4_firstClash 91 = some (.ireturn, 92, false)) := ⟨by decide +kernel, by decide +kernel, by decide +kernel, by decide +kernel, by decide +kernel, by decide +kernel, by decide +kernel, by decide +kernel, by decide +kernel, by decide +kernel⟩
def NX4_isFit : sm_NF := sm_nd TX4_ cX4_isFit 3 []
theorem n_X4_isFit : (NX4_isFit 0 = some (.aload 0, 1, false) ∧ NX4_isFit 1 = some (.iload 1, 2, false) ∧ NX4_isFit 2 = some (.iload 2, 3, false) ∧ NX4_isFit 3 = some (.invokeinterface 56 3, 6, false) ∧ NX4_isFit 6 = some (.putstatic 0, 7, false)) ∧ (NX4_isFit 7 = some (.if_icmp .ne 14, 10, false) ∧ NX4_isFit 10 = some (.ret 1, 11, false) ∧ NX4_isFit 11 = some (.goto 15, 14, false) ∧ NX4_isFit 14 = some (.ret 0, 15, false) ∧ NX4_isFit 15 = some (.ireturn, 16, false)) := ⟨by decide +kernel, by decide +kernel⟩
def NX4_fitSet : sm_NF := sm_nd TX4_ cX4_fitSet 5 [5]
theorem n_X4_fitSet : (NX4_fitSet 0 = some (.getstatic 0, 1, false) ∧ NX4_fitSet 1 = some (.lstore 2, 2, false) ∧ NX4_fitSet 2 = some (.ret 0, 3, false) ∧ NX4_fitSet 3 = some (.istore 4, 5, false) ∧ NX4_fitSet 5 = some (.iload 4, 7, true)) ∧ (NX4_fitSet 7 = some (.aload 0, 8, false) ∧ NX4_fitSet 8 = some (.getfield 403, 11, false) ∧ NX4_fitSet 11 = some (.invokeinterface 89 1, 14, false) ∧ NX4_fitSet 14 = some (.if_icmp .ge 53, 17, false) ∧ NX4_fitSet 17 = some (.aload 0, 18, false)) ∧ (NX4_fitSet 18 = some (.getfield 403, 21, false) ∧ NX4_fitSet 21 = some (.iload 4, 23, false) ∧ NX4_fitSet 23 = some (.invokeinterface 91 2, 26, false) ∧ NX4_fitSet 26 = some (.ifCond .eq 47, 29, false) ∧ NX4_fitSet 29 = some (.aload 0, 30, false)) ∧ (NX4_fitSet 30 = some (.iload 1, 31, false) ∧ NX4_fitSet 31 = some (.iload 4, 33, false) ∧ NX4_fitSet 33 = some (.invokeinterface 56 3, 36, false) ∧ NX4_fitSet 36 = some (.putstatic 0, 37, false) ∧ NX4_fitSet 37 = some (.if_icmp .ne 47, 40, false)) ∧ (NX4_fitSet 40 = some (.lload 2, 41, false) ∧ NX4_fitSet 41 = some (.getstatic 1, 42, false) ∧ NX4_fitSet 42 = some (.iload 4, 44, false) ∧ NX4_fitSet 44 = some (.lshl, 45, false) ∧ NX4_fitSet 45 = some (.lor, 46, false)) ∧ (NX4_fitSet 46 = some (.lstore 2, 47, false) ∧ NX4_fitSet 47 = some (.multianewarray 4 1, 50, false) ∧ NX4_fitSet 50 = some (.goto 5, 53, false) ∧ NX4_fitSet 53 = some (.lload 2, 54, false) ∧ NX4_fitSet 54 = some (.lreturn, 55, false)) := ⟨by decide +kernel, by decide +kernel, by decide +kernel, by decide +kernel, by decide +kernel, by decide +kernel⟩
def NX4_weigh : sm_NF := sm_nd TX4_ cX4_weigh 5 [2]
theorem n_X4_weigh : (NX4_weigh 0 = some (.ret 0, 1, false) ∧ NX4_weigh 1 = some (.istore 2, 2, false) ∧ NX4_weigh 2 = some (.iload 2, 3, true) ∧ NX4_weigh 3 = some (.aload 0, 4, false) ∧ NX4_weigh 4 = some (.getfield 404, 7, false)) ∧ (NX4_weigh 7 = some (.arraylength, 8, false) ∧ NX4_weigh 8 = some (.if_icmp .ge 74, 11, false) ∧ NX4_weigh 11 = some (.aload 0, 12, false) ∧ NX4_weigh 12 = some (.getfield 402, 15, false) ∧ NX4_weigh 15 = some (.iload 1, 16, false)) ∧ (NX4_weigh 16 = some (.iload 2, 17, false) ∧ NX4_weigh 17 = some (.invokeinterface 85 3, 20, false) ∧ NX4_weigh 20 = some (.istore 3, 21, false) ∧ NX4_weigh 21 = some (.iload 3, 22, false) ∧ NX4_weigh 22 = some (.putstatic 0, 23, false)) ∧ (NX4_weigh 23 = some (.if_icmp .ne 30, 26, false) ∧ NX4_weigh 26 = some (.ret 0, 27, false) ∧ NX4_weigh 27 = some (.goto 37, 30, false) ∧ NX4_weigh 30 = some (.aload 0, 31, false) ∧ NX4_weigh 31 = some (.iload 1, 32, false)) ∧ (NX4_weigh 32 = some (.iload 2, 33, false) ∧ NX4_weigh 33 = some (.iload 3, 34, false) ∧ NX4_weigh 34 = some (.invokeinterface 60 4, 37, false) ∧ NX4_weigh 37 = some (.istore 4, 39, false) ∧ NX4_weigh 39 = some (.aload 0, 40, false)) ∧ (NX4_weigh 40 = some (.getfield 404, 43, false) ∧ NX4_weigh 43 = some (.iload 2, 44, false) ∧ NX4_weigh 44 = some (.iload 4, 46, false) ∧ NX4_weigh 46 = some (.ifCond .le 66, 49, false) ∧ NX4_weigh 49 = some (.aload 0, 50, false)) ∧ (NX4_weigh 50 = some (.getfield 400, 53, false) ∧ NX4_weigh 53 = some (.iload 2, 54, false) ∧ NX4_weigh 54 = some (.invokeinterface 67 2, 57, false) ∧ NX4_weigh 57 = some (.ret 12, 59, false) ∧ NX4_weigh 59 = some (.imul, 60, false)) ∧ (NX4_weigh 60 = some (.iload 4, 62, false) ∧ NX4_weigh 62 = some (.idiv, 63, false) ∧ NX4_weigh 63 = some (.goto 67, 66, false) ∧ NX4_weigh 66 = some (.ret 0, 67, false) ∧ NX4_weigh 67 = some (.iastore, 68, false)) ∧ (NX4_weigh 68 = some (.multianewarray 2 1, 71, false) ∧ NX4_weigh 71 = some (.goto 2, 74, false) ∧ NX4_weigh 74 = some (.return_, 75, false)) := ⟨by decide +kernel, by decide +kernel, by decide +kernel, by decide +kernel, by decide +kernel, by decide +kernel, by decide +kernel, by decide +kernel, by decide +kernel⟩
def NX4_countHolders : sm_NF := sm_nd TX4_ cX4_countHolders 6 [6]
theorem n_X4_countHolders : (NX4_countHolders 0 = some (.ret 1, 1, false) ∧ NX4_countHolders 1 = some (.istore 4, 3, false) ∧ NX4_countHolders 3 = some (.ret 0, 4, false) ∧ NX4_countHolders 4 = some (.istore 5, 6, false) ∧ NX4_countHolders 6 = some (.iload 5, 8, true)) ∧ (NX4_countHolders 8 = some (.aload 0, 9, false) ∧ NX4_countHolders 9 = some (.getfield 403, 12, false) ∧ NX4_countHolders 12 = some (.invokeinterface 89 1, 15, false) ∧ NX4_countHolders 15 = some (.if_icmp .ge 59, 18, false) ∧ NX4_countHolders 18 = some (.iload 5, 20, false)) ∧ (NX4_countHolders 20 = some (.iload 1, 21, false) ∧ NX4_countHolders 21 = some (.if_icmp .eq 53, 24, false) ∧ NX4_countHolders 24 = some (.aload 0, 25, false) ∧ NX4_countHolders 25 = some (.getfield 403, 28, false) ∧ NX4_countHolders 28 = some (.iload 5, 30, false)) ∧ (NX4_countHolders 30 = some (.invokeinterface 91 2, 33, false) ∧ NX4_countHolders 33 = some (.ifCond .eq 53, 36, false) ∧ NX4_countHolders 36 = some (.aload 0, 37, false) ∧ NX4_countHolders 37 = some (.getfield 402, 40, false) ∧ NX4_countHolders 40 = some (.iload 5, 42, false)) ∧ (NX4_countHolders 42 = some (.iload 2, 43, false) ∧ NX4_countHolders 43 = some (.invokeinterface 85 3, 46, false) ∧ NX4_countHolders 46 = some (.iload 3, 47, false) ∧ NX4_countHolders 47 = some (.if_icmp .ne 53, 50, false) ∧ NX4_countHolders 50 = some (.multianewarray 4 1, 53, false)) ∧ (NX4_countHolders 53 = some (.multianewarray 5 1, 56, false) ∧ NX4_countHolders 56 = some (.goto 6, 59, false) ∧ NX4_countHolders 59 = some (.iload 4, 61, false) ∧ NX4_countHolders 61 = some (.ireturn, 62, false)) := ⟨by decide +kernel, by decide +kernel, by decide +kernel, by decide +kernel, by decide +kernel, by decide +kernel⟩
def NX4_addWorths : sm_NF := sm_nd TX4_ cX4_addWorths 4 [4]
theorem n_X4_addWorths : (NX4_addWorths 0 = some (.ret 0, 1, false) ∧ NX4_addWorths 1 = some (.istore 2, 2, false) ∧ NX4_addWorths 2 = some (.ret 0, 3, false) ∧ NX4_addWorths 3 = some (.istore 3, 4, false) ∧ NX4_addWorths 4 = some (.iload 3, 5, true)) ∧ (NX4_addWorths 5 = some (.aload 0, 6, false) ∧ NX4_addWorths 6 = some (.getfield 404, 9, false) ∧ NX4_addWorths 9 = some (.arraylength, 10, false) ∧ NX4_addWorths 10 = some (.if_icmp .ge 41, 13, false) ∧ NX4_addWorths 13 = some (.aload 0, 14, false)) ∧ (NX4_addWorths 14 = some (.getfield 401, 17, false) ∧ NX4_addWorths 17 = some (.iload 1, 18, false) ∧ NX4_addWorths 18 = some (.iload 3, 19, false) ∧ NX4_addWorths 19 = some (.invokeinterface 85 3, 22, false) ∧ NX4_addWorths 22 = some (.putstatic 0, 23, false)) ∧ (NX4_addWorths 23 = some (.if_icmp .eq 35, 26, false) ∧ NX4_addWorths 26 = some (.iload 2, 27, false) ∧ NX4_addWorths 27 = some (.aload 0, 28, false) ∧ NX4_addWorths 28 = some (.getfield 404, 31, false) ∧ NX4_addWorths 31 = some (.iload 3, 32, false)) ∧ (NX4_addWorths 32 = some (.iaload, 33, false) ∧ NX4_addWorths 33 = some (.iadd, 34, false) ∧ NX4_addWorths 34 = some (.istore 2, 35, false) ∧ NX4_addWorths 35 = some (.multianewarray 3 1, 38, false) ∧ NX4_addWorths 38 = some (.goto 4, 41, false)) ∧ (NX4_addWorths 41 = some (.iload 2, 42, false) ∧ NX4_addWorths 42 = some (.ireturn, 43, false)) := ⟨by decide +kernel, by decide +kernel, by decide +kernel, by decide +kernel, by decide +kernel, by decide +kernel⟩
def NX4_strengthOf : sm_NF := sm_nd TX4_ cX4_strengthOf 3 []
theorem n_X4_strengthOf : (NX4_strengthOf 0 = some (.aload 0, 1, false) ∧ NX4_strengthOf 1 = some (.iload 1, 2, false) ∧ NX4_strengthOf 2 = some (.iload 2, 3, false) ∧ NX4_strengthOf 3 = some (.invokeinterface 57 3, 6, false) ∧ NX4_strengthOf 6 = some (.ifCond .ne 11, 9, false)) ∧ (NX4_strengthOf 9 = some (.putstatic 0, 10, false) ∧ NX4_strengthOf 10 = some (.ireturn, 11, false) ∧ NX4_strengthOf 11 = some (.aload 0, 12, false) ∧ NX4_strengthOf 12 = some (.iload 2, 13, false) ∧ NX4_strengthOf 13 = some (.invokeinterface 59 2, 16, false)) ∧ (NX4_strengthOf 16 = some (.aload 0, 17, false) ∧ NX4_strengthOf 17 = some (.iload 1, 18, false) ∧ NX4_strengthOf 18 = some (.invokeinterface 61 2, 21, false) ∧ NX4_strengthOf 21 = some (.ireturn, 22, false)) := ⟨by decide +kernel, by decide +kernel, by decide +kernel⟩
def NX4_countAsStrong : sm_NF := sm_nd TX4_ cX4_countAsStrong 7 [12]
theorem n_X4_countAsStrong : (NX4_countAsStrong 0 = some (.aload 0, 1, false) ∧ NX4_countAsStrong 1 = some (.iload 1, 2, false) ∧ NX4_countAsStrong 2 = some (.invokeinterface 58 2, 5, false) ∧ NX4_countAsStrong 5 = some (.lstore 3, 6, false) ∧ NX4_countAsStrong 6 = some (.ret 0, 7, false)) ∧ (NX4_countAsStrong 7 = some (.istore 5, 9, false) ∧ NX4_countAsStrong 9 = some (.ret 0, 10, false) ∧ NX4_countAsStrong 10 = some (.istore 6, 12, false) ∧ NX4_countAsStrong 12 = some (.iload 6, 14, true) ∧ NX4_countAsStrong 14 = some (.ret 60, 16, false)) ∧ (NX4_countAsStrong 16 = some (.if_icmp .ge 48, 19, false) ∧ NX4_countAsStrong 19 = some (.lload 3, 20, false) ∧ NX4_countAsStrong 20 = some (.iload 6, 22, false) ∧ NX4_countAsStrong 22 = some (.invokeinterface 131 2, 25, false) ∧ NX4_countAsStrong 25 = some (.ifCond .eq 42, 28, false)) ∧ (NX4_countAsStrong 28 = some (.aload 0, 29, false) ∧ NX4_countAsStrong 29 = some (.iload 1, 30, false) ∧ NX4_countAsStrong 30 = some (.iload 6, 32, false) ∧ NX4_countAsStrong 32 = some (.invokeinterface 62 3, 35, false) ∧ NX4_countAsStrong 35 = some (.iload 2, 36, false)) ∧ (NX4_countAsStrong 36 = some (.if_icmp .lt 42, 39, false) ∧ NX4_countAsStrong 39 = some (.multianewarray 5 1, 42, false) ∧ NX4_countAsStrong 42 = some (.multianewarray 6 1, 45, false) ∧ NX4_countAsStrong 45 = some (.goto 12, 48, false) ∧ NX4_countAsStrong 48 = some (.iload 5, 50, false)) ∧ (NX4_countAsStrong 50 = some (.ireturn, 51, false)) := ⟨by decide +kernel, by decide +kernel, by decide +kernel, by decide +kernel, by decide +kernel, by decide +kernel⟩
def NX5_init : sm_NF := sm_nd TX5_ cX5_init 1 []
theorem n_X5_init : (NX5_init 0 = some (.aload 0, 1, false) ∧ NX5_init 4 = some (.aload 0, 5, false) ∧ NX5_init 5 = some (.ret 16, 7, false) ∧ NX5_init 9 = some (.putfield 500, 12, false) ∧ NX5_init 12 = some (.aload 0, 13, false)) ∧ (NX5_init 13 = some (.ret 16, 15, false) ∧ NX5_init 17 = some (.putfield 501, 20, false) ∧ NX5_init 20 = some (.aload 0, 21, false) ∧ NX5_init 21 = some (.ret 16, 23, false) ∧ NX5_init 25 = some (.putfield 502, 28, false)) ∧ (NX5_init 28 = some (.aload 0, 29, false) ∧ NX5_init 29 = some (.ret 640, 32, false) ∧ NX5_init 34 = some (.putfield 503, 37, false) ∧ NX5_init 37 = some (.aload 0, 38, false) ∧ NX5_init 38 = some (.ret 0, 39, false)) ∧ (NX5_init 39 = some (.putfield 504, 42, false) ∧ NX5_init 42 = some (.return_, 43, false)) := ⟨by decide +kernel, by decide +kernel, by decide +kernel, by decide +kernel⟩
def NX5_size : sm_NF := sm_nd TX5_ cX5_size 1 []
theorem n_X5_size : NX5_size 0 = some (.aload 0, 1, false) ∧ NX5_size 1 = some (.getfield 504, 4, false) ∧ NX5_size 4 = some (.ireturn, 5, false) := by decide +kernel
def NX5_has : sm_NF := sm_nd TX5_ cX5_has 2 []
theorem n_X5_has : (NX5_has 0 = some (.iload 1, 1, false) ∧ NX5_has 1 = some (.ifCond .lt 16, 4, false) ∧ NX5_has 4 = some (.iload 1, 5, false) ∧ NX5_has 5 = some (.aload 0, 6, false) ∧ NX5_has 6 = some (.getfield 504, 9, false)) ∧ (NX5_has 9 = some (.if_icmp .ge 16, 12, false) ∧ NX5_has 12 = some (.ret 1, 13, false) ∧ NX5_has 13 = some (.goto 17, 16, false) ∧ NX5_has 16 = some (.ret 0, 17, false) ∧ NX5_has 17 = some (.ireturn, 18, false)) := ⟨by decide +kernel, by decide +kernel⟩
def NX5_weightOf : sm_NF := sm_nd TX5_ cX5_weightOf 2 []
theorem n_X5_weightOf : (NX5_weightOf 0 = some (.aload 0, 1, false) ∧ NX5_weightOf 1 = some (.iload 1, 2, false) ∧ NX5_weightOf 2 = some (.invokeinterface 66 2, 5, false) ∧ NX5_weightOf 5 = some (.ifCond .eq 17, 8, false) ∧ NX5_weightOf 8 = some (.aload 0, 9, false)) ∧ (NX5_weightOf 9 = some (.getfield 502, 12, false) ∧ NX5_weightOf 12 = some (.iload 1, 13, false) ∧ NX5_weightOf 13 = some (.iaload, 14, false) ∧ NX5_weightOf 14 = some (.goto 18, 17, false) ∧ NX5_weightOf 17 = some (.ret 0, 18, false)) ∧ (NX5_weightOf 18 = some (.ireturn, 19, false)) := ⟨by decide +kernel, by decide +kernel, by decide +kernel⟩
def NX5_add : sm_NF := sm_nd TX5_ cX5_add 5 []
theorem n_X5_add : (NX5_add 0 = some (.aload 0, 1, false) ∧ NX5_add 1 = some (.getfield 504, 4, false) ∧ NX5_add 4 = some (.ret 16, 6, false) ∧ NX5_add 6 = some (.if_icmp .ge 17, 9, false) ∧ NX5_add 9 = some (.iload 1, 10, false)) ∧ (NX5_add 10 = some (.iload 2, 11, false) ∧ NX5_add 11 = some (.invokeinterface 69 2, 14, false) ∧ NX5_add 14 = some (.ifCond .ne 19, 17, false) ∧ NX5_add 17 = some (.putstatic 0, 18, false) ∧ NX5_add 18 = some (.ireturn, 19, false)) ∧ (NX5_add 19 = some (.iload 3, 20, false) ∧ NX5_add 20 = some (.ret 1, 21, false) ∧ NX5_add 21 = some (.if_icmp .lt 30, 24, false) ∧ NX5_add 24 = some (.iload 3, 25, false) ∧ NX5_add 25 = some (.ret 100, 27, false)) ∧ (NX5_add 27 = some (.if_icmp .le 32, 30, false) ∧ NX5_add 30 = some (.putstatic 0, 31, false) ∧ NX5_add 31 = some (.ireturn, 32, false) ∧ NX5_add 32 = some (.aload 0, 33, false) ∧ NX5_add 33 = some (.getfield 504, 36, false)) ∧ (NX5_add 36 = some (.istore 4, 38, false) ∧ NX5_add 38 = some (.aload 0, 39, false) ∧ NX5_add 39 = some (.getfield 500, 42, false) ∧ NX5_add 42 = some (.iload 4, 44, false) ∧ NX5_add 44 = some (.iload 1, 45, false)) ∧ (NX5_add 45 = some (.iastore, 46, false) ∧ NX5_add 46 = some (.aload 0, 47, false) ∧ NX5_add 47 = some (.getfield 501, 50, false) ∧ NX5_add 50 = some (.iload 4, 52, false) ∧ NX5_add 52 = some (.iload 2, 53, false)) ∧ (NX5_add 53 = some (.iastore, 54, false) ∧ NX5_add 54 = some (.aload 0, 55, false) ∧ NX5_add 55 = some (.getfield 502, 58, false) ∧ NX5_add 58 = some (.iload 4, 60, false) ∧ NX5_add 60 = some (.iload 3, 61, false)) ∧ (NX5_add 61 = some (.iastore, 62, false) ∧ NX5_add 62 = some (.aload 0, 63, false) ∧ NX5_add 63 = some (.iload 4, 65, false) ∧ NX5_add 65 = some (.ret 1, 66, false) ∧ NX5_add 66 = some (.iadd, 67, false)) ∧ (NX5_add 67 = some (.putfield 504, 70, false) ∧ NX5_add 70 = some (.iload 4, 72, false) ∧ NX5_add 72 = some (.ireturn, 73, false)) := ⟨by decide +kernel, by decide +kernel, by decide +kernel, by decide +kernel, by decide +kernel, by decide +kernel, by decide +kernel, by decide +kernel, by decide +kernel⟩
def NX5_isNumberOf : sm_NF := sm_nd TX5_ cX5_isNumberOf 2 []
theorem n_X5_isNumberOf : (NX5_isNumberOf 0 = some (.iload 0, 1, false) ∧ NX5_isNumberOf 1 = some (.lookupswitch 61 #[(0, 28), (1, 45)], 28, false) ∧ NX5_isNumberOf 28 = some (.iload 1, 29, false) ∧ NX5_isNumberOf 29 = some (.ret 1, 30, false) ∧ NX5_isNumberOf 30 = some (.if_icmp .lt 43, 33, false)) ∧ (NX5_isNumberOf 33 = some (.iload 1, 34, false) ∧ NX5_isNumberOf 34 = some (.ret 40, 36, false) ∧ NX5_isNumberOf 36 = some (.if_icmp .gt 43, 39, false) ∧ NX5_isNumberOf 39 = some (.ret 1, 40, false) ∧ NX5_isNumberOf 40 = some (.goto 44, 43, false)) ∧ (NX5_isNumberOf 43 = some (.ret 0, 44, false) ∧ NX5_isNumberOf 44 = some (.ireturn, 45, false) ∧ NX5_isNumberOf 45 = some (.iload 1, 46, false) ∧ NX5_isNumberOf 46 = some (.ifCond .lt 59, 49, false) ∧ NX5_isNumberOf 49 = some (.iload 1, 50, false)) ∧ (NX5_isNumberOf 50 = some (.ret 10, 52, false) ∧ NX5_isNumberOf 52 = some (.if_icmp .gt 59, 55, false) ∧ NX5_isNumberOf 55 = some (.ret 1, 56, false) ∧ NX5_isNumberOf 56 = some (.goto 60, 59, false) ∧ NX5_isNumberOf 59 = some (.ret 0, 60, false)) ∧ (NX5_isNumberOf 60 = some (.ireturn, 61, false) ∧ NX5_isNumberOf 61 = some (.iload 0, 62, false) ∧ NX5_isNumberOf 62 = some (.ret 2, 63, false) ∧ NX5_isNumberOf 63 = some (.if_icmp .ne 74, 66, false) ∧ NX5_isNumberOf 66 = some (.iload 1, 67, false)) ∧ (NX5_isNumberOf 67 = some (.ifCond .ne 74, 70, false) ∧ NX5_isNumberOf 70 = some (.ret 1, 71, false) ∧ NX5_isNumberOf 71 = some (.goto 75, 74, false) ∧ NX5_isNumberOf 74 = some (.ret 0, 75, false) ∧ NX5_isNumberOf 75 = some (.ireturn, 76, false)) := ⟨by decide +kernel, by decide +kernel, by decide +kernel, by decide +kernel, by decide +kernel, by decide +kernel⟩
def NX5_isAnswer : sm_NF := sm_nd TX5_ cX5_isAnswer 3 []
theorem n_X5_isAnswer : (NX5_isAnswer 0 = some (.iload 1, 1, false) ∧ NX5_isAnswer 1 = some (.ifCond .lt 16, 4, false) ∧ NX5_isAnswer 4 = some (.iload 1, 5, false) ∧ NX5_isAnswer 5 = some (.aload 0, 6, false) ∧ NX5_isAnswer 6 = some (.getfield 504, 9, false)) ∧ (NX5_isAnswer 9 = some (.if_icmp .ge 16, 12, false) ∧ NX5_isAnswer 12 = some (.iload 2, 13, false) ∧ NX5_isAnswer 13 = some (.ifCond .ge 18, 16, false) ∧ NX5_isAnswer 16 = some (.ret 0, 17, false) ∧ NX5_isAnswer 17 = some (.ireturn, 18, false)) ∧ (NX5_isAnswer 18 = some (.aload 0, 19, false) ∧ NX5_isAnswer 19 = some (.getfield 500, 22, false) ∧ NX5_isAnswer 22 = some (.iload 1, 23, false) ∧ NX5_isAnswer 23 = some (.iaload, 24, false) ∧ NX5_isAnswer 24 = some (.lookupswitch 81 #[(0, 52), (1, 68)], 52, false)) ∧ (NX5_isAnswer 52 = some (.iload 2, 53, false) ∧ NX5_isAnswer 53 = some (.aload 0, 54, false) ∧ NX5_isAnswer 54 = some (.getfield 501, 57, false) ∧ NX5_isAnswer 57 = some (.iload 1, 58, false) ∧ NX5_isAnswer 58 = some (.iaload, 59, false)) ∧ (NX5_isAnswer 59 = some (.if_icmp .ge 66, 62, false) ∧ NX5_isAnswer 62 = some (.ret 1, 63, false) ∧ NX5_isAnswer 63 = some (.goto 67, 66, false) ∧ NX5_isAnswer 66 = some (.ret 0, 67, false) ∧ NX5_isAnswer 67 = some (.ireturn, 68, false)) ∧ (NX5_isAnswer 68 = some (.iload 2, 69, false) ∧ NX5_isAnswer 69 = some (.ret 30000, 72, false) ∧ NX5_isAnswer 72 = some (.if_icmp .gt 79, 75, false) ∧ NX5_isAnswer 75 = some (.ret 1, 76, false) ∧ NX5_isAnswer 76 = some (.goto 80, 79, false)) ∧ (NX5_isAnswer 79 = some (.ret 0, 80, false) ∧ NX5_isAnswer 80 = some (.ireturn, 81, false) ∧ NX5_isAnswer 81 = some (.iload 2, 82, false) ∧ NX5_isAnswer 82 = some (.ret 10000, 85, false) ∧ NX5_isAnswer 85 = some (.if_icmp .ge 103, 88, false)) ∧ (NX5_isAnswer 88 = some (.iload 2, 89, false) ∧ NX5_isAnswer 89 = some (.ret 100, 91, false) ∧ NX5_isAnswer 91 = some (.idiv, 92, false) ∧ NX5_isAnswer 92 = some (.iload 2, 93, false) ∧ NX5_isAnswer 93 = some (.ret 100, 95, false)) ∧ (NX5_isAnswer 95 = some (.irem, 96, false) ∧ NX5_isAnswer 96 = some (.if_icmp .gt 103, 99, false) ∧ NX5_isAnswer 99 = some (.ret 1, 100, false) ∧ NX5_isAnswer 100 = some (.goto 104, 103, false) ∧ NX5_isAnswer 103 = some (.ret 0, 104, false)) ∧ (NX5_isAnswer 104 = some (.ireturn, 105, false)) := ⟨by decide +kernel, by decide +kernel, by decide +kernel, by decide +kernel, by decide +kernel, by decide +kernel, by decide +kernel, by decide +kernel, by decide +kernel, by decide +kernel⟩
def NX5_tellOfTable : sm_NF := sm_nd TX5_ cX5_tellOfTable 5 []
theorem n_X5_tellOfTable : (NX5_tellOfTable 0 = some (.aload 0, 1, false) ∧ NX5_tellOfTable 1 = some (.iload 1, 2, false) ∧ NX5_tellOfTable 2 = some (.iload 2, 3, false) ∧ NX5_tellOfTable 3 = some (.invokeinterface 70 3, 6, false) ∧ NX5_tellOfTable 6 = some (.ifCond .eq 27, 9, false)) ∧ (NX5_tellOfTable 9 = some (.aload 0, 10, false) ∧ NX5_tellOfTable 10 = some (.iload 1, 11, false) ∧ NX5_tellOfTable 11 = some (.iload 3, 12, false) ∧ NX5_tellOfTable 12 = some (.invokeinterface 70 3, 15, false) ∧ NX5_tellOfTable 15 = some (.ifCond .eq 27, 18, false)) ∧ (NX5_tellOfTable 18 = some (.aload 0, 19, false) ∧ NX5_tellOfTable 19 = some (.getfield 500, 22, false) ∧ NX5_tellOfTable 22 = some (.iload 1, 23, false) ∧ NX5_tellOfTable 23 = some (.iaload, 24, false) ∧ NX5_tellOfTable 24 = some (.ifCond .eq 29, 27, false)) ∧ (NX5_tellOfTable 27 = some (.ret 0, 28, false) ∧ NX5_tellOfTable 28 = some (.ireturn, 29, false) ∧ NX5_tellOfTable 29 = some (.iload 2, 30, false) ∧ NX5_tellOfTable 30 = some (.iload 3, 31, false) ∧ NX5_tellOfTable 31 = some (.if_icmp .ne 37, 34, false)) ∧ (NX5_tellOfTable 34 = some (.iload 4, 36, false) ∧ NX5_tellOfTable 36 = some (.ireturn, 37, false) ∧ NX5_tellOfTable 37 = some (.aload 0, 38, false) ∧ NX5_tellOfTable 38 = some (.iload 1, 39, false) ∧ NX5_tellOfTable 39 = some (.ret 40, 41, false)) ∧ (NX5_tellOfTable 41 = some (.imul, 42, false) ∧ NX5_tellOfTable 42 = some (.iload 2, 43, false) ∧ NX5_tellOfTable 43 = some (.iadd, 44, false) ∧ NX5_tellOfTable 44 = some (.iload 3, 45, false) ∧ NX5_tellOfTable 45 = some (.iload 4, 47, false)) ∧ (NX5_tellOfTable 47 = some (.invokeinterface 72 4, 50, false) ∧ NX5_tellOfTable 50 = some (.aload 0, 51, false) ∧ NX5_tellOfTable 51 = some (.iload 1, 52, false) ∧ NX5_tellOfTable 52 = some (.ret 40, 54, false) ∧ NX5_tellOfTable 54 = some (.imul, 55, false)) ∧ (NX5_tellOfTable 55 = some (.iload 3, 56, false) ∧ NX5_tellOfTable 56 = some (.iadd, 57, false) ∧ NX5_tellOfTable 57 = some (.iload 2, 58, false) ∧ NX5_tellOfTable 58 = some (.iload 4, 60, false) ∧ NX5_tellOfTable 60 = some (.invokeinterface 72 4, 63, false)) ∧ (NX5_tellOfTable 63 = some (.ret 1, 64, false) ∧ NX5_tellOfTable 64 = some (.ireturn, 65, false)) := ⟨by decide +kernel, by decide +kernel, by decide +kernel, by decide +kernel, by decide +kernel, by decide +kernel, by decide +kernel, by decide +kernel, by decide +kernel⟩
def NX5_tellOneWay : sm_NF := sm_nd TX5_ cX5_tellOneWay 6 []
theorem n_X5_tellOneWay : (NX5_tellOneWay 0 = some (.iload 1, 1, false) ∧ NX5_tellOneWay 1 = some (.ifCond .lt 13, 4, false) ∧ NX5_tellOneWay 4 = some (.iload 1, 5, false) ∧ NX5_tellOneWay 5 = some (.aload 0, 6, false) ∧ NX5_tellOneWay 6 = some (.getfield 503, 9, false)) ∧ (NX5_tellOneWay 9 = some (.arraylength, 10, false) ∧ NX5_tellOneWay 10 = some (.if_icmp .lt 14, 13, false) ∧ NX5_tellOneWay 13 = some (.return_, 14, false) ∧ NX5_tellOneWay 14 = some (.getstatic 1, 15, false) ∧ NX5_tellOneWay 15 = some (.iload 2, 16, false)) ∧ (NX5_tellOneWay 16 = some (.lshl, 17, false) ∧ NX5_tellOneWay 17 = some (.lstore 4, 19, false) ∧ NX5_tellOneWay 19 = some (.aload 0, 20, false) ∧ NX5_tellOneWay 20 = some (.getfield 503, 23, false) ∧ NX5_tellOneWay 23 = some (.iload 1, 24, false)) ∧ (NX5_tellOneWay 24 = some (.iload 3, 25, false) ∧ NX5_tellOneWay 25 = some (.ifCond .eq 40, 28, false) ∧ NX5_tellOneWay 28 = some (.aload 0, 29, false) ∧ NX5_tellOneWay 29 = some (.getfield 503, 32, false) ∧ NX5_tellOneWay 32 = some (.iload 1, 33, false)) ∧ (NX5_tellOneWay 33 = some (.laload, 34, false) ∧ NX5_tellOneWay 34 = some (.lload 4, 36, false) ∧ NX5_tellOneWay 36 = some (.lor, 37, false) ∧ NX5_tellOneWay 37 = some (.goto 53, 40, false) ∧ NX5_tellOneWay 40 = some (.aload 0, 41, false)) ∧ (NX5_tellOneWay 41 = some (.getfield 503, 44, false) ∧ NX5_tellOneWay 44 = some (.iload 1, 45, false) ∧ NX5_tellOneWay 45 = some (.laload, 46, false) ∧ NX5_tellOneWay 46 = some (.lload 4, 48, false) ∧ NX5_tellOneWay 48 = some (.jsr (-1), 51, false)) ∧ (NX5_tellOneWay 51 = some (.lxor, 52, false) ∧ NX5_tellOneWay 52 = some (.land, 53, false) ∧ NX5_tellOneWay 53 = some (.lastore, 54, false) ∧ NX5_tellOneWay 54 = some (.return_, 55, false)) := ⟨by decide +kernel, by decide +kernel, by decide +kernel, by decide +kernel, by decide +kernel, by decide +kernel, by decide +kernel⟩
def NX5_agree : sm_NF := sm_nd TX5_ cX5_agree 5 []
theorem n_X5_agree : (NX5_agree 0 = some (.aload 0, 1, false) ∧ NX5_agree 1 = some (.iload 1, 2, false) ∧ NX5_agree 2 = some (.iload 2, 3, false) ∧ NX5_agree 3 = some (.invokeinterface 70 3, 6, false) ∧ NX5_agree 6 = some (.ifCond .eq 18, 9, false)) ∧ (NX5_agree 9 = some (.aload 0, 10, false) ∧ NX5_agree 10 = some (.iload 1, 11, false) ∧ NX5_agree 11 = some (.iload 3, 12, false) ∧ NX5_agree 12 = some (.invokeinterface 70 3, 15, false) ∧ NX5_agree 15 = some (.ifCond .ne 20, 18, false)) ∧ (NX5_agree 18 = some (.ret 0, 19, false) ∧ NX5_agree 19 = some (.ireturn, 20, false) ∧ NX5_agree 20 = some (.aload 0, 21, false) ∧ NX5_agree 21 = some (.getfield 500, 24, false) ∧ NX5_agree 24 = some (.iload 1, 25, false)) ∧ (NX5_agree 25 = some (.iaload, 26, false) ∧ NX5_agree 26 = some (.lookupswitch 119 #[(0, 52), (1, 83)], 52, false) ∧ NX5_agree 52 = some (.iload 2, 53, false) ∧ NX5_agree 53 = some (.iload 3, 54, false) ∧ NX5_agree 54 = some (.if_icmp .eq 77, 57, false)) ∧ (NX5_agree 57 = some (.aload 0, 58, false) ∧ NX5_agree 58 = some (.getfield 503, 61, false) ∧ NX5_agree 61 = some (.iload 1, 62, false) ∧ NX5_agree 62 = some (.ret 40, 64, false) ∧ NX5_agree 64 = some (.imul, 65, false)) ∧ (NX5_agree 65 = some (.iload 2, 66, false) ∧ NX5_agree 66 = some (.iadd, 67, false) ∧ NX5_agree 67 = some (.laload, 68, false) ∧ NX5_agree 68 = some (.iload 3, 69, false) ∧ NX5_agree 69 = some (.lshr, 70, false)) ∧ (NX5_agree 70 = some (.getstatic 1, 71, false) ∧ NX5_agree 71 = some (.land, 72, false) ∧ NX5_agree 72 = some (.getstatic 0, 73, false) ∧ NX5_agree 73 = some (.lcmp, 74, false) ∧ NX5_agree 74 = some (.ifCond .eq 81, 77, false)) ∧ (NX5_agree 77 = some (.ret 1, 78, false) ∧ NX5_agree 78 = some (.goto 82, 81, false) ∧ NX5_agree 81 = some (.ret 0, 82, false) ∧ NX5_agree 82 = some (.ireturn, 83, false) ∧ NX5_agree 83 = some (.iload 2, 84, false)) ∧ (NX5_agree 84 = some (.iload 3, 85, false) ∧ NX5_agree 85 = some (.invokeinterface 227 2, 88, false) ∧ NX5_agree 88 = some (.istore 4, 90, false) ∧ NX5_agree 90 = some (.ret 10, 92, false) ∧ NX5_agree 92 = some (.iload 4, 94, false)) ∧ (NX5_agree 94 = some (.iload 2, 95, false) ∧ NX5_agree 95 = some (.iload 3, 96, false) ∧ NX5_agree 96 = some (.invokeinterface 228 2, 99, false) ∧ NX5_agree 99 = some (.isub, 100, false) ∧ NX5_agree 100 = some (.imul, 101, false)) ∧ (NX5_agree 101 = some (.aload 0, 102, false) ∧ NX5_agree 102 = some (.getfield 501, 105, false) ∧ NX5_agree 105 = some (.iload 1, 106, false) ∧ NX5_agree 106 = some (.iaload, 107, false) ∧ NX5_agree 107 = some (.iload 4, 109, false)) ∧ (NX5_agree 109 = some (.imul, 110, false) ∧ NX5_agree 110 = some (.if_icmp .gt 117, 113, false) ∧ NX5_agree 113 = some (.ret 1, 114, false) ∧ NX5_agree 114 = some (.goto 118, 117, false) ∧ NX5_agree 117 = some (.ret 0, 118, false)) ∧ (NX5_agree 118 = some (.ireturn, 119, false) ∧ NX5_agree 119 = some (.iload 2, 120, false) ∧ NX5_agree 120 = some (.ret 100, 122, false) ∧ NX5_agree 122 = some (.idiv, 123, false) ∧ NX5_agree 123 = some (.iload 3, 124, false)) ∧ (NX5_agree 124 = some (.ret 100, 126, false) ∧ NX5_agree 126 = some (.irem, 127, false) ∧ NX5_agree 127 = some (.if_icmp .gt 145, 130, false) ∧ NX5_agree 130 = some (.iload 3, 131, false) ∧ NX5_agree 131 = some (.ret 100, 133, false)) ∧ (NX5_agree 133 = some (.idiv, 134, false) ∧ NX5_agree 134 = some (.iload 2, 135, false) ∧ NX5_agree 135 = some (.ret 100, 137, false) ∧ NX5_agree 137 = some (.irem, 138, false) ∧ NX5_agree 138 = some (.if_icmp .gt 145, 141, false)) ∧ (NX5_agree 141 = some (.ret 1, 142, false) ∧ NX5_agree 142 = some (.goto 146, 145, false) ∧ NX5_agree 145 = some (.ret 0, 146, false) ∧ NX5_agree 146 = some (.ireturn, 147, false)) := ⟨by decide +kernel, by decide +kernel, by decide +kernel, by decide +kernel, by decide +kernel, by decide +kernel, by decide +kernel, by decide +kernel, by decide +kernel, by decide +kernel, by decide +kernel, by decide +kernel, by decide +kernel, by decide +kernel, by decide +kernel, by decide +kernel⟩
def NX6_init : sm_NF := sm_nd TX6_ cX6_init 1 []
theorem n_X6_init : (NX6_init 0 = some (.aload 0, 1, false) ∧ NX6_init 4 = some (.aload 0, 5, false) ∧ NX6_init 5 = some (.ret 60, 7, false) ∧ NX6_init 9 = some (.putfield 600, 12, false) ∧ NX6_init 12 = some (.aload 0, 13, false)) ∧ (NX6_init 13 = some (.ret 60, 15, false) ∧ NX6_init 17 = some (.putfield 601, 20, false) ∧ NX6_init 20 = some (.aload 0, 21, false) ∧ NX6_init 21 = some (.ret 0, 22, false) ∧ NX6_init 22 = some (.putfield 602, 25, false)) ∧ (NX6_init 25 = some (.return_, 26, false)) := ⟨by decide +kernel, by decide +kernel, by decide +kernel⟩
def NX6_size : sm_NF := sm_nd TX6_ cX6_size 1 []
theorem n_X6_size : NX6_size 0 = some (.aload 0, 1, false) ∧ NX6_size 1 = some (.getfield 602, 4, false) ∧ NX6_size 4 = some (.ireturn, 5, false) := by decide +kernel
def NX6_has : sm_NF := sm_nd TX6_ cX6_has 2 []
theorem n_X6_has : (NX6_has 0 = some (.iload 1, 1, false) ∧ NX6_has 1 = some (.ifCond .lt 16, 4, false) ∧ NX6_has 4 = some (.iload 1, 5, false) ∧ NX6_has 5 = some (.aload 0, 6, false) ∧ NX6_has 6 = some (.getfield 602, 9, false)) ∧ (NX6_has 9 = some (.if_icmp .ge 16, 12, false) ∧ NX6_has 12 = some (.ret 1, 13, false) ∧ NX6_has 13 = some (.goto 17, 16, false) ∧ NX6_has 16 = some (.ret 0, 17, false) ∧ NX6_has 17 = some (.ireturn, 18, false)) := ⟨by decide +kernel, by decide +kernel⟩
def NX6_isOpen : sm_NF := sm_nd TX6_ cX6_isOpen 2 []
theorem n_X6_isOpen : (NX6_isOpen 0 = some (.aload 0, 1, false) ∧ NX6_isOpen 1 = some (.iload 1, 2, false) ∧ NX6_isOpen 2 = some (.invokeinterface 76 2, 5, false) ∧ NX6_isOpen 5 = some (.ifCond .eq 21, 8, false) ∧ NX6_isOpen 8 = some (.aload 0, 9, false)) ∧ (NX6_isOpen 9 = some (.getfield 601, 12, false) ∧ NX6_isOpen 12 = some (.iload 1, 13, false) ∧ NX6_isOpen 13 = some (.baload, 14, false) ∧ NX6_isOpen 14 = some (.ifCond .eq 21, 17, false) ∧ NX6_isOpen 17 = some (.ret 1, 18, false)) ∧ (NX6_isOpen 18 = some (.goto 22, 21, false) ∧ NX6_isOpen 21 = some (.ret 0, 22, false) ∧ NX6_isOpen 22 = some (.ireturn, 23, false)) := ⟨by decide +kernel, by decide +kernel, by decide +kernel⟩
def NX6_personOf : sm_NF := sm_nd TX6_ cX6_personOf 2 []
theorem n_X6_personOf : (NX6_personOf 0 = some (.aload 0, 1, false) ∧ NX6_personOf 1 = some (.iload 1, 2, false) ∧ NX6_personOf 2 = some (.invokeinterface 76 2, 5, false) ∧ NX6_personOf 5 = some (.ifCond .eq 17, 8, false) ∧ NX6_personOf 8 = some (.aload 0, 9, false)) ∧ (NX6_personOf 9 = some (.getfield 600, 12, false) ∧ NX6_personOf 12 = some (.iload 1, 13, false) ∧ NX6_personOf 13 = some (.iaload, 14, false) ∧ NX6_personOf 14 = some (.goto 18, 17, false) ∧ NX6_personOf 17 = some (.putstatic 0, 18, false)) ∧ (NX6_personOf 18 = some (.ireturn, 19, false)) := ⟨by decide +kernel, by decide +kernel, by decide +kernel⟩
def NX6_add : sm_NF := sm_nd TX6_ cX6_add 3 []
theorem n_X6_add : (NX6_add 0 = some (.aload 0, 1, false) ∧ NX6_add 1 = some (.getfield 602, 4, false) ∧ NX6_add 4 = some (.ret 60, 6, false) ∧ NX6_add 6 = some (.if_icmp .ge 21, 9, false) ∧ NX6_add 9 = some (.iload 1, 10, false)) ∧ (NX6_add 10 = some (.ret 1, 11, false) ∧ NX6_add 11 = some (.if_icmp .lt 21, 14, false) ∧ NX6_add 14 = some (.iload 1, 15, false) ∧ NX6_add 15 = some (.ret 999, 18, false) ∧ NX6_add 18 = some (.if_icmp .le 23, 21, false)) ∧ (NX6_add 21 = some (.putstatic 0, 22, false) ∧ NX6_add 22 = some (.ireturn, 23, false) ∧ NX6_add 23 = some (.aload 0, 24, false) ∧ NX6_add 24 = some (.getfield 602, 27, false) ∧ NX6_add 27 = some (.istore 2, 28, false)) ∧ (NX6_add 28 = some (.aload 0, 29, false) ∧ NX6_add 29 = some (.getfield 600, 32, false) ∧ NX6_add 32 = some (.iload 2, 33, false) ∧ NX6_add 33 = some (.iload 1, 34, false) ∧ NX6_add 34 = some (.iastore, 35, false)) ∧ (NX6_add 35 = some (.aload 0, 36, false) ∧ NX6_add 36 = some (.getfield 601, 39, false) ∧ NX6_add 39 = some (.iload 2, 40, false) ∧ NX6_add 40 = some (.ret 1, 41, false) ∧ NX6_add 41 = some (.bastore, 42, false)) ∧ (NX6_add 42 = some (.aload 0, 43, false) ∧ NX6_add 43 = some (.iload 2, 44, false) ∧ NX6_add 44 = some (.ret 1, 45, false) ∧ NX6_add 45 = some (.iadd, 46, false) ∧ NX6_add 46 = some (.putfield 602, 49, false)) ∧ (NX6_add 49 = some (.iload 2, 50, false) ∧ NX6_add 50 = some (.ireturn, 51, false)) := ⟨by decide +kernel, by decide +kernel, by decide +kernel, by decide +kernel, by decide +kernel, by decide +kernel, by decide +kernel⟩
def NX6_shut : sm_NF := sm_nd TX6_ cX6_shut 2 []
theorem n_X6_shut : (NX6_shut 0 = some (.aload 0, 1, false) ∧ NX6_shut 1 = some (.iload 1, 2, false) ∧ NX6_shut 2 = some (.invokeinterface 76 2, 5, false) ∧ NX6_shut 5 = some (.ifCond .eq 15, 8, false) ∧ NX6_shut 8 = some (.aload 0, 9, false)) ∧ (NX6_shut 9 = some (.getfield 601, 12, false) ∧ NX6_shut 12 = some (.iload 1, 13, false) ∧ NX6_shut 13 = some (.ret 0, 14, false) ∧ NX6_shut 14 = some (.bastore, 15, false) ∧ NX6_shut 15 = some (.return_, 16, false)) := ⟨by decide +kernel, by decide +kernel⟩
def NX6_openCount : sm_NF := sm_nd TX6_ cX6_openCount 3 [4]
theorem n_X6_openCount : (NX6_openCount 0 = some (.ret 0, 1, false) ∧ NX6_openCount 1 = some (.istore 1, 2, false) ∧ NX6_openCount 2 = some (.ret 0, 3, false) ∧ NX6_openCount 3 = some (.istore 2, 4, false) ∧ NX6_openCount 4 = some (.iload 2, 5, true)) ∧ (NX6_openCount 5 = some (.aload 0, 6, false) ∧ NX6_openCount 6 = some (.getfield 602, 9, false) ∧ NX6_openCount 9 = some (.if_icmp .ge 30, 12, false) ∧ NX6_openCount 12 = some (.aload 0, 13, false) ∧ NX6_openCount 13 = some (.getfield 601, 16, false)) ∧ (NX6_openCount 16 = some (.iload 2, 17, false) ∧ NX6_openCount 17 = some (.baload, 18, false) ∧ NX6_openCount 18 = some (.ifCond .eq 24, 21, false) ∧ NX6_openCount 21 = some (.multianewarray 1 1, 24, false) ∧ NX6_openCount 24 = some (.multianewarray 2 1, 27, false)) ∧ (NX6_openCount 27 = some (.goto 4, 30, false) ∧ NX6_openCount 30 = some (.iload 1, 31, false) ∧ NX6_openCount 31 = some (.ireturn, 32, false)) := ⟨by decide +kernel, by decide +kernel, by decide +kernel, by decide +kernel⟩
def NX7_init : sm_NF := sm_nd TX7_ cX7_init 2 [23]
theorem n_X7_init : (NX7_init 0 = some (.aload 0, 1, false) ∧ NX7_init 4 = some (.aload 0, 5, false) ∧ NX7_init 5 = some (.ret 60, 7, false) ∧ NX7_init 9 = some (.putfield 700, 12, false) ∧ NX7_init 12 = some (.aload 0, 13, false)) ∧ (NX7_init 13 = some (.ret 960, 16, false) ∧ NX7_init 18 = some (.putfield 701, 21, false) ∧ NX7_init 21 = some (.ret 0, 22, false) ∧ NX7_init 22 = some (.istore 1, 23, false) ∧ NX7_init 23 = some (.iload 1, 24, true)) ∧ (NX7_init 24 = some (.aload 0, 25, false) ∧ NX7_init 25 = some (.getfield 700, 28, false) ∧ NX7_init 28 = some (.arraylength, 29, false) ∧ NX7_init 29 = some (.if_icmp .ge 45, 32, false) ∧ NX7_init 32 = some (.aload 0, 33, false)) ∧ (NX7_init 33 = some (.getfield 700, 36, false) ∧ NX7_init 36 = some (.iload 1, 37, false) ∧ NX7_init 37 = some (.putstatic 0, 38, false) ∧ NX7_init 38 = some (.iastore, 39, false) ∧ NX7_init 39 = some (.multianewarray 1 1, 42, false)) ∧ (NX7_init 42 = some (.goto 23, 45, false) ∧ NX7_init 45 = some (.return_, 46, false)) := ⟨by decide +kernel, by decide +kernel, by decide +kernel, by decide +kernel, by decide +kernel⟩
def NX7_isRow : sm_NF := sm_nd TX7_ cX7_isRow 2 []
theorem n_X7_isRow : (NX7_isRow 0 = some (.iload 1, 1, false) ∧ NX7_isRow 1 = some (.ifCond .lt 17, 4, false) ∧ NX7_isRow 4 = some (.iload 1, 5, false) ∧ NX7_isRow 5 = some (.aload 0, 6, false) ∧ NX7_isRow 6 = some (.getfield 700, 9, false)) ∧ (NX7_isRow 9 = some (.arraylength, 10, false) ∧ NX7_isRow 10 = some (.if_icmp .ge 17, 13, false) ∧ NX7_isRow 13 = some (.ret 1, 14, false) ∧ NX7_isRow 14 = some (.goto 18, 17, false) ∧ NX7_isRow 17 = some (.ret 0, 18, false)) ∧ (NX7_isRow 18 = some (.ireturn, 19, false)) := ⟨by decide +kernel, by decide +kernel, by decide +kernel⟩
def NX7_lengthOf : sm_NF := sm_nd TX7_ cX7_lengthOf 2 []
theorem n_X7_lengthOf : (NX7_lengthOf 0 = some (.aload 0, 1, false) ∧ NX7_lengthOf 1 = some (.iload 1, 2, false) ∧ NX7_lengthOf 2 = some (.invokeinterface 83 2, 5, false) ∧ NX7_lengthOf 5 = some (.ifCond .eq 17, 8, false) ∧ NX7_lengthOf 8 = some (.aload 0, 9, false)) ∧ (NX7_lengthOf 9 = some (.getfield 700, 12, false) ∧ NX7_lengthOf 12 = some (.iload 1, 13, false) ∧ NX7_lengthOf 13 = some (.iaload, 14, false) ∧ NX7_lengthOf 14 = some (.goto 18, 17, false) ∧ NX7_lengthOf 17 = some (.putstatic 0, 18, false)) ∧ (NX7_lengthOf 18 = some (.ireturn, 19, false)) := ⟨by decide +kernel, by decide +kernel, by decide +kernel⟩
def NX7_answerOf : sm_NF := sm_nd TX7_ cX7_answerOf 3 []
theorem n_X7_answerOf : (NX7_answerOf 0 = some (.aload 0, 1, false) ∧ NX7_answerOf 1 = some (.iload 1, 2, false) ∧ NX7_answerOf 2 = some (.invokeinterface 83 2, 5, false) ∧ NX7_answerOf 5 = some (.ifCond .eq 28, 8, false) ∧ NX7_answerOf 8 = some (.iload 2, 9, false)) ∧ (NX7_answerOf 9 = some (.ifCond .lt 28, 12, false) ∧ NX7_answerOf 12 = some (.iload 2, 13, false) ∧ NX7_answerOf 13 = some (.ret 16, 15, false) ∧ NX7_answerOf 15 = some (.if_icmp .ge 28, 18, false) ∧ NX7_answerOf 18 = some (.iload 2, 19, false)) ∧ (NX7_answerOf 19 = some (.aload 0, 20, false) ∧ NX7_answerOf 20 = some (.getfield 700, 23, false) ∧ NX7_answerOf 23 = some (.iload 1, 24, false) ∧ NX7_answerOf 24 = some (.iaload, 25, false) ∧ NX7_answerOf 25 = some (.if_icmp .lt 30, 28, false)) ∧ (NX7_answerOf 28 = some (.putstatic 0, 29, false) ∧ NX7_answerOf 29 = some (.ireturn, 30, false) ∧ NX7_answerOf 30 = some (.aload 0, 31, false) ∧ NX7_answerOf 31 = some (.getfield 701, 34, false) ∧ NX7_answerOf 34 = some (.iload 1, 35, false)) ∧ (NX7_answerOf 35 = some (.ret 16, 37, false) ∧ NX7_answerOf 37 = some (.imul, 38, false) ∧ NX7_answerOf 38 = some (.iload 2, 39, false) ∧ NX7_answerOf 39 = some (.iadd, 40, false) ∧ NX7_answerOf 40 = some (.iaload, 41, false)) ∧ (NX7_answerOf 41 = some (.ireturn, 42, false)) := ⟨by decide +kernel, by decide +kernel, by decide +kernel, by decide +kernel, by decide +kernel, by decide +kernel⟩
def NX7_put : sm_NF := sm_nd TX7_ cX7_put 6 [37]
theorem n_X7_put : (NX7_put 0 = some (.aload 0, 1, false) ∧ NX7_put 1 = some (.iload 1, 2, false) ∧ NX7_put 2 = some (.invokeinterface 83 2, 5, false) ∧ NX7_put 5 = some (.ifCond .eq 18, 8, false) ∧ NX7_put 8 = some (.iload 2, 9, false)) ∧ (NX7_put 9 = some (.ifCond .lt 18, 12, false) ∧ NX7_put 12 = some (.iload 2, 13, false) ∧ NX7_put 13 = some (.ret 16, 15, false) ∧ NX7_put 15 = some (.if_icmp .lt 19, 18, false) ∧ NX7_put 18 = some (.return_, 19, false)) ∧ (NX7_put 19 = some (.iload 1, 20, false) ∧ NX7_put 20 = some (.ret 16, 22, false) ∧ NX7_put 22 = some (.imul, 23, false) ∧ NX7_put 23 = some (.istore 4, 25, false) ∧ NX7_put 25 = some (.aload 0, 26, false)) ∧ (NX7_put 26 = some (.getfield 700, 29, false) ∧ NX7_put 29 = some (.iload 1, 30, false) ∧ NX7_put 30 = some (.iaload, 31, false) ∧ NX7_put 31 = some (.ret 0, 32, false) ∧ NX7_put 32 = some (.invokeinterface 227 2, 35, false)) ∧ (NX7_put 35 = some (.istore 5, 37, false) ∧ NX7_put 37 = some (.iload 5, 39, true) ∧ NX7_put 39 = some (.iload 2, 40, false) ∧ NX7_put 40 = some (.if_icmp .ge 60, 43, false) ∧ NX7_put 43 = some (.aload 0, 44, false)) ∧ (NX7_put 44 = some (.getfield 701, 47, false) ∧ NX7_put 47 = some (.iload 4, 49, false) ∧ NX7_put 49 = some (.iload 5, 51, false) ∧ NX7_put 51 = some (.iadd, 52, false) ∧ NX7_put 52 = some (.putstatic 0, 53, false)) ∧ (NX7_put 53 = some (.iastore, 54, false) ∧ NX7_put 54 = some (.multianewarray 5 1, 57, false) ∧ NX7_put 57 = some (.goto 37, 60, false) ∧ NX7_put 60 = some (.aload 0, 61, false) ∧ NX7_put 61 = some (.getfield 701, 64, false)) ∧ (NX7_put 64 = some (.iload 4, 66, false) ∧ NX7_put 66 = some (.iload 2, 67, false) ∧ NX7_put 67 = some (.iadd, 68, false) ∧ NX7_put 68 = some (.iload 3, 69, false) ∧ NX7_put 69 = some (.iastore, 70, false)) ∧ (NX7_put 70 = some (.aload 0, 71, false) ∧ NX7_put 71 = some (.getfield 700, 74, false) ∧ NX7_put 74 = some (.iload 1, 75, false) ∧ NX7_put 75 = some (.aload 0, 76, false) ∧ NX7_put 76 = some (.getfield 700, 79, false)) ∧ (NX7_put 79 = some (.iload 1, 80, false) ∧ NX7_put 80 = some (.iaload, 81, false) ∧ NX7_put 81 = some (.iload 2, 82, false) ∧ NX7_put 82 = some (.ret 1, 83, false) ∧ NX7_put 83 = some (.iadd, 84, false)) ∧ (NX7_put 84 = some (.invokeinterface 227 2, 87, false) ∧ NX7_put 87 = some (.iastore, 88, false) ∧ NX7_put 88 = some (.return_, 89, false)) := ⟨by decide +kernel, by decide +kernel, by decide +kernel, by decide +kernel, by decide +kernel, by decide +kernel, by decide +kernel, by decide +kernel, by decide +kernel, by decide +kernel, by decide +kernel⟩
def NX7_cut : sm_NF := sm_nd TX7_ cX7_cut 3 []
theorem n_X7_cut : (NX7_cut 0 = some (.aload 0, 1, false) ∧ NX7_cut 1 = some (.iload 1, 2, false) ∧ NX7_cut 2 = some (.invokeinterface 83 2, 5, false) ∧ NX7_cut 5 = some (.ifCond .eq 33, 8, false) ∧ NX7_cut 8 = some (.aload 0, 9, false)) ∧ (NX7_cut 9 = some (.getfield 700, 12, false) ∧ NX7_cut 12 = some (.iload 1, 13, false) ∧ NX7_cut 13 = some (.iaload, 14, false) ∧ NX7_cut 14 = some (.putstatic 0, 15, false) ∧ NX7_cut 15 = some (.if_icmp .eq 33, 18, false)) ∧ (NX7_cut 18 = some (.iload 2, 19, false) ∧ NX7_cut 19 = some (.putstatic 0, 20, false) ∧ NX7_cut 20 = some (.if_icmp .lt 33, 23, false) ∧ NX7_cut 23 = some (.iload 2, 24, false) ∧ NX7_cut 24 = some (.aload 0, 25, false)) ∧ (NX7_cut 25 = some (.getfield 700, 28, false) ∧ NX7_cut 28 = some (.iload 1, 29, false) ∧ NX7_cut 29 = some (.iaload, 30, false) ∧ NX7_cut 30 = some (.if_icmp .le 35, 33, false) ∧ NX7_cut 33 = some (.ret 0, 34, false)) ∧ (NX7_cut 34 = some (.ireturn, 35, false) ∧ NX7_cut 35 = some (.aload 0, 36, false) ∧ NX7_cut 36 = some (.getfield 700, 39, false) ∧ NX7_cut 39 = some (.iload 1, 40, false) ∧ NX7_cut 40 = some (.iload 2, 41, false)) ∧ (NX7_cut 41 = some (.iastore, 42, false) ∧ NX7_cut 42 = some (.ret 1, 43, false) ∧ NX7_cut 43 = some (.ireturn, 44, false)) := ⟨by decide +kernel, by decide +kernel, by decide +kernel, by decide +kernel, by decide +kernel, by decide +kernel⟩
def NX8_init : sm_NF := sm_nd TX8_ cX8_init 1 []
theorem n_X8_init : (NX8_init 0 = some (.aload 0, 1, false) ∧ NX8_init 4 = some (.aload 0, 5, false) ∧ NX8_init 5 = some (.ret 60, 7, false) ∧ NX8_init 9 = some (.putfield 800, 12, false) ∧ NX8_init 12 = some (.aload 0, 13, false)) ∧ (NX8_init 13 = some (.ret 60, 15, false) ∧ NX8_init 17 = some (.putfield 801, 20, false) ∧ NX8_init 20 = some (.aload 0, 21, false) ∧ NX8_init 21 = some (.ret 60, 23, false) ∧ NX8_init 25 = some (.putfield 802, 28, false)) ∧ (NX8_init 28 = some (.aload 0, 29, false) ∧ NX8_init 29 = some (.ret 60, 31, false) ∧ NX8_init 33 = some (.putfield 803, 36, false) ∧ NX8_init 36 = some (.aload 0, 37, false) ∧ NX8_init 37 = some (.ret 60, 39, false)) ∧ (NX8_init 41 = some (.putfield 804, 44, false) ∧ NX8_init 44 = some (.aload 0, 45, false) ∧ NX8_init 45 = some (.ret 60, 47, false) ∧ NX8_init 49 = some (.putfield 805, 52, false) ∧ NX8_init 52 = some (.aload 0, 53, false)) ∧ (NX8_init 53 = some (.ret 60, 55, false) ∧ NX8_init 57 = some (.putfield 806, 60, false) ∧ NX8_init 60 = some (.aload 0, 61, false) ∧ NX8_init 61 = some (.ret 60, 63, false) ∧ NX8_init 65 = some (.putfield 807, 68, false)) ∧ (NX8_init 68 = some (.aload 0, 69, false) ∧ NX8_init 69 = some (.ret 60, 71, false) ∧ NX8_init 73 = some (.putfield 808, 76, false) ∧ NX8_init 76 = some (.aload 0, 77, false) ∧ NX8_init 77 = some (.ret 0, 78, false)) ∧ (NX8_init 78 = some (.putfield 809, 81, false) ∧ NX8_init 81 = some (.aload 0, 82, false) ∧ NX8_init 82 = some (.ret 0, 83, false) ∧ NX8_init 83 = some (.putfield 810, 86, false) ∧ NX8_init 86 = some (.return_, 87, false)) := ⟨by decide +kernel, by decide +kernel, by decide +kernel, by decide +kernel, by decide +kernel, by decide +kernel, by decide +kernel⟩
def NX8_size : sm_NF := sm_nd TX8_ cX8_size 1 []
theorem n_X8_size : NX8_size 0 = some (.aload 0, 1, false) ∧ NX8_size 1 = some (.getfield 809, 4, false) ∧ NX8_size 4 = some (.ireturn, 5, false) := by decide +kernel
def NX8_has : sm_NF := sm_nd TX8_ cX8_has 2 []
theorem n_X8_has : (NX8_has 0 = some (.iload 1, 1, false) ∧ NX8_has 1 = some (.ifCond .lt 16, 4, false) ∧ NX8_has 4 = some (.iload 1, 5, false) ∧ NX8_has 5 = some (.aload 0, 6, false) ∧ NX8_has 6 = some (.getfield 809, 9, false)) ∧ (NX8_has 9 = some (.if_icmp .ge 16, 12, false) ∧ NX8_has 12 = some (.ret 1, 13, false) ∧ NX8_has 13 = some (.goto 17, 16, false) ∧ NX8_has 16 = some (.ret 0, 17, false) ∧ NX8_has 17 = some (.ireturn, 18, false)) := ⟨by decide +kernel, by decide +kernel⟩
def NX8_isHere : sm_NF := sm_nd TX8_ cX8_isHere 2 []
theorem n_X8_isHere : (NX8_isHere 0 = some (.iload 1, 1, false) ∧ NX8_isHere 1 = some (.ifCond .lt 26, 4, false) ∧ NX8_isHere 4 = some (.iload 1, 5, false) ∧ NX8_isHere 5 = some (.aload 0, 6, false) ∧ NX8_isHere 6 = some (.getfield 809, 9, false)) ∧ (NX8_isHere 9 = some (.if_icmp .ge 26, 12, false) ∧ NX8_isHere 12 = some (.aload 0, 13, false) ∧ NX8_isHere 13 = some (.getfield 807, 16, false) ∧ NX8_isHere 16 = some (.iload 1, 17, false) ∧ NX8_isHere 17 = some (.iaload, 18, false)) ∧ (NX8_isHere 18 = some (.putstatic 0, 19, false) ∧ NX8_isHere 19 = some (.if_icmp .ne 26, 22, false) ∧ NX8_isHere 22 = some (.ret 1, 23, false) ∧ NX8_isHere 23 = some (.goto 27, 26, false) ∧ NX8_isHere 26 = some (.ret 0, 27, false)) ∧ (NX8_isHere 27 = some (.ireturn, 28, false)) := ⟨by decide +kernel, by decide +kernel, by decide +kernel, by decide +kernel⟩
def NX8_isBagHere : sm_NF := sm_nd TX8_ cX8_isBagHere 2 []
theorem n_X8_isBagHere : (NX8_isBagHere 0 = some (.aload 0, 1, false) ∧ NX8_isBagHere 1 = some (.iload 1, 2, false) ∧ NX8_isBagHere 2 = some (.invokeinterface 91 2, 5, false) ∧ NX8_isBagHere 5 = some (.ifCond .eq 22, 8, false) ∧ NX8_isBagHere 8 = some (.aload 0, 9, false)) ∧ (NX8_isBagHere 9 = some (.getfield 800, 12, false) ∧ NX8_isBagHere 12 = some (.iload 1, 13, false) ∧ NX8_isBagHere 13 = some (.iaload, 14, false) ∧ NX8_isBagHere 14 = some (.ret 1, 15, false) ∧ NX8_isBagHere 15 = some (.if_icmp .ne 22, 18, false)) ∧ (NX8_isBagHere 18 = some (.ret 1, 19, false) ∧ NX8_isBagHere 19 = some (.goto 23, 22, false) ∧ NX8_isBagHere 22 = some (.ret 0, 23, false) ∧ NX8_isBagHere 23 = some (.ireturn, 24, false)) := ⟨by decide +kernel, by decide +kernel, by decide +kernel⟩
def NX8_add : sm_NF := sm_nd TX8_ cX8_add 6 []
theorem n_X8_add : (NX8_add 0 = some (.aload 0, 1, false) ∧ NX8_add 1 = some (.getfield 809, 4, false) ∧ NX8_add 4 = some (.ret 60, 6, false) ∧ NX8_add 6 = some (.if_icmp .lt 11, 9, false) ∧ NX8_add 9 = some (.putstatic 0, 10, false)) ∧ (NX8_add 10 = some (.ireturn, 11, false) ∧ NX8_add 11 = some (.aload 0, 12, false) ∧ NX8_add 12 = some (.getfield 809, 15, false) ∧ NX8_add 15 = some (.istore 5, 17, false) ∧ NX8_add 17 = some (.aload 0, 18, false)) ∧ (NX8_add 18 = some (.getfield 800, 21, false) ∧ NX8_add 21 = some (.iload 5, 23, false) ∧ NX8_add 23 = some (.iload 1, 24, false) ∧ NX8_add 24 = some (.iastore, 25, false) ∧ NX8_add 25 = some (.aload 0, 26, false)) ∧ (NX8_add 26 = some (.getfield 801, 29, false) ∧ NX8_add 29 = some (.iload 5, 31, false) ∧ NX8_add 31 = some (.iload 2, 32, false) ∧ NX8_add 32 = some (.iastore, 33, false) ∧ NX8_add 33 = some (.aload 0, 34, false)) ∧ (NX8_add 34 = some (.getfield 802, 37, false) ∧ NX8_add 37 = some (.iload 5, 39, false) ∧ NX8_add 39 = some (.iload 3, 40, false) ∧ NX8_add 40 = some (.bastore, 41, false) ∧ NX8_add 41 = some (.aload 0, 42, false)) ∧ (NX8_add 42 = some (.getfield 803, 45, false) ∧ NX8_add 45 = some (.iload 5, 47, false) ∧ NX8_add 47 = some (.iload 4, 49, false) ∧ NX8_add 49 = some (.iastore, 50, false) ∧ NX8_add 50 = some (.aload 0, 51, false)) ∧ (NX8_add 51 = some (.getfield 804, 54, false) ∧ NX8_add 54 = some (.iload 5, 56, false) ∧ NX8_add 56 = some (.ret 0, 57, false) ∧ NX8_add 57 = some (.iastore, 58, false) ∧ NX8_add 58 = some (.aload 0, 59, false)) ∧ (NX8_add 59 = some (.getfield 805, 62, false) ∧ NX8_add 62 = some (.iload 5, 64, false) ∧ NX8_add 64 = some (.putstatic 0, 65, false) ∧ NX8_add 65 = some (.iastore, 66, false) ∧ NX8_add 66 = some (.aload 0, 67, false)) ∧ (NX8_add 67 = some (.getfield 806, 70, false) ∧ NX8_add 70 = some (.iload 5, 72, false) ∧ NX8_add 72 = some (.putstatic 0, 73, false) ∧ NX8_add 73 = some (.iastore, 74, false) ∧ NX8_add 74 = some (.aload 0, 75, false)) ∧ (NX8_add 75 = some (.getfield 807, 78, false) ∧ NX8_add 78 = some (.iload 5, 80, false) ∧ NX8_add 80 = some (.putstatic 0, 81, false) ∧ NX8_add 81 = some (.iastore, 82, false) ∧ NX8_add 82 = some (.aload 0, 83, false)) ∧ (NX8_add 83 = some (.iload 5, 85, false) ∧ NX8_add 85 = some (.ret 1, 86, false) ∧ NX8_add 86 = some (.iadd, 87, false) ∧ NX8_add 87 = some (.putfield 809, 90, false) ∧ NX8_add 90 = some (.iload 5, 92, false)) ∧ (NX8_add 92 = some (.ireturn, 93, false)) := ⟨by decide +kernel, by decide +kernel, by decide +kernel, by decide +kernel, by decide +kernel, by decide +kernel, by decide +kernel, by decide +kernel, by decide +kernel, by decide +kernel, by decide +kernel, by decide +kernel⟩
def NX8_whereOf : sm_NF := sm_nd TX8_ cX8_whereOf 2 []
theorem n_X8_whereOf : (NX8_whereOf 0 = some (.aload 0, 1, false) ∧ NX8_whereOf 1 = some (.iload 1, 2, false) ∧ NX8_whereOf 2 = some (.invokeinterface 91 2, 5, false) ∧ NX8_whereOf 5 = some (.ifCond .ne 10, 8, false) ∧ NX8_whereOf 8 = some (.ret 2, 9, false)) ∧ (NX8_whereOf 9 = some (.ireturn, 10, false) ∧ NX8_whereOf 10 = some (.aload 0, 11, false) ∧ NX8_whereOf 11 = some (.getfield 803, 14, false) ∧ NX8_whereOf 14 = some (.iload 1, 15, false) ∧ NX8_whereOf 15 = some (.iaload, 16, false)) ∧ (NX8_whereOf 16 = some (.putstatic 0, 17, false) ∧ NX8_whereOf 17 = some (.if_icmp .ne 24, 20, false) ∧ NX8_whereOf 20 = some (.ret 0, 21, false) ∧ NX8_whereOf 21 = some (.goto 25, 24, false) ∧ NX8_whereOf 24 = some (.ret 1, 25, false)) ∧ (NX8_whereOf 25 = some (.ireturn, 26, false)) := ⟨by decide +kernel, by decide +kernel, by decide +kernel, by decide +kernel⟩
def NX8_kindOf : sm_NF := sm_nd TX8_ cX8_kindOf 2 []
theorem n_X8_kindOf : (NX8_kindOf 0 = some (.aload 0, 1, false) ∧ NX8_kindOf 1 = some (.iload 1, 2, false) ∧ NX8_kindOf 2 = some (.invokeinterface 90 2, 5, false) ∧ NX8_kindOf 5 = some (.ifCond .eq 17, 8, false) ∧ NX8_kindOf 8 = some (.aload 0, 9, false)) ∧ (NX8_kindOf 9 = some (.getfield 800, 12, false) ∧ NX8_kindOf 12 = some (.iload 1, 13, false) ∧ NX8_kindOf 13 = some (.iaload, 14, false) ∧ NX8_kindOf 14 = some (.goto 18, 17, false) ∧ NX8_kindOf 17 = some (.putstatic 0, 18, false)) ∧ (NX8_kindOf 18 = some (.ireturn, 19, false)) := ⟨by decide +kernel, by decide +kernel, by decide +kernel⟩
def NX8_finderOf : sm_NF := sm_nd TX8_ cX8_finderOf 2 []
theorem n_X8_finderOf : (NX8_finderOf 0 = some (.aload 0, 1, false) ∧ NX8_finderOf 1 = some (.iload 1, 2, false) ∧ NX8_finderOf 2 = some (.invokeinterface 90 2, 5, false) ∧ NX8_finderOf 5 = some (.ifCond .eq 17, 8, false) ∧ NX8_finderOf 8 = some (.aload 0, 9, false)) ∧ (NX8_finderOf 9 = some (.getfield 801, 12, false) ∧ NX8_finderOf 12 = some (.iload 1, 13, false) ∧ NX8_finderOf 13 = some (.iaload, 14, false) ∧ NX8_finderOf 14 = some (.goto 18, 17, false) ∧ NX8_finderOf 17 = some (.putstatic 0, 18, false)) ∧ (NX8_finderOf 18 = some (.ireturn, 19, false)) := ⟨by decide +kernel, by decide +kernel, by decide +kernel⟩
def NX8_isWantedByFinder : sm_NF := sm_nd TX8_ cX8_isWantedByFinder 2 []
theorem n_X8_isWantedByFinder : (NX8_isWantedByFinder 0 = some (.aload 0, 1, false) ∧ NX8_isWantedByFinder 1 = some (.iload 1, 2, false) ∧ NX8_isWantedByFinder 2 = some (.invokeinterface 90 2, 5, false) ∧ NX8_isWantedByFinder 5 = some (.ifCond .eq 30, 8, false) ∧ NX8_isWantedByFinder 8 = some (.aload 0, 9, false)) ∧ (NX8_isWantedByFinder 9 = some (.getfield 802, 12, false) ∧ NX8_isWantedByFinder 12 = some (.iload 1, 13, false) ∧ NX8_isWantedByFinder 13 = some (.baload, 14, false) ∧ NX8_isWantedByFinder 14 = some (.ifCond .eq 30, 17, false) ∧ NX8_isWantedByFinder 17 = some (.aload 0, 18, false)) ∧ (NX8_isWantedByFinder 18 = some (.getfield 801, 21, false) ∧ NX8_isWantedByFinder 21 = some (.iload 1, 22, false) ∧ NX8_isWantedByFinder 22 = some (.iaload, 23, false) ∧ NX8_isWantedByFinder 23 = some (.ifCond .eq 30, 26, false) ∧ NX8_isWantedByFinder 26 = some (.ret 1, 27, false)) ∧ (NX8_isWantedByFinder 27 = some (.goto 31, 30, false) ∧ NX8_isWantedByFinder 30 = some (.ret 0, 31, false) ∧ NX8_isWantedByFinder 31 = some (.ireturn, 32, false)) := ⟨by decide +kernel, by decide +kernel, by decide +kernel, by decide +kernel⟩
def NX8_bagOf : sm_NF := sm_nd TX8_ cX8_bagOf 2 []
theorem n_X8_bagOf : (NX8_bagOf 0 = some (.aload 0, 1, false) ∧ NX8_bagOf 1 = some (.iload 1, 2, false) ∧ NX8_bagOf 2 = some (.invokeinterface 90 2, 5, false) ∧ NX8_bagOf 5 = some (.ifCond .eq 17, 8, false) ∧ NX8_bagOf 8 = some (.aload 0, 9, false)) ∧ (NX8_bagOf 9 = some (.getfield 803, 12, false) ∧ NX8_bagOf 12 = some (.iload 1, 13, false) ∧ NX8_bagOf 13 = some (.iaload, 14, false) ∧ NX8_bagOf 14 = some (.goto 18, 17, false) ∧ NX8_bagOf 17 = some (.putstatic 0, 18, false)) ∧ (NX8_bagOf 18 = some (.ireturn, 19, false)) := ⟨by decide +kernel, by decide +kernel, by decide +kernel⟩
def NX8_ageOf : sm_NF := sm_nd TX8_ cX8_ageOf 2 []
theorem n_X8_ageOf : (NX8_ageOf 0 = some (.aload 0, 1, false) ∧ NX8_ageOf 1 = some (.iload 1, 2, false) ∧ NX8_ageOf 2 = some (.invokeinterface 90 2, 5, false) ∧ NX8_ageOf 5 = some (.ifCond .eq 17, 8, false) ∧ NX8_ageOf 8 = some (.aload 0, 9, false)) ∧ (NX8_ageOf 9 = some (.getfield 804, 12, false) ∧ NX8_ageOf 12 = some (.iload 1, 13, false) ∧ NX8_ageOf 13 = some (.iaload, 14, false) ∧ NX8_ageOf 14 = some (.goto 18, 17, false) ∧ NX8_ageOf 17 = some (.putstatic 0, 18, false)) ∧ (NX8_ageOf 18 = some (.ireturn, 19, false)) := ⟨by decide +kernel, by decide +kernel, by decide +kernel⟩
def NX8_takerOf : sm_NF := sm_nd TX8_ cX8_takerOf 2 []
theorem n_X8_takerOf : (NX8_takerOf 0 = some (.aload 0, 1, false) ∧ NX8_takerOf 1 = some (.iload 1, 2, false) ∧ NX8_takerOf 2 = some (.invokeinterface 90 2, 5, false) ∧ NX8_takerOf 5 = some (.ifCond .eq 17, 8, false) ∧ NX8_takerOf 8 = some (.aload 0, 9, false)) ∧ (NX8_takerOf 9 = some (.getfield 805, 12, false) ∧ NX8_takerOf 12 = some (.iload 1, 13, false) ∧ NX8_takerOf 13 = some (.iaload, 14, false) ∧ NX8_takerOf 14 = some (.goto 18, 17, false) ∧ NX8_takerOf 17 = some (.putstatic 0, 18, false)) ∧ (NX8_takerOf 18 = some (.ireturn, 19, false)) := ⟨by decide +kernel, by decide +kernel, by decide +kernel⟩
def NX8_outDayOf : sm_NF := sm_nd TX8_ cX8_outDayOf 2 []
theorem n_X8_outDayOf : (NX8_outDayOf 0 = some (.aload 0, 1, false) ∧ NX8_outDayOf 1 = some (.iload 1, 2, false) ∧ NX8_outDayOf 2 = some (.invokeinterface 90 2, 5, false) ∧ NX8_outDayOf 5 = some (.ifCond .eq 17, 8, false) ∧ NX8_outDayOf 8 = some (.aload 0, 9, false)) ∧ (NX8_outDayOf 9 = some (.getfield 806, 12, false) ∧ NX8_outDayOf 12 = some (.iload 1, 13, false) ∧ NX8_outDayOf 13 = some (.iaload, 14, false) ∧ NX8_outDayOf 14 = some (.goto 18, 17, false) ∧ NX8_outDayOf 17 = some (.putstatic 0, 18, false)) ∧ (NX8_outDayOf 18 = some (.ireturn, 19, false)) := ⟨by decide +kernel, by decide +kernel, by decide +kernel⟩
def NX8_whyOf : sm_NF := sm_nd TX8_ cX8_whyOf 2 []
theorem n_X8_whyOf : (NX8_whyOf 0 = some (.aload 0, 1, false) ∧ NX8_whyOf 1 = some (.iload 1, 2, false) ∧ NX8_whyOf 2 = some (.invokeinterface 90 2, 5, false) ∧ NX8_whyOf 5 = some (.ifCond .eq 17, 8, false) ∧ NX8_whyOf 8 = some (.aload 0, 9, false)) ∧ (NX8_whyOf 9 = some (.getfield 807, 12, false) ∧ NX8_whyOf 12 = some (.iload 1, 13, false) ∧ NX8_whyOf 13 = some (.iaload, 14, false) ∧ NX8_whyOf 14 = some (.goto 18, 17, false) ∧ NX8_whyOf 17 = some (.putstatic 0, 18, false)) ∧ (NX8_whyOf 18 = some (.ireturn, 19, false)) := ⟨by decide +kernel, by decide +kernel, by decide +kernel⟩
def NX8_growOlder : sm_NF := sm_nd TX8_ cX8_growOlder 2 []
theorem n_X8_growOlder : (NX8_growOlder 0 = some (.aload 0, 1, false) ∧ NX8_growOlder 1 = some (.iload 1, 2, false) ∧ NX8_growOlder 2 = some (.invokeinterface 90 2, 5, false) ∧ NX8_growOlder 5 = some (.ifCond .ne 10, 8, false) ∧ NX8_growOlder 8 = some (.putstatic 0, 9, false)) ∧ (NX8_growOlder 9 = some (.ireturn, 10, false) ∧ NX8_growOlder 10 = some (.aload 0, 11, false) ∧ NX8_growOlder 11 = some (.getfield 804, 14, false) ∧ NX8_growOlder 14 = some (.iload 1, 15, false) ∧ NX8_growOlder 15 = some (.dup2, 16, false)) ∧ (NX8_growOlder 16 = some (.iaload, 17, false) ∧ NX8_growOlder 17 = some (.ret 1, 18, false) ∧ NX8_growOlder 18 = some (.iadd, 19, false) ∧ NX8_growOlder 19 = some (.iastore, 20, false) ∧ NX8_growOlder 20 = some (.aload 0, 21, false)) ∧ (NX8_growOlder 21 = some (.getfield 804, 24, false) ∧ NX8_growOlder 24 = some (.iload 1, 25, false) ∧ NX8_growOlder 25 = some (.iaload, 26, false) ∧ NX8_growOlder 26 = some (.ireturn, 27, false)) := ⟨by decide +kernel, by decide +kernel, by decide +kernel, by decide +kernel⟩
def NX8_moveTo : sm_NF := sm_nd TX8_ cX8_moveTo 3 []
theorem n_X8_moveTo : (NX8_moveTo 0 = some (.aload 0, 1, false) ∧ NX8_moveTo 1 = some (.iload 1, 2, false) ∧ NX8_moveTo 2 = some (.invokeinterface 90 2, 5, false) ∧ NX8_moveTo 5 = some (.ifCond .eq 15, 8, false) ∧ NX8_moveTo 8 = some (.aload 0, 9, false)) ∧ (NX8_moveTo 9 = some (.getfield 803, 12, false) ∧ NX8_moveTo 12 = some (.iload 1, 13, false) ∧ NX8_moveTo 13 = some (.iload 2, 14, false) ∧ NX8_moveTo 14 = some (.iastore, 15, false) ∧ NX8_moveTo 15 = some (.return_, 16, false)) := ⟨by decide +kernel, by decide +kernel⟩
def NX8_holds : sm_NF := sm_nd TX8_ cX8_holds 5 [5]
theorem n_X8_holds : (NX8_holds 0 = some (.iload 2, 1, false) ∧ NX8_holds 1 = some (.istore 3, 2, false) ∧ NX8_holds 2 = some (.ret 0, 3, false) ∧ NX8_holds 3 = some (.istore 4, 5, false) ∧ NX8_holds 5 = some (.iload 4, 7, true)) ∧ (NX8_holds 7 = some (.ret 60, 9, false) ∧ NX8_holds 9 = some (.if_icmp .ge 36, 12, false) ∧ NX8_holds 12 = some (.iload 3, 13, false) ∧ NX8_holds 13 = some (.putstatic 0, 14, false) ∧ NX8_holds 14 = some (.if_icmp .eq 36, 17, false)) ∧ (NX8_holds 17 = some (.iload 3, 18, false) ∧ NX8_holds 18 = some (.iload 1, 19, false) ∧ NX8_holds 19 = some (.if_icmp .ne 24, 22, false) ∧ NX8_holds 22 = some (.ret 1, 23, false) ∧ NX8_holds 23 = some (.ireturn, 24, false)) ∧ (NX8_holds 24 = some (.aload 0, 25, false) ∧ NX8_holds 25 = some (.iload 3, 26, false) ∧ NX8_holds 26 = some (.invokeinterface 98 2, 29, false) ∧ NX8_holds 29 = some (.istore 3, 30, false) ∧ NX8_holds 30 = some (.multianewarray 4 1, 33, false)) ∧ (NX8_holds 33 = some (.goto 5, 36, false) ∧ NX8_holds 36 = some (.ret 0, 37, false) ∧ NX8_holds 37 = some (.ireturn, 38, false)) := ⟨by decide +kernel, by decide +kernel, by decide +kernel, by decide +kernel, by decide +kernel⟩
def NX8_nextInside : sm_NF := sm_nd TX8_ cX8_nextInside 4 [6]
theorem n_X8_nextInside : (NX8_nextInside 0 = some (.iload 2, 1, false) ∧ NX8_nextInside 1 = some (.ret 0, 2, false) ∧ NX8_nextInside 2 = some (.invokeinterface 227 2, 5, false) ∧ NX8_nextInside 5 = some (.istore 3, 6, false) ∧ NX8_nextInside 6 = some (.iload 3, 7, true)) ∧ (NX8_nextInside 7 = some (.aload 0, 8, false) ∧ NX8_nextInside 8 = some (.getfield 809, 11, false) ∧ NX8_nextInside 11 = some (.if_icmp .ge 32, 14, false) ∧ NX8_nextInside 14 = some (.aload 0, 15, false) ∧ NX8_nextInside 15 = some (.getfield 803, 18, false)) ∧ (NX8_nextInside 18 = some (.iload 3, 19, false) ∧ NX8_nextInside 19 = some (.iaload, 20, false) ∧ NX8_nextInside 20 = some (.iload 1, 21, false) ∧ NX8_nextInside 21 = some (.if_icmp .ne 26, 24, false) ∧ NX8_nextInside 24 = some (.iload 3, 25, false)) ∧ (NX8_nextInside 25 = some (.ireturn, 26, false) ∧ NX8_nextInside 26 = some (.multianewarray 3 1, 29, false) ∧ NX8_nextInside 29 = some (.goto 6, 32, false) ∧ NX8_nextInside 32 = some (.putstatic 0, 33, false) ∧ NX8_nextInside 33 = some (.ireturn, 34, false)) := ⟨by decide +kernel, by decide +kernel, by decide +kernel, by decide +kernel⟩
def NX8_countInside : sm_NF := sm_nd TX8_ cX8_countInside 4 [4]
theorem n_X8_countInside : (NX8_countInside 0 = some (.ret 0, 1, false) ∧ NX8_countInside 1 = some (.istore 2, 2, false) ∧ NX8_countInside 2 = some (.ret 0, 3, false) ∧ NX8_countInside 3 = some (.istore 3, 4, false) ∧ NX8_countInside 4 = some (.iload 3, 5, true)) ∧ (NX8_countInside 5 = some (.aload 0, 6, false) ∧ NX8_countInside 6 = some (.getfield 809, 9, false) ∧ NX8_countInside 9 = some (.if_icmp .ge 31, 12, false) ∧ NX8_countInside 12 = some (.aload 0, 13, false) ∧ NX8_countInside 13 = some (.getfield 803, 16, false)) ∧ (NX8_countInside 16 = some (.iload 3, 17, false) ∧ NX8_countInside 17 = some (.iaload, 18, false) ∧ NX8_countInside 18 = some (.iload 1, 19, false) ∧ NX8_countInside 19 = some (.if_icmp .ne 25, 22, false) ∧ NX8_countInside 22 = some (.multianewarray 2 1, 25, false)) ∧ (NX8_countInside 25 = some (.multianewarray 3 1, 28, false) ∧ NX8_countInside 28 = some (.goto 4, 31, false) ∧ NX8_countInside 31 = some (.iload 2, 32, false) ∧ NX8_countInside 32 = some (.ireturn, 33, false)) := ⟨by decide +kernel, by decide +kernel, by decide +kernel, by decide +kernel⟩
def NX8_leave : sm_NF := sm_nd TX8_ cX8_leave 5 []
theorem n_X8_leave : (NX8_leave 0 = some (.aload 0, 1, false) ∧ NX8_leave 1 = some (.iload 1, 2, false) ∧ NX8_leave 2 = some (.invokeinterface 91 2, 5, false) ∧ NX8_leave 5 = some (.ifCond .eq 17, 8, false) ∧ NX8_leave 8 = some (.aload 0, 9, false)) ∧ (NX8_leave 9 = some (.getfield 810, 12, false) ∧ NX8_leave 12 = some (.ret 60, 14, false) ∧ NX8_leave 14 = some (.if_icmp .lt 18, 17, false) ∧ NX8_leave 17 = some (.return_, 18, false) ∧ NX8_leave 18 = some (.aload 0, 19, false)) ∧ (NX8_leave 19 = some (.getfield 803, 22, false) ∧ NX8_leave 22 = some (.iload 1, 23, false) ∧ NX8_leave 23 = some (.putstatic 0, 24, false) ∧ NX8_leave 24 = some (.iastore, 25, false) ∧ NX8_leave 25 = some (.aload 0, 26, false)) ∧ (NX8_leave 26 = some (.getfield 805, 29, false) ∧ NX8_leave 29 = some (.iload 1, 30, false) ∧ NX8_leave 30 = some (.iload 2, 31, false) ∧ NX8_leave 31 = some (.iastore, 32, false) ∧ NX8_leave 32 = some (.aload 0, 33, false)) ∧ (NX8_leave 33 = some (.getfield 806, 36, false) ∧ NX8_leave 36 = some (.iload 1, 37, false) ∧ NX8_leave 37 = some (.iload 3, 38, false) ∧ NX8_leave 38 = some (.iastore, 39, false) ∧ NX8_leave 39 = some (.aload 0, 40, false)) ∧ (NX8_leave 40 = some (.getfield 807, 43, false) ∧ NX8_leave 43 = some (.iload 1, 44, false) ∧ NX8_leave 44 = some (.iload 4, 46, false) ∧ NX8_leave 46 = some (.iastore, 47, false) ∧ NX8_leave 47 = some (.aload 0, 48, false)) ∧ (NX8_leave 48 = some (.getfield 808, 51, false) ∧ NX8_leave 51 = some (.aload 0, 52, false) ∧ NX8_leave 52 = some (.getfield 810, 55, false) ∧ NX8_leave 55 = some (.iload 1, 56, false) ∧ NX8_leave 56 = some (.iastore, 57, false)) ∧ (NX8_leave 57 = some (.aload 0, 58, false) ∧ NX8_leave 58 = some (.dup, 59, false) ∧ NX8_leave 59 = some (.getfield 810, 62, false) ∧ NX8_leave 62 = some (.ret 1, 63, false) ∧ NX8_leave 63 = some (.iadd, 64, false)) ∧ (NX8_leave 64 = some (.putfield 810, 67, false) ∧ NX8_leave 67 = some (.return_, 68, false)) := ⟨by decide +kernel, by decide +kernel, by decide +kernel, by decide +kernel, by decide +kernel, by decide +kernel, by decide +kernel, by decide +kernel, by decide +kernel⟩
def NX8_goneCount : sm_NF := sm_nd TX8_ cX8_goneCount 1 []
theorem n_X8_goneCount : NX8_goneCount 0 = some (.aload 0, 1, false) ∧ NX8_goneCount 1 = some (.getfield 810, 4, false) ∧ NX8_goneCount 4 = some (.ireturn, 5, false) := by decide +kernel
def NX8_goneAt : sm_NF := sm_nd TX8_ cX8_goneAt 2 []
theorem n_X8_goneAt : (NX8_goneAt 0 = some (.iload 1, 1, false) ∧ NX8_goneAt 1 = some (.ifCond .lt 21, 4, false) ∧ NX8_goneAt 4 = some (.iload 1, 5, false) ∧ NX8_goneAt 5 = some (.aload 0, 6, false) ∧ NX8_goneAt 6 = some (.getfield 810, 9, false)) ∧ (NX8_goneAt 9 = some (.if_icmp .ge 21, 12, false) ∧ NX8_goneAt 12 = some (.aload 0, 13, false) ∧ NX8_goneAt 13 = some (.getfield 808, 16, false) ∧ NX8_goneAt 16 = some (.iload 1, 17, false) ∧ NX8_goneAt 17 = some (.iaload, 18, false)) ∧ (NX8_goneAt 18 = some (.goto 22, 21, false) ∧ NX8_goneAt 21 = some (.putstatic 0, 22, false) ∧ NX8_goneAt 22 = some (.ireturn, 23, false)) := ⟨by decide +kernel, by decide +kernel, by decide +kernel⟩
def NX8_countPlaced : sm_NF := sm_nd TX8_ cX8_countPlaced 4 [4]
theorem n_X8_countPlaced : (NX8_countPlaced 0 = some (.ret 0, 1, false) ∧ NX8_countPlaced 1 = some (.istore 2, 2, false) ∧ NX8_countPlaced 2 = some (.ret 0, 3, false) ∧ NX8_countPlaced 3 = some (.istore 3, 4, false) ∧ NX8_countPlaced 4 = some (.iload 3, 5, true)) ∧ (NX8_countPlaced 5 = some (.aload 0, 6, false) ∧ NX8_countPlaced 6 = some (.getfield 809, 9, false) ∧ NX8_countPlaced 9 = some (.if_icmp .ge 30, 12, false) ∧ NX8_countPlaced 12 = some (.aload 0, 13, false) ∧ NX8_countPlaced 13 = some (.iload 3, 14, false)) ∧ (NX8_countPlaced 14 = some (.invokeinterface 94 2, 17, false) ∧ NX8_countPlaced 17 = some (.iload 1, 18, false) ∧ NX8_countPlaced 18 = some (.if_icmp .ne 24, 21, false) ∧ NX8_countPlaced 21 = some (.multianewarray 2 1, 24, false) ∧ NX8_countPlaced 24 = some (.multianewarray 3 1, 27, false)) ∧ (NX8_countPlaced 27 = some (.goto 4, 30, false) ∧ NX8_countPlaced 30 = some (.iload 2, 31, false) ∧ NX8_countPlaced 31 = some (.ireturn, 32, false)) := ⟨by decide +kernel, by decide +kernel, by decide +kernel, by decide +kernel⟩
def NX8_countWhy : sm_NF := sm_nd TX8_ cX8_countWhy 4 [4]
theorem n_X8_countWhy : (NX8_countWhy 0 = some (.ret 0, 1, false) ∧ NX8_countWhy 1 = some (.istore 2, 2, false) ∧ NX8_countWhy 2 = some (.ret 0, 3, false) ∧ NX8_countWhy 3 = some (.istore 3, 4, false) ∧ NX8_countWhy 4 = some (.iload 3, 5, true)) ∧ (NX8_countWhy 5 = some (.aload 0, 6, false) ∧ NX8_countWhy 6 = some (.getfield 809, 9, false) ∧ NX8_countWhy 9 = some (.if_icmp .ge 31, 12, false) ∧ NX8_countWhy 12 = some (.aload 0, 13, false) ∧ NX8_countWhy 13 = some (.getfield 807, 16, false)) ∧ (NX8_countWhy 16 = some (.iload 3, 17, false) ∧ NX8_countWhy 17 = some (.iaload, 18, false) ∧ NX8_countWhy 18 = some (.iload 1, 19, false) ∧ NX8_countWhy 19 = some (.if_icmp .ne 25, 22, false) ∧ NX8_countWhy 22 = some (.multianewarray 2 1, 25, false)) ∧ (NX8_countWhy 25 = some (.multianewarray 3 1, 28, false) ∧ NX8_countWhy 28 = some (.goto 4, 31, false) ∧ NX8_countWhy 31 = some (.iload 2, 32, false) ∧ NX8_countWhy 32 = some (.ireturn, 33, false)) := ⟨by decide +kernel, by decide +kernel, by decide +kernel, by decide +kernel⟩
def NL_claimed : sm_NF := sm_nd TL_ cL_claimed 5 []
theorem n_L_claimed : (NL_claimed 0 = some (.aload 3, 1, false) ∧ NL_claimed 1 = some (.ret 0, 2, false) ∧ NL_claimed 2 = some (.aload 0, 3, false) ∧ NL_claimed 3 = some (.iload 1, 4, false) ∧ NL_claimed 4 = some (.iload 2, 5, false)) ∧ (NL_claimed 5 = some (.invokeinterface 147 3, 8, false) ∧ NL_claimed 8 = some (.i2l, 9, false) ∧ NL_claimed 9 = some (.lastore, 10, false) ∧ NL_claimed 10 = some (.goto 17, 13, false) ∧ NL_claimed 13 = some (.astore 4, 15, false)) ∧ (NL_claimed 15 = some (.ret 1, 16, false) ∧ NL_claimed 16 = some (.ireturn, 17, false) ∧ NL_claimed 17 = some (.ret 0, 18, false) ∧ NL_claimed 18 = some (.ireturn, 19, false)) := ⟨by decide +kernel, by decide +kernel, by decide +kernel⟩
def NL_place : sm_NF := sm_nd TL_ cL_place 5 []
theorem n_L_place : (NL_place 0 = some (.aload 3, 1, false) ∧ NL_place 1 = some (.ret 0, 2, false) ∧ NL_place 2 = some (.aload 0, 3, false) ∧ NL_place 3 = some (.iload 1, 4, false) ∧ NL_place 4 = some (.iload 2, 5, false)) ∧ (NL_place 5 = some (.invokeinterface 149 3, 8, false) ∧ NL_place 8 = some (.i2l, 9, false) ∧ NL_place 9 = some (.lastore, 10, false) ∧ NL_place 10 = some (.goto 17, 13, false) ∧ NL_place 13 = some (.astore 4, 15, false)) ∧ (NL_place 15 = some (.ret 1, 16, false) ∧ NL_place 16 = some (.ireturn, 17, false) ∧ NL_place 17 = some (.ret 0, 18, false) ∧ NL_place 18 = some (.ireturn, 19, false)) := ⟨by decide +kernel, by decide +kernel, by decide +kernel⟩
def NL_law : sm_NF := sm_nd TL_ cL_law 7 [23]
theorem n_L_law : (NL_law 3 = some (.dup, 4, false) ∧ NL_law 7 = some (.astore 1, 8, false) ∧ NL_law 11 = some (.dup, 12, false) ∧ NL_law 15 = some (.astore 2, 16, false) ∧ NL_law 16 = some (.ret 1, 17, false)) ∧ (NL_law 19 = some (.astore 3, 20, false) ∧ NL_law 20 = some (.ret 0, 21, false) ∧ NL_law 21 = some (.istore 4, 23, false) ∧ NL_law 23 = some (.iload 4, 25, true) ∧ NL_law 25 = some (.aload 0, 26, false)) ∧ (NL_law 26 = some (.arraylength, 27, false) ∧ NL_law 27 = some (.ret 5, 28, false) ∧ NL_law 28 = some (.isub, 29, false) ∧ NL_law 29 = some (.if_icmp .gt 1586, 32, false) ∧ NL_law 32 = some (.aload 0, 33, false)) ∧ (NL_law 33 = some (.iload 4, 35, false) ∧ NL_law 35 = some (.iaload, 36, false) ∧ NL_law 36 = some (.ret 63, 38, false) ∧ NL_law 38 = some (.iand, 39, false) ∧ NL_law 39 = some (.tableswitch 1580 0 33 #[188, 237, 314, 363, 440, 465, 542, 607, 672, 725, 762, 799, 836, 861, 898, 923, 948, 973, 1010, 1047, 1084, 1109, 1134, 1171, 1220, 1245, 1270, 1295, 1363, 1400, 1468, 1505, 1530, 1555], 188, false)) ∧ (NL_law 188 = some (.aload 1, 189, false) ∧ NL_law 189 = some (.aload 0, 190, false) ∧ NL_law 190 = some (.iload 4, 192, false) ∧ NL_law 192 = some (.ret 1, 193, false) ∧ NL_law 193 = some (.iadd, 194, false)) ∧ (NL_law 194 = some (.iaload, 195, false) ∧ NL_law 195 = some (.aload 0, 196, false) ∧ NL_law 196 = some (.iload 4, 198, false) ∧ NL_law 198 = some (.ret 2, 199, false) ∧ NL_law 199 = some (.iadd, 200, false)) ∧ (NL_law 200 = some (.iaload, 201, false) ∧ NL_law 201 = some (.aload 0, 202, false) ∧ NL_law 202 = some (.iload 4, 204, false) ∧ NL_law 204 = some (.ret 3, 205, false) ∧ NL_law 205 = some (.iadd, 206, false)) ∧ (NL_law 206 = some (.iaload, 207, false) ∧ NL_law 207 = some (.invokeinterface 114 4, 210, false) ∧ NL_law 210 = some (.aload 2, 211, false) ∧ NL_law 211 = some (.aload 0, 212, false) ∧ NL_law 212 = some (.iload 4, 214, false)) ∧ (NL_law 214 = some (.ret 1, 215, false) ∧ NL_law 215 = some (.iadd, 216, false) ∧ NL_law 216 = some (.iaload, 217, false) ∧ NL_law 217 = some (.aload 0, 218, false) ∧ NL_law 218 = some (.iload 4, 220, false)) ∧ (NL_law 220 = some (.ret 2, 221, false) ∧ NL_law 221 = some (.iadd, 222, false) ∧ NL_law 222 = some (.iaload, 223, false) ∧ NL_law 223 = some (.aload 0, 224, false) ∧ NL_law 224 = some (.iload 4, 226, false)) ∧ (NL_law 226 = some (.ret 3, 227, false) ∧ NL_law 227 = some (.iadd, 228, false) ∧ NL_law 228 = some (.iaload, 229, false) ∧ NL_law 229 = some (.invokeinterface 161 4, 232, false) ∧ NL_law 232 = some (.if_icmp .eq 1580, 235, false)) ∧ (NL_law 235 = some (.ret 0, 236, false) ∧ NL_law 236 = some (.ireturn, 237, false) ∧ NL_law 237 = some (.aload 1, 238, false) ∧ NL_law 238 = some (.aload 0, 239, false) ∧ NL_law 239 = some (.iload 4, 241, false)) ∧ (NL_law 241 = some (.ret 1, 242, false) ∧ NL_law 242 = some (.iadd, 243, false) ∧ NL_law 243 = some (.iaload, 244, false) ∧ NL_law 244 = some (.aload 0, 245, false) ∧ NL_law 245 = some (.iload 4, 247, false)) ∧ (NL_law 247 = some (.ret 2, 248, false) ∧ NL_law 248 = some (.iadd, 249, false) ∧ NL_law 249 = some (.iaload, 250, false) ∧ NL_law 250 = some (.aload 0, 251, false) ∧ NL_law 251 = some (.iload 4, 253, false)) ∧ (NL_law 253 = some (.ret 3, 254, false) ∧ NL_law 254 = some (.iadd, 255, false) ∧ NL_law 255 = some (.iaload, 256, false) ∧ NL_law 256 = some (.aload 0, 257, false) ∧ NL_law 257 = some (.iload 4, 259, false)) ∧ (NL_law 259 = some (.ret 4, 260, false) ∧ NL_law 260 = some (.iadd, 261, false) ∧ NL_law 261 = some (.iaload, 262, false) ∧ NL_law 262 = some (.ifCond .eq 269, 265, false) ∧ NL_law 265 = some (.ret 1, 266, false)) ∧ (NL_law 266 = some (.goto 270, 269, false) ∧ NL_law 269 = some (.ret 0, 270, false) ∧ NL_law 270 = some (.invokeinterface 115 5, 273, false) ∧ NL_law 273 = some (.aload 2, 274, false) ∧ NL_law 274 = some (.aload 0, 275, false)) ∧ (NL_law 275 = some (.iload 4, 277, false) ∧ NL_law 277 = some (.ret 1, 278, false) ∧ NL_law 278 = some (.iadd, 279, false) ∧ NL_law 279 = some (.iaload, 280, false) ∧ NL_law 280 = some (.aload 0, 281, false)) ∧ (NL_law 281 = some (.iload 4, 283, false) ∧ NL_law 283 = some (.ret 2, 284, false) ∧ NL_law 284 = some (.iadd, 285, false) ∧ NL_law 285 = some (.iaload, 286, false) ∧ NL_law 286 = some (.aload 0, 287, false)) ∧ (NL_law 287 = some (.iload 4, 289, false) ∧ NL_law 289 = some (.ret 3, 290, false) ∧ NL_law 290 = some (.iadd, 291, false) ∧ NL_law 291 = some (.iaload, 292, false) ∧ NL_law 292 = some (.aload 0, 293, false)) ∧ (NL_law 293 = some (.iload 4, 295, false) ∧ NL_law 295 = some (.ret 4, 296, false) ∧ NL_law 296 = some (.iadd, 297, false) ∧ NL_law 297 = some (.iaload, 298, false) ∧ NL_law 298 = some (.ifCond .eq 305, 301, false)) ∧ (NL_law 301 = some (.ret 1, 302, false) ∧ NL_law 302 = some (.goto 306, 305, false) ∧ NL_law 305 = some (.ret 0, 306, false) ∧ NL_law 306 = some (.invokeinterface 165 5, 309, false) ∧ NL_law 309 = some (.if_icmp .eq 1580, 312, false)) ∧ (NL_law 312 = some (.ret 0, 313, false) ∧ NL_law 313 = some (.ireturn, 314, false) ∧ NL_law 314 = some (.aload 1, 315, false) ∧ NL_law 315 = some (.aload 0, 316, false) ∧ NL_law 316 = some (.iload 4, 318, false)) ∧ (NL_law 318 = some (.ret 1, 319, false) ∧ NL_law 319 = some (.iadd, 320, false) ∧ NL_law 320 = some (.iaload, 321, false) ∧ NL_law 321 = some (.aload 0, 322, false) ∧ NL_law 322 = some (.iload 4, 324, false)) ∧ (NL_law 324 = some (.ret 2, 325, false) ∧ NL_law 325 = some (.iadd, 326, false) ∧ NL_law 326 = some (.iaload, 327, false) ∧ NL_law 327 = some (.aload 0, 328, false) ∧ NL_law 328 = some (.iload 4, 330, false)) ∧ (NL_law 330 = some (.ret 3, 331, false) ∧ NL_law 331 = some (.iadd, 332, false) ∧ NL_law 332 = some (.iaload, 333, false) ∧ NL_law 333 = some (.invokeinterface 116 4, 336, false) ∧ NL_law 336 = some (.aload 2, 337, false)) ∧ (NL_law 337 = some (.aload 0, 338, false) ∧ NL_law 338 = some (.iload 4, 340, false) ∧ NL_law 340 = some (.ret 1, 341, false) ∧ NL_law 341 = some (.iadd, 342, false) ∧ NL_law 342 = some (.iaload, 343, false)) ∧ (NL_law 343 = some (.aload 0, 344, false) ∧ NL_law 344 = some (.iload 4, 346, false) ∧ NL_law 346 = some (.ret 2, 347, false) ∧ NL_law 347 = some (.iadd, 348, false) ∧ NL_law 348 = some (.iaload, 349, false)) ∧ (NL_law 349 = some (.aload 0, 350, false) ∧ NL_law 350 = some (.iload 4, 352, false) ∧ NL_law 352 = some (.ret 3, 353, false) ∧ NL_law 353 = some (.iadd, 354, false) ∧ NL_law 354 = some (.iaload, 355, false)) ∧ (NL_law 355 = some (.invokeinterface 166 4, 358, false) ∧ NL_law 358 = some (.if_icmp .eq 1580, 361, false) ∧ NL_law 361 = some (.ret 0, 362, false) ∧ NL_law 362 = some (.ireturn, 363, false) ∧ NL_law 363 = some (.aload 1, 364, false)) ∧ (NL_law 364 = some (.aload 0, 365, false) ∧ NL_law 365 = some (.iload 4, 367, false) ∧ NL_law 367 = some (.ret 1, 368, false) ∧ NL_law 368 = some (.iadd, 369, false) ∧ NL_law 369 = some (.iaload, 370, false)) ∧ (NL_law 370 = some (.aload 0, 371, false) ∧ NL_law 371 = some (.iload 4, 373, false) ∧ NL_law 373 = some (.ret 2, 374, false) ∧ NL_law 374 = some (.iadd, 375, false) ∧ NL_law 375 = some (.iaload, 376, false)) ∧ (NL_law 376 = some (.aload 0, 377, false) ∧ NL_law 377 = some (.iload 4, 379, false) ∧ NL_law 379 = some (.ret 3, 380, false) ∧ NL_law 380 = some (.iadd, 381, false) ∧ NL_law 381 = some (.iaload, 382, false)) ∧ (NL_law 382 = some (.ifCond .eq 389, 385, false) ∧ NL_law 385 = some (.ret 1, 386, false) ∧ NL_law 386 = some (.goto 390, 389, false) ∧ NL_law 389 = some (.ret 0, 390, false) ∧ NL_law 390 = some (.aload 0, 391, false)) ∧ (NL_law 391 = some (.iload 4, 393, false) ∧ NL_law 393 = some (.ret 4, 394, false) ∧ NL_law 394 = some (.iadd, 395, false) ∧ NL_law 395 = some (.iaload, 396, false) ∧ NL_law 396 = some (.invokeinterface 117 5, 399, false)) ∧ (NL_law 399 = some (.aload 2, 400, false) ∧ NL_law 400 = some (.aload 0, 401, false) ∧ NL_law 401 = some (.iload 4, 403, false) ∧ NL_law 403 = some (.ret 1, 404, false) ∧ NL_law 404 = some (.iadd, 405, false)) ∧ (NL_law 405 = some (.iaload, 406, false) ∧ NL_law 406 = some (.aload 0, 407, false) ∧ NL_law 407 = some (.iload 4, 409, false) ∧ NL_law 409 = some (.ret 2, 410, false) ∧ NL_law 410 = some (.iadd, 411, false)) ∧ (NL_law 411 = some (.iaload, 412, false) ∧ NL_law 412 = some (.aload 0, 413, false) ∧ NL_law 413 = some (.iload 4, 415, false) ∧ NL_law 415 = some (.ret 3, 416, false) ∧ NL_law 416 = some (.iadd, 417, false)) ∧ (NL_law 417 = some (.iaload, 418, false) ∧ NL_law 418 = some (.ifCond .eq 425, 421, false) ∧ NL_law 421 = some (.ret 1, 422, false) ∧ NL_law 422 = some (.goto 426, 425, false) ∧ NL_law 425 = some (.ret 0, 426, false)) ∧ (NL_law 426 = some (.aload 0, 427, false) ∧ NL_law 427 = some (.iload 4, 429, false) ∧ NL_law 429 = some (.ret 4, 430, false) ∧ NL_law 430 = some (.iadd, 431, false) ∧ NL_law 431 = some (.iaload, 432, false)) ∧ (NL_law 432 = some (.invokeinterface 171 5, 435, false) ∧ NL_law 435 = some (.if_icmp .eq 1580, 438, false) ∧ NL_law 438 = some (.ret 0, 439, false) ∧ NL_law 439 = some (.ireturn, 440, false) ∧ NL_law 440 = some (.aload 1, 441, false)) ∧ (NL_law 441 = some (.aload 0, 442, false) ∧ NL_law 442 = some (.iload 4, 444, false) ∧ NL_law 444 = some (.ret 1, 445, false) ∧ NL_law 445 = some (.iadd, 446, false) ∧ NL_law 446 = some (.iaload, 447, false)) ∧ (NL_law 447 = some (.invokeinterface 118 2, 450, false) ∧ NL_law 450 = some (.aload 2, 451, false) ∧ NL_law 451 = some (.aload 0, 452, false) ∧ NL_law 452 = some (.iload 4, 454, false) ∧ NL_law 454 = some (.ret 1, 455, false)) ∧ (NL_law 455 = some (.iadd, 456, false) ∧ NL_law 456 = some (.iaload, 457, false) ∧ NL_law 457 = some (.invokeinterface 172 2, 460, false) ∧ NL_law 460 = some (.if_icmp .eq 1580, 463, false) ∧ NL_law 463 = some (.ret 0, 464, false)) ∧ (NL_law 464 = some (.ireturn, 465, false) ∧ NL_law 465 = some (.aload 1, 466, false) ∧ NL_law 466 = some (.aload 0, 467, false) ∧ NL_law 467 = some (.iload 4, 469, false) ∧ NL_law 469 = some (.ret 1, 470, false)) ∧ (NL_law 470 = some (.iadd, 471, false) ∧ NL_law 471 = some (.iaload, 472, false) ∧ NL_law 472 = some (.ifCond .eq 479, 475, false) ∧ NL_law 475 = some (.ret 1, 476, false) ∧ NL_law 476 = some (.goto 480, 479, false)) ∧ (NL_law 479 = some (.ret 0, 480, false) ∧ NL_law 480 = some (.aload 0, 481, false) ∧ NL_law 481 = some (.iload 4, 483, false) ∧ NL_law 483 = some (.ret 2, 484, false) ∧ NL_law 484 = some (.iadd, 485, false)) ∧ (NL_law 485 = some (.iaload, 486, false) ∧ NL_law 486 = some (.aload 0, 487, false) ∧ NL_law 487 = some (.iload 4, 489, false) ∧ NL_law 489 = some (.ret 3, 490, false) ∧ NL_law 490 = some (.iadd, 491, false)) ∧ (NL_law 491 = some (.iaload, 492, false) ∧ NL_law 492 = some (.aload 0, 493, false) ∧ NL_law 493 = some (.iload 4, 495, false) ∧ NL_law 495 = some (.ret 4, 496, false) ∧ NL_law 496 = some (.iadd, 497, false)) ∧ (NL_law 497 = some (.iaload, 498, false) ∧ NL_law 498 = some (.invokeinterface 119 5, 501, false) ∧ NL_law 501 = some (.aload 2, 502, false) ∧ NL_law 502 = some (.aload 0, 503, false) ∧ NL_law 503 = some (.iload 4, 505, false)) ∧ (NL_law 505 = some (.ret 1, 506, false) ∧ NL_law 506 = some (.iadd, 507, false) ∧ NL_law 507 = some (.iaload, 508, false) ∧ NL_law 508 = some (.ifCond .eq 515, 511, false) ∧ NL_law 511 = some (.ret 1, 512, false)) ∧ (NL_law 512 = some (.goto 516, 515, false) ∧ NL_law 515 = some (.ret 0, 516, false) ∧ NL_law 516 = some (.aload 0, 517, false) ∧ NL_law 517 = some (.iload 4, 519, false) ∧ NL_law 519 = some (.ret 2, 520, false)) ∧ (NL_law 520 = some (.iadd, 521, false) ∧ NL_law 521 = some (.iaload, 522, false) ∧ NL_law 522 = some (.aload 0, 523, false) ∧ NL_law 523 = some (.iload 4, 525, false) ∧ NL_law 525 = some (.ret 3, 526, false)) ∧ (NL_law 526 = some (.iadd, 527, false) ∧ NL_law 527 = some (.iaload, 528, false) ∧ NL_law 528 = some (.aload 0, 529, false) ∧ NL_law 529 = some (.iload 4, 531, false) ∧ NL_law 531 = some (.ret 4, 532, false)) ∧ (NL_law 532 = some (.iadd, 533, false) ∧ NL_law 533 = some (.iaload, 534, false) ∧ NL_law 534 = some (.invokeinterface 174 5, 537, false) ∧ NL_law 537 = some (.if_icmp .eq 1580, 540, false) ∧ NL_law 540 = some (.ret 0, 541, false)) ∧ (NL_law 541 = some (.ireturn, 542, false) ∧ NL_law 542 = some (.aload 1, 543, false) ∧ NL_law 543 = some (.aload 0, 544, false) ∧ NL_law 544 = some (.iload 4, 546, false) ∧ NL_law 546 = some (.ret 1, 547, false)) ∧ (NL_law 547 = some (.iadd, 548, false) ∧ NL_law 548 = some (.iaload, 549, false) ∧ NL_law 549 = some (.ifCond .eq 556, 552, false) ∧ NL_law 552 = some (.ret 1, 553, false) ∧ NL_law 553 = some (.goto 557, 556, false)) ∧ (NL_law 556 = some (.ret 0, 557, false) ∧ NL_law 557 = some (.aload 0, 558, false) ∧ NL_law 558 = some (.iload 4, 560, false) ∧ NL_law 560 = some (.ret 2, 561, false) ∧ NL_law 561 = some (.iadd, 562, false)) ∧ (NL_law 562 = some (.iaload, 563, false) ∧ NL_law 563 = some (.aload 0, 564, false) ∧ NL_law 564 = some (.iload 4, 566, false) ∧ NL_law 566 = some (.ret 3, 567, false) ∧ NL_law 567 = some (.iadd, 568, false)) ∧ (NL_law 568 = some (.iaload, 569, false) ∧ NL_law 569 = some (.invokeinterface 120 4, 572, false) ∧ NL_law 572 = some (.aload 2, 573, false) ∧ NL_law 573 = some (.aload 0, 574, false) ∧ NL_law 574 = some (.iload 4, 576, false)) ∧ (NL_law 576 = some (.ret 1, 577, false) ∧ NL_law 577 = some (.iadd, 578, false) ∧ NL_law 578 = some (.iaload, 579, false) ∧ NL_law 579 = some (.ifCond .eq 586, 582, false) ∧ NL_law 582 = some (.ret 1, 583, false)) ∧ (NL_law 583 = some (.goto 587, 586, false) ∧ NL_law 586 = some (.ret 0, 587, false) ∧ NL_law 587 = some (.aload 0, 588, false) ∧ NL_law 588 = some (.iload 4, 590, false) ∧ NL_law 590 = some (.ret 2, 591, false)) ∧ (NL_law 591 = some (.iadd, 592, false) ∧ NL_law 592 = some (.iaload, 593, false) ∧ NL_law 593 = some (.aload 0, 594, false) ∧ NL_law 594 = some (.iload 4, 596, false) ∧ NL_law 596 = some (.ret 3, 597, false)) ∧ (NL_law 597 = some (.iadd, 598, false) ∧ NL_law 598 = some (.iaload, 599, false) ∧ NL_law 599 = some (.invokeinterface 175 4, 602, false) ∧ NL_law 602 = some (.if_icmp .eq 1580, 605, false) ∧ NL_law 605 = some (.ret 0, 606, false)) ∧ (NL_law 606 = some (.ireturn, 607, false) ∧ NL_law 607 = some (.aload 1, 608, false) ∧ NL_law 608 = some (.aload 0, 609, false) ∧ NL_law 609 = some (.iload 4, 611, false) ∧ NL_law 611 = some (.ret 1, 612, false)) ∧ (NL_law 612 = some (.iadd, 613, false) ∧ NL_law 613 = some (.iaload, 614, false) ∧ NL_law 614 = some (.ifCond .eq 621, 617, false) ∧ NL_law 617 = some (.ret 1, 618, false) ∧ NL_law 618 = some (.goto 622, 621, false)) ∧ (NL_law 621 = some (.ret 0, 622, false) ∧ NL_law 622 = some (.aload 0, 623, false) ∧ NL_law 623 = some (.iload 4, 625, false) ∧ NL_law 625 = some (.ret 2, 626, false) ∧ NL_law 626 = some (.iadd, 627, false)) ∧ (NL_law 627 = some (.iaload, 628, false) ∧ NL_law 628 = some (.aload 0, 629, false) ∧ NL_law 629 = some (.iload 4, 631, false) ∧ NL_law 631 = some (.ret 3, 632, false) ∧ NL_law 632 = some (.iadd, 633, false)) ∧ (NL_law 633 = some (.iaload, 634, false) ∧ NL_law 634 = some (.invokeinterface 121 4, 637, false) ∧ NL_law 637 = some (.aload 2, 638, false) ∧ NL_law 638 = some (.aload 0, 639, false) ∧ NL_law 639 = some (.iload 4, 641, false)) ∧ (NL_law 641 = some (.ret 1, 642, false) ∧ NL_law 642 = some (.iadd, 643, false) ∧ NL_law 643 = some (.iaload, 644, false) ∧ NL_law 644 = some (.ifCond .eq 651, 647, false) ∧ NL_law 647 = some (.ret 1, 648, false)) ∧ (NL_law 648 = some (.goto 652, 651, false) ∧ NL_law 651 = some (.ret 0, 652, false) ∧ NL_law 652 = some (.aload 0, 653, false) ∧ NL_law 653 = some (.iload 4, 655, false) ∧ NL_law 655 = some (.ret 2, 656, false)) ∧ (NL_law 656 = some (.iadd, 657, false) ∧ NL_law 657 = some (.iaload, 658, false) ∧ NL_law 658 = some (.aload 0, 659, false) ∧ NL_law 659 = some (.iload 4, 661, false) ∧ NL_law 661 = some (.ret 3, 662, false)) ∧ (NL_law 662 = some (.iadd, 663, false) ∧ NL_law 663 = some (.iaload, 664, false) ∧ NL_law 664 = some (.invokeinterface 177 4, 667, false) ∧ NL_law 667 = some (.if_icmp .eq 1580, 670, false) ∧ NL_law 670 = some (.ret 0, 671, false)) ∧ (NL_law 671 = some (.ireturn, 672, false) ∧ NL_law 672 = some (.aload 1, 673, false) ∧ NL_law 673 = some (.aload 0, 674, false) ∧ NL_law 674 = some (.iload 4, 676, false) ∧ NL_law 676 = some (.ret 1, 677, false)) ∧ (NL_law 677 = some (.iadd, 678, false) ∧ NL_law 678 = some (.iaload, 679, false) ∧ NL_law 679 = some (.ifCond .eq 686, 682, false) ∧ NL_law 682 = some (.ret 1, 683, false) ∧ NL_law 683 = some (.goto 687, 686, false)) ∧ (NL_law 686 = some (.ret 0, 687, false) ∧ NL_law 687 = some (.aload 0, 688, false) ∧ NL_law 688 = some (.iload 4, 690, false) ∧ NL_law 690 = some (.ret 2, 691, false) ∧ NL_law 691 = some (.iadd, 692, false)) ∧ (NL_law 692 = some (.iaload, 693, false) ∧ NL_law 693 = some (.invokeinterface 122 3, 696, false) ∧ NL_law 696 = some (.aload 2, 697, false) ∧ NL_law 697 = some (.aload 0, 698, false) ∧ NL_law 698 = some (.iload 4, 700, false)) ∧ (NL_law 700 = some (.ret 1, 701, false) ∧ NL_law 701 = some (.iadd, 702, false) ∧ NL_law 702 = some (.iaload, 703, false) ∧ NL_law 703 = some (.ifCond .eq 710, 706, false) ∧ NL_law 706 = some (.ret 1, 707, false)) ∧ (NL_law 707 = some (.goto 711, 710, false) ∧ NL_law 710 = some (.ret 0, 711, false) ∧ NL_law 711 = some (.aload 0, 712, false) ∧ NL_law 712 = some (.iload 4, 714, false) ∧ NL_law 714 = some (.ret 2, 715, false)) ∧ (NL_law 715 = some (.iadd, 716, false) ∧ NL_law 716 = some (.iaload, 717, false) ∧ NL_law 717 = some (.invokeinterface 178 3, 720, false) ∧ NL_law 720 = some (.if_icmp .eq 1580, 723, false) ∧ NL_law 723 = some (.ret 0, 724, false)) ∧ (NL_law 724 = some (.ireturn, 725, false) ∧ NL_law 725 = some (.aload 1, 726, false) ∧ NL_law 726 = some (.aload 0, 727, false) ∧ NL_law 727 = some (.iload 4, 729, false) ∧ NL_law 729 = some (.ret 1, 730, false)) ∧ (NL_law 730 = some (.iadd, 731, false) ∧ NL_law 731 = some (.iaload, 732, false) ∧ NL_law 732 = some (.aload 0, 733, false) ∧ NL_law 733 = some (.iload 4, 735, false) ∧ NL_law 735 = some (.ret 2, 736, false)) ∧ (NL_law 736 = some (.iadd, 737, false) ∧ NL_law 737 = some (.iaload, 738, false) ∧ NL_law 738 = some (.invokeinterface 125 3, 741, false) ∧ NL_law 741 = some (.aload 2, 742, false) ∧ NL_law 742 = some (.aload 0, 743, false)) ∧ (NL_law 743 = some (.iload 4, 745, false) ∧ NL_law 745 = some (.ret 1, 746, false) ∧ NL_law 746 = some (.iadd, 747, false) ∧ NL_law 747 = some (.iaload, 748, false) ∧ NL_law 748 = some (.aload 0, 749, false)) ∧ (NL_law 749 = some (.iload 4, 751, false) ∧ NL_law 751 = some (.ret 2, 752, false) ∧ NL_law 752 = some (.iadd, 753, false) ∧ NL_law 753 = some (.iaload, 754, false) ∧ NL_law 754 = some (.invokeinterface 182 3, 757, false)) ∧ (NL_law 757 = some (.if_icmp .eq 1580, 760, false) ∧ NL_law 760 = some (.ret 0, 761, false) ∧ NL_law 761 = some (.ireturn, 762, false) ∧ NL_law 762 = some (.aload 1, 763, false) ∧ NL_law 763 = some (.aload 0, 764, false)) ∧ (NL_law 764 = some (.iload 4, 766, false) ∧ NL_law 766 = some (.ret 1, 767, false) ∧ NL_law 767 = some (.iadd, 768, false) ∧ NL_law 768 = some (.iaload, 769, false) ∧ NL_law 769 = some (.aload 0, 770, false)) ∧ (NL_law 770 = some (.iload 4, 772, false) ∧ NL_law 772 = some (.ret 2, 773, false) ∧ NL_law 773 = some (.iadd, 774, false) ∧ NL_law 774 = some (.iaload, 775, false) ∧ NL_law 775 = some (.invokeinterface 126 3, 778, false)) ∧ (NL_law 778 = some (.aload 2, 779, false) ∧ NL_law 779 = some (.aload 0, 780, false) ∧ NL_law 780 = some (.iload 4, 782, false) ∧ NL_law 782 = some (.ret 1, 783, false) ∧ NL_law 783 = some (.iadd, 784, false)) ∧ (NL_law 784 = some (.iaload, 785, false) ∧ NL_law 785 = some (.aload 0, 786, false) ∧ NL_law 786 = some (.iload 4, 788, false) ∧ NL_law 788 = some (.ret 2, 789, false) ∧ NL_law 789 = some (.iadd, 790, false)) ∧ (NL_law 790 = some (.iaload, 791, false) ∧ NL_law 791 = some (.invokeinterface 183 3, 794, false) ∧ NL_law 794 = some (.if_icmp .eq 1580, 797, false) ∧ NL_law 797 = some (.ret 0, 798, false) ∧ NL_law 798 = some (.ireturn, 799, false)) ∧ (NL_law 799 = some (.aload 1, 800, false) ∧ NL_law 800 = some (.aload 0, 801, false) ∧ NL_law 801 = some (.iload 4, 803, false) ∧ NL_law 803 = some (.ret 1, 804, false) ∧ NL_law 804 = some (.iadd, 805, false)) ∧ (NL_law 805 = some (.iaload, 806, false) ∧ NL_law 806 = some (.aload 0, 807, false) ∧ NL_law 807 = some (.iload 4, 809, false) ∧ NL_law 809 = some (.ret 2, 810, false) ∧ NL_law 810 = some (.iadd, 811, false)) ∧ (NL_law 811 = some (.iaload, 812, false) ∧ NL_law 812 = some (.invokeinterface 127 3, 815, false) ∧ NL_law 815 = some (.aload 2, 816, false) ∧ NL_law 816 = some (.aload 0, 817, false) ∧ NL_law 817 = some (.iload 4, 819, false)) ∧ (NL_law 819 = some (.ret 1, 820, false) ∧ NL_law 820 = some (.iadd, 821, false) ∧ NL_law 821 = some (.iaload, 822, false) ∧ NL_law 822 = some (.aload 0, 823, false) ∧ NL_law 823 = some (.iload 4, 825, false)) ∧ (NL_law 825 = some (.ret 2, 826, false) ∧ NL_law 826 = some (.iadd, 827, false) ∧ NL_law 827 = some (.iaload, 828, false) ∧ NL_law 828 = some (.invokeinterface 185 3, 831, false) ∧ NL_law 831 = some (.if_icmp .eq 1580, 834, false)) ∧ (NL_law 834 = some (.ret 0, 835, false) ∧ NL_law 835 = some (.ireturn, 836, false) ∧ NL_law 836 = some (.aload 1, 837, false) ∧ NL_law 837 = some (.aload 0, 838, false) ∧ NL_law 838 = some (.iload 4, 840, false)) ∧ (NL_law 840 = some (.ret 1, 841, false) ∧ NL_law 841 = some (.iadd, 842, false) ∧ NL_law 842 = some (.iaload, 843, false) ∧ NL_law 843 = some (.invokeinterface 129 2, 846, false) ∧ NL_law 846 = some (.aload 2, 847, false)) ∧ (NL_law 847 = some (.aload 0, 848, false) ∧ NL_law 848 = some (.iload 4, 850, false) ∧ NL_law 850 = some (.ret 1, 851, false) ∧ NL_law 851 = some (.iadd, 852, false) ∧ NL_law 852 = some (.iaload, 853, false)) ∧ (NL_law 853 = some (.invokeinterface 187 2, 856, false) ∧ NL_law 856 = some (.if_icmp .eq 1580, 859, false) ∧ NL_law 859 = some (.ret 0, 860, false) ∧ NL_law 860 = some (.ireturn, 861, false) ∧ NL_law 861 = some (.aload 1, 862, false)) ∧ (NL_law 862 = some (.aload 0, 863, false) ∧ NL_law 863 = some (.iload 4, 865, false) ∧ NL_law 865 = some (.ret 1, 866, false) ∧ NL_law 866 = some (.iadd, 867, false) ∧ NL_law 867 = some (.iaload, 868, false)) ∧ (NL_law 868 = some (.aload 0, 869, false) ∧ NL_law 869 = some (.iload 4, 871, false) ∧ NL_law 871 = some (.ret 2, 872, false) ∧ NL_law 872 = some (.iadd, 873, false) ∧ NL_law 873 = some (.iaload, 874, false)) ∧ (NL_law 874 = some (.invokeinterface 130 3, 877, false) ∧ NL_law 877 = some (.aload 2, 878, false) ∧ NL_law 878 = some (.aload 0, 879, false) ∧ NL_law 879 = some (.iload 4, 881, false) ∧ NL_law 881 = some (.ret 1, 882, false)) ∧ (NL_law 882 = some (.iadd, 883, false) ∧ NL_law 883 = some (.iaload, 884, false) ∧ NL_law 884 = some (.aload 0, 885, false) ∧ NL_law 885 = some (.iload 4, 887, false) ∧ NL_law 887 = some (.ret 2, 888, false)) ∧ (NL_law 888 = some (.iadd, 889, false) ∧ NL_law 889 = some (.iaload, 890, false) ∧ NL_law 890 = some (.invokeinterface 188 3, 893, false) ∧ NL_law 893 = some (.if_icmp .eq 1580, 896, false) ∧ NL_law 896 = some (.ret 0, 897, false)) ∧ (NL_law 897 = some (.ireturn, 898, false) ∧ NL_law 898 = some (.aload 1, 899, false) ∧ NL_law 899 = some (.aload 0, 900, false) ∧ NL_law 900 = some (.iload 4, 902, false) ∧ NL_law 902 = some (.ret 1, 903, false)) ∧ (NL_law 903 = some (.iadd, 904, false) ∧ NL_law 904 = some (.iaload, 905, false) ∧ NL_law 905 = some (.invokeinterface 132 2, 908, false) ∧ NL_law 908 = some (.aload 2, 909, false) ∧ NL_law 909 = some (.aload 0, 910, false)) ∧ (NL_law 910 = some (.iload 4, 912, false) ∧ NL_law 912 = some (.ret 1, 913, false) ∧ NL_law 913 = some (.iadd, 914, false) ∧ NL_law 914 = some (.iaload, 915, false) ∧ NL_law 915 = some (.invokeinterface 195 2, 918, false)) ∧ (NL_law 918 = some (.if_icmp .eq 1580, 921, false) ∧ NL_law 921 = some (.ret 0, 922, false) ∧ NL_law 922 = some (.ireturn, 923, false) ∧ NL_law 923 = some (.aload 1, 924, false) ∧ NL_law 924 = some (.aload 0, 925, false)) ∧ (NL_law 925 = some (.iload 4, 927, false) ∧ NL_law 927 = some (.ret 1, 928, false) ∧ NL_law 928 = some (.iadd, 929, false) ∧ NL_law 929 = some (.iaload, 930, false) ∧ NL_law 930 = some (.invokeinterface 133 2, 933, false)) ∧ (NL_law 933 = some (.aload 2, 934, false) ∧ NL_law 934 = some (.aload 0, 935, false) ∧ NL_law 935 = some (.iload 4, 937, false) ∧ NL_law 937 = some (.ret 1, 938, false) ∧ NL_law 938 = some (.iadd, 939, false)) ∧ (NL_law 939 = some (.iaload, 940, false) ∧ NL_law 940 = some (.invokeinterface 196 2, 943, false) ∧ NL_law 943 = some (.if_icmp .eq 1580, 946, false) ∧ NL_law 946 = some (.ret 0, 947, false) ∧ NL_law 947 = some (.ireturn, 948, false)) ∧ (NL_law 948 = some (.aload 1, 949, false) ∧ NL_law 949 = some (.aload 0, 950, false) ∧ NL_law 950 = some (.iload 4, 952, false) ∧ NL_law 952 = some (.ret 1, 953, false) ∧ NL_law 953 = some (.iadd, 954, false)) ∧ (NL_law 954 = some (.iaload, 955, false) ∧ NL_law 955 = some (.invokeinterface 134 2, 958, false) ∧ NL_law 958 = some (.aload 2, 959, false) ∧ NL_law 959 = some (.aload 0, 960, false) ∧ NL_law 960 = some (.iload 4, 962, false)) ∧ (NL_law 962 = some (.ret 1, 963, false) ∧ NL_law 963 = some (.iadd, 964, false) ∧ NL_law 964 = some (.iaload, 965, false) ∧ NL_law 965 = some (.invokeinterface 197 2, 968, false) ∧ NL_law 968 = some (.if_icmp .eq 1580, 971, false)) ∧ (NL_law 971 = some (.ret 0, 972, false) ∧ NL_law 972 = some (.ireturn, 973, false) ∧ NL_law 973 = some (.aload 1, 974, false) ∧ NL_law 974 = some (.aload 0, 975, false) ∧ NL_law 975 = some (.iload 4, 977, false)) ∧ (NL_law 977 = some (.ret 1, 978, false) ∧ NL_law 978 = some (.iadd, 979, false) ∧ NL_law 979 = some (.iaload, 980, false) ∧ NL_law 980 = some (.aload 0, 981, false) ∧ NL_law 981 = some (.iload 4, 983, false)) ∧ (NL_law 983 = some (.ret 2, 984, false) ∧ NL_law 984 = some (.iadd, 985, false) ∧ NL_law 985 = some (.iaload, 986, false) ∧ NL_law 986 = some (.invokeinterface 136 3, 989, false) ∧ NL_law 989 = some (.aload 2, 990, false)) ∧ (NL_law 990 = some (.aload 0, 991, false) ∧ NL_law 991 = some (.iload 4, 993, false) ∧ NL_law 993 = some (.ret 1, 994, false) ∧ NL_law 994 = some (.iadd, 995, false) ∧ NL_law 995 = some (.iaload, 996, false)) ∧ (NL_law 996 = some (.aload 0, 997, false) ∧ NL_law 997 = some (.iload 4, 999, false) ∧ NL_law 999 = some (.ret 2, 1000, false) ∧ NL_law 1000 = some (.iadd, 1001, false) ∧ NL_law 1001 = some (.iaload, 1002, false)) ∧ (NL_law 1002 = some (.invokeinterface 198 3, 1005, false) ∧ NL_law 1005 = some (.if_icmp .eq 1580, 1008, false) ∧ NL_law 1008 = some (.ret 0, 1009, false) ∧ NL_law 1009 = some (.ireturn, 1010, false) ∧ NL_law 1010 = some (.aload 1, 1011, false)) ∧ (NL_law 1011 = some (.aload 0, 1012, false) ∧ NL_law 1012 = some (.iload 4, 1014, false) ∧ NL_law 1014 = some (.ret 1, 1015, false) ∧ NL_law 1015 = some (.iadd, 1016, false) ∧ NL_law 1016 = some (.iaload, 1017, false)) ∧ (NL_law 1017 = some (.aload 0, 1018, false) ∧ NL_law 1018 = some (.iload 4, 1020, false) ∧ NL_law 1020 = some (.ret 2, 1021, false) ∧ NL_law 1021 = some (.iadd, 1022, false) ∧ NL_law 1022 = some (.iaload, 1023, false)) ∧ (NL_law 1023 = some (.invokeinterface 137 3, 1026, false) ∧ NL_law 1026 = some (.aload 2, 1027, false) ∧ NL_law 1027 = some (.aload 0, 1028, false) ∧ NL_law 1028 = some (.iload 4, 1030, false) ∧ NL_law 1030 = some (.ret 1, 1031, false)) ∧ (NL_law 1031 = some (.iadd, 1032, false) ∧ NL_law 1032 = some (.iaload, 1033, false) ∧ NL_law 1033 = some (.aload 0, 1034, false) ∧ NL_law 1034 = some (.iload 4, 1036, false) ∧ NL_law 1036 = some (.ret 2, 1037, false)) ∧ (NL_law 1037 = some (.iadd, 1038, false) ∧ NL_law 1038 = some (.iaload, 1039, false) ∧ NL_law 1039 = some (.invokeinterface 199 3, 1042, false) ∧ NL_law 1042 = some (.if_icmp .eq 1580, 1045, false) ∧ NL_law 1045 = some (.ret 0, 1046, false)) ∧ (NL_law 1046 = some (.ireturn, 1047, false) ∧ NL_law 1047 = some (.aload 1, 1048, false) ∧ NL_law 1048 = some (.aload 0, 1049, false) ∧ NL_law 1049 = some (.iload 4, 1051, false) ∧ NL_law 1051 = some (.ret 1, 1052, false)) ∧ (NL_law 1052 = some (.iadd, 1053, false) ∧ NL_law 1053 = some (.iaload, 1054, false) ∧ NL_law 1054 = some (.aload 0, 1055, false) ∧ NL_law 1055 = some (.iload 4, 1057, false) ∧ NL_law 1057 = some (.ret 2, 1058, false)) ∧ (NL_law 1058 = some (.iadd, 1059, false) ∧ NL_law 1059 = some (.iaload, 1060, false) ∧ NL_law 1060 = some (.invokeinterface 138 3, 1063, false) ∧ NL_law 1063 = some (.aload 2, 1064, false) ∧ NL_law 1064 = some (.aload 0, 1065, false)) ∧ (NL_law 1065 = some (.iload 4, 1067, false) ∧ NL_law 1067 = some (.ret 1, 1068, false) ∧ NL_law 1068 = some (.iadd, 1069, false) ∧ NL_law 1069 = some (.iaload, 1070, false) ∧ NL_law 1070 = some (.aload 0, 1071, false)) ∧ (NL_law 1071 = some (.iload 4, 1073, false) ∧ NL_law 1073 = some (.ret 2, 1074, false) ∧ NL_law 1074 = some (.iadd, 1075, false) ∧ NL_law 1075 = some (.iaload, 1076, false) ∧ NL_law 1076 = some (.invokeinterface 202 3, 1079, false)) ∧ (NL_law 1079 = some (.if_icmp .eq 1580, 1082, false) ∧ NL_law 1082 = some (.ret 0, 1083, false) ∧ NL_law 1083 = some (.ireturn, 1084, false) ∧ NL_law 1084 = some (.aload 1, 1085, false) ∧ NL_law 1085 = some (.aload 0, 1086, false)) ∧ (NL_law 1086 = some (.iload 4, 1088, false) ∧ NL_law 1088 = some (.ret 1, 1089, false) ∧ NL_law 1089 = some (.iadd, 1090, false) ∧ NL_law 1090 = some (.iaload, 1091, false) ∧ NL_law 1091 = some (.invokeinterface 139 2, 1094, false)) ∧ (NL_law 1094 = some (.aload 2, 1095, false) ∧ NL_law 1095 = some (.aload 0, 1096, false) ∧ NL_law 1096 = some (.iload 4, 1098, false) ∧ NL_law 1098 = some (.ret 1, 1099, false) ∧ NL_law 1099 = some (.iadd, 1100, false)) ∧ (NL_law 1100 = some (.iaload, 1101, false) ∧ NL_law 1101 = some (.invokeinterface 203 2, 1104, false) ∧ NL_law 1104 = some (.if_icmp .eq 1580, 1107, false) ∧ NL_law 1107 = some (.ret 0, 1108, false) ∧ NL_law 1108 = some (.ireturn, 1109, false)) ∧ (NL_law 1109 = some (.aload 1, 1110, false) ∧ NL_law 1110 = some (.aload 0, 1111, false) ∧ NL_law 1111 = some (.iload 4, 1113, false) ∧ NL_law 1113 = some (.ret 1, 1114, false) ∧ NL_law 1114 = some (.iadd, 1115, false)) ∧ (NL_law 1115 = some (.iaload, 1116, false) ∧ NL_law 1116 = some (.invokeinterface 140 2, 1119, false) ∧ NL_law 1119 = some (.aload 2, 1120, false) ∧ NL_law 1120 = some (.aload 0, 1121, false) ∧ NL_law 1121 = some (.iload 4, 1123, false)) ∧ (NL_law 1123 = some (.ret 1, 1124, false) ∧ NL_law 1124 = some (.iadd, 1125, false) ∧ NL_law 1125 = some (.iaload, 1126, false) ∧ NL_law 1126 = some (.invokeinterface 206 2, 1129, false) ∧ NL_law 1129 = some (.if_icmp .eq 1580, 1132, false)) ∧ (NL_law 1132 = some (.ret 0, 1133, false) ∧ NL_law 1133 = some (.ireturn, 1134, false) ∧ NL_law 1134 = some (.aload 1, 1135, false) ∧ NL_law 1135 = some (.aload 0, 1136, false) ∧ NL_law 1136 = some (.iload 4, 1138, false)) ∧ (NL_law 1138 = some (.ret 1, 1139, false) ∧ NL_law 1139 = some (.iadd, 1140, false) ∧ NL_law 1140 = some (.iaload, 1141, false) ∧ NL_law 1141 = some (.aload 0, 1142, false) ∧ NL_law 1142 = some (.iload 4, 1144, false)) ∧ (NL_law 1144 = some (.ret 2, 1145, false) ∧ NL_law 1145 = some (.iadd, 1146, false) ∧ NL_law 1146 = some (.iaload, 1147, false) ∧ NL_law 1147 = some (.invokeinterface 141 3, 1150, false) ∧ NL_law 1150 = some (.aload 2, 1151, false)) ∧ (NL_law 1151 = some (.aload 0, 1152, false) ∧ NL_law 1152 = some (.iload 4, 1154, false) ∧ NL_law 1154 = some (.ret 1, 1155, false) ∧ NL_law 1155 = some (.iadd, 1156, false) ∧ NL_law 1156 = some (.iaload, 1157, false)) ∧ (NL_law 1157 = some (.aload 0, 1158, false) ∧ NL_law 1158 = some (.iload 4, 1160, false) ∧ NL_law 1160 = some (.ret 2, 1161, false) ∧ NL_law 1161 = some (.iadd, 1162, false) ∧ NL_law 1162 = some (.iaload, 1163, false)) ∧ (NL_law 1163 = some (.invokeinterface 209 3, 1166, false) ∧ NL_law 1166 = some (.if_icmp .eq 1580, 1169, false) ∧ NL_law 1169 = some (.ret 0, 1170, false) ∧ NL_law 1170 = some (.ireturn, 1171, false) ∧ NL_law 1171 = some (.aload 1, 1172, false)) ∧ (NL_law 1172 = some (.aload 0, 1173, false) ∧ NL_law 1173 = some (.iload 4, 1175, false) ∧ NL_law 1175 = some (.ret 1, 1176, false) ∧ NL_law 1176 = some (.iadd, 1177, false) ∧ NL_law 1177 = some (.iaload, 1178, false)) ∧ (NL_law 1178 = some (.aload 0, 1179, false) ∧ NL_law 1179 = some (.iload 4, 1181, false) ∧ NL_law 1181 = some (.ret 2, 1182, false) ∧ NL_law 1182 = some (.iadd, 1183, false) ∧ NL_law 1183 = some (.iaload, 1184, false)) ∧ (NL_law 1184 = some (.aload 0, 1185, false) ∧ NL_law 1185 = some (.iload 4, 1187, false) ∧ NL_law 1187 = some (.ret 3, 1188, false) ∧ NL_law 1188 = some (.iadd, 1189, false) ∧ NL_law 1189 = some (.iaload, 1190, false)) ∧ (NL_law 1190 = some (.invokeinterface 142 4, 1193, false) ∧ NL_law 1193 = some (.aload 2, 1194, false) ∧ NL_law 1194 = some (.aload 0, 1195, false) ∧ NL_law 1195 = some (.iload 4, 1197, false) ∧ NL_law 1197 = some (.ret 1, 1198, false)) ∧ (NL_law 1198 = some (.iadd, 1199, false) ∧ NL_law 1199 = some (.iaload, 1200, false) ∧ NL_law 1200 = some (.aload 0, 1201, false) ∧ NL_law 1201 = some (.iload 4, 1203, false) ∧ NL_law 1203 = some (.ret 2, 1204, false)) ∧ (NL_law 1204 = some (.iadd, 1205, false) ∧ NL_law 1205 = some (.iaload, 1206, false) ∧ NL_law 1206 = some (.aload 0, 1207, false) ∧ NL_law 1207 = some (.iload 4, 1209, false) ∧ NL_law 1209 = some (.ret 3, 1210, false)) ∧ (NL_law 1210 = some (.iadd, 1211, false) ∧ NL_law 1211 = some (.iaload, 1212, false) ∧ NL_law 1212 = some (.invokeinterface 210 4, 1215, false) ∧ NL_law 1215 = some (.if_icmp .eq 1580, 1218, false) ∧ NL_law 1218 = some (.ret 0, 1219, false)) ∧ (NL_law 1219 = some (.ireturn, 1220, false) ∧ NL_law 1220 = some (.aload 1, 1221, false) ∧ NL_law 1221 = some (.aload 0, 1222, false) ∧ NL_law 1222 = some (.iload 4, 1224, false) ∧ NL_law 1224 = some (.ret 1, 1225, false)) ∧ (NL_law 1225 = some (.iadd, 1226, false) ∧ NL_law 1226 = some (.iaload, 1227, false) ∧ NL_law 1227 = some (.invokeinterface 143 2, 1230, false) ∧ NL_law 1230 = some (.aload 2, 1231, false) ∧ NL_law 1231 = some (.aload 0, 1232, false)) ∧ (NL_law 1232 = some (.iload 4, 1234, false) ∧ NL_law 1234 = some (.ret 1, 1235, false) ∧ NL_law 1235 = some (.iadd, 1236, false) ∧ NL_law 1236 = some (.iaload, 1237, false) ∧ NL_law 1237 = some (.invokeinterface 213 2, 1240, false)) ∧ (NL_law 1240 = some (.if_icmp .eq 1580, 1243, false) ∧ NL_law 1243 = some (.ret 0, 1244, false) ∧ NL_law 1244 = some (.ireturn, 1245, false) ∧ NL_law 1245 = some (.aload 1, 1246, false) ∧ NL_law 1246 = some (.aload 0, 1247, false)) ∧ (NL_law 1247 = some (.iload 4, 1249, false) ∧ NL_law 1249 = some (.ret 1, 1250, false) ∧ NL_law 1250 = some (.iadd, 1251, false) ∧ NL_law 1251 = some (.iaload, 1252, false) ∧ NL_law 1252 = some (.invokeinterface 144 2, 1255, false)) ∧ (NL_law 1255 = some (.aload 2, 1256, false) ∧ NL_law 1256 = some (.aload 0, 1257, false) ∧ NL_law 1257 = some (.iload 4, 1259, false) ∧ NL_law 1259 = some (.ret 1, 1260, false) ∧ NL_law 1260 = some (.iadd, 1261, false)) ∧ (NL_law 1261 = some (.iaload, 1262, false) ∧ NL_law 1262 = some (.invokeinterface 214 2, 1265, false) ∧ NL_law 1265 = some (.if_icmp .eq 1580, 1268, false) ∧ NL_law 1268 = some (.ret 0, 1269, false) ∧ NL_law 1269 = some (.ireturn, 1270, false)) ∧ (NL_law 1270 = some (.aload 1, 1271, false) ∧ NL_law 1271 = some (.aload 0, 1272, false) ∧ NL_law 1272 = some (.iload 4, 1274, false) ∧ NL_law 1274 = some (.ret 1, 1275, false) ∧ NL_law 1275 = some (.iadd, 1276, false)) ∧ (NL_law 1276 = some (.iaload, 1277, false) ∧ NL_law 1277 = some (.invokeinterface 145 2, 1280, false) ∧ NL_law 1280 = some (.aload 2, 1281, false) ∧ NL_law 1281 = some (.aload 0, 1282, false) ∧ NL_law 1282 = some (.iload 4, 1284, false)) ∧ (NL_law 1284 = some (.ret 1, 1285, false) ∧ NL_law 1285 = some (.iadd, 1286, false) ∧ NL_law 1286 = some (.iaload, 1287, false) ∧ NL_law 1287 = some (.invokeinterface 215 2, 1290, false) ∧ NL_law 1290 = some (.if_icmp .eq 1580, 1293, false)) ∧ (NL_law 1293 = some (.ret 0, 1294, false) ∧ NL_law 1294 = some (.ireturn, 1295, false) ∧ NL_law 1295 = some (.aload 1, 1296, false) ∧ NL_law 1296 = some (.aload 0, 1297, false) ∧ NL_law 1297 = some (.iload 4, 1299, false)) ∧ (NL_law 1299 = some (.ret 1, 1300, false) ∧ NL_law 1300 = some (.iadd, 1301, false) ∧ NL_law 1301 = some (.iaload, 1302, false) ∧ NL_law 1302 = some (.aload 0, 1303, false) ∧ NL_law 1303 = some (.iload 4, 1305, false)) ∧ (NL_law 1305 = some (.ret 2, 1306, false) ∧ NL_law 1306 = some (.iadd, 1307, false) ∧ NL_law 1307 = some (.iaload, 1308, false) ∧ NL_law 1308 = some (.aload 3, 1309, false) ∧ NL_law 1309 = some (.invokeinterface 229 4, 1312, false)) ∧ (NL_law 1312 = some (.istore 5, 1314, false) ∧ NL_law 1314 = some (.aload 2, 1315, false) ∧ NL_law 1315 = some (.aload 0, 1316, false) ∧ NL_law 1316 = some (.iload 4, 1318, false) ∧ NL_law 1318 = some (.ret 1, 1319, false)) ∧ (NL_law 1319 = some (.iadd, 1320, false) ∧ NL_law 1320 = some (.iaload, 1321, false) ∧ NL_law 1321 = some (.aload 0, 1322, false) ∧ NL_law 1322 = some (.iload 4, 1324, false) ∧ NL_law 1324 = some (.ret 2, 1325, false)) ∧ (NL_law 1325 = some (.iadd, 1326, false) ∧ NL_law 1326 = some (.iaload, 1327, false) ∧ NL_law 1327 = some (.invokeinterface 216 3, 1330, false) ∧ NL_law 1330 = some (.istore 6, 1332, false) ∧ NL_law 1332 = some (.aload 2, 1333, false)) ∧ (NL_law 1333 = some (.invokeinterface 159 1, 1336, false) ∧ NL_law 1336 = some (.iload 5, 1338, false) ∧ NL_law 1338 = some (.if_icmp .eq 1343, 1341, false) ∧ NL_law 1341 = some (.ret 0, 1342, false) ∧ NL_law 1342 = some (.ireturn, 1343, false)) ∧ (NL_law 1343 = some (.iload 5, 1345, false) ∧ NL_law 1345 = some (.ifCond .ne 1360, 1348, false) ∧ NL_law 1348 = some (.aload 3, 1349, false) ∧ NL_law 1349 = some (.ret 0, 1350, false) ∧ NL_law 1350 = some (.laload, 1351, false)) ∧ (NL_law 1351 = some (.iload 6, 1353, false) ∧ NL_law 1353 = some (.i2l, 1354, false) ∧ NL_law 1354 = some (.lcmp, 1355, false) ∧ NL_law 1355 = some (.ifCond .eq 1360, 1358, false) ∧ NL_law 1358 = some (.ret 0, 1359, false)) ∧ (NL_law 1359 = some (.ireturn, 1360, false) ∧ NL_law 1360 = some (.goto 1580, 1363, false) ∧ NL_law 1363 = some (.aload 1, 1364, false) ∧ NL_law 1364 = some (.aload 0, 1365, false) ∧ NL_law 1365 = some (.iload 4, 1367, false)) ∧ (NL_law 1367 = some (.ret 1, 1368, false) ∧ NL_law 1368 = some (.iadd, 1369, false) ∧ NL_law 1369 = some (.iaload, 1370, false) ∧ NL_law 1370 = some (.aload 0, 1371, false) ∧ NL_law 1371 = some (.iload 4, 1373, false)) ∧ (NL_law 1373 = some (.ret 2, 1374, false) ∧ NL_law 1374 = some (.iadd, 1375, false) ∧ NL_law 1375 = some (.iaload, 1376, false) ∧ NL_law 1376 = some (.invokeinterface 148 3, 1379, false) ∧ NL_law 1379 = some (.aload 2, 1380, false)) ∧ (NL_law 1380 = some (.aload 0, 1381, false) ∧ NL_law 1381 = some (.iload 4, 1383, false) ∧ NL_law 1383 = some (.ret 1, 1384, false) ∧ NL_law 1384 = some (.iadd, 1385, false) ∧ NL_law 1385 = some (.iaload, 1386, false)) ∧ (NL_law 1386 = some (.aload 0, 1387, false) ∧ NL_law 1387 = some (.iload 4, 1389, false) ∧ NL_law 1389 = some (.ret 2, 1390, false) ∧ NL_law 1390 = some (.iadd, 1391, false) ∧ NL_law 1391 = some (.iaload, 1392, false)) ∧ (NL_law 1392 = some (.invokeinterface 217 3, 1395, false) ∧ NL_law 1395 = some (.if_icmp .eq 1580, 1398, false) ∧ NL_law 1398 = some (.ret 0, 1399, false) ∧ NL_law 1399 = some (.ireturn, 1400, false) ∧ NL_law 1400 = some (.aload 1, 1401, false)) ∧ (NL_law 1401 = some (.aload 0, 1402, false) ∧ NL_law 1402 = some (.iload 4, 1404, false) ∧ NL_law 1404 = some (.ret 1, 1405, false) ∧ NL_law 1405 = some (.iadd, 1406, false) ∧ NL_law 1406 = some (.iaload, 1407, false)) ∧ (NL_law 1407 = some (.aload 0, 1408, false) ∧ NL_law 1408 = some (.iload 4, 1410, false) ∧ NL_law 1410 = some (.ret 2, 1411, false) ∧ NL_law 1411 = some (.iadd, 1412, false) ∧ NL_law 1412 = some (.iaload, 1413, false)) ∧ (NL_law 1413 = some (.aload 3, 1414, false) ∧ NL_law 1414 = some (.invokeinterface 230 4, 1417, false) ∧ NL_law 1417 = some (.istore 5, 1419, false) ∧ NL_law 1419 = some (.aload 2, 1420, false) ∧ NL_law 1420 = some (.aload 0, 1421, false)) ∧ (NL_law 1421 = some (.iload 4, 1423, false) ∧ NL_law 1423 = some (.ret 1, 1424, false) ∧ NL_law 1424 = some (.iadd, 1425, false) ∧ NL_law 1425 = some (.iaload, 1426, false) ∧ NL_law 1426 = some (.aload 0, 1427, false)) ∧ (NL_law 1427 = some (.iload 4, 1429, false) ∧ NL_law 1429 = some (.ret 2, 1430, false) ∧ NL_law 1430 = some (.iadd, 1431, false) ∧ NL_law 1431 = some (.iaload, 1432, false) ∧ NL_law 1432 = some (.invokeinterface 219 3, 1435, false)) ∧ (NL_law 1435 = some (.istore 6, 1437, false) ∧ NL_law 1437 = some (.aload 2, 1438, false) ∧ NL_law 1438 = some (.invokeinterface 159 1, 1441, false) ∧ NL_law 1441 = some (.iload 5, 1443, false) ∧ NL_law 1443 = some (.if_icmp .eq 1448, 1446, false)) ∧ (NL_law 1446 = some (.ret 0, 1447, false) ∧ NL_law 1447 = some (.ireturn, 1448, false) ∧ NL_law 1448 = some (.iload 5, 1450, false) ∧ NL_law 1450 = some (.ifCond .ne 1465, 1453, false) ∧ NL_law 1453 = some (.aload 3, 1454, false)) ∧ (NL_law 1454 = some (.ret 0, 1455, false) ∧ NL_law 1455 = some (.laload, 1456, false) ∧ NL_law 1456 = some (.iload 6, 1458, false) ∧ NL_law 1458 = some (.i2l, 1459, false) ∧ NL_law 1459 = some (.lcmp, 1460, false)) ∧ (NL_law 1460 = some (.ifCond .eq 1465, 1463, false) ∧ NL_law 1463 = some (.ret 0, 1464, false) ∧ NL_law 1464 = some (.ireturn, 1465, false) ∧ NL_law 1465 = some (.goto 1580, 1468, false) ∧ NL_law 1468 = some (.aload 1, 1469, false)) ∧ (NL_law 1469 = some (.aload 0, 1470, false) ∧ NL_law 1470 = some (.iload 4, 1472, false) ∧ NL_law 1472 = some (.ret 1, 1473, false) ∧ NL_law 1473 = some (.iadd, 1474, false) ∧ NL_law 1474 = some (.iaload, 1475, false)) ∧ (NL_law 1475 = some (.aload 0, 1476, false) ∧ NL_law 1476 = some (.iload 4, 1478, false) ∧ NL_law 1478 = some (.ret 2, 1479, false) ∧ NL_law 1479 = some (.iadd, 1480, false) ∧ NL_law 1480 = some (.iaload, 1481, false)) ∧ (NL_law 1481 = some (.invokeinterface 150 3, 1484, false) ∧ NL_law 1484 = some (.aload 2, 1485, false) ∧ NL_law 1485 = some (.aload 0, 1486, false) ∧ NL_law 1486 = some (.iload 4, 1488, false) ∧ NL_law 1488 = some (.ret 1, 1489, false)) ∧ (NL_law 1489 = some (.iadd, 1490, false) ∧ NL_law 1490 = some (.iaload, 1491, false) ∧ NL_law 1491 = some (.aload 0, 1492, false) ∧ NL_law 1492 = some (.iload 4, 1494, false) ∧ NL_law 1494 = some (.ret 2, 1495, false)) ∧ (NL_law 1495 = some (.iadd, 1496, false) ∧ NL_law 1496 = some (.iaload, 1497, false) ∧ NL_law 1497 = some (.invokeinterface 220 3, 1500, false) ∧ NL_law 1500 = some (.if_icmp .eq 1580, 1503, false) ∧ NL_law 1503 = some (.ret 0, 1504, false)) ∧ (NL_law 1504 = some (.ireturn, 1505, false) ∧ NL_law 1505 = some (.aload 1, 1506, false) ∧ NL_law 1506 = some (.aload 0, 1507, false) ∧ NL_law 1507 = some (.iload 4, 1509, false) ∧ NL_law 1509 = some (.ret 1, 1510, false)) ∧ (NL_law 1510 = some (.iadd, 1511, false) ∧ NL_law 1511 = some (.iaload, 1512, false) ∧ NL_law 1512 = some (.invokeinterface 151 2, 1515, false) ∧ NL_law 1515 = some (.aload 2, 1516, false) ∧ NL_law 1516 = some (.aload 0, 1517, false)) ∧ (NL_law 1517 = some (.iload 4, 1519, false) ∧ NL_law 1519 = some (.ret 1, 1520, false) ∧ NL_law 1520 = some (.iadd, 1521, false) ∧ NL_law 1521 = some (.iaload, 1522, false) ∧ NL_law 1522 = some (.invokeinterface 222 2, 1525, false)) ∧ (NL_law 1525 = some (.if_icmp .eq 1580, 1528, false) ∧ NL_law 1528 = some (.ret 0, 1529, false) ∧ NL_law 1529 = some (.ireturn, 1530, false) ∧ NL_law 1530 = some (.aload 1, 1531, false) ∧ NL_law 1531 = some (.aload 0, 1532, false)) ∧ (NL_law 1532 = some (.iload 4, 1534, false) ∧ NL_law 1534 = some (.ret 1, 1535, false) ∧ NL_law 1535 = some (.iadd, 1536, false) ∧ NL_law 1536 = some (.iaload, 1537, false) ∧ NL_law 1537 = some (.invokeinterface 156 2, 1540, false)) ∧ (NL_law 1540 = some (.aload 2, 1541, false) ∧ NL_law 1541 = some (.aload 0, 1542, false) ∧ NL_law 1542 = some (.iload 4, 1544, false) ∧ NL_law 1544 = some (.ret 1, 1545, false) ∧ NL_law 1545 = some (.iadd, 1546, false)) ∧ (NL_law 1546 = some (.iaload, 1547, false) ∧ NL_law 1547 = some (.invokeinterface 223 2, 1550, false) ∧ NL_law 1550 = some (.if_icmp .eq 1580, 1553, false) ∧ NL_law 1553 = some (.ret 0, 1554, false) ∧ NL_law 1554 = some (.ireturn, 1555, false)) ∧ (NL_law 1555 = some (.aload 1, 1556, false) ∧ NL_law 1556 = some (.aload 0, 1557, false) ∧ NL_law 1557 = some (.iload 4, 1559, false) ∧ NL_law 1559 = some (.ret 1, 1560, false) ∧ NL_law 1560 = some (.iadd, 1561, false)) ∧ (NL_law 1561 = some (.iaload, 1562, false) ∧ NL_law 1562 = some (.invokeinterface 157 2, 1565, false) ∧ NL_law 1565 = some (.aload 2, 1566, false) ∧ NL_law 1566 = some (.aload 0, 1567, false) ∧ NL_law 1567 = some (.iload 4, 1569, false)) ∧ (NL_law 1569 = some (.ret 1, 1570, false) ∧ NL_law 1570 = some (.iadd, 1571, false) ∧ NL_law 1571 = some (.iaload, 1572, false) ∧ NL_law 1572 = some (.invokeinterface 224 2, 1575, false) ∧ NL_law 1575 = some (.if_icmp .eq 1580, 1578, false)) ∧ (NL_law 1578 = some (.ret 0, 1579, false) ∧ NL_law 1579 = some (.ireturn, 1580, false) ∧ NL_law 1580 = some (.multianewarray 4 5, 1583, false) ∧ NL_law 1583 = some (.goto 23, 1586, false) ∧ NL_law 1586 = some (.ret 1, 1587, false)) ∧ (NL_law 1587 = some (.ireturn, 1588, false)) := ⟨by decide +kernel, by decide +kernel, by decide +kernel, by decide +kernel, by decide +kernel, by decide +kernel, by decide +kernel, by decide +kernel, by decide +kernel, by decide +kernel, by decide +kernel, by decide +kernel, by decide +kernel, by decide +kernel, by decide +kernel, by decide +kernel, by decide +kernel, by decide +kernel, by decide +kernel, by decide +kernel, by decide +kernel, by decide +kernel, by decide +kernel, by decide +kernel, by decide +kernel, by decide +kernel, by decide +kernel, by decide +kernel, by decide +kernel, by decide +kernel, by decide +kernel, by decide +kernel, by decide +kernel, by decide +kernel, by decide +kernel, by decide +kernel, by decide +kernel, by decide +kernel, by decide +kernel, by decide +kernel, by decide +kernel, by decide +kernel, by decide +kernel, by decide +kernel, by decide +kernel, by decide +kernel, by decide +kernel, by decide +kernel, by decide +kernel, by decide +kernel, by decide +kernel, by decide +kernel, by decide +kernel, by decide +kernel, by decide +kernel, by decide +kernel, by decide +kernel, by decide +kernel, by decide +kernel, by decide +kernel, by decide +kernel, by decide +kernel, by decide +kernel, by decide +kernel, by decide +kernel, by decide +kernel, by decide +kernel, by decide +kernel, by decide +kernel, by decide +kernel, by decide +kernel, by decide +kernel, by decide +kernel, by decide +kernel, by decide +kernel, by decide +kernel, by decide +kernel, by decide +kernel, by decide +kernel, by decide +kernel, by decide +kernel, by decide +kernel, by decide +kernel, by decide +kernel, by decide +kernel, by decide +kernel, by decide +kernel, by decide +kernel, by decide +kernel, by decide +kernel, by decide +kernel, by decide +kernel, by decide +kernel, by decide +kernel, by decide +kernel, by decide +kernel, by decide +kernel, by decide +kernel, by decide +kernel, by decide +kernel, by decide +kernel, by decide +kernel, by decide +kernel, by decide +kernel, by decide +kernel, by decide +kernel, by decide +kernel, by decide +kernel, by decide +kernel, by decide +kernel, by decide +kernel, by decide +kernel, by decide +kernel, by decide +kernel, by decide +kernel, by decide +kernel, by decide +kernel, by decide +kernel, by decide +kernel, by decide +kernel, by decide +kernel, by decide +kernel, by decide +kernel, by decide +kernel, by decide +kernel, by decide +kernel, by decide +kernel, by decide +kernel, by decide +kernel, by decide +kernel, by decide +kernel, by decide +kernel, by decide +kernel, by decide +kernel, by decide +kernel, by decide +kernel, by decide +kernel, by decide +kernel, by decide +kernel, by decide +kernel, by decide +kernel, by decide +kernel, by decide +kernel, by decide +kernel, by decide +kernel, by decide +kernel, by decide +kernel, by decide +kernel, by decide +kernel, by decide +kernel, by decide +kernel, by decide +kernel, by decide +kernel, by decide +kernel, by decide +kernel, by decide +kernel, by decide +kernel, by decide +kernel, by decide +kernel, by decide +kernel, by decide +kernel, by decide +kernel, by decide +kernel, by decide +kernel, by decide +kernel, by decide +kernel, by decide +kernel, by decide +kernel, by decide +kernel, by decide +kernel, by decide +kernel, by decide +kernel, by decide +kernel, by decide +kernel, by decide +kernel, by decide +kernel, by decide +kernel, by decide +kernel, by decide +kernel, by decide +kernel, by decide +kernel, by decide +kernel, by decide +kernel, by decide +kernel, by decide +kernel, by decide +kernel, by decide +kernel, by decide +kernel, by decide +kernel, by decide +kernel, by decide +kernel, by decide +kernel, by decide +kernel, by decide +kernel, by decide +kernel, by decide +kernel, by decide +kernel, by decide +kernel, by decide +kernel, by decide +kernel, by decide +kernel, by decide +kernel⟩
def NJ6_bitCount_0f7a4 : sm_NF := sm_nd TJ6_ cJ6_bitCount_0f7a4 1 []
theorem n_J6_bitCount_0f7a4 : (NJ6_bitCount_0f7a4 0 = some (.iload 0, 1, false) ∧ NJ6_bitCount_0f7a4 1 = some (.iload 0, 2, false) ∧ NJ6_bitCount_0f7a4 2 = some (.ret 1, 3, false) ∧ NJ6_bitCount_0f7a4 3 = some (.iushr, 4, false) ∧ NJ6_bitCount_0f7a4 4 = some (.ret 1431655765, 7, false)) ∧ (NJ6_bitCount_0f7a4 7 = some (.iand, 8, false) ∧ NJ6_bitCount_0f7a4 8 = some (.isub, 9, false) ∧ NJ6_bitCount_0f7a4 9 = some (.istore 0, 10, false) ∧ NJ6_bitCount_0f7a4 10 = some (.iload 0, 11, false) ∧ NJ6_bitCount_0f7a4 11 = some (.ret 858993459, 14, false)) ∧ (NJ6_bitCount_0f7a4 14 = some (.iand, 15, false) ∧ NJ6_bitCount_0f7a4 15 = some (.iload 0, 16, false) ∧ NJ6_bitCount_0f7a4 16 = some (.ret 2, 17, false) ∧ NJ6_bitCount_0f7a4 17 = some (.iushr, 18, false) ∧ NJ6_bitCount_0f7a4 18 = some (.ret 858993459, 21, false)) ∧ (NJ6_bitCount_0f7a4 21 = some (.iand, 22, false) ∧ NJ6_bitCount_0f7a4 22 = some (.iadd, 23, false) ∧ NJ6_bitCount_0f7a4 23 = some (.istore 0, 24, false) ∧ NJ6_bitCount_0f7a4 24 = some (.iload 0, 25, false) ∧ NJ6_bitCount_0f7a4 25 = some (.iload 0, 26, false)) ∧ (NJ6_bitCount_0f7a4 26 = some (.ret 4, 27, false) ∧ NJ6_bitCount_0f7a4 27 = some (.iushr, 28, false) ∧ NJ6_bitCount_0f7a4 28 = some (.iadd, 29, false) ∧ NJ6_bitCount_0f7a4 29 = some (.ret 252645135, 32, false) ∧ NJ6_bitCount_0f7a4 32 = some (.iand, 33, false)) ∧ (NJ6_bitCount_0f7a4 33 = some (.istore 0, 34, false) ∧ NJ6_bitCount_0f7a4 34 = some (.iload 0, 35, false) ∧ NJ6_bitCount_0f7a4 35 = some (.iload 0, 36, false) ∧ NJ6_bitCount_0f7a4 36 = some (.ret 8, 38, false) ∧ NJ6_bitCount_0f7a4 38 = some (.iushr, 39, false)) ∧ (NJ6_bitCount_0f7a4 39 = some (.iadd, 40, false) ∧ NJ6_bitCount_0f7a4 40 = some (.istore 0, 41, false) ∧ NJ6_bitCount_0f7a4 41 = some (.iload 0, 42, false) ∧ NJ6_bitCount_0f7a4 42 = some (.iload 0, 43, false) ∧ NJ6_bitCount_0f7a4 43 = some (.ret 16, 45, false)) ∧ (NJ6_bitCount_0f7a4 45 = some (.iushr, 46, false) ∧ NJ6_bitCount_0f7a4 46 = some (.iadd, 47, false) ∧ NJ6_bitCount_0f7a4 47 = some (.istore 0, 48, false) ∧ NJ6_bitCount_0f7a4 48 = some (.iload 0, 49, false) ∧ NJ6_bitCount_0f7a4 49 = some (.ret 63, 51, false)) ∧ (NJ6_bitCount_0f7a4 51 = some (.iand, 52, false) ∧ NJ6_bitCount_0f7a4 52 = some (.ireturn, 53, false)) := ⟨by decide +kernel, by decide +kernel, by decide +kernel, by decide +kernel, by decide +kernel, by decide +kernel, by decide +kernel, by decide +kernel, by decide +kernel⟩
def NJ13_bitCount_95d88 : sm_NF := sm_nd TJ13_ cJ13_bitCount_95d88 2 []
theorem n_J13_bitCount_95d88 : (NJ13_bitCount_95d88 0 = some (.lload 0, 1, false) ∧ NJ13_bitCount_95d88 1 = some (.lload 0, 2, false) ∧ NJ13_bitCount_95d88 2 = some (.ret 1, 3, false) ∧ NJ13_bitCount_95d88 3 = some (.lushr, 4, false) ∧ NJ13_bitCount_95d88 4 = some (.getstatic 6148914691236517205, 7, false)) ∧ (NJ13_bitCount_95d88 7 = some (.land, 8, false) ∧ NJ13_bitCount_95d88 8 = some (.lsub, 9, false) ∧ NJ13_bitCount_95d88 9 = some (.lstore 0, 10, false) ∧ NJ13_bitCount_95d88 10 = some (.lload 0, 11, false) ∧ NJ13_bitCount_95d88 11 = some (.getstatic 3689348814741910323, 14, false)) ∧ (NJ13_bitCount_95d88 14 = some (.land, 15, false) ∧ NJ13_bitCount_95d88 15 = some (.lload 0, 16, false) ∧ NJ13_bitCount_95d88 16 = some (.ret 2, 17, false) ∧ NJ13_bitCount_95d88 17 = some (.lushr, 18, false) ∧ NJ13_bitCount_95d88 18 = some (.getstatic 3689348814741910323, 21, false)) ∧ (NJ13_bitCount_95d88 21 = some (.land, 22, false) ∧ NJ13_bitCount_95d88 22 = some (.ladd, 23, false) ∧ NJ13_bitCount_95d88 23 = some (.lstore 0, 24, false) ∧ NJ13_bitCount_95d88 24 = some (.lload 0, 25, false) ∧ NJ13_bitCount_95d88 25 = some (.lload 0, 26, false)) ∧ (NJ13_bitCount_95d88 26 = some (.ret 4, 27, false) ∧ NJ13_bitCount_95d88 27 = some (.lushr, 28, false) ∧ NJ13_bitCount_95d88 28 = some (.ladd, 29, false) ∧ NJ13_bitCount_95d88 29 = some (.getstatic 1085102592571150095, 32, false) ∧ NJ13_bitCount_95d88 32 = some (.land, 33, false)) ∧ (NJ13_bitCount_95d88 33 = some (.lstore 0, 34, false) ∧ NJ13_bitCount_95d88 34 = some (.lload 0, 35, false) ∧ NJ13_bitCount_95d88 35 = some (.lload 0, 36, false) ∧ NJ13_bitCount_95d88 36 = some (.ret 8, 38, false) ∧ NJ13_bitCount_95d88 38 = some (.lushr, 39, false)) ∧ (NJ13_bitCount_95d88 39 = some (.ladd, 40, false) ∧ NJ13_bitCount_95d88 40 = some (.lstore 0, 41, false) ∧ NJ13_bitCount_95d88 41 = some (.lload 0, 42, false) ∧ NJ13_bitCount_95d88 42 = some (.lload 0, 43, false) ∧ NJ13_bitCount_95d88 43 = some (.ret 16, 45, false)) ∧ (NJ13_bitCount_95d88 45 = some (.lushr, 46, false) ∧ NJ13_bitCount_95d88 46 = some (.ladd, 47, false) ∧ NJ13_bitCount_95d88 47 = some (.lstore 0, 48, false) ∧ NJ13_bitCount_95d88 48 = some (.lload 0, 49, false) ∧ NJ13_bitCount_95d88 49 = some (.lload 0, 50, false)) ∧ (NJ13_bitCount_95d88 50 = some (.ret 32, 52, false) ∧ NJ13_bitCount_95d88 52 = some (.lushr, 53, false) ∧ NJ13_bitCount_95d88 53 = some (.ladd, 54, false) ∧ NJ13_bitCount_95d88 54 = some (.lstore 0, 55, false) ∧ NJ13_bitCount_95d88 55 = some (.lload 0, 56, false)) ∧ (NJ13_bitCount_95d88 56 = some (.l2i, 57, false) ∧ NJ13_bitCount_95d88 57 = some (.ret 127, 59, false) ∧ NJ13_bitCount_95d88 59 = some (.iand, 60, false) ∧ NJ13_bitCount_95d88 60 = some (.ireturn, 61, false)) := ⟨by decide +kernel, by decide +kernel, by decide +kernel, by decide +kernel, by decide +kernel, by decide +kernel, by decide +kernel, by decide +kernel, by decide +kernel, by decide +kernel⟩
end
section
/-! WHAT THE SMALL MACHINE'S STEPS MEAN: each is a row of the kit. -/
def sm_tr (ad : Nat → Nat) : Value → Value
  | .ref k => .ref (ad k)
  | v => v
def sm_fv (ad : Nat → Nat) (g : sm_G) (p c d : Nat) : Value := if d = 1 then .int (rS g p c) else .ref (ad (d - 2))
def sm_fs (ad : Nat → Nat) (g : sm_G) (p ci : Nat) (ds : List Nat) : List Value := ds.zipIdx.map (fun q => sm_fv ad g p (ci * 100 + q.2) q.1)
def sm_e (ad : Nat → Nat) (cA : Nat → ClassId) (g : sm_G) (p : Nat) : ((Nat × List Nat) ⊕ (Nat × Nat)) → va_E
  | .inl (ci, ds) => .inr (ci, sm_fs ad g p ci ds)
  | .inr (ty, n) => .inl (cA ty, n, if ty = 3 then .inr (.inl (rL g p)) else .inl (rA g p))
def sm_pic (lay : List ((Nat × List Nat) ⊕ (Nat × Nat))) (ad : Nat → Nat) (cA : Nat → ClassId) (g : sm_G) : va_W := lay.zipIdx.map (fun q => (ad q.2, sm_e ad cA g q.2 q.1))
def sm_tys (cA : Nat → ClassId) : List (ClassId × FieldType) := [(cA 1, .int), (cA 2, .boolean), (cA 3, .long)]
def sm_as (ad : Nat → Nat) : Nat → sm_Lo → List (Nat × Value)
  | _, [] => []
  | i, none :: l => sm_as ad (i + 1) l
  | i, some v :: l => (i, sm_tr ad v) :: sm_as ad (i + 1) l
theorem sm_as_mem (ad : Nat → Nat) : ∀ (l : sm_Lo) (i : Nat) (q : Nat × Value), q ∈ sm_as ad i l ↔ ∃ k v, l[k]? = some (some v) ∧ q = (i + k, sm_tr ad v) := by
  intro l
  induction l with
  | nil => intro i q; simp [sm_as]
  | cons o l ih =>
    intro i q
    cases o with
    | none =>
      rw [sm_as, ih]
      constructor
      · rintro ⟨k, v, h, rfl⟩
        exact ⟨k + 1, v, by simpa using h, by simp; omega⟩
      · rintro ⟨k, v, h, rfl⟩
        cases k with
        | zero => simp at h
        | succ k => exact ⟨k, v, by simpa using h, by simp; omega⟩
    | some w =>
      rw [sm_as, List.mem_cons, ih]
      constructor
      · rintro (rfl | ⟨k, v, h, rfl⟩)
        · exact ⟨0, w, by simp, by simp⟩
        · exact ⟨k + 1, v, by simpa using h, by simp; omega⟩
      · rintro ⟨k, v, h, rfl⟩
        cases k with
        | zero => left; simp at h; subst h; simp
        | succ k => right; exact ⟨k, v, by simpa using h, by simp; omega⟩
/-- locals hold no double -/
def sm_nd2 (ls : sm_Lo) : Prop := ∀ (k : Nat) (v : Value), ls[k]? = some (some v) → ∀ x, v ≠ .double x
def sm_lv (ad : Nat → Nat) (a : Array Slot) (nL : Nat) (ls : sm_Lo) : Prop := (ls.length = nL ∧ sm_nd2 ls) ∧ lv_has a nL (sm_as ad 0 ls)
theorem sm_lv_at {ad : Nat → Nat} {a : Array Slot} {nL : Nat} {ls : sm_Lo} (h : sm_lv ad a nL ls) {k : Nat} {v : Value} (hk : ls[k]? = some (some v)) : a[k]? = some (.val (sm_tr ad v)) :=
  h.2.2.2 (k, sm_tr ad v) ((sm_as_mem ad ls 0 _).mpr ⟨k, v, hk, by simp⟩)
theorem sm_st1_len (ls : sm_Lo) : ∀ (k : Nat) (v : Value), (sm_st1 ls k v).length = ls.length := by
  induction ls with
  | nil => intro k v; rfl
  | cons o l ih => intro k v; cases k with
    | zero => rfl
    | succ n => simp [sm_st1, ih]
theorem sm_st1_get (ls : sm_Lo) : ∀ (k : Nat) (v : Value) (j : Nat), (sm_st1 ls k v)[j]? = if j = k then (if k < ls.length then some (some v) else none) else if j + 1 = k then (ls[j]?).map sm_un else ls[j]? := by
  induction ls with
  | nil => intro k v j; simp [sm_st1]
  | cons o l ih =>
    intro k v j
    cases k with
    | zero => cases j with
      | zero => simp [sm_st1]
      | succ j => simp [sm_st1]
    | succ n => cases j with
      | zero => by_cases hn : n = 0
                · subst hn; simp [sm_st1]
                · have : ¬ 1 = n + 1 := by omega
                  simp [sm_st1, hn]
      | succ j => simp [sm_st1, ih]
theorem sm_un_some {o : Option Value} {v : Value} (h : sm_un o = some v) : o = some v ∧ v.category ≠ 2 ∨ (o = some v ∧ ∃ x, v = .double x) := by
  cases o with
  | none => simp [sm_un] at h
  | some w => cases w <;> simp [sm_un] at h <;> subst h <;> simp [Value.category]
theorem sm_tr_cat (ad : Nat → Nat) (v : Value) : (sm_tr ad v).category = v.category := by cases v <;> rfl
theorem sm_st1_sub {ad : Nat → Nat} {ls : sm_Lo} {k : Nat} {v : Value} (hd : sm_nd2 ls) : ∀ q ∈ sm_as ad 0 (sm_st1 ls k v), q ∈ (k, sm_tr ad v) :: (sm_as ad 0 ls).filter (fun q => !(q.1 == k) && !(q.1 + 1 == k && q.2.category == 2)) := by
  intro q hq
  obtain ⟨j, w, h, rfl⟩ := (sm_as_mem ad _ 0 q).mp hq
  rw [sm_st1_get] at h
  simp only [Nat.zero_add]
  by_cases h1 : j = k
  · subst h1
    rw [if_pos rfl] at h
    by_cases h2 : j < ls.length
    · rw [if_pos h2] at h; simp at h; subst h; exact List.mem_cons_self
    · rw [if_neg h2] at h; cases h
  · rw [if_neg h1] at h
    refine List.mem_cons_of_mem _ (List.mem_filter.mpr ?_)
    by_cases h2 : j + 1 = k
    · rw [if_pos h2] at h
      obtain ⟨o, ho, hu⟩ := Option.map_eq_some_iff.mp h
      have hx := sm_un_some hu
      have ho' : o = some w := by rcases hx with ⟨a, _⟩ | ⟨a, _⟩ <;> exact a
      subst ho'
      refine ⟨(sm_as_mem ad _ 0 _).mpr ⟨j, w, ho, by simp⟩, ?_⟩
      have : w.category ≠ 2 := by
        rcases hx with ⟨_, b⟩ | ⟨_, x, rfl⟩
        · exact b
        · exact absurd rfl (hd j _ ho x)
      simp [h1, h2, sm_tr_cat, this]
    · rw [if_neg h2] at h
      exact ⟨(sm_as_mem ad _ 0 _).mpr ⟨j, w, h, by simp⟩, by simp [h1, h2]⟩
theorem sm_st2_len (ls : sm_Lo) : ∀ (k : Nat) (v : Value), (sm_st2 ls k v).length = ls.length := by
  induction ls with
  | nil => intro k v; rfl
  | cons o l ih => intro k v; cases k with
    | zero => cases l <;> rfl
    | succ n => simp [sm_st2, ih]
theorem sm_st2_get (ls : sm_Lo) : ∀ (k : Nat) (v : Value) (j : Nat), (sm_st2 ls k v)[j]? = if j = k then (if k < ls.length then some (some v) else none) else if j = k + 1 then (ls[j]?).map (fun _ => none) else if j + 1 = k then (ls[j]?).map sm_un else ls[j]? := by
  induction ls with
  | nil => intro k v j; simp [sm_st2]
  | cons o l ih =>
    intro k v j
    cases k with
    | zero => cases j with
      | zero => simp [sm_st2]
      | succ j => cases l with
        | nil => simp [sm_st2]
        | cons o2 r => cases j with
          | zero => simp [sm_st2]
          | succ j => simp [sm_st2]
    | succ n => cases j with
      | zero => by_cases hn : n = 0
                · subst hn; simp [sm_st2]
                · simp [sm_st2, hn]
      | succ j => simp [sm_st2, ih]
theorem sm_st2_sub {ad : Nat → Nat} {ls : sm_Lo} {k : Nat} {v : Value} (hd : sm_nd2 ls) : ∀ q ∈ sm_as ad 0 (sm_st2 ls k v), q ∈ (k, sm_tr ad v) :: (sm_as ad 0 ls).filter (fun q => !(q.1 == k) && (!(q.1 == k + 1) && !(q.1 + 1 == k && q.2.category == 2))) := by
  intro q hq
  obtain ⟨j, w, h, rfl⟩ := (sm_as_mem ad _ 0 q).mp hq
  rw [sm_st2_get] at h
  simp only [Nat.zero_add]
  by_cases h1 : j = k
  · subst h1
    rw [if_pos rfl] at h
    by_cases h2 : j < ls.length
    · rw [if_pos h2] at h; simp at h; subst h; exact List.mem_cons_self
    · rw [if_neg h2] at h; cases h
  · rw [if_neg h1] at h
    by_cases h3 : j = k + 1
    · rw [if_pos h3] at h
      obtain ⟨o, ho, hu⟩ := Option.map_eq_some_iff.mp h
      cases hu
    · rw [if_neg h3] at h
      refine List.mem_cons_of_mem _ (List.mem_filter.mpr ?_)
      by_cases h2 : j + 1 = k
      · rw [if_pos h2] at h
        obtain ⟨o, ho, hu⟩ := Option.map_eq_some_iff.mp h
        have hx := sm_un_some hu
        have ho' : o = some w := by rcases hx with ⟨a, _⟩ | ⟨a, _⟩ <;> exact a
        subst ho'
        refine ⟨(sm_as_mem ad _ 0 _).mpr ⟨j, w, ho, by simp⟩, ?_⟩
        have : w.category ≠ 2 := by
          rcases hx with ⟨_, b⟩ | ⟨_, x, rfl⟩
          · exact b
          · exact absurd rfl (hd j _ ho x)
        simp [h1, h2, h3, sm_tr_cat, this]
      · rw [if_neg h2] at h
        exact ⟨(sm_as_mem ad _ 0 _).mpr ⟨j, w, h, by simp⟩, by simp [h1, h2, h3]⟩
theorem sm_st1_nd2 {ls : sm_Lo} {k : Nat} {v : Value} (hd : sm_nd2 ls) (hv : ∀ x, v ≠ .double x) : sm_nd2 (sm_st1 ls k v) := by
  intro j w h
  rw [sm_st1_get] at h
  split at h
  · split at h
    · simp at h; subst h; exact hv
    · cases h
  · split at h
    · obtain ⟨o, ho, hu⟩ := Option.map_eq_some_iff.mp h
      have ho' : o = some w := by rcases sm_un_some hu with ⟨a, _⟩ | ⟨a, _⟩ <;> exact a
      subst ho'; exact hd j w ho
    · exact hd j w h
theorem sm_st2_nd2 {ls : sm_Lo} {k : Nat} {v : Value} (hd : sm_nd2 ls) (hv : ∀ x, v ≠ .double x) : sm_nd2 (sm_st2 ls k v) := by
  intro j w h
  rw [sm_st2_get] at h
  split at h
  · split at h
    · simp at h; subst h; exact hv
    · cases h
  · split at h
    · obtain ⟨o, ho, hu⟩ := Option.map_eq_some_iff.mp h; cases hu
    · split at h
      · obtain ⟨o, ho, hu⟩ := Option.map_eq_some_iff.mp h
        have ho' : o = some w := by rcases sm_un_some hu with ⟨a, _⟩ | ⟨a, _⟩ <;> exact a
        subst ho'; exact hd j w ho
      · exact hd j w h
theorem lv_less {a : Array Slot} {nL : Nat} {l l' : List (Nat × Value)} (h : lv_has a nL l) (hs : ∀ q ∈ l', q ∈ l) : lv_has a nL l' := ⟨h.1, h.2.1, fun q hq => h.2.2 q (hs q hq)⟩
theorem sm_ldi_spec {f : Int32 → Prop} : ∀ {ls : sm_Lo} {k : Nat}, sm_ldi ls k f → ∃ x, ls[k]? = some (some (.int x)) ∧ f x := by
  intro ls
  induction ls with
  | nil => intro k h; exact h.elim
  | cons o l ih => intro k h; cases k with
    | zero => simp only [sm_ldi] at h; split at h
              · exact ⟨_, by simp, h⟩
              · exact h.elim
    | succ n => obtain ⟨x, a, b⟩ := ih h; exact ⟨x, by simpa using a, b⟩
theorem sm_ldl_spec {f : Int64 → Prop} : ∀ {ls : sm_Lo} {k : Nat}, sm_ldl ls k f → ∃ x, ls[k]? = some (some (.long x)) ∧ f x := by
  intro ls
  induction ls with
  | nil => intro k h; exact h.elim
  | cons o l ih => intro k h; cases k with
    | zero => simp only [sm_ldl] at h; split at h
              · exact ⟨_, by simp, h⟩
              · exact h.elim
    | succ n => obtain ⟨x, a, b⟩ := ih h; exact ⟨x, by simpa using a, b⟩
theorem sm_ldr_spec {f : Nat → Prop} : ∀ {ls : sm_Lo} {k : Nat}, sm_ldr ls k f → ∃ x, ls[k]? = some (some (.ref x)) ∧ f x := by
  intro ls
  induction ls with
  | nil => intro k h; exact h.elim
  | cons o l ih => intro k h; cases k with
    | zero => simp only [sm_ldr] at h; split at h
              · exact ⟨_, by simp, h⟩
              · exact h.elim
    | succ n => obtain ⟨x, a, b⟩ := ih h; exact ⟨x, by simpa using a, b⟩
theorem sm_i1_spec {st : List Value} {f : Int32 → List Value → Prop} (h : sm_i1 st f) : ∃ x r, st = .int x :: r ∧ f x r := by
  unfold sm_i1 at h; split at h
  · exact ⟨_, _, rfl, h⟩
  · exact h.elim
theorem sm_i2_spec {st : List Value} {f : Int32 → Int32 → List Value → Prop} (h : sm_i2 st f) : ∃ x y r, st = .int y :: .int x :: r ∧ f x y r := by
  unfold sm_i2 at h; split at h
  · exact ⟨_, _, _, rfl, h⟩
  · exact h.elim
theorem sm_l1_spec {st : List Value} {f : Int64 → List Value → Prop} (h : sm_l1 st f) : ∃ x r, st = .long x :: r ∧ f x r := by
  unfold sm_l1 at h; split at h
  · exact ⟨_, _, rfl, h⟩
  · exact h.elim
theorem sm_l2_spec {st : List Value} {f : Int64 → Int64 → List Value → Prop} (h : sm_l2 st f) : ∃ x y r, st = .long y :: .long x :: r ∧ f x y r := by
  unfold sm_l2 at h; split at h
  · exact ⟨_, _, _, rfl, h⟩
  · exact h.elim
theorem sm_li_spec {st : List Value} {f : Int64 → Int32 → List Value → Prop} (h : sm_li st f) : ∃ x y r, st = .int y :: .long x :: r ∧ f x y r := by
  unfold sm_li at h; split at h
  · exact ⟨_, _, _, rfl, h⟩
  · exact h.elim
theorem sm_r1_spec {st : List Value} {f : Nat → List Value → Prop} (h : sm_r1 st f) : ∃ x r, st = .ref x :: r ∧ f x r := by
  unfold sm_r1 at h; split at h
  · exact ⟨_, _, rfl, h⟩
  · exact h.elim
theorem sm_ir_spec {st : List Value} {f : Int32 → Nat → List Value → Prop} (h : sm_ir st f) : ∃ x p r, st = .int x :: .ref p :: r ∧ f x p r := by
  unfold sm_ir at h; split at h
  · exact ⟨_, _, _, rfl, h⟩
  · exact h.elim
theorem sm_iir_spec {st : List Value} {f : Int32 → Int32 → Nat → List Value → Prop} (h : sm_iir st f) : ∃ x i p r, st = .int x :: .int i :: .ref p :: r ∧ f x i p r := by
  unfold sm_iir at h; split at h
  · exact ⟨_, _, _, _, rfl, h⟩
  · exact h.elim
theorem sm_lir_spec {st : List Value} {f : Int64 → Int32 → Nat → List Value → Prop} (h : sm_lir st f) : ∃ x i p r, st = .long x :: .int i :: .ref p :: r ∧ f x i p r := by
  unfold sm_lir at h; split at h
  · exact ⟨_, _, _, _, rfl, h⟩
  · exact h.elim
theorem sm_fg_spec {d : Nat} {x : Int32} {f : Value → Prop} (h : sm_fg d x f) : (d = 1 ∧ f (.int x)) ∨ ∃ q, d = q + 2 ∧ f (.ref q) := by
  match d, h with
  | 0, h => exact h.elim
  | 1, h => exact Or.inl ⟨rfl, h⟩
  | q + 2, h => exact Or.inr ⟨q, rfl, h⟩
theorem sm_pop_spec {f : List Value → List Value → Prop} : ∀ {n : Nat} {st acc : List Value}, sm_pop n st acc f → ∃ as r, st = as.reverse ++ r ∧ as.length = n ∧ f (as ++ acc) r := by
  intro n
  induction n with
  | zero => intro st acc h; exact ⟨[], st, by simp, rfl, by simpa [sm_pop] using h⟩
  | succ n ih =>
    intro st acc h
    cases st with
    | nil => exact h.elim
    | cons v st =>
      obtain ⟨as, r, h1, h2, h3⟩ := ih (show sm_pop n st (v :: acc) f from h)
      exact ⟨as ++ [v], r, by simp [h1], by simp [h2], by simpa using h3⟩
theorem sm_ck_spec {b : Bool} {i j : Instr} (h : sm_ck b i = some j) : b = true ∧ i = j := by
  unfold sm_ck at h; split at h
  · exact ⟨by assumption, Option.some.inj h⟩
  · cases h
theorem sm_fd_spec {lay : List ((Nat × List Nat) ⊕ (Nat × Nat))} {p c d : Nat} (h : sm_fd lay p c = d) (hd : d ≠ 0) : ∃ ci ds, lay[p]? = some (.inl (ci, ds)) ∧ c / 100 = ci ∧ ds[c % 100]? = some d := by
  unfold sm_fd at h
  split at h
  · rename_i ci ds he
    split at h
    · rename_i h1
      refine ⟨ci, ds, he, h1, ?_⟩
      rw [List.getD_eq_getElem?_getD] at h
      cases hx : ds[c % 100]? with
      | none => rw [hx] at h; exact absurd h.symm hd
      | some y => rw [hx] at h; simp at h; rw [h]
    · exact absurd h.symm hd
  · exact absurd h.symm hd
theorem sm_ar_spec {lay : List ((Nat × List Nat) ⊕ (Nat × Nat))} {p : Nat} {ty : Nat} (h : (sm_ar lay p).1 = ty) (hd : ty ≠ 0) : lay[p]? = some (.inr (ty, (sm_ar lay p).2)) := by
  unfold sm_ar at h ⊢
  split at h
  · rename_i q he; rw [he]; subst h; rfl
  · exact absurd h.symm hd
theorem sm_pic_at {lay : List ((Nat × List Nat) ⊕ (Nat × Nat))} {ad : Nat → Nat} {cA : Nat → ClassId} {g : sm_G} {p : Nat} {x : (Nat × List Nat) ⊕ (Nat × Nat)} (h : lay[p]? = some x) : (sm_pic lay ad cA g)[p]? = some (ad p, sm_e ad cA g p x) := by
  simp [sm_pic, h]
theorem sm_fs_at {ad : Nat → Nat} {g : sm_G} {p ci k d : Nat} {ds : List Nat} (h : ds[k]? = some d) : (sm_fs ad g p ci ds)[k]? = some (sm_fv ad g p (ci * 100 + k) d) := by
  simp [sm_fs, h]
theorem sm_pic_set {lay : List ((Nat × List Nat) ⊕ (Nat × Nat))} {ad : Nat → Nat} {cA : Nat → ClassId} {g g' : sm_G} {p : Nat} {e : va_E} (he : ∀ j y, lay[j]? = some y → sm_e ad cA g' j y = if j = p then e else sm_e ad cA g j y) : (sm_pic lay ad cA g).set p (ad p, e) = sm_pic lay ad cA g' := by
  refine List.ext_getElem? (fun j => ?_)
  rw [List.getElem?_set]
  by_cases hj : p = j
  · subst hj
    rw [if_pos rfl]
    cases hx : lay[p]? with
    | none => simp [sm_pic, hx]; exact List.getElem?_eq_none_iff.mp hx
    | some x =>
      rw [sm_pic_at hx, he p x hx, if_pos rfl, if_pos]
      have : p < lay.length := (List.getElem?_eq_some_iff.mp hx).1
      simpa [sm_pic] using this
  · rw [if_neg hj]
    cases hx : lay[j]? with
    | none => simp [sm_pic, hx]
    | some x => rw [sm_pic_at hx, sm_pic_at hx, he j x hx, if_neg (fun h => hj h.symm)]
theorem sm_pic_fst (lay : List ((Nat × List Nat) ⊕ (Nat × Nat))) (ad : Nat → Nat) (cA : Nat → ClassId) (g g' : sm_G) : ∀ (k : Nat) (q : Nat × va_E), (sm_pic lay ad cA g)[k]? = some q → ∃ q' : Nat × va_E, (sm_pic lay ad cA g')[k]? = some q' ∧ q'.1 = q.1 := by
  intro k q h
  cases hx : lay[k]? with
  | none => simp [sm_pic, hx] at h
  | some x => rw [sm_pic_at hx] at h; exact ⟨_, sm_pic_at hx, by cases h; rfl⟩
theorem sm_pic_D {lay : List ((Nat × List Nat) ⊕ (Nat × Nat))} {ad : Nat → Nat} {cA : Nat → ClassId} {g : sm_G} {A : Nat → Prop} (h : va_D A (sm_pic lay ad cA g)) (g' : sm_G) : va_D A (sm_pic lay ad cA g') := by
  refine ⟨fun i j p q hi hj e => ?_, fun k q hk => ?_⟩
  · obtain ⟨p', hp, ep⟩ := sm_pic_fst lay ad cA g' g i p hi
    obtain ⟨q', hq, eq⟩ := sm_pic_fst lay ad cA g' g j q hj
    exact h.1 i j p' q' hp hq (by rw [ep, eq, e])
  · obtain ⟨q', hq, eq⟩ := sm_pic_fst lay ad cA g' g k q hk
    rw [← eq]; exact h.2 k q' hq
theorem sm_pic_A {lay : List ((Nat × List Nat) ⊕ (Nat × Nat))} {ad : Nat → Nat} {cA : Nat → ClassId} {g : sm_G} {sz : Nat} (g' : sm_G) {q : Nat} (h : va_A (sm_pic lay ad cA g) sz q) : va_A (sm_pic lay ad cA g') sz q := by
  rcases h with ⟨k, e, hk⟩ | h
  · obtain ⟨q', hq, eq⟩ := sm_pic_fst lay ad cA g g' k _ hk
    exact Or.inl ⟨k, q'.2, by rw [hq]; exact congrArg some (Prod.ext eq rfl)⟩
  · exact Or.inr h
-- what is written, seen in the picture
theorem sm_e_gS {ad : Nat → Nat} {cA : Nat → ClassId} {g : sm_G} {p ci k : Nat} {v : Int32} {ds : List Nat} {lay : List ((Nat × List Nat) ⊕ (Nat × Nat))} (hp : lay[p]? = some (.inl (ci, ds))) (hd : ds[k]? = some 1) :
    ∀ j y, lay[j]? = some y → sm_e ad cA (gS g p (ci * 100 + k) v) j y = if j = p then .inr (ci, (sm_fs ad g p ci ds).set k (.int v)) else sm_e ad cA g j y := by
  intro j y hj
  by_cases h : j = p
  · subst h
    rw [hp] at hj; cases hj
    rw [if_pos rfl]
    simp only [sm_e]
    refine congrArg (fun z => Sum.inr (ci, z)) ?_
    refine List.ext_getElem? (fun i => ?_)
    rw [List.getElem?_set]
    cases hx : ds[i]? with
    | none =>
      by_cases hik : k = i
      · subst hik; rw [hd] at hx; cases hx
      · rw [if_neg hik]; simp [sm_fs, hx]
    | some d =>
      rw [sm_fs_at hx, sm_fs_at hx]
      have hl : i < (sm_fs ad g j ci ds).length := by simpa [sm_fs] using (List.getElem?_eq_some_iff.mp hx).1
      by_cases hik : k = i
      · subst hik
        rw [hd] at hx; cases hx
        rw [if_pos rfl, if_pos hl]
        simp [sm_fv, rS_gS]
      · rw [if_neg hik]
        have : ¬ i = k := fun h => hik h.symm
        simp [sm_fv, rS_gS, this]
  · rw [if_neg h]
    cases y with
    | inl q => obtain ⟨c2, d2⟩ := q; simp [sm_e, sm_fs, sm_fv, rS_gS, h]
    | inr q => obtain ⟨c2, d2⟩ := q; rfl
theorem sm_e_gA {ad : Nat → Nat} {cA : Nat → ClassId} {g : sm_G} {p ty n : Nat} {f : Nat → Int32} {lay : List ((Nat × List Nat) ⊕ (Nat × Nat))} (hp : lay[p]? = some (.inr (ty, n))) (h3 : ty ≠ 3) :
    ∀ j y, lay[j]? = some y → sm_e ad cA (gA g p f) j y = if j = p then .inl (cA ty, n, .inl f) else sm_e ad cA g j y := by
  intro j y hj
  by_cases h : j = p
  · subst h; rw [hp] at hj; cases hj; rw [if_pos rfl]; simp [sm_e, h3, rA_gA]
  · rw [if_neg h]
    cases y with
    | inl q => obtain ⟨c2, d2⟩ := q; rfl
    | inr q => obtain ⟨c2, d2⟩ := q; simp [sm_e, rA_gA, rL_gA, h]
theorem sm_e_gL {ad : Nat → Nat} {cA : Nat → ClassId} {g : sm_G} {p n : Nat} {f : Nat → Int64} {lay : List ((Nat × List Nat) ⊕ (Nat × Nat))} (hp : lay[p]? = some (.inr (3, n))) :
    ∀ j y, lay[j]? = some y → sm_e ad cA (gL g p f) j y = if j = p then .inl (cA 3, n, .inr (.inl f)) else sm_e ad cA g j y := by
  intro j y hj
  by_cases h : j = p
  · subst h; rw [hp] at hj; cases hj; rw [if_pos rfl]; simp [sm_e, rL_gL]
  · rw [if_neg h]
    cases y with
    | inl q => obtain ⟨c2, d2⟩ := q; rfl
    | inr q => obtain ⟨c2, d2⟩ := q; simp [sm_e, rA_gL, rL_gL, h]
end
section
/-! ONE STEP: the transformer of the small machine over the kit's W. -/
theorem sm_nI_ofInt {v : Int} (h : 0 ≤ v) : Int32.ofInt v = nI v.toNat := by
  obtain ⟨n, rfl⟩ := Int.eq_ofNat_of_zero_le h
  exact Int32.ofInt_eq_ofNat
theorem sm_sI_ofInt {v : Int} (h : ¬ 0 ≤ v) : Int32.ofInt v = sI (-v - 1).toNat := by
  unfold sI; congr 1; omega
theorem sm_i8 {n : Int} (h1 : -128 ≤ n) (h2 : n < 128) : (Int8.ofInt n).toInt32 = Int32.ofInt n := by
  rw [← Int32.ofInt_int8ToInt, Int8.toInt_ofInt_of_le (by omega) (by omega)]
theorem sm_i16 {n : Int} (h1 : -32768 ≤ n) (h2 : n < 32768) : (Int16.ofInt n).toInt32 = Int32.ofInt n := by
  rw [← Int32.ofInt_int16ToInt, Int16.toInt_ofInt_of_le (by omega) (by omega)]
theorem sm_in_vp {i : Int32} {n : Nat} (h : sm_in i n) : vp_in i n := vp_in_iff.mpr h
theorem sm_nar_z {x : Int32} (h : x = nI 0 ∨ x = nI 1) : vp_nar .boolean x = x := by rcases h with rfl | rfl <;> rfl
theorem sm_narrow_z {x : Int32} (h : x = nI 0 ∨ x = nI 1) : narrow .boolean (.int x) = .int x := by rcases h with rfl | rfl <;> rfl
/-- the words that all methods share: those of the tables that are good -/
def sm_BW : List Cond := lw_tbl.filter goodWord
theorem sm_bw {w : Cond} (n : Nat) (h : lw_tbl[n]? = some w) (hg : goodWord w = true) : w ∈ sm_BW := List.mem_filter.mpr ⟨List.mem_of_getElem? h, hg⟩
/-- what a class's field entry means -/
def sm_fok (own : String) (ix c : Nat) : Prop := ∃ (C : String) (T : u_T) (N : Nat), vwCl[c / 100]? = some (C, T, N) ∧ c % 100 < N ∧ (T (c % 100)).1 = C ∧ Cond.fieldLink own ix C (T (c % 100)).2.1 (T (c % 100)).2.2.1 ∈ sm_BW
/-- what is known of each class -/
def sm_cok : Prop := ∀ (ci : Nat) (C : String) (T : u_T) (N : Nat), vwCl[ci]? = some (C, T, N) → (∀ w ∈ u_ws C T N, w ∈ sm_BW) ∧ (∃ ty0 : Nat → FieldType, ∀ k, k < N → parseFieldDescriptor (T k).2.2.1 = some (ty0 k)) ∧ ∀ a, a < N → ∀ b, b < N → a ≠ b → (T a).2.1 ≠ (T b).2.1
/-- the layout agrees with the classes: a field that it calls an int is one, and not final -/
def sm_lok (lay : List ((Nat × List Nat) ⊕ (Nat × Nat))) : Prop := ∀ (p ci k : Nat) (ds : List Nat), lay[p]? = some (.inl (ci, ds)) → ds[k]? = some 1 → ∃ (C : String) (T : u_T) (N : Nat), vwCl[ci]? = some (C, T, N) ∧ (T k).2.2.1 = "I" ∧ (T k).2.2.2 = false
section SMS
variable {p : Program} {l : Launch} {e : Env} {R : Room} {s : State} {m : MethodId} {args : Array Value} {below : List Frame} {meth : Method} {c : Code} {Q : State → Prop}
variable {D : va_G} {ad : Nat → Nat} {cA : Nat → ClassId} {A : Nat → Prop} {H0 : Heap} {lay : List ((Nat × List Nat) ⊕ (Nat × Nat))} {nL cells slots : Nat}
/-- wherever the cells hold g and the locals ls, the method comes from pc, with st on its stack, to Q -/
def sm_J (p : Program) (l : Launch) (e : Env) (R : Room) (s : State) (m : MethodId) (args : Array Value) (below : List Frame) (meth : Method) (c : Code) (Q : State → Prop) (D : va_G) (ad : Nat → Nat) (cA : Nat → ClassId) (A : Nat → Prop) (H0 : Heap) (lay : List ((Nat × List Nat) ⊕ (Nat × Nat))) (nL cells slots : Nat) (pc : Nat) (ls : sm_Lo) (st : List Value) (g : sm_G) : Prop :=
  ∀ (a : Array Slot) (H : Heap) (locs : List Loc), sm_lv ad a nL ls → va_P D vwCl (sm_pic lay ad cA g) H → va_S A H0 H locs → W p l e R s m args below meth c H locs cells slots Q (F0 m pc a (st.map (sm_tr ad)))
/-- what is fixed while a method runs -/
def sm_ctx (p : Program) (s : State) (m : MethodId) (args : Array Value) (c : Code) (D : va_G) (ad : Nat → Nat) (cA : Nat → ClassId) (A : Nat → Prop) (H0 : Heap) (lay : List ((Nat × List Nat) ⊕ (Nat × Nat))) (own : String) (bc : ByteArray) (xs : Option (Nat × (Nat → Int32))) : Prop :=
  p.tables.exec = Jvm.exec ∧ c.code = bc ∧ s.vm.findClass own = some m.cls ∧ (∀ w ∈ sm_BW, w.before args s = true) ∧ va_K D vwCl (sm_tys cA) s ∧ (∀ g, va_D A (sm_pic lay ad cA g)) ∧
  ∀ q, xs = some q → va_X (ad 1000) q.1 q.2 s H0 ∧ ad 1000 < H0.size ∧ ¬ A (ad 1000)
/-- what a call means, by its entry -/
def sm_callok (p : Program) (l : Launch) (e : Env) (R : Room) (s : State) (m : MethodId) (args : Array Value) (below : List Frame) (meth : Method) (c : Code) (Q : State → Prop) (D : va_G) (ad : Nat → Nat) (cA : Nat → ClassId) (A : Nat → Prop) (H0 : Heap) (lay : List ((Nat × List Nat) ⊕ (Nat × Nat))) (nL cells slots : Nat) (bc : ByteArray) (raw : Instr) (n : Nat) (sp : sm_SP) : Prop :=
  ∀ (pc : Nat) (ls : sm_Lo) (as r : List Value) (g : sm_G) (K : Option Value → sm_G → Prop), decode bc pc = .ok (raw, 3) → as.length = n → r.length ≤ 4 → sp as g K →
    (∀ v g', K v g' → sm_J p l e R s m args below meth c Q D ad cA A H0 lay nL cells slots (pc + 3) ls (sm_psh v r) g') → sm_J p l e R s m args below meth c Q D ad cA A H0 lay nL cells slots pc ls (as.reverse ++ r) g
/-- what a return means -/
def sm_retok (p : Program) (l : Launch) (e : Env) (R : Room) (s : State) (m : MethodId) (args : Array Value) (below : List Frame) (meth : Method) (c : Code) (Q : State → Prop) (D : va_G) (ad : Nat → Nat) (cA : Nat → ClassId) (A : Nat → Prop) (H0 : Heap) (lay : List ((Nat × List Nat) ⊕ (Nat × Nat))) (cells slots : Nat) (bc : ByteArray) (rk : Nat) (K : Option Value → sm_G → Prop) : Prop :=
  ∀ (pc : Nat) (a : Array Slot) (H : Heap) (locs : List Loc) (g : sm_G), va_P D vwCl (sm_pic lay ad cA g) H → va_S A H0 H locs →
    (∀ x, decode bc pc = .ok (.ireturn, 1) → sm_zr rk x → K (some (.int x)) g → W p l e R s m args below meth c H locs cells slots Q (F0 m pc a [.int x])) ∧
    (∀ x, decode bc pc = .ok (.lreturn, 1) → rk = 2 → K (some (.long x)) g → W p l e R s m args below meth c H locs cells slots Q (F0 m pc a [.long x])) ∧
    (∀ x, decode bc pc = .ok (.areturn, 1) → rk = 3 → K (some (.ref x)) g → W p l e R s m args below meth c H locs cells slots Q (F0 m pc a [.ref (ad x)])) ∧
    (decode bc pc = .ok (.return_, 1) → rk = 4 → K none g → W p l e R s m args below meth c H locs cells slots Q (F0 m pc a []))
theorem sm_lv_st1 {ls : sm_Lo} {k : Nat} {v : Value} {a : Array Slot} (hl : (ls.length = nL ∧ sm_nd2 ls)) (hv : ∀ x, v ≠ .double x) (h : lv_has a nL ((k, sm_tr ad v) :: (sm_as ad 0 ls).filter (fun q => !(q.1 == k) && !(q.1 + 1 == k && q.2.category == 2)))) : sm_lv ad a nL (sm_st1 ls k v) :=
  ⟨⟨by rw [sm_st1_len]; exact hl.1, sm_st1_nd2 hl.2 hv⟩, lv_less h (sm_st1_sub hl.2)⟩
theorem sm_lv_st2 {ls : sm_Lo} {k : Nat} {v : Value} {a : Array Slot} (hl : (ls.length = nL ∧ sm_nd2 ls)) (hv : ∀ x, v ≠ .double x) (h : lv_has a nL ((k, sm_tr ad v) :: (sm_as ad 0 ls).filter (fun q => !(q.1 == k) && (!(q.1 == k + 1) && !(q.1 + 1 == k && q.2.category == 2))))) : sm_lv ad a nL (sm_st2 ls k v) :=
  ⟨⟨by rw [sm_st2_len]; exact hl.1, sm_st2_nd2 hl.2 hv⟩, lv_less h (sm_st2_sub hl.2)⟩
theorem sm_as_at {ls : sm_Lo} {k : Nat} {v : Value} (h : ls[k]? = some (some v)) : ∃ i : Nat, (sm_as ad 0 ls)[i]? = some (k, sm_tr ad v) := by
  have : (k, sm_tr ad v) ∈ sm_as ad 0 ls := (sm_as_mem ad ls 0 _).mpr ⟨k, v, h, by simp⟩
  exact List.getElem?_of_mem this
theorem sm_getf {own : String} {bc : ByteArray} {xs : Option (Nat × (Nat → Int32))} (C0 : sm_ctx p s m args c D ad cA A H0 lay own bc xs) (hc : sm_cok) {ix k pl pc : Nat} (hf : sm_fok own ix k) {g : sm_G} {H : Heap} {locs : List Loc} {a : Array Slot} {r : List Value} (hP : va_P D vwCl (sm_pic lay ad cA g) H) {f : Value → Prop} (h : sm_fg (sm_fd lay pl k) (rS g pl k) f)
    (hdec : decode bc pc = .ok (.getfield ix, 3)) (kk : ∀ v, f v → W p l e R s m args below meth c H locs cells slots Q (F0 m (pc + 3) a ((v :: r).map (sm_tr ad)))) : W p l e R s m args below meth c H locs cells slots Q (F0 m pc a ((.ref pl :: r).map (sm_tr ad))) := by
  obtain ⟨hx, hb, hown, hts, hK, hD, hX⟩ := C0
  obtain ⟨C, T, N, h1, h2, h3, h4⟩ := hf
  obtain ⟨hin, -, -⟩ := hc _ C T N h1
  have hne : sm_fd lay pl k ≠ 0 := by
    rcases sm_fg_spec h with ⟨h, -⟩ | ⟨q, h, -⟩ <;> omega
  obtain ⟨ci, ds, hl, hci, hd⟩ := sm_fd_spec rfl hne
  subst hci
  have hk : k / 100 * 100 + k % 100 = k := by omega
  have hv : (sm_fs ad g pl (k / 100) ds)[k % 100]? = some (sm_fv ad g pl k (sm_fd lay pl k)) := by
    rw [sm_fs_at hd, hk]
  refine va_get hx hb hts hin hown hK hP pl (sm_pic_at hl) h1 (k % 100) h2 (hts _ h4) (fun x hx => by rw [← h3]; exact hx) hv hdec ?_
  rcases sm_fg_spec h with ⟨h1, h2⟩ | ⟨q, h1, h2⟩
  · have := kk _ h2
    rw [sm_fv, if_pos h1]; exact this
  · have := kk _ h2
    rw [sm_fv, if_neg (by omega), h1]; exact this
theorem sm_putf {own : String} {bc : ByteArray} {xs : Option (Nat × (Nat → Int32))} (C0 : sm_ctx p s m args c D ad cA A H0 lay own bc xs) (hc : sm_cok) (hlo : sm_lok lay) {ix k pl pc : Nat} (hf : sm_fok own ix k) {g : sm_G} {H : Heap} {locs : List Loc} {a : Array Slot} {r : List Value} {x : Int32} (hP : va_P D vwCl (sm_pic lay ad cA g) H) (hS : va_S A H0 H locs) (h : sm_fd lay pl k = 1)
    (hdec : decode bc pc = .ok (.putfield ix, 3)) (kk : ∀ H locs, va_P D vwCl (sm_pic lay ad cA (gS g pl k x)) H → va_S A H0 H locs → W p l e R s m args below meth c H locs cells slots Q (F0 m (pc + 3) a (r.map (sm_tr ad)))) : W p l e R s m args below meth c H locs cells slots Q (F0 m pc a ((.int x :: .ref pl :: r).map (sm_tr ad))) := by
  obtain ⟨hx, hb, hown, hts, hK, hD, hX⟩ := C0
  obtain ⟨C, T, N, h1, h2, h3, h4⟩ := hf
  obtain ⟨hin, ⟨ty0, hty⟩, hnm⟩ := hc _ C T N h1
  obtain ⟨ci, ds, hl, hci, hd⟩ := sm_fd_spec h (by decide)
  subst hci
  obtain ⟨C', T', N', e1, e2, e3⟩ := hlo _ _ _ _ hl hd
  rw [h1] at e1; cases e1
  have hk : k / 100 * 100 + k % 100 = k := by omega
  have hlen : k % 100 < (sm_fs ad g pl (k / 100) ds).length := by
    simpa [sm_fs] using (List.getElem?_eq_some_iff.mp hd).1
  refine va_put (v := .int x) (ty := .int) hx hb hts hin ty0 hty hnm hown hK hP (hD g) hS pl (sm_pic_at hl) h1 (k % 100) h2 (hts _ h4) (fun x hx => by rw [← h3]; exact hx) e3 (by rw [e2]; rfl) rfl rfl hlen hdec (fun H1 locs1 hP1 _ hS1 => ?_)
  have he := sm_pic_set (lay := lay) (ad := ad) (cA := cA) (g := g) (p := pl) (sm_e_gS (cA := cA) (v := x) hl hd)
  rw [hk] at he
  rw [he] at hP1
  exact kk H1 locs1 hP1 hS1
end SMS
end
section
/-! ONE STEP, instruction by instruction (written by program). -/
theorem sm_tsw_spec {f : Nat → Prop} : ∀ {os : List Int} {lo x : Int}, sm_tsw os lo x f → ∀ (j : Nat), x = lo + j → ∀ o, os[j]? = some o → f o.toNat := by
  intro os
  induction os with
  | nil => intro lo x _ j _ o h; cases h
  | cons a os ih =>
    intro lo x h j hj o ho
    cases j with
    | zero => simp at ho; subst ho; exact h.1 (by simpa using hj)
    | succ j => exact ih h.2 j (by omega) o (by simpa using ho)
theorem sm_lsw_spec {pc : Nat} {f : Nat → Prop} : ∀ (ps : List (Int × Int)) (d x : Int), sm_lsw (ps.map (fun o => (o.1, (pc : Int) + o.2))) (pc + d) x f → 0 ≤ (pc : Int) + d → (∀ a o, (a, o) ∈ ps → 0 ≤ (pc : Int) + o) → f ((pc : Int) + Op.lookupswitch.offset ps d x).toNat ∧ (pc : Int) + Op.lookupswitch.offset ps d x = (((pc : Int) + Op.lookupswitch.offset ps d x).toNat : Int) := by
  intro ps
  induction ps with
  | nil => intro d x h hd _; exact ⟨h, (Int.toNat_of_nonneg hd).symm⟩
  | cons q ps ih =>
    intro d x h hd hp
    obtain ⟨a, o⟩ := q
    have h1 := hp a o List.mem_cons_self
    by_cases hx : x = a
    · have e : Op.lookupswitch.offset ((a, o) :: ps) d x = o := by simp [Op.lookupswitch.offset, hx]
      rw [e]; exact ⟨h.1 hx, (Int.toNat_of_nonneg h1).symm⟩
    · have e : Op.lookupswitch.offset ((a, o) :: ps) d x = Op.lookupswitch.offset ps d x := by
        simp [Op.lookupswitch.offset, hx]
        intro h; exact absurd h.symm hx
      rw [e]; exact ih d x (h.2 hx) hd (fun a o h => hp a o (List.mem_cons_of_mem _ h))
theorem sm_zr_1 {x : Int32} (h : sm_zr 1 x) : x = nI 0 ∨ x = nI 1 := by
  rcases h with h | h
  · cases h
  · exact h.2
section SMM
variable {p : Program} {l : Launch} {e : Env} {R : Room} {s : State} {m : MethodId} {args : Array Value} {below : List Frame} {meth : Method} {c : Code} {Q : State → Prop}
variable {D : va_G} {ad : Nat → Nat} {cA : Nat → ClassId} {A : Nat → Prop} {H0 : Heap} {lay : List ((Nat × List Nat) ⊕ (Nat × Nat))} {nL cells slots : Nat}
set_option maxHeartbeats 4000000 in
theorem sm_step {own : String} {bc : ByteArray} {xs : Option (Nat × (Nat → Int32))} {fl : List (Nat × Nat)} {cl : List (Nat × Nat × Nat)} {ll : List (Nat × Int)} {il : List (Nat × Nat)} {cs : Nat → sm_SP} {rk : Nat} {K : Option Value → sm_G → Prop}
    (C0 : sm_ctx p s m args c D ad cA A H0 lay own bc xs) (hcok : sm_cok) (hlok : sm_lok lay) (hKa : ∀ (pl ty n : Nat), lay[pl]? = some (.inr (ty, n)) → ty = 1 ∨ ty = 2 ∨ ty = 3)
    (hfl : ∀ ix v, fl.lookup ix = some v → sm_fok own ix v) (hil : ∀ ix v, il.lookup ix = some v → Cond.constant own ix (nI v) ∈ sm_BW) (hll : ∀ ix v, ll.lookup ix = some v → Cond.constantLong own ix (if 0 ≤ v then lN v.toNat else Int64.ofInt v) ∈ sm_BW)
    (hcl : ∀ ix mid n, cl.lookup ix = some (mid, n) → ix < 100000 → sm_callok p l e R s m args below meth c Q D ad cA A H0 lay nL cells slots bc (.invokevirtual ix) n (cs mid)) (hcs : ∀ ix mid n, cl.lookup (ix + 100000) = some (mid, n) → sm_callok p l e R s m args below meth c Q D ad cA A H0 lay nL cells slots bc (.invokestatic ix) n (cs mid)) (hret : sm_retok p l e R s m args below meth c Q D ad cA A H0 lay cells slots bc rk K)
    {pc n : Nat} {raw i : Instr} (hdec : decode bc pc = .ok (raw, n)) (hnm : sm_nm fl cl ll il nL pc raw n = some i) {ls : sm_Lo} {st : List Value} {g : sm_G} {k : Nat → sm_Lo → List Value → sm_G → Prop} (h : sm_stp lay cs xs rk K i (pc + n) ls st g k)
    (hk : ∀ pc ls st g, k pc ls st g → sm_J p l e R s m args below meth c Q D ad cA A H0 lay nL cells slots pc ls st g) : sm_J p l e R s m args below meth c Q D ad cA A H0 lay nL cells slots pc ls st g := by
  intro a H locs hl hP hS
  obtain ⟨hx, hb, hown, hts, hK, hD, hX⟩ := id C0
  cases raw with
  | iload_n j =>
    obtain ⟨hb1, rfl⟩ := sm_ck_spec hnm
    obtain rfl : n = 1 := by simpa using hb1
    obtain ⟨x, hx1, h⟩ := sm_ldi_spec h
    exact lv_iload_n hx hb hdec rfl (sm_lv_at hl hx1) (hk _ _ _ _ h a H locs hl hP hS)
  | lload_n j =>
    obtain ⟨hb1, rfl⟩ := sm_ck_spec hnm
    obtain rfl : n = 1 := by simpa using hb1
    obtain ⟨x, hx1, h⟩ := sm_ldl_spec h
    exact lv_lload_n hx hb hdec rfl (sm_lv_at hl hx1) (hk _ _ _ _ h a H locs hl hP hS)
  | aload_n j =>
    obtain ⟨hb1, rfl⟩ := sm_ck_spec hnm
    obtain rfl : n = 1 := by simpa using hb1
    obtain ⟨x, hx1, h⟩ := sm_ldr_spec h
    exact lv_aload_n hx hb hdec rfl (sm_lv_at hl hx1) (hk _ _ _ _ h a H locs hl hP hS)
  | iload j =>
    obtain ⟨hb1, rfl⟩ := sm_ck_spec hnm
    obtain rfl : n = 2 := by simpa using hb1
    obtain ⟨x, hx1, h⟩ := sm_ldi_spec h
    exact lv_iload hx hb hdec (sm_lv_at hl hx1) (hk _ _ _ _ h a H locs hl hP hS)
  | lload j =>
    obtain ⟨hb1, rfl⟩ := sm_ck_spec hnm
    obtain rfl : n = 2 := by simpa using hb1
    obtain ⟨x, hx1, h⟩ := sm_ldl_spec h
    exact lv_lload hx hb hdec (sm_lv_at hl hx1) (hk _ _ _ _ h a H locs hl hP hS)
  | aload j =>
    obtain ⟨hb1, rfl⟩ := sm_ck_spec hnm
    obtain rfl : n = 2 := by simpa using hb1
    obtain ⟨x, hx1, h⟩ := sm_ldr_spec h
    exact lv_aload hx hb hdec (sm_lv_at hl hx1) (hk _ _ _ _ h a H locs hl hP hS)
  | istore_n j =>
    obtain ⟨hb1, rfl⟩ := sm_ck_spec hnm
    simp only [Bool.and_eq_true, beq_iff_eq, decide_eq_true_eq] at hb1
    obtain ⟨rfl, hb2⟩ := hb1
    obtain ⟨x, r, rfl, h⟩ := sm_i1_spec h
    exact lv_istore_n (lv := sm_as ad 0 ls) hx hb hdec rfl hl.2 hb2 rfl (fun ls' hl' => hk _ _ _ _ h ls' H locs (sm_lv_st1 hl.1 (fun _ h => by cases h) hl') hP hS)
  | lstore_n j =>
    obtain ⟨hb1, rfl⟩ := sm_ck_spec hnm
    simp only [Bool.and_eq_true, beq_iff_eq, decide_eq_true_eq] at hb1
    obtain ⟨rfl, hb2⟩ := hb1
    obtain ⟨x, r, rfl, h⟩ := sm_l1_spec h
    exact lv_lstore_n (lv := sm_as ad 0 ls) hx hb hdec rfl hl.2 hb2 rfl (fun ls' hl' => hk _ _ _ _ h ls' H locs (sm_lv_st2 hl.1 (fun _ h => by cases h) hl') hP hS)
  | astore_n j =>
    obtain ⟨hb1, rfl⟩ := sm_ck_spec hnm
    simp only [Bool.and_eq_true, beq_iff_eq, decide_eq_true_eq] at hb1
    obtain ⟨rfl, hb2⟩ := hb1
    obtain ⟨x, r, rfl, h⟩ := sm_r1_spec h
    exact lv_astore_n (lv := sm_as ad 0 ls) hx hb hdec rfl hl.2 hb2 rfl (fun ls' hl' => hk _ _ _ _ h ls' H locs (sm_lv_st1 hl.1 (fun _ h => by cases h) hl') hP hS)
  | istore j =>
    obtain ⟨hb1, rfl⟩ := sm_ck_spec hnm
    simp only [Bool.and_eq_true, beq_iff_eq, decide_eq_true_eq] at hb1
    obtain ⟨rfl, hb2⟩ := hb1
    obtain ⟨x, r, rfl, h⟩ := sm_i1_spec h
    exact lv_istore (lv := sm_as ad 0 ls) hx hb hdec hl.2 hb2 rfl (fun ls' hl' => hk _ _ _ _ h ls' H locs (sm_lv_st1 hl.1 (fun _ h => by cases h) hl') hP hS)
  | lstore j =>
    obtain ⟨hb1, rfl⟩ := sm_ck_spec hnm
    simp only [Bool.and_eq_true, beq_iff_eq, decide_eq_true_eq] at hb1
    obtain ⟨rfl, hb2⟩ := hb1
    obtain ⟨x, r, rfl, h⟩ := sm_l1_spec h
    exact lv_lstore (lv := sm_as ad 0 ls) hx hb hdec hl.2 hb2 rfl (fun ls' hl' => hk _ _ _ _ h ls' H locs (sm_lv_st2 hl.1 (fun _ h => by cases h) hl') hP hS)
  | astore j =>
    obtain ⟨hb1, rfl⟩ := sm_ck_spec hnm
    simp only [Bool.and_eq_true, beq_iff_eq, decide_eq_true_eq] at hb1
    obtain ⟨rfl, hb2⟩ := hb1
    obtain ⟨x, r, rfl, h⟩ := sm_r1_spec h
    exact lv_astore (lv := sm_as ad 0 ls) hx hb hdec hl.2 hb2 rfl (fun ls' hl' => hk _ _ _ _ h ls' H locs (sm_lv_st1 hl.1 (fun _ h => by cases h) hl') hP hS)
  | iconst v =>
    simp only [sm_nm, sm_cst] at hnm
    split at hnm
    · rename_i hb1
      simp only [Bool.and_eq_true, beq_iff_eq, decide_eq_true_eq] at hb1
      obtain ⟨⟨rfl, hb2⟩, hb3⟩ := hb1
      split at hnm
      · rename_i h0
        obtain rfl := Option.some.inj hnm
        have h' := hk _ _ _ _ h a H locs hl hP hS
        exact lv_iconst hx hb hdec (sm_nI_ofInt h0) h'
      · rename_i h0
        obtain rfl := Option.some.inj hnm
        have h' := hk _ _ _ _ h a H locs hl hP hS
        exact lv_iconst hx hb hdec (sm_sI_ofInt h0) h'
    · cases hnm
  | bipush v =>
    simp only [sm_nm, sm_cst] at hnm
    split at hnm
    · rename_i hb1
      simp only [Bool.and_eq_true, beq_iff_eq, decide_eq_true_eq] at hb1
      obtain ⟨⟨rfl, hb2⟩, hb3⟩ := hb1
      split at hnm
      · rename_i h0
        obtain rfl := Option.some.inj hnm
        have h' := hk _ _ _ _ h a H locs hl hP hS
        exact lv_bipush hx hb hdec ((sm_i8 hb2 hb3).trans (sm_nI_ofInt h0)) h'
      · rename_i h0
        obtain rfl := Option.some.inj hnm
        have h' := hk _ _ _ _ h a H locs hl hP hS
        exact lv_bipush hx hb hdec ((sm_i8 hb2 hb3).trans (sm_sI_ofInt h0)) h'
    · cases hnm
  | sipush v =>
    simp only [sm_nm, sm_cst] at hnm
    split at hnm
    · rename_i hb1
      simp only [Bool.and_eq_true, beq_iff_eq, decide_eq_true_eq] at hb1
      obtain ⟨⟨rfl, hb2⟩, hb3⟩ := hb1
      split at hnm
      · rename_i h0
        obtain rfl := Option.some.inj hnm
        have h' := hk _ _ _ _ h a H locs hl hP hS
        exact lv_sipush hx hb hdec ((sm_i16 hb2 hb3).trans (sm_nI_ofInt h0)) h'
      · rename_i h0
        obtain rfl := Option.some.inj hnm
        have h' := hk _ _ _ _ h a H locs hl hP hS
        exact lv_sipush hx hb hdec ((sm_i16 hb2 hb3).trans (sm_sI_ofInt h0)) h'
    · cases hnm
  | ldc_w ix =>
    simp only [sm_nm] at hnm
    split at hnm
    · rename_i h3; subst h3
      obtain ⟨v, hv, rfl⟩ := Option.map_eq_some_iff.mp hnm
      exact lv_ldcw hx hb hown (hts _ (hil ix v hv)) hdec (hk _ _ _ _ h a H locs hl hP hS)
    · cases hnm
  | ldc2_w ix =>
    simp only [sm_nm] at hnm
    split at hnm
    · rename_i h3; subst h3
      obtain ⟨v, hv, rfl⟩ := Option.map_eq_some_iff.mp hnm
      have hw := hts _ (hll ix v hv)
      split at h
      · rename_i h0
        rw [if_pos h0] at hw
        exact lv_ldc2 hx hb hown hw hdec (hk _ _ _ _ h a H locs hl hP hS)
      · rename_i h0
        rw [if_neg h0] at hw
        exact lv_ldc2 hx hb hown hw hdec (hk _ _ _ _ h a H locs hl hP hS)
    · cases hnm
  | lconst j =>
    obtain ⟨hb1, rfl⟩ := sm_ck_spec hnm
    obtain rfl : n = 1 := by simpa using hb1
    exact lv_lconst hx hb hdec rfl (hk _ _ _ _ h a H locs hl hP hS)
  | iinc j d =>
    simp only [sm_nm] at hnm
    split at hnm
    · rename_i hb1
      simp only [Bool.and_eq_true, beq_iff_eq, decide_eq_true_eq] at hb1
      obtain ⟨⟨⟨rfl, hb2⟩, hb3⟩, hb4⟩ := hb1
      split at hnm
      · rename_i h0
        obtain rfl := Option.some.inj hnm
        obtain ⟨x, hx1, h⟩ := sm_ldi_spec h
        obtain ⟨i, hi⟩ := sm_as_at (ad := ad) hx1
        exact lv_iinc (lv := sm_as ad 0 ls) hx hb hdec hl.2 hi (by rw [sm_nI_ofInt h0]) hb2 rfl (fun ls' hl' => hk _ _ _ _ h ls' H locs (sm_lv_st1 hl.1 (fun _ h => by cases h) hl') hP hS)
      · obtain rfl := Option.some.inj hnm
        obtain ⟨x, hx1, h⟩ := sm_ldi_spec h
        obtain ⟨i, hi⟩ := sm_as_at (ad := ad) hx1
        exact lv_iinc (lv := sm_as ad 0 ls) hx hb hdec hl.2 hi rfl hb2 rfl (fun ls' hl' => hk _ _ _ _ h ls' H locs (sm_lv_st1 hl.1 (fun _ h => by cases h) hl') hP hS)
    · cases hnm
  | iadd =>
    obtain ⟨hb1, rfl⟩ := sm_ck_spec hnm
    obtain rfl : n = 1 := by simpa using hb1
    obtain ⟨x, y, r, rfl, h⟩ := sm_i2_spec h
    exact lv_iadd hx hb hdec (hk _ _ _ _ h a H locs hl hP hS)
  | isub =>
    obtain ⟨hb1, rfl⟩ := sm_ck_spec hnm
    obtain rfl : n = 1 := by simpa using hb1
    obtain ⟨x, y, r, rfl, h⟩ := sm_i2_spec h
    exact lv_isub hx hb hdec (hk _ _ _ _ h a H locs hl hP hS)
  | imul =>
    obtain ⟨hb1, rfl⟩ := sm_ck_spec hnm
    obtain rfl : n = 1 := by simpa using hb1
    obtain ⟨x, y, r, rfl, h⟩ := sm_i2_spec h
    exact lv_imul hx hb hdec (hk _ _ _ _ h a H locs hl hP hS)
  | iand =>
    obtain ⟨hb1, rfl⟩ := sm_ck_spec hnm
    obtain rfl : n = 1 := by simpa using hb1
    obtain ⟨x, y, r, rfl, h⟩ := sm_i2_spec h
    exact lv_iand hx hb hdec (hk _ _ _ _ h a H locs hl hP hS)
  | ior =>
    obtain ⟨hb1, rfl⟩ := sm_ck_spec hnm
    obtain rfl : n = 1 := by simpa using hb1
    obtain ⟨x, y, r, rfl, h⟩ := sm_i2_spec h
    exact lv_ior hx hb hdec (hk _ _ _ _ h a H locs hl hP hS)
  | ixor =>
    obtain ⟨hb1, rfl⟩ := sm_ck_spec hnm
    obtain rfl : n = 1 := by simpa using hb1
    obtain ⟨x, y, r, rfl, h⟩ := sm_i2_spec h
    exact lv_ixor hx hb hdec (hk _ _ _ _ h a H locs hl hP hS)
  | ishl =>
    obtain ⟨hb1, rfl⟩ := sm_ck_spec hnm
    obtain rfl : n = 1 := by simpa using hb1
    obtain ⟨x, y, r, rfl, h⟩ := sm_i2_spec h
    exact lv_ishl hx hb hdec (hk _ _ _ _ h a H locs hl hP hS)
  | ishr =>
    obtain ⟨hb1, rfl⟩ := sm_ck_spec hnm
    obtain rfl : n = 1 := by simpa using hb1
    obtain ⟨x, y, r, rfl, h⟩ := sm_i2_spec h
    exact lv_ishr hx hb hdec (hk _ _ _ _ h a H locs hl hP hS)
  | iushr =>
    obtain ⟨hb1, rfl⟩ := sm_ck_spec hnm
    obtain rfl : n = 1 := by simpa using hb1
    obtain ⟨x, y, r, rfl, h⟩ := sm_i2_spec h
    exact lv_iushr hx hb hdec rfl (hk _ _ _ _ h a H locs hl hP hS)
  | idiv =>
    obtain ⟨hb1, rfl⟩ := sm_ck_spec hnm
    obtain rfl : n = 1 := by simpa using hb1
    obtain ⟨x, y, r, rfl, hne, h⟩ := sm_i2_spec h
    exact lv_idiv hx hb hdec hne (hk _ _ _ _ h a H locs hl hP hS)
  | irem =>
    obtain ⟨hb1, rfl⟩ := sm_ck_spec hnm
    obtain rfl : n = 1 := by simpa using hb1
    obtain ⟨x, y, r, rfl, hne, h⟩ := sm_i2_spec h
    exact lv_irem hx hb hdec hne (hk _ _ _ _ h a H locs hl hP hS)
  | ladd =>
    obtain ⟨hb1, rfl⟩ := sm_ck_spec hnm
    obtain rfl : n = 1 := by simpa using hb1
    obtain ⟨x, y, r, rfl, h⟩ := sm_l2_spec h
    exact lv_ladd hx hb hdec (hk _ _ _ _ h a H locs hl hP hS)
  | lsub =>
    obtain ⟨hb1, rfl⟩ := sm_ck_spec hnm
    obtain rfl : n = 1 := by simpa using hb1
    obtain ⟨x, y, r, rfl, h⟩ := sm_l2_spec h
    exact lv_lsub hx hb hdec (hk _ _ _ _ h a H locs hl hP hS)
  | lmul =>
    obtain ⟨hb1, rfl⟩ := sm_ck_spec hnm
    obtain rfl : n = 1 := by simpa using hb1
    obtain ⟨x, y, r, rfl, h⟩ := sm_l2_spec h
    exact lv_lmul hx hb hdec (hk _ _ _ _ h a H locs hl hP hS)
  | land =>
    obtain ⟨hb1, rfl⟩ := sm_ck_spec hnm
    obtain rfl : n = 1 := by simpa using hb1
    obtain ⟨x, y, r, rfl, h⟩ := sm_l2_spec h
    exact lv_land hx hb hdec (hk _ _ _ _ h a H locs hl hP hS)
  | lor =>
    obtain ⟨hb1, rfl⟩ := sm_ck_spec hnm
    obtain rfl : n = 1 := by simpa using hb1
    obtain ⟨x, y, r, rfl, h⟩ := sm_l2_spec h
    exact lv_lor hx hb hdec (hk _ _ _ _ h a H locs hl hP hS)
  | lxor =>
    obtain ⟨hb1, rfl⟩ := sm_ck_spec hnm
    obtain rfl : n = 1 := by simpa using hb1
    obtain ⟨x, y, r, rfl, h⟩ := sm_l2_spec h
    exact lv_lxor hx hb hdec (hk _ _ _ _ h a H locs hl hP hS)
  | ldiv =>
    obtain ⟨hb1, rfl⟩ := sm_ck_spec hnm
    obtain rfl : n = 1 := by simpa using hb1
    obtain ⟨x, y, r, rfl, hne, h⟩ := sm_l2_spec h
    exact lv_ldiv hx hb hdec hne (hk _ _ _ _ h a H locs hl hP hS)
  | lneg =>
    obtain ⟨hb1, rfl⟩ := sm_ck_spec hnm
    obtain rfl : n = 1 := by simpa using hb1
    obtain ⟨x, r, rfl, h⟩ := sm_l1_spec h
    exact lv_lneg hx hb hdec (hk _ _ _ _ h a H locs hl hP hS)
  | lshl =>
    obtain ⟨hb1, rfl⟩ := sm_ck_spec hnm
    obtain rfl : n = 1 := by simpa using hb1
    obtain ⟨x, y, r, rfl, h⟩ := sm_li_spec h
    exact lv_lshl hx hb hdec rfl (hk _ _ _ _ h a H locs hl hP hS)
  | lshr =>
    obtain ⟨hb1, rfl⟩ := sm_ck_spec hnm
    obtain rfl : n = 1 := by simpa using hb1
    obtain ⟨x, y, r, rfl, h⟩ := sm_li_spec h
    exact lv_lshr hx hb hdec rfl (hk _ _ _ _ h a H locs hl hP hS)
  | lushr =>
    obtain ⟨hb1, rfl⟩ := sm_ck_spec hnm
    obtain rfl : n = 1 := by simpa using hb1
    obtain ⟨x, y, r, rfl, h⟩ := sm_li_spec h
    exact lv_lushr hx hb hdec rfl (hk _ _ _ _ h a H locs hl hP hS)
  | lcmp =>
    obtain ⟨hb1, rfl⟩ := sm_ck_spec hnm
    obtain rfl : n = 1 := by simpa using hb1
    obtain ⟨x, y, r, rfl, h⟩ := sm_l2_spec h
    exact W.lcmp hx hb hdec (hk _ _ _ _ h a H locs hl hP hS)
  | i2l =>
    obtain ⟨hb1, rfl⟩ := sm_ck_spec hnm
    obtain rfl : n = 1 := by simpa using hb1
    obtain ⟨x, r, rfl, h⟩ := sm_i1_spec h
    exact lv_i2l hx hb hdec rfl (hk _ _ _ _ h a H locs hl hP hS)
  | l2i =>
    obtain ⟨hb1, rfl⟩ := sm_ck_spec hnm
    obtain rfl : n = 1 := by simpa using hb1
    obtain ⟨x, r, rfl, h⟩ := sm_l1_spec h
    exact lv_l2i hx hb hdec rfl (hk _ _ _ _ h a H locs hl hP hS)
  | dup =>
    obtain ⟨hb1, rfl⟩ := sm_ck_spec hnm
    obtain rfl : n = 1 := by simpa using hb1
    match st, h with
    | v :: r, h => exact lv_dup hx hb hdec (by rw [sm_tr_cat]; exact h.1) (hk _ _ _ _ h.2 a H locs hl hP hS)
  | dup2 =>
    obtain ⟨hb1, rfl⟩ := sm_ck_spec hnm
    obtain rfl : n = 1 := by simpa using hb1
    match st, h with
    | .long x :: r, h => exact lv_dup2_2 hx hb hdec rfl (hk _ _ _ _ h a H locs hl hP hS)
    | .int x :: w :: r, h => exact lv_dup2_11 hx hb hdec (by rw [sm_tr_cat]; exact h.1) (by rw [sm_tr_cat]; exact h.2.1) (hk _ _ _ _ h.2.2 a H locs hl hP hS)
    | .ref x :: w :: r, h => exact lv_dup2_11 hx hb hdec (by rw [sm_tr_cat]; exact h.1) (by rw [sm_tr_cat]; exact h.2.1) (hk _ _ _ _ h.2.2 a H locs hl hP hS)
    | .float x :: w :: r, h => exact lv_dup2_11 hx hb hdec (by rw [sm_tr_cat]; exact h.1) (by rw [sm_tr_cat]; exact h.2.1) (hk _ _ _ _ h.2.2 a H locs hl hP hS)
    | .null :: w :: r, h => exact lv_dup2_11 hx hb hdec (by rw [sm_tr_cat]; exact h.1) (by rw [sm_tr_cat]; exact h.2.1) (hk _ _ _ _ h.2.2 a H locs hl hP hS)
    | .double x :: w :: r, h => exact absurd h.1 (by simp [Value.category])
    | .retAddr x :: w :: r, h => exact lv_dup2_11 hx hb hdec (by rw [sm_tr_cat]; exact h.1) (by rw [sm_tr_cat]; exact h.2.1) (hk _ _ _ _ h.2.2 a H locs hl hP hS)
  | goto o =>
    obtain ⟨hb1, rfl⟩ := sm_ck_spec hnm
    simp only [Bool.and_eq_true, beq_iff_eq, decide_eq_true_eq] at hb1
    obtain ⟨rfl, hb2⟩ := hb1
    have ht := (Int.toNat_of_nonneg hb2).symm
    exact lv_goto hx hb hdec ht (hk _ _ _ _ h a H locs hl hP hS)
  | ifCond cd o =>
    obtain ⟨hb1, rfl⟩ := sm_ck_spec hnm
    simp only [Bool.and_eq_true, beq_iff_eq, decide_eq_true_eq] at hb1
    obtain ⟨rfl, hb2⟩ := hb1
    have ht := (Int.toNat_of_nonneg hb2).symm
    cases cd with
    | eq =>
      obtain ⟨x, r, rfl, h⟩ := sm_i1_spec h
      exact lv_if_eq hx hb hdec ht (fun hc => hk _ _ _ _ (h.1 hc) a H locs hl hP hS) (fun hc => hk _ _ _ _ (h.2 hc) a H locs hl hP hS)
    | ne =>
      obtain ⟨x, r, rfl, h⟩ := sm_i1_spec h
      exact lv_if_ne hx hb hdec ht (fun hc => hk _ _ _ _ (h.2 hc) a H locs hl hP hS) (fun hc => hk _ _ _ _ (h.1 hc) a H locs hl hP hS)
    | lt =>
      obtain ⟨x, r, rfl, h⟩ := sm_i1_spec h
      exact lv_if_lt hx hb hdec ht (fun hc => hk _ _ _ _ (h.1 (by have := hc; simp only [Int32.lt_iff_toInt_lt, Int32.le_iff_toInt_le, Int32.toInt_zero] at this; omega)) a H locs hl hP hS) (fun hc => hk _ _ _ _ (h.2 (by have := hc; simp only [Int32.lt_iff_toInt_lt, Int32.le_iff_toInt_le, Int32.toInt_zero] at this; omega)) a H locs hl hP hS)
    | ge =>
      obtain ⟨x, r, rfl, h⟩ := sm_i1_spec h
      exact lv_if_ge hx hb hdec ht (fun hc => hk _ _ _ _ (h.2 (by have := hc; simp only [Int32.lt_iff_toInt_lt, Int32.le_iff_toInt_le, Int32.toInt_zero] at this; omega)) a H locs hl hP hS) (fun hc => hk _ _ _ _ (h.1 (by have := hc; simp only [Int32.lt_iff_toInt_lt, Int32.le_iff_toInt_le, Int32.toInt_zero] at this; omega)) a H locs hl hP hS)
    | gt =>
      obtain ⟨x, r, rfl, h⟩ := sm_i1_spec h
      exact lv_if_gt hx hb hdec ht (fun hc => hk _ _ _ _ (h.1 (by have := hc; simp only [Int32.lt_iff_toInt_lt, Int32.le_iff_toInt_le, Int32.toInt_zero] at this; omega)) a H locs hl hP hS) (fun hc => hk _ _ _ _ (h.2 (by have := hc; simp only [Int32.lt_iff_toInt_lt, Int32.le_iff_toInt_le, Int32.toInt_zero] at this; omega)) a H locs hl hP hS)
    | le =>
      obtain ⟨x, r, rfl, h⟩ := sm_i1_spec h
      exact lv_if_le hx hb hdec ht (fun hc => hk _ _ _ _ (h.2 (by have := hc; simp only [Int32.lt_iff_toInt_lt, Int32.le_iff_toInt_le, Int32.toInt_zero] at this; omega)) a H locs hl hP hS) (fun hc => hk _ _ _ _ (h.1 (by have := hc; simp only [Int32.lt_iff_toInt_lt, Int32.le_iff_toInt_le, Int32.toInt_zero] at this; omega)) a H locs hl hP hS)
  | if_icmp cd o =>
    obtain ⟨hb1, rfl⟩ := sm_ck_spec hnm
    simp only [Bool.and_eq_true, beq_iff_eq, decide_eq_true_eq] at hb1
    obtain ⟨rfl, hb2⟩ := hb1
    have ht := (Int.toNat_of_nonneg hb2).symm
    cases cd with
    | eq =>
      obtain ⟨x, y, r, rfl, h⟩ := sm_i2_spec h
      exact lv_icmp_eq hx hb hdec ht (fun hc => hk _ _ _ _ (h.1 hc) a H locs hl hP hS) (fun hc => hk _ _ _ _ (h.2 hc) a H locs hl hP hS)
    | ne =>
      obtain ⟨x, y, r, rfl, h⟩ := sm_i2_spec h
      exact lv_icmp_ne hx hb hdec ht (fun hc => hk _ _ _ _ (h.2 hc) a H locs hl hP hS) (fun hc => hk _ _ _ _ (h.1 hc) a H locs hl hP hS)
    | lt =>
      obtain ⟨x, y, r, rfl, h⟩ := sm_i2_spec h
      exact lv_icmp_lt hx hb hdec ht (fun hc => hk _ _ _ _ (h.1 (by have := hc; simp only [Int32.lt_iff_toInt_lt, Int32.le_iff_toInt_le, Int32.toInt_zero] at this; omega)) a H locs hl hP hS) (fun hc => hk _ _ _ _ (h.2 (by have := hc; simp only [Int32.lt_iff_toInt_lt, Int32.le_iff_toInt_le, Int32.toInt_zero] at this; omega)) a H locs hl hP hS)
    | ge =>
      obtain ⟨x, y, r, rfl, h⟩ := sm_i2_spec h
      exact lv_icmp_ge hx hb hdec ht (fun hc => hk _ _ _ _ (h.2 (by have := hc; simp only [Int32.lt_iff_toInt_lt, Int32.le_iff_toInt_le, Int32.toInt_zero] at this; omega)) a H locs hl hP hS) (fun hc => hk _ _ _ _ (h.1 (by have := hc; simp only [Int32.lt_iff_toInt_lt, Int32.le_iff_toInt_le, Int32.toInt_zero] at this; omega)) a H locs hl hP hS)
    | gt =>
      obtain ⟨x, y, r, rfl, h⟩ := sm_i2_spec h
      exact lv_icmp_gt hx hb hdec ht (fun hc => hk _ _ _ _ (h.1 (by have := hc; simp only [Int32.lt_iff_toInt_lt, Int32.le_iff_toInt_le, Int32.toInt_zero] at this; omega)) a H locs hl hP hS) (fun hc => hk _ _ _ _ (h.2 (by have := hc; simp only [Int32.lt_iff_toInt_lt, Int32.le_iff_toInt_le, Int32.toInt_zero] at this; omega)) a H locs hl hP hS)
    | le =>
      obtain ⟨x, y, r, rfl, h⟩ := sm_i2_spec h
      exact lv_icmp_le hx hb hdec ht (fun hc => hk _ _ _ _ (h.2 (by have := hc; simp only [Int32.lt_iff_toInt_lt, Int32.le_iff_toInt_le, Int32.toInt_zero] at this; omega)) a H locs hl hP hS) (fun hc => hk _ _ _ _ (h.1 (by have := hc; simp only [Int32.lt_iff_toInt_lt, Int32.le_iff_toInt_le, Int32.toInt_zero] at this; omega)) a H locs hl hP hS)
  | tableswitch d lo hi os =>
    obtain ⟨hb1, rfl⟩ := sm_ck_spec hnm
    simp only [Bool.and_eq_true, beq_iff_eq, decide_eq_true_eq, List.all_eq_true] at hb1
    obtain ⟨⟨hb1, hb2⟩, hb3⟩ := hb1
    obtain ⟨x, r, rfl, h1, h2⟩ := sm_i1_spec h
    by_cases hin : x.toInt < lo ∨ hi < x.toInt
    · exact lv_tableOut hx hb hdec hin (Int.toNat_of_nonneg hb2).symm (hk _ _ _ _ (h1 hin) a H locs hl hP hS)
    · have h3 : ¬ x.toInt < lo := fun h => hin (Or.inl h)
      have h4 : ¬ hi < x.toInt := fun h => hin (Or.inr h)
      have hlen : (x.toInt - lo).toNat < os.size := by omega
      have ho : os[(x.toInt - lo).toNat]? = some os[(x.toInt - lo).toNat] := Array.getElem?_eq_getElem hlen
      have h5 := sm_tsw_spec h2 (x.toInt - lo).toNat (by omega) ((pc : Int) + os[(x.toInt - lo).toNat]) (by simp [hlen])
      have h6 := hb3 os[(x.toInt - lo).toNat] (Array.mem_toList_iff.mpr (Array.getElem_mem hlen))
      exact lv_tableIn hx hb hdec h3 h4 ho (Int.toNat_of_nonneg h6).symm (hk _ _ _ _ h5 a H locs hl hP hS)
  | lookupswitch d ps =>
    obtain ⟨hb1, rfl⟩ := sm_ck_spec hnm
    rw [Bool.and_eq_true, Bool.and_eq_true, decide_eq_true_eq] at hb1
    obtain ⟨⟨hb1, hb2⟩, hb3⟩ := hb1
    obtain ⟨x, r, rfl, h1⟩ := sm_i1_spec h
    obtain ⟨h5, h6⟩ := sm_lsw_spec (pc := pc) (f := fun t => k t ls r g) ps.toList d x.toInt h1 hb2 (fun a o h => of_decide_eq_true (List.all_eq_true.mp hb3 (a, o) h))
    exact lv_lookup hx hb hdec hb1 rfl h6 (hk _ _ _ _ h5 a H locs hl hP hS)
  | getfield ix =>
    simp only [sm_nm] at hnm
    split at hnm
    · rename_i h3; subst h3
      obtain ⟨v, hv, rfl⟩ := Option.map_eq_some_iff.mp hnm
      obtain ⟨pl, r, rfl, hh⟩ := sm_r1_spec h
      exact sm_getf C0 hcok (hfl ix v hv) hP hh hdec (fun w hw => hk _ _ _ _ hw a H locs hl hP hS)
    · cases hnm
  | putfield ix =>
    simp only [sm_nm] at hnm
    split at hnm
    · rename_i h3; subst h3
      obtain ⟨v, hv, rfl⟩ := Option.map_eq_some_iff.mp hnm
      obtain ⟨x, r, rfl, h⟩ := sm_i1_spec h
      obtain ⟨pl, r, rfl, h1, h⟩ := sm_r1_spec h
      exact sm_putf C0 hcok hlok (hfl ix v hv) hP hS h1 hdec (fun H locs hP hS => hk _ _ _ _ h a H locs hl hP hS)
    · cases hnm
  | invokevirtual ix =>
    simp only [sm_nm] at hnm
    split at hnm
    · rename_i h3; obtain ⟨rfl, h4⟩ := h3
      obtain ⟨v, hv, rfl⟩ := Option.map_eq_some_iff.mp hnm
      obtain ⟨as, r, rfl, hlen, hr, h⟩ := sm_pop_spec h
      simp only [List.append_nil] at h
      exact hcl ix v.1 v.2 hv h4 pc ls as r g _ hdec hlen hr h (fun w g' hw => hk _ _ _ _ hw) a H locs hl hP hS
    · cases hnm
  | invokestatic ix =>
    simp only [sm_nm] at hnm
    split at hnm
    · rename_i h3; subst h3
      obtain ⟨v, hv, rfl⟩ := Option.map_eq_some_iff.mp hnm
      obtain ⟨as, r, rfl, hlen, hr, h⟩ := sm_pop_spec h
      simp only [List.append_nil] at h
      exact hcs ix v.1 v.2 hv pc ls as r g _ hdec hlen hr h (fun w g' hw => hk _ _ _ _ hw) a H locs hl hP hS
    · cases hnm
  | arraylength =>
    obtain ⟨hb1, rfl⟩ := sm_ck_spec hnm
    obtain rfl : n = 1 := by simpa using hb1
    obtain ⟨pl, r, rfl, hh⟩ := sm_r1_spec h
    clear h
    have h := hh
    clear hh
    split at h
    · rename_i hp
      subst hp
      cases xs with
      | none => exact h.elim
      | some q =>
        obtain ⟨hX1, hX2, hX3⟩ := hX q rfl
        exact va_slen hx hb hX1 hX2 hX3 hS hdec (hk _ _ _ _ h a H locs hl hP hS)
    · obtain ⟨h1, h⟩ := h
      have hp := sm_ar_spec (lay := lay) (p := pl) rfl (by omega)
      rcases hKa _ _ _ hp with h2 | h2 | h2
      · exact va_alen hx hb hK hP pl (sm_pic_at hp) (t0 := 0) (by rw [h2]; rfl) rfl hdec (hk _ _ _ _ h a H locs hl hP hS)
      · exact va_alen hx hb hK hP pl (sm_pic_at hp) (t0 := 1) (by rw [h2]; rfl) rfl hdec (hk _ _ _ _ h a H locs hl hP hS)
      · exact va_alen hx hb hK hP pl (sm_pic_at hp) (t0 := 2) (by rw [h2]; rfl) rfl hdec (hk _ _ _ _ h a H locs hl hP hS)
  | iaload =>
    obtain ⟨hb1, rfl⟩ := sm_ck_spec hnm
    obtain rfl : n = 1 := by simpa using hb1
    obtain ⟨x, pl, r, rfl, hh⟩ := sm_ir_spec h
    clear h
    have h := hh
    clear hh
    split at h
    · rename_i hp
      subst hp
      cases xs with
      | none => exact h.elim
      | some q =>
        obtain ⟨hX1, hX2, hX3⟩ := hX q rfl
        exact va_sld hx hb hX1 hX2 hX3 hS (sm_in_vp h.1) hdec (hk _ _ _ _ h.2 a H locs hl hP hS)
    · obtain ⟨h1, h2, h⟩ := h
      have hp := sm_ar_spec h1 (by decide)
      exact va_iald hx hb hK hP pl 0 (sm_pic_at hp) rfl (sm_in_vp h2) hdec (hk _ _ _ _ h a H locs hl hP hS)
  | baload =>
    obtain ⟨hb1, rfl⟩ := sm_ck_spec hnm
    obtain rfl : n = 1 := by simpa using hb1
    obtain ⟨x, pl, r, rfl, h1, h2, h⟩ := sm_ir_spec h
    have hp := sm_ar_spec h1 (by decide)
    exact va_zald hx hb hK hP pl 1 (sm_pic_at hp) rfl (sm_in_vp h2) hdec (hk _ _ _ _ h a H locs hl hP hS)
  | laload =>
    obtain ⟨hb1, rfl⟩ := sm_ck_spec hnm
    obtain rfl : n = 1 := by simpa using hb1
    obtain ⟨x, pl, r, rfl, h1, h2, h⟩ := sm_ir_spec h
    have hp := sm_ar_spec h1 (by decide)
    exact va_lald hx hb hK hP pl 2 (sm_pic_at hp) rfl (sm_in_vp h2) hdec (hk _ _ _ _ h a H locs hl hP hS)
  | iastore =>
    obtain ⟨hb1, rfl⟩ := sm_ck_spec hnm
    obtain rfl : n = 1 := by simpa using hb1
    obtain ⟨x, i, pl, r, rfl, h1, h2, h⟩ := sm_iir_spec h
    have hp := sm_ar_spec h1 (by decide)
    refine va_iast hx hb hK hP (hD g) hS pl 0 (sm_pic_at hp) rfl (sm_in_vp h2) hdec (fun H1 locs1 hP1 _ hS1 => ?_)
    rw [show sm_pic lay ad cA g = sm_pic lay ad cA g from rfl, sm_pic_set (sm_e_gA hp (by decide))] at hP1
    exact hk _ _ _ _ h a H1 locs1 hl hP1 hS1
  | bastore =>
    obtain ⟨hb1, rfl⟩ := sm_ck_spec hnm
    obtain rfl : n = 1 := by simpa using hb1
    obtain ⟨x, i, pl, r, rfl, h1, h2, hz, h⟩ := sm_iir_spec h
    have hp := sm_ar_spec h1 (by decide)
    refine va_zast hx hb hK hP (hD g) hS pl 1 (sm_pic_at hp) rfl (sm_in_vp h2) hdec (fun H1 locs1 hP1 _ hS1 => ?_)
    rw [sm_nar_z (sm_zr_1 hz), sm_pic_set (sm_e_gA hp (by decide))] at hP1
    exact hk _ _ _ _ h a H1 locs1 hl hP1 hS1
  | lastore =>
    obtain ⟨hb1, rfl⟩ := sm_ck_spec hnm
    obtain rfl : n = 1 := by simpa using hb1
    obtain ⟨x, i, pl, r, rfl, h1, h2, h⟩ := sm_lir_spec h
    have hp := sm_ar_spec h1 (by decide)
    refine va_last hx hb hK hP (hD g) hS pl 2 (sm_pic_at hp) rfl (sm_in_vp h2) hdec (fun H1 locs1 hP1 _ hS1 => ?_)
    rw [sm_pic_set (sm_e_gL hp)] at hP1
    exact hk _ _ _ _ h a H1 locs1 hl hP1 hS1
  | ireturn =>
    obtain ⟨hb1, rfl⟩ := sm_ck_spec hnm
    obtain rfl : n = 1 := by simpa using hb1
    obtain ⟨x, r, rfl, rfl, hz, h⟩ := sm_i1_spec h
    exact (hret pc a H locs g hP hS).1 x hdec hz h
  | lreturn =>
    obtain ⟨hb1, rfl⟩ := sm_ck_spec hnm
    obtain rfl : n = 1 := by simpa using hb1
    obtain ⟨x, r, rfl, rfl, h2, hh⟩ := sm_l1_spec h
    exact (hret pc a H locs g hP hS).2.1 x hdec h2 hh
  | areturn =>
    obtain ⟨hb1, rfl⟩ := sm_ck_spec hnm
    obtain rfl : n = 1 := by simpa using hb1
    obtain ⟨x, r, rfl, rfl, h2, hh⟩ := sm_r1_spec h
    exact (hret pc a H locs g hP hS).2.2.1 x hdec h2 hh
  | return_ =>
    obtain ⟨hb1, rfl⟩ := sm_ck_spec hnm
    obtain rfl : n = 1 := by simpa using hb1
    obtain ⟨rfl, h2, h⟩ := h
    exact (hret pc a H locs g hP hS).2.2.2 hdec h2 h
  | _ => cases hnm
end SMM
end
section
/-! A METHOD'S CONTRACT out of its body's spec. -/
def sm_host : String := "FoundOffice"
def sm_yIn : MethodName := ⟨"FoundOffice", "isIn", "(JI)Z"⟩
def sm_nest (U : State) : Prop := va_Nw (.methodLinkNest "FoundOffice$Group" 67 sm_yIn sm_host) U ∧ va_Nw (.methodLinkNest "FoundOffice$Match" 86 sm_yIn sm_host) U ∧ va_Nw (.methodLinkNest "FoundOffice$Asking" 45 sm_yIn sm_host) U
theorem sm_nest_warm {s U : State} (h : s.WarmedH U.vm) (n : sm_nest s) : sm_nest U := ⟨va_Nw.warmM h n.1, va_Nw.warmM h n.2.1, va_Nw.warmM h n.2.2⟩
def sm_world (lay : List ((Nat × List Nat) ⊕ (Nat × Nat))) (D : va_G) (ad : Nat → Nat) (cA : Nat → ClassId) (sz : Nat) (g : sm_G) (U : State) : Prop :=
  U.heap.size = sz ∧ va_P D vwCl (sm_pic lay ad cA g) U.heap ∧ va_K D vwCl (sm_tys cA) U ∧ va_D (va_A (sm_pic lay ad cA g) sz) (sm_pic lay ad cA g) ∧ sm_nest U
def sm_post (lay : List ((Nat × List Nat) ⊕ (Nat × Nat))) (D : va_G) (ad : Nat → Nat) (cA : Nat → ClassId) (sz : Nat) (g : sm_G) (K : Option Value → sm_G → Prop) : Array Value → State → Outcome → State → Prop := fun _ st oc t =>
  (∃ (v : Option Value) (u : sm_G), oc = .returned (v.map (sm_tr ad)) ∧ K v u ∧ va_P D vwCl (sm_pic lay ad cA u) t.heap) ∧ va_F (va_A (sm_pic lay ad cA g) sz) st t
def sm_rm (d : Nat) : Room := { frames := d, cells := 0, slots := 0, locals := 40 * d }
/-- a method, its code, and what is known of them -/
abbrev sm_M : Type := MethodName × ByteArray × Nat × Option FieldType
def sm_mok (y : sm_M) : Prop := Cond.code y.1 y.2.1 y.2.2.1 y.2.2.2 ∈ sm_BW ∧ Cond.initialized y.1.cls ∈ sm_BW ∧ plainName y.1.cls = true ∧ y.1.cls ≠ "java/lang/invoke/MethodHandle" ∧ y.1.cls ≠ "java/lang/invoke/VarHandle" ∧ y.2.2.1 ≤ 21
def sm_met (l : Launch) (lay : List ((Nat × List Nat) ⊕ (Nat × Nat))) (y : sm_M) (d : Nat) (sp : sm_SP) : Prop :=
  ∀ (D : va_G) (ad : Nat → Nat) (cA : Nat → ClassId) (sz : Nat) (as : List Value) (g : sm_G) (K : Option Value → sm_G → Prop), sp as g K →
    Met l y.1 (Cond.code y.1 y.2.1 y.2.2.1 y.2.2.2 :: sm_BW) (sm_rm d) (va_Pc (as.map (sm_tr ad)) (sm_world lay D ad cA sz g)) (sm_post lay D ad cA sz g K) 0 0 (va_A (sm_pic lay ad cA g) sz)
/-- what a spec says of its arguments: they fit, none is a double; an instance method's first is one of its class -/
def sm_wf (lay : List ((Nat × List Nat) ⊕ (Nat × Nat))) (y : sm_M) (n : Nat) (st : Bool) (sp : sm_SP) : Prop := ∀ as g K, sp as g K → (sm_arg as).length ≤ y.2.2.1 ∧ (∀ v ∈ as, ∀ x, v ≠ .double x) ∧ as.length = n ∧
  (st = false → ∃ pl As ci ds T N, as = .ref pl :: As ∧ lay[pl]? = some (.inl (ci, ds)) ∧ vwCl[ci]? = some (y.1.cls, T, N))
/-- a method that does what a spec says, from the depth d on -/
def sm_ok (l : Launch) (lay : List ((Nat × List Nat) ⊕ (Nat × Nat))) (y : sm_M) (n : Nat) (st : Bool) (d : Nat) (sp : sm_SP) : Prop := sm_wf lay y n st sp ∧ ∀ d', d ≤ d' → sm_met l lay y d' sp
/-- a place where a method is called: 0 virtual, 1 static, 2 static out of the nest, 3 max, 4 min -/
def sm_site (own : String) (raw : Instr) (y : sm_M) (n : Nat) (st : Bool) (kind : Nat) : Prop :=
  sm_mok y ∧ match kind with
  | 0 => ∃ ix, raw = .invokevirtual ix ∧ st = false ∧ (parseMethodDescriptor y.1.desc).map (fun d => d.parameters.length + 1) = some n ∧ Cond.methodLink own ix y.1 ∈ sm_BW ∧ Cond.instanceMethod y.1 ∈ sm_BW ∧ Cond.selects y.1.cls y.1 y.1 ∈ sm_BW
  | 1 => ∃ ix, raw = .invokestatic ix ∧ st = true ∧ (parseMethodDescriptor y.1.desc).map (fun d => d.parameters.length) = some n ∧ Cond.methodLink own ix y.1 ∈ sm_BW ∧ Cond.static y.1 ∈ sm_BW
  | 2 => ∃ ix, raw = .invokestatic ix ∧ st = true ∧ (parseMethodDescriptor y.1.desc).map (fun d => d.parameters.length) = some n ∧ (∀ U, sm_nest U → va_Nw (.methodLinkNest own ix y.1 sm_host) U) ∧ Cond.static y.1 ∈ sm_BW
  | _ => False
theorem sm_good {w : Cond} (h : w ∈ sm_BW) : (w.onTables && w.keeps) = true ∨ ∃ ty, w = .arrayClass ty := good_of_word (List.mem_filter.mp h).2
theorem sm_goodIn {y : sm_M} (h : sm_mok y) : GoodIn sm_BW (Cond.code y.1 y.2.1 y.2.2.1 y.2.2.2 :: sm_BW) := fun w hw => by
  rcases List.mem_cons.mp hw with rfl | hw
  · exact ⟨h.1, sm_good h.1⟩
  · exact ⟨hw, sm_good hw⟩
section SMK
variable {p : Program} {l : Launch} {e : Env} {R : Room} {s : State} {m : MethodId} {args : Array Value} {below : List Frame} {meth : Method} {c : Code} {Q : State → Prop}
variable {D : va_G} {ad : Nat → Nat} {cA : Nat → ClassId} {A : Nat → Prop} {H0 : Heap} {lay : List ((Nat × List Nat) ⊕ (Nat × Nat))} {nL cells slots : Nat}
theorem sm_callQ {H : Heap} {locs : List Loc} {pc : Nat} {ls : Array Slot} {st0 rest : List Value} {av : Array Value} {sz : Nat} {g : sm_G} {K : Option Value → sm_G → Prop} {free : Addr → Prop} (hsz : H.size = sz) (hD : ∀ g, va_D A (sm_pic lay ad cA g))
    (hr : va_Run p l e R s m args below meth c H locs cells slots 0 0 (F0 m pc ls st0) rest (sm_post lay D ad cA sz g K av) free) (hS : va_S A H0 H locs) (hA : ∀ q, H0.size ≤ q → A q) (hf : ∀ q, free q → va_A (sm_pic lay ad cA g) sz q)
    (kk : ∀ (v : Option Value) (u : sm_G) (H1 : Heap) (locs1 : List Loc), K v u → va_P D vwCl (sm_pic lay ad cA u) H1 → va_S A H0 H1 locs1 → W p l e R s m args below meth c H1 locs1 cells slots Q (F0 m (pc + 3) ls ((v.map (sm_tr ad)).toList ++ rest))) : W p l e R s m args below meth c H locs cells slots Q (F0 m pc ls st0) := by
  have hA1 : ∀ q, va_A (sm_pic lay ad cA g) sz q → A q := fun q hq => by
    rcases hq with ⟨k, e, hk⟩ | hq
    · exact (hD g).2 k _ hk
    · exact hA q (Nat.le_trans hS.1 (by rw [hsz]; exact hq))
  intro T hT X
  obtain ⟨v, st₀, t, T', L, h0, X', hL, e1, e2, ⟨⟨w, u, hv, hp, hb⟩, hz, hkk⟩, st⟩ := hr T hT X
  cases hv
  rw [h0] at hz hkk
  obtain ⟨t2, a1, b1⟩ := kk w u T'.heap (locs ++ L) hp (by rw [e1]; exact hb)
    ⟨Nat.le_trans hS.1 (by rw [e1]; exact hz), fun q h1 h2 => by rw [e1, hkk q (Nat.lt_of_lt_of_le h1 hS.1) (fun z => h2 (hA1 q z))]; exact hS.2.1 q h1 h2, fun q hq => by
      rcases List.mem_append.mp hq with h | h
      · exact hS.2.2 q h
      · exact hA1 _ (hf _ (hL q h))⟩ T' rfl X'
  exact ⟨t2, st t2 a1, b1⟩
theorem sm_blind {D : va_G} {sz : Nat} {g : sm_G} {av : List Value} : FrameBlind (va_Pc av (sm_world lay D ad cA sz g)) := fun a U f mk h => by
  obtain ⟨h0, h1, h2, h3, h4, h5⟩ := h
  exact ⟨h0, h1, h2, va_K.moved (u := U) (U := U.calling f mk a) (Vm.Alike.refl U.vm) h3, h4, va_Nw.same (u := U) rfl rfl h5.1, va_Nw.same (u := U) rfl rfl h5.2.1, va_Nw.same (u := U) rfl rfl h5.2.2⟩
theorem sm_room5 {pc : Nat} {ls : Array Slot} {st r : List Value} (h : r.length ≤ 4) : 2 * (F0 m pc ls st).monitorRoom + ((r.map (sm_tr ad)).map fun v => v.category).sum ≤ 8 := by
  refine lv_room ?_
  have : ∀ (r : List Value), ((r.map (sm_tr ad)).map fun v => v.category).sum ≤ 2 * r.length := by
    intro r
    induction r with
    | nil => simp
    | cons v r ih =>
      have : (sm_tr ad v).category ≤ 2 := by cases v <;> simp [sm_tr, Value.category]
      simp only [List.map_cons, List.sum_cons, List.length_cons]
      omega
  have := this r
  omega
/-- a call out of a place that is known -/
theorem sm_call {own : String} {bc : ByteArray} {xs : Option (Nat × (Nat → Int32))} (C0 : sm_ctx p s m args c D ad cA A H0 lay own bc xs) (hml : c.maxLocals = nL) (hA : ∀ q, H0.size ≤ q → A q) (hN : sm_nest s) {raw : Instr} {y : sm_M} {n kind d : Nat} {st : Bool} {sp : sm_SP} (hs : sm_site own raw y n st kind) (hok : sm_ok l lay y n st d sp)
    (hR : d + 1 ≤ R.frames ∧ 40 * d + 40 ≤ R.locals ∧ cells ≤ R.cells ∧ slots ≤ R.slots) : sm_callok p l e R s m args below meth c Q D ad cA A H0 lay nL cells slots bc raw n sp := by
  intro pc ls as r g K hdec hlen hr hsp hk a H locs hl hP hS
  obtain ⟨hx, hb, hown, hts, hK, hD, hX⟩ := id C0
  obtain ⟨hwf, hmet⟩ := hok
  obtain ⟨hw1, hw2, hw3, hw4⟩ := hwf as g K hsp
  obtain ⟨hm, hs⟩ := hs
  have hM := hmet d (Nat.le_refl _) D ad cA H.size as g K hsp
  have hGI := sm_goodIn hm
  obtain ⟨hm1, hm2, hm3, hm4, hm5, hm6⟩ := hm
  have hfr : (sm_rm d).frames + 1 ≤ R.frames ∧ 8 + (y.2.2.1 + 11) + (sm_rm d).locals ≤ R.locals := ⟨hR.1, by show _ + 40 * d ≤ _; omega⟩
  have hpre : ∀ U : State, U.heap = H → s.WarmedH U.vm → sm_world lay D ad cA H.size g U := fun U hU hW => by
    refine ⟨by rw [hU], by rw [hU]; exact hP, va_K.moved hW.alike hK, (hD g).self, sm_nest_warm hW hN⟩
  match kind, hs with
  | 0, hs =>
    obtain ⟨ix, rfl, rfl, hpar, hl1, hl2, hl3⟩ := hs
    obtain ⟨pl, As, ci, ds, T, N, rfl, hlay, hci⟩ := hw4 rfl
    have hpar' : (parseMethodDescriptor y.1.desc).map (fun d => d.parameters.length) = some As.length := by
      cases hpd : parseMethodDescriptor y.1.desc with
      | none => rw [hpd] at hpar; cases hpar
      | some q => rw [hpd] at hpar; simp at hpar hlen ⊢; omega
    have hcw : CallW R s args own y.1.cls ix y.1 y.2.1 y.2.2.1 y.2.2.2 (Cond.code y.1 y.2.1 y.2.2.1 y.2.2.2 :: sm_BW) (sm_rm d) 0 0 As.length :=
      ⟨callB_of As.length hts hGI rfl rfl rfl (hts _ hm2) (hts _ hl1) ⟨hm4, hm5, hpar'⟩ hfr, hts _ hl2, hts _ hl3⟩
    refine sm_callQ rfl hD (va_runV (As := As.map (sm_tr ad)) (rest := r.map (sm_tr ad)) (b := ad pl) ⟨hx, hb, hml, hown, hts⟩ hM hcw ⟨sm_blind, va_recv hK hP hci (sm_pic_at hlay), fun U hU hW => ⟨rfl, hpre U hU hW⟩⟩ rfl (by simp) hl.2.1 (by simp [sm_tr]) (sm_room5 hr) hdec ⟨hR.2.2.1, hR.2.2.2⟩) hS hA (fun q h => h) (fun v u H1 locs1 hv hP1 hS1 => ?_)
    have := hk v u hv a H1 locs1 hl hP1 hS1
    cases v with
    | none => exact this
    | some w => exact this
  | 1, hs =>
    obtain ⟨ix, rfl, rfl, hpar, hl1, hl2⟩ := hs
    have hcw : CallB R s args own ix y.1 y.2.1 y.2.2.1 y.2.2.2 (Cond.code y.1 y.2.1 y.2.2.1 y.2.2.2 :: sm_BW) (sm_rm d) 0 0 n ∧ (Cond.static y.1).before args s = true :=
      ⟨callB_of n hts hGI rfl rfl rfl (hts _ hm2) (hts _ hl1) ⟨hm4, hm5, hpar⟩ hfr, hts _ hl2⟩
    refine sm_callQ rfl hD (va_runS (As := as.map (sm_tr ad)) (rest := r.map (sm_tr ad)) ⟨hx, hb, hml, hown, hts⟩ hM hcw ⟨sm_blind, fun U hU hW => ⟨rfl, hpre U hU hW⟩⟩ rfl (by simp [hlen]) hl.2.1 (by simp) (sm_room5 hr) hdec ⟨hR.2.2.1, hR.2.2.2⟩) hS hA (fun q h => h) (fun v u H1 locs1 hv hP1 hS1 => ?_)
    have := hk v u hv a H1 locs1 hl hP1 hS1
    cases v with
    | none => exact this
    | some w => exact this
  | 2, hs =>
    obtain ⟨ix, rfl, rfl, hpar, hl1, hl2⟩ := hs
    have hcw : va_CN R s args own ix y.1 sm_host y.2.1 y.2.2.1 y.2.2.2 (Cond.code y.1 y.2.1 y.2.2.1 y.2.2.2 :: sm_BW) (sm_rm d) 0 0 n ∧ (Cond.static y.1).before args s = true ∧ True :=
      ⟨va_cnB n hts hGI rfl rfl rfl (hl1 s hN) (hts _ hm2) ⟨hm4, hm5, hpar⟩ hfr, hts _ hl2, trivial⟩
    refine sm_callQ rfl hD (va_runSN (As := as.map (sm_tr ad)) (rest := r.map (sm_tr ad)) ⟨hx, hb, hml, hown, hts⟩ hM hcw ⟨sm_blind, fun U hU hW => ⟨rfl, hpre U hU hW⟩⟩ rfl (by simp [hlen]) hl.2.1 (by simp) (sm_room5 hr) hdec ⟨hR.2.2.1, hR.2.2.2⟩) hS hA (fun q h => h) (fun v u H1 locs1 hv hP1 hS1 => ?_)
    have := hk v u hv a H1 locs1 hl hP1 hS1
    cases v with
    | none => exact this
    | some w => exact this
end SMK
end
section
/-! A METHOD'S BODY GIVES ITS CONTRACT, where its callees have theirs. -/
def sp_max : sm_SP := fun as g K => match as with
  | [.int x, .int y] => (x.toInt < y.toInt → K (some (.int y)) g) ∧ (¬ x.toInt < y.toInt → K (some (.int x)) g)
  | _ => False
def sp_min : sm_SP := fun as g K => match as with
  | [.int x, .int y] => (y.toInt < x.toInt → K (some (.int y)) g) ∧ (¬ y.toInt < x.toInt → K (some (.int x)) g)
  | _ => False
/-- a method's entry in the table: itself, whether it is static, how many arguments, the receiver too -/
abbrev sm_R : Type := sm_M × Bool × Nat
def sm_ent (own : String) (raw : Instr) (mid n : Nat) (y : sm_R) : Prop :=
  (mid = sm_mmax ∧ n = 2 ∧ ∃ ix, raw = .invokestatic ix ∧ Cond.methodLink own ix Lib.Math.max.name ∈ sm_BW ∧ Cond.static Lib.Math.max.name ∈ sm_BW ∧ Cond.initialized "java/lang/Math" ∈ sm_BW ∧ Cond.code Lib.Math.max.name Lib.Math.max.code 2 (some .int) ∈ sm_BW) ∨
  (mid = sm_mmin ∧ n = 2 ∧ ∃ ix, raw = .invokestatic ix ∧ Cond.methodLink own ix Lib.Math.min.name ∈ sm_BW ∧ Cond.static Lib.Math.min.name ∈ sm_BW ∧ Cond.initialized "java/lang/Math" ∈ sm_BW ∧ Cond.code Lib.Math.min.name Lib.Math.min.code 2 (some .int) ∈ sm_BW) ∨
  (mid ≠ sm_mmax ∧ mid ≠ sm_mmin ∧ n = y.2.2 ∧ ∃ kind, sm_site own raw y.1 n y.2.1 kind)
def sm_spok (l : Launch) (lay : List ((Nat × List Nat) ⊕ (Nat × Nat))) (mt : Nat → sm_R) (d mid : Nat) (sp : sm_SP) : Prop :=
  (∀ as g K, ¬ sp as g K) ∨ (mid = sm_mmax ∧ sp = sp_max) ∨ (mid = sm_mmin ∧ sp = sp_min) ∨ (mid ≠ sm_mmax ∧ mid ≠ sm_mmin ∧ sm_ok l lay (mt mid).1 (mt mid).2.2 (mt mid).2.1 d sp)
theorem sm_spok_cl {l : Launch} {lay : List ((Nat × List Nat) ⊕ (Nat × Nat))} {mt : Nat → sm_R} {d : Nat} : ∀ {L : List (Nat × sm_SP)}, (∀ q ∈ L, sm_spok l lay mt d q.1 q.2) → ∀ mid, sm_spok l lay mt d mid (sm_cl L mid) := by
  intro L
  induction L with
  | nil => intro _ mid; exact Or.inl (fun as g K h => h)
  | cons q L ih =>
    intro h mid
    obtain ⟨m, sp⟩ := q
    by_cases hm : mid = m
    · subst hm
      have : sm_cl ((mid, sp) :: L) mid = sp := by simp [sm_cl]
      rw [this]; exact h (mid, sp) List.mem_cons_self
    · have : sm_cl ((m, sp) :: L) mid = sm_cl L mid := by simp [sm_cl, hm]
      rw [this]; exact ih (fun q hq => h q (List.mem_cons_of_mem _ hq)) mid
theorem sm_spok_up {l : Launch} {lay : List ((Nat × List Nat) ⊕ (Nat × Nat))} {mt : Nat → sm_R} {d d' mid : Nat} {sp : sm_SP} (hd : d ≤ d') (h : sm_spok l lay mt d mid sp) : sm_spok l lay mt d' mid sp := by
  rcases h with h | h | h | ⟨h1, h2, h3, h4⟩
  · exact Or.inl h
  · exact Or.inr (Or.inl h)
  · exact Or.inr (Or.inr (Or.inl h))
  · exact Or.inr (Or.inr (Or.inr ⟨h1, h2, h3, fun d'' hd'' => h4 d'' (Nat.le_trans hd hd'')⟩))
/-- a class's tables hold -/
def sm_tok (mt : Nat → sm_R) (T : sm_T) : Prop :=
  (∀ ix v, T.2.1.lookup ix = some v → sm_fok T.1 ix v) ∧ (∀ ix v, T.2.2.2.2.lookup ix = some v → Cond.constant T.1 ix (nI v) ∈ sm_BW) ∧ (∀ ix v, T.2.2.2.1.lookup ix = some v → Cond.constantLong T.1 ix (if 0 ≤ v then lN v.toNat else Int64.ofInt v) ∈ sm_BW) ∧
  (∀ ix mid n, T.2.2.1.lookup ix = some (mid, n) → ix < 100000 → sm_ent T.1 (.invokevirtual ix) mid n (mt mid)) ∧ (∀ ix mid n, T.2.2.1.lookup (ix + 100000) = some (mid, n) → sm_ent T.1 (.invokestatic ix) mid n (mt mid))
section SMC
variable {p : Program} {l : Launch} {e : Env} {R : Room} {s : State} {m : MethodId} {args : Array Value} {below : List Frame} {meth : Method} {c : Code} {Q : State → Prop}
variable {D : va_G} {ad : Nat → Nat} {cA : Nat → ClassId} {A : Nat → Prop} {H0 : Heap} {lay : List ((Nat × List Nat) ⊕ (Nat × Nat))} {nL cells slots : Nat}
theorem sm_catsum (r : List Value) : ((r.map (sm_tr ad)).map fun v => v.category).sum ≤ 2 * r.length := by
  induction r with
  | nil => simp
  | cons v r ih =>
    have : (sm_tr ad v).category ≤ 2 := by cases v <;> simp [sm_tr, Value.category]
    simp only [List.map_cons, List.sum_cons, List.length_cons]
    omega
theorem sm_callent {own : String} {bc : ByteArray} {xs : Option (Nat × (Nat → Int32))} (C0 : sm_ctx p s m args c D ad cA A H0 lay own bc xs) (hml : c.maxLocals = nL) (hA : ∀ q, H0.size ≤ q → A q) (hN : sm_nest s) {raw : Instr} {mid n d : Nat} {mt : Nat → sm_R} {sp : sm_SP} (hs : sm_ent own raw mid n (mt mid)) (hok : sm_spok l lay mt d mid sp)
    (hR : d + 1 ≤ R.frames ∧ 40 * d + 40 ≤ R.locals ∧ cells ≤ R.cells ∧ slots ≤ R.slots) : sm_callok p l e R s m args below meth c Q D ad cA A H0 lay nL cells slots bc raw n sp := by
  rcases hok with hok | ⟨rfl, rfl⟩ | ⟨rfl, rfl⟩ | ⟨hn1, hn2, hok⟩
  · intro pc ls as r g K _ _ _ h; exact (hok _ _ _ h).elim
  · rcases hs with ⟨-, rfl, ix, rfl, h1, h2, h3, h4⟩ | ⟨h, -⟩ | ⟨h, -⟩
    · intro pc ls as r g K hdec hlen hr hsp hk a H locs hl hP hS
      obtain ⟨hx, hb, hown, hts, hK, hD, hX⟩ := id C0
      match as, hsp with
      | [.int x, .int y], hsp =>
        have hc := sm_catsum (ad := ad) r
        refine va_mmax (rest := r.map (sm_tr ad)) hx hb (by rw [hml]; exact hl.2.1.symm) hown (hts _ h1) (hts _ h2) (hts _ h3) (hts _ h4) (by omega) (by omega) hR.2.2.1 hR.2.2.2 hdec ?_
        split
        · rename_i hlt; exact hk _ _ (hsp.1 (Int32.lt_iff_toInt_lt.mp hlt)) a H locs hl hP hS
        · rename_i hlt; exact hk _ _ (hsp.2 (fun h => hlt (Int32.lt_iff_toInt_lt.mpr h))) a H locs hl hP hS
    · exact absurd h (by decide)
    · exact absurd rfl h
  · rcases hs with ⟨h, -⟩ | ⟨-, rfl, ix, rfl, h1, h2, h3, h4⟩ | ⟨-, h, -⟩
    · exact absurd h (by decide)
    · intro pc ls as r g K hdec hlen hr hsp hk a H locs hl hP hS
      obtain ⟨hx, hb, hown, hts, hK, hD, hX⟩ := id C0
      match as, hsp with
      | [.int x, .int y], hsp =>
        have hc := sm_catsum (ad := ad) r
        refine va_mmin (rest := r.map (sm_tr ad)) hx hb (by rw [hml]; exact hl.2.1.symm) hown (hts _ h1) (hts _ h2) (hts _ h3) (hts _ h4) (by omega) (by omega) hR.2.2.1 hR.2.2.2 hdec ?_
        split
        · rename_i hlt; exact hk _ _ (hsp.1 (Int32.lt_iff_toInt_lt.mp hlt)) a H locs hl hP hS
        · rename_i hlt; exact hk _ _ (hsp.2 (fun h => hlt (Int32.lt_iff_toInt_lt.mpr h))) a H locs hl hP hS
    · exact absurd rfl h
  · rcases hs with ⟨h, -⟩ | ⟨h, -⟩ | ⟨-, -, rfl, kind, hs⟩
    · exact absurd h hn1
    · exact absurd h hn2
    · exact sm_call C0 hml hA hN hs hok hR
/-- J of a method's frame can be read backwards along walks -/
theorem sm_walks {T : sm_T} {bc : ByteArray} {hd : List Nat} {xs : Option (Nat × (Nat → Int32))} {mt : Nat → sm_R} {cs : Nat → sm_SP} {rk d : Nat} {K : Option Value → sm_G → Prop}
    (C0 : sm_ctx p s m args c D ad cA A H0 lay T.1 bc xs) (hml : c.maxLocals = nL) (hA : ∀ q, H0.size ≤ q → A q) (hN : sm_nest s) (hcok : sm_cok) (hlok : sm_lok lay) (hKa : ∀ (pl ty n : Nat), lay[pl]? = some (.inr (ty, n)) → ty = 1 ∨ ty = 2 ∨ ty = 3) (hT : sm_tok mt T)
    (hcs : ∀ mid, sm_spok l lay mt d mid (cs mid)) (hR : d + 1 ≤ R.frames ∧ 40 * d + 40 ≤ R.locals ∧ cells ≤ R.cells ∧ slots ≤ R.slots)
    (hret : sm_retok p l e R s m args below meth c Q D ad cA A H0 lay cells slots bc rk K) :
    sm_walk lay (sm_nd T bc nL hd) cs xs rk K (sm_J p l e R s m args below meth c Q D ad cA A H0 lay nL cells slots) (sm_sx lay (sm_nd T bc nL hd) cs xs rk K (sm_J p l e R s m args below meth c Q D ad cA A H0 lay nL cells slots)) := by
  have step : ∀ (pc nx : Nat) (i : Instr) (b : Bool) ls st g k, sm_nd T bc nL hd pc = some (i, nx, b) → sm_stp lay cs xs rk K i nx ls st g k → (∀ pc ls st g, k pc ls st g → sm_J p l e R s m args below meth c Q D ad cA A H0 lay nL cells slots pc ls st g) → sm_J p l e R s m args below meth c Q D ad cA A H0 lay nL cells slots pc ls st g := by
    intro pc nx i b ls st g k hn h hk
    unfold sm_nd at hn
    split at hn
    · rename_i raw n hdec
      obtain ⟨j, hj, he⟩ := Option.map_eq_some_iff.mp hn
      cases he
      exact sm_step C0 hcok hlok hKa hT.1 hT.2.1 hT.2.2.1 (fun ix mid n hl h1 => sm_callent C0 hml hA hN (hT.2.2.2.1 ix mid n hl h1) (hcs mid) hR) (fun ix mid n hl => sm_callent C0 hml hA hN (hT.2.2.2.2 ix mid n hl) (hcs mid) hR) hret hdec hj h hk
    · cases hn
  have sx : ∀ n pc ls st g, sm_sx lay (sm_nd T bc nL hd) cs xs rk K (sm_J p l e R s m args below meth c Q D ad cA A H0 lay nL cells slots) n pc ls st g → sm_J p l e R s m args below meth c Q D ad cA A H0 lay nL cells slots pc ls st g := by
    intro n
    induction n with
    | zero => intro pc ls st g h; exact h
    | succ n ih =>
      intro pc ls st g h
      simp only [sm_sx, sm_go] at h
      split at h
      · rename_i i nx hn; exact step _ _ _ _ _ _ _ _ hn h ih
      · exact h
      · exact h.elim
  refine ⟨fun n pc ls st g => rfl, fun n pc ls st g h => ?_⟩
  unfold sm_g1 at h
  split at h
  · rename_i i nx b hn; exact step _ _ _ _ _ _ _ _ hn h (sx n)
  · exact h.elim
end SMC
/-- what a method returns, by number -/
def sm_rk (rk : Nat) (ret : Option FieldType) : Prop := (rk = 0 ∧ ret = some .int) ∨ (rk = 1 ∧ ret = some .boolean) ∨ (rk = 2 ∧ ret = some .long) ∨ (rk = 3 ∧ ∃ n, ret = some (.object n)) ∨ (rk = 4 ∧ ret = none)
theorem sm_arg_slots : ∀ (vs : List Value), (∀ v ∈ vs, ∀ x, v ≠ .double x) → ∀ ad, (lg_sl (vs.map (sm_tr ad))).length = (sm_arg vs).length := by
  intro vs
  induction vs with
  | nil => intro _ ad; rfl
  | cons v vs ih =>
    intro h ad
    have ih' := ih (fun v hv => h v (List.mem_cons_of_mem _ hv)) ad
    have e : lg_sl ((v :: vs).map (sm_tr ad)) = (if (sm_tr ad v).category = 2 then [.val (sm_tr ad v), .second] else [.val (sm_tr ad v)]) ++ lg_sl (vs.map (sm_tr ad)) := rfl
    rw [e, List.length_append, ih']
    cases v with
    | double x => exact absurd rfl (h _ List.mem_cons_self x)
    | long x => simp [sm_arg, sm_tr, Value.category]; omega
    | int x => simp [sm_arg, sm_tr, Value.category]; omega
    | float x => simp [sm_arg, sm_tr, Value.category]; omega
    | null => simp [sm_arg, sm_tr, Value.category]; omega
    | ref x => simp [sm_arg, sm_tr, Value.category]; omega
    | retAddr x => simp [sm_arg, sm_tr, Value.category]; omega
theorem sm_arg_nd2 (vs : List Value) (h : ∀ v ∈ vs, ∀ x, v ≠ .double x) : ∀ o ∈ sm_arg vs, ∀ v, o = some v → ∀ x, v ≠ .double x := by
  induction vs with
  | nil => intro o ho; cases ho
  | cons v vs ih =>
    have ih' := ih (fun v hv => h v (List.mem_cons_of_mem _ hv))
    intro o ho w hw
    have hv := h v List.mem_cons_self
    cases v with
    | long x =>
      simp only [sm_arg, List.mem_cons] at ho
      rcases ho with rfl | rfl | ho
      · obtain rfl := Option.some.inj hw; exact hv
      · cases hw
      · exact ih' o ho w hw
    | int x =>
      simp only [sm_arg, List.mem_cons] at ho
      rcases ho with rfl | ho
      · obtain rfl := Option.some.inj hw; exact hv
      · exact ih' o ho w hw
    | float x =>
      simp only [sm_arg, List.mem_cons] at ho
      rcases ho with rfl | ho
      · obtain rfl := Option.some.inj hw; exact hv
      · exact ih' o ho w hw
    | double x =>
      simp only [sm_arg, List.mem_cons] at ho
      rcases ho with rfl | ho
      · obtain rfl := Option.some.inj hw; exact hv
      · exact ih' o ho w hw
    | ref x =>
      simp only [sm_arg, List.mem_cons] at ho
      rcases ho with rfl | ho
      · obtain rfl := Option.some.inj hw; exact hv
      · exact ih' o ho w hw
    | retAddr x =>
      simp only [sm_arg, List.mem_cons] at ho
      rcases ho with rfl | ho
      · obtain rfl := Option.some.inj hw; exact hv
      · exact ih' o ho w hw
    | null =>
      simp only [sm_arg, List.mem_cons] at ho
      rcases ho with rfl | ho
      · obtain rfl := Option.some.inj hw; exact hv
      · exact ih' o ho w hw
theorem sm_arg_sub (ad : Nat → Nat) : ∀ (vs : List Value) (i : Nat), (∀ v ∈ vs, ∀ x, v ≠ .double x) → ∀ q ∈ sm_as ad i (sm_arg vs), q ∈ lv_args i (vs.map (sm_tr ad)) := by
  intro vs
  induction vs with
  | nil => intro i _ q hq; exact hq
  | cons v vs ih =>
    intro i h q hq
    have ih' := fun i => ih i (fun v hv => h v (List.mem_cons_of_mem _ hv))
    have hv := h v List.mem_cons_self
    cases v with
    | double x => exact absurd rfl (hv x)
    | long x =>
      rcases List.mem_cons.mp (show q ∈ (i, sm_tr ad (.long x)) :: sm_as ad (i + 2) (sm_arg vs) from hq) with rfl | hq
      · exact List.mem_cons_self
      · exact List.mem_cons_of_mem _ (ih' (i + 2) q hq)
    | int x =>
      rcases List.mem_cons.mp (show q ∈ (i, sm_tr ad (.int x)) :: sm_as ad (i + 1) (sm_arg vs) from hq) with rfl | hq
      · exact List.mem_cons_self
      · exact List.mem_cons_of_mem _ (ih' (i + 1) q hq)
    | float x =>
      rcases List.mem_cons.mp (show q ∈ (i, sm_tr ad (.float x)) :: sm_as ad (i + 1) (sm_arg vs) from hq) with rfl | hq
      · exact List.mem_cons_self
      · exact List.mem_cons_of_mem _ (ih' (i + 1) q hq)
    | null =>
      rcases List.mem_cons.mp (show q ∈ (i, sm_tr ad .null) :: sm_as ad (i + 1) (sm_arg vs) from hq) with rfl | hq
      · exact List.mem_cons_self
      · exact List.mem_cons_of_mem _ (ih' (i + 1) q hq)
    | ref x =>
      rcases List.mem_cons.mp (show q ∈ (i, sm_tr ad (.ref x)) :: sm_as ad (i + 1) (sm_arg vs) from hq) with rfl | hq
      · exact List.mem_cons_self
      · exact List.mem_cons_of_mem _ (ih' (i + 1) q hq)
    | retAddr x =>
      rcases List.mem_cons.mp (show q ∈ (i, sm_tr ad (.retAddr x)) :: sm_as ad (i + 1) (sm_arg vs) from hq) with rfl | hq
      · exact List.mem_cons_self
      · exact List.mem_cons_of_mem _ (ih' (i + 1) q hq)
theorem sm_pad_get (n : Nat) (l : sm_Lo) (k : Nat) (v : Value) (h : (sm_pad n l)[k]? = some (some v)) : l[k]? = some (some v) := by
  unfold sm_pad at h
  rw [List.getElem?_append] at h
  split at h
  · exact h
  · rw [List.getElem?_replicate] at h; split at h <;> cases h
theorem sm_entry {ad : Nat → Nat} {nL : Nat} {as : List Value} (h1 : (sm_arg as).length ≤ nL) (h2 : ∀ v ∈ as, ∀ x, v ≠ .double x) :
    sm_lv ad ((lg_sl (as.map (sm_tr ad)) ++ List.replicate (nL - (lg_sl (as.map (sm_tr ad))).length) Slot.unset).toArray) nL (sm_pad nL (sm_arg as)) := by
  have h := lv_entry (as.map (sm_tr ad)) (n := nL) (by rw [sm_arg_slots as h2]; exact h1)
  refine ⟨⟨by simp [sm_pad]; omega, fun k v hk x => ?_⟩, lv_less h (fun q hq => ?_)⟩
  · have := sm_pad_get _ _ _ _ hk
    exact sm_arg_nd2 as h2 _ (List.mem_of_getElem? this) v rfl x
  · obtain ⟨k, v, hk, rfl⟩ := (sm_as_mem ad _ 0 q).mp hq
    exact sm_arg_sub ad as 0 h2 _ ((sm_as_mem ad _ 0 _).mpr ⟨k, v, sm_pad_get _ _ _ _ hk, rfl⟩)
set_option maxHeartbeats 1000000 in
theorem sm_method {l : Launch} {lay : List ((Nat × List Nat) ⊕ (Nat × Nat))} {T : sm_T} {hd : List Nat} {mt : Nat → sm_R} {L : List (Nat × sm_SP)} {rk d n : Nat} {st : Bool} {y : sm_M} {sp : sm_SP}
    (hcok : sm_cok) (hlok : sm_lok lay) (hKa : ∀ (pl ty n : Nat), lay[pl]? = some (.inr (ty, n)) → ty = 1 ∨ ty = 2 ∨ ty = 3) (hT : sm_tok mt T)
    (hy : sm_mok y) (hown : y.1.cls = T.1) (hrk : sm_rk rk y.2.2.2) (hwf : sm_wf lay y n st sp) (hcs : ∀ q ∈ L, sm_spok l lay mt d q.1 q.2) (hbody : sm_body lay (sm_nd T y.2.1 y.2.2.1 hd) y.2.2.1 rk (sm_cl L) sp) : sm_ok l lay y n st (d + 1) sp := by
  refine ⟨hwf, fun d' hd' D ad cA sz as g K hsp => ?_⟩
  obtain ⟨hw1, hw2, hw3, hw4⟩ := hwf as g K hsp
  refine Met.ofW (cc := y.2.1) (maxL := y.2.2.1) (ret := y.2.2.2) hy.2.2.1 rfl ?_
  intro p e s m args below meth c s₁ B hml hv
  obtain ⟨rfl, hsz, hP, hK, hD0, hN⟩ := hv
  have hts := atoms_spec (ws := Cond.code y.1 y.2.1 y.2.2.1 y.2.2.2 :: sm_BW) B.pre
  have hown' : s.vm.findClass T.1 = some m.cls := by rw [← hown]; exact findClass_of_methodNamed B.named
  have hlocks := B.notSynchronized
  subst hsz
  have C0 : sm_ctx p s m (as.map (sm_tr ad)).toArray c D ad cA (va_A (sm_pic lay ad cA g) s.heap.size) s.heap lay T.1 y.2.1 none :=
    ⟨B.exec, B.bytes, hown', fun w hw => hts w (List.mem_cons_of_mem _ hw), hK, fun g' => sm_pic_D hD0.self g', fun q hq => by cases hq⟩
  have hA : ∀ q, s.heap.size ≤ q → va_A (sm_pic lay ad cA g) s.heap.size q := fun q h => Or.inr h
  have hx := B.exec
  have hb := B.bytes
  have hr := B.returns
  have hret : sm_retok p l e (headSpec (Cond.code y.1 y.2.1 y.2.2.1 y.2.2.2 :: sm_BW) (sm_rm d')).room s m (as.map (sm_tr ad)).toArray below meth c (MQ below (sm_post lay D ad cA s.heap.size g K) (as.map (sm_tr ad)).toArray s 0 0 (va_A (sm_pic lay ad cA g) s.heap.size)) D ad cA (va_A (sm_pic lay ad cA g) s.heap.size) s.heap lay 0 0 y.2.1 rk K := by
    intro pc a H locs u hPu hSu
    refine ⟨fun x hdec hz hKx => ?_, fun x hdec h2 hKx => ?_, fun x hdec h3 hKx => ?_, fun hdec h4 hKx => ?_⟩
    · have hq : ∀ t : State, t.heap = H → s.WarmedH t.vm → sm_post lay D ad cA s.heap.size g K (as.map (sm_tr ad)).toArray s (.returned (some (.int x))) t := fun t ht _ => ⟨⟨some (.int x), u, rfl, hKx, by rw [ht]; exact hPu⟩, hSu.F ht⟩
      rcases hrk with ⟨rfl, hr0⟩ | ⟨rfl, hr0⟩ | ⟨rfl, hr0⟩ | ⟨rfl, hr0⟩ | ⟨rfl, hr0⟩
      · exact W.iret hx hb (hr.trans hr0) hq hSu.2.2 hdec
      · exact W.zret hx hb (hr.trans hr0) (sm_narrow_z (sm_zr_1 hz)) hq hSu.2.2 hdec
      · rcases hz with h | h
        · cases h
        · cases h.1
      · rcases hz with h | h
        · cases h
        · cases h.1
      · rcases hz with h | h
        · cases h
        · cases h.1
    · rcases hrk with ⟨rfl, hr0⟩ | ⟨rfl, hr0⟩ | ⟨rfl, hr0⟩ | ⟨rfl, hr0⟩ | ⟨rfl, hr0⟩
      · cases h2
      · cases h2
      · exact W.lret hx hb (hr.trans hr0) (fun t ht _ => ⟨⟨some (.long x), u, rfl, hKx, by rw [ht]; exact hPu⟩, hSu.F ht⟩) hSu.2.2 hdec
      · cases h2
      · cases h2
    · rcases hrk with ⟨rfl, hr0⟩ | ⟨rfl, hr0⟩ | ⟨rfl, hr0⟩ | ⟨rfl, nm, hr0⟩ | ⟨rfl, hr0⟩
      · cases h3
      · cases h3
      · cases h3
      · exact W.aret hx hb (hr.trans hr0) (Or.inl ⟨nm, rfl⟩) (Or.inr ⟨_, rfl⟩) (fun t ht _ => ⟨⟨some (.ref x), u, rfl, hKx, by rw [ht]; exact hPu⟩, hSu.F ht⟩) hSu.2.2 hdec
      · cases h3
    · rcases hrk with ⟨rfl, hr0⟩ | ⟨rfl, hr0⟩ | ⟨rfl, hr0⟩ | ⟨rfl, hr0⟩ | ⟨rfl, hr0⟩
      · cases h4
      · cases h4
      · cases h4
      · cases h4
      · exact W.vret hx hb (hr.trans hr0) (fun t ht _ => ⟨⟨none, u, rfl, hKx, by rw [ht]; exact hPu⟩, hSu.F ht⟩) hSu.2.2 hdec
  have hwalk := sm_walks (hd := hd) (nL := y.2.2.1) (cs := sm_cl L) (d := d) C0 hml hA hN hcok hlok hKa hT (sm_spok_cl hcs) ⟨hd', by show 40 * d + 40 ≤ 40 * d'; omega, Nat.zero_le _, Nat.zero_le _⟩ hret
  have hJ := hbody K _ _ hwalk as g hsp
  rw [lg_entry_eq]
  exact hJ _ s.heap [] (sm_entry hw1 hw2) hP va_S.rf
end
section
theorem zz_last : True := trivial
end
