section
-- ===== PART A: goes FIRST, ahead of the names: the tables' words, and 'selects' of the private methods out of them =====
/-- a private method of a class that the tables say can be made, by its rows of tables_1 -/
def lw_okq (q : MethodName × Nat) : Prop := (q.1.cls ≠ "java/lang/invoke/MethodHandle" ∧ q.1.cls ≠ "java/lang/invoke/VarHandle") ∧ Cond.instantiable q.1.cls q.2 ∈ tables_1 ∧ Cond.privateMethod q.1 ∈ tables_1 ∧ Cond.instanceMethod q.1 ∈ tables_1
theorem lw_p0 : lw_okq (⟨"TwinHalves", "feedNumber", "(I)V"⟩, 12) := ⟨⟨by decide +kernel, by decide +kernel⟩, List.mem_of_getElem? (i := 25) (by decide +kernel), List.mem_of_getElem? (i := 309) (by decide +kernel), List.mem_of_getElem? (i := 310) (by decide +kernel)⟩
theorem lw_p1 : lw_okq (⟨"TwinHalves$Tokens", "cutOne", "([BII)I"⟩, 6) := ⟨⟨by decide +kernel, by decide +kernel⟩, List.mem_of_getElem? (i := 39) (by decide +kernel), List.mem_of_getElem? (i := 329) (by decide +kernel), List.mem_of_getElem? (i := 330) (by decide +kernel)⟩
theorem lw_p2 : lw_okq (⟨"TwinHalves$Tokens", "add", "(IIIJ)V"⟩, 6) := ⟨⟨by decide +kernel, by decide +kernel⟩, List.mem_of_getElem? (i := 39) (by decide +kernel), List.mem_of_getElem? (i := 333) (by decide +kernel), List.mem_of_getElem? (i := 334) (by decide +kernel)⟩
theorem lw_p3 : lw_okq (⟨"TwinHalves$Tokens", "cutName", "([BII)I"⟩, 6) := ⟨⟨by decide +kernel, by decide +kernel⟩, List.mem_of_getElem? (i := 39) (by decide +kernel), List.mem_of_getElem? (i := 340) (by decide +kernel), List.mem_of_getElem? (i := 341) (by decide +kernel)⟩
theorem lw_p4 : lw_okq (⟨"TwinHalves$Tokens", "cutNumber", "([BII)I"⟩, 6) := ⟨⟨by decide +kernel, by decide +kernel⟩, List.mem_of_getElem? (i := 39) (by decide +kernel), List.mem_of_getElem? (i := 407) (by decide +kernel), List.mem_of_getElem? (i := 408) (by decide +kernel)⟩
theorem lw_p5 : lw_okq (⟨"TwinHalves$Reader", "readAct", "(ILTwinHalves$Program;)I"⟩, 3) := ⟨⟨by decide +kernel, by decide +kernel⟩, List.mem_of_getElem? (i := 33) (by decide +kernel), List.mem_of_getElem? (i := 413) (by decide +kernel), List.mem_of_getElem? (i := 414) (by decide +kernel)⟩
theorem lw_p6 : lw_okq (⟨"TwinHalves$Reader", "mayBegin", "(ILTwinHalves$Program;)Z"⟩, 3) := ⟨⟨by decide +kernel, by decide +kernel⟩, List.mem_of_getElem? (i := 33) (by decide +kernel), List.mem_of_getElem? (i := 417) (by decide +kernel), List.mem_of_getElem? (i := 418) (by decide +kernel)⟩
theorem lw_p7 : lw_okq (⟨"TwinHalves$Reader", "refuse", "(II)Z"⟩, 3) := ⟨⟨by decide +kernel, by decide +kernel⟩, List.mem_of_getElem? (i := 33) (by decide +kernel), List.mem_of_getElem? (i := 425) (by decide +kernel), List.mem_of_getElem? (i := 426) (by decide +kernel)⟩
theorem lw_p8 : lw_okq (⟨"TwinHalves$Reader", "stands", "(II)Z"⟩, 3) := ⟨⟨by decide +kernel, by decide +kernel⟩, List.mem_of_getElem? (i := 33) (by decide +kernel), List.mem_of_getElem? (i := 441) (by decide +kernel), List.mem_of_getElem? (i := 442) (by decide +kernel)⟩
theorem lw_p9 : lw_okq (⟨"TwinHalves$Reader", "readTaken", "(ILjava/lang/String;ILTwinHalves$Program;)I"⟩, 3) := ⟨⟨by decide +kernel, by decide +kernel⟩, List.mem_of_getElem? (i := 33) (by decide +kernel), List.mem_of_getElem? (i := 450) (by decide +kernel), List.mem_of_getElem? (i := 451) (by decide +kernel)⟩
theorem lw_p10 : lw_okq (⟨"TwinHalves$Reader", "bindLabels", "(LTwinHalves$Program;)V"⟩, 3) := ⟨⟨by decide +kernel, by decide +kernel⟩, List.mem_of_getElem? (i := 33) (by decide +kernel), List.mem_of_getElem? (i := 460) (by decide +kernel), List.mem_of_getElem? (i := 461) (by decide +kernel)⟩
theorem lw_p11 : lw_okq (⟨"TwinHalves$Reader", "bind", "(LTwinHalves$Program;I)V"⟩, 3) := ⟨⟨by decide +kernel, by decide +kernel⟩, List.mem_of_getElem? (i := 33) (by decide +kernel), List.mem_of_getElem? (i := 464) (by decide +kernel), List.mem_of_getElem? (i := 465) (by decide +kernel)⟩
theorem lw_p12 : lw_okq (⟨"TwinHalves$Runner", "hasNext", "()Z"⟩, 10) := ⟨⟨by decide +kernel, by decide +kernel⟩, List.mem_of_getElem? (i := 190) (by decide +kernel), List.mem_of_getElem? (i := 484) (by decide +kernel), List.mem_of_getElem? (i := 485) (by decide +kernel)⟩
theorem lw_p13 : lw_okq (⟨"TwinHalves$Doer", "give", "(III)I"⟩, 1) := ⟨⟨by decide +kernel, by decide +kernel⟩, List.mem_of_getElem? (i := 180) (by decide +kernel), List.mem_of_getElem? (i := 515) (by decide +kernel), List.mem_of_getElem? (i := 516) (by decide +kernel)⟩
theorem lw_p14 : lw_okq (⟨"TwinHalves$Doer", "makeThing", "(III)I"⟩, 1) := ⟨⟨by decide +kernel, by decide +kernel⟩, List.mem_of_getElem? (i := 180) (by decide +kernel), List.mem_of_getElem? (i := 519) (by decide +kernel), List.mem_of_getElem? (i := 520) (by decide +kernel)⟩
theorem lw_p15 : lw_okq (⟨"TwinHalves$Memory", "halfOf", "(I)I"⟩, 12) := ⟨⟨by decide +kernel, by decide +kernel⟩, List.mem_of_getElem? (i := 111) (by decide +kernel), List.mem_of_getElem? (i := 539) (by decide +kernel), List.mem_of_getElem? (i := 540) (by decide +kernel)⟩
def lw_privs_1 : List (MethodName × Nat) := [(⟨"TwinHalves", "feedNumber", "(I)V"⟩, 12), (⟨"TwinHalves$Tokens", "cutOne", "([BII)I"⟩, 6), (⟨"TwinHalves$Tokens", "add", "(IIIJ)V"⟩, 6), (⟨"TwinHalves$Tokens", "cutName", "([BII)I"⟩, 6), (⟨"TwinHalves$Tokens", "cutNumber", "([BII)I"⟩, 6), (⟨"TwinHalves$Reader", "readAct", "(ILTwinHalves$Program;)I"⟩, 3), (⟨"TwinHalves$Reader", "mayBegin", "(ILTwinHalves$Program;)Z"⟩, 3), (⟨"TwinHalves$Reader", "refuse", "(II)Z"⟩, 3), (⟨"TwinHalves$Reader", "stands", "(II)Z"⟩, 3), (⟨"TwinHalves$Reader", "readTaken", "(ILjava/lang/String;ILTwinHalves$Program;)I"⟩, 3), (⟨"TwinHalves$Reader", "bindLabels", "(LTwinHalves$Program;)V"⟩, 3), (⟨"TwinHalves$Reader", "bind", "(LTwinHalves$Program;I)V"⟩, 3), (⟨"TwinHalves$Runner", "hasNext", "()Z"⟩, 10), (⟨"TwinHalves$Doer", "give", "(III)I"⟩, 1), (⟨"TwinHalves$Doer", "makeThing", "(III)I"⟩, 1), (⟨"TwinHalves$Memory", "halfOf", "(I)I"⟩, 12)]
theorem lw_r1 : ∀ q ∈ lw_privs_1, lw_okq q := List.forall_mem_cons.mpr ⟨lw_p0, List.forall_mem_cons.mpr ⟨lw_p1, List.forall_mem_cons.mpr ⟨lw_p2, List.forall_mem_cons.mpr ⟨lw_p3, List.forall_mem_cons.mpr ⟨lw_p4, List.forall_mem_cons.mpr ⟨lw_p5, List.forall_mem_cons.mpr ⟨lw_p6, List.forall_mem_cons.mpr ⟨lw_p7, List.forall_mem_cons.mpr ⟨lw_p8, List.forall_mem_cons.mpr ⟨lw_p9, List.forall_mem_cons.mpr ⟨lw_p10, List.forall_mem_cons.mpr ⟨lw_p11, List.forall_mem_cons.mpr ⟨lw_p12, List.forall_mem_cons.mpr ⟨lw_p13, List.forall_mem_cons.mpr ⟨lw_p14, List.forall_mem_cons.mpr ⟨lw_p15, fun _ h => absurd h List.not_mem_nil⟩⟩⟩⟩⟩⟩⟩⟩⟩⟩⟩⟩⟩⟩⟩⟩
theorem lw_p16 : lw_okq (⟨"TwinHalves$Memory", "move", "(I)I"⟩, 12) := ⟨⟨by decide +kernel, by decide +kernel⟩, List.mem_of_getElem? (i := 111) (by decide +kernel), List.mem_of_getElem? (i := 543) (by decide +kernel), List.mem_of_getElem? (i := 544) (by decide +kernel)⟩
theorem lw_p17 : lw_okq (⟨"TwinHalves$Doer", "readSlot", "(III)I"⟩, 1) := ⟨⟨by decide +kernel, by decide +kernel⟩, List.mem_of_getElem? (i := 180) (by decide +kernel), List.mem_of_getElem? (i := 571) (by decide +kernel), List.mem_of_getElem? (i := 572) (by decide +kernel)⟩
theorem lw_p18 : lw_okq (⟨"TwinHalves$Doer", "hasThing", "(I)Z"⟩, 1) := ⟨⟨by decide +kernel, by decide +kernel⟩, List.mem_of_getElem? (i := 180) (by decide +kernel), List.mem_of_getElem? (i := 575) (by decide +kernel), List.mem_of_getElem? (i := 576) (by decide +kernel)⟩
theorem lw_p19 : lw_okq (⟨"TwinHalves$Doer", "writeSlot", "(III)I"⟩, 1) := ⟨⟨by decide +kernel, by decide +kernel⟩, List.mem_of_getElem? (i := 180) (by decide +kernel), List.mem_of_getElem? (i := 588) (by decide +kernel), List.mem_of_getElem? (i := 589) (by decide +kernel)⟩
theorem lw_p20 : lw_okq (⟨"TwinHalves$Doer", "reckon", "(LTwinHalves$Act;II)I"⟩, 1) := ⟨⟨by decide +kernel, by decide +kernel⟩, List.mem_of_getElem? (i := 180) (by decide +kernel), List.mem_of_getElem? (i := 602) (by decide +kernel), List.mem_of_getElem? (i := 603) (by decide +kernel)⟩
theorem lw_p21 : lw_okq (⟨"TwinHalves$Doer", "haveSame", "(II)Z"⟩, 1) := ⟨⟨by decide +kernel, by decide +kernel⟩, List.mem_of_getElem? (i := 180) (by decide +kernel), List.mem_of_getElem? (i := 606) (by decide +kernel), List.mem_of_getElem? (i := 607) (by decide +kernel)⟩
theorem lw_p22 : lw_okq (⟨"TwinHalves$Doer", "pushHand", "(I)I"⟩, 1) := ⟨⟨by decide +kernel, by decide +kernel⟩, List.mem_of_getElem? (i := 180) (by decide +kernel), List.mem_of_getElem? (i := 610) (by decide +kernel), List.mem_of_getElem? (i := 611) (by decide +kernel)⟩
theorem lw_p23 : lw_okq (⟨"TwinHalves$Doer", "popHand", "(I)I"⟩, 1) := ⟨⟨by decide +kernel, by decide +kernel⟩, List.mem_of_getElem? (i := 180) (by decide +kernel), List.mem_of_getElem? (i := 615) (by decide +kernel), List.mem_of_getElem? (i := 616) (by decide +kernel)⟩
theorem lw_p24 : lw_okq (⟨"TwinHalves$Memory", "placeOf", "(I)I"⟩, 12) := ⟨⟨by decide +kernel, by decide +kernel⟩, List.mem_of_getElem? (i := 111) (by decide +kernel), List.mem_of_getElem? (i := 645) (by decide +kernel), List.mem_of_getElem? (i := 646) (by decide +kernel)⟩
theorem lw_p25 : lw_okq (⟨"TwinHalves$Memory", "aboutWord", "(III)I"⟩, 12) := ⟨⟨by decide +kernel, by decide +kernel⟩, List.mem_of_getElem? (i := 111) (by decide +kernel), List.mem_of_getElem? (i := 649) (by decide +kernel), List.mem_of_getElem? (i := 650) (by decide +kernel)⟩
theorem lw_p26 : lw_okq (⟨"TwinHalves$Walk", "clear", "()V"⟩, 4) := ⟨⟨by decide +kernel, by decide +kernel⟩, List.mem_of_getElem? (i := 233) (by decide +kernel), List.mem_of_getElem? (i := 675) (by decide +kernel), List.mem_of_getElem? (i := 676) (by decide +kernel)⟩
theorem lw_p27 : lw_okq (⟨"TwinHalves$Walk", "meet", "(II)I"⟩, 4) := ⟨⟨by decide +kernel, by decide +kernel⟩, List.mem_of_getElem? (i := 233) (by decide +kernel), List.mem_of_getElem? (i := 680) (by decide +kernel), List.mem_of_getElem? (i := 681) (by decide +kernel)⟩
theorem lw_p28 : lw_okq (⟨"TwinHalves$Walk", "writeWord", "(IILTwinHalves$Text;)V"⟩, 4) := ⟨⟨by decide +kernel, by decide +kernel⟩, List.mem_of_getElem? (i := 233) (by decide +kernel), List.mem_of_getElem? (i := 698) (by decide +kernel), List.mem_of_getElem? (i := 699) (by decide +kernel)⟩
theorem lw_p29 : lw_okq (⟨"TwinHalves$Walk", "writeThing", "(ILTwinHalves$Text;)V"⟩, 4) := ⟨⟨by decide +kernel, by decide +kernel⟩, List.mem_of_getElem? (i := 233) (by decide +kernel), List.mem_of_getElem? (i := 714) (by decide +kernel), List.mem_of_getElem? (i := 715) (by decide +kernel)⟩
theorem lw_p30 : lw_okq (⟨"java/lang/Throwable", "fillInStackTrace", "(I)Ljava/lang/Throwable;"⟩, 6) := ⟨⟨by decide +kernel, by decide +kernel⟩, List.mem_of_getElem? (i := 772) (by decide +kernel), List.mem_of_getElem? (i := 770) (by decide +kernel), List.mem_of_getElem? (i := 771) (by decide +kernel)⟩
theorem lw_p31 : lw_okq (⟨"TwinHalves$Runner", "goOnAt", "(I)I"⟩, 10) := ⟨⟨by decide +kernel, by decide +kernel⟩, List.mem_of_getElem? (i := 190) (by decide +kernel), List.mem_of_getElem? (i := 806) (by decide +kernel), List.mem_of_getElem? (i := 807) (by decide +kernel)⟩
def lw_privs_2 : List (MethodName × Nat) := [(⟨"TwinHalves$Memory", "move", "(I)I"⟩, 12), (⟨"TwinHalves$Doer", "readSlot", "(III)I"⟩, 1), (⟨"TwinHalves$Doer", "hasThing", "(I)Z"⟩, 1), (⟨"TwinHalves$Doer", "writeSlot", "(III)I"⟩, 1), (⟨"TwinHalves$Doer", "reckon", "(LTwinHalves$Act;II)I"⟩, 1), (⟨"TwinHalves$Doer", "haveSame", "(II)Z"⟩, 1), (⟨"TwinHalves$Doer", "pushHand", "(I)I"⟩, 1), (⟨"TwinHalves$Doer", "popHand", "(I)I"⟩, 1), (⟨"TwinHalves$Memory", "placeOf", "(I)I"⟩, 12), (⟨"TwinHalves$Memory", "aboutWord", "(III)I"⟩, 12), (⟨"TwinHalves$Walk", "clear", "()V"⟩, 4), (⟨"TwinHalves$Walk", "meet", "(II)I"⟩, 4), (⟨"TwinHalves$Walk", "writeWord", "(IILTwinHalves$Text;)V"⟩, 4), (⟨"TwinHalves$Walk", "writeThing", "(ILTwinHalves$Text;)V"⟩, 4), (⟨"java/lang/Throwable", "fillInStackTrace", "(I)Ljava/lang/Throwable;"⟩, 6), (⟨"TwinHalves$Runner", "goOnAt", "(I)I"⟩, 10)]
theorem lw_r2 : ∀ q ∈ lw_privs_2, lw_okq q := List.forall_mem_cons.mpr ⟨lw_p16, List.forall_mem_cons.mpr ⟨lw_p17, List.forall_mem_cons.mpr ⟨lw_p18, List.forall_mem_cons.mpr ⟨lw_p19, List.forall_mem_cons.mpr ⟨lw_p20, List.forall_mem_cons.mpr ⟨lw_p21, List.forall_mem_cons.mpr ⟨lw_p22, List.forall_mem_cons.mpr ⟨lw_p23, List.forall_mem_cons.mpr ⟨lw_p24, List.forall_mem_cons.mpr ⟨lw_p25, List.forall_mem_cons.mpr ⟨lw_p26, List.forall_mem_cons.mpr ⟨lw_p27, List.forall_mem_cons.mpr ⟨lw_p28, List.forall_mem_cons.mpr ⟨lw_p29, List.forall_mem_cons.mpr ⟨lw_p30, List.forall_mem_cons.mpr ⟨lw_p31, fun _ h => absurd h List.not_mem_nil⟩⟩⟩⟩⟩⟩⟩⟩⟩⟩⟩⟩⟩⟩⟩⟩
theorem lw_p32 : lw_okq (⟨"TwinHalves$Runner", "steer", "(LTwinHalves$Act;II)I"⟩, 10) := ⟨⟨by decide +kernel, by decide +kernel⟩, List.mem_of_getElem? (i := 190) (by decide +kernel), List.mem_of_getElem? (i := 840) (by decide +kernel), List.mem_of_getElem? (i := 841) (by decide +kernel)⟩
theorem lw_p33 : lw_okq (⟨"TwinHalves$Runner", "say", "(I)I"⟩, 10) := ⟨⟨by decide +kernel, by decide +kernel⟩, List.mem_of_getElem? (i := 190) (by decide +kernel), List.mem_of_getElem? (i := 846) (by decide +kernel), List.mem_of_getElem? (i := 847) (by decide +kernel)⟩
theorem lw_p34 : lw_okq (⟨"TwinHalves$Runner", "openCall", "(I)I"⟩, 10) := ⟨⟨by decide +kernel, by decide +kernel⟩, List.mem_of_getElem? (i := 190) (by decide +kernel), List.mem_of_getElem? (i := 852) (by decide +kernel), List.mem_of_getElem? (i := 853) (by decide +kernel)⟩
theorem lw_p35 : lw_okq (⟨"TwinHalves$Runner", "goBack", "()I"⟩, 10) := ⟨⟨by decide +kernel, by decide +kernel⟩, List.mem_of_getElem? (i := 190) (by decide +kernel), List.mem_of_getElem? (i := 856) (by decide +kernel), List.mem_of_getElem? (i := 857) (by decide +kernel)⟩
theorem lw_p36 : lw_okq (⟨"TwinHalvesModel", "tellWords", "()V"⟩, 70) := ⟨⟨by decide +kernel, by decide +kernel⟩, List.mem_of_getElem? (i := 889) (by decide +kernel), List.mem_of_getElem? (i := 896) (by decide +kernel), List.mem_of_getElem? (i := 897) (by decide +kernel)⟩
theorem lw_p37 : lw_okq (⟨"TwinHalvesModel", "passOne", "()Z"⟩, 70) := ⟨⟨by decide +kernel, by decide +kernel⟩, List.mem_of_getElem? (i := 889) (by decide +kernel), List.mem_of_getElem? (i := 1123) (by decide +kernel), List.mem_of_getElem? (i := 1124) (by decide +kernel)⟩
theorem lw_p38 : lw_okq (⟨"TwinHalvesModel", "takes", "(I)I"⟩, 70) := ⟨⟨by decide +kernel, by decide +kernel⟩, List.mem_of_getElem? (i := 889) (by decide +kernel), List.mem_of_getElem? (i := 1127) (by decide +kernel), List.mem_of_getElem? (i := 1128) (by decide +kernel)⟩
theorem lw_p39 : lw_okq (⟨"TwinHalvesModel", "isOld", "(II)Z"⟩, 70) := ⟨⟨by decide +kernel, by decide +kernel⟩, List.mem_of_getElem? (i := 889) (by decide +kernel), List.mem_of_getElem? (i := 1131) (by decide +kernel), List.mem_of_getElem? (i := 1132) (by decide +kernel)⟩
theorem lw_p40 : lw_okq (⟨"TwinHalvesModel", "move", "(I)Z"⟩, 70) := ⟨⟨by decide +kernel, by decide +kernel⟩, List.mem_of_getElem? (i := 889) (by decide +kernel), List.mem_of_getElem? (i := 1135) (by decide +kernel), List.mem_of_getElem? (i := 1136) (by decide +kernel)⟩
theorem lw_p41 : lw_okq (⟨"TwinHalvesModel", "turnOver", "()V"⟩, 70) := ⟨⟨by decide +kernel, by decide +kernel⟩, List.mem_of_getElem? (i := 889) (by decide +kernel), List.mem_of_getElem? (i := 1143) (by decide +kernel), List.mem_of_getElem? (i := 1144) (by decide +kernel)⟩
theorem lw_p42 : lw_okq (⟨"TwinHalvesModel", "does", "(IIII)I"⟩, 70) := ⟨⟨by decide +kernel, by decide +kernel⟩, List.mem_of_getElem? (i := 889) (by decide +kernel), List.mem_of_getElem? (i := 1163) (by decide +kernel), List.mem_of_getElem? (i := 1164) (by decide +kernel)⟩
theorem lw_p43 : lw_okq (⟨"TwinHalvesModel", "give", "(III)V"⟩, 70) := ⟨⟨by decide +kernel, by decide +kernel⟩, List.mem_of_getElem? (i := 889) (by decide +kernel), List.mem_of_getElem? (i := 1167) (by decide +kernel), List.mem_of_getElem? (i := 1168) (by decide +kernel)⟩
theorem lw_p44 : lw_okq (⟨"TwinHalvesModel", "makes", "(IIZ)I"⟩, 70) := ⟨⟨by decide +kernel, by decide +kernel⟩, List.mem_of_getElem? (i := 889) (by decide +kernel), List.mem_of_getElem? (i := 1171) (by decide +kernel), List.mem_of_getElem? (i := 1172) (by decide +kernel)⟩
theorem lw_p45 : lw_okq (⟨"TwinHalvesModel", "make", "(IIZ)I"⟩, 70) := ⟨⟨by decide +kernel, by decide +kernel⟩, List.mem_of_getElem? (i := 889) (by decide +kernel), List.mem_of_getElem? (i := 1175) (by decide +kernel), List.mem_of_getElem? (i := 1176) (by decide +kernel)⟩
theorem lw_p46 : lw_okq (⟨"TwinHalvesModel", "isNumber", "(I)Z"⟩, 70) := ⟨⟨by decide +kernel, by decide +kernel⟩, List.mem_of_getElem? (i := 889) (by decide +kernel), List.mem_of_getElem? (i := 1179) (by decide +kernel), List.mem_of_getElem? (i := 1180) (by decide +kernel)⟩
theorem lw_p47 : lw_okq (⟨"TwinHalvesModel", "reads", "(III)I"⟩, 70) := ⟨⟨by decide +kernel, by decide +kernel⟩, List.mem_of_getElem? (i := 889) (by decide +kernel), List.mem_of_getElem? (i := 1183) (by decide +kernel), List.mem_of_getElem? (i := 1184) (by decide +kernel)⟩
def lw_privs_3 : List (MethodName × Nat) := [(⟨"TwinHalves$Runner", "steer", "(LTwinHalves$Act;II)I"⟩, 10), (⟨"TwinHalves$Runner", "say", "(I)I"⟩, 10), (⟨"TwinHalves$Runner", "openCall", "(I)I"⟩, 10), (⟨"TwinHalves$Runner", "goBack", "()I"⟩, 10), (⟨"TwinHalvesModel", "tellWords", "()V"⟩, 70), (⟨"TwinHalvesModel", "passOne", "()Z"⟩, 70), (⟨"TwinHalvesModel", "takes", "(I)I"⟩, 70), (⟨"TwinHalvesModel", "isOld", "(II)Z"⟩, 70), (⟨"TwinHalvesModel", "move", "(I)Z"⟩, 70), (⟨"TwinHalvesModel", "turnOver", "()V"⟩, 70), (⟨"TwinHalvesModel", "does", "(IIII)I"⟩, 70), (⟨"TwinHalvesModel", "give", "(III)V"⟩, 70), (⟨"TwinHalvesModel", "makes", "(IIZ)I"⟩, 70), (⟨"TwinHalvesModel", "make", "(IIZ)I"⟩, 70), (⟨"TwinHalvesModel", "isNumber", "(I)Z"⟩, 70), (⟨"TwinHalvesModel", "reads", "(III)I"⟩, 70)]
theorem lw_r3 : ∀ q ∈ lw_privs_3, lw_okq q := List.forall_mem_cons.mpr ⟨lw_p32, List.forall_mem_cons.mpr ⟨lw_p33, List.forall_mem_cons.mpr ⟨lw_p34, List.forall_mem_cons.mpr ⟨lw_p35, List.forall_mem_cons.mpr ⟨lw_p36, List.forall_mem_cons.mpr ⟨lw_p37, List.forall_mem_cons.mpr ⟨lw_p38, List.forall_mem_cons.mpr ⟨lw_p39, List.forall_mem_cons.mpr ⟨lw_p40, List.forall_mem_cons.mpr ⟨lw_p41, List.forall_mem_cons.mpr ⟨lw_p42, List.forall_mem_cons.mpr ⟨lw_p43, List.forall_mem_cons.mpr ⟨lw_p44, List.forall_mem_cons.mpr ⟨lw_p45, List.forall_mem_cons.mpr ⟨lw_p46, List.forall_mem_cons.mpr ⟨lw_p47, fun _ h => absurd h List.not_mem_nil⟩⟩⟩⟩⟩⟩⟩⟩⟩⟩⟩⟩⟩⟩⟩⟩
theorem lw_p48 : lw_okq (⟨"TwinHalvesModel", "isThing", "(I)Z"⟩, 70) := ⟨⟨by decide +kernel, by decide +kernel⟩, List.mem_of_getElem? (i := 889) (by decide +kernel), List.mem_of_getElem? (i := 1187) (by decide +kernel), List.mem_of_getElem? (i := 1188) (by decide +kernel)⟩
theorem lw_p49 : lw_okq (⟨"TwinHalvesModel", "writes", "(III)I"⟩, 70) := ⟨⟨by decide +kernel, by decide +kernel⟩, List.mem_of_getElem? (i := 889) (by decide +kernel), List.mem_of_getElem? (i := 1191) (by decide +kernel), List.mem_of_getElem? (i := 1192) (by decide +kernel)⟩
theorem lw_p50 : lw_okq (⟨"TwinHalvesModel", "sortOf", "(II)I"⟩, 70) := ⟨⟨by decide +kernel, by decide +kernel⟩, List.mem_of_getElem? (i := 889) (by decide +kernel), List.mem_of_getElem? (i := 1195) (by decide +kernel), List.mem_of_getElem? (i := 1196) (by decide +kernel)⟩
theorem lw_p51 : lw_okq (⟨"TwinHalvesModel", "reckons", "(IIII)I"⟩, 70) := ⟨⟨by decide +kernel, by decide +kernel⟩, List.mem_of_getElem? (i := 889) (by decide +kernel), List.mem_of_getElem? (i := 1199) (by decide +kernel), List.mem_of_getElem? (i := 1200) (by decide +kernel)⟩
theorem lw_p52 : lw_okq (⟨"TwinHalvesModel", "four", "(I)V"⟩, 70) := ⟨⟨by decide +kernel, by decide +kernel⟩, List.mem_of_getElem? (i := 889) (by decide +kernel), List.mem_of_getElem? (i := 1207) (by decide +kernel), List.mem_of_getElem? (i := 1208) (by decide +kernel)⟩
theorem lw_p53 : lw_okq (⟨"TwinHalvesModel", "cut", "()V"⟩, 70) := ⟨⟨by decide +kernel, by decide +kernel⟩, List.mem_of_getElem? (i := 889) (by decide +kernel), List.mem_of_getElem? (i := 1219) (by decide +kernel), List.mem_of_getElem? (i := 1220) (by decide +kernel)⟩
theorem lw_p54 : lw_okq (⟨"TwinHalvesModel", "good", "()Z"⟩, 70) := ⟨⟨by decide +kernel, by decide +kernel⟩, List.mem_of_getElem? (i := 889) (by decide +kernel), List.mem_of_getElem? (i := 1223) (by decide +kernel), List.mem_of_getElem? (i := 1224) (by decide +kernel)⟩
theorem lw_p55 : lw_okq (⟨"TwinHalvesModel", "isLetter", "(I)Z"⟩, 70) := ⟨⟨by decide +kernel, by decide +kernel⟩, List.mem_of_getElem? (i := 889) (by decide +kernel), List.mem_of_getElem? (i := 1227) (by decide +kernel), List.mem_of_getElem? (i := 1228) (by decide +kernel)⟩
theorem lw_p56 : lw_okq (⟨"TwinHalvesModel", "name", "(I)I"⟩, 70) := ⟨⟨by decide +kernel, by decide +kernel⟩, List.mem_of_getElem? (i := 889) (by decide +kernel), List.mem_of_getElem? (i := 1231) (by decide +kernel), List.mem_of_getElem? (i := 1232) (by decide +kernel)⟩
theorem lw_p57 : lw_okq (⟨"TwinHalvesModel", "isDigit", "(I)Z"⟩, 70) := ⟨⟨by decide +kernel, by decide +kernel⟩, List.mem_of_getElem? (i := 889) (by decide +kernel), List.mem_of_getElem? (i := 1235) (by decide +kernel), List.mem_of_getElem? (i := 1236) (by decide +kernel)⟩
theorem lw_p58 : lw_okq (⟨"TwinHalvesModel", "fails", "(II)V"⟩, 70) := ⟨⟨by decide +kernel, by decide +kernel⟩, List.mem_of_getElem? (i := 889) (by decide +kernel), List.mem_of_getElem? (i := 1239) (by decide +kernel), List.mem_of_getElem? (i := 1240) (by decide +kernel)⟩
theorem lw_p59 : lw_okq (⟨"TwinHalvesModel", "token", "(III)V"⟩, 70) := ⟨⟨by decide +kernel, by decide +kernel⟩, List.mem_of_getElem? (i := 889) (by decide +kernel), List.mem_of_getElem? (i := 1244) (by decide +kernel), List.mem_of_getElem? (i := 1245) (by decide +kernel)⟩
theorem lw_p60 : lw_okq (⟨"TwinHalvesModel", "number", "(I)I"⟩, 70) := ⟨⟨by decide +kernel, by decide +kernel⟩, List.mem_of_getElem? (i := 889) (by decide +kernel), List.mem_of_getElem? (i := 1248) (by decide +kernel), List.mem_of_getElem? (i := 1249) (by decide +kernel)⟩
theorem lw_p61 : lw_okq (⟨"TwinHalvesModel", "readAct", "()V"⟩, 70) := ⟨⟨by decide +kernel, by decide +kernel⟩, List.mem_of_getElem? (i := 889) (by decide +kernel), List.mem_of_getElem? (i := 1256) (by decide +kernel), List.mem_of_getElem? (i := 1257) (by decide +kernel)⟩
theorem lw_p62 : lw_okq (⟨"TwinHalvesModel", "labelOf", "(JI)I"⟩, 70) := ⟨⟨by decide +kernel, by decide +kernel⟩, List.mem_of_getElem? (i := 889) (by decide +kernel), List.mem_of_getElem? (i := 1260) (by decide +kernel), List.mem_of_getElem? (i := 1261) (by decide +kernel)⟩
theorem lw_p63 : lw_okq (⟨"TwinHalvesModel", "readTakes", "(I)V"⟩, 70) := ⟨⟨by decide +kernel, by decide +kernel⟩, List.mem_of_getElem? (i := 889) (by decide +kernel), List.mem_of_getElem? (i := 1264) (by decide +kernel), List.mem_of_getElem? (i := 1265) (by decide +kernel)⟩
def lw_privs_4 : List (MethodName × Nat) := [(⟨"TwinHalvesModel", "isThing", "(I)Z"⟩, 70), (⟨"TwinHalvesModel", "writes", "(III)I"⟩, 70), (⟨"TwinHalvesModel", "sortOf", "(II)I"⟩, 70), (⟨"TwinHalvesModel", "reckons", "(IIII)I"⟩, 70), (⟨"TwinHalvesModel", "four", "(I)V"⟩, 70), (⟨"TwinHalvesModel", "cut", "()V"⟩, 70), (⟨"TwinHalvesModel", "good", "()Z"⟩, 70), (⟨"TwinHalvesModel", "isLetter", "(I)Z"⟩, 70), (⟨"TwinHalvesModel", "name", "(I)I"⟩, 70), (⟨"TwinHalvesModel", "isDigit", "(I)Z"⟩, 70), (⟨"TwinHalvesModel", "fails", "(II)V"⟩, 70), (⟨"TwinHalvesModel", "token", "(III)V"⟩, 70), (⟨"TwinHalvesModel", "number", "(I)I"⟩, 70), (⟨"TwinHalvesModel", "readAct", "()V"⟩, 70), (⟨"TwinHalvesModel", "labelOf", "(JI)I"⟩, 70), (⟨"TwinHalvesModel", "readTakes", "(I)V"⟩, 70)]
theorem lw_r4 : ∀ q ∈ lw_privs_4, lw_okq q := List.forall_mem_cons.mpr ⟨lw_p48, List.forall_mem_cons.mpr ⟨lw_p49, List.forall_mem_cons.mpr ⟨lw_p50, List.forall_mem_cons.mpr ⟨lw_p51, List.forall_mem_cons.mpr ⟨lw_p52, List.forall_mem_cons.mpr ⟨lw_p53, List.forall_mem_cons.mpr ⟨lw_p54, List.forall_mem_cons.mpr ⟨lw_p55, List.forall_mem_cons.mpr ⟨lw_p56, List.forall_mem_cons.mpr ⟨lw_p57, List.forall_mem_cons.mpr ⟨lw_p58, List.forall_mem_cons.mpr ⟨lw_p59, List.forall_mem_cons.mpr ⟨lw_p60, List.forall_mem_cons.mpr ⟨lw_p61, List.forall_mem_cons.mpr ⟨lw_p62, List.forall_mem_cons.mpr ⟨lw_p63, fun _ h => absurd h List.not_mem_nil⟩⟩⟩⟩⟩⟩⟩⟩⟩⟩⟩⟩⟩⟩⟩⟩
theorem lw_p64 : lw_okq (⟨"TwinHalvesModel", "goes", "(I)V"⟩, 70) := ⟨⟨by decide +kernel, by decide +kernel⟩, List.mem_of_getElem? (i := 889) (by decide +kernel), List.mem_of_getElem? (i := 1276) (by decide +kernel), List.mem_of_getElem? (i := 1277) (by decide +kernel)⟩
theorem lw_p65 : lw_okq (⟨"TwinHalvesModel", "step", "()I"⟩, 70) := ⟨⟨by decide +kernel, by decide +kernel⟩, List.mem_of_getElem? (i := 889) (by decide +kernel), List.mem_of_getElem? (i := 1284) (by decide +kernel), List.mem_of_getElem? (i := 1285) (by decide +kernel)⟩
theorem lw_p66 : lw_okq (⟨"TwinHalvesModel", "told", "(III)I"⟩, 70) := ⟨⟨by decide +kernel, by decide +kernel⟩, List.mem_of_getElem? (i := 889) (by decide +kernel), List.mem_of_getElem? (i := 1300) (by decide +kernel), List.mem_of_getElem? (i := 1301) (by decide +kernel)⟩
theorem lw_p67 : lw_okq (⟨"TwinHalvesModel", "forget", "()V"⟩, 70) := ⟨⟨by decide +kernel, by decide +kernel⟩, List.mem_of_getElem? (i := 889) (by decide +kernel), List.mem_of_getElem? (i := 1316) (by decide +kernel), List.mem_of_getElem? (i := 1317) (by decide +kernel)⟩
theorem lw_p68 : lw_okq (⟨"TwinHalvesModel", "meet", "(II)V"⟩, 70) := ⟨⟨by decide +kernel, by decide +kernel⟩, List.mem_of_getElem? (i := 889) (by decide +kernel), List.mem_of_getElem? (i := 1320) (by decide +kernel), List.mem_of_getElem? (i := 1321) (by decide +kernel)⟩
theorem lw_p69 : lw_okq (⟨"TwinHalvesModel", "putWord", "(II)V"⟩, 70) := ⟨⟨by decide +kernel, by decide +kernel⟩, List.mem_of_getElem? (i := 889) (by decide +kernel), List.mem_of_getElem? (i := 1328) (by decide +kernel), List.mem_of_getElem? (i := 1329) (by decide +kernel)⟩
theorem lw_p70 : lw_okq (⟨"TwinHalvesModel", "putNumber", "(I)V"⟩, 70) := ⟨⟨by decide +kernel, by decide +kernel⟩, List.mem_of_getElem? (i := 889) (by decide +kernel), List.mem_of_getElem? (i := 1332) (by decide +kernel), List.mem_of_getElem? (i := 1333) (by decide +kernel)⟩
theorem lw_p71 : lw_okq (⟨"TwinHalvesModel", "put", "(I)V"⟩, 70) := ⟨⟨by decide +kernel, by decide +kernel⟩, List.mem_of_getElem? (i := 889) (by decide +kernel), List.mem_of_getElem? (i := 1336) (by decide +kernel), List.mem_of_getElem? (i := 1337) (by decide +kernel)⟩
def lw_privs_5 : List (MethodName × Nat) := [(⟨"TwinHalvesModel", "goes", "(I)V"⟩, 70), (⟨"TwinHalvesModel", "step", "()I"⟩, 70), (⟨"TwinHalvesModel", "told", "(III)I"⟩, 70), (⟨"TwinHalvesModel", "forget", "()V"⟩, 70), (⟨"TwinHalvesModel", "meet", "(II)V"⟩, 70), (⟨"TwinHalvesModel", "putWord", "(II)V"⟩, 70), (⟨"TwinHalvesModel", "putNumber", "(I)V"⟩, 70), (⟨"TwinHalvesModel", "put", "(I)V"⟩, 70)]
theorem lw_r5 : ∀ q ∈ lw_privs_5, lw_okq q := List.forall_mem_cons.mpr ⟨lw_p64, List.forall_mem_cons.mpr ⟨lw_p65, List.forall_mem_cons.mpr ⟨lw_p66, List.forall_mem_cons.mpr ⟨lw_p67, List.forall_mem_cons.mpr ⟨lw_p68, List.forall_mem_cons.mpr ⟨lw_p69, List.forall_mem_cons.mpr ⟨lw_p70, List.forall_mem_cons.mpr ⟨lw_p71, fun _ h => absurd h List.not_mem_nil⟩⟩⟩⟩⟩⟩⟩⟩
def lw_privs : List (MethodName × Nat) := lw_privs_1 ++ (lw_privs_2 ++ (lw_privs_3 ++ (lw_privs_4 ++ (lw_privs_5))))
def lw_tbl : List Cond := k2_sels lw_privs ++ tables_1
theorem lw_privs_ok : ∀ q ∈ lw_privs, lw_okq q := by
  show ∀ q ∈ lw_privs_1 ++ (lw_privs_2 ++ (lw_privs_3 ++ (lw_privs_4 ++ (lw_privs_5)))), lw_okq q
  exact List.forall_mem_append.mpr ⟨lw_r1, List.forall_mem_append.mpr ⟨lw_r2, List.forall_mem_append.mpr ⟨lw_r3, List.forall_mem_append.mpr ⟨lw_r4, lw_r5⟩⟩⟩⟩
end
section
/-! THE ABSTRACT MACHINE. A reference is a number: below 200 a cell that stood before the law (a constant), from 200 on the cells that were made since, in their order. -/
section ZF
/-- tables, array classes (0 byte, 1 int, 2 long, 3 boolean), the heap's size as the law began, where the constants are -/
abbrev z_G : Type := va_G × (Nat → ClassId) × Nat × (Nat → Nat)
def z_a (G : z_G) (k : Nat) : Nat := if k < 200 then G.2.2.2 k else G.2.2.1 + (k - 200)
def z_v (G : z_G) : Value → Value
  | .ref k => .ref (z_a G k)
  | v => v
def z_e (G : z_G) : va_E → va_E
  | .inl a => .inl (G.2.1 a.1, a.2)
  | .inr o => .inr (o.1, o.2.map (z_v G))
def z_ws (G : z_G) : Nat → List va_E → va_W
  | _, [] => []
  | k, x :: l => (G.2.2.1 + k, z_e G x) :: z_ws G (k + 1) l
def z_L (G : z_G) (L : List (Nat × Value)) : List (Nat × Value) := L.map (fun q => (q.1, z_v G q.2))
def z_A (G : z_G) : Nat → Prop := fun q => G.2.2.1 ≤ q
theorem z_v_cat (G : z_G) (v : Value) : (z_v G v).category = v.category := by cases v <;> rfl
theorem z_v_inj_int (G : z_G) {v : Value} {x : Int32} (h : z_v G v = .int x) : v = .int x := by cases v <;> first | exact h | cases h
theorem z_ws_get (G : z_G) (w : List va_E) : ∀ (k j : Nat), (z_ws G k w)[j]? = (w[j]?).map (fun x => (G.2.2.1 + (k + j), z_e G x)) := by
  induction w with
  | nil => intro k j; simp [z_ws]
  | cons x l ih =>
    intro k j
    cases j with
    | zero => simp [z_ws]
    | succ j => simp only [z_ws, List.getElem?_cons_succ]; rw [ih]; congr 1; funext y; congr 1; omega
theorem z_ws_at (G : z_G) {w : List va_E} {j : Nat} {x : va_E} (h : w[j]? = some x) : (z_ws G 0 w)[j]? = some (G.2.2.1 + j, z_e G x) := by
  rw [z_ws_get, h]; simp
theorem z_ws_set (G : z_G) (w : List va_E) (x : va_E) : ∀ (k j : Nat), (z_ws G k w).set j (G.2.2.1 + (k + j), z_e G x) = z_ws G k (w.set j x) := by
  induction w with
  | nil => intro k j; simp [z_ws]
  | cons y l ih =>
    intro k j
    cases j with
    | zero => simp [z_ws]
    | succ j => simp only [z_ws, List.set_cons_succ]; rw [← ih (k + 1) j]; congr 3; omega
theorem z_ws_set0 (G : z_G) (w : List va_E) (x : va_E) (j : Nat) : (z_ws G 0 w).set j (G.2.2.1 + j, z_e G x) = z_ws G 0 (w.set j x) := by
  have h := z_ws_set G w x 0 j
  rw [Nat.zero_add] at h
  exact h
theorem z_ws_app (G : z_G) (w : List va_E) (x : va_E) : ∀ (k : Nat), z_ws G k (w ++ [x]) = z_ws G k w ++ [(G.2.2.1 + (k + w.length), z_e G x)] := by
  induction w with
  | nil => intro k; simp [z_ws]
  | cons y l ih =>
    intro k
    simp only [z_ws, List.cons_append, List.length_cons]
    rw [ih]
    congr 4
    omega
theorem z_D (G : z_G) (w : List va_E) : va_D (z_A G) (z_ws G 0 w) := by
  refine ⟨fun i j p q hi hj h => ?_, fun k q hk => ?_⟩
  · rw [z_ws_get] at hi hj
    cases hwi : w[i]? with
    | none => rw [hwi] at hi; cases hi
    | some x =>
      cases hwj : w[j]? with
      | none => rw [hwj] at hj; cases hj
      | some y =>
        rw [hwi] at hi; rw [hwj] at hj
        simp only [Option.map_some, Option.some.injEq] at hi hj
        subst hi; subst hj
        simp only at h
        omega
  · rw [z_ws_get] at hk
    cases hw : w[k]? with
    | none => rw [hw] at hk; cases hk
    | some x =>
      rw [hw] at hk
      simp only [Option.map_some, Option.some.injEq] at hk
      subst hk
      show G.2.2.1 ≤ G.2.2.1 + (0 + k)
      omega
theorem z_Lat (G : z_G) {L : List (Nat × Value)} {k i : Nat} {v : Value} (h : L[k]? = some (i, v)) : (z_L G L)[k]? = some (i, z_v G v) := by
  unfold z_L
  rw [List.getElem?_map, h]; rfl
theorem z_Largs (G : z_G) (vs : List Value) : ∀ i, lv_args i (vs.map (z_v G)) = z_L G (lv_args i vs) := by
  induction vs with
  | nil => intro i; rfl
  | cons v l ih =>
    intro i
    simp only [List.map_cons, lv_args, z_L, z_v_cat]
    rw [ih]
    rfl
theorem z_Lsl (G : z_G) (vs : List Value) : (lg_sl (vs.map (z_v G))).length = (lg_sl vs).length := by
  unfold lg_sl
  induction vs with
  | nil => rfl
  | cons v l ih =>
    simp only [List.map_cons, List.flatMap_cons, List.length_append, z_v_cat]
    rw [ih]
    split <;> rfl
theorem z_Lfilter1 (G : z_G) (L : List (Nat × Value)) (i : Nat) : (z_L G L).filter (fun q => !(q.1 == i) && !(q.1 + 1 == i && q.2.category == 2)) = z_L G (L.filter (fun q => !(q.1 == i) && !(q.1 + 1 == i && q.2.category == 2))) := by
  unfold z_L
  rw [List.filter_map]
  congr 1
  apply List.filter_congr
  intro q _
  simp [z_v_cat]
theorem z_Lfilter2 (G : z_G) (L : List (Nat × Value)) (i : Nat) : (z_L G L).filter (fun q => !(q.1 == i) && (!(q.1 == i + 1) && !(q.1 + 1 == i && q.2.category == 2))) = z_L G (L.filter (fun q => !(q.1 == i) && (!(q.1 == i + 1) && !(q.1 + 1 == i && q.2.category == 2)))) := by
  unfold z_L
  rw [List.filter_map]
  congr 1
  apply List.filter_congr
  intro q _
  simp [z_v_cat]
theorem z_sum (G : z_G) (st : List Value) : ((st.map (z_v G)).map fun v => v.category).sum = (st.map fun v => v.category).sum := by
  rw [List.map_map]
  congr 1
  apply List.map_congr_left
  intro v _
  exact z_v_cat G v
end ZF
end
section
def RX0 : String := "TwinHalves$1"
def TX0 : u_T := fun k => match k with
  | _ => ("", "", "", false)
def tyX0 : Nat → FieldType := fun k => match k with
  | _ => .int
abbrev wsX00 : List Cond := u_ws RX0 TX0 0
theorem nmX0 : ∀ a, a < 0 → ∀ b, b < 0 → a ≠ b → (TX0 a).2.1 ≠ (TX0 b).2.1 := by decide +kernel
theorem tyX0_ok : ∀ k, k < 0 → parseFieldDescriptor (TX0 k).2.2.1 = some (tyX0 k) := by decide +kernel
def RX1 : String := "TwinHalves$Act"
def TX1 : u_T := fun k => match k with
  | _ => ("", "", "", false)
def tyX1 : Nat → FieldType := fun k => match k with
  | _ => .int
abbrev wsX10 : List Cond := u_ws RX1 TX1 0
theorem nmX1 : ∀ a, a < 0 → ∀ b, b < 0 → a ≠ b → (TX1 a).2.1 ≠ (TX1 b).2.1 := by decide +kernel
theorem tyX1_ok : ∀ k, k < 0 → parseFieldDescriptor (TX1 k).2.2.1 = some (tyX1 k) := by decide +kernel
def RX2 : String := "TwinHalves$Doer"
def TX2 : u_T := fun k => match k with
  | _ => ("TwinHalves$Doer", "memory", "LTwinHalves$Memory;", true)
def tyX2 : Nat → FieldType := fun k => match k with
  | _ => .object "TwinHalves$Memory"
abbrev wsX20 : List Cond := u_ws RX2 TX2 1
theorem nmX2 : ∀ a, a < 1 → ∀ b, b < 1 → a ≠ b → (TX2 a).2.1 ≠ (TX2 b).2.1 := by decide +kernel
theorem tyX2_ok : ∀ k, k < 1 → parseFieldDescriptor (TX2 k).2.2.1 = some (tyX2 k) := by decide +kernel
abbrev cX2_init : ByteArray := prog_4_method_1_code
def yX2_init : MethodName := ⟨RX2, "<init>", "(LTwinHalves$Memory;)V"⟩
abbrev cX2_perform : ByteArray := prog_4_method_2_code
def yX2_perform : MethodName := ⟨RX2, "perform", "(LTwinHalves$Act;III)I"⟩
abbrev cX2_hasNumber : ByteArray := prog_4_method_3_code
def yX2_hasNumber : MethodName := ⟨RX2, "hasNumber", "(I)Z"⟩
abbrev cX2_number : ByteArray := prog_4_method_4_code
def yX2_number : MethodName := ⟨RX2, "number", "(I)I"⟩
abbrev cX2_hasThing : ByteArray := prog_4_method_5_code
def yX2_hasThing : MethodName := ⟨RX2, "hasThing", "(I)Z"⟩
abbrev cX2_give : ByteArray := prog_4_method_6_code
def yX2_give : MethodName := ⟨RX2, "give", "(III)I"⟩
abbrev cX2_makeThing : ByteArray := prog_4_method_7_code
def yX2_makeThing : MethodName := ⟨RX2, "makeThing", "(III)I"⟩
abbrev cX2_readSlot : ByteArray := prog_4_method_8_code
def yX2_readSlot : MethodName := ⟨RX2, "readSlot", "(III)I"⟩
abbrev cX2_writeSlot : ByteArray := prog_4_method_9_code
def yX2_writeSlot : MethodName := ⟨RX2, "writeSlot", "(III)I"⟩
abbrev cX2_reckon : ByteArray := prog_4_method_10_code
def yX2_reckon : MethodName := ⟨RX2, "reckon", "(LTwinHalves$Act;II)I"⟩
abbrev cX2_haveSame : ByteArray := prog_4_method_11_code
def yX2_haveSame : MethodName := ⟨RX2, "haveSame", "(II)Z"⟩
abbrev cX2_pushHand : ByteArray := prog_4_method_12_code
def yX2_pushHand : MethodName := ⟨RX2, "pushHand", "(I)I"⟩
abbrev cX2_popHand : ByteArray := prog_4_method_13_code
def yX2_popHand : MethodName := ⟨RX2, "popHand", "(I)I"⟩
def RX3 : String := "TwinHalves$Memory"
def TX3 : u_T := fun k => match k with
  | 0 => ("TwinHalves$Memory", "size", "I", true)
  | 1 => ("TwinHalves$Memory", "k", "I", true)
  | 2 => ("TwinHalves$Memory", "tags", "[I", true)
  | 3 => ("TwinHalves$Memory", "values", "[I", true)
  | 4 => ("TwinHalves$Memory", "rootTags", "[I", true)
  | 5 => ("TwinHalves$Memory", "rootValues", "[I", true)
  | 6 => ("TwinHalves$Memory", "height", "I", false)
  | 7 => ("TwinHalves$Memory", "present", "I", false)
  | 8 => ("TwinHalves$Memory", "floor", "I", false)
  | 9 => ("TwinHalves$Memory", "passed", "I", false)
  | 10 => ("TwinHalves$Memory", "roof", "I", false)
  | _ => ("TwinHalves$Memory", "counts", "[I", true)
def tyX3 : Nat → FieldType := fun k => match k with
  | 0 => .int
  | 1 => .int
  | 2 => .array .int
  | 3 => .array .int
  | 4 => .array .int
  | 5 => .array .int
  | 6 => .int
  | 7 => .int
  | 8 => .int
  | 9 => .int
  | 10 => .int
  | _ => .array .int
abbrev wsX30 : List Cond := u_ws RX3 TX3 12
theorem nmX3 : ∀ a, a < 12 → ∀ b, b < 12 → a ≠ b → (TX3 a).2.1 ≠ (TX3 b).2.1 := by decide +kernel
theorem tyX3_ok : ∀ k, k < 12 → parseFieldDescriptor (TX3 k).2.2.1 = some (tyX3 k) := by decide +kernel
abbrev cX3_init : ByteArray := prog_5_method_1_code
def yX3_init : MethodName := ⟨RX3, "<init>", "(II)V"⟩
abbrev cX3_count : ByteArray := prog_5_method_2_code
def yX3_count : MethodName := ⟨RX3, "count", "(I)I"⟩
abbrev cX3_roots : ByteArray := prog_5_method_3_code
def yX3_roots : MethodName := ⟨RX3, "roots", "()I"⟩
abbrev cX3_home : ByteArray := prog_5_method_4_code
def yX3_home : MethodName := ⟨RX3, "home", "(I)I"⟩
abbrev cX3_slotsOf : ByteArray := prog_5_method_5_code
def yX3_slotsOf : MethodName := ⟨RX3, "slotsOf", "(I)I"⟩
abbrev cX3_isRow : ByteArray := prog_5_method_6_code
def yX3_isRow : MethodName := ⟨RX3, "isRow", "(I)Z"⟩
abbrev cX3_halfOf : ByteArray := prog_5_method_7_code
def yX3_halfOf : MethodName := ⟨RX3, "halfOf", "(I)I"⟩
abbrev cX3_slotOf : ByteArray := prog_5_method_8_code
def yX3_slotOf : MethodName := ⟨RX3, "slotOf", "(II)I"⟩
abbrev cX3_aboutRoot : ByteArray := prog_5_method_9_code
def yX3_aboutRoot : MethodName := ⟨RX3, "aboutRoot", "(II)I"⟩
abbrev cX3_aboutSlot : ByteArray := prog_5_method_10_code
def yX3_aboutSlot : MethodName := ⟨RX3, "aboutSlot", "(II)I"⟩
abbrev cX3_aboutWord : ByteArray := prog_5_method_11_code
def yX3_aboutWord : MethodName := ⟨RX3, "aboutWord", "(III)I"⟩
abbrev cX3_kindOf : ByteArray := prog_5_method_12_code
def yX3_kindOf : MethodName := ⟨RX3, "kindOf", "(II)I"⟩
abbrev cX3_placeOf : ByteArray := prog_5_method_13_code
def yX3_placeOf : MethodName := ⟨RX3, "placeOf", "(I)I"⟩
abbrev cX3_move : ByteArray := prog_5_method_14_code
def yX3_move : MethodName := ⟨RX3, "move", "(I)I"⟩
abbrev cX3_bring : ByteArray := prog_5_method_15_code
def yX3_bring : MethodName := ⟨RX3, "bring", "([I[II)Z"⟩
abbrev cX3_passWords : ByteArray := prog_5_method_16_code
def yX3_passWords : MethodName := ⟨RX3, "passWords", "(I)I"⟩
abbrev cX3_turnOver : ByteArray := prog_5_method_17_code
def yX3_turnOver : MethodName := ⟨RX3, "turnOver", "()V"⟩
abbrev cX3_makeRoom : ByteArray := prog_5_method_18_code
def yX3_makeRoom : MethodName := ⟨RX3, "makeRoom", "(I)I"⟩
abbrev cX3_lay : ByteArray := prog_5_method_19_code
def yX3_lay : MethodName := ⟨RX3, "lay", "(II)I"⟩
def RX4 : String := "TwinHalves$Program"
def TX4 : u_T := fun k => match k with
  | 0 => ("TwinHalves$Program", "acts", "[I", true)
  | 1 => ("TwinHalves$Program", "taken", "[I", true)
  | 2 => ("TwinHalves$Program", "places", "[I", true)
  | 3 => ("TwinHalves$Program", "labels", "[J", true)
  | _ => ("TwinHalves$Program", "count", "I", false)
def tyX4 : Nat → FieldType := fun k => match k with
  | 0 => .array .int
  | 1 => .array .int
  | 2 => .array .int
  | 3 => .array .long
  | _ => .int
abbrev wsX40 : List Cond := u_ws RX4 TX4 5
theorem nmX4 : ∀ a, a < 5 → ∀ b, b < 5 → a ≠ b → (TX4 a).2.1 ≠ (TX4 b).2.1 := by decide +kernel
theorem tyX4_ok : ∀ k, k < 5 → parseFieldDescriptor (TX4 k).2.2.1 = some (tyX4 k) := by decide +kernel
abbrev cX4_init : ByteArray := prog_6_method_1_code
def yX4_init : MethodName := ⟨RX4, "<init>", "()V"⟩
abbrev cX4_actLabelled : ByteArray := prog_6_method_2_code
def yX4_actLabelled : MethodName := ⟨RX4, "actLabelled", "(J)I"⟩
def RX5 : String := "TwinHalves$Reader"
def TX5 : u_T := fun k => match k with
  | 0 => ("TwinHalves$Reader", "tokens", "LTwinHalves$Tokens;", true)
  | 1 => ("TwinHalves$Reader", "faultFound", "I", false)
  | _ => ("TwinHalves$Reader", "faultPlace", "I", false)
def tyX5 : Nat → FieldType := fun k => match k with
  | 0 => .object "TwinHalves$Tokens"
  | 1 => .int
  | _ => .int
abbrev wsX50 : List Cond := u_ws RX5 TX5 3
theorem nmX5 : ∀ a, a < 3 → ∀ b, b < 3 → a ≠ b → (TX5 a).2.1 ≠ (TX5 b).2.1 := by decide +kernel
theorem tyX5_ok : ∀ k, k < 3 → parseFieldDescriptor (TX5 k).2.2.1 = some (tyX5 k) := by decide +kernel
abbrev cX5_init : ByteArray := prog_7_method_1_code
def yX5_init : MethodName := ⟨RX5, "<init>", "()V"⟩
abbrev cX5_readText : ByteArray := prog_7_method_2_code
def yX5_readText : MethodName := ⟨RX5, "readText", "([BILTwinHalves$Program;)I"⟩
abbrev cX5_readAct : ByteArray := prog_7_method_3_code
def yX5_readAct : MethodName := ⟨RX5, "readAct", "(ILTwinHalves$Program;)I"⟩
abbrev cX5_mayBegin : ByteArray := prog_7_method_4_code
def yX5_mayBegin : MethodName := ⟨RX5, "mayBegin", "(ILTwinHalves$Program;)Z"⟩
abbrev cX5_readTaken : ByteArray := prog_7_method_5_code
def yX5_readTaken : MethodName := ⟨RX5, "readTaken", "(ILjava/lang/String;ILTwinHalves$Program;)I"⟩
abbrev cX5_tokenFor : ByteArray := prog_7_method_6_code
def yX5_tokenFor : MethodName := ⟨RX5, "tokenFor", "(C)I"⟩
abbrev cX5_bindLabels : ByteArray := prog_7_method_7_code
def yX5_bindLabels : MethodName := ⟨RX5, "bindLabels", "(LTwinHalves$Program;)V"⟩
abbrev cX5_bind : ByteArray := prog_7_method_8_code
def yX5_bind : MethodName := ⟨RX5, "bind", "(LTwinHalves$Program;I)V"⟩
abbrev cX5_stands : ByteArray := prog_7_method_9_code
def yX5_stands : MethodName := ⟨RX5, "stands", "(II)Z"⟩
abbrev cX5_refuse : ByteArray := prog_7_method_10_code
def yX5_refuse : MethodName := ⟨RX5, "refuse", "(II)Z"⟩
def RX6 : String := "TwinHalves$Runner"
def TX6 : u_T := fun k => match k with
  | 0 => ("TwinHalves$Runner", "doer", "LTwinHalves$Doer;", true)
  | 1 => ("TwinHalves$Runner", "program", "LTwinHalves$Program;", false)
  | 2 => ("TwinHalves$Runner", "state", "I", false)
  | 3 => ("TwinHalves$Runner", "refusal", "I", false)
  | 4 => ("TwinHalves$Runner", "next", "I", false)
  | 5 => ("TwinHalves$Runner", "done", "I", false)
  | 6 => ("TwinHalves$Runner", "calls", "[I", true)
  | 7 => ("TwinHalves$Runner", "openCalls", "I", false)
  | 8 => ("TwinHalves$Runner", "said", "[I", true)
  | _ => ("TwinHalves$Runner", "saidCount", "I", false)
def tyX6 : Nat → FieldType := fun k => match k with
  | 0 => .object "TwinHalves$Doer"
  | 1 => .object "TwinHalves$Program"
  | 2 => .int
  | 3 => .int
  | 4 => .int
  | 5 => .int
  | 6 => .array .int
  | 7 => .int
  | 8 => .array .int
  | _ => .int
abbrev wsX60 : List Cond := u_ws RX6 TX6 10
theorem nmX6 : ∀ a, a < 10 → ∀ b, b < 10 → a ≠ b → (TX6 a).2.1 ≠ (TX6 b).2.1 := by decide +kernel
theorem tyX6_ok : ∀ k, k < 10 → parseFieldDescriptor (TX6 k).2.2.1 = some (tyX6 k) := by decide +kernel
abbrev cX6_init : ByteArray := prog_8_method_1_code
def yX6_init : MethodName := ⟨RX6, "<init>", "(LTwinHalves$Doer;LTwinHalves$Program;)V"⟩
abbrev cX6_forget : ByteArray := prog_8_method_2_code
def yX6_forget : MethodName := ⟨RX6, "forget", "()V"⟩
abbrev cX6_start : ByteArray := prog_8_method_3_code
def yX6_start : MethodName := ⟨RX6, "start", "(LTwinHalves$Program;)V"⟩
abbrev cX6_hasSaid : ByteArray := prog_8_method_4_code
def yX6_hasSaid : MethodName := ⟨RX6, "hasSaid", "(I)Z"⟩
abbrev cX6_hasNext : ByteArray := prog_8_method_5_code
def yX6_hasNext : MethodName := ⟨RX6, "hasNext", "()Z"⟩
abbrev cX6_nextAct : ByteArray := prog_8_method_6_code
def yX6_nextAct : MethodName := ⟨RX6, "nextAct", "()I"⟩
abbrev cX6_nextPlace : ByteArray := prog_8_method_7_code
def yX6_nextPlace : MethodName := ⟨RX6, "nextPlace", "()I"⟩
abbrev cX6_step : ByteArray := prog_8_method_8_code
def yX6_step : MethodName := ⟨RX6, "step", "()Z"⟩
abbrev cX6_steer : ByteArray := prog_8_method_9_code
def yX6_steer : MethodName := ⟨RX6, "steer", "(LTwinHalves$Act;II)I"⟩
abbrev cX6_goOnAt : ByteArray := prog_8_method_10_code
def yX6_goOnAt : MethodName := ⟨RX6, "goOnAt", "(I)I"⟩
abbrev cX6_say : ByteArray := prog_8_method_11_code
def yX6_say : MethodName := ⟨RX6, "say", "(I)I"⟩
abbrev cX6_openCall : ByteArray := prog_8_method_12_code
def yX6_openCall : MethodName := ⟨RX6, "openCall", "(I)I"⟩
abbrev cX6_goBack : ByteArray := prog_8_method_13_code
def yX6_goBack : MethodName := ⟨RX6, "goBack", "()I"⟩
def RX7 : String := "TwinHalves$Text"
def TX7 : u_T := fun k => match k with
  | 0 => ("TwinHalves$Text", "bytes", "[B", true)
  | _ => ("TwinHalves$Text", "length", "I", false)
def tyX7 : Nat → FieldType := fun k => match k with
  | 0 => .array .byte
  | _ => .int
abbrev wsX70 : List Cond := u_ws RX7 TX7 2
theorem nmX7 : ∀ a, a < 2 → ∀ b, b < 2 → a ≠ b → (TX7 a).2.1 ≠ (TX7 b).2.1 := by decide +kernel
theorem tyX7_ok : ∀ k, k < 2 → parseFieldDescriptor (TX7 k).2.2.1 = some (tyX7 k) := by decide +kernel
abbrev cX7_init : ByteArray := prog_9_method_1_code
def yX7_init : MethodName := ⟨RX7, "<init>", "()V"⟩
abbrev cX7_add : ByteArray := prog_9_method_2_code
def yX7_add : MethodName := ⟨RX7, "add", "(I)V"⟩
abbrev cX7_addNumber : ByteArray := prog_9_method_3_code
def yX7_addNumber : MethodName := ⟨RX7, "addNumber", "(I)V"⟩
def RX8 : String := "TwinHalves$Tokens"
def TX8 : u_T := fun k => match k with
  | 0 => ("TwinHalves$Tokens", "kinds", "[I", true)
  | 1 => ("TwinHalves$Tokens", "places", "[I", true)
  | 2 => ("TwinHalves$Tokens", "values", "[I", true)
  | 3 => ("TwinHalves$Tokens", "names", "[J", true)
  | 4 => ("TwinHalves$Tokens", "count", "I", false)
  | _ => ("TwinHalves$Tokens", "textLength", "I", false)
def tyX8 : Nat → FieldType := fun k => match k with
  | 0 => .array .int
  | 1 => .array .int
  | 2 => .array .int
  | 3 => .array .long
  | 4 => .int
  | _ => .int
abbrev wsX80 : List Cond := u_ws RX8 TX8 6
theorem nmX8 : ∀ a, a < 6 → ∀ b, b < 6 → a ≠ b → (TX8 a).2.1 ≠ (TX8 b).2.1 := by decide +kernel
theorem tyX8_ok : ∀ k, k < 6 → parseFieldDescriptor (TX8 k).2.2.1 = some (tyX8 k) := by decide +kernel
abbrev cX8_init : ByteArray := prog_10_method_1_code
def yX8_init : MethodName := ⟨RX8, "<init>", "()V"⟩
abbrev cX8_kindAt : ByteArray := prog_10_method_2_code
def yX8_kindAt : MethodName := ⟨RX8, "kindAt", "(I)I"⟩
abbrev cX8_placeAt : ByteArray := prog_10_method_3_code
def yX8_placeAt : MethodName := ⟨RX8, "placeAt", "(I)I"⟩
abbrev cX8_valueAt : ByteArray := prog_10_method_4_code
def yX8_valueAt : MethodName := ⟨RX8, "valueAt", "(I)I"⟩
abbrev cX8_nameAt : ByteArray := prog_10_method_5_code
def yX8_nameAt : MethodName := ⟨RX8, "nameAt", "(I)J"⟩
abbrev cX8_cut : ByteArray := prog_10_method_6_code
def yX8_cut : MethodName := ⟨RX8, "cut", "([BI)I"⟩
abbrev cX8_cutOne : ByteArray := prog_10_method_7_code
def yX8_cutOne : MethodName := ⟨RX8, "cutOne", "([BII)I"⟩
abbrev cX8_cutName : ByteArray := prog_10_method_8_code
def yX8_cutName : MethodName := ⟨RX8, "cutName", "([BII)I"⟩
abbrev cX8_cutNumber : ByteArray := prog_10_method_9_code
def yX8_cutNumber : MethodName := ⟨RX8, "cutNumber", "([BII)I"⟩
abbrev cX8_add : ByteArray := prog_10_method_10_code
def yX8_add : MethodName := ⟨RX8, "add", "(IIIJ)V"⟩
abbrev cX8_actNamed : ByteArray := prog_10_method_11_code
def yX8_actNamed : MethodName := ⟨RX8, "actNamed", "([BII)I"⟩
abbrev cX8_reads : ByteArray := prog_10_method_12_code
def yX8_reads : MethodName := ⟨RX8, "reads", "([BIILjava/lang/String;)Z"⟩
abbrev cX8_isLetter : ByteArray := prog_10_method_13_code
def yX8_isLetter : MethodName := ⟨RX8, "isLetter", "(I)Z"⟩
abbrev cX8_isDigit : ByteArray := prog_10_method_14_code
def yX8_isDigit : MethodName := ⟨RX8, "isDigit", "(I)Z"⟩
def RX9 : String := "TwinHalves$Walk"
def TX9 : u_T := fun k => match k with
  | 0 => ("TwinHalves$Walk", "memory", "LTwinHalves$Memory;", true)
  | 1 => ("TwinHalves$Walk", "found", "[I", true)
  | 2 => ("TwinHalves$Walk", "numbers", "[I", true)
  | _ => ("TwinHalves$Walk", "count", "I", false)
def tyX9 : Nat → FieldType := fun k => match k with
  | 0 => .object "TwinHalves$Memory"
  | 1 => .array .int
  | 2 => .array .int
  | _ => .int
abbrev wsX90 : List Cond := u_ws RX9 TX9 4
theorem nmX9 : ∀ a, a < 4 → ∀ b, b < 4 → a ≠ b → (TX9 a).2.1 ≠ (TX9 b).2.1 := by decide +kernel
theorem tyX9_ok : ∀ k, k < 4 → parseFieldDescriptor (TX9 k).2.2.1 = some (tyX9 k) := by decide +kernel
abbrev cX9_init : ByteArray := prog_11_method_1_code
def yX9_init : MethodName := ⟨RX9, "<init>", "(LTwinHalves$Memory;)V"⟩
abbrev cX9_findFromRoots : ByteArray := prog_11_method_2_code
def yX9_findFromRoots : MethodName := ⟨RX9, "findFromRoots", "()V"⟩
abbrev cX9_words : ByteArray := prog_11_method_3_code
def yX9_words : MethodName := ⟨RX9, "words", "()I"⟩
abbrev cX9_write : ByteArray := prog_11_method_4_code
def yX9_write : MethodName := ⟨RX9, "write", "(ILTwinHalves$Text;)V"⟩
abbrev cX9_writeThing : ByteArray := prog_11_method_5_code
def yX9_writeThing : MethodName := ⟨RX9, "writeThing", "(ILTwinHalves$Text;)V"⟩
abbrev cX9_writeWord : ByteArray := prog_11_method_6_code
def yX9_writeWord : MethodName := ⟨RX9, "writeWord", "(IILTwinHalves$Text;)V"⟩
abbrev cX9_clear : ByteArray := prog_11_method_7_code
def yX9_clear : MethodName := ⟨RX9, "clear", "()V"⟩
abbrev cX9_meet : ByteArray := prog_11_method_8_code
def yX9_meet : MethodName := ⟨RX9, "meet", "(II)I"⟩
def RX10 : String := "TwinHalves"
def TX10 : u_T := fun k => match k with
  | 0 => ("TwinHalves", "tape", "[B", true)
  | 1 => ("TwinHalves", "tapeLength", "I", false)
  | 2 => ("TwinHalves", "reader", "LTwinHalves$Reader;", true)
  | 3 => ("TwinHalves", "current", "LTwinHalves$Program;", false)
  | 4 => ("TwinHalves", "spare", "LTwinHalves$Program;", false)
  | 5 => ("TwinHalves", "hasProgram", "Z", false)
  | 6 => ("TwinHalves", "faultKind", "I", false)
  | 7 => ("TwinHalves", "store", "LTwinHalves$Memory;", true)
  | 8 => ("TwinHalves", "doer", "LTwinHalves$Doer;", true)
  | 9 => ("TwinHalves", "runner", "LTwinHalves$Runner;", true)
  | 10 => ("TwinHalves", "walk", "LTwinHalves$Walk;", true)
  | _ => ("TwinHalves", "text", "LTwinHalves$Text;", true)
def tyX10 : Nat → FieldType := fun k => match k with
  | 0 => .array .byte
  | 1 => .int
  | 2 => .object "TwinHalves$Reader"
  | 3 => .object "TwinHalves$Program"
  | 4 => .object "TwinHalves$Program"
  | 5 => .boolean
  | 6 => .int
  | 7 => .object "TwinHalves$Memory"
  | 8 => .object "TwinHalves$Doer"
  | 9 => .object "TwinHalves$Runner"
  | 10 => .object "TwinHalves$Walk"
  | _ => .object "TwinHalves$Text"
abbrev wsX100 : List Cond := u_ws RX10 TX10 12
theorem nmX10 : ∀ a, a < 12 → ∀ b, b < 12 → a ≠ b → (TX10 a).2.1 ≠ (TX10 b).2.1 := by decide +kernel
theorem tyX10_ok : ∀ k, k < 12 → parseFieldDescriptor (TX10 k).2.2.1 = some (tyX10 k) := by decide +kernel
abbrev cX10_init : ByteArray := prog_1_method_1_code
def yX10_init : MethodName := ⟨RX10, "<init>", "(II)V"⟩
abbrev cX10_feed : ByteArray := prog_1_method_2_code
def yX10_feed : MethodName := ⟨RX10, "feed", "(IIIII)I"⟩
abbrev cX10_end : ByteArray := prog_1_method_3_code
def yX10_end : MethodName := ⟨RX10, "end", "(I)I"⟩
abbrev cX10_program : ByteArray := prog_1_method_4_code
def yX10_program : MethodName := ⟨RX10, "program", "()I"⟩
abbrev cX10_fault : ByteArray := prog_1_method_5_code
def yX10_fault : MethodName := ⟨RX10, "fault", "()I"⟩
abbrev cX10_begin : ByteArray := prog_1_method_6_code
def yX10_begin : MethodName := ⟨RX10, "begin", "()V"⟩
abbrev cX10_run : ByteArray := prog_1_method_7_code
def yX10_run : MethodName := ⟨RX10, "run", "(I)I"⟩
abbrev cX10_about : ByteArray := prog_1_method_8_code
def yX10_about : MethodName := ⟨RX10, "about", "(I)I"⟩
abbrev cX10_said : ByteArray := prog_1_method_9_code
def yX10_said : MethodName := ⟨RX10, "said", "(I)I"⟩
abbrev cX10_act : ByteArray := prog_1_method_10_code
def yX10_act : MethodName := ⟨RX10, "act", "(IIII)I"⟩
abbrev cX10_pass : ByteArray := prog_1_method_11_code
def yX10_pass : MethodName := ⟨RX10, "pass", "(I)I"⟩
abbrev cX10_turn : ByteArray := prog_1_method_12_code
def yX10_turn : MethodName := ⟨RX10, "turn", "()Z"⟩
abbrev cX10_memory : ByteArray := prog_1_method_13_code
def yX10_memory : MethodName := ⟨RX10, "memory", "(I)I"⟩
abbrev cX10_hand : ByteArray := prog_1_method_14_code
def yX10_hand : MethodName := ⟨RX10, "hand", "(II)I"⟩
abbrev cX10_stack : ByteArray := prog_1_method_15_code
def yX10_stack : MethodName := ⟨RX10, "stack", "(II)I"⟩
abbrev cX10_slot : ByteArray := prog_1_method_16_code
def yX10_slot : MethodName := ⟨RX10, "slot", "(III)I"⟩
abbrev cX10_reach : ByteArray := prog_1_method_17_code
def yX10_reach : MethodName := ⟨RX10, "reach", "(I)I"⟩
abbrev cX10_show : ByteArray := prog_1_method_18_code
def yX10_show : MethodName := ⟨RX10, "show", "(I)I"⟩
abbrev cX10_letter : ByteArray := prog_1_method_19_code
def yX10_letter : MethodName := ⟨RX10, "letter", "(I)I"⟩
abbrev cX10_feedNumber : ByteArray := prog_1_method_20_code
def yX10_feedNumber : MethodName := ⟨RX10, "feedNumber", "(I)V"⟩
abbrev cX10_nearest : ByteArray := prog_1_method_21_code
def yX10_nearest : MethodName := ⟨RX10, "nearest", "(III)I"⟩
abbrev cX10_isHand : ByteArray := prog_1_method_22_code
def yX10_isHand : MethodName := ⟨RX10, "isHand", "(I)Z"⟩
abbrev cX10_handsFit : ByteArray := prog_1_method_23_code
def yX10_handsFit : MethodName := ⟨RX10, "handsFit", "(LTwinHalves$Act;III)Z"⟩
def RX11 : String := "TwinHalvesModel"
def TX11 : u_T := fun k => match k with
  | 0 => ("TwinHalvesModel", "size", "I", true)
  | 1 => ("TwinHalvesModel", "share", "I", true)
  | 2 => ("TwinHalvesModel", "thrown", "I", false)
  | 3 => ("TwinHalvesModel", "isRow", "[Z", true)
  | 4 => ("TwinHalvesModel", "slots", "[I", true)
  | 5 => ("TwinHalvesModel", "half", "[I", true)
  | 6 => ("TwinHalvesModel", "place", "[I", true)
  | 7 => ("TwinHalvesModel", "sort", "[I", true)
  | 8 => ("TwinHalvesModel", "value", "[I", true)
  | 9 => ("TwinHalvesModel", "rootSort", "[I", true)
  | 10 => ("TwinHalvesModel", "root", "[I", true)
  | 11 => ("TwinHalvesModel", "stacked", "I", false)
  | 12 => ("TwinHalvesModel", "moved", "[I", true)
  | 13 => ("TwinHalvesModel", "movedMany", "I", false)
  | 14 => ("TwinHalvesModel", "passing", "I", false)
  | 15 => ("TwinHalvesModel", "floor", "I", false)
  | 16 => ("TwinHalvesModel", "passed", "I", false)
  | 17 => ("TwinHalvesModel", "roof", "I", false)
  | 18 => ("TwinHalvesModel", "present", "I", false)
  | 19 => ("TwinHalvesModel", "turns", "I", false)
  | 20 => ("TwinHalvesModel", "moves", "I", false)
  | 21 => ("TwinHalvesModel", "words", "I", false)
  | 22 => ("TwinHalvesModel", "made", "I", false)
  | 23 => ("TwinHalvesModel", "spent", "I", false)
  | 24 => ("TwinHalvesModel", "late", "I", false)
  | 25 => ("TwinHalvesModel", "full", "I", false)
  | 26 => ("TwinHalvesModel", "most", "I", false)
  | 27 => ("TwinHalvesModel", "byTurn", "I", false)
  | 28 => ("TwinHalvesModel", "tape", "[I", true)
  | 29 => ("TwinHalvesModel", "taped", "I", false)
  | 30 => ("TwinHalvesModel", "wordOf", "[J", true)
  | 31 => ("TwinHalvesModel", "wordSize", "[I", true)
  | 32 => ("TwinHalvesModel", "tSort", "[I", true)
  | 33 => ("TwinHalvesModel", "tAt", "[I", true)
  | 34 => ("TwinHalvesModel", "tSize", "[I", true)
  | 35 => ("TwinHalvesModel", "tName", "[J", true)
  | 36 => ("TwinHalvesModel", "tValue", "[I", true)
  | 37 => ("TwinHalvesModel", "tokens", "I", false)
  | 38 => ("TwinHalvesModel", "t", "I", false)
  | 39 => ("TwinHalvesModel", "fault", "I", false)
  | 40 => ("TwinHalvesModel", "faultAt", "I", false)
  | 41 => ("TwinHalvesModel", "rOp", "[I", true)
  | 42 => ("TwinHalvesModel", "rAt", "[I", true)
  | 43 => ("TwinHalvesModel", "rTake", "[I", true)
  | 44 => ("TwinHalvesModel", "rTakeAt", "[I", true)
  | 45 => ("TwinHalvesModel", "rName", "[J", true)
  | 46 => ("TwinHalvesModel", "rNameSize", "[I", true)
  | 47 => ("TwinHalvesModel", "lName", "[J", true)
  | 48 => ("TwinHalvesModel", "lSize", "[I", true)
  | 49 => ("TwinHalvesModel", "lAct", "[I", true)
  | 50 => ("TwinHalvesModel", "acts", "I", false)
  | 51 => ("TwinHalvesModel", "labels", "I", false)
  | 52 => ("TwinHalvesModel", "op", "[I", true)
  | 53 => ("TwinHalvesModel", "at", "[I", true)
  | 54 => ("TwinHalvesModel", "take", "[I", true)
  | 55 => ("TwinHalvesModel", "many", "I", false)
  | 56 => ("TwinHalvesModel", "latestFault", "I", false)
  | 57 => ("TwinHalvesModel", "state", "I", false)
  | 58 => ("TwinHalvesModel", "why", "I", false)
  | 59 => ("TwinHalvesModel", "pc", "I", false)
  | 60 => ("TwinHalvesModel", "done", "I", false)
  | 61 => ("TwinHalvesModel", "calls", "I", false)
  | 62 => ("TwinHalvesModel", "saidMany", "I", false)
  | 63 => ("TwinHalvesModel", "open", "[I", true)
  | 64 => ("TwinHalvesModel", "said", "[I", true)
  | 65 => ("TwinHalvesModel", "met", "[I", true)
  | 66 => ("TwinHalvesModel", "number", "[I", true)
  | 67 => ("TwinHalvesModel", "meets", "I", false)
  | 68 => ("TwinHalvesModel", "text", "[I", true)
  | _ => ("TwinHalvesModel", "textMany", "I", false)
def tyX11 : Nat → FieldType := fun k => match k with
  | 0 => .int
  | 1 => .int
  | 2 => .int
  | 3 => .array .boolean
  | 4 => .array .int
  | 5 => .array .int
  | 6 => .array .int
  | 7 => .array .int
  | 8 => .array .int
  | 9 => .array .int
  | 10 => .array .int
  | 11 => .int
  | 12 => .array .int
  | 13 => .int
  | 14 => .int
  | 15 => .int
  | 16 => .int
  | 17 => .int
  | 18 => .int
  | 19 => .int
  | 20 => .int
  | 21 => .int
  | 22 => .int
  | 23 => .int
  | 24 => .int
  | 25 => .int
  | 26 => .int
  | 27 => .int
  | 28 => .array .int
  | 29 => .int
  | 30 => .array .long
  | 31 => .array .int
  | 32 => .array .int
  | 33 => .array .int
  | 34 => .array .int
  | 35 => .array .long
  | 36 => .array .int
  | 37 => .int
  | 38 => .int
  | 39 => .int
  | 40 => .int
  | 41 => .array .int
  | 42 => .array .int
  | 43 => .array .int
  | 44 => .array .int
  | 45 => .array .long
  | 46 => .array .int
  | 47 => .array .long
  | 48 => .array .int
  | 49 => .array .int
  | 50 => .int
  | 51 => .int
  | 52 => .array .int
  | 53 => .array .int
  | 54 => .array .int
  | 55 => .int
  | 56 => .int
  | 57 => .int
  | 58 => .int
  | 59 => .int
  | 60 => .int
  | 61 => .int
  | 62 => .int
  | 63 => .array .int
  | 64 => .array .int
  | 65 => .array .int
  | 66 => .array .int
  | 67 => .int
  | 68 => .array .int
  | _ => .int
abbrev wsX110 : List Cond := u_ws RX11 TX11 70
theorem nmX11 : ∀ a, a < 70 → ∀ b, b < 70 → a ≠ b → (TX11 a).2.1 ≠ (TX11 b).2.1 := by decide +kernel
theorem tyX11_ok : ∀ k, k < 70 → parseFieldDescriptor (TX11 k).2.2.1 = some (tyX11 k) := by decide +kernel
abbrev cX11_init : ByteArray := prog_13_method_1_code
def yX11_init : MethodName := ⟨RX11, "<init>", "(II)V"⟩
abbrev cX11_thrown : ByteArray := prog_13_method_2_code
def yX11_thrown : MethodName := ⟨RX11, "thrown", "()I"⟩
abbrev cX11_takes : ByteArray := prog_13_method_3_code
def yX11_takes : MethodName := ⟨RX11, "takes", "(I)I"⟩
abbrev cX11_isOld : ByteArray := prog_13_method_4_code
def yX11_isOld : MethodName := ⟨RX11, "isOld", "(II)Z"⟩
abbrev cX11_move : ByteArray := prog_13_method_5_code
def yX11_move : MethodName := ⟨RX11, "move", "(I)Z"⟩
abbrev cX11_passOne : ByteArray := prog_13_method_6_code
def yX11_passOne : MethodName := ⟨RX11, "passOne", "()Z"⟩
abbrev cX11_turnOver : ByteArray := prog_13_method_7_code
def yX11_turnOver : MethodName := ⟨RX11, "turnOver", "()V"⟩
abbrev cX11_make : ByteArray := prog_13_method_8_code
def yX11_make : MethodName := ⟨RX11, "make", "(IIZ)I"⟩
abbrev cX11_pass : ByteArray := prog_13_method_9_code
def yX11_pass : MethodName := ⟨RX11, "pass", "(I)I"⟩
abbrev cX11_turn : ByteArray := prog_13_method_10_code
def yX11_turn : MethodName := ⟨RX11, "turn", "()Z"⟩
abbrev cX11_memory : ByteArray := prog_13_method_11_code
def yX11_memory : MethodName := ⟨RX11, "memory", "(I)I"⟩
abbrev cX11_isNumber : ByteArray := prog_13_method_12_code
def yX11_isNumber : MethodName := ⟨RX11, "isNumber", "(I)Z"⟩
abbrev cX11_isThing : ByteArray := prog_13_method_13_code
def yX11_isThing : MethodName := ⟨RX11, "isThing", "(I)Z"⟩
abbrev cX11_give : ByteArray := prog_13_method_14_code
def yX11_give : MethodName := ⟨RX11, "give", "(III)V"⟩
abbrev cX11_makes : ByteArray := prog_13_method_15_code
def yX11_makes : MethodName := ⟨RX11, "makes", "(IIZ)I"⟩
abbrev cX11_reads : ByteArray := prog_13_method_16_code
def yX11_reads : MethodName := ⟨RX11, "reads", "(III)I"⟩
abbrev cX11_writes : ByteArray := prog_13_method_17_code
def yX11_writes : MethodName := ⟨RX11, "writes", "(III)I"⟩
abbrev cX11_sortOf : ByteArray := prog_13_method_18_code
def yX11_sortOf : MethodName := ⟨RX11, "sortOf", "(II)I"⟩
abbrev cX11_reckons : ByteArray := prog_13_method_19_code
def yX11_reckons : MethodName := ⟨RX11, "reckons", "(IIII)I"⟩
abbrev cX11_does : ByteArray := prog_13_method_20_code
def yX11_does : MethodName := ⟨RX11, "does", "(IIII)I"⟩
abbrev cX11_many : ByteArray := prog_13_method_21_code
def yX11_many : MethodName := ⟨RX11, "many", "(I)I"⟩
abbrev cX11_kindOf : ByteArray := prog_13_method_22_code
def yX11_kindOf : MethodName := ⟨RX11, "kindOf", "(II)I"⟩
abbrev cX11_act : ByteArray := prog_13_method_23_code
def yX11_act : MethodName := ⟨RX11, "act", "(IIII)I"⟩
abbrev cX11_tellWords : ByteArray := prog_13_method_24_code
def yX11_tellWords : MethodName := ⟨RX11, "tellWords", "()V"⟩
abbrev cX11_four : ByteArray := prog_13_method_25_code
def yX11_four : MethodName := ⟨RX11, "four", "(I)V"⟩
abbrev cX11_feed : ByteArray := prog_13_method_26_code
def yX11_feed : MethodName := ⟨RX11, "feed", "(IIIII)I"⟩
abbrev cX11_end : ByteArray := prog_13_method_27_code
def yX11_end : MethodName := ⟨RX11, "end", "(I)I"⟩
abbrev cX11_good : ByteArray := prog_13_method_28_code
def yX11_good : MethodName := ⟨RX11, "good", "()Z"⟩
abbrev cX11_fails : ByteArray := prog_13_method_29_code
def yX11_fails : MethodName := ⟨RX11, "fails", "(II)V"⟩
abbrev cX11_isLetter : ByteArray := prog_13_method_30_code
def yX11_isLetter : MethodName := ⟨RX11, "isLetter", "(I)Z"⟩
abbrev cX11_isDigit : ByteArray := prog_13_method_31_code
def yX11_isDigit : MethodName := ⟨RX11, "isDigit", "(I)Z"⟩
abbrev cX11_token : ByteArray := prog_13_method_32_code
def yX11_token : MethodName := ⟨RX11, "token", "(III)V"⟩
abbrev cX11_name : ByteArray := prog_13_method_33_code
def yX11_name : MethodName := ⟨RX11, "name", "(I)I"⟩
abbrev cX11_number : ByteArray := prog_13_method_34_code
def yX11_number : MethodName := ⟨RX11, "number", "(I)I"⟩
abbrev cX11_cut : ByteArray := prog_13_method_35_code
def yX11_cut : MethodName := ⟨RX11, "cut", "()V"⟩
abbrev cX11_labelOf : ByteArray := prog_13_method_36_code
def yX11_labelOf : MethodName := ⟨RX11, "labelOf", "(JI)I"⟩
abbrev cX11_readAct : ByteArray := prog_13_method_37_code
def yX11_readAct : MethodName := ⟨RX11, "readAct", "()V"⟩
abbrev cX11_readTakes : ByteArray := prog_13_method_38_code
def yX11_readTakes : MethodName := ⟨RX11, "readTakes", "(I)V"⟩
abbrev cX11_program : ByteArray := prog_13_method_39_code
def yX11_program : MethodName := ⟨RX11, "program", "()I"⟩
abbrev cX11_fault : ByteArray := prog_13_method_40_code
def yX11_fault : MethodName := ⟨RX11, "fault", "()I"⟩
abbrev cX11_goes : ByteArray := prog_13_method_41_code
def yX11_goes : MethodName := ⟨RX11, "goes", "(I)V"⟩
abbrev cX11_begin : ByteArray := prog_13_method_42_code
def yX11_begin : MethodName := ⟨RX11, "begin", "()V"⟩
abbrev cX11_step : ByteArray := prog_13_method_43_code
def yX11_step : MethodName := ⟨RX11, "step", "()I"⟩
abbrev cX11_run : ByteArray := prog_13_method_44_code
def yX11_run : MethodName := ⟨RX11, "run", "(I)I"⟩
abbrev cX11_about : ByteArray := prog_13_method_45_code
def yX11_about : MethodName := ⟨RX11, "about", "(I)I"⟩
abbrev cX11_said : ByteArray := prog_13_method_46_code
def yX11_said : MethodName := ⟨RX11, "said", "(I)I"⟩
abbrev cX11_told : ByteArray := prog_13_method_47_code
def yX11_told : MethodName := ⟨RX11, "told", "(III)I"⟩
abbrev cX11_hand : ByteArray := prog_13_method_48_code
def yX11_hand : MethodName := ⟨RX11, "hand", "(II)I"⟩
abbrev cX11_stack : ByteArray := prog_13_method_49_code
def yX11_stack : MethodName := ⟨RX11, "stack", "(II)I"⟩
abbrev cX11_slot : ByteArray := prog_13_method_50_code
def yX11_slot : MethodName := ⟨RX11, "slot", "(III)I"⟩
abbrev cX11_meet : ByteArray := prog_13_method_51_code
def yX11_meet : MethodName := ⟨RX11, "meet", "(II)V"⟩
abbrev cX11_forget : ByteArray := prog_13_method_52_code
def yX11_forget : MethodName := ⟨RX11, "forget", "()V"⟩
abbrev cX11_reach : ByteArray := prog_13_method_53_code
def yX11_reach : MethodName := ⟨RX11, "reach", "(I)I"⟩
abbrev cX11_put : ByteArray := prog_13_method_54_code
def yX11_put : MethodName := ⟨RX11, "put", "(I)V"⟩
abbrev cX11_putNumber : ByteArray := prog_13_method_55_code
def yX11_putNumber : MethodName := ⟨RX11, "putNumber", "(I)V"⟩
abbrev cX11_putWord : ByteArray := prog_13_method_56_code
def yX11_putWord : MethodName := ⟨RX11, "putWord", "(II)V"⟩
abbrev cX11_show : ByteArray := prog_13_method_57_code
def yX11_show : MethodName := ⟨RX11, "show", "(I)I"⟩
abbrev cX11_letter : ByteArray := prog_13_method_58_code
def yX11_letter : MethodName := ⟨RX11, "letter", "(I)I"⟩
def RJx29ce0 : String := "java/lang/Enum"
def TJx29ce0 : u_T := fun k => match k with
  | _ => ("", "", "", false)
def tyJx29ce0 : Nat → FieldType := fun k => match k with
  | _ => .int
abbrev wsJx29ce00 : List Cond := u_ws RJx29ce0 TJx29ce0 0
theorem nmJx29ce0 : ∀ a, a < 0 → ∀ b, b < 0 → a ≠ b → (TJx29ce0 a).2.1 ≠ (TJx29ce0 b).2.1 := by decide +kernel
theorem tyJx29ce0_ok : ∀ k, k < 0 → parseFieldDescriptor (TJx29ce0 k).2.2.1 = some (tyJx29ce0 k) := by decide +kernel
abbrev cJx29ce0_ordinal_8abf5 : ByteArray := prog_14_method_2_code
def yJx29ce0_ordinal_8abf5 : MethodName := ⟨RJx29ce0, "ordinal", "()I"⟩
def RJ9 : String := "java/lang/Math"
def TJ9 : u_T := fun k => match k with
  | _ => ("", "", "", false)
def tyJ9 : Nat → FieldType := fun k => match k with
  | _ => .int
abbrev wsJ90 : List Cond := u_ws RJ9 TJ9 0
theorem nmJ9 : ∀ a, a < 0 → ∀ b, b < 0 → a ≠ b → (TJ9 a).2.1 ≠ (TJ9 b).2.1 := by decide +kernel
theorem tyJ9_ok : ∀ k, k < 0 → parseFieldDescriptor (TJ9 k).2.2.1 = some (tyJ9 k) := by decide +kernel
abbrev cJ9_max_7cf53 : ByteArray := prog_18_method_65_code
def yJ9_max_7cf53 : MethodName := ⟨RJ9, "max", "(II)I"⟩
abbrev cJ9_min_7cf53 : ByteArray := prog_18_method_69_code
def yJ9_min_7cf53 : MethodName := ⟨RJ9, "min", "(II)I"⟩
def RJ0 : String := "java/lang/String"
def TJ0 : u_T := fun k => match k with
  | _ => ("", "", "", false)
def tyJ0 : Nat → FieldType := fun k => match k with
  | _ => .int
abbrev wsJ00 : List Cond := u_ws RJ0 TJ0 0
theorem nmJ0 : ∀ a, a < 0 → ∀ b, b < 0 → a ≠ b → (TJ0 a).2.1 ≠ (TJ0 b).2.1 := by decide +kernel
theorem tyJ0_ok : ∀ k, k < 0 → parseFieldDescriptor (TJ0 k).2.2.1 = some (tyJ0 k) := by decide +kernel
abbrev cJ0_length_8abf5 : ByteArray := prog_20_method_54_code
def yJ0_length_8abf5 : MethodName := ⟨RJ0, "length", "()I"⟩
abbrev cJ0_charAt_5068e : ByteArray := prog_20_method_56_code
def yJ0_charAt_5068e : MethodName := ⟨RJ0, "charAt", "(I)C"⟩
abbrev cJ0_coder_7d493 : ByteArray := prog_20_method_152_code
def yJ0_coder_7d493 : MethodName := ⟨RJ0, "coder", "()B"⟩
abbrev cJ0_isLatin1_aae02 : ByteArray := prog_20_method_154_code
def yJ0_isLatin1_aae02 : MethodName := ⟨RJ0, "isLatin1", "()Z"⟩
abbrev cJ0_checkIndex_df160 : ByteArray := prog_20_method_155_code
def yJ0_checkIndex_df160 : MethodName := ⟨RJ0, "checkIndex", "(II)V"⟩
def RJ1 : String := "java/lang/StringLatin1"
def TJ1 : u_T := fun k => match k with
  | _ => ("", "", "", false)
def tyJ1 : Nat → FieldType := fun k => match k with
  | _ => .int
abbrev wsJ10 : List Cond := u_ws RJ1 TJ1 0
theorem nmJ1 : ∀ a, a < 0 → ∀ b, b < 0 → a ≠ b → (TJ1 a).2.1 ≠ (TJ1 b).2.1 := by decide +kernel
theorem tyJ1_ok : ∀ k, k < 0 → parseFieldDescriptor (TJ1 k).2.2.1 = some (tyJ1 k) := by decide +kernel
abbrev cJ1_charAt_3b067 : ByteArray := prog_21_method_2_code
def yJ1_charAt_3b067 : MethodName := ⟨RJ1, "charAt", "([BI)C"⟩
def RJ2 : String := "java/lang/StringUTF16"
def TJ2 : u_T := fun k => match k with
  | _ => ("", "", "", false)
def tyJ2 : Nat → FieldType := fun k => match k with
  | _ => .int
abbrev wsJ20 : List Cond := u_ws RJ2 TJ2 0
theorem nmJ2 : ∀ a, a < 0 → ∀ b, b < 0 → a ≠ b → (TJ2 a).2.1 ≠ (TJ2 b).2.1 := by decide +kernel
theorem tyJ2_ok : ∀ k, k < 0 → parseFieldDescriptor (TJ2 k).2.2.1 = some (tyJ2 k) := by decide +kernel
abbrev cJ2_getChar_3b067 : ByteArray := prog_22_method_5_code
def yJ2_getChar_3b067 : MethodName := ⟨RJ2, "getChar", "([BI)C"⟩
abbrev cJ2_length_9d52b : ByteArray := prog_22_method_6_code
def yJ2_length_9d52b : MethodName := ⟨RJ2, "length", "([B)I"⟩
abbrev cJ2_charAt_3b067 : ByteArray := prog_22_method_83_code
def yJ2_charAt_3b067 : MethodName := ⟨RJ2, "charAt", "([BI)C"⟩
abbrev cJ2_checkIndex_2214a : ByteArray := prog_22_method_91_code
def yJ2_checkIndex_2214a : MethodName := ⟨RJ2, "checkIndex", "(I[B)V"⟩
def RJ10 : String := "java/lang/System"
def TJ10 : u_T := fun k => match k with
  | _ => ("", "", "", false)
def tyJ10 : Nat → FieldType := fun k => match k with
  | _ => .int
abbrev wsJ100 : List Cond := u_ws RJ10 TJ10 0
theorem nmJ10 : ∀ a, a < 0 → ∀ b, b < 0 → a ≠ b → (TJ10 a).2.1 ≠ (TJ10 b).2.1 := by decide +kernel
theorem tyJ10_ok : ∀ k, k < 0 → parseFieldDescriptor (TJ10 k).2.2.1 = some (tyJ10 k) := by decide +kernel
def RJ3 : String := "jdk/internal/util/Preconditions"
def TJ3 : u_T := fun k => match k with
  | _ => ("", "", "", false)
def tyJ3 : Nat → FieldType := fun k => match k with
  | _ => .int
abbrev wsJ30 : List Cond := u_ws RJ3 TJ3 0
theorem nmJ3 : ∀ a, a < 0 → ∀ b, b < 0 → a ≠ b → (TJ3 a).2.1 ≠ (TJ3 b).2.1 := by decide +kernel
theorem tyJ3_ok : ∀ k, k < 0 → parseFieldDescriptor (TJ3 k).2.2.1 = some (tyJ3 k) := by decide +kernel
abbrev cJ3_checkIndex_8e157 : ByteArray := prog_26_method_11_code
def yJ3_checkIndex_8e157 : MethodName := ⟨RJ3, "checkIndex", "(IILjava/util/function/BiFunction;)I"⟩
def RL : String := "TwinHalvesLaw"
abbrev cL_cell : ByteArray := method_2_code
def yL_cell : MethodName := ⟨RL, "cell", "([II)I"⟩
abbrev cL_begin : ByteArray := method_3_code
def yL_begin : MethodName := ⟨RL, "begin", "(LTwinHalves;)I"⟩
abbrev cL_run : ByteArray := method_4_code
def yL_run : MethodName := ⟨RL, "run", "(LTwinHalves;I[J)I"⟩
abbrev cL_said : ByteArray := method_5_code
def yL_said : MethodName := ⟨RL, "said", "(LTwinHalves;I[J)I"⟩
abbrev cL_law : ByteArray := code
def yL_law : MethodName := ⟨RL, "law", "([I)Z"⟩
end
section
/-! ===== BEGIN words of one list among another's, by their places ===== -/
theorem goodIn_r {big : List Cond} (ws : List Cond) (ps : List Nat) (hp : ws = ps.filterMap (fun i => big[i]?)) (h : ws.all goodWord = true) : GoodIn big ws := by
  intro w hw
  have h1 := List.all_eq_true.mp h w hw
  rw [hp] at hw
  obtain ⟨i, -, hi⟩ := List.mem_filterMap.mp hw
  have hm : w ∈ big := by first | exact List.mem_of_getElem? hi | exact List.getElem?_mem hi
  exact ⟨hm, good_of_word h1⟩
theorem goodIn_app {big a b : List Cond} (ha : GoodIn big a) (hb : GoodIn big b) : GoodIn big (a ++ b) := fun w h => (List.mem_append.mp h).elim (ha w) (hb w)
theorem goodIn_ca {big a b : List Cond} {c : Cond} (ha : GoodIn big (c :: a)) (hb : GoodIn big b) : GoodIn big (c :: (a ++ b)) := fun w h => (List.mem_cons.mp h).elim (fun e => ha w (List.mem_cons.mpr (Or.inl e))) (fun h => (List.mem_append.mp h).elim (fun h => ha w (List.mem_cons.mpr (Or.inr h))) (hb w))
theorem goodIn_sub {big ws : List Cond} (hm : ∀ w ∈ ws, w ∈ big) (h : ws.all goodWord = true) : GoodIn big ws := fun w hw => ⟨hm w hw, good_of_word (List.all_eq_true.mp h w hw)⟩
/-! ===== END ===== -/

/-! ===== BEGIN exceptions that leave a method, and their catching by the caller (launches without stack traces) ===== -/
section VXA
/-! The laws vx_back, vx_callV, vx_callS, vx_callSW, vx_throw0, vx_throwS follow proofs of the library, with one case more: JvmDerived/Free/Laws.lean (Back.of_free), Shelf42/LK1.lean (callV, callS), Shelf/KitTraced.lean (throwNew0V, throwNewS). -/
/-- where a method has thrown q: the class by its name, the cell, what was written, the world -/
def vx_T (XC : String → State → State → Prop) (st : State) (q : Addr) (t : State) (mc ms : Nat) (free : Addr → Prop) : Prop :=
  ∃ (E : String) (ce : Cell) (L : List Loc), XC E st t ∧ t.heap[q]? = some ce ∧ ce.vm = .none ∧ st.vm.findClass E = some ce.cls ∧ st.WarmedH t.vm ∧ st.sameButNew ({ t with vm := st.vm } : State) L mc ms ∧ ∀ z ∈ L, free z.base
def vx_Q (Qc : Array Value → State → Outcome → State → Prop) (XC : String → State → State → Prop) (mc ms : Nat) (free : Addr → Prop) : Array Value → State → Outcome → State → Prop := fun a st o t =>
  (Qc a st o t ∧ ∃ L, FrameEnd st o t L mc ms ∧ ∀ q ∈ L, free q.base) ∨ ∃ q, o = .threw q ∧ vx_T XC st q t mc ms free
/-- a callee that returns or throws -/
def vx_Met (l : Launch) (y : MethodName) (ws : List Cond) (rm : Room) (Pc : Array Value → State → Prop) (Qc : Array Value → State → Outcome → State → Prop) (XC : String → State → State → Prop) (mc ms : Nat) (free : Addr → Prop) : Prop :=
  MetFree l y (headSpec ws rm) Pc (fun _ _ _ _ _ => True) (vx_Q Qc XC mc ms free)
def vx_Post (XC : String → State → State → Prop) (mc ms : Nat) (free : Addr → Prop) : Pt → Array Value → Addr → Pt → Prop := fun A a q B =>
  ∃ (g : JFrame) (mk : MethodId) (t : State) (L : List Loc) (E : String) (ce : Cell), B.U.heap = t.heap ∧ B.U.vm = t.vm ∧ XC E (A.U.calling g mk a) t ∧ t.heap[q]? = some ce ∧ ce.vm = .none ∧ A.U.vm.findClass E = some ce.cls ∧ B.locs = A.locs ++ L ∧ (∀ z ∈ L, free z.base) ∧ B.cells = A.cells + mc ∧ B.slots = A.slots + ms
def vx_Back (l : Launch) (R : Room) (p : Program) (e : Env) (below : List Frame) (s : State) (sargs : Array Value) (y : MethodName) (len W9 : Nat)
    (Pre : Pt → Array Value → Prop) (Post : Pt → Array Value → Option Value → Pt → Prop) (PostX : Pt → Array Value → Addr → Pt → Prop) : Prop :=
  ∀ (m : MethodId) (meth : Method) (c : Code) (A : Pt) (g : JFrame) (ig : Instr) (mk : MethodId) (a : Array Value),
    Stand p l e R s m sargs below meth c A.U A.locs A.cells A.slots → g.method = m → g.locals.size = c.maxLocals → decode c.code g.pc = .ok (ig, len) →
    2 * g.monitorRoom + (g.stack.map fun v => v.category).sum ≤ W9 → A.U.methodNamed? y = some mk → Pre A a →
    (∃ (v : Option Value) (B : Pt), Stand p l e R s m sargs below meth c B.U B.locs B.cells B.slots ∧ Post A a v B ∧
      Steps p.tables e below (doInvoke e (A.U.setTop g) [] mk a).1 (B.U.setTop { g with pc := g.pc + len, stack := v.toList ++ g.stack })) ∨
    (∃ (q : Addr) (B : Pt), Stand p l e R s m sargs below meth c B.U B.locs B.cells B.slots ∧ PostX A a q B ∧
      Steps p.tables e below (doInvoke e (A.U.setTop g) [] mk a).1 ((B.U.setTop g).pushFrame (.throwing q)))
section Payer
variable {l : Launch} {R : Room} {p : Program} {e : Env} {below : List Frame} {s : State} {sargs : Array Value} {y : MethodName} {len W9 : Nat}
theorem vx_back {ws : List Cond} {rm : Room} {Pc : Array Value → State → Prop} {Qc : Array Value → State → Outcome → State → Prop} {XC : String → State → State → Prop} {mc ms : Nat} {free : Addr → Prop} {bytes : ByteArray} {maxL : Nat} {ret : Option FieldType}
    (hM : vx_Met l y ws rm Pc Qc XC mc ms free) (hblind : FrameBlind Pc) (hrc : rm.cells = mc) (hrs : rm.slots = ms)
    (hframes : rm.frames + 1 ≤ R.frames) (hlocals : W9 + (maxL + 11) + rm.locals ≤ R.locals)
    (hws : ∀ w ∈ ws, ∀ a' U, s.WarmedH U.vm → w.before a' U = true) (hcode : Cond.code y bytes maxL ret ∈ ws) (hinit : ∀ a' U, s.WarmedH U.vm → (Cond.initialized y.cls).before a' U = true) :
    vx_Back l R p e below s sargs y len W9 (PreOf R mc ms Pc) (PostOf Qc mc ms free) (vx_Post XC mc ms free) := by
  intro m meth c A g ig mk a X hg hsize hdg hW hn hp
  have h1 : (headSpec ws rm).pre.before a A.U = true := atoms_intro fun w hw => hws w hw _ _ X.warmed
  have h2 : (Cond.code y bytes maxL ret).before a A.U = true := hws _ hcode _ _ X.warmed
  have h3 : (Cond.initialized y.cls).before a A.U = true := hinit _ _ X.warmed
  have h4 : A.cells + (headSpec ws rm).room.cells ≤ R.cells := by rw [show (headSpec ws rm).room.cells = mc from hrc]; exact hp.1
  have h5 : A.slots + (headSpec ws rm).room.slots ≤ R.slots := by rw [show (headSpec ws rm).room.slots = ms from hrs]; exact hp.2.1
  have hPc : Pc a (A.U.calling g mk a) := hblind _ _ _ _ hp.2.2
  obtain ⟨U, Ls, c0, s0⟩ := A
  dsimp only [Pt.U, Pt.locs, Pt.cells, Pt.slots] at h1 h2 h3 h4 h5 X hn hPc ⊢
  obtain ⟨methY, cY, hmY, hcY, -, hlY, -, -, -, -⟩ := Cond.code_spec hn h2
  obtain ⟨kY, hkY, -⟩ := className_of_methodNamed hn
  have hinitY : kY.init = .initialized := Cond.initialized_spec (findClass_of_methodNamed hn) hkY h3
  have h : At U g.method c below := by rw [hg]; exact X.here
  have hlocals9 : W9 + (maxL + 11) + (headSpec ws rm).room.locals ≤ R.locals := hlocals
  have happ : (headSpec ws rm).appliesLoose y e.platform (U.calling g mk a) = true :=
    Spec.appliesLoose_calling (g := g) h hdg hn hkY hinitY
      (X.room_calling (g := g) (R' := (headSpec ws rm).room) hsize hmY hcY hframes (by rw [hlY]; omega) h4 h5) h1
  obtain ⟨mid, hmid⟩ := h.above
  have hfr : (U.setTop g).frames = (.java g :: mid) ++ below := by rw [State.frames_setTop' g h.top, hmid]; rfl
  obtain ⟨o, s₂, hsteps, -, hend, hq⟩ := Steps.callFree hM p X.admits X.cas X.clock (acts := []) hfr happ hPc trivial
  have hq' : vx_Q Qc XC mc ms free a (U.calling g mk a) o s₂ := hq
  rw [State.frames_setTop' g h.top] at hend
  obtain ⟨g₀, hg0⟩ := Option.isSome_iff_exists.mp h.top
  obtain ⟨r, hr⟩ := State.topJava?_eq_some.mp hg0
  have hr' : (({ U with heap := s₂.heap, slotsUsed := s₂.slotsUsed } : State).setVm s₂.vm).frames = .java g₀ :: r := hr
  rcases hq' with ⟨hqc, L, hfe, hL⟩ | ⟨q, rfl, E, ce, L, hx, hce, hcv, hcl, hW₂, hsm, hL⟩
  · obtain ⟨⟨v, rfl⟩, hW₂, e2, q2, q3, q4, q5, q6⟩ := id hfe
    have e3 : s₂ = ({ (U.calling g mk a).setFrames s₂.frames with heap := s₂.heap, slotsUsed := s₂.slotsUsed } : State).setVm s₂.vm := by
      have : s₂ = ({ s₂ with vm := (U.calling g mk a).vm } : State).setVm s₂.vm := rfl
      rw [e2] at this
      exact this
    obtain ⟨c₂, i₂, len₂, hc₂, hd₂, hf₂⟩ := hend
    have hW' : U.WarmedH s₂.vm := hW₂
    have hcc : c₂ = c := by
      have h1 : s₂.code? g.method = U.code? g.method := by
        rw [State.code?_eq, State.code?_eq, hW'.alike.method?]
      exact Option.some.inj (hc₂.symm.trans (h1.trans h.code))
    subst hcc
    have hlen : len₂ = len := by rw [hdg] at hd₂; cases hd₂; rfl
    subst hlen
    have hs₂ : s₂ = (({ U with heap := s₂.heap, slotsUsed := s₂.slotsUsed } : State).setVm s₂.vm).setTop { g with pc := g.pc + len₂, stack := v.toList ++ g.stack } := by
      refine e3.trans ?_
      rw [hf₂, State.calling_eq h.top, State.setFrames_setFrames, State.setTop_of_frames _ hr', hr]
      rfl
    have hsame : U.sameButNew ({ U with heap := s₂.heap, slotsUsed := s₂.slotsUsed } : State) L mc ms := by
      refine ⟨?_, q2, q3, q4, q5, q6⟩
      obtain ⟨t, ht, -⟩ := State.frames_cons hr
      show ({ U with heap := s₂.heap, slotsUsed := s₂.slotsUsed } : State) = { U.setFrames U.frames with heap := s₂.heap, slotsUsed := s₂.slotsUsed }
      rw [State.setFrames_self ht]
    subst hg
    refine Or.inl ⟨v, ⟨(({ U with heap := s₂.heap, slotsUsed := s₂.slotsUsed } : State).setVm s₂.vm), Ls ++ L, c0 + mc, s0 + ms⟩,
      ⟨X.admits, X.cas, X.clock, X.frames, X.room, X.hears, X.method, X.code, (X.here.setHeapUsed s₂.heap s₂.slotsUsed).setVm hW'.alike, X.tail, State.WarmedH.trans X.warmed hW', X.limits, X.bytes, X.same.trans (hsame.setVm s.vm)⟩,
      ⟨g, mk, s₂, L, rfl, rfl, hqc, rfl, hL, rfl, rfl⟩, ?_⟩
    show Steps p.tables e below _ ((({ U with heap := s₂.heap, slotsUsed := s₂.slotsUsed } : State).setVm s₂.vm).setTop { g with pc := g.pc + len₂, stack := v.toList ++ g.stack })
    rw [← hs₂]
    exact hsteps
  · obtain ⟨e2, q2, q3, q4, q5, q6⟩ := id hsm
    have e3 : s₂ = ({ (U.calling g mk a).setFrames s₂.frames with heap := s₂.heap, slotsUsed := s₂.slotsUsed } : State).setVm s₂.vm := by
      have : s₂ = ({ s₂ with vm := (U.calling g mk a).vm } : State).setVm s₂.vm := rfl
      rw [e2] at this
      exact this
    have hf₂ : s₂.frames = .throwing q :: .java g :: U.frames.tail := hend
    have hW' : U.WarmedH s₂.vm := hW₂
    have hs₂ : s₂ = ((({ U with heap := s₂.heap, slotsUsed := s₂.slotsUsed } : State).setVm s₂.vm).setTop g).pushFrame (.throwing q) := by
      refine e3.trans ?_
      rw [hf₂, State.calling_eq h.top, State.setFrames_setFrames, State.pushFrame, State.frames_setTop _ hr', State.setTop_of_frames _ hr', State.setFrames_setFrames, hr]
      rfl
    have hsame : U.sameButNew ({ U with heap := s₂.heap, slotsUsed := s₂.slotsUsed } : State) L mc ms := by
      refine ⟨?_, q2, q3, q4, q5, q6⟩
      obtain ⟨t, ht, -⟩ := State.frames_cons hr
      show ({ U with heap := s₂.heap, slotsUsed := s₂.slotsUsed } : State) = { U.setFrames U.frames with heap := s₂.heap, slotsUsed := s₂.slotsUsed }
      rw [State.setFrames_self ht]
    subst hg
    refine Or.inr ⟨q, ⟨(({ U with heap := s₂.heap, slotsUsed := s₂.slotsUsed } : State).setVm s₂.vm), Ls ++ L, c0 + mc, s0 + ms⟩,
      ⟨X.admits, X.cas, X.clock, X.frames, X.room, X.hears, X.method, X.code, (X.here.setHeapUsed s₂.heap s₂.slotsUsed).setVm hW'.alike, X.tail, State.WarmedH.trans X.warmed hW', X.limits, X.bytes, X.same.trans (hsame.setVm s.vm)⟩,
      ⟨g, mk, s₂, L, E, ce, rfl, rfl, hx, hce, hcv, hcl, rfl, hL, rfl, rfl⟩, ?_⟩
    show Steps p.tables e below _ (((({ U with heap := s₂.heap, slotsUsed := s₂.slotsUsed } : State).setVm s₂.vm).setTop g).pushFrame (.throwing q))
    rw [← hs₂]
    exact hsteps
end Payer
section Calls
variable {p : Program} {l : Launch} {e : Env} {R : Room} {s : State} {m : MethodId} {args : Array Value} {below : List Frame} {meth : Method} {c : Code} {T : State} {locs : List Loc} {cells slots : Nat}
theorem vx_callV (X : Stand p l e R s m args below meth c T locs cells slots) (hexec : p.tables.exec = Jvm.exec) {own C : String} {index : Nat} {y : MethodName} {bytes : ByteArray} {maxL : Nat} {ret : Option FieldType}
    (hown : s.vm.findClass own = some m.cls) (hlink : (Cond.methodLink own index y).before args s = true) (hinst : (Cond.instanceMethod y).before args s = true) (hsel : (Cond.selects C y y).before args s = true)
    (hcode : (Cond.code y bytes maxL ret).before args s = true) (hy : y.cls ≠ "java/lang/invoke/MethodHandle" ∧ y.cls ≠ "java/lang/invoke/VarHandle")
    {W9 : Nat} {Pre : Pt → Array Value → Prop} {Post : Pt → Array Value → Option Value → Pt → Prop} {PostX : Pt → Array Value → Addr → Pt → Prop} (hK : vx_Back l R p e below s args y 3 W9 Pre Post PostX)
    {b : Addr} {cellB : Cell} (hcell : T.heap[b]? = some cellB) (hobj : cellB.vm.isStatics = false) (hcls : s.vm.findClass C = some cellB.cls)
    {g : JFrame} (hg : g.method = m) (hsize : g.locals.size = c.maxLocals) {argsL rest : List Value} (hlen : ∀ sig, parseMethodDescriptor y.desc = some sig → argsL.length = sig.parameters.length)
    (hstack : g.stack = argsL.reverse ++ .ref b :: rest) (hW : 2 * g.monitorRoom + (rest.map fun v => v.category).sum ≤ W9) (hdg : decode c.code g.pc = .ok (.invokevirtual index, 3))
    (hpre : ∀ vm₁, s.WarmedH vm₁ → Pre ⟨T.setVm vm₁, locs, cells, slots⟩ (Value.ref b :: argsL).toArray) :
    (∃ (v : Option Value) (vm₁ : Vm) (B : Pt), s.WarmedH vm₁ ∧ Stand p l e R s m args below meth c B.U B.locs B.cells B.slots ∧ Post ⟨T.setVm vm₁, locs, cells, slots⟩ (Value.ref b :: argsL).toArray v B ∧
      ∀ target, Steps p.tables e below (B.U.setTop { g with pc := g.pc + 3, stack := v.toList ++ rest }) target → Steps p.tables e below (T.setTop g) target) ∨
    (∃ (q : Addr) (vm₁ : Vm) (B : Pt), s.WarmedH vm₁ ∧ Stand p l e R s m args below meth c B.U B.locs B.cells B.slots ∧ PostX ⟨T.setVm vm₁, locs, cells, slots⟩ (Value.ref b :: argsL).toArray q B ∧
      Steps p.tables e below (T.setTop g) ((B.U.setTop { g with stack := rest }).pushFrame (.throwing q))) := by
  obtain ⟨mk, methM, hnamed, hmethM, hstM, habM⟩ := Cond.instanceMethod_spec hinst
  obtain ⟨methM', cM, hmethM', -, -, -, -, -, -, hsigM⟩ := Cond.code_spec hnamed hcode
  cases hmethM.symm.trans hmethM'
  obtain ⟨c2, r2, m2, q1, q2, q3, q4, kP, hkP, hkPi⟩ := Cond.selects_spec hsel
  cases hcls.symm.trans q1
  cases (State.methodFound?_of_named hnamed hy).symm.trans q2
  cases hnamed.symm.trans q3
  have hselP : selectMethod e.platform s.vm cellB.cls mk = .method mk := by rw [Launch.admits_selectMethod X.admits]; exact q4
  obtain ⟨vm₁, X₁, hstep₁⟩ := X.invokevirtual hexec hown hlink hnamed hmethM hstM hkP hkPi hy (a := b) (cell := cellB) hcell
    (fun z h => by rw [h] at hobj; cases hobj) hselP hmethM habM hkP hkPi (g := g) hg (argsL := argsL) (rest := rest) (hlen _ hsigM) hstack hdg
  rcases hK m meth c ⟨T.setVm vm₁, locs, cells, slots⟩ { g with stack := rest } (.invokevirtual index) mk (Value.ref b :: argsL).toArray X₁ hg hsize hdg hW (X₁.named hnamed) (hpre vm₁ X₁.warmed) with ⟨v, B, X', hpost, hsteps⟩ | ⟨q, B, X', hpost, hsteps⟩
  · exact Or.inl ⟨v, vm₁, B, X₁.warmed, X', hpost, fun target h => hstep₁ _ fun acts => by rw [doInvoke_state]; exact hsteps.trans h⟩
  · exact Or.inr ⟨q, vm₁, B, X₁.warmed, X', hpost, hstep₁ _ fun acts => by rw [doInvoke_state]; exact hsteps⟩
theorem vx_callS (X : Stand p l e R s m args below meth c T locs cells slots) (hexec : p.tables.exec = Jvm.exec) {own : String} {index : Nat} {y : MethodName} {bytes : ByteArray} {maxL : Nat} {ret : Option FieldType}
    (hown : s.vm.findClass own = some m.cls) (hlink : (Cond.methodLink own index y).before args s = true) (hstat : (Cond.static y).before args s = true) (hinit : (Cond.initialized y.cls).before args s = true)
    (hcode : (Cond.code y bytes maxL ret).before args s = true) (hy : y.cls ≠ "java/lang/invoke/MethodHandle" ∧ y.cls ≠ "java/lang/invoke/VarHandle")
    {W9 : Nat} {Pre : Pt → Array Value → Prop} {Post : Pt → Array Value → Option Value → Pt → Prop} {PostX : Pt → Array Value → Addr → Pt → Prop} (hK : vx_Back l R p e below s args y 3 W9 Pre Post PostX)
    {g : JFrame} (hg : g.method = m) (hsize : g.locals.size = c.maxLocals) {argsL rest : List Value} (hlen : ∀ sig, parseMethodDescriptor y.desc = some sig → argsL.length = sig.parameters.length)
    (hstack : g.stack = argsL.reverse ++ rest) (hW : 2 * g.monitorRoom + (rest.map fun v => v.category).sum ≤ W9) (hdg : decode c.code g.pc = .ok (.invokestatic index, 3))
    (hpre : ∀ vm₁, s.WarmedH vm₁ → Pre ⟨T.setVm vm₁, locs, cells, slots⟩ argsL.toArray) :
    (∃ (v : Option Value) (vm₁ : Vm) (B : Pt), s.WarmedH vm₁ ∧ Stand p l e R s m args below meth c B.U B.locs B.cells B.slots ∧ Post ⟨T.setVm vm₁, locs, cells, slots⟩ argsL.toArray v B ∧
      ∀ target, Steps p.tables e below (B.U.setTop { g with pc := g.pc + 3, stack := v.toList ++ rest }) target → Steps p.tables e below (T.setTop g) target) ∨
    (∃ (q : Addr) (vm₁ : Vm) (B : Pt), s.WarmedH vm₁ ∧ Stand p l e R s m args below meth c B.U B.locs B.cells B.slots ∧ PostX ⟨T.setVm vm₁, locs, cells, slots⟩ argsL.toArray q B ∧
      Steps p.tables e below (T.setTop g) ((B.U.setTop { g with stack := rest }).pushFrame (.throwing q))) := by
  obtain ⟨mk, hnamed⟩ := Cond.code_named hcode
  obtain ⟨methM, cM, hmethM, -, -, -, -, -, -, hsigM⟩ := Cond.code_spec hnamed hcode
  have hstatic : methM.isStatic = true := Cond.static_spec hnamed hmethM hstat
  obtain ⟨kP, hkP, -⟩ := className_of_methodNamed hnamed
  have hinitP : kP.init = .initialized := Cond.initialized_spec (findClass_of_methodNamed hnamed) hkP hinit
  obtain ⟨vm₁, X₁, hstep₁⟩ := X.invokestatic hexec hown hlink hnamed hmethM hstatic hkP hinitP hy (g := g) hg (argsL := argsL) (rest := rest) (hlen _ hsigM) hstack hdg
  rcases hK m meth c ⟨T.setVm vm₁, locs, cells, slots⟩ { g with stack := rest } (.invokestatic index) mk argsL.toArray X₁ hg hsize hdg hW (X₁.named hnamed) (hpre vm₁ X₁.warmed) with ⟨v, B, X', hpost, hsteps⟩ | ⟨q, B, X', hpost, hsteps⟩
  · exact Or.inl ⟨v, vm₁, B, X₁.warmed, X', hpost, fun target h => hstep₁ _ fun acts => by rw [doInvoke_state]; exact hsteps.trans h⟩
  · exact Or.inr ⟨q, vm₁, B, X₁.warmed, X', hpost, hstep₁ _ fun acts => by rw [doInvoke_state]; exact hsteps⟩
end Calls
theorem vx_cls {s : State} {T : State} {vm₁ : Vm} {E : String} {k : ClassId} (hW : s.WarmedH vm₁) (h : (T.setVm vm₁).vm.findClass E = some k) : s.vm.findClass E = some k := by
  have h1 : vm₁.findClass E = some k := h
  rw [hW.alike.findClass] at h1
  exact h1
/-- the method's frame g, with q thrown over it -/
def vx_W (p : Program) (l : Launch) (e : Env) (R : Room) (s : State) (m : MethodId) (args : Array Value) (below : List Frame) (meth : Method) (c : Code) (H : Heap) (locs : List Loc) (cells slots : Nat) (Q : State → Prop) (g : JFrame) (q : Addr) : Prop :=
  ∀ T : State, T.heap = H → Stand p l e R s m args below meth c T locs cells slots → ∃ t, Steps p.tables e below ((T.setTop g).pushFrame (.throwing q)) t ∧ Q t
def vx_Run (p : Program) (l : Launch) (e : Env) (R : Room) (s : State) (m : MethodId) (args : Array Value) (below : List Frame) (meth : Method) (c : Code) (H : Heap) (locs : List Loc) (cells slots mc ms : Nat) (g : JFrame) (rest : List Value) (Qa : State → Outcome → State → Prop) (XC : String → State → State → Prop) (free : Addr → Prop) : Prop :=
  ∀ T : State, T.heap = H → Stand p l e R s m args below meth c T locs cells slots →
    (∃ (v : Option Value) (st₀ t T' : State) (L : List Loc), st₀.heap = H ∧ Stand p l e R s m args below meth c T' (locs ++ L) (cells + mc) (slots + ms) ∧ (∀ q ∈ L, free q.base) ∧ T'.heap = t.heap ∧ T'.vm = t.vm ∧ Qa st₀ (.returned v) t ∧
      Goes p e below T g T' { g with pc := g.pc + 3, stack := v.toList ++ rest }) ∨
    (∃ (q : Addr) (st₀ t T' : State) (L : List Loc) (E : String) (ce : Cell), st₀.heap = H ∧ Stand p l e R s m args below meth c T' (locs ++ L) (cells + mc) (slots + ms) ∧ (∀ z ∈ L, free z.base) ∧ T'.heap = t.heap ∧ T'.vm = t.vm ∧ XC E st₀ t ∧ t.heap[q]? = some ce ∧ ce.vm = .none ∧ s.vm.findClass E = some ce.cls ∧
      Steps p.tables e below (T.setTop g) ((T'.setTop { g with stack := rest }).pushFrame (.throwing q)))
def vx_X {S : Type} (px : S → Prop) (B : String → S → State → Prop) (A : Nat → Prop) : String → State → State → Prop := fun E st t => ∃ u : S, px u ∧ B E u t ∧ va_F A st t
section Runs
variable {p : Program} {l : Launch} {e : Env} {R : Room} {s : State} {m : MethodId} {args : Array Value} {below : List Frame} {meth : Method} {c : Code} {H : Heap} {locs : List Loc} {cells slots : Nat}
variable {y : MethodName} {bytes cc : ByteArray} {maxL nL mc ms n index : Nat} {ret : Option FieldType} {ws : List Cond} {rm : Room} {Pc : Array Value → State → Prop} {Qc : Array Value → State → Outcome → State → Prop} {XC : String → State → State → Prop} {free : Addr → Prop} {Ts : List Cond} {own C : String} {b : Addr} {As rest : List Value} {g : JFrame}
theorem vx_callBack (cb : CallB R s args own index y bytes maxL ret ws rm mc ms n) (hM : vx_Met l y ws rm Pc Qc XC mc ms free) (hbl : FrameBlind Pc) : vx_Back l R p e below s args y 3 8 (PreOf R mc ms Pc) (PostOf Qc mc ms free) (vx_Post XC mc ms free) := by
  obtain ⟨hrc, hrs, hfr, hlo, hws, hcw, -, hini, -⟩ := cb
  exact vx_back (bytes := bytes) (maxL := maxL) (ret := ret) hM hbl hrc hrs hfr hlo hws hcw (fun a' U hW => word_at hW (Or.inl (by first | rfl | simp [Cond.onTables, Cond.keeps, Cond.steady])) hini)
theorem vx_runV (S : CallFix p m c cc nL s args Ts own) (hM : vx_Met l y ws rm Pc Qc XC mc ms free) (cw : CallW R s args own C index y bytes maxL ret ws rm mc ms n) (hp : PreV s H C b Pc As)
    (hg : g.method = m) (hn : As.length = n) (hsize : g.locals.size = nL) (hstack : g.stack = As.reverse ++ .ref b :: rest) (hW : 2 * g.monitorRoom + (rest.map fun v => v.category).sum ≤ 8) (hdg : decode cc g.pc = .ok (.invokevirtual index, 3)) (hf : cells + mc ≤ R.cells ∧ slots + ms ≤ R.slots) :
    vx_Run p l e R s m args below meth c H locs cells slots mc ms g rest (Qc (Value.ref b :: As).toArray) XC free := by
  have hK : vx_Back l R p e below s args y 3 8 (PreOf R mc ms Pc) (PostOf Qc mc ms free) (vx_Post XC mc ms free) := vx_callBack cw.1 hM hp.1
  obtain ⟨⟨-, -, -, -, -, -, hcode, -, hy, hlen, hl⟩, hin, hse⟩ := cw
  obtain ⟨hx, hb, hml, ho, -⟩ := S
  obtain ⟨-, ⟨cellB, hcB, hoB, hclB⟩, hPc⟩ := hp
  intro T hT X
  rcases vx_callV X hx (C := C) (bytes := bytes) (maxL := maxL) (ret := ret) ho hl hin hse hcode hy hK (by rw [hT]; exact hcB) hoB hclB hg (hsize.trans hml.symm) (argsL := As) (rest := rest) (fun sig h => hn.trans (hlen sig h)) hstack hW (by rw [hb]; exact hdg)
    (fun vm₁ hW₁ => ⟨hf.1, hf.2, hPc (T.setVm vm₁) hT hW₁⟩) with ⟨v, vm₁, ⟨U', l2, c2, s2⟩, hW₁, X', ⟨g', mk, t, L, e1, e2, hq, h1, hL, h2, h3⟩, st⟩ | ⟨q, vm₁, ⟨U', l2, c2, s2⟩, hW₁, X', ⟨g', mk, t, L, E, ce, e1, e2, hq, hce, hcv, hcl, h1, hL, h2, h3⟩, st⟩
  · dsimp only [Pt.U, Pt.locs, Pt.cells, Pt.slots] at X' e1 e2 h1 h2 h3 st
    subst h1; subst h2; subst h3
    exact Or.inl ⟨v, (T.setVm vm₁).calling g' mk (Value.ref b :: As).toArray, t, U', L, hT, X', hL, e1, e2, hq, st⟩
  · dsimp only [Pt.U, Pt.locs, Pt.cells, Pt.slots] at X' e1 e2 h1 h2 h3 st hcl
    subst h1; subst h2; subst h3
    exact Or.inr ⟨q, (T.setVm vm₁).calling g' mk (Value.ref b :: As).toArray, t, U', L, E, ce, hT, X', hL, e1, e2, hq, hce, hcv, vx_cls hW₁ hcl, st⟩
theorem vx_runS (S : CallFix p m c cc nL s args Ts own) (hM : vx_Met l y ws rm Pc Qc XC mc ms free) (cw : CallB R s args own index y bytes maxL ret ws rm mc ms n ∧ (Cond.static y).before args s = true) (hp : PreS s H Pc As)
    (hg : g.method = m) (hn : As.length = n) (hsize : g.locals.size = nL) (hstack : g.stack = As.reverse ++ rest) (hW : 2 * g.monitorRoom + (rest.map fun v => v.category).sum ≤ 8) (hdg : decode cc g.pc = .ok (.invokestatic index, 3)) (hf : cells + mc ≤ R.cells ∧ slots + ms ≤ R.slots) :
    vx_Run p l e R s m args below meth c H locs cells slots mc ms g rest (Qc As.toArray) XC free := by
  have hK : vx_Back l R p e below s args y 3 8 (PreOf R mc ms Pc) (PostOf Qc mc ms free) (vx_Post XC mc ms free) := vx_callBack cw.1 hM hp.1
  obtain ⟨⟨-, -, -, -, -, -, hcode, hini, hy, hlen, hl⟩, hstt⟩ := cw
  obtain ⟨hx, hb, hml, ho, -⟩ := S
  intro T hT X
  rcases vx_callS X hx (bytes := bytes) (maxL := maxL) (ret := ret) ho hl hstt hini hcode hy hK hg (hsize.trans hml.symm) (argsL := As) (rest := rest) (fun sig h => hn.trans (hlen sig h)) hstack hW (by rw [hb]; exact hdg)
    (fun vm₁ hW₁ => ⟨hf.1, hf.2, hp.2 (T.setVm vm₁) hT hW₁⟩) with ⟨v, vm₁, ⟨U', l2, c2, s2⟩, hW₁, X', ⟨g', mk, t, L, e1, e2, hq, h1, hL, h2, h3⟩, st⟩ | ⟨q, vm₁, ⟨U', l2, c2, s2⟩, hW₁, X', ⟨g', mk, t, L, E, ce, e1, e2, hq, hce, hcv, hcl, h1, hL, h2, h3⟩, st⟩
  · dsimp only [Pt.U, Pt.locs, Pt.cells, Pt.slots] at X' e1 e2 h1 h2 h3 st
    subst h1; subst h2; subst h3
    exact Or.inl ⟨v, (T.setVm vm₁).calling g' mk As.toArray, t, U', L, hT, X', hL, e1, e2, hq, st⟩
  · dsimp only [Pt.U, Pt.locs, Pt.cells, Pt.slots] at X' e1 e2 h1 h2 h3 st hcl
    subst h1; subst h2; subst h3
    exact Or.inr ⟨q, (T.setVm vm₁).calling g' mk As.toArray, t, U', L, E, ce, hT, X', hL, e1, e2, hq, hce, hcv, vx_cls hW₁ hcl, st⟩
end Runs
section Rows
variable {p : Program} {l : Launch} {e : Env} {R : Room} {s : State} {m : MethodId} {args : Array Value} {below : List Frame} {meth : Method} {c : Code} {H : Heap} {locs : List Loc} {cells slots : Nat} {Q : State → Prop}
variable {mc ms : Nat} {free : Addr → Prop} {A0 A1 : Nat → Prop} {H0 : Heap} {a : Array Value} {pc : Nat} {ls : Array Slot} {st0 rest : List Value}
theorem vx_keep {st₀ t T' : State} {L : List Loc} (h0 : st₀.heap = H) (e1 : T'.heap = t.heap) (hS : va_S A0 H0 H locs) (hA : ∀ q, q < H.size → A1 q → A0 q) (hf : ∀ q, free q → A0 q) (hL : ∀ q ∈ L, free q.base) (hF : va_F A1 st₀ t) :
    H.size ≤ T'.heap.size ∧ (∀ q : Nat, q < H.size → ¬ A1 q → T'.heap[q]? = H[q]?) ∧ va_S A0 H0 T'.heap (locs ++ L) := by
  obtain ⟨hz, hk⟩ := hF
  rw [h0] at hz hk
  exact ⟨by rw [e1]; exact hz, fun q h1 h2 => by rw [e1]; exact hk q h1 h2,
    ⟨Nat.le_trans hS.1 (by rw [e1]; exact hz), fun q h1 h2 => by rw [e1, hk q (Nat.lt_of_lt_of_le h1 hS.1) (fun z => h2 (hA q (Nat.lt_of_lt_of_le h1 hS.1) z))]; exact hS.2.1 q h1 h2, fun q hq => by
      rcases List.mem_append.mp hq with h | h
      · exact hS.2.2 q h
      · exact hf _ (hL q h)⟩⟩
theorem vx_calli {S SX : Type} {post : Int32 → S → Prop} {px : SX → Prop} {B : S → State → Prop} {BX : String → SX → State → Prop} {AX : Nat → Prop} (hr : vx_Run p l e R s m args below meth c H locs cells slots mc ms (F0 m pc ls st0) rest (va_Qi post B A1 a) (vx_X px BX AX) free) (hS : va_S A0 H0 H locs) (hA : ∀ q, q < H.size → A1 q → A0 q) (hf : ∀ q, free q → A0 q) (hAX : ∀ q, q < H.size → AX q → A0 q)
    (kx : ∀ (E : String) (ce : Cell) (q9 : Addr) (u : SX) (t : State) (H1 : Heap) (locs1 : List Loc), t.heap = H1 → s.vm.Alike t.vm → px u → BX E u t → H.size ≤ H1.size → (∀ q : Nat, q < H.size → ¬ AX q → H1[q]? = H[q]?) → va_S A0 H0 H1 locs1 → H1[q9]? = some ce → ce.vm = .none → s.vm.findClass E = some ce.cls → vx_W p l e R s m args below meth c H1 locs1 (cells + mc) (slots + ms) Q (F0 m pc ls rest) q9)
    (kk : ∀ (r : Int32) (u : S) (t : State) (H1 : Heap) (locs1 : List Loc), t.heap = H1 → s.vm.Alike t.vm → post r u → B u t → H.size ≤ H1.size → (∀ q : Nat, q < H.size → ¬ A1 q → H1[q]? = H[q]?) → va_S A0 H0 H1 locs1 → W p l e R s m args below meth c H1 locs1 (cells + mc) (slots + ms) Q (F0 m (pc + 3) ls (.int r :: rest))) : W p l e R s m args below meth c H locs cells slots Q (F0 m pc ls st0) := by
  intro T hT X
  rcases hr T hT X with ⟨v, st₀, t, T', L, h0, X', hL, e1, e2, ⟨⟨r, u, hv, hp, hb⟩, hF⟩, st⟩ | ⟨q, st₀, t, T', L, E, ce, h0, X', hL, e1, e2, ⟨u, hp, hb, hF⟩, hce, hcv, hcl, st⟩
  · cases hv
    obtain ⟨k1, k2, k3⟩ := vx_keep h0 e1 hS hA hf hL hF
    obtain ⟨t2, a1, b1⟩ := kk r u t T'.heap (locs ++ L) e1.symm (by rw [← e2]; exact X'.warmed.alike) hp hb k1 k2 k3 T' rfl X'
    exact ⟨t2, st t2 a1, b1⟩
  · obtain ⟨k1, k2, k3⟩ := vx_keep h0 e1 hS hAX hf hL hF
    obtain ⟨t2, a1, b1⟩ := kx E ce q u t T'.heap (locs ++ L) e1.symm (by rw [← e2]; exact X'.warmed.alike) hp hb k1 k2 k3 (by rw [e1]; exact hce) hcv hcl T' rfl X'
    exact ⟨t2, st.trans a1, b1⟩
theorem vx_calll {S SX : Type} {post : Int64 → S → Prop} {px : SX → Prop} {B : S → State → Prop} {BX : String → SX → State → Prop} {AX : Nat → Prop} (hr : vx_Run p l e R s m args below meth c H locs cells slots mc ms (F0 m pc ls st0) rest (va_Ql post B A1 a) (vx_X px BX AX) free) (hS : va_S A0 H0 H locs) (hA : ∀ q, q < H.size → A1 q → A0 q) (hf : ∀ q, free q → A0 q) (hAX : ∀ q, q < H.size → AX q → A0 q)
    (kx : ∀ (E : String) (ce : Cell) (q9 : Addr) (u : SX) (t : State) (H1 : Heap) (locs1 : List Loc), t.heap = H1 → s.vm.Alike t.vm → px u → BX E u t → H.size ≤ H1.size → (∀ q : Nat, q < H.size → ¬ AX q → H1[q]? = H[q]?) → va_S A0 H0 H1 locs1 → H1[q9]? = some ce → ce.vm = .none → s.vm.findClass E = some ce.cls → vx_W p l e R s m args below meth c H1 locs1 (cells + mc) (slots + ms) Q (F0 m pc ls rest) q9)
    (kk : ∀ (r : Int64) (u : S) (t : State) (H1 : Heap) (locs1 : List Loc), t.heap = H1 → s.vm.Alike t.vm → post r u → B u t → H.size ≤ H1.size → (∀ q : Nat, q < H.size → ¬ A1 q → H1[q]? = H[q]?) → va_S A0 H0 H1 locs1 → W p l e R s m args below meth c H1 locs1 (cells + mc) (slots + ms) Q (F0 m (pc + 3) ls (.long r :: rest))) : W p l e R s m args below meth c H locs cells slots Q (F0 m pc ls st0) := by
  intro T hT X
  rcases hr T hT X with ⟨v, st₀, t, T', L, h0, X', hL, e1, e2, ⟨⟨r, u, hv, hp, hb⟩, hF⟩, st⟩ | ⟨q, st₀, t, T', L, E, ce, h0, X', hL, e1, e2, ⟨u, hp, hb, hF⟩, hce, hcv, hcl, st⟩
  · cases hv
    obtain ⟨k1, k2, k3⟩ := vx_keep h0 e1 hS hA hf hL hF
    obtain ⟨t2, a1, b1⟩ := kk r u t T'.heap (locs ++ L) e1.symm (by rw [← e2]; exact X'.warmed.alike) hp hb k1 k2 k3 T' rfl X'
    exact ⟨t2, st t2 a1, b1⟩
  · obtain ⟨k1, k2, k3⟩ := vx_keep h0 e1 hS hAX hf hL hF
    obtain ⟨t2, a1, b1⟩ := kx E ce q u t T'.heap (locs ++ L) e1.symm (by rw [← e2]; exact X'.warmed.alike) hp hb k1 k2 k3 (by rw [e1]; exact hce) hcv hcl T' rfl X'
    exact ⟨t2, st.trans a1, b1⟩
theorem vx_callf {S SX : Type} {post : UInt32 → S → Prop} {px : SX → Prop} {B : S → State → Prop} {BX : String → SX → State → Prop} {AX : Nat → Prop} (hr : vx_Run p l e R s m args below meth c H locs cells slots mc ms (F0 m pc ls st0) rest (va_Qf post B A1 a) (vx_X px BX AX) free) (hS : va_S A0 H0 H locs) (hA : ∀ q, q < H.size → A1 q → A0 q) (hf : ∀ q, free q → A0 q) (hAX : ∀ q, q < H.size → AX q → A0 q)
    (kx : ∀ (E : String) (ce : Cell) (q9 : Addr) (u : SX) (t : State) (H1 : Heap) (locs1 : List Loc), t.heap = H1 → s.vm.Alike t.vm → px u → BX E u t → H.size ≤ H1.size → (∀ q : Nat, q < H.size → ¬ AX q → H1[q]? = H[q]?) → va_S A0 H0 H1 locs1 → H1[q9]? = some ce → ce.vm = .none → s.vm.findClass E = some ce.cls → vx_W p l e R s m args below meth c H1 locs1 (cells + mc) (slots + ms) Q (F0 m pc ls rest) q9)
    (kk : ∀ (r : UInt32) (u : S) (t : State) (H1 : Heap) (locs1 : List Loc), t.heap = H1 → s.vm.Alike t.vm → post r u → B u t → H.size ≤ H1.size → (∀ q : Nat, q < H.size → ¬ A1 q → H1[q]? = H[q]?) → va_S A0 H0 H1 locs1 → W p l e R s m args below meth c H1 locs1 (cells + mc) (slots + ms) Q (F0 m (pc + 3) ls (.float r :: rest))) : W p l e R s m args below meth c H locs cells slots Q (F0 m pc ls st0) := by
  intro T hT X
  rcases hr T hT X with ⟨v, st₀, t, T', L, h0, X', hL, e1, e2, ⟨⟨r, u, hv, hp, hb⟩, hF⟩, st⟩ | ⟨q, st₀, t, T', L, E, ce, h0, X', hL, e1, e2, ⟨u, hp, hb, hF⟩, hce, hcv, hcl, st⟩
  · cases hv
    obtain ⟨k1, k2, k3⟩ := vx_keep h0 e1 hS hA hf hL hF
    obtain ⟨t2, a1, b1⟩ := kk r u t T'.heap (locs ++ L) e1.symm (by rw [← e2]; exact X'.warmed.alike) hp hb k1 k2 k3 T' rfl X'
    exact ⟨t2, st t2 a1, b1⟩
  · obtain ⟨k1, k2, k3⟩ := vx_keep h0 e1 hS hAX hf hL hF
    obtain ⟨t2, a1, b1⟩ := kx E ce q u t T'.heap (locs ++ L) e1.symm (by rw [← e2]; exact X'.warmed.alike) hp hb k1 k2 k3 (by rw [e1]; exact hce) hcv hcl T' rfl X'
    exact ⟨t2, st.trans a1, b1⟩
theorem vx_calld {S SX : Type} {post : UInt64 → S → Prop} {px : SX → Prop} {B : S → State → Prop} {BX : String → SX → State → Prop} {AX : Nat → Prop} (hr : vx_Run p l e R s m args below meth c H locs cells slots mc ms (F0 m pc ls st0) rest (va_Qd post B A1 a) (vx_X px BX AX) free) (hS : va_S A0 H0 H locs) (hA : ∀ q, q < H.size → A1 q → A0 q) (hf : ∀ q, free q → A0 q) (hAX : ∀ q, q < H.size → AX q → A0 q)
    (kx : ∀ (E : String) (ce : Cell) (q9 : Addr) (u : SX) (t : State) (H1 : Heap) (locs1 : List Loc), t.heap = H1 → s.vm.Alike t.vm → px u → BX E u t → H.size ≤ H1.size → (∀ q : Nat, q < H.size → ¬ AX q → H1[q]? = H[q]?) → va_S A0 H0 H1 locs1 → H1[q9]? = some ce → ce.vm = .none → s.vm.findClass E = some ce.cls → vx_W p l e R s m args below meth c H1 locs1 (cells + mc) (slots + ms) Q (F0 m pc ls rest) q9)
    (kk : ∀ (r : UInt64) (u : S) (t : State) (H1 : Heap) (locs1 : List Loc), t.heap = H1 → s.vm.Alike t.vm → post r u → B u t → H.size ≤ H1.size → (∀ q : Nat, q < H.size → ¬ A1 q → H1[q]? = H[q]?) → va_S A0 H0 H1 locs1 → W p l e R s m args below meth c H1 locs1 (cells + mc) (slots + ms) Q (F0 m (pc + 3) ls (.double r :: rest))) : W p l e R s m args below meth c H locs cells slots Q (F0 m pc ls st0) := by
  intro T hT X
  rcases hr T hT X with ⟨v, st₀, t, T', L, h0, X', hL, e1, e2, ⟨⟨r, u, hv, hp, hb⟩, hF⟩, st⟩ | ⟨q, st₀, t, T', L, E, ce, h0, X', hL, e1, e2, ⟨u, hp, hb, hF⟩, hce, hcv, hcl, st⟩
  · cases hv
    obtain ⟨k1, k2, k3⟩ := vx_keep h0 e1 hS hA hf hL hF
    obtain ⟨t2, a1, b1⟩ := kk r u t T'.heap (locs ++ L) e1.symm (by rw [← e2]; exact X'.warmed.alike) hp hb k1 k2 k3 T' rfl X'
    exact ⟨t2, st t2 a1, b1⟩
  · obtain ⟨k1, k2, k3⟩ := vx_keep h0 e1 hS hAX hf hL hF
    obtain ⟨t2, a1, b1⟩ := kx E ce q u t T'.heap (locs ++ L) e1.symm (by rw [← e2]; exact X'.warmed.alike) hp hb k1 k2 k3 (by rw [e1]; exact hce) hcv hcl T' rfl X'
    exact ⟨t2, st.trans a1, b1⟩
theorem vx_callv {S SX : Type} {post : S → Prop} {px : SX → Prop} {B : S → State → Prop} {BX : String → SX → State → Prop} {AX : Nat → Prop} (hr : vx_Run p l e R s m args below meth c H locs cells slots mc ms (F0 m pc ls st0) rest (va_Qv post B A1 a) (vx_X px BX AX) free) (hS : va_S A0 H0 H locs) (hA : ∀ q, q < H.size → A1 q → A0 q) (hf : ∀ q, free q → A0 q) (hAX : ∀ q, q < H.size → AX q → A0 q)
    (kx : ∀ (E : String) (ce : Cell) (q9 : Addr) (u : SX) (t : State) (H1 : Heap) (locs1 : List Loc), t.heap = H1 → s.vm.Alike t.vm → px u → BX E u t → H.size ≤ H1.size → (∀ q : Nat, q < H.size → ¬ AX q → H1[q]? = H[q]?) → va_S A0 H0 H1 locs1 → H1[q9]? = some ce → ce.vm = .none → s.vm.findClass E = some ce.cls → vx_W p l e R s m args below meth c H1 locs1 (cells + mc) (slots + ms) Q (F0 m pc ls rest) q9)
    (kk : ∀ (u : S) (t : State) (H1 : Heap) (locs1 : List Loc), t.heap = H1 → s.vm.Alike t.vm → post u → B u t → H.size ≤ H1.size → (∀ q : Nat, q < H.size → ¬ A1 q → H1[q]? = H[q]?) → va_S A0 H0 H1 locs1 → W p l e R s m args below meth c H1 locs1 (cells + mc) (slots + ms) Q (F0 m (pc + 3) ls (rest))) : W p l e R s m args below meth c H locs cells slots Q (F0 m pc ls st0) := by
  intro T hT X
  rcases hr T hT X with ⟨v, st₀, t, T', L, h0, X', hL, e1, e2, ⟨⟨u, hv, hp, hb⟩, hF⟩, st⟩ | ⟨q, st₀, t, T', L, E, ce, h0, X', hL, e1, e2, ⟨u, hp, hb, hF⟩, hce, hcv, hcl, st⟩
  · cases hv
    obtain ⟨k1, k2, k3⟩ := vx_keep h0 e1 hS hA hf hL hF
    obtain ⟨t2, a1, b1⟩ := kk u t T'.heap (locs ++ L) e1.symm (by rw [← e2]; exact X'.warmed.alike) hp hb k1 k2 k3 T' rfl X'
    exact ⟨t2, st t2 a1, b1⟩
  · obtain ⟨k1, k2, k3⟩ := vx_keep h0 e1 hS hAX hf hL hF
    obtain ⟨t2, a1, b1⟩ := kx E ce q u t T'.heap (locs ++ L) e1.symm (by rw [← e2]; exact X'.warmed.alike) hp hb k1 k2 k3 (by rw [e1]; exact hce) hcv hcl T' rfl X'
    exact ⟨t2, st.trans a1, b1⟩
end Rows
section Ends
variable {p : Program} {l : Launch} {e : Env} {R : Room} {s : State} {m : MethodId} {args : Array Value} {below : List Frame} {meth : Method} {c : Code} {H : Heap} {locs : List Loc} {cells slots : Nat} {Q : State → Prop}
variable {mc ms : Nat} {free : Addr → Prop} {A0 A1 : Nat → Prop} {H0 : Heap} {a : Array Value} {ls : Array Slot} {st0 rest : List Value}
variable {Qc : Array Value → State → Outcome → State → Prop} {XC : String → State → State → Prop}
/-- what a body that may throw owes at its end -/
def vx_MQ (below : List Frame) (Qc : Array Value → State → Outcome → State → Prop) (XC : String → State → State → Prop) (a : Array Value) (s : State) (mc ms : Nat) (free : Addr → Prop) : State → Prop := fun t =>
  ∃ o, t.status = .running ∧ Ended t below o ∧ vx_Q Qc XC mc ms free a s o t
theorem vx_ret {g : JFrame} {mc ms : Nat} (k : W p l e R s m args below meth c H locs cells slots (MQ below Qc args s mc ms free) g) : W p l e R s m args below meth c H locs cells slots (vx_MQ below Qc XC args s mc ms free) g := by
  intro T hT X
  obtain ⟨t, a1, o, b1, b2, b3, b4⟩ := k T hT X
  exact ⟨t, a1, o, b1, b2, Or.inl ⟨b3, b4⟩⟩
/-- not caught here: it goes on to the caller -/
theorem vx_widen {g : JFrame} {q : Addr} {k n : Nat} (h1 : cells ≤ k) (h2 : slots ≤ n) (kk : vx_W p l e R s m args below meth c H locs k n Q g q) : vx_W p l e R s m args below meth c H locs cells slots Q g q := fun T hT X => kk T hT (stand_widen X h1 h2)
theorem vx_out {pc : Nat} {E : String} {ce : Cell} {q : Addr} {mc ms : Nat} (hout : ∀ x ∈ c.exceptionTable.toList, covers x pc = false) (hlocks : meth.locks = false) (hcell : H[q]? = some ce) (hv : ce.vm = .none) (hcl : s.vm.findClass E = some ce.cls)
    (hx : ∀ t : State, t.heap = H → s.vm.Alike t.vm → XC E s t) (hf : ∀ z ∈ locs, free z.base) (hc : cells ≤ mc) (hs : slots ≤ ms) :
    vx_W p l e R s m args below meth c H locs cells slots (vx_MQ below Qc XC args s mc ms free) (F0 m pc ls rest) q := by
  intro T hT X
  obtain ⟨st1, hrun, hend, hW, hsm⟩ := X.leaveThrown q (g := F0 m pc ls rest) rfl rfl rfl hout hlocks
  have hcell9 : (T.setFrames (.throwing q :: below)).heap[q]? = some ce := by
    show T.heap[q]? = some ce
    rw [hT]; exact hcell
  exact ⟨_, st1, .threw q, hrun, hend, Or.inr ⟨q, rfl, E, ce, locs, hx _ hT hW.alike, hcell9, hv, hcl, hW, hsm.mono hc hs, hf⟩⟩
theorem vx_frame {U : State} {k n : Nat} (h : s.sameButNew ({ U with vm := s.vm } : State) locs k n) : s.heap.size ≤ U.heap.size ∧ ∀ q : Nat, q < s.heap.size → (∀ z ∈ locs, z.base ≠ q) → U.heap[q]? = s.heap[q]? := by
  obtain ⟨-, h2, -, -, -, h6⟩ := h
  refine ⟨h2, fun q hq hz => ?_⟩
  obtain ⟨c9, e1, e2, e3, e4⟩ := h6 q _ (Array.getElem?_eq_getElem hq)
  have hs : c9.slots = (s.heap[q]).slots := Array.ext_getElem? fun i => e4 i fun hm => hz _ hm rfl
  have h9 : c9 = s.heap[q] := by
    rw [hs] at e2
    exact e2
  have e5 : U.heap[q]? = some c9 := e1
  rw [e5, h9, Array.getElem?_eq_getElem hq]
/-- the words of a throw but the four that speak of the heap -/
def vx_no (w : Cond) : Bool := decide (w ≠ .isRef (.static Bundle.tN "UNASSIGNED_STACK" Bundle.steD)) && decide (w ≠ .isRef (.static Bundle.tN "SUPPRESSED_SENTINEL" Bundle.listD)) && decide (w ≠ .laysStatic Bundle.tN "UNASSIGNED_STACK" Bundle.steD) && decide (w ≠ .laysStatic Bundle.tN "SUPPRESSED_SENTINEL" Bundle.listD)
def vx_at0 (own : String) (ic : Nat) (X : String) (names : List String) : List Cond := (Bundle.ownAtoms0 own ic X names).filter vx_no
def vx_atS (own : String) (ic : Nat) (X : String) (names : List String) : List Cond := (Bundle.ownAtoms own ic X names).filter vx_no
/-- a word that the tables alone decide, or a good one -/
def vx_ot (w : Cond) : Bool := w.onTables || goodWord w
theorem vx_ot_at {args a' : Array Value} {s U : State} {w : Cond} (hW : s.WarmedH U.vm) (hvm : s.vm = U.vm) (hg : vx_ot w = true) (h : w.before args s = true) : w.before a' U = true := by
  simp only [vx_ot, Bool.or_eq_true] at hg
  rcases hg with hg | hg
  · exact va_tabs hg hvm h
  · exact word_at hW (good_of_word hg) h
/-- a list's words: the good ones out of the method's own list, the others by premises of their own -/
theorem vx_hat {args : Array Value} {s : State} {L B : List Cond} (h1 : ∀ w ∈ L.filter goodWord, w.before args s = true) (h2 : ∀ w ∈ L.filter (fun w => !goodWord w), w ∈ B) (h3 : ∀ w ∈ B, w.before args s = true) : ∀ w ∈ L, w.before args s = true := by
  intro w hw
  by_cases g : goodWord w = true
  · exact h1 w (List.mem_filter.mpr ⟨hw, g⟩)
  · refine h3 w (h2 w (List.mem_filter.mpr ⟨hw, ?_⟩))
    show (!goodWord w) = true
    cases hgw : goodWord w
    · rfl
    · exact absurd hgw g
theorem vx_c {args : Array Value} {s : State} {w : Cond} {B : List Cond} (h : w.before args s = true) (t : ∀ w ∈ B, w.before args s = true) : ∀ w' ∈ w :: B, w'.before args s = true := fun w' h' => (List.mem_cons.mp h').elim (fun e => by rw [e]; exact h) (t w')
theorem vx_n {args : Array Value} {s : State} : ∀ w ∈ ([] : List Cond), w.before args s = true := fun _ h => nomatch h
theorem vx_own {args : Array Value} {s : State} {L : List Cond} (h1 : ∀ w ∈ L.filter vx_no, w.before args s = true)
    (hU : (Cond.isRef (.static Bundle.tN "UNASSIGNED_STACK" Bundle.steD)).before args s = true) (hN : (Cond.isRef (.static Bundle.tN "SUPPRESSED_SENTINEL" Bundle.listD)).before args s = true)
    (lU : (Cond.laysStatic Bundle.tN "UNASSIGNED_STACK" Bundle.steD).before args s = true) (lN : (Cond.laysStatic Bundle.tN "SUPPRESSED_SENTINEL" Bundle.listD).before args s = true) : ∀ w ∈ L, w.before args s = true := by
  intro w hw
  by_cases e1 : w = .isRef (.static Bundle.tN "UNASSIGNED_STACK" Bundle.steD)
  · rw [e1]; exact hU
  · by_cases e2 : w = .isRef (.static Bundle.tN "SUPPRESSED_SENTINEL" Bundle.listD)
    · rw [e2]; exact hN
    · by_cases e3 : w = .laysStatic Bundle.tN "UNASSIGNED_STACK" Bundle.steD
      · rw [e3]; exact lU
      · by_cases e4 : w = .laysStatic Bundle.tN "SUPPRESSED_SENTINEL" Bundle.listD
        · rw [e4]; exact lN
        · exact h1 w (List.mem_filter.mpr ⟨hw, by unfold vx_no; rw [decide_eq_true e1, decide_eq_true e2, decide_eq_true e3, decide_eq_true e4]; rfl⟩)
/-- where a static field lies, its class's statics cell in H -/
def vx_L (C n d : String) (A : Nat → Prop) (U : State) (H : Heap) : Prop := ∃ (c : ClassId) (k : Class) (i : Nat) (f : Field) (a : Nat) (cell : Cell), U.vm.findClass C = some c ∧ U.fieldFound? C n d = some (c, k, i, f) ∧ f.isStatic = true ∧ k.statics = some a ∧ H[a]? = some cell ∧ cell.vm.isStatics = true ∧ cell.cls = c ∧ f.slot < cell.slots.size ∧ k.staticTypes[f.slot]? = some f.type ∧ ¬ A a
theorem vx_L.moved {C n d : String} {A : Nat → Prop} {u U : State} {H : Heap} (hvm : u.vm.Alike U.vm) (h : vx_L C n d A u H) : vx_L C n d A U H := by
  obtain ⟨c, k, i, f, a, cell, h1, h2, h3, h4, h5, h6, h7, h8, h9, h10⟩ := h
  obtain ⟨k', hi', he⟩ := State.fieldFound?_setVm hvm h2
  exact ⟨c, k', i, f, a, cell, by rw [hvm.findClass]; exact h1, hi', h3, by rw [he]; exact h4, h5, h6, h7, h8, by rw [he]; exact h9, h10⟩
theorem vx_L.kept {C n d : String} {A : Nat → Prop} {U : State} {H H1 : Heap} (h : vx_L C n d A U H) (hq : ∀ a : Nat, a < H.size → ¬ A a → H1[a]? = H[a]?) : vx_L C n d A U H1 := by
  obtain ⟨c, k, i, f, a, cell, h1, h2, h3, h4, h5, h6, h7, h8, h9, h10⟩ := h
  exact ⟨c, k, i, f, a, cell, h1, h2, h3, h4, by rw [hq a (Array.getElem?_eq_some_iff.mp h5).1 h10]; exact h5, h6, h7, h8, h9, h10⟩
theorem vx_L.narrow {C n d : String} {A B : Nat → Prop} {U : State} {H : Heap} (h : vx_L C n d A U H) (hAB : ∀ q, B q → A q) : vx_L C n d B U H := by
  obtain ⟨c, k, i, f, a, cell, h1, h2, h3, h4, h5, h6, h7, h8, h9, h10⟩ := h
  exact ⟨c, k, i, f, a, cell, h1, h2, h3, h4, h5, h6, h7, h8, h9, fun z => h10 (hAB _ z)⟩
theorem vx_L.word {C n d : String} {A : Nat → Prop} {s : State} {args : Array Value} (h : vx_L C n d A s s.heap) : (Cond.laysStatic C n d).before args s = true := by
  obtain ⟨c, k, i, f, a, cell, h1, h2, h3, h4, h5, h6, h7, h8, h9, -⟩ := h
  show (Cond.laysStatic C n d).holds args s none s [] = true
  exact Cond.laysStatic_of h1 h2 h3 h4 h5 h6 h7 h8 h9
/-- .. and what it holds: null or some reference -/
def vx_Zq (C n d : String) (A : Nat → Prop) (U : State) (H : Heap) : Prop := va_Zq C n d A U H ∧ vx_L C n d A U H
theorem vx_Zq.moved {C n d : String} {A : Nat → Prop} {u U : State} {H : Heap} (hvm : u.vm.Alike U.vm) (h : vx_Zq C n d A u H) : vx_Zq C n d A U H := ⟨va_Zq.moved hvm h.1, vx_L.moved hvm h.2⟩
theorem vx_Zq.kept {C n d : String} {A : Nat → Prop} {U : State} {H H1 : Heap} (h : vx_Zq C n d A U H) (hq : ∀ a : Nat, a < H.size → ¬ A a → H1[a]? = H[a]?) : vx_Zq C n d A U H1 := ⟨va_Zq.kept h.1 hq, vx_L.kept h.2 hq⟩
theorem vx_Zq.narrow {C n d : String} {A B : Nat → Prop} {U : State} {H : Heap} (h : vx_Zq C n d A U H) (hAB : ∀ q, B q → A q) : vx_Zq C n d B U H := ⟨va_Zq.narrow h.1 hAB, vx_L.narrow h.2 hAB⟩
theorem vx_Zqof {args : Array Value} {s : State} {C n d : String} {A : Nat → Prop} (hl : (Cond.laysStatic C n d).before args s = true) (hini : (Cond.initialized C).before args s = true) (h : (Cond.isRef (.static C n d)).before args s = true) (hA : ∀ a : Nat, a < s.heap.size → ¬ A a) : vx_Zq C n d A s s.heap := by
  refine ⟨va_Zqof hl hini h hA, ?_⟩
  obtain ⟨c, k, i, f, a, cell, h1, h2, h3, h4, h5, h6, h7, h8, h9⟩ := Cond.laysStatic_spec hl
  exact ⟨c, k, i, f, a, cell, h1, h2, h3, h4, h5, h6, h7, h8, h9, hA a (Array.getElem?_eq_some_iff.mp h5).1⟩
theorem vx_isRef {C n d : String} {v : Value} {A : Nat → Prop} {s : State} {args : Array Value} (h : va_Z C n d v A s s.heap) (hv : v.isRef = true) : (Cond.isRef (.static C n d)).before args s = true := by
  obtain ⟨cf, kf, fi, f, a, cell, h1, h2, h3, h4, h5, h6, h7, -⟩ := h
  have he : (Term.static C n d).eval args s none [] s = some v := by
    simp [Term.eval, State.fieldNamed?, h1, h2, h4, h5, h6, h7]
  simp only [Cond.before, Cond.holds, Cond.value, he]
  cases v <;> simp_all [Value.isRef]
theorem vx_isRefq {C n d : String} {A : Nat → Prop} {s : State} {args : Array Value} (h : va_Zq C n d A s s.heap) : (Cond.isRef (.static C n d)).before args s = true := by
  rcases h with h | ⟨t, h⟩
  · exact vx_isRef h rfl
  · exact vx_isRef h rfl
/-- the same frame, seen from here: as if the method were called anew in this heap -/
theorem vx_rebase {T : State} (X : Stand p l e R s m args below meth c T locs cells slots) {R' : Room} (hf : R'.frames ≤ R.frames) (hl : R'.locals ≤ R.locals) (hc : cells + R'.cells ≤ R.cells) (hs : slots + R'.slots ≤ R.slots) :
    Stand p l e R' ((T.setVm s.vm).setFrames (.invoking m args :: below)) m args below meth c T [] 0 0 := by
  have htop : (T.setVm s.vm).topJava?.isSome := X.here.top
  have hF : ((T.setVm s.vm).setFrames (.invoking m args :: below)).frames = .invoking m args :: below := State.frames_setFrames _ (State.cur_lt_of_top htop)
  obtain ⟨g₀, hg0⟩ := Option.isSome_iff_exists.mp htop
  obtain ⟨r, hr⟩ := State.topJava?_eq_some.mp hg0
  have hl9 : e.platform.stackLimits (T.setVm s.vm).me = e.platform.stackLimits s.me := X.limits
  have hb9 : (T.setVm s.vm).me.stackBytes = s.me.stackBytes := X.bytes
  refine ⟨X.admits, X.cas, X.clock, hF, ?_, X.hears, X.method, X.code, X.here, X.tail, X.warmed, ?_, ?_, ?_⟩
  · have h := X.room
    have hU : ((T.setVm s.vm).setFrames (.invoking m args :: below)).localsInUse = s.localsInUse := by
      rw [State.localsInUse_invoking hF (meth := meth) (c := c) X.method X.code, State.localsInUse_invoking X.frames X.method X.code]
    simp only [State.hasRoom, Bool.and_eq_true, decide_eq_true_eq] at h ⊢
    obtain ⟨⟨⟨⟨h1, h2, h3, h4, h5, h6⟩, h7⟩, h8⟩, h9⟩ := h
    rw [X.frames, List.length_cons] at h2 h3
    have q1 := X.heapSize
    have q2 := X.used
    simp only [hF, hU, List.length_cons, State.stackLimits_setFrames, State.stackBytes_setFrames, hl9, hb9]
    refine ⟨⟨⟨⟨by omega, by omega, by omega, by omega, by omega, h6⟩, ?_⟩, ?_⟩, X.book⟩
    · show T.heap.size + R'.cells ≤ e.platform.maxCells
      omega
    · show T.slotsUsed + R'.slots ≤ e.platform.maxSlots
      omega
  · rw [State.stackLimits_setFrames]; rfl
  · rw [State.stackBytes_setFrames]; rfl
  · refine ⟨?_, Nat.le_refl _, Nat.le_refl _, ?_, ?_, fun a c9 h9 => ⟨c9, h9, rfl, rfl, fun _ _ => rfl⟩⟩
    · obtain ⟨t, ht, -⟩ := State.frames_cons hr
      show T.setVm s.vm = { ((T.setVm s.vm).setFrames (.invoking m args :: below)).setFrames (T.setVm s.vm).frames with heap := T.heap, slotsUsed := T.slotsUsed }
      rw [State.setFrames_setFrames, State.setFrames_self ht]
      rfl
    · show T.slotsUsed = T.slotsUsed + ((T.heap.toList.drop T.heap.size).map (·.slots.size)).sum
      rw [List.drop_eq_nil_of_le (Nat.le_of_eq Array.length_toList)]
      rfl
    · show ((T.heap.toList.drop T.heap.size).map (·.slots.size)).sum ≤ 0
      rw [List.drop_eq_nil_of_le (Nat.le_of_eq Array.length_toList)]
      exact Nat.le_refl _
/-- 'throw new E()': new; dup; invokespecial; athrow -/
theorem vx_throw0 {cc : ByteArray} {pc : Nat} (hexec : p.tables.exec = Jvm.exec) (hb : c.code = cc) (hl : l.stackTraces = false) {own cls : String} {names : List String} {ik ic mc ms : Nat} {A : Nat → Prop}
    (hown : s.vm.findClass own = some m.cls) (hcls : Bundle.fit cls = true) (hnames : ∀ n ∈ names, Bundle.fit n = true)
    (hk : (Cond.classLink own ik cls).before args s = true) (hini : (Cond.initialized cls).before args s = true) (hat : ∀ w ∈ vx_at0 own ic cls names, w.before args s = true)
    (hgood : ∀ w ∈ Cond.classLink own ik cls :: Cond.initialized cls :: vx_at0 own ic cls names, vx_ot w = true)
    (hU : vx_Zq Bundle.tN "UNASSIGNED_STACK" Bundle.steD A s s.heap) (hN : vx_Zq Bundle.tN "SUPPRESSED_SENTINEL" Bundle.listD A s s.heap) (hS : va_S A s.heap H locs) (hsize : ls.size = c.maxLocals)
    (d0 : decode cc pc = .ok (.new ik, 3)) (d3 : decode cc (pc + 3) = .ok (.dup, 1)) (d4 : decode cc (pc + 4) = .ok (.invokespecial ic, 3)) (d7 : decode cc (pc + 7) = .ok (.athrow, 1))
    (hout : ∀ x ∈ c.exceptionTable.toList, covers x (pc + 7) = false)
    (hRframes : names.length + 3 < R.frames) (hRlocals : (rest.map fun v => v.category).sum + (13 * (names.length + 1) + 42) ≤ R.locals) (hRcells : cells + 1 ≤ R.cells) (hRslots : slots + 6 ≤ R.slots) (hlocks : meth.locks = false)
    (hx : ∀ t : State, s.vm.Alike t.vm → H.size ≤ t.heap.size → (∀ q : Nat, q < H.size → t.heap[q]? = H[q]?) → XC cls s t)
    (hf : ∀ z ∈ locs, free z.base) (hc : cells + 1 ≤ mc) (hs : slots + 6 ≤ ms) :
    W p l e R s m args below meth c H locs cells slots (vx_MQ below Qc XC args s mc ms free) (F0 m pc ls rest) := by
  intro T hT X
  have htr : e.platform.stackTraces = false := (show e.platform.stackTraces = l.stackTraces by rw [X.admits.platform]).trans hl
  have Y := vx_rebase X (R' := { frames := R.frames, locals := R.locals, cells := 1, slots := 6 }) (Nat.le_refl _) (Nat.le_refl _) hRcells hRslots
  obtain ⟨s', hA⟩ : ∃ z, z = (T.setVm s.vm).setFrames (.invoking m args :: below) := ⟨_, rfl⟩
  rw [← hA] at Y
  have hvm : s'.vm = s.vm := by rw [hA]; rfl
  have hhp : s'.heap = H := by rw [hA]; exact hT
  have hW0 : s.WarmedH s'.vm := by rw [hvm]; exact State.WarmedH.refl s
  have hat' : ∀ w ∈ vx_at0 own ic cls names, w.before args s' = true := fun w hw => vx_ot_at hW0 hvm.symm (hgood w (List.mem_cons_of_mem _ (List.mem_cons_of_mem _ hw))) (hat w hw)
  have hk' : (Cond.classLink own ik cls).before args s' = true := vx_ot_at hW0 hvm.symm (hgood _ List.mem_cons_self) hk
  have hini' : (Cond.initialized cls).before args s' = true := vx_ot_at hW0 hvm.symm (hgood _ (List.mem_cons_of_mem _ List.mem_cons_self)) hini
  have hU' : vx_Zq Bundle.tN "UNASSIGNED_STACK" Bundle.steD A s' s'.heap := by rw [hhp]; exact vx_Zq.moved hW0.alike (hU.kept hS.2.1)
  have hN' : vx_Zq Bundle.tN "SUPPRESSED_SENTINEL" Bundle.listD A s' s'.heap := by rw [hhp]; exact vx_Zq.moved hW0.alike (hN.kept hS.2.1)
  have h : ∀ w ∈ Bundle.ownAtoms0 own ic cls names, w.before args s' = true := vx_own hat' (vx_isRefq hU'.1) (vx_isRefq hN'.1) hU'.2.word hN'.2.word
  have hown' : s'.vm.findClass own = some m.cls := by rw [hvm]; exact hown
  have hins : (Cond.instantiable cls 6).before args s' = true := h _ (by simp [Bundle.ownAtoms0])
  obtain ⟨vm₁, cX, kX, hfX, hkX, -, -, X₁, st1⟩ := Y.newCold hexec (own := own) (C := cls) (index := ik) (n := 6) hown' hk' hins hini'
    (g := F0 m pc ls rest) rfl (by rw [hb]; exact d0) (Nat.le_refl _) (Nat.le_refl _)
  generalize hT1 : (T.setVm vm₁).pushCell { cls := cX, slots := kX.instanceTypes.map defaultValue, vm := .none } = T1 at X₁ st1
  have hcat : (Value.ref T.heap.size).category = 1 := rfl
  have hcellA : T1.heap[T.heap.size]? = some (freshCell cX kX) := by rw [← hT1]; exact State.heap_pushCell_size _ _
  have d3' : decode c.code (pc + 3) = .ok (.dup, 1) := by rw [hb]; exact d3
  obtain ⟨U, hsteps, hrun, hend, hW, hsame, ce, hce, hO⟩ := X₁.ctorThrow0 hexec htr (own := own) (cls := cls) (names := names) (ic := ic) hown' hcls hnames h (fun x hx => nomatch hx) hfX hkX hcellA (by rw [hhp, hT]; exact Nat.le_refl _)
    (g := { method := m, pc := pc + 4, locals := ls, stack := .ref T.heap.size :: .ref T.heap.size :: rest, locked := none }) rfl hsize rfl rfl (rest := rest) rfl
    (by rw [hb]; exact d4) (by rw [hb]; exact d7) hout hRframes (by simp only [List.map_cons, List.sum_cons, hcat]; omega) hlocks
  obtain ⟨f1, f2⟩ := vx_frame hsame
  rw [hhp] at f1 f2
  have hWs : s.WarmedH U.vm := State.WarmedH.trans hW0 hW
  have hcl : s.vm.findClass cls = some ce.cls := by
    have h9 := hO.cls
    rw [hvm] at h9
    exact h9
  have hall : s.sameButNew ({ U with vm := s.vm } : State) locs mc ms := by
    subst hA
    obtain ⟨e1, e2⟩ := hsame
    rw [State.setFrames_setFrames] at e1
    have h2 : (T.setVm s.vm).sameButNew ({ U with vm := s.vm } : State) [] (0 + 1) (0 + 6) := ⟨e1, e2⟩
    have h3 := X.same.trans h2
    rw [List.append_nil] at h3
    exact h3.mono hc hs
  refine ⟨U, ?_, .threw T.heap.size, hrun, hend, Or.inr ⟨T.heap.size, rfl, cls, ce, locs, hx U hWs.alike f1 (fun q hq => f2 q hq (fun z hz => nomatch hz)), hce, hO.vm, hcl, hWs, hall, hf⟩⟩
  refine st1 _ ?_
  show Steps p.tables e below (T1.setTop { method := m, pc := pc + 3, locals := ls, stack := .ref T.heap.size :: rest, locked := none }) _
  jvm_step X₁.here [X₁.here.top, hexec, d3', Value.category]
  exact hsteps
/-- 'throw new E("text")': new; dup; ldc; invokespecial; athrow -/
theorem vx_throwS {cc : ByteArray} {pc : Nat} (hexec : p.tables.exec = Jvm.exec) (hb : c.code = cc) (hl : l.stackTraces = false) {own cls text : String} {names : List String} {ik is ic mc ms sa : Nat} {A : Nat → Prop}
    (hown : s.vm.findClass own = some m.cls) (hcls : Bundle.fit cls = true) (hnames : ∀ n ∈ names, Bundle.fit n = true)
    (hk : (Cond.classLink own ik cls).before args s = true) (hini : (Cond.initialized cls).before args s = true) (hstr : vk_R own is text sa s) (hat : ∀ w ∈ vx_atS own ic cls names, w.before args s = true)
    (hgood : ∀ w ∈ Cond.classLink own ik cls :: Cond.initialized cls :: vx_atS own ic cls names, vx_ot w = true)
    (hU : vx_Zq Bundle.tN "UNASSIGNED_STACK" Bundle.steD A s s.heap) (hN : vx_Zq Bundle.tN "SUPPRESSED_SENTINEL" Bundle.listD A s s.heap) (hS : va_S A s.heap H locs) (hsize : ls.size = c.maxLocals)
    (d0 : decode cc pc = .ok (.new ik, 3)) (d3 : decode cc (pc + 3) = .ok (.dup, 1)) (d4 : decode cc (pc + 4) = .ok (.ldc is, 2)) (d6 : decode cc (pc + 6) = .ok (.invokespecial ic, 3)) (d9 : decode cc (pc + 9) = .ok (.athrow, 1))
    (hout : ∀ x ∈ c.exceptionTable.toList, covers x (pc + 9) = false)
    (hRframes : names.length + 3 < R.frames) (hRlocals : (rest.map fun v => v.category).sum + (13 * (names.length + 1) + 43) ≤ R.locals) (hRcells : cells + 1 ≤ R.cells) (hRslots : slots + 6 ≤ R.slots) (hlocks : meth.locks = false)
    (hx : ∀ t : State, s.vm.Alike t.vm → H.size ≤ t.heap.size → (∀ q : Nat, q < H.size → t.heap[q]? = H[q]?) → XC cls s t)
    (hf : ∀ z ∈ locs, free z.base) (hc : cells + 1 ≤ mc) (hs : slots + 6 ≤ ms) :
    W p l e R s m args below meth c H locs cells slots (vx_MQ below Qc XC args s mc ms free) (F0 m pc ls rest) := by
  intro T hT X
  have htr : e.platform.stackTraces = false := (show e.platform.stackTraces = l.stackTraces by rw [X.admits.platform]).trans hl
  have Y := vx_rebase X (R' := { frames := R.frames, locals := R.locals, cells := 1, slots := 6 }) (Nat.le_refl _) (Nat.le_refl _) hRcells hRslots
  obtain ⟨s', hA⟩ : ∃ z, z = (T.setVm s.vm).setFrames (.invoking m args :: below) := ⟨_, rfl⟩
  rw [← hA] at Y
  have hvm : s'.vm = s.vm := by rw [hA]; rfl
  have hhp : s'.heap = H := by rw [hA]; exact hT
  have hW0 : s.WarmedH s'.vm := by rw [hvm]; exact State.WarmedH.refl s
  have hat' : ∀ w ∈ vx_atS own ic cls names, w.before args s' = true := fun w hw => vx_ot_at hW0 hvm.symm (hgood w (List.mem_cons_of_mem _ (List.mem_cons_of_mem _ hw))) (hat w hw)
  have hk' : (Cond.classLink own ik cls).before args s' = true := vx_ot_at hW0 hvm.symm (hgood _ List.mem_cons_self) hk
  have hini' : (Cond.initialized cls).before args s' = true := vx_ot_at hW0 hvm.symm (hgood _ (List.mem_cons_of_mem _ List.mem_cons_self)) hini
  have hU' : vx_Zq Bundle.tN "UNASSIGNED_STACK" Bundle.steD A s' s'.heap := by rw [hhp]; exact vx_Zq.moved hW0.alike (hU.kept hS.2.1)
  have hN' : vx_Zq Bundle.tN "SUPPRESSED_SENTINEL" Bundle.listD A s' s'.heap := by rw [hhp]; exact vx_Zq.moved hW0.alike (hN.kept hS.2.1)
  have h : ∀ w ∈ Bundle.ownAtoms own ic cls names, w.before args s' = true := vx_own hat' (vx_isRefq hU'.1) (vx_isRefq hN'.1) hU'.2.word hN'.2.word
  have hown' : s'.vm.findClass own = some m.cls := by rw [hvm]; exact hown
  have hins : (Cond.instantiable cls 6).before args s' = true := h _ (by simp [Bundle.ownAtoms])
  obtain ⟨vm₁, cX, kX, hfX, hkX, -, -, X₁, st1⟩ := Y.newCold hexec (own := own) (C := cls) (index := ik) (n := 6) hown' hk' hins hini'
    (g := F0 m pc ls rest) rfl (by rw [hb]; exact d0) (Nat.le_refl _) (Nat.le_refl _)
  generalize hT1 : (T.setVm vm₁).pushCell { cls := cX, slots := kX.instanceTypes.map defaultValue, vm := .none } = T1 at X₁ st1
  have hcat : (Value.ref T.heap.size).category = 1 := rfl
  have hcellA : T1.heap[T.heap.size]? = some (freshCell cX kX) := by rw [← hT1]; exact State.heap_pushCell_size _ _
  have d3' : decode c.code (pc + 3) = .ok (.dup, 1) := by rw [hb]; exact d3
  have d4' : decode c.code (pc + 4) = .ok (.ldc is, 2) := by rw [hb]; exact d4
  have hstr' : vk_R own is text sa s' := vk_R.warm hW0 hstr
  obtain ⟨U, hsteps, hrun, hend, hW, hsame, ce, hce, hO⟩ := X₁.ctorThrowS hexec htr (own := own) (cls := cls) (names := names) (ic := ic) hown' hcls hnames h (fun x hx => nomatch hx) hfX hkX hcellA (by rw [hhp, hT]; exact Nat.le_refl _) (msg := .ref sa) rfl
    (g := { method := m, pc := pc + 6, locals := ls, stack := .ref sa :: .ref T.heap.size :: .ref T.heap.size :: rest, locked := none }) rfl hsize rfl rfl (rest := rest) rfl
    (by rw [hb]; exact d6) (by rw [hb]; exact d9) hout hRframes (by simp only [List.map_cons, List.sum_cons, hcat]; omega) hlocks
  obtain ⟨f1, f2⟩ := vx_frame hsame
  rw [hhp] at f1 f2
  have hWs : s.WarmedH U.vm := State.WarmedH.trans hW0 hW
  have hcl : s.vm.findClass cls = some ce.cls := by
    have h9 := hO.cls
    rw [hvm] at h9
    exact h9
  have hall : s.sameButNew ({ U with vm := s.vm } : State) locs mc ms := by
    subst hA
    obtain ⟨e1, e2⟩ := hsame
    rw [State.setFrames_setFrames] at e1
    have h2 : (T.setVm s.vm).sameButNew ({ U with vm := s.vm } : State) [] (0 + 1) (0 + 6) := ⟨e1, e2⟩
    have h3 := X.same.trans h2
    rw [List.append_nil] at h3
    exact h3.mono hc hs
  refine ⟨U, ?_, .threw T.heap.size, hrun, hend, Or.inr ⟨T.heap.size, rfl, cls, ce, locs, hx U hWs.alike f1 (fun q hq => f2 q hq (fun z hz => nomatch hz)), hce, hO.vm, hcl, hWs, hall, hf⟩⟩
  refine st1 _ ?_
  show Steps p.tables e below (T1.setTop { method := m, pc := pc + 3, locals := ls, stack := .ref T.heap.size :: rest, locked := none }) _
  jvm_step X₁.here [X₁.here.top, hexec, d3', Value.category]
  exact X₁.ldcString hexec (own := own) (text := text) (index := is) (a := sa) hown' hstr'.1 hstr'.2
    (g := { method := m, pc := pc + 4, locals := ls, stack := .ref T.heap.size :: .ref T.heap.size :: rest, locked := none }) rfl d4' _ hsteps
/-- 'throw new E("text")', the text by a wide index -/
theorem vx_throwSW {cc : ByteArray} {pc : Nat} (hexec : p.tables.exec = Jvm.exec) (hb : c.code = cc) (hl : l.stackTraces = false) {own cls text : String} {names : List String} {ik is ic mc ms sa : Nat} {A : Nat → Prop}
    (hown : s.vm.findClass own = some m.cls) (hcls : Bundle.fit cls = true) (hnames : ∀ n ∈ names, Bundle.fit n = true)
    (hk : (Cond.classLink own ik cls).before args s = true) (hini : (Cond.initialized cls).before args s = true) (hstr : vk_R own is text sa s) (hat : ∀ w ∈ vx_atS own ic cls names, w.before args s = true)
    (hgood : ∀ w ∈ Cond.classLink own ik cls :: Cond.initialized cls :: vx_atS own ic cls names, vx_ot w = true)
    (hU : vx_Zq Bundle.tN "UNASSIGNED_STACK" Bundle.steD A s s.heap) (hN : vx_Zq Bundle.tN "SUPPRESSED_SENTINEL" Bundle.listD A s s.heap) (hS : va_S A s.heap H locs) (hsize : ls.size = c.maxLocals)
    (d0 : decode cc pc = .ok (.new ik, 3)) (d3 : decode cc (pc + 3) = .ok (.dup, 1)) (d4 : decode cc (pc + 4) = .ok (.ldc_w is, 3)) (d7 : decode cc (pc + 7) = .ok (.invokespecial ic, 3)) (d10 : decode cc (pc + 10) = .ok (.athrow, 1))
    (hout : ∀ x ∈ c.exceptionTable.toList, covers x (pc + 10) = false)
    (hRframes : names.length + 3 < R.frames) (hRlocals : (rest.map fun v => v.category).sum + (13 * (names.length + 1) + 43) ≤ R.locals) (hRcells : cells + 1 ≤ R.cells) (hRslots : slots + 6 ≤ R.slots) (hlocks : meth.locks = false)
    (hx : ∀ t : State, s.vm.Alike t.vm → H.size ≤ t.heap.size → (∀ q : Nat, q < H.size → t.heap[q]? = H[q]?) → XC cls s t)
    (hf : ∀ z ∈ locs, free z.base) (hc : cells + 1 ≤ mc) (hs : slots + 6 ≤ ms) :
    W p l e R s m args below meth c H locs cells slots (vx_MQ below Qc XC args s mc ms free) (F0 m pc ls rest) := by
  intro T hT X
  have htr : e.platform.stackTraces = false := (show e.platform.stackTraces = l.stackTraces by rw [X.admits.platform]).trans hl
  have Y := vx_rebase X (R' := { frames := R.frames, locals := R.locals, cells := 1, slots := 6 }) (Nat.le_refl _) (Nat.le_refl _) hRcells hRslots
  obtain ⟨s', hA⟩ : ∃ z, z = (T.setVm s.vm).setFrames (.invoking m args :: below) := ⟨_, rfl⟩
  rw [← hA] at Y
  have hvm : s'.vm = s.vm := by rw [hA]; rfl
  have hhp : s'.heap = H := by rw [hA]; exact hT
  have hW0 : s.WarmedH s'.vm := by rw [hvm]; exact State.WarmedH.refl s
  have hat' : ∀ w ∈ vx_atS own ic cls names, w.before args s' = true := fun w hw => vx_ot_at hW0 hvm.symm (hgood w (List.mem_cons_of_mem _ (List.mem_cons_of_mem _ hw))) (hat w hw)
  have hk' : (Cond.classLink own ik cls).before args s' = true := vx_ot_at hW0 hvm.symm (hgood _ List.mem_cons_self) hk
  have hini' : (Cond.initialized cls).before args s' = true := vx_ot_at hW0 hvm.symm (hgood _ (List.mem_cons_of_mem _ List.mem_cons_self)) hini
  have hU' : vx_Zq Bundle.tN "UNASSIGNED_STACK" Bundle.steD A s' s'.heap := by rw [hhp]; exact vx_Zq.moved hW0.alike (hU.kept hS.2.1)
  have hN' : vx_Zq Bundle.tN "SUPPRESSED_SENTINEL" Bundle.listD A s' s'.heap := by rw [hhp]; exact vx_Zq.moved hW0.alike (hN.kept hS.2.1)
  have h : ∀ w ∈ Bundle.ownAtoms own ic cls names, w.before args s' = true := vx_own hat' (vx_isRefq hU'.1) (vx_isRefq hN'.1) hU'.2.word hN'.2.word
  have hown' : s'.vm.findClass own = some m.cls := by rw [hvm]; exact hown
  have hins : (Cond.instantiable cls 6).before args s' = true := h _ (by simp [Bundle.ownAtoms])
  obtain ⟨vm₁, cX, kX, hfX, hkX, -, -, X₁, st1⟩ := Y.newCold hexec (own := own) (C := cls) (index := ik) (n := 6) hown' hk' hins hini'
    (g := F0 m pc ls rest) rfl (by rw [hb]; exact d0) (Nat.le_refl _) (Nat.le_refl _)
  generalize hT1 : (T.setVm vm₁).pushCell { cls := cX, slots := kX.instanceTypes.map defaultValue, vm := .none } = T1 at X₁ st1
  have hcat : (Value.ref T.heap.size).category = 1 := rfl
  have hcellA : T1.heap[T.heap.size]? = some (freshCell cX kX) := by rw [← hT1]; exact State.heap_pushCell_size _ _
  have d3' : decode c.code (pc + 3) = .ok (.dup, 1) := by rw [hb]; exact d3
  have d4' : decode c.code (pc + 4) = .ok (.ldc_w is, 3) := by rw [hb]; exact d4
  have hstr' : vk_R own is text sa s' := vk_R.warm hW0 hstr
  obtain ⟨U, hsteps, hrun, hend, hW, hsame, ce, hce, hO⟩ := X₁.ctorThrowS hexec htr (own := own) (cls := cls) (names := names) (ic := ic) hown' hcls hnames h (fun x hx => nomatch hx) hfX hkX hcellA (by rw [hhp, hT]; exact Nat.le_refl _) (msg := .ref sa) rfl
    (g := { method := m, pc := pc + 7, locals := ls, stack := .ref sa :: .ref T.heap.size :: .ref T.heap.size :: rest, locked := none }) rfl hsize rfl rfl (rest := rest) rfl
    (by rw [hb]; exact d7) (by rw [hb]; exact d10) hout hRframes (by simp only [List.map_cons, List.sum_cons, hcat]; omega) hlocks
  obtain ⟨f1, f2⟩ := vx_frame hsame
  rw [hhp] at f1 f2
  have hWs : s.WarmedH U.vm := State.WarmedH.trans hW0 hW
  have hcl : s.vm.findClass cls = some ce.cls := by
    have h9 := hO.cls
    rw [hvm] at h9
    exact h9
  have hall : s.sameButNew ({ U with vm := s.vm } : State) locs mc ms := by
    subst hA
    obtain ⟨e1, e2⟩ := hsame
    rw [State.setFrames_setFrames] at e1
    have h2 : (T.setVm s.vm).sameButNew ({ U with vm := s.vm } : State) [] (0 + 1) (0 + 6) := ⟨e1, e2⟩
    have h3 := X.same.trans h2
    rw [List.append_nil] at h3
    exact h3.mono hc hs
  refine ⟨U, ?_, .threw T.heap.size, hrun, hend, Or.inr ⟨T.heap.size, rfl, cls, ce, locs, hx U hWs.alike f1 (fun q hq => f2 q hq (fun z hz => nomatch hz)), hce, hO.vm, hcl, hWs, hall, hf⟩⟩
  refine st1 _ ?_
  show Steps p.tables e below (T1.setTop { method := m, pc := pc + 3, locals := ls, stack := .ref T.heap.size :: rest, locked := none }) _
  jvm_step X₁.here [X₁.here.top, hexec, d3', Value.category]
  exact X₁.ldcStringW hexec (own := own) (text := text) (index := is) (a := sa) hown' hstr'.1 hstr'.2
    (g := { method := m, pc := pc + 4, locals := ls, stack := .ref T.heap.size :: .ref T.heap.size :: rest, locked := none }) rfl d4' _ hsteps
end Ends
section Bodies
variable {l : Launch}
theorem vx_ofW {y : MethodName} {ws ws' : List Cond} {rm : Room} {Pc : Array Value → State → Prop} {Qc : Array Value → State → Outcome → State → Prop} {XC : String → State → State → Prop} {mc ms : Nat} {free : Addr → Prop} {cc : ByteArray} {maxL : Nat} {ret : Option FieldType}
    (hy : plainName y.cls = true) (hw : ws = Cond.code y cc maxL ret :: ws')
    (body : ∀ p e s m args below meth c s₁, BodyLoose p l y (headSpec ws rm) cc maxL ret e s m args below meth c s₁ → c.maxLocals = maxL → (∀ x ∈ c.exceptionTable.toList, False) → Pc args s →
      W p l e (headSpec ws rm).room s m args below meth c s.heap [] 0 0 (vx_MQ below Qc XC args s mc ms free) (entryFrame m args maxL)) : vx_Met l y ws rm Pc Qc XC mc ms free := by
  refine MetFree.of_bodyS (code := cc) (maxLocals := maxL) (ret := ret) hy ?_ ?_
  · intro args s m h hn
    obtain ⟨meth, c, h1, h2, h3, h4, h5, h6, -, -⟩ := Cond.code_spec hn (atoms_spec (ws := ws) h _ (by rw [hw]; exact List.mem_cons_self))
    exact ⟨meth, c, h1, h2, h3, h4, h5, h6⟩
  · intro p e s m args below meth c s₁ B hml hP _
    have hh0 : s₁.heap = s.heap := by rw [B.state]; rfl
    have ht : ∀ x ∈ c.exceptionTable.toList, False := by
      obtain ⟨meth9, c9, h1, h2, -, -, -, -, h7, -⟩ := Cond.code_spec B.named (atoms_spec (ws := ws) B.pre _ (by rw [hw]; exact List.mem_cons_self))
      cases Option.some.inj (h1.symm.trans B.method)
      cases Option.some.inj (h2.symm.trans (Stand.of_body B).code)
      intro x hx
      rw [Array.isEmpty_iff.mp h7] at hx
      cases hx
    obtain ⟨t, a1, o, b1, b2, b3⟩ := body p e s m args below meth c s₁ B hml ht hP s₁ hh0 (Stand.of_body B)
    exact ⟨t, o, a1, b1, b2, b3⟩
/-- the table of a body with handlers -/
theorem vx_table {p : Program} {x y : MethodName} {S : Spec} {cc bytes : ByteArray} {maxL maxL' : Nat} {ret ret' : Option FieldType} {e : Env} {s s₁ : State} {m : MethodId} {args : Array Value} {below : List Frame} {meth : Method} {c : Code} {hh : List (Nat × Nat × Nat × Nat)}
    (B : BodyLoose p l y S cc maxL ret e s m args below meth c s₁) (h : (Cond.codeWith y bytes maxL' ret' hh).before args s = true) : c.exceptionTable.toList = tableOf hh := by
  obtain ⟨m9, meth9, c9, hn9, h1, h2, -, -, h6, -⟩ := Cond.codeWith_spec h
  cases Option.some.inj (hn9.symm.trans B.named)
  cases Option.some.inj (h1.symm.trans B.method)
  cases Option.some.inj (h2.symm.trans (Stand.of_body B).code)
  rw [← h6, table_eq]
end Bodies
end VXA
/-! ===== END ===== -/
/-! ===== BEGIN a static call of a method with an exception table ===== -/
section VXS
variable {p : Program} {l : Launch} {e : Env} {R : Room} {s : State} {m : MethodId} {args : Array Value} {below : List Frame} {meth : Method} {c : Code} {T : State} {H : Heap} {locs : List Loc} {cells slots : Nat}
abbrev vx_CSW (R : Room) (s : State) (args : Array Value) (own : String) (index : Nat) (y : MethodName) (bytes : ByteArray) (maxL : Nat) (ret : Option FieldType) (hh : List (Nat × Nat × Nat × Nat)) (ws : List Cond) (rm : Room) (mc ms n : Nat) : Prop :=
  (rm.cells = mc ∧ rm.slots = ms ∧ rm.frames + 1 ≤ R.frames ∧ 8 + (maxL + 11) + rm.locals ≤ R.locals ∧ (∀ w ∈ ws, ∀ (a' : Array Value) (U : State), s.WarmedH U.vm → w.before a' U = true) ∧ Cond.codeWith y bytes maxL ret hh ∈ ws) ∧
  (Cond.codeWith y bytes maxL ret hh).before args s = true ∧ (Cond.initialized y.cls).before args s = true ∧ (y.cls ≠ "java/lang/invoke/MethodHandle" ∧ y.cls ≠ "java/lang/invoke/VarHandle") ∧
  (∀ sig, parseMethodDescriptor y.desc = some sig → n = sig.parameters.length) ∧ (Cond.methodLink own index y).before args s = true ∧ (Cond.static y).before args s = true
theorem vx_cwSW {own : String} {index maxL mc ms : Nat} {y : MethodName} {bytes : ByteArray} {ret : Option FieldType} {hh : List (Nat × Nat × Nat × Nat)} {Ts ws ws' : List Cond} {rm : Room} (n : Nat) (ht : ∀ w ∈ Ts, w.before args s = true) (hT : GoodIn Ts (va_wsS own index y ws)) (hw : ws = Cond.codeWith y bytes maxL ret hh :: ws') (hrc : rm.cells = mc) (hrs : rm.slots = ms)
    (hd : y.cls ≠ "java/lang/invoke/MethodHandle" ∧ y.cls ≠ "java/lang/invoke/VarHandle" ∧ (parseMethodDescriptor y.desc).map (fun d => d.parameters.length) = some n) (hR : rm.frames + 1 ≤ R.frames ∧ 8 + (maxL + 11) + rm.locals ≤ R.locals) :
    vx_CSW R s args own index y bytes maxL ret hh ws rm mc ms n := by
  have ok : ∀ w ∈ va_wsS own index y ws, w.before args s = true := fun w h => ht w (hT w h).1
  have hG : GoodIn Ts ws := fun w h => hT w (by unfold va_wsS; exact List.mem_append_right _ h)
  have hc : Cond.codeWith y bytes maxL ret hh ∈ ws := by rw [hw]; exact List.mem_cons_self
  refine ⟨⟨hrc, hrs, hR.1, hR.2, pay_in ht hG, hc⟩, ht _ (hG _ hc).1, ok _ (by simp [va_wsS]), ⟨hd.1, hd.2.1⟩, fun sig h => ?_, ok _ (by simp [va_wsS]), ok _ (by simp [va_wsS])⟩
  have h2 := hd.2.2
  rw [h] at h2
  exact (Option.some.inj h2).symm
theorem vx_callSW (X : Stand p l e R s m args below meth c T locs cells slots) (hexec : p.tables.exec = Jvm.exec) {own : String} {index : Nat} {y : MethodName} {bytes : ByteArray} {maxL : Nat} {ret : Option FieldType} {hh : List (Nat × Nat × Nat × Nat)}
    (hown : s.vm.findClass own = some m.cls) (hlink : (Cond.methodLink own index y).before args s = true) (hstat : (Cond.static y).before args s = true) (hinit : (Cond.initialized y.cls).before args s = true)
    (hcode : (Cond.codeWith y bytes maxL ret hh).before args s = true) (hy : y.cls ≠ "java/lang/invoke/MethodHandle" ∧ y.cls ≠ "java/lang/invoke/VarHandle")
    {W9 : Nat} {Pre : Pt → Array Value → Prop} {Post : Pt → Array Value → Option Value → Pt → Prop} (hK : Back l R p e below s args y 3 W9 Pre Post)
    {g : JFrame} (hg : g.method = m) (hsize : g.locals.size = c.maxLocals) {argsL rest : List Value} (hlen : ∀ sig, parseMethodDescriptor y.desc = some sig → argsL.length = sig.parameters.length)
    (hstack : g.stack = argsL.reverse ++ rest) (hW : 2 * g.monitorRoom + (rest.map fun v => v.category).sum ≤ W9) (hdg : decode c.code g.pc = .ok (.invokestatic index, 3))
    (hpre : ∀ vm₁, s.WarmedH vm₁ → Pre ⟨T.setVm vm₁, locs, cells, slots⟩ argsL.toArray) :
    ∃ (v : Option Value) (vm₁ : Vm) (B : Pt), s.WarmedH vm₁ ∧ Stand p l e R s m args below meth c B.U B.locs B.cells B.slots ∧ Post ⟨T.setVm vm₁, locs, cells, slots⟩ argsL.toArray v B ∧
      ∀ target, Steps p.tables e below (B.U.setTop { g with pc := g.pc + 3, stack := v.toList ++ rest }) target → Steps p.tables e below (T.setTop g) target := by
  obtain ⟨mk, methM, cM, hnamed, hmethM, -, -, -, -, -, -, hsigM⟩ := Cond.codeWith_spec hcode
  have hstatic : methM.isStatic = true := Cond.static_spec hnamed hmethM hstat
  obtain ⟨kP, hkP, -⟩ := className_of_methodNamed hnamed
  have hinitP : kP.init = .initialized := Cond.initialized_spec (findClass_of_methodNamed hnamed) hkP hinit
  obtain ⟨vm₁, X₁, hstep₁⟩ := X.invokestatic hexec hown hlink hnamed hmethM hstatic hkP hinitP hy (g := g) hg (argsL := argsL) (rest := rest) (hlen _ hsigM) hstack hdg
  obtain ⟨v, B, X', hpost, hsteps⟩ := hK m meth c ⟨T.setVm vm₁, locs, cells, slots⟩ { g with stack := rest } (.invokestatic index) mk argsL.toArray X₁ hg hsize hdg hW (X₁.named hnamed) (hpre vm₁ X₁.warmed)
  exact ⟨v, vm₁, B, X₁.warmed, X', hpost, fun target h => hstep₁ _ fun acts => by rw [doInvoke_state]; exact hsteps.trans h⟩
theorem vx_runSW {y : MethodName} {bytes cc : ByteArray} {maxL nL mc ms n index : Nat} {ret : Option FieldType} {hh : List (Nat × Nat × Nat × Nat)} {ws : List Cond} {rm : Room} {Pc : Array Value → State → Prop} {Qc : Array Value → State → Outcome → State → Prop} {free : Addr → Prop} {Ts : List Cond} {own : String} {As rest : List Value} {g : JFrame}
    (S : CallFix p m c cc nL s args Ts own) (hM : Met l y ws rm Pc Qc mc ms free) (cw : vx_CSW R s args own index y bytes maxL ret hh ws rm mc ms n) (hp : PreS s H Pc As)
    (hg : g.method = m) (hn : As.length = n) (hsize : g.locals.size = nL) (hstack : g.stack = As.reverse ++ rest) (hW : 2 * g.monitorRoom + (rest.map fun v => v.category).sum ≤ 8) (hdg : decode cc g.pc = .ok (.invokestatic index, 3)) (hf : cells + mc ≤ R.cells ∧ slots + ms ≤ R.slots) :
    va_Run p l e R s m args below meth c H locs cells slots mc ms g rest (Qc As.toArray) (free) := by
  obtain ⟨⟨hrc, hrs, hfr, hlo, hws, hcw⟩, hcode, hini, hy, hlen, hl, hstt⟩ := cw
  have hK : Back l R p e below s args y 3 8 (PreOf R mc ms Pc) (PostOf Qc mc ms free) := va_backW (hh := hh) (bytes := bytes) (maxL := maxL) (ret := ret) hM hp.1 hrc hrs hfr hlo hws hcw (fun a' U hW => word_at hW (Or.inl (by first | rfl | simp [Cond.onTables, Cond.keeps, Cond.steady])) hini)
  obtain ⟨hx, hb, hml, ho, -⟩ := S
  intro T hT X
  obtain ⟨v, vm₁, ⟨U', l2, c2, s2⟩, hW₁, X', ⟨g', mk, t, L, e1, e2, hq, h1, hL, h2, h3⟩, st⟩ := vx_callSW X hx (hh := hh) (bytes := bytes) (maxL := maxL) (ret := ret) ho hl hstt hini hcode hy hK hg (hsize.trans hml.symm) (argsL := As) (rest := rest) (fun sig h => hn.trans (hlen sig h)) hstack hW (by rw [hb]; exact hdg)
    (fun vm₁ hW₁ => ⟨hf.1, hf.2, hp.2 (T.setVm vm₁) hT hW₁⟩)
  dsimp only [Pt.U, Pt.locs, Pt.cells, Pt.slots] at X' e1 e2 h1 h2 h3 st
  subst h1; subst h2; subst h3
  exact ⟨v, (T.setVm vm₁).calling g' mk As.toArray, t, U', L, hT, X', hL, e1, e2, hq, st⟩
theorem vx_lt {D : va_G} {cl : List vw_C} {ws : va_W} {H1 : Heap} (h : va_P D cl ws H1) {k : Nat} {q : Nat × va_E} (hk : ws[k]? = some q) : q.1 < H1.size := (h k q hk).lt
end VXS
/-! ===== END ===== -/
/-! ===== BEGIN methods with a table of their own: called by a name, returning or throwing ===== -/
section VXH
/-! vx_backW, vx_callVX, vx_callSX, vx_callVW, vx_runVW, vx_runVX, vx_runSX, vx_ofWH follow the same proofs as their sisters above (Free/Laws.lean, Shelf42/LK1.lean); vx_outP calls Shelf42/NT130.lean (outThrough). -/
section
variable {l : Launch} {R : Room} {p : Program} {e : Env} {below : List Frame} {s : State} {sargs : Array Value} {y : MethodName} {len W9 : Nat}
theorem vx_backW {ws : List Cond} {rm : Room} {Pc : Array Value → State → Prop} {Qc : Array Value → State → Outcome → State → Prop} {XC : String → State → State → Prop} {mc ms : Nat} {free : Addr → Prop} {bytes : ByteArray} {maxL : Nat} {ret : Option FieldType} {hh : List (Nat × Nat × Nat × Nat)}
    (hM : vx_Met l y ws rm Pc Qc XC mc ms free) (hblind : FrameBlind Pc) (hrc : rm.cells = mc) (hrs : rm.slots = ms)
    (hframes : rm.frames + 1 ≤ R.frames) (hlocals : W9 + (maxL + 11) + rm.locals ≤ R.locals)
    (hws : ∀ w ∈ ws, ∀ a' U, s.WarmedH U.vm → w.before a' U = true) (hcode : Cond.codeWith y bytes maxL ret hh ∈ ws) (hinit : ∀ a' U, s.WarmedH U.vm → (Cond.initialized y.cls).before a' U = true) :
    vx_Back l R p e below s sargs y len W9 (PreOf R mc ms Pc) (PostOf Qc mc ms free) (vx_Post XC mc ms free) := by
  intro m meth c A g ig mk a X hg hsize hdg hW hn hp
  have h1 : (headSpec ws rm).pre.before a A.U = true := atoms_intro fun w hw => hws w hw _ _ X.warmed
  have h2 : (Cond.codeWith y bytes maxL ret hh).before a A.U = true := hws _ hcode _ _ X.warmed
  have h3 : (Cond.initialized y.cls).before a A.U = true := hinit _ _ X.warmed
  have h4 : A.cells + (headSpec ws rm).room.cells ≤ R.cells := by rw [show (headSpec ws rm).room.cells = mc from hrc]; exact hp.1
  have h5 : A.slots + (headSpec ws rm).room.slots ≤ R.slots := by rw [show (headSpec ws rm).room.slots = ms from hrs]; exact hp.2.1
  have hPc : Pc a (A.U.calling g mk a) := hblind _ _ _ _ hp.2.2
  obtain ⟨U, Ls, c0, s0⟩ := A
  dsimp only [Pt.U, Pt.locs, Pt.cells, Pt.slots] at h1 h2 h3 h4 h5 X hn hPc ⊢
  obtain ⟨m9, methY, cY, hn9, hmY, hcY, -, hlY, -⟩ := Cond.codeWith_spec h2
  cases Option.some.inj (hn9.symm.trans hn)
  obtain ⟨kY, hkY, -⟩ := className_of_methodNamed hn
  have hinitY : kY.init = .initialized := Cond.initialized_spec (findClass_of_methodNamed hn) hkY h3
  have h : At U g.method c below := by rw [hg]; exact X.here
  have hlocals9 : W9 + (maxL + 11) + (headSpec ws rm).room.locals ≤ R.locals := hlocals
  have happ : (headSpec ws rm).appliesLoose y e.platform (U.calling g mk a) = true :=
    Spec.appliesLoose_calling (g := g) h hdg hn hkY hinitY
      (X.room_calling (g := g) (R' := (headSpec ws rm).room) hsize hmY hcY hframes (by rw [hlY]; omega) h4 h5) h1
  obtain ⟨mid, hmid⟩ := h.above
  have hfr : (U.setTop g).frames = (.java g :: mid) ++ below := by rw [State.frames_setTop' g h.top, hmid]; rfl
  obtain ⟨o, s₂, hsteps, -, hend, hq⟩ := Steps.callFree hM p X.admits X.cas X.clock (acts := []) hfr happ hPc trivial
  have hq' : vx_Q Qc XC mc ms free a (U.calling g mk a) o s₂ := hq
  rw [State.frames_setTop' g h.top] at hend
  obtain ⟨g₀, hg0⟩ := Option.isSome_iff_exists.mp h.top
  obtain ⟨r, hr⟩ := State.topJava?_eq_some.mp hg0
  have hr' : (({ U with heap := s₂.heap, slotsUsed := s₂.slotsUsed } : State).setVm s₂.vm).frames = .java g₀ :: r := hr
  rcases hq' with ⟨hqc, L, hfe, hL⟩ | ⟨q, rfl, E, ce, L, hx, hce, hcv, hcl, hW₂, hsm, hL⟩
  · obtain ⟨⟨v, rfl⟩, hW₂, e2, q2, q3, q4, q5, q6⟩ := id hfe
    have e3 : s₂ = ({ (U.calling g mk a).setFrames s₂.frames with heap := s₂.heap, slotsUsed := s₂.slotsUsed } : State).setVm s₂.vm := by
      have : s₂ = ({ s₂ with vm := (U.calling g mk a).vm } : State).setVm s₂.vm := rfl
      rw [e2] at this
      exact this
    obtain ⟨c₂, i₂, len₂, hc₂, hd₂, hf₂⟩ := hend
    have hW' : U.WarmedH s₂.vm := hW₂
    have hcc : c₂ = c := by
      have h1 : s₂.code? g.method = U.code? g.method := by
        rw [State.code?_eq, State.code?_eq, hW'.alike.method?]
      exact Option.some.inj (hc₂.symm.trans (h1.trans h.code))
    subst hcc
    have hlen : len₂ = len := by rw [hdg] at hd₂; cases hd₂; rfl
    subst hlen
    have hs₂ : s₂ = (({ U with heap := s₂.heap, slotsUsed := s₂.slotsUsed } : State).setVm s₂.vm).setTop { g with pc := g.pc + len₂, stack := v.toList ++ g.stack } := by
      refine e3.trans ?_
      rw [hf₂, State.calling_eq h.top, State.setFrames_setFrames, State.setTop_of_frames _ hr', hr]
      rfl
    have hsame : U.sameButNew ({ U with heap := s₂.heap, slotsUsed := s₂.slotsUsed } : State) L mc ms := by
      refine ⟨?_, q2, q3, q4, q5, q6⟩
      obtain ⟨t, ht, -⟩ := State.frames_cons hr
      show ({ U with heap := s₂.heap, slotsUsed := s₂.slotsUsed } : State) = { U.setFrames U.frames with heap := s₂.heap, slotsUsed := s₂.slotsUsed }
      rw [State.setFrames_self ht]
    subst hg
    refine Or.inl ⟨v, ⟨(({ U with heap := s₂.heap, slotsUsed := s₂.slotsUsed } : State).setVm s₂.vm), Ls ++ L, c0 + mc, s0 + ms⟩,
      ⟨X.admits, X.cas, X.clock, X.frames, X.room, X.hears, X.method, X.code, (X.here.setHeapUsed s₂.heap s₂.slotsUsed).setVm hW'.alike, X.tail, State.WarmedH.trans X.warmed hW', X.limits, X.bytes, X.same.trans (hsame.setVm s.vm)⟩,
      ⟨g, mk, s₂, L, rfl, rfl, hqc, rfl, hL, rfl, rfl⟩, ?_⟩
    show Steps p.tables e below _ ((({ U with heap := s₂.heap, slotsUsed := s₂.slotsUsed } : State).setVm s₂.vm).setTop { g with pc := g.pc + len₂, stack := v.toList ++ g.stack })
    rw [← hs₂]
    exact hsteps
  · obtain ⟨e2, q2, q3, q4, q5, q6⟩ := id hsm
    have e3 : s₂ = ({ (U.calling g mk a).setFrames s₂.frames with heap := s₂.heap, slotsUsed := s₂.slotsUsed } : State).setVm s₂.vm := by
      have : s₂ = ({ s₂ with vm := (U.calling g mk a).vm } : State).setVm s₂.vm := rfl
      rw [e2] at this
      exact this
    have hf₂ : s₂.frames = .throwing q :: .java g :: U.frames.tail := hend
    have hW' : U.WarmedH s₂.vm := hW₂
    have hs₂ : s₂ = ((({ U with heap := s₂.heap, slotsUsed := s₂.slotsUsed } : State).setVm s₂.vm).setTop g).pushFrame (.throwing q) := by
      refine e3.trans ?_
      rw [hf₂, State.calling_eq h.top, State.setFrames_setFrames, State.pushFrame, State.frames_setTop _ hr', State.setTop_of_frames _ hr', State.setFrames_setFrames, hr]
      rfl
    have hsame : U.sameButNew ({ U with heap := s₂.heap, slotsUsed := s₂.slotsUsed } : State) L mc ms := by
      refine ⟨?_, q2, q3, q4, q5, q6⟩
      obtain ⟨t, ht, -⟩ := State.frames_cons hr
      show ({ U with heap := s₂.heap, slotsUsed := s₂.slotsUsed } : State) = { U.setFrames U.frames with heap := s₂.heap, slotsUsed := s₂.slotsUsed }
      rw [State.setFrames_self ht]
    subst hg
    refine Or.inr ⟨q, ⟨(({ U with heap := s₂.heap, slotsUsed := s₂.slotsUsed } : State).setVm s₂.vm), Ls ++ L, c0 + mc, s0 + ms⟩,
      ⟨X.admits, X.cas, X.clock, X.frames, X.room, X.hears, X.method, X.code, (X.here.setHeapUsed s₂.heap s₂.slotsUsed).setVm hW'.alike, X.tail, State.WarmedH.trans X.warmed hW', X.limits, X.bytes, X.same.trans (hsame.setVm s.vm)⟩,
      ⟨g, mk, s₂, L, E, ce, rfl, rfl, hx, hce, hcv, hcl, rfl, hL, rfl, rfl⟩, ?_⟩
    show Steps p.tables e below _ (((({ U with heap := s₂.heap, slotsUsed := s₂.slotsUsed } : State).setVm s₂.vm).setTop g).pushFrame (.throwing q))
    rw [← hs₂]
    exact hsteps
end
variable {p : Program} {l : Launch} {e : Env} {R : Room} {s : State} {m : MethodId} {args : Array Value} {below : List Frame} {meth : Method} {c : Code} {T : State} {H : Heap} {locs : List Loc} {cells slots : Nat}
theorem vx_callVX (X : Stand p l e R s m args below meth c T locs cells slots) (hexec : p.tables.exec = Jvm.exec) {own C : String} {index : Nat} {y : MethodName} {bytes : ByteArray} {maxL : Nat} {ret : Option FieldType} {hh : List (Nat × Nat × Nat × Nat)}
    (hown : s.vm.findClass own = some m.cls) (hlink : (Cond.methodLink own index y).before args s = true) (hinst : (Cond.instanceMethod y).before args s = true) (hsel : (Cond.selects C y y).before args s = true)
    (hcode : (Cond.codeWith y bytes maxL ret hh).before args s = true) (hy : y.cls ≠ "java/lang/invoke/MethodHandle" ∧ y.cls ≠ "java/lang/invoke/VarHandle")
    {W9 : Nat} {Pre : Pt → Array Value → Prop} {Post : Pt → Array Value → Option Value → Pt → Prop} {PostX : Pt → Array Value → Addr → Pt → Prop} (hK : vx_Back l R p e below s args y 3 W9 Pre Post PostX)
    {b : Addr} {cellB : Cell} (hcell : T.heap[b]? = some cellB) (hobj : cellB.vm.isStatics = false) (hcls : s.vm.findClass C = some cellB.cls)
    {g : JFrame} (hg : g.method = m) (hsize : g.locals.size = c.maxLocals) {argsL rest : List Value} (hlen : ∀ sig, parseMethodDescriptor y.desc = some sig → argsL.length = sig.parameters.length)
    (hstack : g.stack = argsL.reverse ++ .ref b :: rest) (hW : 2 * g.monitorRoom + (rest.map fun v => v.category).sum ≤ W9) (hdg : decode c.code g.pc = .ok (.invokevirtual index, 3))
    (hpre : ∀ vm₁, s.WarmedH vm₁ → Pre ⟨T.setVm vm₁, locs, cells, slots⟩ (Value.ref b :: argsL).toArray) :
    (∃ (v : Option Value) (vm₁ : Vm) (B : Pt), s.WarmedH vm₁ ∧ Stand p l e R s m args below meth c B.U B.locs B.cells B.slots ∧ Post ⟨T.setVm vm₁, locs, cells, slots⟩ (Value.ref b :: argsL).toArray v B ∧
      ∀ target, Steps p.tables e below (B.U.setTop { g with pc := g.pc + 3, stack := v.toList ++ rest }) target → Steps p.tables e below (T.setTop g) target) ∨
    (∃ (q : Addr) (vm₁ : Vm) (B : Pt), s.WarmedH vm₁ ∧ Stand p l e R s m args below meth c B.U B.locs B.cells B.slots ∧ PostX ⟨T.setVm vm₁, locs, cells, slots⟩ (Value.ref b :: argsL).toArray q B ∧
      Steps p.tables e below (T.setTop g) ((B.U.setTop { g with stack := rest }).pushFrame (.throwing q))) := by
  obtain ⟨mk, methM, hnamed, hmethM, hstM, habM⟩ := Cond.instanceMethod_spec hinst
  obtain ⟨m8, methM', cM, hn8, hmethM', -, -, -, -, -, -, hsigM⟩ := Cond.codeWith_spec hcode
  cases Option.some.inj (hn8.symm.trans hnamed)
  cases hmethM.symm.trans hmethM'
  obtain ⟨c2, r2, m2, q1, q2, q3, q4, kP, hkP, hkPi⟩ := Cond.selects_spec hsel
  cases hcls.symm.trans q1
  cases (State.methodFound?_of_named hnamed hy).symm.trans q2
  cases hnamed.symm.trans q3
  have hselP : selectMethod e.platform s.vm cellB.cls mk = .method mk := by rw [Launch.admits_selectMethod X.admits]; exact q4
  obtain ⟨vm₁, X₁, hstep₁⟩ := X.invokevirtual hexec hown hlink hnamed hmethM hstM hkP hkPi hy (a := b) (cell := cellB) hcell
    (fun z h => by rw [h] at hobj; cases hobj) hselP hmethM habM hkP hkPi (g := g) hg (argsL := argsL) (rest := rest) (hlen _ hsigM) hstack hdg
  rcases hK m meth c ⟨T.setVm vm₁, locs, cells, slots⟩ { g with stack := rest } (.invokevirtual index) mk (Value.ref b :: argsL).toArray X₁ hg hsize hdg hW (X₁.named hnamed) (hpre vm₁ X₁.warmed) with ⟨v, B, X', hpost, hsteps⟩ | ⟨q, B, X', hpost, hsteps⟩
  · exact Or.inl ⟨v, vm₁, B, X₁.warmed, X', hpost, fun target h => hstep₁ _ fun acts => by rw [doInvoke_state]; exact hsteps.trans h⟩
  · exact Or.inr ⟨q, vm₁, B, X₁.warmed, X', hpost, hstep₁ _ fun acts => by rw [doInvoke_state]; exact hsteps⟩
theorem vx_callSX (X : Stand p l e R s m args below meth c T locs cells slots) (hexec : p.tables.exec = Jvm.exec) {own : String} {index : Nat} {y : MethodName} {bytes : ByteArray} {maxL : Nat} {ret : Option FieldType} {hh : List (Nat × Nat × Nat × Nat)}
    (hown : s.vm.findClass own = some m.cls) (hlink : (Cond.methodLink own index y).before args s = true) (hstat : (Cond.static y).before args s = true) (hinit : (Cond.initialized y.cls).before args s = true)
    (hcode : (Cond.codeWith y bytes maxL ret hh).before args s = true) (hy : y.cls ≠ "java/lang/invoke/MethodHandle" ∧ y.cls ≠ "java/lang/invoke/VarHandle")
    {W9 : Nat} {Pre : Pt → Array Value → Prop} {Post : Pt → Array Value → Option Value → Pt → Prop} {PostX : Pt → Array Value → Addr → Pt → Prop} (hK : vx_Back l R p e below s args y 3 W9 Pre Post PostX)
    {g : JFrame} (hg : g.method = m) (hsize : g.locals.size = c.maxLocals) {argsL rest : List Value} (hlen : ∀ sig, parseMethodDescriptor y.desc = some sig → argsL.length = sig.parameters.length)
    (hstack : g.stack = argsL.reverse ++ rest) (hW : 2 * g.monitorRoom + (rest.map fun v => v.category).sum ≤ W9) (hdg : decode c.code g.pc = .ok (.invokestatic index, 3))
    (hpre : ∀ vm₁, s.WarmedH vm₁ → Pre ⟨T.setVm vm₁, locs, cells, slots⟩ argsL.toArray) :
    (∃ (v : Option Value) (vm₁ : Vm) (B : Pt), s.WarmedH vm₁ ∧ Stand p l e R s m args below meth c B.U B.locs B.cells B.slots ∧ Post ⟨T.setVm vm₁, locs, cells, slots⟩ argsL.toArray v B ∧
      ∀ target, Steps p.tables e below (B.U.setTop { g with pc := g.pc + 3, stack := v.toList ++ rest }) target → Steps p.tables e below (T.setTop g) target) ∨
    (∃ (q : Addr) (vm₁ : Vm) (B : Pt), s.WarmedH vm₁ ∧ Stand p l e R s m args below meth c B.U B.locs B.cells B.slots ∧ PostX ⟨T.setVm vm₁, locs, cells, slots⟩ argsL.toArray q B ∧
      Steps p.tables e below (T.setTop g) ((B.U.setTop { g with stack := rest }).pushFrame (.throwing q))) := by
  obtain ⟨mk, methM, cM, hnamed, hmethM, -, -, -, -, -, -, hsigM⟩ := Cond.codeWith_spec hcode
  have hstatic : methM.isStatic = true := Cond.static_spec hnamed hmethM hstat
  obtain ⟨kP, hkP, -⟩ := className_of_methodNamed hnamed
  have hinitP : kP.init = .initialized := Cond.initialized_spec (findClass_of_methodNamed hnamed) hkP hinit
  obtain ⟨vm₁, X₁, hstep₁⟩ := X.invokestatic hexec hown hlink hnamed hmethM hstatic hkP hinitP hy (g := g) hg (argsL := argsL) (rest := rest) (hlen _ hsigM) hstack hdg
  rcases hK m meth c ⟨T.setVm vm₁, locs, cells, slots⟩ { g with stack := rest } (.invokestatic index) mk argsL.toArray X₁ hg hsize hdg hW (X₁.named hnamed) (hpre vm₁ X₁.warmed) with ⟨v, B, X', hpost, hsteps⟩ | ⟨q, B, X', hpost, hsteps⟩
  · exact Or.inl ⟨v, vm₁, B, X₁.warmed, X', hpost, fun target h => hstep₁ _ fun acts => by rw [doInvoke_state]; exact hsteps.trans h⟩
  · exact Or.inr ⟨q, vm₁, B, X₁.warmed, X', hpost, hstep₁ _ fun acts => by rw [doInvoke_state]; exact hsteps⟩
theorem vx_callVW (X : Stand p l e R s m args below meth c T locs cells slots) (hexec : p.tables.exec = Jvm.exec) {own C : String} {index : Nat} {y : MethodName} {bytes : ByteArray} {maxL : Nat} {ret : Option FieldType} {hh : List (Nat × Nat × Nat × Nat)}
    (hown : s.vm.findClass own = some m.cls) (hlink : (Cond.methodLink own index y).before args s = true) (hinst : (Cond.instanceMethod y).before args s = true) (hsel : (Cond.selects C y y).before args s = true)
    (hcode : (Cond.codeWith y bytes maxL ret hh).before args s = true) (hy : y.cls ≠ "java/lang/invoke/MethodHandle" ∧ y.cls ≠ "java/lang/invoke/VarHandle")
    {W9 : Nat} {Pre : Pt → Array Value → Prop} {Post : Pt → Array Value → Option Value → Pt → Prop} (hK : Back l R p e below s args y 3 W9 Pre Post)
    {b : Addr} {cellB : Cell} (hcell : T.heap[b]? = some cellB) (hobj : cellB.vm.isStatics = false) (hcls : s.vm.findClass C = some cellB.cls)
    {g : JFrame} (hg : g.method = m) (hsize : g.locals.size = c.maxLocals) {argsL rest : List Value} (hlen : ∀ sig, parseMethodDescriptor y.desc = some sig → argsL.length = sig.parameters.length)
    (hstack : g.stack = argsL.reverse ++ .ref b :: rest) (hW : 2 * g.monitorRoom + (rest.map fun v => v.category).sum ≤ W9) (hdg : decode c.code g.pc = .ok (.invokevirtual index, 3))
    (hpre : ∀ vm₁, s.WarmedH vm₁ → Pre ⟨T.setVm vm₁, locs, cells, slots⟩ (Value.ref b :: argsL).toArray) :
    ∃ (v : Option Value) (vm₁ : Vm) (B : Pt), s.WarmedH vm₁ ∧ Stand p l e R s m args below meth c B.U B.locs B.cells B.slots ∧ Post ⟨T.setVm vm₁, locs, cells, slots⟩ (Value.ref b :: argsL).toArray v B ∧
      ∀ target, Steps p.tables e below (B.U.setTop { g with pc := g.pc + 3, stack := v.toList ++ rest }) target → Steps p.tables e below (T.setTop g) target := by
  obtain ⟨mk, methM, hnamed, hmethM, hstM, habM⟩ := Cond.instanceMethod_spec hinst
  obtain ⟨m8, methM', cM, hn8, hmethM', -, -, -, -, -, -, hsigM⟩ := Cond.codeWith_spec hcode
  cases Option.some.inj (hn8.symm.trans hnamed)
  cases hmethM.symm.trans hmethM'
  obtain ⟨c2, r2, m2, q1, q2, q3, q4, kP, hkP, hkPi⟩ := Cond.selects_spec hsel
  cases hcls.symm.trans q1
  cases (State.methodFound?_of_named hnamed hy).symm.trans q2
  cases hnamed.symm.trans q3
  have hselP : selectMethod e.platform s.vm cellB.cls mk = .method mk := by rw [Launch.admits_selectMethod X.admits]; exact q4
  obtain ⟨vm₁, X₁, hstep₁⟩ := X.invokevirtual hexec hown hlink hnamed hmethM hstM hkP hkPi hy (a := b) (cell := cellB) hcell
    (fun z h => by rw [h] at hobj; cases hobj) hselP hmethM habM hkP hkPi (g := g) hg (argsL := argsL) (rest := rest) (hlen _ hsigM) hstack hdg
  obtain ⟨v, B, X', hpost, hsteps⟩ := hK m meth c ⟨T.setVm vm₁, locs, cells, slots⟩ { g with stack := rest } (.invokevirtual index) mk (Value.ref b :: argsL).toArray X₁ hg hsize hdg hW (X₁.named hnamed) (hpre vm₁ X₁.warmed)
  exact ⟨v, vm₁, B, X₁.warmed, X', hpost, fun target h => hstep₁ _ fun acts => by rw [doInvoke_state]; exact hsteps.trans h⟩
abbrev vx_CVW (R : Room) (s : State) (args : Array Value) (own C : String) (index : Nat) (y : MethodName) (bytes : ByteArray) (maxL : Nat) (ret : Option FieldType) (hh : List (Nat × Nat × Nat × Nat)) (ws : List Cond) (rm : Room) (mc ms n : Nat) : Prop :=
  (rm.cells = mc ∧ rm.slots = ms ∧ rm.frames + 1 ≤ R.frames ∧ 8 + (maxL + 11) + rm.locals ≤ R.locals ∧ (∀ w ∈ ws, ∀ (a' : Array Value) (U : State), s.WarmedH U.vm → w.before a' U = true) ∧ Cond.codeWith y bytes maxL ret hh ∈ ws) ∧
  (Cond.codeWith y bytes maxL ret hh).before args s = true ∧ (Cond.initialized y.cls).before args s = true ∧ (y.cls ≠ "java/lang/invoke/MethodHandle" ∧ y.cls ≠ "java/lang/invoke/VarHandle") ∧
  (∀ sig, parseMethodDescriptor y.desc = some sig → n = sig.parameters.length) ∧ (Cond.methodLink own index y).before args s = true ∧ (Cond.instanceMethod y).before args s = true ∧ (Cond.selects C y y).before args s = true
theorem vx_cwVW {own C : String} {index maxL mc ms : Nat} {y : MethodName} {bytes : ByteArray} {ret : Option FieldType} {hh : List (Nat × Nat × Nat × Nat)} {Ts ws ws' : List Cond} {rm : Room} (n : Nat) (ht : ∀ w ∈ Ts, w.before args s = true) (hT : GoodIn Ts (wsV own index C y ws)) (hw : ws = Cond.codeWith y bytes maxL ret hh :: ws') (hrc : rm.cells = mc) (hrs : rm.slots = ms)
    (hd : y.cls = C ∧ y.cls ≠ "java/lang/invoke/MethodHandle" ∧ y.cls ≠ "java/lang/invoke/VarHandle" ∧ (parseMethodDescriptor y.desc).map (fun d => d.parameters.length) = some n) (hR : rm.frames + 1 ≤ R.frames ∧ 8 + (maxL + 11) + rm.locals ≤ R.locals) :
    vx_CVW R s args own C index y bytes maxL ret hh ws rm mc ms n := by
  obtain ⟨hC, hd⟩ := hd
  subst hC
  have ok : ∀ w ∈ wsV own index y.cls y ws, w.before args s = true := fun w h => ht w (hT w h).1
  have hG : GoodIn Ts ws := fun w h => hT w (by unfold wsV; exact List.mem_append_right _ h)
  have hc : Cond.codeWith y bytes maxL ret hh ∈ ws := by rw [hw]; exact List.mem_cons_self
  refine ⟨⟨hrc, hrs, hR.1, hR.2, pay_in ht hG, hc⟩, ht _ (hG _ hc).1, ok _ (by simp [wsV]), ⟨hd.1, hd.2.1⟩, fun sig h => ?_, ok _ (by simp [wsV]), ok _ (by simp [wsV]), ok _ (by simp [wsV])⟩
  have h2 := hd.2.2
  rw [h] at h2
  exact (Option.some.inj h2).symm
theorem vx_runVW {y : MethodName} {bytes cc : ByteArray} {maxL nL mc ms n index : Nat} {ret : Option FieldType} {hh : List (Nat × Nat × Nat × Nat)} {ws : List Cond} {rm : Room} {Pc : Array Value → State → Prop} {Qc : Array Value → State → Outcome → State → Prop} {free : Addr → Prop} {Ts : List Cond} {own C : String} {b : Addr} {As rest : List Value} {g : JFrame}
    (S : CallFix p m c cc nL s args Ts own) (hM : Met l y ws rm Pc Qc mc ms free) (cw : vx_CVW R s args own C index y bytes maxL ret hh ws rm mc ms n) (hp : PreV s H C b Pc As)
    (hg : g.method = m) (hn : As.length = n) (hsize : g.locals.size = nL) (hstack : g.stack = As.reverse ++ .ref b :: rest) (hW : 2 * g.monitorRoom + (rest.map fun v => v.category).sum ≤ 8) (hdg : decode cc g.pc = .ok (.invokevirtual index, 3)) (hf : cells + mc ≤ R.cells ∧ slots + ms ≤ R.slots) :
    va_Run p l e R s m args below meth c H locs cells slots mc ms g rest (Qc (Value.ref b :: As).toArray) free := by
  obtain ⟨⟨hrc, hrs, hfr, hlo, hws, hcw⟩, hcode, hini, hy, hlen, hl, hin, hse⟩ := cw
  have hK : Back l R p e below s args y 3 8 (PreOf R mc ms Pc) (PostOf Qc mc ms free) := va_backW (hh := hh) (bytes := bytes) (maxL := maxL) (ret := ret) hM hp.1 hrc hrs hfr hlo hws hcw (fun a' U hW => word_at hW (Or.inl (by first | rfl | simp [Cond.onTables, Cond.keeps, Cond.steady])) hini)
  obtain ⟨hx, hb, hml, ho, -⟩ := S
  obtain ⟨-, ⟨cellB, hcB, hoB, hclB⟩, hPc⟩ := hp
  intro T hT X
  obtain ⟨v, vm₁, ⟨U', l2, c2, s2⟩, hW₁, X', ⟨g', mk, t, L, e1, e2, hq, h1, hL, h2, h3⟩, st⟩ := vx_callVW X hx (C := C) (hh := hh) (bytes := bytes) (maxL := maxL) (ret := ret) ho hl hin hse hcode hy hK (by rw [hT]; exact hcB) hoB hclB hg (hsize.trans hml.symm) (argsL := As) (rest := rest) (fun sig h => hn.trans (hlen sig h)) hstack hW (by rw [hb]; exact hdg)
    (fun vm₁ hW₁ => ⟨hf.1, hf.2, hPc (T.setVm vm₁) hT hW₁⟩)
  dsimp only [Pt.U, Pt.locs, Pt.cells, Pt.slots] at X' e1 e2 h1 h2 h3 st
  subst h1; subst h2; subst h3
  exact ⟨v, (T.setVm vm₁).calling g' mk (Value.ref b :: As).toArray, t, U', L, hT, X', hL, e1, e2, hq, st⟩
section
variable {y : MethodName} {bytes cc : ByteArray} {maxL nL mc ms n index : Nat} {ret : Option FieldType} {ws : List Cond} {rm : Room} {Pc : Array Value → State → Prop} {Qc : Array Value → State → Outcome → State → Prop} {XC : String → State → State → Prop} {free : Addr → Prop} {Ts : List Cond} {own C : String} {b : Addr} {As rest : List Value} {g : JFrame}
theorem vx_runVX {hh : List (Nat × Nat × Nat × Nat)} (S : CallFix p m c cc nL s args Ts own) (hM : vx_Met l y ws rm Pc Qc XC mc ms free) (cw : vx_CVW R s args own C index y bytes maxL ret hh ws rm mc ms n) (hp : PreV s H C b Pc As)
    (hg : g.method = m) (hn : As.length = n) (hsize : g.locals.size = nL) (hstack : g.stack = As.reverse ++ .ref b :: rest) (hW : 2 * g.monitorRoom + (rest.map fun v => v.category).sum ≤ 8) (hdg : decode cc g.pc = .ok (.invokevirtual index, 3)) (hf : cells + mc ≤ R.cells ∧ slots + ms ≤ R.slots) :
    vx_Run p l e R s m args below meth c H locs cells slots mc ms g rest (Qc (Value.ref b :: As).toArray) XC free := by
  obtain ⟨⟨hrc, hrs, hfr, hlo, hws, hcw⟩, hcode, hini, hy, hlen, hl, hin, hse⟩ := cw
  have hK : vx_Back l R p e below s args y 3 8 (PreOf R mc ms Pc) (PostOf Qc mc ms free) (vx_Post XC mc ms free) := vx_backW (hh := hh) (bytes := bytes) (maxL := maxL) (ret := ret) hM hp.1 hrc hrs hfr hlo hws hcw (fun a' U hW => word_at hW (Or.inl (by first | rfl | simp [Cond.onTables, Cond.keeps, Cond.steady])) hini)
  obtain ⟨hx, hb, hml, ho, -⟩ := S
  obtain ⟨-, ⟨cellB, hcB, hoB, hclB⟩, hPc⟩ := hp
  intro T hT X
  rcases vx_callVX X hx (C := C) (hh := hh) (bytes := bytes) (maxL := maxL) (ret := ret) ho hl hin hse hcode hy hK (by rw [hT]; exact hcB) hoB hclB hg (hsize.trans hml.symm) (argsL := As) (rest := rest) (fun sig h => hn.trans (hlen sig h)) hstack hW (by rw [hb]; exact hdg)
    (fun vm₁ hW₁ => ⟨hf.1, hf.2, hPc (T.setVm vm₁) hT hW₁⟩) with ⟨v, vm₁, ⟨U', l2, c2, s2⟩, hW₁, X', ⟨g', mk, t, L, e1, e2, hq, h1, hL, h2, h3⟩, st⟩ | ⟨q, vm₁, ⟨U', l2, c2, s2⟩, hW₁, X', ⟨g', mk, t, L, E, ce, e1, e2, hq, hce, hcv, hcl, h1, hL, h2, h3⟩, st⟩
  · dsimp only [Pt.U, Pt.locs, Pt.cells, Pt.slots] at X' e1 e2 h1 h2 h3 st
    subst h1; subst h2; subst h3
    exact Or.inl ⟨v, (T.setVm vm₁).calling g' mk (Value.ref b :: As).toArray, t, U', L, hT, X', hL, e1, e2, hq, st⟩
  · dsimp only [Pt.U, Pt.locs, Pt.cells, Pt.slots] at X' e1 e2 h1 h2 h3 st hcl
    subst h1; subst h2; subst h3
    exact Or.inr ⟨q, (T.setVm vm₁).calling g' mk (Value.ref b :: As).toArray, t, U', L, E, ce, hT, X', hL, e1, e2, hq, hce, hcv, vx_cls hW₁ hcl, st⟩
theorem vx_runSX {hh : List (Nat × Nat × Nat × Nat)} (S : CallFix p m c cc nL s args Ts own) (hM : vx_Met l y ws rm Pc Qc XC mc ms free) (cw : vx_CSW R s args own index y bytes maxL ret hh ws rm mc ms n) (hp : PreS s H Pc As)
    (hg : g.method = m) (hn : As.length = n) (hsize : g.locals.size = nL) (hstack : g.stack = As.reverse ++ rest) (hW : 2 * g.monitorRoom + (rest.map fun v => v.category).sum ≤ 8) (hdg : decode cc g.pc = .ok (.invokestatic index, 3)) (hf : cells + mc ≤ R.cells ∧ slots + ms ≤ R.slots) :
    vx_Run p l e R s m args below meth c H locs cells slots mc ms g rest (Qc As.toArray) XC free := by
  obtain ⟨⟨hrc, hrs, hfr, hlo, hws, hcw⟩, hcode, hini, hy, hlen, hl, hstt⟩ := cw
  have hK : vx_Back l R p e below s args y 3 8 (PreOf R mc ms Pc) (PostOf Qc mc ms free) (vx_Post XC mc ms free) := vx_backW (hh := hh) (bytes := bytes) (maxL := maxL) (ret := ret) hM hp.1 hrc hrs hfr hlo hws hcw (fun a' U hW => word_at hW (Or.inl (by first | rfl | simp [Cond.onTables, Cond.keeps, Cond.steady])) hini)
  obtain ⟨hx, hb, hml, ho, -⟩ := S
  intro T hT X
  rcases vx_callSX X hx (hh := hh) (bytes := bytes) (maxL := maxL) (ret := ret) ho hl hstt hini hcode hy hK hg (hsize.trans hml.symm) (argsL := As) (rest := rest) (fun sig h => hn.trans (hlen sig h)) hstack hW (by rw [hb]; exact hdg)
    (fun vm₁ hW₁ => ⟨hf.1, hf.2, hp.2 (T.setVm vm₁) hT hW₁⟩) with ⟨v, vm₁, ⟨U', l2, c2, s2⟩, hW₁, X', ⟨g', mk, t, L, e1, e2, hq, h1, hL, h2, h3⟩, st⟩ | ⟨q, vm₁, ⟨U', l2, c2, s2⟩, hW₁, X', ⟨g', mk, t, L, E, ce, e1, e2, hq, hce, hcv, hcl, h1, hL, h2, h3⟩, st⟩
  · dsimp only [Pt.U, Pt.locs, Pt.cells, Pt.slots] at X' e1 e2 h1 h2 h3 st
    subst h1; subst h2; subst h3
    exact Or.inl ⟨v, (T.setVm vm₁).calling g' mk As.toArray, t, U', L, hT, X', hL, e1, e2, hq, st⟩
  · dsimp only [Pt.U, Pt.locs, Pt.cells, Pt.slots] at X' e1 e2 h1 h2 h3 st hcl
    subst h1; subst h2; subst h3
    exact Or.inr ⟨q, (T.setVm vm₁).calling g' mk As.toArray, t, U', L, E, ce, hT, X', hL, e1, e2, hq, hce, hcv, vx_cls hW₁ hcl, st⟩
end
end VXH
theorem vx_ofWH {l : Launch} {y : MethodName} {ws ws' : List Cond} {rm : Room} {Pc : Array Value → State → Prop} {Qc : Array Value → State → Outcome → State → Prop} {XC : String → State → State → Prop} {mc ms : Nat} {free : Addr → Prop} {cc : ByteArray} {maxL : Nat} {ret : Option FieldType} {hh : List (Nat × Nat × Nat × Nat)}
    (hy : plainName y.cls = true) (hw : ws = Cond.codeWith y cc maxL ret hh :: ws')
    (body : ∀ p e s m args below meth c s₁, BodyLoose p l y (headSpec ws rm) cc maxL ret e s m args below meth c s₁ → c.maxLocals = maxL → Pc args s →
      W p l e (headSpec ws rm).room s m args below meth c s.heap [] 0 0 (vx_MQ below Qc XC args s mc ms free) (entryFrame m args maxL)) : vx_Met l y ws rm Pc Qc XC mc ms free := by
  refine MetFree.of_bodyS (code := cc) (maxLocals := maxL) (ret := ret) hy ?_ ?_
  · intro args s m h hn
    obtain ⟨m9, meth, c, hn9, h1, h2, h3, h4, -, h5, h6, -⟩ := Cond.codeWith_spec (atoms_spec (ws := ws) h _ (by rw [hw]; exact List.mem_cons_self))
    cases hn.symm.trans hn9
    exact ⟨meth, c, h1, h2, h3, h4, h5, h6⟩
  · intro p e s m args below meth c s₁ B hml hP _
    have hh0 : s₁.heap = s.heap := by rw [B.state]; rfl
    obtain ⟨t, a1, o, b1, b2, b3⟩ := body p e s m args below meth c s₁ B hml hP s₁ hh0 (Stand.of_body B)
    exact ⟨t, o, a1, b1, b2, b3⟩
/-! ===== END ===== -/
end
section
theorem dX2_init_0 : decode cX2_init 0 = .ok (.aload_n 0, 1) := by decide +kernel
theorem dX2_init_1 : decode cX2_init 1 = .ok (.invokespecial 3, 3) := by decide +kernel
theorem dX2_init_4 : decode cX2_init 4 = .ok (.aload_n 0, 1) := by decide +kernel
theorem dX2_init_5 : decode cX2_init 5 = .ok (.aload_n 1, 1) := by decide +kernel
theorem dX2_init_6 : decode cX2_init 6 = .ok (.putfield 9, 3) := by decide +kernel
theorem dX2_init_9 : decode cX2_init 9 = .ok (.return_, 1) := by decide +kernel
theorem dX2_perform_0 : decode cX2_perform 0 = .ok (.getstatic 15, 3) := by decide +kernel
theorem dX2_perform_3 : decode cX2_perform 3 = .ok (.aload_n 1, 1) := by decide +kernel
theorem dX2_perform_4 : decode cX2_perform 4 = .ok (.invokevirtual 21, 3) := by decide +kernel
theorem dX2_perform_7 : decode cX2_perform 7 = .ok (.iaload, 1) := by decide +kernel
theorem dX2_perform_8 : decode cX2_perform 8 = .ok (.tableswitch 406 1 20 #[96, 104, 128, 136, 144, 152, 176, 200, 209, 235, 244, 269, 304, 336, 336, 336, 336, 372, 394, 400], 96) := by decide +kernel
theorem dX2_perform_104 : decode cX2_perform 104 = .ok (.aload_n 0, 1) := by decide +kernel
theorem dX2_perform_105 : decode cX2_perform 105 = .ok (.iload_n 2, 1) := by decide +kernel
theorem dX2_perform_106 : decode cX2_perform 106 = .ok (.iconst 0, 1) := by decide +kernel
theorem dX2_perform_107 : decode cX2_perform 107 = .ok (.iload_n 3, 1) := by decide +kernel
theorem dX2_perform_108 : decode cX2_perform 108 = .ok (.invokevirtual 29, 3) := by decide +kernel
theorem dX2_perform_111 : decode cX2_perform 111 = .ok (.ireturn, 1) := by decide +kernel
theorem dX2_perform_112 : decode cX2_perform 112 = .ok (.aload_n 0, 1) := by decide +kernel
theorem dX2_perform_113 : decode cX2_perform 113 = .ok (.iload_n 2, 1) := by decide +kernel
theorem dX2_perform_114 : decode cX2_perform 114 = .ok (.aload_n 0, 1) := by decide +kernel
theorem dX2_perform_115 : decode cX2_perform 115 = .ok (.getfield 9, 3) := by decide +kernel
theorem dX2_perform_118 : decode cX2_perform 118 = .ok (.getfield 33, 3) := by decide +kernel
theorem dX2_perform_121 : decode cX2_perform 121 = .ok (.iload_n 3, 1) := by decide +kernel
theorem dX2_perform_122 : decode cX2_perform 122 = .ok (.iaload, 1) := by decide +kernel
theorem dX2_perform_123 : decode cX2_perform 123 = .ok (.aload_n 0, 1) := by decide +kernel
theorem dX2_perform_124 : decode cX2_perform 124 = .ok (.getfield 9, 3) := by decide +kernel
theorem dX2_perform_127 : decode cX2_perform 127 = .ok (.getfield 36, 3) := by decide +kernel
theorem dX2_perform_130 : decode cX2_perform 130 = .ok (.iload_n 3, 1) := by decide +kernel
theorem dX2_perform_131 : decode cX2_perform 131 = .ok (.iaload, 1) := by decide +kernel
theorem dX2_perform_132 : decode cX2_perform 132 = .ok (.invokevirtual 29, 3) := by decide +kernel
theorem dX2_perform_135 : decode cX2_perform 135 = .ok (.ireturn, 1) := by decide +kernel
theorem dX2_perform_136 : decode cX2_perform 136 = .ok (.aload_n 0, 1) := by decide +kernel
theorem dX2_perform_137 : decode cX2_perform 137 = .ok (.iload_n 2, 1) := by decide +kernel
theorem dX2_perform_138 : decode cX2_perform 138 = .ok (.iconst 1, 1) := by decide +kernel
theorem dX2_perform_139 : decode cX2_perform 139 = .ok (.iconst 0, 1) := by decide +kernel
theorem dX2_perform_140 : decode cX2_perform 140 = .ok (.invokevirtual 29, 3) := by decide +kernel
theorem dX2_perform_143 : decode cX2_perform 143 = .ok (.ireturn, 1) := by decide +kernel
theorem dX2_perform_144 : decode cX2_perform 144 = .ok (.aload_n 0, 1) := by decide +kernel
theorem dX2_perform_145 : decode cX2_perform 145 = .ok (.iload_n 2, 1) := by decide +kernel
theorem dX2_perform_146 : decode cX2_perform 146 = .ok (.iload_n 3, 1) := by decide +kernel
theorem dX2_perform_147 : decode cX2_perform 147 = .ok (.iconst 3, 1) := by decide +kernel
theorem dX2_perform_148 : decode cX2_perform 148 = .ok (.invokevirtual 39, 3) := by decide +kernel
theorem dX2_perform_151 : decode cX2_perform 151 = .ok (.ireturn, 1) := by decide +kernel
theorem dX2_perform_152 : decode cX2_perform 152 = .ok (.aload_n 0, 1) := by decide +kernel
theorem dX2_perform_153 : decode cX2_perform 153 = .ok (.iload_n 2, 1) := by decide +kernel
theorem dX2_perform_154 : decode cX2_perform 154 = .ok (.iload_n 3, 1) := by decide +kernel
theorem dX2_perform_155 : decode cX2_perform 155 = .ok (.iconst 4, 1) := by decide +kernel
theorem dX2_perform_156 : decode cX2_perform 156 = .ok (.invokevirtual 39, 3) := by decide +kernel
theorem dX2_perform_159 : decode cX2_perform 159 = .ok (.ireturn, 1) := by decide +kernel
theorem dX2_perform_160 : decode cX2_perform 160 = .ok (.aload_n 0, 1) := by decide +kernel
theorem dX2_perform_161 : decode cX2_perform 161 = .ok (.iload_n 3, 1) := by decide +kernel
theorem dX2_perform_162 : decode cX2_perform 162 = .ok (.invokevirtual 42, 3) := by decide +kernel
theorem dX2_perform_165 : decode cX2_perform 165 = .ok (.ifCond .eq 17, 3) := by decide +kernel
theorem dX2_perform_168 : decode cX2_perform 168 = .ok (.aload_n 0, 1) := by decide +kernel
theorem dX2_perform_169 : decode cX2_perform 169 = .ok (.iload_n 2, 1) := by decide +kernel
theorem dX2_perform_170 : decode cX2_perform 170 = .ok (.aload_n 0, 1) := by decide +kernel
theorem dX2_perform_171 : decode cX2_perform 171 = .ok (.iload_n 3, 1) := by decide +kernel
theorem dX2_perform_172 : decode cX2_perform 172 = .ok (.invokevirtual 46, 3) := by decide +kernel
theorem dX2_perform_175 : decode cX2_perform 175 = .ok (.iconst 3, 1) := by decide +kernel
theorem dX2_perform_176 : decode cX2_perform 176 = .ok (.invokevirtual 39, 3) := by decide +kernel
theorem dX2_perform_179 : decode cX2_perform 179 = .ok (.goto 4, 3) := by decide +kernel
theorem dX2_perform_182 : decode cX2_perform 182 = .ok (.iconst 1, 1) := by decide +kernel
theorem dX2_perform_183 : decode cX2_perform 183 = .ok (.ireturn, 1) := by decide +kernel
theorem dX2_perform_184 : decode cX2_perform 184 = .ok (.aload_n 0, 1) := by decide +kernel
theorem dX2_perform_185 : decode cX2_perform 185 = .ok (.iload_n 3, 1) := by decide +kernel
theorem dX2_perform_186 : decode cX2_perform 186 = .ok (.invokevirtual 42, 3) := by decide +kernel
theorem dX2_perform_189 : decode cX2_perform 189 = .ok (.ifCond .eq 17, 3) := by decide +kernel
theorem dX2_perform_192 : decode cX2_perform 192 = .ok (.aload_n 0, 1) := by decide +kernel
theorem dX2_perform_193 : decode cX2_perform 193 = .ok (.iload_n 2, 1) := by decide +kernel
theorem dX2_perform_194 : decode cX2_perform 194 = .ok (.aload_n 0, 1) := by decide +kernel
theorem dX2_perform_195 : decode cX2_perform 195 = .ok (.iload_n 3, 1) := by decide +kernel
theorem dX2_perform_196 : decode cX2_perform 196 = .ok (.invokevirtual 46, 3) := by decide +kernel
theorem dX2_perform_199 : decode cX2_perform 199 = .ok (.iconst 4, 1) := by decide +kernel
theorem dX2_perform_200 : decode cX2_perform 200 = .ok (.invokevirtual 39, 3) := by decide +kernel
theorem dX2_perform_203 : decode cX2_perform 203 = .ok (.goto 4, 3) := by decide +kernel
theorem dX2_perform_206 : decode cX2_perform 206 = .ok (.iconst 1, 1) := by decide +kernel
theorem dX2_perform_207 : decode cX2_perform 207 = .ok (.ireturn, 1) := by decide +kernel
theorem dX2_perform_208 : decode cX2_perform 208 = .ok (.aload_n 0, 1) := by decide +kernel
theorem dX2_perform_209 : decode cX2_perform 209 = .ok (.iload_n 2, 1) := by decide +kernel
theorem dX2_perform_210 : decode cX2_perform 210 = .ok (.iload_n 3, 1) := by decide +kernel
theorem dX2_perform_211 : decode cX2_perform 211 = .ok (.iload 4, 2) := by decide +kernel
theorem dX2_perform_213 : decode cX2_perform 213 = .ok (.invokevirtual 50, 3) := by decide +kernel
theorem dX2_perform_216 : decode cX2_perform 216 = .ok (.ireturn, 1) := by decide +kernel
theorem dX2_perform_217 : decode cX2_perform 217 = .ok (.aload_n 0, 1) := by decide +kernel
theorem dX2_perform_218 : decode cX2_perform 218 = .ok (.iload 4, 2) := by decide +kernel
theorem dX2_perform_220 : decode cX2_perform 220 = .ok (.invokevirtual 42, 3) := by decide +kernel
theorem dX2_perform_223 : decode cX2_perform 223 = .ok (.ifCond .eq 18, 3) := by decide +kernel
theorem dX2_perform_226 : decode cX2_perform 226 = .ok (.aload_n 0, 1) := by decide +kernel
theorem dX2_perform_227 : decode cX2_perform 227 = .ok (.iload_n 2, 1) := by decide +kernel
theorem dX2_perform_228 : decode cX2_perform 228 = .ok (.iload_n 3, 1) := by decide +kernel
theorem dX2_perform_229 : decode cX2_perform 229 = .ok (.aload_n 0, 1) := by decide +kernel
theorem dX2_perform_230 : decode cX2_perform 230 = .ok (.iload 4, 2) := by decide +kernel
theorem dX2_perform_232 : decode cX2_perform 232 = .ok (.invokevirtual 46, 3) := by decide +kernel
theorem dX2_perform_235 : decode cX2_perform 235 = .ok (.invokevirtual 50, 3) := by decide +kernel
theorem dX2_perform_238 : decode cX2_perform 238 = .ok (.goto 4, 3) := by decide +kernel
theorem dX2_perform_241 : decode cX2_perform 241 = .ok (.iconst 1, 1) := by decide +kernel
theorem dX2_perform_242 : decode cX2_perform 242 = .ok (.ireturn, 1) := by decide +kernel
theorem dX2_perform_243 : decode cX2_perform 243 = .ok (.aload_n 0, 1) := by decide +kernel
theorem dX2_perform_244 : decode cX2_perform 244 = .ok (.iload_n 2, 1) := by decide +kernel
theorem dX2_perform_245 : decode cX2_perform 245 = .ok (.iload_n 3, 1) := by decide +kernel
theorem dX2_perform_246 : decode cX2_perform 246 = .ok (.iload 4, 2) := by decide +kernel
theorem dX2_perform_248 : decode cX2_perform 248 = .ok (.invokevirtual 53, 3) := by decide +kernel
theorem dX2_perform_251 : decode cX2_perform 251 = .ok (.ireturn, 1) := by decide +kernel
theorem dX2_perform_252 : decode cX2_perform 252 = .ok (.aload_n 0, 1) := by decide +kernel
theorem dX2_perform_253 : decode cX2_perform 253 = .ok (.iload_n 3, 1) := by decide +kernel
theorem dX2_perform_254 : decode cX2_perform 254 = .ok (.invokevirtual 42, 3) := by decide +kernel
theorem dX2_perform_257 : decode cX2_perform 257 = .ok (.ifCond .eq 18, 3) := by decide +kernel
theorem dX2_perform_260 : decode cX2_perform 260 = .ok (.aload_n 0, 1) := by decide +kernel
theorem dX2_perform_261 : decode cX2_perform 261 = .ok (.iload_n 2, 1) := by decide +kernel
theorem dX2_perform_262 : decode cX2_perform 262 = .ok (.aload_n 0, 1) := by decide +kernel
theorem dX2_perform_263 : decode cX2_perform 263 = .ok (.iload_n 3, 1) := by decide +kernel
theorem dX2_perform_264 : decode cX2_perform 264 = .ok (.invokevirtual 46, 3) := by decide +kernel
theorem dX2_perform_267 : decode cX2_perform 267 = .ok (.iload 4, 2) := by decide +kernel
theorem dX2_perform_269 : decode cX2_perform 269 = .ok (.invokevirtual 53, 3) := by decide +kernel
theorem dX2_perform_272 : decode cX2_perform 272 = .ok (.goto 4, 3) := by decide +kernel
theorem dX2_perform_275 : decode cX2_perform 275 = .ok (.iconst 1, 1) := by decide +kernel
theorem dX2_perform_276 : decode cX2_perform 276 = .ok (.ireturn, 1) := by decide +kernel
theorem dX2_perform_277 : decode cX2_perform 277 = .ok (.aload_n 0, 1) := by decide +kernel
theorem dX2_perform_278 : decode cX2_perform 278 = .ok (.iload_n 3, 1) := by decide +kernel
theorem dX2_perform_279 : decode cX2_perform 279 = .ok (.invokevirtual 56, 3) := by decide +kernel
theorem dX2_perform_282 : decode cX2_perform 282 = .ok (.ifCond .eq 28, 3) := by decide +kernel
theorem dX2_perform_285 : decode cX2_perform 285 = .ok (.aload_n 0, 1) := by decide +kernel
theorem dX2_perform_286 : decode cX2_perform 286 = .ok (.iload_n 2, 1) := by decide +kernel
theorem dX2_perform_287 : decode cX2_perform 287 = .ok (.iconst 0, 1) := by decide +kernel
theorem dX2_perform_288 : decode cX2_perform 288 = .ok (.aload_n 0, 1) := by decide +kernel
theorem dX2_perform_289 : decode cX2_perform 289 = .ok (.getfield 9, 3) := by decide +kernel
theorem dX2_perform_292 : decode cX2_perform 292 = .ok (.aload_n 0, 1) := by decide +kernel
theorem dX2_perform_293 : decode cX2_perform 293 = .ok (.getfield 9, 3) := by decide +kernel
theorem dX2_perform_296 : decode cX2_perform 296 = .ok (.getfield 36, 3) := by decide +kernel
theorem dX2_perform_299 : decode cX2_perform 299 = .ok (.iload_n 3, 1) := by decide +kernel
theorem dX2_perform_300 : decode cX2_perform 300 = .ok (.iaload, 1) := by decide +kernel
theorem dX2_perform_301 : decode cX2_perform 301 = .ok (.invokevirtual 59, 3) := by decide +kernel
theorem dX2_perform_304 : decode cX2_perform 304 = .ok (.invokevirtual 29, 3) := by decide +kernel
theorem dX2_perform_307 : decode cX2_perform 307 = .ok (.goto 4, 3) := by decide +kernel
theorem dX2_perform_310 : decode cX2_perform 310 = .ok (.iconst 2, 1) := by decide +kernel
theorem dX2_perform_311 : decode cX2_perform 311 = .ok (.ireturn, 1) := by decide +kernel
theorem dX2_perform_312 : decode cX2_perform 312 = .ok (.aload_n 0, 1) := by decide +kernel
theorem dX2_perform_313 : decode cX2_perform 313 = .ok (.iload_n 2, 1) := by decide +kernel
theorem dX2_perform_314 : decode cX2_perform 314 = .ok (.iconst 0, 1) := by decide +kernel
theorem dX2_perform_315 : decode cX2_perform 315 = .ok (.aload_n 0, 1) := by decide +kernel
theorem dX2_perform_316 : decode cX2_perform 316 = .ok (.getfield 9, 3) := by decide +kernel
theorem dX2_perform_319 : decode cX2_perform 319 = .ok (.aload_n 0, 1) := by decide +kernel
theorem dX2_perform_320 : decode cX2_perform 320 = .ok (.getfield 9, 3) := by decide +kernel
theorem dX2_perform_323 : decode cX2_perform 323 = .ok (.getfield 33, 3) := by decide +kernel
theorem dX2_perform_326 : decode cX2_perform 326 = .ok (.iload_n 3, 1) := by decide +kernel
theorem dX2_perform_327 : decode cX2_perform 327 = .ok (.iaload, 1) := by decide +kernel
theorem dX2_perform_328 : decode cX2_perform 328 = .ok (.aload_n 0, 1) := by decide +kernel
theorem dX2_perform_329 : decode cX2_perform 329 = .ok (.getfield 9, 3) := by decide +kernel
theorem dX2_perform_332 : decode cX2_perform 332 = .ok (.getfield 36, 3) := by decide +kernel
theorem dX2_perform_335 : decode cX2_perform 335 = .ok (.iload_n 3, 1) := by decide +kernel
theorem dX2_perform_336 : decode cX2_perform 336 = .ok (.iaload, 1) := by decide +kernel
theorem dX2_perform_337 : decode cX2_perform 337 = .ok (.invokevirtual 62, 3) := by decide +kernel
theorem dX2_perform_340 : decode cX2_perform 340 = .ok (.invokevirtual 29, 3) := by decide +kernel
theorem dX2_perform_343 : decode cX2_perform 343 = .ok (.ireturn, 1) := by decide +kernel
theorem dX2_perform_344 : decode cX2_perform 344 = .ok (.aload_n 0, 1) := by decide +kernel
theorem dX2_perform_345 : decode cX2_perform 345 = .ok (.iload_n 3, 1) := by decide +kernel
theorem dX2_perform_346 : decode cX2_perform 346 = .ok (.invokevirtual 42, 3) := by decide +kernel
theorem dX2_perform_349 : decode cX2_perform 349 = .ok (.ifCond .eq 29, 3) := by decide +kernel
theorem dX2_perform_352 : decode cX2_perform 352 = .ok (.aload_n 0, 1) := by decide +kernel
theorem dX2_perform_353 : decode cX2_perform 353 = .ok (.iload 4, 2) := by decide +kernel
theorem dX2_perform_355 : decode cX2_perform 355 = .ok (.invokevirtual 42, 3) := by decide +kernel
theorem dX2_perform_358 : decode cX2_perform 358 = .ok (.ifCond .eq 20, 3) := by decide +kernel
theorem dX2_perform_361 : decode cX2_perform 361 = .ok (.aload_n 0, 1) := by decide +kernel
theorem dX2_perform_362 : decode cX2_perform 362 = .ok (.iload_n 2, 1) := by decide +kernel
theorem dX2_perform_363 : decode cX2_perform 363 = .ok (.iconst 0, 1) := by decide +kernel
theorem dX2_perform_364 : decode cX2_perform 364 = .ok (.aload_n 0, 1) := by decide +kernel
theorem dX2_perform_365 : decode cX2_perform 365 = .ok (.aload_n 1, 1) := by decide +kernel
theorem dX2_perform_366 : decode cX2_perform 366 = .ok (.iload_n 3, 1) := by decide +kernel
theorem dX2_perform_367 : decode cX2_perform 367 = .ok (.iload 4, 2) := by decide +kernel
theorem dX2_perform_369 : decode cX2_perform 369 = .ok (.invokevirtual 66, 3) := by decide +kernel
theorem dX2_perform_372 : decode cX2_perform 372 = .ok (.invokevirtual 29, 3) := by decide +kernel
theorem dX2_perform_375 : decode cX2_perform 375 = .ok (.goto 4, 3) := by decide +kernel
theorem dX2_perform_378 : decode cX2_perform 378 = .ok (.iconst 1, 1) := by decide +kernel
theorem dX2_perform_379 : decode cX2_perform 379 = .ok (.ireturn, 1) := by decide +kernel
theorem dX2_perform_380 : decode cX2_perform 380 = .ok (.aload_n 0, 1) := by decide +kernel
theorem dX2_perform_381 : decode cX2_perform 381 = .ok (.iload_n 2, 1) := by decide +kernel
theorem dX2_perform_382 : decode cX2_perform 382 = .ok (.iconst 0, 1) := by decide +kernel
theorem dX2_perform_383 : decode cX2_perform 383 = .ok (.aload_n 0, 1) := by decide +kernel
theorem dX2_perform_384 : decode cX2_perform 384 = .ok (.iload_n 3, 1) := by decide +kernel
theorem dX2_perform_385 : decode cX2_perform 385 = .ok (.iload 4, 2) := by decide +kernel
theorem dX2_perform_387 : decode cX2_perform 387 = .ok (.invokevirtual 70, 3) := by decide +kernel
theorem dX2_perform_390 : decode cX2_perform 390 = .ok (.ifCond .eq 7, 3) := by decide +kernel
theorem dX2_perform_393 : decode cX2_perform 393 = .ok (.iconst 1, 1) := by decide +kernel
theorem dX2_perform_394 : decode cX2_perform 394 = .ok (.goto 4, 3) := by decide +kernel
theorem dX2_perform_397 : decode cX2_perform 397 = .ok (.iconst 0, 1) := by decide +kernel
theorem dX2_perform_398 : decode cX2_perform 398 = .ok (.invokevirtual 29, 3) := by decide +kernel
theorem dX2_perform_401 : decode cX2_perform 401 = .ok (.ireturn, 1) := by decide +kernel
theorem dX2_perform_402 : decode cX2_perform 402 = .ok (.aload_n 0, 1) := by decide +kernel
theorem dX2_perform_403 : decode cX2_perform 403 = .ok (.iload_n 2, 1) := by decide +kernel
theorem dX2_perform_404 : decode cX2_perform 404 = .ok (.invokevirtual 74, 3) := by decide +kernel
theorem dX2_perform_407 : decode cX2_perform 407 = .ok (.ireturn, 1) := by decide +kernel
theorem dX2_perform_408 : decode cX2_perform 408 = .ok (.aload_n 0, 1) := by decide +kernel
theorem dX2_perform_409 : decode cX2_perform 409 = .ok (.iload_n 2, 1) := by decide +kernel
theorem dX2_perform_410 : decode cX2_perform 410 = .ok (.invokevirtual 77, 3) := by decide +kernel
theorem dX2_perform_413 : decode cX2_perform 413 = .ok (.ireturn, 1) := by decide +kernel
theorem dX2_perform_414 : decode cX2_perform 414 = .ok (.iconst 0, 1) := by decide +kernel
theorem dX2_perform_415 : decode cX2_perform 415 = .ok (.ireturn, 1) := by decide +kernel
theorem dX2_hasNumber_0 : decode cX2_hasNumber 0 = .ok (.aload_n 0, 1) := by decide +kernel
theorem dX2_hasNumber_1 : decode cX2_hasNumber 1 = .ok (.getfield 9, 3) := by decide +kernel
theorem dX2_hasNumber_4 : decode cX2_hasNumber 4 = .ok (.getfield 33, 3) := by decide +kernel
theorem dX2_hasNumber_7 : decode cX2_hasNumber 7 = .ok (.iload_n 1, 1) := by decide +kernel
theorem dX2_hasNumber_8 : decode cX2_hasNumber 8 = .ok (.iaload, 1) := by decide +kernel
theorem dX2_hasNumber_9 : decode cX2_hasNumber 9 = .ok (.ifCond .ne 7, 3) := by decide +kernel
theorem dX2_hasNumber_12 : decode cX2_hasNumber 12 = .ok (.iconst 1, 1) := by decide +kernel
theorem dX2_hasNumber_13 : decode cX2_hasNumber 13 = .ok (.goto 4, 3) := by decide +kernel
theorem dX2_hasNumber_16 : decode cX2_hasNumber 16 = .ok (.iconst 0, 1) := by decide +kernel
theorem dX2_hasNumber_17 : decode cX2_hasNumber 17 = .ok (.ireturn, 1) := by decide +kernel
theorem dX2_number_0 : decode cX2_number 0 = .ok (.aload_n 0, 1) := by decide +kernel
theorem dX2_number_1 : decode cX2_number 1 = .ok (.getfield 9, 3) := by decide +kernel
theorem dX2_number_4 : decode cX2_number 4 = .ok (.getfield 36, 3) := by decide +kernel
theorem dX2_number_7 : decode cX2_number 7 = .ok (.iload_n 1, 1) := by decide +kernel
theorem dX2_number_8 : decode cX2_number 8 = .ok (.iaload, 1) := by decide +kernel
theorem dX2_number_9 : decode cX2_number 9 = .ok (.ireturn, 1) := by decide +kernel
theorem dX2_hasThing_0 : decode cX2_hasThing 0 = .ok (.aload_n 0, 1) := by decide +kernel
theorem dX2_hasThing_1 : decode cX2_hasThing 1 = .ok (.getfield 9, 3) := by decide +kernel
theorem dX2_hasThing_4 : decode cX2_hasThing 4 = .ok (.getfield 33, 3) := by decide +kernel
theorem dX2_hasThing_7 : decode cX2_hasThing 7 = .ok (.iload_n 1, 1) := by decide +kernel
theorem dX2_hasThing_8 : decode cX2_hasThing 8 = .ok (.iaload, 1) := by decide +kernel
theorem dX2_hasThing_9 : decode cX2_hasThing 9 = .ok (.iconst 2, 1) := by decide +kernel
theorem dX2_hasThing_10 : decode cX2_hasThing 10 = .ok (.if_icmp .ne 7, 3) := by decide +kernel
theorem dX2_hasThing_13 : decode cX2_hasThing 13 = .ok (.iconst 1, 1) := by decide +kernel
theorem dX2_hasThing_14 : decode cX2_hasThing 14 = .ok (.goto 4, 3) := by decide +kernel
theorem dX2_hasThing_17 : decode cX2_hasThing 17 = .ok (.iconst 0, 1) := by decide +kernel
theorem dX2_hasThing_18 : decode cX2_hasThing 18 = .ok (.ireturn, 1) := by decide +kernel
theorem dX2_give_0 : decode cX2_give 0 = .ok (.aload_n 0, 1) := by decide +kernel
theorem dX2_give_1 : decode cX2_give 1 = .ok (.getfield 9, 3) := by decide +kernel
theorem dX2_give_4 : decode cX2_give 4 = .ok (.getfield 33, 3) := by decide +kernel
theorem dX2_give_7 : decode cX2_give 7 = .ok (.iload_n 1, 1) := by decide +kernel
theorem dX2_give_8 : decode cX2_give 8 = .ok (.iload_n 2, 1) := by decide +kernel
theorem dX2_give_9 : decode cX2_give 9 = .ok (.iastore, 1) := by decide +kernel
theorem dX2_give_10 : decode cX2_give 10 = .ok (.aload_n 0, 1) := by decide +kernel
theorem dX2_give_11 : decode cX2_give 11 = .ok (.getfield 9, 3) := by decide +kernel
theorem dX2_give_14 : decode cX2_give 14 = .ok (.getfield 36, 3) := by decide +kernel
theorem dX2_give_17 : decode cX2_give 17 = .ok (.iload_n 1, 1) := by decide +kernel
theorem dX2_give_18 : decode cX2_give 18 = .ok (.iload_n 3, 1) := by decide +kernel
theorem dX2_give_19 : decode cX2_give 19 = .ok (.iastore, 1) := by decide +kernel
theorem dX2_give_20 : decode cX2_give 20 = .ok (.iconst 0, 1) := by decide +kernel
theorem dX2_give_21 : decode cX2_give 21 = .ok (.ireturn, 1) := by decide +kernel
theorem dX2_makeThing_0 : decode cX2_makeThing 0 = .ok (.iload_n 2, 1) := by decide +kernel
theorem dX2_makeThing_1 : decode cX2_makeThing 1 = .ok (.ifCond .lt 9, 3) := by decide +kernel
theorem dX2_makeThing_4 : decode cX2_makeThing 4 = .ok (.iload_n 2, 1) := by decide +kernel
theorem dX2_makeThing_5 : decode cX2_makeThing 5 = .ok (.bipush 40, 2) := by decide +kernel
theorem dX2_makeThing_7 : decode cX2_makeThing 7 = .ok (.if_icmp .le 5, 3) := by decide +kernel
theorem dX2_makeThing_10 : decode cX2_makeThing 10 = .ok (.iconst 4, 1) := by decide +kernel
theorem dX2_makeThing_11 : decode cX2_makeThing 11 = .ok (.ireturn, 1) := by decide +kernel
theorem dX2_makeThing_12 : decode cX2_makeThing 12 = .ok (.aload_n 0, 1) := by decide +kernel
theorem dX2_makeThing_13 : decode cX2_makeThing 13 = .ok (.getfield 9, 3) := by decide +kernel
theorem dX2_makeThing_16 : decode cX2_makeThing 16 = .ok (.iload_n 2, 1) := by decide +kernel
theorem dX2_makeThing_17 : decode cX2_makeThing 17 = .ok (.iconst 2, 1) := by decide +kernel
theorem dX2_makeThing_18 : decode cX2_makeThing 18 = .ok (.iadd, 1) := by decide +kernel
theorem dX2_makeThing_19 : decode cX2_makeThing 19 = .ok (.invokevirtual 80, 3) := by decide +kernel
theorem dX2_makeThing_22 : decode cX2_makeThing 22 = .ok (.istore 4, 2) := by decide +kernel
theorem dX2_makeThing_24 : decode cX2_makeThing 24 = .ok (.iload 4, 2) := by decide +kernel
theorem dX2_makeThing_26 : decode cX2_makeThing 26 = .ok (.ifCond .eq 8, 3) := by decide +kernel
theorem dX2_makeThing_29 : decode cX2_makeThing 29 = .ok (.iload 4, 2) := by decide +kernel
theorem dX2_makeThing_31 : decode cX2_makeThing 31 = .ok (.goto 18, 3) := by decide +kernel
theorem dX2_makeThing_34 : decode cX2_makeThing 34 = .ok (.aload_n 0, 1) := by decide +kernel
theorem dX2_makeThing_35 : decode cX2_makeThing 35 = .ok (.iload_n 1, 1) := by decide +kernel
theorem dX2_makeThing_36 : decode cX2_makeThing 36 = .ok (.iconst 2, 1) := by decide +kernel
theorem dX2_makeThing_37 : decode cX2_makeThing 37 = .ok (.aload_n 0, 1) := by decide +kernel
theorem dX2_makeThing_38 : decode cX2_makeThing 38 = .ok (.getfield 9, 3) := by decide +kernel
theorem dX2_makeThing_41 : decode cX2_makeThing 41 = .ok (.iload_n 2, 1) := by decide +kernel
theorem dX2_makeThing_42 : decode cX2_makeThing 42 = .ok (.iload_n 3, 1) := by decide +kernel
theorem dX2_makeThing_43 : decode cX2_makeThing 43 = .ok (.invokevirtual 83, 3) := by decide +kernel
theorem dX2_makeThing_46 : decode cX2_makeThing 46 = .ok (.invokevirtual 29, 3) := by decide +kernel
theorem dX2_makeThing_49 : decode cX2_makeThing 49 = .ok (.ireturn, 1) := by decide +kernel
theorem dX2_readSlot_0 : decode cX2_readSlot 0 = .ok (.aload_n 0, 1) := by decide +kernel
theorem dX2_readSlot_1 : decode cX2_readSlot 1 = .ok (.iload_n 2, 1) := by decide +kernel
theorem dX2_readSlot_2 : decode cX2_readSlot 2 = .ok (.invokevirtual 56, 3) := by decide +kernel
theorem dX2_readSlot_5 : decode cX2_readSlot 5 = .ok (.ifCond .ne 5, 3) := by decide +kernel
theorem dX2_readSlot_8 : decode cX2_readSlot 8 = .ok (.iconst 2, 1) := by decide +kernel
theorem dX2_readSlot_9 : decode cX2_readSlot 9 = .ok (.ireturn, 1) := by decide +kernel
theorem dX2_readSlot_10 : decode cX2_readSlot 10 = .ok (.aload_n 0, 1) := by decide +kernel
theorem dX2_readSlot_11 : decode cX2_readSlot 11 = .ok (.getfield 9, 3) := by decide +kernel
theorem dX2_readSlot_14 : decode cX2_readSlot 14 = .ok (.iload_n 2, 1) := by decide +kernel
theorem dX2_readSlot_15 : decode cX2_readSlot 15 = .ok (.iload_n 3, 1) := by decide +kernel
theorem dX2_readSlot_16 : decode cX2_readSlot 16 = .ok (.invokevirtual 86, 3) := by decide +kernel
theorem dX2_readSlot_19 : decode cX2_readSlot 19 = .ok (.istore 4, 2) := by decide +kernel
theorem dX2_readSlot_21 : decode cX2_readSlot 21 = .ok (.iload 4, 2) := by decide +kernel
theorem dX2_readSlot_23 : decode cX2_readSlot 23 = .ok (.iconst (-1), 1) := by decide +kernel
theorem dX2_readSlot_24 : decode cX2_readSlot 24 = .ok (.if_icmp .ne 5, 3) := by decide +kernel
theorem dX2_readSlot_27 : decode cX2_readSlot 27 = .ok (.iconst 3, 1) := by decide +kernel
theorem dX2_readSlot_28 : decode cX2_readSlot 28 = .ok (.ireturn, 1) := by decide +kernel
theorem dX2_readSlot_29 : decode cX2_readSlot 29 = .ok (.aload_n 0, 1) := by decide +kernel
theorem dX2_readSlot_30 : decode cX2_readSlot 30 = .ok (.getfield 9, 3) := by decide +kernel
theorem dX2_readSlot_33 : decode cX2_readSlot 33 = .ok (.aload_n 0, 1) := by decide +kernel
theorem dX2_readSlot_34 : decode cX2_readSlot 34 = .ok (.getfield 9, 3) := by decide +kernel
theorem dX2_readSlot_37 : decode cX2_readSlot 37 = .ok (.getfield 89, 3) := by decide +kernel
theorem dX2_readSlot_40 : decode cX2_readSlot 40 = .ok (.aload_n 0, 1) := by decide +kernel
theorem dX2_readSlot_41 : decode cX2_readSlot 41 = .ok (.getfield 9, 3) := by decide +kernel
theorem dX2_readSlot_44 : decode cX2_readSlot 44 = .ok (.getfield 92, 3) := by decide +kernel
theorem dX2_readSlot_47 : decode cX2_readSlot 47 = .ok (.iload 4, 2) := by decide +kernel
theorem dX2_readSlot_49 : decode cX2_readSlot 49 = .ok (.invokevirtual 95, 3) := by decide +kernel
theorem dX2_readSlot_52 : decode cX2_readSlot 52 = .ok (.istore 5, 2) := by decide +kernel
theorem dX2_readSlot_54 : decode cX2_readSlot 54 = .ok (.iload 5, 2) := by decide +kernel
theorem dX2_readSlot_56 : decode cX2_readSlot 56 = .ok (.ifCond .eq 31, 3) := by decide +kernel
theorem dX2_readSlot_59 : decode cX2_readSlot 59 = .ok (.aload_n 0, 1) := by decide +kernel
theorem dX2_readSlot_60 : decode cX2_readSlot 60 = .ok (.iload_n 1, 1) := by decide +kernel
theorem dX2_readSlot_61 : decode cX2_readSlot 61 = .ok (.aload_n 0, 1) := by decide +kernel
theorem dX2_readSlot_62 : decode cX2_readSlot 62 = .ok (.getfield 9, 3) := by decide +kernel
theorem dX2_readSlot_65 : decode cX2_readSlot 65 = .ok (.getfield 89, 3) := by decide +kernel
theorem dX2_readSlot_68 : decode cX2_readSlot 68 = .ok (.iload 4, 2) := by decide +kernel
theorem dX2_readSlot_70 : decode cX2_readSlot 70 = .ok (.iaload, 1) := by decide +kernel
theorem dX2_readSlot_71 : decode cX2_readSlot 71 = .ok (.aload_n 0, 1) := by decide +kernel
theorem dX2_readSlot_72 : decode cX2_readSlot 72 = .ok (.getfield 9, 3) := by decide +kernel
theorem dX2_readSlot_75 : decode cX2_readSlot 75 = .ok (.getfield 92, 3) := by decide +kernel
theorem dX2_readSlot_78 : decode cX2_readSlot 78 = .ok (.iload 4, 2) := by decide +kernel
theorem dX2_readSlot_80 : decode cX2_readSlot 80 = .ok (.iaload, 1) := by decide +kernel
theorem dX2_readSlot_81 : decode cX2_readSlot 81 = .ok (.invokevirtual 29, 3) := by decide +kernel
theorem dX2_readSlot_84 : decode cX2_readSlot 84 = .ok (.goto 5, 3) := by decide +kernel
theorem dX2_readSlot_87 : decode cX2_readSlot 87 = .ok (.bipush 8, 2) := by decide +kernel
theorem dX2_readSlot_89 : decode cX2_readSlot 89 = .ok (.ireturn, 1) := by decide +kernel
theorem dX2_writeSlot_0 : decode cX2_writeSlot 0 = .ok (.aload_n 0, 1) := by decide +kernel
theorem dX2_writeSlot_1 : decode cX2_writeSlot 1 = .ok (.iload_n 1, 1) := by decide +kernel
theorem dX2_writeSlot_2 : decode cX2_writeSlot 2 = .ok (.invokevirtual 56, 3) := by decide +kernel
theorem dX2_writeSlot_5 : decode cX2_writeSlot 5 = .ok (.ifCond .ne 5, 3) := by decide +kernel
theorem dX2_writeSlot_8 : decode cX2_writeSlot 8 = .ok (.iconst 2, 1) := by decide +kernel
theorem dX2_writeSlot_9 : decode cX2_writeSlot 9 = .ok (.ireturn, 1) := by decide +kernel
theorem dX2_writeSlot_10 : decode cX2_writeSlot 10 = .ok (.aload_n 0, 1) := by decide +kernel
theorem dX2_writeSlot_11 : decode cX2_writeSlot 11 = .ok (.getfield 9, 3) := by decide +kernel
theorem dX2_writeSlot_14 : decode cX2_writeSlot 14 = .ok (.iload_n 1, 1) := by decide +kernel
theorem dX2_writeSlot_15 : decode cX2_writeSlot 15 = .ok (.iload_n 2, 1) := by decide +kernel
theorem dX2_writeSlot_16 : decode cX2_writeSlot 16 = .ok (.invokevirtual 86, 3) := by decide +kernel
theorem dX2_writeSlot_19 : decode cX2_writeSlot 19 = .ok (.istore 4, 2) := by decide +kernel
theorem dX2_writeSlot_21 : decode cX2_writeSlot 21 = .ok (.iload 4, 2) := by decide +kernel
theorem dX2_writeSlot_23 : decode cX2_writeSlot 23 = .ok (.iconst (-1), 1) := by decide +kernel
theorem dX2_writeSlot_24 : decode cX2_writeSlot 24 = .ok (.if_icmp .ne 5, 3) := by decide +kernel
theorem dX2_writeSlot_27 : decode cX2_writeSlot 27 = .ok (.iconst 3, 1) := by decide +kernel
theorem dX2_writeSlot_28 : decode cX2_writeSlot 28 = .ok (.ireturn, 1) := by decide +kernel
theorem dX2_writeSlot_29 : decode cX2_writeSlot 29 = .ok (.aload_n 0, 1) := by decide +kernel
theorem dX2_writeSlot_30 : decode cX2_writeSlot 30 = .ok (.getfield 9, 3) := by decide +kernel
theorem dX2_writeSlot_33 : decode cX2_writeSlot 33 = .ok (.aload_n 0, 1) := by decide +kernel
theorem dX2_writeSlot_34 : decode cX2_writeSlot 34 = .ok (.getfield 9, 3) := by decide +kernel
theorem dX2_writeSlot_37 : decode cX2_writeSlot 37 = .ok (.getfield 36, 3) := by decide +kernel
theorem dX2_writeSlot_40 : decode cX2_writeSlot 40 = .ok (.iload_n 1, 1) := by decide +kernel
theorem dX2_writeSlot_41 : decode cX2_writeSlot 41 = .ok (.iaload, 1) := by decide +kernel
theorem dX2_writeSlot_42 : decode cX2_writeSlot 42 = .ok (.invokevirtual 99, 3) := by decide +kernel
theorem dX2_writeSlot_45 : decode cX2_writeSlot 45 = .ok (.ifCond .ne 13, 3) := by decide +kernel
theorem dX2_writeSlot_48 : decode cX2_writeSlot 48 = .ok (.aload_n 0, 1) := by decide +kernel
theorem dX2_writeSlot_49 : decode cX2_writeSlot 49 = .ok (.iload_n 3, 1) := by decide +kernel
theorem dX2_writeSlot_50 : decode cX2_writeSlot 50 = .ok (.invokevirtual 42, 3) := by decide +kernel
theorem dX2_writeSlot_53 : decode cX2_writeSlot 53 = .ok (.ifCond .ne 5, 3) := by decide +kernel
theorem dX2_writeSlot_56 : decode cX2_writeSlot 56 = .ok (.iconst 5, 1) := by decide +kernel
theorem dX2_writeSlot_57 : decode cX2_writeSlot 57 = .ok (.ireturn, 1) := by decide +kernel
theorem dX2_writeSlot_58 : decode cX2_writeSlot 58 = .ok (.aload_n 0, 1) := by decide +kernel
theorem dX2_writeSlot_59 : decode cX2_writeSlot 59 = .ok (.getfield 9, 3) := by decide +kernel
theorem dX2_writeSlot_62 : decode cX2_writeSlot 62 = .ok (.getfield 89, 3) := by decide +kernel
theorem dX2_writeSlot_65 : decode cX2_writeSlot 65 = .ok (.iload 4, 2) := by decide +kernel
theorem dX2_writeSlot_67 : decode cX2_writeSlot 67 = .ok (.aload_n 0, 1) := by decide +kernel
theorem dX2_writeSlot_68 : decode cX2_writeSlot 68 = .ok (.getfield 9, 3) := by decide +kernel
theorem dX2_writeSlot_71 : decode cX2_writeSlot 71 = .ok (.getfield 33, 3) := by decide +kernel
theorem dX2_writeSlot_74 : decode cX2_writeSlot 74 = .ok (.iload_n 3, 1) := by decide +kernel
theorem dX2_writeSlot_75 : decode cX2_writeSlot 75 = .ok (.iaload, 1) := by decide +kernel
theorem dX2_writeSlot_76 : decode cX2_writeSlot 76 = .ok (.iastore, 1) := by decide +kernel
theorem dX2_writeSlot_77 : decode cX2_writeSlot 77 = .ok (.aload_n 0, 1) := by decide +kernel
theorem dX2_writeSlot_78 : decode cX2_writeSlot 78 = .ok (.getfield 9, 3) := by decide +kernel
theorem dX2_writeSlot_81 : decode cX2_writeSlot 81 = .ok (.getfield 92, 3) := by decide +kernel
theorem dX2_writeSlot_84 : decode cX2_writeSlot 84 = .ok (.iload 4, 2) := by decide +kernel
theorem dX2_writeSlot_86 : decode cX2_writeSlot 86 = .ok (.aload_n 0, 1) := by decide +kernel
theorem dX2_writeSlot_87 : decode cX2_writeSlot 87 = .ok (.getfield 9, 3) := by decide +kernel
theorem dX2_writeSlot_90 : decode cX2_writeSlot 90 = .ok (.getfield 36, 3) := by decide +kernel
theorem dX2_writeSlot_93 : decode cX2_writeSlot 93 = .ok (.iload_n 3, 1) := by decide +kernel
theorem dX2_writeSlot_94 : decode cX2_writeSlot 94 = .ok (.iaload, 1) := by decide +kernel
theorem dX2_writeSlot_95 : decode cX2_writeSlot 95 = .ok (.iastore, 1) := by decide +kernel
theorem dX2_writeSlot_96 : decode cX2_writeSlot 96 = .ok (.iconst 0, 1) := by decide +kernel
theorem dX2_writeSlot_97 : decode cX2_writeSlot 97 = .ok (.ireturn, 1) := by decide +kernel
theorem dX2_reckon_0 : decode cX2_reckon 0 = .ok (.getstatic 15, 3) := by decide +kernel
theorem dX2_reckon_3 : decode cX2_reckon 3 = .ok (.aload_n 1, 1) := by decide +kernel
theorem dX2_reckon_4 : decode cX2_reckon 4 = .ok (.invokevirtual 21, 3) := by decide +kernel
theorem dX2_reckon_7 : decode cX2_reckon 7 = .ok (.iaload, 1) := by decide +kernel
theorem dX2_reckon_8 : decode cX2_reckon 8 = .ok (.tableswitch 64 14 16 #[28, 40, 52], 28) := by decide +kernel
theorem dX2_reckon_36 : decode cX2_reckon 36 = .ok (.aload_n 0, 1) := by decide +kernel
theorem dX2_reckon_37 : decode cX2_reckon 37 = .ok (.iload_n 2, 1) := by decide +kernel
theorem dX2_reckon_38 : decode cX2_reckon 38 = .ok (.invokevirtual 46, 3) := by decide +kernel
theorem dX2_reckon_41 : decode cX2_reckon 41 = .ok (.aload_n 0, 1) := by decide +kernel
theorem dX2_reckon_42 : decode cX2_reckon 42 = .ok (.iload_n 3, 1) := by decide +kernel
theorem dX2_reckon_43 : decode cX2_reckon 43 = .ok (.invokevirtual 46, 3) := by decide +kernel
theorem dX2_reckon_46 : decode cX2_reckon 46 = .ok (.iadd, 1) := by decide +kernel
theorem dX2_reckon_47 : decode cX2_reckon 47 = .ok (.ireturn, 1) := by decide +kernel
theorem dX2_reckon_48 : decode cX2_reckon 48 = .ok (.aload_n 0, 1) := by decide +kernel
theorem dX2_reckon_49 : decode cX2_reckon 49 = .ok (.iload_n 2, 1) := by decide +kernel
theorem dX2_reckon_50 : decode cX2_reckon 50 = .ok (.invokevirtual 46, 3) := by decide +kernel
theorem dX2_reckon_53 : decode cX2_reckon 53 = .ok (.aload_n 0, 1) := by decide +kernel
theorem dX2_reckon_54 : decode cX2_reckon 54 = .ok (.iload_n 3, 1) := by decide +kernel
theorem dX2_reckon_55 : decode cX2_reckon 55 = .ok (.invokevirtual 46, 3) := by decide +kernel
theorem dX2_reckon_58 : decode cX2_reckon 58 = .ok (.isub, 1) := by decide +kernel
theorem dX2_reckon_59 : decode cX2_reckon 59 = .ok (.ireturn, 1) := by decide +kernel
theorem dX2_reckon_60 : decode cX2_reckon 60 = .ok (.aload_n 0, 1) := by decide +kernel
theorem dX2_reckon_61 : decode cX2_reckon 61 = .ok (.iload_n 2, 1) := by decide +kernel
theorem dX2_reckon_62 : decode cX2_reckon 62 = .ok (.invokevirtual 46, 3) := by decide +kernel
theorem dX2_reckon_65 : decode cX2_reckon 65 = .ok (.aload_n 0, 1) := by decide +kernel
theorem dX2_reckon_66 : decode cX2_reckon 66 = .ok (.iload_n 3, 1) := by decide +kernel
theorem dX2_reckon_67 : decode cX2_reckon 67 = .ok (.invokevirtual 46, 3) := by decide +kernel
theorem dX2_reckon_70 : decode cX2_reckon 70 = .ok (.imul, 1) := by decide +kernel
theorem dX2_reckon_71 : decode cX2_reckon 71 = .ok (.ireturn, 1) := by decide +kernel
theorem dX2_reckon_72 : decode cX2_reckon 72 = .ok (.aload_n 0, 1) := by decide +kernel
theorem dX2_reckon_73 : decode cX2_reckon 73 = .ok (.iload_n 2, 1) := by decide +kernel
theorem dX2_reckon_74 : decode cX2_reckon 74 = .ok (.invokevirtual 46, 3) := by decide +kernel
theorem dX2_reckon_77 : decode cX2_reckon 77 = .ok (.aload_n 0, 1) := by decide +kernel
theorem dX2_reckon_78 : decode cX2_reckon 78 = .ok (.iload_n 3, 1) := by decide +kernel
theorem dX2_reckon_79 : decode cX2_reckon 79 = .ok (.invokevirtual 46, 3) := by decide +kernel
theorem dX2_reckon_82 : decode cX2_reckon 82 = .ok (.if_icmp .ge 7, 3) := by decide +kernel
theorem dX2_reckon_85 : decode cX2_reckon 85 = .ok (.iconst 1, 1) := by decide +kernel
theorem dX2_reckon_86 : decode cX2_reckon 86 = .ok (.goto 4, 3) := by decide +kernel
theorem dX2_reckon_89 : decode cX2_reckon 89 = .ok (.iconst 0, 1) := by decide +kernel
theorem dX2_reckon_90 : decode cX2_reckon 90 = .ok (.ireturn, 1) := by decide +kernel
theorem dX2_haveSame_0 : decode cX2_haveSame 0 = .ok (.aload_n 0, 1) := by decide +kernel
theorem dX2_haveSame_1 : decode cX2_haveSame 1 = .ok (.getfield 9, 3) := by decide +kernel
theorem dX2_haveSame_4 : decode cX2_haveSame 4 = .ok (.getfield 33, 3) := by decide +kernel
theorem dX2_haveSame_7 : decode cX2_haveSame 7 = .ok (.iload_n 1, 1) := by decide +kernel
theorem dX2_haveSame_8 : decode cX2_haveSame 8 = .ok (.iaload, 1) := by decide +kernel
theorem dX2_haveSame_9 : decode cX2_haveSame 9 = .ok (.aload_n 0, 1) := by decide +kernel
theorem dX2_haveSame_10 : decode cX2_haveSame 10 = .ok (.getfield 9, 3) := by decide +kernel
theorem dX2_haveSame_13 : decode cX2_haveSame 13 = .ok (.getfield 33, 3) := by decide +kernel
theorem dX2_haveSame_16 : decode cX2_haveSame 16 = .ok (.iload_n 2, 1) := by decide +kernel
theorem dX2_haveSame_17 : decode cX2_haveSame 17 = .ok (.iaload, 1) := by decide +kernel
theorem dX2_haveSame_18 : decode cX2_haveSame 18 = .ok (.if_icmp .ne 28, 3) := by decide +kernel
theorem dX2_haveSame_21 : decode cX2_haveSame 21 = .ok (.aload_n 0, 1) := by decide +kernel
theorem dX2_haveSame_22 : decode cX2_haveSame 22 = .ok (.getfield 9, 3) := by decide +kernel
theorem dX2_haveSame_25 : decode cX2_haveSame 25 = .ok (.getfield 36, 3) := by decide +kernel
theorem dX2_haveSame_28 : decode cX2_haveSame 28 = .ok (.iload_n 1, 1) := by decide +kernel
theorem dX2_haveSame_29 : decode cX2_haveSame 29 = .ok (.iaload, 1) := by decide +kernel
theorem dX2_haveSame_30 : decode cX2_haveSame 30 = .ok (.aload_n 0, 1) := by decide +kernel
theorem dX2_haveSame_31 : decode cX2_haveSame 31 = .ok (.getfield 9, 3) := by decide +kernel
theorem dX2_haveSame_34 : decode cX2_haveSame 34 = .ok (.getfield 36, 3) := by decide +kernel
theorem dX2_haveSame_37 : decode cX2_haveSame 37 = .ok (.iload_n 2, 1) := by decide +kernel
theorem dX2_haveSame_38 : decode cX2_haveSame 38 = .ok (.iaload, 1) := by decide +kernel
theorem dX2_haveSame_39 : decode cX2_haveSame 39 = .ok (.if_icmp .ne 7, 3) := by decide +kernel
theorem dX2_haveSame_42 : decode cX2_haveSame 42 = .ok (.iconst 1, 1) := by decide +kernel
theorem dX2_haveSame_43 : decode cX2_haveSame 43 = .ok (.goto 4, 3) := by decide +kernel
theorem dX2_haveSame_46 : decode cX2_haveSame 46 = .ok (.iconst 0, 1) := by decide +kernel
theorem dX2_haveSame_47 : decode cX2_haveSame 47 = .ok (.ireturn, 1) := by decide +kernel
theorem dX2_pushHand_0 : decode cX2_pushHand 0 = .ok (.aload_n 0, 1) := by decide +kernel
theorem dX2_pushHand_1 : decode cX2_pushHand 1 = .ok (.getfield 9, 3) := by decide +kernel
theorem dX2_pushHand_4 : decode cX2_pushHand 4 = .ok (.getfield 102, 3) := by decide +kernel
theorem dX2_pushHand_7 : decode cX2_pushHand 7 = .ok (.bipush 50, 2) := by decide +kernel
theorem dX2_pushHand_9 : decode cX2_pushHand 9 = .ok (.if_icmp .lt 6, 3) := by decide +kernel
theorem dX2_pushHand_12 : decode cX2_pushHand 12 = .ok (.bipush 6, 2) := by decide +kernel
theorem dX2_pushHand_14 : decode cX2_pushHand 14 = .ok (.ireturn, 1) := by decide +kernel
theorem dX2_pushHand_15 : decode cX2_pushHand 15 = .ok (.aload_n 0, 1) := by decide +kernel
theorem dX2_pushHand_16 : decode cX2_pushHand 16 = .ok (.getfield 9, 3) := by decide +kernel
theorem dX2_pushHand_19 : decode cX2_pushHand 19 = .ok (.dup, 1) := by decide +kernel
theorem dX2_pushHand_20 : decode cX2_pushHand 20 = .ok (.getfield 102, 3) := by decide +kernel
theorem dX2_pushHand_23 : decode cX2_pushHand 23 = .ok (.iconst 1, 1) := by decide +kernel
theorem dX2_pushHand_24 : decode cX2_pushHand 24 = .ok (.iadd, 1) := by decide +kernel
theorem dX2_pushHand_25 : decode cX2_pushHand 25 = .ok (.putfield 102, 3) := by decide +kernel
theorem dX2_pushHand_28 : decode cX2_pushHand 28 = .ok (.aload_n 0, 1) := by decide +kernel
theorem dX2_pushHand_29 : decode cX2_pushHand 29 = .ok (.aload_n 0, 1) := by decide +kernel
theorem dX2_pushHand_30 : decode cX2_pushHand 30 = .ok (.getfield 9, 3) := by decide +kernel
theorem dX2_pushHand_33 : decode cX2_pushHand 33 = .ok (.invokevirtual 106, 3) := by decide +kernel
theorem dX2_pushHand_36 : decode cX2_pushHand 36 = .ok (.iconst 1, 1) := by decide +kernel
theorem dX2_pushHand_37 : decode cX2_pushHand 37 = .ok (.isub, 1) := by decide +kernel
theorem dX2_pushHand_38 : decode cX2_pushHand 38 = .ok (.aload_n 0, 1) := by decide +kernel
theorem dX2_pushHand_39 : decode cX2_pushHand 39 = .ok (.getfield 9, 3) := by decide +kernel
theorem dX2_pushHand_42 : decode cX2_pushHand 42 = .ok (.getfield 33, 3) := by decide +kernel
theorem dX2_pushHand_45 : decode cX2_pushHand 45 = .ok (.iload_n 1, 1) := by decide +kernel
theorem dX2_pushHand_46 : decode cX2_pushHand 46 = .ok (.iaload, 1) := by decide +kernel
theorem dX2_pushHand_47 : decode cX2_pushHand 47 = .ok (.aload_n 0, 1) := by decide +kernel
theorem dX2_pushHand_48 : decode cX2_pushHand 48 = .ok (.getfield 9, 3) := by decide +kernel
theorem dX2_pushHand_51 : decode cX2_pushHand 51 = .ok (.getfield 36, 3) := by decide +kernel
theorem dX2_pushHand_54 : decode cX2_pushHand 54 = .ok (.iload_n 1, 1) := by decide +kernel
theorem dX2_pushHand_55 : decode cX2_pushHand 55 = .ok (.iaload, 1) := by decide +kernel
theorem dX2_pushHand_56 : decode cX2_pushHand 56 = .ok (.invokevirtual 29, 3) := by decide +kernel
theorem dX2_pushHand_59 : decode cX2_pushHand 59 = .ok (.ireturn, 1) := by decide +kernel
theorem dX2_popHand_0 : decode cX2_popHand 0 = .ok (.aload_n 0, 1) := by decide +kernel
theorem dX2_popHand_1 : decode cX2_popHand 1 = .ok (.getfield 9, 3) := by decide +kernel
theorem dX2_popHand_4 : decode cX2_popHand 4 = .ok (.getfield 102, 3) := by decide +kernel
theorem dX2_popHand_7 : decode cX2_popHand 7 = .ok (.ifCond .gt 6, 3) := by decide +kernel
theorem dX2_popHand_10 : decode cX2_popHand 10 = .ok (.bipush 6, 2) := by decide +kernel
theorem dX2_popHand_12 : decode cX2_popHand 12 = .ok (.ireturn, 1) := by decide +kernel
theorem dX2_popHand_13 : decode cX2_popHand 13 = .ok (.aload_n 0, 1) := by decide +kernel
theorem dX2_popHand_14 : decode cX2_popHand 14 = .ok (.getfield 9, 3) := by decide +kernel
theorem dX2_popHand_17 : decode cX2_popHand 17 = .ok (.invokevirtual 106, 3) := by decide +kernel
theorem dX2_popHand_20 : decode cX2_popHand 20 = .ok (.iconst 1, 1) := by decide +kernel
theorem dX2_popHand_21 : decode cX2_popHand 21 = .ok (.isub, 1) := by decide +kernel
theorem dX2_popHand_22 : decode cX2_popHand 22 = .ok (.istore_n 2, 1) := by decide +kernel
theorem dX2_popHand_23 : decode cX2_popHand 23 = .ok (.aload_n 0, 1) := by decide +kernel
theorem dX2_popHand_24 : decode cX2_popHand 24 = .ok (.getfield 9, 3) := by decide +kernel
theorem dX2_popHand_27 : decode cX2_popHand 27 = .ok (.dup, 1) := by decide +kernel
theorem dX2_popHand_28 : decode cX2_popHand 28 = .ok (.getfield 102, 3) := by decide +kernel
theorem dX2_popHand_31 : decode cX2_popHand 31 = .ok (.iconst 1, 1) := by decide +kernel
theorem dX2_popHand_32 : decode cX2_popHand 32 = .ok (.isub, 1) := by decide +kernel
theorem dX2_popHand_33 : decode cX2_popHand 33 = .ok (.putfield 102, 3) := by decide +kernel
theorem dX2_popHand_36 : decode cX2_popHand 36 = .ok (.aload_n 0, 1) := by decide +kernel
theorem dX2_popHand_37 : decode cX2_popHand 37 = .ok (.iload_n 1, 1) := by decide +kernel
theorem dX2_popHand_38 : decode cX2_popHand 38 = .ok (.aload_n 0, 1) := by decide +kernel
theorem dX2_popHand_39 : decode cX2_popHand 39 = .ok (.getfield 9, 3) := by decide +kernel
theorem dX2_popHand_42 : decode cX2_popHand 42 = .ok (.getfield 33, 3) := by decide +kernel
theorem dX2_popHand_45 : decode cX2_popHand 45 = .ok (.iload_n 2, 1) := by decide +kernel
theorem dX2_popHand_46 : decode cX2_popHand 46 = .ok (.iaload, 1) := by decide +kernel
theorem dX2_popHand_47 : decode cX2_popHand 47 = .ok (.aload_n 0, 1) := by decide +kernel
theorem dX2_popHand_48 : decode cX2_popHand 48 = .ok (.getfield 9, 3) := by decide +kernel
theorem dX2_popHand_51 : decode cX2_popHand 51 = .ok (.getfield 36, 3) := by decide +kernel
theorem dX2_popHand_54 : decode cX2_popHand 54 = .ok (.iload_n 2, 1) := by decide +kernel
theorem dX2_popHand_55 : decode cX2_popHand 55 = .ok (.iaload, 1) := by decide +kernel
theorem dX2_popHand_56 : decode cX2_popHand 56 = .ok (.invokevirtual 29, 3) := by decide +kernel
theorem dX2_popHand_59 : decode cX2_popHand 59 = .ok (.ireturn, 1) := by decide +kernel
theorem dX3_init_0 : decode cX3_init 0 = .ok (.aload_n 0, 1) := by decide +kernel
theorem dX3_init_1 : decode cX3_init 1 = .ok (.invokespecial 3, 3) := by decide +kernel
theorem dX3_init_4 : decode cX3_init 4 = .ok (.aload_n 0, 1) := by decide +kernel
theorem dX3_init_5 : decode cX3_init 5 = .ok (.bipush 58, 2) := by decide +kernel
theorem dX3_init_7 : decode cX3_init 7 = .ok (.newarray .int, 2) := by decide +kernel
theorem dX3_init_9 : decode cX3_init 9 = .ok (.putfield 9, 3) := by decide +kernel
theorem dX3_init_12 : decode cX3_init 12 = .ok (.aload_n 0, 1) := by decide +kernel
theorem dX3_init_13 : decode cX3_init 13 = .ok (.bipush 58, 2) := by decide +kernel
theorem dX3_init_15 : decode cX3_init 15 = .ok (.newarray .int, 2) := by decide +kernel
theorem dX3_init_17 : decode cX3_init 17 = .ok (.putfield 15, 3) := by decide +kernel
theorem dX3_init_20 : decode cX3_init 20 = .ok (.aload_n 0, 1) := by decide +kernel
theorem dX3_init_21 : decode cX3_init 21 = .ok (.bipush 13, 2) := by decide +kernel
theorem dX3_init_23 : decode cX3_init 23 = .ok (.newarray .int, 2) := by decide +kernel
theorem dX3_init_25 : decode cX3_init 25 = .ok (.putfield 18, 3) := by decide +kernel
theorem dX3_init_28 : decode cX3_init 28 = .ok (.aload_n 0, 1) := by decide +kernel
theorem dX3_init_29 : decode cX3_init 29 = .ok (.iload_n 1, 1) := by decide +kernel
theorem dX3_init_30 : decode cX3_init 30 = .ok (.putfield 21, 3) := by decide +kernel
theorem dX3_init_33 : decode cX3_init 33 = .ok (.aload_n 0, 1) := by decide +kernel
theorem dX3_init_34 : decode cX3_init 34 = .ok (.iload_n 2, 1) := by decide +kernel
theorem dX3_init_35 : decode cX3_init 35 = .ok (.putfield 25, 3) := by decide +kernel
theorem dX3_init_38 : decode cX3_init 38 = .ok (.aload_n 0, 1) := by decide +kernel
theorem dX3_init_39 : decode cX3_init 39 = .ok (.iconst 2, 1) := by decide +kernel
theorem dX3_init_40 : decode cX3_init 40 = .ok (.iload_n 1, 1) := by decide +kernel
theorem dX3_init_41 : decode cX3_init 41 = .ok (.imul, 1) := by decide +kernel
theorem dX3_init_42 : decode cX3_init 42 = .ok (.newarray .int, 2) := by decide +kernel
theorem dX3_init_44 : decode cX3_init 44 = .ok (.putfield 28, 3) := by decide +kernel
theorem dX3_init_47 : decode cX3_init 47 = .ok (.aload_n 0, 1) := by decide +kernel
theorem dX3_init_48 : decode cX3_init 48 = .ok (.iconst 2, 1) := by decide +kernel
theorem dX3_init_49 : decode cX3_init 49 = .ok (.iload_n 1, 1) := by decide +kernel
theorem dX3_init_50 : decode cX3_init 50 = .ok (.imul, 1) := by decide +kernel
theorem dX3_init_51 : decode cX3_init 51 = .ok (.newarray .int, 2) := by decide +kernel
theorem dX3_init_53 : decode cX3_init 53 = .ok (.putfield 31, 3) := by decide +kernel
theorem dX3_init_56 : decode cX3_init 56 = .ok (.aload_n 0, 1) := by decide +kernel
theorem dX3_init_57 : decode cX3_init 57 = .ok (.iload_n 1, 1) := by decide +kernel
theorem dX3_init_58 : decode cX3_init 58 = .ok (.putfield 34, 3) := by decide +kernel
theorem dX3_init_61 : decode cX3_init 61 = .ok (.return_, 1) := by decide +kernel
theorem dX3_count_0 : decode cX3_count 0 = .ok (.iload_n 1, 1) := by decide +kernel
theorem dX3_count_1 : decode cX3_count 1 = .ok (.iconst 4, 1) := by decide +kernel
theorem dX3_count_2 : decode cX3_count 2 = .ok (.if_icmp .lt 18, 3) := by decide +kernel
theorem dX3_count_5 : decode cX3_count 5 = .ok (.iload_n 1, 1) := by decide +kernel
theorem dX3_count_6 : decode cX3_count 6 = .ok (.bipush 13, 2) := by decide +kernel
theorem dX3_count_8 : decode cX3_count 8 = .ok (.if_icmp .ge 12, 3) := by decide +kernel
theorem dX3_count_11 : decode cX3_count 11 = .ok (.aload_n 0, 1) := by decide +kernel
theorem dX3_count_12 : decode cX3_count 12 = .ok (.getfield 18, 3) := by decide +kernel
theorem dX3_count_15 : decode cX3_count 15 = .ok (.iload_n 1, 1) := by decide +kernel
theorem dX3_count_16 : decode cX3_count 16 = .ok (.iaload, 1) := by decide +kernel
theorem dX3_count_17 : decode cX3_count 17 = .ok (.goto 4, 3) := by decide +kernel
theorem dX3_count_20 : decode cX3_count 20 = .ok (.iconst (-1), 1) := by decide +kernel
theorem dX3_count_21 : decode cX3_count 21 = .ok (.ireturn, 1) := by decide +kernel
theorem dX3_roots_0 : decode cX3_roots 0 = .ok (.bipush 8, 2) := by decide +kernel
theorem dX3_roots_2 : decode cX3_roots 2 = .ok (.aload_n 0, 1) := by decide +kernel
theorem dX3_roots_3 : decode cX3_roots 3 = .ok (.getfield 37, 3) := by decide +kernel
theorem dX3_roots_6 : decode cX3_roots 6 = .ok (.iadd, 1) := by decide +kernel
theorem dX3_roots_7 : decode cX3_roots 7 = .ok (.ireturn, 1) := by decide +kernel
theorem dX3_home_0 : decode cX3_home 0 = .ok (.aload_n 0, 1) := by decide +kernel
theorem dX3_home_1 : decode cX3_home 1 = .ok (.getfield 28, 3) := by decide +kernel
theorem dX3_home_4 : decode cX3_home 4 = .ok (.iload_n 1, 1) := by decide +kernel
theorem dX3_home_5 : decode cX3_home 5 = .ok (.iaload, 1) := by decide +kernel
theorem dX3_home_6 : decode cX3_home 6 = .ok (.bipush 6, 2) := by decide +kernel
theorem dX3_home_8 : decode cX3_home 8 = .ok (.if_icmp .ne 12, 3) := by decide +kernel
theorem dX3_home_11 : decode cX3_home 11 = .ok (.aload_n 0, 1) := by decide +kernel
theorem dX3_home_12 : decode cX3_home 12 = .ok (.getfield 31, 3) := by decide +kernel
theorem dX3_home_15 : decode cX3_home 15 = .ok (.iload_n 1, 1) := by decide +kernel
theorem dX3_home_16 : decode cX3_home 16 = .ok (.iaload, 1) := by decide +kernel
theorem dX3_home_17 : decode cX3_home 17 = .ok (.goto 4, 3) := by decide +kernel
theorem dX3_home_20 : decode cX3_home 20 = .ok (.iload_n 1, 1) := by decide +kernel
theorem dX3_home_21 : decode cX3_home 21 = .ok (.ireturn, 1) := by decide +kernel
theorem dX3_slotsOf_0 : decode cX3_slotsOf 0 = .ok (.aload_n 0, 1) := by decide +kernel
theorem dX3_slotsOf_1 : decode cX3_slotsOf 1 = .ok (.getfield 31, 3) := by decide +kernel
theorem dX3_slotsOf_4 : decode cX3_slotsOf 4 = .ok (.aload_n 0, 1) := by decide +kernel
theorem dX3_slotsOf_5 : decode cX3_slotsOf 5 = .ok (.iload_n 1, 1) := by decide +kernel
theorem dX3_slotsOf_6 : decode cX3_slotsOf 6 = .ok (.invokevirtual 40, 3) := by decide +kernel
theorem dX3_slotsOf_9 : decode cX3_slotsOf 9 = .ok (.iaload, 1) := by decide +kernel
theorem dX3_slotsOf_10 : decode cX3_slotsOf 10 = .ok (.ireturn, 1) := by decide +kernel
theorem dX3_isRow_0 : decode cX3_isRow 0 = .ok (.aload_n 0, 1) := by decide +kernel
theorem dX3_isRow_1 : decode cX3_isRow 1 = .ok (.getfield 28, 3) := by decide +kernel
theorem dX3_isRow_4 : decode cX3_isRow 4 = .ok (.aload_n 0, 1) := by decide +kernel
theorem dX3_isRow_5 : decode cX3_isRow 5 = .ok (.iload_n 1, 1) := by decide +kernel
theorem dX3_isRow_6 : decode cX3_isRow 6 = .ok (.invokevirtual 40, 3) := by decide +kernel
theorem dX3_isRow_9 : decode cX3_isRow 9 = .ok (.iaload, 1) := by decide +kernel
theorem dX3_isRow_10 : decode cX3_isRow 10 = .ok (.iconst 3, 1) := by decide +kernel
theorem dX3_isRow_11 : decode cX3_isRow 11 = .ok (.if_icmp .ne 7, 3) := by decide +kernel
theorem dX3_isRow_14 : decode cX3_isRow 14 = .ok (.iconst 1, 1) := by decide +kernel
theorem dX3_isRow_15 : decode cX3_isRow 15 = .ok (.goto 4, 3) := by decide +kernel
theorem dX3_isRow_18 : decode cX3_isRow 18 = .ok (.iconst 0, 1) := by decide +kernel
theorem dX3_isRow_19 : decode cX3_isRow 19 = .ok (.ireturn, 1) := by decide +kernel
theorem dX3_halfOf_0 : decode cX3_halfOf 0 = .ok (.iload_n 1, 1) := by decide +kernel
theorem dX3_halfOf_1 : decode cX3_halfOf 1 = .ok (.aload_n 0, 1) := by decide +kernel
theorem dX3_halfOf_2 : decode cX3_halfOf 2 = .ok (.getfield 21, 3) := by decide +kernel
theorem dX3_halfOf_5 : decode cX3_halfOf 5 = .ok (.if_icmp .ge 7, 3) := by decide +kernel
theorem dX3_halfOf_8 : decode cX3_halfOf 8 = .ok (.iconst 0, 1) := by decide +kernel
theorem dX3_halfOf_9 : decode cX3_halfOf 9 = .ok (.goto 4, 3) := by decide +kernel
theorem dX3_halfOf_12 : decode cX3_halfOf 12 = .ok (.iconst 1, 1) := by decide +kernel
theorem dX3_halfOf_13 : decode cX3_halfOf 13 = .ok (.ireturn, 1) := by decide +kernel
theorem dX3_slotOf_0 : decode cX3_slotOf 0 = .ok (.aload_n 0, 1) := by decide +kernel
theorem dX3_slotOf_1 : decode cX3_slotOf 1 = .ok (.getfield 9, 3) := by decide +kernel
theorem dX3_slotOf_4 : decode cX3_slotOf 4 = .ok (.iload_n 1, 1) := by decide +kernel
theorem dX3_slotOf_5 : decode cX3_slotOf 5 = .ok (.iaload, 1) := by decide +kernel
theorem dX3_slotOf_6 : decode cX3_slotOf 6 = .ok (.iconst 2, 1) := by decide +kernel
theorem dX3_slotOf_7 : decode cX3_slotOf 7 = .ok (.if_icmp .ne 21, 3) := by decide +kernel
theorem dX3_slotOf_10 : decode cX3_slotOf 10 = .ok (.iload_n 2, 1) := by decide +kernel
theorem dX3_slotOf_11 : decode cX3_slotOf 11 = .ok (.ifCond .lt 17, 3) := by decide +kernel
theorem dX3_slotOf_14 : decode cX3_slotOf 14 = .ok (.iload_n 2, 1) := by decide +kernel
theorem dX3_slotOf_15 : decode cX3_slotOf 15 = .ok (.aload_n 0, 1) := by decide +kernel
theorem dX3_slotOf_16 : decode cX3_slotOf 16 = .ok (.aload_n 0, 1) := by decide +kernel
theorem dX3_slotOf_17 : decode cX3_slotOf 17 = .ok (.getfield 15, 3) := by decide +kernel
theorem dX3_slotOf_20 : decode cX3_slotOf 20 = .ok (.iload_n 1, 1) := by decide +kernel
theorem dX3_slotOf_21 : decode cX3_slotOf 21 = .ok (.iaload, 1) := by decide +kernel
theorem dX3_slotOf_22 : decode cX3_slotOf 22 = .ok (.invokevirtual 44, 3) := by decide +kernel
theorem dX3_slotOf_25 : decode cX3_slotOf 25 = .ok (.if_icmp .lt 5, 3) := by decide +kernel
theorem dX3_slotOf_28 : decode cX3_slotOf 28 = .ok (.iconst (-1), 1) := by decide +kernel
theorem dX3_slotOf_29 : decode cX3_slotOf 29 = .ok (.ireturn, 1) := by decide +kernel
theorem dX3_slotOf_30 : decode cX3_slotOf 30 = .ok (.aload_n 0, 1) := by decide +kernel
theorem dX3_slotOf_31 : decode cX3_slotOf 31 = .ok (.aload_n 0, 1) := by decide +kernel
theorem dX3_slotOf_32 : decode cX3_slotOf 32 = .ok (.getfield 15, 3) := by decide +kernel
theorem dX3_slotOf_35 : decode cX3_slotOf 35 = .ok (.iload_n 1, 1) := by decide +kernel
theorem dX3_slotOf_36 : decode cX3_slotOf 36 = .ok (.iaload, 1) := by decide +kernel
theorem dX3_slotOf_37 : decode cX3_slotOf 37 = .ok (.invokevirtual 40, 3) := by decide +kernel
theorem dX3_slotOf_40 : decode cX3_slotOf 40 = .ok (.iconst 2, 1) := by decide +kernel
theorem dX3_slotOf_41 : decode cX3_slotOf 41 = .ok (.iadd, 1) := by decide +kernel
theorem dX3_slotOf_42 : decode cX3_slotOf 42 = .ok (.iload_n 2, 1) := by decide +kernel
theorem dX3_slotOf_43 : decode cX3_slotOf 43 = .ok (.iadd, 1) := by decide +kernel
theorem dX3_slotOf_44 : decode cX3_slotOf 44 = .ok (.ireturn, 1) := by decide +kernel
theorem dX3_aboutRoot_0 : decode cX3_aboutRoot 0 = .ok (.iload_n 2, 1) := by decide +kernel
theorem dX3_aboutRoot_1 : decode cX3_aboutRoot 1 = .ok (.iconst 2, 1) := by decide +kernel
theorem dX3_aboutRoot_2 : decode cX3_aboutRoot 2 = .ok (.if_icmp .ne 42, 3) := by decide +kernel
theorem dX3_aboutRoot_5 : decode cX3_aboutRoot 5 = .ok (.aload_n 0, 1) := by decide +kernel
theorem dX3_aboutRoot_6 : decode cX3_aboutRoot 6 = .ok (.getfield 9, 3) := by decide +kernel
theorem dX3_aboutRoot_9 : decode cX3_aboutRoot 9 = .ok (.iload_n 1, 1) := by decide +kernel
theorem dX3_aboutRoot_10 : decode cX3_aboutRoot 10 = .ok (.iaload, 1) := by decide +kernel
theorem dX3_aboutRoot_11 : decode cX3_aboutRoot 11 = .ok (.iconst 2, 1) := by decide +kernel
theorem dX3_aboutRoot_12 : decode cX3_aboutRoot 12 = .ok (.if_icmp .ne 7, 3) := by decide +kernel
theorem dX3_aboutRoot_15 : decode cX3_aboutRoot 15 = .ok (.iconst 1, 1) := by decide +kernel
theorem dX3_aboutRoot_16 : decode cX3_aboutRoot 16 = .ok (.goto 4, 3) := by decide +kernel
theorem dX3_aboutRoot_19 : decode cX3_aboutRoot 19 = .ok (.iconst 0, 1) := by decide +kernel
theorem dX3_aboutRoot_20 : decode cX3_aboutRoot 20 = .ok (.istore_n 3, 1) := by decide +kernel
theorem dX3_aboutRoot_21 : decode cX3_aboutRoot 21 = .ok (.iload_n 3, 1) := by decide +kernel
theorem dX3_aboutRoot_22 : decode cX3_aboutRoot 22 = .ok (.ifCond .eq 20, 3) := by decide +kernel
theorem dX3_aboutRoot_25 : decode cX3_aboutRoot 25 = .ok (.aload_n 0, 1) := by decide +kernel
theorem dX3_aboutRoot_26 : decode cX3_aboutRoot 26 = .ok (.aload_n 0, 1) := by decide +kernel
theorem dX3_aboutRoot_27 : decode cX3_aboutRoot 27 = .ok (.aload_n 0, 1) := by decide +kernel
theorem dX3_aboutRoot_28 : decode cX3_aboutRoot 28 = .ok (.getfield 15, 3) := by decide +kernel
theorem dX3_aboutRoot_31 : decode cX3_aboutRoot 31 = .ok (.iload_n 1, 1) := by decide +kernel
theorem dX3_aboutRoot_32 : decode cX3_aboutRoot 32 = .ok (.iaload, 1) := by decide +kernel
theorem dX3_aboutRoot_33 : decode cX3_aboutRoot 33 = .ok (.invokevirtual 40, 3) := by decide +kernel
theorem dX3_aboutRoot_36 : decode cX3_aboutRoot 36 = .ok (.invokevirtual 47, 3) := by decide +kernel
theorem dX3_aboutRoot_39 : decode cX3_aboutRoot 39 = .ok (.goto 4, 3) := by decide +kernel
theorem dX3_aboutRoot_42 : decode cX3_aboutRoot 42 = .ok (.iconst (-1), 1) := by decide +kernel
theorem dX3_aboutRoot_43 : decode cX3_aboutRoot 43 = .ok (.ireturn, 1) := by decide +kernel
theorem dX3_aboutRoot_44 : decode cX3_aboutRoot 44 = .ok (.aload_n 0, 1) := by decide +kernel
theorem dX3_aboutRoot_45 : decode cX3_aboutRoot 45 = .ok (.aload_n 0, 1) := by decide +kernel
theorem dX3_aboutRoot_46 : decode cX3_aboutRoot 46 = .ok (.getfield 9, 3) := by decide +kernel
theorem dX3_aboutRoot_49 : decode cX3_aboutRoot 49 = .ok (.iload_n 1, 1) := by decide +kernel
theorem dX3_aboutRoot_50 : decode cX3_aboutRoot 50 = .ok (.iaload, 1) := by decide +kernel
theorem dX3_aboutRoot_51 : decode cX3_aboutRoot 51 = .ok (.aload_n 0, 1) := by decide +kernel
theorem dX3_aboutRoot_52 : decode cX3_aboutRoot 52 = .ok (.getfield 15, 3) := by decide +kernel
theorem dX3_aboutRoot_55 : decode cX3_aboutRoot 55 = .ok (.iload_n 1, 1) := by decide +kernel
theorem dX3_aboutRoot_56 : decode cX3_aboutRoot 56 = .ok (.iaload, 1) := by decide +kernel
theorem dX3_aboutRoot_57 : decode cX3_aboutRoot 57 = .ok (.iload_n 2, 1) := by decide +kernel
theorem dX3_aboutRoot_58 : decode cX3_aboutRoot 58 = .ok (.invokevirtual 50, 3) := by decide +kernel
theorem dX3_aboutRoot_61 : decode cX3_aboutRoot 61 = .ok (.ireturn, 1) := by decide +kernel
theorem dX3_aboutSlot_0 : decode cX3_aboutSlot 0 = .ok (.iload_n 2, 1) := by decide +kernel
theorem dX3_aboutSlot_1 : decode cX3_aboutSlot 1 = .ok (.iconst 2, 1) := by decide +kernel
theorem dX3_aboutSlot_2 : decode cX3_aboutSlot 2 = .ok (.if_icmp .ne 32, 3) := by decide +kernel
theorem dX3_aboutSlot_5 : decode cX3_aboutSlot 5 = .ok (.aload_n 0, 1) := by decide +kernel
theorem dX3_aboutSlot_6 : decode cX3_aboutSlot 6 = .ok (.getfield 28, 3) := by decide +kernel
theorem dX3_aboutSlot_9 : decode cX3_aboutSlot 9 = .ok (.iload_n 1, 1) := by decide +kernel
theorem dX3_aboutSlot_10 : decode cX3_aboutSlot 10 = .ok (.iaload, 1) := by decide +kernel
theorem dX3_aboutSlot_11 : decode cX3_aboutSlot 11 = .ok (.iconst 2, 1) := by decide +kernel
theorem dX3_aboutSlot_12 : decode cX3_aboutSlot 12 = .ok (.if_icmp .ne 20, 3) := by decide +kernel
theorem dX3_aboutSlot_15 : decode cX3_aboutSlot 15 = .ok (.aload_n 0, 1) := by decide +kernel
theorem dX3_aboutSlot_16 : decode cX3_aboutSlot 16 = .ok (.aload_n 0, 1) := by decide +kernel
theorem dX3_aboutSlot_17 : decode cX3_aboutSlot 17 = .ok (.aload_n 0, 1) := by decide +kernel
theorem dX3_aboutSlot_18 : decode cX3_aboutSlot 18 = .ok (.getfield 31, 3) := by decide +kernel
theorem dX3_aboutSlot_21 : decode cX3_aboutSlot 21 = .ok (.iload_n 1, 1) := by decide +kernel
theorem dX3_aboutSlot_22 : decode cX3_aboutSlot 22 = .ok (.iaload, 1) := by decide +kernel
theorem dX3_aboutSlot_23 : decode cX3_aboutSlot 23 = .ok (.invokevirtual 40, 3) := by decide +kernel
theorem dX3_aboutSlot_26 : decode cX3_aboutSlot 26 = .ok (.invokevirtual 54, 3) := by decide +kernel
theorem dX3_aboutSlot_29 : decode cX3_aboutSlot 29 = .ok (.goto 4, 3) := by decide +kernel
theorem dX3_aboutSlot_32 : decode cX3_aboutSlot 32 = .ok (.iconst (-1), 1) := by decide +kernel
theorem dX3_aboutSlot_33 : decode cX3_aboutSlot 33 = .ok (.ireturn, 1) := by decide +kernel
theorem dX3_aboutSlot_34 : decode cX3_aboutSlot 34 = .ok (.aload_n 0, 1) := by decide +kernel
theorem dX3_aboutSlot_35 : decode cX3_aboutSlot 35 = .ok (.aload_n 0, 1) := by decide +kernel
theorem dX3_aboutSlot_36 : decode cX3_aboutSlot 36 = .ok (.getfield 28, 3) := by decide +kernel
theorem dX3_aboutSlot_39 : decode cX3_aboutSlot 39 = .ok (.iload_n 1, 1) := by decide +kernel
theorem dX3_aboutSlot_40 : decode cX3_aboutSlot 40 = .ok (.iaload, 1) := by decide +kernel
theorem dX3_aboutSlot_41 : decode cX3_aboutSlot 41 = .ok (.aload_n 0, 1) := by decide +kernel
theorem dX3_aboutSlot_42 : decode cX3_aboutSlot 42 = .ok (.getfield 31, 3) := by decide +kernel
theorem dX3_aboutSlot_45 : decode cX3_aboutSlot 45 = .ok (.iload_n 1, 1) := by decide +kernel
theorem dX3_aboutSlot_46 : decode cX3_aboutSlot 46 = .ok (.iaload, 1) := by decide +kernel
theorem dX3_aboutSlot_47 : decode cX3_aboutSlot 47 = .ok (.iload_n 2, 1) := by decide +kernel
theorem dX3_aboutSlot_48 : decode cX3_aboutSlot 48 = .ok (.invokevirtual 50, 3) := by decide +kernel
theorem dX3_aboutSlot_51 : decode cX3_aboutSlot 51 = .ok (.ireturn, 1) := by decide +kernel
theorem dX3_aboutWord_0 : decode cX3_aboutWord 0 = .ok (.iload_n 3, 1) := by decide +kernel
theorem dX3_aboutWord_1 : decode cX3_aboutWord 1 = .ok (.ifCond .ne 10, 3) := by decide +kernel
theorem dX3_aboutWord_4 : decode cX3_aboutWord 4 = .ok (.aload_n 0, 1) := by decide +kernel
theorem dX3_aboutWord_5 : decode cX3_aboutWord 5 = .ok (.iload_n 1, 1) := by decide +kernel
theorem dX3_aboutWord_6 : decode cX3_aboutWord 6 = .ok (.iload_n 2, 1) := by decide +kernel
theorem dX3_aboutWord_7 : decode cX3_aboutWord 7 = .ok (.invokevirtual 57, 3) := by decide +kernel
theorem dX3_aboutWord_10 : decode cX3_aboutWord 10 = .ok (.ireturn, 1) := by decide +kernel
theorem dX3_aboutWord_11 : decode cX3_aboutWord 11 = .ok (.iload_n 3, 1) := by decide +kernel
theorem dX3_aboutWord_12 : decode cX3_aboutWord 12 = .ok (.iconst 1, 1) := by decide +kernel
theorem dX3_aboutWord_13 : decode cX3_aboutWord 13 = .ok (.if_icmp .ne 26, 3) := by decide +kernel
theorem dX3_aboutWord_16 : decode cX3_aboutWord 16 = .ok (.iload_n 1, 1) := by decide +kernel
theorem dX3_aboutWord_17 : decode cX3_aboutWord 17 = .ok (.iconst 2, 1) := by decide +kernel
theorem dX3_aboutWord_18 : decode cX3_aboutWord 18 = .ok (.if_icmp .ne 11, 3) := by decide +kernel
theorem dX3_aboutWord_21 : decode cX3_aboutWord 21 = .ok (.aload_n 0, 1) := by decide +kernel
theorem dX3_aboutWord_22 : decode cX3_aboutWord 22 = .ok (.iload_n 2, 1) := by decide +kernel
theorem dX3_aboutWord_23 : decode cX3_aboutWord 23 = .ok (.invokevirtual 44, 3) := by decide +kernel
theorem dX3_aboutWord_26 : decode cX3_aboutWord 26 = .ok (.goto 12, 3) := by decide +kernel
theorem dX3_aboutWord_29 : decode cX3_aboutWord 29 = .ok (.iload_n 1, 1) := by decide +kernel
theorem dX3_aboutWord_30 : decode cX3_aboutWord 30 = .ok (.ifCond .ne 7, 3) := by decide +kernel
theorem dX3_aboutWord_33 : decode cX3_aboutWord 33 = .ok (.iload_n 2, 1) := by decide +kernel
theorem dX3_aboutWord_34 : decode cX3_aboutWord 34 = .ok (.goto 4, 3) := by decide +kernel
theorem dX3_aboutWord_37 : decode cX3_aboutWord 37 = .ok (.iconst 0, 1) := by decide +kernel
theorem dX3_aboutWord_38 : decode cX3_aboutWord 38 = .ok (.ireturn, 1) := by decide +kernel
theorem dX3_aboutWord_39 : decode cX3_aboutWord 39 = .ok (.iconst (-1), 1) := by decide +kernel
theorem dX3_aboutWord_40 : decode cX3_aboutWord 40 = .ok (.ireturn, 1) := by decide +kernel
theorem dX3_kindOf_0 : decode cX3_kindOf 0 = .ok (.iload_n 1, 1) := by decide +kernel
theorem dX3_kindOf_1 : decode cX3_kindOf 1 = .ok (.iconst 2, 1) := by decide +kernel
theorem dX3_kindOf_2 : decode cX3_kindOf 2 = .ok (.if_icmp .eq 7, 3) := by decide +kernel
theorem dX3_kindOf_5 : decode cX3_kindOf 5 = .ok (.iload_n 1, 1) := by decide +kernel
theorem dX3_kindOf_6 : decode cX3_kindOf 6 = .ok (.goto 16, 3) := by decide +kernel
theorem dX3_kindOf_9 : decode cX3_kindOf 9 = .ok (.aload_n 0, 1) := by decide +kernel
theorem dX3_kindOf_10 : decode cX3_kindOf 10 = .ok (.iload_n 2, 1) := by decide +kernel
theorem dX3_kindOf_11 : decode cX3_kindOf 11 = .ok (.invokevirtual 61, 3) := by decide +kernel
theorem dX3_kindOf_14 : decode cX3_kindOf 14 = .ok (.ifCond .eq 7, 3) := by decide +kernel
theorem dX3_kindOf_17 : decode cX3_kindOf 17 = .ok (.iconst 2, 1) := by decide +kernel
theorem dX3_kindOf_18 : decode cX3_kindOf 18 = .ok (.goto 4, 3) := by decide +kernel
theorem dX3_kindOf_21 : decode cX3_kindOf 21 = .ok (.iconst 3, 1) := by decide +kernel
theorem dX3_kindOf_22 : decode cX3_kindOf 22 = .ok (.ireturn, 1) := by decide +kernel
theorem dX3_placeOf_0 : decode cX3_placeOf 0 = .ok (.iload_n 1, 1) := by decide +kernel
theorem dX3_placeOf_1 : decode cX3_placeOf 1 = .ok (.aload_n 0, 1) := by decide +kernel
theorem dX3_placeOf_2 : decode cX3_placeOf 2 = .ok (.iload_n 1, 1) := by decide +kernel
theorem dX3_placeOf_3 : decode cX3_placeOf 3 = .ok (.invokevirtual 54, 3) := by decide +kernel
theorem dX3_placeOf_6 : decode cX3_placeOf 6 = .ok (.aload_n 0, 1) := by decide +kernel
theorem dX3_placeOf_7 : decode cX3_placeOf 7 = .ok (.getfield 21, 3) := by decide +kernel
theorem dX3_placeOf_10 : decode cX3_placeOf 10 = .ok (.imul, 1) := by decide +kernel
theorem dX3_placeOf_11 : decode cX3_placeOf 11 = .ok (.isub, 1) := by decide +kernel
theorem dX3_placeOf_12 : decode cX3_placeOf 12 = .ok (.ireturn, 1) := by decide +kernel
theorem dX3_move_0 : decode cX3_move 0 = .ok (.aload_n 0, 1) := by decide +kernel
theorem dX3_move_1 : decode cX3_move 1 = .ok (.getfield 31, 3) := by decide +kernel
theorem dX3_move_4 : decode cX3_move 4 = .ok (.iload_n 1, 1) := by decide +kernel
theorem dX3_move_5 : decode cX3_move 5 = .ok (.iaload, 1) := by decide +kernel
theorem dX3_move_6 : decode cX3_move 6 = .ok (.iconst 2, 1) := by decide +kernel
theorem dX3_move_7 : decode cX3_move 7 = .ok (.iadd, 1) := by decide +kernel
theorem dX3_move_8 : decode cX3_move 8 = .ok (.istore_n 2, 1) := by decide +kernel
theorem dX3_move_9 : decode cX3_move 9 = .ok (.aload_n 0, 1) := by decide +kernel
theorem dX3_move_10 : decode cX3_move 10 = .ok (.getfield 65, 3) := by decide +kernel
theorem dX3_move_13 : decode cX3_move 13 = .ok (.iload_n 2, 1) := by decide +kernel
theorem dX3_move_14 : decode cX3_move 14 = .ok (.iadd, 1) := by decide +kernel
theorem dX3_move_15 : decode cX3_move 15 = .ok (.aload_n 0, 1) := by decide +kernel
theorem dX3_move_16 : decode cX3_move 16 = .ok (.getfield 34, 3) := by decide +kernel
theorem dX3_move_19 : decode cX3_move 19 = .ok (.if_icmp .le 16, 3) := by decide +kernel
theorem dX3_move_22 : decode cX3_move 22 = .ok (.aload_n 0, 1) := by decide +kernel
theorem dX3_move_23 : decode cX3_move 23 = .ok (.getfield 18, 3) := by decide +kernel
theorem dX3_move_26 : decode cX3_move 26 = .ok (.bipush 8, 2) := by decide +kernel
theorem dX3_move_28 : decode cX3_move 28 = .ok (.dup2, 1) := by decide +kernel
theorem dX3_move_29 : decode cX3_move 29 = .ok (.iaload, 1) := by decide +kernel
theorem dX3_move_30 : decode cX3_move 30 = .ok (.iconst 1, 1) := by decide +kernel
theorem dX3_move_31 : decode cX3_move 31 = .ok (.iadd, 1) := by decide +kernel
theorem dX3_move_32 : decode cX3_move 32 = .ok (.iastore, 1) := by decide +kernel
theorem dX3_move_33 : decode cX3_move 33 = .ok (.iconst (-1), 1) := by decide +kernel
theorem dX3_move_34 : decode cX3_move 34 = .ok (.ireturn, 1) := by decide +kernel
theorem dX3_move_35 : decode cX3_move 35 = .ok (.aload_n 0, 1) := by decide +kernel
theorem dX3_move_36 : decode cX3_move 36 = .ok (.getfield 68, 3) := by decide +kernel
theorem dX3_move_39 : decode cX3_move 39 = .ok (.aload_n 0, 1) := by decide +kernel
theorem dX3_move_40 : decode cX3_move 40 = .ok (.getfield 21, 3) := by decide +kernel
theorem dX3_move_43 : decode cX3_move 43 = .ok (.imul, 1) := by decide +kernel
theorem dX3_move_44 : decode cX3_move 44 = .ok (.aload_n 0, 1) := by decide +kernel
theorem dX3_move_45 : decode cX3_move 45 = .ok (.getfield 65, 3) := by decide +kernel
theorem dX3_move_48 : decode cX3_move 48 = .ok (.iadd, 1) := by decide +kernel
theorem dX3_move_49 : decode cX3_move 49 = .ok (.istore_n 3, 1) := by decide +kernel
theorem dX3_move_50 : decode cX3_move 50 = .ok (.aload_n 0, 1) := by decide +kernel
theorem dX3_move_51 : decode cX3_move 51 = .ok (.getfield 28, 3) := by decide +kernel
theorem dX3_move_54 : decode cX3_move 54 = .ok (.iload_n 1, 1) := by decide +kernel
theorem dX3_move_55 : decode cX3_move 55 = .ok (.aload_n 0, 1) := by decide +kernel
theorem dX3_move_56 : decode cX3_move 56 = .ok (.getfield 28, 3) := by decide +kernel
theorem dX3_move_59 : decode cX3_move 59 = .ok (.iload_n 3, 1) := by decide +kernel
theorem dX3_move_60 : decode cX3_move 60 = .ok (.iload_n 2, 1) := by decide +kernel
theorem dX3_move_61 : decode cX3_move 61 = .ok (.invokestatic 71, 3) := by decide +kernel
theorem dX3_move_64 : decode cX3_move 64 = .ok (.aload_n 0, 1) := by decide +kernel
theorem dX3_move_65 : decode cX3_move 65 = .ok (.getfield 31, 3) := by decide +kernel
theorem dX3_move_68 : decode cX3_move 68 = .ok (.iload_n 1, 1) := by decide +kernel
theorem dX3_move_69 : decode cX3_move 69 = .ok (.aload_n 0, 1) := by decide +kernel
theorem dX3_move_70 : decode cX3_move 70 = .ok (.getfield 31, 3) := by decide +kernel
theorem dX3_move_73 : decode cX3_move 73 = .ok (.iload_n 3, 1) := by decide +kernel
theorem dX3_move_74 : decode cX3_move 74 = .ok (.iload_n 2, 1) := by decide +kernel
theorem dX3_move_75 : decode cX3_move 75 = .ok (.invokestatic 71, 3) := by decide +kernel
theorem dX3_move_78 : decode cX3_move 78 = .ok (.aload_n 0, 1) := by decide +kernel
theorem dX3_move_79 : decode cX3_move 79 = .ok (.getfield 28, 3) := by decide +kernel
theorem dX3_move_82 : decode cX3_move 82 = .ok (.iload_n 1, 1) := by decide +kernel
theorem dX3_move_83 : decode cX3_move 83 = .ok (.bipush 6, 2) := by decide +kernel
theorem dX3_move_85 : decode cX3_move 85 = .ok (.iastore, 1) := by decide +kernel
theorem dX3_move_86 : decode cX3_move 86 = .ok (.aload_n 0, 1) := by decide +kernel
theorem dX3_move_87 : decode cX3_move 87 = .ok (.getfield 31, 3) := by decide +kernel
theorem dX3_move_90 : decode cX3_move 90 = .ok (.iload_n 1, 1) := by decide +kernel
theorem dX3_move_91 : decode cX3_move 91 = .ok (.iload_n 3, 1) := by decide +kernel
theorem dX3_move_92 : decode cX3_move 92 = .ok (.iastore, 1) := by decide +kernel
theorem dX3_move_93 : decode cX3_move 93 = .ok (.aload_n 0, 1) := by decide +kernel
theorem dX3_move_94 : decode cX3_move 94 = .ok (.dup, 1) := by decide +kernel
theorem dX3_move_95 : decode cX3_move 95 = .ok (.getfield 65, 3) := by decide +kernel
theorem dX3_move_98 : decode cX3_move 98 = .ok (.iload_n 2, 1) := by decide +kernel
theorem dX3_move_99 : decode cX3_move 99 = .ok (.iadd, 1) := by decide +kernel
theorem dX3_move_100 : decode cX3_move 100 = .ok (.putfield 65, 3) := by decide +kernel
theorem dX3_move_103 : decode cX3_move 103 = .ok (.aload_n 0, 1) := by decide +kernel
theorem dX3_move_104 : decode cX3_move 104 = .ok (.getfield 18, 3) := by decide +kernel
theorem dX3_move_107 : decode cX3_move 107 = .ok (.iconst 5, 1) := by decide +kernel
theorem dX3_move_108 : decode cX3_move 108 = .ok (.dup2, 1) := by decide +kernel
theorem dX3_move_109 : decode cX3_move 109 = .ok (.iaload, 1) := by decide +kernel
theorem dX3_move_110 : decode cX3_move 110 = .ok (.iconst 1, 1) := by decide +kernel
theorem dX3_move_111 : decode cX3_move 111 = .ok (.iadd, 1) := by decide +kernel
theorem dX3_move_112 : decode cX3_move 112 = .ok (.iastore, 1) := by decide +kernel
theorem dX3_move_113 : decode cX3_move 113 = .ok (.iload_n 3, 1) := by decide +kernel
theorem dX3_move_114 : decode cX3_move 114 = .ok (.ireturn, 1) := by decide +kernel
theorem dX3_bring_0 : decode cX3_bring 0 = .ok (.aload_n 1, 1) := by decide +kernel
theorem dX3_bring_1 : decode cX3_bring 1 = .ok (.iload_n 3, 1) := by decide +kernel
theorem dX3_bring_2 : decode cX3_bring 2 = .ok (.iaload, 1) := by decide +kernel
theorem dX3_bring_3 : decode cX3_bring 3 = .ok (.iconst 2, 1) := by decide +kernel
theorem dX3_bring_4 : decode cX3_bring 4 = .ok (.if_icmp .eq 5, 3) := by decide +kernel
theorem dX3_bring_7 : decode cX3_bring 7 = .ok (.iconst 1, 1) := by decide +kernel
theorem dX3_bring_8 : decode cX3_bring 8 = .ok (.ireturn, 1) := by decide +kernel
theorem dX3_bring_9 : decode cX3_bring 9 = .ok (.aload_n 0, 1) := by decide +kernel
theorem dX3_bring_10 : decode cX3_bring 10 = .ok (.aload_n 2, 1) := by decide +kernel
theorem dX3_bring_11 : decode cX3_bring 11 = .ok (.iload_n 3, 1) := by decide +kernel
theorem dX3_bring_12 : decode cX3_bring 12 = .ok (.iaload, 1) := by decide +kernel
theorem dX3_bring_13 : decode cX3_bring 13 = .ok (.invokevirtual 40, 3) := by decide +kernel
theorem dX3_bring_16 : decode cX3_bring 16 = .ok (.istore 4, 2) := by decide +kernel
theorem dX3_bring_18 : decode cX3_bring 18 = .ok (.aload_n 0, 1) := by decide +kernel
theorem dX3_bring_19 : decode cX3_bring 19 = .ok (.iload 4, 2) := by decide +kernel
theorem dX3_bring_21 : decode cX3_bring 21 = .ok (.invokevirtual 54, 3) := by decide +kernel
theorem dX3_bring_24 : decode cX3_bring 24 = .ok (.aload_n 0, 1) := by decide +kernel
theorem dX3_bring_25 : decode cX3_bring 25 = .ok (.getfield 68, 3) := by decide +kernel
theorem dX3_bring_28 : decode cX3_bring 28 = .ok (.if_icmp .ne 8, 3) := by decide +kernel
theorem dX3_bring_31 : decode cX3_bring 31 = .ok (.iload 4, 2) := by decide +kernel
theorem dX3_bring_33 : decode cX3_bring 33 = .ok (.goto 9, 3) := by decide +kernel
theorem dX3_bring_36 : decode cX3_bring 36 = .ok (.aload_n 0, 1) := by decide +kernel
theorem dX3_bring_37 : decode cX3_bring 37 = .ok (.iload 4, 2) := by decide +kernel
theorem dX3_bring_39 : decode cX3_bring 39 = .ok (.invokevirtual 77, 3) := by decide +kernel
theorem dX3_bring_42 : decode cX3_bring 42 = .ok (.istore 5, 2) := by decide +kernel
theorem dX3_bring_44 : decode cX3_bring 44 = .ok (.iload 5, 2) := by decide +kernel
theorem dX3_bring_46 : decode cX3_bring 46 = .ok (.iconst (-1), 1) := by decide +kernel
theorem dX3_bring_47 : decode cX3_bring 47 = .ok (.if_icmp .ne 5, 3) := by decide +kernel
theorem dX3_bring_50 : decode cX3_bring 50 = .ok (.iconst 0, 1) := by decide +kernel
theorem dX3_bring_51 : decode cX3_bring 51 = .ok (.ireturn, 1) := by decide +kernel
theorem dX3_bring_52 : decode cX3_bring 52 = .ok (.aload_n 2, 1) := by decide +kernel
theorem dX3_bring_53 : decode cX3_bring 53 = .ok (.iload_n 3, 1) := by decide +kernel
theorem dX3_bring_54 : decode cX3_bring 54 = .ok (.iload 5, 2) := by decide +kernel
theorem dX3_bring_56 : decode cX3_bring 56 = .ok (.iastore, 1) := by decide +kernel
theorem dX3_bring_57 : decode cX3_bring 57 = .ok (.iconst 1, 1) := by decide +kernel
theorem dX3_bring_58 : decode cX3_bring 58 = .ok (.ireturn, 1) := by decide +kernel
theorem dX3_passWords_0 : decode cX3_passWords 0 = .ok (.aload_n 0, 1) := by decide +kernel
theorem dX3_passWords_1 : decode cX3_passWords 1 = .ok (.getfield 80, 3) := by decide +kernel
theorem dX3_passWords_4 : decode cX3_passWords 4 = .ok (.istore_n 2, 1) := by decide +kernel
theorem dX3_passWords_5 : decode cX3_passWords 5 = .ok (.aload_n 0, 1) := by decide +kernel
theorem dX3_passWords_6 : decode cX3_passWords 6 = .ok (.getfield 80, 3) := by decide +kernel
theorem dX3_passWords_9 : decode cX3_passWords 9 = .ok (.iload_n 2, 1) := by decide +kernel
theorem dX3_passWords_10 : decode cX3_passWords 10 = .ok (.isub, 1) := by decide +kernel
theorem dX3_passWords_11 : decode cX3_passWords 11 = .ok (.iload_n 1, 1) := by decide +kernel
theorem dX3_passWords_12 : decode cX3_passWords 12 = .ok (.if_icmp .ge 56, 3) := by decide +kernel
theorem dX3_passWords_15 : decode cX3_passWords 15 = .ok (.aload_n 0, 1) := by decide +kernel
theorem dX3_passWords_16 : decode cX3_passWords 16 = .ok (.getfield 80, 3) := by decide +kernel
theorem dX3_passWords_19 : decode cX3_passWords 19 = .ok (.aload_n 0, 1) := by decide +kernel
theorem dX3_passWords_20 : decode cX3_passWords 20 = .ok (.getfield 65, 3) := by decide +kernel
theorem dX3_passWords_23 : decode cX3_passWords 23 = .ok (.if_icmp .ge 45, 3) := by decide +kernel
theorem dX3_passWords_26 : decode cX3_passWords 26 = .ok (.aload_n 0, 1) := by decide +kernel
theorem dX3_passWords_27 : decode cX3_passWords 27 = .ok (.aload_n 0, 1) := by decide +kernel
theorem dX3_passWords_28 : decode cX3_passWords 28 = .ok (.getfield 28, 3) := by decide +kernel
theorem dX3_passWords_31 : decode cX3_passWords 31 = .ok (.aload_n 0, 1) := by decide +kernel
theorem dX3_passWords_32 : decode cX3_passWords 32 = .ok (.getfield 31, 3) := by decide +kernel
theorem dX3_passWords_35 : decode cX3_passWords 35 = .ok (.aload_n 0, 1) := by decide +kernel
theorem dX3_passWords_36 : decode cX3_passWords 36 = .ok (.getfield 68, 3) := by decide +kernel
theorem dX3_passWords_39 : decode cX3_passWords 39 = .ok (.aload_n 0, 1) := by decide +kernel
theorem dX3_passWords_40 : decode cX3_passWords 40 = .ok (.getfield 21, 3) := by decide +kernel
theorem dX3_passWords_43 : decode cX3_passWords 43 = .ok (.imul, 1) := by decide +kernel
theorem dX3_passWords_44 : decode cX3_passWords 44 = .ok (.aload_n 0, 1) := by decide +kernel
theorem dX3_passWords_45 : decode cX3_passWords 45 = .ok (.getfield 80, 3) := by decide +kernel
theorem dX3_passWords_48 : decode cX3_passWords 48 = .ok (.iadd, 1) := by decide +kernel
theorem dX3_passWords_49 : decode cX3_passWords 49 = .ok (.invokevirtual 83, 3) := by decide +kernel
theorem dX3_passWords_52 : decode cX3_passWords 52 = .ok (.ifCond .eq 16, 3) := by decide +kernel
theorem dX3_passWords_55 : decode cX3_passWords 55 = .ok (.aload_n 0, 1) := by decide +kernel
theorem dX3_passWords_56 : decode cX3_passWords 56 = .ok (.dup, 1) := by decide +kernel
theorem dX3_passWords_57 : decode cX3_passWords 57 = .ok (.getfield 80, 3) := by decide +kernel
theorem dX3_passWords_60 : decode cX3_passWords 60 = .ok (.iconst 1, 1) := by decide +kernel
theorem dX3_passWords_61 : decode cX3_passWords 61 = .ok (.iadd, 1) := by decide +kernel
theorem dX3_passWords_62 : decode cX3_passWords 62 = .ok (.putfield 80, 3) := by decide +kernel
theorem dX3_passWords_65 : decode cX3_passWords 65 = .ok (.goto (-60), 3) := by decide +kernel
theorem dX3_passWords_68 : decode cX3_passWords 68 = .ok (.aload_n 0, 1) := by decide +kernel
theorem dX3_passWords_69 : decode cX3_passWords 69 = .ok (.getfield 18, 3) := by decide +kernel
theorem dX3_passWords_72 : decode cX3_passWords 72 = .ok (.bipush 6, 2) := by decide +kernel
theorem dX3_passWords_74 : decode cX3_passWords 74 = .ok (.dup2, 1) := by decide +kernel
theorem dX3_passWords_75 : decode cX3_passWords 75 = .ok (.iaload, 1) := by decide +kernel
theorem dX3_passWords_76 : decode cX3_passWords 76 = .ok (.aload_n 0, 1) := by decide +kernel
theorem dX3_passWords_77 : decode cX3_passWords 77 = .ok (.getfield 80, 3) := by decide +kernel
theorem dX3_passWords_80 : decode cX3_passWords 80 = .ok (.iload_n 2, 1) := by decide +kernel
theorem dX3_passWords_81 : decode cX3_passWords 81 = .ok (.isub, 1) := by decide +kernel
theorem dX3_passWords_82 : decode cX3_passWords 82 = .ok (.iadd, 1) := by decide +kernel
theorem dX3_passWords_83 : decode cX3_passWords 83 = .ok (.iastore, 1) := by decide +kernel
theorem dX3_passWords_84 : decode cX3_passWords 84 = .ok (.aload_n 0, 1) := by decide +kernel
theorem dX3_passWords_85 : decode cX3_passWords 85 = .ok (.getfield 80, 3) := by decide +kernel
theorem dX3_passWords_88 : decode cX3_passWords 88 = .ok (.iload_n 2, 1) := by decide +kernel
theorem dX3_passWords_89 : decode cX3_passWords 89 = .ok (.isub, 1) := by decide +kernel
theorem dX3_passWords_90 : decode cX3_passWords 90 = .ok (.ireturn, 1) := by decide +kernel
theorem dX3_turnOver_0 : decode cX3_turnOver 0 = .ok (.aload_n 0, 1) := by decide +kernel
theorem dX3_turnOver_1 : decode cX3_turnOver 1 = .ok (.getfield 18, 3) := by decide +kernel
theorem dX3_turnOver_4 : decode cX3_turnOver 4 = .ok (.iconst 5, 1) := by decide +kernel
theorem dX3_turnOver_5 : decode cX3_turnOver 5 = .ok (.iaload, 1) := by decide +kernel
theorem dX3_turnOver_6 : decode cX3_turnOver 6 = .ok (.istore_n 1, 1) := by decide +kernel
theorem dX3_turnOver_7 : decode cX3_turnOver 7 = .ok (.aload_n 0, 1) := by decide +kernel
theorem dX3_turnOver_8 : decode cX3_turnOver 8 = .ok (.iconst 1, 1) := by decide +kernel
theorem dX3_turnOver_9 : decode cX3_turnOver 9 = .ok (.aload_n 0, 1) := by decide +kernel
theorem dX3_turnOver_10 : decode cX3_turnOver 10 = .ok (.getfield 68, 3) := by decide +kernel
theorem dX3_turnOver_13 : decode cX3_turnOver 13 = .ok (.isub, 1) := by decide +kernel
theorem dX3_turnOver_14 : decode cX3_turnOver 14 = .ok (.putfield 68, 3) := by decide +kernel
theorem dX3_turnOver_17 : decode cX3_turnOver 17 = .ok (.aload_n 0, 1) := by decide +kernel
theorem dX3_turnOver_18 : decode cX3_turnOver 18 = .ok (.iconst 0, 1) := by decide +kernel
theorem dX3_turnOver_19 : decode cX3_turnOver 19 = .ok (.putfield 65, 3) := by decide +kernel
theorem dX3_turnOver_22 : decode cX3_turnOver 22 = .ok (.aload_n 0, 1) := by decide +kernel
theorem dX3_turnOver_23 : decode cX3_turnOver 23 = .ok (.iconst 0, 1) := by decide +kernel
theorem dX3_turnOver_24 : decode cX3_turnOver 24 = .ok (.putfield 80, 3) := by decide +kernel
theorem dX3_turnOver_27 : decode cX3_turnOver 27 = .ok (.aload_n 0, 1) := by decide +kernel
theorem dX3_turnOver_28 : decode cX3_turnOver 28 = .ok (.aload_n 0, 1) := by decide +kernel
theorem dX3_turnOver_29 : decode cX3_turnOver 29 = .ok (.getfield 21, 3) := by decide +kernel
theorem dX3_turnOver_32 : decode cX3_turnOver 32 = .ok (.putfield 34, 3) := by decide +kernel
theorem dX3_turnOver_35 : decode cX3_turnOver 35 = .ok (.iconst 0, 1) := by decide +kernel
theorem dX3_turnOver_36 : decode cX3_turnOver 36 = .ok (.istore_n 2, 1) := by decide +kernel
theorem dX3_turnOver_37 : decode cX3_turnOver 37 = .ok (.iload_n 2, 1) := by decide +kernel
theorem dX3_turnOver_38 : decode cX3_turnOver 38 = .ok (.aload_n 0, 1) := by decide +kernel
theorem dX3_turnOver_39 : decode cX3_turnOver 39 = .ok (.invokevirtual 87, 3) := by decide +kernel
theorem dX3_turnOver_42 : decode cX3_turnOver 42 = .ok (.if_icmp .ge 23, 3) := by decide +kernel
theorem dX3_turnOver_45 : decode cX3_turnOver 45 = .ok (.aload_n 0, 1) := by decide +kernel
theorem dX3_turnOver_46 : decode cX3_turnOver 46 = .ok (.aload_n 0, 1) := by decide +kernel
theorem dX3_turnOver_47 : decode cX3_turnOver 47 = .ok (.getfield 9, 3) := by decide +kernel
theorem dX3_turnOver_50 : decode cX3_turnOver 50 = .ok (.aload_n 0, 1) := by decide +kernel
theorem dX3_turnOver_51 : decode cX3_turnOver 51 = .ok (.getfield 15, 3) := by decide +kernel
theorem dX3_turnOver_54 : decode cX3_turnOver 54 = .ok (.iload_n 2, 1) := by decide +kernel
theorem dX3_turnOver_55 : decode cX3_turnOver 55 = .ok (.invokevirtual 83, 3) := by decide +kernel
theorem dX3_turnOver_58 : decode cX3_turnOver 58 = .ok (.pop, 1) := by decide +kernel
theorem dX3_turnOver_59 : decode cX3_turnOver 59 = .ok (.iinc 2 1, 3) := by decide +kernel
theorem dX3_turnOver_62 : decode cX3_turnOver 62 = .ok (.goto (-25), 3) := by decide +kernel
theorem dX3_turnOver_65 : decode cX3_turnOver 65 = .ok (.aload_n 0, 1) := by decide +kernel
theorem dX3_turnOver_66 : decode cX3_turnOver 66 = .ok (.getfield 18, 3) := by decide +kernel
theorem dX3_turnOver_69 : decode cX3_turnOver 69 = .ok (.iconst 4, 1) := by decide +kernel
theorem dX3_turnOver_70 : decode cX3_turnOver 70 = .ok (.dup2, 1) := by decide +kernel
theorem dX3_turnOver_71 : decode cX3_turnOver 71 = .ok (.iaload, 1) := by decide +kernel
theorem dX3_turnOver_72 : decode cX3_turnOver 72 = .ok (.iconst 1, 1) := by decide +kernel
theorem dX3_turnOver_73 : decode cX3_turnOver 73 = .ok (.iadd, 1) := by decide +kernel
theorem dX3_turnOver_74 : decode cX3_turnOver 74 = .ok (.iastore, 1) := by decide +kernel
theorem dX3_turnOver_75 : decode cX3_turnOver 75 = .ok (.aload_n 0, 1) := by decide +kernel
theorem dX3_turnOver_76 : decode cX3_turnOver 76 = .ok (.getfield 18, 3) := by decide +kernel
theorem dX3_turnOver_79 : decode cX3_turnOver 79 = .ok (.bipush 12, 2) := by decide +kernel
theorem dX3_turnOver_81 : decode cX3_turnOver 81 = .ok (.aload_n 0, 1) := by decide +kernel
theorem dX3_turnOver_82 : decode cX3_turnOver 82 = .ok (.getfield 18, 3) := by decide +kernel
theorem dX3_turnOver_85 : decode cX3_turnOver 85 = .ok (.iconst 5, 1) := by decide +kernel
theorem dX3_turnOver_86 : decode cX3_turnOver 86 = .ok (.iaload, 1) := by decide +kernel
theorem dX3_turnOver_87 : decode cX3_turnOver 87 = .ok (.iload_n 1, 1) := by decide +kernel
theorem dX3_turnOver_88 : decode cX3_turnOver 88 = .ok (.isub, 1) := by decide +kernel
theorem dX3_turnOver_89 : decode cX3_turnOver 89 = .ok (.iastore, 1) := by decide +kernel
theorem dX3_turnOver_90 : decode cX3_turnOver 90 = .ok (.return_, 1) := by decide +kernel
theorem dX3_makeRoom_0 : decode cX3_makeRoom 0 = .ok (.aload_n 0, 1) := by decide +kernel
theorem dX3_makeRoom_1 : decode cX3_makeRoom 1 = .ok (.aload_n 0, 1) := by decide +kernel
theorem dX3_makeRoom_2 : decode cX3_makeRoom 2 = .ok (.getfield 25, 3) := by decide +kernel
theorem dX3_makeRoom_5 : decode cX3_makeRoom 5 = .ok (.iload_n 1, 1) := by decide +kernel
theorem dX3_makeRoom_6 : decode cX3_makeRoom 6 = .ok (.imul, 1) := by decide +kernel
theorem dX3_makeRoom_7 : decode cX3_makeRoom 7 = .ok (.invokevirtual 91, 3) := by decide +kernel
theorem dX3_makeRoom_10 : decode cX3_makeRoom 10 = .ok (.istore_n 2, 1) := by decide +kernel
theorem dX3_makeRoom_11 : decode cX3_makeRoom 11 = .ok (.aload_n 0, 1) := by decide +kernel
theorem dX3_makeRoom_12 : decode cX3_makeRoom 12 = .ok (.getfield 18, 3) := by decide +kernel
theorem dX3_makeRoom_15 : decode cX3_makeRoom 15 = .ok (.bipush 11, 2) := by decide +kernel
theorem dX3_makeRoom_17 : decode cX3_makeRoom 17 = .ok (.aload_n 0, 1) := by decide +kernel
theorem dX3_makeRoom_18 : decode cX3_makeRoom 18 = .ok (.getfield 18, 3) := by decide +kernel
theorem dX3_makeRoom_21 : decode cX3_makeRoom 21 = .ok (.bipush 11, 2) := by decide +kernel
theorem dX3_makeRoom_23 : decode cX3_makeRoom 23 = .ok (.iaload, 1) := by decide +kernel
theorem dX3_makeRoom_24 : decode cX3_makeRoom 24 = .ok (.iload_n 2, 1) := by decide +kernel
theorem dX3_makeRoom_25 : decode cX3_makeRoom 25 = .ok (.invokestatic 94, 3) := by decide +kernel
theorem dX3_makeRoom_28 : decode cX3_makeRoom 28 = .ok (.iastore, 1) := by decide +kernel
theorem dX3_makeRoom_29 : decode cX3_makeRoom 29 = .ok (.iload_n 2, 1) := by decide +kernel
theorem dX3_makeRoom_30 : decode cX3_makeRoom 30 = .ok (.aload_n 0, 1) := by decide +kernel
theorem dX3_makeRoom_31 : decode cX3_makeRoom 31 = .ok (.getfield 25, 3) := by decide +kernel
theorem dX3_makeRoom_34 : decode cX3_makeRoom 34 = .ok (.iload_n 1, 1) := by decide +kernel
theorem dX3_makeRoom_35 : decode cX3_makeRoom 35 = .ok (.imul, 1) := by decide +kernel
theorem dX3_makeRoom_36 : decode cX3_makeRoom 36 = .ok (.if_icmp .ge 17, 3) := by decide +kernel
theorem dX3_makeRoom_39 : decode cX3_makeRoom 39 = .ok (.aload_n 0, 1) := by decide +kernel
theorem dX3_makeRoom_40 : decode cX3_makeRoom 40 = .ok (.getfield 80, 3) := by decide +kernel
theorem dX3_makeRoom_43 : decode cX3_makeRoom 43 = .ok (.aload_n 0, 1) := by decide +kernel
theorem dX3_makeRoom_44 : decode cX3_makeRoom 44 = .ok (.getfield 65, 3) := by decide +kernel
theorem dX3_makeRoom_47 : decode cX3_makeRoom 47 = .ok (.if_icmp .ge 6, 3) := by decide +kernel
theorem dX3_makeRoom_50 : decode cX3_makeRoom 50 = .ok (.bipush 8, 2) := by decide +kernel
theorem dX3_makeRoom_52 : decode cX3_makeRoom 52 = .ok (.ireturn, 1) := by decide +kernel
theorem dX3_makeRoom_53 : decode cX3_makeRoom 53 = .ok (.aload_n 0, 1) := by decide +kernel
theorem dX3_makeRoom_54 : decode cX3_makeRoom 54 = .ok (.getfield 34, 3) := by decide +kernel
theorem dX3_makeRoom_57 : decode cX3_makeRoom 57 = .ok (.aload_n 0, 1) := by decide +kernel
theorem dX3_makeRoom_58 : decode cX3_makeRoom 58 = .ok (.getfield 65, 3) := by decide +kernel
theorem dX3_makeRoom_61 : decode cX3_makeRoom 61 = .ok (.isub, 1) := by decide +kernel
theorem dX3_makeRoom_62 : decode cX3_makeRoom 62 = .ok (.iload_n 1, 1) := by decide +kernel
theorem dX3_makeRoom_63 : decode cX3_makeRoom 63 = .ok (.if_icmp .lt 5, 3) := by decide +kernel
theorem dX3_makeRoom_66 : decode cX3_makeRoom 66 = .ok (.iconst 0, 1) := by decide +kernel
theorem dX3_makeRoom_67 : decode cX3_makeRoom 67 = .ok (.ireturn, 1) := by decide +kernel
theorem dX3_makeRoom_68 : decode cX3_makeRoom 68 = .ok (.aload_n 0, 1) := by decide +kernel
theorem dX3_makeRoom_69 : decode cX3_makeRoom 69 = .ok (.getfield 80, 3) := by decide +kernel
theorem dX3_makeRoom_72 : decode cX3_makeRoom 72 = .ok (.aload_n 0, 1) := by decide +kernel
theorem dX3_makeRoom_73 : decode cX3_makeRoom 73 = .ok (.getfield 65, 3) := by decide +kernel
theorem dX3_makeRoom_76 : decode cX3_makeRoom 76 = .ok (.if_icmp .ge 17, 3) := by decide +kernel
theorem dX3_makeRoom_79 : decode cX3_makeRoom 79 = .ok (.aload_n 0, 1) := by decide +kernel
theorem dX3_makeRoom_80 : decode cX3_makeRoom 80 = .ok (.getfield 18, 3) := by decide +kernel
theorem dX3_makeRoom_83 : decode cX3_makeRoom 83 = .ok (.bipush 9, 2) := by decide +kernel
theorem dX3_makeRoom_85 : decode cX3_makeRoom 85 = .ok (.dup2, 1) := by decide +kernel
theorem dX3_makeRoom_86 : decode cX3_makeRoom 86 = .ok (.iaload, 1) := by decide +kernel
theorem dX3_makeRoom_87 : decode cX3_makeRoom 87 = .ok (.iconst 1, 1) := by decide +kernel
theorem dX3_makeRoom_88 : decode cX3_makeRoom 88 = .ok (.iadd, 1) := by decide +kernel
theorem dX3_makeRoom_89 : decode cX3_makeRoom 89 = .ok (.iastore, 1) := by decide +kernel
theorem dX3_makeRoom_90 : decode cX3_makeRoom 90 = .ok (.bipush 9, 2) := by decide +kernel
theorem dX3_makeRoom_92 : decode cX3_makeRoom 92 = .ok (.ireturn, 1) := by decide +kernel
theorem dX3_makeRoom_93 : decode cX3_makeRoom 93 = .ok (.aload_n 0, 1) := by decide +kernel
theorem dX3_makeRoom_94 : decode cX3_makeRoom 94 = .ok (.invokevirtual 99, 3) := by decide +kernel
theorem dX3_makeRoom_97 : decode cX3_makeRoom 97 = .ok (.aload_n 0, 1) := by decide +kernel
theorem dX3_makeRoom_98 : decode cX3_makeRoom 98 = .ok (.getfield 34, 3) := by decide +kernel
theorem dX3_makeRoom_101 : decode cX3_makeRoom 101 = .ok (.aload_n 0, 1) := by decide +kernel
theorem dX3_makeRoom_102 : decode cX3_makeRoom 102 = .ok (.getfield 65, 3) := by decide +kernel
theorem dX3_makeRoom_105 : decode cX3_makeRoom 105 = .ok (.isub, 1) := by decide +kernel
theorem dX3_makeRoom_106 : decode cX3_makeRoom 106 = .ok (.iload_n 1, 1) := by decide +kernel
theorem dX3_makeRoom_107 : decode cX3_makeRoom 107 = .ok (.if_icmp .lt 5, 3) := by decide +kernel
theorem dX3_makeRoom_110 : decode cX3_makeRoom 110 = .ok (.iconst 0, 1) := by decide +kernel
theorem dX3_makeRoom_111 : decode cX3_makeRoom 111 = .ok (.ireturn, 1) := by decide +kernel
theorem dX3_makeRoom_112 : decode cX3_makeRoom 112 = .ok (.aload_n 0, 1) := by decide +kernel
theorem dX3_makeRoom_113 : decode cX3_makeRoom 113 = .ok (.getfield 18, 3) := by decide +kernel
theorem dX3_makeRoom_116 : decode cX3_makeRoom 116 = .ok (.bipush 10, 2) := by decide +kernel
theorem dX3_makeRoom_118 : decode cX3_makeRoom 118 = .ok (.dup2, 1) := by decide +kernel
theorem dX3_makeRoom_119 : decode cX3_makeRoom 119 = .ok (.iaload, 1) := by decide +kernel
theorem dX3_makeRoom_120 : decode cX3_makeRoom 120 = .ok (.iconst 1, 1) := by decide +kernel
theorem dX3_makeRoom_121 : decode cX3_makeRoom 121 = .ok (.iadd, 1) := by decide +kernel
theorem dX3_makeRoom_122 : decode cX3_makeRoom 122 = .ok (.iastore, 1) := by decide +kernel
theorem dX3_makeRoom_123 : decode cX3_makeRoom 123 = .ok (.bipush 10, 2) := by decide +kernel
theorem dX3_makeRoom_125 : decode cX3_makeRoom 125 = .ok (.ireturn, 1) := by decide +kernel
theorem dX3_lay_0 : decode cX3_lay 0 = .ok (.aload_n 0, 1) := by decide +kernel
theorem dX3_lay_1 : decode cX3_lay 1 = .ok (.dup, 1) := by decide +kernel
theorem dX3_lay_2 : decode cX3_lay 2 = .ok (.getfield 34, 3) := by decide +kernel
theorem dX3_lay_5 : decode cX3_lay 5 = .ok (.iload_n 1, 1) := by decide +kernel
theorem dX3_lay_6 : decode cX3_lay 6 = .ok (.iconst 2, 1) := by decide +kernel
theorem dX3_lay_7 : decode cX3_lay 7 = .ok (.iadd, 1) := by decide +kernel
theorem dX3_lay_8 : decode cX3_lay 8 = .ok (.isub, 1) := by decide +kernel
theorem dX3_lay_9 : decode cX3_lay 9 = .ok (.putfield 34, 3) := by decide +kernel
theorem dX3_lay_12 : decode cX3_lay 12 = .ok (.aload_n 0, 1) := by decide +kernel
theorem dX3_lay_13 : decode cX3_lay 13 = .ok (.getfield 68, 3) := by decide +kernel
theorem dX3_lay_16 : decode cX3_lay 16 = .ok (.aload_n 0, 1) := by decide +kernel
theorem dX3_lay_17 : decode cX3_lay 17 = .ok (.getfield 21, 3) := by decide +kernel
theorem dX3_lay_20 : decode cX3_lay 20 = .ok (.imul, 1) := by decide +kernel
theorem dX3_lay_21 : decode cX3_lay 21 = .ok (.aload_n 0, 1) := by decide +kernel
theorem dX3_lay_22 : decode cX3_lay 22 = .ok (.getfield 34, 3) := by decide +kernel
theorem dX3_lay_25 : decode cX3_lay 25 = .ok (.iadd, 1) := by decide +kernel
theorem dX3_lay_26 : decode cX3_lay 26 = .ok (.istore_n 3, 1) := by decide +kernel
theorem dX3_lay_27 : decode cX3_lay 27 = .ok (.aload_n 0, 1) := by decide +kernel
theorem dX3_lay_28 : decode cX3_lay 28 = .ok (.getfield 28, 3) := by decide +kernel
theorem dX3_lay_31 : decode cX3_lay 31 = .ok (.iload_n 3, 1) := by decide +kernel
theorem dX3_lay_32 : decode cX3_lay 32 = .ok (.iload_n 2, 1) := by decide +kernel
theorem dX3_lay_33 : decode cX3_lay 33 = .ok (.iastore, 1) := by decide +kernel
theorem dX3_lay_34 : decode cX3_lay 34 = .ok (.aload_n 0, 1) := by decide +kernel
theorem dX3_lay_35 : decode cX3_lay 35 = .ok (.getfield 31, 3) := by decide +kernel
theorem dX3_lay_38 : decode cX3_lay 38 = .ok (.iload_n 3, 1) := by decide +kernel
theorem dX3_lay_39 : decode cX3_lay 39 = .ok (.iload_n 1, 1) := by decide +kernel
theorem dX3_lay_40 : decode cX3_lay 40 = .ok (.iastore, 1) := by decide +kernel
theorem dX3_lay_41 : decode cX3_lay 41 = .ok (.aload_n 0, 1) := by decide +kernel
theorem dX3_lay_42 : decode cX3_lay 42 = .ok (.getfield 28, 3) := by decide +kernel
theorem dX3_lay_45 : decode cX3_lay 45 = .ok (.iload_n 3, 1) := by decide +kernel
theorem dX3_lay_46 : decode cX3_lay 46 = .ok (.iconst 1, 1) := by decide +kernel
theorem dX3_lay_47 : decode cX3_lay 47 = .ok (.iadd, 1) := by decide +kernel
theorem dX3_lay_48 : decode cX3_lay 48 = .ok (.iconst 5, 1) := by decide +kernel
theorem dX3_lay_49 : decode cX3_lay 49 = .ok (.iastore, 1) := by decide +kernel
theorem dX3_lay_50 : decode cX3_lay 50 = .ok (.aload_n 0, 1) := by decide +kernel
theorem dX3_lay_51 : decode cX3_lay 51 = .ok (.getfield 31, 3) := by decide +kernel
theorem dX3_lay_54 : decode cX3_lay 54 = .ok (.iload_n 3, 1) := by decide +kernel
theorem dX3_lay_55 : decode cX3_lay 55 = .ok (.iconst 1, 1) := by decide +kernel
theorem dX3_lay_56 : decode cX3_lay 56 = .ok (.iadd, 1) := by decide +kernel
theorem dX3_lay_57 : decode cX3_lay 57 = .ok (.iconst 0, 1) := by decide +kernel
theorem dX3_lay_58 : decode cX3_lay 58 = .ok (.iastore, 1) := by decide +kernel
theorem dX3_lay_59 : decode cX3_lay 59 = .ok (.iload_n 3, 1) := by decide +kernel
theorem dX3_lay_60 : decode cX3_lay 60 = .ok (.iconst 2, 1) := by decide +kernel
theorem dX3_lay_61 : decode cX3_lay 61 = .ok (.iadd, 1) := by decide +kernel
theorem dX3_lay_62 : decode cX3_lay 62 = .ok (.istore 4, 2) := by decide +kernel
theorem dX3_lay_64 : decode cX3_lay 64 = .ok (.iload 4, 2) := by decide +kernel
theorem dX3_lay_66 : decode cX3_lay 66 = .ok (.iload_n 3, 1) := by decide +kernel
theorem dX3_lay_67 : decode cX3_lay 67 = .ok (.iconst 2, 1) := by decide +kernel
theorem dX3_lay_68 : decode cX3_lay 68 = .ok (.iadd, 1) := by decide +kernel
theorem dX3_lay_69 : decode cX3_lay 69 = .ok (.iload_n 1, 1) := by decide +kernel
theorem dX3_lay_70 : decode cX3_lay 70 = .ok (.iadd, 1) := by decide +kernel
theorem dX3_lay_71 : decode cX3_lay 71 = .ok (.if_icmp .ge 34, 3) := by decide +kernel
theorem dX3_lay_74 : decode cX3_lay 74 = .ok (.aload_n 0, 1) := by decide +kernel
theorem dX3_lay_75 : decode cX3_lay 75 = .ok (.getfield 28, 3) := by decide +kernel
theorem dX3_lay_78 : decode cX3_lay 78 = .ok (.iload 4, 2) := by decide +kernel
theorem dX3_lay_80 : decode cX3_lay 80 = .ok (.iload_n 2, 1) := by decide +kernel
theorem dX3_lay_81 : decode cX3_lay 81 = .ok (.iconst 3, 1) := by decide +kernel
theorem dX3_lay_82 : decode cX3_lay 82 = .ok (.if_icmp .ne 7, 3) := by decide +kernel
theorem dX3_lay_85 : decode cX3_lay 85 = .ok (.iconst 1, 1) := by decide +kernel
theorem dX3_lay_86 : decode cX3_lay 86 = .ok (.goto 4, 3) := by decide +kernel
theorem dX3_lay_89 : decode cX3_lay 89 = .ok (.iconst 0, 1) := by decide +kernel
theorem dX3_lay_90 : decode cX3_lay 90 = .ok (.iastore, 1) := by decide +kernel
theorem dX3_lay_91 : decode cX3_lay 91 = .ok (.aload_n 0, 1) := by decide +kernel
theorem dX3_lay_92 : decode cX3_lay 92 = .ok (.getfield 31, 3) := by decide +kernel
theorem dX3_lay_95 : decode cX3_lay 95 = .ok (.iload 4, 2) := by decide +kernel
theorem dX3_lay_97 : decode cX3_lay 97 = .ok (.iconst 0, 1) := by decide +kernel
theorem dX3_lay_98 : decode cX3_lay 98 = .ok (.iastore, 1) := by decide +kernel
theorem dX3_lay_99 : decode cX3_lay 99 = .ok (.iinc 4 1, 3) := by decide +kernel
theorem dX3_lay_102 : decode cX3_lay 102 = .ok (.goto (-38), 3) := by decide +kernel
theorem dX3_lay_105 : decode cX3_lay 105 = .ok (.aload_n 0, 1) := by decide +kernel
theorem dX3_lay_106 : decode cX3_lay 106 = .ok (.getfield 18, 3) := by decide +kernel
theorem dX3_lay_109 : decode cX3_lay 109 = .ok (.bipush 7, 2) := by decide +kernel
theorem dX3_lay_111 : decode cX3_lay 111 = .ok (.dup2, 1) := by decide +kernel
theorem dX3_lay_112 : decode cX3_lay 112 = .ok (.iaload, 1) := by decide +kernel
theorem dX3_lay_113 : decode cX3_lay 113 = .ok (.iconst 1, 1) := by decide +kernel
theorem dX3_lay_114 : decode cX3_lay 114 = .ok (.iadd, 1) := by decide +kernel
theorem dX3_lay_115 : decode cX3_lay 115 = .ok (.iastore, 1) := by decide +kernel
theorem dX3_lay_116 : decode cX3_lay 116 = .ok (.iload_n 3, 1) := by decide +kernel
theorem dX3_lay_117 : decode cX3_lay 117 = .ok (.ireturn, 1) := by decide +kernel
end
section
theorem dX4_init_0 : decode cX4_init 0 = .ok (.aload_n 0, 1) := by decide +kernel
theorem dX4_init_1 : decode cX4_init 1 = .ok (.invokespecial 3, 3) := by decide +kernel
theorem dX4_init_4 : decode cX4_init 4 = .ok (.aload_n 0, 1) := by decide +kernel
theorem dX4_init_5 : decode cX4_init 5 = .ok (.sipush 150, 3) := by decide +kernel
theorem dX4_init_8 : decode cX4_init 8 = .ok (.newarray .int, 2) := by decide +kernel
theorem dX4_init_10 : decode cX4_init 10 = .ok (.putfield 9, 3) := by decide +kernel
theorem dX4_init_13 : decode cX4_init 13 = .ok (.aload_n 0, 1) := by decide +kernel
theorem dX4_init_14 : decode cX4_init 14 = .ok (.sipush 450, 3) := by decide +kernel
theorem dX4_init_17 : decode cX4_init 17 = .ok (.newarray .int, 2) := by decide +kernel
theorem dX4_init_19 : decode cX4_init 19 = .ok (.putfield 15, 3) := by decide +kernel
theorem dX4_init_22 : decode cX4_init 22 = .ok (.aload_n 0, 1) := by decide +kernel
theorem dX4_init_23 : decode cX4_init 23 = .ok (.sipush 150, 3) := by decide +kernel
theorem dX4_init_26 : decode cX4_init 26 = .ok (.newarray .int, 2) := by decide +kernel
theorem dX4_init_28 : decode cX4_init 28 = .ok (.putfield 18, 3) := by decide +kernel
theorem dX4_init_31 : decode cX4_init 31 = .ok (.aload_n 0, 1) := by decide +kernel
theorem dX4_init_32 : decode cX4_init 32 = .ok (.sipush 150, 3) := by decide +kernel
theorem dX4_init_35 : decode cX4_init 35 = .ok (.newarray .long, 2) := by decide +kernel
theorem dX4_init_37 : decode cX4_init 37 = .ok (.putfield 21, 3) := by decide +kernel
theorem dX4_init_40 : decode cX4_init 40 = .ok (.return_, 1) := by decide +kernel
theorem dX4_actLabelled_0 : decode cX4_actLabelled 0 = .ok (.iconst 0, 1) := by decide +kernel
theorem dX4_actLabelled_1 : decode cX4_actLabelled 1 = .ok (.istore_n 3, 1) := by decide +kernel
theorem dX4_actLabelled_2 : decode cX4_actLabelled 2 = .ok (.iload_n 3, 1) := by decide +kernel
theorem dX4_actLabelled_3 : decode cX4_actLabelled 3 = .ok (.aload_n 0, 1) := by decide +kernel
theorem dX4_actLabelled_4 : decode cX4_actLabelled 4 = .ok (.getfield 25, 3) := by decide +kernel
theorem dX4_actLabelled_7 : decode cX4_actLabelled 7 = .ok (.if_icmp .ge 22, 3) := by decide +kernel
theorem dX4_actLabelled_10 : decode cX4_actLabelled 10 = .ok (.aload_n 0, 1) := by decide +kernel
theorem dX4_actLabelled_11 : decode cX4_actLabelled 11 = .ok (.getfield 21, 3) := by decide +kernel
theorem dX4_actLabelled_14 : decode cX4_actLabelled 14 = .ok (.iload_n 3, 1) := by decide +kernel
theorem dX4_actLabelled_15 : decode cX4_actLabelled 15 = .ok (.laload, 1) := by decide +kernel
theorem dX4_actLabelled_16 : decode cX4_actLabelled 16 = .ok (.lload_n 1, 1) := by decide +kernel
theorem dX4_actLabelled_17 : decode cX4_actLabelled 17 = .ok (.lcmp, 1) := by decide +kernel
theorem dX4_actLabelled_18 : decode cX4_actLabelled 18 = .ok (.ifCond .ne 5, 3) := by decide +kernel
theorem dX4_actLabelled_21 : decode cX4_actLabelled 21 = .ok (.iload_n 3, 1) := by decide +kernel
theorem dX4_actLabelled_22 : decode cX4_actLabelled 22 = .ok (.ireturn, 1) := by decide +kernel
theorem dX4_actLabelled_23 : decode cX4_actLabelled 23 = .ok (.iinc 3 1, 3) := by decide +kernel
theorem dX4_actLabelled_26 : decode cX4_actLabelled 26 = .ok (.goto (-24), 3) := by decide +kernel
theorem dX4_actLabelled_29 : decode cX4_actLabelled 29 = .ok (.iconst (-1), 1) := by decide +kernel
theorem dX4_actLabelled_30 : decode cX4_actLabelled 30 = .ok (.ireturn, 1) := by decide +kernel
theorem dX5_init_0 : decode cX5_init 0 = .ok (.aload_n 0, 1) := by decide +kernel
theorem dX5_init_1 : decode cX5_init 1 = .ok (.invokespecial 3, 3) := by decide +kernel
theorem dX5_init_4 : decode cX5_init 4 = .ok (.aload_n 0, 1) := by decide +kernel
theorem dX5_init_5 : decode cX5_init 5 = .ok (.new 9, 3) := by decide +kernel
theorem dX5_init_8 : decode cX5_init 8 = .ok (.dup, 1) := by decide +kernel
theorem dX5_init_9 : decode cX5_init 9 = .ok (.invokespecial 11, 3) := by decide +kernel
theorem dX5_init_12 : decode cX5_init 12 = .ok (.putfield 12, 3) := by decide +kernel
theorem dX5_init_15 : decode cX5_init 15 = .ok (.return_, 1) := by decide +kernel
theorem dX5_readText_0 : decode cX5_readText 0 = .ok (.aload_n 0, 1) := by decide +kernel
theorem dX5_readText_1 : decode cX5_readText 1 = .ok (.iconst 0, 1) := by decide +kernel
theorem dX5_readText_2 : decode cX5_readText 2 = .ok (.putfield 18, 3) := by decide +kernel
theorem dX5_readText_5 : decode cX5_readText 5 = .ok (.aload_n 3, 1) := by decide +kernel
theorem dX5_readText_6 : decode cX5_readText 6 = .ok (.iconst 0, 1) := by decide +kernel
theorem dX5_readText_7 : decode cX5_readText 7 = .ok (.putfield 22, 3) := by decide +kernel
theorem dX5_readText_10 : decode cX5_readText 10 = .ok (.aload_n 0, 1) := by decide +kernel
theorem dX5_readText_11 : decode cX5_readText 11 = .ok (.getfield 12, 3) := by decide +kernel
theorem dX5_readText_14 : decode cX5_readText 14 = .ok (.aload_n 1, 1) := by decide +kernel
theorem dX5_readText_15 : decode cX5_readText 15 = .ok (.iload_n 2, 1) := by decide +kernel
theorem dX5_readText_16 : decode cX5_readText 16 = .ok (.invokevirtual 27, 3) := by decide +kernel
theorem dX5_readText_19 : decode cX5_readText 19 = .ok (.istore 4, 2) := by decide +kernel
theorem dX5_readText_21 : decode cX5_readText 21 = .ok (.iload 4, 2) := by decide +kernel
theorem dX5_readText_23 : decode cX5_readText 23 = .ok (.iconst (-1), 1) := by decide +kernel
theorem dX5_readText_24 : decode cX5_readText 24 = .ok (.if_icmp .eq 11, 3) := by decide +kernel
theorem dX5_readText_27 : decode cX5_readText 27 = .ok (.aload_n 0, 1) := by decide +kernel
theorem dX5_readText_28 : decode cX5_readText 28 = .ok (.iload 4, 2) := by decide +kernel
theorem dX5_readText_30 : decode cX5_readText 30 = .ok (.putfield 31, 3) := by decide +kernel
theorem dX5_readText_33 : decode cX5_readText 33 = .ok (.iconst 1, 1) := by decide +kernel
theorem dX5_readText_34 : decode cX5_readText 34 = .ok (.ireturn, 1) := by decide +kernel
theorem dX5_readText_35 : decode cX5_readText 35 = .ok (.iconst 0, 1) := by decide +kernel
theorem dX5_readText_36 : decode cX5_readText 36 = .ok (.istore 5, 2) := by decide +kernel
theorem dX5_readText_38 : decode cX5_readText 38 = .ok (.iload 5, 2) := by decide +kernel
theorem dX5_readText_40 : decode cX5_readText 40 = .ok (.aload_n 0, 1) := by decide +kernel
theorem dX5_readText_41 : decode cX5_readText 41 = .ok (.getfield 12, 3) := by decide +kernel
theorem dX5_readText_44 : decode cX5_readText 44 = .ok (.getfield 34, 3) := by decide +kernel
theorem dX5_readText_47 : decode cX5_readText 47 = .ok (.if_icmp .ge 29, 3) := by decide +kernel
theorem dX5_readText_50 : decode cX5_readText 50 = .ok (.aload_n 0, 1) := by decide +kernel
theorem dX5_readText_51 : decode cX5_readText 51 = .ok (.getfield 18, 3) := by decide +kernel
theorem dX5_readText_54 : decode cX5_readText 54 = .ok (.ifCond .ne 22, 3) := by decide +kernel
theorem dX5_readText_57 : decode cX5_readText 57 = .ok (.iload 5, 2) := by decide +kernel
theorem dX5_readText_59 : decode cX5_readText 59 = .ok (.iconst 1, 1) := by decide +kernel
theorem dX5_readText_60 : decode cX5_readText 60 = .ok (.iadd, 1) := by decide +kernel
theorem dX5_readText_61 : decode cX5_readText 61 = .ok (.aload_n 0, 1) := by decide +kernel
theorem dX5_readText_62 : decode cX5_readText 62 = .ok (.iload 5, 2) := by decide +kernel
theorem dX5_readText_64 : decode cX5_readText 64 = .ok (.aload_n 3, 1) := by decide +kernel
theorem dX5_readText_65 : decode cX5_readText 65 = .ok (.invokevirtual 35, 3) := by decide +kernel
theorem dX5_readText_68 : decode cX5_readText 68 = .ok (.invokestatic 39, 3) := by decide +kernel
theorem dX5_readText_71 : decode cX5_readText 71 = .ok (.istore 5, 2) := by decide +kernel
theorem dX5_readText_73 : decode cX5_readText 73 = .ok (.goto (-35), 3) := by decide +kernel
theorem dX5_readText_76 : decode cX5_readText 76 = .ok (.aload_n 0, 1) := by decide +kernel
theorem dX5_readText_77 : decode cX5_readText 77 = .ok (.getfield 18, 3) := by decide +kernel
theorem dX5_readText_80 : decode cX5_readText 80 = .ok (.ifCond .ne 8, 3) := by decide +kernel
theorem dX5_readText_83 : decode cX5_readText 83 = .ok (.aload_n 0, 1) := by decide +kernel
theorem dX5_readText_84 : decode cX5_readText 84 = .ok (.aload_n 3, 1) := by decide +kernel
theorem dX5_readText_85 : decode cX5_readText 85 = .ok (.invokevirtual 45, 3) := by decide +kernel
theorem dX5_readText_88 : decode cX5_readText 88 = .ok (.aload_n 0, 1) := by decide +kernel
theorem dX5_readText_89 : decode cX5_readText 89 = .ok (.getfield 18, 3) := by decide +kernel
theorem dX5_readText_92 : decode cX5_readText 92 = .ok (.ireturn, 1) := by decide +kernel
theorem dX5_readAct_0 : decode cX5_readAct 0 = .ok (.aload_n 0, 1) := by decide +kernel
theorem dX5_readAct_1 : decode cX5_readAct 1 = .ok (.iload_n 1, 1) := by decide +kernel
theorem dX5_readAct_2 : decode cX5_readAct 2 = .ok (.aload_n 2, 1) := by decide +kernel
theorem dX5_readAct_3 : decode cX5_readAct 3 = .ok (.invokevirtual 49, 3) := by decide +kernel
theorem dX5_readAct_6 : decode cX5_readAct 6 = .ok (.ifCond .ne 7, 3) := by decide +kernel
theorem dX5_readAct_9 : decode cX5_readAct 9 = .ok (.iload_n 1, 1) := by decide +kernel
theorem dX5_readAct_10 : decode cX5_readAct 10 = .ok (.iconst 1, 1) := by decide +kernel
theorem dX5_readAct_11 : decode cX5_readAct 11 = .ok (.iadd, 1) := by decide +kernel
theorem dX5_readAct_12 : decode cX5_readAct 12 = .ok (.ireturn, 1) := by decide +kernel
theorem dX5_readAct_13 : decode cX5_readAct 13 = .ok (.aload_n 0, 1) := by decide +kernel
theorem dX5_readAct_14 : decode cX5_readAct 14 = .ok (.getfield 12, 3) := by decide +kernel
theorem dX5_readAct_17 : decode cX5_readAct 17 = .ok (.iload_n 1, 1) := by decide +kernel
theorem dX5_readAct_18 : decode cX5_readAct 18 = .ok (.invokevirtual 53, 3) := by decide +kernel
theorem dX5_readAct_21 : decode cX5_readAct 21 = .ok (.iconst 3, 1) := by decide +kernel
theorem dX5_readAct_22 : decode cX5_readAct 22 = .ok (.if_icmp .ne 7, 3) := by decide +kernel
theorem dX5_readAct_25 : decode cX5_readAct 25 = .ok (.iconst 1, 1) := by decide +kernel
theorem dX5_readAct_26 : decode cX5_readAct 26 = .ok (.goto 4, 3) := by decide +kernel
theorem dX5_readAct_29 : decode cX5_readAct 29 = .ok (.iconst 0, 1) := by decide +kernel
theorem dX5_readAct_30 : decode cX5_readAct 30 = .ok (.istore_n 3, 1) := by decide +kernel
theorem dX5_readAct_31 : decode cX5_readAct 31 = .ok (.iload_n 3, 1) := by decide +kernel
theorem dX5_readAct_32 : decode cX5_readAct 32 = .ok (.ifCond .eq 9, 3) := by decide +kernel
theorem dX5_readAct_35 : decode cX5_readAct 35 = .ok (.iload_n 1, 1) := by decide +kernel
theorem dX5_readAct_36 : decode cX5_readAct 36 = .ok (.iconst 2, 1) := by decide +kernel
theorem dX5_readAct_37 : decode cX5_readAct 37 = .ok (.iadd, 1) := by decide +kernel
theorem dX5_readAct_38 : decode cX5_readAct 38 = .ok (.goto 4, 3) := by decide +kernel
theorem dX5_readAct_41 : decode cX5_readAct 41 = .ok (.iload_n 1, 1) := by decide +kernel
theorem dX5_readAct_42 : decode cX5_readAct 42 = .ok (.istore 4, 2) := by decide +kernel
theorem dX5_readAct_44 : decode cX5_readAct 44 = .ok (.iload_n 3, 1) := by decide +kernel
theorem dX5_readAct_45 : decode cX5_readAct 45 = .ok (.ifCond .eq 14, 3) := by decide +kernel
theorem dX5_readAct_48 : decode cX5_readAct 48 = .ok (.aload_n 0, 1) := by decide +kernel
theorem dX5_readAct_49 : decode cX5_readAct 49 = .ok (.iload_n 1, 1) := by decide +kernel
theorem dX5_readAct_50 : decode cX5_readAct 50 = .ok (.iconst 1, 1) := by decide +kernel
theorem dX5_readAct_51 : decode cX5_readAct 51 = .ok (.iadd, 1) := by decide +kernel
theorem dX5_readAct_52 : decode cX5_readAct 52 = .ok (.iconst 4, 1) := by decide +kernel
theorem dX5_readAct_53 : decode cX5_readAct 53 = .ok (.invokevirtual 57, 3) := by decide +kernel
theorem dX5_readAct_56 : decode cX5_readAct 56 = .ok (.ifCond .eq 13, 3) := by decide +kernel
theorem dX5_readAct_59 : decode cX5_readAct 59 = .ok (.aload_n 0, 1) := by decide +kernel
theorem dX5_readAct_60 : decode cX5_readAct 60 = .ok (.iload 4, 2) := by decide +kernel
theorem dX5_readAct_62 : decode cX5_readAct 62 = .ok (.iconst 2, 1) := by decide +kernel
theorem dX5_readAct_63 : decode cX5_readAct 63 = .ok (.invokevirtual 57, 3) := by decide +kernel
theorem dX5_readAct_66 : decode cX5_readAct 66 = .ok (.ifCond .ne 7, 3) := by decide +kernel
theorem dX5_readAct_69 : decode cX5_readAct 69 = .ok (.iload_n 1, 1) := by decide +kernel
theorem dX5_readAct_70 : decode cX5_readAct 70 = .ok (.iconst 1, 1) := by decide +kernel
theorem dX5_readAct_71 : decode cX5_readAct 71 = .ok (.iadd, 1) := by decide +kernel
theorem dX5_readAct_72 : decode cX5_readAct 72 = .ok (.ireturn, 1) := by decide +kernel
theorem dX5_readAct_73 : decode cX5_readAct 73 = .ok (.aload_n 2, 1) := by decide +kernel
theorem dX5_readAct_74 : decode cX5_readAct 74 = .ok (.getfield 22, 3) := by decide +kernel
theorem dX5_readAct_77 : decode cX5_readAct 77 = .ok (.istore 5, 2) := by decide +kernel
theorem dX5_readAct_79 : decode cX5_readAct 79 = .ok (.aload_n 0, 1) := by decide +kernel
theorem dX5_readAct_80 : decode cX5_readAct 80 = .ok (.getfield 12, 3) := by decide +kernel
theorem dX5_readAct_83 : decode cX5_readAct 83 = .ok (.iload 4, 2) := by decide +kernel
theorem dX5_readAct_85 : decode cX5_readAct 85 = .ok (.invokevirtual 61, 3) := by decide +kernel
theorem dX5_readAct_88 : decode cX5_readAct 88 = .ok (.istore 6, 2) := by decide +kernel
theorem dX5_readAct_90 : decode cX5_readAct 90 = .ok (.aload_n 2, 1) := by decide +kernel
theorem dX5_readAct_91 : decode cX5_readAct 91 = .ok (.getfield 64, 3) := by decide +kernel
theorem dX5_readAct_94 : decode cX5_readAct 94 = .ok (.iload 5, 2) := by decide +kernel
theorem dX5_readAct_96 : decode cX5_readAct 96 = .ok (.iload_n 3, 1) := by decide +kernel
theorem dX5_readAct_97 : decode cX5_readAct 97 = .ok (.ifCond .eq 14, 3) := by decide +kernel
theorem dX5_readAct_100 : decode cX5_readAct 100 = .ok (.aload_n 0, 1) := by decide +kernel
theorem dX5_readAct_101 : decode cX5_readAct 101 = .ok (.getfield 12, 3) := by decide +kernel
theorem dX5_readAct_104 : decode cX5_readAct 104 = .ok (.iload_n 1, 1) := by decide +kernel
theorem dX5_readAct_105 : decode cX5_readAct 105 = .ok (.invokevirtual 68, 3) := by decide +kernel
theorem dX5_readAct_108 : decode cX5_readAct 108 = .ok (.goto 4, 3) := by decide +kernel
theorem dX5_readAct_111 : decode cX5_readAct 111 = .ok (.lconst 0, 1) := by decide +kernel
theorem dX5_readAct_112 : decode cX5_readAct 112 = .ok (.lastore, 1) := by decide +kernel
theorem dX5_readAct_113 : decode cX5_readAct 113 = .ok (.aload_n 2, 1) := by decide +kernel
theorem dX5_readAct_114 : decode cX5_readAct 114 = .ok (.getfield 72, 3) := by decide +kernel
theorem dX5_readAct_117 : decode cX5_readAct 117 = .ok (.iload 5, 2) := by decide +kernel
theorem dX5_readAct_119 : decode cX5_readAct 119 = .ok (.iload 6, 2) := by decide +kernel
theorem dX5_readAct_121 : decode cX5_readAct 121 = .ok (.iastore, 1) := by decide +kernel
theorem dX5_readAct_122 : decode cX5_readAct 122 = .ok (.aload_n 2, 1) := by decide +kernel
theorem dX5_readAct_123 : decode cX5_readAct 123 = .ok (.getfield 76, 3) := by decide +kernel
theorem dX5_readAct_126 : decode cX5_readAct 126 = .ok (.iload 5, 2) := by decide +kernel
theorem dX5_readAct_128 : decode cX5_readAct 128 = .ok (.aload_n 0, 1) := by decide +kernel
theorem dX5_readAct_129 : decode cX5_readAct 129 = .ok (.getfield 12, 3) := by decide +kernel
theorem dX5_readAct_132 : decode cX5_readAct 132 = .ok (.iload 4, 2) := by decide +kernel
theorem dX5_readAct_134 : decode cX5_readAct 134 = .ok (.invokevirtual 79, 3) := by decide +kernel
theorem dX5_readAct_137 : decode cX5_readAct 137 = .ok (.iastore, 1) := by decide +kernel
theorem dX5_readAct_138 : decode cX5_readAct 138 = .ok (.aload_n 2, 1) := by decide +kernel
theorem dX5_readAct_139 : decode cX5_readAct 139 = .ok (.dup, 1) := by decide +kernel
theorem dX5_readAct_140 : decode cX5_readAct 140 = .ok (.getfield 22, 3) := by decide +kernel
theorem dX5_readAct_143 : decode cX5_readAct 143 = .ok (.iconst 1, 1) := by decide +kernel
theorem dX5_readAct_144 : decode cX5_readAct 144 = .ok (.iadd, 1) := by decide +kernel
theorem dX5_readAct_145 : decode cX5_readAct 145 = .ok (.putfield 22, 3) := by decide +kernel
theorem dX5_readAct_148 : decode cX5_readAct 148 = .ok (.aload_n 0, 1) := by decide +kernel
theorem dX5_readAct_149 : decode cX5_readAct 149 = .ok (.iload 4, 2) := by decide +kernel
theorem dX5_readAct_151 : decode cX5_readAct 151 = .ok (.iconst 1, 1) := by decide +kernel
theorem dX5_readAct_152 : decode cX5_readAct 152 = .ok (.iadd, 1) := by decide +kernel
theorem dX5_readAct_153 : decode cX5_readAct 153 = .ok (.getstatic 82, 3) := by decide +kernel
theorem dX5_readAct_156 : decode cX5_readAct 156 = .ok (.iload 6, 2) := by decide +kernel
theorem dX5_readAct_158 : decode cX5_readAct 158 = .ok (.aaload, 1) := by decide +kernel
theorem dX5_readAct_159 : decode cX5_readAct 159 = .ok (.getfield 86, 3) := by decide +kernel
theorem dX5_readAct_162 : decode cX5_readAct 162 = .ok (.iload 5, 2) := by decide +kernel
theorem dX5_readAct_164 : decode cX5_readAct 164 = .ok (.aload_n 2, 1) := by decide +kernel
theorem dX5_readAct_165 : decode cX5_readAct 165 = .ok (.invokevirtual 92, 3) := by decide +kernel
theorem dX5_readAct_168 : decode cX5_readAct 168 = .ok (.ireturn, 1) := by decide +kernel
theorem dX5_mayBegin_0 : decode cX5_mayBegin 0 = .ok (.aload_n 0, 1) := by decide +kernel
theorem dX5_mayBegin_1 : decode cX5_mayBegin 1 = .ok (.getfield 12, 3) := by decide +kernel
theorem dX5_mayBegin_4 : decode cX5_mayBegin 4 = .ok (.iload_n 1, 1) := by decide +kernel
theorem dX5_mayBegin_5 : decode cX5_mayBegin 5 = .ok (.invokevirtual 53, 3) := by decide +kernel
theorem dX5_mayBegin_8 : decode cX5_mayBegin 8 = .ok (.istore_n 3, 1) := by decide +kernel
theorem dX5_mayBegin_9 : decode cX5_mayBegin 9 = .ok (.iload_n 3, 1) := by decide +kernel
theorem dX5_mayBegin_10 : decode cX5_mayBegin 10 = .ok (.iconst 3, 1) := by decide +kernel
theorem dX5_mayBegin_11 : decode cX5_mayBegin 11 = .ok (.if_icmp .eq 15, 3) := by decide +kernel
theorem dX5_mayBegin_14 : decode cX5_mayBegin 14 = .ok (.iload_n 3, 1) := by decide +kernel
theorem dX5_mayBegin_15 : decode cX5_mayBegin 15 = .ok (.iconst 2, 1) := by decide +kernel
theorem dX5_mayBegin_16 : decode cX5_mayBegin 16 = .ok (.if_icmp .eq 10, 3) := by decide +kernel
theorem dX5_mayBegin_19 : decode cX5_mayBegin 19 = .ok (.aload_n 0, 1) := by decide +kernel
theorem dX5_mayBegin_20 : decode cX5_mayBegin 20 = .ok (.iconst 2, 1) := by decide +kernel
theorem dX5_mayBegin_21 : decode cX5_mayBegin 21 = .ok (.iload_n 1, 1) := by decide +kernel
theorem dX5_mayBegin_22 : decode cX5_mayBegin 22 = .ok (.invokevirtual 96, 3) := by decide +kernel
theorem dX5_mayBegin_25 : decode cX5_mayBegin 25 = .ok (.ireturn, 1) := by decide +kernel
theorem dX5_mayBegin_26 : decode cX5_mayBegin 26 = .ok (.iload_n 3, 1) := by decide +kernel
theorem dX5_mayBegin_27 : decode cX5_mayBegin 27 = .ok (.iconst 3, 1) := by decide +kernel
theorem dX5_mayBegin_28 : decode cX5_mayBegin 28 = .ok (.if_icmp .ne 21, 3) := by decide +kernel
theorem dX5_mayBegin_31 : decode cX5_mayBegin 31 = .ok (.aload_n 0, 1) := by decide +kernel
theorem dX5_mayBegin_32 : decode cX5_mayBegin 32 = .ok (.getfield 12, 3) := by decide +kernel
theorem dX5_mayBegin_35 : decode cX5_mayBegin 35 = .ok (.iload_n 1, 1) := by decide +kernel
theorem dX5_mayBegin_36 : decode cX5_mayBegin 36 = .ok (.iconst 1, 1) := by decide +kernel
theorem dX5_mayBegin_37 : decode cX5_mayBegin 37 = .ok (.iadd, 1) := by decide +kernel
theorem dX5_mayBegin_38 : decode cX5_mayBegin 38 = .ok (.invokevirtual 53, 3) := by decide +kernel
theorem dX5_mayBegin_41 : decode cX5_mayBegin 41 = .ok (.iconst 4, 1) := by decide +kernel
theorem dX5_mayBegin_42 : decode cX5_mayBegin 42 = .ok (.if_icmp .ne 7, 3) := by decide +kernel
theorem dX5_mayBegin_45 : decode cX5_mayBegin 45 = .ok (.iconst 1, 1) := by decide +kernel
theorem dX5_mayBegin_46 : decode cX5_mayBegin 46 = .ok (.goto 4, 3) := by decide +kernel
theorem dX5_mayBegin_49 : decode cX5_mayBegin 49 = .ok (.iconst 0, 1) := by decide +kernel
theorem dX5_mayBegin_50 : decode cX5_mayBegin 50 = .ok (.istore 4, 2) := by decide +kernel
theorem dX5_mayBegin_52 : decode cX5_mayBegin 52 = .ok (.iload 4, 2) := by decide +kernel
theorem dX5_mayBegin_54 : decode cX5_mayBegin 54 = .ok (.ifCond .eq 26, 3) := by decide +kernel
theorem dX5_mayBegin_57 : decode cX5_mayBegin 57 = .ok (.aload_n 2, 1) := by decide +kernel
theorem dX5_mayBegin_58 : decode cX5_mayBegin 58 = .ok (.aload_n 0, 1) := by decide +kernel
theorem dX5_mayBegin_59 : decode cX5_mayBegin 59 = .ok (.getfield 12, 3) := by decide +kernel
theorem dX5_mayBegin_62 : decode cX5_mayBegin 62 = .ok (.iload_n 1, 1) := by decide +kernel
theorem dX5_mayBegin_63 : decode cX5_mayBegin 63 = .ok (.invokevirtual 68, 3) := by decide +kernel
theorem dX5_mayBegin_66 : decode cX5_mayBegin 66 = .ok (.invokevirtual 99, 3) := by decide +kernel
theorem dX5_mayBegin_69 : decode cX5_mayBegin 69 = .ok (.iconst (-1), 1) := by decide +kernel
theorem dX5_mayBegin_70 : decode cX5_mayBegin 70 = .ok (.if_icmp .eq 10, 3) := by decide +kernel
theorem dX5_mayBegin_73 : decode cX5_mayBegin 73 = .ok (.aload_n 0, 1) := by decide +kernel
theorem dX5_mayBegin_74 : decode cX5_mayBegin 74 = .ok (.iconst 3, 1) := by decide +kernel
theorem dX5_mayBegin_75 : decode cX5_mayBegin 75 = .ok (.iload_n 1, 1) := by decide +kernel
theorem dX5_mayBegin_76 : decode cX5_mayBegin 76 = .ok (.invokevirtual 96, 3) := by decide +kernel
theorem dX5_mayBegin_79 : decode cX5_mayBegin 79 = .ok (.ireturn, 1) := by decide +kernel
theorem dX5_mayBegin_80 : decode cX5_mayBegin 80 = .ok (.aload_n 2, 1) := by decide +kernel
theorem dX5_mayBegin_81 : decode cX5_mayBegin 81 = .ok (.getfield 22, 3) := by decide +kernel
theorem dX5_mayBegin_84 : decode cX5_mayBegin 84 = .ok (.sipush 150, 3) := by decide +kernel
theorem dX5_mayBegin_87 : decode cX5_mayBegin 87 = .ok (.if_icmp .lt 12, 3) := by decide +kernel
theorem dX5_mayBegin_90 : decode cX5_mayBegin 90 = .ok (.aload_n 0, 1) := by decide +kernel
theorem dX5_mayBegin_91 : decode cX5_mayBegin 91 = .ok (.iconst 5, 1) := by decide +kernel
theorem dX5_mayBegin_92 : decode cX5_mayBegin 92 = .ok (.iload_n 1, 1) := by decide +kernel
theorem dX5_mayBegin_93 : decode cX5_mayBegin 93 = .ok (.invokevirtual 96, 3) := by decide +kernel
theorem dX5_mayBegin_96 : decode cX5_mayBegin 96 = .ok (.ifCond .eq 7, 3) := by decide +kernel
theorem dX5_mayBegin_99 : decode cX5_mayBegin 99 = .ok (.iconst 1, 1) := by decide +kernel
theorem dX5_mayBegin_100 : decode cX5_mayBegin 100 = .ok (.goto 4, 3) := by decide +kernel
theorem dX5_mayBegin_103 : decode cX5_mayBegin 103 = .ok (.iconst 0, 1) := by decide +kernel
theorem dX5_mayBegin_104 : decode cX5_mayBegin 104 = .ok (.ireturn, 1) := by decide +kernel
theorem dX5_readTaken_0 : decode cX5_readTaken 0 = .ok (.iload_n 1, 1) := by decide +kernel
theorem dX5_readTaken_1 : decode cX5_readTaken 1 = .ok (.istore 5, 2) := by decide +kernel
theorem dX5_readTaken_3 : decode cX5_readTaken 3 = .ok (.iconst 0, 1) := by decide +kernel
theorem dX5_readTaken_4 : decode cX5_readTaken 4 = .ok (.istore 6, 2) := by decide +kernel
theorem dX5_readTaken_6 : decode cX5_readTaken 6 = .ok (.iload 6, 2) := by decide +kernel
theorem dX5_readTaken_8 : decode cX5_readTaken 8 = .ok (.aload_n 2, 1) := by decide +kernel
theorem dX5_readTaken_9 : decode cX5_readTaken 9 = .ok (.invokevirtual 103, 3) := by decide +kernel
theorem dX5_readTaken_12 : decode cX5_readTaken 12 = .ok (.if_icmp .ge 92, 3) := by decide +kernel
theorem dX5_readTaken_15 : decode cX5_readTaken 15 = .ok (.iload 6, 2) := by decide +kernel
theorem dX5_readTaken_17 : decode cX5_readTaken 17 = .ok (.iconst 3, 1) := by decide +kernel
theorem dX5_readTaken_18 : decode cX5_readTaken 18 = .ok (.if_icmp .ge 86, 3) := by decide +kernel
theorem dX5_readTaken_21 : decode cX5_readTaken 21 = .ok (.aload_n 0, 1) := by decide +kernel
theorem dX5_readTaken_22 : decode cX5_readTaken 22 = .ok (.iload 5, 2) := by decide +kernel
theorem dX5_readTaken_24 : decode cX5_readTaken 24 = .ok (.aload_n 2, 1) := by decide +kernel
theorem dX5_readTaken_25 : decode cX5_readTaken 25 = .ok (.iload 6, 2) := by decide +kernel
theorem dX5_readTaken_27 : decode cX5_readTaken 27 = .ok (.invokevirtual 109, 3) := by decide +kernel
theorem dX5_readTaken_30 : decode cX5_readTaken 30 = .ok (.invokestatic 113, 3) := by decide +kernel
theorem dX5_readTaken_33 : decode cX5_readTaken 33 = .ok (.invokevirtual 57, 3) := by decide +kernel
theorem dX5_readTaken_36 : decode cX5_readTaken 36 = .ok (.ifCond .ne 8, 3) := by decide +kernel
theorem dX5_readTaken_39 : decode cX5_readTaken 39 = .ok (.iload 5, 2) := by decide +kernel
theorem dX5_readTaken_41 : decode cX5_readTaken 41 = .ok (.iconst 1, 1) := by decide +kernel
theorem dX5_readTaken_42 : decode cX5_readTaken 42 = .ok (.iadd, 1) := by decide +kernel
theorem dX5_readTaken_43 : decode cX5_readTaken 43 = .ok (.ireturn, 1) := by decide +kernel
theorem dX5_readTaken_44 : decode cX5_readTaken 44 = .ok (.aload_n 0, 1) := by decide +kernel
theorem dX5_readTaken_45 : decode cX5_readTaken 45 = .ok (.getfield 12, 3) := by decide +kernel
theorem dX5_readTaken_48 : decode cX5_readTaken 48 = .ok (.iload 5, 2) := by decide +kernel
theorem dX5_readTaken_50 : decode cX5_readTaken 50 = .ok (.invokevirtual 53, 3) := by decide +kernel
theorem dX5_readTaken_53 : decode cX5_readTaken 53 = .ok (.iconst 3, 1) := by decide +kernel
theorem dX5_readTaken_54 : decode cX5_readTaken 54 = .ok (.if_icmp .ne 7, 3) := by decide +kernel
theorem dX5_readTaken_57 : decode cX5_readTaken 57 = .ok (.iconst 1, 1) := by decide +kernel
theorem dX5_readTaken_58 : decode cX5_readTaken 58 = .ok (.goto 4, 3) := by decide +kernel
theorem dX5_readTaken_61 : decode cX5_readTaken 61 = .ok (.iconst 0, 1) := by decide +kernel
theorem dX5_readTaken_62 : decode cX5_readTaken 62 = .ok (.istore 7, 2) := by decide +kernel
theorem dX5_readTaken_64 : decode cX5_readTaken 64 = .ok (.aload 4, 2) := by decide +kernel
theorem dX5_readTaken_66 : decode cX5_readTaken 66 = .ok (.getfield 117, 3) := by decide +kernel
theorem dX5_readTaken_69 : decode cX5_readTaken 69 = .ok (.iload_n 3, 1) := by decide +kernel
theorem dX5_readTaken_70 : decode cX5_readTaken 70 = .ok (.iconst 3, 1) := by decide +kernel
theorem dX5_readTaken_71 : decode cX5_readTaken 71 = .ok (.imul, 1) := by decide +kernel
theorem dX5_readTaken_72 : decode cX5_readTaken 72 = .ok (.iload 6, 2) := by decide +kernel
theorem dX5_readTaken_74 : decode cX5_readTaken 74 = .ok (.iadd, 1) := by decide +kernel
theorem dX5_readTaken_75 : decode cX5_readTaken 75 = .ok (.iload 7, 2) := by decide +kernel
theorem dX5_readTaken_77 : decode cX5_readTaken 77 = .ok (.ifCond .eq 8, 3) := by decide +kernel
theorem dX5_readTaken_80 : decode cX5_readTaken 80 = .ok (.iload 5, 2) := by decide +kernel
theorem dX5_readTaken_82 : decode cX5_readTaken 82 = .ok (.goto 12, 3) := by decide +kernel
theorem dX5_readTaken_85 : decode cX5_readTaken 85 = .ok (.aload_n 0, 1) := by decide +kernel
theorem dX5_readTaken_86 : decode cX5_readTaken 86 = .ok (.getfield 12, 3) := by decide +kernel
theorem dX5_readTaken_89 : decode cX5_readTaken 89 = .ok (.iload 5, 2) := by decide +kernel
theorem dX5_readTaken_91 : decode cX5_readTaken 91 = .ok (.invokevirtual 61, 3) := by decide +kernel
theorem dX5_readTaken_94 : decode cX5_readTaken 94 = .ok (.iastore, 1) := by decide +kernel
theorem dX5_readTaken_95 : decode cX5_readTaken 95 = .ok (.iinc 5 1, 3) := by decide +kernel
theorem dX5_readTaken_98 : decode cX5_readTaken 98 = .ok (.iinc 6 1, 3) := by decide +kernel
theorem dX5_readTaken_101 : decode cX5_readTaken 101 = .ok (.goto (-95), 3) := by decide +kernel
theorem dX5_readTaken_104 : decode cX5_readTaken 104 = .ok (.aload_n 0, 1) := by decide +kernel
theorem dX5_readTaken_105 : decode cX5_readTaken 105 = .ok (.iload 5, 2) := by decide +kernel
theorem dX5_readTaken_107 : decode cX5_readTaken 107 = .ok (.iconst 5, 1) := by decide +kernel
theorem dX5_readTaken_108 : decode cX5_readTaken 108 = .ok (.invokevirtual 57, 3) := by decide +kernel
theorem dX5_readTaken_111 : decode cX5_readTaken 111 = .ok (.pop, 1) := by decide +kernel
theorem dX5_readTaken_112 : decode cX5_readTaken 112 = .ok (.iload 5, 2) := by decide +kernel
theorem dX5_readTaken_114 : decode cX5_readTaken 114 = .ok (.iconst 1, 1) := by decide +kernel
theorem dX5_readTaken_115 : decode cX5_readTaken 115 = .ok (.iadd, 1) := by decide +kernel
theorem dX5_readTaken_116 : decode cX5_readTaken 116 = .ok (.ireturn, 1) := by decide +kernel
theorem dX5_tokenFor_0 : decode cX5_tokenFor 0 = .ok (.iload_n 0, 1) := by decide +kernel
theorem dX5_tokenFor_1 : decode cX5_tokenFor 1 = .ok (.bipush 72, 2) := by decide +kernel
theorem dX5_tokenFor_3 : decode cX5_tokenFor 3 = .ok (.if_icmp .ne 7, 3) := by decide +kernel
theorem dX5_tokenFor_6 : decode cX5_tokenFor 6 = .ok (.iconst 1, 1) := by decide +kernel
theorem dX5_tokenFor_7 : decode cX5_tokenFor 7 = .ok (.goto 14, 3) := by decide +kernel
theorem dX5_tokenFor_10 : decode cX5_tokenFor 10 = .ok (.iload_n 0, 1) := by decide +kernel
theorem dX5_tokenFor_11 : decode cX5_tokenFor 11 = .ok (.bipush 78, 2) := by decide +kernel
theorem dX5_tokenFor_13 : decode cX5_tokenFor 13 = .ok (.if_icmp .ne 7, 3) := by decide +kernel
theorem dX5_tokenFor_16 : decode cX5_tokenFor 16 = .ok (.iconst 0, 1) := by decide +kernel
theorem dX5_tokenFor_17 : decode cX5_tokenFor 17 = .ok (.goto 4, 3) := by decide +kernel
theorem dX5_tokenFor_20 : decode cX5_tokenFor 20 = .ok (.iconst 3, 1) := by decide +kernel
theorem dX5_tokenFor_21 : decode cX5_tokenFor 21 = .ok (.ireturn, 1) := by decide +kernel
theorem dX5_bindLabels_0 : decode cX5_bindLabels 0 = .ok (.iconst 0, 1) := by decide +kernel
theorem dX5_bindLabels_1 : decode cX5_bindLabels 1 = .ok (.istore_n 2, 1) := by decide +kernel
theorem dX5_bindLabels_2 : decode cX5_bindLabels 2 = .ok (.iload_n 2, 1) := by decide +kernel
theorem dX5_bindLabels_3 : decode cX5_bindLabels 3 = .ok (.aload_n 1, 1) := by decide +kernel
theorem dX5_bindLabels_4 : decode cX5_bindLabels 4 = .ok (.getfield 22, 3) := by decide +kernel
theorem dX5_bindLabels_7 : decode cX5_bindLabels 7 = .ok (.if_icmp .ge 78, 3) := by decide +kernel
theorem dX5_bindLabels_10 : decode cX5_bindLabels 10 = .ok (.aload_n 0, 1) := by decide +kernel
theorem dX5_bindLabels_11 : decode cX5_bindLabels 11 = .ok (.getfield 18, 3) := by decide +kernel
theorem dX5_bindLabels_14 : decode cX5_bindLabels 14 = .ok (.ifCond .ne 71, 3) := by decide +kernel
theorem dX5_bindLabels_17 : decode cX5_bindLabels 17 = .ok (.getstatic 82, 3) := by decide +kernel
theorem dX5_bindLabels_20 : decode cX5_bindLabels 20 = .ok (.aload_n 1, 1) := by decide +kernel
theorem dX5_bindLabels_21 : decode cX5_bindLabels 21 = .ok (.getfield 72, 3) := by decide +kernel
theorem dX5_bindLabels_24 : decode cX5_bindLabels 24 = .ok (.iload_n 2, 1) := by decide +kernel
theorem dX5_bindLabels_25 : decode cX5_bindLabels 25 = .ok (.iaload, 1) := by decide +kernel
theorem dX5_bindLabels_26 : decode cX5_bindLabels 26 = .ok (.aaload, 1) := by decide +kernel
theorem dX5_bindLabels_27 : decode cX5_bindLabels 27 = .ok (.getfield 86, 3) := by decide +kernel
theorem dX5_bindLabels_30 : decode cX5_bindLabels 30 = .ok (.astore_n 3, 1) := by decide +kernel
theorem dX5_bindLabels_31 : decode cX5_bindLabels 31 = .ok (.iconst 0, 1) := by decide +kernel
theorem dX5_bindLabels_32 : decode cX5_bindLabels 32 = .ok (.istore 4, 2) := by decide +kernel
theorem dX5_bindLabels_34 : decode cX5_bindLabels 34 = .ok (.iload 4, 2) := by decide +kernel
theorem dX5_bindLabels_36 : decode cX5_bindLabels 36 = .ok (.aload_n 3, 1) := by decide +kernel
theorem dX5_bindLabels_37 : decode cX5_bindLabels 37 = .ok (.invokevirtual 103, 3) := by decide +kernel
theorem dX5_bindLabels_40 : decode cX5_bindLabels 40 = .ok (.if_icmp .ge 39, 3) := by decide +kernel
theorem dX5_bindLabels_43 : decode cX5_bindLabels 43 = .ok (.iload 4, 2) := by decide +kernel
theorem dX5_bindLabels_45 : decode cX5_bindLabels 45 = .ok (.iconst 3, 1) := by decide +kernel
theorem dX5_bindLabels_46 : decode cX5_bindLabels 46 = .ok (.if_icmp .ge 33, 3) := by decide +kernel
theorem dX5_bindLabels_49 : decode cX5_bindLabels 49 = .ok (.aload_n 3, 1) := by decide +kernel
theorem dX5_bindLabels_50 : decode cX5_bindLabels 50 = .ok (.iload 4, 2) := by decide +kernel
theorem dX5_bindLabels_52 : decode cX5_bindLabels 52 = .ok (.invokevirtual 109, 3) := by decide +kernel
theorem dX5_bindLabels_55 : decode cX5_bindLabels 55 = .ok (.invokestatic 113, 3) := by decide +kernel
theorem dX5_bindLabels_58 : decode cX5_bindLabels 58 = .ok (.iconst 3, 1) := by decide +kernel
theorem dX5_bindLabels_59 : decode cX5_bindLabels 59 = .ok (.if_icmp .ne 14, 3) := by decide +kernel
theorem dX5_bindLabels_62 : decode cX5_bindLabels 62 = .ok (.aload_n 0, 1) := by decide +kernel
theorem dX5_bindLabels_63 : decode cX5_bindLabels 63 = .ok (.aload_n 1, 1) := by decide +kernel
theorem dX5_bindLabels_64 : decode cX5_bindLabels 64 = .ok (.iload_n 2, 1) := by decide +kernel
theorem dX5_bindLabels_65 : decode cX5_bindLabels 65 = .ok (.iconst 3, 1) := by decide +kernel
theorem dX5_bindLabels_66 : decode cX5_bindLabels 66 = .ok (.imul, 1) := by decide +kernel
theorem dX5_bindLabels_67 : decode cX5_bindLabels 67 = .ok (.iload 4, 2) := by decide +kernel
theorem dX5_bindLabels_69 : decode cX5_bindLabels 69 = .ok (.iadd, 1) := by decide +kernel
theorem dX5_bindLabels_70 : decode cX5_bindLabels 70 = .ok (.invokevirtual 120, 3) := by decide +kernel
theorem dX5_bindLabels_73 : decode cX5_bindLabels 73 = .ok (.iinc 4 1, 3) := by decide +kernel
theorem dX5_bindLabels_76 : decode cX5_bindLabels 76 = .ok (.goto (-42), 3) := by decide +kernel
theorem dX5_bindLabels_79 : decode cX5_bindLabels 79 = .ok (.iinc 2 1, 3) := by decide +kernel
theorem dX5_bindLabels_82 : decode cX5_bindLabels 82 = .ok (.goto (-80), 3) := by decide +kernel
theorem dX5_bindLabels_85 : decode cX5_bindLabels 85 = .ok (.return_, 1) := by decide +kernel
theorem dX5_bind_0 : decode cX5_bind 0 = .ok (.aload_n 1, 1) := by decide +kernel
theorem dX5_bind_1 : decode cX5_bind 1 = .ok (.getfield 117, 3) := by decide +kernel
theorem dX5_bind_4 : decode cX5_bind 4 = .ok (.iload_n 2, 1) := by decide +kernel
theorem dX5_bind_5 : decode cX5_bind 5 = .ok (.iaload, 1) := by decide +kernel
theorem dX5_bind_6 : decode cX5_bind 6 = .ok (.istore_n 3, 1) := by decide +kernel
theorem dX5_bind_7 : decode cX5_bind 7 = .ok (.aload_n 1, 1) := by decide +kernel
theorem dX5_bind_8 : decode cX5_bind 8 = .ok (.aload_n 0, 1) := by decide +kernel
theorem dX5_bind_9 : decode cX5_bind 9 = .ok (.getfield 12, 3) := by decide +kernel
theorem dX5_bind_12 : decode cX5_bind 12 = .ok (.iload_n 3, 1) := by decide +kernel
theorem dX5_bind_13 : decode cX5_bind 13 = .ok (.invokevirtual 68, 3) := by decide +kernel
theorem dX5_bind_16 : decode cX5_bind 16 = .ok (.invokevirtual 99, 3) := by decide +kernel
theorem dX5_bind_19 : decode cX5_bind 19 = .ok (.istore 4, 2) := by decide +kernel
theorem dX5_bind_21 : decode cX5_bind 21 = .ok (.iload 4, 2) := by decide +kernel
theorem dX5_bind_23 : decode cX5_bind 23 = .ok (.iconst (-1), 1) := by decide +kernel
theorem dX5_bind_24 : decode cX5_bind 24 = .ok (.if_icmp .ne 13, 3) := by decide +kernel
theorem dX5_bind_27 : decode cX5_bind 27 = .ok (.aload_n 0, 1) := by decide +kernel
theorem dX5_bind_28 : decode cX5_bind 28 = .ok (.iconst 4, 1) := by decide +kernel
theorem dX5_bind_29 : decode cX5_bind 29 = .ok (.iload_n 3, 1) := by decide +kernel
theorem dX5_bind_30 : decode cX5_bind 30 = .ok (.invokevirtual 96, 3) := by decide +kernel
theorem dX5_bind_33 : decode cX5_bind 33 = .ok (.pop, 1) := by decide +kernel
theorem dX5_bind_34 : decode cX5_bind 34 = .ok (.goto 11, 3) := by decide +kernel
theorem dX5_bind_37 : decode cX5_bind 37 = .ok (.aload_n 1, 1) := by decide +kernel
theorem dX5_bind_38 : decode cX5_bind 38 = .ok (.getfield 117, 3) := by decide +kernel
theorem dX5_bind_41 : decode cX5_bind 41 = .ok (.iload_n 2, 1) := by decide +kernel
theorem dX5_bind_42 : decode cX5_bind 42 = .ok (.iload 4, 2) := by decide +kernel
theorem dX5_bind_44 : decode cX5_bind 44 = .ok (.iastore, 1) := by decide +kernel
theorem dX5_bind_45 : decode cX5_bind 45 = .ok (.return_, 1) := by decide +kernel
theorem dX5_stands_0 : decode cX5_stands 0 = .ok (.aload_n 0, 1) := by decide +kernel
theorem dX5_stands_1 : decode cX5_stands 1 = .ok (.getfield 12, 3) := by decide +kernel
theorem dX5_stands_4 : decode cX5_stands 4 = .ok (.iload_n 1, 1) := by decide +kernel
theorem dX5_stands_5 : decode cX5_stands 5 = .ok (.invokevirtual 53, 3) := by decide +kernel
theorem dX5_stands_8 : decode cX5_stands 8 = .ok (.iload_n 2, 1) := by decide +kernel
theorem dX5_stands_9 : decode cX5_stands 9 = .ok (.if_icmp .eq 12, 3) := by decide +kernel
theorem dX5_stands_12 : decode cX5_stands 12 = .ok (.aload_n 0, 1) := by decide +kernel
theorem dX5_stands_13 : decode cX5_stands 13 = .ok (.iconst 2, 1) := by decide +kernel
theorem dX5_stands_14 : decode cX5_stands 14 = .ok (.iload_n 1, 1) := by decide +kernel
theorem dX5_stands_15 : decode cX5_stands 15 = .ok (.invokevirtual 96, 3) := by decide +kernel
theorem dX5_stands_18 : decode cX5_stands 18 = .ok (.ifCond .eq 7, 3) := by decide +kernel
theorem dX5_stands_21 : decode cX5_stands 21 = .ok (.iconst 1, 1) := by decide +kernel
theorem dX5_stands_22 : decode cX5_stands 22 = .ok (.goto 4, 3) := by decide +kernel
theorem dX5_stands_25 : decode cX5_stands 25 = .ok (.iconst 0, 1) := by decide +kernel
theorem dX5_stands_26 : decode cX5_stands 26 = .ok (.ireturn, 1) := by decide +kernel
theorem dX5_refuse_0 : decode cX5_refuse 0 = .ok (.aload_n 0, 1) := by decide +kernel
theorem dX5_refuse_1 : decode cX5_refuse 1 = .ok (.iload_n 1, 1) := by decide +kernel
theorem dX5_refuse_2 : decode cX5_refuse 2 = .ok (.putfield 18, 3) := by decide +kernel
theorem dX5_refuse_5 : decode cX5_refuse 5 = .ok (.aload_n 0, 1) := by decide +kernel
theorem dX5_refuse_6 : decode cX5_refuse 6 = .ok (.aload_n 0, 1) := by decide +kernel
theorem dX5_refuse_7 : decode cX5_refuse 7 = .ok (.getfield 12, 3) := by decide +kernel
theorem dX5_refuse_10 : decode cX5_refuse 10 = .ok (.iload_n 2, 1) := by decide +kernel
theorem dX5_refuse_11 : decode cX5_refuse 11 = .ok (.invokevirtual 79, 3) := by decide +kernel
theorem dX5_refuse_14 : decode cX5_refuse 14 = .ok (.putfield 31, 3) := by decide +kernel
theorem dX5_refuse_17 : decode cX5_refuse 17 = .ok (.iconst 0, 1) := by decide +kernel
theorem dX5_refuse_18 : decode cX5_refuse 18 = .ok (.ireturn, 1) := by decide +kernel
theorem dX6_init_0 : decode cX6_init 0 = .ok (.aload_n 0, 1) := by decide +kernel
theorem dX6_init_1 : decode cX6_init 1 = .ok (.invokespecial 3, 3) := by decide +kernel
theorem dX6_init_4 : decode cX6_init 4 = .ok (.aload_n 0, 1) := by decide +kernel
theorem dX6_init_5 : decode cX6_init 5 = .ok (.bipush 30, 2) := by decide +kernel
theorem dX6_init_7 : decode cX6_init 7 = .ok (.newarray .int, 2) := by decide +kernel
theorem dX6_init_9 : decode cX6_init 9 = .ok (.putfield 11, 3) := by decide +kernel
theorem dX6_init_12 : decode cX6_init 12 = .ok (.aload_n 0, 1) := by decide +kernel
theorem dX6_init_13 : decode cX6_init 13 = .ok (.sipush 300, 3) := by decide +kernel
theorem dX6_init_16 : decode cX6_init 16 = .ok (.newarray .int, 2) := by decide +kernel
theorem dX6_init_18 : decode cX6_init 18 = .ok (.putfield 15, 3) := by decide +kernel
theorem dX6_init_21 : decode cX6_init 21 = .ok (.aload_n 0, 1) := by decide +kernel
theorem dX6_init_22 : decode cX6_init 22 = .ok (.aload_n 1, 1) := by decide +kernel
theorem dX6_init_23 : decode cX6_init 23 = .ok (.putfield 18, 3) := by decide +kernel
theorem dX6_init_26 : decode cX6_init 26 = .ok (.aload_n 0, 1) := by decide +kernel
theorem dX6_init_27 : decode cX6_init 27 = .ok (.aload_n 2, 1) := by decide +kernel
theorem dX6_init_28 : decode cX6_init 28 = .ok (.putfield 22, 3) := by decide +kernel
theorem dX6_init_31 : decode cX6_init 31 = .ok (.return_, 1) := by decide +kernel
theorem dX6_forget_0 : decode cX6_forget 0 = .ok (.aload_n 0, 1) := by decide +kernel
theorem dX6_forget_1 : decode cX6_forget 1 = .ok (.iconst 0, 1) := by decide +kernel
theorem dX6_forget_2 : decode cX6_forget 2 = .ok (.putfield 26, 3) := by decide +kernel
theorem dX6_forget_5 : decode cX6_forget 5 = .ok (.aload_n 0, 1) := by decide +kernel
theorem dX6_forget_6 : decode cX6_forget 6 = .ok (.iconst 0, 1) := by decide +kernel
theorem dX6_forget_7 : decode cX6_forget 7 = .ok (.putfield 30, 3) := by decide +kernel
theorem dX6_forget_10 : decode cX6_forget 10 = .ok (.aload_n 0, 1) := by decide +kernel
theorem dX6_forget_11 : decode cX6_forget 11 = .ok (.iconst 0, 1) := by decide +kernel
theorem dX6_forget_12 : decode cX6_forget 12 = .ok (.putfield 33, 3) := by decide +kernel
theorem dX6_forget_15 : decode cX6_forget 15 = .ok (.aload_n 0, 1) := by decide +kernel
theorem dX6_forget_16 : decode cX6_forget 16 = .ok (.iconst 0, 1) := by decide +kernel
theorem dX6_forget_17 : decode cX6_forget 17 = .ok (.putfield 36, 3) := by decide +kernel
theorem dX6_forget_20 : decode cX6_forget 20 = .ok (.aload_n 0, 1) := by decide +kernel
theorem dX6_forget_21 : decode cX6_forget 21 = .ok (.iconst 0, 1) := by decide +kernel
theorem dX6_forget_22 : decode cX6_forget 22 = .ok (.putfield 39, 3) := by decide +kernel
theorem dX6_forget_25 : decode cX6_forget 25 = .ok (.aload_n 0, 1) := by decide +kernel
theorem dX6_forget_26 : decode cX6_forget 26 = .ok (.iconst 0, 1) := by decide +kernel
theorem dX6_forget_27 : decode cX6_forget 27 = .ok (.putfield 42, 3) := by decide +kernel
theorem dX6_forget_30 : decode cX6_forget 30 = .ok (.return_, 1) := by decide +kernel
theorem dX6_start_0 : decode cX6_start 0 = .ok (.aload_n 0, 1) := by decide +kernel
theorem dX6_start_1 : decode cX6_start 1 = .ok (.invokevirtual 45, 3) := by decide +kernel
theorem dX6_start_4 : decode cX6_start 4 = .ok (.aload_n 0, 1) := by decide +kernel
theorem dX6_start_5 : decode cX6_start 5 = .ok (.aload_n 1, 1) := by decide +kernel
theorem dX6_start_6 : decode cX6_start 6 = .ok (.putfield 22, 3) := by decide +kernel
theorem dX6_start_9 : decode cX6_start 9 = .ok (.aload_n 0, 1) := by decide +kernel
theorem dX6_start_10 : decode cX6_start 10 = .ok (.iconst 0, 1) := by decide +kernel
theorem dX6_start_11 : decode cX6_start 11 = .ok (.invokevirtual 48, 3) := by decide +kernel
theorem dX6_start_14 : decode cX6_start 14 = .ok (.pop, 1) := by decide +kernel
theorem dX6_start_15 : decode cX6_start 15 = .ok (.return_, 1) := by decide +kernel
theorem dX6_hasSaid_0 : decode cX6_hasSaid 0 = .ok (.iload_n 1, 1) := by decide +kernel
theorem dX6_hasSaid_1 : decode cX6_hasSaid 1 = .ok (.ifCond .lt 22, 3) := by decide +kernel
theorem dX6_hasSaid_4 : decode cX6_hasSaid 4 = .ok (.iload_n 1, 1) := by decide +kernel
theorem dX6_hasSaid_5 : decode cX6_hasSaid 5 = .ok (.aload_n 0, 1) := by decide +kernel
theorem dX6_hasSaid_6 : decode cX6_hasSaid 6 = .ok (.getfield 42, 3) := by decide +kernel
theorem dX6_hasSaid_9 : decode cX6_hasSaid 9 = .ok (.if_icmp .ge 14, 3) := by decide +kernel
theorem dX6_hasSaid_12 : decode cX6_hasSaid 12 = .ok (.iload_n 1, 1) := by decide +kernel
theorem dX6_hasSaid_13 : decode cX6_hasSaid 13 = .ok (.sipush 300, 3) := by decide +kernel
theorem dX6_hasSaid_16 : decode cX6_hasSaid 16 = .ok (.if_icmp .ge 7, 3) := by decide +kernel
theorem dX6_hasSaid_19 : decode cX6_hasSaid 19 = .ok (.iconst 1, 1) := by decide +kernel
theorem dX6_hasSaid_20 : decode cX6_hasSaid 20 = .ok (.goto 4, 3) := by decide +kernel
theorem dX6_hasSaid_23 : decode cX6_hasSaid 23 = .ok (.iconst 0, 1) := by decide +kernel
theorem dX6_hasSaid_24 : decode cX6_hasSaid 24 = .ok (.ireturn, 1) := by decide +kernel
theorem dX6_hasNext_0 : decode cX6_hasNext 0 = .ok (.aload_n 0, 1) := by decide +kernel
theorem dX6_hasNext_1 : decode cX6_hasNext 1 = .ok (.getfield 26, 3) := by decide +kernel
theorem dX6_hasNext_4 : decode cX6_hasNext 4 = .ok (.iconst 1, 1) := by decide +kernel
theorem dX6_hasNext_5 : decode cX6_hasNext 5 = .ok (.if_icmp .eq 11, 3) := by decide +kernel
theorem dX6_hasNext_8 : decode cX6_hasNext 8 = .ok (.aload_n 0, 1) := by decide +kernel
theorem dX6_hasNext_9 : decode cX6_hasNext 9 = .ok (.getfield 26, 3) := by decide +kernel
theorem dX6_hasNext_12 : decode cX6_hasNext 12 = .ok (.iconst 3, 1) := by decide +kernel
theorem dX6_hasNext_13 : decode cX6_hasNext 13 = .ok (.if_icmp .ne 7, 3) := by decide +kernel
theorem dX6_hasNext_16 : decode cX6_hasNext 16 = .ok (.iconst 1, 1) := by decide +kernel
theorem dX6_hasNext_17 : decode cX6_hasNext 17 = .ok (.goto 4, 3) := by decide +kernel
theorem dX6_hasNext_20 : decode cX6_hasNext 20 = .ok (.iconst 0, 1) := by decide +kernel
theorem dX6_hasNext_21 : decode cX6_hasNext 21 = .ok (.ireturn, 1) := by decide +kernel
theorem dX6_nextAct_0 : decode cX6_nextAct 0 = .ok (.aload_n 0, 1) := by decide +kernel
theorem dX6_nextAct_1 : decode cX6_nextAct 1 = .ok (.invokevirtual 52, 3) := by decide +kernel
theorem dX6_nextAct_4 : decode cX6_nextAct 4 = .ok (.ifCond .eq 10, 3) := by decide +kernel
theorem dX6_nextAct_7 : decode cX6_nextAct 7 = .ok (.aload_n 0, 1) := by decide +kernel
theorem dX6_nextAct_8 : decode cX6_nextAct 8 = .ok (.getfield 33, 3) := by decide +kernel
theorem dX6_nextAct_11 : decode cX6_nextAct 11 = .ok (.goto 4, 3) := by decide +kernel
theorem dX6_nextAct_14 : decode cX6_nextAct 14 = .ok (.iconst (-1), 1) := by decide +kernel
theorem dX6_nextAct_15 : decode cX6_nextAct 15 = .ok (.ireturn, 1) := by decide +kernel
theorem dX6_nextPlace_0 : decode cX6_nextPlace 0 = .ok (.aload_n 0, 1) := by decide +kernel
theorem dX6_nextPlace_1 : decode cX6_nextPlace 1 = .ok (.invokevirtual 52, 3) := by decide +kernel
theorem dX6_nextPlace_4 : decode cX6_nextPlace 4 = .ok (.ifCond .eq 18, 3) := by decide +kernel
theorem dX6_nextPlace_7 : decode cX6_nextPlace 7 = .ok (.aload_n 0, 1) := by decide +kernel
theorem dX6_nextPlace_8 : decode cX6_nextPlace 8 = .ok (.getfield 22, 3) := by decide +kernel
theorem dX6_nextPlace_11 : decode cX6_nextPlace 11 = .ok (.getfield 56, 3) := by decide +kernel
theorem dX6_nextPlace_14 : decode cX6_nextPlace 14 = .ok (.aload_n 0, 1) := by decide +kernel
theorem dX6_nextPlace_15 : decode cX6_nextPlace 15 = .ok (.getfield 33, 3) := by decide +kernel
theorem dX6_nextPlace_18 : decode cX6_nextPlace 18 = .ok (.iaload, 1) := by decide +kernel
theorem dX6_nextPlace_19 : decode cX6_nextPlace 19 = .ok (.goto 4, 3) := by decide +kernel
theorem dX6_nextPlace_22 : decode cX6_nextPlace 22 = .ok (.iconst (-1), 1) := by decide +kernel
theorem dX6_nextPlace_23 : decode cX6_nextPlace 23 = .ok (.ireturn, 1) := by decide +kernel
theorem dX6_step_0 : decode cX6_step 0 = .ok (.aload_n 0, 1) := by decide +kernel
theorem dX6_step_1 : decode cX6_step 1 = .ok (.invokevirtual 52, 3) := by decide +kernel
theorem dX6_step_4 : decode cX6_step 4 = .ok (.ifCond .ne 5, 3) := by decide +kernel
theorem dX6_step_7 : decode cX6_step 7 = .ok (.iconst 0, 1) := by decide +kernel
theorem dX6_step_8 : decode cX6_step 8 = .ok (.ireturn, 1) := by decide +kernel
theorem dX6_step_9 : decode cX6_step 9 = .ok (.aload_n 0, 1) := by decide +kernel
theorem dX6_step_10 : decode cX6_step 10 = .ok (.getfield 22, 3) := by decide +kernel
theorem dX6_step_13 : decode cX6_step 13 = .ok (.getfield 61, 3) := by decide +kernel
theorem dX6_step_16 : decode cX6_step 16 = .ok (.aload_n 0, 1) := by decide +kernel
theorem dX6_step_17 : decode cX6_step 17 = .ok (.getfield 33, 3) := by decide +kernel
theorem dX6_step_20 : decode cX6_step 20 = .ok (.iaload, 1) := by decide +kernel
theorem dX6_step_21 : decode cX6_step 21 = .ok (.istore_n 1, 1) := by decide +kernel
theorem dX6_step_22 : decode cX6_step 22 = .ok (.aload_n 0, 1) := by decide +kernel
theorem dX6_step_23 : decode cX6_step 23 = .ok (.getfield 22, 3) := by decide +kernel
theorem dX6_step_26 : decode cX6_step 26 = .ok (.getfield 64, 3) := by decide +kernel
theorem dX6_step_29 : decode cX6_step 29 = .ok (.astore_n 2, 1) := by decide +kernel
theorem dX6_step_30 : decode cX6_step 30 = .ok (.aload_n 0, 1) := by decide +kernel
theorem dX6_step_31 : decode cX6_step 31 = .ok (.getfield 33, 3) := by decide +kernel
theorem dX6_step_34 : decode cX6_step 34 = .ok (.iconst 3, 1) := by decide +kernel
theorem dX6_step_35 : decode cX6_step 35 = .ok (.imul, 1) := by decide +kernel
theorem dX6_step_36 : decode cX6_step 36 = .ok (.istore_n 3, 1) := by decide +kernel
theorem dX6_step_37 : decode cX6_step 37 = .ok (.iload_n 1, 1) := by decide +kernel
theorem dX6_step_38 : decode cX6_step 38 = .ok (.bipush 19, 2) := by decide +kernel
theorem dX6_step_40 : decode cX6_step 40 = .ok (.if_icmp .le 27, 3) := by decide +kernel
theorem dX6_step_43 : decode cX6_step 43 = .ok (.aload_n 0, 1) := by decide +kernel
theorem dX6_step_44 : decode cX6_step 44 = .ok (.aload_n 0, 1) := by decide +kernel
theorem dX6_step_45 : decode cX6_step 45 = .ok (.getstatic 67, 3) := by decide +kernel
theorem dX6_step_48 : decode cX6_step 48 = .ok (.iload_n 1, 1) := by decide +kernel
theorem dX6_step_49 : decode cX6_step 49 = .ok (.aaload, 1) := by decide +kernel
theorem dX6_step_50 : decode cX6_step 50 = .ok (.aload_n 2, 1) := by decide +kernel
theorem dX6_step_51 : decode cX6_step 51 = .ok (.iload_n 3, 1) := by decide +kernel
theorem dX6_step_52 : decode cX6_step 52 = .ok (.iaload, 1) := by decide +kernel
theorem dX6_step_53 : decode cX6_step 53 = .ok (.aload_n 2, 1) := by decide +kernel
theorem dX6_step_54 : decode cX6_step 54 = .ok (.iload_n 3, 1) := by decide +kernel
theorem dX6_step_55 : decode cX6_step 55 = .ok (.iconst 1, 1) := by decide +kernel
theorem dX6_step_56 : decode cX6_step 56 = .ok (.iadd, 1) := by decide +kernel
theorem dX6_step_57 : decode cX6_step 57 = .ok (.iaload, 1) := by decide +kernel
theorem dX6_step_58 : decode cX6_step 58 = .ok (.invokevirtual 71, 3) := by decide +kernel
theorem dX6_step_61 : decode cX6_step 61 = .ok (.putfield 30, 3) := by decide +kernel
theorem dX6_step_64 : decode cX6_step 64 = .ok (.goto 50, 3) := by decide +kernel
theorem dX6_step_67 : decode cX6_step 67 = .ok (.aload_n 0, 1) := by decide +kernel
theorem dX6_step_68 : decode cX6_step 68 = .ok (.aload_n 0, 1) := by decide +kernel
theorem dX6_step_69 : decode cX6_step 69 = .ok (.getfield 18, 3) := by decide +kernel
theorem dX6_step_72 : decode cX6_step 72 = .ok (.getstatic 67, 3) := by decide +kernel
theorem dX6_step_75 : decode cX6_step 75 = .ok (.iload_n 1, 1) := by decide +kernel
theorem dX6_step_76 : decode cX6_step 76 = .ok (.aaload, 1) := by decide +kernel
theorem dX6_step_77 : decode cX6_step 77 = .ok (.aload_n 2, 1) := by decide +kernel
theorem dX6_step_78 : decode cX6_step 78 = .ok (.iload_n 3, 1) := by decide +kernel
theorem dX6_step_79 : decode cX6_step 79 = .ok (.iaload, 1) := by decide +kernel
theorem dX6_step_80 : decode cX6_step 80 = .ok (.aload_n 2, 1) := by decide +kernel
theorem dX6_step_81 : decode cX6_step 81 = .ok (.iload_n 3, 1) := by decide +kernel
theorem dX6_step_82 : decode cX6_step 82 = .ok (.iconst 1, 1) := by decide +kernel
theorem dX6_step_83 : decode cX6_step 83 = .ok (.iadd, 1) := by decide +kernel
theorem dX6_step_84 : decode cX6_step 84 = .ok (.iaload, 1) := by decide +kernel
theorem dX6_step_85 : decode cX6_step 85 = .ok (.aload_n 2, 1) := by decide +kernel
theorem dX6_step_86 : decode cX6_step 86 = .ok (.iload_n 3, 1) := by decide +kernel
theorem dX6_step_87 : decode cX6_step 87 = .ok (.iconst 2, 1) := by decide +kernel
theorem dX6_step_88 : decode cX6_step 88 = .ok (.iadd, 1) := by decide +kernel
theorem dX6_step_89 : decode cX6_step 89 = .ok (.iaload, 1) := by decide +kernel
theorem dX6_step_90 : decode cX6_step 90 = .ok (.invokevirtual 75, 3) := by decide +kernel
theorem dX6_step_93 : decode cX6_step 93 = .ok (.putfield 30, 3) := by decide +kernel
theorem dX6_step_96 : decode cX6_step 96 = .ok (.aload_n 0, 1) := by decide +kernel
theorem dX6_step_97 : decode cX6_step 97 = .ok (.getfield 30, 3) := by decide +kernel
theorem dX6_step_100 : decode cX6_step 100 = .ok (.ifCond .ne 14, 3) := by decide +kernel
theorem dX6_step_103 : decode cX6_step 103 = .ok (.aload_n 0, 1) := by decide +kernel
theorem dX6_step_104 : decode cX6_step 104 = .ok (.aload_n 0, 1) := by decide +kernel
theorem dX6_step_105 : decode cX6_step 105 = .ok (.getfield 33, 3) := by decide +kernel
theorem dX6_step_108 : decode cX6_step 108 = .ok (.iconst 1, 1) := by decide +kernel
theorem dX6_step_109 : decode cX6_step 109 = .ok (.iadd, 1) := by decide +kernel
theorem dX6_step_110 : decode cX6_step 110 = .ok (.invokevirtual 48, 3) := by decide +kernel
theorem dX6_step_113 : decode cX6_step 113 = .ok (.pop, 1) := by decide +kernel
theorem dX6_step_114 : decode cX6_step 114 = .ok (.aload_n 0, 1) := by decide +kernel
theorem dX6_step_115 : decode cX6_step 115 = .ok (.getfield 30, 3) := by decide +kernel
theorem dX6_step_118 : decode cX6_step 118 = .ok (.ifCond .eq 10, 3) := by decide +kernel
theorem dX6_step_121 : decode cX6_step 121 = .ok (.aload_n 0, 1) := by decide +kernel
theorem dX6_step_122 : decode cX6_step 122 = .ok (.iconst 3, 1) := by decide +kernel
theorem dX6_step_123 : decode cX6_step 123 = .ok (.putfield 26, 3) := by decide +kernel
theorem dX6_step_126 : decode cX6_step 126 = .ok (.iconst 0, 1) := by decide +kernel
theorem dX6_step_127 : decode cX6_step 127 = .ok (.ireturn, 1) := by decide +kernel
theorem dX6_step_128 : decode cX6_step 128 = .ok (.aload_n 0, 1) := by decide +kernel
theorem dX6_step_129 : decode cX6_step 129 = .ok (.dup, 1) := by decide +kernel
theorem dX6_step_130 : decode cX6_step 130 = .ok (.getfield 36, 3) := by decide +kernel
theorem dX6_step_133 : decode cX6_step 133 = .ok (.iconst 1, 1) := by decide +kernel
theorem dX6_step_134 : decode cX6_step 134 = .ok (.iadd, 1) := by decide +kernel
theorem dX6_step_135 : decode cX6_step 135 = .ok (.putfield 36, 3) := by decide +kernel
theorem dX6_step_138 : decode cX6_step 138 = .ok (.iconst 1, 1) := by decide +kernel
theorem dX6_step_139 : decode cX6_step 139 = .ok (.ireturn, 1) := by decide +kernel
theorem dX6_steer_0 : decode cX6_steer 0 = .ok (.getstatic 81, 3) := by decide +kernel
theorem dX6_steer_3 : decode cX6_steer 3 = .ok (.aload_n 1, 1) := by decide +kernel
theorem dX6_steer_4 : decode cX6_steer 4 = .ok (.invokevirtual 86, 3) := by decide +kernel
theorem dX6_steer_7 : decode cX6_steer 7 = .ok (.iaload, 1) := by decide +kernel
theorem dX6_steer_8 : decode cX6_steer 8 = .ok (.tableswitch 96 21 25 #[36, 42, 48, 85, 91], 36) := by decide +kernel
theorem dX6_steer_44 : decode cX6_steer 44 = .ok (.aload_n 0, 1) := by decide +kernel
theorem dX6_steer_45 : decode cX6_steer 45 = .ok (.iload_n 2, 1) := by decide +kernel
theorem dX6_steer_46 : decode cX6_steer 46 = .ok (.invokevirtual 92, 3) := by decide +kernel
theorem dX6_steer_49 : decode cX6_steer 49 = .ok (.ireturn, 1) := by decide +kernel
theorem dX6_steer_50 : decode cX6_steer 50 = .ok (.aload_n 0, 1) := by decide +kernel
theorem dX6_steer_51 : decode cX6_steer 51 = .ok (.iload_n 2, 1) := by decide +kernel
theorem dX6_steer_52 : decode cX6_steer 52 = .ok (.invokevirtual 48, 3) := by decide +kernel
theorem dX6_steer_55 : decode cX6_steer 55 = .ok (.ireturn, 1) := by decide +kernel
theorem dX6_steer_56 : decode cX6_steer 56 = .ok (.aload_n 0, 1) := by decide +kernel
theorem dX6_steer_57 : decode cX6_steer 57 = .ok (.aload_n 0, 1) := by decide +kernel
theorem dX6_steer_58 : decode cX6_steer 58 = .ok (.getfield 18, 3) := by decide +kernel
theorem dX6_steer_61 : decode cX6_steer 61 = .ok (.iload_n 2, 1) := by decide +kernel
theorem dX6_steer_62 : decode cX6_steer 62 = .ok (.invokevirtual 95, 3) := by decide +kernel
theorem dX6_steer_65 : decode cX6_steer 65 = .ok (.ifCond .eq 18, 3) := by decide +kernel
theorem dX6_steer_68 : decode cX6_steer 68 = .ok (.aload_n 0, 1) := by decide +kernel
theorem dX6_steer_69 : decode cX6_steer 69 = .ok (.getfield 18, 3) := by decide +kernel
theorem dX6_steer_72 : decode cX6_steer 72 = .ok (.iload_n 2, 1) := by decide +kernel
theorem dX6_steer_73 : decode cX6_steer 73 = .ok (.invokevirtual 99, 3) := by decide +kernel
theorem dX6_steer_76 : decode cX6_steer 76 = .ok (.ifCond .ne 7, 3) := by decide +kernel
theorem dX6_steer_79 : decode cX6_steer 79 = .ok (.iload_n 3, 1) := by decide +kernel
theorem dX6_steer_80 : decode cX6_steer 80 = .ok (.goto 9, 3) := by decide +kernel
theorem dX6_steer_83 : decode cX6_steer 83 = .ok (.aload_n 0, 1) := by decide +kernel
theorem dX6_steer_84 : decode cX6_steer 84 = .ok (.getfield 33, 3) := by decide +kernel
theorem dX6_steer_87 : decode cX6_steer 87 = .ok (.iconst 1, 1) := by decide +kernel
theorem dX6_steer_88 : decode cX6_steer 88 = .ok (.iadd, 1) := by decide +kernel
theorem dX6_steer_89 : decode cX6_steer 89 = .ok (.invokevirtual 48, 3) := by decide +kernel
theorem dX6_steer_92 : decode cX6_steer 92 = .ok (.ireturn, 1) := by decide +kernel
theorem dX6_steer_93 : decode cX6_steer 93 = .ok (.aload_n 0, 1) := by decide +kernel
theorem dX6_steer_94 : decode cX6_steer 94 = .ok (.iload_n 2, 1) := by decide +kernel
theorem dX6_steer_95 : decode cX6_steer 95 = .ok (.invokevirtual 102, 3) := by decide +kernel
theorem dX6_steer_98 : decode cX6_steer 98 = .ok (.ireturn, 1) := by decide +kernel
theorem dX6_steer_99 : decode cX6_steer 99 = .ok (.aload_n 0, 1) := by decide +kernel
theorem dX6_steer_100 : decode cX6_steer 100 = .ok (.invokevirtual 105, 3) := by decide +kernel
theorem dX6_steer_103 : decode cX6_steer 103 = .ok (.ireturn, 1) := by decide +kernel
theorem dX6_steer_104 : decode cX6_steer 104 = .ok (.aload_n 0, 1) := by decide +kernel
theorem dX6_steer_105 : decode cX6_steer 105 = .ok (.aload_n 0, 1) := by decide +kernel
theorem dX6_steer_106 : decode cX6_steer 106 = .ok (.getfield 22, 3) := by decide +kernel
theorem dX6_steer_109 : decode cX6_steer 109 = .ok (.getfield 108, 3) := by decide +kernel
theorem dX6_steer_112 : decode cX6_steer 112 = .ok (.invokevirtual 48, 3) := by decide +kernel
theorem dX6_steer_115 : decode cX6_steer 115 = .ok (.ireturn, 1) := by decide +kernel
theorem dX6_goOnAt_0 : decode cX6_goOnAt 0 = .ok (.aload_n 0, 1) := by decide +kernel
theorem dX6_goOnAt_1 : decode cX6_goOnAt 1 = .ok (.iload_n 1, 1) := by decide +kernel
theorem dX6_goOnAt_2 : decode cX6_goOnAt 2 = .ok (.putfield 33, 3) := by decide +kernel
theorem dX6_goOnAt_5 : decode cX6_goOnAt 5 = .ok (.aload_n 0, 1) := by decide +kernel
theorem dX6_goOnAt_6 : decode cX6_goOnAt 6 = .ok (.iload_n 1, 1) := by decide +kernel
theorem dX6_goOnAt_7 : decode cX6_goOnAt 7 = .ok (.aload_n 0, 1) := by decide +kernel
theorem dX6_goOnAt_8 : decode cX6_goOnAt 8 = .ok (.getfield 22, 3) := by decide +kernel
theorem dX6_goOnAt_11 : decode cX6_goOnAt 11 = .ok (.getfield 108, 3) := by decide +kernel
theorem dX6_goOnAt_14 : decode cX6_goOnAt 14 = .ok (.if_icmp .ge 7, 3) := by decide +kernel
theorem dX6_goOnAt_17 : decode cX6_goOnAt 17 = .ok (.iconst 1, 1) := by decide +kernel
theorem dX6_goOnAt_18 : decode cX6_goOnAt 18 = .ok (.goto 4, 3) := by decide +kernel
theorem dX6_goOnAt_21 : decode cX6_goOnAt 21 = .ok (.iconst 2, 1) := by decide +kernel
theorem dX6_goOnAt_22 : decode cX6_goOnAt 22 = .ok (.putfield 26, 3) := by decide +kernel
theorem dX6_goOnAt_25 : decode cX6_goOnAt 25 = .ok (.iconst 0, 1) := by decide +kernel
theorem dX6_goOnAt_26 : decode cX6_goOnAt 26 = .ok (.ireturn, 1) := by decide +kernel
theorem dX6_say_0 : decode cX6_say 0 = .ok (.aload_n 0, 1) := by decide +kernel
theorem dX6_say_1 : decode cX6_say 1 = .ok (.getfield 18, 3) := by decide +kernel
theorem dX6_say_4 : decode cX6_say 4 = .ok (.iload_n 1, 1) := by decide +kernel
theorem dX6_say_5 : decode cX6_say 5 = .ok (.invokevirtual 95, 3) := by decide +kernel
theorem dX6_say_8 : decode cX6_say 8 = .ok (.ifCond .ne 5, 3) := by decide +kernel
theorem dX6_say_11 : decode cX6_say 11 = .ok (.iconst 1, 1) := by decide +kernel
theorem dX6_say_12 : decode cX6_say 12 = .ok (.ireturn, 1) := by decide +kernel
theorem dX6_say_13 : decode cX6_say 13 = .ok (.aload_n 0, 1) := by decide +kernel
theorem dX6_say_14 : decode cX6_say 14 = .ok (.getfield 42, 3) := by decide +kernel
theorem dX6_say_17 : decode cX6_say 17 = .ok (.sipush 300, 3) := by decide +kernel
theorem dX6_say_20 : decode cX6_say 20 = .ok (.if_icmp .ge 20, 3) := by decide +kernel
theorem dX6_say_23 : decode cX6_say 23 = .ok (.aload_n 0, 1) := by decide +kernel
theorem dX6_say_24 : decode cX6_say 24 = .ok (.getfield 15, 3) := by decide +kernel
theorem dX6_say_27 : decode cX6_say 27 = .ok (.aload_n 0, 1) := by decide +kernel
theorem dX6_say_28 : decode cX6_say 28 = .ok (.getfield 42, 3) := by decide +kernel
theorem dX6_say_31 : decode cX6_say 31 = .ok (.aload_n 0, 1) := by decide +kernel
theorem dX6_say_32 : decode cX6_say 32 = .ok (.getfield 18, 3) := by decide +kernel
theorem dX6_say_35 : decode cX6_say 35 = .ok (.iload_n 1, 1) := by decide +kernel
theorem dX6_say_36 : decode cX6_say 36 = .ok (.invokevirtual 99, 3) := by decide +kernel
theorem dX6_say_39 : decode cX6_say 39 = .ok (.iastore, 1) := by decide +kernel
theorem dX6_say_40 : decode cX6_say 40 = .ok (.aload_n 0, 1) := by decide +kernel
theorem dX6_say_41 : decode cX6_say 41 = .ok (.dup, 1) := by decide +kernel
theorem dX6_say_42 : decode cX6_say 42 = .ok (.getfield 42, 3) := by decide +kernel
theorem dX6_say_45 : decode cX6_say 45 = .ok (.iconst 1, 1) := by decide +kernel
theorem dX6_say_46 : decode cX6_say 46 = .ok (.iadd, 1) := by decide +kernel
theorem dX6_say_47 : decode cX6_say 47 = .ok (.putfield 42, 3) := by decide +kernel
theorem dX6_say_50 : decode cX6_say 50 = .ok (.aload_n 0, 1) := by decide +kernel
theorem dX6_say_51 : decode cX6_say 51 = .ok (.aload_n 0, 1) := by decide +kernel
theorem dX6_say_52 : decode cX6_say 52 = .ok (.getfield 33, 3) := by decide +kernel
theorem dX6_say_55 : decode cX6_say 55 = .ok (.iconst 1, 1) := by decide +kernel
theorem dX6_say_56 : decode cX6_say 56 = .ok (.iadd, 1) := by decide +kernel
theorem dX6_say_57 : decode cX6_say 57 = .ok (.invokevirtual 48, 3) := by decide +kernel
theorem dX6_say_60 : decode cX6_say 60 = .ok (.ireturn, 1) := by decide +kernel
theorem dX6_openCall_0 : decode cX6_openCall 0 = .ok (.aload_n 0, 1) := by decide +kernel
theorem dX6_openCall_1 : decode cX6_openCall 1 = .ok (.getfield 39, 3) := by decide +kernel
theorem dX6_openCall_4 : decode cX6_openCall 4 = .ok (.bipush 30, 2) := by decide +kernel
theorem dX6_openCall_6 : decode cX6_openCall 6 = .ok (.if_icmp .lt 6, 3) := by decide +kernel
theorem dX6_openCall_9 : decode cX6_openCall 9 = .ok (.bipush 7, 2) := by decide +kernel
theorem dX6_openCall_11 : decode cX6_openCall 11 = .ok (.ireturn, 1) := by decide +kernel
theorem dX6_openCall_12 : decode cX6_openCall 12 = .ok (.aload_n 0, 1) := by decide +kernel
theorem dX6_openCall_13 : decode cX6_openCall 13 = .ok (.getfield 11, 3) := by decide +kernel
theorem dX6_openCall_16 : decode cX6_openCall 16 = .ok (.aload_n 0, 1) := by decide +kernel
theorem dX6_openCall_17 : decode cX6_openCall 17 = .ok (.getfield 39, 3) := by decide +kernel
theorem dX6_openCall_20 : decode cX6_openCall 20 = .ok (.aload_n 0, 1) := by decide +kernel
theorem dX6_openCall_21 : decode cX6_openCall 21 = .ok (.getfield 33, 3) := by decide +kernel
theorem dX6_openCall_24 : decode cX6_openCall 24 = .ok (.iconst 1, 1) := by decide +kernel
theorem dX6_openCall_25 : decode cX6_openCall 25 = .ok (.iadd, 1) := by decide +kernel
theorem dX6_openCall_26 : decode cX6_openCall 26 = .ok (.iastore, 1) := by decide +kernel
theorem dX6_openCall_27 : decode cX6_openCall 27 = .ok (.aload_n 0, 1) := by decide +kernel
theorem dX6_openCall_28 : decode cX6_openCall 28 = .ok (.dup, 1) := by decide +kernel
theorem dX6_openCall_29 : decode cX6_openCall 29 = .ok (.getfield 39, 3) := by decide +kernel
theorem dX6_openCall_32 : decode cX6_openCall 32 = .ok (.iconst 1, 1) := by decide +kernel
theorem dX6_openCall_33 : decode cX6_openCall 33 = .ok (.iadd, 1) := by decide +kernel
theorem dX6_openCall_34 : decode cX6_openCall 34 = .ok (.putfield 39, 3) := by decide +kernel
theorem dX6_openCall_37 : decode cX6_openCall 37 = .ok (.aload_n 0, 1) := by decide +kernel
theorem dX6_openCall_38 : decode cX6_openCall 38 = .ok (.iload_n 1, 1) := by decide +kernel
theorem dX6_openCall_39 : decode cX6_openCall 39 = .ok (.invokevirtual 48, 3) := by decide +kernel
theorem dX6_openCall_42 : decode cX6_openCall 42 = .ok (.ireturn, 1) := by decide +kernel
theorem dX6_goBack_0 : decode cX6_goBack 0 = .ok (.aload_n 0, 1) := by decide +kernel
theorem dX6_goBack_1 : decode cX6_goBack 1 = .ok (.getfield 39, 3) := by decide +kernel
theorem dX6_goBack_4 : decode cX6_goBack 4 = .ok (.ifCond .gt 15, 3) := by decide +kernel
theorem dX6_goBack_7 : decode cX6_goBack 7 = .ok (.aload_n 0, 1) := by decide +kernel
theorem dX6_goBack_8 : decode cX6_goBack 8 = .ok (.aload_n 0, 1) := by decide +kernel
theorem dX6_goBack_9 : decode cX6_goBack 9 = .ok (.getfield 22, 3) := by decide +kernel
theorem dX6_goBack_12 : decode cX6_goBack 12 = .ok (.getfield 108, 3) := by decide +kernel
theorem dX6_goBack_15 : decode cX6_goBack 15 = .ok (.invokevirtual 48, 3) := by decide +kernel
theorem dX6_goBack_18 : decode cX6_goBack 18 = .ok (.ireturn, 1) := by decide +kernel
theorem dX6_goBack_19 : decode cX6_goBack 19 = .ok (.aload_n 0, 1) := by decide +kernel
theorem dX6_goBack_20 : decode cX6_goBack 20 = .ok (.dup, 1) := by decide +kernel
theorem dX6_goBack_21 : decode cX6_goBack 21 = .ok (.getfield 39, 3) := by decide +kernel
theorem dX6_goBack_24 : decode cX6_goBack 24 = .ok (.iconst 1, 1) := by decide +kernel
theorem dX6_goBack_25 : decode cX6_goBack 25 = .ok (.isub, 1) := by decide +kernel
theorem dX6_goBack_26 : decode cX6_goBack 26 = .ok (.putfield 39, 3) := by decide +kernel
theorem dX6_goBack_29 : decode cX6_goBack 29 = .ok (.aload_n 0, 1) := by decide +kernel
theorem dX6_goBack_30 : decode cX6_goBack 30 = .ok (.aload_n 0, 1) := by decide +kernel
theorem dX6_goBack_31 : decode cX6_goBack 31 = .ok (.getfield 11, 3) := by decide +kernel
theorem dX6_goBack_34 : decode cX6_goBack 34 = .ok (.aload_n 0, 1) := by decide +kernel
theorem dX6_goBack_35 : decode cX6_goBack 35 = .ok (.getfield 39, 3) := by decide +kernel
theorem dX6_goBack_38 : decode cX6_goBack 38 = .ok (.iaload, 1) := by decide +kernel
theorem dX6_goBack_39 : decode cX6_goBack 39 = .ok (.invokevirtual 48, 3) := by decide +kernel
theorem dX6_goBack_42 : decode cX6_goBack 42 = .ok (.ireturn, 1) := by decide +kernel
theorem dX7_init_0 : decode cX7_init 0 = .ok (.aload_n 0, 1) := by decide +kernel
theorem dX7_init_1 : decode cX7_init 1 = .ok (.invokespecial 1, 3) := by decide +kernel
theorem dX7_init_4 : decode cX7_init 4 = .ok (.aload_n 0, 1) := by decide +kernel
theorem dX7_init_5 : decode cX7_init 5 = .ok (.sipush 600, 3) := by decide +kernel
theorem dX7_init_8 : decode cX7_init 8 = .ok (.newarray .byte, 2) := by decide +kernel
theorem dX7_init_10 : decode cX7_init 10 = .ok (.putfield 9, 3) := by decide +kernel
theorem dX7_init_13 : decode cX7_init 13 = .ok (.return_, 1) := by decide +kernel
theorem dX7_add_0 : decode cX7_add 0 = .ok (.aload_n 0, 1) := by decide +kernel
theorem dX7_add_1 : decode cX7_add 1 = .ok (.getfield 13, 3) := by decide +kernel
theorem dX7_add_4 : decode cX7_add 4 = .ok (.sipush 600, 3) := by decide +kernel
theorem dX7_add_7 : decode cX7_add 7 = .ok (.if_icmp .ge 24, 3) := by decide +kernel
theorem dX7_add_10 : decode cX7_add 10 = .ok (.aload_n 0, 1) := by decide +kernel
theorem dX7_add_11 : decode cX7_add 11 = .ok (.getfield 9, 3) := by decide +kernel
theorem dX7_add_14 : decode cX7_add 14 = .ok (.aload_n 0, 1) := by decide +kernel
theorem dX7_add_15 : decode cX7_add 15 = .ok (.getfield 13, 3) := by decide +kernel
theorem dX7_add_18 : decode cX7_add 18 = .ok (.iload_n 1, 1) := by decide +kernel
theorem dX7_add_19 : decode cX7_add 19 = .ok (.i2b, 1) := by decide +kernel
theorem dX7_add_20 : decode cX7_add 20 = .ok (.bastore, 1) := by decide +kernel
theorem dX7_add_21 : decode cX7_add 21 = .ok (.aload_n 0, 1) := by decide +kernel
theorem dX7_add_22 : decode cX7_add 22 = .ok (.dup, 1) := by decide +kernel
theorem dX7_add_23 : decode cX7_add 23 = .ok (.getfield 13, 3) := by decide +kernel
theorem dX7_add_26 : decode cX7_add 26 = .ok (.iconst 1, 1) := by decide +kernel
theorem dX7_add_27 : decode cX7_add 27 = .ok (.iadd, 1) := by decide +kernel
theorem dX7_add_28 : decode cX7_add 28 = .ok (.putfield 13, 3) := by decide +kernel
theorem dX7_add_31 : decode cX7_add 31 = .ok (.return_, 1) := by decide +kernel
theorem dX7_addNumber_0 : decode cX7_addNumber 0 = .ok (.iload_n 1, 1) := by decide +kernel
theorem dX7_addNumber_1 : decode cX7_addNumber 1 = .ok (.i2l, 1) := by decide +kernel
theorem dX7_addNumber_2 : decode cX7_addNumber 2 = .ok (.lstore_n 2, 1) := by decide +kernel
theorem dX7_addNumber_3 : decode cX7_addNumber 3 = .ok (.lload_n 2, 1) := by decide +kernel
theorem dX7_addNumber_4 : decode cX7_addNumber 4 = .ok (.lconst 0, 1) := by decide +kernel
theorem dX7_addNumber_5 : decode cX7_addNumber 5 = .ok (.lcmp, 1) := by decide +kernel
theorem dX7_addNumber_6 : decode cX7_addNumber 6 = .ok (.ifCond .ge 12, 3) := by decide +kernel
theorem dX7_addNumber_9 : decode cX7_addNumber 9 = .ok (.aload_n 0, 1) := by decide +kernel
theorem dX7_addNumber_10 : decode cX7_addNumber 10 = .ok (.bipush 45, 2) := by decide +kernel
theorem dX7_addNumber_12 : decode cX7_addNumber 12 = .ok (.invokevirtual 17, 3) := by decide +kernel
theorem dX7_addNumber_15 : decode cX7_addNumber 15 = .ok (.lload_n 2, 1) := by decide +kernel
theorem dX7_addNumber_16 : decode cX7_addNumber 16 = .ok (.lneg, 1) := by decide +kernel
theorem dX7_addNumber_17 : decode cX7_addNumber 17 = .ok (.lstore_n 2, 1) := by decide +kernel
theorem dX7_addNumber_18 : decode cX7_addNumber 18 = .ok (.ldc2_w 21, 3) := by decide +kernel
theorem dX7_addNumber_21 : decode cX7_addNumber 21 = .ok (.lstore 4, 2) := by decide +kernel
theorem dX7_addNumber_23 : decode cX7_addNumber 23 = .ok (.lload 4, 2) := by decide +kernel
theorem dX7_addNumber_25 : decode cX7_addNumber 25 = .ok (.lconst 0, 1) := by decide +kernel
theorem dX7_addNumber_26 : decode cX7_addNumber 26 = .ok (.lcmp, 1) := by decide +kernel
theorem dX7_addNumber_27 : decode cX7_addNumber 27 = .ok (.ifCond .le 45, 3) := by decide +kernel
theorem dX7_addNumber_30 : decode cX7_addNumber 30 = .ok (.lload_n 2, 1) := by decide +kernel
theorem dX7_addNumber_31 : decode cX7_addNumber 31 = .ok (.lload 4, 2) := by decide +kernel
theorem dX7_addNumber_33 : decode cX7_addNumber 33 = .ok (.lcmp, 1) := by decide +kernel
theorem dX7_addNumber_34 : decode cX7_addNumber 34 = .ok (.ifCond .ge 10, 3) := by decide +kernel
theorem dX7_addNumber_37 : decode cX7_addNumber 37 = .ok (.lload 4, 2) := by decide +kernel
theorem dX7_addNumber_39 : decode cX7_addNumber 39 = .ok (.lconst 1, 1) := by decide +kernel
theorem dX7_addNumber_40 : decode cX7_addNumber 40 = .ok (.lcmp, 1) := by decide +kernel
theorem dX7_addNumber_41 : decode cX7_addNumber 41 = .ok (.ifCond .ne 20, 3) := by decide +kernel
theorem dX7_addNumber_44 : decode cX7_addNumber 44 = .ok (.aload_n 0, 1) := by decide +kernel
theorem dX7_addNumber_45 : decode cX7_addNumber 45 = .ok (.ldc2_w 23, 3) := by decide +kernel
theorem dX7_addNumber_48 : decode cX7_addNumber 48 = .ok (.lload_n 2, 1) := by decide +kernel
theorem dX7_addNumber_49 : decode cX7_addNumber 49 = .ok (.lload 4, 2) := by decide +kernel
theorem dX7_addNumber_51 : decode cX7_addNumber 51 = .ok (.ldiv, 1) := by decide +kernel
theorem dX7_addNumber_52 : decode cX7_addNumber 52 = .ok (.ldc2_w 25, 3) := by decide +kernel
theorem dX7_addNumber_55 : decode cX7_addNumber 55 = .ok (.lrem, 1) := by decide +kernel
theorem dX7_addNumber_56 : decode cX7_addNumber 56 = .ok (.ladd, 1) := by decide +kernel
theorem dX7_addNumber_57 : decode cX7_addNumber 57 = .ok (.l2i, 1) := by decide +kernel
theorem dX7_addNumber_58 : decode cX7_addNumber 58 = .ok (.invokevirtual 17, 3) := by decide +kernel
theorem dX7_addNumber_61 : decode cX7_addNumber 61 = .ok (.lload 4, 2) := by decide +kernel
theorem dX7_addNumber_63 : decode cX7_addNumber 63 = .ok (.ldc2_w 25, 3) := by decide +kernel
theorem dX7_addNumber_66 : decode cX7_addNumber 66 = .ok (.ldiv, 1) := by decide +kernel
theorem dX7_addNumber_67 : decode cX7_addNumber 67 = .ok (.lstore 4, 2) := by decide +kernel
theorem dX7_addNumber_69 : decode cX7_addNumber 69 = .ok (.goto (-46), 3) := by decide +kernel
theorem dX7_addNumber_72 : decode cX7_addNumber 72 = .ok (.return_, 1) := by decide +kernel
theorem dX8_init_0 : decode cX8_init 0 = .ok (.aload_n 0, 1) := by decide +kernel
theorem dX8_init_1 : decode cX8_init 1 = .ok (.invokespecial 3, 3) := by decide +kernel
theorem dX8_init_4 : decode cX8_init 4 = .ok (.aload_n 0, 1) := by decide +kernel
theorem dX8_init_5 : decode cX8_init 5 = .ok (.sipush 2000, 3) := by decide +kernel
theorem dX8_init_8 : decode cX8_init 8 = .ok (.newarray .int, 2) := by decide +kernel
theorem dX8_init_10 : decode cX8_init 10 = .ok (.putfield 9, 3) := by decide +kernel
theorem dX8_init_13 : decode cX8_init 13 = .ok (.aload_n 0, 1) := by decide +kernel
theorem dX8_init_14 : decode cX8_init 14 = .ok (.sipush 2000, 3) := by decide +kernel
theorem dX8_init_17 : decode cX8_init 17 = .ok (.newarray .int, 2) := by decide +kernel
theorem dX8_init_19 : decode cX8_init 19 = .ok (.putfield 15, 3) := by decide +kernel
theorem dX8_init_22 : decode cX8_init 22 = .ok (.aload_n 0, 1) := by decide +kernel
theorem dX8_init_23 : decode cX8_init 23 = .ok (.sipush 2000, 3) := by decide +kernel
theorem dX8_init_26 : decode cX8_init 26 = .ok (.newarray .int, 2) := by decide +kernel
theorem dX8_init_28 : decode cX8_init 28 = .ok (.putfield 18, 3) := by decide +kernel
theorem dX8_init_31 : decode cX8_init 31 = .ok (.aload_n 0, 1) := by decide +kernel
theorem dX8_init_32 : decode cX8_init 32 = .ok (.sipush 2000, 3) := by decide +kernel
theorem dX8_init_35 : decode cX8_init 35 = .ok (.newarray .long, 2) := by decide +kernel
theorem dX8_init_37 : decode cX8_init 37 = .ok (.putfield 21, 3) := by decide +kernel
theorem dX8_init_40 : decode cX8_init 40 = .ok (.return_, 1) := by decide +kernel
theorem dX8_kindAt_0 : decode cX8_kindAt 0 = .ok (.iload_n 1, 1) := by decide +kernel
theorem dX8_kindAt_1 : decode cX8_kindAt 1 = .ok (.ifCond .lt 20, 3) := by decide +kernel
theorem dX8_kindAt_4 : decode cX8_kindAt 4 = .ok (.iload_n 1, 1) := by decide +kernel
theorem dX8_kindAt_5 : decode cX8_kindAt 5 = .ok (.aload_n 0, 1) := by decide +kernel
theorem dX8_kindAt_6 : decode cX8_kindAt 6 = .ok (.getfield 25, 3) := by decide +kernel
theorem dX8_kindAt_9 : decode cX8_kindAt 9 = .ok (.if_icmp .ge 12, 3) := by decide +kernel
theorem dX8_kindAt_12 : decode cX8_kindAt 12 = .ok (.aload_n 0, 1) := by decide +kernel
theorem dX8_kindAt_13 : decode cX8_kindAt 13 = .ok (.getfield 9, 3) := by decide +kernel
theorem dX8_kindAt_16 : decode cX8_kindAt 16 = .ok (.iload_n 1, 1) := by decide +kernel
theorem dX8_kindAt_17 : decode cX8_kindAt 17 = .ok (.iaload, 1) := by decide +kernel
theorem dX8_kindAt_18 : decode cX8_kindAt 18 = .ok (.goto 5, 3) := by decide +kernel
theorem dX8_kindAt_21 : decode cX8_kindAt 21 = .ok (.bipush 6, 2) := by decide +kernel
theorem dX8_kindAt_23 : decode cX8_kindAt 23 = .ok (.ireturn, 1) := by decide +kernel
theorem dX8_placeAt_0 : decode cX8_placeAt 0 = .ok (.iload_n 1, 1) := by decide +kernel
theorem dX8_placeAt_1 : decode cX8_placeAt 1 = .ok (.ifCond .lt 20, 3) := by decide +kernel
theorem dX8_placeAt_4 : decode cX8_placeAt 4 = .ok (.iload_n 1, 1) := by decide +kernel
theorem dX8_placeAt_5 : decode cX8_placeAt 5 = .ok (.aload_n 0, 1) := by decide +kernel
theorem dX8_placeAt_6 : decode cX8_placeAt 6 = .ok (.getfield 25, 3) := by decide +kernel
theorem dX8_placeAt_9 : decode cX8_placeAt 9 = .ok (.if_icmp .ge 12, 3) := by decide +kernel
theorem dX8_placeAt_12 : decode cX8_placeAt 12 = .ok (.aload_n 0, 1) := by decide +kernel
theorem dX8_placeAt_13 : decode cX8_placeAt 13 = .ok (.getfield 15, 3) := by decide +kernel
theorem dX8_placeAt_16 : decode cX8_placeAt 16 = .ok (.iload_n 1, 1) := by decide +kernel
theorem dX8_placeAt_17 : decode cX8_placeAt 17 = .ok (.iaload, 1) := by decide +kernel
theorem dX8_placeAt_18 : decode cX8_placeAt 18 = .ok (.goto 7, 3) := by decide +kernel
theorem dX8_placeAt_21 : decode cX8_placeAt 21 = .ok (.aload_n 0, 1) := by decide +kernel
theorem dX8_placeAt_22 : decode cX8_placeAt 22 = .ok (.getfield 29, 3) := by decide +kernel
theorem dX8_placeAt_25 : decode cX8_placeAt 25 = .ok (.ireturn, 1) := by decide +kernel
theorem dX8_valueAt_0 : decode cX8_valueAt 0 = .ok (.iload_n 1, 1) := by decide +kernel
theorem dX8_valueAt_1 : decode cX8_valueAt 1 = .ok (.ifCond .lt 20, 3) := by decide +kernel
theorem dX8_valueAt_4 : decode cX8_valueAt 4 = .ok (.iload_n 1, 1) := by decide +kernel
theorem dX8_valueAt_5 : decode cX8_valueAt 5 = .ok (.aload_n 0, 1) := by decide +kernel
theorem dX8_valueAt_6 : decode cX8_valueAt 6 = .ok (.getfield 25, 3) := by decide +kernel
theorem dX8_valueAt_9 : decode cX8_valueAt 9 = .ok (.if_icmp .ge 12, 3) := by decide +kernel
theorem dX8_valueAt_12 : decode cX8_valueAt 12 = .ok (.aload_n 0, 1) := by decide +kernel
theorem dX8_valueAt_13 : decode cX8_valueAt 13 = .ok (.getfield 18, 3) := by decide +kernel
theorem dX8_valueAt_16 : decode cX8_valueAt 16 = .ok (.iload_n 1, 1) := by decide +kernel
theorem dX8_valueAt_17 : decode cX8_valueAt 17 = .ok (.iaload, 1) := by decide +kernel
theorem dX8_valueAt_18 : decode cX8_valueAt 18 = .ok (.goto 4, 3) := by decide +kernel
theorem dX8_valueAt_21 : decode cX8_valueAt 21 = .ok (.iconst 0, 1) := by decide +kernel
theorem dX8_valueAt_22 : decode cX8_valueAt 22 = .ok (.ireturn, 1) := by decide +kernel
theorem dX8_nameAt_0 : decode cX8_nameAt 0 = .ok (.iload_n 1, 1) := by decide +kernel
theorem dX8_nameAt_1 : decode cX8_nameAt 1 = .ok (.ifCond .lt 20, 3) := by decide +kernel
theorem dX8_nameAt_4 : decode cX8_nameAt 4 = .ok (.iload_n 1, 1) := by decide +kernel
theorem dX8_nameAt_5 : decode cX8_nameAt 5 = .ok (.aload_n 0, 1) := by decide +kernel
theorem dX8_nameAt_6 : decode cX8_nameAt 6 = .ok (.getfield 25, 3) := by decide +kernel
theorem dX8_nameAt_9 : decode cX8_nameAt 9 = .ok (.if_icmp .ge 12, 3) := by decide +kernel
theorem dX8_nameAt_12 : decode cX8_nameAt 12 = .ok (.aload_n 0, 1) := by decide +kernel
theorem dX8_nameAt_13 : decode cX8_nameAt 13 = .ok (.getfield 21, 3) := by decide +kernel
theorem dX8_nameAt_16 : decode cX8_nameAt 16 = .ok (.iload_n 1, 1) := by decide +kernel
theorem dX8_nameAt_17 : decode cX8_nameAt 17 = .ok (.laload, 1) := by decide +kernel
theorem dX8_nameAt_18 : decode cX8_nameAt 18 = .ok (.goto 4, 3) := by decide +kernel
theorem dX8_nameAt_21 : decode cX8_nameAt 21 = .ok (.lconst 0, 1) := by decide +kernel
theorem dX8_nameAt_22 : decode cX8_nameAt 22 = .ok (.lreturn, 1) := by decide +kernel
theorem dX8_cut_0 : decode cX8_cut 0 = .ok (.aload_n 0, 1) := by decide +kernel
theorem dX8_cut_1 : decode cX8_cut 1 = .ok (.iconst 0, 1) := by decide +kernel
theorem dX8_cut_2 : decode cX8_cut 2 = .ok (.putfield 25, 3) := by decide +kernel
theorem dX8_cut_5 : decode cX8_cut 5 = .ok (.aload_n 0, 1) := by decide +kernel
theorem dX8_cut_6 : decode cX8_cut 6 = .ok (.iload_n 2, 1) := by decide +kernel
theorem dX8_cut_7 : decode cX8_cut 7 = .ok (.putfield 29, 3) := by decide +kernel
theorem dX8_cut_10 : decode cX8_cut 10 = .ok (.iconst 0, 1) := by decide +kernel
theorem dX8_cut_11 : decode cX8_cut 11 = .ok (.istore_n 3, 1) := by decide +kernel
theorem dX8_cut_12 : decode cX8_cut 12 = .ok (.iload_n 3, 1) := by decide +kernel
theorem dX8_cut_13 : decode cX8_cut 13 = .ok (.iload_n 2, 1) := by decide +kernel
theorem dX8_cut_14 : decode cX8_cut 14 = .ok (.if_icmp .ge 26, 3) := by decide +kernel
theorem dX8_cut_17 : decode cX8_cut 17 = .ok (.aload_n 0, 1) := by decide +kernel
theorem dX8_cut_18 : decode cX8_cut 18 = .ok (.aload_n 1, 1) := by decide +kernel
theorem dX8_cut_19 : decode cX8_cut 19 = .ok (.iload_n 3, 1) := by decide +kernel
theorem dX8_cut_20 : decode cX8_cut 20 = .ok (.iload_n 2, 1) := by decide +kernel
theorem dX8_cut_21 : decode cX8_cut 21 = .ok (.invokevirtual 32, 3) := by decide +kernel
theorem dX8_cut_24 : decode cX8_cut 24 = .ok (.istore 4, 2) := by decide +kernel
theorem dX8_cut_26 : decode cX8_cut 26 = .ok (.iload 4, 2) := by decide +kernel
theorem dX8_cut_28 : decode cX8_cut 28 = .ok (.iload_n 3, 1) := by decide +kernel
theorem dX8_cut_29 : decode cX8_cut 29 = .ok (.if_icmp .gt 5, 3) := by decide +kernel
theorem dX8_cut_32 : decode cX8_cut 32 = .ok (.iload_n 3, 1) := by decide +kernel
theorem dX8_cut_33 : decode cX8_cut 33 = .ok (.ireturn, 1) := by decide +kernel
theorem dX8_cut_34 : decode cX8_cut 34 = .ok (.iload 4, 2) := by decide +kernel
theorem dX8_cut_36 : decode cX8_cut 36 = .ok (.istore_n 3, 1) := by decide +kernel
theorem dX8_cut_37 : decode cX8_cut 37 = .ok (.goto (-25), 3) := by decide +kernel
theorem dX8_cut_40 : decode cX8_cut 40 = .ok (.iconst (-1), 1) := by decide +kernel
theorem dX8_cut_41 : decode cX8_cut 41 = .ok (.ireturn, 1) := by decide +kernel
theorem dX8_cutOne_0 : decode cX8_cutOne 0 = .ok (.aload_n 1, 1) := by decide +kernel
theorem dX8_cutOne_1 : decode cX8_cutOne 1 = .ok (.iload_n 2, 1) := by decide +kernel
theorem dX8_cutOne_2 : decode cX8_cutOne 2 = .ok (.baload, 1) := by decide +kernel
theorem dX8_cutOne_3 : decode cX8_cutOne 3 = .ok (.istore 4, 2) := by decide +kernel
theorem dX8_cutOne_5 : decode cX8_cutOne 5 = .ok (.iload 4, 2) := by decide +kernel
theorem dX8_cutOne_7 : decode cX8_cutOne 7 = .ok (.bipush 32, 2) := by decide +kernel
theorem dX8_cutOne_9 : decode cX8_cutOne 9 = .ok (.if_icmp .eq 10, 3) := by decide +kernel
theorem dX8_cutOne_12 : decode cX8_cutOne 12 = .ok (.iload 4, 2) := by decide +kernel
theorem dX8_cutOne_14 : decode cX8_cutOne 14 = .ok (.bipush 10, 2) := by decide +kernel
theorem dX8_cutOne_16 : decode cX8_cutOne 16 = .ok (.if_icmp .ne 7, 3) := by decide +kernel
theorem dX8_cutOne_19 : decode cX8_cutOne 19 = .ok (.iload_n 2, 1) := by decide +kernel
theorem dX8_cutOne_20 : decode cX8_cutOne 20 = .ok (.iconst 1, 1) := by decide +kernel
theorem dX8_cutOne_21 : decode cX8_cutOne 21 = .ok (.iadd, 1) := by decide +kernel
theorem dX8_cutOne_22 : decode cX8_cutOne 22 = .ok (.ireturn, 1) := by decide +kernel
theorem dX8_cutOne_23 : decode cX8_cutOne 23 = .ok (.iload 4, 2) := by decide +kernel
theorem dX8_cutOne_25 : decode cX8_cutOne 25 = .ok (.bipush 58, 2) := by decide +kernel
theorem dX8_cutOne_27 : decode cX8_cutOne 27 = .ok (.if_icmp .eq 10, 3) := by decide +kernel
theorem dX8_cutOne_30 : decode cX8_cutOne 30 = .ok (.iload 4, 2) := by decide +kernel
theorem dX8_cutOne_32 : decode cX8_cutOne 32 = .ok (.bipush 59, 2) := by decide +kernel
theorem dX8_cutOne_34 : decode cX8_cutOne 34 = .ok (.if_icmp .ne 26, 3) := by decide +kernel
theorem dX8_cutOne_37 : decode cX8_cutOne 37 = .ok (.aload_n 0, 1) := by decide +kernel
theorem dX8_cutOne_38 : decode cX8_cutOne 38 = .ok (.iload 4, 2) := by decide +kernel
theorem dX8_cutOne_40 : decode cX8_cutOne 40 = .ok (.bipush 58, 2) := by decide +kernel
theorem dX8_cutOne_42 : decode cX8_cutOne 42 = .ok (.if_icmp .ne 7, 3) := by decide +kernel
theorem dX8_cutOne_45 : decode cX8_cutOne 45 = .ok (.iconst 4, 1) := by decide +kernel
theorem dX8_cutOne_46 : decode cX8_cutOne 46 = .ok (.goto 4, 3) := by decide +kernel
theorem dX8_cutOne_49 : decode cX8_cutOne 49 = .ok (.iconst 5, 1) := by decide +kernel
theorem dX8_cutOne_50 : decode cX8_cutOne 50 = .ok (.iload_n 2, 1) := by decide +kernel
theorem dX8_cutOne_51 : decode cX8_cutOne 51 = .ok (.iconst 0, 1) := by decide +kernel
theorem dX8_cutOne_52 : decode cX8_cutOne 52 = .ok (.lconst 0, 1) := by decide +kernel
theorem dX8_cutOne_53 : decode cX8_cutOne 53 = .ok (.invokevirtual 36, 3) := by decide +kernel
theorem dX8_cutOne_56 : decode cX8_cutOne 56 = .ok (.iload_n 2, 1) := by decide +kernel
theorem dX8_cutOne_57 : decode cX8_cutOne 57 = .ok (.iconst 1, 1) := by decide +kernel
theorem dX8_cutOne_58 : decode cX8_cutOne 58 = .ok (.iadd, 1) := by decide +kernel
theorem dX8_cutOne_59 : decode cX8_cutOne 59 = .ok (.ireturn, 1) := by decide +kernel
theorem dX8_cutOne_60 : decode cX8_cutOne 60 = .ok (.iload 4, 2) := by decide +kernel
theorem dX8_cutOne_62 : decode cX8_cutOne 62 = .ok (.invokestatic 40, 3) := by decide +kernel
theorem dX8_cutOne_65 : decode cX8_cutOne 65 = .ok (.ifCond .eq 11, 3) := by decide +kernel
theorem dX8_cutOne_68 : decode cX8_cutOne 68 = .ok (.aload_n 0, 1) := by decide +kernel
theorem dX8_cutOne_69 : decode cX8_cutOne 69 = .ok (.aload_n 1, 1) := by decide +kernel
theorem dX8_cutOne_70 : decode cX8_cutOne 70 = .ok (.iload_n 2, 1) := by decide +kernel
theorem dX8_cutOne_71 : decode cX8_cutOne 71 = .ok (.iload_n 3, 1) := by decide +kernel
theorem dX8_cutOne_72 : decode cX8_cutOne 72 = .ok (.invokevirtual 44, 3) := by decide +kernel
theorem dX8_cutOne_75 : decode cX8_cutOne 75 = .ok (.ireturn, 1) := by decide +kernel
theorem dX8_cutOne_76 : decode cX8_cutOne 76 = .ok (.iload 4, 2) := by decide +kernel
theorem dX8_cutOne_78 : decode cX8_cutOne 78 = .ok (.bipush 45, 2) := by decide +kernel
theorem dX8_cutOne_80 : decode cX8_cutOne 80 = .ok (.if_icmp .eq 11, 3) := by decide +kernel
theorem dX8_cutOne_83 : decode cX8_cutOne 83 = .ok (.iload 4, 2) := by decide +kernel
theorem dX8_cutOne_85 : decode cX8_cutOne 85 = .ok (.invokestatic 47, 3) := by decide +kernel
theorem dX8_cutOne_88 : decode cX8_cutOne 88 = .ok (.ifCond .eq 13, 3) := by decide +kernel
theorem dX8_cutOne_91 : decode cX8_cutOne 91 = .ok (.aload_n 0, 1) := by decide +kernel
theorem dX8_cutOne_92 : decode cX8_cutOne 92 = .ok (.aload_n 1, 1) := by decide +kernel
theorem dX8_cutOne_93 : decode cX8_cutOne 93 = .ok (.iload_n 2, 1) := by decide +kernel
theorem dX8_cutOne_94 : decode cX8_cutOne 94 = .ok (.iload_n 3, 1) := by decide +kernel
theorem dX8_cutOne_95 : decode cX8_cutOne 95 = .ok (.invokevirtual 50, 3) := by decide +kernel
theorem dX8_cutOne_98 : decode cX8_cutOne 98 = .ok (.goto 4, 3) := by decide +kernel
theorem dX8_cutOne_101 : decode cX8_cutOne 101 = .ok (.iconst (-1), 1) := by decide +kernel
theorem dX8_cutOne_102 : decode cX8_cutOne 102 = .ok (.ireturn, 1) := by decide +kernel
theorem dX8_cutName_0 : decode cX8_cutName 0 = .ok (.iload_n 2, 1) := by decide +kernel
theorem dX8_cutName_1 : decode cX8_cutName 1 = .ok (.istore 4, 2) := by decide +kernel
theorem dX8_cutName_3 : decode cX8_cutName 3 = .ok (.lconst 0, 1) := by decide +kernel
theorem dX8_cutName_4 : decode cX8_cutName 4 = .ok (.lstore 5, 2) := by decide +kernel
theorem dX8_cutName_6 : decode cX8_cutName 6 = .ok (.iload 4, 2) := by decide +kernel
theorem dX8_cutName_8 : decode cX8_cutName 8 = .ok (.iload_n 3, 1) := by decide +kernel
theorem dX8_cutName_9 : decode cX8_cutName 9 = .ok (.if_icmp .ge 75, 3) := by decide +kernel
theorem dX8_cutName_12 : decode cX8_cutName 12 = .ok (.aload_n 1, 1) := by decide +kernel
theorem dX8_cutName_13 : decode cX8_cutName 13 = .ok (.iload 4, 2) := by decide +kernel
theorem dX8_cutName_15 : decode cX8_cutName 15 = .ok (.baload, 1) := by decide +kernel
theorem dX8_cutName_16 : decode cX8_cutName 16 = .ok (.invokestatic 40, 3) := by decide +kernel
theorem dX8_cutName_19 : decode cX8_cutName 19 = .ok (.ifCond .ne 13, 3) := by decide +kernel
theorem dX8_cutName_22 : decode cX8_cutName 22 = .ok (.aload_n 1, 1) := by decide +kernel
theorem dX8_cutName_23 : decode cX8_cutName 23 = .ok (.iload 4, 2) := by decide +kernel
theorem dX8_cutName_25 : decode cX8_cutName 25 = .ok (.baload, 1) := by decide +kernel
theorem dX8_cutName_26 : decode cX8_cutName 26 = .ok (.invokestatic 47, 3) := by decide +kernel
theorem dX8_cutName_29 : decode cX8_cutName 29 = .ok (.ifCond .eq 55, 3) := by decide +kernel
theorem dX8_cutName_32 : decode cX8_cutName 32 = .ok (.aload_n 1, 1) := by decide +kernel
theorem dX8_cutName_33 : decode cX8_cutName 33 = .ok (.iload 4, 2) := by decide +kernel
theorem dX8_cutName_35 : decode cX8_cutName 35 = .ok (.baload, 1) := by decide +kernel
theorem dX8_cutName_36 : decode cX8_cutName 36 = .ok (.invokestatic 47, 3) := by decide +kernel
theorem dX8_cutName_39 : decode cX8_cutName 39 = .ok (.ifCond .eq 13, 3) := by decide +kernel
theorem dX8_cutName_42 : decode cX8_cutName 42 = .ok (.aload_n 1, 1) := by decide +kernel
theorem dX8_cutName_43 : decode cX8_cutName 43 = .ok (.iload 4, 2) := by decide +kernel
theorem dX8_cutName_45 : decode cX8_cutName 45 = .ok (.baload, 1) := by decide +kernel
theorem dX8_cutName_46 : decode cX8_cutName 46 = .ok (.bipush 48, 2) := by decide +kernel
theorem dX8_cutName_48 : decode cX8_cutName 48 = .ok (.isub, 1) := by decide +kernel
theorem dX8_cutName_49 : decode cX8_cutName 49 = .ok (.goto 13, 3) := by decide +kernel
theorem dX8_cutName_52 : decode cX8_cutName 52 = .ok (.aload_n 1, 1) := by decide +kernel
theorem dX8_cutName_53 : decode cX8_cutName 53 = .ok (.iload 4, 2) := by decide +kernel
theorem dX8_cutName_55 : decode cX8_cutName 55 = .ok (.baload, 1) := by decide +kernel
theorem dX8_cutName_56 : decode cX8_cutName 56 = .ok (.bipush 97, 2) := by decide +kernel
theorem dX8_cutName_58 : decode cX8_cutName 58 = .ok (.isub, 1) := by decide +kernel
theorem dX8_cutName_59 : decode cX8_cutName 59 = .ok (.bipush 10, 2) := by decide +kernel
theorem dX8_cutName_61 : decode cX8_cutName 61 = .ok (.iadd, 1) := by decide +kernel
theorem dX8_cutName_62 : decode cX8_cutName 62 = .ok (.istore 7, 2) := by decide +kernel
theorem dX8_cutName_64 : decode cX8_cutName 64 = .ok (.lload 5, 2) := by decide +kernel
theorem dX8_cutName_66 : decode cX8_cutName 66 = .ok (.ldc2_w 53, 3) := by decide +kernel
theorem dX8_cutName_69 : decode cX8_cutName 69 = .ok (.lmul, 1) := by decide +kernel
theorem dX8_cutName_70 : decode cX8_cutName 70 = .ok (.iload 7, 2) := by decide +kernel
theorem dX8_cutName_72 : decode cX8_cutName 72 = .ok (.i2l, 1) := by decide +kernel
theorem dX8_cutName_73 : decode cX8_cutName 73 = .ok (.ladd, 1) := by decide +kernel
theorem dX8_cutName_74 : decode cX8_cutName 74 = .ok (.lconst 1, 1) := by decide +kernel
theorem dX8_cutName_75 : decode cX8_cutName 75 = .ok (.ladd, 1) := by decide +kernel
theorem dX8_cutName_76 : decode cX8_cutName 76 = .ok (.lstore 5, 2) := by decide +kernel
theorem dX8_cutName_78 : decode cX8_cutName 78 = .ok (.iinc 4 1, 3) := by decide +kernel
theorem dX8_cutName_81 : decode cX8_cutName 81 = .ok (.goto (-75), 3) := by decide +kernel
theorem dX8_cutName_84 : decode cX8_cutName 84 = .ok (.iload 4, 2) := by decide +kernel
theorem dX8_cutName_86 : decode cX8_cutName 86 = .ok (.iload_n 2, 1) := by decide +kernel
theorem dX8_cutName_87 : decode cX8_cutName 87 = .ok (.isub, 1) := by decide +kernel
theorem dX8_cutName_88 : decode cX8_cutName 88 = .ok (.bipush 8, 2) := by decide +kernel
theorem dX8_cutName_90 : decode cX8_cutName 90 = .ok (.if_icmp .le 5, 3) := by decide +kernel
theorem dX8_cutName_93 : decode cX8_cutName 93 = .ok (.iconst (-1), 1) := by decide +kernel
theorem dX8_cutName_94 : decode cX8_cutName 94 = .ok (.ireturn, 1) := by decide +kernel
theorem dX8_cutName_95 : decode cX8_cutName 95 = .ok (.aload_n 1, 1) := by decide +kernel
theorem dX8_cutName_96 : decode cX8_cutName 96 = .ok (.iload_n 2, 1) := by decide +kernel
theorem dX8_cutName_97 : decode cX8_cutName 97 = .ok (.iload 4, 2) := by decide +kernel
theorem dX8_cutName_99 : decode cX8_cutName 99 = .ok (.invokestatic 55, 3) := by decide +kernel
theorem dX8_cutName_102 : decode cX8_cutName 102 = .ok (.istore 7, 2) := by decide +kernel
theorem dX8_cutName_104 : decode cX8_cutName 104 = .ok (.iload 7, 2) := by decide +kernel
theorem dX8_cutName_106 : decode cX8_cutName 106 = .ok (.iconst (-1), 1) := by decide +kernel
theorem dX8_cutName_107 : decode cX8_cutName 107 = .ok (.if_icmp .eq 15, 3) := by decide +kernel
theorem dX8_cutName_110 : decode cX8_cutName 110 = .ok (.aload_n 0, 1) := by decide +kernel
theorem dX8_cutName_111 : decode cX8_cutName 111 = .ok (.iconst 2, 1) := by decide +kernel
theorem dX8_cutName_112 : decode cX8_cutName 112 = .ok (.iload_n 2, 1) := by decide +kernel
theorem dX8_cutName_113 : decode cX8_cutName 113 = .ok (.iload 7, 2) := by decide +kernel
theorem dX8_cutName_115 : decode cX8_cutName 115 = .ok (.lconst 0, 1) := by decide +kernel
theorem dX8_cutName_116 : decode cX8_cutName 116 = .ok (.invokevirtual 36, 3) := by decide +kernel
theorem dX8_cutName_119 : decode cX8_cutName 119 = .ok (.goto 48, 3) := by decide +kernel
theorem dX8_cutName_122 : decode cX8_cutName 122 = .ok (.iload 4, 2) := by decide +kernel
theorem dX8_cutName_124 : decode cX8_cutName 124 = .ok (.iload_n 2, 1) := by decide +kernel
theorem dX8_cutName_125 : decode cX8_cutName 125 = .ok (.isub, 1) := by decide +kernel
theorem dX8_cutName_126 : decode cX8_cutName 126 = .ok (.iconst 1, 1) := by decide +kernel
theorem dX8_cutName_127 : decode cX8_cutName 127 = .ok (.if_icmp .ne 31, 3) := by decide +kernel
theorem dX8_cutName_130 : decode cX8_cutName 130 = .ok (.aload_n 1, 1) := by decide +kernel
theorem dX8_cutName_131 : decode cX8_cutName 131 = .ok (.iload_n 2, 1) := by decide +kernel
theorem dX8_cutName_132 : decode cX8_cutName 132 = .ok (.baload, 1) := by decide +kernel
theorem dX8_cutName_133 : decode cX8_cutName 133 = .ok (.bipush 97, 2) := by decide +kernel
theorem dX8_cutName_135 : decode cX8_cutName 135 = .ok (.isub, 1) := by decide +kernel
theorem dX8_cutName_136 : decode cX8_cutName 136 = .ok (.invokestatic 58, 3) := by decide +kernel
theorem dX8_cutName_139 : decode cX8_cutName 139 = .ok (.ifCond .eq 19, 3) := by decide +kernel
theorem dX8_cutName_142 : decode cX8_cutName 142 = .ok (.aload_n 0, 1) := by decide +kernel
theorem dX8_cutName_143 : decode cX8_cutName 143 = .ok (.iconst 1, 1) := by decide +kernel
theorem dX8_cutName_144 : decode cX8_cutName 144 = .ok (.iload_n 2, 1) := by decide +kernel
theorem dX8_cutName_145 : decode cX8_cutName 145 = .ok (.aload_n 1, 1) := by decide +kernel
theorem dX8_cutName_146 : decode cX8_cutName 146 = .ok (.iload_n 2, 1) := by decide +kernel
theorem dX8_cutName_147 : decode cX8_cutName 147 = .ok (.baload, 1) := by decide +kernel
theorem dX8_cutName_148 : decode cX8_cutName 148 = .ok (.bipush 97, 2) := by decide +kernel
theorem dX8_cutName_150 : decode cX8_cutName 150 = .ok (.isub, 1) := by decide +kernel
theorem dX8_cutName_151 : decode cX8_cutName 151 = .ok (.lconst 0, 1) := by decide +kernel
theorem dX8_cutName_152 : decode cX8_cutName 152 = .ok (.invokevirtual 36, 3) := by decide +kernel
theorem dX8_cutName_155 : decode cX8_cutName 155 = .ok (.goto 12, 3) := by decide +kernel
theorem dX8_cutName_158 : decode cX8_cutName 158 = .ok (.aload_n 0, 1) := by decide +kernel
theorem dX8_cutName_159 : decode cX8_cutName 159 = .ok (.iconst 3, 1) := by decide +kernel
theorem dX8_cutName_160 : decode cX8_cutName 160 = .ok (.iload_n 2, 1) := by decide +kernel
theorem dX8_cutName_161 : decode cX8_cutName 161 = .ok (.iconst 0, 1) := by decide +kernel
theorem dX8_cutName_162 : decode cX8_cutName 162 = .ok (.lload 5, 2) := by decide +kernel
theorem dX8_cutName_164 : decode cX8_cutName 164 = .ok (.invokevirtual 36, 3) := by decide +kernel
theorem dX8_cutName_167 : decode cX8_cutName 167 = .ok (.iload 4, 2) := by decide +kernel
theorem dX8_cutName_169 : decode cX8_cutName 169 = .ok (.ireturn, 1) := by decide +kernel
theorem dX8_cutNumber_0 : decode cX8_cutNumber 0 = .ok (.aload_n 1, 1) := by decide +kernel
theorem dX8_cutNumber_1 : decode cX8_cutNumber 1 = .ok (.iload_n 2, 1) := by decide +kernel
theorem dX8_cutNumber_2 : decode cX8_cutNumber 2 = .ok (.baload, 1) := by decide +kernel
theorem dX8_cutNumber_3 : decode cX8_cutNumber 3 = .ok (.bipush 45, 2) := by decide +kernel
theorem dX8_cutNumber_5 : decode cX8_cutNumber 5 = .ok (.if_icmp .ne 7, 3) := by decide +kernel
theorem dX8_cutNumber_8 : decode cX8_cutNumber 8 = .ok (.iconst 1, 1) := by decide +kernel
theorem dX8_cutNumber_9 : decode cX8_cutNumber 9 = .ok (.goto 4, 3) := by decide +kernel
theorem dX8_cutNumber_12 : decode cX8_cutNumber 12 = .ok (.iconst 0, 1) := by decide +kernel
theorem dX8_cutNumber_13 : decode cX8_cutNumber 13 = .ok (.istore 4, 2) := by decide +kernel
theorem dX8_cutNumber_15 : decode cX8_cutNumber 15 = .ok (.iload 4, 2) := by decide +kernel
theorem dX8_cutNumber_17 : decode cX8_cutNumber 17 = .ok (.ifCond .eq 9, 3) := by decide +kernel
theorem dX8_cutNumber_20 : decode cX8_cutNumber 20 = .ok (.iload_n 2, 1) := by decide +kernel
theorem dX8_cutNumber_21 : decode cX8_cutNumber 21 = .ok (.iconst 1, 1) := by decide +kernel
theorem dX8_cutNumber_22 : decode cX8_cutNumber 22 = .ok (.iadd, 1) := by decide +kernel
theorem dX8_cutNumber_23 : decode cX8_cutNumber 23 = .ok (.goto 4, 3) := by decide +kernel
theorem dX8_cutNumber_26 : decode cX8_cutNumber 26 = .ok (.iload_n 2, 1) := by decide +kernel
theorem dX8_cutNumber_27 : decode cX8_cutNumber 27 = .ok (.istore 5, 2) := by decide +kernel
theorem dX8_cutNumber_29 : decode cX8_cutNumber 29 = .ok (.iload 5, 2) := by decide +kernel
theorem dX8_cutNumber_31 : decode cX8_cutNumber 31 = .ok (.istore 6, 2) := by decide +kernel
theorem dX8_cutNumber_33 : decode cX8_cutNumber 33 = .ok (.lconst 0, 1) := by decide +kernel
theorem dX8_cutNumber_34 : decode cX8_cutNumber 34 = .ok (.lstore 7, 2) := by decide +kernel
theorem dX8_cutNumber_36 : decode cX8_cutNumber 36 = .ok (.iload 6, 2) := by decide +kernel
theorem dX8_cutNumber_38 : decode cX8_cutNumber 38 = .ok (.iload_n 3, 1) := by decide +kernel
theorem dX8_cutNumber_39 : decode cX8_cutNumber 39 = .ok (.if_icmp .ge 52, 3) := by decide +kernel
theorem dX8_cutNumber_42 : decode cX8_cutNumber 42 = .ok (.aload_n 1, 1) := by decide +kernel
theorem dX8_cutNumber_43 : decode cX8_cutNumber 43 = .ok (.iload 6, 2) := by decide +kernel
theorem dX8_cutNumber_45 : decode cX8_cutNumber 45 = .ok (.baload, 1) := by decide +kernel
theorem dX8_cutNumber_46 : decode cX8_cutNumber 46 = .ok (.invokestatic 47, 3) := by decide +kernel
theorem dX8_cutNumber_49 : decode cX8_cutNumber 49 = .ok (.ifCond .eq 42, 3) := by decide +kernel
theorem dX8_cutNumber_52 : decode cX8_cutNumber 52 = .ok (.iload 6, 2) := by decide +kernel
theorem dX8_cutNumber_54 : decode cX8_cutNumber 54 = .ok (.iload 5, 2) := by decide +kernel
theorem dX8_cutNumber_56 : decode cX8_cutNumber 56 = .ok (.isub, 1) := by decide +kernel
theorem dX8_cutNumber_57 : decode cX8_cutNumber 57 = .ok (.bipush 10, 2) := by decide +kernel
theorem dX8_cutNumber_59 : decode cX8_cutNumber 59 = .ok (.if_icmp .ge 22, 3) := by decide +kernel
theorem dX8_cutNumber_62 : decode cX8_cutNumber 62 = .ok (.lload 7, 2) := by decide +kernel
theorem dX8_cutNumber_64 : decode cX8_cutNumber 64 = .ok (.ldc2_w 61, 3) := by decide +kernel
theorem dX8_cutNumber_67 : decode cX8_cutNumber 67 = .ok (.lmul, 1) := by decide +kernel
theorem dX8_cutNumber_68 : decode cX8_cutNumber 68 = .ok (.aload_n 1, 1) := by decide +kernel
theorem dX8_cutNumber_69 : decode cX8_cutNumber 69 = .ok (.iload 6, 2) := by decide +kernel
theorem dX8_cutNumber_71 : decode cX8_cutNumber 71 = .ok (.baload, 1) := by decide +kernel
theorem dX8_cutNumber_72 : decode cX8_cutNumber 72 = .ok (.i2l, 1) := by decide +kernel
theorem dX8_cutNumber_73 : decode cX8_cutNumber 73 = .ok (.ladd, 1) := by decide +kernel
theorem dX8_cutNumber_74 : decode cX8_cutNumber 74 = .ok (.ldc2_w 63, 3) := by decide +kernel
theorem dX8_cutNumber_77 : decode cX8_cutNumber 77 = .ok (.lsub, 1) := by decide +kernel
theorem dX8_cutNumber_78 : decode cX8_cutNumber 78 = .ok (.goto 5, 3) := by decide +kernel
theorem dX8_cutNumber_81 : decode cX8_cutNumber 81 = .ok (.lload 7, 2) := by decide +kernel
theorem dX8_cutNumber_83 : decode cX8_cutNumber 83 = .ok (.lstore 7, 2) := by decide +kernel
theorem dX8_cutNumber_85 : decode cX8_cutNumber 85 = .ok (.iinc 6 1, 3) := by decide +kernel
theorem dX8_cutNumber_88 : decode cX8_cutNumber 88 = .ok (.goto (-52), 3) := by decide +kernel
theorem dX8_cutNumber_91 : decode cX8_cutNumber 91 = .ok (.iload 4, 2) := by decide +kernel
theorem dX8_cutNumber_93 : decode cX8_cutNumber 93 = .ok (.ifCond .eq 9, 3) := by decide +kernel
theorem dX8_cutNumber_96 : decode cX8_cutNumber 96 = .ok (.lload 7, 2) := by decide +kernel
theorem dX8_cutNumber_98 : decode cX8_cutNumber 98 = .ok (.lneg, 1) := by decide +kernel
theorem dX8_cutNumber_99 : decode cX8_cutNumber 99 = .ok (.goto 5, 3) := by decide +kernel
theorem dX8_cutNumber_102 : decode cX8_cutNumber 102 = .ok (.lload 7, 2) := by decide +kernel
theorem dX8_cutNumber_104 : decode cX8_cutNumber 104 = .ok (.lstore 9, 2) := by decide +kernel
theorem dX8_cutNumber_106 : decode cX8_cutNumber 106 = .ok (.iload 6, 2) := by decide +kernel
theorem dX8_cutNumber_108 : decode cX8_cutNumber 108 = .ok (.iload 5, 2) := by decide +kernel
theorem dX8_cutNumber_110 : decode cX8_cutNumber 110 = .ok (.if_icmp .eq 23, 3) := by decide +kernel
theorem dX8_cutNumber_113 : decode cX8_cutNumber 113 = .ok (.iload 6, 2) := by decide +kernel
theorem dX8_cutNumber_115 : decode cX8_cutNumber 115 = .ok (.iload 5, 2) := by decide +kernel
theorem dX8_cutNumber_117 : decode cX8_cutNumber 117 = .ok (.isub, 1) := by decide +kernel
theorem dX8_cutNumber_118 : decode cX8_cutNumber 118 = .ok (.bipush 10, 2) := by decide +kernel
theorem dX8_cutNumber_120 : decode cX8_cutNumber 120 = .ok (.if_icmp .gt 13, 3) := by decide +kernel
theorem dX8_cutNumber_123 : decode cX8_cutNumber 123 = .ok (.lload 9, 2) := by decide +kernel
theorem dX8_cutNumber_125 : decode cX8_cutNumber 125 = .ok (.lload 9, 2) := by decide +kernel
theorem dX8_cutNumber_127 : decode cX8_cutNumber 127 = .ok (.l2i, 1) := by decide +kernel
theorem dX8_cutNumber_128 : decode cX8_cutNumber 128 = .ok (.i2l, 1) := by decide +kernel
theorem dX8_cutNumber_129 : decode cX8_cutNumber 129 = .ok (.lcmp, 1) := by decide +kernel
theorem dX8_cutNumber_130 : decode cX8_cutNumber 130 = .ok (.ifCond .eq 5, 3) := by decide +kernel
theorem dX8_cutNumber_133 : decode cX8_cutNumber 133 = .ok (.iconst (-1), 1) := by decide +kernel
theorem dX8_cutNumber_134 : decode cX8_cutNumber 134 = .ok (.ireturn, 1) := by decide +kernel
theorem dX8_cutNumber_135 : decode cX8_cutNumber 135 = .ok (.aload_n 0, 1) := by decide +kernel
theorem dX8_cutNumber_136 : decode cX8_cutNumber 136 = .ok (.iconst 0, 1) := by decide +kernel
theorem dX8_cutNumber_137 : decode cX8_cutNumber 137 = .ok (.iload_n 2, 1) := by decide +kernel
theorem dX8_cutNumber_138 : decode cX8_cutNumber 138 = .ok (.lload 9, 2) := by decide +kernel
theorem dX8_cutNumber_140 : decode cX8_cutNumber 140 = .ok (.l2i, 1) := by decide +kernel
theorem dX8_cutNumber_141 : decode cX8_cutNumber 141 = .ok (.lconst 0, 1) := by decide +kernel
theorem dX8_cutNumber_142 : decode cX8_cutNumber 142 = .ok (.invokevirtual 36, 3) := by decide +kernel
theorem dX8_cutNumber_145 : decode cX8_cutNumber 145 = .ok (.iload 6, 2) := by decide +kernel
theorem dX8_cutNumber_147 : decode cX8_cutNumber 147 = .ok (.ireturn, 1) := by decide +kernel
theorem dX8_add_0 : decode cX8_add 0 = .ok (.aload_n 0, 1) := by decide +kernel
theorem dX8_add_1 : decode cX8_add 1 = .ok (.getfield 25, 3) := by decide +kernel
theorem dX8_add_4 : decode cX8_add 4 = .ok (.sipush 2000, 3) := by decide +kernel
theorem dX8_add_7 : decode cX8_add 7 = .ok (.if_icmp .ge 54, 3) := by decide +kernel
theorem dX8_add_10 : decode cX8_add 10 = .ok (.aload_n 0, 1) := by decide +kernel
theorem dX8_add_11 : decode cX8_add 11 = .ok (.getfield 9, 3) := by decide +kernel
theorem dX8_add_14 : decode cX8_add 14 = .ok (.aload_n 0, 1) := by decide +kernel
theorem dX8_add_15 : decode cX8_add 15 = .ok (.getfield 25, 3) := by decide +kernel
theorem dX8_add_18 : decode cX8_add 18 = .ok (.iload_n 1, 1) := by decide +kernel
theorem dX8_add_19 : decode cX8_add 19 = .ok (.iastore, 1) := by decide +kernel
theorem dX8_add_20 : decode cX8_add 20 = .ok (.aload_n 0, 1) := by decide +kernel
theorem dX8_add_21 : decode cX8_add 21 = .ok (.getfield 15, 3) := by decide +kernel
theorem dX8_add_24 : decode cX8_add 24 = .ok (.aload_n 0, 1) := by decide +kernel
theorem dX8_add_25 : decode cX8_add 25 = .ok (.getfield 25, 3) := by decide +kernel
theorem dX8_add_28 : decode cX8_add 28 = .ok (.iload_n 2, 1) := by decide +kernel
theorem dX8_add_29 : decode cX8_add 29 = .ok (.iastore, 1) := by decide +kernel
theorem dX8_add_30 : decode cX8_add 30 = .ok (.aload_n 0, 1) := by decide +kernel
theorem dX8_add_31 : decode cX8_add 31 = .ok (.getfield 18, 3) := by decide +kernel
theorem dX8_add_34 : decode cX8_add 34 = .ok (.aload_n 0, 1) := by decide +kernel
theorem dX8_add_35 : decode cX8_add 35 = .ok (.getfield 25, 3) := by decide +kernel
theorem dX8_add_38 : decode cX8_add 38 = .ok (.iload_n 3, 1) := by decide +kernel
theorem dX8_add_39 : decode cX8_add 39 = .ok (.iastore, 1) := by decide +kernel
theorem dX8_add_40 : decode cX8_add 40 = .ok (.aload_n 0, 1) := by decide +kernel
theorem dX8_add_41 : decode cX8_add 41 = .ok (.getfield 21, 3) := by decide +kernel
theorem dX8_add_44 : decode cX8_add 44 = .ok (.aload_n 0, 1) := by decide +kernel
theorem dX8_add_45 : decode cX8_add 45 = .ok (.getfield 25, 3) := by decide +kernel
theorem dX8_add_48 : decode cX8_add 48 = .ok (.lload 4, 2) := by decide +kernel
theorem dX8_add_50 : decode cX8_add 50 = .ok (.lastore, 1) := by decide +kernel
theorem dX8_add_51 : decode cX8_add 51 = .ok (.aload_n 0, 1) := by decide +kernel
theorem dX8_add_52 : decode cX8_add 52 = .ok (.dup, 1) := by decide +kernel
theorem dX8_add_53 : decode cX8_add 53 = .ok (.getfield 25, 3) := by decide +kernel
theorem dX8_add_56 : decode cX8_add 56 = .ok (.iconst 1, 1) := by decide +kernel
theorem dX8_add_57 : decode cX8_add 57 = .ok (.iadd, 1) := by decide +kernel
theorem dX8_add_58 : decode cX8_add 58 = .ok (.putfield 25, 3) := by decide +kernel
theorem dX8_add_61 : decode cX8_add 61 = .ok (.return_, 1) := by decide +kernel
theorem dX8_actNamed_0 : decode cX8_actNamed 0 = .ok (.iconst 0, 1) := by decide +kernel
theorem dX8_actNamed_1 : decode cX8_actNamed 1 = .ok (.istore_n 3, 1) := by decide +kernel
theorem dX8_actNamed_2 : decode cX8_actNamed 2 = .ok (.iload_n 3, 1) := by decide +kernel
theorem dX8_actNamed_3 : decode cX8_actNamed 3 = .ok (.getstatic 65, 3) := by decide +kernel
theorem dX8_actNamed_6 : decode cX8_actNamed 6 = .ok (.arraylength, 1) := by decide +kernel
theorem dX8_actNamed_7 : decode cX8_actNamed 7 = .ok (.if_icmp .ge 28, 3) := by decide +kernel
theorem dX8_actNamed_10 : decode cX8_actNamed 10 = .ok (.aload_n 0, 1) := by decide +kernel
theorem dX8_actNamed_11 : decode cX8_actNamed 11 = .ok (.iload_n 1, 1) := by decide +kernel
theorem dX8_actNamed_12 : decode cX8_actNamed 12 = .ok (.iload_n 2, 1) := by decide +kernel
theorem dX8_actNamed_13 : decode cX8_actNamed 13 = .ok (.getstatic 65, 3) := by decide +kernel
theorem dX8_actNamed_16 : decode cX8_actNamed 16 = .ok (.iload_n 3, 1) := by decide +kernel
theorem dX8_actNamed_17 : decode cX8_actNamed 17 = .ok (.aaload, 1) := by decide +kernel
theorem dX8_actNamed_18 : decode cX8_actNamed 18 = .ok (.getfield 69, 3) := by decide +kernel
theorem dX8_actNamed_21 : decode cX8_actNamed 21 = .ok (.invokestatic 75, 3) := by decide +kernel
theorem dX8_actNamed_24 : decode cX8_actNamed 24 = .ok (.ifCond .eq 5, 3) := by decide +kernel
theorem dX8_actNamed_27 : decode cX8_actNamed 27 = .ok (.iload_n 3, 1) := by decide +kernel
theorem dX8_actNamed_28 : decode cX8_actNamed 28 = .ok (.ireturn, 1) := by decide +kernel
theorem dX8_actNamed_29 : decode cX8_actNamed 29 = .ok (.iinc 3 1, 3) := by decide +kernel
theorem dX8_actNamed_32 : decode cX8_actNamed 32 = .ok (.goto (-30), 3) := by decide +kernel
theorem dX8_actNamed_35 : decode cX8_actNamed 35 = .ok (.iconst (-1), 1) := by decide +kernel
theorem dX8_actNamed_36 : decode cX8_actNamed 36 = .ok (.ireturn, 1) := by decide +kernel
theorem dX8_reads_0 : decode cX8_reads 0 = .ok (.iload_n 2, 1) := by decide +kernel
theorem dX8_reads_1 : decode cX8_reads 1 = .ok (.iload_n 1, 1) := by decide +kernel
theorem dX8_reads_2 : decode cX8_reads 2 = .ok (.isub, 1) := by decide +kernel
theorem dX8_reads_3 : decode cX8_reads 3 = .ok (.aload_n 3, 1) := by decide +kernel
theorem dX8_reads_4 : decode cX8_reads 4 = .ok (.invokevirtual 79, 3) := by decide +kernel
theorem dX8_reads_7 : decode cX8_reads 7 = .ok (.if_icmp .eq 5, 3) := by decide +kernel
theorem dX8_reads_10 : decode cX8_reads 10 = .ok (.iconst 0, 1) := by decide +kernel
theorem dX8_reads_11 : decode cX8_reads 11 = .ok (.ireturn, 1) := by decide +kernel
theorem dX8_reads_12 : decode cX8_reads 12 = .ok (.iload_n 1, 1) := by decide +kernel
theorem dX8_reads_13 : decode cX8_reads 13 = .ok (.istore 4, 2) := by decide +kernel
theorem dX8_reads_15 : decode cX8_reads 15 = .ok (.iload 4, 2) := by decide +kernel
theorem dX8_reads_17 : decode cX8_reads 17 = .ok (.iload_n 2, 1) := by decide +kernel
theorem dX8_reads_18 : decode cX8_reads 18 = .ok (.if_icmp .ge 26, 3) := by decide +kernel
theorem dX8_reads_21 : decode cX8_reads 21 = .ok (.aload_n 0, 1) := by decide +kernel
theorem dX8_reads_22 : decode cX8_reads 22 = .ok (.iload 4, 2) := by decide +kernel
theorem dX8_reads_24 : decode cX8_reads 24 = .ok (.baload, 1) := by decide +kernel
theorem dX8_reads_25 : decode cX8_reads 25 = .ok (.aload_n 3, 1) := by decide +kernel
theorem dX8_reads_26 : decode cX8_reads 26 = .ok (.iload 4, 2) := by decide +kernel
theorem dX8_reads_28 : decode cX8_reads 28 = .ok (.iload_n 1, 1) := by decide +kernel
theorem dX8_reads_29 : decode cX8_reads 29 = .ok (.isub, 1) := by decide +kernel
theorem dX8_reads_30 : decode cX8_reads 30 = .ok (.invokevirtual 85, 3) := by decide +kernel
theorem dX8_reads_33 : decode cX8_reads 33 = .ok (.if_icmp .eq 5, 3) := by decide +kernel
theorem dX8_reads_36 : decode cX8_reads 36 = .ok (.iconst 0, 1) := by decide +kernel
theorem dX8_reads_37 : decode cX8_reads 37 = .ok (.ireturn, 1) := by decide +kernel
theorem dX8_reads_38 : decode cX8_reads 38 = .ok (.iinc 4 1, 3) := by decide +kernel
theorem dX8_reads_41 : decode cX8_reads 41 = .ok (.goto (-26), 3) := by decide +kernel
theorem dX8_reads_44 : decode cX8_reads 44 = .ok (.iconst 1, 1) := by decide +kernel
theorem dX8_reads_45 : decode cX8_reads 45 = .ok (.ireturn, 1) := by decide +kernel
theorem dX8_isLetter_0 : decode cX8_isLetter 0 = .ok (.iload_n 0, 1) := by decide +kernel
theorem dX8_isLetter_1 : decode cX8_isLetter 1 = .ok (.bipush 97, 2) := by decide +kernel
theorem dX8_isLetter_3 : decode cX8_isLetter 3 = .ok (.if_icmp .lt 13, 3) := by decide +kernel
theorem dX8_isLetter_6 : decode cX8_isLetter 6 = .ok (.iload_n 0, 1) := by decide +kernel
theorem dX8_isLetter_7 : decode cX8_isLetter 7 = .ok (.bipush 122, 2) := by decide +kernel
theorem dX8_isLetter_9 : decode cX8_isLetter 9 = .ok (.if_icmp .gt 7, 3) := by decide +kernel
theorem dX8_isLetter_12 : decode cX8_isLetter 12 = .ok (.iconst 1, 1) := by decide +kernel
theorem dX8_isLetter_13 : decode cX8_isLetter 13 = .ok (.goto 4, 3) := by decide +kernel
theorem dX8_isLetter_16 : decode cX8_isLetter 16 = .ok (.iconst 0, 1) := by decide +kernel
theorem dX8_isLetter_17 : decode cX8_isLetter 17 = .ok (.ireturn, 1) := by decide +kernel
theorem dX8_isDigit_0 : decode cX8_isDigit 0 = .ok (.iload_n 0, 1) := by decide +kernel
theorem dX8_isDigit_1 : decode cX8_isDigit 1 = .ok (.bipush 48, 2) := by decide +kernel
theorem dX8_isDigit_3 : decode cX8_isDigit 3 = .ok (.if_icmp .lt 13, 3) := by decide +kernel
theorem dX8_isDigit_6 : decode cX8_isDigit 6 = .ok (.iload_n 0, 1) := by decide +kernel
theorem dX8_isDigit_7 : decode cX8_isDigit 7 = .ok (.bipush 57, 2) := by decide +kernel
theorem dX8_isDigit_9 : decode cX8_isDigit 9 = .ok (.if_icmp .gt 7, 3) := by decide +kernel
theorem dX8_isDigit_12 : decode cX8_isDigit 12 = .ok (.iconst 1, 1) := by decide +kernel
theorem dX8_isDigit_13 : decode cX8_isDigit 13 = .ok (.goto 4, 3) := by decide +kernel
theorem dX8_isDigit_16 : decode cX8_isDigit 16 = .ok (.iconst 0, 1) := by decide +kernel
theorem dX8_isDigit_17 : decode cX8_isDigit 17 = .ok (.ireturn, 1) := by decide +kernel
theorem dX9_init_0 : decode cX9_init 0 = .ok (.aload_n 0, 1) := by decide +kernel
theorem dX9_init_1 : decode cX9_init 1 = .ok (.invokespecial 1, 3) := by decide +kernel
theorem dX9_init_4 : decode cX9_init 4 = .ok (.aload_n 0, 1) := by decide +kernel
theorem dX9_init_5 : decode cX9_init 5 = .ok (.aload_n 1, 1) := by decide +kernel
theorem dX9_init_6 : decode cX9_init 6 = .ok (.putfield 7, 3) := by decide +kernel
theorem dX9_init_9 : decode cX9_init 9 = .ok (.aload_n 0, 1) := by decide +kernel
theorem dX9_init_10 : decode cX9_init 10 = .ok (.iconst 2, 1) := by decide +kernel
theorem dX9_init_11 : decode cX9_init 11 = .ok (.aload_n 1, 1) := by decide +kernel
theorem dX9_init_12 : decode cX9_init 12 = .ok (.getfield 13, 3) := by decide +kernel
theorem dX9_init_15 : decode cX9_init 15 = .ok (.imul, 1) := by decide +kernel
theorem dX9_init_16 : decode cX9_init 16 = .ok (.newarray .int, 2) := by decide +kernel
theorem dX9_init_18 : decode cX9_init 18 = .ok (.putfield 19, 3) := by decide +kernel
theorem dX9_init_21 : decode cX9_init 21 = .ok (.aload_n 0, 1) := by decide +kernel
theorem dX9_init_22 : decode cX9_init 22 = .ok (.iconst 2, 1) := by decide +kernel
theorem dX9_init_23 : decode cX9_init 23 = .ok (.aload_n 1, 1) := by decide +kernel
theorem dX9_init_24 : decode cX9_init 24 = .ok (.getfield 13, 3) := by decide +kernel
theorem dX9_init_27 : decode cX9_init 27 = .ok (.imul, 1) := by decide +kernel
theorem dX9_init_28 : decode cX9_init 28 = .ok (.newarray .int, 2) := by decide +kernel
theorem dX9_init_30 : decode cX9_init 30 = .ok (.putfield 23, 3) := by decide +kernel
theorem dX9_init_33 : decode cX9_init 33 = .ok (.return_, 1) := by decide +kernel
theorem dX9_findFromRoots_0 : decode cX9_findFromRoots 0 = .ok (.aload_n 0, 1) := by decide +kernel
theorem dX9_findFromRoots_1 : decode cX9_findFromRoots 1 = .ok (.invokevirtual 26, 3) := by decide +kernel
theorem dX9_findFromRoots_4 : decode cX9_findFromRoots 4 = .ok (.iconst 0, 1) := by decide +kernel
theorem dX9_findFromRoots_5 : decode cX9_findFromRoots 5 = .ok (.istore_n 1, 1) := by decide +kernel
theorem dX9_findFromRoots_6 : decode cX9_findFromRoots 6 = .ok (.iload_n 1, 1) := by decide +kernel
theorem dX9_findFromRoots_7 : decode cX9_findFromRoots 7 = .ok (.aload_n 0, 1) := by decide +kernel
theorem dX9_findFromRoots_8 : decode cX9_findFromRoots 8 = .ok (.getfield 7, 3) := by decide +kernel
theorem dX9_findFromRoots_11 : decode cX9_findFromRoots 11 = .ok (.invokevirtual 29, 3) := by decide +kernel
theorem dX9_findFromRoots_14 : decode cX9_findFromRoots 14 = .ok (.if_icmp .ge 32, 3) := by decide +kernel
theorem dX9_findFromRoots_17 : decode cX9_findFromRoots 17 = .ok (.aload_n 0, 1) := by decide +kernel
theorem dX9_findFromRoots_18 : decode cX9_findFromRoots 18 = .ok (.aload_n 0, 1) := by decide +kernel
theorem dX9_findFromRoots_19 : decode cX9_findFromRoots 19 = .ok (.getfield 7, 3) := by decide +kernel
theorem dX9_findFromRoots_22 : decode cX9_findFromRoots 22 = .ok (.getfield 33, 3) := by decide +kernel
theorem dX9_findFromRoots_25 : decode cX9_findFromRoots 25 = .ok (.iload_n 1, 1) := by decide +kernel
theorem dX9_findFromRoots_26 : decode cX9_findFromRoots 26 = .ok (.iaload, 1) := by decide +kernel
theorem dX9_findFromRoots_27 : decode cX9_findFromRoots 27 = .ok (.aload_n 0, 1) := by decide +kernel
theorem dX9_findFromRoots_28 : decode cX9_findFromRoots 28 = .ok (.getfield 7, 3) := by decide +kernel
theorem dX9_findFromRoots_31 : decode cX9_findFromRoots 31 = .ok (.getfield 36, 3) := by decide +kernel
theorem dX9_findFromRoots_34 : decode cX9_findFromRoots 34 = .ok (.iload_n 1, 1) := by decide +kernel
theorem dX9_findFromRoots_35 : decode cX9_findFromRoots 35 = .ok (.iaload, 1) := by decide +kernel
theorem dX9_findFromRoots_36 : decode cX9_findFromRoots 36 = .ok (.invokevirtual 39, 3) := by decide +kernel
theorem dX9_findFromRoots_39 : decode cX9_findFromRoots 39 = .ok (.pop, 1) := by decide +kernel
theorem dX9_findFromRoots_40 : decode cX9_findFromRoots 40 = .ok (.iinc 1 1, 3) := by decide +kernel
theorem dX9_findFromRoots_43 : decode cX9_findFromRoots 43 = .ok (.goto (-37), 3) := by decide +kernel
theorem dX9_findFromRoots_46 : decode cX9_findFromRoots 46 = .ok (.iconst 0, 1) := by decide +kernel
theorem dX9_findFromRoots_47 : decode cX9_findFromRoots 47 = .ok (.istore_n 1, 1) := by decide +kernel
theorem dX9_findFromRoots_48 : decode cX9_findFromRoots 48 = .ok (.iload_n 1, 1) := by decide +kernel
theorem dX9_findFromRoots_49 : decode cX9_findFromRoots 49 = .ok (.aload_n 0, 1) := by decide +kernel
theorem dX9_findFromRoots_50 : decode cX9_findFromRoots 50 = .ok (.getfield 43, 3) := by decide +kernel
theorem dX9_findFromRoots_53 : decode cX9_findFromRoots 53 = .ok (.if_icmp .ge 83, 3) := by decide +kernel
theorem dX9_findFromRoots_56 : decode cX9_findFromRoots 56 = .ok (.iload_n 1, 1) := by decide +kernel
theorem dX9_findFromRoots_57 : decode cX9_findFromRoots 57 = .ok (.aload_n 0, 1) := by decide +kernel
theorem dX9_findFromRoots_58 : decode cX9_findFromRoots 58 = .ok (.getfield 19, 3) := by decide +kernel
theorem dX9_findFromRoots_61 : decode cX9_findFromRoots 61 = .ok (.arraylength, 1) := by decide +kernel
theorem dX9_findFromRoots_62 : decode cX9_findFromRoots 62 = .ok (.if_icmp .ge 74, 3) := by decide +kernel
theorem dX9_findFromRoots_65 : decode cX9_findFromRoots 65 = .ok (.aload_n 0, 1) := by decide +kernel
theorem dX9_findFromRoots_66 : decode cX9_findFromRoots 66 = .ok (.getfield 19, 3) := by decide +kernel
theorem dX9_findFromRoots_69 : decode cX9_findFromRoots 69 = .ok (.iload_n 1, 1) := by decide +kernel
theorem dX9_findFromRoots_70 : decode cX9_findFromRoots 70 = .ok (.iaload, 1) := by decide +kernel
theorem dX9_findFromRoots_71 : decode cX9_findFromRoots 71 = .ok (.iconst 2, 1) := by decide +kernel
theorem dX9_findFromRoots_72 : decode cX9_findFromRoots 72 = .ok (.iadd, 1) := by decide +kernel
theorem dX9_findFromRoots_73 : decode cX9_findFromRoots 73 = .ok (.istore_n 2, 1) := by decide +kernel
theorem dX9_findFromRoots_74 : decode cX9_findFromRoots 74 = .ok (.aload_n 0, 1) := by decide +kernel
theorem dX9_findFromRoots_75 : decode cX9_findFromRoots 75 = .ok (.getfield 7, 3) := by decide +kernel
theorem dX9_findFromRoots_78 : decode cX9_findFromRoots 78 = .ok (.aload_n 0, 1) := by decide +kernel
theorem dX9_findFromRoots_79 : decode cX9_findFromRoots 79 = .ok (.getfield 19, 3) := by decide +kernel
theorem dX9_findFromRoots_82 : decode cX9_findFromRoots 82 = .ok (.iload_n 1, 1) := by decide +kernel
theorem dX9_findFromRoots_83 : decode cX9_findFromRoots 83 = .ok (.iaload, 1) := by decide +kernel
theorem dX9_findFromRoots_84 : decode cX9_findFromRoots 84 = .ok (.invokevirtual 46, 3) := by decide +kernel
theorem dX9_findFromRoots_87 : decode cX9_findFromRoots 87 = .ok (.istore_n 3, 1) := by decide +kernel
theorem dX9_findFromRoots_88 : decode cX9_findFromRoots 88 = .ok (.iload_n 2, 1) := by decide +kernel
theorem dX9_findFromRoots_89 : decode cX9_findFromRoots 89 = .ok (.istore 4, 2) := by decide +kernel
theorem dX9_findFromRoots_91 : decode cX9_findFromRoots 91 = .ok (.iload 4, 2) := by decide +kernel
theorem dX9_findFromRoots_93 : decode cX9_findFromRoots 93 = .ok (.iload_n 2, 1) := by decide +kernel
theorem dX9_findFromRoots_94 : decode cX9_findFromRoots 94 = .ok (.iload_n 3, 1) := by decide +kernel
theorem dX9_findFromRoots_95 : decode cX9_findFromRoots 95 = .ok (.iadd, 1) := by decide +kernel
theorem dX9_findFromRoots_96 : decode cX9_findFromRoots 96 = .ok (.if_icmp .ge 34, 3) := by decide +kernel
theorem dX9_findFromRoots_99 : decode cX9_findFromRoots 99 = .ok (.aload_n 0, 1) := by decide +kernel
theorem dX9_findFromRoots_100 : decode cX9_findFromRoots 100 = .ok (.aload_n 0, 1) := by decide +kernel
theorem dX9_findFromRoots_101 : decode cX9_findFromRoots 101 = .ok (.getfield 7, 3) := by decide +kernel
theorem dX9_findFromRoots_104 : decode cX9_findFromRoots 104 = .ok (.getfield 50, 3) := by decide +kernel
theorem dX9_findFromRoots_107 : decode cX9_findFromRoots 107 = .ok (.iload 4, 2) := by decide +kernel
theorem dX9_findFromRoots_109 : decode cX9_findFromRoots 109 = .ok (.iaload, 1) := by decide +kernel
theorem dX9_findFromRoots_110 : decode cX9_findFromRoots 110 = .ok (.aload_n 0, 1) := by decide +kernel
theorem dX9_findFromRoots_111 : decode cX9_findFromRoots 111 = .ok (.getfield 7, 3) := by decide +kernel
theorem dX9_findFromRoots_114 : decode cX9_findFromRoots 114 = .ok (.getfield 53, 3) := by decide +kernel
theorem dX9_findFromRoots_117 : decode cX9_findFromRoots 117 = .ok (.iload 4, 2) := by decide +kernel
theorem dX9_findFromRoots_119 : decode cX9_findFromRoots 119 = .ok (.iaload, 1) := by decide +kernel
theorem dX9_findFromRoots_120 : decode cX9_findFromRoots 120 = .ok (.invokevirtual 39, 3) := by decide +kernel
theorem dX9_findFromRoots_123 : decode cX9_findFromRoots 123 = .ok (.pop, 1) := by decide +kernel
theorem dX9_findFromRoots_124 : decode cX9_findFromRoots 124 = .ok (.iinc 4 1, 3) := by decide +kernel
theorem dX9_findFromRoots_127 : decode cX9_findFromRoots 127 = .ok (.goto (-36), 3) := by decide +kernel
theorem dX9_findFromRoots_130 : decode cX9_findFromRoots 130 = .ok (.iinc 1 1, 3) := by decide +kernel
theorem dX9_findFromRoots_133 : decode cX9_findFromRoots 133 = .ok (.goto (-85), 3) := by decide +kernel
theorem dX9_findFromRoots_136 : decode cX9_findFromRoots 136 = .ok (.return_, 1) := by decide +kernel
theorem dX9_words_0 : decode cX9_words 0 = .ok (.iconst 0, 1) := by decide +kernel
theorem dX9_words_1 : decode cX9_words 1 = .ok (.istore_n 1, 1) := by decide +kernel
theorem dX9_words_2 : decode cX9_words 2 = .ok (.iconst 0, 1) := by decide +kernel
theorem dX9_words_3 : decode cX9_words 3 = .ok (.istore_n 2, 1) := by decide +kernel
theorem dX9_words_4 : decode cX9_words 4 = .ok (.iload_n 2, 1) := by decide +kernel
theorem dX9_words_5 : decode cX9_words 5 = .ok (.aload_n 0, 1) := by decide +kernel
theorem dX9_words_6 : decode cX9_words 6 = .ok (.getfield 43, 3) := by decide +kernel
theorem dX9_words_9 : decode cX9_words 9 = .ok (.if_icmp .ge 27, 3) := by decide +kernel
theorem dX9_words_12 : decode cX9_words 12 = .ok (.iload_n 1, 1) := by decide +kernel
theorem dX9_words_13 : decode cX9_words 13 = .ok (.aload_n 0, 1) := by decide +kernel
theorem dX9_words_14 : decode cX9_words 14 = .ok (.getfield 7, 3) := by decide +kernel
theorem dX9_words_17 : decode cX9_words 17 = .ok (.aload_n 0, 1) := by decide +kernel
theorem dX9_words_18 : decode cX9_words 18 = .ok (.getfield 19, 3) := by decide +kernel
theorem dX9_words_21 : decode cX9_words 21 = .ok (.iload_n 2, 1) := by decide +kernel
theorem dX9_words_22 : decode cX9_words 22 = .ok (.iaload, 1) := by decide +kernel
theorem dX9_words_23 : decode cX9_words 23 = .ok (.invokevirtual 46, 3) := by decide +kernel
theorem dX9_words_26 : decode cX9_words 26 = .ok (.iconst 2, 1) := by decide +kernel
theorem dX9_words_27 : decode cX9_words 27 = .ok (.iadd, 1) := by decide +kernel
theorem dX9_words_28 : decode cX9_words 28 = .ok (.iadd, 1) := by decide +kernel
theorem dX9_words_29 : decode cX9_words 29 = .ok (.istore_n 1, 1) := by decide +kernel
theorem dX9_words_30 : decode cX9_words 30 = .ok (.iinc 2 1, 3) := by decide +kernel
theorem dX9_words_33 : decode cX9_words 33 = .ok (.goto (-29), 3) := by decide +kernel
theorem dX9_words_36 : decode cX9_words 36 = .ok (.iload_n 1, 1) := by decide +kernel
theorem dX9_words_37 : decode cX9_words 37 = .ok (.ireturn, 1) := by decide +kernel
theorem dX9_write_0 : decode cX9_write 0 = .ok (.aload_n 0, 1) := by decide +kernel
theorem dX9_write_1 : decode cX9_write 1 = .ok (.invokevirtual 26, 3) := by decide +kernel
theorem dX9_write_4 : decode cX9_write 4 = .ok (.aload_n 0, 1) := by decide +kernel
theorem dX9_write_5 : decode cX9_write 5 = .ok (.aload_n 0, 1) := by decide +kernel
theorem dX9_write_6 : decode cX9_write 6 = .ok (.getfield 7, 3) := by decide +kernel
theorem dX9_write_9 : decode cX9_write 9 = .ok (.getfield 33, 3) := by decide +kernel
theorem dX9_write_12 : decode cX9_write 12 = .ok (.iload_n 1, 1) := by decide +kernel
theorem dX9_write_13 : decode cX9_write 13 = .ok (.iaload, 1) := by decide +kernel
theorem dX9_write_14 : decode cX9_write 14 = .ok (.aload_n 0, 1) := by decide +kernel
theorem dX9_write_15 : decode cX9_write 15 = .ok (.getfield 7, 3) := by decide +kernel
theorem dX9_write_18 : decode cX9_write 18 = .ok (.getfield 36, 3) := by decide +kernel
theorem dX9_write_21 : decode cX9_write 21 = .ok (.iload_n 1, 1) := by decide +kernel
theorem dX9_write_22 : decode cX9_write 22 = .ok (.iaload, 1) := by decide +kernel
theorem dX9_write_23 : decode cX9_write 23 = .ok (.aload_n 2, 1) := by decide +kernel
theorem dX9_write_24 : decode cX9_write 24 = .ok (.invokevirtual 56, 3) := by decide +kernel
theorem dX9_write_27 : decode cX9_write 27 = .ok (.iconst 0, 1) := by decide +kernel
theorem dX9_write_28 : decode cX9_write 28 = .ok (.istore_n 3, 1) := by decide +kernel
theorem dX9_write_29 : decode cX9_write 29 = .ok (.iload_n 3, 1) := by decide +kernel
theorem dX9_write_30 : decode cX9_write 30 = .ok (.aload_n 0, 1) := by decide +kernel
theorem dX9_write_31 : decode cX9_write 31 = .ok (.getfield 43, 3) := by decide +kernel
theorem dX9_write_34 : decode cX9_write 34 = .ok (.if_icmp .ge 35, 3) := by decide +kernel
theorem dX9_write_37 : decode cX9_write 37 = .ok (.iload_n 3, 1) := by decide +kernel
theorem dX9_write_38 : decode cX9_write 38 = .ok (.aload_n 0, 1) := by decide +kernel
theorem dX9_write_39 : decode cX9_write 39 = .ok (.getfield 19, 3) := by decide +kernel
theorem dX9_write_42 : decode cX9_write 42 = .ok (.arraylength, 1) := by decide +kernel
theorem dX9_write_43 : decode cX9_write 43 = .ok (.if_icmp .ge 26, 3) := by decide +kernel
theorem dX9_write_46 : decode cX9_write 46 = .ok (.aload_n 2, 1) := by decide +kernel
theorem dX9_write_47 : decode cX9_write 47 = .ok (.bipush 32, 2) := by decide +kernel
theorem dX9_write_49 : decode cX9_write 49 = .ok (.invokevirtual 60, 3) := by decide +kernel
theorem dX9_write_52 : decode cX9_write 52 = .ok (.aload_n 0, 1) := by decide +kernel
theorem dX9_write_53 : decode cX9_write 53 = .ok (.aload_n 0, 1) := by decide +kernel
theorem dX9_write_54 : decode cX9_write 54 = .ok (.getfield 19, 3) := by decide +kernel
theorem dX9_write_57 : decode cX9_write 57 = .ok (.iload_n 3, 1) := by decide +kernel
theorem dX9_write_58 : decode cX9_write 58 = .ok (.iaload, 1) := by decide +kernel
theorem dX9_write_59 : decode cX9_write 59 = .ok (.aload_n 2, 1) := by decide +kernel
theorem dX9_write_60 : decode cX9_write 60 = .ok (.invokevirtual 66, 3) := by decide +kernel
theorem dX9_write_63 : decode cX9_write 63 = .ok (.iinc 3 1, 3) := by decide +kernel
theorem dX9_write_66 : decode cX9_write 66 = .ok (.goto (-37), 3) := by decide +kernel
theorem dX9_write_69 : decode cX9_write 69 = .ok (.return_, 1) := by decide +kernel
theorem dX9_writeThing_0 : decode cX9_writeThing 0 = .ok (.aload_n 0, 1) := by decide +kernel
theorem dX9_writeThing_1 : decode cX9_writeThing 1 = .ok (.getfield 7, 3) := by decide +kernel
theorem dX9_writeThing_4 : decode cX9_writeThing 4 = .ok (.iload_n 1, 1) := by decide +kernel
theorem dX9_writeThing_5 : decode cX9_writeThing 5 = .ok (.invokevirtual 70, 3) := by decide +kernel
theorem dX9_writeThing_8 : decode cX9_writeThing 8 = .ok (.istore_n 3, 1) := by decide +kernel
theorem dX9_writeThing_9 : decode cX9_writeThing 9 = .ok (.aload_n 2, 1) := by decide +kernel
theorem dX9_writeThing_10 : decode cX9_writeThing 10 = .ok (.iload_n 3, 1) := by decide +kernel
theorem dX9_writeThing_11 : decode cX9_writeThing 11 = .ok (.ifCond .eq 8, 3) := by decide +kernel
theorem dX9_writeThing_14 : decode cX9_writeThing 14 = .ok (.bipush 91, 2) := by decide +kernel
theorem dX9_writeThing_16 : decode cX9_writeThing 16 = .ok (.goto 5, 3) := by decide +kernel
theorem dX9_writeThing_19 : decode cX9_writeThing 19 = .ok (.bipush 123, 2) := by decide +kernel
theorem dX9_writeThing_21 : decode cX9_writeThing 21 = .ok (.invokevirtual 60, 3) := by decide +kernel
theorem dX9_writeThing_24 : decode cX9_writeThing 24 = .ok (.iload_n 1, 1) := by decide +kernel
theorem dX9_writeThing_25 : decode cX9_writeThing 25 = .ok (.iconst 2, 1) := by decide +kernel
theorem dX9_writeThing_26 : decode cX9_writeThing 26 = .ok (.iadd, 1) := by decide +kernel
theorem dX9_writeThing_27 : decode cX9_writeThing 27 = .ok (.istore 4, 2) := by decide +kernel
theorem dX9_writeThing_29 : decode cX9_writeThing 29 = .ok (.aload_n 0, 1) := by decide +kernel
theorem dX9_writeThing_30 : decode cX9_writeThing 30 = .ok (.getfield 7, 3) := by decide +kernel
theorem dX9_writeThing_33 : decode cX9_writeThing 33 = .ok (.iload_n 1, 1) := by decide +kernel
theorem dX9_writeThing_34 : decode cX9_writeThing 34 = .ok (.invokevirtual 46, 3) := by decide +kernel
theorem dX9_writeThing_37 : decode cX9_writeThing 37 = .ok (.istore 5, 2) := by decide +kernel
theorem dX9_writeThing_39 : decode cX9_writeThing 39 = .ok (.iload 4, 2) := by decide +kernel
theorem dX9_writeThing_41 : decode cX9_writeThing 41 = .ok (.istore 6, 2) := by decide +kernel
theorem dX9_writeThing_43 : decode cX9_writeThing 43 = .ok (.iload 6, 2) := by decide +kernel
theorem dX9_writeThing_45 : decode cX9_writeThing 45 = .ok (.iload 4, 2) := by decide +kernel
theorem dX9_writeThing_47 : decode cX9_writeThing 47 = .ok (.iload 5, 2) := by decide +kernel
theorem dX9_writeThing_49 : decode cX9_writeThing 49 = .ok (.iadd, 1) := by decide +kernel
theorem dX9_writeThing_50 : decode cX9_writeThing 50 = .ok (.if_icmp .ge 47, 3) := by decide +kernel
theorem dX9_writeThing_53 : decode cX9_writeThing 53 = .ok (.iload 6, 2) := by decide +kernel
theorem dX9_writeThing_55 : decode cX9_writeThing 55 = .ok (.iload 4, 2) := by decide +kernel
theorem dX9_writeThing_57 : decode cX9_writeThing 57 = .ok (.if_icmp .le 9, 3) := by decide +kernel
theorem dX9_writeThing_60 : decode cX9_writeThing 60 = .ok (.aload_n 2, 1) := by decide +kernel
theorem dX9_writeThing_61 : decode cX9_writeThing 61 = .ok (.bipush 32, 2) := by decide +kernel
theorem dX9_writeThing_63 : decode cX9_writeThing 63 = .ok (.invokevirtual 60, 3) := by decide +kernel
theorem dX9_writeThing_66 : decode cX9_writeThing 66 = .ok (.aload_n 0, 1) := by decide +kernel
theorem dX9_writeThing_67 : decode cX9_writeThing 67 = .ok (.aload_n 0, 1) := by decide +kernel
theorem dX9_writeThing_68 : decode cX9_writeThing 68 = .ok (.getfield 7, 3) := by decide +kernel
theorem dX9_writeThing_71 : decode cX9_writeThing 71 = .ok (.getfield 50, 3) := by decide +kernel
theorem dX9_writeThing_74 : decode cX9_writeThing 74 = .ok (.iload 6, 2) := by decide +kernel
theorem dX9_writeThing_76 : decode cX9_writeThing 76 = .ok (.iaload, 1) := by decide +kernel
theorem dX9_writeThing_77 : decode cX9_writeThing 77 = .ok (.aload_n 0, 1) := by decide +kernel
theorem dX9_writeThing_78 : decode cX9_writeThing 78 = .ok (.getfield 7, 3) := by decide +kernel
theorem dX9_writeThing_81 : decode cX9_writeThing 81 = .ok (.getfield 53, 3) := by decide +kernel
theorem dX9_writeThing_84 : decode cX9_writeThing 84 = .ok (.iload 6, 2) := by decide +kernel
theorem dX9_writeThing_86 : decode cX9_writeThing 86 = .ok (.iaload, 1) := by decide +kernel
theorem dX9_writeThing_87 : decode cX9_writeThing 87 = .ok (.aload_n 2, 1) := by decide +kernel
theorem dX9_writeThing_88 : decode cX9_writeThing 88 = .ok (.invokevirtual 56, 3) := by decide +kernel
theorem dX9_writeThing_91 : decode cX9_writeThing 91 = .ok (.iinc 6 1, 3) := by decide +kernel
theorem dX9_writeThing_94 : decode cX9_writeThing 94 = .ok (.goto (-51), 3) := by decide +kernel
theorem dX9_writeThing_97 : decode cX9_writeThing 97 = .ok (.aload_n 2, 1) := by decide +kernel
theorem dX9_writeThing_98 : decode cX9_writeThing 98 = .ok (.iload_n 3, 1) := by decide +kernel
theorem dX9_writeThing_99 : decode cX9_writeThing 99 = .ok (.ifCond .eq 8, 3) := by decide +kernel
theorem dX9_writeThing_102 : decode cX9_writeThing 102 = .ok (.bipush 93, 2) := by decide +kernel
theorem dX9_writeThing_104 : decode cX9_writeThing 104 = .ok (.goto 5, 3) := by decide +kernel
theorem dX9_writeThing_107 : decode cX9_writeThing 107 = .ok (.bipush 125, 2) := by decide +kernel
theorem dX9_writeThing_109 : decode cX9_writeThing 109 = .ok (.invokevirtual 60, 3) := by decide +kernel
theorem dX9_writeThing_112 : decode cX9_writeThing 112 = .ok (.return_, 1) := by decide +kernel
theorem dX9_writeWord_0 : decode cX9_writeWord 0 = .ok (.iload_n 1, 1) := by decide +kernel
theorem dX9_writeWord_1 : decode cX9_writeWord 1 = .ok (.ifCond .ne 11, 3) := by decide +kernel
theorem dX9_writeWord_4 : decode cX9_writeWord 4 = .ok (.aload_n 3, 1) := by decide +kernel
theorem dX9_writeWord_5 : decode cX9_writeWord 5 = .ok (.iload_n 2, 1) := by decide +kernel
theorem dX9_writeWord_6 : decode cX9_writeWord 6 = .ok (.invokevirtual 74, 3) := by decide +kernel
theorem dX9_writeWord_9 : decode cX9_writeWord 9 = .ok (.goto 33, 3) := by decide +kernel
theorem dX9_writeWord_12 : decode cX9_writeWord 12 = .ok (.iload_n 1, 1) := by decide +kernel
theorem dX9_writeWord_13 : decode cX9_writeWord 13 = .ok (.iconst 2, 1) := by decide +kernel
theorem dX9_writeWord_14 : decode cX9_writeWord 14 = .ok (.if_icmp .ne 22, 3) := by decide +kernel
theorem dX9_writeWord_17 : decode cX9_writeWord 17 = .ok (.aload_n 3, 1) := by decide +kernel
theorem dX9_writeWord_18 : decode cX9_writeWord 18 = .ok (.bipush 35, 2) := by decide +kernel
theorem dX9_writeWord_20 : decode cX9_writeWord 20 = .ok (.invokevirtual 60, 3) := by decide +kernel
theorem dX9_writeWord_23 : decode cX9_writeWord 23 = .ok (.aload_n 3, 1) := by decide +kernel
theorem dX9_writeWord_24 : decode cX9_writeWord 24 = .ok (.aload_n 0, 1) := by decide +kernel
theorem dX9_writeWord_25 : decode cX9_writeWord 25 = .ok (.iload_n 1, 1) := by decide +kernel
theorem dX9_writeWord_26 : decode cX9_writeWord 26 = .ok (.iload_n 2, 1) := by decide +kernel
theorem dX9_writeWord_27 : decode cX9_writeWord 27 = .ok (.invokevirtual 39, 3) := by decide +kernel
theorem dX9_writeWord_30 : decode cX9_writeWord 30 = .ok (.invokevirtual 74, 3) := by decide +kernel
theorem dX9_writeWord_33 : decode cX9_writeWord 33 = .ok (.goto 9, 3) := by decide +kernel
theorem dX9_writeWord_36 : decode cX9_writeWord 36 = .ok (.aload_n 3, 1) := by decide +kernel
theorem dX9_writeWord_37 : decode cX9_writeWord 37 = .ok (.bipush 46, 2) := by decide +kernel
theorem dX9_writeWord_39 : decode cX9_writeWord 39 = .ok (.invokevirtual 60, 3) := by decide +kernel
theorem dX9_writeWord_42 : decode cX9_writeWord 42 = .ok (.return_, 1) := by decide +kernel
theorem dX9_clear_0 : decode cX9_clear 0 = .ok (.iconst 0, 1) := by decide +kernel
theorem dX9_clear_1 : decode cX9_clear 1 = .ok (.istore_n 1, 1) := by decide +kernel
theorem dX9_clear_2 : decode cX9_clear 2 = .ok (.iload_n 1, 1) := by decide +kernel
theorem dX9_clear_3 : decode cX9_clear 3 = .ok (.aload_n 0, 1) := by decide +kernel
theorem dX9_clear_4 : decode cX9_clear 4 = .ok (.getfield 43, 3) := by decide +kernel
theorem dX9_clear_7 : decode cX9_clear 7 = .ok (.if_icmp .ge 21, 3) := by decide +kernel
theorem dX9_clear_10 : decode cX9_clear 10 = .ok (.aload_n 0, 1) := by decide +kernel
theorem dX9_clear_11 : decode cX9_clear 11 = .ok (.getfield 23, 3) := by decide +kernel
theorem dX9_clear_14 : decode cX9_clear 14 = .ok (.aload_n 0, 1) := by decide +kernel
theorem dX9_clear_15 : decode cX9_clear 15 = .ok (.getfield 19, 3) := by decide +kernel
theorem dX9_clear_18 : decode cX9_clear 18 = .ok (.iload_n 1, 1) := by decide +kernel
theorem dX9_clear_19 : decode cX9_clear 19 = .ok (.iaload, 1) := by decide +kernel
theorem dX9_clear_20 : decode cX9_clear 20 = .ok (.iconst 0, 1) := by decide +kernel
theorem dX9_clear_21 : decode cX9_clear 21 = .ok (.iastore, 1) := by decide +kernel
theorem dX9_clear_22 : decode cX9_clear 22 = .ok (.iinc 1 1, 3) := by decide +kernel
theorem dX9_clear_25 : decode cX9_clear 25 = .ok (.goto (-23), 3) := by decide +kernel
theorem dX9_clear_28 : decode cX9_clear 28 = .ok (.aload_n 0, 1) := by decide +kernel
theorem dX9_clear_29 : decode cX9_clear 29 = .ok (.iconst 0, 1) := by decide +kernel
theorem dX9_clear_30 : decode cX9_clear 30 = .ok (.putfield 43, 3) := by decide +kernel
theorem dX9_clear_33 : decode cX9_clear 33 = .ok (.return_, 1) := by decide +kernel
theorem dX9_meet_0 : decode cX9_meet 0 = .ok (.iload_n 1, 1) := by decide +kernel
theorem dX9_meet_1 : decode cX9_meet 1 = .ok (.iconst 2, 1) := by decide +kernel
theorem dX9_meet_2 : decode cX9_meet 2 = .ok (.if_icmp .eq 5, 3) := by decide +kernel
theorem dX9_meet_5 : decode cX9_meet 5 = .ok (.iconst 0, 1) := by decide +kernel
theorem dX9_meet_6 : decode cX9_meet 6 = .ok (.ireturn, 1) := by decide +kernel
theorem dX9_meet_7 : decode cX9_meet 7 = .ok (.aload_n 0, 1) := by decide +kernel
theorem dX9_meet_8 : decode cX9_meet 8 = .ok (.getfield 7, 3) := by decide +kernel
theorem dX9_meet_11 : decode cX9_meet 11 = .ok (.iload_n 2, 1) := by decide +kernel
theorem dX9_meet_12 : decode cX9_meet 12 = .ok (.invokevirtual 77, 3) := by decide +kernel
theorem dX9_meet_15 : decode cX9_meet 15 = .ok (.istore_n 3, 1) := by decide +kernel
theorem dX9_meet_16 : decode cX9_meet 16 = .ok (.aload_n 0, 1) := by decide +kernel
theorem dX9_meet_17 : decode cX9_meet 17 = .ok (.getfield 23, 3) := by decide +kernel
theorem dX9_meet_20 : decode cX9_meet 20 = .ok (.iload_n 3, 1) := by decide +kernel
theorem dX9_meet_21 : decode cX9_meet 21 = .ok (.iaload, 1) := by decide +kernel
theorem dX9_meet_22 : decode cX9_meet 22 = .ok (.ifCond .ne 45, 3) := by decide +kernel
theorem dX9_meet_25 : decode cX9_meet 25 = .ok (.aload_n 0, 1) := by decide +kernel
theorem dX9_meet_26 : decode cX9_meet 26 = .ok (.getfield 43, 3) := by decide +kernel
theorem dX9_meet_29 : decode cX9_meet 29 = .ok (.aload_n 0, 1) := by decide +kernel
theorem dX9_meet_30 : decode cX9_meet 30 = .ok (.getfield 19, 3) := by decide +kernel
theorem dX9_meet_33 : decode cX9_meet 33 = .ok (.arraylength, 1) := by decide +kernel
theorem dX9_meet_34 : decode cX9_meet 34 = .ok (.if_icmp .ge 33, 3) := by decide +kernel
theorem dX9_meet_37 : decode cX9_meet 37 = .ok (.aload_n 0, 1) := by decide +kernel
theorem dX9_meet_38 : decode cX9_meet 38 = .ok (.getfield 19, 3) := by decide +kernel
theorem dX9_meet_41 : decode cX9_meet 41 = .ok (.aload_n 0, 1) := by decide +kernel
theorem dX9_meet_42 : decode cX9_meet 42 = .ok (.getfield 43, 3) := by decide +kernel
theorem dX9_meet_45 : decode cX9_meet 45 = .ok (.iload_n 3, 1) := by decide +kernel
theorem dX9_meet_46 : decode cX9_meet 46 = .ok (.iastore, 1) := by decide +kernel
theorem dX9_meet_47 : decode cX9_meet 47 = .ok (.aload_n 0, 1) := by decide +kernel
theorem dX9_meet_48 : decode cX9_meet 48 = .ok (.dup, 1) := by decide +kernel
theorem dX9_meet_49 : decode cX9_meet 49 = .ok (.getfield 43, 3) := by decide +kernel
theorem dX9_meet_52 : decode cX9_meet 52 = .ok (.iconst 1, 1) := by decide +kernel
theorem dX9_meet_53 : decode cX9_meet 53 = .ok (.iadd, 1) := by decide +kernel
theorem dX9_meet_54 : decode cX9_meet 54 = .ok (.putfield 43, 3) := by decide +kernel
theorem dX9_meet_57 : decode cX9_meet 57 = .ok (.aload_n 0, 1) := by decide +kernel
theorem dX9_meet_58 : decode cX9_meet 58 = .ok (.getfield 23, 3) := by decide +kernel
theorem dX9_meet_61 : decode cX9_meet 61 = .ok (.iload_n 3, 1) := by decide +kernel
theorem dX9_meet_62 : decode cX9_meet 62 = .ok (.aload_n 0, 1) := by decide +kernel
theorem dX9_meet_63 : decode cX9_meet 63 = .ok (.getfield 43, 3) := by decide +kernel
theorem dX9_meet_66 : decode cX9_meet 66 = .ok (.iastore, 1) := by decide +kernel
theorem dX9_meet_67 : decode cX9_meet 67 = .ok (.aload_n 0, 1) := by decide +kernel
theorem dX9_meet_68 : decode cX9_meet 68 = .ok (.getfield 23, 3) := by decide +kernel
theorem dX9_meet_71 : decode cX9_meet 71 = .ok (.iload_n 3, 1) := by decide +kernel
theorem dX9_meet_72 : decode cX9_meet 72 = .ok (.iaload, 1) := by decide +kernel
theorem dX9_meet_73 : decode cX9_meet 73 = .ok (.ireturn, 1) := by decide +kernel
end
section
theorem dX10_init_0 : decode cX10_init 0 = .ok (.aload_n 0, 1) := by decide +kernel
theorem dX10_init_1 : decode cX10_init 1 = .ok (.invokespecial 1, 3) := by decide +kernel
theorem dX10_init_4 : decode cX10_init 4 = .ok (.aload_n 0, 1) := by decide +kernel
theorem dX10_init_5 : decode cX10_init 5 = .ok (.sipush 2000, 3) := by decide +kernel
theorem dX10_init_8 : decode cX10_init 8 = .ok (.newarray .byte, 2) := by decide +kernel
theorem dX10_init_10 : decode cX10_init 10 = .ok (.putfield 9, 3) := by decide +kernel
theorem dX10_init_13 : decode cX10_init 13 = .ok (.aload_n 0, 1) := by decide +kernel
theorem dX10_init_14 : decode cX10_init 14 = .ok (.new 13, 3) := by decide +kernel
theorem dX10_init_17 : decode cX10_init 17 = .ok (.dup, 1) := by decide +kernel
theorem dX10_init_18 : decode cX10_init 18 = .ok (.invokespecial 15, 3) := by decide +kernel
theorem dX10_init_21 : decode cX10_init 21 = .ok (.putfield 16, 3) := by decide +kernel
theorem dX10_init_24 : decode cX10_init 24 = .ok (.aload_n 0, 1) := by decide +kernel
theorem dX10_init_25 : decode cX10_init 25 = .ok (.new 20, 3) := by decide +kernel
theorem dX10_init_28 : decode cX10_init 28 = .ok (.dup, 1) := by decide +kernel
theorem dX10_init_29 : decode cX10_init 29 = .ok (.invokespecial 22, 3) := by decide +kernel
theorem dX10_init_32 : decode cX10_init 32 = .ok (.putfield 23, 3) := by decide +kernel
theorem dX10_init_35 : decode cX10_init 35 = .ok (.aload_n 0, 1) := by decide +kernel
theorem dX10_init_36 : decode cX10_init 36 = .ok (.new 20, 3) := by decide +kernel
theorem dX10_init_39 : decode cX10_init 39 = .ok (.dup, 1) := by decide +kernel
theorem dX10_init_40 : decode cX10_init 40 = .ok (.invokespecial 22, 3) := by decide +kernel
theorem dX10_init_43 : decode cX10_init 43 = .ok (.putfield 27, 3) := by decide +kernel
theorem dX10_init_46 : decode cX10_init 46 = .ok (.aload_n 0, 1) := by decide +kernel
theorem dX10_init_47 : decode cX10_init 47 = .ok (.new 30, 3) := by decide +kernel
theorem dX10_init_50 : decode cX10_init 50 = .ok (.dup, 1) := by decide +kernel
theorem dX10_init_51 : decode cX10_init 51 = .ok (.iload_n 1, 1) := by decide +kernel
theorem dX10_init_52 : decode cX10_init 52 = .ok (.bipush 16, 2) := by decide +kernel
theorem dX10_init_54 : decode cX10_init 54 = .ok (.sipush 1200, 3) := by decide +kernel
theorem dX10_init_57 : decode cX10_init 57 = .ok (.invokestatic 32, 3) := by decide +kernel
theorem dX10_init_60 : decode cX10_init 60 = .ok (.iload_n 2, 1) := by decide +kernel
theorem dX10_init_61 : decode cX10_init 61 = .ok (.iconst 1, 1) := by decide +kernel
theorem dX10_init_62 : decode cX10_init 62 = .ok (.bipush 6, 2) := by decide +kernel
theorem dX10_init_64 : decode cX10_init 64 = .ok (.invokestatic 32, 3) := by decide +kernel
theorem dX10_init_67 : decode cX10_init 67 = .ok (.invokespecial 36, 3) := by decide +kernel
theorem dX10_init_70 : decode cX10_init 70 = .ok (.putfield 39, 3) := by decide +kernel
theorem dX10_init_73 : decode cX10_init 73 = .ok (.aload_n 0, 1) := by decide +kernel
theorem dX10_init_74 : decode cX10_init 74 = .ok (.new 43, 3) := by decide +kernel
theorem dX10_init_77 : decode cX10_init 77 = .ok (.dup, 1) := by decide +kernel
theorem dX10_init_78 : decode cX10_init 78 = .ok (.aload_n 0, 1) := by decide +kernel
theorem dX10_init_79 : decode cX10_init 79 = .ok (.getfield 39, 3) := by decide +kernel
theorem dX10_init_82 : decode cX10_init 82 = .ok (.invokespecial 45, 3) := by decide +kernel
theorem dX10_init_85 : decode cX10_init 85 = .ok (.putfield 48, 3) := by decide +kernel
theorem dX10_init_88 : decode cX10_init 88 = .ok (.aload_n 0, 1) := by decide +kernel
theorem dX10_init_89 : decode cX10_init 89 = .ok (.new 52, 3) := by decide +kernel
theorem dX10_init_92 : decode cX10_init 92 = .ok (.dup, 1) := by decide +kernel
theorem dX10_init_93 : decode cX10_init 93 = .ok (.aload_n 0, 1) := by decide +kernel
theorem dX10_init_94 : decode cX10_init 94 = .ok (.getfield 48, 3) := by decide +kernel
theorem dX10_init_97 : decode cX10_init 97 = .ok (.aload_n 0, 1) := by decide +kernel
theorem dX10_init_98 : decode cX10_init 98 = .ok (.getfield 23, 3) := by decide +kernel
theorem dX10_init_101 : decode cX10_init 101 = .ok (.invokespecial 54, 3) := by decide +kernel
theorem dX10_init_104 : decode cX10_init 104 = .ok (.putfield 57, 3) := by decide +kernel
theorem dX10_init_107 : decode cX10_init 107 = .ok (.aload_n 0, 1) := by decide +kernel
theorem dX10_init_108 : decode cX10_init 108 = .ok (.new 61, 3) := by decide +kernel
theorem dX10_init_111 : decode cX10_init 111 = .ok (.dup, 1) := by decide +kernel
theorem dX10_init_112 : decode cX10_init 112 = .ok (.aload_n 0, 1) := by decide +kernel
theorem dX10_init_113 : decode cX10_init 113 = .ok (.getfield 39, 3) := by decide +kernel
theorem dX10_init_116 : decode cX10_init 116 = .ok (.invokespecial 63, 3) := by decide +kernel
theorem dX10_init_119 : decode cX10_init 119 = .ok (.putfield 64, 3) := by decide +kernel
theorem dX10_init_122 : decode cX10_init 122 = .ok (.aload_n 0, 1) := by decide +kernel
theorem dX10_init_123 : decode cX10_init 123 = .ok (.new 68, 3) := by decide +kernel
theorem dX10_init_126 : decode cX10_init 126 = .ok (.dup, 1) := by decide +kernel
theorem dX10_init_127 : decode cX10_init 127 = .ok (.invokespecial 70, 3) := by decide +kernel
theorem dX10_init_130 : decode cX10_init 130 = .ok (.putfield 71, 3) := by decide +kernel
theorem dX10_init_133 : decode cX10_init 133 = .ok (.return_, 1) := by decide +kernel
theorem dX10_feed_0 : decode cX10_feed 0 = .ok (.aload_n 0, 1) := by decide +kernel
theorem dX10_feed_1 : decode cX10_feed 1 = .ok (.getfield 75, 3) := by decide +kernel
theorem dX10_feed_4 : decode cX10_feed 4 = .ok (.bipush 20, 2) := by decide +kernel
theorem dX10_feed_6 : decode cX10_feed 6 = .ok (.iadd, 1) := by decide +kernel
theorem dX10_feed_7 : decode cX10_feed 7 = .ok (.sipush 2000, 3) := by decide +kernel
theorem dX10_feed_10 : decode cX10_feed 10 = .ok (.if_icmp .le 5, 3) := by decide +kernel
theorem dX10_feed_13 : decode cX10_feed 13 = .ok (.iconst (-1), 1) := by decide +kernel
theorem dX10_feed_14 : decode cX10_feed 14 = .ok (.ireturn, 1) := by decide +kernel
theorem dX10_feed_15 : decode cX10_feed 15 = .ok (.aload_n 0, 1) := by decide +kernel
theorem dX10_feed_16 : decode cX10_feed 16 = .ok (.iload_n 1, 1) := by decide +kernel
theorem dX10_feed_17 : decode cX10_feed 17 = .ok (.invokevirtual 79, 3) := by decide +kernel
theorem dX10_feed_20 : decode cX10_feed 20 = .ok (.aload_n 0, 1) := by decide +kernel
theorem dX10_feed_21 : decode cX10_feed 21 = .ok (.iload_n 2, 1) := by decide +kernel
theorem dX10_feed_22 : decode cX10_feed 22 = .ok (.invokevirtual 79, 3) := by decide +kernel
theorem dX10_feed_25 : decode cX10_feed 25 = .ok (.aload_n 0, 1) := by decide +kernel
theorem dX10_feed_26 : decode cX10_feed 26 = .ok (.iload_n 3, 1) := by decide +kernel
theorem dX10_feed_27 : decode cX10_feed 27 = .ok (.invokevirtual 79, 3) := by decide +kernel
theorem dX10_feed_30 : decode cX10_feed 30 = .ok (.aload_n 0, 1) := by decide +kernel
theorem dX10_feed_31 : decode cX10_feed 31 = .ok (.iload 4, 2) := by decide +kernel
theorem dX10_feed_33 : decode cX10_feed 33 = .ok (.invokevirtual 79, 3) := by decide +kernel
theorem dX10_feed_36 : decode cX10_feed 36 = .ok (.aload_n 0, 1) := by decide +kernel
theorem dX10_feed_37 : decode cX10_feed 37 = .ok (.iload 5, 2) := by decide +kernel
theorem dX10_feed_39 : decode cX10_feed 39 = .ok (.invokevirtual 79, 3) := by decide +kernel
theorem dX10_feed_42 : decode cX10_feed 42 = .ok (.aload_n 0, 1) := by decide +kernel
theorem dX10_feed_43 : decode cX10_feed 43 = .ok (.getfield 75, 3) := by decide +kernel
theorem dX10_feed_46 : decode cX10_feed 46 = .ok (.ireturn, 1) := by decide +kernel
theorem dX10_end_0 : decode cX10_end 0 = .ok (.iload_n 1, 1) := by decide +kernel
theorem dX10_end_1 : decode cX10_end 1 = .ok (.ifCond .lt 11, 3) := by decide +kernel
theorem dX10_end_4 : decode cX10_end 4 = .ok (.iload_n 1, 1) := by decide +kernel
theorem dX10_end_5 : decode cX10_end 5 = .ok (.aload_n 0, 1) := by decide +kernel
theorem dX10_end_6 : decode cX10_end 6 = .ok (.getfield 75, 3) := by decide +kernel
theorem dX10_end_9 : decode cX10_end 9 = .ok (.if_icmp .le 5, 3) := by decide +kernel
theorem dX10_end_12 : decode cX10_end 12 = .ok (.iconst (-1), 1) := by decide +kernel
theorem dX10_end_13 : decode cX10_end 13 = .ok (.ireturn, 1) := by decide +kernel
theorem dX10_end_14 : decode cX10_end 14 = .ok (.aload_n 0, 1) := by decide +kernel
theorem dX10_end_15 : decode cX10_end 15 = .ok (.iload_n 1, 1) := by decide +kernel
theorem dX10_end_16 : decode cX10_end 16 = .ok (.putfield 75, 3) := by decide +kernel
theorem dX10_end_19 : decode cX10_end 19 = .ok (.iload_n 1, 1) := by decide +kernel
theorem dX10_end_20 : decode cX10_end 20 = .ok (.ireturn, 1) := by decide +kernel
theorem dX10_program_0 : decode cX10_program 0 = .ok (.aload_n 0, 1) := by decide +kernel
theorem dX10_program_1 : decode cX10_program 1 = .ok (.getfield 75, 3) := by decide +kernel
theorem dX10_program_4 : decode cX10_program 4 = .ok (.istore_n 1, 1) := by decide +kernel
theorem dX10_program_5 : decode cX10_program 5 = .ok (.aload_n 0, 1) := by decide +kernel
theorem dX10_program_6 : decode cX10_program 6 = .ok (.iconst 0, 1) := by decide +kernel
theorem dX10_program_7 : decode cX10_program 7 = .ok (.putfield 75, 3) := by decide +kernel
theorem dX10_program_10 : decode cX10_program 10 = .ok (.aload_n 0, 1) := by decide +kernel
theorem dX10_program_11 : decode cX10_program 11 = .ok (.aload_n 0, 1) := by decide +kernel
theorem dX10_program_12 : decode cX10_program 12 = .ok (.getfield 16, 3) := by decide +kernel
theorem dX10_program_15 : decode cX10_program 15 = .ok (.aload_n 0, 1) := by decide +kernel
theorem dX10_program_16 : decode cX10_program 16 = .ok (.getfield 9, 3) := by decide +kernel
theorem dX10_program_19 : decode cX10_program 19 = .ok (.iload_n 1, 1) := by decide +kernel
theorem dX10_program_20 : decode cX10_program 20 = .ok (.aload_n 0, 1) := by decide +kernel
theorem dX10_program_21 : decode cX10_program 21 = .ok (.getfield 27, 3) := by decide +kernel
theorem dX10_program_24 : decode cX10_program 24 = .ok (.invokevirtual 83, 3) := by decide +kernel
theorem dX10_program_27 : decode cX10_program 27 = .ok (.putfield 87, 3) := by decide +kernel
theorem dX10_program_30 : decode cX10_program 30 = .ok (.aload_n 0, 1) := by decide +kernel
theorem dX10_program_31 : decode cX10_program 31 = .ok (.getfield 87, 3) := by decide +kernel
theorem dX10_program_34 : decode cX10_program 34 = .ok (.ifCond .eq 13, 3) := by decide +kernel
theorem dX10_program_37 : decode cX10_program 37 = .ok (.iconst (-1), 1) := by decide +kernel
theorem dX10_program_38 : decode cX10_program 38 = .ok (.aload_n 0, 1) := by decide +kernel
theorem dX10_program_39 : decode cX10_program 39 = .ok (.getfield 16, 3) := by decide +kernel
theorem dX10_program_42 : decode cX10_program 42 = .ok (.getfield 90, 3) := by decide +kernel
theorem dX10_program_45 : decode cX10_program 45 = .ok (.isub, 1) := by decide +kernel
theorem dX10_program_46 : decode cX10_program 46 = .ok (.ireturn, 1) := by decide +kernel
theorem dX10_program_47 : decode cX10_program 47 = .ok (.aload_n 0, 1) := by decide +kernel
theorem dX10_program_48 : decode cX10_program 48 = .ok (.getfield 27, 3) := by decide +kernel
theorem dX10_program_51 : decode cX10_program 51 = .ok (.astore_n 2, 1) := by decide +kernel
theorem dX10_program_52 : decode cX10_program 52 = .ok (.aload_n 0, 1) := by decide +kernel
theorem dX10_program_53 : decode cX10_program 53 = .ok (.aload_n 0, 1) := by decide +kernel
theorem dX10_program_54 : decode cX10_program 54 = .ok (.getfield 23, 3) := by decide +kernel
theorem dX10_program_57 : decode cX10_program 57 = .ok (.putfield 27, 3) := by decide +kernel
theorem dX10_program_60 : decode cX10_program 60 = .ok (.aload_n 0, 1) := by decide +kernel
theorem dX10_program_61 : decode cX10_program 61 = .ok (.aload_n 2, 1) := by decide +kernel
theorem dX10_program_62 : decode cX10_program 62 = .ok (.putfield 23, 3) := by decide +kernel
theorem dX10_program_65 : decode cX10_program 65 = .ok (.aload_n 0, 1) := by decide +kernel
theorem dX10_program_66 : decode cX10_program 66 = .ok (.iconst 1, 1) := by decide +kernel
theorem dX10_program_67 : decode cX10_program 67 = .ok (.putfield 93, 3) := by decide +kernel
theorem dX10_program_70 : decode cX10_program 70 = .ok (.aload_n 0, 1) := by decide +kernel
theorem dX10_program_71 : decode cX10_program 71 = .ok (.getfield 57, 3) := by decide +kernel
theorem dX10_program_74 : decode cX10_program 74 = .ok (.invokevirtual 97, 3) := by decide +kernel
theorem dX10_program_77 : decode cX10_program 77 = .ok (.aload_n 0, 1) := by decide +kernel
theorem dX10_program_78 : decode cX10_program 78 = .ok (.getfield 23, 3) := by decide +kernel
theorem dX10_program_81 : decode cX10_program 81 = .ok (.getfield 100, 3) := by decide +kernel
theorem dX10_program_84 : decode cX10_program 84 = .ok (.ireturn, 1) := by decide +kernel
theorem dX10_fault_0 : decode cX10_fault 0 = .ok (.aload_n 0, 1) := by decide +kernel
theorem dX10_fault_1 : decode cX10_fault 1 = .ok (.getfield 87, 3) := by decide +kernel
theorem dX10_fault_4 : decode cX10_fault 4 = .ok (.ireturn, 1) := by decide +kernel
theorem dX10_begin_0 : decode cX10_begin 0 = .ok (.aload_n 0, 1) := by decide +kernel
theorem dX10_begin_1 : decode cX10_begin 1 = .ok (.getfield 93, 3) := by decide +kernel
theorem dX10_begin_4 : decode cX10_begin 4 = .ok (.ifCond .ne 13, 3) := by decide +kernel
theorem dX10_begin_7 : decode cX10_begin 7 = .ok (.new 103, 3) := by decide +kernel
theorem dX10_begin_10 : decode cX10_begin 10 = .ok (.dup, 1) := by decide +kernel
theorem dX10_begin_11 : decode cX10_begin 11 = .ok (.ldc 105, 2) := by decide +kernel
theorem dX10_begin_13 : decode cX10_begin 13 = .ok (.invokespecial 107, 3) := by decide +kernel
theorem dX10_begin_16 : decode cX10_begin 16 = .ok (.athrow, 1) := by decide +kernel
theorem dX10_begin_17 : decode cX10_begin 17 = .ok (.aload_n 0, 1) := by decide +kernel
theorem dX10_begin_18 : decode cX10_begin 18 = .ok (.getfield 57, 3) := by decide +kernel
theorem dX10_begin_21 : decode cX10_begin 21 = .ok (.aload_n 0, 1) := by decide +kernel
theorem dX10_begin_22 : decode cX10_begin 22 = .ok (.getfield 23, 3) := by decide +kernel
theorem dX10_begin_25 : decode cX10_begin 25 = .ok (.invokevirtual 110, 3) := by decide +kernel
theorem dX10_begin_28 : decode cX10_begin 28 = .ok (.return_, 1) := by decide +kernel
theorem dX10_run_0 : decode cX10_run 0 = .ok (.iload_n 1, 1) := by decide +kernel
theorem dX10_run_1 : decode cX10_run 1 = .ok (.ifCond .lt 10, 3) := by decide +kernel
theorem dX10_run_4 : decode cX10_run 4 = .ok (.iload_n 1, 1) := by decide +kernel
theorem dX10_run_5 : decode cX10_run 5 = .ok (.sipush 2000, 3) := by decide +kernel
theorem dX10_run_8 : decode cX10_run 8 = .ok (.if_icmp .le 13, 3) := by decide +kernel
theorem dX10_run_11 : decode cX10_run 11 = .ok (.new 114, 3) := by decide +kernel
theorem dX10_run_14 : decode cX10_run 14 = .ok (.dup, 1) := by decide +kernel
theorem dX10_run_15 : decode cX10_run 15 = .ok (.ldc 116, 2) := by decide +kernel
theorem dX10_run_17 : decode cX10_run 17 = .ok (.invokespecial 118, 3) := by decide +kernel
theorem dX10_run_20 : decode cX10_run 20 = .ok (.athrow, 1) := by decide +kernel
theorem dX10_run_21 : decode cX10_run 21 = .ok (.aload_n 0, 1) := by decide +kernel
theorem dX10_run_22 : decode cX10_run 22 = .ok (.getfield 57, 3) := by decide +kernel
theorem dX10_run_25 : decode cX10_run 25 = .ok (.getfield 119, 3) := by decide +kernel
theorem dX10_run_28 : decode cX10_run 28 = .ok (.ifCond .ne 13, 3) := by decide +kernel
theorem dX10_run_31 : decode cX10_run 31 = .ok (.new 103, 3) := by decide +kernel
theorem dX10_run_34 : decode cX10_run 34 = .ok (.dup, 1) := by decide +kernel
theorem dX10_run_35 : decode cX10_run 35 = .ok (.ldc 122, 2) := by decide +kernel
theorem dX10_run_37 : decode cX10_run 37 = .ok (.invokespecial 107, 3) := by decide +kernel
theorem dX10_run_40 : decode cX10_run 40 = .ok (.athrow, 1) := by decide +kernel
theorem dX10_run_41 : decode cX10_run 41 = .ok (.iconst 0, 1) := by decide +kernel
theorem dX10_run_42 : decode cX10_run 42 = .ok (.istore_n 2, 1) := by decide +kernel
theorem dX10_run_43 : decode cX10_run 43 = .ok (.iload_n 2, 1) := by decide +kernel
theorem dX10_run_44 : decode cX10_run 44 = .ok (.iload_n 1, 1) := by decide +kernel
theorem dX10_run_45 : decode cX10_run 45 = .ok (.if_icmp .ge 19, 3) := by decide +kernel
theorem dX10_run_48 : decode cX10_run 48 = .ok (.aload_n 0, 1) := by decide +kernel
theorem dX10_run_49 : decode cX10_run 49 = .ok (.getfield 57, 3) := by decide +kernel
theorem dX10_run_52 : decode cX10_run 52 = .ok (.invokevirtual 124, 3) := by decide +kernel
theorem dX10_run_55 : decode cX10_run 55 = .ok (.ifCond .eq 9, 3) := by decide +kernel
theorem dX10_run_58 : decode cX10_run 58 = .ok (.iinc 2 1, 3) := by decide +kernel
theorem dX10_run_61 : decode cX10_run 61 = .ok (.goto (-18), 3) := by decide +kernel
theorem dX10_run_64 : decode cX10_run 64 = .ok (.iload_n 2, 1) := by decide +kernel
theorem dX10_run_65 : decode cX10_run 65 = .ok (.ireturn, 1) := by decide +kernel
theorem dX10_about_0 : decode cX10_about 0 = .ok (.iload_n 1, 1) := by decide +kernel
theorem dX10_about_1 : decode cX10_about 1 = .ok (.tableswitch 99 0 6 #[43, 51, 59, 67, 75, 83, 91], 43) := by decide +kernel
theorem dX10_about_44 : decode cX10_about 44 = .ok (.aload_n 0, 1) := by decide +kernel
theorem dX10_about_45 : decode cX10_about 45 = .ok (.getfield 57, 3) := by decide +kernel
theorem dX10_about_48 : decode cX10_about 48 = .ok (.getfield 119, 3) := by decide +kernel
theorem dX10_about_51 : decode cX10_about 51 = .ok (.ireturn, 1) := by decide +kernel
theorem dX10_about_52 : decode cX10_about 52 = .ok (.aload_n 0, 1) := by decide +kernel
theorem dX10_about_53 : decode cX10_about 53 = .ok (.getfield 57, 3) := by decide +kernel
theorem dX10_about_56 : decode cX10_about 56 = .ok (.getfield 128, 3) := by decide +kernel
theorem dX10_about_59 : decode cX10_about 59 = .ok (.ireturn, 1) := by decide +kernel
theorem dX10_about_60 : decode cX10_about 60 = .ok (.aload_n 0, 1) := by decide +kernel
theorem dX10_about_61 : decode cX10_about 61 = .ok (.getfield 57, 3) := by decide +kernel
theorem dX10_about_64 : decode cX10_about 64 = .ok (.invokevirtual 131, 3) := by decide +kernel
theorem dX10_about_67 : decode cX10_about 67 = .ok (.ireturn, 1) := by decide +kernel
theorem dX10_about_68 : decode cX10_about 68 = .ok (.aload_n 0, 1) := by decide +kernel
theorem dX10_about_69 : decode cX10_about 69 = .ok (.getfield 57, 3) := by decide +kernel
theorem dX10_about_72 : decode cX10_about 72 = .ok (.invokevirtual 135, 3) := by decide +kernel
theorem dX10_about_75 : decode cX10_about 75 = .ok (.ireturn, 1) := by decide +kernel
theorem dX10_about_76 : decode cX10_about 76 = .ok (.aload_n 0, 1) := by decide +kernel
theorem dX10_about_77 : decode cX10_about 77 = .ok (.getfield 57, 3) := by decide +kernel
theorem dX10_about_80 : decode cX10_about 80 = .ok (.getfield 138, 3) := by decide +kernel
theorem dX10_about_83 : decode cX10_about 83 = .ok (.ireturn, 1) := by decide +kernel
theorem dX10_about_84 : decode cX10_about 84 = .ok (.aload_n 0, 1) := by decide +kernel
theorem dX10_about_85 : decode cX10_about 85 = .ok (.getfield 57, 3) := by decide +kernel
theorem dX10_about_88 : decode cX10_about 88 = .ok (.getfield 141, 3) := by decide +kernel
theorem dX10_about_91 : decode cX10_about 91 = .ok (.ireturn, 1) := by decide +kernel
theorem dX10_about_92 : decode cX10_about 92 = .ok (.aload_n 0, 1) := by decide +kernel
theorem dX10_about_93 : decode cX10_about 93 = .ok (.getfield 57, 3) := by decide +kernel
theorem dX10_about_96 : decode cX10_about 96 = .ok (.getfield 144, 3) := by decide +kernel
theorem dX10_about_99 : decode cX10_about 99 = .ok (.ireturn, 1) := by decide +kernel
theorem dX10_about_100 : decode cX10_about 100 = .ok (.iconst (-1), 1) := by decide +kernel
theorem dX10_about_101 : decode cX10_about 101 = .ok (.ireturn, 1) := by decide +kernel
theorem dX10_said_0 : decode cX10_said 0 = .ok (.aload_n 0, 1) := by decide +kernel
theorem dX10_said_1 : decode cX10_said 1 = .ok (.getfield 57, 3) := by decide +kernel
theorem dX10_said_4 : decode cX10_said 4 = .ok (.iload_n 1, 1) := by decide +kernel
theorem dX10_said_5 : decode cX10_said 5 = .ok (.invokevirtual 147, 3) := by decide +kernel
theorem dX10_said_8 : decode cX10_said 8 = .ok (.ifCond .ne 13, 3) := by decide +kernel
theorem dX10_said_11 : decode cX10_said 11 = .ok (.new 151, 3) := by decide +kernel
theorem dX10_said_14 : decode cX10_said 14 = .ok (.dup, 1) := by decide +kernel
theorem dX10_said_15 : decode cX10_said 15 = .ok (.ldc 153, 2) := by decide +kernel
theorem dX10_said_17 : decode cX10_said 17 = .ok (.invokespecial 155, 3) := by decide +kernel
theorem dX10_said_20 : decode cX10_said 20 = .ok (.athrow, 1) := by decide +kernel
theorem dX10_said_21 : decode cX10_said 21 = .ok (.aload_n 0, 1) := by decide +kernel
theorem dX10_said_22 : decode cX10_said 22 = .ok (.getfield 57, 3) := by decide +kernel
theorem dX10_said_25 : decode cX10_said 25 = .ok (.getfield 156, 3) := by decide +kernel
theorem dX10_said_28 : decode cX10_said 28 = .ok (.iload_n 1, 1) := by decide +kernel
theorem dX10_said_29 : decode cX10_said 29 = .ok (.iaload, 1) := by decide +kernel
theorem dX10_said_30 : decode cX10_said 30 = .ok (.ireturn, 1) := by decide +kernel
theorem dX10_act_0 : decode cX10_act 0 = .ok (.iload_n 1, 1) := by decide +kernel
theorem dX10_act_1 : decode cX10_act 1 = .ok (.ifCond .lt 9, 3) := by decide +kernel
theorem dX10_act_4 : decode cX10_act 4 = .ok (.iload_n 1, 1) := by decide +kernel
theorem dX10_act_5 : decode cX10_act 5 = .ok (.bipush 19, 2) := by decide +kernel
theorem dX10_act_7 : decode cX10_act 7 = .ok (.if_icmp .le 5, 3) := by decide +kernel
theorem dX10_act_10 : decode cX10_act 10 = .ok (.iconst (-1), 1) := by decide +kernel
theorem dX10_act_11 : decode cX10_act 11 = .ok (.ireturn, 1) := by decide +kernel
theorem dX10_act_12 : decode cX10_act 12 = .ok (.getstatic 160, 3) := by decide +kernel
theorem dX10_act_15 : decode cX10_act 15 = .ok (.iload_n 1, 1) := by decide +kernel
theorem dX10_act_16 : decode cX10_act 16 = .ok (.aaload, 1) := by decide +kernel
theorem dX10_act_17 : decode cX10_act 17 = .ok (.astore 5, 2) := by decide +kernel
theorem dX10_act_19 : decode cX10_act 19 = .ok (.aload 5, 2) := by decide +kernel
theorem dX10_act_21 : decode cX10_act 21 = .ok (.iload_n 2, 1) := by decide +kernel
theorem dX10_act_22 : decode cX10_act 22 = .ok (.iload_n 3, 1) := by decide +kernel
theorem dX10_act_23 : decode cX10_act 23 = .ok (.iload 4, 2) := by decide +kernel
theorem dX10_act_25 : decode cX10_act 25 = .ok (.invokestatic 164, 3) := by decide +kernel
theorem dX10_act_28 : decode cX10_act 28 = .ok (.ifCond .eq 19, 3) := by decide +kernel
theorem dX10_act_31 : decode cX10_act 31 = .ok (.aload_n 0, 1) := by decide +kernel
theorem dX10_act_32 : decode cX10_act 32 = .ok (.getfield 48, 3) := by decide +kernel
theorem dX10_act_35 : decode cX10_act 35 = .ok (.aload 5, 2) := by decide +kernel
theorem dX10_act_37 : decode cX10_act 37 = .ok (.iload_n 2, 1) := by decide +kernel
theorem dX10_act_38 : decode cX10_act 38 = .ok (.iload_n 3, 1) := by decide +kernel
theorem dX10_act_39 : decode cX10_act 39 = .ok (.iload 4, 2) := by decide +kernel
theorem dX10_act_41 : decode cX10_act 41 = .ok (.invokevirtual 168, 3) := by decide +kernel
theorem dX10_act_44 : decode cX10_act 44 = .ok (.goto 4, 3) := by decide +kernel
theorem dX10_act_47 : decode cX10_act 47 = .ok (.iconst (-1), 1) := by decide +kernel
theorem dX10_act_48 : decode cX10_act 48 = .ok (.ireturn, 1) := by decide +kernel
theorem dX10_pass_0 : decode cX10_pass 0 = .ok (.iload_n 1, 1) := by decide +kernel
theorem dX10_pass_1 : decode cX10_pass 1 = .ok (.ifCond .lt 10, 3) := by decide +kernel
theorem dX10_pass_4 : decode cX10_pass 4 = .ok (.iload_n 1, 1) := by decide +kernel
theorem dX10_pass_5 : decode cX10_pass 5 = .ok (.sipush 1000, 3) := by decide +kernel
theorem dX10_pass_8 : decode cX10_pass 8 = .ok (.if_icmp .le 7, 3) := by decide +kernel
theorem dX10_pass_11 : decode cX10_pass 11 = .ok (.iconst (-1), 1) := by decide +kernel
theorem dX10_pass_12 : decode cX10_pass 12 = .ok (.goto 11, 3) := by decide +kernel
theorem dX10_pass_15 : decode cX10_pass 15 = .ok (.aload_n 0, 1) := by decide +kernel
theorem dX10_pass_16 : decode cX10_pass 16 = .ok (.getfield 39, 3) := by decide +kernel
theorem dX10_pass_19 : decode cX10_pass 19 = .ok (.iload_n 1, 1) := by decide +kernel
theorem dX10_pass_20 : decode cX10_pass 20 = .ok (.invokevirtual 172, 3) := by decide +kernel
theorem dX10_pass_23 : decode cX10_pass 23 = .ok (.ireturn, 1) := by decide +kernel
theorem dX10_turn_0 : decode cX10_turn 0 = .ok (.aload_n 0, 1) := by decide +kernel
theorem dX10_turn_1 : decode cX10_turn 1 = .ok (.getfield 39, 3) := by decide +kernel
theorem dX10_turn_4 : decode cX10_turn 4 = .ok (.getfield 176, 3) := by decide +kernel
theorem dX10_turn_7 : decode cX10_turn 7 = .ok (.aload_n 0, 1) := by decide +kernel
theorem dX10_turn_8 : decode cX10_turn 8 = .ok (.getfield 39, 3) := by decide +kernel
theorem dX10_turn_11 : decode cX10_turn 11 = .ok (.getfield 179, 3) := by decide +kernel
theorem dX10_turn_14 : decode cX10_turn 14 = .ok (.if_icmp .ge 5, 3) := by decide +kernel
theorem dX10_turn_17 : decode cX10_turn 17 = .ok (.iconst 0, 1) := by decide +kernel
theorem dX10_turn_18 : decode cX10_turn 18 = .ok (.ireturn, 1) := by decide +kernel
theorem dX10_turn_19 : decode cX10_turn 19 = .ok (.aload_n 0, 1) := by decide +kernel
theorem dX10_turn_20 : decode cX10_turn 20 = .ok (.getfield 39, 3) := by decide +kernel
theorem dX10_turn_23 : decode cX10_turn 23 = .ok (.invokevirtual 182, 3) := by decide +kernel
theorem dX10_turn_26 : decode cX10_turn 26 = .ok (.iconst 1, 1) := by decide +kernel
theorem dX10_turn_27 : decode cX10_turn 27 = .ok (.ireturn, 1) := by decide +kernel
theorem dX10_memory_0 : decode cX10_memory 0 = .ok (.iload_n 1, 1) := by decide +kernel
theorem dX10_memory_1 : decode cX10_memory 1 = .ok (.tableswitch 123 0 14 #[75, 83, 91, 99, 123, 123, 123, 123, 123, 123, 123, 123, 123, 107, 115], 75) := by decide +kernel
theorem dX10_memory_76 : decode cX10_memory 76 = .ok (.aload_n 0, 1) := by decide +kernel
theorem dX10_memory_77 : decode cX10_memory 77 = .ok (.getfield 39, 3) := by decide +kernel
theorem dX10_memory_80 : decode cX10_memory 80 = .ok (.getfield 179, 3) := by decide +kernel
theorem dX10_memory_83 : decode cX10_memory 83 = .ok (.ireturn, 1) := by decide +kernel
theorem dX10_memory_84 : decode cX10_memory 84 = .ok (.aload_n 0, 1) := by decide +kernel
theorem dX10_memory_85 : decode cX10_memory 85 = .ok (.getfield 39, 3) := by decide +kernel
theorem dX10_memory_88 : decode cX10_memory 88 = .ok (.getfield 176, 3) := by decide +kernel
theorem dX10_memory_91 : decode cX10_memory 91 = .ok (.ireturn, 1) := by decide +kernel
theorem dX10_memory_92 : decode cX10_memory 92 = .ok (.aload_n 0, 1) := by decide +kernel
theorem dX10_memory_93 : decode cX10_memory 93 = .ok (.getfield 39, 3) := by decide +kernel
theorem dX10_memory_96 : decode cX10_memory 96 = .ok (.getfield 185, 3) := by decide +kernel
theorem dX10_memory_99 : decode cX10_memory 99 = .ok (.ireturn, 1) := by decide +kernel
theorem dX10_memory_100 : decode cX10_memory 100 = .ok (.aload_n 0, 1) := by decide +kernel
theorem dX10_memory_101 : decode cX10_memory 101 = .ok (.getfield 39, 3) := by decide +kernel
theorem dX10_memory_104 : decode cX10_memory 104 = .ok (.getfield 188, 3) := by decide +kernel
theorem dX10_memory_107 : decode cX10_memory 107 = .ok (.ireturn, 1) := by decide +kernel
theorem dX10_memory_108 : decode cX10_memory 108 = .ok (.aload_n 0, 1) := by decide +kernel
theorem dX10_memory_109 : decode cX10_memory 109 = .ok (.getfield 39, 3) := by decide +kernel
theorem dX10_memory_112 : decode cX10_memory 112 = .ok (.getfield 191, 3) := by decide +kernel
theorem dX10_memory_115 : decode cX10_memory 115 = .ok (.ireturn, 1) := by decide +kernel
theorem dX10_memory_116 : decode cX10_memory 116 = .ok (.aload_n 0, 1) := by decide +kernel
theorem dX10_memory_117 : decode cX10_memory 117 = .ok (.getfield 39, 3) := by decide +kernel
theorem dX10_memory_120 : decode cX10_memory 120 = .ok (.getfield 194, 3) := by decide +kernel
theorem dX10_memory_123 : decode cX10_memory 123 = .ok (.ireturn, 1) := by decide +kernel
theorem dX10_memory_124 : decode cX10_memory 124 = .ok (.aload_n 0, 1) := by decide +kernel
theorem dX10_memory_125 : decode cX10_memory 125 = .ok (.getfield 39, 3) := by decide +kernel
theorem dX10_memory_128 : decode cX10_memory 128 = .ok (.iload_n 1, 1) := by decide +kernel
theorem dX10_memory_129 : decode cX10_memory 129 = .ok (.invokevirtual 197, 3) := by decide +kernel
theorem dX10_memory_132 : decode cX10_memory 132 = .ok (.ireturn, 1) := by decide +kernel
theorem dX10_hand_0 : decode cX10_hand 0 = .ok (.iload_n 1, 1) := by decide +kernel
theorem dX10_hand_1 : decode cX10_hand 1 = .ok (.invokestatic 199, 3) := by decide +kernel
theorem dX10_hand_4 : decode cX10_hand 4 = .ok (.ifCond .eq 15, 3) := by decide +kernel
theorem dX10_hand_7 : decode cX10_hand 7 = .ok (.aload_n 0, 1) := by decide +kernel
theorem dX10_hand_8 : decode cX10_hand 8 = .ok (.getfield 39, 3) := by decide +kernel
theorem dX10_hand_11 : decode cX10_hand 11 = .ok (.iload_n 1, 1) := by decide +kernel
theorem dX10_hand_12 : decode cX10_hand 12 = .ok (.iload_n 2, 1) := by decide +kernel
theorem dX10_hand_13 : decode cX10_hand 13 = .ok (.invokevirtual 202, 3) := by decide +kernel
theorem dX10_hand_16 : decode cX10_hand 16 = .ok (.goto 4, 3) := by decide +kernel
theorem dX10_hand_19 : decode cX10_hand 19 = .ok (.iconst (-1), 1) := by decide +kernel
theorem dX10_hand_20 : decode cX10_hand 20 = .ok (.ireturn, 1) := by decide +kernel
theorem dX10_stack_0 : decode cX10_stack 0 = .ok (.iload_n 1, 1) := by decide +kernel
theorem dX10_stack_1 : decode cX10_stack 1 = .ok (.ifCond .lt 14, 3) := by decide +kernel
theorem dX10_stack_4 : decode cX10_stack 4 = .ok (.iload_n 1, 1) := by decide +kernel
theorem dX10_stack_5 : decode cX10_stack 5 = .ok (.aload_n 0, 1) := by decide +kernel
theorem dX10_stack_6 : decode cX10_stack 6 = .ok (.getfield 39, 3) := by decide +kernel
theorem dX10_stack_9 : decode cX10_stack 9 = .ok (.getfield 206, 3) := by decide +kernel
theorem dX10_stack_12 : decode cX10_stack 12 = .ok (.if_icmp .lt 7, 3) := by decide +kernel
theorem dX10_stack_15 : decode cX10_stack 15 = .ok (.iconst (-1), 1) := by decide +kernel
theorem dX10_stack_16 : decode cX10_stack 16 = .ok (.goto 15, 3) := by decide +kernel
theorem dX10_stack_19 : decode cX10_stack 19 = .ok (.aload_n 0, 1) := by decide +kernel
theorem dX10_stack_20 : decode cX10_stack 20 = .ok (.getfield 39, 3) := by decide +kernel
theorem dX10_stack_23 : decode cX10_stack 23 = .ok (.bipush 8, 2) := by decide +kernel
theorem dX10_stack_25 : decode cX10_stack 25 = .ok (.iload_n 1, 1) := by decide +kernel
theorem dX10_stack_26 : decode cX10_stack 26 = .ok (.iadd, 1) := by decide +kernel
theorem dX10_stack_27 : decode cX10_stack 27 = .ok (.iload_n 2, 1) := by decide +kernel
theorem dX10_stack_28 : decode cX10_stack 28 = .ok (.invokevirtual 202, 3) := by decide +kernel
theorem dX10_stack_31 : decode cX10_stack 31 = .ok (.ireturn, 1) := by decide +kernel
theorem dX10_slot_0 : decode cX10_slot 0 = .ok (.iload_n 1, 1) := by decide +kernel
theorem dX10_slot_1 : decode cX10_slot 1 = .ok (.invokestatic 199, 3) := by decide +kernel
theorem dX10_slot_4 : decode cX10_slot 4 = .ok (.ifCond .eq 15, 3) := by decide +kernel
theorem dX10_slot_7 : decode cX10_slot 7 = .ok (.aload_n 0, 1) := by decide +kernel
theorem dX10_slot_8 : decode cX10_slot 8 = .ok (.getfield 39, 3) := by decide +kernel
theorem dX10_slot_11 : decode cX10_slot 11 = .ok (.iload_n 1, 1) := by decide +kernel
theorem dX10_slot_12 : decode cX10_slot 12 = .ok (.iload_n 2, 1) := by decide +kernel
theorem dX10_slot_13 : decode cX10_slot 13 = .ok (.invokevirtual 209, 3) := by decide +kernel
theorem dX10_slot_16 : decode cX10_slot 16 = .ok (.goto 4, 3) := by decide +kernel
theorem dX10_slot_19 : decode cX10_slot 19 = .ok (.iconst (-1), 1) := by decide +kernel
theorem dX10_slot_20 : decode cX10_slot 20 = .ok (.istore 4, 2) := by decide +kernel
theorem dX10_slot_22 : decode cX10_slot 22 = .ok (.iload 4, 2) := by decide +kernel
theorem dX10_slot_24 : decode cX10_slot 24 = .ok (.iconst (-1), 1) := by decide +kernel
theorem dX10_slot_25 : decode cX10_slot 25 = .ok (.if_icmp .ne 7, 3) := by decide +kernel
theorem dX10_slot_28 : decode cX10_slot 28 = .ok (.iconst (-1), 1) := by decide +kernel
theorem dX10_slot_29 : decode cX10_slot 29 = .ok (.goto 13, 3) := by decide +kernel
theorem dX10_slot_32 : decode cX10_slot 32 = .ok (.aload_n 0, 1) := by decide +kernel
theorem dX10_slot_33 : decode cX10_slot 33 = .ok (.getfield 39, 3) := by decide +kernel
theorem dX10_slot_36 : decode cX10_slot 36 = .ok (.iload 4, 2) := by decide +kernel
theorem dX10_slot_38 : decode cX10_slot 38 = .ok (.iload_n 3, 1) := by decide +kernel
theorem dX10_slot_39 : decode cX10_slot 39 = .ok (.invokevirtual 212, 3) := by decide +kernel
theorem dX10_slot_42 : decode cX10_slot 42 = .ok (.ireturn, 1) := by decide +kernel
theorem dX10_reach_0 : decode cX10_reach 0 = .ok (.iload_n 1, 1) := by decide +kernel
theorem dX10_reach_1 : decode cX10_reach 1 = .ok (.ifCond .eq 10, 3) := by decide +kernel
theorem dX10_reach_4 : decode cX10_reach 4 = .ok (.iload_n 1, 1) := by decide +kernel
theorem dX10_reach_5 : decode cX10_reach 5 = .ok (.iconst 1, 1) := by decide +kernel
theorem dX10_reach_6 : decode cX10_reach 6 = .ok (.if_icmp .eq 5, 3) := by decide +kernel
theorem dX10_reach_9 : decode cX10_reach 9 = .ok (.iconst (-1), 1) := by decide +kernel
theorem dX10_reach_10 : decode cX10_reach 10 = .ok (.ireturn, 1) := by decide +kernel
theorem dX10_reach_11 : decode cX10_reach 11 = .ok (.aload_n 0, 1) := by decide +kernel
theorem dX10_reach_12 : decode cX10_reach 12 = .ok (.getfield 64, 3) := by decide +kernel
theorem dX10_reach_15 : decode cX10_reach 15 = .ok (.invokevirtual 215, 3) := by decide +kernel
theorem dX10_reach_18 : decode cX10_reach 18 = .ok (.iload_n 1, 1) := by decide +kernel
theorem dX10_reach_19 : decode cX10_reach 19 = .ok (.ifCond .ne 13, 3) := by decide +kernel
theorem dX10_reach_22 : decode cX10_reach 22 = .ok (.aload_n 0, 1) := by decide +kernel
theorem dX10_reach_23 : decode cX10_reach 23 = .ok (.getfield 64, 3) := by decide +kernel
theorem dX10_reach_26 : decode cX10_reach 26 = .ok (.getfield 218, 3) := by decide +kernel
theorem dX10_reach_29 : decode cX10_reach 29 = .ok (.goto 10, 3) := by decide +kernel
theorem dX10_reach_32 : decode cX10_reach 32 = .ok (.aload_n 0, 1) := by decide +kernel
theorem dX10_reach_33 : decode cX10_reach 33 = .ok (.getfield 64, 3) := by decide +kernel
theorem dX10_reach_36 : decode cX10_reach 36 = .ok (.invokevirtual 219, 3) := by decide +kernel
theorem dX10_reach_39 : decode cX10_reach 39 = .ok (.ireturn, 1) := by decide +kernel
theorem dX10_show_0 : decode cX10_show 0 = .ok (.iload_n 1, 1) := by decide +kernel
theorem dX10_show_1 : decode cX10_show 1 = .ok (.invokestatic 199, 3) := by decide +kernel
theorem dX10_show_4 : decode cX10_show 4 = .ok (.ifCond .ne 5, 3) := by decide +kernel
theorem dX10_show_7 : decode cX10_show 7 = .ok (.iconst (-1), 1) := by decide +kernel
theorem dX10_show_8 : decode cX10_show 8 = .ok (.ireturn, 1) := by decide +kernel
theorem dX10_show_9 : decode cX10_show 9 = .ok (.aload_n 0, 1) := by decide +kernel
theorem dX10_show_10 : decode cX10_show 10 = .ok (.getfield 71, 3) := by decide +kernel
theorem dX10_show_13 : decode cX10_show 13 = .ok (.iconst 0, 1) := by decide +kernel
theorem dX10_show_14 : decode cX10_show 14 = .ok (.putfield 222, 3) := by decide +kernel
theorem dX10_show_17 : decode cX10_show 17 = .ok (.aload_n 0, 1) := by decide +kernel
theorem dX10_show_18 : decode cX10_show 18 = .ok (.getfield 64, 3) := by decide +kernel
theorem dX10_show_21 : decode cX10_show 21 = .ok (.iload_n 1, 1) := by decide +kernel
theorem dX10_show_22 : decode cX10_show 22 = .ok (.aload_n 0, 1) := by decide +kernel
theorem dX10_show_23 : decode cX10_show 23 = .ok (.getfield 71, 3) := by decide +kernel
theorem dX10_show_26 : decode cX10_show 26 = .ok (.invokevirtual 225, 3) := by decide +kernel
theorem dX10_show_29 : decode cX10_show 29 = .ok (.aload_n 0, 1) := by decide +kernel
theorem dX10_show_30 : decode cX10_show 30 = .ok (.getfield 71, 3) := by decide +kernel
theorem dX10_show_33 : decode cX10_show 33 = .ok (.getfield 222, 3) := by decide +kernel
theorem dX10_show_36 : decode cX10_show 36 = .ok (.ireturn, 1) := by decide +kernel
theorem dX10_letter_0 : decode cX10_letter 0 = .ok (.iload_n 1, 1) := by decide +kernel
theorem dX10_letter_1 : decode cX10_letter 1 = .ok (.ifCond .lt 14, 3) := by decide +kernel
theorem dX10_letter_4 : decode cX10_letter 4 = .ok (.iload_n 1, 1) := by decide +kernel
theorem dX10_letter_5 : decode cX10_letter 5 = .ok (.aload_n 0, 1) := by decide +kernel
theorem dX10_letter_6 : decode cX10_letter 6 = .ok (.getfield 71, 3) := by decide +kernel
theorem dX10_letter_9 : decode cX10_letter 9 = .ok (.getfield 222, 3) := by decide +kernel
theorem dX10_letter_12 : decode cX10_letter 12 = .ok (.if_icmp .lt 7, 3) := by decide +kernel
theorem dX10_letter_15 : decode cX10_letter 15 = .ok (.iconst (-1), 1) := by decide +kernel
theorem dX10_letter_16 : decode cX10_letter 16 = .ok (.goto 12, 3) := by decide +kernel
theorem dX10_letter_19 : decode cX10_letter 19 = .ok (.aload_n 0, 1) := by decide +kernel
theorem dX10_letter_20 : decode cX10_letter 20 = .ok (.getfield 71, 3) := by decide +kernel
theorem dX10_letter_23 : decode cX10_letter 23 = .ok (.getfield 229, 3) := by decide +kernel
theorem dX10_letter_26 : decode cX10_letter 26 = .ok (.iload_n 1, 1) := by decide +kernel
theorem dX10_letter_27 : decode cX10_letter 27 = .ok (.baload, 1) := by decide +kernel
theorem dX10_letter_28 : decode cX10_letter 28 = .ok (.ireturn, 1) := by decide +kernel
theorem dX10_feedNumber_0 : decode cX10_feedNumber 0 = .ok (.bipush 24, 2) := by decide +kernel
theorem dX10_feedNumber_2 : decode cX10_feedNumber 2 = .ok (.istore_n 2, 1) := by decide +kernel
theorem dX10_feedNumber_3 : decode cX10_feedNumber 3 = .ok (.iload_n 2, 1) := by decide +kernel
theorem dX10_feedNumber_4 : decode cX10_feedNumber 4 = .ok (.ifCond .lt 32, 3) := by decide +kernel
theorem dX10_feedNumber_7 : decode cX10_feedNumber 7 = .ok (.aload_n 0, 1) := by decide +kernel
theorem dX10_feedNumber_8 : decode cX10_feedNumber 8 = .ok (.getfield 9, 3) := by decide +kernel
theorem dX10_feedNumber_11 : decode cX10_feedNumber 11 = .ok (.aload_n 0, 1) := by decide +kernel
theorem dX10_feedNumber_12 : decode cX10_feedNumber 12 = .ok (.getfield 75, 3) := by decide +kernel
theorem dX10_feedNumber_15 : decode cX10_feedNumber 15 = .ok (.iload_n 1, 1) := by decide +kernel
theorem dX10_feedNumber_16 : decode cX10_feedNumber 16 = .ok (.iload_n 2, 1) := by decide +kernel
theorem dX10_feedNumber_17 : decode cX10_feedNumber 17 = .ok (.ishr, 1) := by decide +kernel
theorem dX10_feedNumber_18 : decode cX10_feedNumber 18 = .ok (.i2b, 1) := by decide +kernel
theorem dX10_feedNumber_19 : decode cX10_feedNumber 19 = .ok (.bastore, 1) := by decide +kernel
theorem dX10_feedNumber_20 : decode cX10_feedNumber 20 = .ok (.aload_n 0, 1) := by decide +kernel
theorem dX10_feedNumber_21 : decode cX10_feedNumber 21 = .ok (.dup, 1) := by decide +kernel
theorem dX10_feedNumber_22 : decode cX10_feedNumber 22 = .ok (.getfield 75, 3) := by decide +kernel
theorem dX10_feedNumber_25 : decode cX10_feedNumber 25 = .ok (.iconst 1, 1) := by decide +kernel
theorem dX10_feedNumber_26 : decode cX10_feedNumber 26 = .ok (.iadd, 1) := by decide +kernel
theorem dX10_feedNumber_27 : decode cX10_feedNumber 27 = .ok (.putfield 75, 3) := by decide +kernel
theorem dX10_feedNumber_30 : decode cX10_feedNumber 30 = .ok (.iinc 2 (-8), 3) := by decide +kernel
theorem dX10_feedNumber_33 : decode cX10_feedNumber 33 = .ok (.goto (-30), 3) := by decide +kernel
theorem dX10_feedNumber_36 : decode cX10_feedNumber 36 = .ok (.return_, 1) := by decide +kernel
theorem dX10_nearest_0 : decode cX10_nearest 0 = .ok (.iload_n 1, 1) := by decide +kernel
theorem dX10_nearest_1 : decode cX10_nearest 1 = .ok (.iload_n 2, 1) := by decide +kernel
theorem dX10_nearest_2 : decode cX10_nearest 2 = .ok (.iload_n 0, 1) := by decide +kernel
theorem dX10_nearest_3 : decode cX10_nearest 3 = .ok (.invokestatic 232, 3) := by decide +kernel
theorem dX10_nearest_6 : decode cX10_nearest 6 = .ok (.invokestatic 237, 3) := by decide +kernel
theorem dX10_nearest_9 : decode cX10_nearest 9 = .ok (.ireturn, 1) := by decide +kernel
theorem dX10_isHand_0 : decode cX10_isHand 0 = .ok (.iload_n 0, 1) := by decide +kernel
theorem dX10_isHand_1 : decode cX10_isHand 1 = .ok (.ifCond .lt 13, 3) := by decide +kernel
theorem dX10_isHand_4 : decode cX10_isHand 4 = .ok (.iload_n 0, 1) := by decide +kernel
theorem dX10_isHand_5 : decode cX10_isHand 5 = .ok (.bipush 8, 2) := by decide +kernel
theorem dX10_isHand_7 : decode cX10_isHand 7 = .ok (.if_icmp .ge 7, 3) := by decide +kernel
theorem dX10_isHand_10 : decode cX10_isHand 10 = .ok (.iconst 1, 1) := by decide +kernel
theorem dX10_isHand_11 : decode cX10_isHand 11 = .ok (.goto 4, 3) := by decide +kernel
theorem dX10_isHand_14 : decode cX10_isHand 14 = .ok (.iconst 0, 1) := by decide +kernel
theorem dX10_isHand_15 : decode cX10_isHand 15 = .ok (.ireturn, 1) := by decide +kernel
theorem dX10_handsFit_0 : decode cX10_handsFit 0 = .ok (.iconst 0, 1) := by decide +kernel
theorem dX10_handsFit_1 : decode cX10_handsFit 1 = .ok (.istore 4, 2) := by decide +kernel
theorem dX10_handsFit_3 : decode cX10_handsFit 3 = .ok (.iload 4, 2) := by decide +kernel
theorem dX10_handsFit_5 : decode cX10_handsFit 5 = .ok (.aload_n 0, 1) := by decide +kernel
theorem dX10_handsFit_6 : decode cX10_handsFit 6 = .ok (.getfield 240, 3) := by decide +kernel
theorem dX10_handsFit_9 : decode cX10_handsFit 9 = .ok (.invokevirtual 246, 3) := by decide +kernel
theorem dX10_handsFit_12 : decode cX10_handsFit 12 = .ok (.if_icmp .ge 55, 3) := by decide +kernel
theorem dX10_handsFit_15 : decode cX10_handsFit 15 = .ok (.iload 4, 2) := by decide +kernel
theorem dX10_handsFit_17 : decode cX10_handsFit 17 = .ok (.ifCond .ne 7, 3) := by decide +kernel
theorem dX10_handsFit_20 : decode cX10_handsFit 20 = .ok (.iload_n 1, 1) := by decide +kernel
theorem dX10_handsFit_21 : decode cX10_handsFit 21 = .ok (.goto 14, 3) := by decide +kernel
theorem dX10_handsFit_24 : decode cX10_handsFit 24 = .ok (.iload 4, 2) := by decide +kernel
theorem dX10_handsFit_26 : decode cX10_handsFit 26 = .ok (.iconst 1, 1) := by decide +kernel
theorem dX10_handsFit_27 : decode cX10_handsFit 27 = .ok (.if_icmp .ne 7, 3) := by decide +kernel
theorem dX10_handsFit_30 : decode cX10_handsFit 30 = .ok (.iload_n 2, 1) := by decide +kernel
theorem dX10_handsFit_31 : decode cX10_handsFit 31 = .ok (.goto 4, 3) := by decide +kernel
theorem dX10_handsFit_34 : decode cX10_handsFit 34 = .ok (.iload_n 3, 1) := by decide +kernel
theorem dX10_handsFit_35 : decode cX10_handsFit 35 = .ok (.istore 5, 2) := by decide +kernel
theorem dX10_handsFit_37 : decode cX10_handsFit 37 = .ok (.aload_n 0, 1) := by decide +kernel
theorem dX10_handsFit_38 : decode cX10_handsFit 38 = .ok (.getfield 240, 3) := by decide +kernel
theorem dX10_handsFit_41 : decode cX10_handsFit 41 = .ok (.iload 4, 2) := by decide +kernel
theorem dX10_handsFit_43 : decode cX10_handsFit 43 = .ok (.invokevirtual 250, 3) := by decide +kernel
theorem dX10_handsFit_46 : decode cX10_handsFit 46 = .ok (.bipush 72, 2) := by decide +kernel
theorem dX10_handsFit_48 : decode cX10_handsFit 48 = .ok (.if_icmp .ne 13, 3) := by decide +kernel
theorem dX10_handsFit_51 : decode cX10_handsFit 51 = .ok (.iload 5, 2) := by decide +kernel
theorem dX10_handsFit_53 : decode cX10_handsFit 53 = .ok (.invokestatic 199, 3) := by decide +kernel
theorem dX10_handsFit_56 : decode cX10_handsFit 56 = .ok (.ifCond .ne 5, 3) := by decide +kernel
theorem dX10_handsFit_59 : decode cX10_handsFit 59 = .ok (.iconst 0, 1) := by decide +kernel
theorem dX10_handsFit_60 : decode cX10_handsFit 60 = .ok (.ireturn, 1) := by decide +kernel
theorem dX10_handsFit_61 : decode cX10_handsFit 61 = .ok (.iinc 4 1, 3) := by decide +kernel
theorem dX10_handsFit_64 : decode cX10_handsFit 64 = .ok (.goto (-61), 3) := by decide +kernel
theorem dX10_handsFit_67 : decode cX10_handsFit 67 = .ok (.iconst 1, 1) := by decide +kernel
theorem dX10_handsFit_68 : decode cX10_handsFit 68 = .ok (.ireturn, 1) := by decide +kernel
theorem dL_cell_0 : decode cL_cell 0 = .ok (.iload_n 1, 1) := by decide +kernel
theorem dL_cell_1 : decode cL_cell 1 = .ok (.aload_n 0, 1) := by decide +kernel
theorem dL_cell_2 : decode cL_cell 2 = .ok (.arraylength, 1) := by decide +kernel
theorem dL_cell_3 : decode cL_cell 3 = .ok (.if_icmp .ge 9, 3) := by decide +kernel
theorem dL_cell_6 : decode cL_cell 6 = .ok (.aload_n 0, 1) := by decide +kernel
theorem dL_cell_7 : decode cL_cell 7 = .ok (.iload_n 1, 1) := by decide +kernel
theorem dL_cell_8 : decode cL_cell 8 = .ok (.iaload, 1) := by decide +kernel
theorem dL_cell_9 : decode cL_cell 9 = .ok (.goto 4, 3) := by decide +kernel
theorem dL_cell_12 : decode cL_cell 12 = .ok (.iconst 0, 1) := by decide +kernel
theorem dL_cell_13 : decode cL_cell 13 = .ok (.ireturn, 1) := by decide +kernel
theorem dL_begin_0 : decode cL_begin 0 = .ok (.aload_n 0, 1) := by decide +kernel
theorem dL_begin_1 : decode cL_begin 1 = .ok (.invokevirtual 7, 3) := by decide +kernel
theorem dL_begin_4 : decode cL_begin 4 = .ok (.goto 6, 3) := by decide +kernel
theorem dL_begin_7 : decode cL_begin 7 = .ok (.astore_n 1, 1) := by decide +kernel
theorem dL_begin_8 : decode cL_begin 8 = .ok (.iconst 1, 1) := by decide +kernel
theorem dL_begin_9 : decode cL_begin 9 = .ok (.ireturn, 1) := by decide +kernel
theorem dL_begin_10 : decode cL_begin 10 = .ok (.iconst 0, 1) := by decide +kernel
theorem dL_begin_11 : decode cL_begin 11 = .ok (.ireturn, 1) := by decide +kernel
theorem dL_run_0 : decode cL_run 0 = .ok (.aload_n 2, 1) := by decide +kernel
theorem dL_run_1 : decode cL_run 1 = .ok (.iconst 0, 1) := by decide +kernel
theorem dL_run_2 : decode cL_run 2 = .ok (.aload_n 0, 1) := by decide +kernel
theorem dL_run_3 : decode cL_run 3 = .ok (.iload_n 1, 1) := by decide +kernel
theorem dL_run_4 : decode cL_run 4 = .ok (.invokevirtual 14, 3) := by decide +kernel
theorem dL_run_7 : decode cL_run 7 = .ok (.i2l, 1) := by decide +kernel
theorem dL_run_8 : decode cL_run 8 = .ok (.lastore, 1) := by decide +kernel
theorem dL_run_9 : decode cL_run 9 = .ok (.goto 9, 3) := by decide +kernel
theorem dL_run_12 : decode cL_run 12 = .ok (.astore_n 3, 1) := by decide +kernel
theorem dL_run_13 : decode cL_run 13 = .ok (.iconst 1, 1) := by decide +kernel
theorem dL_run_14 : decode cL_run 14 = .ok (.ireturn, 1) := by decide +kernel
theorem dL_run_15 : decode cL_run 15 = .ok (.astore_n 3, 1) := by decide +kernel
theorem dL_run_16 : decode cL_run 16 = .ok (.iconst 2, 1) := by decide +kernel
theorem dL_run_17 : decode cL_run 17 = .ok (.ireturn, 1) := by decide +kernel
theorem dL_run_18 : decode cL_run 18 = .ok (.iconst 0, 1) := by decide +kernel
theorem dL_run_19 : decode cL_run 19 = .ok (.ireturn, 1) := by decide +kernel
theorem dL_said_0 : decode cL_said 0 = .ok (.aload_n 2, 1) := by decide +kernel
theorem dL_said_1 : decode cL_said 1 = .ok (.iconst 0, 1) := by decide +kernel
theorem dL_said_2 : decode cL_said 2 = .ok (.aload_n 0, 1) := by decide +kernel
theorem dL_said_3 : decode cL_said 3 = .ok (.iload_n 1, 1) := by decide +kernel
theorem dL_said_4 : decode cL_said 4 = .ok (.invokevirtual 20, 3) := by decide +kernel
theorem dL_said_7 : decode cL_said 7 = .ok (.i2l, 1) := by decide +kernel
theorem dL_said_8 : decode cL_said 8 = .ok (.lastore, 1) := by decide +kernel
theorem dL_said_9 : decode cL_said 9 = .ok (.goto 6, 3) := by decide +kernel
theorem dL_said_12 : decode cL_said 12 = .ok (.astore_n 3, 1) := by decide +kernel
theorem dL_said_13 : decode cL_said 13 = .ok (.iconst 1, 1) := by decide +kernel
theorem dL_said_14 : decode cL_said 14 = .ok (.ireturn, 1) := by decide +kernel
theorem dL_said_15 : decode cL_said 15 = .ok (.iconst 0, 1) := by decide +kernel
theorem dL_said_16 : decode cL_said 16 = .ok (.ireturn, 1) := by decide +kernel
theorem dL_law_0 : decode cL_law 0 = .ok (.new 8, 3) := by decide +kernel
theorem dL_law_3 : decode cL_law 3 = .ok (.dup, 1) := by decide +kernel
theorem dL_law_4 : decode cL_law 4 = .ok (.aload_n 0, 1) := by decide +kernel
theorem dL_law_5 : decode cL_law 5 = .ok (.iconst 0, 1) := by decide +kernel
theorem dL_law_6 : decode cL_law 6 = .ok (.invokestatic 25, 3) := by decide +kernel
theorem dL_law_9 : decode cL_law 9 = .ok (.aload_n 0, 1) := by decide +kernel
theorem dL_law_10 : decode cL_law 10 = .ok (.iconst 1, 1) := by decide +kernel
theorem dL_law_11 : decode cL_law 11 = .ok (.invokestatic 25, 3) := by decide +kernel
theorem dL_law_14 : decode cL_law 14 = .ok (.invokespecial 31, 3) := by decide +kernel
theorem dL_law_17 : decode cL_law 17 = .ok (.astore_n 1, 1) := by decide +kernel
theorem dL_law_18 : decode cL_law 18 = .ok (.new 34, 3) := by decide +kernel
theorem dL_law_21 : decode cL_law 21 = .ok (.dup, 1) := by decide +kernel
theorem dL_law_22 : decode cL_law 22 = .ok (.aload_n 0, 1) := by decide +kernel
theorem dL_law_23 : decode cL_law 23 = .ok (.iconst 0, 1) := by decide +kernel
theorem dL_law_24 : decode cL_law 24 = .ok (.invokestatic 25, 3) := by decide +kernel
theorem dL_law_27 : decode cL_law 27 = .ok (.aload_n 0, 1) := by decide +kernel
theorem dL_law_28 : decode cL_law 28 = .ok (.iconst 1, 1) := by decide +kernel
theorem dL_law_29 : decode cL_law 29 = .ok (.invokestatic 25, 3) := by decide +kernel
theorem dL_law_32 : decode cL_law 32 = .ok (.invokespecial 36, 3) := by decide +kernel
theorem dL_law_35 : decode cL_law 35 = .ok (.astore_n 2, 1) := by decide +kernel
theorem dL_law_36 : decode cL_law 36 = .ok (.iconst 1, 1) := by decide +kernel
theorem dL_law_37 : decode cL_law 37 = .ok (.newarray .long, 2) := by decide +kernel
theorem dL_law_39 : decode cL_law 39 = .ok (.astore_n 3, 1) := by decide +kernel
theorem dL_law_40 : decode cL_law 40 = .ok (.iconst 2, 1) := by decide +kernel
theorem dL_law_41 : decode cL_law 41 = .ok (.istore 4, 2) := by decide +kernel
theorem dL_law_43 : decode cL_law 43 = .ok (.iload 4, 2) := by decide +kernel
theorem dL_law_45 : decode cL_law 45 = .ok (.aload_n 0, 1) := by decide +kernel
theorem dL_law_46 : decode cL_law 46 = .ok (.arraylength, 1) := by decide +kernel
theorem dL_law_47 : decode cL_law 47 = .ok (.bipush 6, 2) := by decide +kernel
theorem dL_law_49 : decode cL_law 49 = .ok (.isub, 1) := by decide +kernel
theorem dL_law_50 : decode cL_law 50 = .ok (.if_icmp .gt 711, 3) := by decide +kernel
theorem dL_law_53 : decode cL_law 53 = .ok (.aload_n 0, 1) := by decide +kernel
theorem dL_law_54 : decode cL_law 54 = .ok (.iload 4, 2) := by decide +kernel
theorem dL_law_56 : decode cL_law 56 = .ok (.iaload, 1) := by decide +kernel
theorem dL_law_57 : decode cL_law 57 = .ok (.bipush 31, 2) := by decide +kernel
theorem dL_law_59 : decode cL_law 59 = .ok (.iand, 1) := by decide +kernel
theorem dL_law_60 : decode cL_law 60 = .ok (.tableswitch 695 0 17 #[88, 161, 186, 199, 212, 236, 292, 317, 373, 434, 459, 472, 497, 534, 571, 620, 645, 670], 88) := by decide +kernel
theorem dL_law_148 : decode cL_law 148 = .ok (.aload_n 1, 1) := by decide +kernel
theorem dL_law_149 : decode cL_law 149 = .ok (.aload_n 0, 1) := by decide +kernel
theorem dL_law_150 : decode cL_law 150 = .ok (.iload 4, 2) := by decide +kernel
theorem dL_law_152 : decode cL_law 152 = .ok (.iconst 1, 1) := by decide +kernel
theorem dL_law_153 : decode cL_law 153 = .ok (.iadd, 1) := by decide +kernel
theorem dL_law_154 : decode cL_law 154 = .ok (.iaload, 1) := by decide +kernel
theorem dL_law_155 : decode cL_law 155 = .ok (.aload_n 0, 1) := by decide +kernel
theorem dL_law_156 : decode cL_law 156 = .ok (.iload 4, 2) := by decide +kernel
theorem dL_law_158 : decode cL_law 158 = .ok (.iconst 2, 1) := by decide +kernel
theorem dL_law_159 : decode cL_law 159 = .ok (.iadd, 1) := by decide +kernel
theorem dL_law_160 : decode cL_law 160 = .ok (.iaload, 1) := by decide +kernel
theorem dL_law_161 : decode cL_law 161 = .ok (.aload_n 0, 1) := by decide +kernel
theorem dL_law_162 : decode cL_law 162 = .ok (.iload 4, 2) := by decide +kernel
theorem dL_law_164 : decode cL_law 164 = .ok (.iconst 3, 1) := by decide +kernel
theorem dL_law_165 : decode cL_law 165 = .ok (.iadd, 1) := by decide +kernel
theorem dL_law_166 : decode cL_law 166 = .ok (.iaload, 1) := by decide +kernel
theorem dL_law_167 : decode cL_law 167 = .ok (.aload_n 0, 1) := by decide +kernel
theorem dL_law_168 : decode cL_law 168 = .ok (.iload 4, 2) := by decide +kernel
theorem dL_law_170 : decode cL_law 170 = .ok (.iconst 4, 1) := by decide +kernel
theorem dL_law_171 : decode cL_law 171 = .ok (.iadd, 1) := by decide +kernel
theorem dL_law_172 : decode cL_law 172 = .ok (.iaload, 1) := by decide +kernel
theorem dL_law_173 : decode cL_law 173 = .ok (.aload_n 0, 1) := by decide +kernel
theorem dL_law_174 : decode cL_law 174 = .ok (.iload 4, 2) := by decide +kernel
theorem dL_law_176 : decode cL_law 176 = .ok (.iconst 5, 1) := by decide +kernel
theorem dL_law_177 : decode cL_law 177 = .ok (.iadd, 1) := by decide +kernel
theorem dL_law_178 : decode cL_law 178 = .ok (.iaload, 1) := by decide +kernel
theorem dL_law_179 : decode cL_law 179 = .ok (.invokevirtual 37, 3) := by decide +kernel
theorem dL_law_182 : decode cL_law 182 = .ok (.aload_n 2, 1) := by decide +kernel
theorem dL_law_183 : decode cL_law 183 = .ok (.aload_n 0, 1) := by decide +kernel
theorem dL_law_184 : decode cL_law 184 = .ok (.iload 4, 2) := by decide +kernel
theorem dL_law_186 : decode cL_law 186 = .ok (.iconst 1, 1) := by decide +kernel
theorem dL_law_187 : decode cL_law 187 = .ok (.iadd, 1) := by decide +kernel
theorem dL_law_188 : decode cL_law 188 = .ok (.iaload, 1) := by decide +kernel
theorem dL_law_189 : decode cL_law 189 = .ok (.aload_n 0, 1) := by decide +kernel
theorem dL_law_190 : decode cL_law 190 = .ok (.iload 4, 2) := by decide +kernel
theorem dL_law_192 : decode cL_law 192 = .ok (.iconst 2, 1) := by decide +kernel
theorem dL_law_193 : decode cL_law 193 = .ok (.iadd, 1) := by decide +kernel
theorem dL_law_194 : decode cL_law 194 = .ok (.iaload, 1) := by decide +kernel
theorem dL_law_195 : decode cL_law 195 = .ok (.aload_n 0, 1) := by decide +kernel
theorem dL_law_196 : decode cL_law 196 = .ok (.iload 4, 2) := by decide +kernel
theorem dL_law_198 : decode cL_law 198 = .ok (.iconst 3, 1) := by decide +kernel
theorem dL_law_199 : decode cL_law 199 = .ok (.iadd, 1) := by decide +kernel
theorem dL_law_200 : decode cL_law 200 = .ok (.iaload, 1) := by decide +kernel
theorem dL_law_201 : decode cL_law 201 = .ok (.aload_n 0, 1) := by decide +kernel
theorem dL_law_202 : decode cL_law 202 = .ok (.iload 4, 2) := by decide +kernel
theorem dL_law_204 : decode cL_law 204 = .ok (.iconst 4, 1) := by decide +kernel
theorem dL_law_205 : decode cL_law 205 = .ok (.iadd, 1) := by decide +kernel
theorem dL_law_206 : decode cL_law 206 = .ok (.iaload, 1) := by decide +kernel
theorem dL_law_207 : decode cL_law 207 = .ok (.aload_n 0, 1) := by decide +kernel
theorem dL_law_208 : decode cL_law 208 = .ok (.iload 4, 2) := by decide +kernel
theorem dL_law_210 : decode cL_law 210 = .ok (.iconst 5, 1) := by decide +kernel
theorem dL_law_211 : decode cL_law 211 = .ok (.iadd, 1) := by decide +kernel
theorem dL_law_212 : decode cL_law 212 = .ok (.iaload, 1) := by decide +kernel
theorem dL_law_213 : decode cL_law 213 = .ok (.invokevirtual 41, 3) := by decide +kernel
theorem dL_law_216 : decode cL_law 216 = .ok (.if_icmp .eq 539, 3) := by decide +kernel
theorem dL_law_219 : decode cL_law 219 = .ok (.iconst 0, 1) := by decide +kernel
theorem dL_law_220 : decode cL_law 220 = .ok (.ireturn, 1) := by decide +kernel
theorem dL_law_221 : decode cL_law 221 = .ok (.aload_n 1, 1) := by decide +kernel
theorem dL_law_222 : decode cL_law 222 = .ok (.aload_n 0, 1) := by decide +kernel
theorem dL_law_223 : decode cL_law 223 = .ok (.iload 4, 2) := by decide +kernel
theorem dL_law_225 : decode cL_law 225 = .ok (.iconst 1, 1) := by decide +kernel
theorem dL_law_226 : decode cL_law 226 = .ok (.iadd, 1) := by decide +kernel
theorem dL_law_227 : decode cL_law 227 = .ok (.iaload, 1) := by decide +kernel
theorem dL_law_228 : decode cL_law 228 = .ok (.invokevirtual 42, 3) := by decide +kernel
theorem dL_law_231 : decode cL_law 231 = .ok (.aload_n 2, 1) := by decide +kernel
theorem dL_law_232 : decode cL_law 232 = .ok (.aload_n 0, 1) := by decide +kernel
theorem dL_law_233 : decode cL_law 233 = .ok (.iload 4, 2) := by decide +kernel
theorem dL_law_235 : decode cL_law 235 = .ok (.iconst 1, 1) := by decide +kernel
theorem dL_law_236 : decode cL_law 236 = .ok (.iadd, 1) := by decide +kernel
theorem dL_law_237 : decode cL_law 237 = .ok (.iaload, 1) := by decide +kernel
theorem dL_law_238 : decode cL_law 238 = .ok (.invokevirtual 45, 3) := by decide +kernel
theorem dL_law_241 : decode cL_law 241 = .ok (.if_icmp .eq 514, 3) := by decide +kernel
theorem dL_law_244 : decode cL_law 244 = .ok (.iconst 0, 1) := by decide +kernel
theorem dL_law_245 : decode cL_law 245 = .ok (.ireturn, 1) := by decide +kernel
theorem dL_law_246 : decode cL_law 246 = .ok (.aload_n 1, 1) := by decide +kernel
theorem dL_law_247 : decode cL_law 247 = .ok (.invokevirtual 46, 3) := by decide +kernel
theorem dL_law_250 : decode cL_law 250 = .ok (.aload_n 2, 1) := by decide +kernel
theorem dL_law_251 : decode cL_law 251 = .ok (.invokevirtual 50, 3) := by decide +kernel
theorem dL_law_254 : decode cL_law 254 = .ok (.if_icmp .eq 501, 3) := by decide +kernel
theorem dL_law_257 : decode cL_law 257 = .ok (.iconst 0, 1) := by decide +kernel
theorem dL_law_258 : decode cL_law 258 = .ok (.ireturn, 1) := by decide +kernel
theorem dL_law_259 : decode cL_law 259 = .ok (.aload_n 1, 1) := by decide +kernel
theorem dL_law_260 : decode cL_law 260 = .ok (.invokevirtual 51, 3) := by decide +kernel
theorem dL_law_263 : decode cL_law 263 = .ok (.aload_n 2, 1) := by decide +kernel
theorem dL_law_264 : decode cL_law 264 = .ok (.invokevirtual 54, 3) := by decide +kernel
theorem dL_law_267 : decode cL_law 267 = .ok (.if_icmp .eq 488, 3) := by decide +kernel
theorem dL_law_270 : decode cL_law 270 = .ok (.iconst 0, 1) := by decide +kernel
theorem dL_law_271 : decode cL_law 271 = .ok (.ireturn, 1) := by decide +kernel
theorem dL_law_272 : decode cL_law 272 = .ok (.aload_n 1, 1) := by decide +kernel
theorem dL_law_273 : decode cL_law 273 = .ok (.invokestatic 55, 3) := by decide +kernel
theorem dL_law_276 : decode cL_law 276 = .ok (.istore 5, 2) := by decide +kernel
theorem dL_law_278 : decode cL_law 278 = .ok (.aload_n 2, 1) := by decide +kernel
theorem dL_law_279 : decode cL_law 279 = .ok (.invokevirtual 58, 3) := by decide +kernel
theorem dL_law_282 : decode cL_law 282 = .ok (.aload_n 2, 1) := by decide +kernel
theorem dL_law_283 : decode cL_law 283 = .ok (.invokevirtual 59, 3) := by decide +kernel
theorem dL_law_286 : decode cL_law 286 = .ok (.iload 5, 2) := by decide +kernel
theorem dL_law_288 : decode cL_law 288 = .ok (.if_icmp .eq 5, 3) := by decide +kernel
theorem dL_law_291 : decode cL_law 291 = .ok (.iconst 0, 1) := by decide +kernel
theorem dL_law_292 : decode cL_law 292 = .ok (.ireturn, 1) := by decide +kernel
theorem dL_law_293 : decode cL_law 293 = .ok (.goto 462, 3) := by decide +kernel
theorem dL_law_296 : decode cL_law 296 = .ok (.aload_n 1, 1) := by decide +kernel
theorem dL_law_297 : decode cL_law 297 = .ok (.aload_n 0, 1) := by decide +kernel
theorem dL_law_298 : decode cL_law 298 = .ok (.iload 4, 2) := by decide +kernel
theorem dL_law_300 : decode cL_law 300 = .ok (.iconst 1, 1) := by decide +kernel
theorem dL_law_301 : decode cL_law 301 = .ok (.iadd, 1) := by decide +kernel
theorem dL_law_302 : decode cL_law 302 = .ok (.iaload, 1) := by decide +kernel
theorem dL_law_303 : decode cL_law 303 = .ok (.aload_n 3, 1) := by decide +kernel
theorem dL_law_304 : decode cL_law 304 = .ok (.invokestatic 62, 3) := by decide +kernel
theorem dL_law_307 : decode cL_law 307 = .ok (.istore 5, 2) := by decide +kernel
theorem dL_law_309 : decode cL_law 309 = .ok (.aload_n 2, 1) := by decide +kernel
theorem dL_law_310 : decode cL_law 310 = .ok (.aload_n 0, 1) := by decide +kernel
theorem dL_law_311 : decode cL_law 311 = .ok (.iload 4, 2) := by decide +kernel
theorem dL_law_313 : decode cL_law 313 = .ok (.iconst 1, 1) := by decide +kernel
theorem dL_law_314 : decode cL_law 314 = .ok (.iadd, 1) := by decide +kernel
theorem dL_law_315 : decode cL_law 315 = .ok (.iaload, 1) := by decide +kernel
theorem dL_law_316 : decode cL_law 316 = .ok (.invokevirtual 65, 3) := by decide +kernel
theorem dL_law_319 : decode cL_law 319 = .ok (.istore 6, 2) := by decide +kernel
theorem dL_law_321 : decode cL_law 321 = .ok (.aload_n 2, 1) := by decide +kernel
theorem dL_law_322 : decode cL_law 322 = .ok (.invokevirtual 59, 3) := by decide +kernel
theorem dL_law_325 : decode cL_law 325 = .ok (.iload 5, 2) := by decide +kernel
theorem dL_law_327 : decode cL_law 327 = .ok (.if_icmp .eq 5, 3) := by decide +kernel
theorem dL_law_330 : decode cL_law 330 = .ok (.iconst 0, 1) := by decide +kernel
theorem dL_law_331 : decode cL_law 331 = .ok (.ireturn, 1) := by decide +kernel
theorem dL_law_332 : decode cL_law 332 = .ok (.iload 5, 2) := by decide +kernel
theorem dL_law_334 : decode cL_law 334 = .ok (.ifCond .ne 15, 3) := by decide +kernel
theorem dL_law_337 : decode cL_law 337 = .ok (.aload_n 3, 1) := by decide +kernel
theorem dL_law_338 : decode cL_law 338 = .ok (.iconst 0, 1) := by decide +kernel
theorem dL_law_339 : decode cL_law 339 = .ok (.laload, 1) := by decide +kernel
theorem dL_law_340 : decode cL_law 340 = .ok (.iload 6, 2) := by decide +kernel
theorem dL_law_342 : decode cL_law 342 = .ok (.i2l, 1) := by decide +kernel
theorem dL_law_343 : decode cL_law 343 = .ok (.lcmp, 1) := by decide +kernel
theorem dL_law_344 : decode cL_law 344 = .ok (.ifCond .eq 5, 3) := by decide +kernel
theorem dL_law_347 : decode cL_law 347 = .ok (.iconst 0, 1) := by decide +kernel
theorem dL_law_348 : decode cL_law 348 = .ok (.ireturn, 1) := by decide +kernel
theorem dL_law_349 : decode cL_law 349 = .ok (.goto 406, 3) := by decide +kernel
theorem dL_law_352 : decode cL_law 352 = .ok (.aload_n 1, 1) := by decide +kernel
theorem dL_law_353 : decode cL_law 353 = .ok (.aload_n 0, 1) := by decide +kernel
theorem dL_law_354 : decode cL_law 354 = .ok (.iload 4, 2) := by decide +kernel
theorem dL_law_356 : decode cL_law 356 = .ok (.iconst 1, 1) := by decide +kernel
theorem dL_law_357 : decode cL_law 357 = .ok (.iadd, 1) := by decide +kernel
theorem dL_law_358 : decode cL_law 358 = .ok (.iaload, 1) := by decide +kernel
theorem dL_law_359 : decode cL_law 359 = .ok (.invokevirtual 66, 3) := by decide +kernel
theorem dL_law_362 : decode cL_law 362 = .ok (.aload_n 2, 1) := by decide +kernel
theorem dL_law_363 : decode cL_law 363 = .ok (.aload_n 0, 1) := by decide +kernel
theorem dL_law_364 : decode cL_law 364 = .ok (.iload 4, 2) := by decide +kernel
theorem dL_law_366 : decode cL_law 366 = .ok (.iconst 1, 1) := by decide +kernel
theorem dL_law_367 : decode cL_law 367 = .ok (.iadd, 1) := by decide +kernel
theorem dL_law_368 : decode cL_law 368 = .ok (.iaload, 1) := by decide +kernel
theorem dL_law_369 : decode cL_law 369 = .ok (.invokevirtual 69, 3) := by decide +kernel
theorem dL_law_372 : decode cL_law 372 = .ok (.if_icmp .eq 383, 3) := by decide +kernel
theorem dL_law_375 : decode cL_law 375 = .ok (.iconst 0, 1) := by decide +kernel
theorem dL_law_376 : decode cL_law 376 = .ok (.ireturn, 1) := by decide +kernel
theorem dL_law_377 : decode cL_law 377 = .ok (.aload_n 1, 1) := by decide +kernel
theorem dL_law_378 : decode cL_law 378 = .ok (.aload_n 0, 1) := by decide +kernel
theorem dL_law_379 : decode cL_law 379 = .ok (.iload 4, 2) := by decide +kernel
theorem dL_law_381 : decode cL_law 381 = .ok (.iconst 1, 1) := by decide +kernel
theorem dL_law_382 : decode cL_law 382 = .ok (.iadd, 1) := by decide +kernel
theorem dL_law_383 : decode cL_law 383 = .ok (.iaload, 1) := by decide +kernel
theorem dL_law_384 : decode cL_law 384 = .ok (.aload_n 3, 1) := by decide +kernel
theorem dL_law_385 : decode cL_law 385 = .ok (.invokestatic 70, 3) := by decide +kernel
theorem dL_law_388 : decode cL_law 388 = .ok (.istore 5, 2) := by decide +kernel
theorem dL_law_390 : decode cL_law 390 = .ok (.aload_n 2, 1) := by decide +kernel
theorem dL_law_391 : decode cL_law 391 = .ok (.aload_n 0, 1) := by decide +kernel
theorem dL_law_392 : decode cL_law 392 = .ok (.iload 4, 2) := by decide +kernel
theorem dL_law_394 : decode cL_law 394 = .ok (.iconst 1, 1) := by decide +kernel
theorem dL_law_395 : decode cL_law 395 = .ok (.iadd, 1) := by decide +kernel
theorem dL_law_396 : decode cL_law 396 = .ok (.iaload, 1) := by decide +kernel
theorem dL_law_397 : decode cL_law 397 = .ok (.invokevirtual 72, 3) := by decide +kernel
theorem dL_law_400 : decode cL_law 400 = .ok (.istore 6, 2) := by decide +kernel
theorem dL_law_402 : decode cL_law 402 = .ok (.aload_n 2, 1) := by decide +kernel
theorem dL_law_403 : decode cL_law 403 = .ok (.invokevirtual 59, 3) := by decide +kernel
theorem dL_law_406 : decode cL_law 406 = .ok (.iload 5, 2) := by decide +kernel
theorem dL_law_408 : decode cL_law 408 = .ok (.if_icmp .eq 5, 3) := by decide +kernel
theorem dL_law_411 : decode cL_law 411 = .ok (.iconst 0, 1) := by decide +kernel
theorem dL_law_412 : decode cL_law 412 = .ok (.ireturn, 1) := by decide +kernel
theorem dL_law_413 : decode cL_law 413 = .ok (.iload 5, 2) := by decide +kernel
theorem dL_law_415 : decode cL_law 415 = .ok (.ifCond .ne 15, 3) := by decide +kernel
theorem dL_law_418 : decode cL_law 418 = .ok (.aload_n 3, 1) := by decide +kernel
theorem dL_law_419 : decode cL_law 419 = .ok (.iconst 0, 1) := by decide +kernel
theorem dL_law_420 : decode cL_law 420 = .ok (.laload, 1) := by decide +kernel
theorem dL_law_421 : decode cL_law 421 = .ok (.iload 6, 2) := by decide +kernel
theorem dL_law_423 : decode cL_law 423 = .ok (.i2l, 1) := by decide +kernel
theorem dL_law_424 : decode cL_law 424 = .ok (.lcmp, 1) := by decide +kernel
theorem dL_law_425 : decode cL_law 425 = .ok (.ifCond .eq 5, 3) := by decide +kernel
theorem dL_law_428 : decode cL_law 428 = .ok (.iconst 0, 1) := by decide +kernel
theorem dL_law_429 : decode cL_law 429 = .ok (.ireturn, 1) := by decide +kernel
theorem dL_law_430 : decode cL_law 430 = .ok (.goto 325, 3) := by decide +kernel
theorem dL_law_433 : decode cL_law 433 = .ok (.aload_n 1, 1) := by decide +kernel
theorem dL_law_434 : decode cL_law 434 = .ok (.aload_n 0, 1) := by decide +kernel
theorem dL_law_435 : decode cL_law 435 = .ok (.iload 4, 2) := by decide +kernel
theorem dL_law_437 : decode cL_law 437 = .ok (.iconst 1, 1) := by decide +kernel
theorem dL_law_438 : decode cL_law 438 = .ok (.iadd, 1) := by decide +kernel
theorem dL_law_439 : decode cL_law 439 = .ok (.iaload, 1) := by decide +kernel
theorem dL_law_440 : decode cL_law 440 = .ok (.aload_n 0, 1) := by decide +kernel
theorem dL_law_441 : decode cL_law 441 = .ok (.iload 4, 2) := by decide +kernel
theorem dL_law_443 : decode cL_law 443 = .ok (.iconst 2, 1) := by decide +kernel
theorem dL_law_444 : decode cL_law 444 = .ok (.iadd, 1) := by decide +kernel
theorem dL_law_445 : decode cL_law 445 = .ok (.iaload, 1) := by decide +kernel
theorem dL_law_446 : decode cL_law 446 = .ok (.aload_n 0, 1) := by decide +kernel
theorem dL_law_447 : decode cL_law 447 = .ok (.iload 4, 2) := by decide +kernel
theorem dL_law_449 : decode cL_law 449 = .ok (.iconst 3, 1) := by decide +kernel
theorem dL_law_450 : decode cL_law 450 = .ok (.iadd, 1) := by decide +kernel
theorem dL_law_451 : decode cL_law 451 = .ok (.iaload, 1) := by decide +kernel
theorem dL_law_452 : decode cL_law 452 = .ok (.aload_n 0, 1) := by decide +kernel
theorem dL_law_453 : decode cL_law 453 = .ok (.iload 4, 2) := by decide +kernel
theorem dL_law_455 : decode cL_law 455 = .ok (.iconst 4, 1) := by decide +kernel
theorem dL_law_456 : decode cL_law 456 = .ok (.iadd, 1) := by decide +kernel
theorem dL_law_457 : decode cL_law 457 = .ok (.iaload, 1) := by decide +kernel
theorem dL_law_458 : decode cL_law 458 = .ok (.invokevirtual 73, 3) := by decide +kernel
theorem dL_law_461 : decode cL_law 461 = .ok (.aload_n 2, 1) := by decide +kernel
theorem dL_law_462 : decode cL_law 462 = .ok (.aload_n 0, 1) := by decide +kernel
theorem dL_law_463 : decode cL_law 463 = .ok (.iload 4, 2) := by decide +kernel
theorem dL_law_465 : decode cL_law 465 = .ok (.iconst 1, 1) := by decide +kernel
theorem dL_law_466 : decode cL_law 466 = .ok (.iadd, 1) := by decide +kernel
theorem dL_law_467 : decode cL_law 467 = .ok (.iaload, 1) := by decide +kernel
theorem dL_law_468 : decode cL_law 468 = .ok (.aload_n 0, 1) := by decide +kernel
theorem dL_law_469 : decode cL_law 469 = .ok (.iload 4, 2) := by decide +kernel
theorem dL_law_471 : decode cL_law 471 = .ok (.iconst 2, 1) := by decide +kernel
theorem dL_law_472 : decode cL_law 472 = .ok (.iadd, 1) := by decide +kernel
theorem dL_law_473 : decode cL_law 473 = .ok (.iaload, 1) := by decide +kernel
theorem dL_law_474 : decode cL_law 474 = .ok (.aload_n 0, 1) := by decide +kernel
theorem dL_law_475 : decode cL_law 475 = .ok (.iload 4, 2) := by decide +kernel
theorem dL_law_477 : decode cL_law 477 = .ok (.iconst 3, 1) := by decide +kernel
theorem dL_law_478 : decode cL_law 478 = .ok (.iadd, 1) := by decide +kernel
theorem dL_law_479 : decode cL_law 479 = .ok (.iaload, 1) := by decide +kernel
theorem dL_law_480 : decode cL_law 480 = .ok (.aload_n 0, 1) := by decide +kernel
theorem dL_law_481 : decode cL_law 481 = .ok (.iload 4, 2) := by decide +kernel
theorem dL_law_483 : decode cL_law 483 = .ok (.iconst 4, 1) := by decide +kernel
theorem dL_law_484 : decode cL_law 484 = .ok (.iadd, 1) := by decide +kernel
theorem dL_law_485 : decode cL_law 485 = .ok (.iaload, 1) := by decide +kernel
theorem dL_law_486 : decode cL_law 486 = .ok (.invokevirtual 77, 3) := by decide +kernel
theorem dL_law_489 : decode cL_law 489 = .ok (.if_icmp .eq 266, 3) := by decide +kernel
theorem dL_law_492 : decode cL_law 492 = .ok (.iconst 0, 1) := by decide +kernel
theorem dL_law_493 : decode cL_law 493 = .ok (.ireturn, 1) := by decide +kernel
theorem dL_law_494 : decode cL_law 494 = .ok (.aload_n 1, 1) := by decide +kernel
theorem dL_law_495 : decode cL_law 495 = .ok (.aload_n 0, 1) := by decide +kernel
theorem dL_law_496 : decode cL_law 496 = .ok (.iload 4, 2) := by decide +kernel
theorem dL_law_498 : decode cL_law 498 = .ok (.iconst 1, 1) := by decide +kernel
theorem dL_law_499 : decode cL_law 499 = .ok (.iadd, 1) := by decide +kernel
theorem dL_law_500 : decode cL_law 500 = .ok (.iaload, 1) := by decide +kernel
theorem dL_law_501 : decode cL_law 501 = .ok (.invokevirtual 78, 3) := by decide +kernel
theorem dL_law_504 : decode cL_law 504 = .ok (.aload_n 2, 1) := by decide +kernel
theorem dL_law_505 : decode cL_law 505 = .ok (.aload_n 0, 1) := by decide +kernel
theorem dL_law_506 : decode cL_law 506 = .ok (.iload 4, 2) := by decide +kernel
theorem dL_law_508 : decode cL_law 508 = .ok (.iconst 1, 1) := by decide +kernel
theorem dL_law_509 : decode cL_law 509 = .ok (.iadd, 1) := by decide +kernel
theorem dL_law_510 : decode cL_law 510 = .ok (.iaload, 1) := by decide +kernel
theorem dL_law_511 : decode cL_law 511 = .ok (.invokevirtual 81, 3) := by decide +kernel
theorem dL_law_514 : decode cL_law 514 = .ok (.if_icmp .eq 241, 3) := by decide +kernel
theorem dL_law_517 : decode cL_law 517 = .ok (.iconst 0, 1) := by decide +kernel
theorem dL_law_518 : decode cL_law 518 = .ok (.ireturn, 1) := by decide +kernel
theorem dL_law_519 : decode cL_law 519 = .ok (.aload_n 1, 1) := by decide +kernel
theorem dL_law_520 : decode cL_law 520 = .ok (.invokevirtual 82, 3) := by decide +kernel
theorem dL_law_523 : decode cL_law 523 = .ok (.aload_n 2, 1) := by decide +kernel
theorem dL_law_524 : decode cL_law 524 = .ok (.invokevirtual 86, 3) := by decide +kernel
theorem dL_law_527 : decode cL_law 527 = .ok (.if_icmp .eq 228, 3) := by decide +kernel
theorem dL_law_530 : decode cL_law 530 = .ok (.iconst 0, 1) := by decide +kernel
theorem dL_law_531 : decode cL_law 531 = .ok (.ireturn, 1) := by decide +kernel
theorem dL_law_532 : decode cL_law 532 = .ok (.aload_n 1, 1) := by decide +kernel
theorem dL_law_533 : decode cL_law 533 = .ok (.aload_n 0, 1) := by decide +kernel
theorem dL_law_534 : decode cL_law 534 = .ok (.iload 4, 2) := by decide +kernel
theorem dL_law_536 : decode cL_law 536 = .ok (.iconst 1, 1) := by decide +kernel
theorem dL_law_537 : decode cL_law 537 = .ok (.iadd, 1) := by decide +kernel
theorem dL_law_538 : decode cL_law 538 = .ok (.iaload, 1) := by decide +kernel
theorem dL_law_539 : decode cL_law 539 = .ok (.invokevirtual 87, 3) := by decide +kernel
theorem dL_law_542 : decode cL_law 542 = .ok (.aload_n 2, 1) := by decide +kernel
theorem dL_law_543 : decode cL_law 543 = .ok (.aload_n 0, 1) := by decide +kernel
theorem dL_law_544 : decode cL_law 544 = .ok (.iload 4, 2) := by decide +kernel
theorem dL_law_546 : decode cL_law 546 = .ok (.iconst 1, 1) := by decide +kernel
theorem dL_law_547 : decode cL_law 547 = .ok (.iadd, 1) := by decide +kernel
theorem dL_law_548 : decode cL_law 548 = .ok (.iaload, 1) := by decide +kernel
theorem dL_law_549 : decode cL_law 549 = .ok (.invokevirtual 90, 3) := by decide +kernel
theorem dL_law_552 : decode cL_law 552 = .ok (.if_icmp .eq 203, 3) := by decide +kernel
theorem dL_law_555 : decode cL_law 555 = .ok (.iconst 0, 1) := by decide +kernel
theorem dL_law_556 : decode cL_law 556 = .ok (.ireturn, 1) := by decide +kernel
theorem dL_law_557 : decode cL_law 557 = .ok (.aload_n 1, 1) := by decide +kernel
theorem dL_law_558 : decode cL_law 558 = .ok (.aload_n 0, 1) := by decide +kernel
theorem dL_law_559 : decode cL_law 559 = .ok (.iload 4, 2) := by decide +kernel
theorem dL_law_561 : decode cL_law 561 = .ok (.iconst 1, 1) := by decide +kernel
theorem dL_law_562 : decode cL_law 562 = .ok (.iadd, 1) := by decide +kernel
theorem dL_law_563 : decode cL_law 563 = .ok (.iaload, 1) := by decide +kernel
theorem dL_law_564 : decode cL_law 564 = .ok (.aload_n 0, 1) := by decide +kernel
theorem dL_law_565 : decode cL_law 565 = .ok (.iload 4, 2) := by decide +kernel
theorem dL_law_567 : decode cL_law 567 = .ok (.iconst 2, 1) := by decide +kernel
theorem dL_law_568 : decode cL_law 568 = .ok (.iadd, 1) := by decide +kernel
theorem dL_law_569 : decode cL_law 569 = .ok (.iaload, 1) := by decide +kernel
theorem dL_law_570 : decode cL_law 570 = .ok (.invokevirtual 91, 3) := by decide +kernel
theorem dL_law_573 : decode cL_law 573 = .ok (.aload_n 2, 1) := by decide +kernel
theorem dL_law_574 : decode cL_law 574 = .ok (.aload_n 0, 1) := by decide +kernel
theorem dL_law_575 : decode cL_law 575 = .ok (.iload 4, 2) := by decide +kernel
theorem dL_law_577 : decode cL_law 577 = .ok (.iconst 1, 1) := by decide +kernel
theorem dL_law_578 : decode cL_law 578 = .ok (.iadd, 1) := by decide +kernel
theorem dL_law_579 : decode cL_law 579 = .ok (.iaload, 1) := by decide +kernel
theorem dL_law_580 : decode cL_law 580 = .ok (.aload_n 0, 1) := by decide +kernel
theorem dL_law_581 : decode cL_law 581 = .ok (.iload 4, 2) := by decide +kernel
theorem dL_law_583 : decode cL_law 583 = .ok (.iconst 2, 1) := by decide +kernel
theorem dL_law_584 : decode cL_law 584 = .ok (.iadd, 1) := by decide +kernel
theorem dL_law_585 : decode cL_law 585 = .ok (.iaload, 1) := by decide +kernel
theorem dL_law_586 : decode cL_law 586 = .ok (.invokevirtual 95, 3) := by decide +kernel
theorem dL_law_589 : decode cL_law 589 = .ok (.if_icmp .eq 166, 3) := by decide +kernel
theorem dL_law_592 : decode cL_law 592 = .ok (.iconst 0, 1) := by decide +kernel
theorem dL_law_593 : decode cL_law 593 = .ok (.ireturn, 1) := by decide +kernel
theorem dL_law_594 : decode cL_law 594 = .ok (.aload_n 1, 1) := by decide +kernel
theorem dL_law_595 : decode cL_law 595 = .ok (.aload_n 0, 1) := by decide +kernel
theorem dL_law_596 : decode cL_law 596 = .ok (.iload 4, 2) := by decide +kernel
theorem dL_law_598 : decode cL_law 598 = .ok (.iconst 1, 1) := by decide +kernel
theorem dL_law_599 : decode cL_law 599 = .ok (.iadd, 1) := by decide +kernel
theorem dL_law_600 : decode cL_law 600 = .ok (.iaload, 1) := by decide +kernel
theorem dL_law_601 : decode cL_law 601 = .ok (.aload_n 0, 1) := by decide +kernel
theorem dL_law_602 : decode cL_law 602 = .ok (.iload 4, 2) := by decide +kernel
theorem dL_law_604 : decode cL_law 604 = .ok (.iconst 2, 1) := by decide +kernel
theorem dL_law_605 : decode cL_law 605 = .ok (.iadd, 1) := by decide +kernel
theorem dL_law_606 : decode cL_law 606 = .ok (.iaload, 1) := by decide +kernel
theorem dL_law_607 : decode cL_law 607 = .ok (.invokevirtual 96, 3) := by decide +kernel
theorem dL_law_610 : decode cL_law 610 = .ok (.aload_n 2, 1) := by decide +kernel
theorem dL_law_611 : decode cL_law 611 = .ok (.aload_n 0, 1) := by decide +kernel
theorem dL_law_612 : decode cL_law 612 = .ok (.iload 4, 2) := by decide +kernel
theorem dL_law_614 : decode cL_law 614 = .ok (.iconst 1, 1) := by decide +kernel
theorem dL_law_615 : decode cL_law 615 = .ok (.iadd, 1) := by decide +kernel
theorem dL_law_616 : decode cL_law 616 = .ok (.iaload, 1) := by decide +kernel
theorem dL_law_617 : decode cL_law 617 = .ok (.aload_n 0, 1) := by decide +kernel
theorem dL_law_618 : decode cL_law 618 = .ok (.iload 4, 2) := by decide +kernel
theorem dL_law_620 : decode cL_law 620 = .ok (.iconst 2, 1) := by decide +kernel
theorem dL_law_621 : decode cL_law 621 = .ok (.iadd, 1) := by decide +kernel
theorem dL_law_622 : decode cL_law 622 = .ok (.iaload, 1) := by decide +kernel
theorem dL_law_623 : decode cL_law 623 = .ok (.invokevirtual 99, 3) := by decide +kernel
theorem dL_law_626 : decode cL_law 626 = .ok (.if_icmp .eq 129, 3) := by decide +kernel
theorem dL_law_629 : decode cL_law 629 = .ok (.iconst 0, 1) := by decide +kernel
theorem dL_law_630 : decode cL_law 630 = .ok (.ireturn, 1) := by decide +kernel
theorem dL_law_631 : decode cL_law 631 = .ok (.aload_n 1, 1) := by decide +kernel
theorem dL_law_632 : decode cL_law 632 = .ok (.aload_n 0, 1) := by decide +kernel
theorem dL_law_633 : decode cL_law 633 = .ok (.iload 4, 2) := by decide +kernel
theorem dL_law_635 : decode cL_law 635 = .ok (.iconst 1, 1) := by decide +kernel
theorem dL_law_636 : decode cL_law 636 = .ok (.iadd, 1) := by decide +kernel
theorem dL_law_637 : decode cL_law 637 = .ok (.iaload, 1) := by decide +kernel
theorem dL_law_638 : decode cL_law 638 = .ok (.aload_n 0, 1) := by decide +kernel
theorem dL_law_639 : decode cL_law 639 = .ok (.iload 4, 2) := by decide +kernel
theorem dL_law_641 : decode cL_law 641 = .ok (.iconst 2, 1) := by decide +kernel
theorem dL_law_642 : decode cL_law 642 = .ok (.iadd, 1) := by decide +kernel
theorem dL_law_643 : decode cL_law 643 = .ok (.iaload, 1) := by decide +kernel
theorem dL_law_644 : decode cL_law 644 = .ok (.aload_n 0, 1) := by decide +kernel
theorem dL_law_645 : decode cL_law 645 = .ok (.iload 4, 2) := by decide +kernel
theorem dL_law_647 : decode cL_law 647 = .ok (.iconst 3, 1) := by decide +kernel
theorem dL_law_648 : decode cL_law 648 = .ok (.iadd, 1) := by decide +kernel
theorem dL_law_649 : decode cL_law 649 = .ok (.iaload, 1) := by decide +kernel
theorem dL_law_650 : decode cL_law 650 = .ok (.invokevirtual 100, 3) := by decide +kernel
theorem dL_law_653 : decode cL_law 653 = .ok (.aload_n 2, 1) := by decide +kernel
theorem dL_law_654 : decode cL_law 654 = .ok (.aload_n 0, 1) := by decide +kernel
theorem dL_law_655 : decode cL_law 655 = .ok (.iload 4, 2) := by decide +kernel
theorem dL_law_657 : decode cL_law 657 = .ok (.iconst 1, 1) := by decide +kernel
theorem dL_law_658 : decode cL_law 658 = .ok (.iadd, 1) := by decide +kernel
theorem dL_law_659 : decode cL_law 659 = .ok (.iaload, 1) := by decide +kernel
theorem dL_law_660 : decode cL_law 660 = .ok (.aload_n 0, 1) := by decide +kernel
theorem dL_law_661 : decode cL_law 661 = .ok (.iload 4, 2) := by decide +kernel
theorem dL_law_663 : decode cL_law 663 = .ok (.iconst 2, 1) := by decide +kernel
theorem dL_law_664 : decode cL_law 664 = .ok (.iadd, 1) := by decide +kernel
theorem dL_law_665 : decode cL_law 665 = .ok (.iaload, 1) := by decide +kernel
theorem dL_law_666 : decode cL_law 666 = .ok (.aload_n 0, 1) := by decide +kernel
theorem dL_law_667 : decode cL_law 667 = .ok (.iload 4, 2) := by decide +kernel
theorem dL_law_669 : decode cL_law 669 = .ok (.iconst 3, 1) := by decide +kernel
theorem dL_law_670 : decode cL_law 670 = .ok (.iadd, 1) := by decide +kernel
theorem dL_law_671 : decode cL_law 671 = .ok (.iaload, 1) := by decide +kernel
theorem dL_law_672 : decode cL_law 672 = .ok (.invokevirtual 104, 3) := by decide +kernel
theorem dL_law_675 : decode cL_law 675 = .ok (.if_icmp .eq 80, 3) := by decide +kernel
theorem dL_law_678 : decode cL_law 678 = .ok (.iconst 0, 1) := by decide +kernel
theorem dL_law_679 : decode cL_law 679 = .ok (.ireturn, 1) := by decide +kernel
theorem dL_law_680 : decode cL_law 680 = .ok (.aload_n 1, 1) := by decide +kernel
theorem dL_law_681 : decode cL_law 681 = .ok (.aload_n 0, 1) := by decide +kernel
theorem dL_law_682 : decode cL_law 682 = .ok (.iload 4, 2) := by decide +kernel
theorem dL_law_684 : decode cL_law 684 = .ok (.iconst 1, 1) := by decide +kernel
theorem dL_law_685 : decode cL_law 685 = .ok (.iadd, 1) := by decide +kernel
theorem dL_law_686 : decode cL_law 686 = .ok (.iaload, 1) := by decide +kernel
theorem dL_law_687 : decode cL_law 687 = .ok (.invokevirtual 105, 3) := by decide +kernel
theorem dL_law_690 : decode cL_law 690 = .ok (.aload_n 2, 1) := by decide +kernel
theorem dL_law_691 : decode cL_law 691 = .ok (.aload_n 0, 1) := by decide +kernel
theorem dL_law_692 : decode cL_law 692 = .ok (.iload 4, 2) := by decide +kernel
theorem dL_law_694 : decode cL_law 694 = .ok (.iconst 1, 1) := by decide +kernel
theorem dL_law_695 : decode cL_law 695 = .ok (.iadd, 1) := by decide +kernel
theorem dL_law_696 : decode cL_law 696 = .ok (.iaload, 1) := by decide +kernel
theorem dL_law_697 : decode cL_law 697 = .ok (.invokevirtual 108, 3) := by decide +kernel
theorem dL_law_700 : decode cL_law 700 = .ok (.if_icmp .eq 55, 3) := by decide +kernel
theorem dL_law_703 : decode cL_law 703 = .ok (.iconst 0, 1) := by decide +kernel
theorem dL_law_704 : decode cL_law 704 = .ok (.ireturn, 1) := by decide +kernel
theorem dL_law_705 : decode cL_law 705 = .ok (.aload_n 1, 1) := by decide +kernel
theorem dL_law_706 : decode cL_law 706 = .ok (.aload_n 0, 1) := by decide +kernel
theorem dL_law_707 : decode cL_law 707 = .ok (.iload 4, 2) := by decide +kernel
theorem dL_law_709 : decode cL_law 709 = .ok (.iconst 1, 1) := by decide +kernel
theorem dL_law_710 : decode cL_law 710 = .ok (.iadd, 1) := by decide +kernel
theorem dL_law_711 : decode cL_law 711 = .ok (.iaload, 1) := by decide +kernel
theorem dL_law_712 : decode cL_law 712 = .ok (.invokevirtual 109, 3) := by decide +kernel
theorem dL_law_715 : decode cL_law 715 = .ok (.aload_n 2, 1) := by decide +kernel
theorem dL_law_716 : decode cL_law 716 = .ok (.aload_n 0, 1) := by decide +kernel
theorem dL_law_717 : decode cL_law 717 = .ok (.iload 4, 2) := by decide +kernel
theorem dL_law_719 : decode cL_law 719 = .ok (.iconst 1, 1) := by decide +kernel
theorem dL_law_720 : decode cL_law 720 = .ok (.iadd, 1) := by decide +kernel
theorem dL_law_721 : decode cL_law 721 = .ok (.iaload, 1) := by decide +kernel
theorem dL_law_722 : decode cL_law 722 = .ok (.invokevirtual 112, 3) := by decide +kernel
theorem dL_law_725 : decode cL_law 725 = .ok (.if_icmp .eq 30, 3) := by decide +kernel
theorem dL_law_728 : decode cL_law 728 = .ok (.iconst 0, 1) := by decide +kernel
theorem dL_law_729 : decode cL_law 729 = .ok (.ireturn, 1) := by decide +kernel
theorem dL_law_730 : decode cL_law 730 = .ok (.aload_n 1, 1) := by decide +kernel
theorem dL_law_731 : decode cL_law 731 = .ok (.aload_n 0, 1) := by decide +kernel
theorem dL_law_732 : decode cL_law 732 = .ok (.iload 4, 2) := by decide +kernel
theorem dL_law_734 : decode cL_law 734 = .ok (.iconst 1, 1) := by decide +kernel
theorem dL_law_735 : decode cL_law 735 = .ok (.iadd, 1) := by decide +kernel
theorem dL_law_736 : decode cL_law 736 = .ok (.iaload, 1) := by decide +kernel
theorem dL_law_737 : decode cL_law 737 = .ok (.invokevirtual 113, 3) := by decide +kernel
theorem dL_law_740 : decode cL_law 740 = .ok (.aload_n 2, 1) := by decide +kernel
theorem dL_law_741 : decode cL_law 741 = .ok (.aload_n 0, 1) := by decide +kernel
theorem dL_law_742 : decode cL_law 742 = .ok (.iload 4, 2) := by decide +kernel
theorem dL_law_744 : decode cL_law 744 = .ok (.iconst 1, 1) := by decide +kernel
theorem dL_law_745 : decode cL_law 745 = .ok (.iadd, 1) := by decide +kernel
theorem dL_law_746 : decode cL_law 746 = .ok (.iaload, 1) := by decide +kernel
theorem dL_law_747 : decode cL_law 747 = .ok (.invokevirtual 116, 3) := by decide +kernel
theorem dL_law_750 : decode cL_law 750 = .ok (.if_icmp .eq 5, 3) := by decide +kernel
theorem dL_law_753 : decode cL_law 753 = .ok (.iconst 0, 1) := by decide +kernel
theorem dL_law_754 : decode cL_law 754 = .ok (.ireturn, 1) := by decide +kernel
theorem dL_law_755 : decode cL_law 755 = .ok (.iinc 4 6, 3) := by decide +kernel
theorem dL_law_758 : decode cL_law 758 = .ok (.goto (-715), 3) := by decide +kernel
theorem dL_law_761 : decode cL_law 761 = .ok (.iconst 1, 1) := by decide +kernel
theorem dL_law_762 : decode cL_law 762 = .ok (.ireturn, 1) := by decide +kernel
theorem dJx29ce0_ordinal_8abf5_0 : decode cJx29ce0_ordinal_8abf5 0 = .ok (.aload_n 0, 1) := by decide +kernel
theorem dJx29ce0_ordinal_8abf5_1 : decode cJx29ce0_ordinal_8abf5 1 = .ok (.getfield 7, 3) := by decide +kernel
theorem dJx29ce0_ordinal_8abf5_4 : decode cJx29ce0_ordinal_8abf5 4 = .ok (.ireturn, 1) := by decide +kernel
theorem dJ9_max_7cf53_0 : decode cJ9_max_7cf53 0 = .ok (.iload_n 0, 1) := by decide +kernel
theorem dJ9_max_7cf53_1 : decode cJ9_max_7cf53 1 = .ok (.iload_n 1, 1) := by decide +kernel
theorem dJ9_max_7cf53_2 : decode cJ9_max_7cf53 2 = .ok (.if_icmp .lt 7, 3) := by decide +kernel
theorem dJ9_max_7cf53_5 : decode cJ9_max_7cf53 5 = .ok (.iload_n 0, 1) := by decide +kernel
theorem dJ9_max_7cf53_6 : decode cJ9_max_7cf53 6 = .ok (.goto 4, 3) := by decide +kernel
theorem dJ9_max_7cf53_9 : decode cJ9_max_7cf53 9 = .ok (.iload_n 1, 1) := by decide +kernel
theorem dJ9_max_7cf53_10 : decode cJ9_max_7cf53 10 = .ok (.ireturn, 1) := by decide +kernel
theorem dJ9_min_7cf53_0 : decode cJ9_min_7cf53 0 = .ok (.iload_n 0, 1) := by decide +kernel
theorem dJ9_min_7cf53_1 : decode cJ9_min_7cf53 1 = .ok (.iload_n 1, 1) := by decide +kernel
theorem dJ9_min_7cf53_2 : decode cJ9_min_7cf53 2 = .ok (.if_icmp .gt 7, 3) := by decide +kernel
theorem dJ9_min_7cf53_5 : decode cJ9_min_7cf53 5 = .ok (.iload_n 0, 1) := by decide +kernel
theorem dJ9_min_7cf53_6 : decode cJ9_min_7cf53 6 = .ok (.goto 4, 3) := by decide +kernel
theorem dJ9_min_7cf53_9 : decode cJ9_min_7cf53 9 = .ok (.iload_n 1, 1) := by decide +kernel
theorem dJ9_min_7cf53_10 : decode cJ9_min_7cf53 10 = .ok (.ireturn, 1) := by decide +kernel
theorem dJ0_length_8abf5_0 : decode cJ0_length_8abf5 0 = .ok (.aload_n 0, 1) := by decide +kernel
theorem dJ0_length_8abf5_1 : decode cJ0_length_8abf5 1 = .ok (.getfield 9, 3) := by decide +kernel
theorem dJ0_length_8abf5_4 : decode cJ0_length_8abf5 4 = .ok (.arraylength, 1) := by decide +kernel
theorem dJ0_length_8abf5_5 : decode cJ0_length_8abf5 5 = .ok (.aload_n 0, 1) := by decide +kernel
theorem dJ0_length_8abf5_6 : decode cJ0_length_8abf5 6 = .ok (.invokevirtual 335, 3) := by decide +kernel
theorem dJ0_length_8abf5_9 : decode cJ0_length_8abf5 9 = .ok (.ishr, 1) := by decide +kernel
theorem dJ0_length_8abf5_10 : decode cJ0_length_8abf5 10 = .ok (.ireturn, 1) := by decide +kernel
theorem dJ0_charAt_5068e_0 : decode cJ0_charAt_5068e 0 = .ok (.aload_n 0, 1) := by decide +kernel
theorem dJ0_charAt_5068e_1 : decode cJ0_charAt_5068e 1 = .ok (.invokevirtual 492, 3) := by decide +kernel
theorem dJ0_charAt_5068e_4 : decode cJ0_charAt_5068e 4 = .ok (.ifCond .eq 12, 3) := by decide +kernel
theorem dJ0_charAt_5068e_7 : decode cJ0_charAt_5068e 7 = .ok (.aload_n 0, 1) := by decide +kernel
theorem dJ0_charAt_5068e_8 : decode cJ0_charAt_5068e 8 = .ok (.getfield 9, 3) := by decide +kernel
theorem dJ0_charAt_5068e_11 : decode cJ0_charAt_5068e 11 = .ok (.iload_n 1, 1) := by decide +kernel
theorem dJ0_charAt_5068e_12 : decode cJ0_charAt_5068e 12 = .ok (.invokestatic 495, 3) := by decide +kernel
theorem dJ0_charAt_5068e_15 : decode cJ0_charAt_5068e 15 = .ok (.ireturn, 1) := by decide +kernel
theorem dJ0_charAt_5068e_16 : decode cJ0_charAt_5068e 16 = .ok (.aload_n 0, 1) := by decide +kernel
theorem dJ0_charAt_5068e_17 : decode cJ0_charAt_5068e 17 = .ok (.getfield 9, 3) := by decide +kernel
theorem dJ0_charAt_5068e_20 : decode cJ0_charAt_5068e 20 = .ok (.iload_n 1, 1) := by decide +kernel
theorem dJ0_charAt_5068e_21 : decode cJ0_charAt_5068e 21 = .ok (.invokestatic 498, 3) := by decide +kernel
theorem dJ0_charAt_5068e_24 : decode cJ0_charAt_5068e 24 = .ok (.ireturn, 1) := by decide +kernel
theorem dJ0_coder_7d493_0 : decode cJ0_coder_7d493 0 = .ok (.getstatic 38, 3) := by decide +kernel
theorem dJ0_coder_7d493_3 : decode cJ0_coder_7d493 3 = .ok (.ifCond .eq 10, 3) := by decide +kernel
theorem dJ0_coder_7d493_6 : decode cJ0_coder_7d493 6 = .ok (.aload_n 0, 1) := by decide +kernel
theorem dJ0_coder_7d493_7 : decode cJ0_coder_7d493 7 = .ok (.getfield 15, 3) := by decide +kernel
theorem dJ0_coder_7d493_10 : decode cJ0_coder_7d493 10 = .ok (.goto 4, 3) := by decide +kernel
theorem dJ0_coder_7d493_13 : decode cJ0_coder_7d493 13 = .ok (.iconst 1, 1) := by decide +kernel
theorem dJ0_coder_7d493_14 : decode cJ0_coder_7d493 14 = .ok (.ireturn, 1) := by decide +kernel
theorem dJ0_isLatin1_aae02_0 : decode cJ0_isLatin1_aae02 0 = .ok (.getstatic 38, 3) := by decide +kernel
theorem dJ0_isLatin1_aae02_3 : decode cJ0_isLatin1_aae02 3 = .ok (.ifCond .eq 14, 3) := by decide +kernel
theorem dJ0_isLatin1_aae02_6 : decode cJ0_isLatin1_aae02 6 = .ok (.aload_n 0, 1) := by decide +kernel
theorem dJ0_isLatin1_aae02_7 : decode cJ0_isLatin1_aae02 7 = .ok (.getfield 15, 3) := by decide +kernel
theorem dJ0_isLatin1_aae02_10 : decode cJ0_isLatin1_aae02 10 = .ok (.ifCond .ne 7, 3) := by decide +kernel
theorem dJ0_isLatin1_aae02_13 : decode cJ0_isLatin1_aae02 13 = .ok (.iconst 1, 1) := by decide +kernel
theorem dJ0_isLatin1_aae02_14 : decode cJ0_isLatin1_aae02 14 = .ok (.goto 4, 3) := by decide +kernel
theorem dJ0_isLatin1_aae02_17 : decode cJ0_isLatin1_aae02 17 = .ok (.iconst 0, 1) := by decide +kernel
theorem dJ0_isLatin1_aae02_18 : decode cJ0_isLatin1_aae02 18 = .ok (.ireturn, 1) := by decide +kernel
theorem dJ0_checkIndex_df160_0 : decode cJ0_checkIndex_df160 0 = .ok (.iload_n 0, 1) := by decide +kernel
theorem dJ0_checkIndex_df160_1 : decode cJ0_checkIndex_df160 1 = .ok (.iload_n 1, 1) := by decide +kernel
theorem dJ0_checkIndex_df160_2 : decode cJ0_checkIndex_df160 2 = .ok (.getstatic 1053, 3) := by decide +kernel
theorem dJ0_checkIndex_df160_5 : decode cJ0_checkIndex_df160 5 = .ok (.invokestatic 1059, 3) := by decide +kernel
theorem dJ0_checkIndex_df160_8 : decode cJ0_checkIndex_df160 8 = .ok (.pop, 1) := by decide +kernel
theorem dJ0_checkIndex_df160_9 : decode cJ0_checkIndex_df160 9 = .ok (.return_, 1) := by decide +kernel
theorem dJ1_charAt_3b067_0 : decode cJ1_charAt_3b067 0 = .ok (.iload_n 1, 1) := by decide +kernel
theorem dJ1_charAt_3b067_1 : decode cJ1_charAt_3b067 1 = .ok (.aload_n 0, 1) := by decide +kernel
theorem dJ1_charAt_3b067_2 : decode cJ1_charAt_3b067 2 = .ok (.arraylength, 1) := by decide +kernel
theorem dJ1_charAt_3b067_3 : decode cJ1_charAt_3b067 3 = .ok (.invokestatic 9, 3) := by decide +kernel
theorem dJ1_charAt_3b067_6 : decode cJ1_charAt_3b067 6 = .ok (.aload_n 0, 1) := by decide +kernel
theorem dJ1_charAt_3b067_7 : decode cJ1_charAt_3b067 7 = .ok (.iload_n 1, 1) := by decide +kernel
theorem dJ1_charAt_3b067_8 : decode cJ1_charAt_3b067 8 = .ok (.baload, 1) := by decide +kernel
theorem dJ1_charAt_3b067_9 : decode cJ1_charAt_3b067 9 = .ok (.sipush 255, 3) := by decide +kernel
theorem dJ1_charAt_3b067_12 : decode cJ1_charAt_3b067 12 = .ok (.iand, 1) := by decide +kernel
theorem dJ1_charAt_3b067_13 : decode cJ1_charAt_3b067 13 = .ok (.i2c, 1) := by decide +kernel
theorem dJ1_charAt_3b067_14 : decode cJ1_charAt_3b067 14 = .ok (.ireturn, 1) := by decide +kernel
theorem dJ2_getChar_3b067_0 : decode cJ2_getChar_3b067 0 = .ok (.getstatic 44, 3) := by decide +kernel
theorem dJ2_getChar_3b067_3 : decode cJ2_getChar_3b067 3 = .ok (.ifCond .ne 25, 3) := by decide +kernel
theorem dJ2_getChar_3b067_6 : decode cJ2_getChar_3b067 6 = .ok (.iload_n 1, 1) := by decide +kernel
theorem dJ2_getChar_3b067_7 : decode cJ2_getChar_3b067 7 = .ok (.ifCond .lt 11, 3) := by decide +kernel
theorem dJ2_getChar_3b067_10 : decode cJ2_getChar_3b067 10 = .ok (.iload_n 1, 1) := by decide +kernel
theorem dJ2_getChar_3b067_11 : decode cJ2_getChar_3b067 11 = .ok (.aload_n 0, 1) := by decide +kernel
theorem dJ2_getChar_3b067_12 : decode cJ2_getChar_3b067 12 = .ok (.invokestatic 48, 3) := by decide +kernel
theorem dJ2_getChar_3b067_15 : decode cJ2_getChar_3b067 15 = .ok (.if_icmp .lt 13, 3) := by decide +kernel
theorem dJ2_getChar_3b067_18 : decode cJ2_getChar_3b067 18 = .ok (.new 52, 3) := by decide +kernel
theorem dJ2_getChar_3b067_21 : decode cJ2_getChar_3b067 21 = .ok (.dup, 1) := by decide +kernel
theorem dJ2_getChar_3b067_22 : decode cJ2_getChar_3b067 22 = .ok (.ldc 54, 2) := by decide +kernel
theorem dJ2_getChar_3b067_24 : decode cJ2_getChar_3b067 24 = .ok (.invokespecial 56, 3) := by decide +kernel
theorem dJ2_getChar_3b067_27 : decode cJ2_getChar_3b067 27 = .ok (.athrow, 1) := by decide +kernel
theorem dJ2_getChar_3b067_28 : decode cJ2_getChar_3b067 28 = .ok (.iload_n 1, 1) := by decide +kernel
theorem dJ2_getChar_3b067_29 : decode cJ2_getChar_3b067 29 = .ok (.iconst 1, 1) := by decide +kernel
theorem dJ2_getChar_3b067_30 : decode cJ2_getChar_3b067 30 = .ok (.ishl, 1) := by decide +kernel
theorem dJ2_getChar_3b067_31 : decode cJ2_getChar_3b067 31 = .ok (.istore_n 1, 1) := by decide +kernel
theorem dJ2_getChar_3b067_32 : decode cJ2_getChar_3b067 32 = .ok (.aload_n 0, 1) := by decide +kernel
theorem dJ2_getChar_3b067_33 : decode cJ2_getChar_3b067 33 = .ok (.iload_n 1, 1) := by decide +kernel
theorem dJ2_getChar_3b067_34 : decode cJ2_getChar_3b067 34 = .ok (.iinc 1 1, 3) := by decide +kernel
theorem dJ2_getChar_3b067_37 : decode cJ2_getChar_3b067 37 = .ok (.baload, 1) := by decide +kernel
theorem dJ2_getChar_3b067_38 : decode cJ2_getChar_3b067 38 = .ok (.sipush 255, 3) := by decide +kernel
theorem dJ2_getChar_3b067_41 : decode cJ2_getChar_3b067 41 = .ok (.iand, 1) := by decide +kernel
theorem dJ2_getChar_3b067_42 : decode cJ2_getChar_3b067 42 = .ok (.getstatic 59, 3) := by decide +kernel
theorem dJ2_getChar_3b067_45 : decode cJ2_getChar_3b067 45 = .ok (.ishl, 1) := by decide +kernel
theorem dJ2_getChar_3b067_46 : decode cJ2_getChar_3b067 46 = .ok (.aload_n 0, 1) := by decide +kernel
theorem dJ2_getChar_3b067_47 : decode cJ2_getChar_3b067 47 = .ok (.iload_n 1, 1) := by decide +kernel
theorem dJ2_getChar_3b067_48 : decode cJ2_getChar_3b067 48 = .ok (.baload, 1) := by decide +kernel
theorem dJ2_getChar_3b067_49 : decode cJ2_getChar_3b067 49 = .ok (.sipush 255, 3) := by decide +kernel
theorem dJ2_getChar_3b067_52 : decode cJ2_getChar_3b067 52 = .ok (.iand, 1) := by decide +kernel
theorem dJ2_getChar_3b067_53 : decode cJ2_getChar_3b067 53 = .ok (.getstatic 63, 3) := by decide +kernel
theorem dJ2_getChar_3b067_56 : decode cJ2_getChar_3b067 56 = .ok (.ishl, 1) := by decide +kernel
theorem dJ2_getChar_3b067_57 : decode cJ2_getChar_3b067 57 = .ok (.ior, 1) := by decide +kernel
theorem dJ2_getChar_3b067_58 : decode cJ2_getChar_3b067 58 = .ok (.i2c, 1) := by decide +kernel
theorem dJ2_getChar_3b067_59 : decode cJ2_getChar_3b067 59 = .ok (.ireturn, 1) := by decide +kernel
theorem dJ2_length_9d52b_0 : decode cJ2_length_9d52b 0 = .ok (.aload_n 0, 1) := by decide +kernel
theorem dJ2_length_9d52b_1 : decode cJ2_length_9d52b 1 = .ok (.arraylength, 1) := by decide +kernel
theorem dJ2_length_9d52b_2 : decode cJ2_length_9d52b 2 = .ok (.iconst 1, 1) := by decide +kernel
theorem dJ2_length_9d52b_3 : decode cJ2_length_9d52b 3 = .ok (.ishr, 1) := by decide +kernel
theorem dJ2_length_9d52b_4 : decode cJ2_length_9d52b 4 = .ok (.ireturn, 1) := by decide +kernel
theorem dJ2_charAt_3b067_0 : decode cJ2_charAt_3b067 0 = .ok (.iload_n 1, 1) := by decide +kernel
theorem dJ2_charAt_3b067_1 : decode cJ2_charAt_3b067 1 = .ok (.aload_n 0, 1) := by decide +kernel
theorem dJ2_charAt_3b067_2 : decode cJ2_charAt_3b067 2 = .ok (.invokestatic 67, 3) := by decide +kernel
theorem dJ2_charAt_3b067_5 : decode cJ2_charAt_3b067 5 = .ok (.aload_n 0, 1) := by decide +kernel
theorem dJ2_charAt_3b067_6 : decode cJ2_charAt_3b067 6 = .ok (.iload_n 1, 1) := by decide +kernel
theorem dJ2_charAt_3b067_7 : decode cJ2_charAt_3b067 7 = .ok (.invokestatic 71, 3) := by decide +kernel
theorem dJ2_charAt_3b067_10 : decode cJ2_charAt_3b067 10 = .ok (.ireturn, 1) := by decide +kernel
theorem dJ2_checkIndex_2214a_0 : decode cJ2_checkIndex_2214a 0 = .ok (.iload_n 0, 1) := by decide +kernel
theorem dJ2_checkIndex_2214a_1 : decode cJ2_checkIndex_2214a 1 = .ok (.aload_n 1, 1) := by decide +kernel
theorem dJ2_checkIndex_2214a_2 : decode cJ2_checkIndex_2214a 2 = .ok (.invokestatic 48, 3) := by decide +kernel
theorem dJ2_checkIndex_2214a_5 : decode cJ2_checkIndex_2214a 5 = .ok (.invokestatic 414, 3) := by decide +kernel
theorem dJ2_checkIndex_2214a_8 : decode cJ2_checkIndex_2214a 8 = .ok (.return_, 1) := by decide +kernel
theorem dJ3_checkIndex_8e157_0 : decode cJ3_checkIndex_8e157 0 = .ok (.iload_n 0, 1) := by decide +kernel
theorem dJ3_checkIndex_8e157_1 : decode cJ3_checkIndex_8e157 1 = .ok (.ifCond .lt 8, 3) := by decide +kernel
theorem dJ3_checkIndex_8e157_4 : decode cJ3_checkIndex_8e157 4 = .ok (.iload_n 0, 1) := by decide +kernel
theorem dJ3_checkIndex_8e157_5 : decode cJ3_checkIndex_8e157 5 = .ok (.iload_n 1, 1) := by decide +kernel
theorem dJ3_checkIndex_8e157_6 : decode cJ3_checkIndex_8e157 6 = .ok (.if_icmp .lt 10, 3) := by decide +kernel
theorem dJ3_checkIndex_8e157_9 : decode cJ3_checkIndex_8e157 9 = .ok (.aload_n 2, 1) := by decide +kernel
theorem dJ3_checkIndex_8e157_10 : decode cJ3_checkIndex_8e157 10 = .ok (.iload_n 0, 1) := by decide +kernel
theorem dJ3_checkIndex_8e157_11 : decode cJ3_checkIndex_8e157 11 = .ok (.iload_n 1, 1) := by decide +kernel
theorem dJ3_checkIndex_8e157_12 : decode cJ3_checkIndex_8e157 12 = .ok (.invokestatic 95, 3) := by decide +kernel
theorem dJ3_checkIndex_8e157_15 : decode cJ3_checkIndex_8e157 15 = .ok (.athrow, 1) := by decide +kernel
theorem dJ3_checkIndex_8e157_16 : decode cJ3_checkIndex_8e157 16 = .ok (.iload_n 0, 1) := by decide +kernel
theorem dJ3_checkIndex_8e157_17 : decode cJ3_checkIndex_8e157 17 = .ok (.ireturn, 1) := by decide +kernel
end
section
theorem dX11_init_0 : decode cX11_init 0 = .ok (.aload_n 0, 1) := by decide +kernel
theorem dX11_init_1 : decode cX11_init 1 = .ok (.invokespecial 1, 3) := by decide +kernel
theorem dX11_init_4 : decode cX11_init 4 = .ok (.aload_n 0, 1) := by decide +kernel
theorem dX11_init_5 : decode cX11_init 5 = .ok (.sipush 1300, 3) := by decide +kernel
theorem dX11_init_8 : decode cX11_init 8 = .ok (.newarray .boolean, 2) := by decide +kernel
theorem dX11_init_10 : decode cX11_init 10 = .ok (.putfield 9, 3) := by decide +kernel
theorem dX11_init_13 : decode cX11_init 13 = .ok (.aload_n 0, 1) := by decide +kernel
theorem dX11_init_14 : decode cX11_init 14 = .ok (.sipush 1300, 3) := by decide +kernel
theorem dX11_init_17 : decode cX11_init 17 = .ok (.newarray .int, 2) := by decide +kernel
theorem dX11_init_19 : decode cX11_init 19 = .ok (.putfield 13, 3) := by decide +kernel
theorem dX11_init_22 : decode cX11_init 22 = .ok (.aload_n 0, 1) := by decide +kernel
theorem dX11_init_23 : decode cX11_init 23 = .ok (.sipush 1300, 3) := by decide +kernel
theorem dX11_init_26 : decode cX11_init 26 = .ok (.newarray .int, 2) := by decide +kernel
theorem dX11_init_28 : decode cX11_init 28 = .ok (.putfield 17, 3) := by decide +kernel
theorem dX11_init_31 : decode cX11_init 31 = .ok (.aload_n 0, 1) := by decide +kernel
theorem dX11_init_32 : decode cX11_init 32 = .ok (.sipush 1300, 3) := by decide +kernel
theorem dX11_init_35 : decode cX11_init 35 = .ok (.newarray .int, 2) := by decide +kernel
theorem dX11_init_37 : decode cX11_init 37 = .ok (.putfield 20, 3) := by decide +kernel
theorem dX11_init_40 : decode cX11_init 40 = .ok (.aload_n 0, 1) := by decide +kernel
theorem dX11_init_41 : decode cX11_init 41 = .ok (.ldc 23, 2) := by decide +kernel
theorem dX11_init_43 : decode cX11_init 43 = .ok (.newarray .int, 2) := by decide +kernel
theorem dX11_init_45 : decode cX11_init 45 = .ok (.putfield 24, 3) := by decide +kernel
theorem dX11_init_48 : decode cX11_init 48 = .ok (.aload_n 0, 1) := by decide +kernel
theorem dX11_init_49 : decode cX11_init 49 = .ok (.ldc 23, 2) := by decide +kernel
theorem dX11_init_51 : decode cX11_init 51 = .ok (.newarray .int, 2) := by decide +kernel
theorem dX11_init_53 : decode cX11_init 53 = .ok (.putfield 27, 3) := by decide +kernel
theorem dX11_init_56 : decode cX11_init 56 = .ok (.aload_n 0, 1) := by decide +kernel
theorem dX11_init_57 : decode cX11_init 57 = .ok (.bipush 58, 2) := by decide +kernel
theorem dX11_init_59 : decode cX11_init 59 = .ok (.newarray .int, 2) := by decide +kernel
theorem dX11_init_61 : decode cX11_init 61 = .ok (.putfield 30, 3) := by decide +kernel
theorem dX11_init_64 : decode cX11_init 64 = .ok (.aload_n 0, 1) := by decide +kernel
theorem dX11_init_65 : decode cX11_init 65 = .ok (.bipush 58, 2) := by decide +kernel
theorem dX11_init_67 : decode cX11_init 67 = .ok (.newarray .int, 2) := by decide +kernel
theorem dX11_init_69 : decode cX11_init 69 = .ok (.putfield 33, 3) := by decide +kernel
theorem dX11_init_72 : decode cX11_init 72 = .ok (.aload_n 0, 1) := by decide +kernel
theorem dX11_init_73 : decode cX11_init 73 = .ok (.sipush 1300, 3) := by decide +kernel
theorem dX11_init_76 : decode cX11_init 76 = .ok (.newarray .int, 2) := by decide +kernel
theorem dX11_init_78 : decode cX11_init 78 = .ok (.putfield 36, 3) := by decide +kernel
theorem dX11_init_81 : decode cX11_init 81 = .ok (.aload_n 0, 1) := by decide +kernel
theorem dX11_init_82 : decode cX11_init 82 = .ok (.sipush 2000, 3) := by decide +kernel
theorem dX11_init_85 : decode cX11_init 85 = .ok (.newarray .int, 2) := by decide +kernel
theorem dX11_init_87 : decode cX11_init 87 = .ok (.putfield 39, 3) := by decide +kernel
theorem dX11_init_90 : decode cX11_init 90 = .ok (.aload_n 0, 1) := by decide +kernel
theorem dX11_init_91 : decode cX11_init 91 = .ok (.bipush 26, 2) := by decide +kernel
theorem dX11_init_93 : decode cX11_init 93 = .ok (.newarray .long, 2) := by decide +kernel
theorem dX11_init_95 : decode cX11_init 95 = .ok (.putfield 42, 3) := by decide +kernel
theorem dX11_init_98 : decode cX11_init 98 = .ok (.aload_n 0, 1) := by decide +kernel
theorem dX11_init_99 : decode cX11_init 99 = .ok (.bipush 26, 2) := by decide +kernel
theorem dX11_init_101 : decode cX11_init 101 = .ok (.newarray .int, 2) := by decide +kernel
theorem dX11_init_103 : decode cX11_init 103 = .ok (.putfield 46, 3) := by decide +kernel
theorem dX11_init_106 : decode cX11_init 106 = .ok (.aload_n 0, 1) := by decide +kernel
theorem dX11_init_107 : decode cX11_init 107 = .ok (.sipush 2001, 3) := by decide +kernel
theorem dX11_init_110 : decode cX11_init 110 = .ok (.newarray .int, 2) := by decide +kernel
theorem dX11_init_112 : decode cX11_init 112 = .ok (.putfield 49, 3) := by decide +kernel
theorem dX11_init_115 : decode cX11_init 115 = .ok (.aload_n 0, 1) := by decide +kernel
theorem dX11_init_116 : decode cX11_init 116 = .ok (.sipush 2001, 3) := by decide +kernel
theorem dX11_init_119 : decode cX11_init 119 = .ok (.newarray .int, 2) := by decide +kernel
theorem dX11_init_121 : decode cX11_init 121 = .ok (.putfield 52, 3) := by decide +kernel
theorem dX11_init_124 : decode cX11_init 124 = .ok (.aload_n 0, 1) := by decide +kernel
theorem dX11_init_125 : decode cX11_init 125 = .ok (.sipush 2001, 3) := by decide +kernel
theorem dX11_init_128 : decode cX11_init 128 = .ok (.newarray .int, 2) := by decide +kernel
theorem dX11_init_130 : decode cX11_init 130 = .ok (.putfield 55, 3) := by decide +kernel
theorem dX11_init_133 : decode cX11_init 133 = .ok (.aload_n 0, 1) := by decide +kernel
theorem dX11_init_134 : decode cX11_init 134 = .ok (.sipush 2001, 3) := by decide +kernel
theorem dX11_init_137 : decode cX11_init 137 = .ok (.newarray .long, 2) := by decide +kernel
theorem dX11_init_139 : decode cX11_init 139 = .ok (.putfield 58, 3) := by decide +kernel
theorem dX11_init_142 : decode cX11_init 142 = .ok (.aload_n 0, 1) := by decide +kernel
theorem dX11_init_143 : decode cX11_init 143 = .ok (.sipush 2001, 3) := by decide +kernel
theorem dX11_init_146 : decode cX11_init 146 = .ok (.newarray .int, 2) := by decide +kernel
theorem dX11_init_148 : decode cX11_init 148 = .ok (.putfield 61, 3) := by decide +kernel
theorem dX11_init_151 : decode cX11_init 151 = .ok (.aload_n 0, 1) := by decide +kernel
theorem dX11_init_152 : decode cX11_init 152 = .ok (.sipush 150, 3) := by decide +kernel
theorem dX11_init_155 : decode cX11_init 155 = .ok (.newarray .int, 2) := by decide +kernel
theorem dX11_init_157 : decode cX11_init 157 = .ok (.putfield 64, 3) := by decide +kernel
theorem dX11_init_160 : decode cX11_init 160 = .ok (.aload_n 0, 1) := by decide +kernel
theorem dX11_init_161 : decode cX11_init 161 = .ok (.sipush 150, 3) := by decide +kernel
theorem dX11_init_164 : decode cX11_init 164 = .ok (.newarray .int, 2) := by decide +kernel
theorem dX11_init_166 : decode cX11_init 166 = .ok (.putfield 67, 3) := by decide +kernel
theorem dX11_init_169 : decode cX11_init 169 = .ok (.aload_n 0, 1) := by decide +kernel
theorem dX11_init_170 : decode cX11_init 170 = .ok (.sipush 450, 3) := by decide +kernel
theorem dX11_init_173 : decode cX11_init 173 = .ok (.newarray .int, 2) := by decide +kernel
theorem dX11_init_175 : decode cX11_init 175 = .ok (.putfield 70, 3) := by decide +kernel
theorem dX11_init_178 : decode cX11_init 178 = .ok (.aload_n 0, 1) := by decide +kernel
theorem dX11_init_179 : decode cX11_init 179 = .ok (.sipush 450, 3) := by decide +kernel
theorem dX11_init_182 : decode cX11_init 182 = .ok (.newarray .int, 2) := by decide +kernel
theorem dX11_init_184 : decode cX11_init 184 = .ok (.putfield 73, 3) := by decide +kernel
theorem dX11_init_187 : decode cX11_init 187 = .ok (.aload_n 0, 1) := by decide +kernel
theorem dX11_init_188 : decode cX11_init 188 = .ok (.sipush 450, 3) := by decide +kernel
theorem dX11_init_191 : decode cX11_init 191 = .ok (.newarray .long, 2) := by decide +kernel
theorem dX11_init_193 : decode cX11_init 193 = .ok (.putfield 76, 3) := by decide +kernel
theorem dX11_init_196 : decode cX11_init 196 = .ok (.aload_n 0, 1) := by decide +kernel
theorem dX11_init_197 : decode cX11_init 197 = .ok (.sipush 450, 3) := by decide +kernel
theorem dX11_init_200 : decode cX11_init 200 = .ok (.newarray .int, 2) := by decide +kernel
theorem dX11_init_202 : decode cX11_init 202 = .ok (.putfield 79, 3) := by decide +kernel
theorem dX11_init_205 : decode cX11_init 205 = .ok (.aload_n 0, 1) := by decide +kernel
theorem dX11_init_206 : decode cX11_init 206 = .ok (.sipush 150, 3) := by decide +kernel
theorem dX11_init_209 : decode cX11_init 209 = .ok (.newarray .long, 2) := by decide +kernel
theorem dX11_init_211 : decode cX11_init 211 = .ok (.putfield 82, 3) := by decide +kernel
theorem dX11_init_214 : decode cX11_init 214 = .ok (.aload_n 0, 1) := by decide +kernel
theorem dX11_init_215 : decode cX11_init 215 = .ok (.sipush 150, 3) := by decide +kernel
theorem dX11_init_218 : decode cX11_init 218 = .ok (.newarray .int, 2) := by decide +kernel
theorem dX11_init_220 : decode cX11_init 220 = .ok (.putfield 85, 3) := by decide +kernel
theorem dX11_init_223 : decode cX11_init 223 = .ok (.aload_n 0, 1) := by decide +kernel
theorem dX11_init_224 : decode cX11_init 224 = .ok (.sipush 150, 3) := by decide +kernel
theorem dX11_init_227 : decode cX11_init 227 = .ok (.newarray .int, 2) := by decide +kernel
theorem dX11_init_229 : decode cX11_init 229 = .ok (.putfield 88, 3) := by decide +kernel
theorem dX11_init_232 : decode cX11_init 232 = .ok (.aload_n 0, 1) := by decide +kernel
theorem dX11_init_233 : decode cX11_init 233 = .ok (.sipush 150, 3) := by decide +kernel
theorem dX11_init_236 : decode cX11_init 236 = .ok (.newarray .int, 2) := by decide +kernel
theorem dX11_init_238 : decode cX11_init 238 = .ok (.putfield 91, 3) := by decide +kernel
theorem dX11_init_241 : decode cX11_init 241 = .ok (.aload_n 0, 1) := by decide +kernel
theorem dX11_init_242 : decode cX11_init 242 = .ok (.sipush 150, 3) := by decide +kernel
theorem dX11_init_245 : decode cX11_init 245 = .ok (.newarray .int, 2) := by decide +kernel
theorem dX11_init_247 : decode cX11_init 247 = .ok (.putfield 94, 3) := by decide +kernel
theorem dX11_init_250 : decode cX11_init 250 = .ok (.aload_n 0, 1) := by decide +kernel
theorem dX11_init_251 : decode cX11_init 251 = .ok (.sipush 450, 3) := by decide +kernel
theorem dX11_init_254 : decode cX11_init 254 = .ok (.newarray .int, 2) := by decide +kernel
theorem dX11_init_256 : decode cX11_init 256 = .ok (.putfield 97, 3) := by decide +kernel
theorem dX11_init_259 : decode cX11_init 259 = .ok (.aload_n 0, 1) := by decide +kernel
theorem dX11_init_260 : decode cX11_init 260 = .ok (.iconst (-1), 1) := by decide +kernel
theorem dX11_init_261 : decode cX11_init 261 = .ok (.putfield 100, 3) := by decide +kernel
theorem dX11_init_264 : decode cX11_init 264 = .ok (.aload_n 0, 1) := by decide +kernel
theorem dX11_init_265 : decode cX11_init 265 = .ok (.bipush 30, 2) := by decide +kernel
theorem dX11_init_267 : decode cX11_init 267 = .ok (.newarray .int, 2) := by decide +kernel
theorem dX11_init_269 : decode cX11_init 269 = .ok (.putfield 104, 3) := by decide +kernel
theorem dX11_init_272 : decode cX11_init 272 = .ok (.aload_n 0, 1) := by decide +kernel
theorem dX11_init_273 : decode cX11_init 273 = .ok (.sipush 300, 3) := by decide +kernel
theorem dX11_init_276 : decode cX11_init 276 = .ok (.newarray .int, 2) := by decide +kernel
theorem dX11_init_278 : decode cX11_init 278 = .ok (.putfield 107, 3) := by decide +kernel
theorem dX11_init_281 : decode cX11_init 281 = .ok (.aload_n 0, 1) := by decide +kernel
theorem dX11_init_282 : decode cX11_init 282 = .ok (.sipush 1300, 3) := by decide +kernel
theorem dX11_init_285 : decode cX11_init 285 = .ok (.newarray .int, 2) := by decide +kernel
theorem dX11_init_287 : decode cX11_init 287 = .ok (.putfield 110, 3) := by decide +kernel
theorem dX11_init_290 : decode cX11_init 290 = .ok (.aload_n 0, 1) := by decide +kernel
theorem dX11_init_291 : decode cX11_init 291 = .ok (.sipush 1300, 3) := by decide +kernel
theorem dX11_init_294 : decode cX11_init 294 = .ok (.newarray .int, 2) := by decide +kernel
theorem dX11_init_296 : decode cX11_init 296 = .ok (.putfield 113, 3) := by decide +kernel
theorem dX11_init_299 : decode cX11_init 299 = .ok (.aload_n 0, 1) := by decide +kernel
theorem dX11_init_300 : decode cX11_init 300 = .ok (.sipush 600, 3) := by decide +kernel
theorem dX11_init_303 : decode cX11_init 303 = .ok (.newarray .int, 2) := by decide +kernel
theorem dX11_init_305 : decode cX11_init 305 = .ok (.putfield 116, 3) := by decide +kernel
theorem dX11_init_308 : decode cX11_init 308 = .ok (.aload_n 0, 1) := by decide +kernel
theorem dX11_init_309 : decode cX11_init 309 = .ok (.iload_n 1, 1) := by decide +kernel
theorem dX11_init_310 : decode cX11_init 310 = .ok (.bipush 16, 2) := by decide +kernel
theorem dX11_init_312 : decode cX11_init 312 = .ok (.if_icmp .ge 8, 3) := by decide +kernel
theorem dX11_init_315 : decode cX11_init 315 = .ok (.bipush 16, 2) := by decide +kernel
theorem dX11_init_317 : decode cX11_init 317 = .ok (.goto 17, 3) := by decide +kernel
theorem dX11_init_320 : decode cX11_init 320 = .ok (.iload_n 1, 1) := by decide +kernel
theorem dX11_init_321 : decode cX11_init 321 = .ok (.sipush 1200, 3) := by decide +kernel
theorem dX11_init_324 : decode cX11_init 324 = .ok (.if_icmp .le 9, 3) := by decide +kernel
theorem dX11_init_327 : decode cX11_init 327 = .ok (.sipush 1200, 3) := by decide +kernel
theorem dX11_init_330 : decode cX11_init 330 = .ok (.goto 4, 3) := by decide +kernel
theorem dX11_init_333 : decode cX11_init 333 = .ok (.iload_n 1, 1) := by decide +kernel
theorem dX11_init_334 : decode cX11_init 334 = .ok (.putfield 119, 3) := by decide +kernel
theorem dX11_init_337 : decode cX11_init 337 = .ok (.aload_n 0, 1) := by decide +kernel
theorem dX11_init_338 : decode cX11_init 338 = .ok (.iload_n 2, 1) := by decide +kernel
theorem dX11_init_339 : decode cX11_init 339 = .ok (.iconst 1, 1) := by decide +kernel
theorem dX11_init_340 : decode cX11_init 340 = .ok (.if_icmp .ge 7, 3) := by decide +kernel
theorem dX11_init_343 : decode cX11_init 343 = .ok (.iconst 1, 1) := by decide +kernel
theorem dX11_init_344 : decode cX11_init 344 = .ok (.goto 15, 3) := by decide +kernel
theorem dX11_init_347 : decode cX11_init 347 = .ok (.iload_n 2, 1) := by decide +kernel
theorem dX11_init_348 : decode cX11_init 348 = .ok (.bipush 6, 2) := by decide +kernel
theorem dX11_init_350 : decode cX11_init 350 = .ok (.if_icmp .le 8, 3) := by decide +kernel
theorem dX11_init_353 : decode cX11_init 353 = .ok (.bipush 6, 2) := by decide +kernel
theorem dX11_init_355 : decode cX11_init 355 = .ok (.goto 4, 3) := by decide +kernel
theorem dX11_init_358 : decode cX11_init 358 = .ok (.iload_n 2, 1) := by decide +kernel
theorem dX11_init_359 : decode cX11_init 359 = .ok (.putfield 122, 3) := by decide +kernel
theorem dX11_init_362 : decode cX11_init 362 = .ok (.aload_n 0, 1) := by decide +kernel
theorem dX11_init_363 : decode cX11_init 363 = .ok (.aload_n 0, 1) := by decide +kernel
theorem dX11_init_364 : decode cX11_init 364 = .ok (.getfield 119, 3) := by decide +kernel
theorem dX11_init_367 : decode cX11_init 367 = .ok (.putfield 125, 3) := by decide +kernel
theorem dX11_init_370 : decode cX11_init 370 = .ok (.iconst 0, 1) := by decide +kernel
theorem dX11_init_371 : decode cX11_init 371 = .ok (.istore_n 3, 1) := by decide +kernel
theorem dX11_init_372 : decode cX11_init 372 = .ok (.iload_n 3, 1) := by decide +kernel
theorem dX11_init_373 : decode cX11_init 373 = .ok (.sipush 1300, 3) := by decide +kernel
theorem dX11_init_376 : decode cX11_init 376 = .ok (.if_icmp .ge 16, 3) := by decide +kernel
theorem dX11_init_379 : decode cX11_init 379 = .ok (.aload_n 0, 1) := by decide +kernel
theorem dX11_init_380 : decode cX11_init 380 = .ok (.getfield 17, 3) := by decide +kernel
theorem dX11_init_383 : decode cX11_init 383 = .ok (.iload_n 3, 1) := by decide +kernel
theorem dX11_init_384 : decode cX11_init 384 = .ok (.iconst (-1), 1) := by decide +kernel
theorem dX11_init_385 : decode cX11_init 385 = .ok (.iastore, 1) := by decide +kernel
theorem dX11_init_386 : decode cX11_init 386 = .ok (.iinc 3 1, 3) := by decide +kernel
theorem dX11_init_389 : decode cX11_init 389 = .ok (.goto (-17), 3) := by decide +kernel
theorem dX11_init_392 : decode cX11_init 392 = .ok (.iconst 0, 1) := by decide +kernel
theorem dX11_init_393 : decode cX11_init 393 = .ok (.istore_n 3, 1) := by decide +kernel
theorem dX11_init_394 : decode cX11_init 394 = .ok (.iload_n 3, 1) := by decide +kernel
theorem dX11_init_395 : decode cX11_init 395 = .ok (.bipush 58, 2) := by decide +kernel
theorem dX11_init_397 : decode cX11_init 397 = .ok (.if_icmp .ge 16, 3) := by decide +kernel
theorem dX11_init_400 : decode cX11_init 400 = .ok (.aload_n 0, 1) := by decide +kernel
theorem dX11_init_401 : decode cX11_init 401 = .ok (.getfield 30, 3) := by decide +kernel
theorem dX11_init_404 : decode cX11_init 404 = .ok (.iload_n 3, 1) := by decide +kernel
theorem dX11_init_405 : decode cX11_init 405 = .ok (.iconst 0, 1) := by decide +kernel
theorem dX11_init_406 : decode cX11_init 406 = .ok (.iastore, 1) := by decide +kernel
theorem dX11_init_407 : decode cX11_init 407 = .ok (.iinc 3 1, 3) := by decide +kernel
theorem dX11_init_410 : decode cX11_init 410 = .ok (.goto (-16), 3) := by decide +kernel
theorem dX11_init_413 : decode cX11_init 413 = .ok (.aload_n 0, 1) := by decide +kernel
theorem dX11_init_414 : decode cX11_init 414 = .ok (.invokevirtual 128, 3) := by decide +kernel
theorem dX11_init_417 : decode cX11_init 417 = .ok (.return_, 1) := by decide +kernel
theorem dX11_thrown_0 : decode cX11_thrown 0 = .ok (.aload_n 0, 1) := by decide +kernel
theorem dX11_thrown_1 : decode cX11_thrown 1 = .ok (.getfield 131, 3) := by decide +kernel
theorem dX11_thrown_4 : decode cX11_thrown 4 = .ok (.ireturn, 1) := by decide +kernel
theorem dX11_takes_0 : decode cX11_takes 0 = .ok (.aload_n 0, 1) := by decide +kernel
theorem dX11_takes_1 : decode cX11_takes 1 = .ok (.getfield 13, 3) := by decide +kernel
theorem dX11_takes_4 : decode cX11_takes 4 = .ok (.iload_n 1, 1) := by decide +kernel
theorem dX11_takes_5 : decode cX11_takes 5 = .ok (.iaload, 1) := by decide +kernel
theorem dX11_takes_6 : decode cX11_takes 6 = .ok (.iconst 2, 1) := by decide +kernel
theorem dX11_takes_7 : decode cX11_takes 7 = .ok (.iadd, 1) := by decide +kernel
theorem dX11_takes_8 : decode cX11_takes 8 = .ok (.ireturn, 1) := by decide +kernel
theorem dX11_isOld_0 : decode cX11_isOld 0 = .ok (.iload_n 1, 1) := by decide +kernel
theorem dX11_isOld_1 : decode cX11_isOld 1 = .ok (.iconst 2, 1) := by decide +kernel
theorem dX11_isOld_2 : decode cX11_isOld 2 = .ok (.if_icmp .ne 20, 3) := by decide +kernel
theorem dX11_isOld_5 : decode cX11_isOld 5 = .ok (.aload_n 0, 1) := by decide +kernel
theorem dX11_isOld_6 : decode cX11_isOld 6 = .ok (.getfield 17, 3) := by decide +kernel
theorem dX11_isOld_9 : decode cX11_isOld 9 = .ok (.iload_n 2, 1) := by decide +kernel
theorem dX11_isOld_10 : decode cX11_isOld 10 = .ok (.iaload, 1) := by decide +kernel
theorem dX11_isOld_11 : decode cX11_isOld 11 = .ok (.aload_n 0, 1) := by decide +kernel
theorem dX11_isOld_12 : decode cX11_isOld 12 = .ok (.getfield 134, 3) := by decide +kernel
theorem dX11_isOld_15 : decode cX11_isOld 15 = .ok (.if_icmp .eq 7, 3) := by decide +kernel
theorem dX11_isOld_18 : decode cX11_isOld 18 = .ok (.iconst 1, 1) := by decide +kernel
theorem dX11_isOld_19 : decode cX11_isOld 19 = .ok (.goto 4, 3) := by decide +kernel
theorem dX11_isOld_22 : decode cX11_isOld 22 = .ok (.iconst 0, 1) := by decide +kernel
theorem dX11_isOld_23 : decode cX11_isOld 23 = .ok (.ireturn, 1) := by decide +kernel
theorem dX11_move_0 : decode cX11_move 0 = .ok (.aload_n 0, 1) := by decide +kernel
theorem dX11_move_1 : decode cX11_move 1 = .ok (.getfield 137, 3) := by decide +kernel
theorem dX11_move_4 : decode cX11_move 4 = .ok (.aload_n 0, 1) := by decide +kernel
theorem dX11_move_5 : decode cX11_move 5 = .ok (.iload_n 1, 1) := by decide +kernel
theorem dX11_move_6 : decode cX11_move 6 = .ok (.invokevirtual 140, 3) := by decide +kernel
theorem dX11_move_9 : decode cX11_move 9 = .ok (.iadd, 1) := by decide +kernel
theorem dX11_move_10 : decode cX11_move 10 = .ok (.aload_n 0, 1) := by decide +kernel
theorem dX11_move_11 : decode cX11_move 11 = .ok (.getfield 125, 3) := by decide +kernel
theorem dX11_move_14 : decode cX11_move 14 = .ok (.if_icmp .le 15, 3) := by decide +kernel
theorem dX11_move_17 : decode cX11_move 17 = .ok (.aload_n 0, 1) := by decide +kernel
theorem dX11_move_18 : decode cX11_move 18 = .ok (.dup, 1) := by decide +kernel
theorem dX11_move_19 : decode cX11_move 19 = .ok (.getfield 144, 3) := by decide +kernel
theorem dX11_move_22 : decode cX11_move 22 = .ok (.iconst 1, 1) := by decide +kernel
theorem dX11_move_23 : decode cX11_move 23 = .ok (.iadd, 1) := by decide +kernel
theorem dX11_move_24 : decode cX11_move 24 = .ok (.putfield 144, 3) := by decide +kernel
theorem dX11_move_27 : decode cX11_move 27 = .ok (.iconst 0, 1) := by decide +kernel
theorem dX11_move_28 : decode cX11_move 28 = .ok (.ireturn, 1) := by decide +kernel
theorem dX11_move_29 : decode cX11_move 29 = .ok (.aload_n 0, 1) := by decide +kernel
theorem dX11_move_30 : decode cX11_move 30 = .ok (.getfield 17, 3) := by decide +kernel
theorem dX11_move_33 : decode cX11_move 33 = .ok (.iload_n 1, 1) := by decide +kernel
theorem dX11_move_34 : decode cX11_move 34 = .ok (.aload_n 0, 1) := by decide +kernel
theorem dX11_move_35 : decode cX11_move 35 = .ok (.getfield 134, 3) := by decide +kernel
theorem dX11_move_38 : decode cX11_move 38 = .ok (.iastore, 1) := by decide +kernel
theorem dX11_move_39 : decode cX11_move 39 = .ok (.aload_n 0, 1) := by decide +kernel
theorem dX11_move_40 : decode cX11_move 40 = .ok (.getfield 20, 3) := by decide +kernel
theorem dX11_move_43 : decode cX11_move 43 = .ok (.iload_n 1, 1) := by decide +kernel
theorem dX11_move_44 : decode cX11_move 44 = .ok (.aload_n 0, 1) := by decide +kernel
theorem dX11_move_45 : decode cX11_move 45 = .ok (.getfield 137, 3) := by decide +kernel
theorem dX11_move_48 : decode cX11_move 48 = .ok (.iastore, 1) := by decide +kernel
theorem dX11_move_49 : decode cX11_move 49 = .ok (.aload_n 0, 1) := by decide +kernel
theorem dX11_move_50 : decode cX11_move 50 = .ok (.dup, 1) := by decide +kernel
theorem dX11_move_51 : decode cX11_move 51 = .ok (.getfield 137, 3) := by decide +kernel
theorem dX11_move_54 : decode cX11_move 54 = .ok (.aload_n 0, 1) := by decide +kernel
theorem dX11_move_55 : decode cX11_move 55 = .ok (.iload_n 1, 1) := by decide +kernel
theorem dX11_move_56 : decode cX11_move 56 = .ok (.invokevirtual 140, 3) := by decide +kernel
theorem dX11_move_59 : decode cX11_move 59 = .ok (.iadd, 1) := by decide +kernel
theorem dX11_move_60 : decode cX11_move 60 = .ok (.putfield 137, 3) := by decide +kernel
theorem dX11_move_63 : decode cX11_move 63 = .ok (.aload_n 0, 1) := by decide +kernel
theorem dX11_move_64 : decode cX11_move 64 = .ok (.getfield 36, 3) := by decide +kernel
theorem dX11_move_67 : decode cX11_move 67 = .ok (.aload_n 0, 1) := by decide +kernel
theorem dX11_move_68 : decode cX11_move 68 = .ok (.getfield 147, 3) := by decide +kernel
theorem dX11_move_71 : decode cX11_move 71 = .ok (.iload_n 1, 1) := by decide +kernel
theorem dX11_move_72 : decode cX11_move 72 = .ok (.iastore, 1) := by decide +kernel
theorem dX11_move_73 : decode cX11_move 73 = .ok (.aload_n 0, 1) := by decide +kernel
theorem dX11_move_74 : decode cX11_move 74 = .ok (.dup, 1) := by decide +kernel
theorem dX11_move_75 : decode cX11_move 75 = .ok (.getfield 147, 3) := by decide +kernel
theorem dX11_move_78 : decode cX11_move 78 = .ok (.iconst 1, 1) := by decide +kernel
theorem dX11_move_79 : decode cX11_move 79 = .ok (.iadd, 1) := by decide +kernel
theorem dX11_move_80 : decode cX11_move 80 = .ok (.putfield 147, 3) := by decide +kernel
theorem dX11_move_83 : decode cX11_move 83 = .ok (.aload_n 0, 1) := by decide +kernel
theorem dX11_move_84 : decode cX11_move 84 = .ok (.dup, 1) := by decide +kernel
theorem dX11_move_85 : decode cX11_move 85 = .ok (.getfield 150, 3) := by decide +kernel
theorem dX11_move_88 : decode cX11_move 88 = .ok (.iconst 1, 1) := by decide +kernel
theorem dX11_move_89 : decode cX11_move 89 = .ok (.iadd, 1) := by decide +kernel
theorem dX11_move_90 : decode cX11_move 90 = .ok (.putfield 150, 3) := by decide +kernel
theorem dX11_move_93 : decode cX11_move 93 = .ok (.iconst 1, 1) := by decide +kernel
theorem dX11_move_94 : decode cX11_move 94 = .ok (.ireturn, 1) := by decide +kernel
theorem dX11_passOne_0 : decode cX11_passOne 0 = .ok (.aload_n 0, 1) := by decide +kernel
theorem dX11_passOne_1 : decode cX11_passOne 1 = .ok (.getfield 153, 3) := by decide +kernel
theorem dX11_passOne_4 : decode cX11_passOne 4 = .ok (.aload_n 0, 1) := by decide +kernel
theorem dX11_passOne_5 : decode cX11_passOne 5 = .ok (.getfield 20, 3) := by decide +kernel
theorem dX11_passOne_8 : decode cX11_passOne 8 = .ok (.aload_n 0, 1) := by decide +kernel
theorem dX11_passOne_9 : decode cX11_passOne 9 = .ok (.getfield 36, 3) := by decide +kernel
theorem dX11_passOne_12 : decode cX11_passOne 12 = .ok (.aload_n 0, 1) := by decide +kernel
theorem dX11_passOne_13 : decode cX11_passOne 13 = .ok (.getfield 156, 3) := by decide +kernel
theorem dX11_passOne_16 : decode cX11_passOne 16 = .ok (.iaload, 1) := by decide +kernel
theorem dX11_passOne_17 : decode cX11_passOne 17 = .ok (.iaload, 1) := by decide +kernel
theorem dX11_passOne_18 : decode cX11_passOne 18 = .ok (.aload_n 0, 1) := by decide +kernel
theorem dX11_passOne_19 : decode cX11_passOne 19 = .ok (.aload_n 0, 1) := by decide +kernel
theorem dX11_passOne_20 : decode cX11_passOne 20 = .ok (.getfield 36, 3) := by decide +kernel
theorem dX11_passOne_23 : decode cX11_passOne 23 = .ok (.aload_n 0, 1) := by decide +kernel
theorem dX11_passOne_24 : decode cX11_passOne 24 = .ok (.getfield 156, 3) := by decide +kernel
theorem dX11_passOne_27 : decode cX11_passOne 27 = .ok (.iaload, 1) := by decide +kernel
theorem dX11_passOne_28 : decode cX11_passOne 28 = .ok (.invokevirtual 140, 3) := by decide +kernel
theorem dX11_passOne_31 : decode cX11_passOne 31 = .ok (.iadd, 1) := by decide +kernel
theorem dX11_passOne_32 : decode cX11_passOne 32 = .ok (.if_icmp .lt 16, 3) := by decide +kernel
theorem dX11_passOne_35 : decode cX11_passOne 35 = .ok (.aload_n 0, 1) := by decide +kernel
theorem dX11_passOne_36 : decode cX11_passOne 36 = .ok (.dup, 1) := by decide +kernel
theorem dX11_passOne_37 : decode cX11_passOne 37 = .ok (.getfield 156, 3) := by decide +kernel
theorem dX11_passOne_40 : decode cX11_passOne 40 = .ok (.iconst 1, 1) := by decide +kernel
theorem dX11_passOne_41 : decode cX11_passOne 41 = .ok (.iadd, 1) := by decide +kernel
theorem dX11_passOne_42 : decode cX11_passOne 42 = .ok (.putfield 156, 3) := by decide +kernel
theorem dX11_passOne_45 : decode cX11_passOne 45 = .ok (.goto (-45), 3) := by decide +kernel
theorem dX11_passOne_48 : decode cX11_passOne 48 = .ok (.aload_n 0, 1) := by decide +kernel
theorem dX11_passOne_49 : decode cX11_passOne 49 = .ok (.getfield 36, 3) := by decide +kernel
theorem dX11_passOne_52 : decode cX11_passOne 52 = .ok (.aload_n 0, 1) := by decide +kernel
theorem dX11_passOne_53 : decode cX11_passOne 53 = .ok (.getfield 156, 3) := by decide +kernel
theorem dX11_passOne_56 : decode cX11_passOne 56 = .ok (.iaload, 1) := by decide +kernel
theorem dX11_passOne_57 : decode cX11_passOne 57 = .ok (.istore_n 1, 1) := by decide +kernel
theorem dX11_passOne_58 : decode cX11_passOne 58 = .ok (.aload_n 0, 1) := by decide +kernel
theorem dX11_passOne_59 : decode cX11_passOne 59 = .ok (.getfield 153, 3) := by decide +kernel
theorem dX11_passOne_62 : decode cX11_passOne 62 = .ok (.aload_n 0, 1) := by decide +kernel
theorem dX11_passOne_63 : decode cX11_passOne 63 = .ok (.getfield 20, 3) := by decide +kernel
theorem dX11_passOne_66 : decode cX11_passOne 66 = .ok (.iload_n 1, 1) := by decide +kernel
theorem dX11_passOne_67 : decode cX11_passOne 67 = .ok (.iaload, 1) := by decide +kernel
theorem dX11_passOne_68 : decode cX11_passOne 68 = .ok (.isub, 1) := by decide +kernel
theorem dX11_passOne_69 : decode cX11_passOne 69 = .ok (.iconst 2, 1) := by decide +kernel
theorem dX11_passOne_70 : decode cX11_passOne 70 = .ok (.isub, 1) := by decide +kernel
theorem dX11_passOne_71 : decode cX11_passOne 71 = .ok (.istore_n 2, 1) := by decide +kernel
theorem dX11_passOne_72 : decode cX11_passOne 72 = .ok (.iload_n 2, 1) := by decide +kernel
theorem dX11_passOne_73 : decode cX11_passOne 73 = .ok (.ifCond .lt 52, 3) := by decide +kernel
theorem dX11_passOne_76 : decode cX11_passOne 76 = .ok (.aload_n 0, 1) := by decide +kernel
theorem dX11_passOne_77 : decode cX11_passOne 77 = .ok (.aload_n 0, 1) := by decide +kernel
theorem dX11_passOne_78 : decode cX11_passOne 78 = .ok (.getfield 24, 3) := by decide +kernel
theorem dX11_passOne_81 : decode cX11_passOne 81 = .ok (.bipush 40, 2) := by decide +kernel
theorem dX11_passOne_83 : decode cX11_passOne 83 = .ok (.iload_n 1, 1) := by decide +kernel
theorem dX11_passOne_84 : decode cX11_passOne 84 = .ok (.imul, 1) := by decide +kernel
theorem dX11_passOne_85 : decode cX11_passOne 85 = .ok (.iload_n 2, 1) := by decide +kernel
theorem dX11_passOne_86 : decode cX11_passOne 86 = .ok (.iadd, 1) := by decide +kernel
theorem dX11_passOne_87 : decode cX11_passOne 87 = .ok (.iaload, 1) := by decide +kernel
theorem dX11_passOne_88 : decode cX11_passOne 88 = .ok (.aload_n 0, 1) := by decide +kernel
theorem dX11_passOne_89 : decode cX11_passOne 89 = .ok (.getfield 27, 3) := by decide +kernel
theorem dX11_passOne_92 : decode cX11_passOne 92 = .ok (.bipush 40, 2) := by decide +kernel
theorem dX11_passOne_94 : decode cX11_passOne 94 = .ok (.iload_n 1, 1) := by decide +kernel
theorem dX11_passOne_95 : decode cX11_passOne 95 = .ok (.imul, 1) := by decide +kernel
theorem dX11_passOne_96 : decode cX11_passOne 96 = .ok (.iload_n 2, 1) := by decide +kernel
theorem dX11_passOne_97 : decode cX11_passOne 97 = .ok (.iadd, 1) := by decide +kernel
theorem dX11_passOne_98 : decode cX11_passOne 98 = .ok (.iaload, 1) := by decide +kernel
theorem dX11_passOne_99 : decode cX11_passOne 99 = .ok (.invokevirtual 159, 3) := by decide +kernel
theorem dX11_passOne_102 : decode cX11_passOne 102 = .ok (.ifCond .eq 23, 3) := by decide +kernel
theorem dX11_passOne_105 : decode cX11_passOne 105 = .ok (.aload_n 0, 1) := by decide +kernel
theorem dX11_passOne_106 : decode cX11_passOne 106 = .ok (.aload_n 0, 1) := by decide +kernel
theorem dX11_passOne_107 : decode cX11_passOne 107 = .ok (.getfield 27, 3) := by decide +kernel
theorem dX11_passOne_110 : decode cX11_passOne 110 = .ok (.bipush 40, 2) := by decide +kernel
theorem dX11_passOne_112 : decode cX11_passOne 112 = .ok (.iload_n 1, 1) := by decide +kernel
theorem dX11_passOne_113 : decode cX11_passOne 113 = .ok (.imul, 1) := by decide +kernel
theorem dX11_passOne_114 : decode cX11_passOne 114 = .ok (.iload_n 2, 1) := by decide +kernel
theorem dX11_passOne_115 : decode cX11_passOne 115 = .ok (.iadd, 1) := by decide +kernel
theorem dX11_passOne_116 : decode cX11_passOne 116 = .ok (.iaload, 1) := by decide +kernel
theorem dX11_passOne_117 : decode cX11_passOne 117 = .ok (.invokevirtual 163, 3) := by decide +kernel
theorem dX11_passOne_120 : decode cX11_passOne 120 = .ok (.ifCond .ne 5, 3) := by decide +kernel
theorem dX11_passOne_123 : decode cX11_passOne 123 = .ok (.iconst 0, 1) := by decide +kernel
theorem dX11_passOne_124 : decode cX11_passOne 124 = .ok (.ireturn, 1) := by decide +kernel
theorem dX11_passOne_125 : decode cX11_passOne 125 = .ok (.aload_n 0, 1) := by decide +kernel
theorem dX11_passOne_126 : decode cX11_passOne 126 = .ok (.dup, 1) := by decide +kernel
theorem dX11_passOne_127 : decode cX11_passOne 127 = .ok (.getfield 153, 3) := by decide +kernel
theorem dX11_passOne_130 : decode cX11_passOne 130 = .ok (.iconst 1, 1) := by decide +kernel
theorem dX11_passOne_131 : decode cX11_passOne 131 = .ok (.iadd, 1) := by decide +kernel
theorem dX11_passOne_132 : decode cX11_passOne 132 = .ok (.putfield 153, 3) := by decide +kernel
theorem dX11_passOne_135 : decode cX11_passOne 135 = .ok (.aload_n 0, 1) := by decide +kernel
theorem dX11_passOne_136 : decode cX11_passOne 136 = .ok (.dup, 1) := by decide +kernel
theorem dX11_passOne_137 : decode cX11_passOne 137 = .ok (.getfield 167, 3) := by decide +kernel
theorem dX11_passOne_140 : decode cX11_passOne 140 = .ok (.iconst 1, 1) := by decide +kernel
theorem dX11_passOne_141 : decode cX11_passOne 141 = .ok (.iadd, 1) := by decide +kernel
theorem dX11_passOne_142 : decode cX11_passOne 142 = .ok (.putfield 167, 3) := by decide +kernel
theorem dX11_passOne_145 : decode cX11_passOne 145 = .ok (.iconst 1, 1) := by decide +kernel
theorem dX11_passOne_146 : decode cX11_passOne 146 = .ok (.ireturn, 1) := by decide +kernel
theorem dX11_turnOver_0 : decode cX11_turnOver 0 = .ok (.aload_n 0, 1) := by decide +kernel
theorem dX11_turnOver_1 : decode cX11_turnOver 1 = .ok (.iconst 1, 1) := by decide +kernel
theorem dX11_turnOver_2 : decode cX11_turnOver 2 = .ok (.aload_n 0, 1) := by decide +kernel
theorem dX11_turnOver_3 : decode cX11_turnOver 3 = .ok (.getfield 134, 3) := by decide +kernel
theorem dX11_turnOver_6 : decode cX11_turnOver 6 = .ok (.isub, 1) := by decide +kernel
theorem dX11_turnOver_7 : decode cX11_turnOver 7 = .ok (.putfield 134, 3) := by decide +kernel
theorem dX11_turnOver_10 : decode cX11_turnOver 10 = .ok (.iconst 0, 1) := by decide +kernel
theorem dX11_turnOver_11 : decode cX11_turnOver 11 = .ok (.istore_n 1, 1) := by decide +kernel
theorem dX11_turnOver_12 : decode cX11_turnOver 12 = .ok (.iload_n 1, 1) := by decide +kernel
theorem dX11_turnOver_13 : decode cX11_turnOver 13 = .ok (.sipush 1300, 3) := by decide +kernel
theorem dX11_turnOver_16 : decode cX11_turnOver 16 = .ok (.if_icmp .ge 29, 3) := by decide +kernel
theorem dX11_turnOver_19 : decode cX11_turnOver 19 = .ok (.aload_n 0, 1) := by decide +kernel
theorem dX11_turnOver_20 : decode cX11_turnOver 20 = .ok (.getfield 17, 3) := by decide +kernel
theorem dX11_turnOver_23 : decode cX11_turnOver 23 = .ok (.iload_n 1, 1) := by decide +kernel
theorem dX11_turnOver_24 : decode cX11_turnOver 24 = .ok (.iaload, 1) := by decide +kernel
theorem dX11_turnOver_25 : decode cX11_turnOver 25 = .ok (.aload_n 0, 1) := by decide +kernel
theorem dX11_turnOver_26 : decode cX11_turnOver 26 = .ok (.getfield 134, 3) := by decide +kernel
theorem dX11_turnOver_29 : decode cX11_turnOver 29 = .ok (.if_icmp .ne 10, 3) := by decide +kernel
theorem dX11_turnOver_32 : decode cX11_turnOver 32 = .ok (.aload_n 0, 1) := by decide +kernel
theorem dX11_turnOver_33 : decode cX11_turnOver 33 = .ok (.getfield 17, 3) := by decide +kernel
theorem dX11_turnOver_36 : decode cX11_turnOver 36 = .ok (.iload_n 1, 1) := by decide +kernel
theorem dX11_turnOver_37 : decode cX11_turnOver 37 = .ok (.iconst (-1), 1) := by decide +kernel
theorem dX11_turnOver_38 : decode cX11_turnOver 38 = .ok (.iastore, 1) := by decide +kernel
theorem dX11_turnOver_39 : decode cX11_turnOver 39 = .ok (.iinc 1 1, 3) := by decide +kernel
theorem dX11_turnOver_42 : decode cX11_turnOver 42 = .ok (.goto (-30), 3) := by decide +kernel
theorem dX11_turnOver_45 : decode cX11_turnOver 45 = .ok (.aload_n 0, 1) := by decide +kernel
theorem dX11_turnOver_46 : decode cX11_turnOver 46 = .ok (.iconst 0, 1) := by decide +kernel
theorem dX11_turnOver_47 : decode cX11_turnOver 47 = .ok (.putfield 137, 3) := by decide +kernel
theorem dX11_turnOver_50 : decode cX11_turnOver 50 = .ok (.aload_n 0, 1) := by decide +kernel
theorem dX11_turnOver_51 : decode cX11_turnOver 51 = .ok (.iconst 0, 1) := by decide +kernel
theorem dX11_turnOver_52 : decode cX11_turnOver 52 = .ok (.putfield 153, 3) := by decide +kernel
theorem dX11_turnOver_55 : decode cX11_turnOver 55 = .ok (.aload_n 0, 1) := by decide +kernel
theorem dX11_turnOver_56 : decode cX11_turnOver 56 = .ok (.iconst 0, 1) := by decide +kernel
theorem dX11_turnOver_57 : decode cX11_turnOver 57 = .ok (.putfield 156, 3) := by decide +kernel
theorem dX11_turnOver_60 : decode cX11_turnOver 60 = .ok (.aload_n 0, 1) := by decide +kernel
theorem dX11_turnOver_61 : decode cX11_turnOver 61 = .ok (.iconst 0, 1) := by decide +kernel
theorem dX11_turnOver_62 : decode cX11_turnOver 62 = .ok (.putfield 147, 3) := by decide +kernel
theorem dX11_turnOver_65 : decode cX11_turnOver 65 = .ok (.aload_n 0, 1) := by decide +kernel
theorem dX11_turnOver_66 : decode cX11_turnOver 66 = .ok (.aload_n 0, 1) := by decide +kernel
theorem dX11_turnOver_67 : decode cX11_turnOver 67 = .ok (.getfield 119, 3) := by decide +kernel
theorem dX11_turnOver_70 : decode cX11_turnOver 70 = .ok (.putfield 125, 3) := by decide +kernel
theorem dX11_turnOver_73 : decode cX11_turnOver 73 = .ok (.aload_n 0, 1) := by decide +kernel
theorem dX11_turnOver_74 : decode cX11_turnOver 74 = .ok (.dup, 1) := by decide +kernel
theorem dX11_turnOver_75 : decode cX11_turnOver 75 = .ok (.getfield 170, 3) := by decide +kernel
theorem dX11_turnOver_78 : decode cX11_turnOver 78 = .ok (.iconst 1, 1) := by decide +kernel
theorem dX11_turnOver_79 : decode cX11_turnOver 79 = .ok (.iadd, 1) := by decide +kernel
theorem dX11_turnOver_80 : decode cX11_turnOver 80 = .ok (.putfield 170, 3) := by decide +kernel
theorem dX11_turnOver_83 : decode cX11_turnOver 83 = .ok (.aload_n 0, 1) := by decide +kernel
theorem dX11_turnOver_84 : decode cX11_turnOver 84 = .ok (.getfield 150, 3) := by decide +kernel
theorem dX11_turnOver_87 : decode cX11_turnOver 87 = .ok (.istore_n 1, 1) := by decide +kernel
theorem dX11_turnOver_88 : decode cX11_turnOver 88 = .ok (.iconst 0, 1) := by decide +kernel
theorem dX11_turnOver_89 : decode cX11_turnOver 89 = .ok (.istore_n 2, 1) := by decide +kernel
theorem dX11_turnOver_90 : decode cX11_turnOver 90 = .ok (.iload_n 2, 1) := by decide +kernel
theorem dX11_turnOver_91 : decode cX11_turnOver 91 = .ok (.bipush 8, 2) := by decide +kernel
theorem dX11_turnOver_93 : decode cX11_turnOver 93 = .ok (.aload_n 0, 1) := by decide +kernel
theorem dX11_turnOver_94 : decode cX11_turnOver 94 = .ok (.getfield 173, 3) := by decide +kernel
theorem dX11_turnOver_97 : decode cX11_turnOver 97 = .ok (.iadd, 1) := by decide +kernel
theorem dX11_turnOver_98 : decode cX11_turnOver 98 = .ok (.if_icmp .ge 39, 3) := by decide +kernel
theorem dX11_turnOver_101 : decode cX11_turnOver 101 = .ok (.aload_n 0, 1) := by decide +kernel
theorem dX11_turnOver_102 : decode cX11_turnOver 102 = .ok (.aload_n 0, 1) := by decide +kernel
theorem dX11_turnOver_103 : decode cX11_turnOver 103 = .ok (.getfield 30, 3) := by decide +kernel
theorem dX11_turnOver_106 : decode cX11_turnOver 106 = .ok (.iload_n 2, 1) := by decide +kernel
theorem dX11_turnOver_107 : decode cX11_turnOver 107 = .ok (.iaload, 1) := by decide +kernel
theorem dX11_turnOver_108 : decode cX11_turnOver 108 = .ok (.aload_n 0, 1) := by decide +kernel
theorem dX11_turnOver_109 : decode cX11_turnOver 109 = .ok (.getfield 33, 3) := by decide +kernel
theorem dX11_turnOver_112 : decode cX11_turnOver 112 = .ok (.iload_n 2, 1) := by decide +kernel
theorem dX11_turnOver_113 : decode cX11_turnOver 113 = .ok (.iaload, 1) := by decide +kernel
theorem dX11_turnOver_114 : decode cX11_turnOver 114 = .ok (.invokevirtual 159, 3) := by decide +kernel
theorem dX11_turnOver_117 : decode cX11_turnOver 117 = .ok (.ifCond .eq 14, 3) := by decide +kernel
theorem dX11_turnOver_120 : decode cX11_turnOver 120 = .ok (.aload_n 0, 1) := by decide +kernel
theorem dX11_turnOver_121 : decode cX11_turnOver 121 = .ok (.aload_n 0, 1) := by decide +kernel
theorem dX11_turnOver_122 : decode cX11_turnOver 122 = .ok (.getfield 33, 3) := by decide +kernel
theorem dX11_turnOver_125 : decode cX11_turnOver 125 = .ok (.iload_n 2, 1) := by decide +kernel
theorem dX11_turnOver_126 : decode cX11_turnOver 126 = .ok (.iaload, 1) := by decide +kernel
theorem dX11_turnOver_127 : decode cX11_turnOver 127 = .ok (.invokevirtual 163, 3) := by decide +kernel
theorem dX11_turnOver_130 : decode cX11_turnOver 130 = .ok (.istore_n 3, 1) := by decide +kernel
theorem dX11_turnOver_131 : decode cX11_turnOver 131 = .ok (.iinc 2 1, 3) := by decide +kernel
theorem dX11_turnOver_134 : decode cX11_turnOver 134 = .ok (.goto (-44), 3) := by decide +kernel
theorem dX11_turnOver_137 : decode cX11_turnOver 137 = .ok (.aload_n 0, 1) := by decide +kernel
theorem dX11_turnOver_138 : decode cX11_turnOver 138 = .ok (.aload_n 0, 1) := by decide +kernel
theorem dX11_turnOver_139 : decode cX11_turnOver 139 = .ok (.getfield 150, 3) := by decide +kernel
theorem dX11_turnOver_142 : decode cX11_turnOver 142 = .ok (.iload_n 1, 1) := by decide +kernel
theorem dX11_turnOver_143 : decode cX11_turnOver 143 = .ok (.isub, 1) := by decide +kernel
theorem dX11_turnOver_144 : decode cX11_turnOver 144 = .ok (.putfield 176, 3) := by decide +kernel
theorem dX11_turnOver_147 : decode cX11_turnOver 147 = .ok (.return_, 1) := by decide +kernel
theorem dX11_make_0 : decode cX11_make 0 = .ok (.iload_n 2, 1) := by decide +kernel
theorem dX11_make_1 : decode cX11_make 1 = .ok (.iconst 2, 1) := by decide +kernel
theorem dX11_make_2 : decode cX11_make 2 = .ok (.iadd, 1) := by decide +kernel
theorem dX11_make_3 : decode cX11_make 3 = .ok (.istore 4, 2) := by decide +kernel
theorem dX11_make_5 : decode cX11_make 5 = .ok (.iconst 0, 1) := by decide +kernel
theorem dX11_make_6 : decode cX11_make 6 = .ok (.istore 5, 2) := by decide +kernel
theorem dX11_make_8 : decode cX11_make 8 = .ok (.iconst 1, 1) := by decide +kernel
theorem dX11_make_9 : decode cX11_make 9 = .ok (.istore 6, 2) := by decide +kernel
theorem dX11_make_11 : decode cX11_make 11 = .ok (.iload 6, 2) := by decide +kernel
theorem dX11_make_13 : decode cX11_make 13 = .ok (.ifCond .eq 50, 3) := by decide +kernel
theorem dX11_make_16 : decode cX11_make 16 = .ok (.iload 5, 2) := by decide +kernel
theorem dX11_make_18 : decode cX11_make 18 = .ok (.aload_n 0, 1) := by decide +kernel
theorem dX11_make_19 : decode cX11_make 19 = .ok (.getfield 122, 3) := by decide +kernel
theorem dX11_make_22 : decode cX11_make 22 = .ok (.iload 4, 2) := by decide +kernel
theorem dX11_make_24 : decode cX11_make 24 = .ok (.imul, 1) := by decide +kernel
theorem dX11_make_25 : decode cX11_make 25 = .ok (.if_icmp .ge 38, 3) := by decide +kernel
theorem dX11_make_28 : decode cX11_make 28 = .ok (.aload_n 0, 1) := by decide +kernel
theorem dX11_make_29 : decode cX11_make 29 = .ok (.getfield 153, 3) := by decide +kernel
theorem dX11_make_32 : decode cX11_make 32 = .ok (.aload_n 0, 1) := by decide +kernel
theorem dX11_make_33 : decode cX11_make 33 = .ok (.getfield 137, 3) := by decide +kernel
theorem dX11_make_36 : decode cX11_make 36 = .ok (.if_icmp .ge 27, 3) := by decide +kernel
theorem dX11_make_39 : decode cX11_make 39 = .ok (.aload_n 0, 1) := by decide +kernel
theorem dX11_make_40 : decode cX11_make 40 = .ok (.invokevirtual 179, 3) := by decide +kernel
theorem dX11_make_43 : decode cX11_make 43 = .ok (.istore 6, 2) := by decide +kernel
theorem dX11_make_45 : decode cX11_make 45 = .ok (.iload 5, 2) := by decide +kernel
theorem dX11_make_47 : decode cX11_make 47 = .ok (.iload 6, 2) := by decide +kernel
theorem dX11_make_49 : decode cX11_make 49 = .ok (.ifCond .eq 7, 3) := by decide +kernel
theorem dX11_make_52 : decode cX11_make 52 = .ok (.iconst 1, 1) := by decide +kernel
theorem dX11_make_53 : decode cX11_make 53 = .ok (.goto 4, 3) := by decide +kernel
theorem dX11_make_56 : decode cX11_make 56 = .ok (.iconst 0, 1) := by decide +kernel
theorem dX11_make_57 : decode cX11_make 57 = .ok (.iadd, 1) := by decide +kernel
theorem dX11_make_58 : decode cX11_make 58 = .ok (.istore 5, 2) := by decide +kernel
theorem dX11_make_60 : decode cX11_make 60 = .ok (.goto (-49), 3) := by decide +kernel
theorem dX11_make_63 : decode cX11_make 63 = .ok (.aload_n 0, 1) := by decide +kernel
theorem dX11_make_64 : decode cX11_make 64 = .ok (.iload 5, 2) := by decide +kernel
theorem dX11_make_66 : decode cX11_make 66 = .ok (.aload_n 0, 1) := by decide +kernel
theorem dX11_make_67 : decode cX11_make 67 = .ok (.getfield 183, 3) := by decide +kernel
theorem dX11_make_70 : decode cX11_make 70 = .ok (.if_icmp .le 8, 3) := by decide +kernel
theorem dX11_make_73 : decode cX11_make 73 = .ok (.iload 5, 2) := by decide +kernel
theorem dX11_make_75 : decode cX11_make 75 = .ok (.goto 7, 3) := by decide +kernel
theorem dX11_make_78 : decode cX11_make 78 = .ok (.aload_n 0, 1) := by decide +kernel
theorem dX11_make_79 : decode cX11_make 79 = .ok (.getfield 183, 3) := by decide +kernel
theorem dX11_make_82 : decode cX11_make 82 = .ok (.putfield 183, 3) := by decide +kernel
theorem dX11_make_85 : decode cX11_make 85 = .ok (.iload 6, 2) := by decide +kernel
theorem dX11_make_87 : decode cX11_make 87 = .ok (.ifCond .ne 6, 3) := by decide +kernel
theorem dX11_make_90 : decode cX11_make 90 = .ok (.bipush 8, 2) := by decide +kernel
theorem dX11_make_92 : decode cX11_make 92 = .ok (.ireturn, 1) := by decide +kernel
theorem dX11_make_93 : decode cX11_make 93 = .ok (.aload_n 0, 1) := by decide +kernel
theorem dX11_make_94 : decode cX11_make 94 = .ok (.getfield 125, 3) := by decide +kernel
theorem dX11_make_97 : decode cX11_make 97 = .ok (.aload_n 0, 1) := by decide +kernel
theorem dX11_make_98 : decode cX11_make 98 = .ok (.getfield 137, 3) := by decide +kernel
theorem dX11_make_101 : decode cX11_make 101 = .ok (.isub, 1) := by decide +kernel
theorem dX11_make_102 : decode cX11_make 102 = .ok (.iload 4, 2) := by decide +kernel
theorem dX11_make_104 : decode cX11_make 104 = .ok (.if_icmp .ge 58, 3) := by decide +kernel
theorem dX11_make_107 : decode cX11_make 107 = .ok (.aload_n 0, 1) := by decide +kernel
theorem dX11_make_108 : decode cX11_make 108 = .ok (.getfield 153, 3) := by decide +kernel
theorem dX11_make_111 : decode cX11_make 111 = .ok (.aload_n 0, 1) := by decide +kernel
theorem dX11_make_112 : decode cX11_make 112 = .ok (.getfield 137, 3) := by decide +kernel
theorem dX11_make_115 : decode cX11_make 115 = .ok (.if_icmp .ge 16, 3) := by decide +kernel
theorem dX11_make_118 : decode cX11_make 118 = .ok (.aload_n 0, 1) := by decide +kernel
theorem dX11_make_119 : decode cX11_make 119 = .ok (.dup, 1) := by decide +kernel
theorem dX11_make_120 : decode cX11_make 120 = .ok (.getfield 186, 3) := by decide +kernel
theorem dX11_make_123 : decode cX11_make 123 = .ok (.iconst 1, 1) := by decide +kernel
theorem dX11_make_124 : decode cX11_make 124 = .ok (.iadd, 1) := by decide +kernel
theorem dX11_make_125 : decode cX11_make 125 = .ok (.putfield 186, 3) := by decide +kernel
theorem dX11_make_128 : decode cX11_make 128 = .ok (.bipush 9, 2) := by decide +kernel
theorem dX11_make_130 : decode cX11_make 130 = .ok (.ireturn, 1) := by decide +kernel
theorem dX11_make_131 : decode cX11_make 131 = .ok (.aload_n 0, 1) := by decide +kernel
theorem dX11_make_132 : decode cX11_make 132 = .ok (.invokevirtual 189, 3) := by decide +kernel
theorem dX11_make_135 : decode cX11_make 135 = .ok (.aload_n 0, 1) := by decide +kernel
theorem dX11_make_136 : decode cX11_make 136 = .ok (.getfield 125, 3) := by decide +kernel
theorem dX11_make_139 : decode cX11_make 139 = .ok (.aload_n 0, 1) := by decide +kernel
theorem dX11_make_140 : decode cX11_make 140 = .ok (.getfield 137, 3) := by decide +kernel
theorem dX11_make_143 : decode cX11_make 143 = .ok (.isub, 1) := by decide +kernel
theorem dX11_make_144 : decode cX11_make 144 = .ok (.iload 4, 2) := by decide +kernel
theorem dX11_make_146 : decode cX11_make 146 = .ok (.if_icmp .ge 16, 3) := by decide +kernel
theorem dX11_make_149 : decode cX11_make 149 = .ok (.aload_n 0, 1) := by decide +kernel
theorem dX11_make_150 : decode cX11_make 150 = .ok (.dup, 1) := by decide +kernel
theorem dX11_make_151 : decode cX11_make 151 = .ok (.getfield 192, 3) := by decide +kernel
theorem dX11_make_154 : decode cX11_make 154 = .ok (.iconst 1, 1) := by decide +kernel
theorem dX11_make_155 : decode cX11_make 155 = .ok (.iadd, 1) := by decide +kernel
theorem dX11_make_156 : decode cX11_make 156 = .ok (.putfield 192, 3) := by decide +kernel
theorem dX11_make_159 : decode cX11_make 159 = .ok (.bipush 10, 2) := by decide +kernel
theorem dX11_make_161 : decode cX11_make 161 = .ok (.ireturn, 1) := by decide +kernel
theorem dX11_make_162 : decode cX11_make 162 = .ok (.iconst 0, 1) := by decide +kernel
theorem dX11_make_163 : decode cX11_make 163 = .ok (.istore 7, 2) := by decide +kernel
theorem dX11_make_165 : decode cX11_make 165 = .ok (.aload_n 0, 1) := by decide +kernel
theorem dX11_make_166 : decode cX11_make 166 = .ok (.getfield 17, 3) := by decide +kernel
theorem dX11_make_169 : decode cX11_make 169 = .ok (.iload 7, 2) := by decide +kernel
theorem dX11_make_171 : decode cX11_make 171 = .ok (.iaload, 1) := by decide +kernel
theorem dX11_make_172 : decode cX11_make 172 = .ok (.iconst (-1), 1) := by decide +kernel
theorem dX11_make_173 : decode cX11_make 173 = .ok (.if_icmp .eq 9, 3) := by decide +kernel
theorem dX11_make_176 : decode cX11_make 176 = .ok (.iinc 7 1, 3) := by decide +kernel
theorem dX11_make_179 : decode cX11_make 179 = .ok (.goto (-14), 3) := by decide +kernel
theorem dX11_make_182 : decode cX11_make 182 = .ok (.aload_n 0, 1) := by decide +kernel
theorem dX11_make_183 : decode cX11_make 183 = .ok (.dup, 1) := by decide +kernel
theorem dX11_make_184 : decode cX11_make 184 = .ok (.getfield 125, 3) := by decide +kernel
theorem dX11_make_187 : decode cX11_make 187 = .ok (.iload 4, 2) := by decide +kernel
theorem dX11_make_189 : decode cX11_make 189 = .ok (.isub, 1) := by decide +kernel
theorem dX11_make_190 : decode cX11_make 190 = .ok (.putfield 125, 3) := by decide +kernel
theorem dX11_make_193 : decode cX11_make 193 = .ok (.aload_n 0, 1) := by decide +kernel
theorem dX11_make_194 : decode cX11_make 194 = .ok (.getfield 17, 3) := by decide +kernel
theorem dX11_make_197 : decode cX11_make 197 = .ok (.iload 7, 2) := by decide +kernel
theorem dX11_make_199 : decode cX11_make 199 = .ok (.aload_n 0, 1) := by decide +kernel
theorem dX11_make_200 : decode cX11_make 200 = .ok (.getfield 134, 3) := by decide +kernel
theorem dX11_make_203 : decode cX11_make 203 = .ok (.iastore, 1) := by decide +kernel
theorem dX11_make_204 : decode cX11_make 204 = .ok (.aload_n 0, 1) := by decide +kernel
theorem dX11_make_205 : decode cX11_make 205 = .ok (.getfield 20, 3) := by decide +kernel
theorem dX11_make_208 : decode cX11_make 208 = .ok (.iload 7, 2) := by decide +kernel
theorem dX11_make_210 : decode cX11_make 210 = .ok (.aload_n 0, 1) := by decide +kernel
theorem dX11_make_211 : decode cX11_make 211 = .ok (.getfield 125, 3) := by decide +kernel
theorem dX11_make_214 : decode cX11_make 214 = .ok (.iastore, 1) := by decide +kernel
theorem dX11_make_215 : decode cX11_make 215 = .ok (.aload_n 0, 1) := by decide +kernel
theorem dX11_make_216 : decode cX11_make 216 = .ok (.getfield 9, 3) := by decide +kernel
theorem dX11_make_219 : decode cX11_make 219 = .ok (.iload 7, 2) := by decide +kernel
theorem dX11_make_221 : decode cX11_make 221 = .ok (.iload_n 3, 1) := by decide +kernel
theorem dX11_make_222 : decode cX11_make 222 = .ok (.bastore, 1) := by decide +kernel
theorem dX11_make_223 : decode cX11_make 223 = .ok (.aload_n 0, 1) := by decide +kernel
theorem dX11_make_224 : decode cX11_make 224 = .ok (.getfield 13, 3) := by decide +kernel
theorem dX11_make_227 : decode cX11_make 227 = .ok (.iload 7, 2) := by decide +kernel
theorem dX11_make_229 : decode cX11_make 229 = .ok (.iload_n 2, 1) := by decide +kernel
theorem dX11_make_230 : decode cX11_make 230 = .ok (.iastore, 1) := by decide +kernel
theorem dX11_make_231 : decode cX11_make 231 = .ok (.iconst 0, 1) := by decide +kernel
theorem dX11_make_232 : decode cX11_make 232 = .ok (.istore 8, 2) := by decide +kernel
theorem dX11_make_234 : decode cX11_make 234 = .ok (.iload 8, 2) := by decide +kernel
theorem dX11_make_236 : decode cX11_make 236 = .ok (.iload_n 2, 1) := by decide +kernel
theorem dX11_make_237 : decode cX11_make 237 = .ok (.if_icmp .ge 45, 3) := by decide +kernel
theorem dX11_make_240 : decode cX11_make 240 = .ok (.aload_n 0, 1) := by decide +kernel
theorem dX11_make_241 : decode cX11_make 241 = .ok (.getfield 24, 3) := by decide +kernel
theorem dX11_make_244 : decode cX11_make 244 = .ok (.bipush 40, 2) := by decide +kernel
theorem dX11_make_246 : decode cX11_make 246 = .ok (.iload 7, 2) := by decide +kernel
theorem dX11_make_248 : decode cX11_make 248 = .ok (.imul, 1) := by decide +kernel
theorem dX11_make_249 : decode cX11_make 249 = .ok (.iload 8, 2) := by decide +kernel
theorem dX11_make_251 : decode cX11_make 251 = .ok (.iadd, 1) := by decide +kernel
theorem dX11_make_252 : decode cX11_make 252 = .ok (.iload_n 3, 1) := by decide +kernel
theorem dX11_make_253 : decode cX11_make 253 = .ok (.ifCond .eq 7, 3) := by decide +kernel
theorem dX11_make_256 : decode cX11_make 256 = .ok (.iconst 1, 1) := by decide +kernel
theorem dX11_make_257 : decode cX11_make 257 = .ok (.goto 4, 3) := by decide +kernel
theorem dX11_make_260 : decode cX11_make 260 = .ok (.iconst 0, 1) := by decide +kernel
theorem dX11_make_261 : decode cX11_make 261 = .ok (.iastore, 1) := by decide +kernel
theorem dX11_make_262 : decode cX11_make 262 = .ok (.aload_n 0, 1) := by decide +kernel
theorem dX11_make_263 : decode cX11_make 263 = .ok (.getfield 27, 3) := by decide +kernel
theorem dX11_make_266 : decode cX11_make 266 = .ok (.bipush 40, 2) := by decide +kernel
theorem dX11_make_268 : decode cX11_make 268 = .ok (.iload 7, 2) := by decide +kernel
theorem dX11_make_270 : decode cX11_make 270 = .ok (.imul, 1) := by decide +kernel
theorem dX11_make_271 : decode cX11_make 271 = .ok (.iload 8, 2) := by decide +kernel
theorem dX11_make_273 : decode cX11_make 273 = .ok (.iadd, 1) := by decide +kernel
theorem dX11_make_274 : decode cX11_make 274 = .ok (.iconst 0, 1) := by decide +kernel
theorem dX11_make_275 : decode cX11_make 275 = .ok (.iastore, 1) := by decide +kernel
theorem dX11_make_276 : decode cX11_make 276 = .ok (.iinc 8 1, 3) := by decide +kernel
theorem dX11_make_279 : decode cX11_make 279 = .ok (.goto (-45), 3) := by decide +kernel
theorem dX11_make_282 : decode cX11_make 282 = .ok (.aload_n 0, 1) := by decide +kernel
theorem dX11_make_283 : decode cX11_make 283 = .ok (.dup, 1) := by decide +kernel
theorem dX11_make_284 : decode cX11_make 284 = .ok (.getfield 195, 3) := by decide +kernel
theorem dX11_make_287 : decode cX11_make 287 = .ok (.iconst 1, 1) := by decide +kernel
theorem dX11_make_288 : decode cX11_make 288 = .ok (.iadd, 1) := by decide +kernel
theorem dX11_make_289 : decode cX11_make 289 = .ok (.putfield 195, 3) := by decide +kernel
theorem dX11_make_292 : decode cX11_make 292 = .ok (.aload_n 0, 1) := by decide +kernel
theorem dX11_make_293 : decode cX11_make 293 = .ok (.getfield 30, 3) := by decide +kernel
theorem dX11_make_296 : decode cX11_make 296 = .ok (.iload_n 1, 1) := by decide +kernel
theorem dX11_make_297 : decode cX11_make 297 = .ok (.iconst 2, 1) := by decide +kernel
theorem dX11_make_298 : decode cX11_make 298 = .ok (.iastore, 1) := by decide +kernel
theorem dX11_make_299 : decode cX11_make 299 = .ok (.aload_n 0, 1) := by decide +kernel
theorem dX11_make_300 : decode cX11_make 300 = .ok (.getfield 33, 3) := by decide +kernel
theorem dX11_make_303 : decode cX11_make 303 = .ok (.iload_n 1, 1) := by decide +kernel
theorem dX11_make_304 : decode cX11_make 304 = .ok (.iload 7, 2) := by decide +kernel
theorem dX11_make_306 : decode cX11_make 306 = .ok (.iastore, 1) := by decide +kernel
theorem dX11_make_307 : decode cX11_make 307 = .ok (.iconst 0, 1) := by decide +kernel
theorem dX11_make_308 : decode cX11_make 308 = .ok (.ireturn, 1) := by decide +kernel
theorem dX11_pass_0 : decode cX11_pass 0 = .ok (.aload_n 0, 1) := by decide +kernel
theorem dX11_pass_1 : decode cX11_pass 1 = .ok (.iconst 0, 1) := by decide +kernel
theorem dX11_pass_2 : decode cX11_pass 2 = .ok (.putfield 131, 3) := by decide +kernel
theorem dX11_pass_5 : decode cX11_pass 5 = .ok (.iload_n 1, 1) := by decide +kernel
theorem dX11_pass_6 : decode cX11_pass 6 = .ok (.ifCond .lt 10, 3) := by decide +kernel
theorem dX11_pass_9 : decode cX11_pass 9 = .ok (.iload_n 1, 1) := by decide +kernel
theorem dX11_pass_10 : decode cX11_pass 10 = .ok (.sipush 1000, 3) := by decide +kernel
theorem dX11_pass_13 : decode cX11_pass 13 = .ok (.if_icmp .le 5, 3) := by decide +kernel
theorem dX11_pass_16 : decode cX11_pass 16 = .ok (.iconst (-1), 1) := by decide +kernel
theorem dX11_pass_17 : decode cX11_pass 17 = .ok (.ireturn, 1) := by decide +kernel
theorem dX11_pass_18 : decode cX11_pass 18 = .ok (.iconst 0, 1) := by decide +kernel
theorem dX11_pass_19 : decode cX11_pass 19 = .ok (.istore_n 2, 1) := by decide +kernel
theorem dX11_pass_20 : decode cX11_pass 20 = .ok (.iload_n 2, 1) := by decide +kernel
theorem dX11_pass_21 : decode cX11_pass 21 = .ok (.iload_n 1, 1) := by decide +kernel
theorem dX11_pass_22 : decode cX11_pass 22 = .ok (.if_icmp .ge 27, 3) := by decide +kernel
theorem dX11_pass_25 : decode cX11_pass 25 = .ok (.aload_n 0, 1) := by decide +kernel
theorem dX11_pass_26 : decode cX11_pass 26 = .ok (.getfield 153, 3) := by decide +kernel
theorem dX11_pass_29 : decode cX11_pass 29 = .ok (.aload_n 0, 1) := by decide +kernel
theorem dX11_pass_30 : decode cX11_pass 30 = .ok (.getfield 137, 3) := by decide +kernel
theorem dX11_pass_33 : decode cX11_pass 33 = .ok (.if_icmp .ge 16, 3) := by decide +kernel
theorem dX11_pass_36 : decode cX11_pass 36 = .ok (.aload_n 0, 1) := by decide +kernel
theorem dX11_pass_37 : decode cX11_pass 37 = .ok (.invokevirtual 179, 3) := by decide +kernel
theorem dX11_pass_40 : decode cX11_pass 40 = .ok (.ifCond .eq 9, 3) := by decide +kernel
theorem dX11_pass_43 : decode cX11_pass 43 = .ok (.iinc 2 1, 3) := by decide +kernel
theorem dX11_pass_46 : decode cX11_pass 46 = .ok (.goto (-26), 3) := by decide +kernel
theorem dX11_pass_49 : decode cX11_pass 49 = .ok (.iload_n 2, 1) := by decide +kernel
theorem dX11_pass_50 : decode cX11_pass 50 = .ok (.ireturn, 1) := by decide +kernel
theorem dX11_turn_0 : decode cX11_turn 0 = .ok (.aload_n 0, 1) := by decide +kernel
theorem dX11_turn_1 : decode cX11_turn 1 = .ok (.iconst 0, 1) := by decide +kernel
theorem dX11_turn_2 : decode cX11_turn 2 = .ok (.putfield 131, 3) := by decide +kernel
theorem dX11_turn_5 : decode cX11_turn 5 = .ok (.aload_n 0, 1) := by decide +kernel
theorem dX11_turn_6 : decode cX11_turn 6 = .ok (.getfield 153, 3) := by decide +kernel
theorem dX11_turn_9 : decode cX11_turn 9 = .ok (.aload_n 0, 1) := by decide +kernel
theorem dX11_turn_10 : decode cX11_turn 10 = .ok (.getfield 137, 3) := by decide +kernel
theorem dX11_turn_13 : decode cX11_turn 13 = .ok (.if_icmp .ge 5, 3) := by decide +kernel
theorem dX11_turn_16 : decode cX11_turn 16 = .ok (.iconst 0, 1) := by decide +kernel
theorem dX11_turn_17 : decode cX11_turn 17 = .ok (.ireturn, 1) := by decide +kernel
theorem dX11_turn_18 : decode cX11_turn 18 = .ok (.aload_n 0, 1) := by decide +kernel
theorem dX11_turn_19 : decode cX11_turn 19 = .ok (.invokevirtual 189, 3) := by decide +kernel
theorem dX11_turn_22 : decode cX11_turn 22 = .ok (.iconst 1, 1) := by decide +kernel
theorem dX11_turn_23 : decode cX11_turn 23 = .ok (.ireturn, 1) := by decide +kernel
theorem dX11_memory_0 : decode cX11_memory 0 = .ok (.aload_n 0, 1) := by decide +kernel
theorem dX11_memory_1 : decode cX11_memory 1 = .ok (.iconst 0, 1) := by decide +kernel
theorem dX11_memory_2 : decode cX11_memory 2 = .ok (.putfield 131, 3) := by decide +kernel
theorem dX11_memory_5 : decode cX11_memory 5 = .ok (.iload_n 1, 1) := by decide +kernel
theorem dX11_memory_6 : decode cX11_memory 6 = .ok (.tableswitch 149 0 14 #[74, 79, 84, 89, 94, 99, 104, 109, 114, 119, 124, 129, 134, 139, 144], 74) := by decide +kernel
theorem dX11_memory_80 : decode cX11_memory 80 = .ok (.aload_n 0, 1) := by decide +kernel
theorem dX11_memory_81 : decode cX11_memory 81 = .ok (.getfield 137, 3) := by decide +kernel
theorem dX11_memory_84 : decode cX11_memory 84 = .ok (.ireturn, 1) := by decide +kernel
theorem dX11_memory_85 : decode cX11_memory 85 = .ok (.aload_n 0, 1) := by decide +kernel
theorem dX11_memory_86 : decode cX11_memory 86 = .ok (.getfield 153, 3) := by decide +kernel
theorem dX11_memory_89 : decode cX11_memory 89 = .ok (.ireturn, 1) := by decide +kernel
theorem dX11_memory_90 : decode cX11_memory 90 = .ok (.aload_n 0, 1) := by decide +kernel
theorem dX11_memory_91 : decode cX11_memory 91 = .ok (.getfield 125, 3) := by decide +kernel
theorem dX11_memory_94 : decode cX11_memory 94 = .ok (.ireturn, 1) := by decide +kernel
theorem dX11_memory_95 : decode cX11_memory 95 = .ok (.aload_n 0, 1) := by decide +kernel
theorem dX11_memory_96 : decode cX11_memory 96 = .ok (.getfield 134, 3) := by decide +kernel
theorem dX11_memory_99 : decode cX11_memory 99 = .ok (.ireturn, 1) := by decide +kernel
theorem dX11_memory_100 : decode cX11_memory 100 = .ok (.aload_n 0, 1) := by decide +kernel
theorem dX11_memory_101 : decode cX11_memory 101 = .ok (.getfield 170, 3) := by decide +kernel
theorem dX11_memory_104 : decode cX11_memory 104 = .ok (.ireturn, 1) := by decide +kernel
theorem dX11_memory_105 : decode cX11_memory 105 = .ok (.aload_n 0, 1) := by decide +kernel
theorem dX11_memory_106 : decode cX11_memory 106 = .ok (.getfield 150, 3) := by decide +kernel
theorem dX11_memory_109 : decode cX11_memory 109 = .ok (.ireturn, 1) := by decide +kernel
theorem dX11_memory_110 : decode cX11_memory 110 = .ok (.aload_n 0, 1) := by decide +kernel
theorem dX11_memory_111 : decode cX11_memory 111 = .ok (.getfield 167, 3) := by decide +kernel
theorem dX11_memory_114 : decode cX11_memory 114 = .ok (.ireturn, 1) := by decide +kernel
theorem dX11_memory_115 : decode cX11_memory 115 = .ok (.aload_n 0, 1) := by decide +kernel
theorem dX11_memory_116 : decode cX11_memory 116 = .ok (.getfield 195, 3) := by decide +kernel
theorem dX11_memory_119 : decode cX11_memory 119 = .ok (.ireturn, 1) := by decide +kernel
theorem dX11_memory_120 : decode cX11_memory 120 = .ok (.aload_n 0, 1) := by decide +kernel
theorem dX11_memory_121 : decode cX11_memory 121 = .ok (.getfield 144, 3) := by decide +kernel
theorem dX11_memory_124 : decode cX11_memory 124 = .ok (.ireturn, 1) := by decide +kernel
theorem dX11_memory_125 : decode cX11_memory 125 = .ok (.aload_n 0, 1) := by decide +kernel
theorem dX11_memory_126 : decode cX11_memory 126 = .ok (.getfield 186, 3) := by decide +kernel
theorem dX11_memory_129 : decode cX11_memory 129 = .ok (.ireturn, 1) := by decide +kernel
theorem dX11_memory_130 : decode cX11_memory 130 = .ok (.aload_n 0, 1) := by decide +kernel
theorem dX11_memory_131 : decode cX11_memory 131 = .ok (.getfield 192, 3) := by decide +kernel
theorem dX11_memory_134 : decode cX11_memory 134 = .ok (.ireturn, 1) := by decide +kernel
theorem dX11_memory_135 : decode cX11_memory 135 = .ok (.aload_n 0, 1) := by decide +kernel
theorem dX11_memory_136 : decode cX11_memory 136 = .ok (.getfield 183, 3) := by decide +kernel
theorem dX11_memory_139 : decode cX11_memory 139 = .ok (.ireturn, 1) := by decide +kernel
theorem dX11_memory_140 : decode cX11_memory 140 = .ok (.aload_n 0, 1) := by decide +kernel
theorem dX11_memory_141 : decode cX11_memory 141 = .ok (.getfield 176, 3) := by decide +kernel
theorem dX11_memory_144 : decode cX11_memory 144 = .ok (.ireturn, 1) := by decide +kernel
theorem dX11_memory_145 : decode cX11_memory 145 = .ok (.aload_n 0, 1) := by decide +kernel
theorem dX11_memory_146 : decode cX11_memory 146 = .ok (.getfield 119, 3) := by decide +kernel
theorem dX11_memory_149 : decode cX11_memory 149 = .ok (.ireturn, 1) := by decide +kernel
theorem dX11_memory_150 : decode cX11_memory 150 = .ok (.aload_n 0, 1) := by decide +kernel
theorem dX11_memory_151 : decode cX11_memory 151 = .ok (.getfield 122, 3) := by decide +kernel
theorem dX11_memory_154 : decode cX11_memory 154 = .ok (.ireturn, 1) := by decide +kernel
theorem dX11_memory_155 : decode cX11_memory 155 = .ok (.iconst (-1), 1) := by decide +kernel
theorem dX11_memory_156 : decode cX11_memory 156 = .ok (.ireturn, 1) := by decide +kernel
theorem dX11_isNumber_0 : decode cX11_isNumber 0 = .ok (.aload_n 0, 1) := by decide +kernel
theorem dX11_isNumber_1 : decode cX11_isNumber 1 = .ok (.getfield 30, 3) := by decide +kernel
theorem dX11_isNumber_4 : decode cX11_isNumber 4 = .ok (.iload_n 1, 1) := by decide +kernel
theorem dX11_isNumber_5 : decode cX11_isNumber 5 = .ok (.iaload, 1) := by decide +kernel
theorem dX11_isNumber_6 : decode cX11_isNumber 6 = .ok (.ifCond .ne 7, 3) := by decide +kernel
theorem dX11_isNumber_9 : decode cX11_isNumber 9 = .ok (.iconst 1, 1) := by decide +kernel
theorem dX11_isNumber_10 : decode cX11_isNumber 10 = .ok (.goto 4, 3) := by decide +kernel
theorem dX11_isNumber_13 : decode cX11_isNumber 13 = .ok (.iconst 0, 1) := by decide +kernel
theorem dX11_isNumber_14 : decode cX11_isNumber 14 = .ok (.ireturn, 1) := by decide +kernel
theorem dX11_isThing_0 : decode cX11_isThing 0 = .ok (.aload_n 0, 1) := by decide +kernel
theorem dX11_isThing_1 : decode cX11_isThing 1 = .ok (.getfield 30, 3) := by decide +kernel
theorem dX11_isThing_4 : decode cX11_isThing 4 = .ok (.iload_n 1, 1) := by decide +kernel
theorem dX11_isThing_5 : decode cX11_isThing 5 = .ok (.iaload, 1) := by decide +kernel
theorem dX11_isThing_6 : decode cX11_isThing 6 = .ok (.iconst 2, 1) := by decide +kernel
theorem dX11_isThing_7 : decode cX11_isThing 7 = .ok (.if_icmp .ne 7, 3) := by decide +kernel
theorem dX11_isThing_10 : decode cX11_isThing 10 = .ok (.iconst 1, 1) := by decide +kernel
theorem dX11_isThing_11 : decode cX11_isThing 11 = .ok (.goto 4, 3) := by decide +kernel
theorem dX11_isThing_14 : decode cX11_isThing 14 = .ok (.iconst 0, 1) := by decide +kernel
theorem dX11_isThing_15 : decode cX11_isThing 15 = .ok (.ireturn, 1) := by decide +kernel
theorem dX11_give_0 : decode cX11_give 0 = .ok (.aload_n 0, 1) := by decide +kernel
theorem dX11_give_1 : decode cX11_give 1 = .ok (.getfield 30, 3) := by decide +kernel
theorem dX11_give_4 : decode cX11_give 4 = .ok (.iload_n 1, 1) := by decide +kernel
theorem dX11_give_5 : decode cX11_give 5 = .ok (.iload_n 2, 1) := by decide +kernel
theorem dX11_give_6 : decode cX11_give 6 = .ok (.iastore, 1) := by decide +kernel
theorem dX11_give_7 : decode cX11_give 7 = .ok (.aload_n 0, 1) := by decide +kernel
theorem dX11_give_8 : decode cX11_give 8 = .ok (.getfield 33, 3) := by decide +kernel
theorem dX11_give_11 : decode cX11_give 11 = .ok (.iload_n 1, 1) := by decide +kernel
theorem dX11_give_12 : decode cX11_give 12 = .ok (.iload_n 3, 1) := by decide +kernel
theorem dX11_give_13 : decode cX11_give 13 = .ok (.iastore, 1) := by decide +kernel
theorem dX11_give_14 : decode cX11_give 14 = .ok (.return_, 1) := by decide +kernel
theorem dX11_makes_0 : decode cX11_makes 0 = .ok (.iload_n 2, 1) := by decide +kernel
theorem dX11_makes_1 : decode cX11_makes 1 = .ok (.ifCond .lt 9, 3) := by decide +kernel
theorem dX11_makes_4 : decode cX11_makes 4 = .ok (.iload_n 2, 1) := by decide +kernel
theorem dX11_makes_5 : decode cX11_makes 5 = .ok (.bipush 40, 2) := by decide +kernel
theorem dX11_makes_7 : decode cX11_makes 7 = .ok (.if_icmp .le 7, 3) := by decide +kernel
theorem dX11_makes_10 : decode cX11_makes 10 = .ok (.iconst 4, 1) := by decide +kernel
theorem dX11_makes_11 : decode cX11_makes 11 = .ok (.goto 10, 3) := by decide +kernel
theorem dX11_makes_14 : decode cX11_makes 14 = .ok (.aload_n 0, 1) := by decide +kernel
theorem dX11_makes_15 : decode cX11_makes 15 = .ok (.iload_n 1, 1) := by decide +kernel
theorem dX11_makes_16 : decode cX11_makes 16 = .ok (.iload_n 2, 1) := by decide +kernel
theorem dX11_makes_17 : decode cX11_makes 17 = .ok (.iload_n 3, 1) := by decide +kernel
theorem dX11_makes_18 : decode cX11_makes 18 = .ok (.invokevirtual 198, 3) := by decide +kernel
theorem dX11_makes_21 : decode cX11_makes 21 = .ok (.ireturn, 1) := by decide +kernel
theorem dX11_reads_0 : decode cX11_reads 0 = .ok (.aload_n 0, 1) := by decide +kernel
theorem dX11_reads_1 : decode cX11_reads 1 = .ok (.iload_n 2, 1) := by decide +kernel
theorem dX11_reads_2 : decode cX11_reads 2 = .ok (.invokevirtual 202, 3) := by decide +kernel
theorem dX11_reads_5 : decode cX11_reads 5 = .ok (.ifCond .ne 5, 3) := by decide +kernel
theorem dX11_reads_8 : decode cX11_reads 8 = .ok (.iconst 2, 1) := by decide +kernel
theorem dX11_reads_9 : decode cX11_reads 9 = .ok (.ireturn, 1) := by decide +kernel
theorem dX11_reads_10 : decode cX11_reads 10 = .ok (.aload_n 0, 1) := by decide +kernel
theorem dX11_reads_11 : decode cX11_reads 11 = .ok (.getfield 33, 3) := by decide +kernel
theorem dX11_reads_14 : decode cX11_reads 14 = .ok (.iload_n 2, 1) := by decide +kernel
theorem dX11_reads_15 : decode cX11_reads 15 = .ok (.iaload, 1) := by decide +kernel
theorem dX11_reads_16 : decode cX11_reads 16 = .ok (.istore 4, 2) := by decide +kernel
theorem dX11_reads_18 : decode cX11_reads 18 = .ok (.iload_n 3, 1) := by decide +kernel
theorem dX11_reads_19 : decode cX11_reads 19 = .ok (.ifCond .lt 14, 3) := by decide +kernel
theorem dX11_reads_22 : decode cX11_reads 22 = .ok (.iload_n 3, 1) := by decide +kernel
theorem dX11_reads_23 : decode cX11_reads 23 = .ok (.aload_n 0, 1) := by decide +kernel
theorem dX11_reads_24 : decode cX11_reads 24 = .ok (.getfield 13, 3) := by decide +kernel
theorem dX11_reads_27 : decode cX11_reads 27 = .ok (.iload 4, 2) := by decide +kernel
theorem dX11_reads_29 : decode cX11_reads 29 = .ok (.iaload, 1) := by decide +kernel
theorem dX11_reads_30 : decode cX11_reads 30 = .ok (.if_icmp .lt 5, 3) := by decide +kernel
theorem dX11_reads_33 : decode cX11_reads 33 = .ok (.iconst 3, 1) := by decide +kernel
theorem dX11_reads_34 : decode cX11_reads 34 = .ok (.ireturn, 1) := by decide +kernel
theorem dX11_reads_35 : decode cX11_reads 35 = .ok (.bipush 40, 2) := by decide +kernel
theorem dX11_reads_37 : decode cX11_reads 37 = .ok (.iload 4, 2) := by decide +kernel
theorem dX11_reads_39 : decode cX11_reads 39 = .ok (.imul, 1) := by decide +kernel
theorem dX11_reads_40 : decode cX11_reads 40 = .ok (.iload_n 3, 1) := by decide +kernel
theorem dX11_reads_41 : decode cX11_reads 41 = .ok (.iadd, 1) := by decide +kernel
theorem dX11_reads_42 : decode cX11_reads 42 = .ok (.istore 5, 2) := by decide +kernel
theorem dX11_reads_44 : decode cX11_reads 44 = .ok (.aload_n 0, 1) := by decide +kernel
theorem dX11_reads_45 : decode cX11_reads 45 = .ok (.aload_n 0, 1) := by decide +kernel
theorem dX11_reads_46 : decode cX11_reads 46 = .ok (.getfield 24, 3) := by decide +kernel
theorem dX11_reads_49 : decode cX11_reads 49 = .ok (.iload 5, 2) := by decide +kernel
theorem dX11_reads_51 : decode cX11_reads 51 = .ok (.iaload, 1) := by decide +kernel
theorem dX11_reads_52 : decode cX11_reads 52 = .ok (.aload_n 0, 1) := by decide +kernel
theorem dX11_reads_53 : decode cX11_reads 53 = .ok (.getfield 27, 3) := by decide +kernel
theorem dX11_reads_56 : decode cX11_reads 56 = .ok (.iload 5, 2) := by decide +kernel
theorem dX11_reads_58 : decode cX11_reads 58 = .ok (.iaload, 1) := by decide +kernel
theorem dX11_reads_59 : decode cX11_reads 59 = .ok (.invokevirtual 159, 3) := by decide +kernel
theorem dX11_reads_62 : decode cX11_reads 62 = .ok (.ifCond .eq 20, 3) := by decide +kernel
theorem dX11_reads_65 : decode cX11_reads 65 = .ok (.aload_n 0, 1) := by decide +kernel
theorem dX11_reads_66 : decode cX11_reads 66 = .ok (.aload_n 0, 1) := by decide +kernel
theorem dX11_reads_67 : decode cX11_reads 67 = .ok (.getfield 27, 3) := by decide +kernel
theorem dX11_reads_70 : decode cX11_reads 70 = .ok (.iload 5, 2) := by decide +kernel
theorem dX11_reads_72 : decode cX11_reads 72 = .ok (.iaload, 1) := by decide +kernel
theorem dX11_reads_73 : decode cX11_reads 73 = .ok (.invokevirtual 163, 3) := by decide +kernel
theorem dX11_reads_76 : decode cX11_reads 76 = .ok (.ifCond .ne 6, 3) := by decide +kernel
theorem dX11_reads_79 : decode cX11_reads 79 = .ok (.bipush 8, 2) := by decide +kernel
theorem dX11_reads_81 : decode cX11_reads 81 = .ok (.ireturn, 1) := by decide +kernel
theorem dX11_reads_82 : decode cX11_reads 82 = .ok (.aload_n 0, 1) := by decide +kernel
theorem dX11_reads_83 : decode cX11_reads 83 = .ok (.iload_n 1, 1) := by decide +kernel
theorem dX11_reads_84 : decode cX11_reads 84 = .ok (.aload_n 0, 1) := by decide +kernel
theorem dX11_reads_85 : decode cX11_reads 85 = .ok (.getfield 24, 3) := by decide +kernel
theorem dX11_reads_88 : decode cX11_reads 88 = .ok (.iload 5, 2) := by decide +kernel
theorem dX11_reads_90 : decode cX11_reads 90 = .ok (.iaload, 1) := by decide +kernel
theorem dX11_reads_91 : decode cX11_reads 91 = .ok (.aload_n 0, 1) := by decide +kernel
theorem dX11_reads_92 : decode cX11_reads 92 = .ok (.getfield 27, 3) := by decide +kernel
theorem dX11_reads_95 : decode cX11_reads 95 = .ok (.iload 5, 2) := by decide +kernel
theorem dX11_reads_97 : decode cX11_reads 97 = .ok (.iaload, 1) := by decide +kernel
theorem dX11_reads_98 : decode cX11_reads 98 = .ok (.invokevirtual 205, 3) := by decide +kernel
theorem dX11_reads_101 : decode cX11_reads 101 = .ok (.iconst 0, 1) := by decide +kernel
theorem dX11_reads_102 : decode cX11_reads 102 = .ok (.ireturn, 1) := by decide +kernel
theorem dX11_writes_0 : decode cX11_writes 0 = .ok (.aload_n 0, 1) := by decide +kernel
theorem dX11_writes_1 : decode cX11_writes 1 = .ok (.iload_n 1, 1) := by decide +kernel
theorem dX11_writes_2 : decode cX11_writes 2 = .ok (.invokevirtual 202, 3) := by decide +kernel
theorem dX11_writes_5 : decode cX11_writes 5 = .ok (.ifCond .ne 5, 3) := by decide +kernel
theorem dX11_writes_8 : decode cX11_writes 8 = .ok (.iconst 2, 1) := by decide +kernel
theorem dX11_writes_9 : decode cX11_writes 9 = .ok (.ireturn, 1) := by decide +kernel
theorem dX11_writes_10 : decode cX11_writes 10 = .ok (.aload_n 0, 1) := by decide +kernel
theorem dX11_writes_11 : decode cX11_writes 11 = .ok (.getfield 33, 3) := by decide +kernel
theorem dX11_writes_14 : decode cX11_writes 14 = .ok (.iload_n 1, 1) := by decide +kernel
theorem dX11_writes_15 : decode cX11_writes 15 = .ok (.iaload, 1) := by decide +kernel
theorem dX11_writes_16 : decode cX11_writes 16 = .ok (.istore 4, 2) := by decide +kernel
theorem dX11_writes_18 : decode cX11_writes 18 = .ok (.iload_n 2, 1) := by decide +kernel
theorem dX11_writes_19 : decode cX11_writes 19 = .ok (.ifCond .lt 14, 3) := by decide +kernel
theorem dX11_writes_22 : decode cX11_writes 22 = .ok (.iload_n 2, 1) := by decide +kernel
theorem dX11_writes_23 : decode cX11_writes 23 = .ok (.aload_n 0, 1) := by decide +kernel
theorem dX11_writes_24 : decode cX11_writes 24 = .ok (.getfield 13, 3) := by decide +kernel
theorem dX11_writes_27 : decode cX11_writes 27 = .ok (.iload 4, 2) := by decide +kernel
theorem dX11_writes_29 : decode cX11_writes 29 = .ok (.iaload, 1) := by decide +kernel
theorem dX11_writes_30 : decode cX11_writes 30 = .ok (.if_icmp .lt 5, 3) := by decide +kernel
theorem dX11_writes_33 : decode cX11_writes 33 = .ok (.iconst 3, 1) := by decide +kernel
theorem dX11_writes_34 : decode cX11_writes 34 = .ok (.ireturn, 1) := by decide +kernel
theorem dX11_writes_35 : decode cX11_writes 35 = .ok (.aload_n 0, 1) := by decide +kernel
theorem dX11_writes_36 : decode cX11_writes 36 = .ok (.getfield 9, 3) := by decide +kernel
theorem dX11_writes_39 : decode cX11_writes 39 = .ok (.iload 4, 2) := by decide +kernel
theorem dX11_writes_41 : decode cX11_writes 41 = .ok (.baload, 1) := by decide +kernel
theorem dX11_writes_42 : decode cX11_writes 42 = .ok (.ifCond .ne 13, 3) := by decide +kernel
theorem dX11_writes_45 : decode cX11_writes 45 = .ok (.aload_n 0, 1) := by decide +kernel
theorem dX11_writes_46 : decode cX11_writes 46 = .ok (.iload_n 3, 1) := by decide +kernel
theorem dX11_writes_47 : decode cX11_writes 47 = .ok (.invokevirtual 209, 3) := by decide +kernel
theorem dX11_writes_50 : decode cX11_writes 50 = .ok (.ifCond .ne 5, 3) := by decide +kernel
theorem dX11_writes_53 : decode cX11_writes 53 = .ok (.iconst 5, 1) := by decide +kernel
theorem dX11_writes_54 : decode cX11_writes 54 = .ok (.ireturn, 1) := by decide +kernel
theorem dX11_writes_55 : decode cX11_writes 55 = .ok (.aload_n 0, 1) := by decide +kernel
theorem dX11_writes_56 : decode cX11_writes 56 = .ok (.getfield 24, 3) := by decide +kernel
theorem dX11_writes_59 : decode cX11_writes 59 = .ok (.bipush 40, 2) := by decide +kernel
theorem dX11_writes_61 : decode cX11_writes 61 = .ok (.iload 4, 2) := by decide +kernel
theorem dX11_writes_63 : decode cX11_writes 63 = .ok (.imul, 1) := by decide +kernel
theorem dX11_writes_64 : decode cX11_writes 64 = .ok (.iload_n 2, 1) := by decide +kernel
theorem dX11_writes_65 : decode cX11_writes 65 = .ok (.iadd, 1) := by decide +kernel
theorem dX11_writes_66 : decode cX11_writes 66 = .ok (.aload_n 0, 1) := by decide +kernel
theorem dX11_writes_67 : decode cX11_writes 67 = .ok (.getfield 30, 3) := by decide +kernel
theorem dX11_writes_70 : decode cX11_writes 70 = .ok (.iload_n 3, 1) := by decide +kernel
theorem dX11_writes_71 : decode cX11_writes 71 = .ok (.iaload, 1) := by decide +kernel
theorem dX11_writes_72 : decode cX11_writes 72 = .ok (.iastore, 1) := by decide +kernel
theorem dX11_writes_73 : decode cX11_writes 73 = .ok (.aload_n 0, 1) := by decide +kernel
theorem dX11_writes_74 : decode cX11_writes 74 = .ok (.getfield 27, 3) := by decide +kernel
theorem dX11_writes_77 : decode cX11_writes 77 = .ok (.bipush 40, 2) := by decide +kernel
theorem dX11_writes_79 : decode cX11_writes 79 = .ok (.iload 4, 2) := by decide +kernel
theorem dX11_writes_81 : decode cX11_writes 81 = .ok (.imul, 1) := by decide +kernel
theorem dX11_writes_82 : decode cX11_writes 82 = .ok (.iload_n 2, 1) := by decide +kernel
theorem dX11_writes_83 : decode cX11_writes 83 = .ok (.iadd, 1) := by decide +kernel
theorem dX11_writes_84 : decode cX11_writes 84 = .ok (.aload_n 0, 1) := by decide +kernel
theorem dX11_writes_85 : decode cX11_writes 85 = .ok (.getfield 33, 3) := by decide +kernel
theorem dX11_writes_88 : decode cX11_writes 88 = .ok (.iload_n 3, 1) := by decide +kernel
theorem dX11_writes_89 : decode cX11_writes 89 = .ok (.iaload, 1) := by decide +kernel
theorem dX11_writes_90 : decode cX11_writes 90 = .ok (.iastore, 1) := by decide +kernel
theorem dX11_writes_91 : decode cX11_writes 91 = .ok (.iconst 0, 1) := by decide +kernel
theorem dX11_writes_92 : decode cX11_writes 92 = .ok (.ireturn, 1) := by decide +kernel
theorem dX11_sortOf_0 : decode cX11_sortOf 0 = .ok (.iload_n 1, 1) := by decide +kernel
theorem dX11_sortOf_1 : decode cX11_sortOf 1 = .ok (.ifCond .ne 7, 3) := by decide +kernel
theorem dX11_sortOf_4 : decode cX11_sortOf 4 = .ok (.iconst 0, 1) := by decide +kernel
theorem dX11_sortOf_5 : decode cX11_sortOf 5 = .ok (.goto 26, 3) := by decide +kernel
theorem dX11_sortOf_8 : decode cX11_sortOf 8 = .ok (.iload_n 1, 1) := by decide +kernel
theorem dX11_sortOf_9 : decode cX11_sortOf 9 = .ok (.iconst 1, 1) := by decide +kernel
theorem dX11_sortOf_10 : decode cX11_sortOf 10 = .ok (.if_icmp .ne 7, 3) := by decide +kernel
theorem dX11_sortOf_13 : decode cX11_sortOf 13 = .ok (.iconst 1, 1) := by decide +kernel
theorem dX11_sortOf_14 : decode cX11_sortOf 14 = .ok (.goto 17, 3) := by decide +kernel
theorem dX11_sortOf_17 : decode cX11_sortOf 17 = .ok (.aload_n 0, 1) := by decide +kernel
theorem dX11_sortOf_18 : decode cX11_sortOf 18 = .ok (.getfield 9, 3) := by decide +kernel
theorem dX11_sortOf_21 : decode cX11_sortOf 21 = .ok (.iload_n 2, 1) := by decide +kernel
theorem dX11_sortOf_22 : decode cX11_sortOf 22 = .ok (.baload, 1) := by decide +kernel
theorem dX11_sortOf_23 : decode cX11_sortOf 23 = .ok (.ifCond .eq 7, 3) := by decide +kernel
theorem dX11_sortOf_26 : decode cX11_sortOf 26 = .ok (.iconst 2, 1) := by decide +kernel
theorem dX11_sortOf_27 : decode cX11_sortOf 27 = .ok (.goto 4, 3) := by decide +kernel
theorem dX11_sortOf_30 : decode cX11_sortOf 30 = .ok (.iconst 3, 1) := by decide +kernel
theorem dX11_sortOf_31 : decode cX11_sortOf 31 = .ok (.ireturn, 1) := by decide +kernel
theorem dX11_reckons_0 : decode cX11_reckons 0 = .ok (.aload_n 0, 1) := by decide +kernel
theorem dX11_reckons_1 : decode cX11_reckons 1 = .ok (.iload_n 3, 1) := by decide +kernel
theorem dX11_reckons_2 : decode cX11_reckons 2 = .ok (.invokevirtual 209, 3) := by decide +kernel
theorem dX11_reckons_5 : decode cX11_reckons 5 = .ok (.ifCond .eq 12, 3) := by decide +kernel
theorem dX11_reckons_8 : decode cX11_reckons 8 = .ok (.aload_n 0, 1) := by decide +kernel
theorem dX11_reckons_9 : decode cX11_reckons 9 = .ok (.iload 4, 2) := by decide +kernel
theorem dX11_reckons_11 : decode cX11_reckons 11 = .ok (.invokevirtual 209, 3) := by decide +kernel
theorem dX11_reckons_14 : decode cX11_reckons 14 = .ok (.ifCond .ne 5, 3) := by decide +kernel
theorem dX11_reckons_17 : decode cX11_reckons 17 = .ok (.iconst 1, 1) := by decide +kernel
theorem dX11_reckons_18 : decode cX11_reckons 18 = .ok (.ireturn, 1) := by decide +kernel
theorem dX11_reckons_19 : decode cX11_reckons 19 = .ok (.aload_n 0, 1) := by decide +kernel
theorem dX11_reckons_20 : decode cX11_reckons 20 = .ok (.getfield 33, 3) := by decide +kernel
theorem dX11_reckons_23 : decode cX11_reckons 23 = .ok (.iload_n 3, 1) := by decide +kernel
theorem dX11_reckons_24 : decode cX11_reckons 24 = .ok (.iaload, 1) := by decide +kernel
theorem dX11_reckons_25 : decode cX11_reckons 25 = .ok (.istore 5, 2) := by decide +kernel
theorem dX11_reckons_27 : decode cX11_reckons 27 = .ok (.aload_n 0, 1) := by decide +kernel
theorem dX11_reckons_28 : decode cX11_reckons 28 = .ok (.getfield 33, 3) := by decide +kernel
theorem dX11_reckons_31 : decode cX11_reckons 31 = .ok (.iload 4, 2) := by decide +kernel
theorem dX11_reckons_33 : decode cX11_reckons 33 = .ok (.iaload, 1) := by decide +kernel
theorem dX11_reckons_34 : decode cX11_reckons 34 = .ok (.istore 6, 2) := by decide +kernel
theorem dX11_reckons_36 : decode cX11_reckons 36 = .ok (.aload_n 0, 1) := by decide +kernel
theorem dX11_reckons_37 : decode cX11_reckons 37 = .ok (.iload_n 2, 1) := by decide +kernel
theorem dX11_reckons_38 : decode cX11_reckons 38 = .ok (.iconst 0, 1) := by decide +kernel
theorem dX11_reckons_39 : decode cX11_reckons 39 = .ok (.iload_n 1, 1) := by decide +kernel
theorem dX11_reckons_40 : decode cX11_reckons 40 = .ok (.bipush 13, 2) := by decide +kernel
theorem dX11_reckons_42 : decode cX11_reckons 42 = .ok (.if_icmp .ne 11, 3) := by decide +kernel
theorem dX11_reckons_45 : decode cX11_reckons 45 = .ok (.iload 5, 2) := by decide +kernel
theorem dX11_reckons_47 : decode cX11_reckons 47 = .ok (.iload 6, 2) := by decide +kernel
theorem dX11_reckons_49 : decode cX11_reckons 49 = .ok (.iadd, 1) := by decide +kernel
theorem dX11_reckons_50 : decode cX11_reckons 50 = .ok (.goto 43, 3) := by decide +kernel
theorem dX11_reckons_53 : decode cX11_reckons 53 = .ok (.iload_n 1, 1) := by decide +kernel
theorem dX11_reckons_54 : decode cX11_reckons 54 = .ok (.bipush 14, 2) := by decide +kernel
theorem dX11_reckons_56 : decode cX11_reckons 56 = .ok (.if_icmp .ne 11, 3) := by decide +kernel
theorem dX11_reckons_59 : decode cX11_reckons 59 = .ok (.iload 5, 2) := by decide +kernel
theorem dX11_reckons_61 : decode cX11_reckons 61 = .ok (.iload 6, 2) := by decide +kernel
theorem dX11_reckons_63 : decode cX11_reckons 63 = .ok (.isub, 1) := by decide +kernel
theorem dX11_reckons_64 : decode cX11_reckons 64 = .ok (.goto 29, 3) := by decide +kernel
theorem dX11_reckons_67 : decode cX11_reckons 67 = .ok (.iload_n 1, 1) := by decide +kernel
theorem dX11_reckons_68 : decode cX11_reckons 68 = .ok (.bipush 15, 2) := by decide +kernel
theorem dX11_reckons_70 : decode cX11_reckons 70 = .ok (.if_icmp .ne 11, 3) := by decide +kernel
theorem dX11_reckons_73 : decode cX11_reckons 73 = .ok (.iload 5, 2) := by decide +kernel
theorem dX11_reckons_75 : decode cX11_reckons 75 = .ok (.iload 6, 2) := by decide +kernel
theorem dX11_reckons_77 : decode cX11_reckons 77 = .ok (.imul, 1) := by decide +kernel
theorem dX11_reckons_78 : decode cX11_reckons 78 = .ok (.goto 15, 3) := by decide +kernel
theorem dX11_reckons_81 : decode cX11_reckons 81 = .ok (.iload 5, 2) := by decide +kernel
theorem dX11_reckons_83 : decode cX11_reckons 83 = .ok (.iload 6, 2) := by decide +kernel
theorem dX11_reckons_85 : decode cX11_reckons 85 = .ok (.if_icmp .ge 7, 3) := by decide +kernel
theorem dX11_reckons_88 : decode cX11_reckons 88 = .ok (.iconst 1, 1) := by decide +kernel
theorem dX11_reckons_89 : decode cX11_reckons 89 = .ok (.goto 4, 3) := by decide +kernel
theorem dX11_reckons_92 : decode cX11_reckons 92 = .ok (.iconst 0, 1) := by decide +kernel
theorem dX11_reckons_93 : decode cX11_reckons 93 = .ok (.invokevirtual 205, 3) := by decide +kernel
theorem dX11_reckons_96 : decode cX11_reckons 96 = .ok (.iconst 0, 1) := by decide +kernel
theorem dX11_reckons_97 : decode cX11_reckons 97 = .ok (.ireturn, 1) := by decide +kernel
theorem dX11_does_0 : decode cX11_does 0 = .ok (.iload_n 1, 1) := by decide +kernel
theorem dX11_does_1 : decode cX11_does 1 = .ok (.tableswitch 460 0 19 #[95, 104, 123, 132, 132, 149, 149, 183, 192, 219, 228, 254, 283, 460, 460, 460, 460, 307, 362, 409], 95) := by decide +kernel
theorem dX11_does_96 : decode cX11_does 96 = .ok (.aload_n 0, 1) := by decide +kernel
theorem dX11_does_97 : decode cX11_does 97 = .ok (.iload_n 2, 1) := by decide +kernel
theorem dX11_does_98 : decode cX11_does 98 = .ok (.iconst 0, 1) := by decide +kernel
theorem dX11_does_99 : decode cX11_does 99 = .ok (.iload_n 3, 1) := by decide +kernel
theorem dX11_does_100 : decode cX11_does 100 = .ok (.invokevirtual 205, 3) := by decide +kernel
theorem dX11_does_103 : decode cX11_does 103 = .ok (.iconst 0, 1) := by decide +kernel
theorem dX11_does_104 : decode cX11_does 104 = .ok (.ireturn, 1) := by decide +kernel
theorem dX11_does_105 : decode cX11_does 105 = .ok (.aload_n 0, 1) := by decide +kernel
theorem dX11_does_106 : decode cX11_does 106 = .ok (.iload_n 2, 1) := by decide +kernel
theorem dX11_does_107 : decode cX11_does 107 = .ok (.aload_n 0, 1) := by decide +kernel
theorem dX11_does_108 : decode cX11_does 108 = .ok (.getfield 30, 3) := by decide +kernel
theorem dX11_does_111 : decode cX11_does 111 = .ok (.iload_n 3, 1) := by decide +kernel
theorem dX11_does_112 : decode cX11_does 112 = .ok (.iaload, 1) := by decide +kernel
theorem dX11_does_113 : decode cX11_does 113 = .ok (.aload_n 0, 1) := by decide +kernel
theorem dX11_does_114 : decode cX11_does 114 = .ok (.getfield 33, 3) := by decide +kernel
theorem dX11_does_117 : decode cX11_does 117 = .ok (.iload_n 3, 1) := by decide +kernel
theorem dX11_does_118 : decode cX11_does 118 = .ok (.iaload, 1) := by decide +kernel
theorem dX11_does_119 : decode cX11_does 119 = .ok (.invokevirtual 205, 3) := by decide +kernel
theorem dX11_does_122 : decode cX11_does 122 = .ok (.iconst 0, 1) := by decide +kernel
theorem dX11_does_123 : decode cX11_does 123 = .ok (.ireturn, 1) := by decide +kernel
theorem dX11_does_124 : decode cX11_does 124 = .ok (.aload_n 0, 1) := by decide +kernel
theorem dX11_does_125 : decode cX11_does 125 = .ok (.iload_n 2, 1) := by decide +kernel
theorem dX11_does_126 : decode cX11_does 126 = .ok (.iconst 1, 1) := by decide +kernel
theorem dX11_does_127 : decode cX11_does 127 = .ok (.iconst 0, 1) := by decide +kernel
theorem dX11_does_128 : decode cX11_does 128 = .ok (.invokevirtual 205, 3) := by decide +kernel
theorem dX11_does_131 : decode cX11_does 131 = .ok (.iconst 0, 1) := by decide +kernel
theorem dX11_does_132 : decode cX11_does 132 = .ok (.ireturn, 1) := by decide +kernel
theorem dX11_does_133 : decode cX11_does 133 = .ok (.aload_n 0, 1) := by decide +kernel
theorem dX11_does_134 : decode cX11_does 134 = .ok (.iload_n 2, 1) := by decide +kernel
theorem dX11_does_135 : decode cX11_does 135 = .ok (.iload_n 3, 1) := by decide +kernel
theorem dX11_does_136 : decode cX11_does 136 = .ok (.iload_n 1, 1) := by decide +kernel
theorem dX11_does_137 : decode cX11_does 137 = .ok (.iconst 3, 1) := by decide +kernel
theorem dX11_does_138 : decode cX11_does 138 = .ok (.if_icmp .ne 7, 3) := by decide +kernel
theorem dX11_does_141 : decode cX11_does 141 = .ok (.iconst 1, 1) := by decide +kernel
theorem dX11_does_142 : decode cX11_does 142 = .ok (.goto 4, 3) := by decide +kernel
theorem dX11_does_145 : decode cX11_does 145 = .ok (.iconst 0, 1) := by decide +kernel
theorem dX11_does_146 : decode cX11_does 146 = .ok (.invokevirtual 212, 3) := by decide +kernel
theorem dX11_does_149 : decode cX11_does 149 = .ok (.ireturn, 1) := by decide +kernel
theorem dX11_does_150 : decode cX11_does 150 = .ok (.aload_n 0, 1) := by decide +kernel
theorem dX11_does_151 : decode cX11_does 151 = .ok (.iload_n 3, 1) := by decide +kernel
theorem dX11_does_152 : decode cX11_does 152 = .ok (.invokevirtual 209, 3) := by decide +kernel
theorem dX11_does_155 : decode cX11_does 155 = .ok (.ifCond .eq 27, 3) := by decide +kernel
theorem dX11_does_158 : decode cX11_does 158 = .ok (.aload_n 0, 1) := by decide +kernel
theorem dX11_does_159 : decode cX11_does 159 = .ok (.iload_n 2, 1) := by decide +kernel
theorem dX11_does_160 : decode cX11_does 160 = .ok (.aload_n 0, 1) := by decide +kernel
theorem dX11_does_161 : decode cX11_does 161 = .ok (.getfield 33, 3) := by decide +kernel
theorem dX11_does_164 : decode cX11_does 164 = .ok (.iload_n 3, 1) := by decide +kernel
theorem dX11_does_165 : decode cX11_does 165 = .ok (.iaload, 1) := by decide +kernel
theorem dX11_does_166 : decode cX11_does 166 = .ok (.iload_n 1, 1) := by decide +kernel
theorem dX11_does_167 : decode cX11_does 167 = .ok (.iconst 5, 1) := by decide +kernel
theorem dX11_does_168 : decode cX11_does 168 = .ok (.if_icmp .ne 7, 3) := by decide +kernel
theorem dX11_does_171 : decode cX11_does 171 = .ok (.iconst 1, 1) := by decide +kernel
theorem dX11_does_172 : decode cX11_does 172 = .ok (.goto 4, 3) := by decide +kernel
theorem dX11_does_175 : decode cX11_does 175 = .ok (.iconst 0, 1) := by decide +kernel
theorem dX11_does_176 : decode cX11_does 176 = .ok (.invokevirtual 212, 3) := by decide +kernel
theorem dX11_does_179 : decode cX11_does 179 = .ok (.goto 4, 3) := by decide +kernel
theorem dX11_does_182 : decode cX11_does 182 = .ok (.iconst 1, 1) := by decide +kernel
theorem dX11_does_183 : decode cX11_does 183 = .ok (.ireturn, 1) := by decide +kernel
theorem dX11_does_184 : decode cX11_does 184 = .ok (.aload_n 0, 1) := by decide +kernel
theorem dX11_does_185 : decode cX11_does 185 = .ok (.iload_n 2, 1) := by decide +kernel
theorem dX11_does_186 : decode cX11_does 186 = .ok (.iload_n 3, 1) := by decide +kernel
theorem dX11_does_187 : decode cX11_does 187 = .ok (.iload 4, 2) := by decide +kernel
theorem dX11_does_189 : decode cX11_does 189 = .ok (.invokevirtual 215, 3) := by decide +kernel
theorem dX11_does_192 : decode cX11_does 192 = .ok (.ireturn, 1) := by decide +kernel
theorem dX11_does_193 : decode cX11_does 193 = .ok (.aload_n 0, 1) := by decide +kernel
theorem dX11_does_194 : decode cX11_does 194 = .ok (.iload 4, 2) := by decide +kernel
theorem dX11_does_196 : decode cX11_does 196 = .ok (.invokevirtual 209, 3) := by decide +kernel
theorem dX11_does_199 : decode cX11_does 199 = .ok (.ifCond .eq 19, 3) := by decide +kernel
theorem dX11_does_202 : decode cX11_does 202 = .ok (.aload_n 0, 1) := by decide +kernel
theorem dX11_does_203 : decode cX11_does 203 = .ok (.iload_n 2, 1) := by decide +kernel
theorem dX11_does_204 : decode cX11_does 204 = .ok (.iload_n 3, 1) := by decide +kernel
theorem dX11_does_205 : decode cX11_does 205 = .ok (.aload_n 0, 1) := by decide +kernel
theorem dX11_does_206 : decode cX11_does 206 = .ok (.getfield 33, 3) := by decide +kernel
theorem dX11_does_209 : decode cX11_does 209 = .ok (.iload 4, 2) := by decide +kernel
theorem dX11_does_211 : decode cX11_does 211 = .ok (.iaload, 1) := by decide +kernel
theorem dX11_does_212 : decode cX11_does 212 = .ok (.invokevirtual 215, 3) := by decide +kernel
theorem dX11_does_215 : decode cX11_does 215 = .ok (.goto 4, 3) := by decide +kernel
theorem dX11_does_218 : decode cX11_does 218 = .ok (.iconst 1, 1) := by decide +kernel
theorem dX11_does_219 : decode cX11_does 219 = .ok (.ireturn, 1) := by decide +kernel
theorem dX11_does_220 : decode cX11_does 220 = .ok (.aload_n 0, 1) := by decide +kernel
theorem dX11_does_221 : decode cX11_does 221 = .ok (.iload_n 2, 1) := by decide +kernel
theorem dX11_does_222 : decode cX11_does 222 = .ok (.iload_n 3, 1) := by decide +kernel
theorem dX11_does_223 : decode cX11_does 223 = .ok (.iload 4, 2) := by decide +kernel
theorem dX11_does_225 : decode cX11_does 225 = .ok (.invokevirtual 219, 3) := by decide +kernel
theorem dX11_does_228 : decode cX11_does 228 = .ok (.ireturn, 1) := by decide +kernel
theorem dX11_does_229 : decode cX11_does 229 = .ok (.aload_n 0, 1) := by decide +kernel
theorem dX11_does_230 : decode cX11_does 230 = .ok (.iload_n 3, 1) := by decide +kernel
theorem dX11_does_231 : decode cX11_does 231 = .ok (.invokevirtual 209, 3) := by decide +kernel
theorem dX11_does_234 : decode cX11_does 234 = .ok (.ifCond .eq 19, 3) := by decide +kernel
theorem dX11_does_237 : decode cX11_does 237 = .ok (.aload_n 0, 1) := by decide +kernel
theorem dX11_does_238 : decode cX11_does 238 = .ok (.iload_n 2, 1) := by decide +kernel
theorem dX11_does_239 : decode cX11_does 239 = .ok (.aload_n 0, 1) := by decide +kernel
theorem dX11_does_240 : decode cX11_does 240 = .ok (.getfield 33, 3) := by decide +kernel
theorem dX11_does_243 : decode cX11_does 243 = .ok (.iload_n 3, 1) := by decide +kernel
theorem dX11_does_244 : decode cX11_does 244 = .ok (.iaload, 1) := by decide +kernel
theorem dX11_does_245 : decode cX11_does 245 = .ok (.iload 4, 2) := by decide +kernel
theorem dX11_does_247 : decode cX11_does 247 = .ok (.invokevirtual 219, 3) := by decide +kernel
theorem dX11_does_250 : decode cX11_does 250 = .ok (.goto 4, 3) := by decide +kernel
theorem dX11_does_253 : decode cX11_does 253 = .ok (.iconst 1, 1) := by decide +kernel
theorem dX11_does_254 : decode cX11_does 254 = .ok (.ireturn, 1) := by decide +kernel
theorem dX11_does_255 : decode cX11_does 255 = .ok (.aload_n 0, 1) := by decide +kernel
theorem dX11_does_256 : decode cX11_does 256 = .ok (.iload_n 3, 1) := by decide +kernel
theorem dX11_does_257 : decode cX11_does 257 = .ok (.invokevirtual 202, 3) := by decide +kernel
theorem dX11_does_260 : decode cX11_does 260 = .ok (.ifCond .ne 5, 3) := by decide +kernel
theorem dX11_does_263 : decode cX11_does 263 = .ok (.iconst 2, 1) := by decide +kernel
theorem dX11_does_264 : decode cX11_does 264 = .ok (.ireturn, 1) := by decide +kernel
theorem dX11_does_265 : decode cX11_does 265 = .ok (.aload_n 0, 1) := by decide +kernel
theorem dX11_does_266 : decode cX11_does 266 = .ok (.iload_n 2, 1) := by decide +kernel
theorem dX11_does_267 : decode cX11_does 267 = .ok (.iconst 0, 1) := by decide +kernel
theorem dX11_does_268 : decode cX11_does 268 = .ok (.aload_n 0, 1) := by decide +kernel
theorem dX11_does_269 : decode cX11_does 269 = .ok (.getfield 13, 3) := by decide +kernel
theorem dX11_does_272 : decode cX11_does 272 = .ok (.aload_n 0, 1) := by decide +kernel
theorem dX11_does_273 : decode cX11_does 273 = .ok (.getfield 33, 3) := by decide +kernel
theorem dX11_does_276 : decode cX11_does 276 = .ok (.iload_n 3, 1) := by decide +kernel
theorem dX11_does_277 : decode cX11_does 277 = .ok (.iaload, 1) := by decide +kernel
theorem dX11_does_278 : decode cX11_does 278 = .ok (.iaload, 1) := by decide +kernel
theorem dX11_does_279 : decode cX11_does 279 = .ok (.invokevirtual 205, 3) := by decide +kernel
theorem dX11_does_282 : decode cX11_does 282 = .ok (.iconst 0, 1) := by decide +kernel
theorem dX11_does_283 : decode cX11_does 283 = .ok (.ireturn, 1) := by decide +kernel
theorem dX11_does_284 : decode cX11_does 284 = .ok (.aload_n 0, 1) := by decide +kernel
theorem dX11_does_285 : decode cX11_does 285 = .ok (.iload_n 2, 1) := by decide +kernel
theorem dX11_does_286 : decode cX11_does 286 = .ok (.iconst 0, 1) := by decide +kernel
theorem dX11_does_287 : decode cX11_does 287 = .ok (.aload_n 0, 1) := by decide +kernel
theorem dX11_does_288 : decode cX11_does 288 = .ok (.aload_n 0, 1) := by decide +kernel
theorem dX11_does_289 : decode cX11_does 289 = .ok (.getfield 30, 3) := by decide +kernel
theorem dX11_does_292 : decode cX11_does 292 = .ok (.iload_n 3, 1) := by decide +kernel
theorem dX11_does_293 : decode cX11_does 293 = .ok (.iaload, 1) := by decide +kernel
theorem dX11_does_294 : decode cX11_does 294 = .ok (.aload_n 0, 1) := by decide +kernel
theorem dX11_does_295 : decode cX11_does 295 = .ok (.getfield 33, 3) := by decide +kernel
theorem dX11_does_298 : decode cX11_does 298 = .ok (.iload_n 3, 1) := by decide +kernel
theorem dX11_does_299 : decode cX11_does 299 = .ok (.iaload, 1) := by decide +kernel
theorem dX11_does_300 : decode cX11_does 300 = .ok (.invokevirtual 222, 3) := by decide +kernel
theorem dX11_does_303 : decode cX11_does 303 = .ok (.invokevirtual 205, 3) := by decide +kernel
theorem dX11_does_306 : decode cX11_does 306 = .ok (.iconst 0, 1) := by decide +kernel
theorem dX11_does_307 : decode cX11_does 307 = .ok (.ireturn, 1) := by decide +kernel
theorem dX11_does_308 : decode cX11_does 308 = .ok (.aload_n 0, 1) := by decide +kernel
theorem dX11_does_309 : decode cX11_does 309 = .ok (.iload_n 2, 1) := by decide +kernel
theorem dX11_does_310 : decode cX11_does 310 = .ok (.iconst 0, 1) := by decide +kernel
theorem dX11_does_311 : decode cX11_does 311 = .ok (.aload_n 0, 1) := by decide +kernel
theorem dX11_does_312 : decode cX11_does 312 = .ok (.getfield 30, 3) := by decide +kernel
theorem dX11_does_315 : decode cX11_does 315 = .ok (.iload_n 3, 1) := by decide +kernel
theorem dX11_does_316 : decode cX11_does 316 = .ok (.iaload, 1) := by decide +kernel
theorem dX11_does_317 : decode cX11_does 317 = .ok (.aload_n 0, 1) := by decide +kernel
theorem dX11_does_318 : decode cX11_does 318 = .ok (.getfield 30, 3) := by decide +kernel
theorem dX11_does_321 : decode cX11_does 321 = .ok (.iload 4, 2) := by decide +kernel
theorem dX11_does_323 : decode cX11_does 323 = .ok (.iaload, 1) := by decide +kernel
theorem dX11_does_324 : decode cX11_does 324 = .ok (.if_icmp .ne 33, 3) := by decide +kernel
theorem dX11_does_327 : decode cX11_does 327 = .ok (.aload_n 0, 1) := by decide +kernel
theorem dX11_does_328 : decode cX11_does 328 = .ok (.getfield 30, 3) := by decide +kernel
theorem dX11_does_331 : decode cX11_does 331 = .ok (.iload_n 3, 1) := by decide +kernel
theorem dX11_does_332 : decode cX11_does 332 = .ok (.iaload, 1) := by decide +kernel
theorem dX11_does_333 : decode cX11_does 333 = .ok (.iconst 1, 1) := by decide +kernel
theorem dX11_does_334 : decode cX11_does 334 = .ok (.if_icmp .eq 19, 3) := by decide +kernel
theorem dX11_does_337 : decode cX11_does 337 = .ok (.aload_n 0, 1) := by decide +kernel
theorem dX11_does_338 : decode cX11_does 338 = .ok (.getfield 33, 3) := by decide +kernel
theorem dX11_does_341 : decode cX11_does 341 = .ok (.iload_n 3, 1) := by decide +kernel
theorem dX11_does_342 : decode cX11_does 342 = .ok (.iaload, 1) := by decide +kernel
theorem dX11_does_343 : decode cX11_does 343 = .ok (.aload_n 0, 1) := by decide +kernel
theorem dX11_does_344 : decode cX11_does 344 = .ok (.getfield 33, 3) := by decide +kernel
theorem dX11_does_347 : decode cX11_does 347 = .ok (.iload 4, 2) := by decide +kernel
theorem dX11_does_349 : decode cX11_does 349 = .ok (.iaload, 1) := by decide +kernel
theorem dX11_does_350 : decode cX11_does 350 = .ok (.if_icmp .ne 7, 3) := by decide +kernel
theorem dX11_does_353 : decode cX11_does 353 = .ok (.iconst 1, 1) := by decide +kernel
theorem dX11_does_354 : decode cX11_does 354 = .ok (.goto 4, 3) := by decide +kernel
theorem dX11_does_357 : decode cX11_does 357 = .ok (.iconst 0, 1) := by decide +kernel
theorem dX11_does_358 : decode cX11_does 358 = .ok (.invokevirtual 205, 3) := by decide +kernel
theorem dX11_does_361 : decode cX11_does 361 = .ok (.iconst 0, 1) := by decide +kernel
theorem dX11_does_362 : decode cX11_does 362 = .ok (.ireturn, 1) := by decide +kernel
theorem dX11_does_363 : decode cX11_does 363 = .ok (.aload_n 0, 1) := by decide +kernel
theorem dX11_does_364 : decode cX11_does 364 = .ok (.getfield 173, 3) := by decide +kernel
theorem dX11_does_367 : decode cX11_does 367 = .ok (.bipush 50, 2) := by decide +kernel
theorem dX11_does_369 : decode cX11_does 369 = .ok (.if_icmp .ne 6, 3) := by decide +kernel
theorem dX11_does_372 : decode cX11_does 372 = .ok (.bipush 6, 2) := by decide +kernel
theorem dX11_does_374 : decode cX11_does 374 = .ok (.ireturn, 1) := by decide +kernel
theorem dX11_does_375 : decode cX11_does 375 = .ok (.aload_n 0, 1) := by decide +kernel
theorem dX11_does_376 : decode cX11_does 376 = .ok (.bipush 8, 2) := by decide +kernel
theorem dX11_does_378 : decode cX11_does 378 = .ok (.aload_n 0, 1) := by decide +kernel
theorem dX11_does_379 : decode cX11_does 379 = .ok (.getfield 173, 3) := by decide +kernel
theorem dX11_does_382 : decode cX11_does 382 = .ok (.iadd, 1) := by decide +kernel
theorem dX11_does_383 : decode cX11_does 383 = .ok (.aload_n 0, 1) := by decide +kernel
theorem dX11_does_384 : decode cX11_does 384 = .ok (.getfield 30, 3) := by decide +kernel
theorem dX11_does_387 : decode cX11_does 387 = .ok (.iload_n 2, 1) := by decide +kernel
theorem dX11_does_388 : decode cX11_does 388 = .ok (.iaload, 1) := by decide +kernel
theorem dX11_does_389 : decode cX11_does 389 = .ok (.aload_n 0, 1) := by decide +kernel
theorem dX11_does_390 : decode cX11_does 390 = .ok (.getfield 33, 3) := by decide +kernel
theorem dX11_does_393 : decode cX11_does 393 = .ok (.iload_n 2, 1) := by decide +kernel
theorem dX11_does_394 : decode cX11_does 394 = .ok (.iaload, 1) := by decide +kernel
theorem dX11_does_395 : decode cX11_does 395 = .ok (.invokevirtual 205, 3) := by decide +kernel
theorem dX11_does_398 : decode cX11_does 398 = .ok (.aload_n 0, 1) := by decide +kernel
theorem dX11_does_399 : decode cX11_does 399 = .ok (.dup, 1) := by decide +kernel
theorem dX11_does_400 : decode cX11_does 400 = .ok (.getfield 173, 3) := by decide +kernel
theorem dX11_does_403 : decode cX11_does 403 = .ok (.iconst 1, 1) := by decide +kernel
theorem dX11_does_404 : decode cX11_does 404 = .ok (.iadd, 1) := by decide +kernel
theorem dX11_does_405 : decode cX11_does 405 = .ok (.putfield 173, 3) := by decide +kernel
theorem dX11_does_408 : decode cX11_does 408 = .ok (.iconst 0, 1) := by decide +kernel
theorem dX11_does_409 : decode cX11_does 409 = .ok (.ireturn, 1) := by decide +kernel
theorem dX11_does_410 : decode cX11_does 410 = .ok (.aload_n 0, 1) := by decide +kernel
theorem dX11_does_411 : decode cX11_does 411 = .ok (.getfield 173, 3) := by decide +kernel
theorem dX11_does_414 : decode cX11_does 414 = .ok (.ifCond .ne 6, 3) := by decide +kernel
theorem dX11_does_417 : decode cX11_does 417 = .ok (.bipush 6, 2) := by decide +kernel
theorem dX11_does_419 : decode cX11_does 419 = .ok (.ireturn, 1) := by decide +kernel
theorem dX11_does_420 : decode cX11_does 420 = .ok (.aload_n 0, 1) := by decide +kernel
theorem dX11_does_421 : decode cX11_does 421 = .ok (.dup, 1) := by decide +kernel
theorem dX11_does_422 : decode cX11_does 422 = .ok (.getfield 173, 3) := by decide +kernel
theorem dX11_does_425 : decode cX11_does 425 = .ok (.iconst 1, 1) := by decide +kernel
theorem dX11_does_426 : decode cX11_does 426 = .ok (.isub, 1) := by decide +kernel
theorem dX11_does_427 : decode cX11_does 427 = .ok (.putfield 173, 3) := by decide +kernel
theorem dX11_does_430 : decode cX11_does 430 = .ok (.aload_n 0, 1) := by decide +kernel
theorem dX11_does_431 : decode cX11_does 431 = .ok (.iload_n 2, 1) := by decide +kernel
theorem dX11_does_432 : decode cX11_does 432 = .ok (.aload_n 0, 1) := by decide +kernel
theorem dX11_does_433 : decode cX11_does 433 = .ok (.getfield 30, 3) := by decide +kernel
theorem dX11_does_436 : decode cX11_does 436 = .ok (.bipush 8, 2) := by decide +kernel
theorem dX11_does_438 : decode cX11_does 438 = .ok (.aload_n 0, 1) := by decide +kernel
theorem dX11_does_439 : decode cX11_does 439 = .ok (.getfield 173, 3) := by decide +kernel
theorem dX11_does_442 : decode cX11_does 442 = .ok (.iadd, 1) := by decide +kernel
theorem dX11_does_443 : decode cX11_does 443 = .ok (.iaload, 1) := by decide +kernel
theorem dX11_does_444 : decode cX11_does 444 = .ok (.aload_n 0, 1) := by decide +kernel
theorem dX11_does_445 : decode cX11_does 445 = .ok (.getfield 33, 3) := by decide +kernel
theorem dX11_does_448 : decode cX11_does 448 = .ok (.bipush 8, 2) := by decide +kernel
theorem dX11_does_450 : decode cX11_does 450 = .ok (.aload_n 0, 1) := by decide +kernel
theorem dX11_does_451 : decode cX11_does 451 = .ok (.getfield 173, 3) := by decide +kernel
theorem dX11_does_454 : decode cX11_does 454 = .ok (.iadd, 1) := by decide +kernel
theorem dX11_does_455 : decode cX11_does 455 = .ok (.iaload, 1) := by decide +kernel
theorem dX11_does_456 : decode cX11_does 456 = .ok (.invokevirtual 205, 3) := by decide +kernel
theorem dX11_does_459 : decode cX11_does 459 = .ok (.iconst 0, 1) := by decide +kernel
theorem dX11_does_460 : decode cX11_does 460 = .ok (.ireturn, 1) := by decide +kernel
theorem dX11_does_461 : decode cX11_does 461 = .ok (.aload_n 0, 1) := by decide +kernel
theorem dX11_does_462 : decode cX11_does 462 = .ok (.iload_n 1, 1) := by decide +kernel
theorem dX11_does_463 : decode cX11_does 463 = .ok (.iload_n 2, 1) := by decide +kernel
theorem dX11_does_464 : decode cX11_does 464 = .ok (.iload_n 3, 1) := by decide +kernel
theorem dX11_does_465 : decode cX11_does 465 = .ok (.iload 4, 2) := by decide +kernel
theorem dX11_does_467 : decode cX11_does 467 = .ok (.invokevirtual 226, 3) := by decide +kernel
theorem dX11_does_470 : decode cX11_does 470 = .ok (.ireturn, 1) := by decide +kernel
theorem dX11_many_0 : decode cX11_many 0 = .ok (.iload_n 0, 1) := by decide +kernel
theorem dX11_many_1 : decode cX11_many 1 = .ok (.ifCond .ne 7, 3) := by decide +kernel
theorem dX11_many_4 : decode cX11_many 4 = .ok (.iconst 0, 1) := by decide +kernel
theorem dX11_many_5 : decode cX11_many 5 = .ok (.goto 24, 3) := by decide +kernel
theorem dX11_many_8 : decode cX11_many 8 = .ok (.iload_n 0, 1) := by decide +kernel
theorem dX11_many_9 : decode cX11_many 9 = .ok (.bipush 10, 2) := by decide +kernel
theorem dX11_many_11 : decode cX11_many 11 = .ok (.if_icmp .ge 7, 3) := by decide +kernel
theorem dX11_many_14 : decode cX11_many 14 = .ok (.iconst 1, 1) := by decide +kernel
theorem dX11_many_15 : decode cX11_many 15 = .ok (.goto 14, 3) := by decide +kernel
theorem dX11_many_18 : decode cX11_many 18 = .ok (.iload_n 0, 1) := by decide +kernel
theorem dX11_many_19 : decode cX11_many 19 = .ok (.bipush 100, 2) := by decide +kernel
theorem dX11_many_21 : decode cX11_many 21 = .ok (.if_icmp .ge 7, 3) := by decide +kernel
theorem dX11_many_24 : decode cX11_many 24 = .ok (.iconst 2, 1) := by decide +kernel
theorem dX11_many_25 : decode cX11_many 25 = .ok (.goto 4, 3) := by decide +kernel
theorem dX11_many_28 : decode cX11_many 28 = .ok (.iconst 3, 1) := by decide +kernel
theorem dX11_many_29 : decode cX11_many 29 = .ok (.ireturn, 1) := by decide +kernel
theorem dX11_kindOf_0 : decode cX11_kindOf 0 = .ok (.iload_n 0, 1) := by decide +kernel
theorem dX11_kindOf_1 : decode cX11_kindOf 1 = .ok (.invokestatic 230, 3) := by decide +kernel
theorem dX11_kindOf_4 : decode cX11_kindOf 4 = .ok (.iconst 1, 1) := by decide +kernel
theorem dX11_kindOf_5 : decode cX11_kindOf 5 = .ok (.isub, 1) := by decide +kernel
theorem dX11_kindOf_6 : decode cX11_kindOf 6 = .ok (.iload_n 1, 1) := by decide +kernel
theorem dX11_kindOf_7 : decode cX11_kindOf 7 = .ok (.isub, 1) := by decide +kernel
theorem dX11_kindOf_8 : decode cX11_kindOf 8 = .ok (.istore_n 2, 1) := by decide +kernel
theorem dX11_kindOf_9 : decode cX11_kindOf 9 = .ok (.iload_n 0, 1) := by decide +kernel
theorem dX11_kindOf_10 : decode cX11_kindOf 10 = .ok (.istore_n 3, 1) := by decide +kernel
theorem dX11_kindOf_11 : decode cX11_kindOf 11 = .ok (.iload_n 2, 1) := by decide +kernel
theorem dX11_kindOf_12 : decode cX11_kindOf 12 = .ok (.ifCond .le 14, 3) := by decide +kernel
theorem dX11_kindOf_15 : decode cX11_kindOf 15 = .ok (.iload_n 3, 1) := by decide +kernel
theorem dX11_kindOf_16 : decode cX11_kindOf 16 = .ok (.bipush 10, 2) := by decide +kernel
theorem dX11_kindOf_18 : decode cX11_kindOf 18 = .ok (.idiv, 1) := by decide +kernel
theorem dX11_kindOf_19 : decode cX11_kindOf 19 = .ok (.istore_n 3, 1) := by decide +kernel
theorem dX11_kindOf_20 : decode cX11_kindOf 20 = .ok (.iinc 2 (-1), 3) := by decide +kernel
theorem dX11_kindOf_23 : decode cX11_kindOf 23 = .ok (.goto (-12), 3) := by decide +kernel
theorem dX11_kindOf_26 : decode cX11_kindOf 26 = .ok (.iload_n 3, 1) := by decide +kernel
theorem dX11_kindOf_27 : decode cX11_kindOf 27 = .ok (.bipush 10, 2) := by decide +kernel
theorem dX11_kindOf_29 : decode cX11_kindOf 29 = .ok (.irem, 1) := by decide +kernel
theorem dX11_kindOf_30 : decode cX11_kindOf 30 = .ok (.ireturn, 1) := by decide +kernel
theorem dX11_act_0 : decode cX11_act 0 = .ok (.aload_n 0, 1) := by decide +kernel
theorem dX11_act_1 : decode cX11_act 1 = .ok (.iconst 0, 1) := by decide +kernel
theorem dX11_act_2 : decode cX11_act 2 = .ok (.putfield 131, 3) := by decide +kernel
theorem dX11_act_5 : decode cX11_act 5 = .ok (.iload_n 1, 1) := by decide +kernel
theorem dX11_act_6 : decode cX11_act 6 = .ok (.ifCond .lt 9, 3) := by decide +kernel
theorem dX11_act_9 : decode cX11_act 9 = .ok (.iload_n 1, 1) := by decide +kernel
theorem dX11_act_10 : decode cX11_act 10 = .ok (.bipush 19, 2) := by decide +kernel
theorem dX11_act_12 : decode cX11_act 12 = .ok (.if_icmp .le 5, 3) := by decide +kernel
theorem dX11_act_15 : decode cX11_act 15 = .ok (.iconst (-1), 1) := by decide +kernel
theorem dX11_act_16 : decode cX11_act 16 = .ok (.ireturn, 1) := by decide +kernel
theorem dX11_act_17 : decode cX11_act 17 = .ok (.iconst 0, 1) := by decide +kernel
theorem dX11_act_18 : decode cX11_act 18 = .ok (.istore 5, 2) := by decide +kernel
theorem dX11_act_20 : decode cX11_act 20 = .ok (.iload 5, 2) := by decide +kernel
theorem dX11_act_22 : decode cX11_act 22 = .ok (.getstatic 232, 3) := by decide +kernel
theorem dX11_act_25 : decode cX11_act 25 = .ok (.iload_n 1, 1) := by decide +kernel
theorem dX11_act_26 : decode cX11_act 26 = .ok (.iaload, 1) := by decide +kernel
theorem dX11_act_27 : decode cX11_act 27 = .ok (.invokestatic 230, 3) := by decide +kernel
theorem dX11_act_30 : decode cX11_act 30 = .ok (.if_icmp .ge 60, 3) := by decide +kernel
theorem dX11_act_33 : decode cX11_act 33 = .ok (.iload 5, 2) := by decide +kernel
theorem dX11_act_35 : decode cX11_act 35 = .ok (.ifCond .ne 7, 3) := by decide +kernel
theorem dX11_act_38 : decode cX11_act 38 = .ok (.iload_n 2, 1) := by decide +kernel
theorem dX11_act_39 : decode cX11_act 39 = .ok (.goto 15, 3) := by decide +kernel
theorem dX11_act_42 : decode cX11_act 42 = .ok (.iload 5, 2) := by decide +kernel
theorem dX11_act_44 : decode cX11_act 44 = .ok (.iconst 1, 1) := by decide +kernel
theorem dX11_act_45 : decode cX11_act 45 = .ok (.if_icmp .ne 7, 3) := by decide +kernel
theorem dX11_act_48 : decode cX11_act 48 = .ok (.iload_n 3, 1) := by decide +kernel
theorem dX11_act_49 : decode cX11_act 49 = .ok (.goto 5, 3) := by decide +kernel
theorem dX11_act_52 : decode cX11_act 52 = .ok (.iload 4, 2) := by decide +kernel
theorem dX11_act_54 : decode cX11_act 54 = .ok (.istore 6, 2) := by decide +kernel
theorem dX11_act_56 : decode cX11_act 56 = .ok (.getstatic 232, 3) := by decide +kernel
theorem dX11_act_59 : decode cX11_act 59 = .ok (.iload_n 1, 1) := by decide +kernel
theorem dX11_act_60 : decode cX11_act 60 = .ok (.iaload, 1) := by decide +kernel
theorem dX11_act_61 : decode cX11_act 61 = .ok (.iload 5, 2) := by decide +kernel
theorem dX11_act_63 : decode cX11_act 63 = .ok (.invokestatic 235, 3) := by decide +kernel
theorem dX11_act_66 : decode cX11_act 66 = .ok (.iconst 1, 1) := by decide +kernel
theorem dX11_act_67 : decode cX11_act 67 = .ok (.if_icmp .ne 17, 3) := by decide +kernel
theorem dX11_act_70 : decode cX11_act 70 = .ok (.iload 6, 2) := by decide +kernel
theorem dX11_act_72 : decode cX11_act 72 = .ok (.ifCond .lt 10, 3) := by decide +kernel
theorem dX11_act_75 : decode cX11_act 75 = .ok (.iload 6, 2) := by decide +kernel
theorem dX11_act_77 : decode cX11_act 77 = .ok (.bipush 7, 2) := by decide +kernel
theorem dX11_act_79 : decode cX11_act 79 = .ok (.if_icmp .le 5, 3) := by decide +kernel
theorem dX11_act_82 : decode cX11_act 82 = .ok (.iconst (-1), 1) := by decide +kernel
theorem dX11_act_83 : decode cX11_act 83 = .ok (.ireturn, 1) := by decide +kernel
theorem dX11_act_84 : decode cX11_act 84 = .ok (.iinc 5 1, 3) := by decide +kernel
theorem dX11_act_87 : decode cX11_act 87 = .ok (.goto (-67), 3) := by decide +kernel
theorem dX11_act_90 : decode cX11_act 90 = .ok (.aload_n 0, 1) := by decide +kernel
theorem dX11_act_91 : decode cX11_act 91 = .ok (.iload_n 1, 1) := by decide +kernel
theorem dX11_act_92 : decode cX11_act 92 = .ok (.iload_n 2, 1) := by decide +kernel
theorem dX11_act_93 : decode cX11_act 93 = .ok (.iload_n 3, 1) := by decide +kernel
theorem dX11_act_94 : decode cX11_act 94 = .ok (.iload 4, 2) := by decide +kernel
theorem dX11_act_96 : decode cX11_act 96 = .ok (.invokevirtual 238, 3) := by decide +kernel
theorem dX11_act_99 : decode cX11_act 99 = .ok (.ireturn, 1) := by decide +kernel
theorem dX11_tellWords_0 : decode cX11_tellWords 0 = .ok (.ldc 241, 2) := by decide +kernel
theorem dX11_tellWords_2 : decode cX11_tellWords 2 = .ok (.astore_n 1, 1) := by decide +kernel
theorem dX11_tellWords_3 : decode cX11_tellWords 3 = .ok (.iconst 0, 1) := by decide +kernel
theorem dX11_tellWords_4 : decode cX11_tellWords 4 = .ok (.istore_n 2, 1) := by decide +kernel
theorem dX11_tellWords_5 : decode cX11_tellWords 5 = .ok (.iconst 0, 1) := by decide +kernel
theorem dX11_tellWords_6 : decode cX11_tellWords 6 = .ok (.istore_n 3, 1) := by decide +kernel
theorem dX11_tellWords_7 : decode cX11_tellWords 7 = .ok (.iload_n 3, 1) := by decide +kernel
theorem dX11_tellWords_8 : decode cX11_tellWords 8 = .ok (.aload_n 1, 1) := by decide +kernel
theorem dX11_tellWords_9 : decode cX11_tellWords 9 = .ok (.invokevirtual 243, 3) := by decide +kernel
theorem dX11_tellWords_12 : decode cX11_tellWords 12 = .ok (.if_icmp .ge 57, 3) := by decide +kernel
theorem dX11_tellWords_15 : decode cX11_tellWords 15 = .ok (.aload_n 1, 1) := by decide +kernel
theorem dX11_tellWords_16 : decode cX11_tellWords 16 = .ok (.iload_n 3, 1) := by decide +kernel
theorem dX11_tellWords_17 : decode cX11_tellWords 17 = .ok (.invokevirtual 249, 3) := by decide +kernel
theorem dX11_tellWords_20 : decode cX11_tellWords 20 = .ok (.bipush 32, 2) := by decide +kernel
theorem dX11_tellWords_22 : decode cX11_tellWords 22 = .ok (.if_icmp .ne 9, 3) := by decide +kernel
theorem dX11_tellWords_25 : decode cX11_tellWords 25 = .ok (.iinc 2 1, 3) := by decide +kernel
theorem dX11_tellWords_28 : decode cX11_tellWords 28 = .ok (.goto 35, 3) := by decide +kernel
theorem dX11_tellWords_31 : decode cX11_tellWords 31 = .ok (.aload_n 0, 1) := by decide +kernel
theorem dX11_tellWords_32 : decode cX11_tellWords 32 = .ok (.getfield 42, 3) := by decide +kernel
theorem dX11_tellWords_35 : decode cX11_tellWords 35 = .ok (.iload_n 2, 1) := by decide +kernel
theorem dX11_tellWords_36 : decode cX11_tellWords 36 = .ok (.aload_n 0, 1) := by decide +kernel
theorem dX11_tellWords_37 : decode cX11_tellWords 37 = .ok (.getfield 42, 3) := by decide +kernel
theorem dX11_tellWords_40 : decode cX11_tellWords 40 = .ok (.iload_n 2, 1) := by decide +kernel
theorem dX11_tellWords_41 : decode cX11_tellWords 41 = .ok (.laload, 1) := by decide +kernel
theorem dX11_tellWords_42 : decode cX11_tellWords 42 = .ok (.bipush 8, 2) := by decide +kernel
theorem dX11_tellWords_44 : decode cX11_tellWords 44 = .ok (.lshl, 1) := by decide +kernel
theorem dX11_tellWords_45 : decode cX11_tellWords 45 = .ok (.aload_n 1, 1) := by decide +kernel
theorem dX11_tellWords_46 : decode cX11_tellWords 46 = .ok (.iload_n 3, 1) := by decide +kernel
theorem dX11_tellWords_47 : decode cX11_tellWords 47 = .ok (.invokevirtual 249, 3) := by decide +kernel
theorem dX11_tellWords_50 : decode cX11_tellWords 50 = .ok (.i2l, 1) := by decide +kernel
theorem dX11_tellWords_51 : decode cX11_tellWords 51 = .ok (.lor, 1) := by decide +kernel
theorem dX11_tellWords_52 : decode cX11_tellWords 52 = .ok (.lastore, 1) := by decide +kernel
theorem dX11_tellWords_53 : decode cX11_tellWords 53 = .ok (.aload_n 0, 1) := by decide +kernel
theorem dX11_tellWords_54 : decode cX11_tellWords 54 = .ok (.getfield 46, 3) := by decide +kernel
theorem dX11_tellWords_57 : decode cX11_tellWords 57 = .ok (.iload_n 2, 1) := by decide +kernel
theorem dX11_tellWords_58 : decode cX11_tellWords 58 = .ok (.dup2, 1) := by decide +kernel
theorem dX11_tellWords_59 : decode cX11_tellWords 59 = .ok (.iaload, 1) := by decide +kernel
theorem dX11_tellWords_60 : decode cX11_tellWords 60 = .ok (.iconst 1, 1) := by decide +kernel
theorem dX11_tellWords_61 : decode cX11_tellWords 61 = .ok (.iadd, 1) := by decide +kernel
theorem dX11_tellWords_62 : decode cX11_tellWords 62 = .ok (.iastore, 1) := by decide +kernel
theorem dX11_tellWords_63 : decode cX11_tellWords 63 = .ok (.iinc 3 1, 3) := by decide +kernel
theorem dX11_tellWords_66 : decode cX11_tellWords 66 = .ok (.goto (-59), 3) := by decide +kernel
theorem dX11_tellWords_69 : decode cX11_tellWords 69 = .ok (.return_, 1) := by decide +kernel
theorem dX11_four_0 : decode cX11_four 0 = .ok (.iconst 3, 1) := by decide +kernel
theorem dX11_four_1 : decode cX11_four 1 = .ok (.istore_n 2, 1) := by decide +kernel
theorem dX11_four_2 : decode cX11_four 2 = .ok (.iload_n 2, 1) := by decide +kernel
theorem dX11_four_3 : decode cX11_four 3 = .ok (.ifCond .lt 38, 3) := by decide +kernel
theorem dX11_four_6 : decode cX11_four 6 = .ok (.aload_n 0, 1) := by decide +kernel
theorem dX11_four_7 : decode cX11_four 7 = .ok (.getfield 39, 3) := by decide +kernel
theorem dX11_four_10 : decode cX11_four 10 = .ok (.aload_n 0, 1) := by decide +kernel
theorem dX11_four_11 : decode cX11_four 11 = .ok (.getfield 253, 3) := by decide +kernel
theorem dX11_four_14 : decode cX11_four 14 = .ok (.iload_n 1, 1) := by decide +kernel
theorem dX11_four_15 : decode cX11_four 15 = .ok (.bipush 8, 2) := by decide +kernel
theorem dX11_four_17 : decode cX11_four 17 = .ok (.iload_n 2, 1) := by decide +kernel
theorem dX11_four_18 : decode cX11_four 18 = .ok (.imul, 1) := by decide +kernel
theorem dX11_four_19 : decode cX11_four 19 = .ok (.ishr, 1) := by decide +kernel
theorem dX11_four_20 : decode cX11_four 20 = .ok (.sipush 255, 3) := by decide +kernel
theorem dX11_four_23 : decode cX11_four 23 = .ok (.iand, 1) := by decide +kernel
theorem dX11_four_24 : decode cX11_four 24 = .ok (.iastore, 1) := by decide +kernel
theorem dX11_four_25 : decode cX11_four 25 = .ok (.aload_n 0, 1) := by decide +kernel
theorem dX11_four_26 : decode cX11_four 26 = .ok (.dup, 1) := by decide +kernel
theorem dX11_four_27 : decode cX11_four 27 = .ok (.getfield 253, 3) := by decide +kernel
theorem dX11_four_30 : decode cX11_four 30 = .ok (.iconst 1, 1) := by decide +kernel
theorem dX11_four_31 : decode cX11_four 31 = .ok (.iadd, 1) := by decide +kernel
theorem dX11_four_32 : decode cX11_four 32 = .ok (.putfield 253, 3) := by decide +kernel
theorem dX11_four_35 : decode cX11_four 35 = .ok (.iinc 2 (-1), 3) := by decide +kernel
theorem dX11_four_38 : decode cX11_four 38 = .ok (.goto (-36), 3) := by decide +kernel
theorem dX11_four_41 : decode cX11_four 41 = .ok (.return_, 1) := by decide +kernel
theorem dX11_feed_0 : decode cX11_feed 0 = .ok (.aload_n 0, 1) := by decide +kernel
theorem dX11_feed_1 : decode cX11_feed 1 = .ok (.iconst 0, 1) := by decide +kernel
theorem dX11_feed_2 : decode cX11_feed 2 = .ok (.putfield 131, 3) := by decide +kernel
theorem dX11_feed_5 : decode cX11_feed 5 = .ok (.aload_n 0, 1) := by decide +kernel
theorem dX11_feed_6 : decode cX11_feed 6 = .ok (.getfield 253, 3) := by decide +kernel
theorem dX11_feed_9 : decode cX11_feed 9 = .ok (.sipush 1980, 3) := by decide +kernel
theorem dX11_feed_12 : decode cX11_feed 12 = .ok (.if_icmp .le 5, 3) := by decide +kernel
theorem dX11_feed_15 : decode cX11_feed 15 = .ok (.iconst (-1), 1) := by decide +kernel
theorem dX11_feed_16 : decode cX11_feed 16 = .ok (.ireturn, 1) := by decide +kernel
theorem dX11_feed_17 : decode cX11_feed 17 = .ok (.aload_n 0, 1) := by decide +kernel
theorem dX11_feed_18 : decode cX11_feed 18 = .ok (.iload_n 1, 1) := by decide +kernel
theorem dX11_feed_19 : decode cX11_feed 19 = .ok (.invokevirtual 256, 3) := by decide +kernel
theorem dX11_feed_22 : decode cX11_feed 22 = .ok (.aload_n 0, 1) := by decide +kernel
theorem dX11_feed_23 : decode cX11_feed 23 = .ok (.iload_n 2, 1) := by decide +kernel
theorem dX11_feed_24 : decode cX11_feed 24 = .ok (.invokevirtual 256, 3) := by decide +kernel
theorem dX11_feed_27 : decode cX11_feed 27 = .ok (.aload_n 0, 1) := by decide +kernel
theorem dX11_feed_28 : decode cX11_feed 28 = .ok (.iload_n 3, 1) := by decide +kernel
theorem dX11_feed_29 : decode cX11_feed 29 = .ok (.invokevirtual 256, 3) := by decide +kernel
theorem dX11_feed_32 : decode cX11_feed 32 = .ok (.aload_n 0, 1) := by decide +kernel
theorem dX11_feed_33 : decode cX11_feed 33 = .ok (.iload 4, 2) := by decide +kernel
theorem dX11_feed_35 : decode cX11_feed 35 = .ok (.invokevirtual 256, 3) := by decide +kernel
theorem dX11_feed_38 : decode cX11_feed 38 = .ok (.aload_n 0, 1) := by decide +kernel
theorem dX11_feed_39 : decode cX11_feed 39 = .ok (.iload 5, 2) := by decide +kernel
theorem dX11_feed_41 : decode cX11_feed 41 = .ok (.invokevirtual 256, 3) := by decide +kernel
theorem dX11_feed_44 : decode cX11_feed 44 = .ok (.aload_n 0, 1) := by decide +kernel
theorem dX11_feed_45 : decode cX11_feed 45 = .ok (.getfield 253, 3) := by decide +kernel
theorem dX11_feed_48 : decode cX11_feed 48 = .ok (.ireturn, 1) := by decide +kernel
theorem dX11_end_0 : decode cX11_end 0 = .ok (.aload_n 0, 1) := by decide +kernel
theorem dX11_end_1 : decode cX11_end 1 = .ok (.iconst 0, 1) := by decide +kernel
theorem dX11_end_2 : decode cX11_end 2 = .ok (.putfield 131, 3) := by decide +kernel
theorem dX11_end_5 : decode cX11_end 5 = .ok (.iload_n 1, 1) := by decide +kernel
theorem dX11_end_6 : decode cX11_end 6 = .ok (.ifCond .lt 11, 3) := by decide +kernel
theorem dX11_end_9 : decode cX11_end 9 = .ok (.iload_n 1, 1) := by decide +kernel
theorem dX11_end_10 : decode cX11_end 10 = .ok (.aload_n 0, 1) := by decide +kernel
theorem dX11_end_11 : decode cX11_end 11 = .ok (.getfield 253, 3) := by decide +kernel
theorem dX11_end_14 : decode cX11_end 14 = .ok (.if_icmp .le 5, 3) := by decide +kernel
theorem dX11_end_17 : decode cX11_end 17 = .ok (.iconst (-1), 1) := by decide +kernel
theorem dX11_end_18 : decode cX11_end 18 = .ok (.ireturn, 1) := by decide +kernel
theorem dX11_end_19 : decode cX11_end 19 = .ok (.aload_n 0, 1) := by decide +kernel
theorem dX11_end_20 : decode cX11_end 20 = .ok (.iload_n 1, 1) := by decide +kernel
theorem dX11_end_21 : decode cX11_end 21 = .ok (.putfield 253, 3) := by decide +kernel
theorem dX11_end_24 : decode cX11_end 24 = .ok (.iload_n 1, 1) := by decide +kernel
theorem dX11_end_25 : decode cX11_end 25 = .ok (.ireturn, 1) := by decide +kernel
theorem dX11_good_0 : decode cX11_good 0 = .ok (.aload_n 0, 1) := by decide +kernel
theorem dX11_good_1 : decode cX11_good 1 = .ok (.getfield 260, 3) := by decide +kernel
theorem dX11_good_4 : decode cX11_good 4 = .ok (.ifCond .ne 7, 3) := by decide +kernel
theorem dX11_good_7 : decode cX11_good 7 = .ok (.iconst 1, 1) := by decide +kernel
theorem dX11_good_8 : decode cX11_good 8 = .ok (.goto 4, 3) := by decide +kernel
theorem dX11_good_11 : decode cX11_good 11 = .ok (.iconst 0, 1) := by decide +kernel
theorem dX11_good_12 : decode cX11_good 12 = .ok (.ireturn, 1) := by decide +kernel
theorem dX11_fails_0 : decode cX11_fails 0 = .ok (.aload_n 0, 1) := by decide +kernel
theorem dX11_fails_1 : decode cX11_fails 1 = .ok (.getfield 260, 3) := by decide +kernel
theorem dX11_fails_4 : decode cX11_fails 4 = .ok (.ifCond .le 4, 3) := by decide +kernel
theorem dX11_fails_7 : decode cX11_fails 7 = .ok (.return_, 1) := by decide +kernel
theorem dX11_fails_8 : decode cX11_fails 8 = .ok (.aload_n 0, 1) := by decide +kernel
theorem dX11_fails_9 : decode cX11_fails 9 = .ok (.iload_n 1, 1) := by decide +kernel
theorem dX11_fails_10 : decode cX11_fails 10 = .ok (.putfield 260, 3) := by decide +kernel
theorem dX11_fails_13 : decode cX11_fails 13 = .ok (.aload_n 0, 1) := by decide +kernel
theorem dX11_fails_14 : decode cX11_fails 14 = .ok (.iload_n 2, 1) := by decide +kernel
theorem dX11_fails_15 : decode cX11_fails 15 = .ok (.putfield 263, 3) := by decide +kernel
theorem dX11_fails_18 : decode cX11_fails 18 = .ok (.return_, 1) := by decide +kernel
theorem dX11_isLetter_0 : decode cX11_isLetter 0 = .ok (.iload_n 1, 1) := by decide +kernel
theorem dX11_isLetter_1 : decode cX11_isLetter 1 = .ok (.aload_n 0, 1) := by decide +kernel
theorem dX11_isLetter_2 : decode cX11_isLetter 2 = .ok (.getfield 253, 3) := by decide +kernel
theorem dX11_isLetter_5 : decode cX11_isLetter 5 = .ok (.if_icmp .ge 29, 3) := by decide +kernel
theorem dX11_isLetter_8 : decode cX11_isLetter 8 = .ok (.aload_n 0, 1) := by decide +kernel
theorem dX11_isLetter_9 : decode cX11_isLetter 9 = .ok (.getfield 39, 3) := by decide +kernel
theorem dX11_isLetter_12 : decode cX11_isLetter 12 = .ok (.iload_n 1, 1) := by decide +kernel
theorem dX11_isLetter_13 : decode cX11_isLetter 13 = .ok (.iaload, 1) := by decide +kernel
theorem dX11_isLetter_14 : decode cX11_isLetter 14 = .ok (.bipush 97, 2) := by decide +kernel
theorem dX11_isLetter_16 : decode cX11_isLetter 16 = .ok (.if_icmp .lt 18, 3) := by decide +kernel
theorem dX11_isLetter_19 : decode cX11_isLetter 19 = .ok (.aload_n 0, 1) := by decide +kernel
theorem dX11_isLetter_20 : decode cX11_isLetter 20 = .ok (.getfield 39, 3) := by decide +kernel
theorem dX11_isLetter_23 : decode cX11_isLetter 23 = .ok (.iload_n 1, 1) := by decide +kernel
theorem dX11_isLetter_24 : decode cX11_isLetter 24 = .ok (.iaload, 1) := by decide +kernel
theorem dX11_isLetter_25 : decode cX11_isLetter 25 = .ok (.bipush 122, 2) := by decide +kernel
theorem dX11_isLetter_27 : decode cX11_isLetter 27 = .ok (.if_icmp .gt 7, 3) := by decide +kernel
theorem dX11_isLetter_30 : decode cX11_isLetter 30 = .ok (.iconst 1, 1) := by decide +kernel
theorem dX11_isLetter_31 : decode cX11_isLetter 31 = .ok (.goto 4, 3) := by decide +kernel
theorem dX11_isLetter_34 : decode cX11_isLetter 34 = .ok (.iconst 0, 1) := by decide +kernel
theorem dX11_isLetter_35 : decode cX11_isLetter 35 = .ok (.ireturn, 1) := by decide +kernel
theorem dX11_isDigit_0 : decode cX11_isDigit 0 = .ok (.iload_n 1, 1) := by decide +kernel
theorem dX11_isDigit_1 : decode cX11_isDigit 1 = .ok (.aload_n 0, 1) := by decide +kernel
theorem dX11_isDigit_2 : decode cX11_isDigit 2 = .ok (.getfield 253, 3) := by decide +kernel
theorem dX11_isDigit_5 : decode cX11_isDigit 5 = .ok (.if_icmp .ge 29, 3) := by decide +kernel
theorem dX11_isDigit_8 : decode cX11_isDigit 8 = .ok (.aload_n 0, 1) := by decide +kernel
theorem dX11_isDigit_9 : decode cX11_isDigit 9 = .ok (.getfield 39, 3) := by decide +kernel
theorem dX11_isDigit_12 : decode cX11_isDigit 12 = .ok (.iload_n 1, 1) := by decide +kernel
theorem dX11_isDigit_13 : decode cX11_isDigit 13 = .ok (.iaload, 1) := by decide +kernel
theorem dX11_isDigit_14 : decode cX11_isDigit 14 = .ok (.bipush 48, 2) := by decide +kernel
theorem dX11_isDigit_16 : decode cX11_isDigit 16 = .ok (.if_icmp .lt 18, 3) := by decide +kernel
theorem dX11_isDigit_19 : decode cX11_isDigit 19 = .ok (.aload_n 0, 1) := by decide +kernel
theorem dX11_isDigit_20 : decode cX11_isDigit 20 = .ok (.getfield 39, 3) := by decide +kernel
theorem dX11_isDigit_23 : decode cX11_isDigit 23 = .ok (.iload_n 1, 1) := by decide +kernel
theorem dX11_isDigit_24 : decode cX11_isDigit 24 = .ok (.iaload, 1) := by decide +kernel
theorem dX11_isDigit_25 : decode cX11_isDigit 25 = .ok (.bipush 57, 2) := by decide +kernel
theorem dX11_isDigit_27 : decode cX11_isDigit 27 = .ok (.if_icmp .gt 7, 3) := by decide +kernel
theorem dX11_isDigit_30 : decode cX11_isDigit 30 = .ok (.iconst 1, 1) := by decide +kernel
theorem dX11_isDigit_31 : decode cX11_isDigit 31 = .ok (.goto 4, 3) := by decide +kernel
theorem dX11_isDigit_34 : decode cX11_isDigit 34 = .ok (.iconst 0, 1) := by decide +kernel
theorem dX11_isDigit_35 : decode cX11_isDigit 35 = .ok (.ireturn, 1) := by decide +kernel
theorem dX11_token_0 : decode cX11_token 0 = .ok (.aload_n 0, 1) := by decide +kernel
theorem dX11_token_1 : decode cX11_token 1 = .ok (.getfield 49, 3) := by decide +kernel
theorem dX11_token_4 : decode cX11_token 4 = .ok (.aload_n 0, 1) := by decide +kernel
theorem dX11_token_5 : decode cX11_token 5 = .ok (.getfield 266, 3) := by decide +kernel
theorem dX11_token_8 : decode cX11_token 8 = .ok (.iload_n 1, 1) := by decide +kernel
theorem dX11_token_9 : decode cX11_token 9 = .ok (.iastore, 1) := by decide +kernel
theorem dX11_token_10 : decode cX11_token 10 = .ok (.aload_n 0, 1) := by decide +kernel
theorem dX11_token_11 : decode cX11_token 11 = .ok (.getfield 52, 3) := by decide +kernel
theorem dX11_token_14 : decode cX11_token 14 = .ok (.aload_n 0, 1) := by decide +kernel
theorem dX11_token_15 : decode cX11_token 15 = .ok (.getfield 266, 3) := by decide +kernel
theorem dX11_token_18 : decode cX11_token 18 = .ok (.iload_n 2, 1) := by decide +kernel
theorem dX11_token_19 : decode cX11_token 19 = .ok (.iastore, 1) := by decide +kernel
theorem dX11_token_20 : decode cX11_token 20 = .ok (.aload_n 0, 1) := by decide +kernel
theorem dX11_token_21 : decode cX11_token 21 = .ok (.getfield 55, 3) := by decide +kernel
theorem dX11_token_24 : decode cX11_token 24 = .ok (.aload_n 0, 1) := by decide +kernel
theorem dX11_token_25 : decode cX11_token 25 = .ok (.getfield 266, 3) := by decide +kernel
theorem dX11_token_28 : decode cX11_token 28 = .ok (.iload_n 3, 1) := by decide +kernel
theorem dX11_token_29 : decode cX11_token 29 = .ok (.iastore, 1) := by decide +kernel
theorem dX11_token_30 : decode cX11_token 30 = .ok (.aload_n 0, 1) := by decide +kernel
theorem dX11_token_31 : decode cX11_token 31 = .ok (.getfield 58, 3) := by decide +kernel
theorem dX11_token_34 : decode cX11_token 34 = .ok (.aload_n 0, 1) := by decide +kernel
theorem dX11_token_35 : decode cX11_token 35 = .ok (.getfield 266, 3) := by decide +kernel
theorem dX11_token_38 : decode cX11_token 38 = .ok (.lconst 0, 1) := by decide +kernel
theorem dX11_token_39 : decode cX11_token 39 = .ok (.lastore, 1) := by decide +kernel
theorem dX11_token_40 : decode cX11_token 40 = .ok (.aload_n 0, 1) := by decide +kernel
theorem dX11_token_41 : decode cX11_token 41 = .ok (.dup, 1) := by decide +kernel
theorem dX11_token_42 : decode cX11_token 42 = .ok (.getfield 266, 3) := by decide +kernel
theorem dX11_token_45 : decode cX11_token 45 = .ok (.iconst 1, 1) := by decide +kernel
theorem dX11_token_46 : decode cX11_token 46 = .ok (.iadd, 1) := by decide +kernel
theorem dX11_token_47 : decode cX11_token 47 = .ok (.putfield 266, 3) := by decide +kernel
theorem dX11_token_50 : decode cX11_token 50 = .ok (.return_, 1) := by decide +kernel
theorem dX11_name_0 : decode cX11_name 0 = .ok (.iload_n 1, 1) := by decide +kernel
theorem dX11_name_1 : decode cX11_name 1 = .ok (.istore_n 2, 1) := by decide +kernel
theorem dX11_name_2 : decode cX11_name 2 = .ok (.aload_n 0, 1) := by decide +kernel
theorem dX11_name_3 : decode cX11_name 3 = .ok (.iload_n 2, 1) := by decide +kernel
theorem dX11_name_4 : decode cX11_name 4 = .ok (.invokevirtual 269, 3) := by decide +kernel
theorem dX11_name_7 : decode cX11_name 7 = .ok (.ifCond .ne 11, 3) := by decide +kernel
theorem dX11_name_10 : decode cX11_name 10 = .ok (.aload_n 0, 1) := by decide +kernel
theorem dX11_name_11 : decode cX11_name 11 = .ok (.iload_n 2, 1) := by decide +kernel
theorem dX11_name_12 : decode cX11_name 12 = .ok (.invokevirtual 272, 3) := by decide +kernel
theorem dX11_name_15 : decode cX11_name 15 = .ok (.ifCond .eq 9, 3) := by decide +kernel
theorem dX11_name_18 : decode cX11_name 18 = .ok (.iinc 2 1, 3) := by decide +kernel
theorem dX11_name_21 : decode cX11_name 21 = .ok (.goto (-19), 3) := by decide +kernel
theorem dX11_name_24 : decode cX11_name 24 = .ok (.iload_n 2, 1) := by decide +kernel
theorem dX11_name_25 : decode cX11_name 25 = .ok (.iload_n 1, 1) := by decide +kernel
theorem dX11_name_26 : decode cX11_name 26 = .ok (.isub, 1) := by decide +kernel
theorem dX11_name_27 : decode cX11_name 27 = .ok (.bipush 8, 2) := by decide +kernel
theorem dX11_name_29 : decode cX11_name 29 = .ok (.if_icmp .le 11, 3) := by decide +kernel
theorem dX11_name_32 : decode cX11_name 32 = .ok (.aload_n 0, 1) := by decide +kernel
theorem dX11_name_33 : decode cX11_name 33 = .ok (.iconst 1, 1) := by decide +kernel
theorem dX11_name_34 : decode cX11_name 34 = .ok (.iload_n 1, 1) := by decide +kernel
theorem dX11_name_35 : decode cX11_name 35 = .ok (.invokevirtual 275, 3) := by decide +kernel
theorem dX11_name_38 : decode cX11_name 38 = .ok (.iload_n 2, 1) := by decide +kernel
theorem dX11_name_39 : decode cX11_name 39 = .ok (.ireturn, 1) := by decide +kernel
theorem dX11_name_40 : decode cX11_name 40 = .ok (.lconst 0, 1) := by decide +kernel
theorem dX11_name_41 : decode cX11_name 41 = .ok (.lstore_n 3, 1) := by decide +kernel
theorem dX11_name_42 : decode cX11_name 42 = .ok (.iload_n 1, 1) := by decide +kernel
theorem dX11_name_43 : decode cX11_name 43 = .ok (.istore 5, 2) := by decide +kernel
theorem dX11_name_45 : decode cX11_name 45 = .ok (.iload 5, 2) := by decide +kernel
theorem dX11_name_47 : decode cX11_name 47 = .ok (.iload_n 2, 1) := by decide +kernel
theorem dX11_name_48 : decode cX11_name 48 = .ok (.if_icmp .ge 23, 3) := by decide +kernel
theorem dX11_name_51 : decode cX11_name 51 = .ok (.lload_n 3, 1) := by decide +kernel
theorem dX11_name_52 : decode cX11_name 52 = .ok (.bipush 8, 2) := by decide +kernel
theorem dX11_name_54 : decode cX11_name 54 = .ok (.lshl, 1) := by decide +kernel
theorem dX11_name_55 : decode cX11_name 55 = .ok (.aload_n 0, 1) := by decide +kernel
theorem dX11_name_56 : decode cX11_name 56 = .ok (.getfield 39, 3) := by decide +kernel
theorem dX11_name_59 : decode cX11_name 59 = .ok (.iload 5, 2) := by decide +kernel
theorem dX11_name_61 : decode cX11_name 61 = .ok (.iaload, 1) := by decide +kernel
theorem dX11_name_62 : decode cX11_name 62 = .ok (.i2l, 1) := by decide +kernel
theorem dX11_name_63 : decode cX11_name 63 = .ok (.lor, 1) := by decide +kernel
theorem dX11_name_64 : decode cX11_name 64 = .ok (.lstore_n 3, 1) := by decide +kernel
theorem dX11_name_65 : decode cX11_name 65 = .ok (.iinc 5 1, 3) := by decide +kernel
theorem dX11_name_68 : decode cX11_name 68 = .ok (.goto (-23), 3) := by decide +kernel
theorem dX11_name_71 : decode cX11_name 71 = .ok (.iconst 0, 1) := by decide +kernel
theorem dX11_name_72 : decode cX11_name 72 = .ok (.istore 5, 2) := by decide +kernel
theorem dX11_name_74 : decode cX11_name 74 = .ok (.iload 5, 2) := by decide +kernel
theorem dX11_name_76 : decode cX11_name 76 = .ok (.bipush 26, 2) := by decide +kernel
theorem dX11_name_78 : decode cX11_name 78 = .ok (.if_icmp .ge 34, 3) := by decide +kernel
theorem dX11_name_81 : decode cX11_name 81 = .ok (.aload_n 0, 1) := by decide +kernel
theorem dX11_name_82 : decode cX11_name 82 = .ok (.getfield 42, 3) := by decide +kernel
theorem dX11_name_85 : decode cX11_name 85 = .ok (.iload 5, 2) := by decide +kernel
theorem dX11_name_87 : decode cX11_name 87 = .ok (.laload, 1) := by decide +kernel
theorem dX11_name_88 : decode cX11_name 88 = .ok (.lload_n 3, 1) := by decide +kernel
theorem dX11_name_89 : decode cX11_name 89 = .ok (.lcmp, 1) := by decide +kernel
theorem dX11_name_90 : decode cX11_name 90 = .ok (.ifCond .ne 16, 3) := by decide +kernel
theorem dX11_name_93 : decode cX11_name 93 = .ok (.aload_n 0, 1) := by decide +kernel
theorem dX11_name_94 : decode cX11_name 94 = .ok (.getfield 46, 3) := by decide +kernel
theorem dX11_name_97 : decode cX11_name 97 = .ok (.iload 5, 2) := by decide +kernel
theorem dX11_name_99 : decode cX11_name 99 = .ok (.iaload, 1) := by decide +kernel
theorem dX11_name_100 : decode cX11_name 100 = .ok (.iload_n 2, 1) := by decide +kernel
theorem dX11_name_101 : decode cX11_name 101 = .ok (.iload_n 1, 1) := by decide +kernel
theorem dX11_name_102 : decode cX11_name 102 = .ok (.isub, 1) := by decide +kernel
theorem dX11_name_103 : decode cX11_name 103 = .ok (.if_icmp .eq 9, 3) := by decide +kernel
theorem dX11_name_106 : decode cX11_name 106 = .ok (.iinc 5 1, 3) := by decide +kernel
theorem dX11_name_109 : decode cX11_name 109 = .ok (.goto (-35), 3) := by decide +kernel
theorem dX11_name_112 : decode cX11_name 112 = .ok (.aload_n 0, 1) := by decide +kernel
theorem dX11_name_113 : decode cX11_name 113 = .ok (.iload 5, 2) := by decide +kernel
theorem dX11_name_115 : decode cX11_name 115 = .ok (.bipush 26, 2) := by decide +kernel
theorem dX11_name_117 : decode cX11_name 117 = .ok (.if_icmp .ge 7, 3) := by decide +kernel
theorem dX11_name_120 : decode cX11_name 120 = .ok (.iconst 1, 1) := by decide +kernel
theorem dX11_name_121 : decode cX11_name 121 = .ok (.goto 23, 3) := by decide +kernel
theorem dX11_name_124 : decode cX11_name 124 = .ok (.iload_n 2, 1) := by decide +kernel
theorem dX11_name_125 : decode cX11_name 125 = .ok (.iload_n 1, 1) := by decide +kernel
theorem dX11_name_126 : decode cX11_name 126 = .ok (.isub, 1) := by decide +kernel
theorem dX11_name_127 : decode cX11_name 127 = .ok (.iconst 1, 1) := by decide +kernel
theorem dX11_name_128 : decode cX11_name 128 = .ok (.if_icmp .ne 15, 3) := by decide +kernel
theorem dX11_name_131 : decode cX11_name 131 = .ok (.lload_n 3, 1) := by decide +kernel
theorem dX11_name_132 : decode cX11_name 132 = .ok (.ldc2_w 279, 3) := by decide +kernel
theorem dX11_name_135 : decode cX11_name 135 = .ok (.lcmp, 1) := by decide +kernel
theorem dX11_name_136 : decode cX11_name 136 = .ok (.ifCond .gt 7, 3) := by decide +kernel
theorem dX11_name_139 : decode cX11_name 139 = .ok (.iconst 2, 1) := by decide +kernel
theorem dX11_name_140 : decode cX11_name 140 = .ok (.goto 4, 3) := by decide +kernel
theorem dX11_name_143 : decode cX11_name 143 = .ok (.iconst 3, 1) := by decide +kernel
theorem dX11_name_144 : decode cX11_name 144 = .ok (.iload_n 1, 1) := by decide +kernel
theorem dX11_name_145 : decode cX11_name 145 = .ok (.iload_n 2, 1) := by decide +kernel
theorem dX11_name_146 : decode cX11_name 146 = .ok (.iload_n 1, 1) := by decide +kernel
theorem dX11_name_147 : decode cX11_name 147 = .ok (.isub, 1) := by decide +kernel
theorem dX11_name_148 : decode cX11_name 148 = .ok (.invokevirtual 281, 3) := by decide +kernel
theorem dX11_name_151 : decode cX11_name 151 = .ok (.aload_n 0, 1) := by decide +kernel
theorem dX11_name_152 : decode cX11_name 152 = .ok (.getfield 58, 3) := by decide +kernel
theorem dX11_name_155 : decode cX11_name 155 = .ok (.aload_n 0, 1) := by decide +kernel
theorem dX11_name_156 : decode cX11_name 156 = .ok (.getfield 266, 3) := by decide +kernel
theorem dX11_name_159 : decode cX11_name 159 = .ok (.iconst 1, 1) := by decide +kernel
theorem dX11_name_160 : decode cX11_name 160 = .ok (.isub, 1) := by decide +kernel
theorem dX11_name_161 : decode cX11_name 161 = .ok (.lload_n 3, 1) := by decide +kernel
theorem dX11_name_162 : decode cX11_name 162 = .ok (.lastore, 1) := by decide +kernel
theorem dX11_name_163 : decode cX11_name 163 = .ok (.aload_n 0, 1) := by decide +kernel
theorem dX11_name_164 : decode cX11_name 164 = .ok (.getfield 61, 3) := by decide +kernel
theorem dX11_name_167 : decode cX11_name 167 = .ok (.aload_n 0, 1) := by decide +kernel
theorem dX11_name_168 : decode cX11_name 168 = .ok (.getfield 266, 3) := by decide +kernel
theorem dX11_name_171 : decode cX11_name 171 = .ok (.iconst 1, 1) := by decide +kernel
theorem dX11_name_172 : decode cX11_name 172 = .ok (.isub, 1) := by decide +kernel
theorem dX11_name_173 : decode cX11_name 173 = .ok (.iload 5, 2) := by decide +kernel
theorem dX11_name_175 : decode cX11_name 175 = .ok (.bipush 26, 2) := by decide +kernel
theorem dX11_name_177 : decode cX11_name 177 = .ok (.if_icmp .ge 8, 3) := by decide +kernel
theorem dX11_name_180 : decode cX11_name 180 = .ok (.iload 5, 2) := by decide +kernel
theorem dX11_name_182 : decode cX11_name 182 = .ok (.goto 8, 3) := by decide +kernel
theorem dX11_name_185 : decode cX11_name 185 = .ok (.lload_n 3, 1) := by decide +kernel
theorem dX11_name_186 : decode cX11_name 186 = .ok (.l2i, 1) := by decide +kernel
theorem dX11_name_187 : decode cX11_name 187 = .ok (.bipush 97, 2) := by decide +kernel
theorem dX11_name_189 : decode cX11_name 189 = .ok (.isub, 1) := by decide +kernel
theorem dX11_name_190 : decode cX11_name 190 = .ok (.iastore, 1) := by decide +kernel
theorem dX11_name_191 : decode cX11_name 191 = .ok (.iload_n 2, 1) := by decide +kernel
theorem dX11_name_192 : decode cX11_name 192 = .ok (.ireturn, 1) := by decide +kernel
theorem dX11_number_0 : decode cX11_number 0 = .ok (.aload_n 0, 1) := by decide +kernel
theorem dX11_number_1 : decode cX11_number 1 = .ok (.getfield 39, 3) := by decide +kernel
theorem dX11_number_4 : decode cX11_number 4 = .ok (.iload_n 1, 1) := by decide +kernel
theorem dX11_number_5 : decode cX11_number 5 = .ok (.iaload, 1) := by decide +kernel
theorem dX11_number_6 : decode cX11_number 6 = .ok (.bipush 45, 2) := by decide +kernel
theorem dX11_number_8 : decode cX11_number 8 = .ok (.if_icmp .ne 9, 3) := by decide +kernel
theorem dX11_number_11 : decode cX11_number 11 = .ok (.iload_n 1, 1) := by decide +kernel
theorem dX11_number_12 : decode cX11_number 12 = .ok (.iconst 1, 1) := by decide +kernel
theorem dX11_number_13 : decode cX11_number 13 = .ok (.iadd, 1) := by decide +kernel
theorem dX11_number_14 : decode cX11_number 14 = .ok (.goto 4, 3) := by decide +kernel
theorem dX11_number_17 : decode cX11_number 17 = .ok (.iload_n 1, 1) := by decide +kernel
theorem dX11_number_18 : decode cX11_number 18 = .ok (.istore_n 2, 1) := by decide +kernel
theorem dX11_number_19 : decode cX11_number 19 = .ok (.iload_n 2, 1) := by decide +kernel
theorem dX11_number_20 : decode cX11_number 20 = .ok (.istore_n 3, 1) := by decide +kernel
theorem dX11_number_21 : decode cX11_number 21 = .ok (.lconst 0, 1) := by decide +kernel
theorem dX11_number_22 : decode cX11_number 22 = .ok (.lstore 4, 2) := by decide +kernel
theorem dX11_number_24 : decode cX11_number 24 = .ok (.aload_n 0, 1) := by decide +kernel
theorem dX11_number_25 : decode cX11_number 25 = .ok (.iload_n 2, 1) := by decide +kernel
theorem dX11_number_26 : decode cX11_number 26 = .ok (.invokevirtual 272, 3) := by decide +kernel
theorem dX11_number_29 : decode cX11_number 29 = .ok (.ifCond .eq 37, 3) := by decide +kernel
theorem dX11_number_32 : decode cX11_number 32 = .ok (.iload_n 2, 1) := by decide +kernel
theorem dX11_number_33 : decode cX11_number 33 = .ok (.iload_n 3, 1) := by decide +kernel
theorem dX11_number_34 : decode cX11_number 34 = .ok (.isub, 1) := by decide +kernel
theorem dX11_number_35 : decode cX11_number 35 = .ok (.bipush 10, 2) := by decide +kernel
theorem dX11_number_37 : decode cX11_number 37 = .ok (.if_icmp .ge 23, 3) := by decide +kernel
theorem dX11_number_40 : decode cX11_number 40 = .ok (.ldc2_w 284, 3) := by decide +kernel
theorem dX11_number_43 : decode cX11_number 43 = .ok (.lload 4, 2) := by decide +kernel
theorem dX11_number_45 : decode cX11_number 45 = .ok (.lmul, 1) := by decide +kernel
theorem dX11_number_46 : decode cX11_number 46 = .ok (.aload_n 0, 1) := by decide +kernel
theorem dX11_number_47 : decode cX11_number 47 = .ok (.getfield 39, 3) := by decide +kernel
theorem dX11_number_50 : decode cX11_number 50 = .ok (.iload_n 2, 1) := by decide +kernel
theorem dX11_number_51 : decode cX11_number 51 = .ok (.iaload, 1) := by decide +kernel
theorem dX11_number_52 : decode cX11_number 52 = .ok (.i2l, 1) := by decide +kernel
theorem dX11_number_53 : decode cX11_number 53 = .ok (.ladd, 1) := by decide +kernel
theorem dX11_number_54 : decode cX11_number 54 = .ok (.ldc2_w 286, 3) := by decide +kernel
theorem dX11_number_57 : decode cX11_number 57 = .ok (.lsub, 1) := by decide +kernel
theorem dX11_number_58 : decode cX11_number 58 = .ok (.lstore 4, 2) := by decide +kernel
theorem dX11_number_60 : decode cX11_number 60 = .ok (.iinc 2 1, 3) := by decide +kernel
theorem dX11_number_63 : decode cX11_number 63 = .ok (.goto (-39), 3) := by decide +kernel
theorem dX11_number_66 : decode cX11_number 66 = .ok (.iload_n 3, 1) := by decide +kernel
theorem dX11_number_67 : decode cX11_number 67 = .ok (.iload_n 1, 1) := by decide +kernel
theorem dX11_number_68 : decode cX11_number 68 = .ok (.if_icmp .le 8, 3) := by decide +kernel
theorem dX11_number_71 : decode cX11_number 71 = .ok (.lload 4, 2) := by decide +kernel
theorem dX11_number_73 : decode cX11_number 73 = .ok (.lneg, 1) := by decide +kernel
theorem dX11_number_74 : decode cX11_number 74 = .ok (.lstore 4, 2) := by decide +kernel
theorem dX11_number_76 : decode cX11_number 76 = .ok (.iload_n 2, 1) := by decide +kernel
theorem dX11_number_77 : decode cX11_number 77 = .ok (.iload_n 3, 1) := by decide +kernel
theorem dX11_number_78 : decode cX11_number 78 = .ok (.if_icmp .eq 29, 3) := by decide +kernel
theorem dX11_number_81 : decode cX11_number 81 = .ok (.iload_n 2, 1) := by decide +kernel
theorem dX11_number_82 : decode cX11_number 82 = .ok (.iload_n 3, 1) := by decide +kernel
theorem dX11_number_83 : decode cX11_number 83 = .ok (.isub, 1) := by decide +kernel
theorem dX11_number_84 : decode cX11_number 84 = .ok (.bipush 10, 2) := by decide +kernel
theorem dX11_number_86 : decode cX11_number 86 = .ok (.if_icmp .gt 21, 3) := by decide +kernel
theorem dX11_number_89 : decode cX11_number 89 = .ok (.lload 4, 2) := by decide +kernel
theorem dX11_number_91 : decode cX11_number 91 = .ok (.ldc2_w 288, 3) := by decide +kernel
theorem dX11_number_94 : decode cX11_number 94 = .ok (.lcmp, 1) := by decide +kernel
theorem dX11_number_95 : decode cX11_number 95 = .ok (.ifCond .lt 12, 3) := by decide +kernel
theorem dX11_number_98 : decode cX11_number 98 = .ok (.lload 4, 2) := by decide +kernel
theorem dX11_number_100 : decode cX11_number 100 = .ok (.ldc2_w 290, 3) := by decide +kernel
theorem dX11_number_103 : decode cX11_number 103 = .ok (.lcmp, 1) := by decide +kernel
theorem dX11_number_104 : decode cX11_number 104 = .ok (.ifCond .le 12, 3) := by decide +kernel
theorem dX11_number_107 : decode cX11_number 107 = .ok (.aload_n 0, 1) := by decide +kernel
theorem dX11_number_108 : decode cX11_number 108 = .ok (.iconst 1, 1) := by decide +kernel
theorem dX11_number_109 : decode cX11_number 109 = .ok (.iload_n 1, 1) := by decide +kernel
theorem dX11_number_110 : decode cX11_number 110 = .ok (.invokevirtual 275, 3) := by decide +kernel
theorem dX11_number_113 : decode cX11_number 113 = .ok (.goto 12, 3) := by decide +kernel
theorem dX11_number_116 : decode cX11_number 116 = .ok (.aload_n 0, 1) := by decide +kernel
theorem dX11_number_117 : decode cX11_number 117 = .ok (.iconst 4, 1) := by decide +kernel
theorem dX11_number_118 : decode cX11_number 118 = .ok (.iload_n 1, 1) := by decide +kernel
theorem dX11_number_119 : decode cX11_number 119 = .ok (.iload_n 2, 1) := by decide +kernel
theorem dX11_number_120 : decode cX11_number 120 = .ok (.iload_n 1, 1) := by decide +kernel
theorem dX11_number_121 : decode cX11_number 121 = .ok (.isub, 1) := by decide +kernel
theorem dX11_number_122 : decode cX11_number 122 = .ok (.invokevirtual 281, 3) := by decide +kernel
theorem dX11_number_125 : decode cX11_number 125 = .ok (.aload_n 0, 1) := by decide +kernel
theorem dX11_number_126 : decode cX11_number 126 = .ok (.invokevirtual 292, 3) := by decide +kernel
theorem dX11_number_129 : decode cX11_number 129 = .ok (.ifCond .eq 17, 3) := by decide +kernel
theorem dX11_number_132 : decode cX11_number 132 = .ok (.aload_n 0, 1) := by decide +kernel
theorem dX11_number_133 : decode cX11_number 133 = .ok (.getfield 61, 3) := by decide +kernel
theorem dX11_number_136 : decode cX11_number 136 = .ok (.aload_n 0, 1) := by decide +kernel
theorem dX11_number_137 : decode cX11_number 137 = .ok (.getfield 266, 3) := by decide +kernel
theorem dX11_number_140 : decode cX11_number 140 = .ok (.iconst 1, 1) := by decide +kernel
theorem dX11_number_141 : decode cX11_number 141 = .ok (.isub, 1) := by decide +kernel
theorem dX11_number_142 : decode cX11_number 142 = .ok (.lload 4, 2) := by decide +kernel
theorem dX11_number_144 : decode cX11_number 144 = .ok (.l2i, 1) := by decide +kernel
theorem dX11_number_145 : decode cX11_number 145 = .ok (.iastore, 1) := by decide +kernel
theorem dX11_number_146 : decode cX11_number 146 = .ok (.iload_n 2, 1) := by decide +kernel
theorem dX11_number_147 : decode cX11_number 147 = .ok (.ireturn, 1) := by decide +kernel
theorem dX11_cut_0 : decode cX11_cut 0 = .ok (.aload_n 0, 1) := by decide +kernel
theorem dX11_cut_1 : decode cX11_cut 1 = .ok (.iconst 0, 1) := by decide +kernel
theorem dX11_cut_2 : decode cX11_cut 2 = .ok (.putfield 266, 3) := by decide +kernel
theorem dX11_cut_5 : decode cX11_cut 5 = .ok (.iconst 0, 1) := by decide +kernel
theorem dX11_cut_6 : decode cX11_cut 6 = .ok (.istore_n 1, 1) := by decide +kernel
theorem dX11_cut_7 : decode cX11_cut 7 = .ok (.iload_n 1, 1) := by decide +kernel
theorem dX11_cut_8 : decode cX11_cut 8 = .ok (.aload_n 0, 1) := by decide +kernel
theorem dX11_cut_9 : decode cX11_cut 9 = .ok (.getfield 253, 3) := by decide +kernel
theorem dX11_cut_12 : decode cX11_cut 12 = .ok (.if_icmp .ge 120, 3) := by decide +kernel
theorem dX11_cut_15 : decode cX11_cut 15 = .ok (.aload_n 0, 1) := by decide +kernel
theorem dX11_cut_16 : decode cX11_cut 16 = .ok (.invokevirtual 292, 3) := by decide +kernel
theorem dX11_cut_19 : decode cX11_cut 19 = .ok (.ifCond .eq 113, 3) := by decide +kernel
theorem dX11_cut_22 : decode cX11_cut 22 = .ok (.aload_n 0, 1) := by decide +kernel
theorem dX11_cut_23 : decode cX11_cut 23 = .ok (.getfield 39, 3) := by decide +kernel
theorem dX11_cut_26 : decode cX11_cut 26 = .ok (.iload_n 1, 1) := by decide +kernel
theorem dX11_cut_27 : decode cX11_cut 27 = .ok (.iaload, 1) := by decide +kernel
theorem dX11_cut_28 : decode cX11_cut 28 = .ok (.istore_n 2, 1) := by decide +kernel
theorem dX11_cut_29 : decode cX11_cut 29 = .ok (.iload_n 2, 1) := by decide +kernel
theorem dX11_cut_30 : decode cX11_cut 30 = .ok (.bipush 32, 2) := by decide +kernel
theorem dX11_cut_32 : decode cX11_cut 32 = .ok (.if_icmp .eq 9, 3) := by decide +kernel
theorem dX11_cut_35 : decode cX11_cut 35 = .ok (.iload_n 2, 1) := by decide +kernel
theorem dX11_cut_36 : decode cX11_cut 36 = .ok (.bipush 10, 2) := by decide +kernel
theorem dX11_cut_38 : decode cX11_cut 38 = .ok (.if_icmp .ne 9, 3) := by decide +kernel
theorem dX11_cut_41 : decode cX11_cut 41 = .ok (.iinc 1 1, 3) := by decide +kernel
theorem dX11_cut_44 : decode cX11_cut 44 = .ok (.goto 85, 3) := by decide +kernel
theorem dX11_cut_47 : decode cX11_cut 47 = .ok (.aload_n 0, 1) := by decide +kernel
theorem dX11_cut_48 : decode cX11_cut 48 = .ok (.iload_n 1, 1) := by decide +kernel
theorem dX11_cut_49 : decode cX11_cut 49 = .ok (.invokevirtual 269, 3) := by decide +kernel
theorem dX11_cut_52 : decode cX11_cut 52 = .ok (.ifCond .eq 12, 3) := by decide +kernel
theorem dX11_cut_55 : decode cX11_cut 55 = .ok (.aload_n 0, 1) := by decide +kernel
theorem dX11_cut_56 : decode cX11_cut 56 = .ok (.iload_n 1, 1) := by decide +kernel
theorem dX11_cut_57 : decode cX11_cut 57 = .ok (.invokevirtual 295, 3) := by decide +kernel
theorem dX11_cut_60 : decode cX11_cut 60 = .ok (.istore_n 1, 1) := by decide +kernel
theorem dX11_cut_61 : decode cX11_cut 61 = .ok (.goto 68, 3) := by decide +kernel
theorem dX11_cut_64 : decode cX11_cut 64 = .ok (.aload_n 0, 1) := by decide +kernel
theorem dX11_cut_65 : decode cX11_cut 65 = .ok (.iload_n 1, 1) := by decide +kernel
theorem dX11_cut_66 : decode cX11_cut 66 = .ok (.invokevirtual 272, 3) := by decide +kernel
theorem dX11_cut_69 : decode cX11_cut 69 = .ok (.ifCond .ne 9, 3) := by decide +kernel
theorem dX11_cut_72 : decode cX11_cut 72 = .ok (.iload_n 2, 1) := by decide +kernel
theorem dX11_cut_73 : decode cX11_cut 73 = .ok (.bipush 45, 2) := by decide +kernel
theorem dX11_cut_75 : decode cX11_cut 75 = .ok (.if_icmp .ne 12, 3) := by decide +kernel
theorem dX11_cut_78 : decode cX11_cut 78 = .ok (.aload_n 0, 1) := by decide +kernel
theorem dX11_cut_79 : decode cX11_cut 79 = .ok (.iload_n 1, 1) := by decide +kernel
theorem dX11_cut_80 : decode cX11_cut 80 = .ok (.invokevirtual 298, 3) := by decide +kernel
theorem dX11_cut_83 : decode cX11_cut 83 = .ok (.istore_n 1, 1) := by decide +kernel
theorem dX11_cut_84 : decode cX11_cut 84 = .ok (.goto 45, 3) := by decide +kernel
theorem dX11_cut_87 : decode cX11_cut 87 = .ok (.iload_n 2, 1) := by decide +kernel
theorem dX11_cut_88 : decode cX11_cut 88 = .ok (.bipush 58, 2) := by decide +kernel
theorem dX11_cut_90 : decode cX11_cut 90 = .ok (.if_icmp .eq 9, 3) := by decide +kernel
theorem dX11_cut_93 : decode cX11_cut 93 = .ok (.iload_n 2, 1) := by decide +kernel
theorem dX11_cut_94 : decode cX11_cut 94 = .ok (.bipush 59, 2) := by decide +kernel
theorem dX11_cut_96 : decode cX11_cut 96 = .ok (.if_icmp .ne 27, 3) := by decide +kernel
theorem dX11_cut_99 : decode cX11_cut 99 = .ok (.aload_n 0, 1) := by decide +kernel
theorem dX11_cut_100 : decode cX11_cut 100 = .ok (.iload_n 2, 1) := by decide +kernel
theorem dX11_cut_101 : decode cX11_cut 101 = .ok (.bipush 58, 2) := by decide +kernel
theorem dX11_cut_103 : decode cX11_cut 103 = .ok (.if_icmp .ne 7, 3) := by decide +kernel
theorem dX11_cut_106 : decode cX11_cut 106 = .ok (.iconst 5, 1) := by decide +kernel
theorem dX11_cut_107 : decode cX11_cut 107 = .ok (.goto 5, 3) := by decide +kernel
theorem dX11_cut_110 : decode cX11_cut 110 = .ok (.bipush 6, 2) := by decide +kernel
theorem dX11_cut_112 : decode cX11_cut 112 = .ok (.iload_n 1, 1) := by decide +kernel
theorem dX11_cut_113 : decode cX11_cut 113 = .ok (.iconst 1, 1) := by decide +kernel
theorem dX11_cut_114 : decode cX11_cut 114 = .ok (.invokevirtual 281, 3) := by decide +kernel
theorem dX11_cut_117 : decode cX11_cut 117 = .ok (.iinc 1 1, 3) := by decide +kernel
theorem dX11_cut_120 : decode cX11_cut 120 = .ok (.goto 9, 3) := by decide +kernel
theorem dX11_cut_123 : decode cX11_cut 123 = .ok (.aload_n 0, 1) := by decide +kernel
theorem dX11_cut_124 : decode cX11_cut 124 = .ok (.iconst 1, 1) := by decide +kernel
theorem dX11_cut_125 : decode cX11_cut 125 = .ok (.iload_n 1, 1) := by decide +kernel
theorem dX11_cut_126 : decode cX11_cut 126 = .ok (.invokevirtual 275, 3) := by decide +kernel
theorem dX11_cut_129 : decode cX11_cut 129 = .ok (.goto (-122), 3) := by decide +kernel
theorem dX11_cut_132 : decode cX11_cut 132 = .ok (.aload_n 0, 1) := by decide +kernel
theorem dX11_cut_133 : decode cX11_cut 133 = .ok (.iconst 0, 1) := by decide +kernel
theorem dX11_cut_134 : decode cX11_cut 134 = .ok (.aload_n 0, 1) := by decide +kernel
theorem dX11_cut_135 : decode cX11_cut 135 = .ok (.getfield 253, 3) := by decide +kernel
theorem dX11_cut_138 : decode cX11_cut 138 = .ok (.iconst 0, 1) := by decide +kernel
theorem dX11_cut_139 : decode cX11_cut 139 = .ok (.invokevirtual 281, 3) := by decide +kernel
theorem dX11_cut_142 : decode cX11_cut 142 = .ok (.return_, 1) := by decide +kernel
theorem dX11_labelOf_0 : decode cX11_labelOf 0 = .ok (.iconst 0, 1) := by decide +kernel
theorem dX11_labelOf_1 : decode cX11_labelOf 1 = .ok (.istore 4, 2) := by decide +kernel
theorem dX11_labelOf_3 : decode cX11_labelOf 3 = .ok (.iload 4, 2) := by decide +kernel
theorem dX11_labelOf_5 : decode cX11_labelOf 5 = .ok (.aload_n 0, 1) := by decide +kernel
theorem dX11_labelOf_6 : decode cX11_labelOf 6 = .ok (.getfield 300, 3) := by decide +kernel
theorem dX11_labelOf_9 : decode cX11_labelOf 9 = .ok (.if_icmp .ge 35, 3) := by decide +kernel
theorem dX11_labelOf_12 : decode cX11_labelOf 12 = .ok (.aload_n 0, 1) := by decide +kernel
theorem dX11_labelOf_13 : decode cX11_labelOf 13 = .ok (.getfield 82, 3) := by decide +kernel
theorem dX11_labelOf_16 : decode cX11_labelOf 16 = .ok (.iload 4, 2) := by decide +kernel
theorem dX11_labelOf_18 : decode cX11_labelOf 18 = .ok (.laload, 1) := by decide +kernel
theorem dX11_labelOf_19 : decode cX11_labelOf 19 = .ok (.lload_n 1, 1) := by decide +kernel
theorem dX11_labelOf_20 : decode cX11_labelOf 20 = .ok (.lcmp, 1) := by decide +kernel
theorem dX11_labelOf_21 : decode cX11_labelOf 21 = .ok (.ifCond .ne 17, 3) := by decide +kernel
theorem dX11_labelOf_24 : decode cX11_labelOf 24 = .ok (.aload_n 0, 1) := by decide +kernel
theorem dX11_labelOf_25 : decode cX11_labelOf 25 = .ok (.getfield 85, 3) := by decide +kernel
theorem dX11_labelOf_28 : decode cX11_labelOf 28 = .ok (.iload 4, 2) := by decide +kernel
theorem dX11_labelOf_30 : decode cX11_labelOf 30 = .ok (.iaload, 1) := by decide +kernel
theorem dX11_labelOf_31 : decode cX11_labelOf 31 = .ok (.iload_n 3, 1) := by decide +kernel
theorem dX11_labelOf_32 : decode cX11_labelOf 32 = .ok (.if_icmp .ne 6, 3) := by decide +kernel
theorem dX11_labelOf_35 : decode cX11_labelOf 35 = .ok (.iload 4, 2) := by decide +kernel
theorem dX11_labelOf_37 : decode cX11_labelOf 37 = .ok (.ireturn, 1) := by decide +kernel
theorem dX11_labelOf_38 : decode cX11_labelOf 38 = .ok (.iinc 4 1, 3) := by decide +kernel
theorem dX11_labelOf_41 : decode cX11_labelOf 41 = .ok (.goto (-38), 3) := by decide +kernel
theorem dX11_labelOf_44 : decode cX11_labelOf 44 = .ok (.iconst (-1), 1) := by decide +kernel
theorem dX11_labelOf_45 : decode cX11_labelOf 45 = .ok (.ireturn, 1) := by decide +kernel
theorem dX11_readAct_0 : decode cX11_readAct 0 = .ok (.aload_n 0, 1) := by decide +kernel
theorem dX11_readAct_1 : decode cX11_readAct 1 = .ok (.getfield 49, 3) := by decide +kernel
theorem dX11_readAct_4 : decode cX11_readAct 4 = .ok (.aload_n 0, 1) := by decide +kernel
theorem dX11_readAct_5 : decode cX11_readAct 5 = .ok (.getfield 303, 3) := by decide +kernel
theorem dX11_readAct_8 : decode cX11_readAct 8 = .ok (.iaload, 1) := by decide +kernel
theorem dX11_readAct_9 : decode cX11_readAct 9 = .ok (.iconst 3, 1) := by decide +kernel
theorem dX11_readAct_10 : decode cX11_readAct 10 = .ok (.if_icmp .ne 7, 3) := by decide +kernel
theorem dX11_readAct_13 : decode cX11_readAct 13 = .ok (.iconst 1, 1) := by decide +kernel
theorem dX11_readAct_14 : decode cX11_readAct 14 = .ok (.goto 4, 3) := by decide +kernel
theorem dX11_readAct_17 : decode cX11_readAct 17 = .ok (.iconst 0, 1) := by decide +kernel
theorem dX11_readAct_18 : decode cX11_readAct 18 = .ok (.istore_n 1, 1) := by decide +kernel
theorem dX11_readAct_19 : decode cX11_readAct 19 = .ok (.aload_n 0, 1) := by decide +kernel
theorem dX11_readAct_20 : decode cX11_readAct 20 = .ok (.getfield 49, 3) := by decide +kernel
theorem dX11_readAct_23 : decode cX11_readAct 23 = .ok (.aload_n 0, 1) := by decide +kernel
theorem dX11_readAct_24 : decode cX11_readAct 24 = .ok (.getfield 303, 3) := by decide +kernel
theorem dX11_readAct_27 : decode cX11_readAct 27 = .ok (.iaload, 1) := by decide +kernel
theorem dX11_readAct_28 : decode cX11_readAct 28 = .ok (.iconst 1, 1) := by decide +kernel
theorem dX11_readAct_29 : decode cX11_readAct 29 = .ok (.if_icmp .eq 22, 3) := by decide +kernel
theorem dX11_readAct_32 : decode cX11_readAct 32 = .ok (.iload_n 1, 1) := by decide +kernel
theorem dX11_readAct_33 : decode cX11_readAct 33 = .ok (.ifCond .ne 18, 3) := by decide +kernel
theorem dX11_readAct_36 : decode cX11_readAct 36 = .ok (.aload_n 0, 1) := by decide +kernel
theorem dX11_readAct_37 : decode cX11_readAct 37 = .ok (.iconst 2, 1) := by decide +kernel
theorem dX11_readAct_38 : decode cX11_readAct 38 = .ok (.aload_n 0, 1) := by decide +kernel
theorem dX11_readAct_39 : decode cX11_readAct 39 = .ok (.getfield 52, 3) := by decide +kernel
theorem dX11_readAct_42 : decode cX11_readAct 42 = .ok (.aload_n 0, 1) := by decide +kernel
theorem dX11_readAct_43 : decode cX11_readAct 43 = .ok (.getfield 303, 3) := by decide +kernel
theorem dX11_readAct_46 : decode cX11_readAct 46 = .ok (.iaload, 1) := by decide +kernel
theorem dX11_readAct_47 : decode cX11_readAct 47 = .ok (.invokevirtual 275, 3) := by decide +kernel
theorem dX11_readAct_50 : decode cX11_readAct 50 = .ok (.return_, 1) := by decide +kernel
theorem dX11_readAct_51 : decode cX11_readAct 51 = .ok (.iload_n 1, 1) := by decide +kernel
theorem dX11_readAct_52 : decode cX11_readAct 52 = .ok (.ifCond .eq 59, 3) := by decide +kernel
theorem dX11_readAct_55 : decode cX11_readAct 55 = .ok (.aload_n 0, 1) := by decide +kernel
theorem dX11_readAct_56 : decode cX11_readAct 56 = .ok (.getfield 49, 3) := by decide +kernel
theorem dX11_readAct_59 : decode cX11_readAct 59 = .ok (.aload_n 0, 1) := by decide +kernel
theorem dX11_readAct_60 : decode cX11_readAct 60 = .ok (.getfield 303, 3) := by decide +kernel
theorem dX11_readAct_63 : decode cX11_readAct 63 = .ok (.iconst 1, 1) := by decide +kernel
theorem dX11_readAct_64 : decode cX11_readAct 64 = .ok (.iadd, 1) := by decide +kernel
theorem dX11_readAct_65 : decode cX11_readAct 65 = .ok (.iaload, 1) := by decide +kernel
theorem dX11_readAct_66 : decode cX11_readAct 66 = .ok (.iconst 5, 1) := by decide +kernel
theorem dX11_readAct_67 : decode cX11_readAct 67 = .ok (.if_icmp .ne 44, 3) := by decide +kernel
theorem dX11_readAct_70 : decode cX11_readAct 70 = .ok (.aload_n 0, 1) := by decide +kernel
theorem dX11_readAct_71 : decode cX11_readAct 71 = .ok (.aload_n 0, 1) := by decide +kernel
theorem dX11_readAct_72 : decode cX11_readAct 72 = .ok (.getfield 58, 3) := by decide +kernel
theorem dX11_readAct_75 : decode cX11_readAct 75 = .ok (.aload_n 0, 1) := by decide +kernel
theorem dX11_readAct_76 : decode cX11_readAct 76 = .ok (.getfield 303, 3) := by decide +kernel
theorem dX11_readAct_79 : decode cX11_readAct 79 = .ok (.laload, 1) := by decide +kernel
theorem dX11_readAct_80 : decode cX11_readAct 80 = .ok (.aload_n 0, 1) := by decide +kernel
theorem dX11_readAct_81 : decode cX11_readAct 81 = .ok (.getfield 55, 3) := by decide +kernel
theorem dX11_readAct_84 : decode cX11_readAct 84 = .ok (.aload_n 0, 1) := by decide +kernel
theorem dX11_readAct_85 : decode cX11_readAct 85 = .ok (.getfield 303, 3) := by decide +kernel
theorem dX11_readAct_88 : decode cX11_readAct 88 = .ok (.iaload, 1) := by decide +kernel
theorem dX11_readAct_89 : decode cX11_readAct 89 = .ok (.invokevirtual 306, 3) := by decide +kernel
theorem dX11_readAct_92 : decode cX11_readAct 92 = .ok (.iconst (-1), 1) := by decide +kernel
theorem dX11_readAct_93 : decode cX11_readAct 93 = .ok (.if_icmp .eq 18, 3) := by decide +kernel
theorem dX11_readAct_96 : decode cX11_readAct 96 = .ok (.aload_n 0, 1) := by decide +kernel
theorem dX11_readAct_97 : decode cX11_readAct 97 = .ok (.iconst 3, 1) := by decide +kernel
theorem dX11_readAct_98 : decode cX11_readAct 98 = .ok (.aload_n 0, 1) := by decide +kernel
theorem dX11_readAct_99 : decode cX11_readAct 99 = .ok (.getfield 52, 3) := by decide +kernel
theorem dX11_readAct_102 : decode cX11_readAct 102 = .ok (.aload_n 0, 1) := by decide +kernel
theorem dX11_readAct_103 : decode cX11_readAct 103 = .ok (.getfield 303, 3) := by decide +kernel
theorem dX11_readAct_106 : decode cX11_readAct 106 = .ok (.iaload, 1) := by decide +kernel
theorem dX11_readAct_107 : decode cX11_readAct 107 = .ok (.invokevirtual 275, 3) := by decide +kernel
theorem dX11_readAct_110 : decode cX11_readAct 110 = .ok (.return_, 1) := by decide +kernel
theorem dX11_readAct_111 : decode cX11_readAct 111 = .ok (.aload_n 0, 1) := by decide +kernel
theorem dX11_readAct_112 : decode cX11_readAct 112 = .ok (.getfield 310, 3) := by decide +kernel
theorem dX11_readAct_115 : decode cX11_readAct 115 = .ok (.sipush 150, 3) := by decide +kernel
theorem dX11_readAct_118 : decode cX11_readAct 118 = .ok (.if_icmp .ne 18, 3) := by decide +kernel
theorem dX11_readAct_121 : decode cX11_readAct 121 = .ok (.aload_n 0, 1) := by decide +kernel
theorem dX11_readAct_122 : decode cX11_readAct 122 = .ok (.iconst 5, 1) := by decide +kernel
theorem dX11_readAct_123 : decode cX11_readAct 123 = .ok (.aload_n 0, 1) := by decide +kernel
theorem dX11_readAct_124 : decode cX11_readAct 124 = .ok (.getfield 52, 3) := by decide +kernel
theorem dX11_readAct_127 : decode cX11_readAct 127 = .ok (.aload_n 0, 1) := by decide +kernel
theorem dX11_readAct_128 : decode cX11_readAct 128 = .ok (.getfield 303, 3) := by decide +kernel
theorem dX11_readAct_131 : decode cX11_readAct 131 = .ok (.iaload, 1) := by decide +kernel
theorem dX11_readAct_132 : decode cX11_readAct 132 = .ok (.invokevirtual 275, 3) := by decide +kernel
theorem dX11_readAct_135 : decode cX11_readAct 135 = .ok (.return_, 1) := by decide +kernel
theorem dX11_readAct_136 : decode cX11_readAct 136 = .ok (.iload_n 1, 1) := by decide +kernel
theorem dX11_readAct_137 : decode cX11_readAct 137 = .ok (.ifCond .eq 109, 3) := by decide +kernel
theorem dX11_readAct_140 : decode cX11_readAct 140 = .ok (.aload_n 0, 1) := by decide +kernel
theorem dX11_readAct_141 : decode cX11_readAct 141 = .ok (.getfield 303, 3) := by decide +kernel
theorem dX11_readAct_144 : decode cX11_readAct 144 = .ok (.istore_n 2, 1) := by decide +kernel
theorem dX11_readAct_145 : decode cX11_readAct 145 = .ok (.aload_n 0, 1) := by decide +kernel
theorem dX11_readAct_146 : decode cX11_readAct 146 = .ok (.dup, 1) := by decide +kernel
theorem dX11_readAct_147 : decode cX11_readAct 147 = .ok (.getfield 303, 3) := by decide +kernel
theorem dX11_readAct_150 : decode cX11_readAct 150 = .ok (.iconst 1, 1) := by decide +kernel
theorem dX11_readAct_151 : decode cX11_readAct 151 = .ok (.iadd, 1) := by decide +kernel
theorem dX11_readAct_152 : decode cX11_readAct 152 = .ok (.putfield 303, 3) := by decide +kernel
theorem dX11_readAct_155 : decode cX11_readAct 155 = .ok (.aload_n 0, 1) := by decide +kernel
theorem dX11_readAct_156 : decode cX11_readAct 156 = .ok (.getfield 49, 3) := by decide +kernel
theorem dX11_readAct_159 : decode cX11_readAct 159 = .ok (.aload_n 0, 1) := by decide +kernel
theorem dX11_readAct_160 : decode cX11_readAct 160 = .ok (.getfield 303, 3) := by decide +kernel
theorem dX11_readAct_163 : decode cX11_readAct 163 = .ok (.iaload, 1) := by decide +kernel
theorem dX11_readAct_164 : decode cX11_readAct 164 = .ok (.iconst 5, 1) := by decide +kernel
theorem dX11_readAct_165 : decode cX11_readAct 165 = .ok (.if_icmp .eq 18, 3) := by decide +kernel
theorem dX11_readAct_168 : decode cX11_readAct 168 = .ok (.aload_n 0, 1) := by decide +kernel
theorem dX11_readAct_169 : decode cX11_readAct 169 = .ok (.iconst 2, 1) := by decide +kernel
theorem dX11_readAct_170 : decode cX11_readAct 170 = .ok (.aload_n 0, 1) := by decide +kernel
theorem dX11_readAct_171 : decode cX11_readAct 171 = .ok (.getfield 52, 3) := by decide +kernel
theorem dX11_readAct_174 : decode cX11_readAct 174 = .ok (.aload_n 0, 1) := by decide +kernel
theorem dX11_readAct_175 : decode cX11_readAct 175 = .ok (.getfield 303, 3) := by decide +kernel
theorem dX11_readAct_178 : decode cX11_readAct 178 = .ok (.iaload, 1) := by decide +kernel
theorem dX11_readAct_179 : decode cX11_readAct 179 = .ok (.invokevirtual 275, 3) := by decide +kernel
theorem dX11_readAct_182 : decode cX11_readAct 182 = .ok (.return_, 1) := by decide +kernel
theorem dX11_readAct_183 : decode cX11_readAct 183 = .ok (.aload_n 0, 1) := by decide +kernel
theorem dX11_readAct_184 : decode cX11_readAct 184 = .ok (.dup, 1) := by decide +kernel
theorem dX11_readAct_185 : decode cX11_readAct 185 = .ok (.getfield 303, 3) := by decide +kernel
theorem dX11_readAct_188 : decode cX11_readAct 188 = .ok (.iconst 1, 1) := by decide +kernel
theorem dX11_readAct_189 : decode cX11_readAct 189 = .ok (.iadd, 1) := by decide +kernel
theorem dX11_readAct_190 : decode cX11_readAct 190 = .ok (.putfield 303, 3) := by decide +kernel
theorem dX11_readAct_193 : decode cX11_readAct 193 = .ok (.aload_n 0, 1) := by decide +kernel
theorem dX11_readAct_194 : decode cX11_readAct 194 = .ok (.getfield 82, 3) := by decide +kernel
theorem dX11_readAct_197 : decode cX11_readAct 197 = .ok (.aload_n 0, 1) := by decide +kernel
theorem dX11_readAct_198 : decode cX11_readAct 198 = .ok (.getfield 300, 3) := by decide +kernel
theorem dX11_readAct_201 : decode cX11_readAct 201 = .ok (.aload_n 0, 1) := by decide +kernel
theorem dX11_readAct_202 : decode cX11_readAct 202 = .ok (.getfield 58, 3) := by decide +kernel
theorem dX11_readAct_205 : decode cX11_readAct 205 = .ok (.iload_n 2, 1) := by decide +kernel
theorem dX11_readAct_206 : decode cX11_readAct 206 = .ok (.laload, 1) := by decide +kernel
theorem dX11_readAct_207 : decode cX11_readAct 207 = .ok (.lastore, 1) := by decide +kernel
theorem dX11_readAct_208 : decode cX11_readAct 208 = .ok (.aload_n 0, 1) := by decide +kernel
theorem dX11_readAct_209 : decode cX11_readAct 209 = .ok (.getfield 85, 3) := by decide +kernel
theorem dX11_readAct_212 : decode cX11_readAct 212 = .ok (.aload_n 0, 1) := by decide +kernel
theorem dX11_readAct_213 : decode cX11_readAct 213 = .ok (.getfield 300, 3) := by decide +kernel
theorem dX11_readAct_216 : decode cX11_readAct 216 = .ok (.aload_n 0, 1) := by decide +kernel
theorem dX11_readAct_217 : decode cX11_readAct 217 = .ok (.getfield 55, 3) := by decide +kernel
theorem dX11_readAct_220 : decode cX11_readAct 220 = .ok (.iload_n 2, 1) := by decide +kernel
theorem dX11_readAct_221 : decode cX11_readAct 221 = .ok (.iaload, 1) := by decide +kernel
theorem dX11_readAct_222 : decode cX11_readAct 222 = .ok (.iastore, 1) := by decide +kernel
theorem dX11_readAct_223 : decode cX11_readAct 223 = .ok (.aload_n 0, 1) := by decide +kernel
theorem dX11_readAct_224 : decode cX11_readAct 224 = .ok (.getfield 88, 3) := by decide +kernel
theorem dX11_readAct_227 : decode cX11_readAct 227 = .ok (.aload_n 0, 1) := by decide +kernel
theorem dX11_readAct_228 : decode cX11_readAct 228 = .ok (.getfield 300, 3) := by decide +kernel
theorem dX11_readAct_231 : decode cX11_readAct 231 = .ok (.aload_n 0, 1) := by decide +kernel
theorem dX11_readAct_232 : decode cX11_readAct 232 = .ok (.getfield 310, 3) := by decide +kernel
theorem dX11_readAct_235 : decode cX11_readAct 235 = .ok (.iastore, 1) := by decide +kernel
theorem dX11_readAct_236 : decode cX11_readAct 236 = .ok (.aload_n 0, 1) := by decide +kernel
theorem dX11_readAct_237 : decode cX11_readAct 237 = .ok (.dup, 1) := by decide +kernel
theorem dX11_readAct_238 : decode cX11_readAct 238 = .ok (.getfield 300, 3) := by decide +kernel
theorem dX11_readAct_241 : decode cX11_readAct 241 = .ok (.iconst 1, 1) := by decide +kernel
theorem dX11_readAct_242 : decode cX11_readAct 242 = .ok (.iadd, 1) := by decide +kernel
theorem dX11_readAct_243 : decode cX11_readAct 243 = .ok (.putfield 300, 3) := by decide +kernel
theorem dX11_readAct_246 : decode cX11_readAct 246 = .ok (.aload_n 0, 1) := by decide +kernel
theorem dX11_readAct_247 : decode cX11_readAct 247 = .ok (.getfield 49, 3) := by decide +kernel
theorem dX11_readAct_250 : decode cX11_readAct 250 = .ok (.aload_n 0, 1) := by decide +kernel
theorem dX11_readAct_251 : decode cX11_readAct 251 = .ok (.getfield 303, 3) := by decide +kernel
theorem dX11_readAct_254 : decode cX11_readAct 254 = .ok (.iaload, 1) := by decide +kernel
theorem dX11_readAct_255 : decode cX11_readAct 255 = .ok (.iconst 1, 1) := by decide +kernel
theorem dX11_readAct_256 : decode cX11_readAct 256 = .ok (.if_icmp .eq 18, 3) := by decide +kernel
theorem dX11_readAct_259 : decode cX11_readAct 259 = .ok (.aload_n 0, 1) := by decide +kernel
theorem dX11_readAct_260 : decode cX11_readAct 260 = .ok (.iconst 2, 1) := by decide +kernel
theorem dX11_readAct_261 : decode cX11_readAct 261 = .ok (.aload_n 0, 1) := by decide +kernel
theorem dX11_readAct_262 : decode cX11_readAct 262 = .ok (.getfield 52, 3) := by decide +kernel
theorem dX11_readAct_265 : decode cX11_readAct 265 = .ok (.aload_n 0, 1) := by decide +kernel
theorem dX11_readAct_266 : decode cX11_readAct 266 = .ok (.getfield 303, 3) := by decide +kernel
theorem dX11_readAct_269 : decode cX11_readAct 269 = .ok (.iaload, 1) := by decide +kernel
theorem dX11_readAct_270 : decode cX11_readAct 270 = .ok (.invokevirtual 275, 3) := by decide +kernel
theorem dX11_readAct_273 : decode cX11_readAct 273 = .ok (.return_, 1) := by decide +kernel
theorem dX11_readAct_274 : decode cX11_readAct 274 = .ok (.aload_n 0, 1) := by decide +kernel
theorem dX11_readAct_275 : decode cX11_readAct 275 = .ok (.getfield 64, 3) := by decide +kernel
theorem dX11_readAct_278 : decode cX11_readAct 278 = .ok (.aload_n 0, 1) := by decide +kernel
theorem dX11_readAct_279 : decode cX11_readAct 279 = .ok (.getfield 310, 3) := by decide +kernel
theorem dX11_readAct_282 : decode cX11_readAct 282 = .ok (.aload_n 0, 1) := by decide +kernel
theorem dX11_readAct_283 : decode cX11_readAct 283 = .ok (.getfield 61, 3) := by decide +kernel
theorem dX11_readAct_286 : decode cX11_readAct 286 = .ok (.aload_n 0, 1) := by decide +kernel
theorem dX11_readAct_287 : decode cX11_readAct 287 = .ok (.getfield 303, 3) := by decide +kernel
theorem dX11_readAct_290 : decode cX11_readAct 290 = .ok (.iaload, 1) := by decide +kernel
theorem dX11_readAct_291 : decode cX11_readAct 291 = .ok (.iastore, 1) := by decide +kernel
theorem dX11_readAct_292 : decode cX11_readAct 292 = .ok (.aload_n 0, 1) := by decide +kernel
theorem dX11_readAct_293 : decode cX11_readAct 293 = .ok (.getfield 67, 3) := by decide +kernel
theorem dX11_readAct_296 : decode cX11_readAct 296 = .ok (.aload_n 0, 1) := by decide +kernel
theorem dX11_readAct_297 : decode cX11_readAct 297 = .ok (.getfield 310, 3) := by decide +kernel
theorem dX11_readAct_300 : decode cX11_readAct 300 = .ok (.aload_n 0, 1) := by decide +kernel
theorem dX11_readAct_301 : decode cX11_readAct 301 = .ok (.getfield 52, 3) := by decide +kernel
theorem dX11_readAct_304 : decode cX11_readAct 304 = .ok (.aload_n 0, 1) := by decide +kernel
theorem dX11_readAct_305 : decode cX11_readAct 305 = .ok (.getfield 303, 3) := by decide +kernel
theorem dX11_readAct_308 : decode cX11_readAct 308 = .ok (.iaload, 1) := by decide +kernel
theorem dX11_readAct_309 : decode cX11_readAct 309 = .ok (.iastore, 1) := by decide +kernel
theorem dX11_readAct_310 : decode cX11_readAct 310 = .ok (.aload_n 0, 1) := by decide +kernel
theorem dX11_readAct_311 : decode cX11_readAct 311 = .ok (.dup, 1) := by decide +kernel
theorem dX11_readAct_312 : decode cX11_readAct 312 = .ok (.getfield 303, 3) := by decide +kernel
theorem dX11_readAct_315 : decode cX11_readAct 315 = .ok (.iconst 1, 1) := by decide +kernel
theorem dX11_readAct_316 : decode cX11_readAct 316 = .ok (.iadd, 1) := by decide +kernel
theorem dX11_readAct_317 : decode cX11_readAct 317 = .ok (.putfield 303, 3) := by decide +kernel
theorem dX11_readAct_320 : decode cX11_readAct 320 = .ok (.aload_n 0, 1) := by decide +kernel
theorem dX11_readAct_321 : decode cX11_readAct 321 = .ok (.getstatic 232, 3) := by decide +kernel
theorem dX11_readAct_324 : decode cX11_readAct 324 = .ok (.aload_n 0, 1) := by decide +kernel
theorem dX11_readAct_325 : decode cX11_readAct 325 = .ok (.getfield 64, 3) := by decide +kernel
theorem dX11_readAct_328 : decode cX11_readAct 328 = .ok (.aload_n 0, 1) := by decide +kernel
theorem dX11_readAct_329 : decode cX11_readAct 329 = .ok (.getfield 310, 3) := by decide +kernel
theorem dX11_readAct_332 : decode cX11_readAct 332 = .ok (.iaload, 1) := by decide +kernel
theorem dX11_readAct_333 : decode cX11_readAct 333 = .ok (.iaload, 1) := by decide +kernel
theorem dX11_readAct_334 : decode cX11_readAct 334 = .ok (.invokevirtual 313, 3) := by decide +kernel
theorem dX11_readAct_337 : decode cX11_readAct 337 = .ok (.aload_n 0, 1) := by decide +kernel
theorem dX11_readAct_338 : decode cX11_readAct 338 = .ok (.invokevirtual 292, 3) := by decide +kernel
theorem dX11_readAct_341 : decode cX11_readAct 341 = .ok (.ifCond .ne 4, 3) := by decide +kernel
theorem dX11_readAct_344 : decode cX11_readAct 344 = .ok (.return_, 1) := by decide +kernel
theorem dX11_readAct_345 : decode cX11_readAct 345 = .ok (.aload_n 0, 1) := by decide +kernel
theorem dX11_readAct_346 : decode cX11_readAct 346 = .ok (.getfield 49, 3) := by decide +kernel
theorem dX11_readAct_349 : decode cX11_readAct 349 = .ok (.aload_n 0, 1) := by decide +kernel
theorem dX11_readAct_350 : decode cX11_readAct 350 = .ok (.getfield 303, 3) := by decide +kernel
theorem dX11_readAct_353 : decode cX11_readAct 353 = .ok (.iaload, 1) := by decide +kernel
theorem dX11_readAct_354 : decode cX11_readAct 354 = .ok (.bipush 6, 2) := by decide +kernel
theorem dX11_readAct_356 : decode cX11_readAct 356 = .ok (.if_icmp .eq 18, 3) := by decide +kernel
theorem dX11_readAct_359 : decode cX11_readAct 359 = .ok (.aload_n 0, 1) := by decide +kernel
theorem dX11_readAct_360 : decode cX11_readAct 360 = .ok (.iconst 2, 1) := by decide +kernel
theorem dX11_readAct_361 : decode cX11_readAct 361 = .ok (.aload_n 0, 1) := by decide +kernel
theorem dX11_readAct_362 : decode cX11_readAct 362 = .ok (.getfield 52, 3) := by decide +kernel
theorem dX11_readAct_365 : decode cX11_readAct 365 = .ok (.aload_n 0, 1) := by decide +kernel
theorem dX11_readAct_366 : decode cX11_readAct 366 = .ok (.getfield 303, 3) := by decide +kernel
theorem dX11_readAct_369 : decode cX11_readAct 369 = .ok (.iaload, 1) := by decide +kernel
theorem dX11_readAct_370 : decode cX11_readAct 370 = .ok (.invokevirtual 275, 3) := by decide +kernel
theorem dX11_readAct_373 : decode cX11_readAct 373 = .ok (.return_, 1) := by decide +kernel
theorem dX11_readAct_374 : decode cX11_readAct 374 = .ok (.aload_n 0, 1) := by decide +kernel
theorem dX11_readAct_375 : decode cX11_readAct 375 = .ok (.dup, 1) := by decide +kernel
theorem dX11_readAct_376 : decode cX11_readAct 376 = .ok (.getfield 303, 3) := by decide +kernel
theorem dX11_readAct_379 : decode cX11_readAct 379 = .ok (.iconst 1, 1) := by decide +kernel
theorem dX11_readAct_380 : decode cX11_readAct 380 = .ok (.iadd, 1) := by decide +kernel
theorem dX11_readAct_381 : decode cX11_readAct 381 = .ok (.putfield 303, 3) := by decide +kernel
theorem dX11_readAct_384 : decode cX11_readAct 384 = .ok (.aload_n 0, 1) := by decide +kernel
theorem dX11_readAct_385 : decode cX11_readAct 385 = .ok (.dup, 1) := by decide +kernel
theorem dX11_readAct_386 : decode cX11_readAct 386 = .ok (.getfield 310, 3) := by decide +kernel
theorem dX11_readAct_389 : decode cX11_readAct 389 = .ok (.iconst 1, 1) := by decide +kernel
theorem dX11_readAct_390 : decode cX11_readAct 390 = .ok (.iadd, 1) := by decide +kernel
theorem dX11_readAct_391 : decode cX11_readAct 391 = .ok (.putfield 310, 3) := by decide +kernel
theorem dX11_readAct_394 : decode cX11_readAct 394 = .ok (.return_, 1) := by decide +kernel
theorem dX11_readTakes_0 : decode cX11_readTakes 0 = .ok (.iconst 0, 1) := by decide +kernel
theorem dX11_readTakes_1 : decode cX11_readTakes 1 = .ok (.istore_n 2, 1) := by decide +kernel
theorem dX11_readTakes_2 : decode cX11_readTakes 2 = .ok (.iload_n 2, 1) := by decide +kernel
theorem dX11_readTakes_3 : decode cX11_readTakes 3 = .ok (.iconst 3, 1) := by decide +kernel
theorem dX11_readTakes_4 : decode cX11_readTakes 4 = .ok (.if_icmp .ge 23, 3) := by decide +kernel
theorem dX11_readTakes_7 : decode cX11_readTakes 7 = .ok (.aload_n 0, 1) := by decide +kernel
theorem dX11_readTakes_8 : decode cX11_readTakes 8 = .ok (.getfield 79, 3) := by decide +kernel
theorem dX11_readTakes_11 : decode cX11_readTakes 11 = .ok (.iconst 3, 1) := by decide +kernel
theorem dX11_readTakes_12 : decode cX11_readTakes 12 = .ok (.aload_n 0, 1) := by decide +kernel
theorem dX11_readTakes_13 : decode cX11_readTakes 13 = .ok (.getfield 310, 3) := by decide +kernel
theorem dX11_readTakes_16 : decode cX11_readTakes 16 = .ok (.imul, 1) := by decide +kernel
theorem dX11_readTakes_17 : decode cX11_readTakes 17 = .ok (.iload_n 2, 1) := by decide +kernel
theorem dX11_readTakes_18 : decode cX11_readTakes 18 = .ok (.iadd, 1) := by decide +kernel
theorem dX11_readTakes_19 : decode cX11_readTakes 19 = .ok (.iconst 0, 1) := by decide +kernel
theorem dX11_readTakes_20 : decode cX11_readTakes 20 = .ok (.iastore, 1) := by decide +kernel
theorem dX11_readTakes_21 : decode cX11_readTakes 21 = .ok (.iinc 2 1, 3) := by decide +kernel
theorem dX11_readTakes_24 : decode cX11_readTakes 24 = .ok (.goto (-22), 3) := by decide +kernel
theorem dX11_readTakes_27 : decode cX11_readTakes 27 = .ok (.iconst 0, 1) := by decide +kernel
theorem dX11_readTakes_28 : decode cX11_readTakes 28 = .ok (.istore_n 2, 1) := by decide +kernel
theorem dX11_readTakes_29 : decode cX11_readTakes 29 = .ok (.iload_n 2, 1) := by decide +kernel
theorem dX11_readTakes_30 : decode cX11_readTakes 30 = .ok (.iload_n 1, 1) := by decide +kernel
theorem dX11_readTakes_31 : decode cX11_readTakes 31 = .ok (.invokestatic 230, 3) := by decide +kernel
theorem dX11_readTakes_34 : decode cX11_readTakes 34 = .ok (.if_icmp .ge 154, 3) := by decide +kernel
theorem dX11_readTakes_37 : decode cX11_readTakes 37 = .ok (.iload_n 1, 1) := by decide +kernel
theorem dX11_readTakes_38 : decode cX11_readTakes 38 = .ok (.iload_n 2, 1) := by decide +kernel
theorem dX11_readTakes_39 : decode cX11_readTakes 39 = .ok (.invokestatic 235, 3) := by decide +kernel
theorem dX11_readTakes_42 : decode cX11_readTakes 42 = .ok (.istore_n 3, 1) := by decide +kernel
theorem dX11_readTakes_43 : decode cX11_readTakes 43 = .ok (.iload_n 3, 1) := by decide +kernel
theorem dX11_readTakes_44 : decode cX11_readTakes 44 = .ok (.iconst 1, 1) := by decide +kernel
theorem dX11_readTakes_45 : decode cX11_readTakes 45 = .ok (.if_icmp .ne 7, 3) := by decide +kernel
theorem dX11_readTakes_48 : decode cX11_readTakes 48 = .ok (.iconst 2, 1) := by decide +kernel
theorem dX11_readTakes_49 : decode cX11_readTakes 49 = .ok (.goto 13, 3) := by decide +kernel
theorem dX11_readTakes_52 : decode cX11_readTakes 52 = .ok (.iload_n 3, 1) := by decide +kernel
theorem dX11_readTakes_53 : decode cX11_readTakes 53 = .ok (.iconst 2, 1) := by decide +kernel
theorem dX11_readTakes_54 : decode cX11_readTakes 54 = .ok (.if_icmp .ne 7, 3) := by decide +kernel
theorem dX11_readTakes_57 : decode cX11_readTakes 57 = .ok (.iconst 4, 1) := by decide +kernel
theorem dX11_readTakes_58 : decode cX11_readTakes 58 = .ok (.goto 4, 3) := by decide +kernel
theorem dX11_readTakes_61 : decode cX11_readTakes 61 = .ok (.iconst 3, 1) := by decide +kernel
theorem dX11_readTakes_62 : decode cX11_readTakes 62 = .ok (.istore 4, 2) := by decide +kernel
theorem dX11_readTakes_64 : decode cX11_readTakes 64 = .ok (.aload_n 0, 1) := by decide +kernel
theorem dX11_readTakes_65 : decode cX11_readTakes 65 = .ok (.getfield 49, 3) := by decide +kernel
theorem dX11_readTakes_68 : decode cX11_readTakes 68 = .ok (.aload_n 0, 1) := by decide +kernel
theorem dX11_readTakes_69 : decode cX11_readTakes 69 = .ok (.getfield 303, 3) := by decide +kernel
theorem dX11_readTakes_72 : decode cX11_readTakes 72 = .ok (.iaload, 1) := by decide +kernel
theorem dX11_readTakes_73 : decode cX11_readTakes 73 = .ok (.iload 4, 2) := by decide +kernel
theorem dX11_readTakes_75 : decode cX11_readTakes 75 = .ok (.if_icmp .eq 18, 3) := by decide +kernel
theorem dX11_readTakes_78 : decode cX11_readTakes 78 = .ok (.aload_n 0, 1) := by decide +kernel
theorem dX11_readTakes_79 : decode cX11_readTakes 79 = .ok (.iconst 2, 1) := by decide +kernel
theorem dX11_readTakes_80 : decode cX11_readTakes 80 = .ok (.aload_n 0, 1) := by decide +kernel
theorem dX11_readTakes_81 : decode cX11_readTakes 81 = .ok (.getfield 52, 3) := by decide +kernel
theorem dX11_readTakes_84 : decode cX11_readTakes 84 = .ok (.aload_n 0, 1) := by decide +kernel
theorem dX11_readTakes_85 : decode cX11_readTakes 85 = .ok (.getfield 303, 3) := by decide +kernel
theorem dX11_readTakes_88 : decode cX11_readTakes 88 = .ok (.iaload, 1) := by decide +kernel
theorem dX11_readTakes_89 : decode cX11_readTakes 89 = .ok (.invokevirtual 275, 3) := by decide +kernel
theorem dX11_readTakes_92 : decode cX11_readTakes 92 = .ok (.return_, 1) := by decide +kernel
theorem dX11_readTakes_93 : decode cX11_readTakes 93 = .ok (.iconst 3, 1) := by decide +kernel
theorem dX11_readTakes_94 : decode cX11_readTakes 94 = .ok (.aload_n 0, 1) := by decide +kernel
theorem dX11_readTakes_95 : decode cX11_readTakes 95 = .ok (.getfield 310, 3) := by decide +kernel
theorem dX11_readTakes_98 : decode cX11_readTakes 98 = .ok (.imul, 1) := by decide +kernel
theorem dX11_readTakes_99 : decode cX11_readTakes 99 = .ok (.iload_n 2, 1) := by decide +kernel
theorem dX11_readTakes_100 : decode cX11_readTakes 100 = .ok (.iadd, 1) := by decide +kernel
theorem dX11_readTakes_101 : decode cX11_readTakes 101 = .ok (.istore 5, 2) := by decide +kernel
theorem dX11_readTakes_103 : decode cX11_readTakes 103 = .ok (.aload_n 0, 1) := by decide +kernel
theorem dX11_readTakes_104 : decode cX11_readTakes 104 = .ok (.getfield 70, 3) := by decide +kernel
theorem dX11_readTakes_107 : decode cX11_readTakes 107 = .ok (.iload 5, 2) := by decide +kernel
theorem dX11_readTakes_109 : decode cX11_readTakes 109 = .ok (.aload_n 0, 1) := by decide +kernel
theorem dX11_readTakes_110 : decode cX11_readTakes 110 = .ok (.getfield 61, 3) := by decide +kernel
theorem dX11_readTakes_113 : decode cX11_readTakes 113 = .ok (.aload_n 0, 1) := by decide +kernel
theorem dX11_readTakes_114 : decode cX11_readTakes 114 = .ok (.getfield 303, 3) := by decide +kernel
theorem dX11_readTakes_117 : decode cX11_readTakes 117 = .ok (.iaload, 1) := by decide +kernel
theorem dX11_readTakes_118 : decode cX11_readTakes 118 = .ok (.iastore, 1) := by decide +kernel
theorem dX11_readTakes_119 : decode cX11_readTakes 119 = .ok (.aload_n 0, 1) := by decide +kernel
theorem dX11_readTakes_120 : decode cX11_readTakes 120 = .ok (.getfield 73, 3) := by decide +kernel
theorem dX11_readTakes_123 : decode cX11_readTakes 123 = .ok (.iload 5, 2) := by decide +kernel
theorem dX11_readTakes_125 : decode cX11_readTakes 125 = .ok (.aload_n 0, 1) := by decide +kernel
theorem dX11_readTakes_126 : decode cX11_readTakes 126 = .ok (.getfield 52, 3) := by decide +kernel
theorem dX11_readTakes_129 : decode cX11_readTakes 129 = .ok (.aload_n 0, 1) := by decide +kernel
theorem dX11_readTakes_130 : decode cX11_readTakes 130 = .ok (.getfield 303, 3) := by decide +kernel
theorem dX11_readTakes_133 : decode cX11_readTakes 133 = .ok (.iaload, 1) := by decide +kernel
theorem dX11_readTakes_134 : decode cX11_readTakes 134 = .ok (.iastore, 1) := by decide +kernel
theorem dX11_readTakes_135 : decode cX11_readTakes 135 = .ok (.iload_n 3, 1) := by decide +kernel
theorem dX11_readTakes_136 : decode cX11_readTakes 136 = .ok (.iconst 3, 1) := by decide +kernel
theorem dX11_readTakes_137 : decode cX11_readTakes 137 = .ok (.if_icmp .ne 35, 3) := by decide +kernel
theorem dX11_readTakes_140 : decode cX11_readTakes 140 = .ok (.aload_n 0, 1) := by decide +kernel
theorem dX11_readTakes_141 : decode cX11_readTakes 141 = .ok (.getfield 76, 3) := by decide +kernel
theorem dX11_readTakes_144 : decode cX11_readTakes 144 = .ok (.iload 5, 2) := by decide +kernel
theorem dX11_readTakes_146 : decode cX11_readTakes 146 = .ok (.aload_n 0, 1) := by decide +kernel
theorem dX11_readTakes_147 : decode cX11_readTakes 147 = .ok (.getfield 58, 3) := by decide +kernel
theorem dX11_readTakes_150 : decode cX11_readTakes 150 = .ok (.aload_n 0, 1) := by decide +kernel
theorem dX11_readTakes_151 : decode cX11_readTakes 151 = .ok (.getfield 303, 3) := by decide +kernel
theorem dX11_readTakes_154 : decode cX11_readTakes 154 = .ok (.laload, 1) := by decide +kernel
theorem dX11_readTakes_155 : decode cX11_readTakes 155 = .ok (.lastore, 1) := by decide +kernel
theorem dX11_readTakes_156 : decode cX11_readTakes 156 = .ok (.aload_n 0, 1) := by decide +kernel
theorem dX11_readTakes_157 : decode cX11_readTakes 157 = .ok (.getfield 79, 3) := by decide +kernel
theorem dX11_readTakes_160 : decode cX11_readTakes 160 = .ok (.iload 5, 2) := by decide +kernel
theorem dX11_readTakes_162 : decode cX11_readTakes 162 = .ok (.aload_n 0, 1) := by decide +kernel
theorem dX11_readTakes_163 : decode cX11_readTakes 163 = .ok (.getfield 55, 3) := by decide +kernel
theorem dX11_readTakes_166 : decode cX11_readTakes 166 = .ok (.aload_n 0, 1) := by decide +kernel
theorem dX11_readTakes_167 : decode cX11_readTakes 167 = .ok (.getfield 303, 3) := by decide +kernel
theorem dX11_readTakes_170 : decode cX11_readTakes 170 = .ok (.iaload, 1) := by decide +kernel
theorem dX11_readTakes_171 : decode cX11_readTakes 171 = .ok (.iastore, 1) := by decide +kernel
theorem dX11_readTakes_172 : decode cX11_readTakes 172 = .ok (.aload_n 0, 1) := by decide +kernel
theorem dX11_readTakes_173 : decode cX11_readTakes 173 = .ok (.dup, 1) := by decide +kernel
theorem dX11_readTakes_174 : decode cX11_readTakes 174 = .ok (.getfield 303, 3) := by decide +kernel
theorem dX11_readTakes_177 : decode cX11_readTakes 177 = .ok (.iconst 1, 1) := by decide +kernel
theorem dX11_readTakes_178 : decode cX11_readTakes 178 = .ok (.iadd, 1) := by decide +kernel
theorem dX11_readTakes_179 : decode cX11_readTakes 179 = .ok (.putfield 303, 3) := by decide +kernel
theorem dX11_readTakes_182 : decode cX11_readTakes 182 = .ok (.iinc 2 1, 3) := by decide +kernel
theorem dX11_readTakes_185 : decode cX11_readTakes 185 = .ok (.goto (-156), 3) := by decide +kernel
theorem dX11_readTakes_188 : decode cX11_readTakes 188 = .ok (.return_, 1) := by decide +kernel
theorem dX11_program_0 : decode cX11_program 0 = .ok (.aload_n 0, 1) := by decide +kernel
theorem dX11_program_1 : decode cX11_program 1 = .ok (.iconst 0, 1) := by decide +kernel
theorem dX11_program_2 : decode cX11_program 2 = .ok (.putfield 131, 3) := by decide +kernel
theorem dX11_program_5 : decode cX11_program 5 = .ok (.aload_n 0, 1) := by decide +kernel
theorem dX11_program_6 : decode cX11_program 6 = .ok (.iconst 0, 1) := by decide +kernel
theorem dX11_program_7 : decode cX11_program 7 = .ok (.putfield 260, 3) := by decide +kernel
theorem dX11_program_10 : decode cX11_program 10 = .ok (.aload_n 0, 1) := by decide +kernel
theorem dX11_program_11 : decode cX11_program 11 = .ok (.invokevirtual 316, 3) := by decide +kernel
theorem dX11_program_14 : decode cX11_program 14 = .ok (.aload_n 0, 1) := by decide +kernel
theorem dX11_program_15 : decode cX11_program 15 = .ok (.iconst 0, 1) := by decide +kernel
theorem dX11_program_16 : decode cX11_program 16 = .ok (.putfield 303, 3) := by decide +kernel
theorem dX11_program_19 : decode cX11_program 19 = .ok (.aload_n 0, 1) := by decide +kernel
theorem dX11_program_20 : decode cX11_program 20 = .ok (.iconst 0, 1) := by decide +kernel
theorem dX11_program_21 : decode cX11_program 21 = .ok (.putfield 310, 3) := by decide +kernel
theorem dX11_program_24 : decode cX11_program 24 = .ok (.aload_n 0, 1) := by decide +kernel
theorem dX11_program_25 : decode cX11_program 25 = .ok (.iconst 0, 1) := by decide +kernel
theorem dX11_program_26 : decode cX11_program 26 = .ok (.putfield 300, 3) := by decide +kernel
theorem dX11_program_29 : decode cX11_program 29 = .ok (.aload_n 0, 1) := by decide +kernel
theorem dX11_program_30 : decode cX11_program 30 = .ok (.invokevirtual 292, 3) := by decide +kernel
theorem dX11_program_33 : decode cX11_program 33 = .ok (.ifCond .eq 22, 3) := by decide +kernel
theorem dX11_program_36 : decode cX11_program 36 = .ok (.aload_n 0, 1) := by decide +kernel
theorem dX11_program_37 : decode cX11_program 37 = .ok (.getfield 49, 3) := by decide +kernel
theorem dX11_program_40 : decode cX11_program 40 = .ok (.aload_n 0, 1) := by decide +kernel
theorem dX11_program_41 : decode cX11_program 41 = .ok (.getfield 303, 3) := by decide +kernel
theorem dX11_program_44 : decode cX11_program 44 = .ok (.iaload, 1) := by decide +kernel
theorem dX11_program_45 : decode cX11_program 45 = .ok (.ifCond .eq 10, 3) := by decide +kernel
theorem dX11_program_48 : decode cX11_program 48 = .ok (.aload_n 0, 1) := by decide +kernel
theorem dX11_program_49 : decode cX11_program 49 = .ok (.invokevirtual 319, 3) := by decide +kernel
theorem dX11_program_52 : decode cX11_program 52 = .ok (.goto (-23), 3) := by decide +kernel
theorem dX11_program_55 : decode cX11_program 55 = .ok (.iconst 0, 1) := by decide +kernel
theorem dX11_program_56 : decode cX11_program 56 = .ok (.istore_n 1, 1) := by decide +kernel
theorem dX11_program_57 : decode cX11_program 57 = .ok (.iload_n 1, 1) := by decide +kernel
theorem dX11_program_58 : decode cX11_program 58 = .ok (.iconst 3, 1) := by decide +kernel
theorem dX11_program_59 : decode cX11_program 59 = .ok (.aload_n 0, 1) := by decide +kernel
theorem dX11_program_60 : decode cX11_program 60 = .ok (.getfield 310, 3) := by decide +kernel
theorem dX11_program_63 : decode cX11_program 63 = .ok (.imul, 1) := by decide +kernel
theorem dX11_program_64 : decode cX11_program 64 = .ok (.if_icmp .ge 76, 3) := by decide +kernel
theorem dX11_program_67 : decode cX11_program 67 = .ok (.aload_n 0, 1) := by decide +kernel
theorem dX11_program_68 : decode cX11_program 68 = .ok (.invokevirtual 292, 3) := by decide +kernel
theorem dX11_program_71 : decode cX11_program 71 = .ok (.ifCond .eq 69, 3) := by decide +kernel
theorem dX11_program_74 : decode cX11_program 74 = .ok (.aload_n 0, 1) := by decide +kernel
theorem dX11_program_75 : decode cX11_program 75 = .ok (.getfield 79, 3) := by decide +kernel
theorem dX11_program_78 : decode cX11_program 78 = .ok (.iload_n 1, 1) := by decide +kernel
theorem dX11_program_79 : decode cX11_program 79 = .ok (.iaload, 1) := by decide +kernel
theorem dX11_program_80 : decode cX11_program 80 = .ok (.ifCond .ne 6, 3) := by decide +kernel
theorem dX11_program_83 : decode cX11_program 83 = .ok (.goto 51, 3) := by decide +kernel
theorem dX11_program_86 : decode cX11_program 86 = .ok (.aload_n 0, 1) := by decide +kernel
theorem dX11_program_87 : decode cX11_program 87 = .ok (.aload_n 0, 1) := by decide +kernel
theorem dX11_program_88 : decode cX11_program 88 = .ok (.getfield 76, 3) := by decide +kernel
theorem dX11_program_91 : decode cX11_program 91 = .ok (.iload_n 1, 1) := by decide +kernel
theorem dX11_program_92 : decode cX11_program 92 = .ok (.laload, 1) := by decide +kernel
theorem dX11_program_93 : decode cX11_program 93 = .ok (.aload_n 0, 1) := by decide +kernel
theorem dX11_program_94 : decode cX11_program 94 = .ok (.getfield 79, 3) := by decide +kernel
theorem dX11_program_97 : decode cX11_program 97 = .ok (.iload_n 1, 1) := by decide +kernel
theorem dX11_program_98 : decode cX11_program 98 = .ok (.iaload, 1) := by decide +kernel
theorem dX11_program_99 : decode cX11_program 99 = .ok (.invokevirtual 306, 3) := by decide +kernel
theorem dX11_program_102 : decode cX11_program 102 = .ok (.istore_n 2, 1) := by decide +kernel
theorem dX11_program_103 : decode cX11_program 103 = .ok (.iload_n 2, 1) := by decide +kernel
theorem dX11_program_104 : decode cX11_program 104 = .ok (.iconst (-1), 1) := by decide +kernel
theorem dX11_program_105 : decode cX11_program 105 = .ok (.if_icmp .ne 17, 3) := by decide +kernel
theorem dX11_program_108 : decode cX11_program 108 = .ok (.aload_n 0, 1) := by decide +kernel
theorem dX11_program_109 : decode cX11_program 109 = .ok (.iconst 4, 1) := by decide +kernel
theorem dX11_program_110 : decode cX11_program 110 = .ok (.aload_n 0, 1) := by decide +kernel
theorem dX11_program_111 : decode cX11_program 111 = .ok (.getfield 73, 3) := by decide +kernel
theorem dX11_program_114 : decode cX11_program 114 = .ok (.iload_n 1, 1) := by decide +kernel
theorem dX11_program_115 : decode cX11_program 115 = .ok (.iaload, 1) := by decide +kernel
theorem dX11_program_116 : decode cX11_program 116 = .ok (.invokevirtual 275, 3) := by decide +kernel
theorem dX11_program_119 : decode cX11_program 119 = .ok (.goto 15, 3) := by decide +kernel
theorem dX11_program_122 : decode cX11_program 122 = .ok (.aload_n 0, 1) := by decide +kernel
theorem dX11_program_123 : decode cX11_program 123 = .ok (.getfield 70, 3) := by decide +kernel
theorem dX11_program_126 : decode cX11_program 126 = .ok (.iload_n 1, 1) := by decide +kernel
theorem dX11_program_127 : decode cX11_program 127 = .ok (.aload_n 0, 1) := by decide +kernel
theorem dX11_program_128 : decode cX11_program 128 = .ok (.getfield 88, 3) := by decide +kernel
theorem dX11_program_131 : decode cX11_program 131 = .ok (.iload_n 2, 1) := by decide +kernel
theorem dX11_program_132 : decode cX11_program 132 = .ok (.iaload, 1) := by decide +kernel
theorem dX11_program_133 : decode cX11_program 133 = .ok (.iastore, 1) := by decide +kernel
theorem dX11_program_134 : decode cX11_program 134 = .ok (.iinc 1 1, 3) := by decide +kernel
theorem dX11_program_137 : decode cX11_program 137 = .ok (.goto (-80), 3) := by decide +kernel
theorem dX11_program_140 : decode cX11_program 140 = .ok (.aload_n 0, 1) := by decide +kernel
theorem dX11_program_141 : decode cX11_program 141 = .ok (.iconst 0, 1) := by decide +kernel
theorem dX11_program_142 : decode cX11_program 142 = .ok (.putfield 253, 3) := by decide +kernel
theorem dX11_program_145 : decode cX11_program 145 = .ok (.aload_n 0, 1) := by decide +kernel
theorem dX11_program_146 : decode cX11_program 146 = .ok (.aload_n 0, 1) := by decide +kernel
theorem dX11_program_147 : decode cX11_program 147 = .ok (.getfield 260, 3) := by decide +kernel
theorem dX11_program_150 : decode cX11_program 150 = .ok (.putfield 322, 3) := by decide +kernel
theorem dX11_program_153 : decode cX11_program 153 = .ok (.aload_n 0, 1) := by decide +kernel
theorem dX11_program_154 : decode cX11_program 154 = .ok (.invokevirtual 292, 3) := by decide +kernel
theorem dX11_program_157 : decode cX11_program 157 = .ok (.ifCond .ne 10, 3) := by decide +kernel
theorem dX11_program_160 : decode cX11_program 160 = .ok (.iconst (-1), 1) := by decide +kernel
theorem dX11_program_161 : decode cX11_program 161 = .ok (.aload_n 0, 1) := by decide +kernel
theorem dX11_program_162 : decode cX11_program 162 = .ok (.getfield 263, 3) := by decide +kernel
theorem dX11_program_165 : decode cX11_program 165 = .ok (.isub, 1) := by decide +kernel
theorem dX11_program_166 : decode cX11_program 166 = .ok (.ireturn, 1) := by decide +kernel
theorem dX11_program_167 : decode cX11_program 167 = .ok (.aload_n 0, 1) := by decide +kernel
theorem dX11_program_168 : decode cX11_program 168 = .ok (.aload_n 0, 1) := by decide +kernel
theorem dX11_program_169 : decode cX11_program 169 = .ok (.getfield 310, 3) := by decide +kernel
theorem dX11_program_172 : decode cX11_program 172 = .ok (.putfield 100, 3) := by decide +kernel
theorem dX11_program_175 : decode cX11_program 175 = .ok (.iconst 0, 1) := by decide +kernel
theorem dX11_program_176 : decode cX11_program 176 = .ok (.istore_n 1, 1) := by decide +kernel
theorem dX11_program_177 : decode cX11_program 177 = .ok (.iload_n 1, 1) := by decide +kernel
theorem dX11_program_178 : decode cX11_program 178 = .ok (.aload_n 0, 1) := by decide +kernel
theorem dX11_program_179 : decode cX11_program 179 = .ok (.getfield 310, 3) := by decide +kernel
theorem dX11_program_182 : decode cX11_program 182 = .ok (.if_icmp .ge 64, 3) := by decide +kernel
theorem dX11_program_185 : decode cX11_program 185 = .ok (.aload_n 0, 1) := by decide +kernel
theorem dX11_program_186 : decode cX11_program 186 = .ok (.getfield 91, 3) := by decide +kernel
theorem dX11_program_189 : decode cX11_program 189 = .ok (.iload_n 1, 1) := by decide +kernel
theorem dX11_program_190 : decode cX11_program 190 = .ok (.aload_n 0, 1) := by decide +kernel
theorem dX11_program_191 : decode cX11_program 191 = .ok (.getfield 64, 3) := by decide +kernel
theorem dX11_program_194 : decode cX11_program 194 = .ok (.iload_n 1, 1) := by decide +kernel
theorem dX11_program_195 : decode cX11_program 195 = .ok (.iaload, 1) := by decide +kernel
theorem dX11_program_196 : decode cX11_program 196 = .ok (.iastore, 1) := by decide +kernel
theorem dX11_program_197 : decode cX11_program 197 = .ok (.aload_n 0, 1) := by decide +kernel
theorem dX11_program_198 : decode cX11_program 198 = .ok (.getfield 94, 3) := by decide +kernel
theorem dX11_program_201 : decode cX11_program 201 = .ok (.iload_n 1, 1) := by decide +kernel
theorem dX11_program_202 : decode cX11_program 202 = .ok (.aload_n 0, 1) := by decide +kernel
theorem dX11_program_203 : decode cX11_program 203 = .ok (.getfield 67, 3) := by decide +kernel
theorem dX11_program_206 : decode cX11_program 206 = .ok (.iload_n 1, 1) := by decide +kernel
theorem dX11_program_207 : decode cX11_program 207 = .ok (.iaload, 1) := by decide +kernel
theorem dX11_program_208 : decode cX11_program 208 = .ok (.iastore, 1) := by decide +kernel
theorem dX11_program_209 : decode cX11_program 209 = .ok (.iconst 3, 1) := by decide +kernel
theorem dX11_program_210 : decode cX11_program 210 = .ok (.iload_n 1, 1) := by decide +kernel
theorem dX11_program_211 : decode cX11_program 211 = .ok (.imul, 1) := by decide +kernel
theorem dX11_program_212 : decode cX11_program 212 = .ok (.istore_n 2, 1) := by decide +kernel
theorem dX11_program_213 : decode cX11_program 213 = .ok (.iload_n 2, 1) := by decide +kernel
theorem dX11_program_214 : decode cX11_program 214 = .ok (.iconst 3, 1) := by decide +kernel
theorem dX11_program_215 : decode cX11_program 215 = .ok (.iload_n 1, 1) := by decide +kernel
theorem dX11_program_216 : decode cX11_program 216 = .ok (.imul, 1) := by decide +kernel
theorem dX11_program_217 : decode cX11_program 217 = .ok (.iconst 3, 1) := by decide +kernel
theorem dX11_program_218 : decode cX11_program 218 = .ok (.iadd, 1) := by decide +kernel
theorem dX11_program_219 : decode cX11_program 219 = .ok (.if_icmp .ge 21, 3) := by decide +kernel
theorem dX11_program_222 : decode cX11_program 222 = .ok (.aload_n 0, 1) := by decide +kernel
theorem dX11_program_223 : decode cX11_program 223 = .ok (.getfield 97, 3) := by decide +kernel
theorem dX11_program_226 : decode cX11_program 226 = .ok (.iload_n 2, 1) := by decide +kernel
theorem dX11_program_227 : decode cX11_program 227 = .ok (.aload_n 0, 1) := by decide +kernel
theorem dX11_program_228 : decode cX11_program 228 = .ok (.getfield 70, 3) := by decide +kernel
theorem dX11_program_231 : decode cX11_program 231 = .ok (.iload_n 2, 1) := by decide +kernel
theorem dX11_program_232 : decode cX11_program 232 = .ok (.iaload, 1) := by decide +kernel
theorem dX11_program_233 : decode cX11_program 233 = .ok (.iastore, 1) := by decide +kernel
theorem dX11_program_234 : decode cX11_program 234 = .ok (.iinc 2 1, 3) := by decide +kernel
theorem dX11_program_237 : decode cX11_program 237 = .ok (.goto (-24), 3) := by decide +kernel
theorem dX11_program_240 : decode cX11_program 240 = .ok (.iinc 1 1, 3) := by decide +kernel
theorem dX11_program_243 : decode cX11_program 243 = .ok (.goto (-66), 3) := by decide +kernel
theorem dX11_program_246 : decode cX11_program 246 = .ok (.aload_n 0, 1) := by decide +kernel
theorem dX11_program_247 : decode cX11_program 247 = .ok (.iconst 0, 1) := by decide +kernel
theorem dX11_program_248 : decode cX11_program 248 = .ok (.putfield 325, 3) := by decide +kernel
theorem dX11_program_251 : decode cX11_program 251 = .ok (.aload_n 0, 1) := by decide +kernel
theorem dX11_program_252 : decode cX11_program 252 = .ok (.getfield 100, 3) := by decide +kernel
theorem dX11_program_255 : decode cX11_program 255 = .ok (.ireturn, 1) := by decide +kernel
theorem dX11_fault_0 : decode cX11_fault 0 = .ok (.aload_n 0, 1) := by decide +kernel
theorem dX11_fault_1 : decode cX11_fault 1 = .ok (.iconst 0, 1) := by decide +kernel
theorem dX11_fault_2 : decode cX11_fault 2 = .ok (.putfield 131, 3) := by decide +kernel
theorem dX11_fault_5 : decode cX11_fault 5 = .ok (.aload_n 0, 1) := by decide +kernel
theorem dX11_fault_6 : decode cX11_fault 6 = .ok (.getfield 322, 3) := by decide +kernel
theorem dX11_fault_9 : decode cX11_fault 9 = .ok (.ireturn, 1) := by decide +kernel
theorem dX11_goes_0 : decode cX11_goes 0 = .ok (.aload_n 0, 1) := by decide +kernel
theorem dX11_goes_1 : decode cX11_goes 1 = .ok (.iload_n 1, 1) := by decide +kernel
theorem dX11_goes_2 : decode cX11_goes 2 = .ok (.putfield 328, 3) := by decide +kernel
theorem dX11_goes_5 : decode cX11_goes 5 = .ok (.aload_n 0, 1) := by decide +kernel
theorem dX11_goes_6 : decode cX11_goes 6 = .ok (.aload_n 0, 1) := by decide +kernel
theorem dX11_goes_7 : decode cX11_goes 7 = .ok (.getfield 328, 3) := by decide +kernel
theorem dX11_goes_10 : decode cX11_goes 10 = .ok (.aload_n 0, 1) := by decide +kernel
theorem dX11_goes_11 : decode cX11_goes 11 = .ok (.getfield 100, 3) := by decide +kernel
theorem dX11_goes_14 : decode cX11_goes 14 = .ok (.if_icmp .ne 7, 3) := by decide +kernel
theorem dX11_goes_17 : decode cX11_goes 17 = .ok (.iconst 2, 1) := by decide +kernel
theorem dX11_goes_18 : decode cX11_goes 18 = .ok (.goto 4, 3) := by decide +kernel
theorem dX11_goes_21 : decode cX11_goes 21 = .ok (.iconst 1, 1) := by decide +kernel
theorem dX11_goes_22 : decode cX11_goes 22 = .ok (.putfield 325, 3) := by decide +kernel
theorem dX11_goes_25 : decode cX11_goes 25 = .ok (.return_, 1) := by decide +kernel
theorem dX11_begin_0 : decode cX11_begin 0 = .ok (.aload_n 0, 1) := by decide +kernel
theorem dX11_begin_1 : decode cX11_begin 1 = .ok (.aload_n 0, 1) := by decide +kernel
theorem dX11_begin_2 : decode cX11_begin 2 = .ok (.getfield 100, 3) := by decide +kernel
theorem dX11_begin_5 : decode cX11_begin 5 = .ok (.iconst (-1), 1) := by decide +kernel
theorem dX11_begin_6 : decode cX11_begin 6 = .ok (.if_icmp .ne 7, 3) := by decide +kernel
theorem dX11_begin_9 : decode cX11_begin 9 = .ok (.iconst 1, 1) := by decide +kernel
theorem dX11_begin_10 : decode cX11_begin 10 = .ok (.goto 4, 3) := by decide +kernel
theorem dX11_begin_13 : decode cX11_begin 13 = .ok (.iconst 0, 1) := by decide +kernel
theorem dX11_begin_14 : decode cX11_begin 14 = .ok (.putfield 131, 3) := by decide +kernel
theorem dX11_begin_17 : decode cX11_begin 17 = .ok (.aload_n 0, 1) := by decide +kernel
theorem dX11_begin_18 : decode cX11_begin 18 = .ok (.getfield 131, 3) := by decide +kernel
theorem dX11_begin_21 : decode cX11_begin 21 = .ok (.ifCond .le 4, 3) := by decide +kernel
theorem dX11_begin_24 : decode cX11_begin 24 = .ok (.return_, 1) := by decide +kernel
theorem dX11_begin_25 : decode cX11_begin 25 = .ok (.aload_n 0, 1) := by decide +kernel
theorem dX11_begin_26 : decode cX11_begin 26 = .ok (.iconst 0, 1) := by decide +kernel
theorem dX11_begin_27 : decode cX11_begin 27 = .ok (.putfield 331, 3) := by decide +kernel
theorem dX11_begin_30 : decode cX11_begin 30 = .ok (.aload_n 0, 1) := by decide +kernel
theorem dX11_begin_31 : decode cX11_begin 31 = .ok (.iconst 0, 1) := by decide +kernel
theorem dX11_begin_32 : decode cX11_begin 32 = .ok (.putfield 334, 3) := by decide +kernel
theorem dX11_begin_35 : decode cX11_begin 35 = .ok (.aload_n 0, 1) := by decide +kernel
theorem dX11_begin_36 : decode cX11_begin 36 = .ok (.iconst 0, 1) := by decide +kernel
theorem dX11_begin_37 : decode cX11_begin 37 = .ok (.putfield 337, 3) := by decide +kernel
theorem dX11_begin_40 : decode cX11_begin 40 = .ok (.aload_n 0, 1) := by decide +kernel
theorem dX11_begin_41 : decode cX11_begin 41 = .ok (.iconst 0, 1) := by decide +kernel
theorem dX11_begin_42 : decode cX11_begin 42 = .ok (.putfield 340, 3) := by decide +kernel
theorem dX11_begin_45 : decode cX11_begin 45 = .ok (.aload_n 0, 1) := by decide +kernel
theorem dX11_begin_46 : decode cX11_begin 46 = .ok (.iconst 0, 1) := by decide +kernel
theorem dX11_begin_47 : decode cX11_begin 47 = .ok (.invokevirtual 343, 3) := by decide +kernel
theorem dX11_begin_50 : decode cX11_begin 50 = .ok (.return_, 1) := by decide +kernel
theorem dX11_step_0 : decode cX11_step 0 = .ok (.aload_n 0, 1) := by decide +kernel
theorem dX11_step_1 : decode cX11_step 1 = .ok (.getfield 91, 3) := by decide +kernel
theorem dX11_step_4 : decode cX11_step 4 = .ok (.aload_n 0, 1) := by decide +kernel
theorem dX11_step_5 : decode cX11_step 5 = .ok (.getfield 328, 3) := by decide +kernel
theorem dX11_step_8 : decode cX11_step 8 = .ok (.iaload, 1) := by decide +kernel
theorem dX11_step_9 : decode cX11_step 9 = .ok (.istore_n 1, 1) := by decide +kernel
theorem dX11_step_10 : decode cX11_step 10 = .ok (.aload_n 0, 1) := by decide +kernel
theorem dX11_step_11 : decode cX11_step 11 = .ok (.getfield 97, 3) := by decide +kernel
theorem dX11_step_14 : decode cX11_step 14 = .ok (.iconst 3, 1) := by decide +kernel
theorem dX11_step_15 : decode cX11_step 15 = .ok (.aload_n 0, 1) := by decide +kernel
theorem dX11_step_16 : decode cX11_step 16 = .ok (.getfield 328, 3) := by decide +kernel
theorem dX11_step_19 : decode cX11_step 19 = .ok (.imul, 1) := by decide +kernel
theorem dX11_step_20 : decode cX11_step 20 = .ok (.iaload, 1) := by decide +kernel
theorem dX11_step_21 : decode cX11_step 21 = .ok (.istore_n 2, 1) := by decide +kernel
theorem dX11_step_22 : decode cX11_step 22 = .ok (.aload_n 0, 1) := by decide +kernel
theorem dX11_step_23 : decode cX11_step 23 = .ok (.getfield 97, 3) := by decide +kernel
theorem dX11_step_26 : decode cX11_step 26 = .ok (.iconst 3, 1) := by decide +kernel
theorem dX11_step_27 : decode cX11_step 27 = .ok (.aload_n 0, 1) := by decide +kernel
theorem dX11_step_28 : decode cX11_step 28 = .ok (.getfield 328, 3) := by decide +kernel
theorem dX11_step_31 : decode cX11_step 31 = .ok (.imul, 1) := by decide +kernel
theorem dX11_step_32 : decode cX11_step 32 = .ok (.iconst 1, 1) := by decide +kernel
theorem dX11_step_33 : decode cX11_step 33 = .ok (.iadd, 1) := by decide +kernel
theorem dX11_step_34 : decode cX11_step 34 = .ok (.iaload, 1) := by decide +kernel
theorem dX11_step_35 : decode cX11_step 35 = .ok (.istore_n 3, 1) := by decide +kernel
theorem dX11_step_36 : decode cX11_step 36 = .ok (.aload_n 0, 1) := by decide +kernel
theorem dX11_step_37 : decode cX11_step 37 = .ok (.getfield 97, 3) := by decide +kernel
theorem dX11_step_40 : decode cX11_step 40 = .ok (.iconst 3, 1) := by decide +kernel
theorem dX11_step_41 : decode cX11_step 41 = .ok (.aload_n 0, 1) := by decide +kernel
theorem dX11_step_42 : decode cX11_step 42 = .ok (.getfield 328, 3) := by decide +kernel
theorem dX11_step_45 : decode cX11_step 45 = .ok (.imul, 1) := by decide +kernel
theorem dX11_step_46 : decode cX11_step 46 = .ok (.iconst 2, 1) := by decide +kernel
theorem dX11_step_47 : decode cX11_step 47 = .ok (.iadd, 1) := by decide +kernel
theorem dX11_step_48 : decode cX11_step 48 = .ok (.iaload, 1) := by decide +kernel
theorem dX11_step_49 : decode cX11_step 49 = .ok (.istore 4, 2) := by decide +kernel
theorem dX11_step_51 : decode cX11_step 51 = .ok (.iload_n 1, 1) := by decide +kernel
theorem dX11_step_52 : decode cX11_step 52 = .ok (.bipush 20, 2) := by decide +kernel
theorem dX11_step_54 : decode cX11_step 54 = .ok (.if_icmp .ge 32, 3) := by decide +kernel
theorem dX11_step_57 : decode cX11_step 57 = .ok (.aload_n 0, 1) := by decide +kernel
theorem dX11_step_58 : decode cX11_step 58 = .ok (.iload_n 1, 1) := by decide +kernel
theorem dX11_step_59 : decode cX11_step 59 = .ok (.iload_n 2, 1) := by decide +kernel
theorem dX11_step_60 : decode cX11_step 60 = .ok (.iload_n 3, 1) := by decide +kernel
theorem dX11_step_61 : decode cX11_step 61 = .ok (.iload 4, 2) := by decide +kernel
theorem dX11_step_63 : decode cX11_step 63 = .ok (.invokevirtual 238, 3) := by decide +kernel
theorem dX11_step_66 : decode cX11_step 66 = .ok (.istore 5, 2) := by decide +kernel
theorem dX11_step_68 : decode cX11_step 68 = .ok (.iload 5, 2) := by decide +kernel
theorem dX11_step_70 : decode cX11_step 70 = .ok (.ifCond .ne 13, 3) := by decide +kernel
theorem dX11_step_73 : decode cX11_step 73 = .ok (.aload_n 0, 1) := by decide +kernel
theorem dX11_step_74 : decode cX11_step 74 = .ok (.aload_n 0, 1) := by decide +kernel
theorem dX11_step_75 : decode cX11_step 75 = .ok (.getfield 328, 3) := by decide +kernel
theorem dX11_step_78 : decode cX11_step 78 = .ok (.iconst 1, 1) := by decide +kernel
theorem dX11_step_79 : decode cX11_step 79 = .ok (.iadd, 1) := by decide +kernel
theorem dX11_step_80 : decode cX11_step 80 = .ok (.invokevirtual 343, 3) := by decide +kernel
theorem dX11_step_83 : decode cX11_step 83 = .ok (.iload 5, 2) := by decide +kernel
theorem dX11_step_85 : decode cX11_step 85 = .ok (.ireturn, 1) := by decide +kernel
theorem dX11_step_86 : decode cX11_step 86 = .ok (.iload_n 1, 1) := by decide +kernel
theorem dX11_step_87 : decode cX11_step 87 = .ok (.tableswitch 213 20 24 #[33, 90, 97, 130, 174], 33) := by decide +kernel
theorem dX11_step_120 : decode cX11_step 120 = .ok (.aload_n 0, 1) := by decide +kernel
theorem dX11_step_121 : decode cX11_step 121 = .ok (.iload_n 2, 1) := by decide +kernel
theorem dX11_step_122 : decode cX11_step 122 = .ok (.invokevirtual 209, 3) := by decide +kernel
theorem dX11_step_125 : decode cX11_step 125 = .ok (.ifCond .ne 5, 3) := by decide +kernel
theorem dX11_step_128 : decode cX11_step 128 = .ok (.iconst 1, 1) := by decide +kernel
theorem dX11_step_129 : decode cX11_step 129 = .ok (.ireturn, 1) := by decide +kernel
theorem dX11_step_130 : decode cX11_step 130 = .ok (.aload_n 0, 1) := by decide +kernel
theorem dX11_step_131 : decode cX11_step 131 = .ok (.getfield 337, 3) := by decide +kernel
theorem dX11_step_134 : decode cX11_step 134 = .ok (.sipush 300, 3) := by decide +kernel
theorem dX11_step_137 : decode cX11_step 137 = .ok (.if_icmp .ge 18, 3) := by decide +kernel
theorem dX11_step_140 : decode cX11_step 140 = .ok (.aload_n 0, 1) := by decide +kernel
theorem dX11_step_141 : decode cX11_step 141 = .ok (.getfield 107, 3) := by decide +kernel
theorem dX11_step_144 : decode cX11_step 144 = .ok (.aload_n 0, 1) := by decide +kernel
theorem dX11_step_145 : decode cX11_step 145 = .ok (.getfield 337, 3) := by decide +kernel
theorem dX11_step_148 : decode cX11_step 148 = .ok (.aload_n 0, 1) := by decide +kernel
theorem dX11_step_149 : decode cX11_step 149 = .ok (.getfield 33, 3) := by decide +kernel
theorem dX11_step_152 : decode cX11_step 152 = .ok (.iload_n 2, 1) := by decide +kernel
theorem dX11_step_153 : decode cX11_step 153 = .ok (.iaload, 1) := by decide +kernel
theorem dX11_step_154 : decode cX11_step 154 = .ok (.iastore, 1) := by decide +kernel
theorem dX11_step_155 : decode cX11_step 155 = .ok (.aload_n 0, 1) := by decide +kernel
theorem dX11_step_156 : decode cX11_step 156 = .ok (.dup, 1) := by decide +kernel
theorem dX11_step_157 : decode cX11_step 157 = .ok (.getfield 337, 3) := by decide +kernel
theorem dX11_step_160 : decode cX11_step 160 = .ok (.iconst 1, 1) := by decide +kernel
theorem dX11_step_161 : decode cX11_step 161 = .ok (.iadd, 1) := by decide +kernel
theorem dX11_step_162 : decode cX11_step 162 = .ok (.putfield 337, 3) := by decide +kernel
theorem dX11_step_165 : decode cX11_step 165 = .ok (.aload_n 0, 1) := by decide +kernel
theorem dX11_step_166 : decode cX11_step 166 = .ok (.aload_n 0, 1) := by decide +kernel
theorem dX11_step_167 : decode cX11_step 167 = .ok (.getfield 328, 3) := by decide +kernel
theorem dX11_step_170 : decode cX11_step 170 = .ok (.iconst 1, 1) := by decide +kernel
theorem dX11_step_171 : decode cX11_step 171 = .ok (.iadd, 1) := by decide +kernel
theorem dX11_step_172 : decode cX11_step 172 = .ok (.invokevirtual 343, 3) := by decide +kernel
theorem dX11_step_175 : decode cX11_step 175 = .ok (.iconst 0, 1) := by decide +kernel
theorem dX11_step_176 : decode cX11_step 176 = .ok (.ireturn, 1) := by decide +kernel
theorem dX11_step_177 : decode cX11_step 177 = .ok (.aload_n 0, 1) := by decide +kernel
theorem dX11_step_178 : decode cX11_step 178 = .ok (.iload_n 2, 1) := by decide +kernel
theorem dX11_step_179 : decode cX11_step 179 = .ok (.invokevirtual 343, 3) := by decide +kernel
theorem dX11_step_182 : decode cX11_step 182 = .ok (.iconst 0, 1) := by decide +kernel
theorem dX11_step_183 : decode cX11_step 183 = .ok (.ireturn, 1) := by decide +kernel
theorem dX11_step_184 : decode cX11_step 184 = .ok (.aload_n 0, 1) := by decide +kernel
theorem dX11_step_185 : decode cX11_step 185 = .ok (.aload_n 0, 1) := by decide +kernel
theorem dX11_step_186 : decode cX11_step 186 = .ok (.iload_n 2, 1) := by decide +kernel
theorem dX11_step_187 : decode cX11_step 187 = .ok (.invokevirtual 209, 3) := by decide +kernel
theorem dX11_step_190 : decode cX11_step 190 = .ok (.ifCond .eq 16, 3) := by decide +kernel
theorem dX11_step_193 : decode cX11_step 193 = .ok (.aload_n 0, 1) := by decide +kernel
theorem dX11_step_194 : decode cX11_step 194 = .ok (.getfield 33, 3) := by decide +kernel
theorem dX11_step_197 : decode cX11_step 197 = .ok (.iload_n 2, 1) := by decide +kernel
theorem dX11_step_198 : decode cX11_step 198 = .ok (.iaload, 1) := by decide +kernel
theorem dX11_step_199 : decode cX11_step 199 = .ok (.ifCond .ne 7, 3) := by decide +kernel
theorem dX11_step_202 : decode cX11_step 202 = .ok (.iload_n 3, 1) := by decide +kernel
theorem dX11_step_203 : decode cX11_step 203 = .ok (.goto 9, 3) := by decide +kernel
theorem dX11_step_206 : decode cX11_step 206 = .ok (.aload_n 0, 1) := by decide +kernel
theorem dX11_step_207 : decode cX11_step 207 = .ok (.getfield 328, 3) := by decide +kernel
theorem dX11_step_210 : decode cX11_step 210 = .ok (.iconst 1, 1) := by decide +kernel
theorem dX11_step_211 : decode cX11_step 211 = .ok (.iadd, 1) := by decide +kernel
theorem dX11_step_212 : decode cX11_step 212 = .ok (.invokevirtual 343, 3) := by decide +kernel
theorem dX11_step_215 : decode cX11_step 215 = .ok (.iconst 0, 1) := by decide +kernel
theorem dX11_step_216 : decode cX11_step 216 = .ok (.ireturn, 1) := by decide +kernel
theorem dX11_step_217 : decode cX11_step 217 = .ok (.aload_n 0, 1) := by decide +kernel
theorem dX11_step_218 : decode cX11_step 218 = .ok (.getfield 334, 3) := by decide +kernel
theorem dX11_step_221 : decode cX11_step 221 = .ok (.bipush 30, 2) := by decide +kernel
theorem dX11_step_223 : decode cX11_step 223 = .ok (.if_icmp .ne 6, 3) := by decide +kernel
theorem dX11_step_226 : decode cX11_step 226 = .ok (.bipush 7, 2) := by decide +kernel
theorem dX11_step_228 : decode cX11_step 228 = .ok (.ireturn, 1) := by decide +kernel
theorem dX11_step_229 : decode cX11_step 229 = .ok (.aload_n 0, 1) := by decide +kernel
theorem dX11_step_230 : decode cX11_step 230 = .ok (.getfield 104, 3) := by decide +kernel
theorem dX11_step_233 : decode cX11_step 233 = .ok (.aload_n 0, 1) := by decide +kernel
theorem dX11_step_234 : decode cX11_step 234 = .ok (.getfield 334, 3) := by decide +kernel
theorem dX11_step_237 : decode cX11_step 237 = .ok (.aload_n 0, 1) := by decide +kernel
theorem dX11_step_238 : decode cX11_step 238 = .ok (.getfield 328, 3) := by decide +kernel
theorem dX11_step_241 : decode cX11_step 241 = .ok (.iconst 1, 1) := by decide +kernel
theorem dX11_step_242 : decode cX11_step 242 = .ok (.iadd, 1) := by decide +kernel
theorem dX11_step_243 : decode cX11_step 243 = .ok (.iastore, 1) := by decide +kernel
theorem dX11_step_244 : decode cX11_step 244 = .ok (.aload_n 0, 1) := by decide +kernel
theorem dX11_step_245 : decode cX11_step 245 = .ok (.dup, 1) := by decide +kernel
theorem dX11_step_246 : decode cX11_step 246 = .ok (.getfield 334, 3) := by decide +kernel
theorem dX11_step_249 : decode cX11_step 249 = .ok (.iconst 1, 1) := by decide +kernel
theorem dX11_step_250 : decode cX11_step 250 = .ok (.iadd, 1) := by decide +kernel
theorem dX11_step_251 : decode cX11_step 251 = .ok (.putfield 334, 3) := by decide +kernel
theorem dX11_step_254 : decode cX11_step 254 = .ok (.aload_n 0, 1) := by decide +kernel
theorem dX11_step_255 : decode cX11_step 255 = .ok (.iload_n 2, 1) := by decide +kernel
theorem dX11_step_256 : decode cX11_step 256 = .ok (.invokevirtual 343, 3) := by decide +kernel
theorem dX11_step_259 : decode cX11_step 259 = .ok (.iconst 0, 1) := by decide +kernel
theorem dX11_step_260 : decode cX11_step 260 = .ok (.ireturn, 1) := by decide +kernel
theorem dX11_step_261 : decode cX11_step 261 = .ok (.aload_n 0, 1) := by decide +kernel
theorem dX11_step_262 : decode cX11_step 262 = .ok (.getfield 334, 3) := by decide +kernel
theorem dX11_step_265 : decode cX11_step 265 = .ok (.ifCond .ne 10, 3) := by decide +kernel
theorem dX11_step_268 : decode cX11_step 268 = .ok (.aload_n 0, 1) := by decide +kernel
theorem dX11_step_269 : decode cX11_step 269 = .ok (.iconst 2, 1) := by decide +kernel
theorem dX11_step_270 : decode cX11_step 270 = .ok (.putfield 325, 3) := by decide +kernel
theorem dX11_step_273 : decode cX11_step 273 = .ok (.iconst 0, 1) := by decide +kernel
theorem dX11_step_274 : decode cX11_step 274 = .ok (.ireturn, 1) := by decide +kernel
theorem dX11_step_275 : decode cX11_step 275 = .ok (.aload_n 0, 1) := by decide +kernel
theorem dX11_step_276 : decode cX11_step 276 = .ok (.dup, 1) := by decide +kernel
theorem dX11_step_277 : decode cX11_step 277 = .ok (.getfield 334, 3) := by decide +kernel
theorem dX11_step_280 : decode cX11_step 280 = .ok (.iconst 1, 1) := by decide +kernel
theorem dX11_step_281 : decode cX11_step 281 = .ok (.isub, 1) := by decide +kernel
theorem dX11_step_282 : decode cX11_step 282 = .ok (.putfield 334, 3) := by decide +kernel
theorem dX11_step_285 : decode cX11_step 285 = .ok (.aload_n 0, 1) := by decide +kernel
theorem dX11_step_286 : decode cX11_step 286 = .ok (.aload_n 0, 1) := by decide +kernel
theorem dX11_step_287 : decode cX11_step 287 = .ok (.getfield 104, 3) := by decide +kernel
theorem dX11_step_290 : decode cX11_step 290 = .ok (.aload_n 0, 1) := by decide +kernel
theorem dX11_step_291 : decode cX11_step 291 = .ok (.getfield 334, 3) := by decide +kernel
theorem dX11_step_294 : decode cX11_step 294 = .ok (.iaload, 1) := by decide +kernel
theorem dX11_step_295 : decode cX11_step 295 = .ok (.invokevirtual 343, 3) := by decide +kernel
theorem dX11_step_298 : decode cX11_step 298 = .ok (.iconst 0, 1) := by decide +kernel
theorem dX11_step_299 : decode cX11_step 299 = .ok (.ireturn, 1) := by decide +kernel
theorem dX11_step_300 : decode cX11_step 300 = .ok (.aload_n 0, 1) := by decide +kernel
theorem dX11_step_301 : decode cX11_step 301 = .ok (.iconst 2, 1) := by decide +kernel
theorem dX11_step_302 : decode cX11_step 302 = .ok (.putfield 325, 3) := by decide +kernel
theorem dX11_step_305 : decode cX11_step 305 = .ok (.iconst 0, 1) := by decide +kernel
theorem dX11_step_306 : decode cX11_step 306 = .ok (.ireturn, 1) := by decide +kernel
theorem dX11_run_0 : decode cX11_run 0 = .ok (.aload_n 0, 1) := by decide +kernel
theorem dX11_run_1 : decode cX11_run 1 = .ok (.iload_n 1, 1) := by decide +kernel
theorem dX11_run_2 : decode cX11_run 2 = .ok (.ifCond .lt 10, 3) := by decide +kernel
theorem dX11_run_5 : decode cX11_run 5 = .ok (.iload_n 1, 1) := by decide +kernel
theorem dX11_run_6 : decode cX11_run 6 = .ok (.sipush 2000, 3) := by decide +kernel
theorem dX11_run_9 : decode cX11_run 9 = .ok (.if_icmp .le 7, 3) := by decide +kernel
theorem dX11_run_12 : decode cX11_run 12 = .ok (.iconst 1, 1) := by decide +kernel
theorem dX11_run_13 : decode cX11_run 13 = .ok (.goto 15, 3) := by decide +kernel
theorem dX11_run_16 : decode cX11_run 16 = .ok (.aload_n 0, 1) := by decide +kernel
theorem dX11_run_17 : decode cX11_run 17 = .ok (.getfield 325, 3) := by decide +kernel
theorem dX11_run_20 : decode cX11_run 20 = .ok (.ifCond .ne 7, 3) := by decide +kernel
theorem dX11_run_23 : decode cX11_run 23 = .ok (.iconst 2, 1) := by decide +kernel
theorem dX11_run_24 : decode cX11_run 24 = .ok (.goto 4, 3) := by decide +kernel
theorem dX11_run_27 : decode cX11_run 27 = .ok (.iconst 0, 1) := by decide +kernel
theorem dX11_run_28 : decode cX11_run 28 = .ok (.putfield 131, 3) := by decide +kernel
theorem dX11_run_31 : decode cX11_run 31 = .ok (.aload_n 0, 1) := by decide +kernel
theorem dX11_run_32 : decode cX11_run 32 = .ok (.getfield 131, 3) := by decide +kernel
theorem dX11_run_35 : decode cX11_run 35 = .ok (.ifCond .le 5, 3) := by decide +kernel
theorem dX11_run_38 : decode cX11_run 38 = .ok (.iconst 0, 1) := by decide +kernel
theorem dX11_run_39 : decode cX11_run 39 = .ok (.ireturn, 1) := by decide +kernel
theorem dX11_run_40 : decode cX11_run 40 = .ok (.iconst 0, 1) := by decide +kernel
theorem dX11_run_41 : decode cX11_run 41 = .ok (.istore_n 2, 1) := by decide +kernel
theorem dX11_run_42 : decode cX11_run 42 = .ok (.iconst 1, 1) := by decide +kernel
theorem dX11_run_43 : decode cX11_run 43 = .ok (.istore_n 3, 1) := by decide +kernel
theorem dX11_run_44 : decode cX11_run 44 = .ok (.iload_n 3, 1) := by decide +kernel
theorem dX11_run_45 : decode cX11_run 45 = .ok (.ifCond .eq 59, 3) := by decide +kernel
theorem dX11_run_48 : decode cX11_run 48 = .ok (.iload_n 2, 1) := by decide +kernel
theorem dX11_run_49 : decode cX11_run 49 = .ok (.iload_n 1, 1) := by decide +kernel
theorem dX11_run_50 : decode cX11_run 50 = .ok (.if_icmp .ge 54, 3) := by decide +kernel
theorem dX11_run_53 : decode cX11_run 53 = .ok (.aload_n 0, 1) := by decide +kernel
theorem dX11_run_54 : decode cX11_run 54 = .ok (.getfield 325, 3) := by decide +kernel
theorem dX11_run_57 : decode cX11_run 57 = .ok (.iconst 2, 1) := by decide +kernel
theorem dX11_run_58 : decode cX11_run 58 = .ok (.if_icmp .eq 46, 3) := by decide +kernel
theorem dX11_run_61 : decode cX11_run 61 = .ok (.aload_n 0, 1) := by decide +kernel
theorem dX11_run_62 : decode cX11_run 62 = .ok (.invokevirtual 346, 3) := by decide +kernel
theorem dX11_run_65 : decode cX11_run 65 = .ok (.istore 4, 2) := by decide +kernel
theorem dX11_run_67 : decode cX11_run 67 = .ok (.iload 4, 2) := by decide +kernel
theorem dX11_run_69 : decode cX11_run 69 = .ok (.ifCond .le 19, 3) := by decide +kernel
theorem dX11_run_72 : decode cX11_run 72 = .ok (.aload_n 0, 1) := by decide +kernel
theorem dX11_run_73 : decode cX11_run 73 = .ok (.iconst 3, 1) := by decide +kernel
theorem dX11_run_74 : decode cX11_run 74 = .ok (.putfield 325, 3) := by decide +kernel
theorem dX11_run_77 : decode cX11_run 77 = .ok (.aload_n 0, 1) := by decide +kernel
theorem dX11_run_78 : decode cX11_run 78 = .ok (.iload 4, 2) := by decide +kernel
theorem dX11_run_80 : decode cX11_run 80 = .ok (.putfield 340, 3) := by decide +kernel
theorem dX11_run_83 : decode cX11_run 83 = .ok (.iconst 0, 1) := by decide +kernel
theorem dX11_run_84 : decode cX11_run 84 = .ok (.istore_n 3, 1) := by decide +kernel
theorem dX11_run_85 : decode cX11_run 85 = .ok (.goto 16, 3) := by decide +kernel
theorem dX11_run_88 : decode cX11_run 88 = .ok (.iinc 2 1, 3) := by decide +kernel
theorem dX11_run_91 : decode cX11_run 91 = .ok (.aload_n 0, 1) := by decide +kernel
theorem dX11_run_92 : decode cX11_run 92 = .ok (.dup, 1) := by decide +kernel
theorem dX11_run_93 : decode cX11_run 93 = .ok (.getfield 331, 3) := by decide +kernel
theorem dX11_run_96 : decode cX11_run 96 = .ok (.iconst 1, 1) := by decide +kernel
theorem dX11_run_97 : decode cX11_run 97 = .ok (.iadd, 1) := by decide +kernel
theorem dX11_run_98 : decode cX11_run 98 = .ok (.putfield 331, 3) := by decide +kernel
theorem dX11_run_101 : decode cX11_run 101 = .ok (.goto (-57), 3) := by decide +kernel
theorem dX11_run_104 : decode cX11_run 104 = .ok (.iload_n 2, 1) := by decide +kernel
theorem dX11_run_105 : decode cX11_run 105 = .ok (.ireturn, 1) := by decide +kernel
theorem dX11_about_0 : decode cX11_about 0 = .ok (.aload_n 0, 1) := by decide +kernel
theorem dX11_about_1 : decode cX11_about 1 = .ok (.iconst 0, 1) := by decide +kernel
theorem dX11_about_2 : decode cX11_about 2 = .ok (.putfield 131, 3) := by decide +kernel
theorem dX11_about_5 : decode cX11_about 5 = .ok (.aload_n 0, 1) := by decide +kernel
theorem dX11_about_6 : decode cX11_about 6 = .ok (.getfield 325, 3) := by decide +kernel
theorem dX11_about_9 : decode cX11_about 9 = .ok (.iconst 1, 1) := by decide +kernel
theorem dX11_about_10 : decode cX11_about 10 = .ok (.if_icmp .eq 11, 3) := by decide +kernel
theorem dX11_about_13 : decode cX11_about 13 = .ok (.aload_n 0, 1) := by decide +kernel
theorem dX11_about_14 : decode cX11_about 14 = .ok (.getfield 325, 3) := by decide +kernel
theorem dX11_about_17 : decode cX11_about 17 = .ok (.iconst 3, 1) := by decide +kernel
theorem dX11_about_18 : decode cX11_about 18 = .ok (.if_icmp .ne 7, 3) := by decide +kernel
theorem dX11_about_21 : decode cX11_about 21 = .ok (.iconst 1, 1) := by decide +kernel
theorem dX11_about_22 : decode cX11_about 22 = .ok (.goto 4, 3) := by decide +kernel
theorem dX11_about_25 : decode cX11_about 25 = .ok (.iconst 0, 1) := by decide +kernel
theorem dX11_about_26 : decode cX11_about 26 = .ok (.istore_n 2, 1) := by decide +kernel
theorem dX11_about_27 : decode cX11_about 27 = .ok (.iload_n 1, 1) := by decide +kernel
theorem dX11_about_28 : decode cX11_about 28 = .ok (.tableswitch 145 0 6 #[44, 49, 66, 79, 97, 113, 129], 44) := by decide +kernel
theorem dX11_about_72 : decode cX11_about 72 = .ok (.aload_n 0, 1) := by decide +kernel
theorem dX11_about_73 : decode cX11_about 73 = .ok (.getfield 325, 3) := by decide +kernel
theorem dX11_about_76 : decode cX11_about 76 = .ok (.ireturn, 1) := by decide +kernel
theorem dX11_about_77 : decode cX11_about 77 = .ok (.aload_n 0, 1) := by decide +kernel
theorem dX11_about_78 : decode cX11_about 78 = .ok (.getfield 325, 3) := by decide +kernel
theorem dX11_about_81 : decode cX11_about 81 = .ok (.iconst 3, 1) := by decide +kernel
theorem dX11_about_82 : decode cX11_about 82 = .ok (.if_icmp .ne 10, 3) := by decide +kernel
theorem dX11_about_85 : decode cX11_about 85 = .ok (.aload_n 0, 1) := by decide +kernel
theorem dX11_about_86 : decode cX11_about 86 = .ok (.getfield 340, 3) := by decide +kernel
theorem dX11_about_89 : decode cX11_about 89 = .ok (.goto 4, 3) := by decide +kernel
theorem dX11_about_92 : decode cX11_about 92 = .ok (.iconst 0, 1) := by decide +kernel
theorem dX11_about_93 : decode cX11_about 93 = .ok (.ireturn, 1) := by decide +kernel
theorem dX11_about_94 : decode cX11_about 94 = .ok (.iload_n 2, 1) := by decide +kernel
theorem dX11_about_95 : decode cX11_about 95 = .ok (.ifCond .eq 10, 3) := by decide +kernel
theorem dX11_about_98 : decode cX11_about 98 = .ok (.aload_n 0, 1) := by decide +kernel
theorem dX11_about_99 : decode cX11_about 99 = .ok (.getfield 328, 3) := by decide +kernel
theorem dX11_about_102 : decode cX11_about 102 = .ok (.goto 4, 3) := by decide +kernel
theorem dX11_about_105 : decode cX11_about 105 = .ok (.iconst (-1), 1) := by decide +kernel
theorem dX11_about_106 : decode cX11_about 106 = .ok (.ireturn, 1) := by decide +kernel
theorem dX11_about_107 : decode cX11_about 107 = .ok (.iload_n 2, 1) := by decide +kernel
theorem dX11_about_108 : decode cX11_about 108 = .ok (.ifCond .eq 15, 3) := by decide +kernel
theorem dX11_about_111 : decode cX11_about 111 = .ok (.aload_n 0, 1) := by decide +kernel
theorem dX11_about_112 : decode cX11_about 112 = .ok (.getfield 94, 3) := by decide +kernel
theorem dX11_about_115 : decode cX11_about 115 = .ok (.aload_n 0, 1) := by decide +kernel
theorem dX11_about_116 : decode cX11_about 116 = .ok (.getfield 328, 3) := by decide +kernel
theorem dX11_about_119 : decode cX11_about 119 = .ok (.iaload, 1) := by decide +kernel
theorem dX11_about_120 : decode cX11_about 120 = .ok (.goto 4, 3) := by decide +kernel
theorem dX11_about_123 : decode cX11_about 123 = .ok (.iconst (-1), 1) := by decide +kernel
theorem dX11_about_124 : decode cX11_about 124 = .ok (.ireturn, 1) := by decide +kernel
theorem dX11_about_125 : decode cX11_about 125 = .ok (.aload_n 0, 1) := by decide +kernel
theorem dX11_about_126 : decode cX11_about 126 = .ok (.getfield 325, 3) := by decide +kernel
theorem dX11_about_129 : decode cX11_about 129 = .ok (.ifCond .ne 7, 3) := by decide +kernel
theorem dX11_about_132 : decode cX11_about 132 = .ok (.iconst 0, 1) := by decide +kernel
theorem dX11_about_133 : decode cX11_about 133 = .ok (.goto 7, 3) := by decide +kernel
theorem dX11_about_136 : decode cX11_about 136 = .ok (.aload_n 0, 1) := by decide +kernel
theorem dX11_about_137 : decode cX11_about 137 = .ok (.getfield 331, 3) := by decide +kernel
theorem dX11_about_140 : decode cX11_about 140 = .ok (.ireturn, 1) := by decide +kernel
theorem dX11_about_141 : decode cX11_about 141 = .ok (.aload_n 0, 1) := by decide +kernel
theorem dX11_about_142 : decode cX11_about 142 = .ok (.getfield 325, 3) := by decide +kernel
theorem dX11_about_145 : decode cX11_about 145 = .ok (.ifCond .ne 7, 3) := by decide +kernel
theorem dX11_about_148 : decode cX11_about 148 = .ok (.iconst 0, 1) := by decide +kernel
theorem dX11_about_149 : decode cX11_about 149 = .ok (.goto 7, 3) := by decide +kernel
theorem dX11_about_152 : decode cX11_about 152 = .ok (.aload_n 0, 1) := by decide +kernel
theorem dX11_about_153 : decode cX11_about 153 = .ok (.getfield 334, 3) := by decide +kernel
theorem dX11_about_156 : decode cX11_about 156 = .ok (.ireturn, 1) := by decide +kernel
theorem dX11_about_157 : decode cX11_about 157 = .ok (.aload_n 0, 1) := by decide +kernel
theorem dX11_about_158 : decode cX11_about 158 = .ok (.getfield 325, 3) := by decide +kernel
theorem dX11_about_161 : decode cX11_about 161 = .ok (.ifCond .ne 7, 3) := by decide +kernel
theorem dX11_about_164 : decode cX11_about 164 = .ok (.iconst 0, 1) := by decide +kernel
theorem dX11_about_165 : decode cX11_about 165 = .ok (.goto 7, 3) := by decide +kernel
theorem dX11_about_168 : decode cX11_about 168 = .ok (.aload_n 0, 1) := by decide +kernel
theorem dX11_about_169 : decode cX11_about 169 = .ok (.getfield 337, 3) := by decide +kernel
theorem dX11_about_172 : decode cX11_about 172 = .ok (.ireturn, 1) := by decide +kernel
theorem dX11_about_173 : decode cX11_about 173 = .ok (.iconst (-1), 1) := by decide +kernel
theorem dX11_about_174 : decode cX11_about 174 = .ok (.ireturn, 1) := by decide +kernel
theorem dX11_said_0 : decode cX11_said 0 = .ok (.aload_n 0, 1) := by decide +kernel
theorem dX11_said_1 : decode cX11_said 1 = .ok (.getfield 325, 3) := by decide +kernel
theorem dX11_said_4 : decode cX11_said 4 = .ok (.ifCond .eq 26, 3) := by decide +kernel
theorem dX11_said_7 : decode cX11_said 7 = .ok (.iload_n 1, 1) := by decide +kernel
theorem dX11_said_8 : decode cX11_said 8 = .ok (.ifCond .lt 22, 3) := by decide +kernel
theorem dX11_said_11 : decode cX11_said 11 = .ok (.iload_n 1, 1) := by decide +kernel
theorem dX11_said_12 : decode cX11_said 12 = .ok (.aload_n 0, 1) := by decide +kernel
theorem dX11_said_13 : decode cX11_said 13 = .ok (.getfield 337, 3) := by decide +kernel
theorem dX11_said_16 : decode cX11_said 16 = .ok (.if_icmp .ge 14, 3) := by decide +kernel
theorem dX11_said_19 : decode cX11_said 19 = .ok (.iload_n 1, 1) := by decide +kernel
theorem dX11_said_20 : decode cX11_said 20 = .ok (.sipush 300, 3) := by decide +kernel
theorem dX11_said_23 : decode cX11_said 23 = .ok (.if_icmp .ge 7, 3) := by decide +kernel
theorem dX11_said_26 : decode cX11_said 26 = .ok (.iconst 1, 1) := by decide +kernel
theorem dX11_said_27 : decode cX11_said 27 = .ok (.goto 4, 3) := by decide +kernel
theorem dX11_said_30 : decode cX11_said 30 = .ok (.iconst 0, 1) := by decide +kernel
theorem dX11_said_31 : decode cX11_said 31 = .ok (.istore_n 2, 1) := by decide +kernel
theorem dX11_said_32 : decode cX11_said 32 = .ok (.aload_n 0, 1) := by decide +kernel
theorem dX11_said_33 : decode cX11_said 33 = .ok (.iload_n 2, 1) := by decide +kernel
theorem dX11_said_34 : decode cX11_said 34 = .ok (.ifCond .eq 7, 3) := by decide +kernel
theorem dX11_said_37 : decode cX11_said 37 = .ok (.iconst 0, 1) := by decide +kernel
theorem dX11_said_38 : decode cX11_said 38 = .ok (.goto 4, 3) := by decide +kernel
theorem dX11_said_41 : decode cX11_said 41 = .ok (.iconst 1, 1) := by decide +kernel
theorem dX11_said_42 : decode cX11_said 42 = .ok (.putfield 131, 3) := by decide +kernel
theorem dX11_said_45 : decode cX11_said 45 = .ok (.iload_n 2, 1) := by decide +kernel
theorem dX11_said_46 : decode cX11_said 46 = .ok (.ifCond .eq 12, 3) := by decide +kernel
theorem dX11_said_49 : decode cX11_said 49 = .ok (.aload_n 0, 1) := by decide +kernel
theorem dX11_said_50 : decode cX11_said 50 = .ok (.getfield 107, 3) := by decide +kernel
theorem dX11_said_53 : decode cX11_said 53 = .ok (.iload_n 1, 1) := by decide +kernel
theorem dX11_said_54 : decode cX11_said 54 = .ok (.iaload, 1) := by decide +kernel
theorem dX11_said_55 : decode cX11_said 55 = .ok (.goto 4, 3) := by decide +kernel
theorem dX11_said_58 : decode cX11_said 58 = .ok (.iconst 0, 1) := by decide +kernel
theorem dX11_said_59 : decode cX11_said 59 = .ok (.ireturn, 1) := by decide +kernel
theorem dX11_told_0 : decode cX11_told 0 = .ok (.iload_n 3, 1) := by decide +kernel
theorem dX11_told_1 : decode cX11_told 1 = .ok (.tableswitch 74 0 2 #[27, 34, 58], 27) := by decide +kernel
theorem dX11_told_28 : decode cX11_told 28 = .ok (.aload_n 0, 1) := by decide +kernel
theorem dX11_told_29 : decode cX11_told 29 = .ok (.iload_n 1, 1) := by decide +kernel
theorem dX11_told_30 : decode cX11_told 30 = .ok (.iload_n 2, 1) := by decide +kernel
theorem dX11_told_31 : decode cX11_told 31 = .ok (.invokevirtual 222, 3) := by decide +kernel
theorem dX11_told_34 : decode cX11_told 34 = .ok (.ireturn, 1) := by decide +kernel
theorem dX11_told_35 : decode cX11_told 35 = .ok (.iload_n 1, 1) := by decide +kernel
theorem dX11_told_36 : decode cX11_told 36 = .ok (.ifCond .ne 7, 3) := by decide +kernel
theorem dX11_told_39 : decode cX11_told 39 = .ok (.iload_n 2, 1) := by decide +kernel
theorem dX11_told_40 : decode cX11_told 40 = .ok (.goto 18, 3) := by decide +kernel
theorem dX11_told_43 : decode cX11_told 43 = .ok (.iload_n 1, 1) := by decide +kernel
theorem dX11_told_44 : decode cX11_told 44 = .ok (.iconst 1, 1) := by decide +kernel
theorem dX11_told_45 : decode cX11_told 45 = .ok (.if_icmp .ne 7, 3) := by decide +kernel
theorem dX11_told_48 : decode cX11_told 48 = .ok (.iconst 0, 1) := by decide +kernel
theorem dX11_told_49 : decode cX11_told 49 = .ok (.goto 9, 3) := by decide +kernel
theorem dX11_told_52 : decode cX11_told 52 = .ok (.aload_n 0, 1) := by decide +kernel
theorem dX11_told_53 : decode cX11_told 53 = .ok (.getfield 13, 3) := by decide +kernel
theorem dX11_told_56 : decode cX11_told 56 = .ok (.iload_n 2, 1) := by decide +kernel
theorem dX11_told_57 : decode cX11_told 57 = .ok (.iaload, 1) := by decide +kernel
theorem dX11_told_58 : decode cX11_told 58 = .ok (.ireturn, 1) := by decide +kernel
theorem dX11_told_59 : decode cX11_told 59 = .ok (.iload_n 1, 1) := by decide +kernel
theorem dX11_told_60 : decode cX11_told 60 = .ok (.iconst 2, 1) := by decide +kernel
theorem dX11_told_61 : decode cX11_told 61 = .ok (.if_icmp .ne 12, 3) := by decide +kernel
theorem dX11_told_64 : decode cX11_told 64 = .ok (.aload_n 0, 1) := by decide +kernel
theorem dX11_told_65 : decode cX11_told 65 = .ok (.getfield 20, 3) := by decide +kernel
theorem dX11_told_68 : decode cX11_told 68 = .ok (.iload_n 2, 1) := by decide +kernel
theorem dX11_told_69 : decode cX11_told 69 = .ok (.iaload, 1) := by decide +kernel
theorem dX11_told_70 : decode cX11_told 70 = .ok (.goto 4, 3) := by decide +kernel
theorem dX11_told_73 : decode cX11_told 73 = .ok (.iconst (-1), 1) := by decide +kernel
theorem dX11_told_74 : decode cX11_told 74 = .ok (.ireturn, 1) := by decide +kernel
theorem dX11_told_75 : decode cX11_told 75 = .ok (.iconst (-1), 1) := by decide +kernel
theorem dX11_told_76 : decode cX11_told 76 = .ok (.ireturn, 1) := by decide +kernel
theorem dX11_hand_0 : decode cX11_hand 0 = .ok (.aload_n 0, 1) := by decide +kernel
theorem dX11_hand_1 : decode cX11_hand 1 = .ok (.iconst 0, 1) := by decide +kernel
theorem dX11_hand_2 : decode cX11_hand 2 = .ok (.putfield 131, 3) := by decide +kernel
theorem dX11_hand_5 : decode cX11_hand 5 = .ok (.iload_n 1, 1) := by decide +kernel
theorem dX11_hand_6 : decode cX11_hand 6 = .ok (.ifCond .lt 9, 3) := by decide +kernel
theorem dX11_hand_9 : decode cX11_hand 9 = .ok (.iload_n 1, 1) := by decide +kernel
theorem dX11_hand_10 : decode cX11_hand 10 = .ok (.bipush 7, 2) := by decide +kernel
theorem dX11_hand_12 : decode cX11_hand 12 = .ok (.if_icmp .le 7, 3) := by decide +kernel
theorem dX11_hand_15 : decode cX11_hand 15 = .ok (.iconst (-1), 1) := by decide +kernel
theorem dX11_hand_16 : decode cX11_hand 16 = .ok (.goto 20, 3) := by decide +kernel
theorem dX11_hand_19 : decode cX11_hand 19 = .ok (.aload_n 0, 1) := by decide +kernel
theorem dX11_hand_20 : decode cX11_hand 20 = .ok (.aload_n 0, 1) := by decide +kernel
theorem dX11_hand_21 : decode cX11_hand 21 = .ok (.getfield 30, 3) := by decide +kernel
theorem dX11_hand_24 : decode cX11_hand 24 = .ok (.iload_n 1, 1) := by decide +kernel
theorem dX11_hand_25 : decode cX11_hand 25 = .ok (.iaload, 1) := by decide +kernel
theorem dX11_hand_26 : decode cX11_hand 26 = .ok (.aload_n 0, 1) := by decide +kernel
theorem dX11_hand_27 : decode cX11_hand 27 = .ok (.getfield 33, 3) := by decide +kernel
theorem dX11_hand_30 : decode cX11_hand 30 = .ok (.iload_n 1, 1) := by decide +kernel
theorem dX11_hand_31 : decode cX11_hand 31 = .ok (.iaload, 1) := by decide +kernel
theorem dX11_hand_32 : decode cX11_hand 32 = .ok (.iload_n 2, 1) := by decide +kernel
theorem dX11_hand_33 : decode cX11_hand 33 = .ok (.invokevirtual 349, 3) := by decide +kernel
theorem dX11_hand_36 : decode cX11_hand 36 = .ok (.ireturn, 1) := by decide +kernel
theorem dX11_stack_0 : decode cX11_stack 0 = .ok (.aload_n 0, 1) := by decide +kernel
theorem dX11_stack_1 : decode cX11_stack 1 = .ok (.iconst 0, 1) := by decide +kernel
theorem dX11_stack_2 : decode cX11_stack 2 = .ok (.putfield 131, 3) := by decide +kernel
theorem dX11_stack_5 : decode cX11_stack 5 = .ok (.iload_n 1, 1) := by decide +kernel
theorem dX11_stack_6 : decode cX11_stack 6 = .ok (.ifCond .lt 11, 3) := by decide +kernel
theorem dX11_stack_9 : decode cX11_stack 9 = .ok (.iload_n 1, 1) := by decide +kernel
theorem dX11_stack_10 : decode cX11_stack 10 = .ok (.aload_n 0, 1) := by decide +kernel
theorem dX11_stack_11 : decode cX11_stack 11 = .ok (.getfield 173, 3) := by decide +kernel
theorem dX11_stack_14 : decode cX11_stack 14 = .ok (.if_icmp .lt 7, 3) := by decide +kernel
theorem dX11_stack_17 : decode cX11_stack 17 = .ok (.iconst (-1), 1) := by decide +kernel
theorem dX11_stack_18 : decode cX11_stack 18 = .ok (.goto 26, 3) := by decide +kernel
theorem dX11_stack_21 : decode cX11_stack 21 = .ok (.aload_n 0, 1) := by decide +kernel
theorem dX11_stack_22 : decode cX11_stack 22 = .ok (.aload_n 0, 1) := by decide +kernel
theorem dX11_stack_23 : decode cX11_stack 23 = .ok (.getfield 30, 3) := by decide +kernel
theorem dX11_stack_26 : decode cX11_stack 26 = .ok (.bipush 8, 2) := by decide +kernel
theorem dX11_stack_28 : decode cX11_stack 28 = .ok (.iload_n 1, 1) := by decide +kernel
theorem dX11_stack_29 : decode cX11_stack 29 = .ok (.iadd, 1) := by decide +kernel
theorem dX11_stack_30 : decode cX11_stack 30 = .ok (.iaload, 1) := by decide +kernel
theorem dX11_stack_31 : decode cX11_stack 31 = .ok (.aload_n 0, 1) := by decide +kernel
theorem dX11_stack_32 : decode cX11_stack 32 = .ok (.getfield 33, 3) := by decide +kernel
theorem dX11_stack_35 : decode cX11_stack 35 = .ok (.bipush 8, 2) := by decide +kernel
theorem dX11_stack_37 : decode cX11_stack 37 = .ok (.iload_n 1, 1) := by decide +kernel
theorem dX11_stack_38 : decode cX11_stack 38 = .ok (.iadd, 1) := by decide +kernel
theorem dX11_stack_39 : decode cX11_stack 39 = .ok (.iaload, 1) := by decide +kernel
theorem dX11_stack_40 : decode cX11_stack 40 = .ok (.iload_n 2, 1) := by decide +kernel
theorem dX11_stack_41 : decode cX11_stack 41 = .ok (.invokevirtual 349, 3) := by decide +kernel
theorem dX11_stack_44 : decode cX11_stack 44 = .ok (.ireturn, 1) := by decide +kernel
theorem dX11_slot_0 : decode cX11_slot 0 = .ok (.aload_n 0, 1) := by decide +kernel
theorem dX11_slot_1 : decode cX11_slot 1 = .ok (.iconst 0, 1) := by decide +kernel
theorem dX11_slot_2 : decode cX11_slot 2 = .ok (.putfield 131, 3) := by decide +kernel
theorem dX11_slot_5 : decode cX11_slot 5 = .ok (.iload_n 1, 1) := by decide +kernel
theorem dX11_slot_6 : decode cX11_slot 6 = .ok (.ifCond .lt 36, 3) := by decide +kernel
theorem dX11_slot_9 : decode cX11_slot 9 = .ok (.iload_n 1, 1) := by decide +kernel
theorem dX11_slot_10 : decode cX11_slot 10 = .ok (.bipush 7, 2) := by decide +kernel
theorem dX11_slot_12 : decode cX11_slot 12 = .ok (.if_icmp .gt 30, 3) := by decide +kernel
theorem dX11_slot_15 : decode cX11_slot 15 = .ok (.aload_n 0, 1) := by decide +kernel
theorem dX11_slot_16 : decode cX11_slot 16 = .ok (.iload_n 1, 1) := by decide +kernel
theorem dX11_slot_17 : decode cX11_slot 17 = .ok (.invokevirtual 202, 3) := by decide +kernel
theorem dX11_slot_20 : decode cX11_slot 20 = .ok (.ifCond .eq 22, 3) := by decide +kernel
theorem dX11_slot_23 : decode cX11_slot 23 = .ok (.iload_n 2, 1) := by decide +kernel
theorem dX11_slot_24 : decode cX11_slot 24 = .ok (.ifCond .lt 18, 3) := by decide +kernel
theorem dX11_slot_27 : decode cX11_slot 27 = .ok (.iload_n 2, 1) := by decide +kernel
theorem dX11_slot_28 : decode cX11_slot 28 = .ok (.aload_n 0, 1) := by decide +kernel
theorem dX11_slot_29 : decode cX11_slot 29 = .ok (.getfield 13, 3) := by decide +kernel
theorem dX11_slot_32 : decode cX11_slot 32 = .ok (.aload_n 0, 1) := by decide +kernel
theorem dX11_slot_33 : decode cX11_slot 33 = .ok (.getfield 33, 3) := by decide +kernel
theorem dX11_slot_36 : decode cX11_slot 36 = .ok (.iload_n 1, 1) := by decide +kernel
theorem dX11_slot_37 : decode cX11_slot 37 = .ok (.iaload, 1) := by decide +kernel
theorem dX11_slot_38 : decode cX11_slot 38 = .ok (.iaload, 1) := by decide +kernel
theorem dX11_slot_39 : decode cX11_slot 39 = .ok (.if_icmp .lt 5, 3) := by decide +kernel
theorem dX11_slot_42 : decode cX11_slot 42 = .ok (.iconst (-1), 1) := by decide +kernel
theorem dX11_slot_43 : decode cX11_slot 43 = .ok (.ireturn, 1) := by decide +kernel
theorem dX11_slot_44 : decode cX11_slot 44 = .ok (.bipush 40, 2) := by decide +kernel
theorem dX11_slot_46 : decode cX11_slot 46 = .ok (.aload_n 0, 1) := by decide +kernel
theorem dX11_slot_47 : decode cX11_slot 47 = .ok (.getfield 33, 3) := by decide +kernel
theorem dX11_slot_50 : decode cX11_slot 50 = .ok (.iload_n 1, 1) := by decide +kernel
theorem dX11_slot_51 : decode cX11_slot 51 = .ok (.iaload, 1) := by decide +kernel
theorem dX11_slot_52 : decode cX11_slot 52 = .ok (.imul, 1) := by decide +kernel
theorem dX11_slot_53 : decode cX11_slot 53 = .ok (.iload_n 2, 1) := by decide +kernel
theorem dX11_slot_54 : decode cX11_slot 54 = .ok (.iadd, 1) := by decide +kernel
theorem dX11_slot_55 : decode cX11_slot 55 = .ok (.istore 4, 2) := by decide +kernel
theorem dX11_slot_57 : decode cX11_slot 57 = .ok (.iload_n 3, 1) := by decide +kernel
theorem dX11_slot_58 : decode cX11_slot 58 = .ok (.iconst 2, 1) := by decide +kernel
theorem dX11_slot_59 : decode cX11_slot 59 = .ok (.if_icmp .ne 31, 3) := by decide +kernel
theorem dX11_slot_62 : decode cX11_slot 62 = .ok (.aload_n 0, 1) := by decide +kernel
theorem dX11_slot_63 : decode cX11_slot 63 = .ok (.getfield 24, 3) := by decide +kernel
theorem dX11_slot_66 : decode cX11_slot 66 = .ok (.iload 4, 2) := by decide +kernel
theorem dX11_slot_68 : decode cX11_slot 68 = .ok (.iaload, 1) := by decide +kernel
theorem dX11_slot_69 : decode cX11_slot 69 = .ok (.iconst 2, 1) := by decide +kernel
theorem dX11_slot_70 : decode cX11_slot 70 = .ok (.if_icmp .ne 18, 3) := by decide +kernel
theorem dX11_slot_73 : decode cX11_slot 73 = .ok (.aload_n 0, 1) := by decide +kernel
theorem dX11_slot_74 : decode cX11_slot 74 = .ok (.getfield 17, 3) := by decide +kernel
theorem dX11_slot_77 : decode cX11_slot 77 = .ok (.aload_n 0, 1) := by decide +kernel
theorem dX11_slot_78 : decode cX11_slot 78 = .ok (.getfield 27, 3) := by decide +kernel
theorem dX11_slot_81 : decode cX11_slot 81 = .ok (.iload 4, 2) := by decide +kernel
theorem dX11_slot_83 : decode cX11_slot 83 = .ok (.iaload, 1) := by decide +kernel
theorem dX11_slot_84 : decode cX11_slot 84 = .ok (.iaload, 1) := by decide +kernel
theorem dX11_slot_85 : decode cX11_slot 85 = .ok (.goto 4, 3) := by decide +kernel
theorem dX11_slot_88 : decode cX11_slot 88 = .ok (.iconst (-1), 1) := by decide +kernel
theorem dX11_slot_89 : decode cX11_slot 89 = .ok (.ireturn, 1) := by decide +kernel
theorem dX11_slot_90 : decode cX11_slot 90 = .ok (.aload_n 0, 1) := by decide +kernel
theorem dX11_slot_91 : decode cX11_slot 91 = .ok (.aload_n 0, 1) := by decide +kernel
theorem dX11_slot_92 : decode cX11_slot 92 = .ok (.getfield 24, 3) := by decide +kernel
theorem dX11_slot_95 : decode cX11_slot 95 = .ok (.iload 4, 2) := by decide +kernel
theorem dX11_slot_97 : decode cX11_slot 97 = .ok (.iaload, 1) := by decide +kernel
theorem dX11_slot_98 : decode cX11_slot 98 = .ok (.aload_n 0, 1) := by decide +kernel
theorem dX11_slot_99 : decode cX11_slot 99 = .ok (.getfield 27, 3) := by decide +kernel
theorem dX11_slot_102 : decode cX11_slot 102 = .ok (.iload 4, 2) := by decide +kernel
theorem dX11_slot_104 : decode cX11_slot 104 = .ok (.iaload, 1) := by decide +kernel
theorem dX11_slot_105 : decode cX11_slot 105 = .ok (.iload_n 3, 1) := by decide +kernel
theorem dX11_slot_106 : decode cX11_slot 106 = .ok (.invokevirtual 349, 3) := by decide +kernel
theorem dX11_slot_109 : decode cX11_slot 109 = .ok (.ireturn, 1) := by decide +kernel
theorem dX11_meet_0 : decode cX11_meet 0 = .ok (.iload_n 1, 1) := by decide +kernel
theorem dX11_meet_1 : decode cX11_meet 1 = .ok (.iconst 2, 1) := by decide +kernel
theorem dX11_meet_2 : decode cX11_meet 2 = .ok (.if_icmp .ne 12, 3) := by decide +kernel
theorem dX11_meet_5 : decode cX11_meet 5 = .ok (.aload_n 0, 1) := by decide +kernel
theorem dX11_meet_6 : decode cX11_meet 6 = .ok (.getfield 113, 3) := by decide +kernel
theorem dX11_meet_9 : decode cX11_meet 9 = .ok (.iload_n 2, 1) := by decide +kernel
theorem dX11_meet_10 : decode cX11_meet 10 = .ok (.iaload, 1) := by decide +kernel
theorem dX11_meet_11 : decode cX11_meet 11 = .ok (.ifCond .le 4, 3) := by decide +kernel
theorem dX11_meet_14 : decode cX11_meet 14 = .ok (.return_, 1) := by decide +kernel
theorem dX11_meet_15 : decode cX11_meet 15 = .ok (.aload_n 0, 1) := by decide +kernel
theorem dX11_meet_16 : decode cX11_meet 16 = .ok (.getfield 110, 3) := by decide +kernel
theorem dX11_meet_19 : decode cX11_meet 19 = .ok (.aload_n 0, 1) := by decide +kernel
theorem dX11_meet_20 : decode cX11_meet 20 = .ok (.getfield 352, 3) := by decide +kernel
theorem dX11_meet_23 : decode cX11_meet 23 = .ok (.iload_n 2, 1) := by decide +kernel
theorem dX11_meet_24 : decode cX11_meet 24 = .ok (.iastore, 1) := by decide +kernel
theorem dX11_meet_25 : decode cX11_meet 25 = .ok (.aload_n 0, 1) := by decide +kernel
theorem dX11_meet_26 : decode cX11_meet 26 = .ok (.dup, 1) := by decide +kernel
theorem dX11_meet_27 : decode cX11_meet 27 = .ok (.getfield 352, 3) := by decide +kernel
theorem dX11_meet_30 : decode cX11_meet 30 = .ok (.iconst 1, 1) := by decide +kernel
theorem dX11_meet_31 : decode cX11_meet 31 = .ok (.iadd, 1) := by decide +kernel
theorem dX11_meet_32 : decode cX11_meet 32 = .ok (.putfield 352, 3) := by decide +kernel
theorem dX11_meet_35 : decode cX11_meet 35 = .ok (.aload_n 0, 1) := by decide +kernel
theorem dX11_meet_36 : decode cX11_meet 36 = .ok (.getfield 113, 3) := by decide +kernel
theorem dX11_meet_39 : decode cX11_meet 39 = .ok (.iload_n 2, 1) := by decide +kernel
theorem dX11_meet_40 : decode cX11_meet 40 = .ok (.aload_n 0, 1) := by decide +kernel
theorem dX11_meet_41 : decode cX11_meet 41 = .ok (.getfield 352, 3) := by decide +kernel
theorem dX11_meet_44 : decode cX11_meet 44 = .ok (.iastore, 1) := by decide +kernel
theorem dX11_meet_45 : decode cX11_meet 45 = .ok (.return_, 1) := by decide +kernel
theorem dX11_forget_0 : decode cX11_forget 0 = .ok (.aload_n 0, 1) := by decide +kernel
theorem dX11_forget_1 : decode cX11_forget 1 = .ok (.iconst 0, 1) := by decide +kernel
theorem dX11_forget_2 : decode cX11_forget 2 = .ok (.putfield 352, 3) := by decide +kernel
theorem dX11_forget_5 : decode cX11_forget 5 = .ok (.iconst 0, 1) := by decide +kernel
theorem dX11_forget_6 : decode cX11_forget 6 = .ok (.istore_n 1, 1) := by decide +kernel
theorem dX11_forget_7 : decode cX11_forget 7 = .ok (.iload_n 1, 1) := by decide +kernel
theorem dX11_forget_8 : decode cX11_forget 8 = .ok (.sipush 1300, 3) := by decide +kernel
theorem dX11_forget_11 : decode cX11_forget 11 = .ok (.if_icmp .ge 16, 3) := by decide +kernel
theorem dX11_forget_14 : decode cX11_forget 14 = .ok (.aload_n 0, 1) := by decide +kernel
theorem dX11_forget_15 : decode cX11_forget 15 = .ok (.getfield 113, 3) := by decide +kernel
theorem dX11_forget_18 : decode cX11_forget 18 = .ok (.iload_n 1, 1) := by decide +kernel
theorem dX11_forget_19 : decode cX11_forget 19 = .ok (.iconst 0, 1) := by decide +kernel
theorem dX11_forget_20 : decode cX11_forget 20 = .ok (.iastore, 1) := by decide +kernel
theorem dX11_forget_21 : decode cX11_forget 21 = .ok (.iinc 1 1, 3) := by decide +kernel
theorem dX11_forget_24 : decode cX11_forget 24 = .ok (.goto (-17), 3) := by decide +kernel
theorem dX11_forget_27 : decode cX11_forget 27 = .ok (.return_, 1) := by decide +kernel
theorem dX11_reach_0 : decode cX11_reach 0 = .ok (.aload_n 0, 1) := by decide +kernel
theorem dX11_reach_1 : decode cX11_reach 1 = .ok (.iconst 0, 1) := by decide +kernel
theorem dX11_reach_2 : decode cX11_reach 2 = .ok (.putfield 131, 3) := by decide +kernel
theorem dX11_reach_5 : decode cX11_reach 5 = .ok (.iload_n 1, 1) := by decide +kernel
theorem dX11_reach_6 : decode cX11_reach 6 = .ok (.ifCond .eq 10, 3) := by decide +kernel
theorem dX11_reach_9 : decode cX11_reach 9 = .ok (.iload_n 1, 1) := by decide +kernel
theorem dX11_reach_10 : decode cX11_reach 10 = .ok (.iconst 1, 1) := by decide +kernel
theorem dX11_reach_11 : decode cX11_reach 11 = .ok (.if_icmp .eq 5, 3) := by decide +kernel
theorem dX11_reach_14 : decode cX11_reach 14 = .ok (.iconst (-1), 1) := by decide +kernel
theorem dX11_reach_15 : decode cX11_reach 15 = .ok (.ireturn, 1) := by decide +kernel
theorem dX11_reach_16 : decode cX11_reach 16 = .ok (.aload_n 0, 1) := by decide +kernel
theorem dX11_reach_17 : decode cX11_reach 17 = .ok (.invokevirtual 355, 3) := by decide +kernel
theorem dX11_reach_20 : decode cX11_reach 20 = .ok (.iconst 0, 1) := by decide +kernel
theorem dX11_reach_21 : decode cX11_reach 21 = .ok (.istore_n 2, 1) := by decide +kernel
theorem dX11_reach_22 : decode cX11_reach 22 = .ok (.iload_n 2, 1) := by decide +kernel
theorem dX11_reach_23 : decode cX11_reach 23 = .ok (.bipush 8, 2) := by decide +kernel
theorem dX11_reach_25 : decode cX11_reach 25 = .ok (.aload_n 0, 1) := by decide +kernel
theorem dX11_reach_26 : decode cX11_reach 26 = .ok (.getfield 173, 3) := by decide +kernel
theorem dX11_reach_29 : decode cX11_reach 29 = .ok (.iadd, 1) := by decide +kernel
theorem dX11_reach_30 : decode cX11_reach 30 = .ok (.if_icmp .ge 25, 3) := by decide +kernel
theorem dX11_reach_33 : decode cX11_reach 33 = .ok (.aload_n 0, 1) := by decide +kernel
theorem dX11_reach_34 : decode cX11_reach 34 = .ok (.aload_n 0, 1) := by decide +kernel
theorem dX11_reach_35 : decode cX11_reach 35 = .ok (.getfield 30, 3) := by decide +kernel
theorem dX11_reach_38 : decode cX11_reach 38 = .ok (.iload_n 2, 1) := by decide +kernel
theorem dX11_reach_39 : decode cX11_reach 39 = .ok (.iaload, 1) := by decide +kernel
theorem dX11_reach_40 : decode cX11_reach 40 = .ok (.aload_n 0, 1) := by decide +kernel
theorem dX11_reach_41 : decode cX11_reach 41 = .ok (.getfield 33, 3) := by decide +kernel
theorem dX11_reach_44 : decode cX11_reach 44 = .ok (.iload_n 2, 1) := by decide +kernel
theorem dX11_reach_45 : decode cX11_reach 45 = .ok (.iaload, 1) := by decide +kernel
theorem dX11_reach_46 : decode cX11_reach 46 = .ok (.invokevirtual 358, 3) := by decide +kernel
theorem dX11_reach_49 : decode cX11_reach 49 = .ok (.iinc 2 1, 3) := by decide +kernel
theorem dX11_reach_52 : decode cX11_reach 52 = .ok (.goto (-30), 3) := by decide +kernel
theorem dX11_reach_55 : decode cX11_reach 55 = .ok (.iconst 0, 1) := by decide +kernel
theorem dX11_reach_56 : decode cX11_reach 56 = .ok (.istore_n 2, 1) := by decide +kernel
theorem dX11_reach_57 : decode cX11_reach 57 = .ok (.iconst 0, 1) := by decide +kernel
theorem dX11_reach_58 : decode cX11_reach 58 = .ok (.istore_n 3, 1) := by decide +kernel
theorem dX11_reach_59 : decode cX11_reach 59 = .ok (.iload_n 3, 1) := by decide +kernel
theorem dX11_reach_60 : decode cX11_reach 60 = .ok (.aload_n 0, 1) := by decide +kernel
theorem dX11_reach_61 : decode cX11_reach 61 = .ok (.getfield 352, 3) := by decide +kernel
theorem dX11_reach_64 : decode cX11_reach 64 = .ok (.if_icmp .ge 77, 3) := by decide +kernel
theorem dX11_reach_67 : decode cX11_reach 67 = .ok (.aload_n 0, 1) := by decide +kernel
theorem dX11_reach_68 : decode cX11_reach 68 = .ok (.getfield 110, 3) := by decide +kernel
theorem dX11_reach_71 : decode cX11_reach 71 = .ok (.iload_n 3, 1) := by decide +kernel
theorem dX11_reach_72 : decode cX11_reach 72 = .ok (.iaload, 1) := by decide +kernel
theorem dX11_reach_73 : decode cX11_reach 73 = .ok (.istore 4, 2) := by decide +kernel
theorem dX11_reach_75 : decode cX11_reach 75 = .ok (.iconst 0, 1) := by decide +kernel
theorem dX11_reach_76 : decode cX11_reach 76 = .ok (.istore 5, 2) := by decide +kernel
theorem dX11_reach_78 : decode cX11_reach 78 = .ok (.iload 5, 2) := by decide +kernel
theorem dX11_reach_80 : decode cX11_reach 80 = .ok (.aload_n 0, 1) := by decide +kernel
theorem dX11_reach_81 : decode cX11_reach 81 = .ok (.getfield 13, 3) := by decide +kernel
theorem dX11_reach_84 : decode cX11_reach 84 = .ok (.iload 4, 2) := by decide +kernel
theorem dX11_reach_86 : decode cX11_reach 86 = .ok (.iaload, 1) := by decide +kernel
theorem dX11_reach_87 : decode cX11_reach 87 = .ok (.if_icmp .ge 39, 3) := by decide +kernel
theorem dX11_reach_90 : decode cX11_reach 90 = .ok (.aload_n 0, 1) := by decide +kernel
theorem dX11_reach_91 : decode cX11_reach 91 = .ok (.aload_n 0, 1) := by decide +kernel
theorem dX11_reach_92 : decode cX11_reach 92 = .ok (.getfield 24, 3) := by decide +kernel
theorem dX11_reach_95 : decode cX11_reach 95 = .ok (.bipush 40, 2) := by decide +kernel
theorem dX11_reach_97 : decode cX11_reach 97 = .ok (.iload 4, 2) := by decide +kernel
theorem dX11_reach_99 : decode cX11_reach 99 = .ok (.imul, 1) := by decide +kernel
theorem dX11_reach_100 : decode cX11_reach 100 = .ok (.iload 5, 2) := by decide +kernel
theorem dX11_reach_102 : decode cX11_reach 102 = .ok (.iadd, 1) := by decide +kernel
theorem dX11_reach_103 : decode cX11_reach 103 = .ok (.iaload, 1) := by decide +kernel
theorem dX11_reach_104 : decode cX11_reach 104 = .ok (.aload_n 0, 1) := by decide +kernel
theorem dX11_reach_105 : decode cX11_reach 105 = .ok (.getfield 27, 3) := by decide +kernel
theorem dX11_reach_108 : decode cX11_reach 108 = .ok (.bipush 40, 2) := by decide +kernel
theorem dX11_reach_110 : decode cX11_reach 110 = .ok (.iload 4, 2) := by decide +kernel
theorem dX11_reach_112 : decode cX11_reach 112 = .ok (.imul, 1) := by decide +kernel
theorem dX11_reach_113 : decode cX11_reach 113 = .ok (.iload 5, 2) := by decide +kernel
theorem dX11_reach_115 : decode cX11_reach 115 = .ok (.iadd, 1) := by decide +kernel
theorem dX11_reach_116 : decode cX11_reach 116 = .ok (.iaload, 1) := by decide +kernel
theorem dX11_reach_117 : decode cX11_reach 117 = .ok (.invokevirtual 358, 3) := by decide +kernel
theorem dX11_reach_120 : decode cX11_reach 120 = .ok (.iinc 5 1, 3) := by decide +kernel
theorem dX11_reach_123 : decode cX11_reach 123 = .ok (.goto (-45), 3) := by decide +kernel
theorem dX11_reach_126 : decode cX11_reach 126 = .ok (.iload_n 2, 1) := by decide +kernel
theorem dX11_reach_127 : decode cX11_reach 127 = .ok (.aload_n 0, 1) := by decide +kernel
theorem dX11_reach_128 : decode cX11_reach 128 = .ok (.iload 4, 2) := by decide +kernel
theorem dX11_reach_130 : decode cX11_reach 130 = .ok (.invokevirtual 140, 3) := by decide +kernel
theorem dX11_reach_133 : decode cX11_reach 133 = .ok (.iadd, 1) := by decide +kernel
theorem dX11_reach_134 : decode cX11_reach 134 = .ok (.istore_n 2, 1) := by decide +kernel
theorem dX11_reach_135 : decode cX11_reach 135 = .ok (.iinc 3 1, 3) := by decide +kernel
theorem dX11_reach_138 : decode cX11_reach 138 = .ok (.goto (-79), 3) := by decide +kernel
theorem dX11_reach_141 : decode cX11_reach 141 = .ok (.iload_n 1, 1) := by decide +kernel
theorem dX11_reach_142 : decode cX11_reach 142 = .ok (.ifCond .ne 10, 3) := by decide +kernel
theorem dX11_reach_145 : decode cX11_reach 145 = .ok (.aload_n 0, 1) := by decide +kernel
theorem dX11_reach_146 : decode cX11_reach 146 = .ok (.getfield 352, 3) := by decide +kernel
theorem dX11_reach_149 : decode cX11_reach 149 = .ok (.goto 4, 3) := by decide +kernel
theorem dX11_reach_152 : decode cX11_reach 152 = .ok (.iload_n 2, 1) := by decide +kernel
theorem dX11_reach_153 : decode cX11_reach 153 = .ok (.ireturn, 1) := by decide +kernel
theorem dX11_put_0 : decode cX11_put 0 = .ok (.aload_n 0, 1) := by decide +kernel
theorem dX11_put_1 : decode cX11_put 1 = .ok (.getfield 361, 3) := by decide +kernel
theorem dX11_put_4 : decode cX11_put 4 = .ok (.sipush 600, 3) := by decide +kernel
theorem dX11_put_7 : decode cX11_put 7 = .ok (.if_icmp .ne 4, 3) := by decide +kernel
theorem dX11_put_10 : decode cX11_put 10 = .ok (.return_, 1) := by decide +kernel
theorem dX11_put_11 : decode cX11_put 11 = .ok (.aload_n 0, 1) := by decide +kernel
theorem dX11_put_12 : decode cX11_put 12 = .ok (.getfield 116, 3) := by decide +kernel
theorem dX11_put_15 : decode cX11_put 15 = .ok (.aload_n 0, 1) := by decide +kernel
theorem dX11_put_16 : decode cX11_put 16 = .ok (.getfield 361, 3) := by decide +kernel
theorem dX11_put_19 : decode cX11_put 19 = .ok (.iload_n 1, 1) := by decide +kernel
theorem dX11_put_20 : decode cX11_put 20 = .ok (.iastore, 1) := by decide +kernel
theorem dX11_put_21 : decode cX11_put 21 = .ok (.aload_n 0, 1) := by decide +kernel
theorem dX11_put_22 : decode cX11_put 22 = .ok (.dup, 1) := by decide +kernel
theorem dX11_put_23 : decode cX11_put 23 = .ok (.getfield 361, 3) := by decide +kernel
theorem dX11_put_26 : decode cX11_put 26 = .ok (.iconst 1, 1) := by decide +kernel
theorem dX11_put_27 : decode cX11_put 27 = .ok (.iadd, 1) := by decide +kernel
theorem dX11_put_28 : decode cX11_put 28 = .ok (.putfield 361, 3) := by decide +kernel
theorem dX11_put_31 : decode cX11_put 31 = .ok (.return_, 1) := by decide +kernel
theorem dX11_putNumber_0 : decode cX11_putNumber 0 = .ok (.iload_n 1, 1) := by decide +kernel
theorem dX11_putNumber_1 : decode cX11_putNumber 1 = .ok (.i2l, 1) := by decide +kernel
theorem dX11_putNumber_2 : decode cX11_putNumber 2 = .ok (.lstore_n 2, 1) := by decide +kernel
theorem dX11_putNumber_3 : decode cX11_putNumber 3 = .ok (.lload_n 2, 1) := by decide +kernel
theorem dX11_putNumber_4 : decode cX11_putNumber 4 = .ok (.lconst 0, 1) := by decide +kernel
theorem dX11_putNumber_5 : decode cX11_putNumber 5 = .ok (.lcmp, 1) := by decide +kernel
theorem dX11_putNumber_6 : decode cX11_putNumber 6 = .ok (.ifCond .ge 12, 3) := by decide +kernel
theorem dX11_putNumber_9 : decode cX11_putNumber 9 = .ok (.aload_n 0, 1) := by decide +kernel
theorem dX11_putNumber_10 : decode cX11_putNumber 10 = .ok (.bipush 45, 2) := by decide +kernel
theorem dX11_putNumber_12 : decode cX11_putNumber 12 = .ok (.invokevirtual 364, 3) := by decide +kernel
theorem dX11_putNumber_15 : decode cX11_putNumber 15 = .ok (.lload_n 2, 1) := by decide +kernel
theorem dX11_putNumber_16 : decode cX11_putNumber 16 = .ok (.lneg, 1) := by decide +kernel
theorem dX11_putNumber_17 : decode cX11_putNumber 17 = .ok (.lstore_n 2, 1) := by decide +kernel
theorem dX11_putNumber_18 : decode cX11_putNumber 18 = .ok (.lconst 1, 1) := by decide +kernel
theorem dX11_putNumber_19 : decode cX11_putNumber 19 = .ok (.lstore 4, 2) := by decide +kernel
theorem dX11_putNumber_21 : decode cX11_putNumber 21 = .ok (.lload_n 2, 1) := by decide +kernel
theorem dX11_putNumber_22 : decode cX11_putNumber 22 = .ok (.lload 4, 2) := by decide +kernel
theorem dX11_putNumber_24 : decode cX11_putNumber 24 = .ok (.ldiv, 1) := by decide +kernel
theorem dX11_putNumber_25 : decode cX11_putNumber 25 = .ok (.ldc2_w 367, 3) := by decide +kernel
theorem dX11_putNumber_28 : decode cX11_putNumber 28 = .ok (.lcmp, 1) := by decide +kernel
theorem dX11_putNumber_29 : decode cX11_putNumber 29 = .ok (.ifCond .le 14, 3) := by decide +kernel
theorem dX11_putNumber_32 : decode cX11_putNumber 32 = .ok (.lload 4, 2) := by decide +kernel
theorem dX11_putNumber_34 : decode cX11_putNumber 34 = .ok (.ldc2_w 284, 3) := by decide +kernel
theorem dX11_putNumber_37 : decode cX11_putNumber 37 = .ok (.lmul, 1) := by decide +kernel
theorem dX11_putNumber_38 : decode cX11_putNumber 38 = .ok (.lstore 4, 2) := by decide +kernel
theorem dX11_putNumber_40 : decode cX11_putNumber 40 = .ok (.goto (-19), 3) := by decide +kernel
theorem dX11_putNumber_43 : decode cX11_putNumber 43 = .ok (.lload 4, 2) := by decide +kernel
theorem dX11_putNumber_45 : decode cX11_putNumber 45 = .ok (.lconst 0, 1) := by decide +kernel
theorem dX11_putNumber_46 : decode cX11_putNumber 46 = .ok (.lcmp, 1) := by decide +kernel
theorem dX11_putNumber_47 : decode cX11_putNumber 47 = .ok (.ifCond .le 31, 3) := by decide +kernel
theorem dX11_putNumber_50 : decode cX11_putNumber 50 = .ok (.aload_n 0, 1) := by decide +kernel
theorem dX11_putNumber_51 : decode cX11_putNumber 51 = .ok (.ldc2_w 286, 3) := by decide +kernel
theorem dX11_putNumber_54 : decode cX11_putNumber 54 = .ok (.lload_n 2, 1) := by decide +kernel
theorem dX11_putNumber_55 : decode cX11_putNumber 55 = .ok (.lload 4, 2) := by decide +kernel
theorem dX11_putNumber_57 : decode cX11_putNumber 57 = .ok (.ldiv, 1) := by decide +kernel
theorem dX11_putNumber_58 : decode cX11_putNumber 58 = .ok (.ldc2_w 284, 3) := by decide +kernel
theorem dX11_putNumber_61 : decode cX11_putNumber 61 = .ok (.lrem, 1) := by decide +kernel
theorem dX11_putNumber_62 : decode cX11_putNumber 62 = .ok (.ladd, 1) := by decide +kernel
theorem dX11_putNumber_63 : decode cX11_putNumber 63 = .ok (.l2i, 1) := by decide +kernel
theorem dX11_putNumber_64 : decode cX11_putNumber 64 = .ok (.invokevirtual 364, 3) := by decide +kernel
theorem dX11_putNumber_67 : decode cX11_putNumber 67 = .ok (.lload 4, 2) := by decide +kernel
theorem dX11_putNumber_69 : decode cX11_putNumber 69 = .ok (.ldc2_w 284, 3) := by decide +kernel
theorem dX11_putNumber_72 : decode cX11_putNumber 72 = .ok (.ldiv, 1) := by decide +kernel
theorem dX11_putNumber_73 : decode cX11_putNumber 73 = .ok (.lstore 4, 2) := by decide +kernel
theorem dX11_putNumber_75 : decode cX11_putNumber 75 = .ok (.goto (-32), 3) := by decide +kernel
theorem dX11_putNumber_78 : decode cX11_putNumber 78 = .ok (.return_, 1) := by decide +kernel
theorem dX11_putWord_0 : decode cX11_putWord 0 = .ok (.aload_n 0, 1) := by decide +kernel
theorem dX11_putWord_1 : decode cX11_putWord 1 = .ok (.iload_n 1, 1) := by decide +kernel
theorem dX11_putWord_2 : decode cX11_putWord 2 = .ok (.iload_n 2, 1) := by decide +kernel
theorem dX11_putWord_3 : decode cX11_putWord 3 = .ok (.invokevirtual 358, 3) := by decide +kernel
theorem dX11_putWord_6 : decode cX11_putWord 6 = .ok (.iload_n 1, 1) := by decide +kernel
theorem dX11_putWord_7 : decode cX11_putWord 7 = .ok (.ifCond .ne 11, 3) := by decide +kernel
theorem dX11_putWord_10 : decode cX11_putWord 10 = .ok (.aload_n 0, 1) := by decide +kernel
theorem dX11_putWord_11 : decode cX11_putWord 11 = .ok (.iload_n 2, 1) := by decide +kernel
theorem dX11_putWord_12 : decode cX11_putWord 12 = .ok (.invokevirtual 369, 3) := by decide +kernel
theorem dX11_putWord_15 : decode cX11_putWord 15 = .ok (.goto 33, 3) := by decide +kernel
theorem dX11_putWord_18 : decode cX11_putWord 18 = .ok (.iload_n 1, 1) := by decide +kernel
theorem dX11_putWord_19 : decode cX11_putWord 19 = .ok (.iconst 1, 1) := by decide +kernel
theorem dX11_putWord_20 : decode cX11_putWord 20 = .ok (.if_icmp .ne 12, 3) := by decide +kernel
theorem dX11_putWord_23 : decode cX11_putWord 23 = .ok (.aload_n 0, 1) := by decide +kernel
theorem dX11_putWord_24 : decode cX11_putWord 24 = .ok (.bipush 46, 2) := by decide +kernel
theorem dX11_putWord_26 : decode cX11_putWord 26 = .ok (.invokevirtual 364, 3) := by decide +kernel
theorem dX11_putWord_29 : decode cX11_putWord 29 = .ok (.goto 19, 3) := by decide +kernel
theorem dX11_putWord_32 : decode cX11_putWord 32 = .ok (.aload_n 0, 1) := by decide +kernel
theorem dX11_putWord_33 : decode cX11_putWord 33 = .ok (.bipush 35, 2) := by decide +kernel
theorem dX11_putWord_35 : decode cX11_putWord 35 = .ok (.invokevirtual 364, 3) := by decide +kernel
theorem dX11_putWord_38 : decode cX11_putWord 38 = .ok (.aload_n 0, 1) := by decide +kernel
theorem dX11_putWord_39 : decode cX11_putWord 39 = .ok (.aload_n 0, 1) := by decide +kernel
theorem dX11_putWord_40 : decode cX11_putWord 40 = .ok (.getfield 113, 3) := by decide +kernel
theorem dX11_putWord_43 : decode cX11_putWord 43 = .ok (.iload_n 2, 1) := by decide +kernel
theorem dX11_putWord_44 : decode cX11_putWord 44 = .ok (.iaload, 1) := by decide +kernel
theorem dX11_putWord_45 : decode cX11_putWord 45 = .ok (.invokevirtual 369, 3) := by decide +kernel
theorem dX11_putWord_48 : decode cX11_putWord 48 = .ok (.return_, 1) := by decide +kernel
theorem dX11_show_0 : decode cX11_show 0 = .ok (.aload_n 0, 1) := by decide +kernel
theorem dX11_show_1 : decode cX11_show 1 = .ok (.iconst 0, 1) := by decide +kernel
theorem dX11_show_2 : decode cX11_show 2 = .ok (.putfield 131, 3) := by decide +kernel
theorem dX11_show_5 : decode cX11_show 5 = .ok (.iload_n 1, 1) := by decide +kernel
theorem dX11_show_6 : decode cX11_show 6 = .ok (.ifCond .lt 9, 3) := by decide +kernel
theorem dX11_show_9 : decode cX11_show 9 = .ok (.iload_n 1, 1) := by decide +kernel
theorem dX11_show_10 : decode cX11_show 10 = .ok (.bipush 7, 2) := by decide +kernel
theorem dX11_show_12 : decode cX11_show 12 = .ok (.if_icmp .le 5, 3) := by decide +kernel
theorem dX11_show_15 : decode cX11_show 15 = .ok (.iconst (-1), 1) := by decide +kernel
theorem dX11_show_16 : decode cX11_show 16 = .ok (.ireturn, 1) := by decide +kernel
theorem dX11_show_17 : decode cX11_show 17 = .ok (.aload_n 0, 1) := by decide +kernel
theorem dX11_show_18 : decode cX11_show 18 = .ok (.iconst 0, 1) := by decide +kernel
theorem dX11_show_19 : decode cX11_show 19 = .ok (.putfield 361, 3) := by decide +kernel
theorem dX11_show_22 : decode cX11_show 22 = .ok (.aload_n 0, 1) := by decide +kernel
theorem dX11_show_23 : decode cX11_show 23 = .ok (.invokevirtual 355, 3) := by decide +kernel
theorem dX11_show_26 : decode cX11_show 26 = .ok (.aload_n 0, 1) := by decide +kernel
theorem dX11_show_27 : decode cX11_show 27 = .ok (.aload_n 0, 1) := by decide +kernel
theorem dX11_show_28 : decode cX11_show 28 = .ok (.getfield 30, 3) := by decide +kernel
theorem dX11_show_31 : decode cX11_show 31 = .ok (.iload_n 1, 1) := by decide +kernel
theorem dX11_show_32 : decode cX11_show 32 = .ok (.iaload, 1) := by decide +kernel
theorem dX11_show_33 : decode cX11_show 33 = .ok (.aload_n 0, 1) := by decide +kernel
theorem dX11_show_34 : decode cX11_show 34 = .ok (.getfield 33, 3) := by decide +kernel
theorem dX11_show_37 : decode cX11_show 37 = .ok (.iload_n 1, 1) := by decide +kernel
theorem dX11_show_38 : decode cX11_show 38 = .ok (.iaload, 1) := by decide +kernel
theorem dX11_show_39 : decode cX11_show 39 = .ok (.invokevirtual 372, 3) := by decide +kernel
theorem dX11_show_42 : decode cX11_show 42 = .ok (.iconst 0, 1) := by decide +kernel
theorem dX11_show_43 : decode cX11_show 43 = .ok (.istore_n 2, 1) := by decide +kernel
theorem dX11_show_44 : decode cX11_show 44 = .ok (.iload_n 2, 1) := by decide +kernel
theorem dX11_show_45 : decode cX11_show 45 = .ok (.aload_n 0, 1) := by decide +kernel
theorem dX11_show_46 : decode cX11_show 46 = .ok (.getfield 352, 3) := by decide +kernel
theorem dX11_show_49 : decode cX11_show 49 = .ok (.if_icmp .ge 121, 3) := by decide +kernel
theorem dX11_show_52 : decode cX11_show 52 = .ok (.aload_n 0, 1) := by decide +kernel
theorem dX11_show_53 : decode cX11_show 53 = .ok (.getfield 110, 3) := by decide +kernel
theorem dX11_show_56 : decode cX11_show 56 = .ok (.iload_n 2, 1) := by decide +kernel
theorem dX11_show_57 : decode cX11_show 57 = .ok (.iaload, 1) := by decide +kernel
theorem dX11_show_58 : decode cX11_show 58 = .ok (.istore_n 3, 1) := by decide +kernel
theorem dX11_show_59 : decode cX11_show 59 = .ok (.aload_n 0, 1) := by decide +kernel
theorem dX11_show_60 : decode cX11_show 60 = .ok (.bipush 32, 2) := by decide +kernel
theorem dX11_show_62 : decode cX11_show 62 = .ok (.invokevirtual 364, 3) := by decide +kernel
theorem dX11_show_65 : decode cX11_show 65 = .ok (.aload_n 0, 1) := by decide +kernel
theorem dX11_show_66 : decode cX11_show 66 = .ok (.aload_n 0, 1) := by decide +kernel
theorem dX11_show_67 : decode cX11_show 67 = .ok (.getfield 9, 3) := by decide +kernel
theorem dX11_show_70 : decode cX11_show 70 = .ok (.iload_n 3, 1) := by decide +kernel
theorem dX11_show_71 : decode cX11_show 71 = .ok (.baload, 1) := by decide +kernel
theorem dX11_show_72 : decode cX11_show 72 = .ok (.ifCond .eq 8, 3) := by decide +kernel
theorem dX11_show_75 : decode cX11_show 75 = .ok (.bipush 91, 2) := by decide +kernel
theorem dX11_show_77 : decode cX11_show 77 = .ok (.goto 5, 3) := by decide +kernel
theorem dX11_show_80 : decode cX11_show 80 = .ok (.bipush 123, 2) := by decide +kernel
theorem dX11_show_82 : decode cX11_show 82 = .ok (.invokevirtual 364, 3) := by decide +kernel
theorem dX11_show_85 : decode cX11_show 85 = .ok (.iconst 0, 1) := by decide +kernel
theorem dX11_show_86 : decode cX11_show 86 = .ok (.istore 4, 2) := by decide +kernel
theorem dX11_show_88 : decode cX11_show 88 = .ok (.iload 4, 2) := by decide +kernel
theorem dX11_show_90 : decode cX11_show 90 = .ok (.aload_n 0, 1) := by decide +kernel
theorem dX11_show_91 : decode cX11_show 91 = .ok (.getfield 13, 3) := by decide +kernel
theorem dX11_show_94 : decode cX11_show 94 = .ok (.iload_n 3, 1) := by decide +kernel
theorem dX11_show_95 : decode cX11_show 95 = .ok (.iaload, 1) := by decide +kernel
theorem dX11_show_96 : decode cX11_show 96 = .ok (.if_icmp .ge 48, 3) := by decide +kernel
theorem dX11_show_99 : decode cX11_show 99 = .ok (.iload 4, 2) := by decide +kernel
theorem dX11_show_101 : decode cX11_show 101 = .ok (.ifCond .le 9, 3) := by decide +kernel
theorem dX11_show_104 : decode cX11_show 104 = .ok (.aload_n 0, 1) := by decide +kernel
theorem dX11_show_105 : decode cX11_show 105 = .ok (.bipush 32, 2) := by decide +kernel
theorem dX11_show_107 : decode cX11_show 107 = .ok (.invokevirtual 364, 3) := by decide +kernel
theorem dX11_show_110 : decode cX11_show 110 = .ok (.aload_n 0, 1) := by decide +kernel
theorem dX11_show_111 : decode cX11_show 111 = .ok (.aload_n 0, 1) := by decide +kernel
theorem dX11_show_112 : decode cX11_show 112 = .ok (.getfield 24, 3) := by decide +kernel
theorem dX11_show_115 : decode cX11_show 115 = .ok (.bipush 40, 2) := by decide +kernel
theorem dX11_show_117 : decode cX11_show 117 = .ok (.iload_n 3, 1) := by decide +kernel
theorem dX11_show_118 : decode cX11_show 118 = .ok (.imul, 1) := by decide +kernel
theorem dX11_show_119 : decode cX11_show 119 = .ok (.iload 4, 2) := by decide +kernel
theorem dX11_show_121 : decode cX11_show 121 = .ok (.iadd, 1) := by decide +kernel
theorem dX11_show_122 : decode cX11_show 122 = .ok (.iaload, 1) := by decide +kernel
theorem dX11_show_123 : decode cX11_show 123 = .ok (.aload_n 0, 1) := by decide +kernel
theorem dX11_show_124 : decode cX11_show 124 = .ok (.getfield 27, 3) := by decide +kernel
theorem dX11_show_127 : decode cX11_show 127 = .ok (.bipush 40, 2) := by decide +kernel
theorem dX11_show_129 : decode cX11_show 129 = .ok (.iload_n 3, 1) := by decide +kernel
theorem dX11_show_130 : decode cX11_show 130 = .ok (.imul, 1) := by decide +kernel
theorem dX11_show_131 : decode cX11_show 131 = .ok (.iload 4, 2) := by decide +kernel
theorem dX11_show_133 : decode cX11_show 133 = .ok (.iadd, 1) := by decide +kernel
theorem dX11_show_134 : decode cX11_show 134 = .ok (.iaload, 1) := by decide +kernel
theorem dX11_show_135 : decode cX11_show 135 = .ok (.invokevirtual 372, 3) := by decide +kernel
theorem dX11_show_138 : decode cX11_show 138 = .ok (.iinc 4 1, 3) := by decide +kernel
theorem dX11_show_141 : decode cX11_show 141 = .ok (.goto (-53), 3) := by decide +kernel
theorem dX11_show_144 : decode cX11_show 144 = .ok (.aload_n 0, 1) := by decide +kernel
theorem dX11_show_145 : decode cX11_show 145 = .ok (.aload_n 0, 1) := by decide +kernel
theorem dX11_show_146 : decode cX11_show 146 = .ok (.getfield 9, 3) := by decide +kernel
theorem dX11_show_149 : decode cX11_show 149 = .ok (.iload_n 3, 1) := by decide +kernel
theorem dX11_show_150 : decode cX11_show 150 = .ok (.baload, 1) := by decide +kernel
theorem dX11_show_151 : decode cX11_show 151 = .ok (.ifCond .eq 8, 3) := by decide +kernel
theorem dX11_show_154 : decode cX11_show 154 = .ok (.bipush 93, 2) := by decide +kernel
theorem dX11_show_156 : decode cX11_show 156 = .ok (.goto 5, 3) := by decide +kernel
theorem dX11_show_159 : decode cX11_show 159 = .ok (.bipush 125, 2) := by decide +kernel
theorem dX11_show_161 : decode cX11_show 161 = .ok (.invokevirtual 364, 3) := by decide +kernel
theorem dX11_show_164 : decode cX11_show 164 = .ok (.iinc 2 1, 3) := by decide +kernel
theorem dX11_show_167 : decode cX11_show 167 = .ok (.goto (-123), 3) := by decide +kernel
theorem dX11_show_170 : decode cX11_show 170 = .ok (.aload_n 0, 1) := by decide +kernel
theorem dX11_show_171 : decode cX11_show 171 = .ok (.getfield 361, 3) := by decide +kernel
theorem dX11_show_174 : decode cX11_show 174 = .ok (.ireturn, 1) := by decide +kernel
theorem dX11_letter_0 : decode cX11_letter 0 = .ok (.aload_n 0, 1) := by decide +kernel
theorem dX11_letter_1 : decode cX11_letter 1 = .ok (.iconst 0, 1) := by decide +kernel
theorem dX11_letter_2 : decode cX11_letter 2 = .ok (.putfield 131, 3) := by decide +kernel
theorem dX11_letter_5 : decode cX11_letter 5 = .ok (.iload_n 1, 1) := by decide +kernel
theorem dX11_letter_6 : decode cX11_letter 6 = .ok (.ifCond .lt 11, 3) := by decide +kernel
theorem dX11_letter_9 : decode cX11_letter 9 = .ok (.iload_n 1, 1) := by decide +kernel
theorem dX11_letter_10 : decode cX11_letter 10 = .ok (.aload_n 0, 1) := by decide +kernel
theorem dX11_letter_11 : decode cX11_letter 11 = .ok (.getfield 361, 3) := by decide +kernel
theorem dX11_letter_14 : decode cX11_letter 14 = .ok (.if_icmp .lt 7, 3) := by decide +kernel
theorem dX11_letter_17 : decode cX11_letter 17 = .ok (.iconst (-1), 1) := by decide +kernel
theorem dX11_letter_18 : decode cX11_letter 18 = .ok (.goto 9, 3) := by decide +kernel
theorem dX11_letter_21 : decode cX11_letter 21 = .ok (.aload_n 0, 1) := by decide +kernel
theorem dX11_letter_22 : decode cX11_letter 22 = .ok (.getfield 116, 3) := by decide +kernel
theorem dX11_letter_25 : decode cX11_letter 25 = .ok (.iload_n 1, 1) := by decide +kernel
theorem dX11_letter_26 : decode cX11_letter 26 = .ok (.iaload, 1) := by decide +kernel
theorem dX11_letter_27 : decode cX11_letter 27 = .ok (.ireturn, 1) := by decide +kernel
end
section
/-! what stood before the law: the constants, by numbers: 1 ACTS, 2.. the acts, 28 the switch map, 29 TAKES, 30.. texts, 80.. their bytes -/
section ZX
def z_txt : List (List Int32) := [[115, 101, 116], [99, 111, 112, 121], [110, 111, 110, 101], [114, 111, 119], [112, 108, 97, 105, 110], [114, 111, 119, 115], [112, 108, 97, 105, 110, 115], [103, 101, 116], [103, 101, 116, 115], [112, 117, 116], [112, 117, 116, 115], [115, 105, 122, 101], [107, 105, 110, 100], [97, 100, 100], [115, 117, 98], [109, 117, 108], [108, 101, 115, 115], [115, 97, 109, 101], [112, 117, 115, 104], [112, 111, 112], [115, 97, 121], [106, 117, 109, 112], [122, 101, 114, 111], [99, 97, 108, 108], [98, 97, 99, 107], [115, 116, 111, 112], [72, 78], [72, 72], [72], [72, 72, 78], [72, 72, 72], [72, 78, 72], [76], [72, 76], [], [116, 104, 101, 114, 101, 32, 105, 115, 32, 110, 111, 32, 112, 114, 111, 103, 114, 97, 109], [110, 32, 105, 115, 32, 110, 111, 116, 32, 48, 32, 46, 46, 32, 50, 48, 48, 48], [116, 104, 101, 114, 101, 32, 105, 115, 32, 110, 111, 32, 114, 117, 110], [116, 104, 101, 114, 101, 32, 105, 115, 32, 110, 111, 32, 115, 117, 99, 104, 32, 110, 117, 109, 98, 101, 114], [115, 101, 116, 32, 99, 111, 112, 121, 32, 110, 111, 110, 101, 32, 114, 111, 119, 32, 112, 108, 97, 105, 110, 32, 114, 111, 119, 115, 32, 112, 108, 97, 105, 110, 115, 32, 103, 101, 116, 32, 103, 101, 116, 115, 32, 112, 117, 116, 32, 112, 117, 116, 115, 32, 115, 105, 122, 101, 32, 107, 105, 110, 100, 32, 97, 100, 100, 32, 115, 117, 98, 32, 109, 117, 108, 32, 108, 101, 115, 115, 32, 115, 97, 109, 101, 32, 112, 117, 115, 104, 32, 112, 111, 112, 32, 115, 97, 121, 32, 106, 117, 109, 112, 32, 122, 101, 114, 111, 32, 99, 97, 108, 108, 32, 98, 97, 99, 107, 32, 115, 116, 111, 112, 32]]
def z_tin : List (String × Nat) := [("TwinHalves$Act", 109), ("TwinHalves$Act", 117), ("TwinHalves$Act", 122), ("TwinHalves$Act", 127), ("TwinHalves$Act", 130), ("TwinHalves$Act", 133), ("TwinHalves$Act", 136), ("TwinHalves$Act", 139), ("TwinHalves$Act", 144), ("TwinHalves$Act", 149), ("TwinHalves$Act", 154), ("TwinHalves$Act", 157), ("TwinHalves$Act", 160), ("TwinHalves$Act", 163), ("TwinHalves$Act", 166), ("TwinHalves$Act", 169), ("TwinHalves$Act", 172), ("TwinHalves$Act", 175), ("TwinHalves$Act", 178), ("TwinHalves$Act", 181), ("TwinHalves$Act", 184), ("TwinHalves$Act", 187), ("TwinHalves$Act", 192), ("TwinHalves$Act", 197), ("TwinHalves$Act", 200), ("TwinHalves$Act", 205), ("TwinHalves$Act", 111), ("TwinHalves$Act", 119), ("TwinHalves$Act", 124), ("TwinHalves$Act", 141), ("TwinHalves$Act", 146), ("TwinHalves$Act", 151), ("TwinHalves$Act", 189), ("TwinHalves$Act", 194), ("TwinHalves$Act", 202), ("TwinHalves", 105), ("TwinHalves", 116), ("TwinHalves", 122), ("TwinHalves", 153), ("TwinHalvesModel", 241)]
def z_tlen (i : Nat) : Nat := (z_txt.getD i []).length
def z_tchr (i j : Nat) : Int32 := (z_txt.getD i []).getD j 0
def z_acts : List String := ["SET", "COPY", "NOTHING", "ROW", "PLAIN", "ROWS", "PLAINS", "GET", "GETS", "PUT", "PUTS", "SIZE", "KIND", "ADD", "SUB", "MUL", "LESS", "SAME", "PUSH", "POP", "SAY", "JUMP", "ZERO", "CALL", "BACK", "STOP"]
def z_tkx : List Nat := [26, 27, 28, 26, 26, 27, 27, 29, 30, 31, 30, 27, 27, 30, 30, 30, 30, 30, 28, 28, 28, 32, 33, 32, 34, 34]
def z_swm : List Int32 := [1, 2, 3, 4, 5, 6, 7, 8, 9, 10, 11, 12, 13, 14, 15, 16, 17, 18, 19, 20, 21, 22, 23, 24, 25, 0]
def z_tks : List Int32 := [12, 11, 1, 12, 12, 11, 11, 112, 111, 121, 111, 11, 11, 111, 111, 111, 111, 111, 1, 1, 1, 3, 13, 3, 0, 0]
abbrev z_Act : String := "TwinHalves$Act"
abbrev z_Str : String := "java/lang/String"
/-- static fields: class, name, descriptor, value -/
def z_xz : List (String × String × String × Value) := [("TwinHalves", "ACTS", "[LTwinHalves$Act;", .ref 1), ("TwinHalves$1", "$SwitchMap$TwinHalves$Act", "[I", .ref 28), ("TwinHalvesModel", "TAKES", "[I", .ref 29), (z_Str, "COMPACT_STRINGS", "Z", .int 1)]
/-- arrays: the type, how many, their numbers, lengths, contents -/
def z_xt : List (FieldType × Nat × (Nat → Nat) × (Nat → Nat) × (Nat → Nat → Value)) := [(.object z_Act, 1, (fun _ => 1), (fun _ => 26), (fun _ j => .ref (2 + j))), (.int, 1, (fun _ => 28), (fun _ => 26), (fun _ j => .int (z_swm.getD j 0))), (.int, 1, (fun _ => 29), (fun _ => 26), (fun _ j => .int (z_tks.getD j 0))), (.byte, 40, (fun i => 80 + i), z_tlen, (fun i j => .int (z_tchr i j)))]
/-- objects: the class, how many, their numbers -/
def z_xo : List (String × Nat × (Nat → Nat)) := [(z_Act, 26, (fun i => 2 + i)), (z_Str, 40, (fun i => 30 + i))]
/-- their fields: owner, name, descriptor, how many, numbers of the objects, values -/
def z_xf : List (String × String × String × Nat × (Nat → Nat) × (Nat → Value)) := [("java/lang/Enum", "ordinal", "I", 26, (fun i => 2 + i), (fun i => .int (nI i))), (z_Act, "word", "Ljava/lang/String;", 26, (fun i => 2 + i), (fun i => .ref (30 + i))), (z_Act, "takes", "Ljava/lang/String;", 26, (fun i => 2 + i), (fun i => .ref (30 + z_tkx.getD i 0))), (z_Str, "value", "[B", 40, (fun i => 30 + i), (fun i => .ref (80 + i))), (z_Str, "coder", "B", 40, (fun i => 30 + i), (fun _ => .int 0))]
/-- texts that are loaded: the class, the entry, the text, its number -/
def z_xr : List (String × Nat × String × Nat) := [("TwinHalves", 105, "there is no program", 65), ("TwinHalves", 116, "n is not 0 .. 2000", 66), ("TwinHalves", 122, "there is no run", 67), ("TwinHalves", 153, "there is no such number", 68), ("TwinHalvesModel", 241, "set copy none row plain rows plains get gets put puts size kind add sub mul less same push pop say jump zero call back stop ", 69)]
/-- statics that are null or some reference -/
def z_xq : List (String × String × String) := [("java/lang/Throwable", "UNASSIGNED_STACK", "[Ljava/lang/StackTraceElement;"), ("java/lang/Throwable", "SUPPRESSED_SENTINEL", "Ljava/util/List;")]
/-- links to private members of nest mates -/
def z_xm : List (String × Nat × MethodName × String) := [("TwinHalves", 15, ⟨"TwinHalves$Reader", "<init>", "()V"⟩, "TwinHalves"), ("TwinHalves$Reader", 11, ⟨"TwinHalves$Tokens", "<init>", "()V"⟩, "TwinHalves"), ("TwinHalves", 22, ⟨"TwinHalves$Program", "<init>", "()V"⟩, "TwinHalves"), ("TwinHalves", 70, ⟨"TwinHalves$Text", "<init>", "()V"⟩, "TwinHalves"), ("TwinHalves$Tokens", 58, ⟨"TwinHalves", "isHand", "(I)Z"⟩, "TwinHalves")]
def z_xl : List (String × Nat × String × String × String × String) := [("TwinHalves$Tokens", 65, "TwinHalves", "ACTS", "[LTwinHalves$Act;", "TwinHalves"), ("TwinHalves$Reader", 82, "TwinHalves", "ACTS", "[LTwinHalves$Act;", "TwinHalves"), ("TwinHalves$Runner", 67, "TwinHalves", "ACTS", "[LTwinHalves$Act;", "TwinHalves")]
def z_X (G : z_G) (U : State) (H : Heap) : Prop :=
  (∀ q ∈ z_xz, va_Z q.1 q.2.1 q.2.2.1 (z_v G q.2.2.2) (z_A G) U H) ∧
  (∀ q ∈ z_xt, ∀ i, i < q.2.1 → va_T q.1 (z_a G (q.2.2.1 i)) (q.2.2.2.1 i) (fun j => z_v G (q.2.2.2.2 i j)) (z_A G) U H) ∧
  (∀ q ∈ z_xo, ∀ i, i < q.2.1 → va_O q.1 (z_a G (q.2.2 i)) (z_A G) U H) ∧
  (∀ q ∈ z_xf, ∀ i, i < q.2.2.2.1 → va_OF q.1 q.2.1 q.2.2.1 (z_v G (q.2.2.2.2.2 i)) (z_a G (q.2.2.2.2.1 i)) (z_A G) U H) ∧
  (∀ q ∈ z_xr, vk_R q.1 q.2.1 q.2.2.1 (z_a G q.2.2.2) U) ∧
  (∀ q ∈ z_xq, vx_Zq q.1 q.2.1 q.2.2 (z_A G) U H) ∧
  (∀ q ∈ z_xm, va_Nw (.methodLinkNest q.1 q.2.1 q.2.2.1 q.2.2.2) U) ∧
  (∀ q ∈ z_xl, va_Nw (.fieldLinkNest q.1 q.2.1 q.2.2.1 q.2.2.2.1 q.2.2.2.2.1 q.2.2.2.2.2) U) ∧
  (∃ v : Value, (v = .null ∨ v = .ref 120) ∧ va_Z "jdk/internal/util/Preconditions" "SIOOBE_FORMATTER" "Ljava/util/function/BiFunction;" (z_v G v) (z_A G) U H)
theorem z_X.warm {G : z_G} {s U : State} {H : Heap} (hW : s.WarmedH U.vm) (h : z_X G s H) : z_X G U H := by
  obtain ⟨h1, h2, h3, h4, h5, h6, h7, h8, v9, h9, h10⟩ := h
  exact ⟨fun q hq => va_Z.moved hW.alike (h1 q hq), fun q hq i hi => va_T.moved hW.alike (h2 q hq i hi), fun q hq i hi => va_O.moved hW.alike (h3 q hq i hi), fun q hq i hi => va_OF.moved hW.alike (h4 q hq i hi),
    fun q hq => vk_R.warm hW (h5 q hq), fun q hq => vx_Zq.moved hW.alike (h6 q hq), fun q hq => va_Nw.warmM hW (h7 q hq), fun q hq => va_Nw.warmF hW (h8 q hq), v9, h9, va_Z.moved hW.alike h10⟩
theorem z_X.kept {G : z_G} {U : State} {H H1 : Heap} (h : z_X G U H) (hq : ∀ a : Nat, a < H.size → ¬ z_A G a → H1[a]? = H[a]?) : z_X G U H1 := by
  obtain ⟨h1, h2, h3, h4, h5, h6, h7, h8, v9, h9, h10⟩ := h
  exact ⟨fun q hz => (h1 q hz).kept hq, fun q hz i hi => (h2 q hz i hi).kept hq, fun q hz i hi => (h3 q hz i hi).kept hq, fun q hz i hi => (h4 q hz i hi).kept hq, h5, fun q hz => (h6 q hz).kept hq, h7, h8, v9, h9, h10.kept hq⟩
theorem z_X.same {G : z_G} {s U : State} {H : Heap} (hv : U.vm = s.vm) (h : z_X G s H) : z_X G U H := z_X.warm (by rw [hv]; exact State.WarmedH.refl s) h
end ZX
end
section
section ZC
abbrev z_cl : List vw_C := [(RX2, TX2, 1), (RX3, TX3, 12), (RX4, TX4, 5), (RX5, TX5, 3), (RX6, TX6, 10), (RX7, TX7, 2), (RX8, TX8, 6), (RX9, TX9, 4), (RX10, TX10, 12), (RX11, TX11, 70)]
def z_T : List Cond := lw_tbl.filter goodWord
theorem z_in (i : Nat) {w : Cond} (h : lw_tbl[i]? = some w) (hg : goodWord w = true) : w ∈ z_T := List.mem_filter.mpr ⟨List.mem_of_getElem? h, hg⟩
theorem z_goodT : GoodIn z_T z_T := fun w h => ⟨h, good_of_word (List.mem_filter.mp h).2⟩
theorem z_goodC {l : List Cond} (h : ∀ w ∈ l, w ∈ z_T) : GoodIn z_T (l ++ z_T) := fun w hw => (List.mem_append.mp hw).elim (fun h1 => z_goodT w (h w h1)) (fun h1 => z_goodT w h1)
def z_tys (G : z_G) : List (ClassId × FieldType) := [(G.2.1 0, .byte), (G.2.1 1, .int), (G.2.1 2, .long), (G.2.1 3, .boolean)]
/-- the cells w stand; if 'tg', nothing else was made since -/
def z_P (G : z_G) (tg : Bool) (w : List va_E) (U : State) (H : Heap) : Prop :=
  (G.2.2.1 + w.length ≤ H.size ∧ (tg = true → H.size = G.2.2.1 + w.length)) ∧ va_P G.1 z_cl (z_ws G 0 w) H ∧ va_K G.1 z_cl (z_tys G) U
theorem z_P.alike {G : z_G} {tg : Bool} {w : List va_E} {s U : State} {H : Heap} (hvm : s.vm.Alike U.vm) (h : z_P G tg w s H) : z_P G tg w U H := ⟨h.1, h.2.1, va_K.moved hvm h.2.2⟩
/-- a method: its name, bytes, locals, answer, room -/
abbrev z_Mt : Type := MethodName × ByteArray × Nat × Option FieldType × Room
abbrev z_y (μ : z_Mt) : MethodName := μ.1
abbrev z_b (μ : z_Mt) : ByteArray := μ.2.1
abbrev z_n (μ : z_Mt) : Nat := μ.2.2.1
abbrev z_r (μ : z_Mt) : Option FieldType := μ.2.2.2.1
abbrev z_rm (μ : z_Mt) : Room := μ.2.2.2.2
abbrev z_wd (μ : z_Mt) : List Cond := .code (z_y μ) (z_b μ) (z_n μ) (z_r μ) :: z_T
abbrev z_R : Type := Option Value → List va_E → Prop
def z_Q (G : z_G) (tg : Bool) (Q : z_R) : Array Value → State → Outcome → State → Prop := fun _ st oc t =>
  (∃ (r : Option Value) (w : List va_E), Q r w ∧ oc = .returned (r.map (z_v G)) ∧ z_P G tg w t t.heap ∧ z_X G t t.heap) ∧ va_F (z_A G) st t
def z_H (μ : z_Mt) (G : z_G) (p : Program) (s : State) (m : MethodId) (args : Array Value) (meth : Method) (c : Code) : Prop :=
  p.tables.exec = Jvm.exec ∧ c.code = z_b μ ∧ meth.sig.returnType = z_r μ ∧ c.maxLocals = z_n μ ∧ s.vm.findClass (z_y μ).cls = some m.cls ∧ (∀ w ∈ z_T, w.before args s = true) ∧ meth.locks = false ∧ meth.name = (z_y μ).name ∧ G.2.2.1 ≤ s.heap.size ∧ z_X G s s.heap
/-- the method μ, at pc, with locals L, stack st, cells w, uc cells of us slots made by now: it comes to its end with Q -/
def z_go (μ : z_Mt) (tg : Bool) (pc : Nat) (L : List (Nat × Value)) (st : List Value) (w : List va_E) (uc us : Nat) (Q : z_R) : Prop :=
  ∀ (l : Launch) (G : z_G) (p : Program) (e : Env) (s : State) (m : MethodId) (args : Array Value) (below : List Frame) (meth : Method) (c : Code) (H : Heap) (locs : List Loc) (ls : Array Slot),
    z_H μ G p s m args meth c → z_P G tg w s H → va_S (z_A G) s.heap H locs → lv_has ls (z_n μ) (z_L G L) →
    W p l e (z_rm μ) s m args below meth c H locs uc us (MQ below (z_Q G tg Q) args s (z_rm μ).cells (z_rm μ).slots (z_A G)) (F0 m pc ls (st.map (z_v G)))
/-- the method's contract: from the cells w with arguments av to its end with Q -/
def z_M (μ : z_Mt) (tg : Bool) (av : List Value) (w : List va_E) (Q : z_R) : Prop :=
  ∀ (l : Launch) (G : z_G), Met l (z_y μ) (z_wd μ) (z_rm μ) (va_Pc (av.map (z_v G)) (fun U => z_P G tg w U U.heap ∧ z_X G U U.heap)) (z_Q G tg Q) (z_rm μ).cells (z_rm μ).slots (z_A G)
theorem z_enter {μ : z_Mt} {tg : Bool} {av : List Value} {w : List va_E} {Q : z_R} (hy : plainName (z_y μ).cls = true) (hn : (lg_sl av).length ≤ z_n μ) (k : z_go μ tg 0 (lv_args 0 av) [] w 0 0 Q) : z_M μ tg av w Q := by
  intro l G
  refine Met.ofW (cc := z_b μ) (maxL := z_n μ) (ret := z_r μ) hy rfl ?_
  intro p e s m args below meth c s₁ B hml hv
  obtain ⟨rfl, hP, hX⟩ := hv
  have hts := atoms_spec (ws := z_wd μ) B.pre
  rw [lg_entry_eq]
  have hl := lv_entry (av.map (z_v G)) (n := z_n μ) (by rw [z_Lsl]; exact hn)
  rw [z_Largs] at hl
  exact k l G p e s m _ below meth c s.heap [] _ ⟨B.exec, B.bytes, B.returns, hml, findClass_of_methodNamed B.named, fun w hw => hts w (List.mem_cons_of_mem _ hw), B.notSynchronized, (name_of_methodNamed B.named B.method).1, Nat.le_trans (Nat.le_add_right _ _) hP.1.1, hX⟩ hP va_S.rf hl
/-- fewer locals are known -/
theorem z_loc {μ : z_Mt} {tg : Bool} {pc : Nat} {L : List (Nat × Value)} {st : List Value} {w : List va_E} {uc us : Nat} {Q : z_R} (L' : List (Nat × Value)) (h : ∀ q ∈ L', q ∈ L) (k : z_go μ tg pc L' st w uc us Q) : z_go μ tg pc L st w uc us Q := by
  intro l G p e s m args below meth c H locs ls hH hP hS hl
  refine k l G p e s m args below meth c H locs ls hH hP hS ⟨hl.1, hl.2.1, fun q hq => ?_⟩
  obtain ⟨q0, h0, rfl⟩ := List.mem_map.mp hq
  exact hl.2.2 _ (List.mem_map.mpr ⟨q0, h q0 h0, rfl⟩)
theorem z_widen {μ : z_Mt} {tg : Bool} {pc : Nat} {L : List (Nat × Value)} {st : List Value} {w : List va_E} {uc us uc' us' : Nat} {Q : z_R} (h1 : uc ≤ uc') (h2 : us ≤ us') (k : z_go μ tg pc L st w uc' us' Q) : z_go μ tg pc L st w uc us Q := by
  intro l G p e s m args below meth c H locs ls hH hP hS hl
  exact W.widen h1 h2 (k l G p e s m args below meth c H locs ls hH hP hS hl)
theorem z_post {μ : z_Mt} {tg : Bool} {av : List Value} {w : List va_E} {Q Q' : z_R} (h : ∀ r w, Q r w → Q' r w) (k : z_M μ tg av w Q) : z_M μ tg av w Q' := by
  intro l G p e ha hc hk s m args below hf happ hpre hK
  obtain ⟨n, o, h1, h2, h3, ⟨⟨r, w1, q1, q2⟩, q3⟩, q4⟩ := k l G p e ha hc hk s m args below hf happ hpre hK
  exact ⟨n, o, h1, h2, h3, ⟨⟨r, w1, h r w1 q1, q2⟩, q3⟩, q4⟩
end ZC
end
section
section ZR
variable {μ : z_Mt} {tg : Bool} {pc : Nat} {L : List (Nat × Value)} {st : List Value} {w : List va_E} {uc us : Nat} {Q : z_R}
theorem z_iadd {x y : Int32}  (n : Nat) (hd : decode (z_b μ) pc = .ok (.iadd, 1)) (hn : pc + 1 = n) (k : z_go μ tg n L (.int (x + y) :: st) w uc us Q) : z_go μ tg pc L (.int y :: .int x :: st) w uc us Q := by
  subst hn
  intro l G p e s m args below meth c H locs ls hH hP hS hl
  exact lv_iadd hH.1 hH.2.1 hd (k l G p e s m args below meth c H locs ls hH hP hS hl)
theorem z_isub {x y : Int32}  (n : Nat) (hd : decode (z_b μ) pc = .ok (.isub, 1)) (hn : pc + 1 = n) (k : z_go μ tg n L (.int (x - y) :: st) w uc us Q) : z_go μ tg pc L (.int y :: .int x :: st) w uc us Q := by
  subst hn
  intro l G p e s m args below meth c H locs ls hH hP hS hl
  exact lv_isub hH.1 hH.2.1 hd (k l G p e s m args below meth c H locs ls hH hP hS hl)
theorem z_imul {x y : Int32}  (n : Nat) (hd : decode (z_b μ) pc = .ok (.imul, 1)) (hn : pc + 1 = n) (k : z_go μ tg n L (.int (x * y) :: st) w uc us Q) : z_go μ tg pc L (.int y :: .int x :: st) w uc us Q := by
  subst hn
  intro l G p e s m args below meth c H locs ls hH hP hS hl
  exact lv_imul hH.1 hH.2.1 hd (k l G p e s m args below meth c H locs ls hH hP hS hl)
theorem z_iand {x y : Int32}  (n : Nat) (hd : decode (z_b μ) pc = .ok (.iand, 1)) (hn : pc + 1 = n) (k : z_go μ tg n L (.int (x &&& y) :: st) w uc us Q) : z_go μ tg pc L (.int y :: .int x :: st) w uc us Q := by
  subst hn
  intro l G p e s m args below meth c H locs ls hH hP hS hl
  exact lv_iand hH.1 hH.2.1 hd (k l G p e s m args below meth c H locs ls hH hP hS hl)
theorem z_ior {x y : Int32}  (n : Nat) (hd : decode (z_b μ) pc = .ok (.ior, 1)) (hn : pc + 1 = n) (k : z_go μ tg n L (.int (x ||| y) :: st) w uc us Q) : z_go μ tg pc L (.int y :: .int x :: st) w uc us Q := by
  subst hn
  intro l G p e s m args below meth c H locs ls hH hP hS hl
  exact lv_ior hH.1 hH.2.1 hd (k l G p e s m args below meth c H locs ls hH hP hS hl)
theorem z_ladd {x y : Int64}  (n : Nat) (hd : decode (z_b μ) pc = .ok (.ladd, 1)) (hn : pc + 1 = n) (k : z_go μ tg n L (.long (x + y) :: st) w uc us Q) : z_go μ tg pc L (.long y :: .long x :: st) w uc us Q := by
  subst hn
  intro l G p e s m args below meth c H locs ls hH hP hS hl
  exact lv_ladd hH.1 hH.2.1 hd (k l G p e s m args below meth c H locs ls hH hP hS hl)
theorem z_lsub {x y : Int64}  (n : Nat) (hd : decode (z_b μ) pc = .ok (.lsub, 1)) (hn : pc + 1 = n) (k : z_go μ tg n L (.long (x - y) :: st) w uc us Q) : z_go μ tg pc L (.long y :: .long x :: st) w uc us Q := by
  subst hn
  intro l G p e s m args below meth c H locs ls hH hP hS hl
  exact lv_lsub hH.1 hH.2.1 hd (k l G p e s m args below meth c H locs ls hH hP hS hl)
theorem z_lmul {x y : Int64}  (n : Nat) (hd : decode (z_b μ) pc = .ok (.lmul, 1)) (hn : pc + 1 = n) (k : z_go μ tg n L (.long (x * y) :: st) w uc us Q) : z_go μ tg pc L (.long y :: .long x :: st) w uc us Q := by
  subst hn
  intro l G p e s m args below meth c H locs ls hH hP hS hl
  exact lv_lmul hH.1 hH.2.1 hd (k l G p e s m args below meth c H locs ls hH hP hS hl)
theorem z_lor {x y : Int64}  (n : Nat) (hd : decode (z_b μ) pc = .ok (.lor, 1)) (hn : pc + 1 = n) (k : z_go μ tg n L (.long (x ||| y) :: st) w uc us Q) : z_go μ tg pc L (.long y :: .long x :: st) w uc us Q := by
  subst hn
  intro l G p e s m args below meth c H locs ls hH hP hS hl
  exact lv_lor hH.1 hH.2.1 hd (k l G p e s m args below meth c H locs ls hH hP hS hl)
theorem z_idiv {x y : Int32} (hz : ¬ y = 0) (n : Nat) (hd : decode (z_b μ) pc = .ok (.idiv, 1)) (hn : pc + 1 = n) (k : z_go μ tg n L (.int (x / y) :: st) w uc us Q) : z_go μ tg pc L (.int y :: .int x :: st) w uc us Q := by
  subst hn
  intro l G p e s m args below meth c H locs ls hH hP hS hl
  exact lv_idiv hH.1 hH.2.1 hd hz (k l G p e s m args below meth c H locs ls hH hP hS hl)
theorem z_irem {x y : Int32} (hz : ¬ y = 0) (n : Nat) (hd : decode (z_b μ) pc = .ok (.irem, 1)) (hn : pc + 1 = n) (k : z_go μ tg n L (.int (x - x / y * y) :: st) w uc us Q) : z_go μ tg pc L (.int y :: .int x :: st) w uc us Q := by
  subst hn
  intro l G p e s m args below meth c H locs ls hH hP hS hl
  exact lv_irem hH.1 hH.2.1 hd hz (k l G p e s m args below meth c H locs ls hH hP hS hl)
theorem z_ldiv {x y : Int64} (hz : ¬ y = 0) (n : Nat) (hd : decode (z_b μ) pc = .ok (.ldiv, 1)) (hn : pc + 1 = n) (k : z_go μ tg n L (.long (x / y) :: st) w uc us Q) : z_go μ tg pc L (.long y :: .long x :: st) w uc us Q := by
  subst hn
  intro l G p e s m args below meth c H locs ls hH hP hS hl
  exact lv_ldiv hH.1 hH.2.1 hd hz (k l G p e s m args below meth c H locs ls hH hP hS hl)
theorem z_lrem {x y : Int64} (hz : ¬ y = 0) (n : Nat) (hd : decode (z_b μ) pc = .ok (.lrem, 1)) (hn : pc + 1 = n) (k : z_go μ tg n L (.long (x - x / y * y) :: st) w uc us Q) : z_go μ tg pc L (.long y :: .long x :: st) w uc us Q := by
  subst hn
  intro l G p e s m args below meth c H locs ls hH hP hS hl
  exact lv_lrem hH.1 hH.2.1 hd hz (k l G p e s m args below meth c H locs ls hH hP hS hl)
theorem z_lneg {x : Int64} (n : Nat) (hd : decode (z_b μ) pc = .ok (.lneg, 1)) (hn : pc + 1 = n) (k : z_go μ tg n L (.long (-x) :: st) w uc us Q) : z_go μ tg pc L (.long x :: st) w uc us Q := by
  subst hn
  intro l G p e s m args below meth c H locs ls hH hP hS hl
  exact lv_lneg hH.1 hH.2.1 hd (k l G p e s m args below meth c H locs ls hH hP hS hl)
theorem z_ishr {x y : Int32}  (n : Nat) (hd : decode (z_b μ) pc = .ok (.ishr, 1)) (hn : pc + 1 = n) (k : z_go μ tg n L (.int (x >>> (y &&& 31)) :: st) w uc us Q) : z_go μ tg pc L (.int y :: .int x :: st) w uc us Q := by
  subst hn
  intro l G p e s m args below meth c H locs ls hH hP hS hl
  exact lv_ishr hH.1 hH.2.1 hd (k l G p e s m args below meth c H locs ls hH hP hS hl)
theorem z_lshl {x : Int64} {y : Int32} (n : Nat) (hd : decode (z_b μ) pc = .ok (.lshl, 1)) (hn : pc + 1 = n) (k : z_go μ tg n L (.long (x <<< (y.toInt64 &&& 63)) :: st) w uc us Q) : z_go μ tg pc L (.int y :: .long x :: st) w uc us Q := by
  subst hn
  intro l G p e s m args below meth c H locs ls hH hP hS hl
  exact lv_lshl hH.1 hH.2.1 hd rfl (k l G p e s m args below meth c H locs ls hH hP hS hl)
theorem z_i2l {x : Int32} (n : Nat) (hd : decode (z_b μ) pc = .ok (.i2l, 1)) (hn : pc + 1 = n) (k : z_go μ tg n L (.long x.toInt64 :: st) w uc us Q) : z_go μ tg pc L (.int x :: st) w uc us Q := by
  subst hn
  intro l G p e s m args below meth c H locs ls hH hP hS hl
  exact lv_i2l hH.1 hH.2.1 hd rfl (k l G p e s m args below meth c H locs ls hH hP hS hl)
theorem z_l2i {x : Int64} (n : Nat) (hd : decode (z_b μ) pc = .ok (.l2i, 1)) (hn : pc + 1 = n) (k : z_go μ tg n L (.int x.toInt32 :: st) w uc us Q) : z_go μ tg pc L (.long x :: st) w uc us Q := by
  subst hn
  intro l G p e s m args below meth c H locs ls hH hP hS hl
  exact lv_l2i hH.1 hH.2.1 hd rfl (k l G p e s m args below meth c H locs ls hH hP hS hl)
theorem z_i2b {x : Int32} (n : Nat) (hd : decode (z_b μ) pc = .ok (.i2b, 1)) (hn : pc + 1 = n) (k : z_go μ tg n L (.int x.toInt8.toInt32 :: st) w uc us Q) : z_go μ tg pc L (.int x :: st) w uc us Q := by
  subst hn
  intro l G p e s m args below meth c H locs ls hH hP hS hl
  exact lv_i2b hH.1 hH.2.1 hd rfl (k l G p e s m args below meth c H locs ls hH hP hS hl)
theorem z_i2c {x : Int32} (n : Nat) (hd : decode (z_b μ) pc = .ok (.i2c, 1)) (hn : pc + 1 = n) (k : z_go μ tg n L (.int (x.toUInt32 % 65536).toInt32 :: st) w uc us Q) : z_go μ tg pc L (.int x :: st) w uc us Q := by
  subst hn
  intro l G p e s m args below meth c H locs ls hH hP hS hl
  exact lv_i2c hH.1 hH.2.1 hd rfl (k l G p e s m args below meth c H locs ls hH hP hS hl)
theorem z_lcmp {x y : Int64}  (n : Nat) (hd : decode (z_b μ) pc = .ok (.lcmp, 1)) (hn : pc + 1 = n) (k : z_go μ tg n L (.int (lg_cmp x y) :: st) w uc us Q) : z_go μ tg pc L (.long y :: .long x :: st) w uc us Q := by
  subst hn
  intro l G p e s m args below meth c H locs ls hH hP hS hl
  exact W.lcmp hH.1 hH.2.1 hd (k l G p e s m args below meth c H locs ls hH hP hS hl)
theorem z_iconst {i : Int} (v : Int32) (n : Nat) (hd : decode (z_b μ) pc = .ok (.iconst i, 1)) (hv : Int32.ofInt i = v) (hn : pc + 1 = n) (k : z_go μ tg n L (.int v :: st) w uc us Q) : z_go μ tg pc L st w uc us Q := by
  subst hn
  intro l G p e s m args below meth c H locs ls hH hP hS hl
  exact lv_iconst hH.1 hH.2.1 hd hv (k l G p e s m args below meth c H locs ls hH hP hS hl)
theorem z_bipush {i : Int} (v : Int32) (n : Nat) (hd : decode (z_b μ) pc = .ok (.bipush i, 2)) (hv : (Int8.ofInt i).toInt32 = v) (hn : pc + 2 = n) (k : z_go μ tg n L (.int v :: st) w uc us Q) : z_go μ tg pc L st w uc us Q := by
  subst hn
  intro l G p e s m args below meth c H locs ls hH hP hS hl
  exact lv_bipush hH.1 hH.2.1 hd hv (k l G p e s m args below meth c H locs ls hH hP hS hl)
theorem z_sipush {i : Int} (v : Int32) (n : Nat) (hd : decode (z_b μ) pc = .ok (.sipush i, 3)) (hv : (Int16.ofInt i).toInt32 = v) (hn : pc + 3 = n) (k : z_go μ tg n L (.int v :: st) w uc us Q) : z_go μ tg pc L st w uc us Q := by
  subst hn
  intro l G p e s m args below meth c H locs ls hH hP hS hl
  exact lv_sipush hH.1 hH.2.1 hd hv (k l G p e s m args below meth c H locs ls hH hP hS hl)
theorem z_lconst {i : Fin 2} (v : Int64) (n : Nat) (hd : decode (z_b μ) pc = .ok (.lconst i, 1)) (hv : Int64.ofNat (i : Nat) = v) (hn : pc + 1 = n) (k : z_go μ tg n L (.long v :: st) w uc us Q) : z_go μ tg pc L st w uc us Q := by
  subst hn
  intro l G p e s m args below meth c H locs ls hH hP hS hl
  exact lv_lconst hH.1 hH.2.1 hd hv (k l G p e s m args below meth c H locs ls hH hP hS hl)
theorem z_ldc {i : Nat} (v : Int32) (n : Nat) (hd : decode (z_b μ) pc = .ok (.ldc i, 2)) (hc : Cond.constant (z_y μ).cls i v ∈ z_T) (hn : pc + 2 = n) (k : z_go μ tg n L (.int v :: st) w uc us Q) : z_go μ tg pc L st w uc us Q := by
  subst hn
  intro l G p e s m args below meth c H locs ls hH hP hS hl
  exact lv_ldc hH.1 hH.2.1 hH.2.2.2.2.1 (hH.2.2.2.2.2.1 _ hc) hd (k l G p e s m args below meth c H locs ls hH hP hS hl)
theorem z_ldc2 {i : Nat} (v : Int64) (n : Nat) (hd : decode (z_b μ) pc = .ok (.ldc2_w i, 3)) (hc : Cond.constantLong (z_y μ).cls i v ∈ z_T) (hn : pc + 3 = n) (k : z_go μ tg n L (.long v :: st) w uc us Q) : z_go μ tg pc L st w uc us Q := by
  subst hn
  intro l G p e s m args below meth c H locs ls hH hP hS hl
  exact lv_ldc2 hH.1 hH.2.1 hH.2.2.2.2.1 (hH.2.2.2.2.2.1 _ hc) hd (k l G p e s m args below meth c H locs ls hH hP hS hl)
theorem z_ldcS {i t : Nat} {tx : String} (n : Nat) (hd : decode (z_b μ) pc = .ok (.ldc i, 2)) (hc : ((z_y μ).cls, i, tx, t) ∈ z_xr) (hn : pc + 2 = n) (k : z_go μ tg n L (.ref t :: st) w uc us Q) : z_go μ tg pc L st w uc us Q := by
  subst hn
  intro l G p e s m args below meth c H locs ls hH hP hS hl
  exact va_ldcS hH.1 hH.2.1 hH.2.2.2.2.1 (hH.2.2.2.2.2.2.2.2.2.2.2.2.2.1 _ hc) hd (k l G p e s m args below meth c H locs ls hH hP hS hl)
theorem z_iload_n {i : Fin 4} {x : Int32} (j n : Nat) (hd : decode (z_b μ) pc = .ok (.iload_n i, 1)) (hj : L[j]? = some ((i : Nat), .int x)) (hn : pc + 1 = n) (k : z_go μ tg n L (.int x :: st) w uc us Q) : z_go μ tg pc L st w uc us Q := by
  subst hn
  intro l G p e s m args below meth c H locs ls hH hP hS hl
  exact lv_iload_n hH.1 hH.2.1 hd rfl (lv_at hl j (z_Lat G hj)) (k l G p e s m args below meth c H locs ls hH hP hS hl)
theorem z_iload {i : Nat} {x : Int32} (j n : Nat) (hd : decode (z_b μ) pc = .ok (.iload i, 2)) (hj : L[j]? = some (i, .int x)) (hn : pc + 2 = n) (k : z_go μ tg n L (.int x :: st) w uc us Q) : z_go μ tg pc L st w uc us Q := by
  subst hn
  intro l G p e s m args below meth c H locs ls hH hP hS hl
  exact lv_iload hH.1 hH.2.1 hd (lv_at hl j (z_Lat G hj)) (k l G p e s m args below meth c H locs ls hH hP hS hl)
theorem z_lload_n {i : Fin 4} {x : Int64} (j n : Nat) (hd : decode (z_b μ) pc = .ok (.lload_n i, 1)) (hj : L[j]? = some ((i : Nat), .long x)) (hn : pc + 1 = n) (k : z_go μ tg n L (.long x :: st) w uc us Q) : z_go μ tg pc L st w uc us Q := by
  subst hn
  intro l G p e s m args below meth c H locs ls hH hP hS hl
  exact lv_lload_n hH.1 hH.2.1 hd rfl (lv_at hl j (z_Lat G hj)) (k l G p e s m args below meth c H locs ls hH hP hS hl)
theorem z_lload {i : Nat} {x : Int64} (j n : Nat) (hd : decode (z_b μ) pc = .ok (.lload i, 2)) (hj : L[j]? = some (i, .long x)) (hn : pc + 2 = n) (k : z_go μ tg n L (.long x :: st) w uc us Q) : z_go μ tg pc L st w uc us Q := by
  subst hn
  intro l G p e s m args below meth c H locs ls hH hP hS hl
  exact lv_lload hH.1 hH.2.1 hd (lv_at hl j (z_Lat G hj)) (k l G p e s m args below meth c H locs ls hH hP hS hl)
theorem z_aload_n {i : Fin 4} {x : Nat} (j n : Nat) (hd : decode (z_b μ) pc = .ok (.aload_n i, 1)) (hj : L[j]? = some ((i : Nat), .ref x)) (hn : pc + 1 = n) (k : z_go μ tg n L (.ref x :: st) w uc us Q) : z_go μ tg pc L st w uc us Q := by
  subst hn
  intro l G p e s m args below meth c H locs ls hH hP hS hl
  exact lv_aload_n hH.1 hH.2.1 hd rfl (lv_at hl j (z_Lat G hj)) (k l G p e s m args below meth c H locs ls hH hP hS hl)
theorem z_aload {i : Nat} {x : Nat} (j n : Nat) (hd : decode (z_b μ) pc = .ok (.aload i, 2)) (hj : L[j]? = some (i, .ref x)) (hn : pc + 2 = n) (k : z_go μ tg n L (.ref x :: st) w uc us Q) : z_go μ tg pc L st w uc us Q := by
  subst hn
  intro l G p e s m args below meth c H locs ls hH hP hS hl
  exact lv_aload hH.1 hH.2.1 hd (lv_at hl j (z_Lat G hj)) (k l G p e s m args below meth c H locs ls hH hP hS hl)
theorem z_istore_n {i : Fin 4} {x : Int32} (L2 : List (Nat × Value)) (n : Nat) (hd : decode (z_b μ) pc = .ok (.istore_n i, 1)) (hi : (i : Nat) < z_n μ) (hL : ((i : Nat), Value.int x) :: L.filter (fun q => !(q.1 == (i : Nat)) && !(q.1 + 1 == (i : Nat) && q.2.category == 2)) = L2) (hn : pc + 1 = n) (k : z_go μ tg n L2 st w uc us Q) : z_go μ tg pc L (.int x :: st) w uc us Q := by
  subst hn
  intro l G p e s m args below meth c H locs ls hH hP hS hl
  exact lv_istore_n hH.1 hH.2.1 hd rfl hl hi (lv' := z_L G L2) (by rw [← hL, z_Lfilter1]; rfl) (fun ls2 hl2 => k l G p e s m args below meth c H locs ls2 hH hP hS hl2)
theorem z_istore {i : Nat} {x : Int32} (L2 : List (Nat × Value)) (n : Nat) (hd : decode (z_b μ) pc = .ok (.istore i, 2)) (hi : (i : Nat) < z_n μ) (hL : (i, Value.int x) :: L.filter (fun q => !(q.1 == i) && !(q.1 + 1 == i && q.2.category == 2)) = L2) (hn : pc + 2 = n) (k : z_go μ tg n L2 st w uc us Q) : z_go μ tg pc L (.int x :: st) w uc us Q := by
  subst hn
  intro l G p e s m args below meth c H locs ls hH hP hS hl
  exact lv_istore hH.1 hH.2.1 hd hl hi (lv' := z_L G L2) (by rw [← hL, z_Lfilter1]; rfl) (fun ls2 hl2 => k l G p e s m args below meth c H locs ls2 hH hP hS hl2)
theorem z_lstore_n {i : Fin 4} {x : Int64} (L2 : List (Nat × Value)) (n : Nat) (hd : decode (z_b μ) pc = .ok (.lstore_n i, 1)) (hi : (i : Nat) + 1 < z_n μ) (hL : ((i : Nat), Value.long x) :: L.filter (fun q => !(q.1 == (i : Nat)) && (!(q.1 == (i : Nat) + 1) && !(q.1 + 1 == (i : Nat) && q.2.category == 2))) = L2) (hn : pc + 1 = n) (k : z_go μ tg n L2 st w uc us Q) : z_go μ tg pc L (.long x :: st) w uc us Q := by
  subst hn
  intro l G p e s m args below meth c H locs ls hH hP hS hl
  exact lv_lstore_n hH.1 hH.2.1 hd rfl hl hi (lv' := z_L G L2) (by rw [← hL, z_Lfilter2]; rfl) (fun ls2 hl2 => k l G p e s m args below meth c H locs ls2 hH hP hS hl2)
theorem z_lstore {i : Nat} {x : Int64} (L2 : List (Nat × Value)) (n : Nat) (hd : decode (z_b μ) pc = .ok (.lstore i, 2)) (hi : (i : Nat) + 1 < z_n μ) (hL : (i, Value.long x) :: L.filter (fun q => !(q.1 == i) && (!(q.1 == i + 1) && !(q.1 + 1 == i && q.2.category == 2))) = L2) (hn : pc + 2 = n) (k : z_go μ tg n L2 st w uc us Q) : z_go μ tg pc L (.long x :: st) w uc us Q := by
  subst hn
  intro l G p e s m args below meth c H locs ls hH hP hS hl
  exact lv_lstore hH.1 hH.2.1 hd hl hi (lv' := z_L G L2) (by rw [← hL, z_Lfilter2]; rfl) (fun ls2 hl2 => k l G p e s m args below meth c H locs ls2 hH hP hS hl2)
theorem z_astore_n {i : Fin 4} {x : Nat} (L2 : List (Nat × Value)) (n : Nat) (hd : decode (z_b μ) pc = .ok (.astore_n i, 1)) (hi : (i : Nat) < z_n μ) (hL : ((i : Nat), Value.ref x) :: L.filter (fun q => !(q.1 == (i : Nat)) && !(q.1 + 1 == (i : Nat) && q.2.category == 2)) = L2) (hn : pc + 1 = n) (k : z_go μ tg n L2 st w uc us Q) : z_go μ tg pc L (.ref x :: st) w uc us Q := by
  subst hn
  intro l G p e s m args below meth c H locs ls hH hP hS hl
  exact lv_astore_n hH.1 hH.2.1 hd rfl hl hi (lv' := z_L G L2) (by rw [← hL, z_Lfilter1]; rfl) (fun ls2 hl2 => k l G p e s m args below meth c H locs ls2 hH hP hS hl2)
theorem z_astore {i : Nat} {x : Nat} (L2 : List (Nat × Value)) (n : Nat) (hd : decode (z_b μ) pc = .ok (.astore i, 2)) (hi : (i : Nat) < z_n μ) (hL : (i, Value.ref x) :: L.filter (fun q => !(q.1 == i) && !(q.1 + 1 == i && q.2.category == 2)) = L2) (hn : pc + 2 = n) (k : z_go μ tg n L2 st w uc us Q) : z_go μ tg pc L (.ref x :: st) w uc us Q := by
  subst hn
  intro l G p e s m args below meth c H locs ls hH hP hS hl
  exact lv_astore hH.1 hH.2.1 hd hl hi (lv' := z_L G L2) (by rw [← hL, z_Lfilter1]; rfl) (fun ls2 hl2 => k l G p e s m args below meth c H locs ls2 hH hP hS hl2)
theorem z_iinc {i : Nat} {d : Int} {x : Int32} (v : Int32) (L2 : List (Nat × Value)) (j n : Nat) (hd : decode (z_b μ) pc = .ok (.iinc i d, 3)) (hj : L[j]? = some (i, .int x)) (hv : x + Int32.ofInt d = v) (hi : i < z_n μ) (hL : (i, Value.int v) :: L.filter (fun q => !(q.1 == i) && !(q.1 + 1 == i && q.2.category == 2)) = L2) (hn : pc + 3 = n) (k : z_go μ tg n L2 st w uc us Q) : z_go μ tg pc L st w uc us Q := by
  subst hn
  intro l G p e s m args below meth c H locs ls hH hP hS hl
  exact lv_iinc hH.1 hH.2.1 hd hl (z_Lat G hj) hv hi (lv' := z_L G L2) (by rw [← hL, z_Lfilter1]; rfl) (fun ls2 hl2 => k l G p e s m args below meth c H locs ls2 hH hP hS hl2)
theorem z_dup {v : Value} (hv : v.category = 1) (n : Nat) (hd : decode (z_b μ) pc = .ok (.dup, 1)) (hn : pc + 1 = n) (k : z_go μ tg n L (v :: v :: st) w uc us Q) : z_go μ tg pc L (v :: st) w uc us Q := by
  subst hn
  intro l G p e s m args below meth c H locs ls hH hP hS hl
  exact lv_dup hH.1 hH.2.1 hd (by rw [z_v_cat]; exact hv) (k l G p e s m args below meth c H locs ls hH hP hS hl)
theorem z_pop {v : Value} (hv : v.category = 1) (n : Nat) (hd : decode (z_b μ) pc = .ok (.pop, 1)) (hn : pc + 1 = n) (k : z_go μ tg n L (st) w uc us Q) : z_go μ tg pc L (v :: st) w uc us Q := by
  subst hn
  intro l G p e s m args below meth c H locs ls hH hP hS hl
  exact lv_pop hH.1 hH.2.1 hd (by rw [z_v_cat]; exact hv) (k l G p e s m args below meth c H locs ls hH hP hS hl)
theorem z_dup2 {v u : Value} (hv : v.category = 1) (hu : u.category = 1) (n : Nat) (hd : decode (z_b μ) pc = .ok (.dup2, 1)) (hn : pc + 1 = n) (k : z_go μ tg n L (v :: u :: v :: u :: st) w uc us Q) : z_go μ tg pc L (v :: u :: st) w uc us Q := by
  subst hn
  intro l G p e s m args below meth c H locs ls hH hP hS hl
  exact lv_dup2_11 hH.1 hH.2.1 hd (by rw [z_v_cat]; exact hv) (by rw [z_v_cat]; exact hu) (k l G p e s m args below meth c H locs ls hH hP hS hl)
theorem z_if_eq {x : Int32} {off : Int} (t n : Nat) (hd : decode (z_b μ) pc = .ok (.ifCond .eq off, 3)) (ht : (pc : Int) + off = (t : Int)) (hn : pc + 3 = n) (kt : x = 0 → z_go μ tg t L st w uc us Q) (kf : ¬ x = 0 → z_go μ tg n L st w uc us Q) : z_go μ tg pc L (.int x :: st) w uc us Q := by
  subst hn
  intro l G p e s m args below meth c H locs ls hH hP hS hl
  exact lv_if_eq hH.1 hH.2.1 hd ht (fun hc => kt hc l G p e s m args below meth c H locs ls hH hP hS hl) (fun hc => kf hc l G p e s m args below meth c H locs ls hH hP hS hl)
theorem z_icmp_eq {x y : Int32} {off : Int} (t n : Nat) (hd : decode (z_b μ) pc = .ok (.if_icmp .eq off, 3)) (ht : (pc : Int) + off = (t : Int)) (hn : pc + 3 = n) (kt : x = y → z_go μ tg t L st w uc us Q) (kf : ¬ x = y → z_go μ tg n L st w uc us Q) : z_go μ tg pc L (.int y :: .int x :: st) w uc us Q := by
  subst hn
  intro l G p e s m args below meth c H locs ls hH hP hS hl
  exact lv_icmp_eq hH.1 hH.2.1 hd ht (fun hc => kt hc l G p e s m args below meth c H locs ls hH hP hS hl) (fun hc => kf hc l G p e s m args below meth c H locs ls hH hP hS hl)
theorem z_if_ne {x : Int32} {off : Int} (t n : Nat) (hd : decode (z_b μ) pc = .ok (.ifCond .ne off, 3)) (ht : (pc : Int) + off = (t : Int)) (hn : pc + 3 = n) (kt : ¬ x = 0 → z_go μ tg t L st w uc us Q) (kf : x = 0 → z_go μ tg n L st w uc us Q) : z_go μ tg pc L (.int x :: st) w uc us Q := by
  subst hn
  intro l G p e s m args below meth c H locs ls hH hP hS hl
  exact lv_if_ne hH.1 hH.2.1 hd ht (fun hc => kt hc l G p e s m args below meth c H locs ls hH hP hS hl) (fun hc => kf hc l G p e s m args below meth c H locs ls hH hP hS hl)
theorem z_icmp_ne {x y : Int32} {off : Int} (t n : Nat) (hd : decode (z_b μ) pc = .ok (.if_icmp .ne off, 3)) (ht : (pc : Int) + off = (t : Int)) (hn : pc + 3 = n) (kt : ¬ x = y → z_go μ tg t L st w uc us Q) (kf : x = y → z_go μ tg n L st w uc us Q) : z_go μ tg pc L (.int y :: .int x :: st) w uc us Q := by
  subst hn
  intro l G p e s m args below meth c H locs ls hH hP hS hl
  exact lv_icmp_ne hH.1 hH.2.1 hd ht (fun hc => kt hc l G p e s m args below meth c H locs ls hH hP hS hl) (fun hc => kf hc l G p e s m args below meth c H locs ls hH hP hS hl)
theorem z_if_lt {x : Int32} {off : Int} (t n : Nat) (hd : decode (z_b μ) pc = .ok (.ifCond .lt off, 3)) (ht : (pc : Int) + off = (t : Int)) (hn : pc + 3 = n) (kt : x < 0 → z_go μ tg t L st w uc us Q) (kf : ¬ x < 0 → z_go μ tg n L st w uc us Q) : z_go μ tg pc L (.int x :: st) w uc us Q := by
  subst hn
  intro l G p e s m args below meth c H locs ls hH hP hS hl
  exact lv_if_lt hH.1 hH.2.1 hd ht (fun hc => kt hc l G p e s m args below meth c H locs ls hH hP hS hl) (fun hc => kf hc l G p e s m args below meth c H locs ls hH hP hS hl)
theorem z_icmp_lt {x y : Int32} {off : Int} (t n : Nat) (hd : decode (z_b μ) pc = .ok (.if_icmp .lt off, 3)) (ht : (pc : Int) + off = (t : Int)) (hn : pc + 3 = n) (kt : x < y → z_go μ tg t L st w uc us Q) (kf : ¬ x < y → z_go μ tg n L st w uc us Q) : z_go μ tg pc L (.int y :: .int x :: st) w uc us Q := by
  subst hn
  intro l G p e s m args below meth c H locs ls hH hP hS hl
  exact lv_icmp_lt hH.1 hH.2.1 hd ht (fun hc => kt hc l G p e s m args below meth c H locs ls hH hP hS hl) (fun hc => kf hc l G p e s m args below meth c H locs ls hH hP hS hl)
theorem z_if_ge {x : Int32} {off : Int} (t n : Nat) (hd : decode (z_b μ) pc = .ok (.ifCond .ge off, 3)) (ht : (pc : Int) + off = (t : Int)) (hn : pc + 3 = n) (kt : 0 ≤ x → z_go μ tg t L st w uc us Q) (kf : ¬ 0 ≤ x → z_go μ tg n L st w uc us Q) : z_go μ tg pc L (.int x :: st) w uc us Q := by
  subst hn
  intro l G p e s m args below meth c H locs ls hH hP hS hl
  exact lv_if_ge hH.1 hH.2.1 hd ht (fun hc => kt hc l G p e s m args below meth c H locs ls hH hP hS hl) (fun hc => kf hc l G p e s m args below meth c H locs ls hH hP hS hl)
theorem z_icmp_ge {x y : Int32} {off : Int} (t n : Nat) (hd : decode (z_b μ) pc = .ok (.if_icmp .ge off, 3)) (ht : (pc : Int) + off = (t : Int)) (hn : pc + 3 = n) (kt : y ≤ x → z_go μ tg t L st w uc us Q) (kf : ¬ y ≤ x → z_go μ tg n L st w uc us Q) : z_go μ tg pc L (.int y :: .int x :: st) w uc us Q := by
  subst hn
  intro l G p e s m args below meth c H locs ls hH hP hS hl
  exact lv_icmp_ge hH.1 hH.2.1 hd ht (fun hc => kt hc l G p e s m args below meth c H locs ls hH hP hS hl) (fun hc => kf hc l G p e s m args below meth c H locs ls hH hP hS hl)
theorem z_if_gt {x : Int32} {off : Int} (t n : Nat) (hd : decode (z_b μ) pc = .ok (.ifCond .gt off, 3)) (ht : (pc : Int) + off = (t : Int)) (hn : pc + 3 = n) (kt : 0 < x → z_go μ tg t L st w uc us Q) (kf : ¬ 0 < x → z_go μ tg n L st w uc us Q) : z_go μ tg pc L (.int x :: st) w uc us Q := by
  subst hn
  intro l G p e s m args below meth c H locs ls hH hP hS hl
  exact lv_if_gt hH.1 hH.2.1 hd ht (fun hc => kt hc l G p e s m args below meth c H locs ls hH hP hS hl) (fun hc => kf hc l G p e s m args below meth c H locs ls hH hP hS hl)
theorem z_icmp_gt {x y : Int32} {off : Int} (t n : Nat) (hd : decode (z_b μ) pc = .ok (.if_icmp .gt off, 3)) (ht : (pc : Int) + off = (t : Int)) (hn : pc + 3 = n) (kt : y < x → z_go μ tg t L st w uc us Q) (kf : ¬ y < x → z_go μ tg n L st w uc us Q) : z_go μ tg pc L (.int y :: .int x :: st) w uc us Q := by
  subst hn
  intro l G p e s m args below meth c H locs ls hH hP hS hl
  exact lv_icmp_gt hH.1 hH.2.1 hd ht (fun hc => kt hc l G p e s m args below meth c H locs ls hH hP hS hl) (fun hc => kf hc l G p e s m args below meth c H locs ls hH hP hS hl)
theorem z_if_le {x : Int32} {off : Int} (t n : Nat) (hd : decode (z_b μ) pc = .ok (.ifCond .le off, 3)) (ht : (pc : Int) + off = (t : Int)) (hn : pc + 3 = n) (kt : x ≤ 0 → z_go μ tg t L st w uc us Q) (kf : ¬ x ≤ 0 → z_go μ tg n L st w uc us Q) : z_go μ tg pc L (.int x :: st) w uc us Q := by
  subst hn
  intro l G p e s m args below meth c H locs ls hH hP hS hl
  exact lv_if_le hH.1 hH.2.1 hd ht (fun hc => kt hc l G p e s m args below meth c H locs ls hH hP hS hl) (fun hc => kf hc l G p e s m args below meth c H locs ls hH hP hS hl)
theorem z_icmp_le {x y : Int32} {off : Int} (t n : Nat) (hd : decode (z_b μ) pc = .ok (.if_icmp .le off, 3)) (ht : (pc : Int) + off = (t : Int)) (hn : pc + 3 = n) (kt : x ≤ y → z_go μ tg t L st w uc us Q) (kf : ¬ x ≤ y → z_go μ tg n L st w uc us Q) : z_go μ tg pc L (.int y :: .int x :: st) w uc us Q := by
  subst hn
  intro l G p e s m args below meth c H locs ls hH hP hS hl
  exact lv_icmp_le hH.1 hH.2.1 hd ht (fun hc => kt hc l G p e s m args below meth c H locs ls hH hP hS hl) (fun hc => kf hc l G p e s m args below meth c H locs ls hH hP hS hl)
theorem z_goto {off : Int} (t : Nat) (hd : decode (z_b μ) pc = .ok (.goto off, 3)) (ht : (pc : Int) + off = (t : Int)) (k : z_go μ tg t L st w uc us Q) : z_go μ tg pc L st w uc us Q := by
  intro l G p e s m args below meth c H locs ls hH hP hS hl
  exact lv_goto hH.1 hH.2.1 hd ht (k l G p e s m args below meth c H locs ls hH hP hS hl)
theorem z_tabIn {dflt lo hi : Int} {offs : Array Int} {len : Nat} {x : Int32} {off : Int} (t : Nat) (hd : decode (z_b μ) pc = .ok (.tableswitch dflt lo hi offs, len)) (h1 : ¬ x.toInt < lo) (h2 : ¬ hi < x.toInt) (ho : offs[(x.toInt - lo).toNat]? = some off) (ht : (pc : Int) + off = (t : Int)) (k : z_go μ tg t L st w uc us Q) : z_go μ tg pc L (.int x :: st) w uc us Q := by
  intro l G p e s m args below meth c H locs ls hH hP hS hl
  exact lv_tableIn hH.1 hH.2.1 hd h1 h2 ho ht (k l G p e s m args below meth c H locs ls hH hP hS hl)
theorem z_tabOut {dflt lo hi : Int} {offs : Array Int} {len : Nat} {x : Int32} (t : Nat) (hd : decode (z_b μ) pc = .ok (.tableswitch dflt lo hi offs, len)) (h1 : x.toInt < lo ∨ hi < x.toInt) (ht : (pc : Int) + dflt = (t : Int)) (k : z_go μ tg t L st w uc us Q) : z_go μ tg pc L (.int x :: st) w uc us Q := by
  intro l G p e s m args below meth c H locs ls hH hP hS hl
  exact lv_tableOut hH.1 hH.2.1 hd h1 ht (k l G p e s m args below meth c H locs ls hH hP hS hl)
theorem z_topi {x : Int32} (k : ∀ v : Int32, v = x → z_go μ tg pc L (.int v :: st) w uc us Q) : z_go μ tg pc L (.int x :: st) w uc us Q := k x rfl
theorem z_topl {x : Int64} (k : ∀ v : Int64, v = x → z_go μ tg pc L (.long v :: st) w uc us Q) : z_go μ tg pc L (.long x :: st) w uc us Q := k x rfl
end ZR
end
section
section ZK
variable {μ : z_Mt} {tg : Bool} {pc : Nat} {L : List (Nat × Value)} {st : List Value} {w : List va_E} {uc us : Nat} {Q : z_R}
theorem z_a_new (G : z_G) (j : Nat) : z_a G (200 + j) = G.2.2.1 + j := by
  unfold z_a
  rw [if_neg (by omega)]
  omega
theorem z_ref_new (G : z_G) {b j : Nat} (hb : b = 200 + j) : z_v G (.ref b) = .ref (G.2.2.1 + j) := by
  subst hb
  show Value.ref (z_a G (200 + j)) = _
  rw [z_a_new]
/-- the entry idx of own's pool is field k of class ci -/
def z_okF (own : String) (idx ci k : Nat) : Prop := ∃ q : vw_C, z_cl[ci]? = some q ∧ k < q.2.2 ∧ (∀ w ∈ u_ws q.1 q.2.1 q.2.2, w ∈ z_T) ∧ Cond.fieldLink own idx (q.2.1 k).1 (q.2.1 k).2.1 (q.2.1 k).2.2.1 ∈ z_T
/-- .. of type ty, final or not -/
def z_okP (own : String) (idx ci k : Nat) (ty : FieldType) (fin : Bool) : Prop := ∃ (q : vw_C) (ty0 : Nat → FieldType), z_cl[ci]? = some q ∧ k < q.2.2 ∧ (∀ w ∈ u_ws q.1 q.2.1 q.2.2, w ∈ z_T) ∧ Cond.fieldLink own idx (q.2.1 k).1 (q.2.1 k).2.1 (q.2.1 k).2.2.1 ∈ z_T ∧
  (∀ k, k < q.2.2 → parseFieldDescriptor (q.2.1 k).2.2.1 = some (ty0 k)) ∧ (∀ a, a < q.2.2 → ∀ b, b < q.2.2 → a ≠ b → (q.2.1 a).2.1 ≠ (q.2.1 b).2.1) ∧ (q.2.1 k).2.2.2 = fin ∧ parseFieldDescriptor (q.2.1 k).2.2.1 = some ty ∧ (fin = true → (q.2.1 k).1 = own)
theorem z_get {idx ci kf b : Nat} {fs : List Value} {v : Value} (j n : Nat) (hd : decode (z_b μ) pc = .ok (.getfield idx, 3)) (hok : z_okF (z_y μ).cls idx ci kf) (hb : b = 200 + j) (hw : w[j]? = some (.inr (ci, fs))) (hv : fs[kf]? = some v) (hn : pc + 3 = n) (k : z_go μ tg n L (v :: st) w uc us Q) : z_go μ tg pc L (.ref b :: st) w uc us Q := by
  subst hn
  intro l G p e s m args below meth c H locs ls hH hP hS hl
  obtain ⟨⟨C, T, N⟩, hc, hk, hin, hlk⟩ := hok
  rw [List.map_cons, z_ref_new G hb]
  exact va_get (D := G.1) (ci := ci) (C := C) (T := T) (N := N) (v := z_v G v) hH.1 hH.2.1 hH.2.2.2.2.2.1 hin hH.2.2.2.2.1 hP.2.2 hP.2.1 j (z_ws_at G hw) hc kf hk (hH.2.2.2.2.2.1 _ hlk) (fun _ h => h) (by rw [List.getElem?_map, hv]; rfl) hd (k l G p e s m args below meth c H locs ls hH hP hS hl)
/-- what stands behind a store -/
theorem z_P_set {G : z_G} {s : State} {H H1 : Heap} {j : Nat} {x : va_E} (hP : z_P G tg w s H) (hz : H1.size = H.size) (h : va_P G.1 z_cl (z_ws G 0 (w.set j x)) H1) : z_P G tg (w.set j x) s H1 :=
  ⟨by rw [List.length_set, hz]; exact hP.1, h, hP.2.2⟩
theorem z_put {idx ci kf b : Nat} {fs : List Value} {v : Value} {ty : FieldType} (j : Nat) (w2 : List va_E) (n : Nat) (hd : decode (z_b μ) pc = .ok (.putfield idx, 3)) (hok : z_okP (z_y μ).cls idx ci kf ty false) (hb : b = 200 + j) (hw : w[j]? = some (.inr (ci, fs))) (hl9 : kf < fs.length) (hty : ∀ G : z_G, narrow ty (z_v G v) = z_v G v ∧ fits ty (z_v G v) = true) (hw2 : w.set j (.inr (ci, fs.set kf v)) = w2) (hn : pc + 3 = n) (k : z_go μ tg n L st w2 uc us Q) : z_go μ tg pc L (v :: .ref b :: st) w uc us Q := by
  subst hn
  subst hw2
  intro l G p e s m args below meth c H locs ls hH hP hS hl
  obtain ⟨⟨C, T, N⟩, ty0, hc, hk, hin, hlk, ht0, hnm, hfin, hpt, -⟩ := hok
  rw [List.map_cons, List.map_cons, z_ref_new G hb]
  have hapart := va_apart (own := (z_y μ).cls) hH.2.2.2.2.2.1 hin ty0 ht0 hnm hP.2.2 hc
  obtain ⟨r, h1, cell, q1, q2, q3, q4⟩ := hP.2.1 j _ (z_ws_at G hw)
  have hr : r = (C, T, N) := Option.some.inj (h1.symm.trans hc)
  subst hr
  obtain ⟨hSl, hfc, kC, hkC, hkind⟩ := hP.2.2.1 ci _ hc
  obtain ⟨cf, kf9, fi, f, hi, hsl⟩ := hSl kf hk
  have hlay := hH.2.2.2.2.2.1 _ (hin _ (u_in_lay hk))
  unfold u_lay at hlay
  rw [if_neg (by rw [hfin]; decide)] at hlay
  have hst := (u_facts hfc hkC (u_lays hH.2.2.2.2.2.1 hin hk) hi).1
  have h6 := u_store hfc hkC hkind hlay hi hpt (hty G).1 (hty G).2
  refine W.putK hH.1 hH.2.1 (f := f) ⟨hH.2.2.2.2.1, hH.2.2.2.2.2.1 _ hlk, ⟨_, _, _, hi⟩, hst⟩ (by rw [q2]; exact h6) q1 q3 (by rw [hsl]; exact k2_hasslot (q4 kf hk)) rfl rfl hd fun H' e1 e2 e3 => ?_
  rw [hsl] at e1 ⊢
  have hP2 : va_P G.1 z_cl ((z_ws G 0 w).set j (G.2.2.1 + j, .inr (ci, (fs.map (z_v G)).set kf (z_v G v)))) H' := hP.2.1.set (z_D G w) (z_ws_at G hw) ⟨_, hc, t_OB.to (V := updV (vp_V (fs.map (z_v G))) kf (z_v G v)) ⟨_, e1, q2, q3, t_set q4 hapart hk (z_v G v)⟩ (fun j _ => vp_updV_set (by rw [List.length_map]; exact hl9) (z_v G v) j)⟩ e3
  have he : (Sum.inr (ci, (fs.map (z_v G)).set kf (z_v G v)) : va_E) = z_e G (.inr (ci, fs.set kf v)) := by simp [z_e, List.map_set]
  rw [he, z_ws_set0] at hP2
  exact k l G p e s m args below meth c H' _ ls hH (z_P_set hP e2 hP2) (hS.put e2 e3 ((z_D G w).2 j _ (z_ws_at G hw))) hl
theorem z_putF {idx ci kf b : Nat} {fs : List Value} {v : Value} {ty : FieldType} (j : Nat) (w2 : List va_E) (n : Nat) (hd : decode (z_b μ) pc = .ok (.putfield idx, 3)) (hok : z_okP (z_y μ).cls idx ci kf ty true) (hini : (z_y μ).name = "<init>") (hb : b = 200 + j) (hw : w[j]? = some (.inr (ci, fs))) (hl9 : kf < fs.length) (hty : ∀ G : z_G, narrow ty (z_v G v) = z_v G v ∧ fits ty (z_v G v) = true) (hw2 : w.set j (.inr (ci, fs.set kf v)) = w2) (hn : pc + 3 = n) (k : z_go μ tg n L st w2 uc us Q) : z_go μ tg pc L (v :: .ref b :: st) w uc us Q := by
  subst hn
  subst hw2
  intro l G p e s m args below meth c H locs ls hH hP hS hl
  obtain ⟨⟨C, T, N⟩, ty0, hc, hk, hin, hlk, ht0, hnm, hfin, hpt, hdecl⟩ := hok
  have hdecl := hdecl rfl
  rw [List.map_cons, List.map_cons, z_ref_new G hb]
  have hapart := va_apart (own := (z_y μ).cls) hH.2.2.2.2.2.1 hin ty0 ht0 hnm hP.2.2 hc
  obtain ⟨r, h1, cell, q1, q2, q3, q4⟩ := hP.2.1 j _ (z_ws_at G hw)
  have hr : r = (C, T, N) := Option.some.inj (h1.symm.trans hc)
  subst hr
  obtain ⟨hSl, hfc, kC, hkC, hkind⟩ := hP.2.2.1 ci _ hc
  obtain ⟨cf, kf9, fi, f, hi, hsl⟩ := hSl kf hk
  have hlay := hH.2.2.2.2.2.1 _ (hin _ (u_in_lay hk))
  unfold u_lay at hlay
  rw [if_pos hfin] at hlay
  have hst := (u_facts hfc hkC (u_lays hH.2.2.2.2.2.1 hin hk) hi).1
  have hcf : m.cls = cf := by
    obtain ⟨_, _, c', _, _, _, -, -, hf', -, -, -, hown2, -⟩ := Cond.laysFinal_spec hlay
    have e1 : c' = cf := by have := hi.symm.trans hf'; simp at this; exact this.1.symm
    rw [hdecl] at hown2
    rw [← e1]; exact Option.some.inj (hH.2.2.2.2.1.symm.trans hown2)
  have h6 := u_fits hfc hkC hkind (Or.inr hlay) hi hpt (hty G).1 (hty G).2
  refine W.putFinK hH.1 hH.2.1 hH.2.2.2.2.1 (hH.2.2.2.2.2.1 _ hlk) hi hst hcf (hH.2.2.2.2.2.2.2.1.trans hini) (by rw [q2]; exact h6) q1 q3 (by rw [hsl]; exact k2_hasslot (q4 kf hk)) rfl rfl hd fun H' e1 e2 e3 => ?_
  rw [hsl] at e1 ⊢
  have hP2 : va_P G.1 z_cl ((z_ws G 0 w).set j (G.2.2.1 + j, .inr (ci, (fs.map (z_v G)).set kf (z_v G v)))) H' := hP.2.1.set (z_D G w) (z_ws_at G hw) ⟨_, hc, t_OB.to (V := updV (vp_V (fs.map (z_v G))) kf (z_v G v)) ⟨_, e1, q2, q3, t_set q4 hapart hk (z_v G v)⟩ (fun j _ => vp_updV_set (by rw [List.length_map]; exact hl9) (z_v G v) j)⟩ e3
  have he : (Sum.inr (ci, (fs.map (z_v G)).set kf (z_v G v)) : va_E) = z_e G (.inr (ci, fs.set kf v)) := by simp [z_e, List.map_set]
  rw [he, z_ws_set0] at hP2
  exact k l G p e s m args below meth c H' _ ls hH (z_P_set hP e2 hP2) (hS.put e2 e3 ((z_D G w).2 j _ (z_ws_at G hw))) hl
/-- returns -/
theorem z_X_end {G : z_G} {s t : State} {H : Heap} {locs : List Loc} (hX : z_X G s s.heap) (hS : va_S (z_A G) s.heap H locs) (ht : t.heap = H) (hW : s.WarmedH t.vm) : z_X G t t.heap := by
  rw [ht]
  exact z_X.warm hW (hX.kept hS.2.1)
theorem z_iret {x : Int32} (hd : decode (z_b μ) pc = .ok (.ireturn, 1)) (hr : z_r μ = some .int) (hc : uc ≤ (z_rm μ).cells ∧ us ≤ (z_rm μ).slots) (k : Q (some (.int x)) w) : z_go μ tg pc L [.int x] w uc us Q := by
  intro l G p e s m args below meth c H locs ls hH hP hS hl
  refine W.widen hc.1 hc.2 ?_
  exact W.iret (v := x) hH.1 hH.2.1 (hH.2.2.1.trans hr) (fun t ht hW => ⟨⟨some (.int x), w, k, rfl, by rw [ht]; exact hP.alike hW.alike, z_X_end hH.2.2.2.2.2.2.2.2.2 hS ht hW⟩, hS.F ht⟩) hS.2.2 hd hH.2.2.2.2.2.2.1
theorem z_zret {x : Int32} {ty : FieldType} (hd : decode (z_b μ) pc = .ok (.ireturn, 1)) (hr : z_r μ = some ty) (hty : narrow ty (.int x) = .int x) (hc : uc ≤ (z_rm μ).cells ∧ us ≤ (z_rm μ).slots) (k : Q (some (.int x)) w) : z_go μ tg pc L [.int x] w uc us Q := by
  intro l G p e s m args below meth c H locs ls hH hP hS hl
  refine W.widen hc.1 hc.2 ?_
  exact W.zret (v := x) hH.1 hH.2.1 (hH.2.2.1.trans hr) hty (fun t ht hW => ⟨⟨some (.int x), w, k, rfl, by rw [ht]; exact hP.alike hW.alike, z_X_end hH.2.2.2.2.2.2.2.2.2 hS ht hW⟩, hS.F ht⟩) hS.2.2 hd hH.2.2.2.2.2.2.1
theorem z_lret {x : Int64} (hd : decode (z_b μ) pc = .ok (.lreturn, 1)) (hr : z_r μ = some .long) (hc : uc ≤ (z_rm μ).cells ∧ us ≤ (z_rm μ).slots) (k : Q (some (.long x)) w) : z_go μ tg pc L [.long x] w uc us Q := by
  intro l G p e s m args below meth c H locs ls hH hP hS hl
  refine W.widen hc.1 hc.2 ?_
  exact W.lret (v := x) hH.1 hH.2.1 (hH.2.2.1.trans hr) (fun t ht hW => ⟨⟨some (.long x), w, k, rfl, by rw [ht]; exact hP.alike hW.alike, z_X_end hH.2.2.2.2.2.2.2.2.2 hS ht hW⟩, hS.F ht⟩) hS.2.2 hd hH.2.2.2.2.2.2.1
theorem z_vret (hd : decode (z_b μ) pc = .ok (.return_, 1)) (hr : z_r μ = none) (hc : uc ≤ (z_rm μ).cells ∧ us ≤ (z_rm μ).slots) (k : Q none w) : z_go μ tg pc L [] w uc us Q := by
  intro l G p e s m args below meth c H locs ls hH hP hS hl
  refine W.widen hc.1 hc.2 ?_
  exact W.vret hH.1 hH.2.1 (hH.2.2.1.trans hr) (fun t ht hW => ⟨⟨none, w, k, rfl, by rw [ht]; exact hP.alike hW.alike, z_X_end hH.2.2.2.2.2.2.2.2.2 hS ht hW⟩, hS.F ht⟩) hS.2.2 hd hH.2.2.2.2.2.2.1
end ZK
end
section
section ZA
variable {μ ν : z_Mt} {tg : Bool} {pc : Nat} {L : List (Nat × Value)} {st : List Value} {w : List va_E} {uc us : Nat} {Q Q1 : z_R}
theorem z_iald {b N : Nat} {f : Nat → Int32} {i : Int32} (j n : Nat) (hd : decode (z_b μ) pc = .ok (.iaload, 1)) (hb : b = 200 + j) (hw : w[j]? = some (.inl (1, N, .inl f))) (hin : vp_in i N) (hn : pc + 1 = n) (k : z_go μ tg n L (.int (f i.toNatClampNeg) :: st) w uc us Q) : z_go μ tg pc L (.int i :: .ref b :: st) w uc us Q := by
  subst hn
  intro l G p e s m args below meth c H locs ls hH hP hS hl
  rw [List.map_cons, List.map_cons, z_ref_new G hb]
  exact va_iald (D := G.1) hH.1 hH.2.1 hP.2.2 hP.2.1 j 1 (z_ws_at G hw) rfl hin hd (k l G p e s m args below meth c H locs ls hH hP hS hl)
theorem z_bald {b N : Nat} {f : Nat → Int32} {i : Int32} (j n : Nat) (hd : decode (z_b μ) pc = .ok (.baload, 1)) (hb : b = 200 + j) (hw : w[j]? = some (.inl (0, N, .inl f))) (hin : vp_in i N) (hn : pc + 1 = n) (k : z_go μ tg n L (.int (f i.toNatClampNeg) :: st) w uc us Q) : z_go μ tg pc L (.int i :: .ref b :: st) w uc us Q := by
  subst hn
  intro l G p e s m args below meth c H locs ls hH hP hS hl
  rw [List.map_cons, List.map_cons, z_ref_new G hb]
  exact va_bald (D := G.1) hH.1 hH.2.1 hP.2.2 hP.2.1 j 0 (z_ws_at G hw) rfl hin hd (k l G p e s m args below meth c H locs ls hH hP hS hl)
theorem z_zald {b N : Nat} {f : Nat → Int32} {i : Int32} (j n : Nat) (hd : decode (z_b μ) pc = .ok (.baload, 1)) (hb : b = 200 + j) (hw : w[j]? = some (.inl (3, N, .inl f))) (hin : vp_in i N) (hn : pc + 1 = n) (k : z_go μ tg n L (.int (f i.toNatClampNeg) :: st) w uc us Q) : z_go μ tg pc L (.int i :: .ref b :: st) w uc us Q := by
  subst hn
  intro l G p e s m args below meth c H locs ls hH hP hS hl
  rw [List.map_cons, List.map_cons, z_ref_new G hb]
  exact va_zald (D := G.1) hH.1 hH.2.1 hP.2.2 hP.2.1 j 3 (z_ws_at G hw) rfl hin hd (k l G p e s m args below meth c H locs ls hH hP hS hl)
theorem z_lald {b N : Nat} {f : Nat → Int64} {i : Int32} (j n : Nat) (hd : decode (z_b μ) pc = .ok (.laload, 1)) (hb : b = 200 + j) (hw : w[j]? = some (.inl (2, N, .inr (.inl f)))) (hin : vp_in i N) (hn : pc + 1 = n) (k : z_go μ tg n L (.long (f i.toNatClampNeg) :: st) w uc us Q) : z_go μ tg pc L (.int i :: .ref b :: st) w uc us Q := by
  subst hn
  intro l G p e s m args below meth c H locs ls hH hP hS hl
  rw [List.map_cons, List.map_cons, z_ref_new G hb]
  exact va_lald (D := G.1) hH.1 hH.2.1 hP.2.2 hP.2.1 j 2 (z_ws_at G hw) rfl hin hd (k l G p e s m args below meth c H locs ls hH hP hS hl)
theorem z_iast {b N : Nat} {f : Nat → Int32} {i : Int32} {x : Int32} (j : Nat) (w2 : List va_E) (n : Nat) (hd : decode (z_b μ) pc = .ok (.iastore, 1)) (hb : b = 200 + j) (hw : w[j]? = some (.inl (1, N, .inl (f)))) (hin : vp_in i N) (hw2 : w.set j (.inl (1, N, .inl (upd f i.toNatClampNeg x))) = w2) (hn : pc + 1 = n) (k : z_go μ tg n L st w2 uc us Q) : z_go μ tg pc L (.int x :: .int i :: .ref b :: st) w uc us Q := by
  subst hn
  subst hw2
  intro l G p e s m args below meth c H locs ls hH hP hS hl
  rw [List.map_cons, List.map_cons, List.map_cons, z_ref_new G hb]
  have ha := z_ws_at G hw
  refine W.iast hH.1 hH.2.1 (hP.2.1 j _ ha) ((hP.2.2.2 1 (G.2.1 1, _) rfl).1 N (fun j => .int (f j))) (fun q => by cases q) (by show ¬ (i < 0 ∨ (arrV _ _ _).slots.size ≤ _); rw [arrV_size]; exact hin) rfl rfl hd fun H1 e1 z oq => ?_
  have hP2 : va_P G.1 z_cl ((z_ws G 0 w).set j (G.2.2.1 + j, z_e G (.inl (1, N, .inl (upd f i.toNatClampNeg x))))) H1 := by
    refine hP.2.1.set (z_D G w) ha ?_ oq
    show H1[G.2.2.1 + j]? = some (vp_cell _ _)
    rw [e1]
    show some ((vp_cell _ _).setSlot _ _) = _
    rw [vp_cell_i, vp_cell_i, arrV_store]
    congr 2
    funext q
    by_cases hq : q = i.toNatClampNeg
    · subst hq
      simp [updV, upd, vp_updL, vp_nar]
      try rfl
    · simp [updV, upd, vp_updL, hq]
  rw [z_ws_set0] at hP2
  exact k l G p e s m args below meth c H1 _ ls hH (z_P_set hP z hP2) (hS.put z oq ((z_D G w).2 j _ ha)) hl
theorem z_bast {b N : Nat} {f : Nat → Int32} {i : Int32} {x : Int32} (j : Nat) (w2 : List va_E) (n : Nat) (hd : decode (z_b μ) pc = .ok (.bastore, 1)) (hb : b = 200 + j) (hw : w[j]? = some (.inl (0, N, .inl (f)))) (hin : vp_in i N) (hw2 : w.set j (.inl (0, N, .inl (upd f i.toNatClampNeg (vp_nar .byte x)))) = w2) (hn : pc + 1 = n) (k : z_go μ tg n L st w2 uc us Q) : z_go μ tg pc L (.int x :: .int i :: .ref b :: st) w uc us Q := by
  subst hn
  subst hw2
  intro l G p e s m args below meth c H locs ls hH hP hS hl
  rw [List.map_cons, List.map_cons, List.map_cons, z_ref_new G hb]
  have ha := z_ws_at G hw
  refine W.bast hH.1 hH.2.1 (hP.2.1 j _ ha) ((hP.2.2.2 0 (G.2.1 0, _) rfl).1 N (fun j => .int (f j))) (fun q => by cases q) (by show ¬ (i < 0 ∨ (arrV _ _ _).slots.size ≤ _); rw [arrV_size]; exact hin) rfl rfl hd fun H1 e1 z oq => ?_
  have hP2 : va_P G.1 z_cl ((z_ws G 0 w).set j (G.2.2.1 + j, z_e G (.inl (0, N, .inl (upd f i.toNatClampNeg (vp_nar .byte x)))))) H1 := by
    refine hP.2.1.set (z_D G w) ha ?_ oq
    show H1[G.2.2.1 + j]? = some (vp_cell _ _)
    rw [e1]
    show some ((vp_cell _ _).setSlot _ _) = _
    rw [vp_cell_i, vp_cell_i, arrV_store]
    congr 2
    funext q
    by_cases hq : q = i.toNatClampNeg
    · subst hq
      simp [updV, upd, vp_updL, vp_nar]
      try rfl
    · simp [updV, upd, vp_updL, hq]
  rw [z_ws_set0] at hP2
  exact k l G p e s m args below meth c H1 _ ls hH (z_P_set hP z hP2) (hS.put z oq ((z_D G w).2 j _ ha)) hl
theorem z_zast {b N : Nat} {f : Nat → Int32} {i : Int32} {x : Int32} (j : Nat) (w2 : List va_E) (n : Nat) (hd : decode (z_b μ) pc = .ok (.bastore, 1)) (hb : b = 200 + j) (hw : w[j]? = some (.inl (3, N, .inl (f)))) (hin : vp_in i N) (hw2 : w.set j (.inl (3, N, .inl (upd f i.toNatClampNeg (vp_nar .boolean x)))) = w2) (hn : pc + 1 = n) (k : z_go μ tg n L st w2 uc us Q) : z_go μ tg pc L (.int x :: .int i :: .ref b :: st) w uc us Q := by
  subst hn
  subst hw2
  intro l G p e s m args below meth c H locs ls hH hP hS hl
  rw [List.map_cons, List.map_cons, List.map_cons, z_ref_new G hb]
  have ha := z_ws_at G hw
  refine W.zast hH.1 hH.2.1 (hP.2.1 j _ ha) ((hP.2.2.2 3 (G.2.1 3, _) rfl).1 N (fun j => .int (f j))) (fun q => by cases q) (by show ¬ (i < 0 ∨ (arrV _ _ _).slots.size ≤ _); rw [arrV_size]; exact hin) rfl rfl hd fun H1 e1 z oq => ?_
  have hP2 : va_P G.1 z_cl ((z_ws G 0 w).set j (G.2.2.1 + j, z_e G (.inl (3, N, .inl (upd f i.toNatClampNeg (vp_nar .boolean x)))))) H1 := by
    refine hP.2.1.set (z_D G w) ha ?_ oq
    show H1[G.2.2.1 + j]? = some (vp_cell _ _)
    rw [e1]
    show some ((vp_cell _ _).setSlot _ _) = _
    rw [vp_cell_i, vp_cell_i, arrV_store]
    congr 2
    funext q
    by_cases hq : q = i.toNatClampNeg
    · subst hq
      simp [updV, upd, vp_updL, vp_nar]
      try rfl
    · simp [updV, upd, vp_updL, hq]
  rw [z_ws_set0] at hP2
  exact k l G p e s m args below meth c H1 _ ls hH (z_P_set hP z hP2) (hS.put z oq ((z_D G w).2 j _ ha)) hl
theorem z_last {b N : Nat} {f : Nat → Int64} {i : Int32} {x : Int64} (j : Nat) (w2 : List va_E) (n : Nat) (hd : decode (z_b μ) pc = .ok (.lastore, 1)) (hb : b = 200 + j) (hw : w[j]? = some (.inl (2, N, .inr (.inl (f))))) (hin : vp_in i N) (hw2 : w.set j (.inl (2, N, .inr (.inl (vp_updL f i.toNatClampNeg x)))) = w2) (hn : pc + 1 = n) (k : z_go μ tg n L st w2 uc us Q) : z_go μ tg pc L (.long x :: .int i :: .ref b :: st) w uc us Q := by
  subst hn
  subst hw2
  intro l G p e s m args below meth c H locs ls hH hP hS hl
  rw [List.map_cons, List.map_cons, List.map_cons, z_ref_new G hb]
  have ha := z_ws_at G hw
  refine W.last hH.1 hH.2.1 (hP.2.1 j _ ha) ((hP.2.2.2 2 (G.2.1 2, _) rfl).1 N (fun j => .long (f j))) (fun q => by cases q) (by show ¬ (i < 0 ∨ (arrV _ _ _).slots.size ≤ _); rw [arrV_size]; exact hin) rfl rfl hd fun H1 e1 z oq => ?_
  have hP2 : va_P G.1 z_cl ((z_ws G 0 w).set j (G.2.2.1 + j, z_e G (.inl (2, N, .inr (.inl (vp_updL f i.toNatClampNeg x)))))) H1 := by
    refine hP.2.1.set (z_D G w) ha ?_ oq
    show H1[G.2.2.1 + j]? = some (vp_cell _ _)
    rw [e1]
    show some ((vp_cell _ _).setSlot _ _) = _
    rw [vp_cell_l, vp_cell_l, arrV_store]
    congr 2
    funext q
    by_cases hq : q = i.toNatClampNeg
    · subst hq
      simp [updV, upd, vp_updL, vp_nar]
      try rfl
    · simp [updV, upd, vp_updL, hq]
  rw [z_ws_set0] at hP2
  exact k l G p e s m args below meth c H1 _ ls hH (z_P_set hP z hP2) (hS.put z oq ((z_D G w).2 j _ ha)) hl
theorem z_alen {b kd : Nat} {x : vp_A} (v : Int32) (j n : Nat) (hd : decode (z_b μ) pc = .ok (.arraylength, 1)) (hb : b = 200 + j) (hw : w[j]? = some (.inl (kd, x))) (hk : kd < 4) (hv : Int32.ofNat x.1 = v) (hn : pc + 1 = n) (k : z_go μ tg n L (.int v :: st) w uc us Q) : z_go μ tg pc L (.ref b :: st) w uc us Q := by
  subst hn
  intro l G p e s m args below meth c H locs ls hH hP hS hl
  rw [List.map_cons, z_ref_new G hb]
  have hty : ∃ ty, (z_tys G)[kd]? = some (G.2.1 kd, ty) := by
    rcases (show kd = 0 ∨ kd = 1 ∨ kd = 2 ∨ kd = 3 by omega) with rfl | rfl | rfl | rfl <;> exact ⟨_, rfl⟩
  obtain ⟨ty, hty⟩ := hty
  exact va_alen (D := G.1) hH.1 hH.2.1 hP.2.2 hP.2.1 j kd (z_ws_at G hw) hty hv hd (k l G p e s m args below meth c H locs ls hH hP hS hl)
def z_kty : Nat → FieldType
  | 0 => .byte
  | 1 => .int
  | 2 => .long
  | _ => .boolean
theorem z_newa {at9 : ArrayType} {x : Int32} (kd N : Nat) (a0 : vp_A) (n : Nat) (htg : tg = true) (hd : decode (z_b μ) pc = .ok (.newarray at9, 2)) (hk : kd < 4) (hat : newarray.typeOf at9 = z_kty kd) (hcl : Cond.arrayClass (z_kty kd) ∈ z_T) (ha : ∀ cA : ClassId, vp_cell cA a0 = arrV cA N (fun _ => defaultValue (z_kty kd))) (hx : ¬ x < 0) (hN : x.toNatClampNeg = N) (hbytes : N * componentBytes (z_kty kd) ≤ 536870912) (hc : uc + 1 ≤ (z_rm μ).cells ∧ us + N ≤ (z_rm μ).slots) (hn : pc + 2 = n) (k : z_go μ tg n L (.ref (200 + w.length) :: st) (w ++ [.inl (kd, a0)]) (uc + 1) (us + N) Q) : z_go μ tg pc L (.int x :: st) w uc us Q := by
  subst hn
  intro l G p e s m args below meth c H locs ls hH hP hS hl
  have hsz : H.size = G.2.2.1 + w.length := hP.1.2 htg
  refine va_newaK (h := G.2.2.1 + w.length) hH.1 hH.2.1 (by rw [hat]; exact hH.2.2.2.2.2.1 _ hcl) rfl hd rfl hx hN (by rw [hat]; exact hbytes) hc.1 hc.2 hsz fun H1 cA e1 z1 o1 hAr hNm => ?_
  rw [hat] at e1 hNm
  have hcA : cA = G.2.1 kd := by
    have h1 : va_RA s (G.2.1 kd) (z_kty kd) := by
      rcases (show kd = 0 ∨ kd = 1 ∨ kd = 2 ∨ kd = 3 by omega) with rfl | rfl | rfl | rfl
      · exact (hP.2.2.2 0 (G.2.1 0, .byte) rfl).2
      · exact (hP.2.2.2 1 (G.2.1 1, .int) rfl).2
      · exact (hP.2.2.2 2 (G.2.1 2, .long) rfl).2
      · exact (hP.2.2.2 3 (G.2.1 3, .boolean) rfl).2
    have h2 : s.vm.findClass ("[" ++ (z_kty kd).toString) = some (G.2.1 kd) := by
      rcases (show kd = 0 ∨ kd = 1 ∨ kd = 2 ∨ kd = 3 by omega) with rfl | rfl | rfl | rfl <;> exact h1
    exact Option.some.inj (hNm.symm.trans h2)
  subst hcA
  have hP2 : va_P G.1 z_cl (z_ws G 0 (w ++ [.inl (kd, a0)])) H1 := by
    rw [z_ws_app]
    refine (hP.2.1.kept fun q x hx => o1 x.1 (by have := (hP.2.1 q x hx).lt; omega)).app ?_
    intro q x hx
    have hz : q < 1 := (List.getElem?_eq_some_iff.mp hx).1
    rw [show q = 0 by omega] at hx
    cases hx
    show H1[G.2.2.1 + (0 + w.length)]? = some (vp_cell _ _)
    rw [Nat.zero_add, ha]
    exact e1
  have hK := k l G p e s m args below meth c H1 locs ls hH ⟨by rw [z1, List.length_append]; simp only [List.length_cons, List.length_nil]; omega, hP2, hP.2.2⟩ ⟨by have := hS.1; omega, fun q h1 h2 => (o1 q (by have := hS.1; omega)).trans (hS.2.1 q h1 h2), hS.2.2⟩ hl
  rw [List.map_cons, z_ref_new G rfl] at hK
  exact hK
/-- a new object: its class ci, its fields' default values fs -/
def z_okN (own : String) (idx ci : Nat) (fs : List Value) : Prop := ∃ (q : vw_C) (ty : Nat → FieldType), z_cl[ci]? = some q ∧ (∀ w ∈ u_ws q.1 q.2.1 q.2.2, w ∈ z_T) ∧ (∀ k, k < q.2.2 → parseFieldDescriptor (q.2.1 k).2.2.1 = some (ty k)) ∧ Cond.classLink own idx q.1 ∈ z_T ∧ Cond.instantiable q.1 q.2.2 ∈ z_T ∧ Cond.initialized q.1 ∈ z_T ∧ fs.length = q.2.2 ∧ (∀ j, j < q.2.2 → defaultValue (ty j) = vp_V fs j) ∧ ∀ G : z_G, fs.map (z_v G) = fs
theorem z_new {idx ci : Nat} (fs : List Value) (n : Nat) (htg : tg = true) (hd : decode (z_b μ) pc = .ok (.new idx, 3)) (hok : z_okN (z_y μ).cls idx ci fs) (hc : uc + 1 ≤ (z_rm μ).cells ∧ us + fs.length ≤ (z_rm μ).slots) (hn : pc + 3 = n) (k : z_go μ tg n L (.ref (200 + w.length) :: st) (w ++ [.inr (ci, fs)]) (uc + 1) (us + fs.length) Q) : z_go μ tg pc L st w uc us Q := by
  subst hn
  intro l G p e s m args below meth c H locs ls hH hP hS hl
  obtain ⟨⟨C, T, N⟩, ty, hcl, hin, hty, h1, h2, h3, hlen, hdef, hmap⟩ := hok
  have hsz : H.size = G.2.2.1 + w.length := hP.1.2 htg
  have hKn := hP.2.2.1 ci _ hcl
  rw [hlen] at hc k
  refine W.newcK (h := G.2.2.1 + w.length) hH.1 hH.2.1 hH.2.2.2.2.1 (hH.2.2.2.2.2.1 _ h1) (hH.2.2.2.2.2.1 _ h2) (hH.2.2.2.2.2.1 _ h3) rfl hd hc.1 hc.2 hKn.2.1 hsz fun H1 kC hkC e1 z1 o1 => ?_
  have hP2 : va_P G.1 z_cl (z_ws G 0 (w ++ [.inr (ci, fs)])) H1 := by
    rw [z_ws_app]
    refine (hP.2.1.kept fun q x hx => o1 x.1 (by have := (hP.2.1 q x hx).lt; omega)).app ?_
    intro q x hx
    have hz : q < 1 := (List.getElem?_eq_some_iff.mp hx).1
    rw [show q = 0 by omega] at hx
    cases hx
    refine ⟨_, hcl, ?_⟩
    show t_OB (G.2.2.1 + (0 + w.length)) _ _ _ H1 (vp_V (fs.map (z_v G)))
    rw [hmap G, Nat.zero_add]
    exact (u_born ty hH.2.2.2.2.2.1 hin hKn hkC e1 hty).to hdef
  have hK := k l G p e s m args below meth c H1 locs ls hH ⟨by rw [z1, List.length_append]; simp only [List.length_cons, List.length_nil]; omega, hP2, hP.2.2⟩ ⟨by have := hS.1; omega, fun q h1 h2 => (o1 q (by have := hS.1; omega)).trans (hS.2.1 q h1 h2), hS.2.2⟩ hl
  rw [List.map_cons, z_ref_new G rfl] at hK
  exact hK
theorem z_gets {C nm ds : String} {idx : Nat} (v : Value) (n : Nat) (hd : decode (z_b μ) pc = .ok (.getstatic idx, 3)) (hq : (C, nm, ds, v) ∈ z_xz) (hlk : Cond.fieldLink (z_y μ).cls idx C nm ds ∈ z_T) (hn : pc + 3 = n) (k : z_go μ tg n L (v :: st) w uc us Q) : z_go μ tg pc L st w uc us Q := by
  subst hn
  intro l G p e s m args below meth c H locs ls hH hP hS hl
  exact va_gets hH.1 hH.2.1 (hH.2.2.2.2.2.2.2.2.2.1 _ hq) hS hH.2.2.2.2.1 (hH.2.2.2.2.2.1 _ hlk) (fun _ h => h) hd (k l G p e s m args below meth c H locs ls hH hP hS hl)
theorem z_getsN {C nm ds host : String} {idx : Nat} (v : Value) (n : Nat) (hd : decode (z_b μ) pc = .ok (.getstatic idx, 3)) (hq : (C, nm, ds, v) ∈ z_xz) (hlk : ((z_y μ).cls, idx, C, nm, ds, host) ∈ z_xl) (hn : pc + 3 = n) (k : z_go μ tg n L (v :: st) w uc us Q) : z_go μ tg pc L st w uc us Q := by
  subst hn
  intro l G p e s m args below meth c H locs ls hH hP hS hl
  exact va_getsN hH.1 hH.2.1 (hH.2.2.2.2.2.2.2.2.2.1 _ hq) hS hH.2.2.2.2.1 (va_Nw.use rfl (hH.2.2.2.2.2.2.2.2.2.2.2.2.2.2.2.2.1 _ hlk)) (fun _ h => h) hd (k l G p e s m args below meth c H locs ls hH hP hS hl)
theorem z_getX {o nm ds : String} {N idx b : Nat} {ad : Nat → Nat} {f : Nat → Value} (i n : Nat) (hd : decode (z_b μ) pc = .ok (.getfield idx, 3)) (hq : (o, nm, ds, N, ad, f) ∈ z_xf) (hi : i < N) (hb : b = ad i) (hlk : Cond.fieldLink (z_y μ).cls idx o nm ds ∈ z_T) (hn : pc + 3 = n) (k : z_go μ tg n L (f i :: st) w uc us Q) : z_go μ tg pc L (.ref b :: st) w uc us Q := by
  subst hn
  subst hb
  intro l G p e s m args below meth c H locs ls hH hP hS hl
  exact va_getX (i := i) (N := N) (v := fun i => z_v G (f i)) (ad := fun i => z_a G (ad i)) hH.1 hH.2.1 (fun i hi => hH.2.2.2.2.2.2.2.2.2.2.2.2.1 _ hq i hi) hi hS hH.2.2.2.2.1 (hH.2.2.2.2.2.1 _ hlk) (fun _ h => h) hd (k l G p e s m args below meth c H locs ls hH hP hS hl)
theorem z_tiald {N b : Nat} {ad ln : Nat → Nat} {f : Nat → Nat → Value} {x : Int32} (i n : Nat) (hd : decode (z_b μ) pc = .ok (.iaload, 1)) (hq : ((.int : FieldType), N, ad, ln, f) ∈ z_xt) (hi : i < N) (hb : b = ad i) (hin : vp_in x (ln i)) (hn : pc + 1 = n) (k : z_go μ tg n L (f i x.toNatClampNeg :: st) w uc us Q) : z_go μ tg pc L (.int x :: .ref b :: st) w uc us Q := by
  subst hn
  subst hb
  intro l G p e s m args below meth c H locs ls hH hP hS hl
  exact va_ti hH.1 hH.2.1 (hH.2.2.2.2.2.2.2.2.2.2.1 _ hq i hi) hS hin rfl hd (k l G p e s m args below meth c H locs ls hH hP hS hl)
theorem z_tbald {N b : Nat} {ad ln : Nat → Nat} {f : Nat → Nat → Value} {x : Int32} (i n : Nat) (hd : decode (z_b μ) pc = .ok (.baload, 1)) (hq : ((.byte : FieldType), N, ad, ln, f) ∈ z_xt) (hi : i < N) (hb : b = ad i) (hin : vp_in x (ln i)) (hn : pc + 1 = n) (k : z_go μ tg n L (f i x.toNatClampNeg :: st) w uc us Q) : z_go μ tg pc L (.int x :: .ref b :: st) w uc us Q := by
  subst hn
  subst hb
  intro l G p e s m args below meth c H locs ls hH hP hS hl
  exact va_tb hH.1 hH.2.1 (hH.2.2.2.2.2.2.2.2.2.2.1 _ hq i hi) hS hin rfl hd (k l G p e s m args below meth c H locs ls hH hP hS hl)
theorem z_taald {N b : Nat} {C : String} {ad ln : Nat → Nat} {f : Nat → Nat → Value} {x : Int32} (i n : Nat) (hd : decode (z_b μ) pc = .ok (.aaload, 1)) (hq : ((FieldType.object C), N, ad, ln, f) ∈ z_xt) (hi : i < N) (hb : b = ad i) (hin : vp_in x (ln i)) (hn : pc + 1 = n) (k : z_go μ tg n L (f i x.toNatClampNeg :: st) w uc us Q) : z_go μ tg pc L (.int x :: .ref b :: st) w uc us Q := by
  subst hn
  subst hb
  intro l G p e s m args below meth c H locs ls hH hP hS hl
  exact vb_tq hH.1 hH.2.1 (hH.2.2.2.2.2.2.2.2.2.2.1 _ hq i hi) hS hin rfl hd (k l G p e s m args below meth c H locs ls hH hP hS hl)
theorem z_talen {N b : Nat} {ty : FieldType} {ad ln : Nat → Nat} {f : Nat → Nat → Value} (i n : Nat) (hd : decode (z_b μ) pc = .ok (.arraylength, 1)) (hq : (ty, N, ad, ln, f) ∈ z_xt) (hi : i < N) (hb : b = ad i) (hn : pc + 1 = n) (k : z_go μ tg n L (.int (Int32.ofNat (ln i)) :: st) w uc us Q) : z_go μ tg pc L (.ref b :: st) w uc us Q := by
  subst hn
  subst hb
  intro l G p e s m args below meth c H locs ls hH hP hS hl
  obtain ⟨cell, h1, h2, h3, h4, h5, h6, h7⟩ := hH.2.2.2.2.2.2.2.2.2.2.1 _ hq i hi
  exact W.alen (n := Int32.ofNat (ln i)) hH.1 hH.2.1 (by rw [hS.2.1 _ (Array.getElem?_eq_some_iff.mp h1).1 h7]; exact h1) h2 h5 rfl rfl hd (k l G p e s m args below meth c H locs ls hH hP hS hl)
/-- what stands behind a call -/
theorem z_callx {l : Launch} {G : z_G} {p : Program} {e : Env} {s : State} {m : MethodId} {args : Array Value} {below : List Frame} {meth : Method} {c : Code} {H : Heap} {locs : List Loc} {ls : Array Slot} {mc ms : Nat} {st0 : List Value} {a : Array Value} (hH : z_H μ G p s m args meth c) (hS : va_S (z_A G) s.heap H locs) (hl : lv_has ls (z_n μ) (z_L G L))
    (hr : va_Run p l e (z_rm μ) s m args below meth c H locs uc us mc ms (F0 m pc ls st0) (st.map (z_v G)) (z_Q G tg Q1 a) (z_A G)) (k : ∀ r w1, Q1 r w1 → z_go μ tg (pc + 3) L (r.toList ++ st) w1 (uc + mc) (us + ms) Q) :
    W p l e (z_rm μ) s m args below meth c H locs uc us (MQ below (z_Q G tg Q) args s (z_rm μ).cells (z_rm μ).slots (z_A G)) (F0 m pc ls st0) := by
  intro T hT X
  obtain ⟨v, st₀, t, T', L9, h0, X', hL, e1, e2, ⟨⟨r, w1, q1, hv, qP, qX⟩, hz, hk⟩, st9⟩ := hr T hT X
  cases hv
  rw [h0] at hz hk
  have hvm : s.vm.Alike t.vm := by rw [← e2]; exact X'.warmed.alike
  have hP1 : z_P G tg w1 s T'.heap := by rw [e1]; exact qP.alike hvm.symm
  have hS1 : va_S (z_A G) s.heap T'.heap (locs ++ L9) := ⟨Nat.le_trans hS.1 (by rw [e1]; exact hz), fun q g1 g2 => by rw [e1, hk q (Nat.lt_of_lt_of_le g1 hS.1) g2]; exact hS.2.1 q g1 g2, fun q hq => by
      rcases List.mem_append.mp hq with h | h
      · exact hS.2.2 q h
      · exact hL q h⟩
  have hW := k r w1 q1 l G p e s m args below meth c T'.heap (locs ++ L9) ls hH hP1 hS1 hl
  have he : (r.toList ++ st).map (z_v G) = (r.map (z_v G)).toList ++ st.map (z_v G) := by cases r <;> simp
  rw [he] at hW
  obtain ⟨t2, a1, b1⟩ := hW T' rfl X'
  exact ⟨t2, st9 t2 a1, b1⟩
theorem z_blind (G : z_G) (av : List Value) (w : List va_E) : FrameBlind (va_Pc av (fun U => z_P G tg w U U.heap ∧ z_X G U U.heap)) := by
  intro a U g mk h
  obtain ⟨h1, h2, h3⟩ := h
  exact ⟨h1, h2.alike (Vm.Alike.refl U.vm), z_X.same rfl h3⟩
theorem z_pre {G : z_G} {s : State} {H : Heap} {locs : List Loc} (av : List Value) (hX : z_X G s s.heap) (hP : z_P G tg w s H) (hS : va_S (z_A G) s.heap H locs) : ∀ U : State, U.heap = H → s.WarmedH U.vm → va_Pc av (fun U => z_P G tg w U U.heap ∧ z_X G U U.heap) av.toArray U := fun U hU hW => ⟨rfl, by rw [hU]; exact hP.alike hW.alike, z_X_end hX hS hU hW⟩
def z_fit (μ ν : z_Mt) : Prop := (z_rm ν).frames + 1 ≤ (z_rm μ).frames ∧ 8 + (z_n ν + 11) + (z_rm ν).locals ≤ (z_rm μ).locals
def z_okD (y : MethodName) (n : Nat) : Prop := y.cls ≠ "java/lang/invoke/MethodHandle" ∧ y.cls ≠ "java/lang/invoke/VarHandle" ∧ (parseMethodDescriptor y.desc).map (fun d => d.parameters.length) = some n
/-- a call site: the entry idx links to the method ν of n arguments -/
def z_okV (μ ν : z_Mt) (idx n : Nat) : Prop := (∀ w ∈ [Cond.methodLink (z_y μ).cls idx (z_y ν), .instanceMethod (z_y ν), .selects (z_y ν).cls (z_y ν) (z_y ν), .initialized (z_y ν).cls, .code (z_y ν) (z_b ν) (z_n ν) (z_r ν)], w ∈ z_T) ∧ z_okD (z_y ν) n ∧ z_fit μ ν
theorem z_callV0 {idx b na : Nat} {As : List Value} (hd : decode (z_b μ) pc = .ok (.invokevirtual idx, 3)) (hok : z_okV μ ν idx na) (hna : As.length = na) (hst : (st.map fun v => v.category).sum ≤ 8)
    (hrv : ∀ (G : z_G) (s : State) (H : Heap) (locs : List Loc), z_X G s s.heap → z_P G tg w s H → va_S (z_A G) s.heap H locs → ∃ cell : Cell, H[z_a G b]? = some cell ∧ cell.vm.isStatics = false ∧ s.vm.findClass (z_y ν).cls = some cell.cls)
    (hc : uc + (z_rm ν).cells ≤ (z_rm μ).cells ∧ us + (z_rm ν).slots ≤ (z_rm μ).slots) (hM : z_M ν tg (.ref b :: As) w Q1) (k : ∀ r w1, Q1 r w1 → z_go μ tg (pc + 3) L (r.toList ++ st) w1 (uc + (z_rm ν).cells) (us + (z_rm ν).slots) Q) : z_go μ tg pc L (As.reverse ++ .ref b :: st) w uc us Q := by
  intro l G p e s m args below meth c H locs ls hH hP hS hl
  have he : (As.reverse ++ .ref b :: st).map (z_v G) = (As.map (z_v G)).reverse ++ Value.ref (z_a G b) :: st.map (z_v G) := by simp [z_v]
  rw [he]
  refine z_callx (a := (Value.ref (z_a G b) :: As.map (z_v G)).toArray) hH hS hl (va_runV (As := As.map (z_v G)) (rest := st.map (z_v G)) ⟨hH.1, hH.2.1, hH.2.2.2.1, hH.2.2.2.2.1, hH.2.2.2.2.2.1⟩ (hM l G) (cwV na hH.2.2.2.2.2.1 (z_goodC hok.1) rfl rfl rfl ⟨rfl, hok.2.1⟩ hok.2.2) ⟨z_blind G _ w, hrv G s H locs hH.2.2.2.2.2.2.2.2.2 hP hS, z_pre _ hH.2.2.2.2.2.2.2.2.2 hP hS⟩ rfl (by rw [List.length_map]; exact hna) hl.1 rfl (lv_room (by rw [z_sum]; exact hst)) hd hc) k
theorem z_recv {ci j b : Nat} {q : vw_C} {fs : List Value} (hb : b = 200 + j) (hw : w[j]? = some (.inr (ci, fs))) (hq : z_cl[ci]? = some q) (G : z_G) (s : State) (H : Heap) (locs : List Loc) (_ : z_X G s s.heap) (hP : z_P G tg w s H) (_ : va_S (z_A G) s.heap H locs) : ∃ cell : Cell, H[z_a G b]? = some cell ∧ cell.vm.isStatics = false ∧ s.vm.findClass q.1 = some cell.cls := by
  subst hb
  rw [z_a_new]
  exact va_recv hP.2.2 hP.2.1 hq (z_ws_at G hw)
theorem z_recvX {C : String} {N b : Nat} {ad : Nat → Nat} (i : Nat) (hq : (C, N, ad) ∈ z_xo) (hi : i < N) (hb : b = ad i) (G : z_G) (s : State) (H : Heap) (locs : List Loc) (hX : z_X G s s.heap) (_ : z_P G tg w s H) (hS : va_S (z_A G) s.heap H locs) : ∃ cell : Cell, H[z_a G b]? = some cell ∧ cell.vm.isStatics = false ∧ s.vm.findClass C = some cell.cls := by
  subst hb
  obtain ⟨cell, h1, h2, h3, -⟩ := (hX.2.2.1 _ hq i hi).kept hS.2.1
  exact ⟨cell, h1, h2, h3⟩
/-- an own object's method -/
theorem z_callV {idx ci b na : Nat} {q : vw_C} {fs : List Value} (As : List Value) (j n : Nat) (hd : decode (z_b μ) pc = .ok (.invokevirtual idx, 3)) (hok : z_okV μ ν idx na) (hna : As.length = na) (hst : (st.map fun v => v.category).sum ≤ 8) (hb : b = 200 + j) (hw : w[j]? = some (.inr (ci, fs))) (hq : z_cl[ci]? = some q) (hqc : q.1 = (z_y ν).cls)
    (hc : uc + (z_rm ν).cells ≤ (z_rm μ).cells ∧ us + (z_rm ν).slots ≤ (z_rm μ).slots) (hn : pc + 3 = n) (hM : z_M ν tg (.ref b :: As) w Q1) (k : ∀ r w1, Q1 r w1 → z_go μ tg n L (r.toList ++ st) w1 (uc + (z_rm ν).cells) (us + (z_rm ν).slots) Q) : z_go μ tg pc L (As.reverse ++ .ref b :: st) w uc us Q := by
  subst hn
  exact z_callV0 hd hok hna hst (by rw [← hqc]; exact z_recv hb hw hq) hc hM k
def z_okS (μ ν : z_Mt) (idx n : Nat) : Prop := (∀ w ∈ [Cond.methodLink (z_y μ).cls idx (z_y ν), .static (z_y ν), .initialized (z_y ν).cls, .code (z_y ν) (z_b ν) (z_n ν) (z_r ν)], w ∈ z_T) ∧ z_okD (z_y ν) n ∧ z_fit μ ν
theorem z_callS {idx na : Nat} (As : List Value) (n : Nat) (hd : decode (z_b μ) pc = .ok (.invokestatic idx, 3)) (hok : z_okS μ ν idx na) (hna : As.length = na) (hst : (st.map fun v => v.category).sum ≤ 8)
    (hc : uc + (z_rm ν).cells ≤ (z_rm μ).cells ∧ us + (z_rm ν).slots ≤ (z_rm μ).slots) (hn : pc + 3 = n) (hM : z_M ν tg As w Q1) (k : ∀ r w1, Q1 r w1 → z_go μ tg n L (r.toList ++ st) w1 (uc + (z_rm ν).cells) (us + (z_rm ν).slots) Q) : z_go μ tg pc L (As.reverse ++ st) w uc us Q := by
  subst hn
  intro l G p e s m args below meth c H locs ls hH hP hS hl
  have he : (As.reverse ++ st).map (z_v G) = (As.map (z_v G)).reverse ++ st.map (z_v G) := by simp
  rw [he]
  exact z_callx (a := (As.map (z_v G)).toArray) hH hS hl (va_runS (As := As.map (z_v G)) (rest := st.map (z_v G)) ⟨hH.1, hH.2.1, hH.2.2.2.1, hH.2.2.2.2.1, hH.2.2.2.2.2.1⟩ (hM l G) (va_cwS na hH.2.2.2.2.2.1 (z_goodC hok.1) rfl rfl rfl hok.2.1 hok.2.2) ⟨z_blind G _ w, z_pre _ hH.2.2.2.2.2.2.2.2.2 hP hS⟩ rfl (by rw [List.length_map]; exact hna) hl.1 rfl (lv_room (by rw [z_sum]; exact hst)) hd hc) k
def z_okSN (μ ν : z_Mt) (idx n : Nat) (host : String) : Prop := ((z_y μ).cls, idx, z_y ν, host) ∈ z_xm ∧ (∀ w ∈ [Cond.static (z_y ν), .initialized (z_y ν).cls, .code (z_y ν) (z_b ν) (z_n ν) (z_r ν)], w ∈ z_T) ∧ z_okD (z_y ν) n ∧ z_fit μ ν
theorem z_callSN {idx na : Nat} {host : String} (As : List Value) (n : Nat) (hd : decode (z_b μ) pc = .ok (.invokestatic idx, 3)) (hok : z_okSN μ ν idx na host) (hna : As.length = na) (hst : (st.map fun v => v.category).sum ≤ 8)
    (hc : uc + (z_rm ν).cells ≤ (z_rm μ).cells ∧ us + (z_rm ν).slots ≤ (z_rm μ).slots) (hn : pc + 3 = n) (hM : z_M ν tg As w Q1) (k : ∀ r w1, Q1 r w1 → z_go μ tg n L (r.toList ++ st) w1 (uc + (z_rm ν).cells) (us + (z_rm ν).slots) Q) : z_go μ tg pc L (As.reverse ++ st) w uc us Q := by
  subst hn
  intro l G p e s m args below meth c H locs ls hH hP hS hl
  have he : (As.reverse ++ st).map (z_v G) = (As.map (z_v G)).reverse ++ st.map (z_v G) := by simp
  rw [he]
  have hts := hH.2.2.2.2.2.1
  exact z_callx (a := (As.map (z_v G)).toArray) hH hS hl (va_runSN (As := As.map (z_v G)) (rest := st.map (z_v G)) ⟨hH.1, hH.2.1, hH.2.2.2.1, hH.2.2.2.2.1, hts⟩ (hM l G) ⟨va_cnB na hts (z_goodC (l := [.code (z_y ν) (z_b ν) (z_n ν) (z_r ν)]) (fun w h => hok.2.1 w (List.mem_cons_of_mem _ (List.mem_cons_of_mem _ h)))) rfl rfl rfl (hH.2.2.2.2.2.2.2.2.2.2.2.2.2.2.2.1 _ hok.1) (hts _ (hok.2.1 _ (List.mem_cons_of_mem _ List.mem_cons_self))) hok.2.2.1 hok.2.2.2, hts _ (hok.2.1 _ List.mem_cons_self), trivial⟩ ⟨z_blind G _ w, z_pre _ hH.2.2.2.2.2.2.2.2.2 hP hS⟩ rfl (by rw [List.length_map]; exact hna) hl.1 rfl (lv_room (by rw [z_sum]; exact hst)) hd hc) k
def z_okI (μ ν : z_Mt) (idx n : Nat) : Prop := (∀ w ∈ [Cond.methodLink (z_y μ).cls idx (z_y ν), .instanceMethod (z_y ν), .initialized (z_y ν).cls, .code (z_y ν) (z_b ν) (z_n ν) none], w ∈ z_T) ∧ z_r ν = none ∧ (z_y ν).name = "<init>" ∧ z_okD (z_y ν) n ∧ z_fit μ ν
theorem z_callI {idx b na : Nat} (As : List Value) (n : Nat) (hd : decode (z_b μ) pc = .ok (.invokespecial idx, 3)) (hok : z_okI μ ν idx na) (hna : As.length = na) (hst : (st.map fun v => v.category).sum ≤ 8)
    (hc : uc + (z_rm ν).cells ≤ (z_rm μ).cells ∧ us + (z_rm ν).slots ≤ (z_rm μ).slots) (hn : pc + 3 = n) (hM : z_M ν tg (.ref b :: As) w Q1) (k : ∀ r w1, Q1 r w1 → z_go μ tg n L (r.toList ++ st) w1 (uc + (z_rm ν).cells) (us + (z_rm ν).slots) Q) : z_go μ tg pc L (As.reverse ++ .ref b :: st) w uc us Q := by
  subst hn
  intro l G p e s m args below meth c H locs ls hH hP hS hl
  have he : (As.reverse ++ .ref b :: st).map (z_v G) = (As.map (z_v G)).reverse ++ Value.ref (z_a G b) :: st.map (z_v G) := by simp [z_v]
  rw [he]
  have hts := hH.2.2.2.2.2.1
  obtain ⟨h1, h2, h3, h4, h5⟩ := hok
  have hM := hM l G
  unfold z_wd at hM
  rw [h2] at hM
  exact z_callx (a := (Value.ref (z_a G b) :: As.map (z_v G)).toArray) hH hS hl (va_runI (As := As.map (z_v G)) (rest := st.map (z_v G)) ⟨hH.1, hH.2.1, hH.2.2.2.1, hH.2.2.2.2.1, hts⟩ hM (cwI na hts (z_goodC (l := [.code (z_y ν) (z_b ν) (z_n ν) none]) (fun w h => h1 w (List.mem_cons_of_mem _ (List.mem_cons_of_mem _ (List.mem_cons_of_mem _ h))))) rfl rfl rfl (hts _ (h1 _ (List.mem_cons_of_mem _ (List.mem_cons_of_mem _ List.mem_cons_self)))) (hts _ (h1 _ List.mem_cons_self)) (hts _ (h1 _ (List.mem_cons_of_mem _ List.mem_cons_self))) h3 h4 h5) ⟨z_blind G _ w, z_pre _ hH.2.2.2.2.2.2.2.2.2 hP hS⟩ rfl (by rw [List.length_map]; exact hna) hl.1 rfl (lv_room (by rw [z_sum]; exact hst)) hd hc) k
def z_okIN (μ ν : z_Mt) (idx n : Nat) (host : String) : Prop := ((z_y μ).cls, idx, z_y ν, host) ∈ z_xm ∧ (∀ w ∈ [Cond.instanceMethod (z_y ν), .initialized (z_y ν).cls, .code (z_y ν) (z_b ν) (z_n ν) none], w ∈ z_T) ∧ z_r ν = none ∧ (z_y ν).name = "<init>" ∧ z_okD (z_y ν) n ∧ z_fit μ ν
theorem z_callIN {idx b na : Nat} {host : String} (As : List Value) (n : Nat) (hd : decode (z_b μ) pc = .ok (.invokespecial idx, 3)) (hok : z_okIN μ ν idx na host) (hna : As.length = na) (hst : (st.map fun v => v.category).sum ≤ 8)
    (hc : uc + (z_rm ν).cells ≤ (z_rm μ).cells ∧ us + (z_rm ν).slots ≤ (z_rm μ).slots) (hn : pc + 3 = n) (hM : z_M ν tg (.ref b :: As) w Q1) (k : ∀ r w1, Q1 r w1 → z_go μ tg n L (r.toList ++ st) w1 (uc + (z_rm ν).cells) (us + (z_rm ν).slots) Q) : z_go μ tg pc L (As.reverse ++ .ref b :: st) w uc us Q := by
  subst hn
  intro l G p e s m args below meth c H locs ls hH hP hS hl
  have he : (As.reverse ++ .ref b :: st).map (z_v G) = (As.map (z_v G)).reverse ++ Value.ref (z_a G b) :: st.map (z_v G) := by simp [z_v]
  rw [he]
  have hts := hH.2.2.2.2.2.1
  obtain ⟨h0, h1, h2, h3, h4, h5⟩ := hok
  have hM := hM l G
  unfold z_wd at hM
  rw [h2] at hM
  exact z_callx (a := (Value.ref (z_a G b) :: As.map (z_v G)).toArray) hH hS hl (va_runIN (As := As.map (z_v G)) (rest := st.map (z_v G)) ⟨hH.1, hH.2.1, hH.2.2.2.1, hH.2.2.2.2.1, hts⟩ hM ⟨va_cnB na hts (z_goodC (l := [.code (z_y ν) (z_b ν) (z_n ν) none]) (fun w h => h1 w (List.mem_cons_of_mem _ (List.mem_cons_of_mem _ h)))) rfl rfl rfl (hH.2.2.2.2.2.2.2.2.2.2.2.2.2.2.2.1 _ h0) (hts _ (h1 _ (List.mem_cons_of_mem _ List.mem_cons_self))) h4 h5, h3, hts _ (h1 _ List.mem_cons_self)⟩ ⟨z_blind G _ w, z_pre _ hH.2.2.2.2.2.2.2.2.2 hP hS⟩ rfl (by rw [List.length_map]; exact hna) hl.1 rfl (lv_room (by rw [z_sum]; exact hst)) hd hc) k
end ZA
end
section
section ZB
variable {μ ν : z_Mt} {tg : Bool} {pc : Nat} {L : List (Nat × Value)} {st : List Value} {w : List va_E} {uc us : Nat} {Q Q1 : z_R}
theorem z_all {l : List Cond} (h : l.all (fun w => decide (w ∈ lw_tbl) && goodWord w) = true) : ∀ w ∈ l, w ∈ z_T := by
  intro w hw
  have h1 := List.all_eq_true.mp h w hw
  simp only [Bool.and_eq_true, decide_eq_true_eq] at h1
  exact List.mem_filter.mpr h1
theorem z_one {w : Cond} (h : (decide (w ∈ lw_tbl) && goodWord w) = true) : w ∈ z_T := by
  simp only [Bool.and_eq_true, decide_eq_true_eq] at h
  exact List.mem_filter.mpr h
theorem z_max {idx : Nat} {x y : Int32} (n : Nat) (hd : decode (z_b μ) pc = .ok (.invokestatic idx, 3)) (hk : ∀ w ∈ [Cond.methodLink (z_y μ).cls idx Lib.Math.max.name, .static Lib.Math.max.name, .initialized "java/lang/Math", .code Lib.Math.max.name Lib.Math.max.code 2 (some .int)], w ∈ z_T) (hf : 1 ≤ (z_rm μ).frames ∧ (st.map fun v => v.category).sum + 13 ≤ (z_rm μ).locals ∧ uc ≤ (z_rm μ).cells ∧ us ≤ (z_rm μ).slots) (hn : pc + 3 = n) (k : z_go μ tg n L (.int (if x < y then y else x) :: st) w uc us Q) : z_go μ tg pc L (.int y :: .int x :: st) w uc us Q := by
  subst hn
  intro l G p e s m args below meth c H locs ls hH hP hS hl
  have hts := hH.2.2.2.2.2.1
  exact va_mmax hH.1 hH.2.1 (hH.2.2.2.1.trans hl.1.symm) hH.2.2.2.2.1 (hts _ (hk _ List.mem_cons_self)) (hts _ (hk _ (List.mem_cons_of_mem _ List.mem_cons_self))) (hts _ (hk _ (List.mem_cons_of_mem _ (List.mem_cons_of_mem _ List.mem_cons_self)))) (hts _ (hk _ (List.mem_cons_of_mem _ (List.mem_cons_of_mem _ (List.mem_cons_of_mem _ List.mem_cons_self))))) hf.1 (by rw [z_sum]; exact hf.2.1) hf.2.2.1 hf.2.2.2 hd (k l G p e s m args below meth c H locs ls hH hP hS hl)
theorem z_min {idx : Nat} {x y : Int32} (n : Nat) (hd : decode (z_b μ) pc = .ok (.invokestatic idx, 3)) (hk : ∀ w ∈ [Cond.methodLink (z_y μ).cls idx Lib.Math.min.name, .static Lib.Math.min.name, .initialized "java/lang/Math", .code Lib.Math.min.name Lib.Math.min.code 2 (some .int)], w ∈ z_T) (hf : 1 ≤ (z_rm μ).frames ∧ (st.map fun v => v.category).sum + 13 ≤ (z_rm μ).locals ∧ uc ≤ (z_rm μ).cells ∧ us ≤ (z_rm μ).slots) (hn : pc + 3 = n) (k : z_go μ tg n L (.int (if y < x then y else x) :: st) w uc us Q) : z_go μ tg pc L (.int y :: .int x :: st) w uc us Q := by
  subst hn
  intro l G p e s m args below meth c H locs ls hH hP hS hl
  have hts := hH.2.2.2.2.2.1
  exact va_mmin hH.1 hH.2.1 (hH.2.2.2.1.trans hl.1.symm) hH.2.2.2.2.1 (hts _ (hk _ List.mem_cons_self)) (hts _ (hk _ (List.mem_cons_of_mem _ List.mem_cons_self))) (hts _ (hk _ (List.mem_cons_of_mem _ (List.mem_cons_of_mem _ List.mem_cons_self)))) (hts _ (hk _ (List.mem_cons_of_mem _ (List.mem_cons_of_mem _ (List.mem_cons_of_mem _ List.mem_cons_self))))) hf.1 (by rw [z_sum]; exact hf.2.1) hf.2.2.1 hf.2.2.2 hd (k l G p e s m args below meth c H locs ls hH hP hS hl)
theorem z_obj {idx b : Nat} (n : Nat) (hd : decode (z_b μ) pc = .ok (.invokespecial idx, 3)) (hk : ∀ w ∈ [Cond.methodLink (z_y μ).cls idx Lib.objectInit, .instanceMethod Lib.objectInit, .code Lib.objectInit ⟨#[0xb1]⟩ 1 none], w ∈ z_T) (hf : 1 ≤ (z_rm μ).frames ∧ (st.map fun v => v.category).sum + 12 ≤ (z_rm μ).locals) (hn : pc + 3 = n) (k : z_go μ tg n L st w uc us Q) : z_go μ tg pc L (.ref b :: st) w uc us Q := by
  subst hn
  intro l G p e s m args below meth c H locs ls hH hP hS hl
  have hts := hH.2.2.2.2.2.1
  exact W.objInit hH.1 hH.2.1 hH.2.2.2.2.1 (hts _ (hk _ List.mem_cons_self)) (hts _ (hk _ (List.mem_cons_of_mem _ List.mem_cons_self))) (hts _ (hk _ (List.mem_cons_of_mem _ (List.mem_cons_of_mem _ List.mem_cons_self)))) rfl (hl.1.trans hH.2.2.2.1.symm) rfl hd hf.1 (by show 2 * 0 + _ + 12 ≤ _; rw [z_sum]; have := hf.2; omega) (k l G p e s m args below meth c H locs ls hH hP hS hl)
theorem z_copy {idx a0 a1 N0 N1 : Nat} {f g : Nat → Int32} {sp dp m9 : Int32} (j0 j1 : Nat) (w2 : List va_E) (n : Nat) (htg : tg = false) (hd : decode (z_b μ) pc = .ok (.invokestatic idx, 3)) (hk : ∀ w ∈ [Cond.methodLink (z_y μ).cls idx arraycopyName, .native arraycopyName, .static arraycopyName, .initialized "java/lang/System"], w ∈ z_T) (hb0 : a0 = 200 + j0) (hb1 : a1 = 200 + j1) (hw0 : w[j0]? = some (.inl (1, N0, .inl f))) (hw1 : w[j1]? = some (.inl (1, N1, .inl g)))
    (h1 : ¬ sp < 0) (h2 : ¬ dp < 0) (h3 : ¬ m9 < 0) (h4 : sp.toNatClampNeg + m9.toNatClampNeg ≤ N0) (h5 : dp.toNatClampNeg + m9.toNatClampNeg ≤ N1) (hf : 1 ≤ (z_rm μ).frames ∧ (st.map fun v => v.category).sum + (nativeFrameWords "java/lang/System" "arraycopy" 5 + 11) ≤ (z_rm μ).locals)
    (hw2 : w.set j1 (.inl (1, N1, .inl (va_cpy f g sp.toNatClampNeg dp.toNatClampNeg m9.toNatClampNeg))) = w2) (hn : pc + 3 = n) (k : z_go μ tg n L st w2 uc us Q) : z_go μ tg pc L (.int m9 :: .int dp :: .ref a1 :: .int sp :: .ref a0 :: st) w uc us Q := by
  subst hn
  subst hw2
  intro l G p e s m args below meth c H locs ls hH hP hS hl
  have hts := hH.2.2.2.2.2.1
  rw [List.map_cons, List.map_cons, List.map_cons, List.map_cons, List.map_cons, z_ref_new G hb0, z_ref_new G hb1]
  refine va_copyi (D := G.1) (ty := .int) hH.1 hH.2.1 (hH.2.2.2.1.trans hl.1.symm) hH.2.2.2.2.1 (hts _ (hk _ List.mem_cons_self)) (hts _ (hk _ (List.mem_cons_of_mem _ List.mem_cons_self))) (hts _ (hk _ (List.mem_cons_of_mem _ (List.mem_cons_of_mem _ List.mem_cons_self)))) (hts _ (hk _ (List.mem_cons_of_mem _ (List.mem_cons_of_mem _ (List.mem_cons_of_mem _ List.mem_cons_self))))) hP.2.2 hP.2.1 (z_D G w) hS j0 j1 1 1 (z_ws_at G hw0) (z_ws_at G hw1) rfl rfl rfl h1 h2 h3 h4 h5 (fun i _ => rfl) hf.1 (by rw [z_sum]; exact hf.2) hd fun H1 locs1 hP1 _ hS1 => ?_
  have he : (G.2.2.1 + j1, (Sum.inl (G.2.1 1, N1, .inl (va_cpy f g sp.toNatClampNeg dp.toNatClampNeg m9.toNatClampNeg)) : va_E)) = (G.2.2.1 + j1, z_e G (.inl (1, N1, .inl (va_cpy f g sp.toNatClampNeg dp.toNatClampNeg m9.toNatClampNeg)))) := rfl
  rw [he, z_ws_set0] at hP1
  refine k l G p e s m args below meth c H1 locs1 ls hH ⟨⟨?_, fun h => by rw [htg] at h; cases h⟩, hP1, hP.2.2⟩ hS1 hl
  have hlen : j1 < w.length := (List.getElem?_eq_some_iff.mp hw1).1
  have hpos : 0 < w.length := by omega
  have hlast : (w.set j1 (.inl (1, N1, .inl (va_cpy f g sp.toNatClampNeg dp.toNatClampNeg m9.toNatClampNeg))))[w.length - 1]? = some ((w.set j1 (.inl (1, N1, .inl (va_cpy f g sp.toNatClampNeg dp.toNatClampNeg m9.toNatClampNeg))))[w.length - 1]'(by rw [List.length_set]; omega)) := List.getElem?_eq_getElem _
  have h9 := (hP1 _ _ (z_ws_at G hlast)).lt
  rw [List.length_set]
  simp only at h9
  omega
def z_okU (μ ν : z_Mt) (idx n : Nat) (C : String) (x : MethodName) : Prop := (∀ w ∈ [Cond.methodLink (z_y μ).cls idx x, .sameMethod x.cls (z_y ν).cls x.name x.desc, .selects C x (z_y ν), .instanceMethod (z_y ν), .initialized (z_y ν).cls, .code (z_y ν) (z_b ν) (z_n ν) (z_r ν)], w ∈ z_T) ∧ z_y ν = ⟨(z_y ν).cls, x.name, x.desc⟩ ∧ ((z_y ν).cls ≠ "java/lang/invoke/MethodHandle" ∧ (z_y ν).cls ≠ "java/lang/invoke/VarHandle" ∧ (parseMethodDescriptor x.desc).map (fun d => d.parameters.length) = some n) ∧ z_fit μ ν
theorem z_callU {idx b na : Nat} {C : String} {x : MethodName} (As : List Value) (n : Nat) (hd : decode (z_b μ) pc = .ok (.invokevirtual idx, 3)) (hok : z_okU μ ν idx na C x) (hna : As.length = na) (hst : (st.map fun v => v.category).sum ≤ 8)
    (hrv : ∀ (G : z_G) (s : State) (H : Heap) (locs : List Loc), z_X G s s.heap → z_P G tg w s H → va_S (z_A G) s.heap H locs → ∃ cell : Cell, H[z_a G b]? = some cell ∧ cell.vm.isStatics = false ∧ s.vm.findClass C = some cell.cls)
    (hc : uc + (z_rm ν).cells ≤ (z_rm μ).cells ∧ us + (z_rm ν).slots ≤ (z_rm μ).slots) (hn : pc + 3 = n) (hM : z_M ν tg (.ref b :: As) w Q1) (k : ∀ r w1, Q1 r w1 → z_go μ tg n L (r.toList ++ st) w1 (uc + (z_rm ν).cells) (us + (z_rm ν).slots) Q) : z_go μ tg pc L (As.reverse ++ .ref b :: st) w uc us Q := by
  subst hn
  intro l G p e s m args below meth c H locs ls hH hP hS hl
  have he : (As.reverse ++ .ref b :: st).map (z_v G) = (As.map (z_v G)).reverse ++ Value.ref (z_a G b) :: st.map (z_v G) := by simp [z_v]
  rw [he]
  exact z_callx (a := (Value.ref (z_a G b) :: As.map (z_v G)).toArray) hH hS hl (va_runU (As := As.map (z_v G)) (rest := st.map (z_v G)) ⟨hH.1, hH.2.1, hH.2.2.2.1, hH.2.2.2.2.1, hH.2.2.2.2.2.1⟩ (hM l G) (va_cwU na hH.2.2.2.2.2.1 (z_goodC hok.1) rfl rfl rfl hok.2.1 hok.2.2.1 hok.2.2.2) ⟨z_blind G _ w, hrv G s H locs hH.2.2.2.2.2.2.2.2.2 hP hS, z_pre _ hH.2.2.2.2.2.2.2.2.2 hP hS⟩ rfl (by rw [List.length_map]; exact hna) hl.1 rfl (lv_room (by rw [z_sum]; exact hst)) hd hc) k
theorem z_getsQ {idx : Nat} (n : Nat) (hd : decode (z_b μ) pc = .ok (.getstatic idx, 3)) (hlk : Cond.fieldLink (z_y μ).cls idx "jdk/internal/util/Preconditions" "SIOOBE_FORMATTER" "Ljava/util/function/BiFunction;" ∈ z_T) (hn : pc + 3 = n) (k : ∀ v : Value, v = .null ∨ v = .ref 120 → z_go μ tg n L (v :: st) w uc us Q) : z_go μ tg pc L st w uc us Q := by
  subst hn
  intro l G p e s m args below meth c H locs ls hH hP hS hl
  obtain ⟨v, hv, hZ⟩ := hH.2.2.2.2.2.2.2.2.2.2.2.2.2.2.2.2.2
  exact va_gets hH.1 hH.2.1 hZ hS hH.2.2.2.2.1 (hH.2.2.2.2.2.1 _ hlk) (fun _ h => h) hd (k v hv l G p e s m args below meth c H locs ls hH hP hS hl)
/-- a switch's other cases -/
theorem z_tab {dflt lo hi : Int} {offs : Array Int} {len : Nat} {x : Int32} (ks : List Int32) (t : Nat) (hd : decode (z_b μ) pc = .ok (.tableswitch dflt lo hi offs, len)) (hx : ∀ q ∈ ks, ¬ x = q) (hall : (List.range ((hi - lo).toNat + 1)).all (fun j => (offs[j]? == some dflt) || ks.contains (Int32.ofInt (lo + j))) = true) (hb : lo ≤ hi) (ht : (pc : Int) + dflt = (t : Int)) (k : z_go μ tg t L st w uc us Q) : z_go μ tg pc L (.int x :: st) w uc us Q := by
  by_cases h1 : x.toInt < lo
  · exact z_tabOut t hd (Or.inl h1) ht k
  · by_cases h2 : hi < x.toInt
    · exact z_tabOut t hd (Or.inr h2) ht k
    · have h3 := List.all_eq_true.mp hall (x.toInt - lo).toNat (List.mem_range.mpr (by omega))
      have h4 : lo + ((x.toInt - lo).toNat : Int) = x.toInt := by omega
      simp only [Bool.or_eq_true, beq_iff_eq] at h3
      rcases h3 with h3 | h3
      · exact z_tabIn t hd h1 h2 h3 ht k
      · rw [h4] at h3
        have h5 : Int32.ofInt x.toInt = x := Int32.ofInt_toInt x
        rw [h5] at h3
        exact absurd rfl (hx x (List.contains_iff_mem.mp h3))
end ZB
end
section
/-! THE WORLD: 33 cells of the class, 35 of the reference, one of the law's own -/
section ZW
/-- the class: SIZE; which of the two programs is current, spare, the runner's; ints; rows of ints; rows of longs -/
abbrev cS : Type := Nat × (Bool × Bool × Bool) × (Nat → Int32) × (Nat → Nat → Int32) × (Nat → Nat → Int64)
abbrev mS : Type := (Nat → Int32) × (Nat → Nat → Int32) × (Nat → Nat → Int64)
def c_sz (C : cS) : Nat := C.1
def c_cur (C : cS) : Bool := C.2.1.1
def c_spa (C : cS) : Bool := C.2.1.2.1
def c_rp (C : cS) : Bool := C.2.1.2.2
def c_i (C : cS) (k : Nat) : Int32 := C.2.2.1 k
def c_a (C : cS) (k : Nat) : Nat → Int32 := C.2.2.2.1 k
def c_l (C : cS) (k : Nat) : Nat → Int64 := C.2.2.2.2 k
def c_curS (C : cS) (b : Bool) : cS := (C.1, (b, C.2.1.2), C.2.2)
def c_spaS (C : cS) (b : Bool) : cS := (C.1, (C.2.1.1, b, C.2.1.2.2), C.2.2)
def c_rpS (C : cS) (b : Bool) : cS := (C.1, (C.2.1.1, C.2.1.2.1, b), C.2.2)
def c_iS (C : cS) (k : Nat) (v : Int32) : cS := (C.1, C.2.1, (fun j => if j = k then v else C.2.2.1 j), C.2.2.2)
def c_aS (C : cS) (k : Nat) (f : Nat → Int32) : cS := (C.1, C.2.1, C.2.2.1, (fun j => if j = k then f else C.2.2.2.1 j), C.2.2.2.2)
def c_lS (C : cS) (k : Nat) (f : Nat → Int64) : cS := (C.1, C.2.1, C.2.2.1, C.2.2.2.1, (fun j => if j = k then f else C.2.2.2.2 j))
def c_aU (C : cS) (k : Nat) (i x : Int32) : cS := c_aS C k (upd (c_a C k) i.toNatClampNeg x)
def c_lU (C : cS) (k : Nat) (i : Int32) (x : Int64) : cS := c_lS C k (vp_updL (c_l C k) i.toNatClampNeg x)
def m_i (M : mS) (k : Nat) : Int32 := M.1 k
def m_a (M : mS) (k : Nat) : Nat → Int32 := M.2.1 k
def m_l (M : mS) (k : Nat) : Nat → Int64 := M.2.2 k
def m_iS (M : mS) (k : Nat) (v : Int32) : mS := ((fun j => if j = k then v else M.1 j), M.2)
def m_aS (M : mS) (k : Nat) (f : Nat → Int32) : mS := (M.1, (fun j => if j = k then f else M.2.1 j), M.2.2)
def m_lS (M : mS) (k : Nat) (f : Nat → Int64) : mS := (M.1, M.2.1, (fun j => if j = k then f else M.2.2 j))
def m_aU (M : mS) (k : Nat) (i x : Int32) : mS := m_aS M k (upd (m_a M k) i.toNatClampNeg x)
def m_lU (M : mS) (k : Nat) (i : Int32) (x : Int64) : mS := m_lS M k (vp_updL (m_l M k) i.toNatClampNeg x)
/-- where program b is -/
def pO (b : Bool) : Nat := cond b 13 8
def wzC (C : cS) : List va_E := [.inr (8, [.ref 201, .int (c_i C 0), .ref 202, .ref (200 + pO (c_cur C)), .ref (200 + pO (c_spa C)), .int (c_i C 1), .int (c_i C 2), .ref 218, .ref 224, .ref 225, .ref 228, .ref 231]),
  .inl (0, 2000, .inl (c_a C 0)),
  .inr (3, [.ref 203, .int (c_i C 3), .int (c_i C 4)]),
  .inr (6, [.ref 204, .ref 205, .ref 206, .ref 207, .int (c_i C 5), .int (c_i C 6)]),
  .inl (1, 2000, .inl (c_a C 1)),
  .inl (1, 2000, .inl (c_a C 2)),
  .inl (1, 2000, .inl (c_a C 3)),
  .inl (2, 2000, .inr (.inl (c_l C 0))),
  .inr (2, [.ref 209, .ref 210, .ref 211, .ref 212, .int (c_i C 7)]),
  .inl (1, 150, .inl (c_a C 4)),
  .inl (1, 450, .inl (c_a C 6)),
  .inl (1, 150, .inl (c_a C 8)),
  .inl (2, 150, .inr (.inl (c_l C 1))),
  .inr (2, [.ref 214, .ref 215, .ref 216, .ref 217, .int (c_i C 8)]),
  .inl (1, 150, .inl (c_a C 5)),
  .inl (1, 450, .inl (c_a C 7)),
  .inl (1, 150, .inl (c_a C 9)),
  .inl (2, 150, .inr (.inl (c_l C 2))),
  .inr (1, [.int (c_i C 9), .int (c_i C 10), .ref 222, .ref 223, .ref 219, .ref 220, .int (c_i C 11), .int (c_i C 12), .int (c_i C 13), .int (c_i C 14), .int (c_i C 15), .ref 221]),
  .inl (1, 58, .inl (c_a C 12)),
  .inl (1, 58, .inl (c_a C 13)),
  .inl (1, 13, .inl (c_a C 14)),
  .inl (1, (2 * c_sz C), .inl (c_a C 10)),
  .inl (1, (2 * c_sz C), .inl (c_a C 11)),
  .inr (0, [.ref 218]),
  .inr (4, [.ref 224, .ref (200 + pO (c_rp C)), .int (c_i C 16), .int (c_i C 17), .int (c_i C 18), .int (c_i C 19), .ref 226, .int (c_i C 20), .ref 227, .int (c_i C 21)]),
  .inl (1, 30, .inl (c_a C 15)),
  .inl (1, 300, .inl (c_a C 16)),
  .inr (7, [.ref 218, .ref 229, .ref 230, .int (c_i C 22)]),
  .inl (1, (2 * c_sz C), .inl (c_a C 17)),
  .inl (1, (2 * c_sz C), .inl (c_a C 18)),
  .inr (5, [.ref 232, .int (c_i C 23)]),
  .inl (0, 600, .inl (c_a C 19))]
def wzM (M : mS) : List va_E := [.inr (9, [.int (m_i M 0), .int (m_i M 1), .int (m_i M 2), .ref 234, .ref 235, .ref 236, .ref 237, .ref 238, .ref 239, .ref 240, .ref 241, .int (m_i M 3), .ref 242, .int (m_i M 4), .int (m_i M 5), .int (m_i M 6), .int (m_i M 7), .int (m_i M 8), .int (m_i M 9), .int (m_i M 10), .int (m_i M 11), .int (m_i M 12), .int (m_i M 13), .int (m_i M 14), .int (m_i M 15), .int (m_i M 16), .int (m_i M 17), .int (m_i M 18), .ref 243, .int (m_i M 19), .ref 244, .ref 245, .ref 246, .ref 247, .ref 248, .ref 249, .ref 250, .int (m_i M 20), .int (m_i M 21), .int (m_i M 22), .int (m_i M 23), .ref 251, .ref 252, .ref 253, .ref 254, .ref 255, .ref 256, .ref 257, .ref 258, .ref 259, .int (m_i M 24), .int (m_i M 25), .ref 260, .ref 261, .ref 262, .int (m_i M 26), .int (m_i M 27), .int (m_i M 28), .int (m_i M 29), .int (m_i M 30), .int (m_i M 31), .int (m_i M 32), .int (m_i M 33), .ref 263, .ref 264, .ref 265, .ref 266, .int (m_i M 34), .ref 267, .int (m_i M 35)]),
  .inl (3, 1300, .inl (m_a M 0)),
  .inl (1, 1300, .inl (m_a M 1)),
  .inl (1, 1300, .inl (m_a M 2)),
  .inl (1, 1300, .inl (m_a M 3)),
  .inl (1, 52000, .inl (m_a M 4)),
  .inl (1, 52000, .inl (m_a M 5)),
  .inl (1, 58, .inl (m_a M 6)),
  .inl (1, 58, .inl (m_a M 7)),
  .inl (1, 1300, .inl (m_a M 8)),
  .inl (1, 2000, .inl (m_a M 9)),
  .inl (2, 26, .inr (.inl (m_l M 0))),
  .inl (1, 26, .inl (m_a M 10)),
  .inl (1, 2001, .inl (m_a M 11)),
  .inl (1, 2001, .inl (m_a M 12)),
  .inl (1, 2001, .inl (m_a M 13)),
  .inl (2, 2001, .inr (.inl (m_l M 1))),
  .inl (1, 2001, .inl (m_a M 14)),
  .inl (1, 150, .inl (m_a M 15)),
  .inl (1, 150, .inl (m_a M 16)),
  .inl (1, 450, .inl (m_a M 17)),
  .inl (1, 450, .inl (m_a M 18)),
  .inl (2, 450, .inr (.inl (m_l M 2))),
  .inl (1, 450, .inl (m_a M 19)),
  .inl (2, 150, .inr (.inl (m_l M 3))),
  .inl (1, 150, .inl (m_a M 20)),
  .inl (1, 150, .inl (m_a M 21)),
  .inl (1, 150, .inl (m_a M 22)),
  .inl (1, 150, .inl (m_a M 23)),
  .inl (1, 450, .inl (m_a M 24)),
  .inl (1, 30, .inl (m_a M 25)),
  .inl (1, 300, .inl (m_a M 26)),
  .inl (1, 1300, .inl (m_a M 27)),
  .inl (1, 1300, .inl (m_a M 28)),
  .inl (1, 600, .inl (m_a M 29))]
def wz (C : cS) (M : mS) (o : Nat → Int64) (X : List va_E) : List va_E := wzC C ++ (wzM M ++ (.inl (2, 1, .inr (.inl o)) :: X))
variable {μ : z_Mt} {tg : Bool} {pc : Nat} {L : List (Nat × Value)} {st : List Value} {uc us : Nat} {Q : z_R} {C : cS} {M : mS} {o : Nat → Int64} {X : List va_E}
theorem gci_0 {idx : Nat} (v : Int32) (n : Nat) (hd : decode (z_b μ) pc = .ok (.getfield idx, 3)) (hok : z_okF (z_y μ).cls idx 8 1) (hv : c_i C 0 = v) (hn : pc + 3 = n) (k : z_go μ tg n L (.int v :: st) (wz C M o X) uc us Q) : z_go μ tg pc L (.ref 200 :: st) (wz C M o X) uc us Q := by subst hv; exact z_get 0 n hd hok rfl rfl rfl hn k
theorem pci_0 {idx : Nat} {v : Int32} (n : Nat) (hd : decode (z_b μ) pc = .ok (.putfield idx, 3)) (hok : z_okP (z_y μ).cls idx 8 1 .int false) (hn : pc + 3 = n) (k : z_go μ tg n L st (wz (c_iS C 0 v) M o X) uc us Q) : z_go μ tg pc L (.int v :: .ref 200 :: st) (wz C M o X) uc us Q := z_put 0 (wz (c_iS C 0 v) M o X) n hd hok rfl rfl (Nat.le_of_ble_eq_true rfl) (fun _ => ⟨rfl, rfl⟩) rfl hn k
theorem gci_1 {idx : Nat} (v : Int32) (n : Nat) (hd : decode (z_b μ) pc = .ok (.getfield idx, 3)) (hok : z_okF (z_y μ).cls idx 8 5) (hv : c_i C 1 = v) (hn : pc + 3 = n) (k : z_go μ tg n L (.int v :: st) (wz C M o X) uc us Q) : z_go μ tg pc L (.ref 200 :: st) (wz C M o X) uc us Q := by subst hv; exact z_get 0 n hd hok rfl rfl rfl hn k
theorem pci_1 {idx : Nat} {v : Int32} (n : Nat) (hd : decode (z_b μ) pc = .ok (.putfield idx, 3)) (hok : z_okP (z_y μ).cls idx 8 5 .boolean false) (hty : v = 0 ∨ v = 1) (hn : pc + 3 = n) (k : z_go μ tg n L st (wz (c_iS C 1 v) M o X) uc us Q) : z_go μ tg pc L (.int v :: .ref 200 :: st) (wz C M o X) uc us Q := z_put 0 (wz (c_iS C 1 v) M o X) n hd hok rfl rfl (Nat.le_of_ble_eq_true rfl) (fun _ => by rcases hty with rfl | rfl <;> exact ⟨rfl, rfl⟩) rfl hn k
theorem gci_2 {idx : Nat} (v : Int32) (n : Nat) (hd : decode (z_b μ) pc = .ok (.getfield idx, 3)) (hok : z_okF (z_y μ).cls idx 8 6) (hv : c_i C 2 = v) (hn : pc + 3 = n) (k : z_go μ tg n L (.int v :: st) (wz C M o X) uc us Q) : z_go μ tg pc L (.ref 200 :: st) (wz C M o X) uc us Q := by subst hv; exact z_get 0 n hd hok rfl rfl rfl hn k
theorem pci_2 {idx : Nat} {v : Int32} (n : Nat) (hd : decode (z_b μ) pc = .ok (.putfield idx, 3)) (hok : z_okP (z_y μ).cls idx 8 6 .int false) (hn : pc + 3 = n) (k : z_go μ tg n L st (wz (c_iS C 2 v) M o X) uc us Q) : z_go μ tg pc L (.int v :: .ref 200 :: st) (wz C M o X) uc us Q := z_put 0 (wz (c_iS C 2 v) M o X) n hd hok rfl rfl (Nat.le_of_ble_eq_true rfl) (fun _ => ⟨rfl, rfl⟩) rfl hn k
theorem gci_3 {idx : Nat} (v : Int32) (n : Nat) (hd : decode (z_b μ) pc = .ok (.getfield idx, 3)) (hok : z_okF (z_y μ).cls idx 3 1) (hv : c_i C 3 = v) (hn : pc + 3 = n) (k : z_go μ tg n L (.int v :: st) (wz C M o X) uc us Q) : z_go μ tg pc L (.ref 202 :: st) (wz C M o X) uc us Q := by subst hv; exact z_get 2 n hd hok rfl rfl rfl hn k
theorem pci_3 {idx : Nat} {v : Int32} (n : Nat) (hd : decode (z_b μ) pc = .ok (.putfield idx, 3)) (hok : z_okP (z_y μ).cls idx 3 1 .int false) (hn : pc + 3 = n) (k : z_go μ tg n L st (wz (c_iS C 3 v) M o X) uc us Q) : z_go μ tg pc L (.int v :: .ref 202 :: st) (wz C M o X) uc us Q := z_put 2 (wz (c_iS C 3 v) M o X) n hd hok rfl rfl (Nat.le_of_ble_eq_true rfl) (fun _ => ⟨rfl, rfl⟩) rfl hn k
theorem gci_4 {idx : Nat} (v : Int32) (n : Nat) (hd : decode (z_b μ) pc = .ok (.getfield idx, 3)) (hok : z_okF (z_y μ).cls idx 3 2) (hv : c_i C 4 = v) (hn : pc + 3 = n) (k : z_go μ tg n L (.int v :: st) (wz C M o X) uc us Q) : z_go μ tg pc L (.ref 202 :: st) (wz C M o X) uc us Q := by subst hv; exact z_get 2 n hd hok rfl rfl rfl hn k
theorem pci_4 {idx : Nat} {v : Int32} (n : Nat) (hd : decode (z_b μ) pc = .ok (.putfield idx, 3)) (hok : z_okP (z_y μ).cls idx 3 2 .int false) (hn : pc + 3 = n) (k : z_go μ tg n L st (wz (c_iS C 4 v) M o X) uc us Q) : z_go μ tg pc L (.int v :: .ref 202 :: st) (wz C M o X) uc us Q := z_put 2 (wz (c_iS C 4 v) M o X) n hd hok rfl rfl (Nat.le_of_ble_eq_true rfl) (fun _ => ⟨rfl, rfl⟩) rfl hn k
theorem gci_5 {idx : Nat} (v : Int32) (n : Nat) (hd : decode (z_b μ) pc = .ok (.getfield idx, 3)) (hok : z_okF (z_y μ).cls idx 6 4) (hv : c_i C 5 = v) (hn : pc + 3 = n) (k : z_go μ tg n L (.int v :: st) (wz C M o X) uc us Q) : z_go μ tg pc L (.ref 203 :: st) (wz C M o X) uc us Q := by subst hv; exact z_get 3 n hd hok rfl rfl rfl hn k
theorem pci_5 {idx : Nat} {v : Int32} (n : Nat) (hd : decode (z_b μ) pc = .ok (.putfield idx, 3)) (hok : z_okP (z_y μ).cls idx 6 4 .int false) (hn : pc + 3 = n) (k : z_go μ tg n L st (wz (c_iS C 5 v) M o X) uc us Q) : z_go μ tg pc L (.int v :: .ref 203 :: st) (wz C M o X) uc us Q := z_put 3 (wz (c_iS C 5 v) M o X) n hd hok rfl rfl (Nat.le_of_ble_eq_true rfl) (fun _ => ⟨rfl, rfl⟩) rfl hn k
theorem gci_6 {idx : Nat} (v : Int32) (n : Nat) (hd : decode (z_b μ) pc = .ok (.getfield idx, 3)) (hok : z_okF (z_y μ).cls idx 6 5) (hv : c_i C 6 = v) (hn : pc + 3 = n) (k : z_go μ tg n L (.int v :: st) (wz C M o X) uc us Q) : z_go μ tg pc L (.ref 203 :: st) (wz C M o X) uc us Q := by subst hv; exact z_get 3 n hd hok rfl rfl rfl hn k
theorem pci_6 {idx : Nat} {v : Int32} (n : Nat) (hd : decode (z_b μ) pc = .ok (.putfield idx, 3)) (hok : z_okP (z_y μ).cls idx 6 5 .int false) (hn : pc + 3 = n) (k : z_go μ tg n L st (wz (c_iS C 6 v) M o X) uc us Q) : z_go μ tg pc L (.int v :: .ref 203 :: st) (wz C M o X) uc us Q := z_put 3 (wz (c_iS C 6 v) M o X) n hd hok rfl rfl (Nat.le_of_ble_eq_true rfl) (fun _ => ⟨rfl, rfl⟩) rfl hn k
theorem gci_9 {idx : Nat} (v : Int32) (n : Nat) (hd : decode (z_b μ) pc = .ok (.getfield idx, 3)) (hok : z_okF (z_y μ).cls idx 1 0) (hv : c_i C 9 = v) (hn : pc + 3 = n) (k : z_go μ tg n L (.int v :: st) (wz C M o X) uc us Q) : z_go μ tg pc L (.ref 218 :: st) (wz C M o X) uc us Q := by subst hv; exact z_get 18 n hd hok rfl rfl rfl hn k
theorem gci_10 {idx : Nat} (v : Int32) (n : Nat) (hd : decode (z_b μ) pc = .ok (.getfield idx, 3)) (hok : z_okF (z_y μ).cls idx 1 1) (hv : c_i C 10 = v) (hn : pc + 3 = n) (k : z_go μ tg n L (.int v :: st) (wz C M o X) uc us Q) : z_go μ tg pc L (.ref 218 :: st) (wz C M o X) uc us Q := by subst hv; exact z_get 18 n hd hok rfl rfl rfl hn k
theorem gci_11 {idx : Nat} (v : Int32) (n : Nat) (hd : decode (z_b μ) pc = .ok (.getfield idx, 3)) (hok : z_okF (z_y μ).cls idx 1 6) (hv : c_i C 11 = v) (hn : pc + 3 = n) (k : z_go μ tg n L (.int v :: st) (wz C M o X) uc us Q) : z_go μ tg pc L (.ref 218 :: st) (wz C M o X) uc us Q := by subst hv; exact z_get 18 n hd hok rfl rfl rfl hn k
theorem pci_11 {idx : Nat} {v : Int32} (n : Nat) (hd : decode (z_b μ) pc = .ok (.putfield idx, 3)) (hok : z_okP (z_y μ).cls idx 1 6 .int false) (hn : pc + 3 = n) (k : z_go μ tg n L st (wz (c_iS C 11 v) M o X) uc us Q) : z_go μ tg pc L (.int v :: .ref 218 :: st) (wz C M o X) uc us Q := z_put 18 (wz (c_iS C 11 v) M o X) n hd hok rfl rfl (Nat.le_of_ble_eq_true rfl) (fun _ => ⟨rfl, rfl⟩) rfl hn k
theorem gci_12 {idx : Nat} (v : Int32) (n : Nat) (hd : decode (z_b μ) pc = .ok (.getfield idx, 3)) (hok : z_okF (z_y μ).cls idx 1 7) (hv : c_i C 12 = v) (hn : pc + 3 = n) (k : z_go μ tg n L (.int v :: st) (wz C M o X) uc us Q) : z_go μ tg pc L (.ref 218 :: st) (wz C M o X) uc us Q := by subst hv; exact z_get 18 n hd hok rfl rfl rfl hn k
theorem pci_12 {idx : Nat} {v : Int32} (n : Nat) (hd : decode (z_b μ) pc = .ok (.putfield idx, 3)) (hok : z_okP (z_y μ).cls idx 1 7 .int false) (hn : pc + 3 = n) (k : z_go μ tg n L st (wz (c_iS C 12 v) M o X) uc us Q) : z_go μ tg pc L (.int v :: .ref 218 :: st) (wz C M o X) uc us Q := z_put 18 (wz (c_iS C 12 v) M o X) n hd hok rfl rfl (Nat.le_of_ble_eq_true rfl) (fun _ => ⟨rfl, rfl⟩) rfl hn k
theorem gci_13 {idx : Nat} (v : Int32) (n : Nat) (hd : decode (z_b μ) pc = .ok (.getfield idx, 3)) (hok : z_okF (z_y μ).cls idx 1 8) (hv : c_i C 13 = v) (hn : pc + 3 = n) (k : z_go μ tg n L (.int v :: st) (wz C M o X) uc us Q) : z_go μ tg pc L (.ref 218 :: st) (wz C M o X) uc us Q := by subst hv; exact z_get 18 n hd hok rfl rfl rfl hn k
theorem pci_13 {idx : Nat} {v : Int32} (n : Nat) (hd : decode (z_b μ) pc = .ok (.putfield idx, 3)) (hok : z_okP (z_y μ).cls idx 1 8 .int false) (hn : pc + 3 = n) (k : z_go μ tg n L st (wz (c_iS C 13 v) M o X) uc us Q) : z_go μ tg pc L (.int v :: .ref 218 :: st) (wz C M o X) uc us Q := z_put 18 (wz (c_iS C 13 v) M o X) n hd hok rfl rfl (Nat.le_of_ble_eq_true rfl) (fun _ => ⟨rfl, rfl⟩) rfl hn k
theorem gci_14 {idx : Nat} (v : Int32) (n : Nat) (hd : decode (z_b μ) pc = .ok (.getfield idx, 3)) (hok : z_okF (z_y μ).cls idx 1 9) (hv : c_i C 14 = v) (hn : pc + 3 = n) (k : z_go μ tg n L (.int v :: st) (wz C M o X) uc us Q) : z_go μ tg pc L (.ref 218 :: st) (wz C M o X) uc us Q := by subst hv; exact z_get 18 n hd hok rfl rfl rfl hn k
theorem pci_14 {idx : Nat} {v : Int32} (n : Nat) (hd : decode (z_b μ) pc = .ok (.putfield idx, 3)) (hok : z_okP (z_y μ).cls idx 1 9 .int false) (hn : pc + 3 = n) (k : z_go μ tg n L st (wz (c_iS C 14 v) M o X) uc us Q) : z_go μ tg pc L (.int v :: .ref 218 :: st) (wz C M o X) uc us Q := z_put 18 (wz (c_iS C 14 v) M o X) n hd hok rfl rfl (Nat.le_of_ble_eq_true rfl) (fun _ => ⟨rfl, rfl⟩) rfl hn k
theorem gci_15 {idx : Nat} (v : Int32) (n : Nat) (hd : decode (z_b μ) pc = .ok (.getfield idx, 3)) (hok : z_okF (z_y μ).cls idx 1 10) (hv : c_i C 15 = v) (hn : pc + 3 = n) (k : z_go μ tg n L (.int v :: st) (wz C M o X) uc us Q) : z_go μ tg pc L (.ref 218 :: st) (wz C M o X) uc us Q := by subst hv; exact z_get 18 n hd hok rfl rfl rfl hn k
theorem pci_15 {idx : Nat} {v : Int32} (n : Nat) (hd : decode (z_b μ) pc = .ok (.putfield idx, 3)) (hok : z_okP (z_y μ).cls idx 1 10 .int false) (hn : pc + 3 = n) (k : z_go μ tg n L st (wz (c_iS C 15 v) M o X) uc us Q) : z_go μ tg pc L (.int v :: .ref 218 :: st) (wz C M o X) uc us Q := z_put 18 (wz (c_iS C 15 v) M o X) n hd hok rfl rfl (Nat.le_of_ble_eq_true rfl) (fun _ => ⟨rfl, rfl⟩) rfl hn k
theorem gci_16 {idx : Nat} (v : Int32) (n : Nat) (hd : decode (z_b μ) pc = .ok (.getfield idx, 3)) (hok : z_okF (z_y μ).cls idx 4 2) (hv : c_i C 16 = v) (hn : pc + 3 = n) (k : z_go μ tg n L (.int v :: st) (wz C M o X) uc us Q) : z_go μ tg pc L (.ref 225 :: st) (wz C M o X) uc us Q := by subst hv; exact z_get 25 n hd hok rfl rfl rfl hn k
theorem pci_16 {idx : Nat} {v : Int32} (n : Nat) (hd : decode (z_b μ) pc = .ok (.putfield idx, 3)) (hok : z_okP (z_y μ).cls idx 4 2 .int false) (hn : pc + 3 = n) (k : z_go μ tg n L st (wz (c_iS C 16 v) M o X) uc us Q) : z_go μ tg pc L (.int v :: .ref 225 :: st) (wz C M o X) uc us Q := z_put 25 (wz (c_iS C 16 v) M o X) n hd hok rfl rfl (Nat.le_of_ble_eq_true rfl) (fun _ => ⟨rfl, rfl⟩) rfl hn k
theorem gci_17 {idx : Nat} (v : Int32) (n : Nat) (hd : decode (z_b μ) pc = .ok (.getfield idx, 3)) (hok : z_okF (z_y μ).cls idx 4 3) (hv : c_i C 17 = v) (hn : pc + 3 = n) (k : z_go μ tg n L (.int v :: st) (wz C M o X) uc us Q) : z_go μ tg pc L (.ref 225 :: st) (wz C M o X) uc us Q := by subst hv; exact z_get 25 n hd hok rfl rfl rfl hn k
theorem pci_17 {idx : Nat} {v : Int32} (n : Nat) (hd : decode (z_b μ) pc = .ok (.putfield idx, 3)) (hok : z_okP (z_y μ).cls idx 4 3 .int false) (hn : pc + 3 = n) (k : z_go μ tg n L st (wz (c_iS C 17 v) M o X) uc us Q) : z_go μ tg pc L (.int v :: .ref 225 :: st) (wz C M o X) uc us Q := z_put 25 (wz (c_iS C 17 v) M o X) n hd hok rfl rfl (Nat.le_of_ble_eq_true rfl) (fun _ => ⟨rfl, rfl⟩) rfl hn k
theorem gci_18 {idx : Nat} (v : Int32) (n : Nat) (hd : decode (z_b μ) pc = .ok (.getfield idx, 3)) (hok : z_okF (z_y μ).cls idx 4 4) (hv : c_i C 18 = v) (hn : pc + 3 = n) (k : z_go μ tg n L (.int v :: st) (wz C M o X) uc us Q) : z_go μ tg pc L (.ref 225 :: st) (wz C M o X) uc us Q := by subst hv; exact z_get 25 n hd hok rfl rfl rfl hn k
theorem pci_18 {idx : Nat} {v : Int32} (n : Nat) (hd : decode (z_b μ) pc = .ok (.putfield idx, 3)) (hok : z_okP (z_y μ).cls idx 4 4 .int false) (hn : pc + 3 = n) (k : z_go μ tg n L st (wz (c_iS C 18 v) M o X) uc us Q) : z_go μ tg pc L (.int v :: .ref 225 :: st) (wz C M o X) uc us Q := z_put 25 (wz (c_iS C 18 v) M o X) n hd hok rfl rfl (Nat.le_of_ble_eq_true rfl) (fun _ => ⟨rfl, rfl⟩) rfl hn k
theorem gci_19 {idx : Nat} (v : Int32) (n : Nat) (hd : decode (z_b μ) pc = .ok (.getfield idx, 3)) (hok : z_okF (z_y μ).cls idx 4 5) (hv : c_i C 19 = v) (hn : pc + 3 = n) (k : z_go μ tg n L (.int v :: st) (wz C M o X) uc us Q) : z_go μ tg pc L (.ref 225 :: st) (wz C M o X) uc us Q := by subst hv; exact z_get 25 n hd hok rfl rfl rfl hn k
theorem pci_19 {idx : Nat} {v : Int32} (n : Nat) (hd : decode (z_b μ) pc = .ok (.putfield idx, 3)) (hok : z_okP (z_y μ).cls idx 4 5 .int false) (hn : pc + 3 = n) (k : z_go μ tg n L st (wz (c_iS C 19 v) M o X) uc us Q) : z_go μ tg pc L (.int v :: .ref 225 :: st) (wz C M o X) uc us Q := z_put 25 (wz (c_iS C 19 v) M o X) n hd hok rfl rfl (Nat.le_of_ble_eq_true rfl) (fun _ => ⟨rfl, rfl⟩) rfl hn k
theorem gci_20 {idx : Nat} (v : Int32) (n : Nat) (hd : decode (z_b μ) pc = .ok (.getfield idx, 3)) (hok : z_okF (z_y μ).cls idx 4 7) (hv : c_i C 20 = v) (hn : pc + 3 = n) (k : z_go μ tg n L (.int v :: st) (wz C M o X) uc us Q) : z_go μ tg pc L (.ref 225 :: st) (wz C M o X) uc us Q := by subst hv; exact z_get 25 n hd hok rfl rfl rfl hn k
theorem pci_20 {idx : Nat} {v : Int32} (n : Nat) (hd : decode (z_b μ) pc = .ok (.putfield idx, 3)) (hok : z_okP (z_y μ).cls idx 4 7 .int false) (hn : pc + 3 = n) (k : z_go μ tg n L st (wz (c_iS C 20 v) M o X) uc us Q) : z_go μ tg pc L (.int v :: .ref 225 :: st) (wz C M o X) uc us Q := z_put 25 (wz (c_iS C 20 v) M o X) n hd hok rfl rfl (Nat.le_of_ble_eq_true rfl) (fun _ => ⟨rfl, rfl⟩) rfl hn k
theorem gci_21 {idx : Nat} (v : Int32) (n : Nat) (hd : decode (z_b μ) pc = .ok (.getfield idx, 3)) (hok : z_okF (z_y μ).cls idx 4 9) (hv : c_i C 21 = v) (hn : pc + 3 = n) (k : z_go μ tg n L (.int v :: st) (wz C M o X) uc us Q) : z_go μ tg pc L (.ref 225 :: st) (wz C M o X) uc us Q := by subst hv; exact z_get 25 n hd hok rfl rfl rfl hn k
theorem pci_21 {idx : Nat} {v : Int32} (n : Nat) (hd : decode (z_b μ) pc = .ok (.putfield idx, 3)) (hok : z_okP (z_y μ).cls idx 4 9 .int false) (hn : pc + 3 = n) (k : z_go μ tg n L st (wz (c_iS C 21 v) M o X) uc us Q) : z_go μ tg pc L (.int v :: .ref 225 :: st) (wz C M o X) uc us Q := z_put 25 (wz (c_iS C 21 v) M o X) n hd hok rfl rfl (Nat.le_of_ble_eq_true rfl) (fun _ => ⟨rfl, rfl⟩) rfl hn k
theorem gci_22 {idx : Nat} (v : Int32) (n : Nat) (hd : decode (z_b μ) pc = .ok (.getfield idx, 3)) (hok : z_okF (z_y μ).cls idx 7 3) (hv : c_i C 22 = v) (hn : pc + 3 = n) (k : z_go μ tg n L (.int v :: st) (wz C M o X) uc us Q) : z_go μ tg pc L (.ref 228 :: st) (wz C M o X) uc us Q := by subst hv; exact z_get 28 n hd hok rfl rfl rfl hn k
theorem pci_22 {idx : Nat} {v : Int32} (n : Nat) (hd : decode (z_b μ) pc = .ok (.putfield idx, 3)) (hok : z_okP (z_y μ).cls idx 7 3 .int false) (hn : pc + 3 = n) (k : z_go μ tg n L st (wz (c_iS C 22 v) M o X) uc us Q) : z_go μ tg pc L (.int v :: .ref 228 :: st) (wz C M o X) uc us Q := z_put 28 (wz (c_iS C 22 v) M o X) n hd hok rfl rfl (Nat.le_of_ble_eq_true rfl) (fun _ => ⟨rfl, rfl⟩) rfl hn k
theorem gci_23 {idx : Nat} (v : Int32) (n : Nat) (hd : decode (z_b μ) pc = .ok (.getfield idx, 3)) (hok : z_okF (z_y μ).cls idx 5 1) (hv : c_i C 23 = v) (hn : pc + 3 = n) (k : z_go μ tg n L (.int v :: st) (wz C M o X) uc us Q) : z_go μ tg pc L (.ref 231 :: st) (wz C M o X) uc us Q := by subst hv; exact z_get 31 n hd hok rfl rfl rfl hn k
theorem pci_23 {idx : Nat} {v : Int32} (n : Nat) (hd : decode (z_b μ) pc = .ok (.putfield idx, 3)) (hok : z_okP (z_y μ).cls idx 5 1 .int false) (hn : pc + 3 = n) (k : z_go μ tg n L st (wz (c_iS C 23 v) M o X) uc us Q) : z_go μ tg pc L (.int v :: .ref 231 :: st) (wz C M o X) uc us Q := z_put 31 (wz (c_iS C 23 v) M o X) n hd hok rfl rfl (Nat.le_of_ble_eq_true rfl) (fun _ => ⟨rfl, rfl⟩) rfl hn k
theorem gmi_0 {idx : Nat} (v : Int32) (n : Nat) (hd : decode (z_b μ) pc = .ok (.getfield idx, 3)) (hok : z_okF (z_y μ).cls idx 9 0) (hv : m_i M 0 = v) (hn : pc + 3 = n) (k : z_go μ tg n L (.int v :: st) (wz C M o X) uc us Q) : z_go μ tg pc L (.ref 233 :: st) (wz C M o X) uc us Q := by subst hv; exact z_get 33 n hd hok rfl rfl rfl hn k
theorem gmi_1 {idx : Nat} (v : Int32) (n : Nat) (hd : decode (z_b μ) pc = .ok (.getfield idx, 3)) (hok : z_okF (z_y μ).cls idx 9 1) (hv : m_i M 1 = v) (hn : pc + 3 = n) (k : z_go μ tg n L (.int v :: st) (wz C M o X) uc us Q) : z_go μ tg pc L (.ref 233 :: st) (wz C M o X) uc us Q := by subst hv; exact z_get 33 n hd hok rfl rfl rfl hn k
theorem gmi_2 {idx : Nat} (v : Int32) (n : Nat) (hd : decode (z_b μ) pc = .ok (.getfield idx, 3)) (hok : z_okF (z_y μ).cls idx 9 2) (hv : m_i M 2 = v) (hn : pc + 3 = n) (k : z_go μ tg n L (.int v :: st) (wz C M o X) uc us Q) : z_go μ tg pc L (.ref 233 :: st) (wz C M o X) uc us Q := by subst hv; exact z_get 33 n hd hok rfl rfl rfl hn k
theorem pmi_2 {idx : Nat} {v : Int32} (n : Nat) (hd : decode (z_b μ) pc = .ok (.putfield idx, 3)) (hok : z_okP (z_y μ).cls idx 9 2 .int false) (hn : pc + 3 = n) (k : z_go μ tg n L st (wz C (m_iS M 2 v) o X) uc us Q) : z_go μ tg pc L (.int v :: .ref 233 :: st) (wz C M o X) uc us Q := z_put 33 (wz C (m_iS M 2 v) o X) n hd hok rfl rfl (Nat.le_of_ble_eq_true rfl) (fun _ => ⟨rfl, rfl⟩) rfl hn k
theorem gmi_3 {idx : Nat} (v : Int32) (n : Nat) (hd : decode (z_b μ) pc = .ok (.getfield idx, 3)) (hok : z_okF (z_y μ).cls idx 9 11) (hv : m_i M 3 = v) (hn : pc + 3 = n) (k : z_go μ tg n L (.int v :: st) (wz C M o X) uc us Q) : z_go μ tg pc L (.ref 233 :: st) (wz C M o X) uc us Q := by subst hv; exact z_get 33 n hd hok rfl rfl rfl hn k
theorem pmi_3 {idx : Nat} {v : Int32} (n : Nat) (hd : decode (z_b μ) pc = .ok (.putfield idx, 3)) (hok : z_okP (z_y μ).cls idx 9 11 .int false) (hn : pc + 3 = n) (k : z_go μ tg n L st (wz C (m_iS M 3 v) o X) uc us Q) : z_go μ tg pc L (.int v :: .ref 233 :: st) (wz C M o X) uc us Q := z_put 33 (wz C (m_iS M 3 v) o X) n hd hok rfl rfl (Nat.le_of_ble_eq_true rfl) (fun _ => ⟨rfl, rfl⟩) rfl hn k
theorem gmi_4 {idx : Nat} (v : Int32) (n : Nat) (hd : decode (z_b μ) pc = .ok (.getfield idx, 3)) (hok : z_okF (z_y μ).cls idx 9 13) (hv : m_i M 4 = v) (hn : pc + 3 = n) (k : z_go μ tg n L (.int v :: st) (wz C M o X) uc us Q) : z_go μ tg pc L (.ref 233 :: st) (wz C M o X) uc us Q := by subst hv; exact z_get 33 n hd hok rfl rfl rfl hn k
theorem pmi_4 {idx : Nat} {v : Int32} (n : Nat) (hd : decode (z_b μ) pc = .ok (.putfield idx, 3)) (hok : z_okP (z_y μ).cls idx 9 13 .int false) (hn : pc + 3 = n) (k : z_go μ tg n L st (wz C (m_iS M 4 v) o X) uc us Q) : z_go μ tg pc L (.int v :: .ref 233 :: st) (wz C M o X) uc us Q := z_put 33 (wz C (m_iS M 4 v) o X) n hd hok rfl rfl (Nat.le_of_ble_eq_true rfl) (fun _ => ⟨rfl, rfl⟩) rfl hn k
theorem gmi_5 {idx : Nat} (v : Int32) (n : Nat) (hd : decode (z_b μ) pc = .ok (.getfield idx, 3)) (hok : z_okF (z_y μ).cls idx 9 14) (hv : m_i M 5 = v) (hn : pc + 3 = n) (k : z_go μ tg n L (.int v :: st) (wz C M o X) uc us Q) : z_go μ tg pc L (.ref 233 :: st) (wz C M o X) uc us Q := by subst hv; exact z_get 33 n hd hok rfl rfl rfl hn k
theorem pmi_5 {idx : Nat} {v : Int32} (n : Nat) (hd : decode (z_b μ) pc = .ok (.putfield idx, 3)) (hok : z_okP (z_y μ).cls idx 9 14 .int false) (hn : pc + 3 = n) (k : z_go μ tg n L st (wz C (m_iS M 5 v) o X) uc us Q) : z_go μ tg pc L (.int v :: .ref 233 :: st) (wz C M o X) uc us Q := z_put 33 (wz C (m_iS M 5 v) o X) n hd hok rfl rfl (Nat.le_of_ble_eq_true rfl) (fun _ => ⟨rfl, rfl⟩) rfl hn k
theorem gmi_6 {idx : Nat} (v : Int32) (n : Nat) (hd : decode (z_b μ) pc = .ok (.getfield idx, 3)) (hok : z_okF (z_y μ).cls idx 9 15) (hv : m_i M 6 = v) (hn : pc + 3 = n) (k : z_go μ tg n L (.int v :: st) (wz C M o X) uc us Q) : z_go μ tg pc L (.ref 233 :: st) (wz C M o X) uc us Q := by subst hv; exact z_get 33 n hd hok rfl rfl rfl hn k
theorem pmi_6 {idx : Nat} {v : Int32} (n : Nat) (hd : decode (z_b μ) pc = .ok (.putfield idx, 3)) (hok : z_okP (z_y μ).cls idx 9 15 .int false) (hn : pc + 3 = n) (k : z_go μ tg n L st (wz C (m_iS M 6 v) o X) uc us Q) : z_go μ tg pc L (.int v :: .ref 233 :: st) (wz C M o X) uc us Q := z_put 33 (wz C (m_iS M 6 v) o X) n hd hok rfl rfl (Nat.le_of_ble_eq_true rfl) (fun _ => ⟨rfl, rfl⟩) rfl hn k
theorem gmi_7 {idx : Nat} (v : Int32) (n : Nat) (hd : decode (z_b μ) pc = .ok (.getfield idx, 3)) (hok : z_okF (z_y μ).cls idx 9 16) (hv : m_i M 7 = v) (hn : pc + 3 = n) (k : z_go μ tg n L (.int v :: st) (wz C M o X) uc us Q) : z_go μ tg pc L (.ref 233 :: st) (wz C M o X) uc us Q := by subst hv; exact z_get 33 n hd hok rfl rfl rfl hn k
theorem pmi_7 {idx : Nat} {v : Int32} (n : Nat) (hd : decode (z_b μ) pc = .ok (.putfield idx, 3)) (hok : z_okP (z_y μ).cls idx 9 16 .int false) (hn : pc + 3 = n) (k : z_go μ tg n L st (wz C (m_iS M 7 v) o X) uc us Q) : z_go μ tg pc L (.int v :: .ref 233 :: st) (wz C M o X) uc us Q := z_put 33 (wz C (m_iS M 7 v) o X) n hd hok rfl rfl (Nat.le_of_ble_eq_true rfl) (fun _ => ⟨rfl, rfl⟩) rfl hn k
theorem gmi_8 {idx : Nat} (v : Int32) (n : Nat) (hd : decode (z_b μ) pc = .ok (.getfield idx, 3)) (hok : z_okF (z_y μ).cls idx 9 17) (hv : m_i M 8 = v) (hn : pc + 3 = n) (k : z_go μ tg n L (.int v :: st) (wz C M o X) uc us Q) : z_go μ tg pc L (.ref 233 :: st) (wz C M o X) uc us Q := by subst hv; exact z_get 33 n hd hok rfl rfl rfl hn k
theorem pmi_8 {idx : Nat} {v : Int32} (n : Nat) (hd : decode (z_b μ) pc = .ok (.putfield idx, 3)) (hok : z_okP (z_y μ).cls idx 9 17 .int false) (hn : pc + 3 = n) (k : z_go μ tg n L st (wz C (m_iS M 8 v) o X) uc us Q) : z_go μ tg pc L (.int v :: .ref 233 :: st) (wz C M o X) uc us Q := z_put 33 (wz C (m_iS M 8 v) o X) n hd hok rfl rfl (Nat.le_of_ble_eq_true rfl) (fun _ => ⟨rfl, rfl⟩) rfl hn k
theorem gmi_9 {idx : Nat} (v : Int32) (n : Nat) (hd : decode (z_b μ) pc = .ok (.getfield idx, 3)) (hok : z_okF (z_y μ).cls idx 9 18) (hv : m_i M 9 = v) (hn : pc + 3 = n) (k : z_go μ tg n L (.int v :: st) (wz C M o X) uc us Q) : z_go μ tg pc L (.ref 233 :: st) (wz C M o X) uc us Q := by subst hv; exact z_get 33 n hd hok rfl rfl rfl hn k
theorem pmi_9 {idx : Nat} {v : Int32} (n : Nat) (hd : decode (z_b μ) pc = .ok (.putfield idx, 3)) (hok : z_okP (z_y μ).cls idx 9 18 .int false) (hn : pc + 3 = n) (k : z_go μ tg n L st (wz C (m_iS M 9 v) o X) uc us Q) : z_go μ tg pc L (.int v :: .ref 233 :: st) (wz C M o X) uc us Q := z_put 33 (wz C (m_iS M 9 v) o X) n hd hok rfl rfl (Nat.le_of_ble_eq_true rfl) (fun _ => ⟨rfl, rfl⟩) rfl hn k
theorem gmi_10 {idx : Nat} (v : Int32) (n : Nat) (hd : decode (z_b μ) pc = .ok (.getfield idx, 3)) (hok : z_okF (z_y μ).cls idx 9 19) (hv : m_i M 10 = v) (hn : pc + 3 = n) (k : z_go μ tg n L (.int v :: st) (wz C M o X) uc us Q) : z_go μ tg pc L (.ref 233 :: st) (wz C M o X) uc us Q := by subst hv; exact z_get 33 n hd hok rfl rfl rfl hn k
theorem pmi_10 {idx : Nat} {v : Int32} (n : Nat) (hd : decode (z_b μ) pc = .ok (.putfield idx, 3)) (hok : z_okP (z_y μ).cls idx 9 19 .int false) (hn : pc + 3 = n) (k : z_go μ tg n L st (wz C (m_iS M 10 v) o X) uc us Q) : z_go μ tg pc L (.int v :: .ref 233 :: st) (wz C M o X) uc us Q := z_put 33 (wz C (m_iS M 10 v) o X) n hd hok rfl rfl (Nat.le_of_ble_eq_true rfl) (fun _ => ⟨rfl, rfl⟩) rfl hn k
theorem gmi_11 {idx : Nat} (v : Int32) (n : Nat) (hd : decode (z_b μ) pc = .ok (.getfield idx, 3)) (hok : z_okF (z_y μ).cls idx 9 20) (hv : m_i M 11 = v) (hn : pc + 3 = n) (k : z_go μ tg n L (.int v :: st) (wz C M o X) uc us Q) : z_go μ tg pc L (.ref 233 :: st) (wz C M o X) uc us Q := by subst hv; exact z_get 33 n hd hok rfl rfl rfl hn k
theorem pmi_11 {idx : Nat} {v : Int32} (n : Nat) (hd : decode (z_b μ) pc = .ok (.putfield idx, 3)) (hok : z_okP (z_y μ).cls idx 9 20 .int false) (hn : pc + 3 = n) (k : z_go μ tg n L st (wz C (m_iS M 11 v) o X) uc us Q) : z_go μ tg pc L (.int v :: .ref 233 :: st) (wz C M o X) uc us Q := z_put 33 (wz C (m_iS M 11 v) o X) n hd hok rfl rfl (Nat.le_of_ble_eq_true rfl) (fun _ => ⟨rfl, rfl⟩) rfl hn k
theorem gmi_12 {idx : Nat} (v : Int32) (n : Nat) (hd : decode (z_b μ) pc = .ok (.getfield idx, 3)) (hok : z_okF (z_y μ).cls idx 9 21) (hv : m_i M 12 = v) (hn : pc + 3 = n) (k : z_go μ tg n L (.int v :: st) (wz C M o X) uc us Q) : z_go μ tg pc L (.ref 233 :: st) (wz C M o X) uc us Q := by subst hv; exact z_get 33 n hd hok rfl rfl rfl hn k
theorem pmi_12 {idx : Nat} {v : Int32} (n : Nat) (hd : decode (z_b μ) pc = .ok (.putfield idx, 3)) (hok : z_okP (z_y μ).cls idx 9 21 .int false) (hn : pc + 3 = n) (k : z_go μ tg n L st (wz C (m_iS M 12 v) o X) uc us Q) : z_go μ tg pc L (.int v :: .ref 233 :: st) (wz C M o X) uc us Q := z_put 33 (wz C (m_iS M 12 v) o X) n hd hok rfl rfl (Nat.le_of_ble_eq_true rfl) (fun _ => ⟨rfl, rfl⟩) rfl hn k
theorem gmi_13 {idx : Nat} (v : Int32) (n : Nat) (hd : decode (z_b μ) pc = .ok (.getfield idx, 3)) (hok : z_okF (z_y μ).cls idx 9 22) (hv : m_i M 13 = v) (hn : pc + 3 = n) (k : z_go μ tg n L (.int v :: st) (wz C M o X) uc us Q) : z_go μ tg pc L (.ref 233 :: st) (wz C M o X) uc us Q := by subst hv; exact z_get 33 n hd hok rfl rfl rfl hn k
theorem pmi_13 {idx : Nat} {v : Int32} (n : Nat) (hd : decode (z_b μ) pc = .ok (.putfield idx, 3)) (hok : z_okP (z_y μ).cls idx 9 22 .int false) (hn : pc + 3 = n) (k : z_go μ tg n L st (wz C (m_iS M 13 v) o X) uc us Q) : z_go μ tg pc L (.int v :: .ref 233 :: st) (wz C M o X) uc us Q := z_put 33 (wz C (m_iS M 13 v) o X) n hd hok rfl rfl (Nat.le_of_ble_eq_true rfl) (fun _ => ⟨rfl, rfl⟩) rfl hn k
theorem gmi_14 {idx : Nat} (v : Int32) (n : Nat) (hd : decode (z_b μ) pc = .ok (.getfield idx, 3)) (hok : z_okF (z_y μ).cls idx 9 23) (hv : m_i M 14 = v) (hn : pc + 3 = n) (k : z_go μ tg n L (.int v :: st) (wz C M o X) uc us Q) : z_go μ tg pc L (.ref 233 :: st) (wz C M o X) uc us Q := by subst hv; exact z_get 33 n hd hok rfl rfl rfl hn k
theorem pmi_14 {idx : Nat} {v : Int32} (n : Nat) (hd : decode (z_b μ) pc = .ok (.putfield idx, 3)) (hok : z_okP (z_y μ).cls idx 9 23 .int false) (hn : pc + 3 = n) (k : z_go μ tg n L st (wz C (m_iS M 14 v) o X) uc us Q) : z_go μ tg pc L (.int v :: .ref 233 :: st) (wz C M o X) uc us Q := z_put 33 (wz C (m_iS M 14 v) o X) n hd hok rfl rfl (Nat.le_of_ble_eq_true rfl) (fun _ => ⟨rfl, rfl⟩) rfl hn k
theorem gmi_15 {idx : Nat} (v : Int32) (n : Nat) (hd : decode (z_b μ) pc = .ok (.getfield idx, 3)) (hok : z_okF (z_y μ).cls idx 9 24) (hv : m_i M 15 = v) (hn : pc + 3 = n) (k : z_go μ tg n L (.int v :: st) (wz C M o X) uc us Q) : z_go μ tg pc L (.ref 233 :: st) (wz C M o X) uc us Q := by subst hv; exact z_get 33 n hd hok rfl rfl rfl hn k
theorem pmi_15 {idx : Nat} {v : Int32} (n : Nat) (hd : decode (z_b μ) pc = .ok (.putfield idx, 3)) (hok : z_okP (z_y μ).cls idx 9 24 .int false) (hn : pc + 3 = n) (k : z_go μ tg n L st (wz C (m_iS M 15 v) o X) uc us Q) : z_go μ tg pc L (.int v :: .ref 233 :: st) (wz C M o X) uc us Q := z_put 33 (wz C (m_iS M 15 v) o X) n hd hok rfl rfl (Nat.le_of_ble_eq_true rfl) (fun _ => ⟨rfl, rfl⟩) rfl hn k
theorem gmi_16 {idx : Nat} (v : Int32) (n : Nat) (hd : decode (z_b μ) pc = .ok (.getfield idx, 3)) (hok : z_okF (z_y μ).cls idx 9 25) (hv : m_i M 16 = v) (hn : pc + 3 = n) (k : z_go μ tg n L (.int v :: st) (wz C M o X) uc us Q) : z_go μ tg pc L (.ref 233 :: st) (wz C M o X) uc us Q := by subst hv; exact z_get 33 n hd hok rfl rfl rfl hn k
theorem pmi_16 {idx : Nat} {v : Int32} (n : Nat) (hd : decode (z_b μ) pc = .ok (.putfield idx, 3)) (hok : z_okP (z_y μ).cls idx 9 25 .int false) (hn : pc + 3 = n) (k : z_go μ tg n L st (wz C (m_iS M 16 v) o X) uc us Q) : z_go μ tg pc L (.int v :: .ref 233 :: st) (wz C M o X) uc us Q := z_put 33 (wz C (m_iS M 16 v) o X) n hd hok rfl rfl (Nat.le_of_ble_eq_true rfl) (fun _ => ⟨rfl, rfl⟩) rfl hn k
theorem gmi_17 {idx : Nat} (v : Int32) (n : Nat) (hd : decode (z_b μ) pc = .ok (.getfield idx, 3)) (hok : z_okF (z_y μ).cls idx 9 26) (hv : m_i M 17 = v) (hn : pc + 3 = n) (k : z_go μ tg n L (.int v :: st) (wz C M o X) uc us Q) : z_go μ tg pc L (.ref 233 :: st) (wz C M o X) uc us Q := by subst hv; exact z_get 33 n hd hok rfl rfl rfl hn k
theorem pmi_17 {idx : Nat} {v : Int32} (n : Nat) (hd : decode (z_b μ) pc = .ok (.putfield idx, 3)) (hok : z_okP (z_y μ).cls idx 9 26 .int false) (hn : pc + 3 = n) (k : z_go μ tg n L st (wz C (m_iS M 17 v) o X) uc us Q) : z_go μ tg pc L (.int v :: .ref 233 :: st) (wz C M o X) uc us Q := z_put 33 (wz C (m_iS M 17 v) o X) n hd hok rfl rfl (Nat.le_of_ble_eq_true rfl) (fun _ => ⟨rfl, rfl⟩) rfl hn k
theorem gmi_18 {idx : Nat} (v : Int32) (n : Nat) (hd : decode (z_b μ) pc = .ok (.getfield idx, 3)) (hok : z_okF (z_y μ).cls idx 9 27) (hv : m_i M 18 = v) (hn : pc + 3 = n) (k : z_go μ tg n L (.int v :: st) (wz C M o X) uc us Q) : z_go μ tg pc L (.ref 233 :: st) (wz C M o X) uc us Q := by subst hv; exact z_get 33 n hd hok rfl rfl rfl hn k
theorem pmi_18 {idx : Nat} {v : Int32} (n : Nat) (hd : decode (z_b μ) pc = .ok (.putfield idx, 3)) (hok : z_okP (z_y μ).cls idx 9 27 .int false) (hn : pc + 3 = n) (k : z_go μ tg n L st (wz C (m_iS M 18 v) o X) uc us Q) : z_go μ tg pc L (.int v :: .ref 233 :: st) (wz C M o X) uc us Q := z_put 33 (wz C (m_iS M 18 v) o X) n hd hok rfl rfl (Nat.le_of_ble_eq_true rfl) (fun _ => ⟨rfl, rfl⟩) rfl hn k
theorem gmi_19 {idx : Nat} (v : Int32) (n : Nat) (hd : decode (z_b μ) pc = .ok (.getfield idx, 3)) (hok : z_okF (z_y μ).cls idx 9 29) (hv : m_i M 19 = v) (hn : pc + 3 = n) (k : z_go μ tg n L (.int v :: st) (wz C M o X) uc us Q) : z_go μ tg pc L (.ref 233 :: st) (wz C M o X) uc us Q := by subst hv; exact z_get 33 n hd hok rfl rfl rfl hn k
theorem pmi_19 {idx : Nat} {v : Int32} (n : Nat) (hd : decode (z_b μ) pc = .ok (.putfield idx, 3)) (hok : z_okP (z_y μ).cls idx 9 29 .int false) (hn : pc + 3 = n) (k : z_go μ tg n L st (wz C (m_iS M 19 v) o X) uc us Q) : z_go μ tg pc L (.int v :: .ref 233 :: st) (wz C M o X) uc us Q := z_put 33 (wz C (m_iS M 19 v) o X) n hd hok rfl rfl (Nat.le_of_ble_eq_true rfl) (fun _ => ⟨rfl, rfl⟩) rfl hn k
theorem gmi_20 {idx : Nat} (v : Int32) (n : Nat) (hd : decode (z_b μ) pc = .ok (.getfield idx, 3)) (hok : z_okF (z_y μ).cls idx 9 37) (hv : m_i M 20 = v) (hn : pc + 3 = n) (k : z_go μ tg n L (.int v :: st) (wz C M o X) uc us Q) : z_go μ tg pc L (.ref 233 :: st) (wz C M o X) uc us Q := by subst hv; exact z_get 33 n hd hok rfl rfl rfl hn k
theorem pmi_20 {idx : Nat} {v : Int32} (n : Nat) (hd : decode (z_b μ) pc = .ok (.putfield idx, 3)) (hok : z_okP (z_y μ).cls idx 9 37 .int false) (hn : pc + 3 = n) (k : z_go μ tg n L st (wz C (m_iS M 20 v) o X) uc us Q) : z_go μ tg pc L (.int v :: .ref 233 :: st) (wz C M o X) uc us Q := z_put 33 (wz C (m_iS M 20 v) o X) n hd hok rfl rfl (Nat.le_of_ble_eq_true rfl) (fun _ => ⟨rfl, rfl⟩) rfl hn k
theorem gmi_21 {idx : Nat} (v : Int32) (n : Nat) (hd : decode (z_b μ) pc = .ok (.getfield idx, 3)) (hok : z_okF (z_y μ).cls idx 9 38) (hv : m_i M 21 = v) (hn : pc + 3 = n) (k : z_go μ tg n L (.int v :: st) (wz C M o X) uc us Q) : z_go μ tg pc L (.ref 233 :: st) (wz C M o X) uc us Q := by subst hv; exact z_get 33 n hd hok rfl rfl rfl hn k
theorem pmi_21 {idx : Nat} {v : Int32} (n : Nat) (hd : decode (z_b μ) pc = .ok (.putfield idx, 3)) (hok : z_okP (z_y μ).cls idx 9 38 .int false) (hn : pc + 3 = n) (k : z_go μ tg n L st (wz C (m_iS M 21 v) o X) uc us Q) : z_go μ tg pc L (.int v :: .ref 233 :: st) (wz C M o X) uc us Q := z_put 33 (wz C (m_iS M 21 v) o X) n hd hok rfl rfl (Nat.le_of_ble_eq_true rfl) (fun _ => ⟨rfl, rfl⟩) rfl hn k
theorem gmi_22 {idx : Nat} (v : Int32) (n : Nat) (hd : decode (z_b μ) pc = .ok (.getfield idx, 3)) (hok : z_okF (z_y μ).cls idx 9 39) (hv : m_i M 22 = v) (hn : pc + 3 = n) (k : z_go μ tg n L (.int v :: st) (wz C M o X) uc us Q) : z_go μ tg pc L (.ref 233 :: st) (wz C M o X) uc us Q := by subst hv; exact z_get 33 n hd hok rfl rfl rfl hn k
theorem pmi_22 {idx : Nat} {v : Int32} (n : Nat) (hd : decode (z_b μ) pc = .ok (.putfield idx, 3)) (hok : z_okP (z_y μ).cls idx 9 39 .int false) (hn : pc + 3 = n) (k : z_go μ tg n L st (wz C (m_iS M 22 v) o X) uc us Q) : z_go μ tg pc L (.int v :: .ref 233 :: st) (wz C M o X) uc us Q := z_put 33 (wz C (m_iS M 22 v) o X) n hd hok rfl rfl (Nat.le_of_ble_eq_true rfl) (fun _ => ⟨rfl, rfl⟩) rfl hn k
theorem gmi_23 {idx : Nat} (v : Int32) (n : Nat) (hd : decode (z_b μ) pc = .ok (.getfield idx, 3)) (hok : z_okF (z_y μ).cls idx 9 40) (hv : m_i M 23 = v) (hn : pc + 3 = n) (k : z_go μ tg n L (.int v :: st) (wz C M o X) uc us Q) : z_go μ tg pc L (.ref 233 :: st) (wz C M o X) uc us Q := by subst hv; exact z_get 33 n hd hok rfl rfl rfl hn k
theorem pmi_23 {idx : Nat} {v : Int32} (n : Nat) (hd : decode (z_b μ) pc = .ok (.putfield idx, 3)) (hok : z_okP (z_y μ).cls idx 9 40 .int false) (hn : pc + 3 = n) (k : z_go μ tg n L st (wz C (m_iS M 23 v) o X) uc us Q) : z_go μ tg pc L (.int v :: .ref 233 :: st) (wz C M o X) uc us Q := z_put 33 (wz C (m_iS M 23 v) o X) n hd hok rfl rfl (Nat.le_of_ble_eq_true rfl) (fun _ => ⟨rfl, rfl⟩) rfl hn k
theorem gmi_24 {idx : Nat} (v : Int32) (n : Nat) (hd : decode (z_b μ) pc = .ok (.getfield idx, 3)) (hok : z_okF (z_y μ).cls idx 9 50) (hv : m_i M 24 = v) (hn : pc + 3 = n) (k : z_go μ tg n L (.int v :: st) (wz C M o X) uc us Q) : z_go μ tg pc L (.ref 233 :: st) (wz C M o X) uc us Q := by subst hv; exact z_get 33 n hd hok rfl rfl rfl hn k
theorem pmi_24 {idx : Nat} {v : Int32} (n : Nat) (hd : decode (z_b μ) pc = .ok (.putfield idx, 3)) (hok : z_okP (z_y μ).cls idx 9 50 .int false) (hn : pc + 3 = n) (k : z_go μ tg n L st (wz C (m_iS M 24 v) o X) uc us Q) : z_go μ tg pc L (.int v :: .ref 233 :: st) (wz C M o X) uc us Q := z_put 33 (wz C (m_iS M 24 v) o X) n hd hok rfl rfl (Nat.le_of_ble_eq_true rfl) (fun _ => ⟨rfl, rfl⟩) rfl hn k
theorem gmi_25 {idx : Nat} (v : Int32) (n : Nat) (hd : decode (z_b μ) pc = .ok (.getfield idx, 3)) (hok : z_okF (z_y μ).cls idx 9 51) (hv : m_i M 25 = v) (hn : pc + 3 = n) (k : z_go μ tg n L (.int v :: st) (wz C M o X) uc us Q) : z_go μ tg pc L (.ref 233 :: st) (wz C M o X) uc us Q := by subst hv; exact z_get 33 n hd hok rfl rfl rfl hn k
theorem pmi_25 {idx : Nat} {v : Int32} (n : Nat) (hd : decode (z_b μ) pc = .ok (.putfield idx, 3)) (hok : z_okP (z_y μ).cls idx 9 51 .int false) (hn : pc + 3 = n) (k : z_go μ tg n L st (wz C (m_iS M 25 v) o X) uc us Q) : z_go μ tg pc L (.int v :: .ref 233 :: st) (wz C M o X) uc us Q := z_put 33 (wz C (m_iS M 25 v) o X) n hd hok rfl rfl (Nat.le_of_ble_eq_true rfl) (fun _ => ⟨rfl, rfl⟩) rfl hn k
theorem gmi_26 {idx : Nat} (v : Int32) (n : Nat) (hd : decode (z_b μ) pc = .ok (.getfield idx, 3)) (hok : z_okF (z_y μ).cls idx 9 55) (hv : m_i M 26 = v) (hn : pc + 3 = n) (k : z_go μ tg n L (.int v :: st) (wz C M o X) uc us Q) : z_go μ tg pc L (.ref 233 :: st) (wz C M o X) uc us Q := by subst hv; exact z_get 33 n hd hok rfl rfl rfl hn k
theorem pmi_26 {idx : Nat} {v : Int32} (n : Nat) (hd : decode (z_b μ) pc = .ok (.putfield idx, 3)) (hok : z_okP (z_y μ).cls idx 9 55 .int false) (hn : pc + 3 = n) (k : z_go μ tg n L st (wz C (m_iS M 26 v) o X) uc us Q) : z_go μ tg pc L (.int v :: .ref 233 :: st) (wz C M o X) uc us Q := z_put 33 (wz C (m_iS M 26 v) o X) n hd hok rfl rfl (Nat.le_of_ble_eq_true rfl) (fun _ => ⟨rfl, rfl⟩) rfl hn k
theorem gmi_27 {idx : Nat} (v : Int32) (n : Nat) (hd : decode (z_b μ) pc = .ok (.getfield idx, 3)) (hok : z_okF (z_y μ).cls idx 9 56) (hv : m_i M 27 = v) (hn : pc + 3 = n) (k : z_go μ tg n L (.int v :: st) (wz C M o X) uc us Q) : z_go μ tg pc L (.ref 233 :: st) (wz C M o X) uc us Q := by subst hv; exact z_get 33 n hd hok rfl rfl rfl hn k
theorem pmi_27 {idx : Nat} {v : Int32} (n : Nat) (hd : decode (z_b μ) pc = .ok (.putfield idx, 3)) (hok : z_okP (z_y μ).cls idx 9 56 .int false) (hn : pc + 3 = n) (k : z_go μ tg n L st (wz C (m_iS M 27 v) o X) uc us Q) : z_go μ tg pc L (.int v :: .ref 233 :: st) (wz C M o X) uc us Q := z_put 33 (wz C (m_iS M 27 v) o X) n hd hok rfl rfl (Nat.le_of_ble_eq_true rfl) (fun _ => ⟨rfl, rfl⟩) rfl hn k
theorem gmi_28 {idx : Nat} (v : Int32) (n : Nat) (hd : decode (z_b μ) pc = .ok (.getfield idx, 3)) (hok : z_okF (z_y μ).cls idx 9 57) (hv : m_i M 28 = v) (hn : pc + 3 = n) (k : z_go μ tg n L (.int v :: st) (wz C M o X) uc us Q) : z_go μ tg pc L (.ref 233 :: st) (wz C M o X) uc us Q := by subst hv; exact z_get 33 n hd hok rfl rfl rfl hn k
theorem pmi_28 {idx : Nat} {v : Int32} (n : Nat) (hd : decode (z_b μ) pc = .ok (.putfield idx, 3)) (hok : z_okP (z_y μ).cls idx 9 57 .int false) (hn : pc + 3 = n) (k : z_go μ tg n L st (wz C (m_iS M 28 v) o X) uc us Q) : z_go μ tg pc L (.int v :: .ref 233 :: st) (wz C M o X) uc us Q := z_put 33 (wz C (m_iS M 28 v) o X) n hd hok rfl rfl (Nat.le_of_ble_eq_true rfl) (fun _ => ⟨rfl, rfl⟩) rfl hn k
theorem gmi_29 {idx : Nat} (v : Int32) (n : Nat) (hd : decode (z_b μ) pc = .ok (.getfield idx, 3)) (hok : z_okF (z_y μ).cls idx 9 58) (hv : m_i M 29 = v) (hn : pc + 3 = n) (k : z_go μ tg n L (.int v :: st) (wz C M o X) uc us Q) : z_go μ tg pc L (.ref 233 :: st) (wz C M o X) uc us Q := by subst hv; exact z_get 33 n hd hok rfl rfl rfl hn k
theorem pmi_29 {idx : Nat} {v : Int32} (n : Nat) (hd : decode (z_b μ) pc = .ok (.putfield idx, 3)) (hok : z_okP (z_y μ).cls idx 9 58 .int false) (hn : pc + 3 = n) (k : z_go μ tg n L st (wz C (m_iS M 29 v) o X) uc us Q) : z_go μ tg pc L (.int v :: .ref 233 :: st) (wz C M o X) uc us Q := z_put 33 (wz C (m_iS M 29 v) o X) n hd hok rfl rfl (Nat.le_of_ble_eq_true rfl) (fun _ => ⟨rfl, rfl⟩) rfl hn k
theorem gmi_30 {idx : Nat} (v : Int32) (n : Nat) (hd : decode (z_b μ) pc = .ok (.getfield idx, 3)) (hok : z_okF (z_y μ).cls idx 9 59) (hv : m_i M 30 = v) (hn : pc + 3 = n) (k : z_go μ tg n L (.int v :: st) (wz C M o X) uc us Q) : z_go μ tg pc L (.ref 233 :: st) (wz C M o X) uc us Q := by subst hv; exact z_get 33 n hd hok rfl rfl rfl hn k
theorem pmi_30 {idx : Nat} {v : Int32} (n : Nat) (hd : decode (z_b μ) pc = .ok (.putfield idx, 3)) (hok : z_okP (z_y μ).cls idx 9 59 .int false) (hn : pc + 3 = n) (k : z_go μ tg n L st (wz C (m_iS M 30 v) o X) uc us Q) : z_go μ tg pc L (.int v :: .ref 233 :: st) (wz C M o X) uc us Q := z_put 33 (wz C (m_iS M 30 v) o X) n hd hok rfl rfl (Nat.le_of_ble_eq_true rfl) (fun _ => ⟨rfl, rfl⟩) rfl hn k
theorem gmi_31 {idx : Nat} (v : Int32) (n : Nat) (hd : decode (z_b μ) pc = .ok (.getfield idx, 3)) (hok : z_okF (z_y μ).cls idx 9 60) (hv : m_i M 31 = v) (hn : pc + 3 = n) (k : z_go μ tg n L (.int v :: st) (wz C M o X) uc us Q) : z_go μ tg pc L (.ref 233 :: st) (wz C M o X) uc us Q := by subst hv; exact z_get 33 n hd hok rfl rfl rfl hn k
theorem pmi_31 {idx : Nat} {v : Int32} (n : Nat) (hd : decode (z_b μ) pc = .ok (.putfield idx, 3)) (hok : z_okP (z_y μ).cls idx 9 60 .int false) (hn : pc + 3 = n) (k : z_go μ tg n L st (wz C (m_iS M 31 v) o X) uc us Q) : z_go μ tg pc L (.int v :: .ref 233 :: st) (wz C M o X) uc us Q := z_put 33 (wz C (m_iS M 31 v) o X) n hd hok rfl rfl (Nat.le_of_ble_eq_true rfl) (fun _ => ⟨rfl, rfl⟩) rfl hn k
theorem gmi_32 {idx : Nat} (v : Int32) (n : Nat) (hd : decode (z_b μ) pc = .ok (.getfield idx, 3)) (hok : z_okF (z_y μ).cls idx 9 61) (hv : m_i M 32 = v) (hn : pc + 3 = n) (k : z_go μ tg n L (.int v :: st) (wz C M o X) uc us Q) : z_go μ tg pc L (.ref 233 :: st) (wz C M o X) uc us Q := by subst hv; exact z_get 33 n hd hok rfl rfl rfl hn k
theorem pmi_32 {idx : Nat} {v : Int32} (n : Nat) (hd : decode (z_b μ) pc = .ok (.putfield idx, 3)) (hok : z_okP (z_y μ).cls idx 9 61 .int false) (hn : pc + 3 = n) (k : z_go μ tg n L st (wz C (m_iS M 32 v) o X) uc us Q) : z_go μ tg pc L (.int v :: .ref 233 :: st) (wz C M o X) uc us Q := z_put 33 (wz C (m_iS M 32 v) o X) n hd hok rfl rfl (Nat.le_of_ble_eq_true rfl) (fun _ => ⟨rfl, rfl⟩) rfl hn k
theorem gmi_33 {idx : Nat} (v : Int32) (n : Nat) (hd : decode (z_b μ) pc = .ok (.getfield idx, 3)) (hok : z_okF (z_y μ).cls idx 9 62) (hv : m_i M 33 = v) (hn : pc + 3 = n) (k : z_go μ tg n L (.int v :: st) (wz C M o X) uc us Q) : z_go μ tg pc L (.ref 233 :: st) (wz C M o X) uc us Q := by subst hv; exact z_get 33 n hd hok rfl rfl rfl hn k
theorem pmi_33 {idx : Nat} {v : Int32} (n : Nat) (hd : decode (z_b μ) pc = .ok (.putfield idx, 3)) (hok : z_okP (z_y μ).cls idx 9 62 .int false) (hn : pc + 3 = n) (k : z_go μ tg n L st (wz C (m_iS M 33 v) o X) uc us Q) : z_go μ tg pc L (.int v :: .ref 233 :: st) (wz C M o X) uc us Q := z_put 33 (wz C (m_iS M 33 v) o X) n hd hok rfl rfl (Nat.le_of_ble_eq_true rfl) (fun _ => ⟨rfl, rfl⟩) rfl hn k
theorem gmi_34 {idx : Nat} (v : Int32) (n : Nat) (hd : decode (z_b μ) pc = .ok (.getfield idx, 3)) (hok : z_okF (z_y μ).cls idx 9 67) (hv : m_i M 34 = v) (hn : pc + 3 = n) (k : z_go μ tg n L (.int v :: st) (wz C M o X) uc us Q) : z_go μ tg pc L (.ref 233 :: st) (wz C M o X) uc us Q := by subst hv; exact z_get 33 n hd hok rfl rfl rfl hn k
theorem pmi_34 {idx : Nat} {v : Int32} (n : Nat) (hd : decode (z_b μ) pc = .ok (.putfield idx, 3)) (hok : z_okP (z_y μ).cls idx 9 67 .int false) (hn : pc + 3 = n) (k : z_go μ tg n L st (wz C (m_iS M 34 v) o X) uc us Q) : z_go μ tg pc L (.int v :: .ref 233 :: st) (wz C M o X) uc us Q := z_put 33 (wz C (m_iS M 34 v) o X) n hd hok rfl rfl (Nat.le_of_ble_eq_true rfl) (fun _ => ⟨rfl, rfl⟩) rfl hn k
theorem gmi_35 {idx : Nat} (v : Int32) (n : Nat) (hd : decode (z_b μ) pc = .ok (.getfield idx, 3)) (hok : z_okF (z_y μ).cls idx 9 69) (hv : m_i M 35 = v) (hn : pc + 3 = n) (k : z_go μ tg n L (.int v :: st) (wz C M o X) uc us Q) : z_go μ tg pc L (.ref 233 :: st) (wz C M o X) uc us Q := by subst hv; exact z_get 33 n hd hok rfl rfl rfl hn k
theorem pmi_35 {idx : Nat} {v : Int32} (n : Nat) (hd : decode (z_b μ) pc = .ok (.putfield idx, 3)) (hok : z_okP (z_y μ).cls idx 9 69 .int false) (hn : pc + 3 = n) (k : z_go μ tg n L st (wz C (m_iS M 35 v) o X) uc us Q) : z_go μ tg pc L (.int v :: .ref 233 :: st) (wz C M o X) uc us Q := z_put 33 (wz C (m_iS M 35 v) o X) n hd hok rfl rfl (Nat.le_of_ble_eq_true rfl) (fun _ => ⟨rfl, rfl⟩) rfl hn k
theorem gca_0 {i : Int32} (v : Int32) (n : Nat) (hd : decode (z_b μ) pc = .ok (.baload, 1)) (hin : vp_in i 2000) (hv : c_a C 0 i.toNatClampNeg = v) (hn : pc + 1 = n) (k : z_go μ tg n L (.int v :: st) (wz C M o X) uc us Q) : z_go μ tg pc L (.int i :: .ref 201 :: st) (wz C M o X) uc us Q := by subst hv; exact z_bald 1 n hd rfl rfl hin hn k
theorem pca_0 {i : Int32} {x : Int32} (n : Nat) (hd : decode (z_b μ) pc = .ok (.bastore, 1)) (hin : vp_in i 2000) (hn : pc + 1 = n) (k : z_go μ tg n L st (wz (c_aU C 0 i (vp_nar .byte x)) M o X) uc us Q) : z_go μ tg pc L (.int x :: .int i :: .ref 201 :: st) (wz C M o X) uc us Q := z_bast 1 (wz (c_aU C 0 i (vp_nar .byte x)) M o X) n hd rfl rfl hin rfl hn k
theorem gca_1 {i : Int32} (v : Int32) (n : Nat) (hd : decode (z_b μ) pc = .ok (.iaload, 1)) (hin : vp_in i 2000) (hv : c_a C 1 i.toNatClampNeg = v) (hn : pc + 1 = n) (k : z_go μ tg n L (.int v :: st) (wz C M o X) uc us Q) : z_go μ tg pc L (.int i :: .ref 204 :: st) (wz C M o X) uc us Q := by subst hv; exact z_iald 4 n hd rfl rfl hin hn k
theorem pca_1 {i : Int32} {x : Int32} (n : Nat) (hd : decode (z_b μ) pc = .ok (.iastore, 1)) (hin : vp_in i 2000) (hn : pc + 1 = n) (k : z_go μ tg n L st (wz (c_aU C 1 i x) M o X) uc us Q) : z_go μ tg pc L (.int x :: .int i :: .ref 204 :: st) (wz C M o X) uc us Q := z_iast 4 (wz (c_aU C 1 i x) M o X) n hd rfl rfl hin rfl hn k
theorem gca_2 {i : Int32} (v : Int32) (n : Nat) (hd : decode (z_b μ) pc = .ok (.iaload, 1)) (hin : vp_in i 2000) (hv : c_a C 2 i.toNatClampNeg = v) (hn : pc + 1 = n) (k : z_go μ tg n L (.int v :: st) (wz C M o X) uc us Q) : z_go μ tg pc L (.int i :: .ref 205 :: st) (wz C M o X) uc us Q := by subst hv; exact z_iald 5 n hd rfl rfl hin hn k
theorem pca_2 {i : Int32} {x : Int32} (n : Nat) (hd : decode (z_b μ) pc = .ok (.iastore, 1)) (hin : vp_in i 2000) (hn : pc + 1 = n) (k : z_go μ tg n L st (wz (c_aU C 2 i x) M o X) uc us Q) : z_go μ tg pc L (.int x :: .int i :: .ref 205 :: st) (wz C M o X) uc us Q := z_iast 5 (wz (c_aU C 2 i x) M o X) n hd rfl rfl hin rfl hn k
theorem gca_3 {i : Int32} (v : Int32) (n : Nat) (hd : decode (z_b μ) pc = .ok (.iaload, 1)) (hin : vp_in i 2000) (hv : c_a C 3 i.toNatClampNeg = v) (hn : pc + 1 = n) (k : z_go μ tg n L (.int v :: st) (wz C M o X) uc us Q) : z_go μ tg pc L (.int i :: .ref 206 :: st) (wz C M o X) uc us Q := by subst hv; exact z_iald 6 n hd rfl rfl hin hn k
theorem pca_3 {i : Int32} {x : Int32} (n : Nat) (hd : decode (z_b μ) pc = .ok (.iastore, 1)) (hin : vp_in i 2000) (hn : pc + 1 = n) (k : z_go μ tg n L st (wz (c_aU C 3 i x) M o X) uc us Q) : z_go μ tg pc L (.int x :: .int i :: .ref 206 :: st) (wz C M o X) uc us Q := z_iast 6 (wz (c_aU C 3 i x) M o X) n hd rfl rfl hin rfl hn k
theorem gca_10 {i : Int32} (v : Int32) (n : Nat) (hd : decode (z_b μ) pc = .ok (.iaload, 1)) (hin : vp_in i (2 * c_sz C)) (hv : c_a C 10 i.toNatClampNeg = v) (hn : pc + 1 = n) (k : z_go μ tg n L (.int v :: st) (wz C M o X) uc us Q) : z_go μ tg pc L (.int i :: .ref 222 :: st) (wz C M o X) uc us Q := by subst hv; exact z_iald 22 n hd rfl rfl hin hn k
theorem pca_10 {i : Int32} {x : Int32} (n : Nat) (hd : decode (z_b μ) pc = .ok (.iastore, 1)) (hin : vp_in i (2 * c_sz C)) (hn : pc + 1 = n) (k : z_go μ tg n L st (wz (c_aU C 10 i x) M o X) uc us Q) : z_go μ tg pc L (.int x :: .int i :: .ref 222 :: st) (wz C M o X) uc us Q := z_iast 22 (wz (c_aU C 10 i x) M o X) n hd rfl rfl hin rfl hn k
theorem gca_11 {i : Int32} (v : Int32) (n : Nat) (hd : decode (z_b μ) pc = .ok (.iaload, 1)) (hin : vp_in i (2 * c_sz C)) (hv : c_a C 11 i.toNatClampNeg = v) (hn : pc + 1 = n) (k : z_go μ tg n L (.int v :: st) (wz C M o X) uc us Q) : z_go μ tg pc L (.int i :: .ref 223 :: st) (wz C M o X) uc us Q := by subst hv; exact z_iald 23 n hd rfl rfl hin hn k
theorem pca_11 {i : Int32} {x : Int32} (n : Nat) (hd : decode (z_b μ) pc = .ok (.iastore, 1)) (hin : vp_in i (2 * c_sz C)) (hn : pc + 1 = n) (k : z_go μ tg n L st (wz (c_aU C 11 i x) M o X) uc us Q) : z_go μ tg pc L (.int x :: .int i :: .ref 223 :: st) (wz C M o X) uc us Q := z_iast 23 (wz (c_aU C 11 i x) M o X) n hd rfl rfl hin rfl hn k
theorem gca_12 {i : Int32} (v : Int32) (n : Nat) (hd : decode (z_b μ) pc = .ok (.iaload, 1)) (hin : vp_in i 58) (hv : c_a C 12 i.toNatClampNeg = v) (hn : pc + 1 = n) (k : z_go μ tg n L (.int v :: st) (wz C M o X) uc us Q) : z_go μ tg pc L (.int i :: .ref 219 :: st) (wz C M o X) uc us Q := by subst hv; exact z_iald 19 n hd rfl rfl hin hn k
theorem pca_12 {i : Int32} {x : Int32} (n : Nat) (hd : decode (z_b μ) pc = .ok (.iastore, 1)) (hin : vp_in i 58) (hn : pc + 1 = n) (k : z_go μ tg n L st (wz (c_aU C 12 i x) M o X) uc us Q) : z_go μ tg pc L (.int x :: .int i :: .ref 219 :: st) (wz C M o X) uc us Q := z_iast 19 (wz (c_aU C 12 i x) M o X) n hd rfl rfl hin rfl hn k
theorem gca_13 {i : Int32} (v : Int32) (n : Nat) (hd : decode (z_b μ) pc = .ok (.iaload, 1)) (hin : vp_in i 58) (hv : c_a C 13 i.toNatClampNeg = v) (hn : pc + 1 = n) (k : z_go μ tg n L (.int v :: st) (wz C M o X) uc us Q) : z_go μ tg pc L (.int i :: .ref 220 :: st) (wz C M o X) uc us Q := by subst hv; exact z_iald 20 n hd rfl rfl hin hn k
theorem pca_13 {i : Int32} {x : Int32} (n : Nat) (hd : decode (z_b μ) pc = .ok (.iastore, 1)) (hin : vp_in i 58) (hn : pc + 1 = n) (k : z_go μ tg n L st (wz (c_aU C 13 i x) M o X) uc us Q) : z_go μ tg pc L (.int x :: .int i :: .ref 220 :: st) (wz C M o X) uc us Q := z_iast 20 (wz (c_aU C 13 i x) M o X) n hd rfl rfl hin rfl hn k
theorem gca_14 {i : Int32} (v : Int32) (n : Nat) (hd : decode (z_b μ) pc = .ok (.iaload, 1)) (hin : vp_in i 13) (hv : c_a C 14 i.toNatClampNeg = v) (hn : pc + 1 = n) (k : z_go μ tg n L (.int v :: st) (wz C M o X) uc us Q) : z_go μ tg pc L (.int i :: .ref 221 :: st) (wz C M o X) uc us Q := by subst hv; exact z_iald 21 n hd rfl rfl hin hn k
theorem pca_14 {i : Int32} {x : Int32} (n : Nat) (hd : decode (z_b μ) pc = .ok (.iastore, 1)) (hin : vp_in i 13) (hn : pc + 1 = n) (k : z_go μ tg n L st (wz (c_aU C 14 i x) M o X) uc us Q) : z_go μ tg pc L (.int x :: .int i :: .ref 221 :: st) (wz C M o X) uc us Q := z_iast 21 (wz (c_aU C 14 i x) M o X) n hd rfl rfl hin rfl hn k
theorem gca_15 {i : Int32} (v : Int32) (n : Nat) (hd : decode (z_b μ) pc = .ok (.iaload, 1)) (hin : vp_in i 30) (hv : c_a C 15 i.toNatClampNeg = v) (hn : pc + 1 = n) (k : z_go μ tg n L (.int v :: st) (wz C M o X) uc us Q) : z_go μ tg pc L (.int i :: .ref 226 :: st) (wz C M o X) uc us Q := by subst hv; exact z_iald 26 n hd rfl rfl hin hn k
theorem pca_15 {i : Int32} {x : Int32} (n : Nat) (hd : decode (z_b μ) pc = .ok (.iastore, 1)) (hin : vp_in i 30) (hn : pc + 1 = n) (k : z_go μ tg n L st (wz (c_aU C 15 i x) M o X) uc us Q) : z_go μ tg pc L (.int x :: .int i :: .ref 226 :: st) (wz C M o X) uc us Q := z_iast 26 (wz (c_aU C 15 i x) M o X) n hd rfl rfl hin rfl hn k
theorem gca_16 {i : Int32} (v : Int32) (n : Nat) (hd : decode (z_b μ) pc = .ok (.iaload, 1)) (hin : vp_in i 300) (hv : c_a C 16 i.toNatClampNeg = v) (hn : pc + 1 = n) (k : z_go μ tg n L (.int v :: st) (wz C M o X) uc us Q) : z_go μ tg pc L (.int i :: .ref 227 :: st) (wz C M o X) uc us Q := by subst hv; exact z_iald 27 n hd rfl rfl hin hn k
theorem pca_16 {i : Int32} {x : Int32} (n : Nat) (hd : decode (z_b μ) pc = .ok (.iastore, 1)) (hin : vp_in i 300) (hn : pc + 1 = n) (k : z_go μ tg n L st (wz (c_aU C 16 i x) M o X) uc us Q) : z_go μ tg pc L (.int x :: .int i :: .ref 227 :: st) (wz C M o X) uc us Q := z_iast 27 (wz (c_aU C 16 i x) M o X) n hd rfl rfl hin rfl hn k
theorem gca_17 {i : Int32} (v : Int32) (n : Nat) (hd : decode (z_b μ) pc = .ok (.iaload, 1)) (hin : vp_in i (2 * c_sz C)) (hv : c_a C 17 i.toNatClampNeg = v) (hn : pc + 1 = n) (k : z_go μ tg n L (.int v :: st) (wz C M o X) uc us Q) : z_go μ tg pc L (.int i :: .ref 229 :: st) (wz C M o X) uc us Q := by subst hv; exact z_iald 29 n hd rfl rfl hin hn k
theorem pca_17 {i : Int32} {x : Int32} (n : Nat) (hd : decode (z_b μ) pc = .ok (.iastore, 1)) (hin : vp_in i (2 * c_sz C)) (hn : pc + 1 = n) (k : z_go μ tg n L st (wz (c_aU C 17 i x) M o X) uc us Q) : z_go μ tg pc L (.int x :: .int i :: .ref 229 :: st) (wz C M o X) uc us Q := z_iast 29 (wz (c_aU C 17 i x) M o X) n hd rfl rfl hin rfl hn k
theorem gca_18 {i : Int32} (v : Int32) (n : Nat) (hd : decode (z_b μ) pc = .ok (.iaload, 1)) (hin : vp_in i (2 * c_sz C)) (hv : c_a C 18 i.toNatClampNeg = v) (hn : pc + 1 = n) (k : z_go μ tg n L (.int v :: st) (wz C M o X) uc us Q) : z_go μ tg pc L (.int i :: .ref 230 :: st) (wz C M o X) uc us Q := by subst hv; exact z_iald 30 n hd rfl rfl hin hn k
theorem pca_18 {i : Int32} {x : Int32} (n : Nat) (hd : decode (z_b μ) pc = .ok (.iastore, 1)) (hin : vp_in i (2 * c_sz C)) (hn : pc + 1 = n) (k : z_go μ tg n L st (wz (c_aU C 18 i x) M o X) uc us Q) : z_go μ tg pc L (.int x :: .int i :: .ref 230 :: st) (wz C M o X) uc us Q := z_iast 30 (wz (c_aU C 18 i x) M o X) n hd rfl rfl hin rfl hn k
theorem gca_19 {i : Int32} (v : Int32) (n : Nat) (hd : decode (z_b μ) pc = .ok (.baload, 1)) (hin : vp_in i 600) (hv : c_a C 19 i.toNatClampNeg = v) (hn : pc + 1 = n) (k : z_go μ tg n L (.int v :: st) (wz C M o X) uc us Q) : z_go μ tg pc L (.int i :: .ref 232 :: st) (wz C M o X) uc us Q := by subst hv; exact z_bald 32 n hd rfl rfl hin hn k
theorem pca_19 {i : Int32} {x : Int32} (n : Nat) (hd : decode (z_b μ) pc = .ok (.bastore, 1)) (hin : vp_in i 600) (hn : pc + 1 = n) (k : z_go μ tg n L st (wz (c_aU C 19 i (vp_nar .byte x)) M o X) uc us Q) : z_go μ tg pc L (.int x :: .int i :: .ref 232 :: st) (wz C M o X) uc us Q := z_bast 32 (wz (c_aU C 19 i (vp_nar .byte x)) M o X) n hd rfl rfl hin rfl hn k
theorem gcl_0 {i : Int32} (v : Int64) (n : Nat) (hd : decode (z_b μ) pc = .ok (.laload, 1)) (hin : vp_in i 2000) (hv : c_l C 0 i.toNatClampNeg = v) (hn : pc + 1 = n) (k : z_go μ tg n L (.long v :: st) (wz C M o X) uc us Q) : z_go μ tg pc L (.int i :: .ref 207 :: st) (wz C M o X) uc us Q := by subst hv; exact z_lald 7 n hd rfl rfl hin hn k
theorem pcl_0 {i : Int32} {x : Int64} (n : Nat) (hd : decode (z_b μ) pc = .ok (.lastore, 1)) (hin : vp_in i 2000) (hn : pc + 1 = n) (k : z_go μ tg n L st (wz (c_lU C 0 i x) M o X) uc us Q) : z_go μ tg pc L (.long x :: .int i :: .ref 207 :: st) (wz C M o X) uc us Q := z_last 7 (wz (c_lU C 0 i x) M o X) n hd rfl rfl hin rfl hn k
theorem gma_0 {i : Int32} (v : Int32) (n : Nat) (hd : decode (z_b μ) pc = .ok (.baload, 1)) (hin : vp_in i 1300) (hv : m_a M 0 i.toNatClampNeg = v) (hn : pc + 1 = n) (k : z_go μ tg n L (.int v :: st) (wz C M o X) uc us Q) : z_go μ tg pc L (.int i :: .ref 234 :: st) (wz C M o X) uc us Q := by subst hv; exact z_zald 34 n hd rfl rfl hin hn k
theorem pma_0 {i : Int32} {x : Int32} (n : Nat) (hd : decode (z_b μ) pc = .ok (.bastore, 1)) (hin : vp_in i 1300) (hn : pc + 1 = n) (k : z_go μ tg n L st (wz C (m_aU M 0 i (vp_nar .boolean x)) o X) uc us Q) : z_go μ tg pc L (.int x :: .int i :: .ref 234 :: st) (wz C M o X) uc us Q := z_zast 34 (wz C (m_aU M 0 i (vp_nar .boolean x)) o X) n hd rfl rfl hin rfl hn k
theorem gma_1 {i : Int32} (v : Int32) (n : Nat) (hd : decode (z_b μ) pc = .ok (.iaload, 1)) (hin : vp_in i 1300) (hv : m_a M 1 i.toNatClampNeg = v) (hn : pc + 1 = n) (k : z_go μ tg n L (.int v :: st) (wz C M o X) uc us Q) : z_go μ tg pc L (.int i :: .ref 235 :: st) (wz C M o X) uc us Q := by subst hv; exact z_iald 35 n hd rfl rfl hin hn k
theorem pma_1 {i : Int32} {x : Int32} (n : Nat) (hd : decode (z_b μ) pc = .ok (.iastore, 1)) (hin : vp_in i 1300) (hn : pc + 1 = n) (k : z_go μ tg n L st (wz C (m_aU M 1 i x) o X) uc us Q) : z_go μ tg pc L (.int x :: .int i :: .ref 235 :: st) (wz C M o X) uc us Q := z_iast 35 (wz C (m_aU M 1 i x) o X) n hd rfl rfl hin rfl hn k
theorem gma_2 {i : Int32} (v : Int32) (n : Nat) (hd : decode (z_b μ) pc = .ok (.iaload, 1)) (hin : vp_in i 1300) (hv : m_a M 2 i.toNatClampNeg = v) (hn : pc + 1 = n) (k : z_go μ tg n L (.int v :: st) (wz C M o X) uc us Q) : z_go μ tg pc L (.int i :: .ref 236 :: st) (wz C M o X) uc us Q := by subst hv; exact z_iald 36 n hd rfl rfl hin hn k
theorem pma_2 {i : Int32} {x : Int32} (n : Nat) (hd : decode (z_b μ) pc = .ok (.iastore, 1)) (hin : vp_in i 1300) (hn : pc + 1 = n) (k : z_go μ tg n L st (wz C (m_aU M 2 i x) o X) uc us Q) : z_go μ tg pc L (.int x :: .int i :: .ref 236 :: st) (wz C M o X) uc us Q := z_iast 36 (wz C (m_aU M 2 i x) o X) n hd rfl rfl hin rfl hn k
theorem gma_3 {i : Int32} (v : Int32) (n : Nat) (hd : decode (z_b μ) pc = .ok (.iaload, 1)) (hin : vp_in i 1300) (hv : m_a M 3 i.toNatClampNeg = v) (hn : pc + 1 = n) (k : z_go μ tg n L (.int v :: st) (wz C M o X) uc us Q) : z_go μ tg pc L (.int i :: .ref 237 :: st) (wz C M o X) uc us Q := by subst hv; exact z_iald 37 n hd rfl rfl hin hn k
theorem pma_3 {i : Int32} {x : Int32} (n : Nat) (hd : decode (z_b μ) pc = .ok (.iastore, 1)) (hin : vp_in i 1300) (hn : pc + 1 = n) (k : z_go μ tg n L st (wz C (m_aU M 3 i x) o X) uc us Q) : z_go μ tg pc L (.int x :: .int i :: .ref 237 :: st) (wz C M o X) uc us Q := z_iast 37 (wz C (m_aU M 3 i x) o X) n hd rfl rfl hin rfl hn k
theorem gma_4 {i : Int32} (v : Int32) (n : Nat) (hd : decode (z_b μ) pc = .ok (.iaload, 1)) (hin : vp_in i 52000) (hv : m_a M 4 i.toNatClampNeg = v) (hn : pc + 1 = n) (k : z_go μ tg n L (.int v :: st) (wz C M o X) uc us Q) : z_go μ tg pc L (.int i :: .ref 238 :: st) (wz C M o X) uc us Q := by subst hv; exact z_iald 38 n hd rfl rfl hin hn k
theorem pma_4 {i : Int32} {x : Int32} (n : Nat) (hd : decode (z_b μ) pc = .ok (.iastore, 1)) (hin : vp_in i 52000) (hn : pc + 1 = n) (k : z_go μ tg n L st (wz C (m_aU M 4 i x) o X) uc us Q) : z_go μ tg pc L (.int x :: .int i :: .ref 238 :: st) (wz C M o X) uc us Q := z_iast 38 (wz C (m_aU M 4 i x) o X) n hd rfl rfl hin rfl hn k
theorem gma_5 {i : Int32} (v : Int32) (n : Nat) (hd : decode (z_b μ) pc = .ok (.iaload, 1)) (hin : vp_in i 52000) (hv : m_a M 5 i.toNatClampNeg = v) (hn : pc + 1 = n) (k : z_go μ tg n L (.int v :: st) (wz C M o X) uc us Q) : z_go μ tg pc L (.int i :: .ref 239 :: st) (wz C M o X) uc us Q := by subst hv; exact z_iald 39 n hd rfl rfl hin hn k
theorem pma_5 {i : Int32} {x : Int32} (n : Nat) (hd : decode (z_b μ) pc = .ok (.iastore, 1)) (hin : vp_in i 52000) (hn : pc + 1 = n) (k : z_go μ tg n L st (wz C (m_aU M 5 i x) o X) uc us Q) : z_go μ tg pc L (.int x :: .int i :: .ref 239 :: st) (wz C M o X) uc us Q := z_iast 39 (wz C (m_aU M 5 i x) o X) n hd rfl rfl hin rfl hn k
theorem gma_6 {i : Int32} (v : Int32) (n : Nat) (hd : decode (z_b μ) pc = .ok (.iaload, 1)) (hin : vp_in i 58) (hv : m_a M 6 i.toNatClampNeg = v) (hn : pc + 1 = n) (k : z_go μ tg n L (.int v :: st) (wz C M o X) uc us Q) : z_go μ tg pc L (.int i :: .ref 240 :: st) (wz C M o X) uc us Q := by subst hv; exact z_iald 40 n hd rfl rfl hin hn k
theorem pma_6 {i : Int32} {x : Int32} (n : Nat) (hd : decode (z_b μ) pc = .ok (.iastore, 1)) (hin : vp_in i 58) (hn : pc + 1 = n) (k : z_go μ tg n L st (wz C (m_aU M 6 i x) o X) uc us Q) : z_go μ tg pc L (.int x :: .int i :: .ref 240 :: st) (wz C M o X) uc us Q := z_iast 40 (wz C (m_aU M 6 i x) o X) n hd rfl rfl hin rfl hn k
theorem gma_7 {i : Int32} (v : Int32) (n : Nat) (hd : decode (z_b μ) pc = .ok (.iaload, 1)) (hin : vp_in i 58) (hv : m_a M 7 i.toNatClampNeg = v) (hn : pc + 1 = n) (k : z_go μ tg n L (.int v :: st) (wz C M o X) uc us Q) : z_go μ tg pc L (.int i :: .ref 241 :: st) (wz C M o X) uc us Q := by subst hv; exact z_iald 41 n hd rfl rfl hin hn k
theorem pma_7 {i : Int32} {x : Int32} (n : Nat) (hd : decode (z_b μ) pc = .ok (.iastore, 1)) (hin : vp_in i 58) (hn : pc + 1 = n) (k : z_go μ tg n L st (wz C (m_aU M 7 i x) o X) uc us Q) : z_go μ tg pc L (.int x :: .int i :: .ref 241 :: st) (wz C M o X) uc us Q := z_iast 41 (wz C (m_aU M 7 i x) o X) n hd rfl rfl hin rfl hn k
theorem gma_8 {i : Int32} (v : Int32) (n : Nat) (hd : decode (z_b μ) pc = .ok (.iaload, 1)) (hin : vp_in i 1300) (hv : m_a M 8 i.toNatClampNeg = v) (hn : pc + 1 = n) (k : z_go μ tg n L (.int v :: st) (wz C M o X) uc us Q) : z_go μ tg pc L (.int i :: .ref 242 :: st) (wz C M o X) uc us Q := by subst hv; exact z_iald 42 n hd rfl rfl hin hn k
theorem pma_8 {i : Int32} {x : Int32} (n : Nat) (hd : decode (z_b μ) pc = .ok (.iastore, 1)) (hin : vp_in i 1300) (hn : pc + 1 = n) (k : z_go μ tg n L st (wz C (m_aU M 8 i x) o X) uc us Q) : z_go μ tg pc L (.int x :: .int i :: .ref 242 :: st) (wz C M o X) uc us Q := z_iast 42 (wz C (m_aU M 8 i x) o X) n hd rfl rfl hin rfl hn k
theorem gma_9 {i : Int32} (v : Int32) (n : Nat) (hd : decode (z_b μ) pc = .ok (.iaload, 1)) (hin : vp_in i 2000) (hv : m_a M 9 i.toNatClampNeg = v) (hn : pc + 1 = n) (k : z_go μ tg n L (.int v :: st) (wz C M o X) uc us Q) : z_go μ tg pc L (.int i :: .ref 243 :: st) (wz C M o X) uc us Q := by subst hv; exact z_iald 43 n hd rfl rfl hin hn k
theorem pma_9 {i : Int32} {x : Int32} (n : Nat) (hd : decode (z_b μ) pc = .ok (.iastore, 1)) (hin : vp_in i 2000) (hn : pc + 1 = n) (k : z_go μ tg n L st (wz C (m_aU M 9 i x) o X) uc us Q) : z_go μ tg pc L (.int x :: .int i :: .ref 243 :: st) (wz C M o X) uc us Q := z_iast 43 (wz C (m_aU M 9 i x) o X) n hd rfl rfl hin rfl hn k
theorem gma_10 {i : Int32} (v : Int32) (n : Nat) (hd : decode (z_b μ) pc = .ok (.iaload, 1)) (hin : vp_in i 26) (hv : m_a M 10 i.toNatClampNeg = v) (hn : pc + 1 = n) (k : z_go μ tg n L (.int v :: st) (wz C M o X) uc us Q) : z_go μ tg pc L (.int i :: .ref 245 :: st) (wz C M o X) uc us Q := by subst hv; exact z_iald 45 n hd rfl rfl hin hn k
theorem pma_10 {i : Int32} {x : Int32} (n : Nat) (hd : decode (z_b μ) pc = .ok (.iastore, 1)) (hin : vp_in i 26) (hn : pc + 1 = n) (k : z_go μ tg n L st (wz C (m_aU M 10 i x) o X) uc us Q) : z_go μ tg pc L (.int x :: .int i :: .ref 245 :: st) (wz C M o X) uc us Q := z_iast 45 (wz C (m_aU M 10 i x) o X) n hd rfl rfl hin rfl hn k
theorem gma_11 {i : Int32} (v : Int32) (n : Nat) (hd : decode (z_b μ) pc = .ok (.iaload, 1)) (hin : vp_in i 2001) (hv : m_a M 11 i.toNatClampNeg = v) (hn : pc + 1 = n) (k : z_go μ tg n L (.int v :: st) (wz C M o X) uc us Q) : z_go μ tg pc L (.int i :: .ref 246 :: st) (wz C M o X) uc us Q := by subst hv; exact z_iald 46 n hd rfl rfl hin hn k
theorem pma_11 {i : Int32} {x : Int32} (n : Nat) (hd : decode (z_b μ) pc = .ok (.iastore, 1)) (hin : vp_in i 2001) (hn : pc + 1 = n) (k : z_go μ tg n L st (wz C (m_aU M 11 i x) o X) uc us Q) : z_go μ tg pc L (.int x :: .int i :: .ref 246 :: st) (wz C M o X) uc us Q := z_iast 46 (wz C (m_aU M 11 i x) o X) n hd rfl rfl hin rfl hn k
theorem gma_12 {i : Int32} (v : Int32) (n : Nat) (hd : decode (z_b μ) pc = .ok (.iaload, 1)) (hin : vp_in i 2001) (hv : m_a M 12 i.toNatClampNeg = v) (hn : pc + 1 = n) (k : z_go μ tg n L (.int v :: st) (wz C M o X) uc us Q) : z_go μ tg pc L (.int i :: .ref 247 :: st) (wz C M o X) uc us Q := by subst hv; exact z_iald 47 n hd rfl rfl hin hn k
theorem pma_12 {i : Int32} {x : Int32} (n : Nat) (hd : decode (z_b μ) pc = .ok (.iastore, 1)) (hin : vp_in i 2001) (hn : pc + 1 = n) (k : z_go μ tg n L st (wz C (m_aU M 12 i x) o X) uc us Q) : z_go μ tg pc L (.int x :: .int i :: .ref 247 :: st) (wz C M o X) uc us Q := z_iast 47 (wz C (m_aU M 12 i x) o X) n hd rfl rfl hin rfl hn k
theorem gma_13 {i : Int32} (v : Int32) (n : Nat) (hd : decode (z_b μ) pc = .ok (.iaload, 1)) (hin : vp_in i 2001) (hv : m_a M 13 i.toNatClampNeg = v) (hn : pc + 1 = n) (k : z_go μ tg n L (.int v :: st) (wz C M o X) uc us Q) : z_go μ tg pc L (.int i :: .ref 248 :: st) (wz C M o X) uc us Q := by subst hv; exact z_iald 48 n hd rfl rfl hin hn k
theorem pma_13 {i : Int32} {x : Int32} (n : Nat) (hd : decode (z_b μ) pc = .ok (.iastore, 1)) (hin : vp_in i 2001) (hn : pc + 1 = n) (k : z_go μ tg n L st (wz C (m_aU M 13 i x) o X) uc us Q) : z_go μ tg pc L (.int x :: .int i :: .ref 248 :: st) (wz C M o X) uc us Q := z_iast 48 (wz C (m_aU M 13 i x) o X) n hd rfl rfl hin rfl hn k
theorem gma_14 {i : Int32} (v : Int32) (n : Nat) (hd : decode (z_b μ) pc = .ok (.iaload, 1)) (hin : vp_in i 2001) (hv : m_a M 14 i.toNatClampNeg = v) (hn : pc + 1 = n) (k : z_go μ tg n L (.int v :: st) (wz C M o X) uc us Q) : z_go μ tg pc L (.int i :: .ref 250 :: st) (wz C M o X) uc us Q := by subst hv; exact z_iald 50 n hd rfl rfl hin hn k
theorem pma_14 {i : Int32} {x : Int32} (n : Nat) (hd : decode (z_b μ) pc = .ok (.iastore, 1)) (hin : vp_in i 2001) (hn : pc + 1 = n) (k : z_go μ tg n L st (wz C (m_aU M 14 i x) o X) uc us Q) : z_go μ tg pc L (.int x :: .int i :: .ref 250 :: st) (wz C M o X) uc us Q := z_iast 50 (wz C (m_aU M 14 i x) o X) n hd rfl rfl hin rfl hn k
theorem gma_15 {i : Int32} (v : Int32) (n : Nat) (hd : decode (z_b μ) pc = .ok (.iaload, 1)) (hin : vp_in i 150) (hv : m_a M 15 i.toNatClampNeg = v) (hn : pc + 1 = n) (k : z_go μ tg n L (.int v :: st) (wz C M o X) uc us Q) : z_go μ tg pc L (.int i :: .ref 251 :: st) (wz C M o X) uc us Q := by subst hv; exact z_iald 51 n hd rfl rfl hin hn k
theorem pma_15 {i : Int32} {x : Int32} (n : Nat) (hd : decode (z_b μ) pc = .ok (.iastore, 1)) (hin : vp_in i 150) (hn : pc + 1 = n) (k : z_go μ tg n L st (wz C (m_aU M 15 i x) o X) uc us Q) : z_go μ tg pc L (.int x :: .int i :: .ref 251 :: st) (wz C M o X) uc us Q := z_iast 51 (wz C (m_aU M 15 i x) o X) n hd rfl rfl hin rfl hn k
theorem gma_16 {i : Int32} (v : Int32) (n : Nat) (hd : decode (z_b μ) pc = .ok (.iaload, 1)) (hin : vp_in i 150) (hv : m_a M 16 i.toNatClampNeg = v) (hn : pc + 1 = n) (k : z_go μ tg n L (.int v :: st) (wz C M o X) uc us Q) : z_go μ tg pc L (.int i :: .ref 252 :: st) (wz C M o X) uc us Q := by subst hv; exact z_iald 52 n hd rfl rfl hin hn k
theorem pma_16 {i : Int32} {x : Int32} (n : Nat) (hd : decode (z_b μ) pc = .ok (.iastore, 1)) (hin : vp_in i 150) (hn : pc + 1 = n) (k : z_go μ tg n L st (wz C (m_aU M 16 i x) o X) uc us Q) : z_go μ tg pc L (.int x :: .int i :: .ref 252 :: st) (wz C M o X) uc us Q := z_iast 52 (wz C (m_aU M 16 i x) o X) n hd rfl rfl hin rfl hn k
theorem gma_17 {i : Int32} (v : Int32) (n : Nat) (hd : decode (z_b μ) pc = .ok (.iaload, 1)) (hin : vp_in i 450) (hv : m_a M 17 i.toNatClampNeg = v) (hn : pc + 1 = n) (k : z_go μ tg n L (.int v :: st) (wz C M o X) uc us Q) : z_go μ tg pc L (.int i :: .ref 253 :: st) (wz C M o X) uc us Q := by subst hv; exact z_iald 53 n hd rfl rfl hin hn k
theorem pma_17 {i : Int32} {x : Int32} (n : Nat) (hd : decode (z_b μ) pc = .ok (.iastore, 1)) (hin : vp_in i 450) (hn : pc + 1 = n) (k : z_go μ tg n L st (wz C (m_aU M 17 i x) o X) uc us Q) : z_go μ tg pc L (.int x :: .int i :: .ref 253 :: st) (wz C M o X) uc us Q := z_iast 53 (wz C (m_aU M 17 i x) o X) n hd rfl rfl hin rfl hn k
theorem gma_18 {i : Int32} (v : Int32) (n : Nat) (hd : decode (z_b μ) pc = .ok (.iaload, 1)) (hin : vp_in i 450) (hv : m_a M 18 i.toNatClampNeg = v) (hn : pc + 1 = n) (k : z_go μ tg n L (.int v :: st) (wz C M o X) uc us Q) : z_go μ tg pc L (.int i :: .ref 254 :: st) (wz C M o X) uc us Q := by subst hv; exact z_iald 54 n hd rfl rfl hin hn k
theorem pma_18 {i : Int32} {x : Int32} (n : Nat) (hd : decode (z_b μ) pc = .ok (.iastore, 1)) (hin : vp_in i 450) (hn : pc + 1 = n) (k : z_go μ tg n L st (wz C (m_aU M 18 i x) o X) uc us Q) : z_go μ tg pc L (.int x :: .int i :: .ref 254 :: st) (wz C M o X) uc us Q := z_iast 54 (wz C (m_aU M 18 i x) o X) n hd rfl rfl hin rfl hn k
theorem gma_19 {i : Int32} (v : Int32) (n : Nat) (hd : decode (z_b μ) pc = .ok (.iaload, 1)) (hin : vp_in i 450) (hv : m_a M 19 i.toNatClampNeg = v) (hn : pc + 1 = n) (k : z_go μ tg n L (.int v :: st) (wz C M o X) uc us Q) : z_go μ tg pc L (.int i :: .ref 256 :: st) (wz C M o X) uc us Q := by subst hv; exact z_iald 56 n hd rfl rfl hin hn k
theorem pma_19 {i : Int32} {x : Int32} (n : Nat) (hd : decode (z_b μ) pc = .ok (.iastore, 1)) (hin : vp_in i 450) (hn : pc + 1 = n) (k : z_go μ tg n L st (wz C (m_aU M 19 i x) o X) uc us Q) : z_go μ tg pc L (.int x :: .int i :: .ref 256 :: st) (wz C M o X) uc us Q := z_iast 56 (wz C (m_aU M 19 i x) o X) n hd rfl rfl hin rfl hn k
theorem gma_20 {i : Int32} (v : Int32) (n : Nat) (hd : decode (z_b μ) pc = .ok (.iaload, 1)) (hin : vp_in i 150) (hv : m_a M 20 i.toNatClampNeg = v) (hn : pc + 1 = n) (k : z_go μ tg n L (.int v :: st) (wz C M o X) uc us Q) : z_go μ tg pc L (.int i :: .ref 258 :: st) (wz C M o X) uc us Q := by subst hv; exact z_iald 58 n hd rfl rfl hin hn k
theorem pma_20 {i : Int32} {x : Int32} (n : Nat) (hd : decode (z_b μ) pc = .ok (.iastore, 1)) (hin : vp_in i 150) (hn : pc + 1 = n) (k : z_go μ tg n L st (wz C (m_aU M 20 i x) o X) uc us Q) : z_go μ tg pc L (.int x :: .int i :: .ref 258 :: st) (wz C M o X) uc us Q := z_iast 58 (wz C (m_aU M 20 i x) o X) n hd rfl rfl hin rfl hn k
theorem gma_21 {i : Int32} (v : Int32) (n : Nat) (hd : decode (z_b μ) pc = .ok (.iaload, 1)) (hin : vp_in i 150) (hv : m_a M 21 i.toNatClampNeg = v) (hn : pc + 1 = n) (k : z_go μ tg n L (.int v :: st) (wz C M o X) uc us Q) : z_go μ tg pc L (.int i :: .ref 259 :: st) (wz C M o X) uc us Q := by subst hv; exact z_iald 59 n hd rfl rfl hin hn k
theorem pma_21 {i : Int32} {x : Int32} (n : Nat) (hd : decode (z_b μ) pc = .ok (.iastore, 1)) (hin : vp_in i 150) (hn : pc + 1 = n) (k : z_go μ tg n L st (wz C (m_aU M 21 i x) o X) uc us Q) : z_go μ tg pc L (.int x :: .int i :: .ref 259 :: st) (wz C M o X) uc us Q := z_iast 59 (wz C (m_aU M 21 i x) o X) n hd rfl rfl hin rfl hn k
theorem gma_22 {i : Int32} (v : Int32) (n : Nat) (hd : decode (z_b μ) pc = .ok (.iaload, 1)) (hin : vp_in i 150) (hv : m_a M 22 i.toNatClampNeg = v) (hn : pc + 1 = n) (k : z_go μ tg n L (.int v :: st) (wz C M o X) uc us Q) : z_go μ tg pc L (.int i :: .ref 260 :: st) (wz C M o X) uc us Q := by subst hv; exact z_iald 60 n hd rfl rfl hin hn k
theorem pma_22 {i : Int32} {x : Int32} (n : Nat) (hd : decode (z_b μ) pc = .ok (.iastore, 1)) (hin : vp_in i 150) (hn : pc + 1 = n) (k : z_go μ tg n L st (wz C (m_aU M 22 i x) o X) uc us Q) : z_go μ tg pc L (.int x :: .int i :: .ref 260 :: st) (wz C M o X) uc us Q := z_iast 60 (wz C (m_aU M 22 i x) o X) n hd rfl rfl hin rfl hn k
theorem gma_23 {i : Int32} (v : Int32) (n : Nat) (hd : decode (z_b μ) pc = .ok (.iaload, 1)) (hin : vp_in i 150) (hv : m_a M 23 i.toNatClampNeg = v) (hn : pc + 1 = n) (k : z_go μ tg n L (.int v :: st) (wz C M o X) uc us Q) : z_go μ tg pc L (.int i :: .ref 261 :: st) (wz C M o X) uc us Q := by subst hv; exact z_iald 61 n hd rfl rfl hin hn k
theorem pma_23 {i : Int32} {x : Int32} (n : Nat) (hd : decode (z_b μ) pc = .ok (.iastore, 1)) (hin : vp_in i 150) (hn : pc + 1 = n) (k : z_go μ tg n L st (wz C (m_aU M 23 i x) o X) uc us Q) : z_go μ tg pc L (.int x :: .int i :: .ref 261 :: st) (wz C M o X) uc us Q := z_iast 61 (wz C (m_aU M 23 i x) o X) n hd rfl rfl hin rfl hn k
theorem gma_24 {i : Int32} (v : Int32) (n : Nat) (hd : decode (z_b μ) pc = .ok (.iaload, 1)) (hin : vp_in i 450) (hv : m_a M 24 i.toNatClampNeg = v) (hn : pc + 1 = n) (k : z_go μ tg n L (.int v :: st) (wz C M o X) uc us Q) : z_go μ tg pc L (.int i :: .ref 262 :: st) (wz C M o X) uc us Q := by subst hv; exact z_iald 62 n hd rfl rfl hin hn k
theorem pma_24 {i : Int32} {x : Int32} (n : Nat) (hd : decode (z_b μ) pc = .ok (.iastore, 1)) (hin : vp_in i 450) (hn : pc + 1 = n) (k : z_go μ tg n L st (wz C (m_aU M 24 i x) o X) uc us Q) : z_go μ tg pc L (.int x :: .int i :: .ref 262 :: st) (wz C M o X) uc us Q := z_iast 62 (wz C (m_aU M 24 i x) o X) n hd rfl rfl hin rfl hn k
theorem gma_25 {i : Int32} (v : Int32) (n : Nat) (hd : decode (z_b μ) pc = .ok (.iaload, 1)) (hin : vp_in i 30) (hv : m_a M 25 i.toNatClampNeg = v) (hn : pc + 1 = n) (k : z_go μ tg n L (.int v :: st) (wz C M o X) uc us Q) : z_go μ tg pc L (.int i :: .ref 263 :: st) (wz C M o X) uc us Q := by subst hv; exact z_iald 63 n hd rfl rfl hin hn k
theorem pma_25 {i : Int32} {x : Int32} (n : Nat) (hd : decode (z_b μ) pc = .ok (.iastore, 1)) (hin : vp_in i 30) (hn : pc + 1 = n) (k : z_go μ tg n L st (wz C (m_aU M 25 i x) o X) uc us Q) : z_go μ tg pc L (.int x :: .int i :: .ref 263 :: st) (wz C M o X) uc us Q := z_iast 63 (wz C (m_aU M 25 i x) o X) n hd rfl rfl hin rfl hn k
theorem gma_26 {i : Int32} (v : Int32) (n : Nat) (hd : decode (z_b μ) pc = .ok (.iaload, 1)) (hin : vp_in i 300) (hv : m_a M 26 i.toNatClampNeg = v) (hn : pc + 1 = n) (k : z_go μ tg n L (.int v :: st) (wz C M o X) uc us Q) : z_go μ tg pc L (.int i :: .ref 264 :: st) (wz C M o X) uc us Q := by subst hv; exact z_iald 64 n hd rfl rfl hin hn k
theorem pma_26 {i : Int32} {x : Int32} (n : Nat) (hd : decode (z_b μ) pc = .ok (.iastore, 1)) (hin : vp_in i 300) (hn : pc + 1 = n) (k : z_go μ tg n L st (wz C (m_aU M 26 i x) o X) uc us Q) : z_go μ tg pc L (.int x :: .int i :: .ref 264 :: st) (wz C M o X) uc us Q := z_iast 64 (wz C (m_aU M 26 i x) o X) n hd rfl rfl hin rfl hn k
theorem gma_27 {i : Int32} (v : Int32) (n : Nat) (hd : decode (z_b μ) pc = .ok (.iaload, 1)) (hin : vp_in i 1300) (hv : m_a M 27 i.toNatClampNeg = v) (hn : pc + 1 = n) (k : z_go μ tg n L (.int v :: st) (wz C M o X) uc us Q) : z_go μ tg pc L (.int i :: .ref 265 :: st) (wz C M o X) uc us Q := by subst hv; exact z_iald 65 n hd rfl rfl hin hn k
theorem pma_27 {i : Int32} {x : Int32} (n : Nat) (hd : decode (z_b μ) pc = .ok (.iastore, 1)) (hin : vp_in i 1300) (hn : pc + 1 = n) (k : z_go μ tg n L st (wz C (m_aU M 27 i x) o X) uc us Q) : z_go μ tg pc L (.int x :: .int i :: .ref 265 :: st) (wz C M o X) uc us Q := z_iast 65 (wz C (m_aU M 27 i x) o X) n hd rfl rfl hin rfl hn k
theorem gma_28 {i : Int32} (v : Int32) (n : Nat) (hd : decode (z_b μ) pc = .ok (.iaload, 1)) (hin : vp_in i 1300) (hv : m_a M 28 i.toNatClampNeg = v) (hn : pc + 1 = n) (k : z_go μ tg n L (.int v :: st) (wz C M o X) uc us Q) : z_go μ tg pc L (.int i :: .ref 266 :: st) (wz C M o X) uc us Q := by subst hv; exact z_iald 66 n hd rfl rfl hin hn k
theorem pma_28 {i : Int32} {x : Int32} (n : Nat) (hd : decode (z_b μ) pc = .ok (.iastore, 1)) (hin : vp_in i 1300) (hn : pc + 1 = n) (k : z_go μ tg n L st (wz C (m_aU M 28 i x) o X) uc us Q) : z_go μ tg pc L (.int x :: .int i :: .ref 266 :: st) (wz C M o X) uc us Q := z_iast 66 (wz C (m_aU M 28 i x) o X) n hd rfl rfl hin rfl hn k
theorem gma_29 {i : Int32} (v : Int32) (n : Nat) (hd : decode (z_b μ) pc = .ok (.iaload, 1)) (hin : vp_in i 600) (hv : m_a M 29 i.toNatClampNeg = v) (hn : pc + 1 = n) (k : z_go μ tg n L (.int v :: st) (wz C M o X) uc us Q) : z_go μ tg pc L (.int i :: .ref 267 :: st) (wz C M o X) uc us Q := by subst hv; exact z_iald 67 n hd rfl rfl hin hn k
theorem pma_29 {i : Int32} {x : Int32} (n : Nat) (hd : decode (z_b μ) pc = .ok (.iastore, 1)) (hin : vp_in i 600) (hn : pc + 1 = n) (k : z_go μ tg n L st (wz C (m_aU M 29 i x) o X) uc us Q) : z_go μ tg pc L (.int x :: .int i :: .ref 267 :: st) (wz C M o X) uc us Q := z_iast 67 (wz C (m_aU M 29 i x) o X) n hd rfl rfl hin rfl hn k
theorem gml_0 {i : Int32} (v : Int64) (n : Nat) (hd : decode (z_b μ) pc = .ok (.laload, 1)) (hin : vp_in i 26) (hv : m_l M 0 i.toNatClampNeg = v) (hn : pc + 1 = n) (k : z_go μ tg n L (.long v :: st) (wz C M o X) uc us Q) : z_go μ tg pc L (.int i :: .ref 244 :: st) (wz C M o X) uc us Q := by subst hv; exact z_lald 44 n hd rfl rfl hin hn k
theorem pml_0 {i : Int32} {x : Int64} (n : Nat) (hd : decode (z_b μ) pc = .ok (.lastore, 1)) (hin : vp_in i 26) (hn : pc + 1 = n) (k : z_go μ tg n L st (wz C (m_lU M 0 i x) o X) uc us Q) : z_go μ tg pc L (.long x :: .int i :: .ref 244 :: st) (wz C M o X) uc us Q := z_last 44 (wz C (m_lU M 0 i x) o X) n hd rfl rfl hin rfl hn k
theorem gml_1 {i : Int32} (v : Int64) (n : Nat) (hd : decode (z_b μ) pc = .ok (.laload, 1)) (hin : vp_in i 2001) (hv : m_l M 1 i.toNatClampNeg = v) (hn : pc + 1 = n) (k : z_go μ tg n L (.long v :: st) (wz C M o X) uc us Q) : z_go μ tg pc L (.int i :: .ref 249 :: st) (wz C M o X) uc us Q := by subst hv; exact z_lald 49 n hd rfl rfl hin hn k
theorem pml_1 {i : Int32} {x : Int64} (n : Nat) (hd : decode (z_b μ) pc = .ok (.lastore, 1)) (hin : vp_in i 2001) (hn : pc + 1 = n) (k : z_go μ tg n L st (wz C (m_lU M 1 i x) o X) uc us Q) : z_go μ tg pc L (.long x :: .int i :: .ref 249 :: st) (wz C M o X) uc us Q := z_last 49 (wz C (m_lU M 1 i x) o X) n hd rfl rfl hin rfl hn k
theorem gml_2 {i : Int32} (v : Int64) (n : Nat) (hd : decode (z_b μ) pc = .ok (.laload, 1)) (hin : vp_in i 450) (hv : m_l M 2 i.toNatClampNeg = v) (hn : pc + 1 = n) (k : z_go μ tg n L (.long v :: st) (wz C M o X) uc us Q) : z_go μ tg pc L (.int i :: .ref 255 :: st) (wz C M o X) uc us Q := by subst hv; exact z_lald 55 n hd rfl rfl hin hn k
theorem pml_2 {i : Int32} {x : Int64} (n : Nat) (hd : decode (z_b μ) pc = .ok (.lastore, 1)) (hin : vp_in i 450) (hn : pc + 1 = n) (k : z_go μ tg n L st (wz C (m_lU M 2 i x) o X) uc us Q) : z_go μ tg pc L (.long x :: .int i :: .ref 255 :: st) (wz C M o X) uc us Q := z_last 55 (wz C (m_lU M 2 i x) o X) n hd rfl rfl hin rfl hn k
theorem gml_3 {i : Int32} (v : Int64) (n : Nat) (hd : decode (z_b μ) pc = .ok (.laload, 1)) (hin : vp_in i 150) (hv : m_l M 3 i.toNatClampNeg = v) (hn : pc + 1 = n) (k : z_go μ tg n L (.long v :: st) (wz C M o X) uc us Q) : z_go μ tg pc L (.int i :: .ref 257 :: st) (wz C M o X) uc us Q := by subst hv; exact z_lald 57 n hd rfl rfl hin hn k
theorem pml_3 {i : Int32} {x : Int64} (n : Nat) (hd : decode (z_b μ) pc = .ok (.lastore, 1)) (hin : vp_in i 150) (hn : pc + 1 = n) (k : z_go μ tg n L st (wz C (m_lU M 3 i x) o X) uc us Q) : z_go μ tg pc L (.long x :: .int i :: .ref 257 :: st) (wz C M o X) uc us Q := z_last 57 (wz C (m_lU M 3 i x) o X) n hd rfl rfl hin rfl hn k
theorem gr_0_0 {idx : Nat} (n : Nat) (hd : decode (z_b μ) pc = .ok (.getfield idx, 3)) (hok : z_okF (z_y μ).cls idx 8 0) (hn : pc + 3 = n) (k : z_go μ tg n L (.ref 201 :: st) (wz C M o X) uc us Q) : z_go μ tg pc L (.ref 200 :: st) (wz C M o X) uc us Q := z_get 0 n hd hok rfl rfl rfl hn k
theorem gr_0_2 {idx : Nat} (n : Nat) (hd : decode (z_b μ) pc = .ok (.getfield idx, 3)) (hok : z_okF (z_y μ).cls idx 8 2) (hn : pc + 3 = n) (k : z_go μ tg n L (.ref 202 :: st) (wz C M o X) uc us Q) : z_go μ tg pc L (.ref 200 :: st) (wz C M o X) uc us Q := z_get 0 n hd hok rfl rfl rfl hn k
theorem gr_0_7 {idx : Nat} (n : Nat) (hd : decode (z_b μ) pc = .ok (.getfield idx, 3)) (hok : z_okF (z_y μ).cls idx 8 7) (hn : pc + 3 = n) (k : z_go μ tg n L (.ref 218 :: st) (wz C M o X) uc us Q) : z_go μ tg pc L (.ref 200 :: st) (wz C M o X) uc us Q := z_get 0 n hd hok rfl rfl rfl hn k
theorem gr_0_8 {idx : Nat} (n : Nat) (hd : decode (z_b μ) pc = .ok (.getfield idx, 3)) (hok : z_okF (z_y μ).cls idx 8 8) (hn : pc + 3 = n) (k : z_go μ tg n L (.ref 224 :: st) (wz C M o X) uc us Q) : z_go μ tg pc L (.ref 200 :: st) (wz C M o X) uc us Q := z_get 0 n hd hok rfl rfl rfl hn k
theorem gr_0_9 {idx : Nat} (n : Nat) (hd : decode (z_b μ) pc = .ok (.getfield idx, 3)) (hok : z_okF (z_y μ).cls idx 8 9) (hn : pc + 3 = n) (k : z_go μ tg n L (.ref 225 :: st) (wz C M o X) uc us Q) : z_go μ tg pc L (.ref 200 :: st) (wz C M o X) uc us Q := z_get 0 n hd hok rfl rfl rfl hn k
theorem gr_0_10 {idx : Nat} (n : Nat) (hd : decode (z_b μ) pc = .ok (.getfield idx, 3)) (hok : z_okF (z_y μ).cls idx 8 10) (hn : pc + 3 = n) (k : z_go μ tg n L (.ref 228 :: st) (wz C M o X) uc us Q) : z_go μ tg pc L (.ref 200 :: st) (wz C M o X) uc us Q := z_get 0 n hd hok rfl rfl rfl hn k
theorem gr_0_11 {idx : Nat} (n : Nat) (hd : decode (z_b μ) pc = .ok (.getfield idx, 3)) (hok : z_okF (z_y μ).cls idx 8 11) (hn : pc + 3 = n) (k : z_go μ tg n L (.ref 231 :: st) (wz C M o X) uc us Q) : z_go μ tg pc L (.ref 200 :: st) (wz C M o X) uc us Q := z_get 0 n hd hok rfl rfl rfl hn k
theorem gr_2_0 {idx : Nat} (n : Nat) (hd : decode (z_b μ) pc = .ok (.getfield idx, 3)) (hok : z_okF (z_y μ).cls idx 3 0) (hn : pc + 3 = n) (k : z_go μ tg n L (.ref 203 :: st) (wz C M o X) uc us Q) : z_go μ tg pc L (.ref 202 :: st) (wz C M o X) uc us Q := z_get 2 n hd hok rfl rfl rfl hn k
theorem gr_3_0 {idx : Nat} (n : Nat) (hd : decode (z_b μ) pc = .ok (.getfield idx, 3)) (hok : z_okF (z_y μ).cls idx 6 0) (hn : pc + 3 = n) (k : z_go μ tg n L (.ref 204 :: st) (wz C M o X) uc us Q) : z_go μ tg pc L (.ref 203 :: st) (wz C M o X) uc us Q := z_get 3 n hd hok rfl rfl rfl hn k
theorem gr_3_1 {idx : Nat} (n : Nat) (hd : decode (z_b μ) pc = .ok (.getfield idx, 3)) (hok : z_okF (z_y μ).cls idx 6 1) (hn : pc + 3 = n) (k : z_go μ tg n L (.ref 205 :: st) (wz C M o X) uc us Q) : z_go μ tg pc L (.ref 203 :: st) (wz C M o X) uc us Q := z_get 3 n hd hok rfl rfl rfl hn k
theorem gr_3_2 {idx : Nat} (n : Nat) (hd : decode (z_b μ) pc = .ok (.getfield idx, 3)) (hok : z_okF (z_y μ).cls idx 6 2) (hn : pc + 3 = n) (k : z_go μ tg n L (.ref 206 :: st) (wz C M o X) uc us Q) : z_go μ tg pc L (.ref 203 :: st) (wz C M o X) uc us Q := z_get 3 n hd hok rfl rfl rfl hn k
theorem gr_3_3 {idx : Nat} (n : Nat) (hd : decode (z_b μ) pc = .ok (.getfield idx, 3)) (hok : z_okF (z_y μ).cls idx 6 3) (hn : pc + 3 = n) (k : z_go μ tg n L (.ref 207 :: st) (wz C M o X) uc us Q) : z_go μ tg pc L (.ref 203 :: st) (wz C M o X) uc us Q := z_get 3 n hd hok rfl rfl rfl hn k
theorem gr_18_2 {idx : Nat} (n : Nat) (hd : decode (z_b μ) pc = .ok (.getfield idx, 3)) (hok : z_okF (z_y μ).cls idx 1 2) (hn : pc + 3 = n) (k : z_go μ tg n L (.ref 222 :: st) (wz C M o X) uc us Q) : z_go μ tg pc L (.ref 218 :: st) (wz C M o X) uc us Q := z_get 18 n hd hok rfl rfl rfl hn k
theorem gr_18_3 {idx : Nat} (n : Nat) (hd : decode (z_b μ) pc = .ok (.getfield idx, 3)) (hok : z_okF (z_y μ).cls idx 1 3) (hn : pc + 3 = n) (k : z_go μ tg n L (.ref 223 :: st) (wz C M o X) uc us Q) : z_go μ tg pc L (.ref 218 :: st) (wz C M o X) uc us Q := z_get 18 n hd hok rfl rfl rfl hn k
theorem gr_18_4 {idx : Nat} (n : Nat) (hd : decode (z_b μ) pc = .ok (.getfield idx, 3)) (hok : z_okF (z_y μ).cls idx 1 4) (hn : pc + 3 = n) (k : z_go μ tg n L (.ref 219 :: st) (wz C M o X) uc us Q) : z_go μ tg pc L (.ref 218 :: st) (wz C M o X) uc us Q := z_get 18 n hd hok rfl rfl rfl hn k
theorem gr_18_5 {idx : Nat} (n : Nat) (hd : decode (z_b μ) pc = .ok (.getfield idx, 3)) (hok : z_okF (z_y μ).cls idx 1 5) (hn : pc + 3 = n) (k : z_go μ tg n L (.ref 220 :: st) (wz C M o X) uc us Q) : z_go μ tg pc L (.ref 218 :: st) (wz C M o X) uc us Q := z_get 18 n hd hok rfl rfl rfl hn k
theorem gr_18_11 {idx : Nat} (n : Nat) (hd : decode (z_b μ) pc = .ok (.getfield idx, 3)) (hok : z_okF (z_y μ).cls idx 1 11) (hn : pc + 3 = n) (k : z_go μ tg n L (.ref 221 :: st) (wz C M o X) uc us Q) : z_go μ tg pc L (.ref 218 :: st) (wz C M o X) uc us Q := z_get 18 n hd hok rfl rfl rfl hn k
theorem gr_24_0 {idx : Nat} (n : Nat) (hd : decode (z_b μ) pc = .ok (.getfield idx, 3)) (hok : z_okF (z_y μ).cls idx 0 0) (hn : pc + 3 = n) (k : z_go μ tg n L (.ref 218 :: st) (wz C M o X) uc us Q) : z_go μ tg pc L (.ref 224 :: st) (wz C M o X) uc us Q := z_get 24 n hd hok rfl rfl rfl hn k
theorem gr_25_0 {idx : Nat} (n : Nat) (hd : decode (z_b μ) pc = .ok (.getfield idx, 3)) (hok : z_okF (z_y μ).cls idx 4 0) (hn : pc + 3 = n) (k : z_go μ tg n L (.ref 224 :: st) (wz C M o X) uc us Q) : z_go μ tg pc L (.ref 225 :: st) (wz C M o X) uc us Q := z_get 25 n hd hok rfl rfl rfl hn k
theorem gr_25_6 {idx : Nat} (n : Nat) (hd : decode (z_b μ) pc = .ok (.getfield idx, 3)) (hok : z_okF (z_y μ).cls idx 4 6) (hn : pc + 3 = n) (k : z_go μ tg n L (.ref 226 :: st) (wz C M o X) uc us Q) : z_go μ tg pc L (.ref 225 :: st) (wz C M o X) uc us Q := z_get 25 n hd hok rfl rfl rfl hn k
theorem gr_25_8 {idx : Nat} (n : Nat) (hd : decode (z_b μ) pc = .ok (.getfield idx, 3)) (hok : z_okF (z_y μ).cls idx 4 8) (hn : pc + 3 = n) (k : z_go μ tg n L (.ref 227 :: st) (wz C M o X) uc us Q) : z_go μ tg pc L (.ref 225 :: st) (wz C M o X) uc us Q := z_get 25 n hd hok rfl rfl rfl hn k
theorem gr_28_0 {idx : Nat} (n : Nat) (hd : decode (z_b μ) pc = .ok (.getfield idx, 3)) (hok : z_okF (z_y μ).cls idx 7 0) (hn : pc + 3 = n) (k : z_go μ tg n L (.ref 218 :: st) (wz C M o X) uc us Q) : z_go μ tg pc L (.ref 228 :: st) (wz C M o X) uc us Q := z_get 28 n hd hok rfl rfl rfl hn k
theorem gr_28_1 {idx : Nat} (n : Nat) (hd : decode (z_b μ) pc = .ok (.getfield idx, 3)) (hok : z_okF (z_y μ).cls idx 7 1) (hn : pc + 3 = n) (k : z_go μ tg n L (.ref 229 :: st) (wz C M o X) uc us Q) : z_go μ tg pc L (.ref 228 :: st) (wz C M o X) uc us Q := z_get 28 n hd hok rfl rfl rfl hn k
theorem gr_28_2 {idx : Nat} (n : Nat) (hd : decode (z_b μ) pc = .ok (.getfield idx, 3)) (hok : z_okF (z_y μ).cls idx 7 2) (hn : pc + 3 = n) (k : z_go μ tg n L (.ref 230 :: st) (wz C M o X) uc us Q) : z_go μ tg pc L (.ref 228 :: st) (wz C M o X) uc us Q := z_get 28 n hd hok rfl rfl rfl hn k
theorem gr_31_0 {idx : Nat} (n : Nat) (hd : decode (z_b μ) pc = .ok (.getfield idx, 3)) (hok : z_okF (z_y μ).cls idx 5 0) (hn : pc + 3 = n) (k : z_go μ tg n L (.ref 232 :: st) (wz C M o X) uc us Q) : z_go μ tg pc L (.ref 231 :: st) (wz C M o X) uc us Q := z_get 31 n hd hok rfl rfl rfl hn k
theorem gr_33_3 {idx : Nat} (n : Nat) (hd : decode (z_b μ) pc = .ok (.getfield idx, 3)) (hok : z_okF (z_y μ).cls idx 9 3) (hn : pc + 3 = n) (k : z_go μ tg n L (.ref 234 :: st) (wz C M o X) uc us Q) : z_go μ tg pc L (.ref 233 :: st) (wz C M o X) uc us Q := z_get 33 n hd hok rfl rfl rfl hn k
theorem gr_33_4 {idx : Nat} (n : Nat) (hd : decode (z_b μ) pc = .ok (.getfield idx, 3)) (hok : z_okF (z_y μ).cls idx 9 4) (hn : pc + 3 = n) (k : z_go μ tg n L (.ref 235 :: st) (wz C M o X) uc us Q) : z_go μ tg pc L (.ref 233 :: st) (wz C M o X) uc us Q := z_get 33 n hd hok rfl rfl rfl hn k
theorem gr_33_5 {idx : Nat} (n : Nat) (hd : decode (z_b μ) pc = .ok (.getfield idx, 3)) (hok : z_okF (z_y μ).cls idx 9 5) (hn : pc + 3 = n) (k : z_go μ tg n L (.ref 236 :: st) (wz C M o X) uc us Q) : z_go μ tg pc L (.ref 233 :: st) (wz C M o X) uc us Q := z_get 33 n hd hok rfl rfl rfl hn k
theorem gr_33_6 {idx : Nat} (n : Nat) (hd : decode (z_b μ) pc = .ok (.getfield idx, 3)) (hok : z_okF (z_y μ).cls idx 9 6) (hn : pc + 3 = n) (k : z_go μ tg n L (.ref 237 :: st) (wz C M o X) uc us Q) : z_go μ tg pc L (.ref 233 :: st) (wz C M o X) uc us Q := z_get 33 n hd hok rfl rfl rfl hn k
theorem gr_33_7 {idx : Nat} (n : Nat) (hd : decode (z_b μ) pc = .ok (.getfield idx, 3)) (hok : z_okF (z_y μ).cls idx 9 7) (hn : pc + 3 = n) (k : z_go μ tg n L (.ref 238 :: st) (wz C M o X) uc us Q) : z_go μ tg pc L (.ref 233 :: st) (wz C M o X) uc us Q := z_get 33 n hd hok rfl rfl rfl hn k
theorem gr_33_8 {idx : Nat} (n : Nat) (hd : decode (z_b μ) pc = .ok (.getfield idx, 3)) (hok : z_okF (z_y μ).cls idx 9 8) (hn : pc + 3 = n) (k : z_go μ tg n L (.ref 239 :: st) (wz C M o X) uc us Q) : z_go μ tg pc L (.ref 233 :: st) (wz C M o X) uc us Q := z_get 33 n hd hok rfl rfl rfl hn k
theorem gr_33_9 {idx : Nat} (n : Nat) (hd : decode (z_b μ) pc = .ok (.getfield idx, 3)) (hok : z_okF (z_y μ).cls idx 9 9) (hn : pc + 3 = n) (k : z_go μ tg n L (.ref 240 :: st) (wz C M o X) uc us Q) : z_go μ tg pc L (.ref 233 :: st) (wz C M o X) uc us Q := z_get 33 n hd hok rfl rfl rfl hn k
theorem gr_33_10 {idx : Nat} (n : Nat) (hd : decode (z_b μ) pc = .ok (.getfield idx, 3)) (hok : z_okF (z_y μ).cls idx 9 10) (hn : pc + 3 = n) (k : z_go μ tg n L (.ref 241 :: st) (wz C M o X) uc us Q) : z_go μ tg pc L (.ref 233 :: st) (wz C M o X) uc us Q := z_get 33 n hd hok rfl rfl rfl hn k
theorem gr_33_12 {idx : Nat} (n : Nat) (hd : decode (z_b μ) pc = .ok (.getfield idx, 3)) (hok : z_okF (z_y μ).cls idx 9 12) (hn : pc + 3 = n) (k : z_go μ tg n L (.ref 242 :: st) (wz C M o X) uc us Q) : z_go μ tg pc L (.ref 233 :: st) (wz C M o X) uc us Q := z_get 33 n hd hok rfl rfl rfl hn k
theorem gr_33_28 {idx : Nat} (n : Nat) (hd : decode (z_b μ) pc = .ok (.getfield idx, 3)) (hok : z_okF (z_y μ).cls idx 9 28) (hn : pc + 3 = n) (k : z_go μ tg n L (.ref 243 :: st) (wz C M o X) uc us Q) : z_go μ tg pc L (.ref 233 :: st) (wz C M o X) uc us Q := z_get 33 n hd hok rfl rfl rfl hn k
theorem gr_33_30 {idx : Nat} (n : Nat) (hd : decode (z_b μ) pc = .ok (.getfield idx, 3)) (hok : z_okF (z_y μ).cls idx 9 30) (hn : pc + 3 = n) (k : z_go μ tg n L (.ref 244 :: st) (wz C M o X) uc us Q) : z_go μ tg pc L (.ref 233 :: st) (wz C M o X) uc us Q := z_get 33 n hd hok rfl rfl rfl hn k
theorem gr_33_31 {idx : Nat} (n : Nat) (hd : decode (z_b μ) pc = .ok (.getfield idx, 3)) (hok : z_okF (z_y μ).cls idx 9 31) (hn : pc + 3 = n) (k : z_go μ tg n L (.ref 245 :: st) (wz C M o X) uc us Q) : z_go μ tg pc L (.ref 233 :: st) (wz C M o X) uc us Q := z_get 33 n hd hok rfl rfl rfl hn k
theorem gr_33_32 {idx : Nat} (n : Nat) (hd : decode (z_b μ) pc = .ok (.getfield idx, 3)) (hok : z_okF (z_y μ).cls idx 9 32) (hn : pc + 3 = n) (k : z_go μ tg n L (.ref 246 :: st) (wz C M o X) uc us Q) : z_go μ tg pc L (.ref 233 :: st) (wz C M o X) uc us Q := z_get 33 n hd hok rfl rfl rfl hn k
theorem gr_33_33 {idx : Nat} (n : Nat) (hd : decode (z_b μ) pc = .ok (.getfield idx, 3)) (hok : z_okF (z_y μ).cls idx 9 33) (hn : pc + 3 = n) (k : z_go μ tg n L (.ref 247 :: st) (wz C M o X) uc us Q) : z_go μ tg pc L (.ref 233 :: st) (wz C M o X) uc us Q := z_get 33 n hd hok rfl rfl rfl hn k
theorem gr_33_34 {idx : Nat} (n : Nat) (hd : decode (z_b μ) pc = .ok (.getfield idx, 3)) (hok : z_okF (z_y μ).cls idx 9 34) (hn : pc + 3 = n) (k : z_go μ tg n L (.ref 248 :: st) (wz C M o X) uc us Q) : z_go μ tg pc L (.ref 233 :: st) (wz C M o X) uc us Q := z_get 33 n hd hok rfl rfl rfl hn k
theorem gr_33_35 {idx : Nat} (n : Nat) (hd : decode (z_b μ) pc = .ok (.getfield idx, 3)) (hok : z_okF (z_y μ).cls idx 9 35) (hn : pc + 3 = n) (k : z_go μ tg n L (.ref 249 :: st) (wz C M o X) uc us Q) : z_go μ tg pc L (.ref 233 :: st) (wz C M o X) uc us Q := z_get 33 n hd hok rfl rfl rfl hn k
theorem gr_33_36 {idx : Nat} (n : Nat) (hd : decode (z_b μ) pc = .ok (.getfield idx, 3)) (hok : z_okF (z_y μ).cls idx 9 36) (hn : pc + 3 = n) (k : z_go μ tg n L (.ref 250 :: st) (wz C M o X) uc us Q) : z_go μ tg pc L (.ref 233 :: st) (wz C M o X) uc us Q := z_get 33 n hd hok rfl rfl rfl hn k
theorem gr_33_41 {idx : Nat} (n : Nat) (hd : decode (z_b μ) pc = .ok (.getfield idx, 3)) (hok : z_okF (z_y μ).cls idx 9 41) (hn : pc + 3 = n) (k : z_go μ tg n L (.ref 251 :: st) (wz C M o X) uc us Q) : z_go μ tg pc L (.ref 233 :: st) (wz C M o X) uc us Q := z_get 33 n hd hok rfl rfl rfl hn k
theorem gr_33_42 {idx : Nat} (n : Nat) (hd : decode (z_b μ) pc = .ok (.getfield idx, 3)) (hok : z_okF (z_y μ).cls idx 9 42) (hn : pc + 3 = n) (k : z_go μ tg n L (.ref 252 :: st) (wz C M o X) uc us Q) : z_go μ tg pc L (.ref 233 :: st) (wz C M o X) uc us Q := z_get 33 n hd hok rfl rfl rfl hn k
theorem gr_33_43 {idx : Nat} (n : Nat) (hd : decode (z_b μ) pc = .ok (.getfield idx, 3)) (hok : z_okF (z_y μ).cls idx 9 43) (hn : pc + 3 = n) (k : z_go μ tg n L (.ref 253 :: st) (wz C M o X) uc us Q) : z_go μ tg pc L (.ref 233 :: st) (wz C M o X) uc us Q := z_get 33 n hd hok rfl rfl rfl hn k
theorem gr_33_44 {idx : Nat} (n : Nat) (hd : decode (z_b μ) pc = .ok (.getfield idx, 3)) (hok : z_okF (z_y μ).cls idx 9 44) (hn : pc + 3 = n) (k : z_go μ tg n L (.ref 254 :: st) (wz C M o X) uc us Q) : z_go μ tg pc L (.ref 233 :: st) (wz C M o X) uc us Q := z_get 33 n hd hok rfl rfl rfl hn k
theorem gr_33_45 {idx : Nat} (n : Nat) (hd : decode (z_b μ) pc = .ok (.getfield idx, 3)) (hok : z_okF (z_y μ).cls idx 9 45) (hn : pc + 3 = n) (k : z_go μ tg n L (.ref 255 :: st) (wz C M o X) uc us Q) : z_go μ tg pc L (.ref 233 :: st) (wz C M o X) uc us Q := z_get 33 n hd hok rfl rfl rfl hn k
theorem gr_33_46 {idx : Nat} (n : Nat) (hd : decode (z_b μ) pc = .ok (.getfield idx, 3)) (hok : z_okF (z_y μ).cls idx 9 46) (hn : pc + 3 = n) (k : z_go μ tg n L (.ref 256 :: st) (wz C M o X) uc us Q) : z_go μ tg pc L (.ref 233 :: st) (wz C M o X) uc us Q := z_get 33 n hd hok rfl rfl rfl hn k
theorem gr_33_47 {idx : Nat} (n : Nat) (hd : decode (z_b μ) pc = .ok (.getfield idx, 3)) (hok : z_okF (z_y μ).cls idx 9 47) (hn : pc + 3 = n) (k : z_go μ tg n L (.ref 257 :: st) (wz C M o X) uc us Q) : z_go μ tg pc L (.ref 233 :: st) (wz C M o X) uc us Q := z_get 33 n hd hok rfl rfl rfl hn k
theorem gr_33_48 {idx : Nat} (n : Nat) (hd : decode (z_b μ) pc = .ok (.getfield idx, 3)) (hok : z_okF (z_y μ).cls idx 9 48) (hn : pc + 3 = n) (k : z_go μ tg n L (.ref 258 :: st) (wz C M o X) uc us Q) : z_go μ tg pc L (.ref 233 :: st) (wz C M o X) uc us Q := z_get 33 n hd hok rfl rfl rfl hn k
theorem gr_33_49 {idx : Nat} (n : Nat) (hd : decode (z_b μ) pc = .ok (.getfield idx, 3)) (hok : z_okF (z_y μ).cls idx 9 49) (hn : pc + 3 = n) (k : z_go μ tg n L (.ref 259 :: st) (wz C M o X) uc us Q) : z_go μ tg pc L (.ref 233 :: st) (wz C M o X) uc us Q := z_get 33 n hd hok rfl rfl rfl hn k
theorem gr_33_52 {idx : Nat} (n : Nat) (hd : decode (z_b μ) pc = .ok (.getfield idx, 3)) (hok : z_okF (z_y μ).cls idx 9 52) (hn : pc + 3 = n) (k : z_go μ tg n L (.ref 260 :: st) (wz C M o X) uc us Q) : z_go μ tg pc L (.ref 233 :: st) (wz C M o X) uc us Q := z_get 33 n hd hok rfl rfl rfl hn k
theorem gr_33_53 {idx : Nat} (n : Nat) (hd : decode (z_b μ) pc = .ok (.getfield idx, 3)) (hok : z_okF (z_y μ).cls idx 9 53) (hn : pc + 3 = n) (k : z_go μ tg n L (.ref 261 :: st) (wz C M o X) uc us Q) : z_go μ tg pc L (.ref 233 :: st) (wz C M o X) uc us Q := z_get 33 n hd hok rfl rfl rfl hn k
theorem gr_33_54 {idx : Nat} (n : Nat) (hd : decode (z_b μ) pc = .ok (.getfield idx, 3)) (hok : z_okF (z_y μ).cls idx 9 54) (hn : pc + 3 = n) (k : z_go μ tg n L (.ref 262 :: st) (wz C M o X) uc us Q) : z_go μ tg pc L (.ref 233 :: st) (wz C M o X) uc us Q := z_get 33 n hd hok rfl rfl rfl hn k
theorem gr_33_63 {idx : Nat} (n : Nat) (hd : decode (z_b μ) pc = .ok (.getfield idx, 3)) (hok : z_okF (z_y μ).cls idx 9 63) (hn : pc + 3 = n) (k : z_go μ tg n L (.ref 263 :: st) (wz C M o X) uc us Q) : z_go μ tg pc L (.ref 233 :: st) (wz C M o X) uc us Q := z_get 33 n hd hok rfl rfl rfl hn k
theorem gr_33_64 {idx : Nat} (n : Nat) (hd : decode (z_b μ) pc = .ok (.getfield idx, 3)) (hok : z_okF (z_y μ).cls idx 9 64) (hn : pc + 3 = n) (k : z_go μ tg n L (.ref 264 :: st) (wz C M o X) uc us Q) : z_go μ tg pc L (.ref 233 :: st) (wz C M o X) uc us Q := z_get 33 n hd hok rfl rfl rfl hn k
theorem gr_33_65 {idx : Nat} (n : Nat) (hd : decode (z_b μ) pc = .ok (.getfield idx, 3)) (hok : z_okF (z_y μ).cls idx 9 65) (hn : pc + 3 = n) (k : z_go μ tg n L (.ref 265 :: st) (wz C M o X) uc us Q) : z_go μ tg pc L (.ref 233 :: st) (wz C M o X) uc us Q := z_get 33 n hd hok rfl rfl rfl hn k
theorem gr_33_66 {idx : Nat} (n : Nat) (hd : decode (z_b μ) pc = .ok (.getfield idx, 3)) (hok : z_okF (z_y μ).cls idx 9 66) (hn : pc + 3 = n) (k : z_go μ tg n L (.ref 266 :: st) (wz C M o X) uc us Q) : z_go μ tg pc L (.ref 233 :: st) (wz C M o X) uc us Q := z_get 33 n hd hok rfl rfl rfl hn k
theorem gr_33_68 {idx : Nat} (n : Nat) (hd : decode (z_b μ) pc = .ok (.getfield idx, 3)) (hok : z_okF (z_y μ).cls idx 9 68) (hn : pc + 3 = n) (k : z_go μ tg n L (.ref 267 :: st) (wz C M o X) uc us Q) : z_go μ tg pc L (.ref 233 :: st) (wz C M o X) uc us Q := z_get 33 n hd hok rfl rfl rfl hn k
theorem gr_cur {idx : Nat} (b : Bool) (n : Nat) (hd : decode (z_b μ) pc = .ok (.getfield idx, 3)) (hok : z_okF (z_y μ).cls idx 8 3) (hv : c_cur C = b) (hn : pc + 3 = n) (k : z_go μ tg n L (.ref (200 + pO b) :: st) (wz C M o X) uc us Q) : z_go μ tg pc L (.ref 200 :: st) (wz C M o X) uc us Q := by subst hv; exact z_get 0 n hd hok rfl rfl rfl hn k
theorem pr_cur {idx : Nat} {b : Bool} (n : Nat) (hd : decode (z_b μ) pc = .ok (.putfield idx, 3)) (hok : z_okP (z_y μ).cls idx 8 3 (.object "TwinHalves$Program") false) (hn : pc + 3 = n) (k : z_go μ tg n L st (wz (c_curS C b) M o X) uc us Q) : z_go μ tg pc L (.ref (200 + pO b) :: .ref 200 :: st) (wz C M o X) uc us Q := z_put 0 (wz (c_curS C b) M o X) n hd hok rfl rfl (Nat.le_of_ble_eq_true rfl) (fun _ => ⟨rfl, rfl⟩) rfl hn k
theorem gr_spa {idx : Nat} (b : Bool) (n : Nat) (hd : decode (z_b μ) pc = .ok (.getfield idx, 3)) (hok : z_okF (z_y μ).cls idx 8 4) (hv : c_spa C = b) (hn : pc + 3 = n) (k : z_go μ tg n L (.ref (200 + pO b) :: st) (wz C M o X) uc us Q) : z_go μ tg pc L (.ref 200 :: st) (wz C M o X) uc us Q := by subst hv; exact z_get 0 n hd hok rfl rfl rfl hn k
theorem pr_spa {idx : Nat} {b : Bool} (n : Nat) (hd : decode (z_b μ) pc = .ok (.putfield idx, 3)) (hok : z_okP (z_y μ).cls idx 8 4 (.object "TwinHalves$Program") false) (hn : pc + 3 = n) (k : z_go μ tg n L st (wz (c_spaS C b) M o X) uc us Q) : z_go μ tg pc L (.ref (200 + pO b) :: .ref 200 :: st) (wz C M o X) uc us Q := z_put 0 (wz (c_spaS C b) M o X) n hd hok rfl rfl (Nat.le_of_ble_eq_true rfl) (fun _ => ⟨rfl, rfl⟩) rfl hn k
theorem gr_rp {idx : Nat} (b : Bool) (n : Nat) (hd : decode (z_b μ) pc = .ok (.getfield idx, 3)) (hok : z_okF (z_y μ).cls idx 4 1) (hv : c_rp C = b) (hn : pc + 3 = n) (k : z_go μ tg n L (.ref (200 + pO b) :: st) (wz C M o X) uc us Q) : z_go μ tg pc L (.ref 225 :: st) (wz C M o X) uc us Q := by subst hv; exact z_get 25 n hd hok rfl rfl rfl hn k
theorem pr_rp {idx : Nat} {b : Bool} (n : Nat) (hd : decode (z_b μ) pc = .ok (.putfield idx, 3)) (hok : z_okP (z_y μ).cls idx 4 1 (.object "TwinHalves$Program") false) (hn : pc + 3 = n) (k : z_go μ tg n L st (wz (c_rpS C b) M o X) uc us Q) : z_go μ tg pc L (.ref (200 + pO b) :: .ref 225 :: st) (wz C M o X) uc us Q := z_put 25 (wz (c_rpS C b) M o X) n hd hok rfl rfl (Nat.le_of_ble_eq_true rfl) (fun _ => ⟨rfl, rfl⟩) rfl hn k
def pC (b : Bool) : Nat := cond b 8 7
def pA (k : Nat) (b : Bool) : Nat := cond b (k + 1) k
theorem gpc {idx : Nat} {b : Bool} (v : Int32) (n : Nat) (hd : decode (z_b μ) pc = .ok (.getfield idx, 3)) (hok : z_okF (z_y μ).cls idx 2 4) (hv : c_i C (pC b) = v) (hn : pc + 3 = n) (k : z_go μ tg n L (.int v :: st) (wz C M o X) uc us Q) : z_go μ tg pc L (.ref (200 + pO b) :: st) (wz C M o X) uc us Q := by subst hv; cases b <;> exact z_get (pO _) n hd hok rfl rfl rfl hn k
theorem ppc {idx : Nat} {b : Bool} {v : Int32} (n : Nat) (hd : decode (z_b μ) pc = .ok (.putfield idx, 3)) (hok : z_okP (z_y μ).cls idx 2 4 .int false) (hn : pc + 3 = n) (k : z_go μ tg n L st (wz (c_iS C (pC b) v) M o X) uc us Q) : z_go μ tg pc L (.int v :: .ref (200 + pO b) :: st) (wz C M o X) uc us Q := by cases b <;> exact z_put (pO _) (wz (c_iS C (pC _) v) M o X) n hd hok rfl rfl (Nat.le_of_ble_eq_true rfl) (fun _ => ⟨rfl, rfl⟩) rfl hn k
theorem gr_p0 {idx : Nat} {b : Bool} (n : Nat) (hd : decode (z_b μ) pc = .ok (.getfield idx, 3)) (hok : z_okF (z_y μ).cls idx 2 0) (hn : pc + 3 = n) (k : z_go μ tg n L (.ref (201 + 0 + pO b) :: st) (wz C M o X) uc us Q) : z_go μ tg pc L (.ref (200 + pO b) :: st) (wz C M o X) uc us Q := by cases b <;> exact z_get (pO _) n hd hok rfl rfl rfl hn k
theorem gp0 {i : Int32} {b : Bool} (v : Int32) (n : Nat) (hd : decode (z_b μ) pc = .ok (.iaload, 1)) (hin : vp_in i 150) (hv : c_a C (pA 4 b) i.toNatClampNeg = v) (hn : pc + 1 = n) (k : z_go μ tg n L (.int v :: st) (wz C M o X) uc us Q) : z_go μ tg pc L (.int i :: .ref (201 + 0 + pO b) :: st) (wz C M o X) uc us Q := by
  subst hv
  cases b
  · exact z_iald 9 n hd rfl rfl hin hn k
  · exact z_iald 14 n hd rfl rfl hin hn k
theorem pp0 {i x : Int32} {b : Bool} (n : Nat) (hd : decode (z_b μ) pc = .ok (.iastore, 1)) (hin : vp_in i 150) (hn : pc + 1 = n) (k : z_go μ tg n L st (wz (c_aU C (pA 4 b) i x) M o X) uc us Q) : z_go μ tg pc L (.int x :: .int i :: .ref (201 + 0 + pO b) :: st) (wz C M o X) uc us Q := by
  cases b
  · exact z_iast 9 (wz (c_aU C (pA 4 false) i x) M o X) n hd rfl rfl hin rfl hn k
  · exact z_iast 14 (wz (c_aU C (pA 4 true) i x) M o X) n hd rfl rfl hin rfl hn k
theorem gr_p1 {idx : Nat} {b : Bool} (n : Nat) (hd : decode (z_b μ) pc = .ok (.getfield idx, 3)) (hok : z_okF (z_y μ).cls idx 2 1) (hn : pc + 3 = n) (k : z_go μ tg n L (.ref (201 + 1 + pO b) :: st) (wz C M o X) uc us Q) : z_go μ tg pc L (.ref (200 + pO b) :: st) (wz C M o X) uc us Q := by cases b <;> exact z_get (pO _) n hd hok rfl rfl rfl hn k
theorem gp1 {i : Int32} {b : Bool} (v : Int32) (n : Nat) (hd : decode (z_b μ) pc = .ok (.iaload, 1)) (hin : vp_in i 450) (hv : c_a C (pA 6 b) i.toNatClampNeg = v) (hn : pc + 1 = n) (k : z_go μ tg n L (.int v :: st) (wz C M o X) uc us Q) : z_go μ tg pc L (.int i :: .ref (201 + 1 + pO b) :: st) (wz C M o X) uc us Q := by
  subst hv
  cases b
  · exact z_iald 10 n hd rfl rfl hin hn k
  · exact z_iald 15 n hd rfl rfl hin hn k
theorem pp1 {i x : Int32} {b : Bool} (n : Nat) (hd : decode (z_b μ) pc = .ok (.iastore, 1)) (hin : vp_in i 450) (hn : pc + 1 = n) (k : z_go μ tg n L st (wz (c_aU C (pA 6 b) i x) M o X) uc us Q) : z_go μ tg pc L (.int x :: .int i :: .ref (201 + 1 + pO b) :: st) (wz C M o X) uc us Q := by
  cases b
  · exact z_iast 10 (wz (c_aU C (pA 6 false) i x) M o X) n hd rfl rfl hin rfl hn k
  · exact z_iast 15 (wz (c_aU C (pA 6 true) i x) M o X) n hd rfl rfl hin rfl hn k
theorem gr_p2 {idx : Nat} {b : Bool} (n : Nat) (hd : decode (z_b μ) pc = .ok (.getfield idx, 3)) (hok : z_okF (z_y μ).cls idx 2 2) (hn : pc + 3 = n) (k : z_go μ tg n L (.ref (201 + 2 + pO b) :: st) (wz C M o X) uc us Q) : z_go μ tg pc L (.ref (200 + pO b) :: st) (wz C M o X) uc us Q := by cases b <;> exact z_get (pO _) n hd hok rfl rfl rfl hn k
theorem gp2 {i : Int32} {b : Bool} (v : Int32) (n : Nat) (hd : decode (z_b μ) pc = .ok (.iaload, 1)) (hin : vp_in i 150) (hv : c_a C (pA 8 b) i.toNatClampNeg = v) (hn : pc + 1 = n) (k : z_go μ tg n L (.int v :: st) (wz C M o X) uc us Q) : z_go μ tg pc L (.int i :: .ref (201 + 2 + pO b) :: st) (wz C M o X) uc us Q := by
  subst hv
  cases b
  · exact z_iald 11 n hd rfl rfl hin hn k
  · exact z_iald 16 n hd rfl rfl hin hn k
theorem pp2 {i x : Int32} {b : Bool} (n : Nat) (hd : decode (z_b μ) pc = .ok (.iastore, 1)) (hin : vp_in i 150) (hn : pc + 1 = n) (k : z_go μ tg n L st (wz (c_aU C (pA 8 b) i x) M o X) uc us Q) : z_go μ tg pc L (.int x :: .int i :: .ref (201 + 2 + pO b) :: st) (wz C M o X) uc us Q := by
  cases b
  · exact z_iast 11 (wz (c_aU C (pA 8 false) i x) M o X) n hd rfl rfl hin rfl hn k
  · exact z_iast 16 (wz (c_aU C (pA 8 true) i x) M o X) n hd rfl rfl hin rfl hn k
theorem gr_p3 {idx : Nat} {b : Bool} (n : Nat) (hd : decode (z_b μ) pc = .ok (.getfield idx, 3)) (hok : z_okF (z_y μ).cls idx 2 3) (hn : pc + 3 = n) (k : z_go μ tg n L (.ref (201 + 3 + pO b) :: st) (wz C M o X) uc us Q) : z_go μ tg pc L (.ref (200 + pO b) :: st) (wz C M o X) uc us Q := by cases b <;> exact z_get (pO _) n hd hok rfl rfl rfl hn k
theorem gp3 {i : Int32} {b : Bool} (v : Int64) (n : Nat) (hd : decode (z_b μ) pc = .ok (.laload, 1)) (hin : vp_in i 150) (hv : c_l C (pA 1 b) i.toNatClampNeg = v) (hn : pc + 1 = n) (k : z_go μ tg n L (.long v :: st) (wz C M o X) uc us Q) : z_go μ tg pc L (.int i :: .ref (201 + 3 + pO b) :: st) (wz C M o X) uc us Q := by
  subst hv
  cases b
  · exact z_lald 12 n hd rfl rfl hin hn k
  · exact z_lald 17 n hd rfl rfl hin hn k
theorem pp3 {i : Int32} {x : Int64} {b : Bool} (n : Nat) (hd : decode (z_b μ) pc = .ok (.lastore, 1)) (hin : vp_in i 150) (hn : pc + 1 = n) (k : z_go μ tg n L st (wz (c_lU C (pA 1 b) i x) M o X) uc us Q) : z_go μ tg pc L (.long x :: .int i :: .ref (201 + 3 + pO b) :: st) (wz C M o X) uc us Q := by
  cases b
  · exact z_last 12 (wz (c_lU C (pA 1 false) i x) M o X) n hd rfl rfl hin rfl hn k
  · exact z_last 17 (wz (c_lU C (pA 1 true) i x) M o X) n hd rfl rfl hin rfl hn k
/-- what a method of the class owes its caller: answer and new state -/
def zc_i (M : mS) (o : Nat → Int64) (X : List va_E) (Q : Int32 → cS → Prop) : z_R := fun r w => ∃ (v : Int32) (C : cS), r = some (.int v) ∧ w = wz C M o X ∧ Q v C
def zc_l (M : mS) (o : Nat → Int64) (X : List va_E) (Q : Int64 → cS → Prop) : z_R := fun r w => ∃ (v : Int64) (C : cS), r = some (.long v) ∧ w = wz C M o X ∧ Q v C
def zc_v (M : mS) (o : Nat → Int64) (X : List va_E) (Q : cS → Prop) : z_R := fun r w => ∃ C : cS, r = none ∧ w = wz C M o X ∧ Q C
def zm_i (C : cS) (o : Nat → Int64) (X : List va_E) (Q : Int32 → mS → Prop) : z_R := fun r w => ∃ (v : Int32) (M : mS), r = some (.int v) ∧ w = wz C M o X ∧ Q v M
def zm_v (C : cS) (o : Nat → Int64) (X : List va_E) (Q : mS → Prop) : z_R := fun r w => ∃ M : mS, r = none ∧ w = wz C M o X ∧ Q M
end ZW
end
