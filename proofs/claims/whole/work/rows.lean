section
-- ===== PART A: goes FIRST, ahead of the names: the tables' words, and 'selects' of the private methods out of them =====
/-- a private method of a class that the tables say can be made, by its rows of tables_1 -/
def lw_okq (q : MethodName × Nat) : Prop := (q.1.cls ≠ "java/lang/invoke/MethodHandle" ∧ q.1.cls ≠ "java/lang/invoke/VarHandle") ∧ Cond.instantiable q.1.cls q.2 ∈ tables_1 ∧ Cond.privateMethod q.1 ∈ tables_1 ∧ Cond.instanceMethod q.1 ∈ tables_1
theorem lw_p0 : lw_okq (⟨"BoilerLog$Log", "size", "()I"⟩, 2) := ⟨⟨by decide +kernel, by decide +kernel⟩, List.mem_of_getElem? (i := 63) (by decide +kernel), List.mem_of_getElem? (i := 166) (by decide +kernel), List.mem_of_getElem? (i := 167) (by decide +kernel)⟩
theorem lw_p1 : lw_okq (⟨"BoilerLog$Draft", "length", "()I"⟩, 2) := ⟨⟨by decide +kernel, by decide +kernel⟩, List.mem_of_getElem? (i := 76) (by decide +kernel), List.mem_of_getElem? (i := 174) (by decide +kernel), List.mem_of_getElem? (i := 175) (by decide +kernel)⟩
theorem lw_p2 : lw_okq (⟨"BoilerLog$Draft", "wipe", "()V"⟩, 2) := ⟨⟨by decide +kernel, by decide +kernel⟩, List.mem_of_getElem? (i := 76) (by decide +kernel), List.mem_of_getElem? (i := 178) (by decide +kernel), List.mem_of_getElem? (i := 179) (by decide +kernel)⟩
theorem lw_p3 : lw_okq (⟨"BoilerLog$Draft", "isComplete", "()Z"⟩, 2) := ⟨⟨by decide +kernel, by decide +kernel⟩, List.mem_of_getElem? (i := 76) (by decide +kernel), List.mem_of_getElem? (i := 186) (by decide +kernel), List.mem_of_getElem? (i := 187) (by decide +kernel)⟩
theorem lw_p4 : lw_okq (⟨"java/lang/Throwable", "fillInStackTrace", "(I)Ljava/lang/Throwable;"⟩, 6) := ⟨⟨by decide +kernel, by decide +kernel⟩, List.mem_of_getElem? (i := 258) (by decide +kernel), List.mem_of_getElem? (i := 256) (by decide +kernel), List.mem_of_getElem? (i := 257) (by decide +kernel)⟩
theorem lw_p5 : lw_okq (⟨"BoilerLog", "countTagsOn", "(I)I"⟩, 14) := ⟨⟨by decide +kernel, by decide +kernel⟩, List.mem_of_getElem? (i := 25) (by decide +kernel), List.mem_of_getElem? (i := 326) (by decide +kernel), List.mem_of_getElem? (i := 327) (by decide +kernel)⟩
theorem lw_p6 : lw_okq (⟨"BoilerLog", "findObstacle", "(II)I"⟩, 14) := ⟨⟨by decide +kernel, by decide +kernel⟩, List.mem_of_getElem? (i := 25) (by decide +kernel), List.mem_of_getElem? (i := 356) (by decide +kernel), List.mem_of_getElem? (i := 357) (by decide +kernel)⟩
theorem lw_p7 : lw_okq (⟨"BoilerLog", "isOnDuty", "(I)Z"⟩, 14) := ⟨⟨by decide +kernel, by decide +kernel⟩, List.mem_of_getElem? (i := 25) (by decide +kernel), List.mem_of_getElem? (i := 360) (by decide +kernel), List.mem_of_getElem? (i := 361) (by decide +kernel)⟩
theorem lw_p8 : lw_okq (⟨"BoilerLog", "isAble", "(I)Z"⟩, 14) := ⟨⟨by decide +kernel, by decide +kernel⟩, List.mem_of_getElem? (i := 25) (by decide +kernel), List.mem_of_getElem? (i := 364) (by decide +kernel), List.mem_of_getElem? (i := 365) (by decide +kernel)⟩
theorem lw_p9 : lw_okq (⟨"BoilerLog", "hasTagOfAnother", "(II)Z"⟩, 14) := ⟨⟨by decide +kernel, by decide +kernel⟩, List.mem_of_getElem? (i := 25) (by decide +kernel), List.mem_of_getElem? (i := 368) (by decide +kernel), List.mem_of_getElem? (i := 369) (by decide +kernel)⟩
theorem lw_p10 : lw_okq (⟨"BoilerLog", "setValve", "(IIZ)Z"⟩, 14) := ⟨⟨by decide +kernel, by decide +kernel⟩, List.mem_of_getElem? (i := 25) (by decide +kernel), List.mem_of_getElem? (i := 373) (by decide +kernel), List.mem_of_getElem? (i := 374) (by decide +kernel)⟩
theorem lw_p11 : lw_okq (⟨"BoilerLog$Log", "noteTurn", "(IIIZ)V"⟩, 2) := ⟨⟨by decide +kernel, by decide +kernel⟩, List.mem_of_getElem? (i := 63) (by decide +kernel), List.mem_of_getElem? (i := 377) (by decide +kernel), List.mem_of_getElem? (i := 378) (by decide +kernel)⟩
theorem lw_p12 : lw_okq (⟨"BoilerLog$Log", "note", "(IIII)V"⟩, 2) := ⟨⟨by decide +kernel, by decide +kernel⟩, List.mem_of_getElem? (i := 63) (by decide +kernel), List.mem_of_getElem? (i := 381) (by decide +kernel), List.mem_of_getElem? (i := 382) (by decide +kernel)⟩
theorem lw_p13 : lw_okq (⟨"BoilerLog$Log", "kindAt", "(I)I"⟩, 2) := ⟨⟨by decide +kernel, by decide +kernel⟩, List.mem_of_getElem? (i := 63) (by decide +kernel), List.mem_of_getElem? (i := 422) (by decide +kernel), List.mem_of_getElem? (i := 423) (by decide +kernel)⟩
theorem lw_p14 : lw_okq (⟨"BoilerLog$Log", "valveTurnedAt", "(I)I"⟩, 2) := ⟨⟨by decide +kernel, by decide +kernel⟩, List.mem_of_getElem? (i := 63) (by decide +kernel), List.mem_of_getElem? (i := 426) (by decide +kernel), List.mem_of_getElem? (i := 427) (by decide +kernel)⟩
theorem lw_p15 : lw_okq (⟨"BoilerLog$Log", "whatAt", "(I)I"⟩, 2) := ⟨⟨by decide +kernel, by decide +kernel⟩, List.mem_of_getElem? (i := 63) (by decide +kernel), List.mem_of_getElem? (i := 430) (by decide +kernel), List.mem_of_getElem? (i := 431) (by decide +kernel)⟩
def lw_privs_1 : List (MethodName × Nat) := [(⟨"BoilerLog$Log", "size", "()I"⟩, 2), (⟨"BoilerLog$Draft", "length", "()I"⟩, 2), (⟨"BoilerLog$Draft", "wipe", "()V"⟩, 2), (⟨"BoilerLog$Draft", "isComplete", "()Z"⟩, 2), (⟨"java/lang/Throwable", "fillInStackTrace", "(I)Ljava/lang/Throwable;"⟩, 6), (⟨"BoilerLog", "countTagsOn", "(I)I"⟩, 14), (⟨"BoilerLog", "findObstacle", "(II)I"⟩, 14), (⟨"BoilerLog", "isOnDuty", "(I)Z"⟩, 14), (⟨"BoilerLog", "isAble", "(I)Z"⟩, 14), (⟨"BoilerLog", "hasTagOfAnother", "(II)Z"⟩, 14), (⟨"BoilerLog", "setValve", "(IIZ)Z"⟩, 14), (⟨"BoilerLog$Log", "noteTurn", "(IIIZ)V"⟩, 2), (⟨"BoilerLog$Log", "note", "(IIII)V"⟩, 2), (⟨"BoilerLog$Log", "kindAt", "(I)I"⟩, 2), (⟨"BoilerLog$Log", "valveTurnedAt", "(I)I"⟩, 2), (⟨"BoilerLog$Log", "whatAt", "(I)I"⟩, 2)]
theorem lw_r1 : ∀ q ∈ lw_privs_1, lw_okq q := List.forall_mem_cons.mpr ⟨lw_p0, List.forall_mem_cons.mpr ⟨lw_p1, List.forall_mem_cons.mpr ⟨lw_p2, List.forall_mem_cons.mpr ⟨lw_p3, List.forall_mem_cons.mpr ⟨lw_p4, List.forall_mem_cons.mpr ⟨lw_p5, List.forall_mem_cons.mpr ⟨lw_p6, List.forall_mem_cons.mpr ⟨lw_p7, List.forall_mem_cons.mpr ⟨lw_p8, List.forall_mem_cons.mpr ⟨lw_p9, List.forall_mem_cons.mpr ⟨lw_p10, List.forall_mem_cons.mpr ⟨lw_p11, List.forall_mem_cons.mpr ⟨lw_p12, List.forall_mem_cons.mpr ⟨lw_p13, List.forall_mem_cons.mpr ⟨lw_p14, List.forall_mem_cons.mpr ⟨lw_p15, fun _ h => absurd h List.not_mem_nil⟩⟩⟩⟩⟩⟩⟩⟩⟩⟩⟩⟩⟩⟩⟩⟩
theorem lw_p16 : lw_okq (⟨"BoilerLog$Log", "opensAt", "(I)Z"⟩, 2) := ⟨⟨by decide +kernel, by decide +kernel⟩, List.mem_of_getElem? (i := 63) (by decide +kernel), List.mem_of_getElem? (i := 434) (by decide +kernel), List.mem_of_getElem? (i := 435) (by decide +kernel)⟩
theorem lw_p17 : lw_okq (⟨"java/util/ArrayList", "add", "(Ljava/lang/Object;[Ljava/lang/Object;I)V"⟩, 3) := ⟨⟨by decide +kernel, by decide +kernel⟩, List.mem_of_getElem? (i := 35) (by decide +kernel), List.mem_of_getElem? (i := 483) (by decide +kernel), List.mem_of_getElem? (i := 484) (by decide +kernel)⟩
theorem lw_p18 : lw_okq (⟨"java/util/ArrayList", "grow", "()[Ljava/lang/Object;"⟩, 3) := ⟨⟨by decide +kernel, by decide +kernel⟩, List.mem_of_getElem? (i := 35) (by decide +kernel), List.mem_of_getElem? (i := 487) (by decide +kernel), List.mem_of_getElem? (i := 488) (by decide +kernel)⟩
theorem lw_p19 : lw_okq (⟨"java/util/ArrayList", "grow", "(I)[Ljava/lang/Object;"⟩, 3) := ⟨⟨by decide +kernel, by decide +kernel⟩, List.mem_of_getElem? (i := 35) (by decide +kernel), List.mem_of_getElem? (i := 491) (by decide +kernel), List.mem_of_getElem? (i := 492) (by decide +kernel)⟩
theorem lw_p20 : lw_okq (⟨"BoilerLog", "checkTag", "(I)V"⟩, 14) := ⟨⟨by decide +kernel, by decide +kernel⟩, List.mem_of_getElem? (i := 25) (by decide +kernel), List.mem_of_getElem? (i := 540) (by decide +kernel), List.mem_of_getElem? (i := 541) (by decide +kernel)⟩
theorem lw_p21 : lw_okq (⟨"BoilerLog", "wasHungOn", "(II)Z"⟩, 14) := ⟨⟨by decide +kernel, by decide +kernel⟩, List.mem_of_getElem? (i := 25) (by decide +kernel), List.mem_of_getElem? (i := 571) (by decide +kernel), List.mem_of_getElem? (i := 572) (by decide +kernel)⟩
theorem lw_p22 : lw_okq (⟨"BoilerLog", "checkNotGone", "(I)V"⟩, 14) := ⟨⟨by decide +kernel, by decide +kernel⟩, List.mem_of_getElem? (i := 25) (by decide +kernel), List.mem_of_getElem? (i := 582) (by decide +kernel), List.mem_of_getElem? (i := 583) (by decide +kernel)⟩
theorem lw_p23 : lw_okq (⟨"BoilerLog", "endHour", "()V"⟩, 14) := ⟨⟨by decide +kernel, by decide +kernel⟩, List.mem_of_getElem? (i := 25) (by decide +kernel), List.mem_of_getElem? (i := 610) (by decide +kernel), List.mem_of_getElem? (i := 611) (by decide +kernel)⟩
theorem lw_p24 : lw_okq (⟨"BoilerLog", "leadOn", "(II)V"⟩, 14) := ⟨⟨by decide +kernel, by decide +kernel⟩, List.mem_of_getElem? (i := 25) (by decide +kernel), List.mem_of_getElem? (i := 614) (by decide +kernel), List.mem_of_getElem? (i := 615) (by decide +kernel)⟩
theorem lw_p25 : lw_okq (⟨"BoilerLog", "watch", "(I)V"⟩, 14) := ⟨⟨by decide +kernel, by decide +kernel⟩, List.mem_of_getElem? (i := 25) (by decide +kernel), List.mem_of_getElem? (i := 619) (by decide +kernel), List.mem_of_getElem? (i := 620) (by decide +kernel)⟩
theorem lw_p26 : lw_okq (⟨"BoilerLog$Alarm", "isMetBy", "(I)Z"⟩, 6) := ⟨⟨by decide +kernel, by decide +kernel⟩, List.mem_of_getElem? (i := 626) (by decide +kernel), List.mem_of_getElem? (i := 624) (by decide +kernel), List.mem_of_getElem? (i := 625) (by decide +kernel)⟩
theorem lw_p27 : lw_okq (⟨"BoilerLog$Log", "codeAt", "(I)I"⟩, 2) := ⟨⟨by decide +kernel, by decide +kernel⟩, List.mem_of_getElem? (i := 63) (by decide +kernel), List.mem_of_getElem? (i := 637) (by decide +kernel), List.mem_of_getElem? (i := 638) (by decide +kernel)⟩
theorem lw_p28 : lw_okq (⟨"BoilerLog$Draft", "put", "(IC)V"⟩, 2) := ⟨⟨by decide +kernel, by decide +kernel⟩, List.mem_of_getElem? (i := 76) (by decide +kernel), List.mem_of_getElem? (i := 694) (by decide +kernel), List.mem_of_getElem? (i := 695) (by decide +kernel)⟩
theorem lw_p29 : lw_okq (⟨"BoilerLog", "checkThread", "(I)V"⟩, 14) := ⟨⟨by decide +kernel, by decide +kernel⟩, List.mem_of_getElem? (i := 25) (by decide +kernel), List.mem_of_getElem? (i := 705) (by decide +kernel), List.mem_of_getElem? (i := 706) (by decide +kernel)⟩
theorem lw_p30 : lw_okq (⟨"BoilerLog$Draft", "toSigns", "()[I"⟩, 2) := ⟨⟨by decide +kernel, by decide +kernel⟩, List.mem_of_getElem? (i := 76) (by decide +kernel), List.mem_of_getElem? (i := 713) (by decide +kernel), List.mem_of_getElem? (i := 714) (by decide +kernel)⟩
theorem lw_p31 : lw_okq (⟨"BoilerLog$Draft", "countHigh", "()I"⟩, 2) := ⟨⟨by decide +kernel, by decide +kernel⟩, List.mem_of_getElem? (i := 76) (by decide +kernel), List.mem_of_getElem? (i := 717) (by decide +kernel), List.mem_of_getElem? (i := 718) (by decide +kernel)⟩
def lw_privs_2 : List (MethodName × Nat) := [(⟨"BoilerLog$Log", "opensAt", "(I)Z"⟩, 2), (⟨"java/util/ArrayList", "add", "(Ljava/lang/Object;[Ljava/lang/Object;I)V"⟩, 3), (⟨"java/util/ArrayList", "grow", "()[Ljava/lang/Object;"⟩, 3), (⟨"java/util/ArrayList", "grow", "(I)[Ljava/lang/Object;"⟩, 3), (⟨"BoilerLog", "checkTag", "(I)V"⟩, 14), (⟨"BoilerLog", "wasHungOn", "(II)Z"⟩, 14), (⟨"BoilerLog", "checkNotGone", "(I)V"⟩, 14), (⟨"BoilerLog", "endHour", "()V"⟩, 14), (⟨"BoilerLog", "leadOn", "(II)V"⟩, 14), (⟨"BoilerLog", "watch", "(I)V"⟩, 14), (⟨"BoilerLog$Alarm", "isMetBy", "(I)Z"⟩, 6), (⟨"BoilerLog$Log", "codeAt", "(I)I"⟩, 2), (⟨"BoilerLog$Draft", "put", "(IC)V"⟩, 2), (⟨"BoilerLog", "checkThread", "(I)V"⟩, 14), (⟨"BoilerLog$Draft", "toSigns", "()[I"⟩, 2), (⟨"BoilerLog$Draft", "countHigh", "()I"⟩, 2)]
theorem lw_r2 : ∀ q ∈ lw_privs_2, lw_okq q := List.forall_mem_cons.mpr ⟨lw_p16, List.forall_mem_cons.mpr ⟨lw_p17, List.forall_mem_cons.mpr ⟨lw_p18, List.forall_mem_cons.mpr ⟨lw_p19, List.forall_mem_cons.mpr ⟨lw_p20, List.forall_mem_cons.mpr ⟨lw_p21, List.forall_mem_cons.mpr ⟨lw_p22, List.forall_mem_cons.mpr ⟨lw_p23, List.forall_mem_cons.mpr ⟨lw_p24, List.forall_mem_cons.mpr ⟨lw_p25, List.forall_mem_cons.mpr ⟨lw_p26, List.forall_mem_cons.mpr ⟨lw_p27, List.forall_mem_cons.mpr ⟨lw_p28, List.forall_mem_cons.mpr ⟨lw_p29, List.forall_mem_cons.mpr ⟨lw_p30, List.forall_mem_cons.mpr ⟨lw_p31, fun _ h => absurd h List.not_mem_nil⟩⟩⟩⟩⟩⟩⟩⟩⟩⟩⟩⟩⟩⟩⟩⟩
theorem lw_p32 : lw_okq (⟨"BoilerLog$Message", "personCalled", "()I"⟩, 1) := ⟨⟨by decide +kernel, by decide +kernel⟩, List.mem_of_getElem? (i := 711) (by decide +kernel), List.mem_of_getElem? (i := 733) (by decide +kernel), List.mem_of_getElem? (i := 734) (by decide +kernel)⟩
theorem lw_p33 : lw_okq (⟨"BoilerLog", "assign", "(II)V"⟩, 14) := ⟨⟨by decide +kernel, by decide +kernel⟩, List.mem_of_getElem? (i := 25) (by decide +kernel), List.mem_of_getElem? (i := 737) (by decide +kernel), List.mem_of_getElem? (i := 738) (by decide +kernel)⟩
theorem lw_p34 : lw_okq (⟨"BoilerLog", "checkMessage", "(I)V"⟩, 14) := ⟨⟨by decide +kernel, by decide +kernel⟩, List.mem_of_getElem? (i := 25) (by decide +kernel), List.mem_of_getElem? (i := 763) (by decide +kernel), List.mem_of_getElem? (i := 764) (by decide +kernel)⟩
theorem lw_p35 : lw_okq (⟨"BoilerLog$Message", "length", "()I"⟩, 1) := ⟨⟨by decide +kernel, by decide +kernel⟩, List.mem_of_getElem? (i := 711) (by decide +kernel), List.mem_of_getElem? (i := 768) (by decide +kernel), List.mem_of_getElem? (i := 769) (by decide +kernel)⟩
theorem lw_p36 : lw_okq (⟨"BoilerLog$Message", "get", "(I)I"⟩, 1) := ⟨⟨by decide +kernel, by decide +kernel⟩, List.mem_of_getElem? (i := 711) (by decide +kernel), List.mem_of_getElem? (i := 783) (by decide +kernel), List.mem_of_getElem? (i := 784) (by decide +kernel)⟩
theorem lw_p37 : lw_okq (⟨"BoilerLogModel", "tagsOn", "(I)I"⟩, 32) := ⟨⟨by decide +kernel, by decide +kernel⟩, List.mem_of_getElem? (i := 794) (by decide +kernel), List.mem_of_getElem? (i := 912) (by decide +kernel), List.mem_of_getElem? (i := 913) (by decide +kernel)⟩
theorem lw_p38 : lw_okq (⟨"BoilerLogModel", "bars", "(II)I"⟩, 32) := ⟨⟨by decide +kernel, by decide +kernel⟩, List.mem_of_getElem? (i := 794) (by decide +kernel), List.mem_of_getElem? (i := 923) (by decide +kernel), List.mem_of_getElem? (i := 924) (by decide +kernel)⟩
theorem lw_p39 : lw_okq (⟨"BoilerLogModel", "isOnDuty", "(I)Z"⟩, 32) := ⟨⟨by decide +kernel, by decide +kernel⟩, List.mem_of_getElem? (i := 794) (by decide +kernel), List.mem_of_getElem? (i := 927) (by decide +kernel), List.mem_of_getElem? (i := 928) (by decide +kernel)⟩
theorem lw_p40 : lw_okq (⟨"BoilerLogModel", "may", "(I)Z"⟩, 32) := ⟨⟨by decide +kernel, by decide +kernel⟩, List.mem_of_getElem? (i := 794) (by decide +kernel), List.mem_of_getElem? (i := 931) (by decide +kernel), List.mem_of_getElem? (i := 932) (by decide +kernel)⟩
theorem lw_p41 : lw_okq (⟨"BoilerLogModel", "isBarred", "(II)Z"⟩, 32) := ⟨⟨by decide +kernel, by decide +kernel⟩, List.mem_of_getElem? (i := 794) (by decide +kernel), List.mem_of_getElem? (i := 935) (by decide +kernel), List.mem_of_getElem? (i := 936) (by decide +kernel)⟩
theorem lw_p42 : lw_okq (⟨"BoilerLogModel", "turnsTo", "(IIZ)Z"⟩, 32) := ⟨⟨by decide +kernel, by decide +kernel⟩, List.mem_of_getElem? (i := 794) (by decide +kernel), List.mem_of_getElem? (i := 939) (by decide +kernel), List.mem_of_getElem? (i := 940) (by decide +kernel)⟩
theorem lw_p43 : lw_okq (⟨"BoilerLogModel", "notes", "(III)V"⟩, 32) := ⟨⟨by decide +kernel, by decide +kernel⟩, List.mem_of_getElem? (i := 794) (by decide +kernel), List.mem_of_getElem? (i := 943) (by decide +kernel), List.mem_of_getElem? (i := 944) (by decide +kernel)⟩
theorem lw_p44 : lw_okq (⟨"BoilerLogModel", "isTag", "(I)Z"⟩, 32) := ⟨⟨by decide +kernel, by decide +kernel⟩, List.mem_of_getElem? (i := 794) (by decide +kernel), List.mem_of_getElem? (i := 979) (by decide +kernel), List.mem_of_getElem? (i := 980) (by decide +kernel)⟩
theorem lw_p45 : lw_okq (⟨"BoilerLogModel", "ends", "()V"⟩, 32) := ⟨⟨by decide +kernel, by decide +kernel⟩, List.mem_of_getElem? (i := 794) (by decide +kernel), List.mem_of_getElem? (i := 1011) (by decide +kernel), List.mem_of_getElem? (i := 1012) (by decide +kernel)⟩
theorem lw_p46 : lw_okq (⟨"BoilerLogModel", "leads", "(I)V"⟩, 32) := ⟨⟨by decide +kernel, by decide +kernel⟩, List.mem_of_getElem? (i := 794) (by decide +kernel), List.mem_of_getElem? (i := 1015) (by decide +kernel), List.mem_of_getElem? (i := 1016) (by decide +kernel)⟩
theorem lw_p47 : lw_okq (⟨"BoilerLogModel", "watches", "(I)V"⟩, 32) := ⟨⟨by decide +kernel, by decide +kernel⟩, List.mem_of_getElem? (i := 794) (by decide +kernel), List.mem_of_getElem? (i := 1019) (by decide +kernel), List.mem_of_getElem? (i := 1020) (by decide +kernel)⟩
def lw_privs_3 : List (MethodName × Nat) := [(⟨"BoilerLog$Message", "personCalled", "()I"⟩, 1), (⟨"BoilerLog", "assign", "(II)V"⟩, 14), (⟨"BoilerLog", "checkMessage", "(I)V"⟩, 14), (⟨"BoilerLog$Message", "length", "()I"⟩, 1), (⟨"BoilerLog$Message", "get", "(I)I"⟩, 1), (⟨"BoilerLogModel", "tagsOn", "(I)I"⟩, 32), (⟨"BoilerLogModel", "bars", "(II)I"⟩, 32), (⟨"BoilerLogModel", "isOnDuty", "(I)Z"⟩, 32), (⟨"BoilerLogModel", "may", "(I)Z"⟩, 32), (⟨"BoilerLogModel", "isBarred", "(II)Z"⟩, 32), (⟨"BoilerLogModel", "turnsTo", "(IIZ)Z"⟩, 32), (⟨"BoilerLogModel", "notes", "(III)V"⟩, 32), (⟨"BoilerLogModel", "isTag", "(I)Z"⟩, 32), (⟨"BoilerLogModel", "ends", "()V"⟩, 32), (⟨"BoilerLogModel", "leads", "(I)V"⟩, 32), (⟨"BoilerLogModel", "watches", "(I)V"⟩, 32)]
theorem lw_r3 : ∀ q ∈ lw_privs_3, lw_okq q := List.forall_mem_cons.mpr ⟨lw_p32, List.forall_mem_cons.mpr ⟨lw_p33, List.forall_mem_cons.mpr ⟨lw_p34, List.forall_mem_cons.mpr ⟨lw_p35, List.forall_mem_cons.mpr ⟨lw_p36, List.forall_mem_cons.mpr ⟨lw_p37, List.forall_mem_cons.mpr ⟨lw_p38, List.forall_mem_cons.mpr ⟨lw_p39, List.forall_mem_cons.mpr ⟨lw_p40, List.forall_mem_cons.mpr ⟨lw_p41, List.forall_mem_cons.mpr ⟨lw_p42, List.forall_mem_cons.mpr ⟨lw_p43, List.forall_mem_cons.mpr ⟨lw_p44, List.forall_mem_cons.mpr ⟨lw_p45, List.forall_mem_cons.mpr ⟨lw_p46, List.forall_mem_cons.mpr ⟨lw_p47, fun _ h => absurd h List.not_mem_nil⟩⟩⟩⟩⟩⟩⟩⟩⟩⟩⟩⟩⟩⟩⟩⟩
theorem lw_p48 : lw_okq (⟨"BoilerLogModel", "isGood", "()Z"⟩, 32) := ⟨⟨by decide +kernel, by decide +kernel⟩, List.mem_of_getElem? (i := 794) (by decide +kernel), List.mem_of_getElem? (i := 1056) (by decide +kernel), List.mem_of_getElem? (i := 1057) (by decide +kernel)⟩
theorem lw_p49 : lw_okq (⟨"BoilerLogModel", "isThread", "(I)Z"⟩, 32) := ⟨⟨by decide +kernel, by decide +kernel⟩, List.mem_of_getElem? (i := 794) (by decide +kernel), List.mem_of_getElem? (i := 1074) (by decide +kernel), List.mem_of_getElem? (i := 1075) (by decide +kernel)⟩
theorem lw_p50 : lw_okq (⟨"BoilerLogModel", "meant", "()I"⟩, 32) := ⟨⟨by decide +kernel, by decide +kernel⟩, List.mem_of_getElem? (i := 794) (by decide +kernel), List.mem_of_getElem? (i := 1078) (by decide +kernel), List.mem_of_getElem? (i := 1079) (by decide +kernel)⟩
theorem lw_p51 : lw_okq (⟨"BoilerLogModel", "asksMessage", "(I)Z"⟩, 32) := ⟨⟨by decide +kernel, by decide +kernel⟩, List.mem_of_getElem? (i := 794) (by decide +kernel), List.mem_of_getElem? (i := 1098) (by decide +kernel), List.mem_of_getElem? (i := 1099) (by decide +kernel)⟩
theorem lw_p52 : lw_okq (⟨"BoilerLogModel", "laysSigns", "(I)V"⟩, 32) := ⟨⟨by decide +kernel, by decide +kernel⟩, List.mem_of_getElem? (i := 794) (by decide +kernel), List.mem_of_getElem? (i := 1102) (by decide +kernel), List.mem_of_getElem? (i := 1103) (by decide +kernel)⟩
theorem lw_p53 : lw_okq (⟨"BoilerLogModel", "signOf", "(IIZ)I"⟩, 32) := ⟨⟨by decide +kernel, by decide +kernel⟩, List.mem_of_getElem? (i := 794) (by decide +kernel), List.mem_of_getElem? (i := 1111) (by decide +kernel), List.mem_of_getElem? (i := 1112) (by decide +kernel)⟩
def lw_privs_4 : List (MethodName × Nat) := [(⟨"BoilerLogModel", "isGood", "()Z"⟩, 32), (⟨"BoilerLogModel", "isThread", "(I)Z"⟩, 32), (⟨"BoilerLogModel", "meant", "()I"⟩, 32), (⟨"BoilerLogModel", "asksMessage", "(I)Z"⟩, 32), (⟨"BoilerLogModel", "laysSigns", "(I)V"⟩, 32), (⟨"BoilerLogModel", "signOf", "(IIZ)I"⟩, 32)]
theorem lw_r4 : ∀ q ∈ lw_privs_4, lw_okq q := List.forall_mem_cons.mpr ⟨lw_p48, List.forall_mem_cons.mpr ⟨lw_p49, List.forall_mem_cons.mpr ⟨lw_p50, List.forall_mem_cons.mpr ⟨lw_p51, List.forall_mem_cons.mpr ⟨lw_p52, List.forall_mem_cons.mpr ⟨lw_p53, fun _ h => absurd h List.not_mem_nil⟩⟩⟩⟩⟩⟩
def lw_privs : List (MethodName × Nat) := lw_privs_1 ++ (lw_privs_2 ++ (lw_privs_3 ++ (lw_privs_4)))
def lw_tbl : List Cond := k2_sels lw_privs ++ tables_1
theorem lw_privs_ok : ∀ q ∈ lw_privs, lw_okq q := by
  show ∀ q ∈ lw_privs_1 ++ (lw_privs_2 ++ (lw_privs_3 ++ (lw_privs_4))), lw_okq q
  exact List.forall_mem_append.mpr ⟨lw_r1, List.forall_mem_append.mpr ⟨lw_r2, List.forall_mem_append.mpr ⟨lw_r3, lw_r4⟩⟩⟩
-- ===== end of PART A; then your names; then what follows =====
end
section
/-! ===== BEGIN words of one list among another's, by their places ===== -/
theorem goodIn_r {big : List Cond} (ws : List Cond) (ps : List Nat) (hp : ws = ps.filterMap (fun i => big[i]?)) (h : ws.all goodWord = true) : GoodIn big ws := by
  intro w hw
  have h1 := List.all_eq_true.mp h w hw
  rw [hp] at hw
  obtain ⟨i, -, hi⟩ := List.mem_filterMap.mp hw
  have hm : w ∈ big := by first | exact List.mem_of_getElem? hi | exact List.getElem?_mem hi
  exact ⟨hm, good_of_word h1⟩
theorem goodIn_app {big a b : List Cond} (ha : GoodIn big a) (hb : GoodIn big b) : GoodIn big (a ++ b) := fun w h => (List.mem_append.mp h).elim (ha w) (hb w)
theorem goodIn_ca {big a b : List Cond} {c : Cond} (ha : GoodIn big (c :: a)) (hb : GoodIn big b) : GoodIn big (c :: (a ++ b)) := fun w h => (List.mem_cons.mp h).elim (fun e => ha w (List.mem_cons.mpr (Or.inl e))) (fun h => (List.mem_append.mp h).elim (fun h => ha w (List.mem_cons.mpr (Or.inr h))) (hb w))
theorem goodIn_sub {big ws : List Cond} (hm : ∀ w ∈ ws, w ∈ big) (h : ws.all goodWord = true) : GoodIn big ws := fun w hw => ⟨hm w hw, good_of_word (List.all_eq_true.mp h w hw)⟩
/-! ===== END ===== -/

/-! ===== BEGIN exceptions that leave a method, and their catching by the caller (launches without stack traces) ===== -/
section VXA
/-! The laws vx_back, vx_callV, vx_callS, vx_callSW, vx_throw0, vx_throwS follow proofs of the library, with one case more: JvmDerived/Free/Laws.lean (Back.of_free), Shelf42/LK1.lean (callV, callS), Shelf/KitTraced.lean (throwNew0V, throwNewS). -/
/-- where a method has thrown q: the class by its name, the cell, what was written, the world -/
def vx_T (XC : String → State → State → Prop) (st : State) (q : Addr) (t : State) (mc ms : Nat) (free : Addr → Prop) : Prop :=
  ∃ (E : String) (ce : Cell) (L : List Loc), XC E st t ∧ t.heap[q]? = some ce ∧ ce.vm = .none ∧ st.vm.findClass E = some ce.cls ∧ st.WarmedH t.vm ∧ st.sameButNew ({ t with vm := st.vm } : State) L mc ms ∧ ∀ z ∈ L, free z.base
def vx_Q (Qc : Array Value → State → Outcome → State → Prop) (XC : String → State → State → Prop) (mc ms : Nat) (free : Addr → Prop) : Array Value → State → Outcome → State → Prop := fun a st o t =>
  (Qc a st o t ∧ ∃ L, FrameEnd st o t L mc ms ∧ ∀ q ∈ L, free q.base) ∨ ∃ q, o = .threw q ∧ vx_T XC st q t mc ms free
/-- a callee that returns or throws -/
def vx_Met (l : Launch) (y : MethodName) (ws : List Cond) (rm : Room) (Pc : Array Value → State → Prop) (Qc : Array Value → State → Outcome → State → Prop) (XC : String → State → State → Prop) (mc ms : Nat) (free : Addr → Prop) : Prop :=
  MetFree l y (headSpec ws rm) Pc (fun _ _ _ _ _ => True) (vx_Q Qc XC mc ms free)
def vx_Post (XC : String → State → State → Prop) (mc ms : Nat) (free : Addr → Prop) : Pt → Array Value → Addr → Pt → Prop := fun A a q B =>
  ∃ (g : JFrame) (mk : MethodId) (t : State) (L : List Loc) (E : String) (ce : Cell), B.U.heap = t.heap ∧ B.U.vm = t.vm ∧ XC E (A.U.calling g mk a) t ∧ t.heap[q]? = some ce ∧ ce.vm = .none ∧ A.U.vm.findClass E = some ce.cls ∧ B.locs = A.locs ++ L ∧ (∀ z ∈ L, free z.base) ∧ B.cells = A.cells + mc ∧ B.slots = A.slots + ms
def vx_Back (l : Launch) (R : Room) (p : Program) (e : Env) (below : List Frame) (s : State) (sargs : Array Value) (y : MethodName) (len W9 : Nat)
    (Pre : Pt → Array Value → Prop) (Post : Pt → Array Value → Option Value → Pt → Prop) (PostX : Pt → Array Value → Addr → Pt → Prop) : Prop :=
  ∀ (m : MethodId) (meth : Method) (c : Code) (A : Pt) (g : JFrame) (ig : Instr) (mk : MethodId) (a : Array Value),
    Stand p l e R s m sargs below meth c A.U A.locs A.cells A.slots → g.method = m → g.locals.size = c.maxLocals → decode c.code g.pc = .ok (ig, len) →
    2 * g.monitorRoom + (g.stack.map fun v => v.category).sum ≤ W9 → A.U.methodNamed? y = some mk → Pre A a →
    (∃ (v : Option Value) (B : Pt), Stand p l e R s m sargs below meth c B.U B.locs B.cells B.slots ∧ Post A a v B ∧
      Steps p.tables e below (doInvoke e (A.U.setTop g) [] mk a).1 (B.U.setTop { g with pc := g.pc + len, stack := v.toList ++ g.stack })) ∨
    (∃ (q : Addr) (B : Pt), Stand p l e R s m sargs below meth c B.U B.locs B.cells B.slots ∧ PostX A a q B ∧
      Steps p.tables e below (doInvoke e (A.U.setTop g) [] mk a).1 ((B.U.setTop g).pushFrame (.throwing q)))
section Payer
variable {l : Launch} {R : Room} {p : Program} {e : Env} {below : List Frame} {s : State} {sargs : Array Value} {y : MethodName} {len W9 : Nat}
theorem vx_back {ws : List Cond} {rm : Room} {Pc : Array Value → State → Prop} {Qc : Array Value → State → Outcome → State → Prop} {XC : String → State → State → Prop} {mc ms : Nat} {free : Addr → Prop} {bytes : ByteArray} {maxL : Nat} {ret : Option FieldType}
    (hM : vx_Met l y ws rm Pc Qc XC mc ms free) (hblind : FrameBlind Pc) (hrc : rm.cells = mc) (hrs : rm.slots = ms)
    (hframes : rm.frames + 1 ≤ R.frames) (hlocals : W9 + (maxL + 11) + rm.locals ≤ R.locals)
    (hws : ∀ w ∈ ws, ∀ a' U, s.WarmedH U.vm → w.before a' U = true) (hcode : Cond.code y bytes maxL ret ∈ ws) (hinit : ∀ a' U, s.WarmedH U.vm → (Cond.initialized y.cls).before a' U = true) :
    vx_Back l R p e below s sargs y len W9 (PreOf R mc ms Pc) (PostOf Qc mc ms free) (vx_Post XC mc ms free) := by
  intro m meth c A g ig mk a X hg hsize hdg hW hn hp
  have h1 : (headSpec ws rm).pre.before a A.U = true := atoms_intro fun w hw => hws w hw _ _ X.warmed
  have h2 : (Cond.code y bytes maxL ret).before a A.U = true := hws _ hcode _ _ X.warmed
  have h3 : (Cond.initialized y.cls).before a A.U = true := hinit _ _ X.warmed
  have h4 : A.cells + (headSpec ws rm).room.cells ≤ R.cells := by rw [show (headSpec ws rm).room.cells = mc from hrc]; exact hp.1
  have h5 : A.slots + (headSpec ws rm).room.slots ≤ R.slots := by rw [show (headSpec ws rm).room.slots = ms from hrs]; exact hp.2.1
  have hPc : Pc a (A.U.calling g mk a) := hblind _ _ _ _ hp.2.2
  obtain ⟨U, Ls, c0, s0⟩ := A
  dsimp only [Pt.U, Pt.locs, Pt.cells, Pt.slots] at h1 h2 h3 h4 h5 X hn hPc ⊢
  obtain ⟨methY, cY, hmY, hcY, -, hlY, -, -, -, -⟩ := Cond.code_spec hn h2
  obtain ⟨kY, hkY, -⟩ := className_of_methodNamed hn
  have hinitY : kY.init = .initialized := Cond.initialized_spec (findClass_of_methodNamed hn) hkY h3
  have h : At U g.method c below := by rw [hg]; exact X.here
  have hlocals9 : W9 + (maxL + 11) + (headSpec ws rm).room.locals ≤ R.locals := hlocals
  have happ : (headSpec ws rm).appliesLoose y e.platform (U.calling g mk a) = true :=
    Spec.appliesLoose_calling (g := g) h hdg hn hkY hinitY
      (X.room_calling (g := g) (R' := (headSpec ws rm).room) hsize hmY hcY hframes (by rw [hlY]; omega) h4 h5) h1
  obtain ⟨mid, hmid⟩ := h.above
  have hfr : (U.setTop g).frames = (.java g :: mid) ++ below := by rw [State.frames_setTop' g h.top, hmid]; rfl
  obtain ⟨o, s₂, hsteps, -, hend, hq⟩ := Steps.callFree hM p X.admits X.cas X.clock (acts := []) hfr happ hPc trivial
  have hq' : vx_Q Qc XC mc ms free a (U.calling g mk a) o s₂ := hq
  rw [State.frames_setTop' g h.top] at hend
  obtain ⟨g₀, hg0⟩ := Option.isSome_iff_exists.mp h.top
  obtain ⟨r, hr⟩ := State.topJava?_eq_some.mp hg0
  have hr' : (({ U with heap := s₂.heap, slotsUsed := s₂.slotsUsed } : State).setVm s₂.vm).frames = .java g₀ :: r := hr
  rcases hq' with ⟨hqc, L, hfe, hL⟩ | ⟨q, rfl, E, ce, L, hx, hce, hcv, hcl, hW₂, hsm, hL⟩
  · obtain ⟨⟨v, rfl⟩, hW₂, e2, q2, q3, q4, q5, q6⟩ := id hfe
    have e3 : s₂ = ({ (U.calling g mk a).setFrames s₂.frames with heap := s₂.heap, slotsUsed := s₂.slotsUsed } : State).setVm s₂.vm := by
      have : s₂ = ({ s₂ with vm := (U.calling g mk a).vm } : State).setVm s₂.vm := rfl
      rw [e2] at this
      exact this
    obtain ⟨c₂, i₂, len₂, hc₂, hd₂, hf₂⟩ := hend
    have hW' : U.WarmedH s₂.vm := hW₂
    have hcc : c₂ = c := by
      have h1 : s₂.code? g.method = U.code? g.method := by
        rw [State.code?_eq, State.code?_eq, hW'.alike.method?]
      exact Option.some.inj (hc₂.symm.trans (h1.trans h.code))
    subst hcc
    have hlen : len₂ = len := by rw [hdg] at hd₂; cases hd₂; rfl
    subst hlen
    have hs₂ : s₂ = (({ U with heap := s₂.heap, slotsUsed := s₂.slotsUsed } : State).setVm s₂.vm).setTop { g with pc := g.pc + len₂, stack := v.toList ++ g.stack } := by
      refine e3.trans ?_
      rw [hf₂, State.calling_eq h.top, State.setFrames_setFrames, State.setTop_of_frames _ hr', hr]
      rfl
    have hsame : U.sameButNew ({ U with heap := s₂.heap, slotsUsed := s₂.slotsUsed } : State) L mc ms := by
      refine ⟨?_, q2, q3, q4, q5, q6⟩
      obtain ⟨t, ht, -⟩ := State.frames_cons hr
      show ({ U with heap := s₂.heap, slotsUsed := s₂.slotsUsed } : State) = { U.setFrames U.frames with heap := s₂.heap, slotsUsed := s₂.slotsUsed }
      rw [State.setFrames_self ht]
    subst hg
    refine Or.inl ⟨v, ⟨(({ U with heap := s₂.heap, slotsUsed := s₂.slotsUsed } : State).setVm s₂.vm), Ls ++ L, c0 + mc, s0 + ms⟩,
      ⟨X.admits, X.cas, X.clock, X.frames, X.room, X.hears, X.method, X.code, (X.here.setHeapUsed s₂.heap s₂.slotsUsed).setVm hW'.alike, X.tail, State.WarmedH.trans X.warmed hW', X.limits, X.bytes, X.same.trans (hsame.setVm s.vm)⟩,
      ⟨g, mk, s₂, L, rfl, rfl, hqc, rfl, hL, rfl, rfl⟩, ?_⟩
    show Steps p.tables e below _ ((({ U with heap := s₂.heap, slotsUsed := s₂.slotsUsed } : State).setVm s₂.vm).setTop { g with pc := g.pc + len₂, stack := v.toList ++ g.stack })
    rw [← hs₂]
    exact hsteps
  · obtain ⟨e2, q2, q3, q4, q5, q6⟩ := id hsm
    have e3 : s₂ = ({ (U.calling g mk a).setFrames s₂.frames with heap := s₂.heap, slotsUsed := s₂.slotsUsed } : State).setVm s₂.vm := by
      have : s₂ = ({ s₂ with vm := (U.calling g mk a).vm } : State).setVm s₂.vm := rfl
      rw [e2] at this
      exact this
    have hf₂ : s₂.frames = .throwing q :: .java g :: U.frames.tail := hend
    have hW' : U.WarmedH s₂.vm := hW₂
    have hs₂ : s₂ = ((({ U with heap := s₂.heap, slotsUsed := s₂.slotsUsed } : State).setVm s₂.vm).setTop g).pushFrame (.throwing q) := by
      refine e3.trans ?_
      rw [hf₂, State.calling_eq h.top, State.setFrames_setFrames, State.pushFrame, State.frames_setTop _ hr', State.setTop_of_frames _ hr', State.setFrames_setFrames, hr]
      rfl
    have hsame : U.sameButNew ({ U with heap := s₂.heap, slotsUsed := s₂.slotsUsed } : State) L mc ms := by
      refine ⟨?_, q2, q3, q4, q5, q6⟩
      obtain ⟨t, ht, -⟩ := State.frames_cons hr
      show ({ U with heap := s₂.heap, slotsUsed := s₂.slotsUsed } : State) = { U.setFrames U.frames with heap := s₂.heap, slotsUsed := s₂.slotsUsed }
      rw [State.setFrames_self ht]
    subst hg
    refine Or.inr ⟨q, ⟨(({ U with heap := s₂.heap, slotsUsed := s₂.slotsUsed } : State).setVm s₂.vm), Ls ++ L, c0 + mc, s0 + ms⟩,
      ⟨X.admits, X.cas, X.clock, X.frames, X.room, X.hears, X.method, X.code, (X.here.setHeapUsed s₂.heap s₂.slotsUsed).setVm hW'.alike, X.tail, State.WarmedH.trans X.warmed hW', X.limits, X.bytes, X.same.trans (hsame.setVm s.vm)⟩,
      ⟨g, mk, s₂, L, E, ce, rfl, rfl, hx, hce, hcv, hcl, rfl, hL, rfl, rfl⟩, ?_⟩
    show Steps p.tables e below _ (((({ U with heap := s₂.heap, slotsUsed := s₂.slotsUsed } : State).setVm s₂.vm).setTop g).pushFrame (.throwing q))
    rw [← hs₂]
    exact hsteps
end Payer
section Calls
variable {p : Program} {l : Launch} {e : Env} {R : Room} {s : State} {m : MethodId} {args : Array Value} {below : List Frame} {meth : Method} {c : Code} {T : State} {locs : List Loc} {cells slots : Nat}
theorem vx_callV (X : Stand p l e R s m args below meth c T locs cells slots) (hexec : p.tables.exec = Jvm.exec) {own C : String} {index : Nat} {y : MethodName} {bytes : ByteArray} {maxL : Nat} {ret : Option FieldType}
    (hown : s.vm.findClass own = some m.cls) (hlink : (Cond.methodLink own index y).before args s = true) (hinst : (Cond.instanceMethod y).before args s = true) (hsel : (Cond.selects C y y).before args s = true)
    (hcode : (Cond.code y bytes maxL ret).before args s = true) (hy : y.cls ≠ "java/lang/invoke/MethodHandle" ∧ y.cls ≠ "java/lang/invoke/VarHandle")
    {W9 : Nat} {Pre : Pt → Array Value → Prop} {Post : Pt → Array Value → Option Value → Pt → Prop} {PostX : Pt → Array Value → Addr → Pt → Prop} (hK : vx_Back l R p e below s args y 3 W9 Pre Post PostX)
    {b : Addr} {cellB : Cell} (hcell : T.heap[b]? = some cellB) (hobj : cellB.vm.isStatics = false) (hcls : s.vm.findClass C = some cellB.cls)
    {g : JFrame} (hg : g.method = m) (hsize : g.locals.size = c.maxLocals) {argsL rest : List Value} (hlen : ∀ sig, parseMethodDescriptor y.desc = some sig → argsL.length = sig.parameters.length)
    (hstack : g.stack = argsL.reverse ++ .ref b :: rest) (hW : 2 * g.monitorRoom + (rest.map fun v => v.category).sum ≤ W9) (hdg : decode c.code g.pc = .ok (.invokevirtual index, 3))
    (hpre : ∀ vm₁, s.WarmedH vm₁ → Pre ⟨T.setVm vm₁, locs, cells, slots⟩ (Value.ref b :: argsL).toArray) :
    (∃ (v : Option Value) (vm₁ : Vm) (B : Pt), s.WarmedH vm₁ ∧ Stand p l e R s m args below meth c B.U B.locs B.cells B.slots ∧ Post ⟨T.setVm vm₁, locs, cells, slots⟩ (Value.ref b :: argsL).toArray v B ∧
      ∀ target, Steps p.tables e below (B.U.setTop { g with pc := g.pc + 3, stack := v.toList ++ rest }) target → Steps p.tables e below (T.setTop g) target) ∨
    (∃ (q : Addr) (vm₁ : Vm) (B : Pt), s.WarmedH vm₁ ∧ Stand p l e R s m args below meth c B.U B.locs B.cells B.slots ∧ PostX ⟨T.setVm vm₁, locs, cells, slots⟩ (Value.ref b :: argsL).toArray q B ∧
      Steps p.tables e below (T.setTop g) ((B.U.setTop { g with stack := rest }).pushFrame (.throwing q))) := by
  obtain ⟨mk, methM, hnamed, hmethM, hstM, habM⟩ := Cond.instanceMethod_spec hinst
  obtain ⟨methM', cM, hmethM', -, -, -, -, -, -, hsigM⟩ := Cond.code_spec hnamed hcode
  cases hmethM.symm.trans hmethM'
  obtain ⟨c2, r2, m2, q1, q2, q3, q4, kP, hkP, hkPi⟩ := Cond.selects_spec hsel
  cases hcls.symm.trans q1
  cases (State.methodFound?_of_named hnamed hy).symm.trans q2
  cases hnamed.symm.trans q3
  have hselP : selectMethod e.platform s.vm cellB.cls mk = .method mk := by rw [Launch.admits_selectMethod X.admits]; exact q4
  obtain ⟨vm₁, X₁, hstep₁⟩ := X.invokevirtual hexec hown hlink hnamed hmethM hstM hkP hkPi hy (a := b) (cell := cellB) hcell
    (fun z h => by rw [h] at hobj; cases hobj) hselP hmethM habM hkP hkPi (g := g) hg (argsL := argsL) (rest := rest) (hlen _ hsigM) hstack hdg
  rcases hK m meth c ⟨T.setVm vm₁, locs, cells, slots⟩ { g with stack := rest } (.invokevirtual index) mk (Value.ref b :: argsL).toArray X₁ hg hsize hdg hW (X₁.named hnamed) (hpre vm₁ X₁.warmed) with ⟨v, B, X', hpost, hsteps⟩ | ⟨q, B, X', hpost, hsteps⟩
  · exact Or.inl ⟨v, vm₁, B, X₁.warmed, X', hpost, fun target h => hstep₁ _ fun acts => by rw [doInvoke_state]; exact hsteps.trans h⟩
  · exact Or.inr ⟨q, vm₁, B, X₁.warmed, X', hpost, hstep₁ _ fun acts => by rw [doInvoke_state]; exact hsteps⟩
theorem vx_callS (X : Stand p l e R s m args below meth c T locs cells slots) (hexec : p.tables.exec = Jvm.exec) {own : String} {index : Nat} {y : MethodName} {bytes : ByteArray} {maxL : Nat} {ret : Option FieldType}
    (hown : s.vm.findClass own = some m.cls) (hlink : (Cond.methodLink own index y).before args s = true) (hstat : (Cond.static y).before args s = true) (hinit : (Cond.initialized y.cls).before args s = true)
    (hcode : (Cond.code y bytes maxL ret).before args s = true) (hy : y.cls ≠ "java/lang/invoke/MethodHandle" ∧ y.cls ≠ "java/lang/invoke/VarHandle")
    {W9 : Nat} {Pre : Pt → Array Value → Prop} {Post : Pt → Array Value → Option Value → Pt → Prop} {PostX : Pt → Array Value → Addr → Pt → Prop} (hK : vx_Back l R p e below s args y 3 W9 Pre Post PostX)
    {g : JFrame} (hg : g.method = m) (hsize : g.locals.size = c.maxLocals) {argsL rest : List Value} (hlen : ∀ sig, parseMethodDescriptor y.desc = some sig → argsL.length = sig.parameters.length)
    (hstack : g.stack = argsL.reverse ++ rest) (hW : 2 * g.monitorRoom + (rest.map fun v => v.category).sum ≤ W9) (hdg : decode c.code g.pc = .ok (.invokestatic index, 3))
    (hpre : ∀ vm₁, s.WarmedH vm₁ → Pre ⟨T.setVm vm₁, locs, cells, slots⟩ argsL.toArray) :
    (∃ (v : Option Value) (vm₁ : Vm) (B : Pt), s.WarmedH vm₁ ∧ Stand p l e R s m args below meth c B.U B.locs B.cells B.slots ∧ Post ⟨T.setVm vm₁, locs, cells, slots⟩ argsL.toArray v B ∧
      ∀ target, Steps p.tables e below (B.U.setTop { g with pc := g.pc + 3, stack := v.toList ++ rest }) target → Steps p.tables e below (T.setTop g) target) ∨
    (∃ (q : Addr) (vm₁ : Vm) (B : Pt), s.WarmedH vm₁ ∧ Stand p l e R s m args below meth c B.U B.locs B.cells B.slots ∧ PostX ⟨T.setVm vm₁, locs, cells, slots⟩ argsL.toArray q B ∧
      Steps p.tables e below (T.setTop g) ((B.U.setTop { g with stack := rest }).pushFrame (.throwing q))) := by
  obtain ⟨mk, hnamed⟩ := Cond.code_named hcode
  obtain ⟨methM, cM, hmethM, -, -, -, -, -, -, hsigM⟩ := Cond.code_spec hnamed hcode
  have hstatic : methM.isStatic = true := Cond.static_spec hnamed hmethM hstat
  obtain ⟨kP, hkP, -⟩ := className_of_methodNamed hnamed
  have hinitP : kP.init = .initialized := Cond.initialized_spec (findClass_of_methodNamed hnamed) hkP hinit
  obtain ⟨vm₁, X₁, hstep₁⟩ := X.invokestatic hexec hown hlink hnamed hmethM hstatic hkP hinitP hy (g := g) hg (argsL := argsL) (rest := rest) (hlen _ hsigM) hstack hdg
  rcases hK m meth c ⟨T.setVm vm₁, locs, cells, slots⟩ { g with stack := rest } (.invokestatic index) mk argsL.toArray X₁ hg hsize hdg hW (X₁.named hnamed) (hpre vm₁ X₁.warmed) with ⟨v, B, X', hpost, hsteps⟩ | ⟨q, B, X', hpost, hsteps⟩
  · exact Or.inl ⟨v, vm₁, B, X₁.warmed, X', hpost, fun target h => hstep₁ _ fun acts => by rw [doInvoke_state]; exact hsteps.trans h⟩
  · exact Or.inr ⟨q, vm₁, B, X₁.warmed, X', hpost, hstep₁ _ fun acts => by rw [doInvoke_state]; exact hsteps⟩
end Calls
theorem vx_cls {s : State} {T : State} {vm₁ : Vm} {E : String} {k : ClassId} (hW : s.WarmedH vm₁) (h : (T.setVm vm₁).vm.findClass E = some k) : s.vm.findClass E = some k := by
  have h1 : vm₁.findClass E = some k := h
  rw [hW.alike.findClass] at h1
  exact h1
/-- the method's frame g, with q thrown over it -/
def vx_W (p : Program) (l : Launch) (e : Env) (R : Room) (s : State) (m : MethodId) (args : Array Value) (below : List Frame) (meth : Method) (c : Code) (H : Heap) (locs : List Loc) (cells slots : Nat) (Q : State → Prop) (g : JFrame) (q : Addr) : Prop :=
  ∀ T : State, T.heap = H → Stand p l e R s m args below meth c T locs cells slots → ∃ t, Steps p.tables e below ((T.setTop g).pushFrame (.throwing q)) t ∧ Q t
def vx_Run (p : Program) (l : Launch) (e : Env) (R : Room) (s : State) (m : MethodId) (args : Array Value) (below : List Frame) (meth : Method) (c : Code) (H : Heap) (locs : List Loc) (cells slots mc ms : Nat) (g : JFrame) (rest : List Value) (Qa : State → Outcome → State → Prop) (XC : String → State → State → Prop) (free : Addr → Prop) : Prop :=
  ∀ T : State, T.heap = H → Stand p l e R s m args below meth c T locs cells slots →
    (∃ (v : Option Value) (st₀ t T' : State) (L : List Loc), st₀.heap = H ∧ Stand p l e R s m args below meth c T' (locs ++ L) (cells + mc) (slots + ms) ∧ (∀ q ∈ L, free q.base) ∧ T'.heap = t.heap ∧ T'.vm = t.vm ∧ Qa st₀ (.returned v) t ∧
      Goes p e below T g T' { g with pc := g.pc + 3, stack := v.toList ++ rest }) ∨
    (∃ (q : Addr) (st₀ t T' : State) (L : List Loc) (E : String) (ce : Cell), st₀.heap = H ∧ Stand p l e R s m args below meth c T' (locs ++ L) (cells + mc) (slots + ms) ∧ (∀ z ∈ L, free z.base) ∧ T'.heap = t.heap ∧ T'.vm = t.vm ∧ XC E st₀ t ∧ t.heap[q]? = some ce ∧ ce.vm = .none ∧ s.vm.findClass E = some ce.cls ∧
      Steps p.tables e below (T.setTop g) ((T'.setTop { g with stack := rest }).pushFrame (.throwing q)))
def vx_X {S : Type} (px : S → Prop) (B : String → S → State → Prop) (A : Nat → Prop) : String → State → State → Prop := fun E st t => ∃ u : S, px u ∧ B E u t ∧ va_F A st t
section Runs
variable {p : Program} {l : Launch} {e : Env} {R : Room} {s : State} {m : MethodId} {args : Array Value} {below : List Frame} {meth : Method} {c : Code} {H : Heap} {locs : List Loc} {cells slots : Nat}
variable {y : MethodName} {bytes cc : ByteArray} {maxL nL mc ms n index : Nat} {ret : Option FieldType} {ws : List Cond} {rm : Room} {Pc : Array Value → State → Prop} {Qc : Array Value → State → Outcome → State → Prop} {XC : String → State → State → Prop} {free : Addr → Prop} {Ts : List Cond} {own C : String} {b : Addr} {As rest : List Value} {g : JFrame}
theorem vx_callBack (cb : CallB R s args own index y bytes maxL ret ws rm mc ms n) (hM : vx_Met l y ws rm Pc Qc XC mc ms free) (hbl : FrameBlind Pc) : vx_Back l R p e below s args y 3 8 (PreOf R mc ms Pc) (PostOf Qc mc ms free) (vx_Post XC mc ms free) := by
  obtain ⟨hrc, hrs, hfr, hlo, hws, hcw, -, hini, -⟩ := cb
  exact vx_back (bytes := bytes) (maxL := maxL) (ret := ret) hM hbl hrc hrs hfr hlo hws hcw (fun a' U hW => word_at hW (Or.inl (by first | rfl | simp [Cond.onTables, Cond.keeps, Cond.steady])) hini)
theorem vx_runV (S : CallFix p m c cc nL s args Ts own) (hM : vx_Met l y ws rm Pc Qc XC mc ms free) (cw : CallW R s args own C index y bytes maxL ret ws rm mc ms n) (hp : PreV s H C b Pc As)
    (hg : g.method = m) (hn : As.length = n) (hsize : g.locals.size = nL) (hstack : g.stack = As.reverse ++ .ref b :: rest) (hW : 2 * g.monitorRoom + (rest.map fun v => v.category).sum ≤ 8) (hdg : decode cc g.pc = .ok (.invokevirtual index, 3)) (hf : cells + mc ≤ R.cells ∧ slots + ms ≤ R.slots) :
    vx_Run p l e R s m args below meth c H locs cells slots mc ms g rest (Qc (Value.ref b :: As).toArray) XC free := by
  have hK : vx_Back l R p e below s args y 3 8 (PreOf R mc ms Pc) (PostOf Qc mc ms free) (vx_Post XC mc ms free) := vx_callBack cw.1 hM hp.1
  obtain ⟨⟨-, -, -, -, -, -, hcode, -, hy, hlen, hl⟩, hin, hse⟩ := cw
  obtain ⟨hx, hb, hml, ho, -⟩ := S
  obtain ⟨-, ⟨cellB, hcB, hoB, hclB⟩, hPc⟩ := hp
  intro T hT X
  rcases vx_callV X hx (C := C) (bytes := bytes) (maxL := maxL) (ret := ret) ho hl hin hse hcode hy hK (by rw [hT]; exact hcB) hoB hclB hg (hsize.trans hml.symm) (argsL := As) (rest := rest) (fun sig h => hn.trans (hlen sig h)) hstack hW (by rw [hb]; exact hdg)
    (fun vm₁ hW₁ => ⟨hf.1, hf.2, hPc (T.setVm vm₁) hT hW₁⟩) with ⟨v, vm₁, ⟨U', l2, c2, s2⟩, hW₁, X', ⟨g', mk, t, L, e1, e2, hq, h1, hL, h2, h3⟩, st⟩ | ⟨q, vm₁, ⟨U', l2, c2, s2⟩, hW₁, X', ⟨g', mk, t, L, E, ce, e1, e2, hq, hce, hcv, hcl, h1, hL, h2, h3⟩, st⟩
  · dsimp only [Pt.U, Pt.locs, Pt.cells, Pt.slots] at X' e1 e2 h1 h2 h3 st
    subst h1; subst h2; subst h3
    exact Or.inl ⟨v, (T.setVm vm₁).calling g' mk (Value.ref b :: As).toArray, t, U', L, hT, X', hL, e1, e2, hq, st⟩
  · dsimp only [Pt.U, Pt.locs, Pt.cells, Pt.slots] at X' e1 e2 h1 h2 h3 st hcl
    subst h1; subst h2; subst h3
    exact Or.inr ⟨q, (T.setVm vm₁).calling g' mk (Value.ref b :: As).toArray, t, U', L, E, ce, hT, X', hL, e1, e2, hq, hce, hcv, vx_cls hW₁ hcl, st⟩
theorem vx_runS (S : CallFix p m c cc nL s args Ts own) (hM : vx_Met l y ws rm Pc Qc XC mc ms free) (cw : CallB R s args own index y bytes maxL ret ws rm mc ms n ∧ (Cond.static y).before args s = true) (hp : PreS s H Pc As)
    (hg : g.method = m) (hn : As.length = n) (hsize : g.locals.size = nL) (hstack : g.stack = As.reverse ++ rest) (hW : 2 * g.monitorRoom + (rest.map fun v => v.category).sum ≤ 8) (hdg : decode cc g.pc = .ok (.invokestatic index, 3)) (hf : cells + mc ≤ R.cells ∧ slots + ms ≤ R.slots) :
    vx_Run p l e R s m args below meth c H locs cells slots mc ms g rest (Qc As.toArray) XC free := by
  have hK : vx_Back l R p e below s args y 3 8 (PreOf R mc ms Pc) (PostOf Qc mc ms free) (vx_Post XC mc ms free) := vx_callBack cw.1 hM hp.1
  obtain ⟨⟨-, -, -, -, -, -, hcode, hini, hy, hlen, hl⟩, hstt⟩ := cw
  obtain ⟨hx, hb, hml, ho, -⟩ := S
  intro T hT X
  rcases vx_callS X hx (bytes := bytes) (maxL := maxL) (ret := ret) ho hl hstt hini hcode hy hK hg (hsize.trans hml.symm) (argsL := As) (rest := rest) (fun sig h => hn.trans (hlen sig h)) hstack hW (by rw [hb]; exact hdg)
    (fun vm₁ hW₁ => ⟨hf.1, hf.2, hp.2 (T.setVm vm₁) hT hW₁⟩) with ⟨v, vm₁, ⟨U', l2, c2, s2⟩, hW₁, X', ⟨g', mk, t, L, e1, e2, hq, h1, hL, h2, h3⟩, st⟩ | ⟨q, vm₁, ⟨U', l2, c2, s2⟩, hW₁, X', ⟨g', mk, t, L, E, ce, e1, e2, hq, hce, hcv, hcl, h1, hL, h2, h3⟩, st⟩
  · dsimp only [Pt.U, Pt.locs, Pt.cells, Pt.slots] at X' e1 e2 h1 h2 h3 st
    subst h1; subst h2; subst h3
    exact Or.inl ⟨v, (T.setVm vm₁).calling g' mk As.toArray, t, U', L, hT, X', hL, e1, e2, hq, st⟩
  · dsimp only [Pt.U, Pt.locs, Pt.cells, Pt.slots] at X' e1 e2 h1 h2 h3 st hcl
    subst h1; subst h2; subst h3
    exact Or.inr ⟨q, (T.setVm vm₁).calling g' mk As.toArray, t, U', L, E, ce, hT, X', hL, e1, e2, hq, hce, hcv, vx_cls hW₁ hcl, st⟩
end Runs
section Rows
variable {p : Program} {l : Launch} {e : Env} {R : Room} {s : State} {m : MethodId} {args : Array Value} {below : List Frame} {meth : Method} {c : Code} {H : Heap} {locs : List Loc} {cells slots : Nat} {Q : State → Prop}
variable {mc ms : Nat} {free : Addr → Prop} {A0 A1 : Nat → Prop} {H0 : Heap} {a : Array Value} {pc : Nat} {ls : Array Slot} {st0 rest : List Value}
theorem vx_keep {st₀ t T' : State} {L : List Loc} (h0 : st₀.heap = H) (e1 : T'.heap = t.heap) (hS : va_S A0 H0 H locs) (hA : ∀ q, q < H.size → A1 q → A0 q) (hf : ∀ q, free q → A0 q) (hL : ∀ q ∈ L, free q.base) (hF : va_F A1 st₀ t) :
    H.size ≤ T'.heap.size ∧ (∀ q : Nat, q < H.size → ¬ A1 q → T'.heap[q]? = H[q]?) ∧ va_S A0 H0 T'.heap (locs ++ L) := by
  obtain ⟨hz, hk⟩ := hF
  rw [h0] at hz hk
  exact ⟨by rw [e1]; exact hz, fun q h1 h2 => by rw [e1]; exact hk q h1 h2,
    ⟨Nat.le_trans hS.1 (by rw [e1]; exact hz), fun q h1 h2 => by rw [e1, hk q (Nat.lt_of_lt_of_le h1 hS.1) (fun z => h2 (hA q (Nat.lt_of_lt_of_le h1 hS.1) z))]; exact hS.2.1 q h1 h2, fun q hq => by
      rcases List.mem_append.mp hq with h | h
      · exact hS.2.2 q h
      · exact hf _ (hL q h)⟩⟩
theorem vx_calli {S SX : Type} {post : Int32 → S → Prop} {px : SX → Prop} {B : S → State → Prop} {BX : String → SX → State → Prop} {AX : Nat → Prop} (hr : vx_Run p l e R s m args below meth c H locs cells slots mc ms (F0 m pc ls st0) rest (va_Qi post B A1 a) (vx_X px BX AX) free) (hS : va_S A0 H0 H locs) (hA : ∀ q, q < H.size → A1 q → A0 q) (hf : ∀ q, free q → A0 q) (hAX : ∀ q, q < H.size → AX q → A0 q)
    (kx : ∀ (E : String) (ce : Cell) (q9 : Addr) (u : SX) (t : State) (H1 : Heap) (locs1 : List Loc), t.heap = H1 → s.vm.Alike t.vm → px u → BX E u t → H.size ≤ H1.size → (∀ q : Nat, q < H.size → ¬ AX q → H1[q]? = H[q]?) → va_S A0 H0 H1 locs1 → H1[q9]? = some ce → ce.vm = .none → s.vm.findClass E = some ce.cls → vx_W p l e R s m args below meth c H1 locs1 (cells + mc) (slots + ms) Q (F0 m pc ls rest) q9)
    (kk : ∀ (r : Int32) (u : S) (t : State) (H1 : Heap) (locs1 : List Loc), t.heap = H1 → s.vm.Alike t.vm → post r u → B u t → H.size ≤ H1.size → (∀ q : Nat, q < H.size → ¬ A1 q → H1[q]? = H[q]?) → va_S A0 H0 H1 locs1 → W p l e R s m args below meth c H1 locs1 (cells + mc) (slots + ms) Q (F0 m (pc + 3) ls (.int r :: rest))) : W p l e R s m args below meth c H locs cells slots Q (F0 m pc ls st0) := by
  intro T hT X
  rcases hr T hT X with ⟨v, st₀, t, T', L, h0, X', hL, e1, e2, ⟨⟨r, u, hv, hp, hb⟩, hF⟩, st⟩ | ⟨q, st₀, t, T', L, E, ce, h0, X', hL, e1, e2, ⟨u, hp, hb, hF⟩, hce, hcv, hcl, st⟩
  · cases hv
    obtain ⟨k1, k2, k3⟩ := vx_keep h0 e1 hS hA hf hL hF
    obtain ⟨t2, a1, b1⟩ := kk r u t T'.heap (locs ++ L) e1.symm (by rw [← e2]; exact X'.warmed.alike) hp hb k1 k2 k3 T' rfl X'
    exact ⟨t2, st t2 a1, b1⟩
  · obtain ⟨k1, k2, k3⟩ := vx_keep h0 e1 hS hAX hf hL hF
    obtain ⟨t2, a1, b1⟩ := kx E ce q u t T'.heap (locs ++ L) e1.symm (by rw [← e2]; exact X'.warmed.alike) hp hb k1 k2 k3 (by rw [e1]; exact hce) hcv hcl T' rfl X'
    exact ⟨t2, st.trans a1, b1⟩
theorem vx_calll {S SX : Type} {post : Int64 → S → Prop} {px : SX → Prop} {B : S → State → Prop} {BX : String → SX → State → Prop} {AX : Nat → Prop} (hr : vx_Run p l e R s m args below meth c H locs cells slots mc ms (F0 m pc ls st0) rest (va_Ql post B A1 a) (vx_X px BX AX) free) (hS : va_S A0 H0 H locs) (hA : ∀ q, q < H.size → A1 q → A0 q) (hf : ∀ q, free q → A0 q) (hAX : ∀ q, q < H.size → AX q → A0 q)
    (kx : ∀ (E : String) (ce : Cell) (q9 : Addr) (u : SX) (t : State) (H1 : Heap) (locs1 : List Loc), t.heap = H1 → s.vm.Alike t.vm → px u → BX E u t → H.size ≤ H1.size → (∀ q : Nat, q < H.size → ¬ AX q → H1[q]? = H[q]?) → va_S A0 H0 H1 locs1 → H1[q9]? = some ce → ce.vm = .none → s.vm.findClass E = some ce.cls → vx_W p l e R s m args below meth c H1 locs1 (cells + mc) (slots + ms) Q (F0 m pc ls rest) q9)
    (kk : ∀ (r : Int64) (u : S) (t : State) (H1 : Heap) (locs1 : List Loc), t.heap = H1 → s.vm.Alike t.vm → post r u → B u t → H.size ≤ H1.size → (∀ q : Nat, q < H.size → ¬ A1 q → H1[q]? = H[q]?) → va_S A0 H0 H1 locs1 → W p l e R s m args below meth c H1 locs1 (cells + mc) (slots + ms) Q (F0 m (pc + 3) ls (.long r :: rest))) : W p l e R s m args below meth c H locs cells slots Q (F0 m pc ls st0) := by
  intro T hT X
  rcases hr T hT X with ⟨v, st₀, t, T', L, h0, X', hL, e1, e2, ⟨⟨r, u, hv, hp, hb⟩, hF⟩, st⟩ | ⟨q, st₀, t, T', L, E, ce, h0, X', hL, e1, e2, ⟨u, hp, hb, hF⟩, hce, hcv, hcl, st⟩
  · cases hv
    obtain ⟨k1, k2, k3⟩ := vx_keep h0 e1 hS hA hf hL hF
    obtain ⟨t2, a1, b1⟩ := kk r u t T'.heap (locs ++ L) e1.symm (by rw [← e2]; exact X'.warmed.alike) hp hb k1 k2 k3 T' rfl X'
    exact ⟨t2, st t2 a1, b1⟩
  · obtain ⟨k1, k2, k3⟩ := vx_keep h0 e1 hS hAX hf hL hF
    obtain ⟨t2, a1, b1⟩ := kx E ce q u t T'.heap (locs ++ L) e1.symm (by rw [← e2]; exact X'.warmed.alike) hp hb k1 k2 k3 (by rw [e1]; exact hce) hcv hcl T' rfl X'
    exact ⟨t2, st.trans a1, b1⟩
theorem vx_callf {S SX : Type} {post : UInt32 → S → Prop} {px : SX → Prop} {B : S → State → Prop} {BX : String → SX → State → Prop} {AX : Nat → Prop} (hr : vx_Run p l e R s m args below meth c H locs cells slots mc ms (F0 m pc ls st0) rest (va_Qf post B A1 a) (vx_X px BX AX) free) (hS : va_S A0 H0 H locs) (hA : ∀ q, q < H.size → A1 q → A0 q) (hf : ∀ q, free q → A0 q) (hAX : ∀ q, q < H.size → AX q → A0 q)
    (kx : ∀ (E : String) (ce : Cell) (q9 : Addr) (u : SX) (t : State) (H1 : Heap) (locs1 : List Loc), t.heap = H1 → s.vm.Alike t.vm → px u → BX E u t → H.size ≤ H1.size → (∀ q : Nat, q < H.size → ¬ AX q → H1[q]? = H[q]?) → va_S A0 H0 H1 locs1 → H1[q9]? = some ce → ce.vm = .none → s.vm.findClass E = some ce.cls → vx_W p l e R s m args below meth c H1 locs1 (cells + mc) (slots + ms) Q (F0 m pc ls rest) q9)
    (kk : ∀ (r : UInt32) (u : S) (t : State) (H1 : Heap) (locs1 : List Loc), t.heap = H1 → s.vm.Alike t.vm → post r u → B u t → H.size ≤ H1.size → (∀ q : Nat, q < H.size → ¬ A1 q → H1[q]? = H[q]?) → va_S A0 H0 H1 locs1 → W p l e R s m args below meth c H1 locs1 (cells + mc) (slots + ms) Q (F0 m (pc + 3) ls (.float r :: rest))) : W p l e R s m args below meth c H locs cells slots Q (F0 m pc ls st0) := by
  intro T hT X
  rcases hr T hT X with ⟨v, st₀, t, T', L, h0, X', hL, e1, e2, ⟨⟨r, u, hv, hp, hb⟩, hF⟩, st⟩ | ⟨q, st₀, t, T', L, E, ce, h0, X', hL, e1, e2, ⟨u, hp, hb, hF⟩, hce, hcv, hcl, st⟩
  · cases hv
    obtain ⟨k1, k2, k3⟩ := vx_keep h0 e1 hS hA hf hL hF
    obtain ⟨t2, a1, b1⟩ := kk r u t T'.heap (locs ++ L) e1.symm (by rw [← e2]; exact X'.warmed.alike) hp hb k1 k2 k3 T' rfl X'
    exact ⟨t2, st t2 a1, b1⟩
  · obtain ⟨k1, k2, k3⟩ := vx_keep h0 e1 hS hAX hf hL hF
    obtain ⟨t2, a1, b1⟩ := kx E ce q u t T'.heap (locs ++ L) e1.symm (by rw [← e2]; exact X'.warmed.alike) hp hb k1 k2 k3 (by rw [e1]; exact hce) hcv hcl T' rfl X'
    exact ⟨t2, st.trans a1, b1⟩
theorem vx_calld {S SX : Type} {post : UInt64 → S → Prop} {px : SX → Prop} {B : S → State → Prop} {BX : String → SX → State → Prop} {AX : Nat → Prop} (hr : vx_Run p l e R s m args below meth c H locs cells slots mc ms (F0 m pc ls st0) rest (va_Qd post B A1 a) (vx_X px BX AX) free) (hS : va_S A0 H0 H locs) (hA : ∀ q, q < H.size → A1 q → A0 q) (hf : ∀ q, free q → A0 q) (hAX : ∀ q, q < H.size → AX q → A0 q)
    (kx : ∀ (E : String) (ce : Cell) (q9 : Addr) (u : SX) (t : State) (H1 : Heap) (locs1 : List Loc), t.heap = H1 → s.vm.Alike t.vm → px u → BX E u t → H.size ≤ H1.size → (∀ q : Nat, q < H.size → ¬ AX q → H1[q]? = H[q]?) → va_S A0 H0 H1 locs1 → H1[q9]? = some ce → ce.vm = .none → s.vm.findClass E = some ce.cls → vx_W p l e R s m args below meth c H1 locs1 (cells + mc) (slots + ms) Q (F0 m pc ls rest) q9)
    (kk : ∀ (r : UInt64) (u : S) (t : State) (H1 : Heap) (locs1 : List Loc), t.heap = H1 → s.vm.Alike t.vm → post r u → B u t → H.size ≤ H1.size → (∀ q : Nat, q < H.size → ¬ A1 q → H1[q]? = H[q]?) → va_S A0 H0 H1 locs1 → W p l e R s m args below meth c H1 locs1 (cells + mc) (slots + ms) Q (F0 m (pc + 3) ls (.double r :: rest))) : W p l e R s m args below meth c H locs cells slots Q (F0 m pc ls st0) := by
  intro T hT X
  rcases hr T hT X with ⟨v, st₀, t, T', L, h0, X', hL, e1, e2, ⟨⟨r, u, hv, hp, hb⟩, hF⟩, st⟩ | ⟨q, st₀, t, T', L, E, ce, h0, X', hL, e1, e2, ⟨u, hp, hb, hF⟩, hce, hcv, hcl, st⟩
  · cases hv
    obtain ⟨k1, k2, k3⟩ := vx_keep h0 e1 hS hA hf hL hF
    obtain ⟨t2, a1, b1⟩ := kk r u t T'.heap (locs ++ L) e1.symm (by rw [← e2]; exact X'.warmed.alike) hp hb k1 k2 k3 T' rfl X'
    exact ⟨t2, st t2 a1, b1⟩
  · obtain ⟨k1, k2, k3⟩ := vx_keep h0 e1 hS hAX hf hL hF
    obtain ⟨t2, a1, b1⟩ := kx E ce q u t T'.heap (locs ++ L) e1.symm (by rw [← e2]; exact X'.warmed.alike) hp hb k1 k2 k3 (by rw [e1]; exact hce) hcv hcl T' rfl X'
    exact ⟨t2, st.trans a1, b1⟩
theorem vx_callv {S SX : Type} {post : S → Prop} {px : SX → Prop} {B : S → State → Prop} {BX : String → SX → State → Prop} {AX : Nat → Prop} (hr : vx_Run p l e R s m args below meth c H locs cells slots mc ms (F0 m pc ls st0) rest (va_Qv post B A1 a) (vx_X px BX AX) free) (hS : va_S A0 H0 H locs) (hA : ∀ q, q < H.size → A1 q → A0 q) (hf : ∀ q, free q → A0 q) (hAX : ∀ q, q < H.size → AX q → A0 q)
    (kx : ∀ (E : String) (ce : Cell) (q9 : Addr) (u : SX) (t : State) (H1 : Heap) (locs1 : List Loc), t.heap = H1 → s.vm.Alike t.vm → px u → BX E u t → H.size ≤ H1.size → (∀ q : Nat, q < H.size → ¬ AX q → H1[q]? = H[q]?) → va_S A0 H0 H1 locs1 → H1[q9]? = some ce → ce.vm = .none → s.vm.findClass E = some ce.cls → vx_W p l e R s m args below meth c H1 locs1 (cells + mc) (slots + ms) Q (F0 m pc ls rest) q9)
    (kk : ∀ (u : S) (t : State) (H1 : Heap) (locs1 : List Loc), t.heap = H1 → s.vm.Alike t.vm → post u → B u t → H.size ≤ H1.size → (∀ q : Nat, q < H.size → ¬ A1 q → H1[q]? = H[q]?) → va_S A0 H0 H1 locs1 → W p l e R s m args below meth c H1 locs1 (cells + mc) (slots + ms) Q (F0 m (pc + 3) ls (rest))) : W p l e R s m args below meth c H locs cells slots Q (F0 m pc ls st0) := by
  intro T hT X
  rcases hr T hT X with ⟨v, st₀, t, T', L, h0, X', hL, e1, e2, ⟨⟨u, hv, hp, hb⟩, hF⟩, st⟩ | ⟨q, st₀, t, T', L, E, ce, h0, X', hL, e1, e2, ⟨u, hp, hb, hF⟩, hce, hcv, hcl, st⟩
  · cases hv
    obtain ⟨k1, k2, k3⟩ := vx_keep h0 e1 hS hA hf hL hF
    obtain ⟨t2, a1, b1⟩ := kk u t T'.heap (locs ++ L) e1.symm (by rw [← e2]; exact X'.warmed.alike) hp hb k1 k2 k3 T' rfl X'
    exact ⟨t2, st t2 a1, b1⟩
  · obtain ⟨k1, k2, k3⟩ := vx_keep h0 e1 hS hAX hf hL hF
    obtain ⟨t2, a1, b1⟩ := kx E ce q u t T'.heap (locs ++ L) e1.symm (by rw [← e2]; exact X'.warmed.alike) hp hb k1 k2 k3 (by rw [e1]; exact hce) hcv hcl T' rfl X'
    exact ⟨t2, st.trans a1, b1⟩
/-- caught by the row x of this method's table; the rows ahead don't take it -/
theorem vx_catch {own name : String} {E : String} {ce : Cell} {q : Addr} (hown : s.vm.findClass own = some m.cls) (pre : List ExceptionTableEntry) (x : ExceptionTableEntry) (suf : List ExceptionTableEntry) (hsplit : c.exceptionTable.toList = pre ++ x :: suf)
    (hpass : ∀ z ∈ pre, covers z pc = false ∨ (z.catchType ≠ 0 ∧ ∃ nm : String, (Cond.classLink own z.catchType nm).before args s = true ∧ va_Nc E nm s)) (hx : covers x pc = true) (h0 : x.catchType ≠ 0)
    (hlink : (Cond.classLink own x.catchType name).before args s = true) (hcast : (Cond.castable E name).before args s = true) (hcell : H[q]? = some ce) (hv : ce.vm = .none) (hcl : s.vm.findClass E = some ce.cls)
    (kk : W p l e R s m args below meth c H locs cells slots Q (F0 m x.handlerPc ls [.ref q])) : vx_W p l e R s m args below meth c H locs cells slots Q (F0 m pc ls rest) q := by
  intro T hT X
  have hpl : e.platform.magicAccessors = ({} : Platform).magicAccessors := by rw [X.admits.platform]
  obtain ⟨c3, c4, hc3, hc4, hasg⟩ := Cond.castable_spec hcast
  cases Option.some.inj (hc3.symm.trans hcl)
  obtain ⟨c5, hc5, hcl5⟩ := Cond.classLink_spec hown hlink e.platform hpl
  cases Option.some.inj (hc4.symm.trans hc5)
  obtain ⟨vm', X', st⟩ := X.thenCaughtThrough q (g := F0 m pc ls rest) rfl (Steps.refl _) (by rw [hT]; exact hcell) (by rw [hv]; rfl) (by obtain ⟨k9, h9, -⟩ := Vm.findClass_spec hcl; exact ⟨k9, h9⟩) pre x suf hsplit
    (fun z hz => by
      rcases hpass z hz with h | ⟨hz0, nm, hl1, hn1⟩
      · exact Or.inl h
      · obtain ⟨c6, hc6, hcl6⟩ := Cond.classLink_spec hown hl1 e.platform hpl
        obtain ⟨a8, b8, h1, h2, h3⟩ := hn1
        cases Option.some.inj (h1.symm.trans hcl)
        cases Option.some.inj (h2.symm.trans hc6)
        exact Or.inr ⟨hz0, _, hcl6, h3⟩) hx (Or.inr ⟨h0, c4, hcl5, hasg⟩)
  obtain ⟨t, a1, b1⟩ := kk (T.setVm vm') hT X'
  exact ⟨t, st.trans a1, b1⟩
end Rows
section Ends
variable {p : Program} {l : Launch} {e : Env} {R : Room} {s : State} {m : MethodId} {args : Array Value} {below : List Frame} {meth : Method} {c : Code} {H : Heap} {locs : List Loc} {cells slots : Nat} {Q : State → Prop}
variable {mc ms : Nat} {free : Addr → Prop} {A0 A1 : Nat → Prop} {H0 : Heap} {a : Array Value} {ls : Array Slot} {st0 rest : List Value}
variable {Qc : Array Value → State → Outcome → State → Prop} {XC : String → State → State → Prop}
/-- what a body that may throw owes at its end -/
def vx_MQ (below : List Frame) (Qc : Array Value → State → Outcome → State → Prop) (XC : String → State → State → Prop) (a : Array Value) (s : State) (mc ms : Nat) (free : Addr → Prop) : State → Prop := fun t =>
  ∃ o, t.status = .running ∧ Ended t below o ∧ vx_Q Qc XC mc ms free a s o t
theorem vx_ret {g : JFrame} {mc ms : Nat} (k : W p l e R s m args below meth c H locs cells slots (MQ below Qc args s mc ms free) g) : W p l e R s m args below meth c H locs cells slots (vx_MQ below Qc XC args s mc ms free) g := by
  intro T hT X
  obtain ⟨t, a1, o, b1, b2, b3, b4⟩ := k T hT X
  exact ⟨t, a1, o, b1, b2, Or.inl ⟨b3, b4⟩⟩
/-- not caught here: it goes on to the caller -/
theorem vx_widen {g : JFrame} {q : Addr} {k n : Nat} (h1 : cells ≤ k) (h2 : slots ≤ n) (kk : vx_W p l e R s m args below meth c H locs k n Q g q) : vx_W p l e R s m args below meth c H locs cells slots Q g q := fun T hT X => kk T hT (stand_widen X h1 h2)
theorem vx_out {pc : Nat} {E : String} {ce : Cell} {q : Addr} {mc ms : Nat} (hout : ∀ x ∈ c.exceptionTable.toList, covers x pc = false) (hlocks : meth.locks = false) (hcell : H[q]? = some ce) (hv : ce.vm = .none) (hcl : s.vm.findClass E = some ce.cls)
    (hx : ∀ t : State, t.heap = H → s.vm.Alike t.vm → XC E s t) (hf : ∀ z ∈ locs, free z.base) (hc : cells ≤ mc) (hs : slots ≤ ms) :
    vx_W p l e R s m args below meth c H locs cells slots (vx_MQ below Qc XC args s mc ms free) (F0 m pc ls rest) q := by
  intro T hT X
  obtain ⟨st1, hrun, hend, hW, hsm⟩ := X.leaveThrown q (g := F0 m pc ls rest) rfl rfl rfl hout hlocks
  have hcell9 : (T.setFrames (.throwing q :: below)).heap[q]? = some ce := by
    show T.heap[q]? = some ce
    rw [hT]; exact hcell
  exact ⟨_, st1, .threw q, hrun, hend, Or.inr ⟨q, rfl, E, ce, locs, hx _ hT hW.alike, hcell9, hv, hcl, hW, hsm.mono hc hs, hf⟩⟩
theorem vx_frame {U : State} {k n : Nat} (h : s.sameButNew ({ U with vm := s.vm } : State) locs k n) : s.heap.size ≤ U.heap.size ∧ ∀ q : Nat, q < s.heap.size → (∀ z ∈ locs, z.base ≠ q) → U.heap[q]? = s.heap[q]? := by
  obtain ⟨-, h2, -, -, -, h6⟩ := h
  refine ⟨h2, fun q hq hz => ?_⟩
  obtain ⟨c9, e1, e2, e3, e4⟩ := h6 q _ (Array.getElem?_eq_getElem hq)
  have hs : c9.slots = (s.heap[q]).slots := Array.ext_getElem? fun i => e4 i fun hm => hz _ hm rfl
  have h9 : c9 = s.heap[q] := by
    rw [hs] at e2
    exact e2
  have e5 : U.heap[q]? = some c9 := e1
  rw [e5, h9, Array.getElem?_eq_getElem hq]
/-- the words of a throw but the four that speak of the heap -/
def vx_no (w : Cond) : Bool := decide (w ≠ .isRef (.static Bundle.tN "UNASSIGNED_STACK" Bundle.steD)) && decide (w ≠ .isRef (.static Bundle.tN "SUPPRESSED_SENTINEL" Bundle.listD)) && decide (w ≠ .laysStatic Bundle.tN "UNASSIGNED_STACK" Bundle.steD) && decide (w ≠ .laysStatic Bundle.tN "SUPPRESSED_SENTINEL" Bundle.listD)
def vx_at0 (own : String) (ic : Nat) (X : String) (names : List String) : List Cond := (Bundle.ownAtoms0 own ic X names).filter vx_no
def vx_atS (own : String) (ic : Nat) (X : String) (names : List String) : List Cond := (Bundle.ownAtoms own ic X names).filter vx_no
/-- a word that the tables alone decide, or a good one -/
def vx_ot (w : Cond) : Bool := w.onTables || goodWord w
theorem vx_ot_at {args a' : Array Value} {s U : State} {w : Cond} (hW : s.WarmedH U.vm) (hvm : s.vm = U.vm) (hg : vx_ot w = true) (h : w.before args s = true) : w.before a' U = true := by
  simp only [vx_ot, Bool.or_eq_true] at hg
  rcases hg with hg | hg
  · exact va_tabs hg hvm h
  · exact word_at hW (good_of_word hg) h
/-- a list's words: the good ones out of the method's own list, the others by premises of their own -/
theorem vx_hat {args : Array Value} {s : State} {L B : List Cond} (h1 : ∀ w ∈ L.filter goodWord, w.before args s = true) (h2 : ∀ w ∈ L.filter (fun w => !goodWord w), w ∈ B) (h3 : ∀ w ∈ B, w.before args s = true) : ∀ w ∈ L, w.before args s = true := by
  intro w hw
  by_cases g : goodWord w = true
  · exact h1 w (List.mem_filter.mpr ⟨hw, g⟩)
  · refine h3 w (h2 w (List.mem_filter.mpr ⟨hw, ?_⟩))
    show (!goodWord w) = true
    cases hgw : goodWord w
    · rfl
    · exact absurd hgw g
theorem vx_c {args : Array Value} {s : State} {w : Cond} {B : List Cond} (h : w.before args s = true) (t : ∀ w ∈ B, w.before args s = true) : ∀ w' ∈ w :: B, w'.before args s = true := fun w' h' => (List.mem_cons.mp h').elim (fun e => by rw [e]; exact h) (t w')
theorem vx_n {args : Array Value} {s : State} : ∀ w ∈ ([] : List Cond), w.before args s = true := fun _ h => nomatch h
theorem vx_own {args : Array Value} {s : State} {L : List Cond} (h1 : ∀ w ∈ L.filter vx_no, w.before args s = true)
    (hU : (Cond.isRef (.static Bundle.tN "UNASSIGNED_STACK" Bundle.steD)).before args s = true) (hN : (Cond.isRef (.static Bundle.tN "SUPPRESSED_SENTINEL" Bundle.listD)).before args s = true)
    (lU : (Cond.laysStatic Bundle.tN "UNASSIGNED_STACK" Bundle.steD).before args s = true) (lN : (Cond.laysStatic Bundle.tN "SUPPRESSED_SENTINEL" Bundle.listD).before args s = true) : ∀ w ∈ L, w.before args s = true := by
  intro w hw
  by_cases e1 : w = .isRef (.static Bundle.tN "UNASSIGNED_STACK" Bundle.steD)
  · rw [e1]; exact hU
  · by_cases e2 : w = .isRef (.static Bundle.tN "SUPPRESSED_SENTINEL" Bundle.listD)
    · rw [e2]; exact hN
    · by_cases e3 : w = .laysStatic Bundle.tN "UNASSIGNED_STACK" Bundle.steD
      · rw [e3]; exact lU
      · by_cases e4 : w = .laysStatic Bundle.tN "SUPPRESSED_SENTINEL" Bundle.listD
        · rw [e4]; exact lN
        · exact h1 w (List.mem_filter.mpr ⟨hw, by unfold vx_no; rw [decide_eq_true e1, decide_eq_true e2, decide_eq_true e3, decide_eq_true e4]; rfl⟩)
/-- where a static field lies, its class's statics cell in H -/
def vx_L (C n d : String) (A : Nat → Prop) (U : State) (H : Heap) : Prop := ∃ (c : ClassId) (k : Class) (i : Nat) (f : Field) (a : Nat) (cell : Cell), U.vm.findClass C = some c ∧ U.fieldFound? C n d = some (c, k, i, f) ∧ f.isStatic = true ∧ k.statics = some a ∧ H[a]? = some cell ∧ cell.vm.isStatics = true ∧ cell.cls = c ∧ f.slot < cell.slots.size ∧ k.staticTypes[f.slot]? = some f.type ∧ ¬ A a
theorem vx_L.moved {C n d : String} {A : Nat → Prop} {u U : State} {H : Heap} (hvm : u.vm.Alike U.vm) (h : vx_L C n d A u H) : vx_L C n d A U H := by
  obtain ⟨c, k, i, f, a, cell, h1, h2, h3, h4, h5, h6, h7, h8, h9, h10⟩ := h
  obtain ⟨k', hi', he⟩ := State.fieldFound?_setVm hvm h2
  exact ⟨c, k', i, f, a, cell, by rw [hvm.findClass]; exact h1, hi', h3, by rw [he]; exact h4, h5, h6, h7, h8, by rw [he]; exact h9, h10⟩
theorem vx_L.kept {C n d : String} {A : Nat → Prop} {U : State} {H H1 : Heap} (h : vx_L C n d A U H) (hq : ∀ a : Nat, a < H.size → ¬ A a → H1[a]? = H[a]?) : vx_L C n d A U H1 := by
  obtain ⟨c, k, i, f, a, cell, h1, h2, h3, h4, h5, h6, h7, h8, h9, h10⟩ := h
  exact ⟨c, k, i, f, a, cell, h1, h2, h3, h4, by rw [hq a (Array.getElem?_eq_some_iff.mp h5).1 h10]; exact h5, h6, h7, h8, h9, h10⟩
theorem vx_L.narrow {C n d : String} {A B : Nat → Prop} {U : State} {H : Heap} (h : vx_L C n d A U H) (hAB : ∀ q, B q → A q) : vx_L C n d B U H := by
  obtain ⟨c, k, i, f, a, cell, h1, h2, h3, h4, h5, h6, h7, h8, h9, h10⟩ := h
  exact ⟨c, k, i, f, a, cell, h1, h2, h3, h4, h5, h6, h7, h8, h9, fun z => h10 (hAB _ z)⟩
theorem vx_L.word {C n d : String} {A : Nat → Prop} {s : State} {args : Array Value} (h : vx_L C n d A s s.heap) : (Cond.laysStatic C n d).before args s = true := by
  obtain ⟨c, k, i, f, a, cell, h1, h2, h3, h4, h5, h6, h7, h8, h9, -⟩ := h
  show (Cond.laysStatic C n d).holds args s none s [] = true
  exact Cond.laysStatic_of h1 h2 h3 h4 h5 h6 h7 h8 h9
/-- .. and what it holds: null or some reference -/
def vx_Zq (C n d : String) (A : Nat → Prop) (U : State) (H : Heap) : Prop := va_Zq C n d A U H ∧ vx_L C n d A U H
theorem vx_Zq.moved {C n d : String} {A : Nat → Prop} {u U : State} {H : Heap} (hvm : u.vm.Alike U.vm) (h : vx_Zq C n d A u H) : vx_Zq C n d A U H := ⟨va_Zq.moved hvm h.1, vx_L.moved hvm h.2⟩
theorem vx_Zq.kept {C n d : String} {A : Nat → Prop} {U : State} {H H1 : Heap} (h : vx_Zq C n d A U H) (hq : ∀ a : Nat, a < H.size → ¬ A a → H1[a]? = H[a]?) : vx_Zq C n d A U H1 := ⟨va_Zq.kept h.1 hq, vx_L.kept h.2 hq⟩
theorem vx_Zq.narrow {C n d : String} {A B : Nat → Prop} {U : State} {H : Heap} (h : vx_Zq C n d A U H) (hAB : ∀ q, B q → A q) : vx_Zq C n d B U H := ⟨va_Zq.narrow h.1 hAB, vx_L.narrow h.2 hAB⟩
theorem vx_Zqof {args : Array Value} {s : State} {C n d : String} {A : Nat → Prop} (hl : (Cond.laysStatic C n d).before args s = true) (hini : (Cond.initialized C).before args s = true) (h : (Cond.isRef (.static C n d)).before args s = true) (hA : ∀ a : Nat, a < s.heap.size → ¬ A a) : vx_Zq C n d A s s.heap := by
  refine ⟨va_Zqof hl hini h hA, ?_⟩
  obtain ⟨c, k, i, f, a, cell, h1, h2, h3, h4, h5, h6, h7, h8, h9⟩ := Cond.laysStatic_spec hl
  exact ⟨c, k, i, f, a, cell, h1, h2, h3, h4, h5, h6, h7, h8, h9, hA a (Array.getElem?_eq_some_iff.mp h5).1⟩
theorem vx_isRef {C n d : String} {v : Value} {A : Nat → Prop} {s : State} {args : Array Value} (h : va_Z C n d v A s s.heap) (hv : v.isRef = true) : (Cond.isRef (.static C n d)).before args s = true := by
  obtain ⟨cf, kf, fi, f, a, cell, h1, h2, h3, h4, h5, h6, h7, -⟩ := h
  have he : (Term.static C n d).eval args s none [] s = some v := by
    simp [Term.eval, State.fieldNamed?, h1, h2, h4, h5, h6, h7]
  simp only [Cond.before, Cond.holds, Cond.value, he]
  cases v <;> simp_all [Value.isRef]
theorem vx_isRefq {C n d : String} {A : Nat → Prop} {s : State} {args : Array Value} (h : va_Zq C n d A s s.heap) : (Cond.isRef (.static C n d)).before args s = true := by
  rcases h with h | ⟨t, h⟩
  · exact vx_isRef h rfl
  · exact vx_isRef h rfl
/-- the same frame, seen from here: as if the method were called anew in this heap -/
theorem vx_rebase {T : State} (X : Stand p l e R s m args below meth c T locs cells slots) {R' : Room} (hf : R'.frames ≤ R.frames) (hl : R'.locals ≤ R.locals) (hc : cells + R'.cells ≤ R.cells) (hs : slots + R'.slots ≤ R.slots) :
    Stand p l e R' ((T.setVm s.vm).setFrames (.invoking m args :: below)) m args below meth c T [] 0 0 := by
  have htop : (T.setVm s.vm).topJava?.isSome := X.here.top
  have hF : ((T.setVm s.vm).setFrames (.invoking m args :: below)).frames = .invoking m args :: below := State.frames_setFrames _ (State.cur_lt_of_top htop)
  obtain ⟨g₀, hg0⟩ := Option.isSome_iff_exists.mp htop
  obtain ⟨r, hr⟩ := State.topJava?_eq_some.mp hg0
  have hl9 : e.platform.stackLimits (T.setVm s.vm).me = e.platform.stackLimits s.me := X.limits
  have hb9 : (T.setVm s.vm).me.stackBytes = s.me.stackBytes := X.bytes
  refine ⟨X.admits, X.cas, X.clock, hF, ?_, X.hears, X.method, X.code, X.here, X.tail, X.warmed, ?_, ?_, ?_⟩
  · have h := X.room
    have hU : ((T.setVm s.vm).setFrames (.invoking m args :: below)).localsInUse = s.localsInUse := by
      rw [State.localsInUse_invoking hF (meth := meth) (c := c) X.method X.code, State.localsInUse_invoking X.frames X.method X.code]
    simp only [State.hasRoom, Bool.and_eq_true, decide_eq_true_eq] at h ⊢
    obtain ⟨⟨⟨⟨h1, h2, h3, h4, h5, h6⟩, h7⟩, h8⟩, h9⟩ := h
    rw [X.frames, List.length_cons] at h2 h3
    have q1 := X.heapSize
    have q2 := X.used
    simp only [hF, hU, List.length_cons, State.stackLimits_setFrames, State.stackBytes_setFrames, hl9, hb9]
    refine ⟨⟨⟨⟨by omega, by omega, by omega, by omega, by omega, h6⟩, ?_⟩, ?_⟩, X.book⟩
    · show T.heap.size + R'.cells ≤ e.platform.maxCells
      omega
    · show T.slotsUsed + R'.slots ≤ e.platform.maxSlots
      omega
  · rw [State.stackLimits_setFrames]; rfl
  · rw [State.stackBytes_setFrames]; rfl
  · refine ⟨?_, Nat.le_refl _, Nat.le_refl _, ?_, ?_, fun a c9 h9 => ⟨c9, h9, rfl, rfl, fun _ _ => rfl⟩⟩
    · obtain ⟨t, ht, -⟩ := State.frames_cons hr
      show T.setVm s.vm = { ((T.setVm s.vm).setFrames (.invoking m args :: below)).setFrames (T.setVm s.vm).frames with heap := T.heap, slotsUsed := T.slotsUsed }
      rw [State.setFrames_setFrames, State.setFrames_self ht]
      rfl
    · show T.slotsUsed = T.slotsUsed + ((T.heap.toList.drop T.heap.size).map (·.slots.size)).sum
      rw [List.drop_eq_nil_of_le (Nat.le_of_eq Array.length_toList)]
      rfl
    · show ((T.heap.toList.drop T.heap.size).map (·.slots.size)).sum ≤ 0
      rw [List.drop_eq_nil_of_le (Nat.le_of_eq Array.length_toList)]
      exact Nat.le_refl _
/-- 'throw new E()': new; dup; invokespecial; athrow -/
theorem vx_throw0 {cc : ByteArray} {pc : Nat} (hexec : p.tables.exec = Jvm.exec) (hb : c.code = cc) (hl : l.stackTraces = false) {own cls : String} {names : List String} {ik ic mc ms : Nat} {A : Nat → Prop}
    (hown : s.vm.findClass own = some m.cls) (hcls : Bundle.fit cls = true) (hnames : ∀ n ∈ names, Bundle.fit n = true)
    (hk : (Cond.classLink own ik cls).before args s = true) (hini : (Cond.initialized cls).before args s = true) (hat : ∀ w ∈ vx_at0 own ic cls names, w.before args s = true)
    (hgood : ∀ w ∈ Cond.classLink own ik cls :: Cond.initialized cls :: vx_at0 own ic cls names, vx_ot w = true)
    (hU : vx_Zq Bundle.tN "UNASSIGNED_STACK" Bundle.steD A s s.heap) (hN : vx_Zq Bundle.tN "SUPPRESSED_SENTINEL" Bundle.listD A s s.heap) (hS : va_S A s.heap H locs) (hsize : ls.size = c.maxLocals)
    (d0 : decode cc pc = .ok (.new ik, 3)) (d3 : decode cc (pc + 3) = .ok (.dup, 1)) (d4 : decode cc (pc + 4) = .ok (.invokespecial ic, 3)) (d7 : decode cc (pc + 7) = .ok (.athrow, 1))
    (hout : ∀ x ∈ c.exceptionTable.toList, covers x (pc + 7) = false)
    (hRframes : names.length + 3 < R.frames) (hRlocals : (rest.map fun v => v.category).sum + (13 * (names.length + 1) + 42) ≤ R.locals) (hRcells : cells + 1 ≤ R.cells) (hRslots : slots + 6 ≤ R.slots) (hlocks : meth.locks = false)
    (hx : ∀ t : State, s.vm.Alike t.vm → H.size ≤ t.heap.size → (∀ q : Nat, q < H.size → t.heap[q]? = H[q]?) → XC cls s t)
    (hf : ∀ z ∈ locs, free z.base) (hc : cells + 1 ≤ mc) (hs : slots + 6 ≤ ms) :
    W p l e R s m args below meth c H locs cells slots (vx_MQ below Qc XC args s mc ms free) (F0 m pc ls rest) := by
  intro T hT X
  have htr : e.platform.stackTraces = false := (show e.platform.stackTraces = l.stackTraces by rw [X.admits.platform]).trans hl
  have Y := vx_rebase X (R' := { frames := R.frames, locals := R.locals, cells := 1, slots := 6 }) (Nat.le_refl _) (Nat.le_refl _) hRcells hRslots
  obtain ⟨s', hA⟩ : ∃ z, z = (T.setVm s.vm).setFrames (.invoking m args :: below) := ⟨_, rfl⟩
  rw [← hA] at Y
  have hvm : s'.vm = s.vm := by rw [hA]; rfl
  have hhp : s'.heap = H := by rw [hA]; exact hT
  have hW0 : s.WarmedH s'.vm := by rw [hvm]; exact State.WarmedH.refl s
  have hat' : ∀ w ∈ vx_at0 own ic cls names, w.before args s' = true := fun w hw => vx_ot_at hW0 hvm.symm (hgood w (List.mem_cons_of_mem _ (List.mem_cons_of_mem _ hw))) (hat w hw)
  have hk' : (Cond.classLink own ik cls).before args s' = true := vx_ot_at hW0 hvm.symm (hgood _ List.mem_cons_self) hk
  have hini' : (Cond.initialized cls).before args s' = true := vx_ot_at hW0 hvm.symm (hgood _ (List.mem_cons_of_mem _ List.mem_cons_self)) hini
  have hU' : vx_Zq Bundle.tN "UNASSIGNED_STACK" Bundle.steD A s' s'.heap := by rw [hhp]; exact vx_Zq.moved hW0.alike (hU.kept hS.2.1)
  have hN' : vx_Zq Bundle.tN "SUPPRESSED_SENTINEL" Bundle.listD A s' s'.heap := by rw [hhp]; exact vx_Zq.moved hW0.alike (hN.kept hS.2.1)
  have h : ∀ w ∈ Bundle.ownAtoms0 own ic cls names, w.before args s' = true := vx_own hat' (vx_isRefq hU'.1) (vx_isRefq hN'.1) hU'.2.word hN'.2.word
  have hown' : s'.vm.findClass own = some m.cls := by rw [hvm]; exact hown
  have hins : (Cond.instantiable cls 6).before args s' = true := h _ (by simp [Bundle.ownAtoms0])
  obtain ⟨vm₁, cX, kX, hfX, hkX, -, -, X₁, st1⟩ := Y.newCold hexec (own := own) (C := cls) (index := ik) (n := 6) hown' hk' hins hini'
    (g := F0 m pc ls rest) rfl (by rw [hb]; exact d0) (Nat.le_refl _) (Nat.le_refl _)
  generalize hT1 : (T.setVm vm₁).pushCell { cls := cX, slots := kX.instanceTypes.map defaultValue, vm := .none } = T1 at X₁ st1
  have hcat : (Value.ref T.heap.size).category = 1 := rfl
  have hcellA : T1.heap[T.heap.size]? = some (freshCell cX kX) := by rw [← hT1]; exact State.heap_pushCell_size _ _
  have d3' : decode c.code (pc + 3) = .ok (.dup, 1) := by rw [hb]; exact d3
  obtain ⟨U, hsteps, hrun, hend, hW, hsame, ce, hce, hO⟩ := X₁.ctorThrow0 hexec htr (own := own) (cls := cls) (names := names) (ic := ic) hown' hcls hnames h (fun x hx => nomatch hx) hfX hkX hcellA (by rw [hhp, hT]; exact Nat.le_refl _)
    (g := { method := m, pc := pc + 4, locals := ls, stack := .ref T.heap.size :: .ref T.heap.size :: rest, locked := none }) rfl hsize rfl rfl (rest := rest) rfl
    (by rw [hb]; exact d4) (by rw [hb]; exact d7) hout hRframes (by simp only [List.map_cons, List.sum_cons, hcat]; omega) hlocks
  obtain ⟨f1, f2⟩ := vx_frame hsame
  rw [hhp] at f1 f2
  have hWs : s.WarmedH U.vm := State.WarmedH.trans hW0 hW
  have hcl : s.vm.findClass cls = some ce.cls := by
    have h9 := hO.cls
    rw [hvm] at h9
    exact h9
  have hall : s.sameButNew ({ U with vm := s.vm } : State) locs mc ms := by
    subst hA
    obtain ⟨e1, e2⟩ := hsame
    rw [State.setFrames_setFrames] at e1
    have h2 : (T.setVm s.vm).sameButNew ({ U with vm := s.vm } : State) [] (0 + 1) (0 + 6) := ⟨e1, e2⟩
    have h3 := X.same.trans h2
    rw [List.append_nil] at h3
    exact h3.mono hc hs
  refine ⟨U, ?_, .threw T.heap.size, hrun, hend, Or.inr ⟨T.heap.size, rfl, cls, ce, locs, hx U hWs.alike f1 (fun q hq => f2 q hq (fun z hz => nomatch hz)), hce, hO.vm, hcl, hWs, hall, hf⟩⟩
  refine st1 _ ?_
  show Steps p.tables e below (T1.setTop { method := m, pc := pc + 3, locals := ls, stack := .ref T.heap.size :: rest, locked := none }) _
  jvm_step X₁.here [X₁.here.top, hexec, d3', Value.category]
  exact hsteps
/-- 'throw new E("text")': new; dup; ldc; invokespecial; athrow -/
theorem vx_throwS {cc : ByteArray} {pc : Nat} (hexec : p.tables.exec = Jvm.exec) (hb : c.code = cc) (hl : l.stackTraces = false) {own cls text : String} {names : List String} {ik is ic mc ms sa : Nat} {A : Nat → Prop}
    (hown : s.vm.findClass own = some m.cls) (hcls : Bundle.fit cls = true) (hnames : ∀ n ∈ names, Bundle.fit n = true)
    (hk : (Cond.classLink own ik cls).before args s = true) (hini : (Cond.initialized cls).before args s = true) (hstr : vk_R own is text sa s) (hat : ∀ w ∈ vx_atS own ic cls names, w.before args s = true)
    (hgood : ∀ w ∈ Cond.classLink own ik cls :: Cond.initialized cls :: vx_atS own ic cls names, vx_ot w = true)
    (hU : vx_Zq Bundle.tN "UNASSIGNED_STACK" Bundle.steD A s s.heap) (hN : vx_Zq Bundle.tN "SUPPRESSED_SENTINEL" Bundle.listD A s s.heap) (hS : va_S A s.heap H locs) (hsize : ls.size = c.maxLocals)
    (d0 : decode cc pc = .ok (.new ik, 3)) (d3 : decode cc (pc + 3) = .ok (.dup, 1)) (d4 : decode cc (pc + 4) = .ok (.ldc is, 2)) (d6 : decode cc (pc + 6) = .ok (.invokespecial ic, 3)) (d9 : decode cc (pc + 9) = .ok (.athrow, 1))
    (hout : ∀ x ∈ c.exceptionTable.toList, covers x (pc + 9) = false)
    (hRframes : names.length + 3 < R.frames) (hRlocals : (rest.map fun v => v.category).sum + (13 * (names.length + 1) + 43) ≤ R.locals) (hRcells : cells + 1 ≤ R.cells) (hRslots : slots + 6 ≤ R.slots) (hlocks : meth.locks = false)
    (hx : ∀ t : State, s.vm.Alike t.vm → H.size ≤ t.heap.size → (∀ q : Nat, q < H.size → t.heap[q]? = H[q]?) → XC cls s t)
    (hf : ∀ z ∈ locs, free z.base) (hc : cells + 1 ≤ mc) (hs : slots + 6 ≤ ms) :
    W p l e R s m args below meth c H locs cells slots (vx_MQ below Qc XC args s mc ms free) (F0 m pc ls rest) := by
  intro T hT X
  have htr : e.platform.stackTraces = false := (show e.platform.stackTraces = l.stackTraces by rw [X.admits.platform]).trans hl
  have Y := vx_rebase X (R' := { frames := R.frames, locals := R.locals, cells := 1, slots := 6 }) (Nat.le_refl _) (Nat.le_refl _) hRcells hRslots
  obtain ⟨s', hA⟩ : ∃ z, z = (T.setVm s.vm).setFrames (.invoking m args :: below) := ⟨_, rfl⟩
  rw [← hA] at Y
  have hvm : s'.vm = s.vm := by rw [hA]; rfl
  have hhp : s'.heap = H := by rw [hA]; exact hT
  have hW0 : s.WarmedH s'.vm := by rw [hvm]; exact State.WarmedH.refl s
  have hat' : ∀ w ∈ vx_atS own ic cls names, w.before args s' = true := fun w hw => vx_ot_at hW0 hvm.symm (hgood w (List.mem_cons_of_mem _ (List.mem_cons_of_mem _ hw))) (hat w hw)
  have hk' : (Cond.classLink own ik cls).before args s' = true := vx_ot_at hW0 hvm.symm (hgood _ List.mem_cons_self) hk
  have hini' : (Cond.initialized cls).before args s' = true := vx_ot_at hW0 hvm.symm (hgood _ (List.mem_cons_of_mem _ List.mem_cons_self)) hini
  have hU' : vx_Zq Bundle.tN "UNASSIGNED_STACK" Bundle.steD A s' s'.heap := by rw [hhp]; exact vx_Zq.moved hW0.alike (hU.kept hS.2.1)
  have hN' : vx_Zq Bundle.tN "SUPPRESSED_SENTINEL" Bundle.listD A s' s'.heap := by rw [hhp]; exact vx_Zq.moved hW0.alike (hN.kept hS.2.1)
  have h : ∀ w ∈ Bundle.ownAtoms own ic cls names, w.before args s' = true := vx_own hat' (vx_isRefq hU'.1) (vx_isRefq hN'.1) hU'.2.word hN'.2.word
  have hown' : s'.vm.findClass own = some m.cls := by rw [hvm]; exact hown
  have hins : (Cond.instantiable cls 6).before args s' = true := h _ (by simp [Bundle.ownAtoms])
  obtain ⟨vm₁, cX, kX, hfX, hkX, -, -, X₁, st1⟩ := Y.newCold hexec (own := own) (C := cls) (index := ik) (n := 6) hown' hk' hins hini'
    (g := F0 m pc ls rest) rfl (by rw [hb]; exact d0) (Nat.le_refl _) (Nat.le_refl _)
  generalize hT1 : (T.setVm vm₁).pushCell { cls := cX, slots := kX.instanceTypes.map defaultValue, vm := .none } = T1 at X₁ st1
  have hcat : (Value.ref T.heap.size).category = 1 := rfl
  have hcellA : T1.heap[T.heap.size]? = some (freshCell cX kX) := by rw [← hT1]; exact State.heap_pushCell_size _ _
  have d3' : decode c.code (pc + 3) = .ok (.dup, 1) := by rw [hb]; exact d3
  have d4' : decode c.code (pc + 4) = .ok (.ldc is, 2) := by rw [hb]; exact d4
  have hstr' : vk_R own is text sa s' := vk_R.warm hW0 hstr
  obtain ⟨U, hsteps, hrun, hend, hW, hsame, ce, hce, hO⟩ := X₁.ctorThrowS hexec htr (own := own) (cls := cls) (names := names) (ic := ic) hown' hcls hnames h (fun x hx => nomatch hx) hfX hkX hcellA (by rw [hhp, hT]; exact Nat.le_refl _) (msg := .ref sa) rfl
    (g := { method := m, pc := pc + 6, locals := ls, stack := .ref sa :: .ref T.heap.size :: .ref T.heap.size :: rest, locked := none }) rfl hsize rfl rfl (rest := rest) rfl
    (by rw [hb]; exact d6) (by rw [hb]; exact d9) hout hRframes (by simp only [List.map_cons, List.sum_cons, hcat]; omega) hlocks
  obtain ⟨f1, f2⟩ := vx_frame hsame
  rw [hhp] at f1 f2
  have hWs : s.WarmedH U.vm := State.WarmedH.trans hW0 hW
  have hcl : s.vm.findClass cls = some ce.cls := by
    have h9 := hO.cls
    rw [hvm] at h9
    exact h9
  have hall : s.sameButNew ({ U with vm := s.vm } : State) locs mc ms := by
    subst hA
    obtain ⟨e1, e2⟩ := hsame
    rw [State.setFrames_setFrames] at e1
    have h2 : (T.setVm s.vm).sameButNew ({ U with vm := s.vm } : State) [] (0 + 1) (0 + 6) := ⟨e1, e2⟩
    have h3 := X.same.trans h2
    rw [List.append_nil] at h3
    exact h3.mono hc hs
  refine ⟨U, ?_, .threw T.heap.size, hrun, hend, Or.inr ⟨T.heap.size, rfl, cls, ce, locs, hx U hWs.alike f1 (fun q hq => f2 q hq (fun z hz => nomatch hz)), hce, hO.vm, hcl, hWs, hall, hf⟩⟩
  refine st1 _ ?_
  show Steps p.tables e below (T1.setTop { method := m, pc := pc + 3, locals := ls, stack := .ref T.heap.size :: rest, locked := none }) _
  jvm_step X₁.here [X₁.here.top, hexec, d3', Value.category]
  exact X₁.ldcString hexec (own := own) (text := text) (index := is) (a := sa) hown' hstr'.1 hstr'.2
    (g := { method := m, pc := pc + 4, locals := ls, stack := .ref T.heap.size :: .ref T.heap.size :: rest, locked := none }) rfl d4' _ hsteps
/-- 'throw new E("text")', the text by a wide index -/
theorem vx_throwSW {cc : ByteArray} {pc : Nat} (hexec : p.tables.exec = Jvm.exec) (hb : c.code = cc) (hl : l.stackTraces = false) {own cls text : String} {names : List String} {ik is ic mc ms sa : Nat} {A : Nat → Prop}
    (hown : s.vm.findClass own = some m.cls) (hcls : Bundle.fit cls = true) (hnames : ∀ n ∈ names, Bundle.fit n = true)
    (hk : (Cond.classLink own ik cls).before args s = true) (hini : (Cond.initialized cls).before args s = true) (hstr : vk_R own is text sa s) (hat : ∀ w ∈ vx_atS own ic cls names, w.before args s = true)
    (hgood : ∀ w ∈ Cond.classLink own ik cls :: Cond.initialized cls :: vx_atS own ic cls names, vx_ot w = true)
    (hU : vx_Zq Bundle.tN "UNASSIGNED_STACK" Bundle.steD A s s.heap) (hN : vx_Zq Bundle.tN "SUPPRESSED_SENTINEL" Bundle.listD A s s.heap) (hS : va_S A s.heap H locs) (hsize : ls.size = c.maxLocals)
    (d0 : decode cc pc = .ok (.new ik, 3)) (d3 : decode cc (pc + 3) = .ok (.dup, 1)) (d4 : decode cc (pc + 4) = .ok (.ldc_w is, 3)) (d7 : decode cc (pc + 7) = .ok (.invokespecial ic, 3)) (d10 : decode cc (pc + 10) = .ok (.athrow, 1))
    (hout : ∀ x ∈ c.exceptionTable.toList, covers x (pc + 10) = false)
    (hRframes : names.length + 3 < R.frames) (hRlocals : (rest.map fun v => v.category).sum + (13 * (names.length + 1) + 43) ≤ R.locals) (hRcells : cells + 1 ≤ R.cells) (hRslots : slots + 6 ≤ R.slots) (hlocks : meth.locks = false)
    (hx : ∀ t : State, s.vm.Alike t.vm → H.size ≤ t.heap.size → (∀ q : Nat, q < H.size → t.heap[q]? = H[q]?) → XC cls s t)
    (hf : ∀ z ∈ locs, free z.base) (hc : cells + 1 ≤ mc) (hs : slots + 6 ≤ ms) :
    W p l e R s m args below meth c H locs cells slots (vx_MQ below Qc XC args s mc ms free) (F0 m pc ls rest) := by
  intro T hT X
  have htr : e.platform.stackTraces = false := (show e.platform.stackTraces = l.stackTraces by rw [X.admits.platform]).trans hl
  have Y := vx_rebase X (R' := { frames := R.frames, locals := R.locals, cells := 1, slots := 6 }) (Nat.le_refl _) (Nat.le_refl _) hRcells hRslots
  obtain ⟨s', hA⟩ : ∃ z, z = (T.setVm s.vm).setFrames (.invoking m args :: below) := ⟨_, rfl⟩
  rw [← hA] at Y
  have hvm : s'.vm = s.vm := by rw [hA]; rfl
  have hhp : s'.heap = H := by rw [hA]; exact hT
  have hW0 : s.WarmedH s'.vm := by rw [hvm]; exact State.WarmedH.refl s
  have hat' : ∀ w ∈ vx_atS own ic cls names, w.before args s' = true := fun w hw => vx_ot_at hW0 hvm.symm (hgood w (List.mem_cons_of_mem _ (List.mem_cons_of_mem _ hw))) (hat w hw)
  have hk' : (Cond.classLink own ik cls).before args s' = true := vx_ot_at hW0 hvm.symm (hgood _ List.mem_cons_self) hk
  have hini' : (Cond.initialized cls).before args s' = true := vx_ot_at hW0 hvm.symm (hgood _ (List.mem_cons_of_mem _ List.mem_cons_self)) hini
  have hU' : vx_Zq Bundle.tN "UNASSIGNED_STACK" Bundle.steD A s' s'.heap := by rw [hhp]; exact vx_Zq.moved hW0.alike (hU.kept hS.2.1)
  have hN' : vx_Zq Bundle.tN "SUPPRESSED_SENTINEL" Bundle.listD A s' s'.heap := by rw [hhp]; exact vx_Zq.moved hW0.alike (hN.kept hS.2.1)
  have h : ∀ w ∈ Bundle.ownAtoms own ic cls names, w.before args s' = true := vx_own hat' (vx_isRefq hU'.1) (vx_isRefq hN'.1) hU'.2.word hN'.2.word
  have hown' : s'.vm.findClass own = some m.cls := by rw [hvm]; exact hown
  have hins : (Cond.instantiable cls 6).before args s' = true := h _ (by simp [Bundle.ownAtoms])
  obtain ⟨vm₁, cX, kX, hfX, hkX, -, -, X₁, st1⟩ := Y.newCold hexec (own := own) (C := cls) (index := ik) (n := 6) hown' hk' hins hini'
    (g := F0 m pc ls rest) rfl (by rw [hb]; exact d0) (Nat.le_refl _) (Nat.le_refl _)
  generalize hT1 : (T.setVm vm₁).pushCell { cls := cX, slots := kX.instanceTypes.map defaultValue, vm := .none } = T1 at X₁ st1
  have hcat : (Value.ref T.heap.size).category = 1 := rfl
  have hcellA : T1.heap[T.heap.size]? = some (freshCell cX kX) := by rw [← hT1]; exact State.heap_pushCell_size _ _
  have d3' : decode c.code (pc + 3) = .ok (.dup, 1) := by rw [hb]; exact d3
  have d4' : decode c.code (pc + 4) = .ok (.ldc_w is, 3) := by rw [hb]; exact d4
  have hstr' : vk_R own is text sa s' := vk_R.warm hW0 hstr
  obtain ⟨U, hsteps, hrun, hend, hW, hsame, ce, hce, hO⟩ := X₁.ctorThrowS hexec htr (own := own) (cls := cls) (names := names) (ic := ic) hown' hcls hnames h (fun x hx => nomatch hx) hfX hkX hcellA (by rw [hhp, hT]; exact Nat.le_refl _) (msg := .ref sa) rfl
    (g := { method := m, pc := pc + 7, locals := ls, stack := .ref sa :: .ref T.heap.size :: .ref T.heap.size :: rest, locked := none }) rfl hsize rfl rfl (rest := rest) rfl
    (by rw [hb]; exact d7) (by rw [hb]; exact d10) hout hRframes (by simp only [List.map_cons, List.sum_cons, hcat]; omega) hlocks
  obtain ⟨f1, f2⟩ := vx_frame hsame
  rw [hhp] at f1 f2
  have hWs : s.WarmedH U.vm := State.WarmedH.trans hW0 hW
  have hcl : s.vm.findClass cls = some ce.cls := by
    have h9 := hO.cls
    rw [hvm] at h9
    exact h9
  have hall : s.sameButNew ({ U with vm := s.vm } : State) locs mc ms := by
    subst hA
    obtain ⟨e1, e2⟩ := hsame
    rw [State.setFrames_setFrames] at e1
    have h2 : (T.setVm s.vm).sameButNew ({ U with vm := s.vm } : State) [] (0 + 1) (0 + 6) := ⟨e1, e2⟩
    have h3 := X.same.trans h2
    rw [List.append_nil] at h3
    exact h3.mono hc hs
  refine ⟨U, ?_, .threw T.heap.size, hrun, hend, Or.inr ⟨T.heap.size, rfl, cls, ce, locs, hx U hWs.alike f1 (fun q hq => f2 q hq (fun z hz => nomatch hz)), hce, hO.vm, hcl, hWs, hall, hf⟩⟩
  refine st1 _ ?_
  show Steps p.tables e below (T1.setTop { method := m, pc := pc + 3, locals := ls, stack := .ref T.heap.size :: rest, locked := none }) _
  jvm_step X₁.here [X₁.here.top, hexec, d3', Value.category]
  exact X₁.ldcStringW hexec (own := own) (text := text) (index := is) (a := sa) hown' hstr'.1 hstr'.2
    (g := { method := m, pc := pc + 4, locals := ls, stack := .ref T.heap.size :: .ref T.heap.size :: rest, locked := none }) rfl d4' _ hsteps
end Ends
section Bodies
variable {l : Launch}
theorem vx_ofW {y : MethodName} {ws ws' : List Cond} {rm : Room} {Pc : Array Value → State → Prop} {Qc : Array Value → State → Outcome → State → Prop} {XC : String → State → State → Prop} {mc ms : Nat} {free : Addr → Prop} {cc : ByteArray} {maxL : Nat} {ret : Option FieldType}
    (hy : plainName y.cls = true) (hw : ws = Cond.code y cc maxL ret :: ws')
    (body : ∀ p e s m args below meth c s₁, BodyLoose p l y (headSpec ws rm) cc maxL ret e s m args below meth c s₁ → c.maxLocals = maxL → (∀ x ∈ c.exceptionTable.toList, False) → Pc args s →
      W p l e (headSpec ws rm).room s m args below meth c s.heap [] 0 0 (vx_MQ below Qc XC args s mc ms free) (entryFrame m args maxL)) : vx_Met l y ws rm Pc Qc XC mc ms free := by
  refine MetFree.of_bodyS (code := cc) (maxLocals := maxL) (ret := ret) hy ?_ ?_
  · intro args s m h hn
    obtain ⟨meth, c, h1, h2, h3, h4, h5, h6, -, -⟩ := Cond.code_spec hn (atoms_spec (ws := ws) h _ (by rw [hw]; exact List.mem_cons_self))
    exact ⟨meth, c, h1, h2, h3, h4, h5, h6⟩
  · intro p e s m args below meth c s₁ B hml hP _
    have hh0 : s₁.heap = s.heap := by rw [B.state]; rfl
    have ht : ∀ x ∈ c.exceptionTable.toList, False := by
      obtain ⟨meth9, c9, h1, h2, -, -, -, -, h7, -⟩ := Cond.code_spec B.named (atoms_spec (ws := ws) B.pre _ (by rw [hw]; exact List.mem_cons_self))
      cases Option.some.inj (h1.symm.trans B.method)
      cases Option.some.inj (h2.symm.trans (Stand.of_body B).code)
      intro x hx
      rw [Array.isEmpty_iff.mp h7] at hx
      cases hx
    obtain ⟨t, a1, o, b1, b2, b3⟩ := body p e s m args below meth c s₁ B hml ht hP s₁ hh0 (Stand.of_body B)
    exact ⟨t, o, a1, b1, b2, b3⟩
/-- the table of a body with handlers -/
theorem vx_table {p : Program} {x y : MethodName} {S : Spec} {cc bytes : ByteArray} {maxL maxL' : Nat} {ret ret' : Option FieldType} {e : Env} {s s₁ : State} {m : MethodId} {args : Array Value} {below : List Frame} {meth : Method} {c : Code} {hh : List (Nat × Nat × Nat × Nat)}
    (B : BodyLoose p l y S cc maxL ret e s m args below meth c s₁) (h : (Cond.codeWith y bytes maxL' ret' hh).before args s = true) : c.exceptionTable.toList = tableOf hh := by
  obtain ⟨m9, meth9, c9, hn9, h1, h2, -, -, h6, -⟩ := Cond.codeWith_spec h
  cases Option.some.inj (hn9.symm.trans B.named)
  cases Option.some.inj (h1.symm.trans B.method)
  cases Option.some.inj (h2.symm.trans (Stand.of_body B).code)
  rw [← h6, table_eq]
end Bodies
end VXA
/-! ===== END ===== -/
/-! ===== BEGIN a static call of a method with an exception table ===== -/
section VXS
variable {p : Program} {l : Launch} {e : Env} {R : Room} {s : State} {m : MethodId} {args : Array Value} {below : List Frame} {meth : Method} {c : Code} {T : State} {H : Heap} {locs : List Loc} {cells slots : Nat}
abbrev vx_CSW (R : Room) (s : State) (args : Array Value) (own : String) (index : Nat) (y : MethodName) (bytes : ByteArray) (maxL : Nat) (ret : Option FieldType) (hh : List (Nat × Nat × Nat × Nat)) (ws : List Cond) (rm : Room) (mc ms n : Nat) : Prop :=
  (rm.cells = mc ∧ rm.slots = ms ∧ rm.frames + 1 ≤ R.frames ∧ 8 + (maxL + 11) + rm.locals ≤ R.locals ∧ (∀ w ∈ ws, ∀ (a' : Array Value) (U : State), s.WarmedH U.vm → w.before a' U = true) ∧ Cond.codeWith y bytes maxL ret hh ∈ ws) ∧
  (Cond.codeWith y bytes maxL ret hh).before args s = true ∧ (Cond.initialized y.cls).before args s = true ∧ (y.cls ≠ "java/lang/invoke/MethodHandle" ∧ y.cls ≠ "java/lang/invoke/VarHandle") ∧
  (∀ sig, parseMethodDescriptor y.desc = some sig → n = sig.parameters.length) ∧ (Cond.methodLink own index y).before args s = true ∧ (Cond.static y).before args s = true
theorem vx_cwSW {own : String} {index maxL mc ms : Nat} {y : MethodName} {bytes : ByteArray} {ret : Option FieldType} {hh : List (Nat × Nat × Nat × Nat)} {Ts ws ws' : List Cond} {rm : Room} (n : Nat) (ht : ∀ w ∈ Ts, w.before args s = true) (hT : GoodIn Ts (va_wsS own index y ws)) (hw : ws = Cond.codeWith y bytes maxL ret hh :: ws') (hrc : rm.cells = mc) (hrs : rm.slots = ms)
    (hd : y.cls ≠ "java/lang/invoke/MethodHandle" ∧ y.cls ≠ "java/lang/invoke/VarHandle" ∧ (parseMethodDescriptor y.desc).map (fun d => d.parameters.length) = some n) (hR : rm.frames + 1 ≤ R.frames ∧ 8 + (maxL + 11) + rm.locals ≤ R.locals) :
    vx_CSW R s args own index y bytes maxL ret hh ws rm mc ms n := by
  have ok : ∀ w ∈ va_wsS own index y ws, w.before args s = true := fun w h => ht w (hT w h).1
  have hG : GoodIn Ts ws := fun w h => hT w (by unfold va_wsS; exact List.mem_append_right _ h)
  have hc : Cond.codeWith y bytes maxL ret hh ∈ ws := by rw [hw]; exact List.mem_cons_self
  refine ⟨⟨hrc, hrs, hR.1, hR.2, pay_in ht hG, hc⟩, ht _ (hG _ hc).1, ok _ (by simp [va_wsS]), ⟨hd.1, hd.2.1⟩, fun sig h => ?_, ok _ (by simp [va_wsS]), ok _ (by simp [va_wsS])⟩
  have h2 := hd.2.2
  rw [h] at h2
  exact (Option.some.inj h2).symm
theorem vx_callSW (X : Stand p l e R s m args below meth c T locs cells slots) (hexec : p.tables.exec = Jvm.exec) {own : String} {index : Nat} {y : MethodName} {bytes : ByteArray} {maxL : Nat} {ret : Option FieldType} {hh : List (Nat × Nat × Nat × Nat)}
    (hown : s.vm.findClass own = some m.cls) (hlink : (Cond.methodLink own index y).before args s = true) (hstat : (Cond.static y).before args s = true) (hinit : (Cond.initialized y.cls).before args s = true)
    (hcode : (Cond.codeWith y bytes maxL ret hh).before args s = true) (hy : y.cls ≠ "java/lang/invoke/MethodHandle" ∧ y.cls ≠ "java/lang/invoke/VarHandle")
    {W9 : Nat} {Pre : Pt → Array Value → Prop} {Post : Pt → Array Value → Option Value → Pt → Prop} (hK : Back l R p e below s args y 3 W9 Pre Post)
    {g : JFrame} (hg : g.method = m) (hsize : g.locals.size = c.maxLocals) {argsL rest : List Value} (hlen : ∀ sig, parseMethodDescriptor y.desc = some sig → argsL.length = sig.parameters.length)
    (hstack : g.stack = argsL.reverse ++ rest) (hW : 2 * g.monitorRoom + (rest.map fun v => v.category).sum ≤ W9) (hdg : decode c.code g.pc = .ok (.invokestatic index, 3))
    (hpre : ∀ vm₁, s.WarmedH vm₁ → Pre ⟨T.setVm vm₁, locs, cells, slots⟩ argsL.toArray) :
    ∃ (v : Option Value) (vm₁ : Vm) (B : Pt), s.WarmedH vm₁ ∧ Stand p l e R s m args below meth c B.U B.locs B.cells B.slots ∧ Post ⟨T.setVm vm₁, locs, cells, slots⟩ argsL.toArray v B ∧
      ∀ target, Steps p.tables e below (B.U.setTop { g with pc := g.pc + 3, stack := v.toList ++ rest }) target → Steps p.tables e below (T.setTop g) target := by
  obtain ⟨mk, methM, cM, hnamed, hmethM, -, -, -, -, -, -, hsigM⟩ := Cond.codeWith_spec hcode
  have hstatic : methM.isStatic = true := Cond.static_spec hnamed hmethM hstat
  obtain ⟨kP, hkP, -⟩ := className_of_methodNamed hnamed
  have hinitP : kP.init = .initialized := Cond.initialized_spec (findClass_of_methodNamed hnamed) hkP hinit
  obtain ⟨vm₁, X₁, hstep₁⟩ := X.invokestatic hexec hown hlink hnamed hmethM hstatic hkP hinitP hy (g := g) hg (argsL := argsL) (rest := rest) (hlen _ hsigM) hstack hdg
  obtain ⟨v, B, X', hpost, hsteps⟩ := hK m meth c ⟨T.setVm vm₁, locs, cells, slots⟩ { g with stack := rest } (.invokestatic index) mk argsL.toArray X₁ hg hsize hdg hW (X₁.named hnamed) (hpre vm₁ X₁.warmed)
  exact ⟨v, vm₁, B, X₁.warmed, X', hpost, fun target h => hstep₁ _ fun acts => by rw [doInvoke_state]; exact hsteps.trans h⟩
theorem vx_runSW {y : MethodName} {bytes cc : ByteArray} {maxL nL mc ms n index : Nat} {ret : Option FieldType} {hh : List (Nat × Nat × Nat × Nat)} {ws : List Cond} {rm : Room} {Pc : Array Value → State → Prop} {Qc : Array Value → State → Outcome → State → Prop} {free : Addr → Prop} {Ts : List Cond} {own : String} {As rest : List Value} {g : JFrame}
    (S : CallFix p m c cc nL s args Ts own) (hM : Met l y ws rm Pc Qc mc ms free) (cw : vx_CSW R s args own index y bytes maxL ret hh ws rm mc ms n) (hp : PreS s H Pc As)
    (hg : g.method = m) (hn : As.length = n) (hsize : g.locals.size = nL) (hstack : g.stack = As.reverse ++ rest) (hW : 2 * g.monitorRoom + (rest.map fun v => v.category).sum ≤ 8) (hdg : decode cc g.pc = .ok (.invokestatic index, 3)) (hf : cells + mc ≤ R.cells ∧ slots + ms ≤ R.slots) :
    va_Run p l e R s m args below meth c H locs cells slots mc ms g rest (Qc As.toArray) (free) := by
  obtain ⟨⟨hrc, hrs, hfr, hlo, hws, hcw⟩, hcode, hini, hy, hlen, hl, hstt⟩ := cw
  have hK : Back l R p e below s args y 3 8 (PreOf R mc ms Pc) (PostOf Qc mc ms free) := va_backW (hh := hh) (bytes := bytes) (maxL := maxL) (ret := ret) hM hp.1 hrc hrs hfr hlo hws hcw (fun a' U hW => word_at hW (Or.inl (by first | rfl | simp [Cond.onTables, Cond.keeps, Cond.steady])) hini)
  obtain ⟨hx, hb, hml, ho, -⟩ := S
  intro T hT X
  obtain ⟨v, vm₁, ⟨U', l2, c2, s2⟩, hW₁, X', ⟨g', mk, t, L, e1, e2, hq, h1, hL, h2, h3⟩, st⟩ := vx_callSW X hx (hh := hh) (bytes := bytes) (maxL := maxL) (ret := ret) ho hl hstt hini hcode hy hK hg (hsize.trans hml.symm) (argsL := As) (rest := rest) (fun sig h => hn.trans (hlen sig h)) hstack hW (by rw [hb]; exact hdg)
    (fun vm₁ hW₁ => ⟨hf.1, hf.2, hp.2 (T.setVm vm₁) hT hW₁⟩)
  dsimp only [Pt.U, Pt.locs, Pt.cells, Pt.slots] at X' e1 e2 h1 h2 h3 st
  subst h1; subst h2; subst h3
  exact ⟨v, (T.setVm vm₁).calling g' mk As.toArray, t, U', L, hT, X', hL, e1, e2, hq, st⟩
/-- not caught here, past rows that name other classes: it goes on to the caller -/
theorem vx_outP {p : Program} {l : Launch} {e : Env} {R : Room} {s : State} {m : MethodId} {args : Array Value} {below : List Frame} {meth : Method} {c : Code} {H : Heap} {locs : List Loc} {cells slots : Nat} {free : Addr → Prop} {ls : Array Slot} {rest : List Value} {Qc : Array Value → State → Outcome → State → Prop} {XC : String → State → State → Prop}
    {pc : Nat} {own E : String} {ce : Cell} {q : Addr} {mc ms : Nat} (hown : s.vm.findClass own = some m.cls) (hlocks : meth.locks = false)
    (hpass : ∀ z ∈ c.exceptionTable.toList, covers z pc = false ∨ (z.catchType ≠ 0 ∧ ∃ nm : String, (Cond.classLink own z.catchType nm).before args s = true ∧ va_Nc E nm s)) (hcell : H[q]? = some ce) (hv : ce.vm = .none) (hcl : s.vm.findClass E = some ce.cls)
    (hx : ∀ t : State, t.heap = H → s.vm.Alike t.vm → XC E s t) (hf : ∀ z ∈ locs, free z.base) (hc : cells ≤ mc) (hs : slots ≤ ms) :
    vx_W p l e R s m args below meth c H locs cells slots (vx_MQ below Qc XC args s mc ms free) (F0 m pc ls rest) q := by
  intro T hT X
  have hpl : e.platform.magicAccessors = ({} : Platform).magicAccessors := by rw [X.admits.platform]
  obtain ⟨vm', hW', X', st⟩ := X.outThrough hlocks q (g := F0 m pc ls rest) rfl rfl rfl (cell := ce) (by rw [hT]; exact hcell) (by rw [hv]; rfl)
    (by obtain ⟨k9, h9, -⟩ := Vm.findClass_spec hcl; exact ⟨k9, h9⟩) (fun z hz => by
      rcases hpass z hz with h | ⟨hz0, nm, hl1, hn1⟩
      · exact Or.inl h
      · obtain ⟨c6, hc6, hcl6⟩ := Cond.classLink_spec hown hl1 e.platform hpl
        obtain ⟨a8, b8, h1, h2, h3⟩ := hn1
        cases Option.some.inj (h1.symm.trans hcl)
        cases Option.some.inj (h2.symm.trans hc6)
        exact Or.inr ⟨hz0, _, hcl6, h3⟩)
  obtain ⟨g₀, hfr⟩ := X'.frames_eq
  have hcell9 : ((T.setVm vm').setFrames (.throwing q :: below)).heap[q]? = some ce := by
    show T.heap[q]? = some ce
    rw [hT]; exact hcell
  have hend : Ended ((T.setVm vm').setFrames (.throwing q :: below)) below (.threw q) := State.frames_setFrames _ (State.cur_lt_of_frames hfr)
  refine ⟨(T.setVm vm').setFrames (.throwing q :: below), ?_, .threw q, X'.here.running, hend, Or.inr ⟨q, rfl, E, ce, locs, hx _ hT (X'.ends _).1.alike, hcell9, hv, hcl, (X'.ends _).1, (X'.ends _).2.mono hc hs, hf⟩⟩
  rw [X.pushThrowing_eq]
  exact st
/-- a thing of a world lies in the heap -/
theorem vx_lt {D : va_G} {cl : List vw_C} {ws : va_W} {H1 : Heap} (h : va_P D cl ws H1) {k : Nat} {q : Nat × va_E} (hk : ws[k]? = some q) : q.1 < H1.size := (h k q hk).lt
end VXS
/-! ===== END ===== -/
/-! ===== BEGIN methods with a table of their own: called by a name, returning or throwing ===== -/
section VXH
/-! vx_backW, vx_callVX, vx_callSX, vx_callVW, vx_runVW, vx_runVX, vx_runSX, vx_ofWH follow the same proofs as their sisters above (Free/Laws.lean, Shelf42/LK1.lean); vx_outP calls Shelf42/NT130.lean (outThrough). -/
section
variable {l : Launch} {R : Room} {p : Program} {e : Env} {below : List Frame} {s : State} {sargs : Array Value} {y : MethodName} {len W9 : Nat}
theorem vx_backW {ws : List Cond} {rm : Room} {Pc : Array Value → State → Prop} {Qc : Array Value → State → Outcome → State → Prop} {XC : String → State → State → Prop} {mc ms : Nat} {free : Addr → Prop} {bytes : ByteArray} {maxL : Nat} {ret : Option FieldType} {hh : List (Nat × Nat × Nat × Nat)}
    (hM : vx_Met l y ws rm Pc Qc XC mc ms free) (hblind : FrameBlind Pc) (hrc : rm.cells = mc) (hrs : rm.slots = ms)
    (hframes : rm.frames + 1 ≤ R.frames) (hlocals : W9 + (maxL + 11) + rm.locals ≤ R.locals)
    (hws : ∀ w ∈ ws, ∀ a' U, s.WarmedH U.vm → w.before a' U = true) (hcode : Cond.codeWith y bytes maxL ret hh ∈ ws) (hinit : ∀ a' U, s.WarmedH U.vm → (Cond.initialized y.cls).before a' U = true) :
    vx_Back l R p e below s sargs y len W9 (PreOf R mc ms Pc) (PostOf Qc mc ms free) (vx_Post XC mc ms free) := by
  intro m meth c A g ig mk a X hg hsize hdg hW hn hp
  have h1 : (headSpec ws rm).pre.before a A.U = true := atoms_intro fun w hw => hws w hw _ _ X.warmed
  have h2 : (Cond.codeWith y bytes maxL ret hh).before a A.U = true := hws _ hcode _ _ X.warmed
  have h3 : (Cond.initialized y.cls).before a A.U = true := hinit _ _ X.warmed
  have h4 : A.cells + (headSpec ws rm).room.cells ≤ R.cells := by rw [show (headSpec ws rm).room.cells = mc from hrc]; exact hp.1
  have h5 : A.slots + (headSpec ws rm).room.slots ≤ R.slots := by rw [show (headSpec ws rm).room.slots = ms from hrs]; exact hp.2.1
  have hPc : Pc a (A.U.calling g mk a) := hblind _ _ _ _ hp.2.2
  obtain ⟨U, Ls, c0, s0⟩ := A
  dsimp only [Pt.U, Pt.locs, Pt.cells, Pt.slots] at h1 h2 h3 h4 h5 X hn hPc ⊢
  obtain ⟨m9, methY, cY, hn9, hmY, hcY, -, hlY, -⟩ := Cond.codeWith_spec h2
  cases Option.some.inj (hn9.symm.trans hn)
  obtain ⟨kY, hkY, -⟩ := className_of_methodNamed hn
  have hinitY : kY.init = .initialized := Cond.initialized_spec (findClass_of_methodNamed hn) hkY h3
  have h : At U g.method c below := by rw [hg]; exact X.here
  have hlocals9 : W9 + (maxL + 11) + (headSpec ws rm).room.locals ≤ R.locals := hlocals
  have happ : (headSpec ws rm).appliesLoose y e.platform (U.calling g mk a) = true :=
    Spec.appliesLoose_calling (g := g) h hdg hn hkY hinitY
      (X.room_calling (g := g) (R' := (headSpec ws rm).room) hsize hmY hcY hframes (by rw [hlY]; omega) h4 h5) h1
  obtain ⟨mid, hmid⟩ := h.above
  have hfr : (U.setTop g).frames = (.java g :: mid) ++ below := by rw [State.frames_setTop' g h.top, hmid]; rfl
  obtain ⟨o, s₂, hsteps, -, hend, hq⟩ := Steps.callFree hM p X.admits X.cas X.clock (acts := []) hfr happ hPc trivial
  have hq' : vx_Q Qc XC mc ms free a (U.calling g mk a) o s₂ := hq
  rw [State.frames_setTop' g h.top] at hend
  obtain ⟨g₀, hg0⟩ := Option.isSome_iff_exists.mp h.top
  obtain ⟨r, hr⟩ := State.topJava?_eq_some.mp hg0
  have hr' : (({ U with heap := s₂.heap, slotsUsed := s₂.slotsUsed } : State).setVm s₂.vm).frames = .java g₀ :: r := hr
  rcases hq' with ⟨hqc, L, hfe, hL⟩ | ⟨q, rfl, E, ce, L, hx, hce, hcv, hcl, hW₂, hsm, hL⟩
  · obtain ⟨⟨v, rfl⟩, hW₂, e2, q2, q3, q4, q5, q6⟩ := id hfe
    have e3 : s₂ = ({ (U.calling g mk a).setFrames s₂.frames with heap := s₂.heap, slotsUsed := s₂.slotsUsed } : State).setVm s₂.vm := by
      have : s₂ = ({ s₂ with vm := (U.calling g mk a).vm } : State).setVm s₂.vm := rfl
      rw [e2] at this
      exact this
    obtain ⟨c₂, i₂, len₂, hc₂, hd₂, hf₂⟩ := hend
    have hW' : U.WarmedH s₂.vm := hW₂
    have hcc : c₂ = c := by
      have h1 : s₂.code? g.method = U.code? g.method := by
        rw [State.code?_eq, State.code?_eq, hW'.alike.method?]
      exact Option.some.inj (hc₂.symm.trans (h1.trans h.code))
    subst hcc
    have hlen : len₂ = len := by rw [hdg] at hd₂; cases hd₂; rfl
    subst hlen
    have hs₂ : s₂ = (({ U with heap := s₂.heap, slotsUsed := s₂.slotsUsed } : State).setVm s₂.vm).setTop { g with pc := g.pc + len₂, stack := v.toList ++ g.stack } := by
      refine e3.trans ?_
      rw [hf₂, State.calling_eq h.top, State.setFrames_setFrames, State.setTop_of_frames _ hr', hr]
      rfl
    have hsame : U.sameButNew ({ U with heap := s₂.heap, slotsUsed := s₂.slotsUsed } : State) L mc ms := by
      refine ⟨?_, q2, q3, q4, q5, q6⟩
      obtain ⟨t, ht, -⟩ := State.frames_cons hr
      show ({ U with heap := s₂.heap, slotsUsed := s₂.slotsUsed } : State) = { U.setFrames U.frames with heap := s₂.heap, slotsUsed := s₂.slotsUsed }
      rw [State.setFrames_self ht]
    subst hg
    refine Or.inl ⟨v, ⟨(({ U with heap := s₂.heap, slotsUsed := s₂.slotsUsed } : State).setVm s₂.vm), Ls ++ L, c0 + mc, s0 + ms⟩,
      ⟨X.admits, X.cas, X.clock, X.frames, X.room, X.hears, X.method, X.code, (X.here.setHeapUsed s₂.heap s₂.slotsUsed).setVm hW'.alike, X.tail, State.WarmedH.trans X.warmed hW', X.limits, X.bytes, X.same.trans (hsame.setVm s.vm)⟩,
      ⟨g, mk, s₂, L, rfl, rfl, hqc, rfl, hL, rfl, rfl⟩, ?_⟩
    show Steps p.tables e below _ ((({ U with heap := s₂.heap, slotsUsed := s₂.slotsUsed } : State).setVm s₂.vm).setTop { g with pc := g.pc + len₂, stack := v.toList ++ g.stack })
    rw [← hs₂]
    exact hsteps
  · obtain ⟨e2, q2, q3, q4, q5, q6⟩ := id hsm
    have e3 : s₂ = ({ (U.calling g mk a).setFrames s₂.frames with heap := s₂.heap, slotsUsed := s₂.slotsUsed } : State).setVm s₂.vm := by
      have : s₂ = ({ s₂ with vm := (U.calling g mk a).vm } : State).setVm s₂.vm := rfl
      rw [e2] at this
      exact this
    have hf₂ : s₂.frames = .throwing q :: .java g :: U.frames.tail := hend
    have hW' : U.WarmedH s₂.vm := hW₂
    have hs₂ : s₂ = ((({ U with heap := s₂.heap, slotsUsed := s₂.slotsUsed } : State).setVm s₂.vm).setTop g).pushFrame (.throwing q) := by
      refine e3.trans ?_
      rw [hf₂, State.calling_eq h.top, State.setFrames_setFrames, State.pushFrame, State.frames_setTop _ hr', State.setTop_of_frames _ hr', State.setFrames_setFrames, hr]
      rfl
    have hsame : U.sameButNew ({ U with heap := s₂.heap, slotsUsed := s₂.slotsUsed } : State) L mc ms := by
      refine ⟨?_, q2, q3, q4, q5, q6⟩
      obtain ⟨t, ht, -⟩ := State.frames_cons hr
      show ({ U with heap := s₂.heap, slotsUsed := s₂.slotsUsed } : State) = { U.setFrames U.frames with heap := s₂.heap, slotsUsed := s₂.slotsUsed }
      rw [State.setFrames_self ht]
    subst hg
    refine Or.inr ⟨q, ⟨(({ U with heap := s₂.heap, slotsUsed := s₂.slotsUsed } : State).setVm s₂.vm), Ls ++ L, c0 + mc, s0 + ms⟩,
      ⟨X.admits, X.cas, X.clock, X.frames, X.room, X.hears, X.method, X.code, (X.here.setHeapUsed s₂.heap s₂.slotsUsed).setVm hW'.alike, X.tail, State.WarmedH.trans X.warmed hW', X.limits, X.bytes, X.same.trans (hsame.setVm s.vm)⟩,
      ⟨g, mk, s₂, L, E, ce, rfl, rfl, hx, hce, hcv, hcl, rfl, hL, rfl, rfl⟩, ?_⟩
    show Steps p.tables e below _ (((({ U with heap := s₂.heap, slotsUsed := s₂.slotsUsed } : State).setVm s₂.vm).setTop g).pushFrame (.throwing q))
    rw [← hs₂]
    exact hsteps
end
variable {p : Program} {l : Launch} {e : Env} {R : Room} {s : State} {m : MethodId} {args : Array Value} {below : List Frame} {meth : Method} {c : Code} {T : State} {H : Heap} {locs : List Loc} {cells slots : Nat}
theorem vx_callVX (X : Stand p l e R s m args below meth c T locs cells slots) (hexec : p.tables.exec = Jvm.exec) {own C : String} {index : Nat} {y : MethodName} {bytes : ByteArray} {maxL : Nat} {ret : Option FieldType} {hh : List (Nat × Nat × Nat × Nat)}
    (hown : s.vm.findClass own = some m.cls) (hlink : (Cond.methodLink own index y).before args s = true) (hinst : (Cond.instanceMethod y).before args s = true) (hsel : (Cond.selects C y y).before args s = true)
    (hcode : (Cond.codeWith y bytes maxL ret hh).before args s = true) (hy : y.cls ≠ "java/lang/invoke/MethodHandle" ∧ y.cls ≠ "java/lang/invoke/VarHandle")
    {W9 : Nat} {Pre : Pt → Array Value → Prop} {Post : Pt → Array Value → Option Value → Pt → Prop} {PostX : Pt → Array Value → Addr → Pt → Prop} (hK : vx_Back l R p e below s args y 3 W9 Pre Post PostX)
    {b : Addr} {cellB : Cell} (hcell : T.heap[b]? = some cellB) (hobj : cellB.vm.isStatics = false) (hcls : s.vm.findClass C = some cellB.cls)
    {g : JFrame} (hg : g.method = m) (hsize : g.locals.size = c.maxLocals) {argsL rest : List Value} (hlen : ∀ sig, parseMethodDescriptor y.desc = some sig → argsL.length = sig.parameters.length)
    (hstack : g.stack = argsL.reverse ++ .ref b :: rest) (hW : 2 * g.monitorRoom + (rest.map fun v => v.category).sum ≤ W9) (hdg : decode c.code g.pc = .ok (.invokevirtual index, 3))
    (hpre : ∀ vm₁, s.WarmedH vm₁ → Pre ⟨T.setVm vm₁, locs, cells, slots⟩ (Value.ref b :: argsL).toArray) :
    (∃ (v : Option Value) (vm₁ : Vm) (B : Pt), s.WarmedH vm₁ ∧ Stand p l e R s m args below meth c B.U B.locs B.cells B.slots ∧ Post ⟨T.setVm vm₁, locs, cells, slots⟩ (Value.ref b :: argsL).toArray v B ∧
      ∀ target, Steps p.tables e below (B.U.setTop { g with pc := g.pc + 3, stack := v.toList ++ rest }) target → Steps p.tables e below (T.setTop g) target) ∨
    (∃ (q : Addr) (vm₁ : Vm) (B : Pt), s.WarmedH vm₁ ∧ Stand p l e R s m args below meth c B.U B.locs B.cells B.slots ∧ PostX ⟨T.setVm vm₁, locs, cells, slots⟩ (Value.ref b :: argsL).toArray q B ∧
      Steps p.tables e below (T.setTop g) ((B.U.setTop { g with stack := rest }).pushFrame (.throwing q))) := by
  obtain ⟨mk, methM, hnamed, hmethM, hstM, habM⟩ := Cond.instanceMethod_spec hinst
  obtain ⟨m8, methM', cM, hn8, hmethM', -, -, -, -, -, -, hsigM⟩ := Cond.codeWith_spec hcode
  cases Option.some.inj (hn8.symm.trans hnamed)
  cases hmethM.symm.trans hmethM'
  obtain ⟨c2, r2, m2, q1, q2, q3, q4, kP, hkP, hkPi⟩ := Cond.selects_spec hsel
  cases hcls.symm.trans q1
  cases (State.methodFound?_of_named hnamed hy).symm.trans q2
  cases hnamed.symm.trans q3
  have hselP : selectMethod e.platform s.vm cellB.cls mk = .method mk := by rw [Launch.admits_selectMethod X.admits]; exact q4
  obtain ⟨vm₁, X₁, hstep₁⟩ := X.invokevirtual hexec hown hlink hnamed hmethM hstM hkP hkPi hy (a := b) (cell := cellB) hcell
    (fun z h => by rw [h] at hobj; cases hobj) hselP hmethM habM hkP hkPi (g := g) hg (argsL := argsL) (rest := rest) (hlen _ hsigM) hstack hdg
  rcases hK m meth c ⟨T.setVm vm₁, locs, cells, slots⟩ { g with stack := rest } (.invokevirtual index) mk (Value.ref b :: argsL).toArray X₁ hg hsize hdg hW (X₁.named hnamed) (hpre vm₁ X₁.warmed) with ⟨v, B, X', hpost, hsteps⟩ | ⟨q, B, X', hpost, hsteps⟩
  · exact Or.inl ⟨v, vm₁, B, X₁.warmed, X', hpost, fun target h => hstep₁ _ fun acts => by rw [doInvoke_state]; exact hsteps.trans h⟩
  · exact Or.inr ⟨q, vm₁, B, X₁.warmed, X', hpost, hstep₁ _ fun acts => by rw [doInvoke_state]; exact hsteps⟩
theorem vx_callSX (X : Stand p l e R s m args below meth c T locs cells slots) (hexec : p.tables.exec = Jvm.exec) {own : String} {index : Nat} {y : MethodName} {bytes : ByteArray} {maxL : Nat} {ret : Option FieldType} {hh : List (Nat × Nat × Nat × Nat)}
    (hown : s.vm.findClass own = some m.cls) (hlink : (Cond.methodLink own index y).before args s = true) (hstat : (Cond.static y).before args s = true) (hinit : (Cond.initialized y.cls).before args s = true)
    (hcode : (Cond.codeWith y bytes maxL ret hh).before args s = true) (hy : y.cls ≠ "java/lang/invoke/MethodHandle" ∧ y.cls ≠ "java/lang/invoke/VarHandle")
    {W9 : Nat} {Pre : Pt → Array Value → Prop} {Post : Pt → Array Value → Option Value → Pt → Prop} {PostX : Pt → Array Value → Addr → Pt → Prop} (hK : vx_Back l R p e below s args y 3 W9 Pre Post PostX)
    {g : JFrame} (hg : g.method = m) (hsize : g.locals.size = c.maxLocals) {argsL rest : List Value} (hlen : ∀ sig, parseMethodDescriptor y.desc = some sig → argsL.length = sig.parameters.length)
    (hstack : g.stack = argsL.reverse ++ rest) (hW : 2 * g.monitorRoom + (rest.map fun v => v.category).sum ≤ W9) (hdg : decode c.code g.pc = .ok (.invokestatic index, 3))
    (hpre : ∀ vm₁, s.WarmedH vm₁ → Pre ⟨T.setVm vm₁, locs, cells, slots⟩ argsL.toArray) :
    (∃ (v : Option Value) (vm₁ : Vm) (B : Pt), s.WarmedH vm₁ ∧ Stand p l e R s m args below meth c B.U B.locs B.cells B.slots ∧ Post ⟨T.setVm vm₁, locs, cells, slots⟩ argsL.toArray v B ∧
      ∀ target, Steps p.tables e below (B.U.setTop { g with pc := g.pc + 3, stack := v.toList ++ rest }) target → Steps p.tables e below (T.setTop g) target) ∨
    (∃ (q : Addr) (vm₁ : Vm) (B : Pt), s.WarmedH vm₁ ∧ Stand p l e R s m args below meth c B.U B.locs B.cells B.slots ∧ PostX ⟨T.setVm vm₁, locs, cells, slots⟩ argsL.toArray q B ∧
      Steps p.tables e below (T.setTop g) ((B.U.setTop { g with stack := rest }).pushFrame (.throwing q))) := by
  obtain ⟨mk, methM, cM, hnamed, hmethM, -, -, -, -, -, -, hsigM⟩ := Cond.codeWith_spec hcode
  have hstatic : methM.isStatic = true := Cond.static_spec hnamed hmethM hstat
  obtain ⟨kP, hkP, -⟩ := className_of_methodNamed hnamed
  have hinitP : kP.init = .initialized := Cond.initialized_spec (findClass_of_methodNamed hnamed) hkP hinit
  obtain ⟨vm₁, X₁, hstep₁⟩ := X.invokestatic hexec hown hlink hnamed hmethM hstatic hkP hinitP hy (g := g) hg (argsL := argsL) (rest := rest) (hlen _ hsigM) hstack hdg
  rcases hK m meth c ⟨T.setVm vm₁, locs, cells, slots⟩ { g with stack := rest } (.invokestatic index) mk argsL.toArray X₁ hg hsize hdg hW (X₁.named hnamed) (hpre vm₁ X₁.warmed) with ⟨v, B, X', hpost, hsteps⟩ | ⟨q, B, X', hpost, hsteps⟩
  · exact Or.inl ⟨v, vm₁, B, X₁.warmed, X', hpost, fun target h => hstep₁ _ fun acts => by rw [doInvoke_state]; exact hsteps.trans h⟩
  · exact Or.inr ⟨q, vm₁, B, X₁.warmed, X', hpost, hstep₁ _ fun acts => by rw [doInvoke_state]; exact hsteps⟩
theorem vx_callVW (X : Stand p l e R s m args below meth c T locs cells slots) (hexec : p.tables.exec = Jvm.exec) {own C : String} {index : Nat} {y : MethodName} {bytes : ByteArray} {maxL : Nat} {ret : Option FieldType} {hh : List (Nat × Nat × Nat × Nat)}
    (hown : s.vm.findClass own = some m.cls) (hlink : (Cond.methodLink own index y).before args s = true) (hinst : (Cond.instanceMethod y).before args s = true) (hsel : (Cond.selects C y y).before args s = true)
    (hcode : (Cond.codeWith y bytes maxL ret hh).before args s = true) (hy : y.cls ≠ "java/lang/invoke/MethodHandle" ∧ y.cls ≠ "java/lang/invoke/VarHandle")
    {W9 : Nat} {Pre : Pt → Array Value → Prop} {Post : Pt → Array Value → Option Value → Pt → Prop} (hK : Back l R p e below s args y 3 W9 Pre Post)
    {b : Addr} {cellB : Cell} (hcell : T.heap[b]? = some cellB) (hobj : cellB.vm.isStatics = false) (hcls : s.vm.findClass C = some cellB.cls)
    {g : JFrame} (hg : g.method = m) (hsize : g.locals.size = c.maxLocals) {argsL rest : List Value} (hlen : ∀ sig, parseMethodDescriptor y.desc = some sig → argsL.length = sig.parameters.length)
    (hstack : g.stack = argsL.reverse ++ .ref b :: rest) (hW : 2 * g.monitorRoom + (rest.map fun v => v.category).sum ≤ W9) (hdg : decode c.code g.pc = .ok (.invokevirtual index, 3))
    (hpre : ∀ vm₁, s.WarmedH vm₁ → Pre ⟨T.setVm vm₁, locs, cells, slots⟩ (Value.ref b :: argsL).toArray) :
    ∃ (v : Option Value) (vm₁ : Vm) (B : Pt), s.WarmedH vm₁ ∧ Stand p l e R s m args below meth c B.U B.locs B.cells B.slots ∧ Post ⟨T.setVm vm₁, locs, cells, slots⟩ (Value.ref b :: argsL).toArray v B ∧
      ∀ target, Steps p.tables e below (B.U.setTop { g with pc := g.pc + 3, stack := v.toList ++ rest }) target → Steps p.tables e below (T.setTop g) target := by
  obtain ⟨mk, methM, hnamed, hmethM, hstM, habM⟩ := Cond.instanceMethod_spec hinst
  obtain ⟨m8, methM', cM, hn8, hmethM', -, -, -, -, -, -, hsigM⟩ := Cond.codeWith_spec hcode
  cases Option.some.inj (hn8.symm.trans hnamed)
  cases hmethM.symm.trans hmethM'
  obtain ⟨c2, r2, m2, q1, q2, q3, q4, kP, hkP, hkPi⟩ := Cond.selects_spec hsel
  cases hcls.symm.trans q1
  cases (State.methodFound?_of_named hnamed hy).symm.trans q2
  cases hnamed.symm.trans q3
  have hselP : selectMethod e.platform s.vm cellB.cls mk = .method mk := by rw [Launch.admits_selectMethod X.admits]; exact q4
  obtain ⟨vm₁, X₁, hstep₁⟩ := X.invokevirtual hexec hown hlink hnamed hmethM hstM hkP hkPi hy (a := b) (cell := cellB) hcell
    (fun z h => by rw [h] at hobj; cases hobj) hselP hmethM habM hkP hkPi (g := g) hg (argsL := argsL) (rest := rest) (hlen _ hsigM) hstack hdg
  obtain ⟨v, B, X', hpost, hsteps⟩ := hK m meth c ⟨T.setVm vm₁, locs, cells, slots⟩ { g with stack := rest } (.invokevirtual index) mk (Value.ref b :: argsL).toArray X₁ hg hsize hdg hW (X₁.named hnamed) (hpre vm₁ X₁.warmed)
  exact ⟨v, vm₁, B, X₁.warmed, X', hpost, fun target h => hstep₁ _ fun acts => by rw [doInvoke_state]; exact hsteps.trans h⟩
abbrev vx_CVW (R : Room) (s : State) (args : Array Value) (own C : String) (index : Nat) (y : MethodName) (bytes : ByteArray) (maxL : Nat) (ret : Option FieldType) (hh : List (Nat × Nat × Nat × Nat)) (ws : List Cond) (rm : Room) (mc ms n : Nat) : Prop :=
  (rm.cells = mc ∧ rm.slots = ms ∧ rm.frames + 1 ≤ R.frames ∧ 8 + (maxL + 11) + rm.locals ≤ R.locals ∧ (∀ w ∈ ws, ∀ (a' : Array Value) (U : State), s.WarmedH U.vm → w.before a' U = true) ∧ Cond.codeWith y bytes maxL ret hh ∈ ws) ∧
  (Cond.codeWith y bytes maxL ret hh).before args s = true ∧ (Cond.initialized y.cls).before args s = true ∧ (y.cls ≠ "java/lang/invoke/MethodHandle" ∧ y.cls ≠ "java/lang/invoke/VarHandle") ∧
  (∀ sig, parseMethodDescriptor y.desc = some sig → n = sig.parameters.length) ∧ (Cond.methodLink own index y).before args s = true ∧ (Cond.instanceMethod y).before args s = true ∧ (Cond.selects C y y).before args s = true
theorem vx_cwVW {own C : String} {index maxL mc ms : Nat} {y : MethodName} {bytes : ByteArray} {ret : Option FieldType} {hh : List (Nat × Nat × Nat × Nat)} {Ts ws ws' : List Cond} {rm : Room} (n : Nat) (ht : ∀ w ∈ Ts, w.before args s = true) (hT : GoodIn Ts (wsV own index C y ws)) (hw : ws = Cond.codeWith y bytes maxL ret hh :: ws') (hrc : rm.cells = mc) (hrs : rm.slots = ms)
    (hd : y.cls = C ∧ y.cls ≠ "java/lang/invoke/MethodHandle" ∧ y.cls ≠ "java/lang/invoke/VarHandle" ∧ (parseMethodDescriptor y.desc).map (fun d => d.parameters.length) = some n) (hR : rm.frames + 1 ≤ R.frames ∧ 8 + (maxL + 11) + rm.locals ≤ R.locals) :
    vx_CVW R s args own C index y bytes maxL ret hh ws rm mc ms n := by
  obtain ⟨hC, hd⟩ := hd
  subst hC
  have ok : ∀ w ∈ wsV own index y.cls y ws, w.before args s = true := fun w h => ht w (hT w h).1
  have hG : GoodIn Ts ws := fun w h => hT w (by unfold wsV; exact List.mem_append_right _ h)
  have hc : Cond.codeWith y bytes maxL ret hh ∈ ws := by rw [hw]; exact List.mem_cons_self
  refine ⟨⟨hrc, hrs, hR.1, hR.2, pay_in ht hG, hc⟩, ht _ (hG _ hc).1, ok _ (by simp [wsV]), ⟨hd.1, hd.2.1⟩, fun sig h => ?_, ok _ (by simp [wsV]), ok _ (by simp [wsV]), ok _ (by simp [wsV])⟩
  have h2 := hd.2.2
  rw [h] at h2
  exact (Option.some.inj h2).symm
theorem vx_runVW {y : MethodName} {bytes cc : ByteArray} {maxL nL mc ms n index : Nat} {ret : Option FieldType} {hh : List (Nat × Nat × Nat × Nat)} {ws : List Cond} {rm : Room} {Pc : Array Value → State → Prop} {Qc : Array Value → State → Outcome → State → Prop} {free : Addr → Prop} {Ts : List Cond} {own C : String} {b : Addr} {As rest : List Value} {g : JFrame}
    (S : CallFix p m c cc nL s args Ts own) (hM : Met l y ws rm Pc Qc mc ms free) (cw : vx_CVW R s args own C index y bytes maxL ret hh ws rm mc ms n) (hp : PreV s H C b Pc As)
    (hg : g.method = m) (hn : As.length = n) (hsize : g.locals.size = nL) (hstack : g.stack = As.reverse ++ .ref b :: rest) (hW : 2 * g.monitorRoom + (rest.map fun v => v.category).sum ≤ 8) (hdg : decode cc g.pc = .ok (.invokevirtual index, 3)) (hf : cells + mc ≤ R.cells ∧ slots + ms ≤ R.slots) :
    va_Run p l e R s m args below meth c H locs cells slots mc ms g rest (Qc (Value.ref b :: As).toArray) free := by
  obtain ⟨⟨hrc, hrs, hfr, hlo, hws, hcw⟩, hcode, hini, hy, hlen, hl, hin, hse⟩ := cw
  have hK : Back l R p e below s args y 3 8 (PreOf R mc ms Pc) (PostOf Qc mc ms free) := va_backW (hh := hh) (bytes := bytes) (maxL := maxL) (ret := ret) hM hp.1 hrc hrs hfr hlo hws hcw (fun a' U hW => word_at hW (Or.inl (by first | rfl | simp [Cond.onTables, Cond.keeps, Cond.steady])) hini)
  obtain ⟨hx, hb, hml, ho, -⟩ := S
  obtain ⟨-, ⟨cellB, hcB, hoB, hclB⟩, hPc⟩ := hp
  intro T hT X
  obtain ⟨v, vm₁, ⟨U', l2, c2, s2⟩, hW₁, X', ⟨g', mk, t, L, e1, e2, hq, h1, hL, h2, h3⟩, st⟩ := vx_callVW X hx (C := C) (hh := hh) (bytes := bytes) (maxL := maxL) (ret := ret) ho hl hin hse hcode hy hK (by rw [hT]; exact hcB) hoB hclB hg (hsize.trans hml.symm) (argsL := As) (rest := rest) (fun sig h => hn.trans (hlen sig h)) hstack hW (by rw [hb]; exact hdg)
    (fun vm₁ hW₁ => ⟨hf.1, hf.2, hPc (T.setVm vm₁) hT hW₁⟩)
  dsimp only [Pt.U, Pt.locs, Pt.cells, Pt.slots] at X' e1 e2 h1 h2 h3 st
  subst h1; subst h2; subst h3
  exact ⟨v, (T.setVm vm₁).calling g' mk (Value.ref b :: As).toArray, t, U', L, hT, X', hL, e1, e2, hq, st⟩
section
variable {y : MethodName} {bytes cc : ByteArray} {maxL nL mc ms n index : Nat} {ret : Option FieldType} {ws : List Cond} {rm : Room} {Pc : Array Value → State → Prop} {Qc : Array Value → State → Outcome → State → Prop} {XC : String → State → State → Prop} {free : Addr → Prop} {Ts : List Cond} {own C : String} {b : Addr} {As rest : List Value} {g : JFrame}
theorem vx_runVX {hh : List (Nat × Nat × Nat × Nat)} (S : CallFix p m c cc nL s args Ts own) (hM : vx_Met l y ws rm Pc Qc XC mc ms free) (cw : vx_CVW R s args own C index y bytes maxL ret hh ws rm mc ms n) (hp : PreV s H C b Pc As)
    (hg : g.method = m) (hn : As.length = n) (hsize : g.locals.size = nL) (hstack : g.stack = As.reverse ++ .ref b :: rest) (hW : 2 * g.monitorRoom + (rest.map fun v => v.category).sum ≤ 8) (hdg : decode cc g.pc = .ok (.invokevirtual index, 3)) (hf : cells + mc ≤ R.cells ∧ slots + ms ≤ R.slots) :
    vx_Run p l e R s m args below meth c H locs cells slots mc ms g rest (Qc (Value.ref b :: As).toArray) XC free := by
  obtain ⟨⟨hrc, hrs, hfr, hlo, hws, hcw⟩, hcode, hini, hy, hlen, hl, hin, hse⟩ := cw
  have hK : vx_Back l R p e below s args y 3 8 (PreOf R mc ms Pc) (PostOf Qc mc ms free) (vx_Post XC mc ms free) := vx_backW (hh := hh) (bytes := bytes) (maxL := maxL) (ret := ret) hM hp.1 hrc hrs hfr hlo hws hcw (fun a' U hW => word_at hW (Or.inl (by first | rfl | simp [Cond.onTables, Cond.keeps, Cond.steady])) hini)
  obtain ⟨hx, hb, hml, ho, -⟩ := S
  obtain ⟨-, ⟨cellB, hcB, hoB, hclB⟩, hPc⟩ := hp
  intro T hT X
  rcases vx_callVX X hx (C := C) (hh := hh) (bytes := bytes) (maxL := maxL) (ret := ret) ho hl hin hse hcode hy hK (by rw [hT]; exact hcB) hoB hclB hg (hsize.trans hml.symm) (argsL := As) (rest := rest) (fun sig h => hn.trans (hlen sig h)) hstack hW (by rw [hb]; exact hdg)
    (fun vm₁ hW₁ => ⟨hf.1, hf.2, hPc (T.setVm vm₁) hT hW₁⟩) with ⟨v, vm₁, ⟨U', l2, c2, s2⟩, hW₁, X', ⟨g', mk, t, L, e1, e2, hq, h1, hL, h2, h3⟩, st⟩ | ⟨q, vm₁, ⟨U', l2, c2, s2⟩, hW₁, X', ⟨g', mk, t, L, E, ce, e1, e2, hq, hce, hcv, hcl, h1, hL, h2, h3⟩, st⟩
  · dsimp only [Pt.U, Pt.locs, Pt.cells, Pt.slots] at X' e1 e2 h1 h2 h3 st
    subst h1; subst h2; subst h3
    exact Or.inl ⟨v, (T.setVm vm₁).calling g' mk (Value.ref b :: As).toArray, t, U', L, hT, X', hL, e1, e2, hq, st⟩
  · dsimp only [Pt.U, Pt.locs, Pt.cells, Pt.slots] at X' e1 e2 h1 h2 h3 st hcl
    subst h1; subst h2; subst h3
    exact Or.inr ⟨q, (T.setVm vm₁).calling g' mk (Value.ref b :: As).toArray, t, U', L, E, ce, hT, X', hL, e1, e2, hq, hce, hcv, vx_cls hW₁ hcl, st⟩
theorem vx_runSX {hh : List (Nat × Nat × Nat × Nat)} (S : CallFix p m c cc nL s args Ts own) (hM : vx_Met l y ws rm Pc Qc XC mc ms free) (cw : vx_CSW R s args own index y bytes maxL ret hh ws rm mc ms n) (hp : PreS s H Pc As)
    (hg : g.method = m) (hn : As.length = n) (hsize : g.locals.size = nL) (hstack : g.stack = As.reverse ++ rest) (hW : 2 * g.monitorRoom + (rest.map fun v => v.category).sum ≤ 8) (hdg : decode cc g.pc = .ok (.invokestatic index, 3)) (hf : cells + mc ≤ R.cells ∧ slots + ms ≤ R.slots) :
    vx_Run p l e R s m args below meth c H locs cells slots mc ms g rest (Qc As.toArray) XC free := by
  obtain ⟨⟨hrc, hrs, hfr, hlo, hws, hcw⟩, hcode, hini, hy, hlen, hl, hstt⟩ := cw
  have hK : vx_Back l R p e below s args y 3 8 (PreOf R mc ms Pc) (PostOf Qc mc ms free) (vx_Post XC mc ms free) := vx_backW (hh := hh) (bytes := bytes) (maxL := maxL) (ret := ret) hM hp.1 hrc hrs hfr hlo hws hcw (fun a' U hW => word_at hW (Or.inl (by first | rfl | simp [Cond.onTables, Cond.keeps, Cond.steady])) hini)
  obtain ⟨hx, hb, hml, ho, -⟩ := S
  intro T hT X
  rcases vx_callSX X hx (hh := hh) (bytes := bytes) (maxL := maxL) (ret := ret) ho hl hstt hini hcode hy hK hg (hsize.trans hml.symm) (argsL := As) (rest := rest) (fun sig h => hn.trans (hlen sig h)) hstack hW (by rw [hb]; exact hdg)
    (fun vm₁ hW₁ => ⟨hf.1, hf.2, hp.2 (T.setVm vm₁) hT hW₁⟩) with ⟨v, vm₁, ⟨U', l2, c2, s2⟩, hW₁, X', ⟨g', mk, t, L, e1, e2, hq, h1, hL, h2, h3⟩, st⟩ | ⟨q, vm₁, ⟨U', l2, c2, s2⟩, hW₁, X', ⟨g', mk, t, L, E, ce, e1, e2, hq, hce, hcv, hcl, h1, hL, h2, h3⟩, st⟩
  · dsimp only [Pt.U, Pt.locs, Pt.cells, Pt.slots] at X' e1 e2 h1 h2 h3 st
    subst h1; subst h2; subst h3
    exact Or.inl ⟨v, (T.setVm vm₁).calling g' mk As.toArray, t, U', L, hT, X', hL, e1, e2, hq, st⟩
  · dsimp only [Pt.U, Pt.locs, Pt.cells, Pt.slots] at X' e1 e2 h1 h2 h3 st hcl
    subst h1; subst h2; subst h3
    exact Or.inr ⟨q, (T.setVm vm₁).calling g' mk As.toArray, t, U', L, E, ce, hT, X', hL, e1, e2, hq, hce, hcv, vx_cls hW₁ hcl, st⟩
end
end VXH
theorem vx_ofWH {l : Launch} {y : MethodName} {ws ws' : List Cond} {rm : Room} {Pc : Array Value → State → Prop} {Qc : Array Value → State → Outcome → State → Prop} {XC : String → State → State → Prop} {mc ms : Nat} {free : Addr → Prop} {cc : ByteArray} {maxL : Nat} {ret : Option FieldType} {hh : List (Nat × Nat × Nat × Nat)}
    (hy : plainName y.cls = true) (hw : ws = Cond.codeWith y cc maxL ret hh :: ws')
    (body : ∀ p e s m args below meth c s₁, BodyLoose p l y (headSpec ws rm) cc maxL ret e s m args below meth c s₁ → c.maxLocals = maxL → Pc args s →
      W p l e (headSpec ws rm).room s m args below meth c s.heap [] 0 0 (vx_MQ below Qc XC args s mc ms free) (entryFrame m args maxL)) : vx_Met l y ws rm Pc Qc XC mc ms free := by
  refine MetFree.of_bodyS (code := cc) (maxLocals := maxL) (ret := ret) hy ?_ ?_
  · intro args s m h hn
    obtain ⟨m9, meth, c, hn9, h1, h2, h3, h4, -, h5, h6, -⟩ := Cond.codeWith_spec (atoms_spec (ws := ws) h _ (by rw [hw]; exact List.mem_cons_self))
    cases hn.symm.trans hn9
    exact ⟨meth, c, h1, h2, h3, h4, h5, h6⟩
  · intro p e s m args below meth c s₁ B hml hP _
    have hh0 : s₁.heap = s.heap := by rw [B.state]; rfl
    obtain ⟨t, a1, o, b1, b2, b3⟩ := body p e s m args below meth c s₁ B hml hP s₁ hh0 (Stand.of_body B)
    exact ⟨t, o, a1, b1, b2, b3⟩
/-! ===== END ===== -/
end
section
/-! ===== BEGIN printed: names, fields, word lists, decode rows ===== -/
def RX0 : String := "BoilerLog$Alarm"
def TX0 : u_T := fun k => match k with
  | 0 => ("BoilerLog$Alarm", "vessel", "I", true)
  | 1 => ("BoilerLog$Alarm", "limit", "I", true)
  | 2 => ("BoilerLog$Alarm", "high", "Z", true)
  | 3 => ("BoilerLog$Alarm", "valve", "I", true)
  | 4 => ("BoilerLog$Alarm", "opens", "Z", true)
  | _ => ("BoilerLog$Alarm", "state", "I", false)
def tyX0 : Nat → FieldType := fun k => match k with
  | 0 => .int
  | 1 => .int
  | 2 => .boolean
  | 3 => .int
  | 4 => .boolean
  | _ => .int
abbrev wsX00 : List Cond := u_ws RX0 TX0 6
theorem nmX0 : ∀ a, a < 6 → ∀ b, b < 6 → a ≠ b → (TX0 a).2.1 ≠ (TX0 b).2.1 := by decide +kernel
theorem tyX0_ok : ∀ k, k < 6 → parseFieldDescriptor (TX0 k).2.2.1 = some (tyX0 k) := by decide +kernel
abbrev cX0_init : ByteArray := prog_2_method_1_code
def yX0_init : MethodName := ⟨RX0, "<init>", "(IIZIZ)V"⟩
abbrev cX0_isMetBy : ByteArray := prog_2_method_2_code
def yX0_isMetBy : MethodName := ⟨RX0, "isMetBy", "(I)Z"⟩
def RX1 : String := "BoilerLog$Draft"
def TX1 : u_T := fun k => match k with
  | 0 => ("BoilerLog$Draft", "characters", "[C", true)
  | _ => ("BoilerLog$Draft", "count", "I", false)
def tyX1 : Nat → FieldType := fun k => match k with
  | 0 => .array .char
  | _ => .int
abbrev wsX10 : List Cond := u_ws RX1 TX1 2
theorem nmX1 : ∀ a, a < 2 → ∀ b, b < 2 → a ≠ b → (TX1 a).2.1 ≠ (TX1 b).2.1 := by decide +kernel
theorem tyX1_ok : ∀ k, k < 2 → parseFieldDescriptor (TX1 k).2.2.1 = some (tyX1 k) := by decide +kernel
abbrev cX1_init : ByteArray := prog_3_method_1_code
def yX1_init : MethodName := ⟨RX1, "<init>", "()V"⟩
abbrev cX1_length : ByteArray := prog_3_method_2_code
def yX1_length : MethodName := ⟨RX1, "length", "()I"⟩
abbrev cX1_put : ByteArray := prog_3_method_3_code
def yX1_put : MethodName := ⟨RX1, "put", "(IC)V"⟩
abbrev cX1_wipe : ByteArray := prog_3_method_4_code
def yX1_wipe : MethodName := ⟨RX1, "wipe", "()V"⟩
abbrev cX1_isComplete : ByteArray := prog_3_method_5_code
def yX1_isComplete : MethodName := ⟨RX1, "isComplete", "()Z"⟩
abbrev cX1_toSigns : ByteArray := prog_3_method_6_code
def yX1_toSigns : MethodName := ⟨RX1, "toSigns", "()[I"⟩
abbrev cX1_countHigh : ByteArray := prog_3_method_7_code
def yX1_countHigh : MethodName := ⟨RX1, "countHigh", "()I"⟩
abbrev cX1_isHigh : ByteArray := prog_3_method_8_code
def yX1_isHigh : MethodName := ⟨RX1, "isHigh", "(C)Z"⟩
abbrev cX1_isLow : ByteArray := prog_3_method_9_code
def yX1_isLow : MethodName := ⟨RX1, "isLow", "(C)Z"⟩
abbrev cX1_join : ByteArray := prog_3_method_10_code
def yX1_join : MethodName := ⟨RX1, "join", "(CC)I"⟩
def RX2 : String := "BoilerLog$Log"
def TX2 : u_T := fun k => match k with
  | 0 => ("BoilerLog$Log", "codes", "[I", false)
  | _ => ("BoilerLog$Log", "count", "I", false)
def tyX2 : Nat → FieldType := fun k => match k with
  | 0 => .array .int
  | _ => .int
abbrev wsX20 : List Cond := u_ws RX2 TX2 2
theorem nmX2 : ∀ a, a < 2 → ∀ b, b < 2 → a ≠ b → (TX2 a).2.1 ≠ (TX2 b).2.1 := by decide +kernel
theorem tyX2_ok : ∀ k, k < 2 → parseFieldDescriptor (TX2 k).2.2.1 = some (tyX2 k) := by decide +kernel
abbrev cX2_init : ByteArray := prog_4_method_1_code
def yX2_init : MethodName := ⟨RX2, "<init>", "()V"⟩
abbrev cX2_size : ByteArray := prog_4_method_2_code
def yX2_size : MethodName := ⟨RX2, "size", "()I"⟩
abbrev cX2_note : ByteArray := prog_4_method_3_code
def yX2_note : MethodName := ⟨RX2, "note", "(IIII)V"⟩
abbrev cX2_noteTurn : ByteArray := prog_4_method_4_code
def yX2_noteTurn : MethodName := ⟨RX2, "noteTurn", "(IIIZ)V"⟩
abbrev cX2_codeAt : ByteArray := prog_4_method_5_code
def yX2_codeAt : MethodName := ⟨RX2, "codeAt", "(I)I"⟩
abbrev cX2_kindAt : ByteArray := prog_4_method_6_code
def yX2_kindAt : MethodName := ⟨RX2, "kindAt", "(I)I"⟩
abbrev cX2_whatAt : ByteArray := prog_4_method_7_code
def yX2_whatAt : MethodName := ⟨RX2, "whatAt", "(I)I"⟩
abbrev cX2_valveTurnedAt : ByteArray := prog_4_method_8_code
def yX2_valveTurnedAt : MethodName := ⟨RX2, "valveTurnedAt", "(I)I"⟩
abbrev cX2_opensAt : ByteArray := prog_4_method_9_code
def yX2_opensAt : MethodName := ⟨RX2, "opensAt", "(I)Z"⟩
def RX3 : String := "BoilerLog$Message"
def TX3 : u_T := fun k => match k with
  | _ => ("BoilerLog$Message", "content", "[I", true)
def tyX3 : Nat → FieldType := fun k => match k with
  | _ => .array .int
abbrev wsX30 : List Cond := u_ws RX3 TX3 1
theorem nmX3 : ∀ a, a < 1 → ∀ b, b < 1 → a ≠ b → (TX3 a).2.1 ≠ (TX3 b).2.1 := by decide +kernel
theorem tyX3_ok : ∀ k, k < 1 → parseFieldDescriptor (TX3 k).2.2.1 = some (tyX3 k) := by decide +kernel
abbrev cX3_init : ByteArray := prog_5_method_1_code
def yX3_init : MethodName := ⟨RX3, "<init>", "([I)V"⟩
abbrev cX3_length : ByteArray := prog_5_method_2_code
def yX3_length : MethodName := ⟨RX3, "length", "()I"⟩
abbrev cX3_get : ByteArray := prog_5_method_3_code
def yX3_get : MethodName := ⟨RX3, "get", "(I)I"⟩
abbrev cX3_personCalled : ByteArray := prog_5_method_4_code
def yX3_personCalled : MethodName := ⟨RX3, "personCalled", "()I"⟩
def RX4 : String := "BoilerLog$Tag"
def TX4 : u_T := fun k => match k with
  | 0 => ("BoilerLog$Tag", "owner", "I", true)
  | 1 => ("BoilerLog$Tag", "valve", "I", true)
  | 2 => ("BoilerLog$Tag", "firstAsker", "I", false)
  | _ => ("BoilerLog$Tag", "off", "Z", false)
def tyX4 : Nat → FieldType := fun k => match k with
  | 0 => .int
  | 1 => .int
  | 2 => .int
  | _ => .boolean
abbrev wsX40 : List Cond := u_ws RX4 TX4 4
theorem nmX4 : ∀ a, a < 4 → ∀ b, b < 4 → a ≠ b → (TX4 a).2.1 ≠ (TX4 b).2.1 := by decide +kernel
theorem tyX4_ok : ∀ k, k < 4 → parseFieldDescriptor (TX4 k).2.2.1 = some (tyX4 k) := by decide +kernel
abbrev cX4_init : ByteArray := prog_6_method_1_code
def yX4_init : MethodName := ⟨RX4, "<init>", "(II)V"⟩
def RX5 : String := "BoilerLog$Valve"
def TX5 : u_T := fun k => match k with
  | 0 => ("BoilerLog$Valve", "open", "Z", false)
  | 1 => ("BoilerLog$Valve", "from", "I", false)
  | _ => ("BoilerLog$Valve", "to", "I", false)
def tyX5 : Nat → FieldType := fun k => match k with
  | 0 => .boolean
  | 1 => .int
  | _ => .int
abbrev wsX50 : List Cond := u_ws RX5 TX5 3
theorem nmX5 : ∀ a, a < 3 → ∀ b, b < 3 → a ≠ b → (TX5 a).2.1 ≠ (TX5 b).2.1 := by decide +kernel
theorem tyX5_ok : ∀ k, k < 3 → parseFieldDescriptor (TX5 k).2.2.1 = some (tyX5 k) := by decide +kernel
abbrev cX5_init : ByteArray := prog_7_method_1_code
def yX5_init : MethodName := ⟨RX5, "<init>", "()V"⟩
def RX6 : String := "BoilerLog"
def TX6 : u_T := fun k => match k with
  | 0 => ("BoilerLog", "valves", "[LBoilerLog$Valve;", true)
  | 1 => ("BoilerLog", "levels", "[I", true)
  | 2 => ("BoilerLog", "gone", "[Z", true)
  | 3 => ("BoilerLog", "entriesRead", "[I", true)
  | 4 => ("BoilerLog", "tags", "Ljava/util/ArrayList;", true)
  | 5 => ("BoilerLog", "alarms", "Ljava/util/ArrayList;", true)
  | 6 => ("BoilerLog", "posted", "Ljava/util/ArrayList;", true)
  | 7 => ("BoilerLog", "tasks", "[I", true)
  | 8 => ("BoilerLog", "log", "LBoilerLog$Log;", true)
  | 9 => ("BoilerLog", "draft", "LBoilerLog$Draft;", true)
  | 10 => ("BoilerLog", "now", "I", false)
  | 11 => ("BoilerLog", "entriesAtShiftStart", "I", false)
  | 12 => ("BoilerLog", "lost", "I", false)
  | _ => ("BoilerLog", "threads", "I", false)
def tyX6 : Nat → FieldType := fun k => match k with
  | 0 => .array (.object "BoilerLog$Valve")
  | 1 => .array .int
  | 2 => .array .boolean
  | 3 => .array .int
  | 4 => .object "java/util/ArrayList"
  | 5 => .object "java/util/ArrayList"
  | 6 => .object "java/util/ArrayList"
  | 7 => .array .int
  | 8 => .object "BoilerLog$Log"
  | 9 => .object "BoilerLog$Draft"
  | 10 => .int
  | 11 => .int
  | 12 => .int
  | _ => .int
abbrev wsX60 : List Cond := u_ws RX6 TX6 14
theorem nmX6 : ∀ a, a < 14 → ∀ b, b < 14 → a ≠ b → (TX6 a).2.1 ≠ (TX6 b).2.1 := by decide +kernel
theorem tyX6_ok : ∀ k, k < 14 → parseFieldDescriptor (TX6 k).2.2.1 = some (tyX6 k) := by decide +kernel
abbrev cX6_init : ByteArray := prog_1_method_1_code
def yX6_init : MethodName := ⟨RX6, "<init>", "()V"⟩
abbrev cX6_pipe : ByteArray := prog_1_method_2_code
def yX6_pipe : MethodName := ⟨RX6, "pipe", "(III)I"⟩
abbrev cX6_turn : ByteArray := prog_1_method_3_code
def yX6_turn : MethodName := ⟨RX6, "turn", "(IIZ)Z"⟩
abbrev cX6_obstacle : ByteArray := prog_1_method_4_code
def yX6_obstacle : MethodName := ⟨RX6, "obstacle", "(II)I"⟩
abbrev cX6_isOpen : ByteArray := prog_1_method_5_code
def yX6_isOpen : MethodName := ⟨RX6, "isOpen", "(I)Z"⟩
abbrev cX6_isOpenByLog : ByteArray := prog_1_method_6_code
def yX6_isOpenByLog : MethodName := ⟨RX6, "isOpenByLog", "(I)Z"⟩
abbrev cX6_level : ByteArray := prog_1_method_7_code
def yX6_level : MethodName := ⟨RX6, "level", "(I)I"⟩
abbrev cX6_spilled : ByteArray := prog_1_method_8_code
def yX6_spilled : MethodName := ⟨RX6, "spilled", "()I"⟩
abbrev cX6_hang : ByteArray := prog_1_method_9_code
def yX6_hang : MethodName := ⟨RX6, "hang", "(II)I"⟩
abbrev cX6_takeOff : ByteArray := prog_1_method_10_code
def yX6_takeOff : MethodName := ⟨RX6, "takeOff", "(II)Z"⟩
abbrev cX6_valveOf : ByteArray := prog_1_method_11_code
def yX6_valveOf : MethodName := ⟨RX6, "valveOf", "(I)I"⟩
abbrev cX6_ownerOf : ByteArray := prog_1_method_12_code
def yX6_ownerOf : MethodName := ⟨RX6, "ownerOf", "(I)I"⟩
abbrev cX6_tagsByLog : ByteArray := prog_1_method_13_code
def yX6_tagsByLog : MethodName := ⟨RX6, "tagsByLog", "(I)I"⟩
abbrev cX6_read : ByteArray := prog_1_method_14_code
def yX6_read : MethodName := ⟨RX6, "read", "(I)I"⟩
abbrev cX6_leave : ByteArray := prog_1_method_15_code
def yX6_leave : MethodName := ⟨RX6, "leave", "(I)I"⟩
abbrev cX6_canAct : ByteArray := prog_1_method_16_code
def yX6_canAct : MethodName := ⟨RX6, "canAct", "(I)Z"⟩
abbrev cX6_advance : ByteArray := prog_1_method_17_code
def yX6_advance : MethodName := ⟨RX6, "advance", "(I)I"⟩
abbrev cX6_hour : ByteArray := prog_1_method_18_code
def yX6_hour : MethodName := ⟨RX6, "hour", "()I"⟩
abbrev cX6_entries : ByteArray := prog_1_method_19_code
def yX6_entries : MethodName := ⟨RX6, "entries", "()I"⟩
abbrev cX6_entryAt : ByteArray := prog_1_method_20_code
def yX6_entryAt : MethodName := ⟨RX6, "entryAt", "(I)I"⟩
abbrev cX6_alarm : ByteArray := prog_1_method_21_code
def yX6_alarm : MethodName := ⟨RX6, "alarm", "(IIZIZ)I"⟩
abbrev cX6_stateOf : ByteArray := prog_1_method_22_code
def yX6_stateOf : MethodName := ⟨RX6, "stateOf", "(I)I"⟩
abbrev cX6_insert : ByteArray := prog_1_method_23_code
def yX6_insert : MethodName := ⟨RX6, "insert", "(IC)I"⟩
abbrev cX6_clear : ByteArray := prog_1_method_24_code
def yX6_clear : MethodName := ⟨RX6, "clear", "()I"⟩
abbrev cX6_isWhole : ByteArray := prog_1_method_25_code
def yX6_isWhole : MethodName := ⟨RX6, "isWhole", "()Z"⟩
abbrev cX6_post : ByteArray := prog_1_method_26_code
def yX6_post : MethodName := ⟨RX6, "post", "(II)I"⟩
abbrev cX6_finish : ByteArray := prog_1_method_27_code
def yX6_finish : MethodName := ⟨RX6, "finish", "(II)V"⟩
abbrev cX6_taskOf : ByteArray := prog_1_method_28_code
def yX6_taskOf : MethodName := ⟨RX6, "taskOf", "(I)I"⟩
abbrev cX6_messages : ByteArray := prog_1_method_29_code
def yX6_messages : MethodName := ⟨RX6, "messages", "()I"⟩
abbrev cX6_signs : ByteArray := prog_1_method_30_code
def yX6_signs : MethodName := ⟨RX6, "signs", "(I)I"⟩
abbrev cX6_signAt : ByteArray := prog_1_method_31_code
def yX6_signAt : MethodName := ⟨RX6, "signAt", "(II)I"⟩
abbrev cX6_signBack : ByteArray := prog_1_method_32_code
def yX6_signBack : MethodName := ⟨RX6, "signBack", "(II)I"⟩
abbrev cX6_checkPerson : ByteArray := prog_1_method_33_code
def yX6_checkPerson : MethodName := ⟨RX6, "checkPerson", "(I)V"⟩
abbrev cX6_checkValve : ByteArray := prog_1_method_34_code
def yX6_checkValve : MethodName := ⟨RX6, "checkValve", "(I)V"⟩
abbrev cX6_checkVessel : ByteArray := prog_1_method_35_code
def yX6_checkVessel : MethodName := ⟨RX6, "checkVessel", "(I)V"⟩
abbrev cX6_checkTag : ByteArray := prog_1_method_36_code
def yX6_checkTag : MethodName := ⟨RX6, "checkTag", "(I)V"⟩
abbrev cX6_checkThread : ByteArray := prog_1_method_37_code
def yX6_checkThread : MethodName := ⟨RX6, "checkThread", "(I)V"⟩
abbrev cX6_checkMessage : ByteArray := prog_1_method_38_code
def yX6_checkMessage : MethodName := ⟨RX6, "checkMessage", "(I)V"⟩
abbrev cX6_checkPlace : ByteArray := prog_1_method_39_code
def yX6_checkPlace : MethodName := ⟨RX6, "checkPlace", "(I)V"⟩
abbrev cX6_checkNotGone : ByteArray := prog_1_method_40_code
def yX6_checkNotGone : MethodName := ⟨RX6, "checkNotGone", "(I)V"⟩
abbrev cX6_isVessel : ByteArray := prog_1_method_41_code
def yX6_isVessel : MethodName := ⟨RX6, "isVessel", "(I)Z"⟩
abbrev cX6_isEnd : ByteArray := prog_1_method_42_code
def yX6_isEnd : MethodName := ⟨RX6, "isEnd", "(I)Z"⟩
abbrev cX6_isOnDuty : ByteArray := prog_1_method_43_code
def yX6_isOnDuty : MethodName := ⟨RX6, "isOnDuty", "(I)Z"⟩
abbrev cX6_isAble : ByteArray := prog_1_method_44_code
def yX6_isAble : MethodName := ⟨RX6, "isAble", "(I)Z"⟩
abbrev cX6_findObstacle : ByteArray := prog_1_method_45_code
def yX6_findObstacle : MethodName := ⟨RX6, "findObstacle", "(II)I"⟩
abbrev cX6_hasTagOfAnother : ByteArray := prog_1_method_46_code
def yX6_hasTagOfAnother : MethodName := ⟨RX6, "hasTagOfAnother", "(II)Z"⟩
abbrev cX6_countTagsOn : ByteArray := prog_1_method_47_code
def yX6_countTagsOn : MethodName := ⟨RX6, "countTagsOn", "(I)I"⟩
abbrev cX6_wasHungOn : ByteArray := prog_1_method_48_code
def yX6_wasHungOn : MethodName := ⟨RX6, "wasHungOn", "(II)Z"⟩
abbrev cX6_isFirstToAsk : ByteArray := prog_1_method_49_code
def yX6_isFirstToAsk : MethodName := ⟨RX6, "isFirstToAsk", "(LBoilerLog$Tag;I)Z"⟩
abbrev cX6_setValve : ByteArray := prog_1_method_50_code
def yX6_setValve : MethodName := ⟨RX6, "setValve", "(IIZ)Z"⟩
abbrev cX6_assign : ByteArray := prog_1_method_51_code
def yX6_assign : MethodName := ⟨RX6, "assign", "(II)V"⟩
abbrev cX6_endHour : ByteArray := prog_1_method_52_code
def yX6_endHour : MethodName := ⟨RX6, "endHour", "()V"⟩
abbrev cX6_leadOn : ByteArray := prog_1_method_53_code
def yX6_leadOn : MethodName := ⟨RX6, "leadOn", "(II)V"⟩
abbrev cX6_watch : ByteArray := prog_1_method_54_code
def yX6_watch : MethodName := ⟨RX6, "watch", "(I)V"⟩
def RX7 : String := "BoilerLogModel"
def TX7 : u_T := fun k => match k with
  | 0 => ("BoilerLogModel", "thrown", "I", false)
  | 1 => ("BoilerLogModel", "hour", "I", false)
  | 2 => ("BoilerLogModel", "entries", "I", false)
  | 3 => ("BoilerLogModel", "entry", "[J", true)
  | 4 => ("BoilerLogModel", "atShift", "I", false)
  | 5 => ("BoilerLogModel", "hasRead", "[I", true)
  | 6 => ("BoilerLogModel", "hasLeft", "[Z", true)
  | 7 => ("BoilerLogModel", "isOpen", "[Z", true)
  | 8 => ("BoilerLogModel", "from", "[I", true)
  | 9 => ("BoilerLogModel", "to", "[I", true)
  | 10 => ("BoilerLogModel", "level", "[I", true)
  | 11 => ("BoilerLogModel", "spilled", "I", false)
  | 12 => ("BoilerLogModel", "tags", "I", false)
  | 13 => ("BoilerLogModel", "hangsOn", "[I", true)
  | 14 => ("BoilerLogModel", "owner", "[I", true)
  | 15 => ("BoilerLogModel", "asked", "[I", true)
  | 16 => ("BoilerLogModel", "alarms", "I", false)
  | 17 => ("BoilerLogModel", "watched", "[I", true)
  | 18 => ("BoilerLogModel", "limit", "[I", true)
  | 19 => ("BoilerLogModel", "isHigh", "[Z", true)
  | 20 => ("BoilerLogModel", "turns", "[I", true)
  | 21 => ("BoilerLogModel", "opens", "[Z", true)
  | 22 => ("BoilerLogModel", "state", "[I", true)
  | 23 => ("BoilerLogModel", "length", "I", false)
  | 24 => ("BoilerLogModel", "text", "[C", true)
  | 25 => ("BoilerLogModel", "messages", "I", false)
  | 26 => ("BoilerLogModel", "many", "[I", true)
  | 27 => ("BoilerLogModel", "said", "[C", true)
  | 28 => ("BoilerLogModel", "threads", "I", false)
  | 29 => ("BoilerLogModel", "task", "[I", true)
  | 30 => ("BoilerLogModel", "signs", "I", false)
  | _ => ("BoilerLogModel", "sign", "[I", true)
def tyX7 : Nat → FieldType := fun k => match k with
  | 0 => .int
  | 1 => .int
  | 2 => .int
  | 3 => .array .long
  | 4 => .int
  | 5 => .array .int
  | 6 => .array .boolean
  | 7 => .array .boolean
  | 8 => .array .int
  | 9 => .array .int
  | 10 => .array .int
  | 11 => .int
  | 12 => .int
  | 13 => .array .int
  | 14 => .array .int
  | 15 => .array .int
  | 16 => .int
  | 17 => .array .int
  | 18 => .array .int
  | 19 => .array .boolean
  | 20 => .array .int
  | 21 => .array .boolean
  | 22 => .array .int
  | 23 => .int
  | 24 => .array .char
  | 25 => .int
  | 26 => .array .int
  | 27 => .array .char
  | 28 => .int
  | 29 => .array .int
  | 30 => .int
  | _ => .array .int
abbrev wsX70 : List Cond := u_ws RX7 TX7 32
theorem nmX7 : ∀ a, a < 32 → ∀ b, b < 32 → a ≠ b → (TX7 a).2.1 ≠ (TX7 b).2.1 := by decide +kernel
theorem tyX7_ok : ∀ k, k < 32 → parseFieldDescriptor (TX7 k).2.2.1 = some (tyX7 k) := by decide +kernel
abbrev cX7_init : ByteArray := prog_9_method_1_code
def yX7_init : MethodName := ⟨RX7, "<init>", "()V"⟩
abbrev cX7_thrown : ByteArray := prog_9_method_2_code
def yX7_thrown : MethodName := ⟨RX7, "thrown", "()I"⟩
abbrev cX7_in : ByteArray := prog_9_method_3_code
def yX7_in : MethodName := ⟨RX7, "in", "(III)Z"⟩
abbrev cX7_isPerson : ByteArray := prog_9_method_4_code
def yX7_isPerson : MethodName := ⟨RX7, "isPerson", "(I)Z"⟩
abbrev cX7_isValve : ByteArray := prog_9_method_5_code
def yX7_isValve : MethodName := ⟨RX7, "isValve", "(I)Z"⟩
abbrev cX7_isVessel : ByteArray := prog_9_method_6_code
def yX7_isVessel : MethodName := ⟨RX7, "isVessel", "(I)Z"⟩
abbrev cX7_isTag : ByteArray := prog_9_method_7_code
def yX7_isTag : MethodName := ⟨RX7, "isTag", "(I)Z"⟩
abbrev cX7_notes : ByteArray := prog_9_method_8_code
def yX7_notes : MethodName := ⟨RX7, "notes", "(III)V"⟩
abbrev cX7_isOnDuty : ByteArray := prog_9_method_9_code
def yX7_isOnDuty : MethodName := ⟨RX7, "isOnDuty", "(I)Z"⟩
abbrev cX7_may : ByteArray := prog_9_method_10_code
def yX7_may : MethodName := ⟨RX7, "may", "(I)Z"⟩
abbrev cX7_tagsOn : ByteArray := prog_9_method_11_code
def yX7_tagsOn : MethodName := ⟨RX7, "tagsOn", "(I)I"⟩
abbrev cX7_isBarred : ByteArray := prog_9_method_12_code
def yX7_isBarred : MethodName := ⟨RX7, "isBarred", "(II)Z"⟩
abbrev cX7_turnsTo : ByteArray := prog_9_method_13_code
def yX7_turnsTo : MethodName := ⟨RX7, "turnsTo", "(IIZ)Z"⟩
abbrev cX7_pipe : ByteArray := prog_9_method_14_code
def yX7_pipe : MethodName := ⟨RX7, "pipe", "(III)I"⟩
abbrev cX7_bars : ByteArray := prog_9_method_15_code
def yX7_bars : MethodName := ⟨RX7, "bars", "(II)I"⟩
abbrev cX7_turn : ByteArray := prog_9_method_16_code
def yX7_turn : MethodName := ⟨RX7, "turn", "(IIZ)Z"⟩
abbrev cX7_obstacle : ByteArray := prog_9_method_17_code
def yX7_obstacle : MethodName := ⟨RX7, "obstacle", "(II)I"⟩
abbrev cX7_isOpen : ByteArray := prog_9_method_18_code
def yX7_isOpen : MethodName := ⟨RX7, "isOpen", "(I)Z"⟩
abbrev cX7_isOpenByLog : ByteArray := prog_9_method_19_code
def yX7_isOpenByLog : MethodName := ⟨RX7, "isOpenByLog", "(I)Z"⟩
abbrev cX7_level : ByteArray := prog_9_method_20_code
def yX7_level : MethodName := ⟨RX7, "level", "(I)I"⟩
abbrev cX7_spilled : ByteArray := prog_9_method_21_code
def yX7_spilled : MethodName := ⟨RX7, "spilled", "()I"⟩
abbrev cX7_hang : ByteArray := prog_9_method_22_code
def yX7_hang : MethodName := ⟨RX7, "hang", "(II)I"⟩
abbrev cX7_takeOff : ByteArray := prog_9_method_23_code
def yX7_takeOff : MethodName := ⟨RX7, "takeOff", "(II)Z"⟩
abbrev cX7_valveOf : ByteArray := prog_9_method_24_code
def yX7_valveOf : MethodName := ⟨RX7, "valveOf", "(I)I"⟩
abbrev cX7_ownerOf : ByteArray := prog_9_method_25_code
def yX7_ownerOf : MethodName := ⟨RX7, "ownerOf", "(I)I"⟩
abbrev cX7_tagsByLog : ByteArray := prog_9_method_26_code
def yX7_tagsByLog : MethodName := ⟨RX7, "tagsByLog", "(I)I"⟩
abbrev cX7_read : ByteArray := prog_9_method_27_code
def yX7_read : MethodName := ⟨RX7, "read", "(I)I"⟩
abbrev cX7_leave : ByteArray := prog_9_method_28_code
def yX7_leave : MethodName := ⟨RX7, "leave", "(I)I"⟩
abbrev cX7_canAct : ByteArray := prog_9_method_29_code
def yX7_canAct : MethodName := ⟨RX7, "canAct", "(I)Z"⟩
abbrev cX7_leads : ByteArray := prog_9_method_30_code
def yX7_leads : MethodName := ⟨RX7, "leads", "(I)V"⟩
abbrev cX7_watches : ByteArray := prog_9_method_31_code
def yX7_watches : MethodName := ⟨RX7, "watches", "(I)V"⟩
abbrev cX7_ends : ByteArray := prog_9_method_32_code
def yX7_ends : MethodName := ⟨RX7, "ends", "()V"⟩
abbrev cX7_advance : ByteArray := prog_9_method_33_code
def yX7_advance : MethodName := ⟨RX7, "advance", "(I)I"⟩
abbrev cX7_hour : ByteArray := prog_9_method_34_code
def yX7_hour : MethodName := ⟨RX7, "hour", "()I"⟩
abbrev cX7_entries : ByteArray := prog_9_method_35_code
def yX7_entries : MethodName := ⟨RX7, "entries", "()I"⟩
abbrev cX7_entryAt : ByteArray := prog_9_method_36_code
def yX7_entryAt : MethodName := ⟨RX7, "entryAt", "(I)I"⟩
abbrev cX7_alarm : ByteArray := prog_9_method_37_code
def yX7_alarm : MethodName := ⟨RX7, "alarm", "(IIZIZ)I"⟩
abbrev cX7_stateOf : ByteArray := prog_9_method_38_code
def yX7_stateOf : MethodName := ⟨RX7, "stateOf", "(I)I"⟩
abbrev cX7_insert : ByteArray := prog_9_method_39_code
def yX7_insert : MethodName := ⟨RX7, "insert", "(IC)I"⟩
abbrev cX7_clear : ByteArray := prog_9_method_40_code
def yX7_clear : MethodName := ⟨RX7, "clear", "()I"⟩
abbrev cX7_isHighOne : ByteArray := prog_9_method_41_code
def yX7_isHighOne : MethodName := ⟨RX7, "isHighOne", "(C)Z"⟩
abbrev cX7_isLowOne : ByteArray := prog_9_method_42_code
def yX7_isLowOne : MethodName := ⟨RX7, "isLowOne", "(C)Z"⟩
abbrev cX7_isGood : ByteArray := prog_9_method_43_code
def yX7_isGood : MethodName := ⟨RX7, "isGood", "()Z"⟩
abbrev cX7_isWhole : ByteArray := prog_9_method_44_code
def yX7_isWhole : MethodName := ⟨RX7, "isWhole", "()Z"⟩
abbrev cX7_isThread : ByteArray := prog_9_method_45_code
def yX7_isThread : MethodName := ⟨RX7, "isThread", "(I)Z"⟩
abbrev cX7_meant : ByteArray := prog_9_method_46_code
def yX7_meant : MethodName := ⟨RX7, "meant", "()I"⟩
abbrev cX7_post : ByteArray := prog_9_method_47_code
def yX7_post : MethodName := ⟨RX7, "post", "(II)I"⟩
abbrev cX7_finish : ByteArray := prog_9_method_48_code
def yX7_finish : MethodName := ⟨RX7, "finish", "(II)V"⟩
abbrev cX7_taskOf : ByteArray := prog_9_method_49_code
def yX7_taskOf : MethodName := ⟨RX7, "taskOf", "(I)I"⟩
abbrev cX7_messages : ByteArray := prog_9_method_50_code
def yX7_messages : MethodName := ⟨RX7, "messages", "()I"⟩
abbrev cX7_laysSigns : ByteArray := prog_9_method_51_code
def yX7_laysSigns : MethodName := ⟨RX7, "laysSigns", "(I)V"⟩
abbrev cX7_asksMessage : ByteArray := prog_9_method_52_code
def yX7_asksMessage : MethodName := ⟨RX7, "asksMessage", "(I)Z"⟩
abbrev cX7_signs : ByteArray := prog_9_method_53_code
def yX7_signs : MethodName := ⟨RX7, "signs", "(I)I"⟩
abbrev cX7_signOf : ByteArray := prog_9_method_54_code
def yX7_signOf : MethodName := ⟨RX7, "signOf", "(IIZ)I"⟩
abbrev cX7_signAt : ByteArray := prog_9_method_55_code
def yX7_signAt : MethodName := ⟨RX7, "signAt", "(II)I"⟩
abbrev cX7_signBack : ByteArray := prog_9_method_56_code
def yX7_signBack : MethodName := ⟨RX7, "signBack", "(II)I"⟩
def RJx145de : String := "java/io/Serializable"
def TJx145de : u_T := fun k => match k with
  | _ => ("", "", "", false)
def tyJx145de : Nat → FieldType := fun k => match k with
  | _ => .int
abbrev wsJx145de0 : List Cond := u_ws RJx145de TJx145de 0
theorem nmJx145de : ∀ a, a < 0 → ∀ b, b < 0 → a ≠ b → (TJx145de a).2.1 ≠ (TJx145de b).2.1 := by decide +kernel
theorem tyJx145de_ok : ∀ k, k < 0 → parseFieldDescriptor (TJx145de k).2.2.1 = some (tyJx145de k) := by decide +kernel
def RJx8e188 : String := "java/lang/Cloneable"
def TJx8e188 : u_T := fun k => match k with
  | _ => ("", "", "", false)
def tyJx8e188 : Nat → FieldType := fun k => match k with
  | _ => .int
abbrev wsJx8e1880 : List Cond := u_ws RJx8e188 TJx8e188 0
theorem nmJx8e188 : ∀ a, a < 0 → ∀ b, b < 0 → a ≠ b → (TJx8e188 a).2.1 ≠ (TJx8e188 b).2.1 := by decide +kernel
theorem tyJx8e188_ok : ∀ k, k < 0 → parseFieldDescriptor (TJx8e188 k).2.2.1 = some (tyJx8e188 k) := by decide +kernel
def RJxab1ab : String := "java/lang/Iterable"
def TJxab1ab : u_T := fun k => match k with
  | _ => ("", "", "", false)
def tyJxab1ab : Nat → FieldType := fun k => match k with
  | _ => .int
abbrev wsJxab1ab0 : List Cond := u_ws RJxab1ab TJxab1ab 0
theorem nmJxab1ab : ∀ a, a < 0 → ∀ b, b < 0 → a ≠ b → (TJxab1ab a).2.1 ≠ (TJxab1ab b).2.1 := by decide +kernel
theorem tyJxab1ab_ok : ∀ k, k < 0 → parseFieldDescriptor (TJxab1ab k).2.2.1 = some (tyJxab1ab k) := by decide +kernel
def RJ9 : String := "java/lang/Math"
def TJ9 : u_T := fun k => match k with
  | _ => ("", "", "", false)
def tyJ9 : Nat → FieldType := fun k => match k with
  | _ => .int
abbrev wsJ90 : List Cond := u_ws RJ9 TJ9 0
theorem nmJ9 : ∀ a, a < 0 → ∀ b, b < 0 → a ≠ b → (TJ9 a).2.1 ≠ (TJ9 b).2.1 := by decide +kernel
theorem tyJ9_ok : ∀ k, k < 0 → parseFieldDescriptor (TJ9 k).2.2.1 = some (tyJ9 k) := by decide +kernel
abbrev cJ9_max_7cf53 : ByteArray := prog_17_method_65_code
def yJ9_max_7cf53 : MethodName := ⟨RJ9, "max", "(II)I"⟩
abbrev cJ9_min_7cf53 : ByteArray := prog_17_method_69_code
def yJ9_min_7cf53 : MethodName := ⟨RJ9, "min", "(II)I"⟩
def RJ0 : String := "java/lang/String"
def TJ0 : u_T := fun k => match k with
  | _ => ("", "", "", false)
def tyJ0 : Nat → FieldType := fun k => match k with
  | _ => .int
abbrev wsJ00 : List Cond := u_ws RJ0 TJ0 0
theorem nmJ0 : ∀ a, a < 0 → ∀ b, b < 0 → a ≠ b → (TJ0 a).2.1 ≠ (TJ0 b).2.1 := by decide +kernel
theorem tyJ0_ok : ∀ k, k < 0 → parseFieldDescriptor (TJ0 k).2.2.1 = some (tyJ0 k) := by decide +kernel
def RJ10 : String := "java/lang/System"
def TJ10 : u_T := fun k => match k with
  | _ => ("", "", "", false)
def tyJ10 : Nat → FieldType := fun k => match k with
  | _ => .int
abbrev wsJ100 : List Cond := u_ws RJ10 TJ10 0
theorem nmJ10 : ∀ a, a < 0 → ∀ b, b < 0 → a ≠ b → (TJ10 a).2.1 ≠ (TJ10 b).2.1 := by decide +kernel
theorem tyJ10_ok : ∀ k, k < 0 → parseFieldDescriptor (TJ10 k).2.2.1 = some (tyJ10 k) := by decide +kernel
def RJxa1e45 : String := "java/util/AbstractCollection"
def TJxa1e45 : u_T := fun k => match k with
  | _ => ("", "", "", false)
def tyJxa1e45 : Nat → FieldType := fun k => match k with
  | _ => .int
abbrev wsJxa1e450 : List Cond := u_ws RJxa1e45 TJxa1e45 0
theorem nmJxa1e45 : ∀ a, a < 0 → ∀ b, b < 0 → a ≠ b → (TJxa1e45 a).2.1 ≠ (TJxa1e45 b).2.1 := by decide +kernel
theorem tyJxa1e45_ok : ∀ k, k < 0 → parseFieldDescriptor (TJxa1e45 k).2.2.1 = some (tyJxa1e45 k) := by decide +kernel
abbrev cJxa1e45_init_da8c8 : ByteArray := prog_22_method_1_code
def yJxa1e45_init_da8c8 : MethodName := ⟨RJxa1e45, "<init>", "()V"⟩
def RJxc12de : String := "java/util/AbstractList"
def TJxc12de : u_T := fun k => match k with
  | _ => ("", "", "", false)
def tyJxc12de : Nat → FieldType := fun k => match k with
  | _ => .int
abbrev wsJxc12de0 : List Cond := u_ws RJxc12de TJxc12de 0
theorem nmJxc12de : ∀ a, a < 0 → ∀ b, b < 0 → a ≠ b → (TJxc12de a).2.1 ≠ (TJxc12de b).2.1 := by decide +kernel
theorem tyJxc12de_ok : ∀ k, k < 0 → parseFieldDescriptor (TJxc12de k).2.2.1 = some (tyJxc12de k) := by decide +kernel
abbrev cJxc12de_init_da8c8 : ByteArray := prog_23_method_1_code
def yJxc12de_init_da8c8 : MethodName := ⟨RJxc12de, "<init>", "()V"⟩
def RJx4a65c : String := "java/util/ArrayList"
def TJx4a65c : u_T := fun k => match k with
  | 0 => ("java/util/AbstractList", "modCount", "I", false)
  | 1 => ("java/util/ArrayList", "elementData", "[Ljava/lang/Object;", false)
  | _ => ("java/util/ArrayList", "size", "I", false)
def tyJx4a65c : Nat → FieldType := fun k => match k with
  | 0 => .int
  | 1 => .array (.object "java/lang/Object")
  | _ => .int
abbrev wsJx4a65c0 : List Cond := u_ws RJx4a65c TJx4a65c 3
theorem nmJx4a65c : ∀ a, a < 3 → ∀ b, b < 3 → a ≠ b → (TJx4a65c a).2.1 ≠ (TJx4a65c b).2.1 := by decide +kernel
theorem tyJx4a65c_ok : ∀ k, k < 3 → parseFieldDescriptor (TJx4a65c k).2.2.1 = some (tyJx4a65c k) := by decide +kernel
abbrev cJx4a65c_init_da8c8 : ByteArray := prog_24_method_2_code
def yJx4a65c_init_da8c8 : MethodName := ⟨RJx4a65c, "<init>", "()V"⟩
abbrev cJx4a65c_grow_92f84 : ByteArray := prog_24_method_6_code
def yJx4a65c_grow_92f84 : MethodName := ⟨RJx4a65c, "grow", "(I)[Ljava/lang/Object;"⟩
abbrev cJx4a65c_grow_d5877 : ByteArray := prog_24_method_7_code
def yJx4a65c_grow_d5877 : MethodName := ⟨RJx4a65c, "grow", "()[Ljava/lang/Object;"⟩
abbrev cJx4a65c_size_8abf5 : ByteArray := prog_24_method_8_code
def yJx4a65c_size_8abf5 : MethodName := ⟨RJx4a65c, "size", "()I"⟩
abbrev cJx4a65c_elementData_915e3 : ByteArray := prog_24_method_18_code
def yJx4a65c_elementData_915e3 : MethodName := ⟨RJx4a65c, "elementData", "(I)Ljava/lang/Object;"⟩
abbrev cJx4a65c_get_915e3 : ByteArray := prog_24_method_20_code
def yJx4a65c_get_915e3 : MethodName := ⟨RJx4a65c, "get", "(I)Ljava/lang/Object;"⟩
abbrev cJx4a65c_add_72be8 : ByteArray := prog_24_method_24_code
def yJx4a65c_add_72be8 : MethodName := ⟨RJx4a65c, "add", "(Ljava/lang/Object;[Ljava/lang/Object;I)V"⟩
abbrev cJx4a65c_add_9ea2d : ByteArray := prog_24_method_25_code
def yJx4a65c_add_9ea2d : MethodName := ⟨RJx4a65c, "add", "(Ljava/lang/Object;)Z"⟩
def RJ7 : String := "java/util/Arrays"
def TJ7 : u_T := fun k => match k with
  | _ => ("", "", "", false)
def tyJ7 : Nat → FieldType := fun k => match k with
  | _ => .int
abbrev wsJ70 : List Cond := u_ws RJ7 TJ7 0
theorem nmJ7 : ∀ a, a < 0 → ∀ b, b < 0 → a ≠ b → (TJ7 a).2.1 ≠ (TJ7 b).2.1 := by decide +kernel
theorem tyJ7_ok : ∀ k, k < 0 → parseFieldDescriptor (TJ7 k).2.2.1 = some (tyJ7 k) := by decide +kernel
abbrev cJ7_fill_53178 : ByteArray := prog_25_method_103_code
def yJ7_fill_53178 : MethodName := ⟨RJ7, "fill", "([II)V"⟩
abbrev cJ7_copyOf_1904c : ByteArray := prog_25_method_119_code
def yJ7_copyOf_1904c : MethodName := ⟨RJ7, "copyOf", "([Ljava/lang/Object;I)[Ljava/lang/Object;"⟩
abbrev cJ7_copyOf_6403c : ByteArray := prog_25_method_120_code
def yJ7_copyOf_6403c : MethodName := ⟨RJ7, "copyOf", "([Ljava/lang/Object;ILjava/lang/Class;)[Ljava/lang/Object;"⟩
abbrev cJ7_copyOf_59c91 : ByteArray := prog_25_method_123_code
def yJ7_copyOf_59c91 : MethodName := ⟨RJ7, "copyOf", "([II)[I"⟩
def RJx5ef63 : String := "java/util/Collection"
def TJx5ef63 : u_T := fun k => match k with
  | _ => ("", "", "", false)
def tyJx5ef63 : Nat → FieldType := fun k => match k with
  | _ => .int
abbrev wsJx5ef630 : List Cond := u_ws RJx5ef63 TJx5ef63 0
theorem nmJx5ef63 : ∀ a, a < 0 → ∀ b, b < 0 → a ≠ b → (TJx5ef63 a).2.1 ≠ (TJx5ef63 b).2.1 := by decide +kernel
theorem tyJx5ef63_ok : ∀ k, k < 0 → parseFieldDescriptor (TJx5ef63 k).2.2.1 = some (tyJx5ef63 k) := by decide +kernel
def RJxbd725 : String := "java/util/List"
def TJxbd725 : u_T := fun k => match k with
  | _ => ("", "", "", false)
def tyJxbd725 : Nat → FieldType := fun k => match k with
  | _ => .int
abbrev wsJxbd7250 : List Cond := u_ws RJxbd725 TJxbd725 0
theorem nmJxbd725 : ∀ a, a < 0 → ∀ b, b < 0 → a ≠ b → (TJxbd725 a).2.1 ≠ (TJxbd725 b).2.1 := by decide +kernel
theorem tyJxbd725_ok : ∀ k, k < 0 → parseFieldDescriptor (TJxbd725 k).2.2.1 = some (tyJxbd725 k) := by decide +kernel
def RJ15 : String := "java/util/Objects"
def TJ15 : u_T := fun k => match k with
  | _ => ("", "", "", false)
def tyJ15 : Nat → FieldType := fun k => match k with
  | _ => .int
abbrev wsJ150 : List Cond := u_ws RJ15 TJ15 0
theorem nmJ15 : ∀ a, a < 0 → ∀ b, b < 0 → a ≠ b → (TJ15 a).2.1 ≠ (TJ15 b).2.1 := by decide +kernel
theorem tyJ15_ok : ∀ k, k < 0 → parseFieldDescriptor (TJ15 k).2.2.1 = some (tyJ15 k) := by decide +kernel
abbrev cJ15_checkIndex_7cf53 : ByteArray := prog_28_method_17_code
def yJ15_checkIndex_7cf53 : MethodName := ⟨RJ15, "checkIndex", "(II)I"⟩
def RJxf0a74 : String := "java/util/RandomAccess"
def TJxf0a74 : u_T := fun k => match k with
  | _ => ("", "", "", false)
def tyJxf0a74 : Nat → FieldType := fun k => match k with
  | _ => .int
abbrev wsJxf0a740 : List Cond := u_ws RJxf0a74 TJxf0a74 0
theorem nmJxf0a74 : ∀ a, a < 0 → ∀ b, b < 0 → a ≠ b → (TJxf0a74 a).2.1 ≠ (TJxf0a74 b).2.1 := by decide +kernel
theorem tyJxf0a74_ok : ∀ k, k < 0 → parseFieldDescriptor (TJxf0a74 k).2.2.1 = some (tyJxf0a74 k) := by decide +kernel
def RJxa66e6 : String := "java/util/SequencedCollection"
def TJxa66e6 : u_T := fun k => match k with
  | _ => ("", "", "", false)
def tyJxa66e6 : Nat → FieldType := fun k => match k with
  | _ => .int
abbrev wsJxa66e60 : List Cond := u_ws RJxa66e6 TJxa66e6 0
theorem nmJxa66e6 : ∀ a, a < 0 → ∀ b, b < 0 → a ≠ b → (TJxa66e6 a).2.1 ≠ (TJxa66e6 b).2.1 := by decide +kernel
theorem tyJxa66e6_ok : ∀ k, k < 0 → parseFieldDescriptor (TJxa66e6 k).2.2.1 = some (tyJxa66e6 k) := by decide +kernel
def RJ8 : String := "jdk/internal/util/ArraysSupport"
def TJ8 : u_T := fun k => match k with
  | _ => ("", "", "", false)
def tyJ8 : Nat → FieldType := fun k => match k with
  | _ => .int
abbrev wsJ80 : List Cond := u_ws RJ8 TJ8 0
theorem nmJ8 : ∀ a, a < 0 → ∀ b, b < 0 → a ≠ b → (TJ8 a).2.1 ≠ (TJ8 b).2.1 := by decide +kernel
theorem tyJ8_ok : ∀ k, k < 0 → parseFieldDescriptor (TJ8 k).2.2.1 = some (tyJ8 k) := by decide +kernel
abbrev cJ8_newLength_cabcc : ByteArray := prog_31_method_27_code
def yJ8_newLength_cabcc : MethodName := ⟨RJ8, "newLength", "(III)I"⟩
abbrev cJ8_hugeLength_7cf53 : ByteArray := prog_31_method_28_code
def yJ8_hugeLength_7cf53 : MethodName := ⟨RJ8, "hugeLength", "(II)I"⟩
def RJ3 : String := "jdk/internal/util/Preconditions"
def TJ3 : u_T := fun k => match k with
  | _ => ("", "", "", false)
def tyJ3 : Nat → FieldType := fun k => match k with
  | _ => .int
abbrev wsJ30 : List Cond := u_ws RJ3 TJ3 0
theorem nmJ3 : ∀ a, a < 0 → ∀ b, b < 0 → a ≠ b → (TJ3 a).2.1 ≠ (TJ3 b).2.1 := by decide +kernel
theorem tyJ3_ok : ∀ k, k < 0 → parseFieldDescriptor (TJ3 k).2.2.1 = some (tyJ3 k) := by decide +kernel
abbrev cJ3_checkIndex_8e157 : ByteArray := prog_32_method_11_code
def yJ3_checkIndex_8e157 : MethodName := ⟨RJ3, "checkIndex", "(IILjava/util/function/BiFunction;)I"⟩
def RL : String := "BoilerLogLaw"
abbrev cL_pipe : ByteArray := method_3_code
def yL_pipe : MethodName := ⟨RL, "pipe", "(LBoilerLog;III[J)I"⟩
abbrev cL_turn : ByteArray := method_4_code
def yL_turn : MethodName := ⟨RL, "turn", "(LBoilerLog;IIZ[J)I"⟩
abbrev cL_obstacle : ByteArray := method_5_code
def yL_obstacle : MethodName := ⟨RL, "obstacle", "(LBoilerLog;II[J)I"⟩
abbrev cL_isOpen : ByteArray := method_6_code
def yL_isOpen : MethodName := ⟨RL, "isOpen", "(LBoilerLog;I[J)I"⟩
abbrev cL_isOpenByLog : ByteArray := method_7_code
def yL_isOpenByLog : MethodName := ⟨RL, "isOpenByLog", "(LBoilerLog;I[J)I"⟩
abbrev cL_level : ByteArray := method_8_code
def yL_level : MethodName := ⟨RL, "level", "(LBoilerLog;I[J)I"⟩
abbrev cL_hang : ByteArray := method_9_code
def yL_hang : MethodName := ⟨RL, "hang", "(LBoilerLog;II[J)I"⟩
abbrev cL_takeOff : ByteArray := method_10_code
def yL_takeOff : MethodName := ⟨RL, "takeOff", "(LBoilerLog;II[J)I"⟩
abbrev cL_valveOf : ByteArray := method_11_code
def yL_valveOf : MethodName := ⟨RL, "valveOf", "(LBoilerLog;I[J)I"⟩
abbrev cL_ownerOf : ByteArray := method_12_code
def yL_ownerOf : MethodName := ⟨RL, "ownerOf", "(LBoilerLog;I[J)I"⟩
abbrev cL_tagsByLog : ByteArray := method_13_code
def yL_tagsByLog : MethodName := ⟨RL, "tagsByLog", "(LBoilerLog;I[J)I"⟩
abbrev cL_read : ByteArray := method_14_code
def yL_read : MethodName := ⟨RL, "read", "(LBoilerLog;I[J)I"⟩
abbrev cL_leave : ByteArray := method_15_code
def yL_leave : MethodName := ⟨RL, "leave", "(LBoilerLog;I[J)I"⟩
abbrev cL_canAct : ByteArray := method_16_code
def yL_canAct : MethodName := ⟨RL, "canAct", "(LBoilerLog;I[J)I"⟩
abbrev cL_advance : ByteArray := method_17_code
def yL_advance : MethodName := ⟨RL, "advance", "(LBoilerLog;I[J)I"⟩
abbrev cL_entryAt : ByteArray := method_18_code
def yL_entryAt : MethodName := ⟨RL, "entryAt", "(LBoilerLog;I[J)I"⟩
abbrev cL_alarm : ByteArray := method_19_code
def yL_alarm : MethodName := ⟨RL, "alarm", "(LBoilerLog;IIZIZ[J)I"⟩
abbrev cL_stateOf : ByteArray := method_20_code
def yL_stateOf : MethodName := ⟨RL, "stateOf", "(LBoilerLog;I[J)I"⟩
abbrev cL_insert : ByteArray := method_21_code
def yL_insert : MethodName := ⟨RL, "insert", "(LBoilerLog;IC[J)I"⟩
abbrev cL_post : ByteArray := method_22_code
def yL_post : MethodName := ⟨RL, "post", "(LBoilerLog;II[J)I"⟩
abbrev cL_finish : ByteArray := method_23_code
def yL_finish : MethodName := ⟨RL, "finish", "(LBoilerLog;II)I"⟩
abbrev cL_taskOf : ByteArray := method_24_code
def yL_taskOf : MethodName := ⟨RL, "taskOf", "(LBoilerLog;I[J)I"⟩
abbrev cL_signs : ByteArray := method_25_code
def yL_signs : MethodName := ⟨RL, "signs", "(LBoilerLog;I[J)I"⟩
abbrev cL_signAt : ByteArray := method_26_code
def yL_signAt : MethodName := ⟨RL, "signAt", "(LBoilerLog;II[J)I"⟩
abbrev cL_signBack : ByteArray := method_27_code
def yL_signBack : MethodName := ⟨RL, "signBack", "(LBoilerLog;II[J)I"⟩
abbrev cL_law : ByteArray := code
def yL_law : MethodName := ⟨RL, "law", "([I)Z"⟩
def wsX0_init : List Cond := .code yX0_init cX0_init 6 none :: ([.methodLink RX0 3 objectInit, .instanceMethod objectInit, .code objectInit ⟨#[0xb1]⟩ 1 none, .fieldLink RX0 9 "BoilerLog$Alarm" "state" "I", .fieldLink RX0 15 "BoilerLog$Alarm" "vessel" "I", .fieldLink RX0 18 "BoilerLog$Alarm" "limit" "I", .fieldLink RX0 21 "BoilerLog$Alarm" "high" "Z", .fieldLink RX0 25 "BoilerLog$Alarm" "valve" "I", .fieldLink RX0 28 "BoilerLog$Alarm" "opens" "Z"] ++ wsX00)
def wsX0_isMetBy : List Cond := .code yX0_isMetBy cX0_isMetBy 2 (some .boolean) :: ([.fieldLink RX0 21 "BoilerLog$Alarm" "high" "Z", .fieldLink RX0 18 "BoilerLog$Alarm" "limit" "I"] ++ wsX00)
def wsX1_init : List Cond := .code yX1_init cX1_init 1 none :: ([.methodLink RX1 3 objectInit, .instanceMethod objectInit, .code objectInit ⟨#[0xb1]⟩ 1 none, .arrayClass .char, .fieldLink RX1 9 "BoilerLog$Draft" "characters" "[C", .fieldLink RX1 15 "BoilerLog$Draft" "count" "I"] ++ wsX10)
def wsX1_length : List Cond := .code yX1_length cX1_length 1 (some .int) :: ([.fieldLink RX1 15 "BoilerLog$Draft" "count" "I"] ++ wsX10)
def wsX1_put : List Cond := .code yX1_put cX1_put 4 none :: ([.fieldLink RX1 15 "BoilerLog$Draft" "count" "I", .fieldLink RX1 9 "BoilerLog$Draft" "characters" "[C"] ++ wsX10)
def wsX1_wipe : List Cond := .code yX1_wipe cX1_wipe 1 none :: ([.fieldLink RX1 15 "BoilerLog$Draft" "count" "I"] ++ wsX10)
def wsX1_isLow : List Cond := .code yX1_isLow cX1_isLow 1 (some .boolean) :: ([.constant RX1 35 (56320), .constant RX1 36 (57344)])
def wsX1_isHigh : List Cond := .code yX1_isHigh cX1_isHigh 1 (some .boolean) :: ([.constant RX1 34 (55296), .constant RX1 35 (56320)])
def wsX1_isComplete : List Cond := .code yX1_isComplete cX1_isComplete 3 (some .boolean) :: ([.fieldLink RX1 15 "BoilerLog$Draft" "count" "I", .fieldLink RX1 9 "BoilerLog$Draft" "characters" "[C", .methodLink RX1 19 yX1_isLow, .static yX1_isLow, .initialized RX1, .code yX1_isLow cX1_isLow 1 (some .boolean), .constant RX1 35 (56320), .constant RX1 36 (57344), .methodLink RX1 23 yX1_isHigh, .static yX1_isHigh, .code yX1_isHigh cX1_isHigh 1 (some .boolean), .constant RX1 34 (55296)] ++ wsX10)
def wsX1_countHigh : List Cond := .code yX1_countHigh cX1_countHigh 3 (some .int) :: ([.fieldLink RX1 15 "BoilerLog$Draft" "count" "I", .fieldLink RX1 9 "BoilerLog$Draft" "characters" "[C", .methodLink RX1 23 yX1_isHigh, .static yX1_isHigh, .initialized RX1, .code yX1_isHigh cX1_isHigh 1 (some .boolean), .constant RX1 34 (55296), .constant RX1 35 (56320)] ++ wsX10)
def wsX1_join : List Cond := .code yX1_join cX1_join 2 (some .int) :: ([.constant RX1 37 (65536), .constant RX1 34 (55296), .constant RX1 35 (56320)])
def wsX1_toSigns : List Cond := .code yX1_toSigns cX1_toSigns 5 (some (.array .int)) :: ([.fieldLink RX1 15 "BoilerLog$Draft" "count" "I", .arrayClass .int, .fieldLink RX1 9 "BoilerLog$Draft" "characters" "[C", .methodLink RX1 26 yX1_countHigh, .instanceMethod yX1_countHigh, .selects RX1 yX1_countHigh yX1_countHigh, .initialized RX1, .code yX1_countHigh cX1_countHigh 3 (some .int), .methodLink RX1 23 yX1_isHigh, .static yX1_isHigh, .code yX1_isHigh cX1_isHigh 1 (some .boolean), .constant RX1 34 (55296), .constant RX1 35 (56320), .methodLink RX1 30 yX1_join, .static yX1_join, .code yX1_join cX1_join 2 (some .int), .constant RX1 37 (65536)] ++ wsX10)
def wsX2_init : List Cond := .code yX2_init cX2_init 1 none :: ([.methodLink RX2 3 objectInit, .instanceMethod objectInit, .code objectInit ⟨#[0xb1]⟩ 1 none, .arrayClass .int, .fieldLink RX2 11 "BoilerLog$Log" "codes" "[I", .fieldLink RX2 15 "BoilerLog$Log" "count" "I"] ++ wsX20)
def wsX2_size : List Cond := .code yX2_size cX2_size 1 (some .int) :: ([.fieldLink RX2 15 "BoilerLog$Log" "count" "I"] ++ wsX20)
def wsJ7_copyOf_59c91 : List Cond := .code yJ7_copyOf_59c91 cJ7_copyOf_59c91 3 (some (.array .int)) :: ([.methodLink RJ7 316 ⟨"[I", "clone", "()Ljava/lang/Object;"⟩, .sameMethod "[I" "java/lang/Object" "clone" "()Ljava/lang/Object;", .native ⟨"java/lang/Object", "clone", "()Ljava/lang/Object;"⟩, .instanceMethod ⟨"java/lang/Object", "clone", "()Ljava/lang/Object;"⟩, .selects "[I" ⟨"[I", "clone", "()Ljava/lang/Object;"⟩ ⟨"java/lang/Object", "clone", "()Ljava/lang/Object;"⟩, .classLink RJ7 317 "[I", .arrayClass .int, .methodLink RJ7 304 Lib.Math.min.name, .static Lib.Math.min.name, .initialized "java/lang/Math", .code Lib.Math.min.name Lib.Math.min.code 2 (some .int), .methodLink RJ7 150 arraycopyName, .native arraycopyName, .static arraycopyName, .initialized "java/lang/System"])
def wsX2_note : List Cond := .code yX2_note cX2_note 5 none :: ([.fieldLink RX2 15 "BoilerLog$Log" "count" "I", .fieldLink RX2 11 "BoilerLog$Log" "codes" "[I", .methodLink RX2 19 yJ7_copyOf_59c91, .static yJ7_copyOf_59c91, .initialized RJ7, .code yJ7_copyOf_59c91 cJ7_copyOf_59c91 3 (some (.array .int)), .methodLink RJ7 316 ⟨"[I", "clone", "()Ljava/lang/Object;"⟩, .sameMethod "[I" "java/lang/Object" "clone" "()Ljava/lang/Object;", .native ⟨"java/lang/Object", "clone", "()Ljava/lang/Object;"⟩, .instanceMethod ⟨"java/lang/Object", "clone", "()Ljava/lang/Object;"⟩, .selects "[I" ⟨"[I", "clone", "()Ljava/lang/Object;"⟩ ⟨"java/lang/Object", "clone", "()Ljava/lang/Object;"⟩, .classLink RJ7 317 "[I", .arrayClass .int, .methodLink RJ7 304 Lib.Math.min.name, .static Lib.Math.min.name, .initialized "java/lang/Math", .code Lib.Math.min.name Lib.Math.min.code 2 (some .int), .methodLink RJ7 150 arraycopyName, .native arraycopyName, .static arraycopyName, .initialized "java/lang/System"] ++ wsX20)
def wsX2_noteTurn_r1 : List Cond := [Cond.methodLink RX2 25 yX2_note, Cond.instanceMethod yX2_note, Cond.selects RX2 yX2_note yX2_note, Cond.initialized RX2, Cond.code yX2_note cX2_note 5 none, Cond.fieldLink RX2 15 "BoilerLog$Log" "count" "I", Cond.fieldLink RX2 11 "BoilerLog$Log" "codes" "[I", Cond.methodLink RX2 19 yJ7_copyOf_59c91, Cond.static yJ7_copyOf_59c91, Cond.initialized RJ7, Cond.code yJ7_copyOf_59c91 cJ7_copyOf_59c91 3 (some (.array .int)), Cond.methodLink RJ7 316 ⟨"[I", "clone", "()Ljava/lang/Object;"⟩, Cond.sameMethod "[I" "java/lang/Object" "clone" "()Ljava/lang/Object;", Cond.native ⟨"java/lang/Object", "clone", "()Ljava/lang/Object;"⟩, Cond.instanceMethod ⟨"java/lang/Object", "clone", "()Ljava/lang/Object;"⟩, Cond.selects "[I" ⟨"[I", "clone", "()Ljava/lang/Object;"⟩ ⟨"java/lang/Object", "clone", "()Ljava/lang/Object;"⟩, Cond.classLink RJ7 317 "[I", Cond.arrayClass .int, Cond.methodLink RJ7 304 Lib.Math.min.name, Cond.static Lib.Math.min.name, Cond.initialized "java/lang/Math", Cond.code Lib.Math.min.name Lib.Math.min.code 2 (some .int), Cond.methodLink RJ7 150 arraycopyName, Cond.native arraycopyName]
def wsX2_noteTurn_r2 : List Cond := [Cond.static arraycopyName, Cond.initialized "java/lang/System"]
def wsX2_noteTurn : List Cond := .code yX2_noteTurn cX2_noteTurn 5 none :: ((wsX2_noteTurn_r1 ++ wsX2_noteTurn_r2) ++ wsX20)
def wsX2_codeAt : List Cond := .code yX2_codeAt cX2_codeAt 2 (some .int) :: ([.fieldLink RX2 11 "BoilerLog$Log" "codes" "[I"] ++ wsX20)
def wsX2_kindAt : List Cond := .code yX2_kindAt cX2_kindAt 2 (some .int) :: ([.fieldLink RX2 11 "BoilerLog$Log" "codes" "[I"] ++ wsX20)
def wsX2_whatAt : List Cond := .code yX2_whatAt cX2_whatAt 2 (some .int) :: ([.fieldLink RX2 11 "BoilerLog$Log" "codes" "[I"] ++ wsX20)
def wsX2_valveTurnedAt : List Cond := .code yX2_valveTurnedAt cX2_valveTurnedAt 2 (some .int) :: ([.methodLink RX2 29 yX2_whatAt, .instanceMethod yX2_whatAt, .selects RX2 yX2_whatAt yX2_whatAt, .initialized RX2, .code yX2_whatAt cX2_whatAt 2 (some .int), .fieldLink RX2 11 "BoilerLog$Log" "codes" "[I"] ++ wsX20)
def wsX2_opensAt : List Cond := .code yX2_opensAt cX2_opensAt 2 (some .boolean) :: ([.methodLink RX2 29 yX2_whatAt, .instanceMethod yX2_whatAt, .selects RX2 yX2_whatAt yX2_whatAt, .initialized RX2, .code yX2_whatAt cX2_whatAt 2 (some .int), .fieldLink RX2 11 "BoilerLog$Log" "codes" "[I"] ++ wsX20)
def wsX3_init : List Cond := .code yX3_init cX3_init 2 none :: ([.methodLink RX3 3 objectInit, .instanceMethod objectInit, .code objectInit ⟨#[0xb1]⟩ 1 none, .fieldLink RX3 9 "BoilerLog$Message" "content" "[I"] ++ wsX30)
def wsX3_length : List Cond := .code yX3_length cX3_length 1 (some .int) :: ([.fieldLink RX3 9 "BoilerLog$Message" "content" "[I"] ++ wsX30)
def wsX3_get : List Cond := .code yX3_get cX3_get 2 (some .int) :: ([.fieldLink RX3 9 "BoilerLog$Message" "content" "[I"] ++ wsX30)
def wsX3_personCalled : List Cond := .code yX3_personCalled cX3_personCalled 3 (some .int) :: ([.fieldLink RX3 9 "BoilerLog$Message" "content" "[I"] ++ wsX30)
def wsX4_init : List Cond := .code yX4_init cX4_init 3 none :: ([.methodLink RX4 3 objectInit, .instanceMethod objectInit, .code objectInit ⟨#[0xb1]⟩ 1 none, .fieldLink RX4 9 "BoilerLog$Tag" "firstAsker" "I", .fieldLink RX4 15 "BoilerLog$Tag" "off" "Z", .fieldLink RX4 19 "BoilerLog$Tag" "owner" "I", .fieldLink RX4 22 "BoilerLog$Tag" "valve" "I"] ++ wsX40)
def wsX5_init : List Cond := .code yX5_init cX5_init 1 none :: ([.methodLink RX5 3 objectInit, .instanceMethod objectInit, .code objectInit ⟨#[0xb1]⟩ 1 none, .fieldLink RX5 9 "BoilerLog$Valve" "open" "Z", .fieldLink RX5 15 "BoilerLog$Valve" "from" "I", .fieldLink RX5 19 "BoilerLog$Valve" "to" "I"] ++ wsX50)
def wsJxa1e45_init_da8c8 : List Cond := .code yJxa1e45_init_da8c8 cJxa1e45_init_da8c8 1 none :: ([.methodLink RJxa1e45 1 objectInit, .instanceMethod objectInit, .code objectInit ⟨#[0xb1]⟩ 1 none])
def wsJxc12de_init_da8c8 : List Cond := .code yJxc12de_init_da8c8 cJxc12de_init_da8c8 1 none :: ([.fieldLink RJxc12de 7 "java/util/AbstractList" "modCount" "I", .methodLink RJxc12de 1 yJxa1e45_init_da8c8, .instanceMethod yJxa1e45_init_da8c8, .initialized RJxa1e45, .code yJxa1e45_init_da8c8 cJxa1e45_init_da8c8 1 none, .methodLink RJxa1e45 1 objectInit, .instanceMethod objectInit, .code objectInit ⟨#[0xb1]⟩ 1 none] ++ wsJx4a65c0)
def wsJx4a65c_init_da8c8 : List Cond := .code yJx4a65c_init_da8c8 cJx4a65c_init_da8c8 1 none :: ([.fieldLink RJx4a65c 39 "java/util/ArrayList" "DEFAULTCAPACITY_EMPTY_ELEMENTDATA" "[Ljava/lang/Object;", .fieldLink RJx4a65c 9 "java/util/ArrayList" "elementData" "[Ljava/lang/Object;", .methodLink RJx4a65c 1 yJxc12de_init_da8c8, .instanceMethod yJxc12de_init_da8c8, .initialized RJxc12de, .code yJxc12de_init_da8c8 cJxc12de_init_da8c8 1 none, .fieldLink RJxc12de 7 "java/util/AbstractList" "modCount" "I", .methodLink RJxc12de 1 yJxa1e45_init_da8c8, .instanceMethod yJxa1e45_init_da8c8, .initialized RJxa1e45, .code yJxa1e45_init_da8c8 cJxa1e45_init_da8c8 1 none, .methodLink RJxa1e45 1 objectInit, .instanceMethod objectInit, .code objectInit ⟨#[0xb1]⟩ 1 none] ++ wsJx4a65c0)
def wsJ7_fill_53178 : List Cond := .code yJ7_fill_53178 cJ7_fill_53178 4 none :: ([])
def wsX6_init_r1 : List Cond := [Cond.methodLink RX6 1 objectInit, Cond.instanceMethod objectInit, Cond.code objectInit ⟨#[0xb1]⟩ 1 none, Cond.classLink RX6 9 RX5, Cond.fieldLink RX6 11 "BoilerLog" "valves" "[LBoilerLog$Valve;", Cond.arrayClass .int, Cond.fieldLink RX6 15 "BoilerLog" "levels" "[I", Cond.arrayClass .boolean, Cond.fieldLink RX6 19 "BoilerLog" "gone" "[Z", Cond.fieldLink RX6 23 "BoilerLog" "entriesRead" "[I", Cond.classLink RX6 26 RJx4a65c, Cond.instantiable RJx4a65c 3, Cond.initialized RJx4a65c, Cond.fieldLink RX6 29 "BoilerLog" "tags" "Ljava/util/ArrayList;", Cond.fieldLink RX6 33 "BoilerLog" "alarms" "Ljava/util/ArrayList;", Cond.fieldLink RX6 36 "BoilerLog" "posted" "Ljava/util/ArrayList;", Cond.fieldLink RX6 39 "BoilerLog" "tasks" "[I", Cond.classLink RX6 42 RX2, Cond.instantiable RX2 2, Cond.initialized RX2, Cond.fieldLink RX6 45 "BoilerLog" "log" "LBoilerLog$Log;", Cond.classLink RX6 49 RX1, Cond.instantiable RX1 2, Cond.initialized RX1]
def wsX6_init_r2 : List Cond := [Cond.fieldLink RX6 52 "BoilerLog" "draft" "LBoilerLog$Draft;", Cond.fieldLink RX6 56 "BoilerLog" "now" "I", Cond.fieldLink RX6 60 "BoilerLog" "entriesAtShiftStart" "I", Cond.fieldLink RX6 63 "BoilerLog" "lost" "I", Cond.fieldLink RX6 66 "BoilerLog" "threads" "I", Cond.instantiable RX5 3, Cond.initialized RX5, Cond.methodLink RX6 28 yJx4a65c_init_da8c8, Cond.instanceMethod yJx4a65c_init_da8c8, Cond.code yJx4a65c_init_da8c8 cJx4a65c_init_da8c8 1 none, Cond.fieldLink RJx4a65c 39 "java/util/ArrayList" "DEFAULTCAPACITY_EMPTY_ELEMENTDATA" "[Ljava/lang/Object;", Cond.fieldLink RJx4a65c 9 "java/util/ArrayList" "elementData" "[Ljava/lang/Object;", Cond.methodLink RJx4a65c 1 yJxc12de_init_da8c8, Cond.instanceMethod yJxc12de_init_da8c8, Cond.initialized RJxc12de, Cond.code yJxc12de_init_da8c8 cJxc12de_init_da8c8 1 none, Cond.fieldLink RJxc12de 7 "java/util/AbstractList" "modCount" "I", Cond.methodLink RJxc12de 1 yJxa1e45_init_da8c8, Cond.instanceMethod yJxa1e45_init_da8c8, Cond.initialized RJxa1e45, Cond.code yJxa1e45_init_da8c8 cJxa1e45_init_da8c8 1 none, Cond.methodLink RJxa1e45 1 objectInit, Cond.instanceMethod yX2_init, Cond.code yX2_init cX2_init 1 none]
def wsX6_init_r3 : List Cond := [Cond.methodLink RX2 3 objectInit, Cond.fieldLink RX2 11 "BoilerLog$Log" "codes" "[I", Cond.fieldLink RX2 15 "BoilerLog$Log" "count" "I", Cond.instanceMethod yX1_init, Cond.code yX1_init cX1_init 1 none, Cond.methodLink RX1 3 objectInit, Cond.arrayClass .char, Cond.fieldLink RX1 9 "BoilerLog$Draft" "characters" "[C", Cond.fieldLink RX1 15 "BoilerLog$Draft" "count" "I", Cond.instanceMethod yX5_init, Cond.code yX5_init cX5_init 1 none, Cond.methodLink RX5 3 objectInit, Cond.fieldLink RX5 9 "BoilerLog$Valve" "open" "Z", Cond.fieldLink RX5 15 "BoilerLog$Valve" "from" "I", Cond.fieldLink RX5 19 "BoilerLog$Valve" "to" "I", Cond.methodLink RX6 70 yJ7_fill_53178, Cond.static yJ7_fill_53178, Cond.initialized RJ7, Cond.code yJ7_fill_53178 cJ7_fill_53178 4 none]
def wsX6_init : List Cond := .code yX6_init cX6_init 2 none :: ((wsX6_init_r1 ++ (wsX6_init_r2 ++ wsX6_init_r3)) ++ wsX60 ++ wsJx4a65c0 ++ wsX20 ++ wsX10 ++ wsX50)
def wsX6_checkValve : List Cond := .code yX6_checkValve cX6_checkValve 1 none :: ([.classLink RX6 200 "java/lang/IndexOutOfBoundsException", .initialized "java/lang/IndexOutOfBoundsException"] ++ (vx_atS RX6 204 "java/lang/IndexOutOfBoundsException" ["java/lang/RuntimeException", "java/lang/Exception"]).filter goodWord)
def wsX6_isVessel : List Cond := .code yX6_isVessel cX6_isVessel 1 (some .boolean) :: ([])
def wsX6_isEnd : List Cond := .code yX6_isEnd cX6_isEnd 1 (some .boolean) :: ([.methodLink RX6 275 yX6_isVessel, .static yX6_isVessel, .initialized RX6, .code yX6_isVessel cX6_isVessel 1 (some .boolean)])
def wsJx4a65c_size_8abf5 : List Cond := .code yJx4a65c_size_8abf5 cJx4a65c_size_8abf5 1 (some .int) :: ([.fieldLink RJx4a65c 48 "java/util/ArrayList" "size" "I"] ++ wsJx4a65c0)
def wsJ3_checkIndex_8e157 : List Cond := .code yJ3_checkIndex_8e157 cJ3_checkIndex_8e157 3 (some .int) :: ([])
def wsJ15_checkIndex_7cf53 : List Cond := .code yJ15_checkIndex_7cf53 cJ15_checkIndex_7cf53 2 (some .int) :: ([.methodLink RJ15 105 yJ3_checkIndex_8e157, .static yJ3_checkIndex_8e157, .initialized RJ3, .code yJ3_checkIndex_8e157 cJ3_checkIndex_8e157 3 (some .int)])
def wsJx4a65c_elementData_915e3 : List Cond := .code yJx4a65c_elementData_915e3 cJx4a65c_elementData_915e3 2 (some (.object "java/lang/Object")) :: ([.fieldLink RJx4a65c 9 "java/util/ArrayList" "elementData" "[Ljava/lang/Object;"] ++ wsJx4a65c0)
def wsJx4a65c_get_915e3 : List Cond := .code yJx4a65c_get_915e3 cJx4a65c_get_915e3 2 (some (.object "java/lang/Object")) :: ([.fieldLink RJx4a65c 48 "java/util/ArrayList" "size" "I", .methodLink RJx4a65c 118 yJ15_checkIndex_7cf53, .static yJ15_checkIndex_7cf53, .initialized RJ15, .code yJ15_checkIndex_7cf53 cJ15_checkIndex_7cf53 2 (some .int), .methodLink RJ15 105 yJ3_checkIndex_8e157, .static yJ3_checkIndex_8e157, .initialized RJ3, .code yJ3_checkIndex_8e157 cJ3_checkIndex_8e157 3 (some .int), .methodLink RJx4a65c 123 yJx4a65c_elementData_915e3, .instanceMethod yJx4a65c_elementData_915e3, .selects RJx4a65c yJx4a65c_elementData_915e3 yJx4a65c_elementData_915e3, .initialized RJx4a65c, .code yJx4a65c_elementData_915e3 cJx4a65c_elementData_915e3 2 (some (.object "java/lang/Object")), .fieldLink RJx4a65c 9 "java/util/ArrayList" "elementData" "[Ljava/lang/Object;"] ++ wsJx4a65c0)
def wsX6_countTagsOn_r1 : List Cond := [Cond.fieldLink RX6 29 "BoilerLog" "tags" "Ljava/util/ArrayList;", Cond.classLink RX6 145 "BoilerLog$Tag", Cond.methodLink RX6 142 yJx4a65c_size_8abf5, Cond.instanceMethod yJx4a65c_size_8abf5, Cond.selects RJx4a65c yJx4a65c_size_8abf5 yJx4a65c_size_8abf5, Cond.initialized RJx4a65c, Cond.code yJx4a65c_size_8abf5 cJx4a65c_size_8abf5 1 (some .int), Cond.fieldLink RJx4a65c 48 "java/util/ArrayList" "size" "I", Cond.methodLink RX6 161 yJx4a65c_get_915e3, Cond.instanceMethod yJx4a65c_get_915e3, Cond.selects RJx4a65c yJx4a65c_get_915e3 yJx4a65c_get_915e3, Cond.code yJx4a65c_get_915e3 cJx4a65c_get_915e3 2 (some (.object "java/lang/Object")), Cond.methodLink RJx4a65c 118 yJ15_checkIndex_7cf53, Cond.static yJ15_checkIndex_7cf53, Cond.initialized RJ15, Cond.code yJ15_checkIndex_7cf53 cJ15_checkIndex_7cf53 2 (some .int), Cond.methodLink RJ15 105 yJ3_checkIndex_8e157, Cond.static yJ3_checkIndex_8e157, Cond.initialized RJ3, Cond.code yJ3_checkIndex_8e157 cJ3_checkIndex_8e157 3 (some .int), Cond.methodLink RJx4a65c 123 yJx4a65c_elementData_915e3, Cond.instanceMethod yJx4a65c_elementData_915e3, Cond.selects RJx4a65c yJx4a65c_elementData_915e3 yJx4a65c_elementData_915e3, Cond.code yJx4a65c_elementData_915e3 cJx4a65c_elementData_915e3 2 (some (.object "java/lang/Object"))]
def wsX6_countTagsOn_r2 : List Cond := [Cond.fieldLink RJx4a65c 9 "java/util/ArrayList" "elementData" "[Ljava/lang/Object;"]
def wsX6_countTagsOn : List Cond := .code yX6_countTagsOn cX6_countTagsOn 5 (some .int) :: ((wsX6_countTagsOn_r1 ++ wsX6_countTagsOn_r2) ++ wsX60 ++ wsX40 ++ wsJx4a65c0)
def wsX6_pipe_r1 : List Cond := [Cond.classLink RX6 84 "java/lang/IllegalArgumentException", Cond.initialized "java/lang/IllegalArgumentException", Cond.classLink RX6 95 "java/lang/IllegalStateException", Cond.initialized "java/lang/IllegalStateException", Cond.fieldLink RX6 11 "BoilerLog" "valves" "[LBoilerLog$Valve;", Cond.methodLink RX6 76 yX6_checkValve, Cond.static yX6_checkValve, Cond.initialized RX6, Cond.code yX6_checkValve cX6_checkValve 1 none, Cond.classLink RX6 200 "java/lang/IndexOutOfBoundsException", Cond.initialized "java/lang/IndexOutOfBoundsException", Cond.methodLink RX6 80 yX6_isEnd, Cond.static yX6_isEnd, Cond.code yX6_isEnd cX6_isEnd 1 (some .boolean), Cond.methodLink RX6 275 yX6_isVessel, Cond.static yX6_isVessel, Cond.code yX6_isVessel cX6_isVessel 1 (some .boolean), Cond.methodLink RX6 106 yX6_countTagsOn, Cond.instanceMethod yX6_countTagsOn, Cond.selects RX6 yX6_countTagsOn yX6_countTagsOn, Cond.code yX6_countTagsOn cX6_countTagsOn 5 (some .int), Cond.fieldLink RX6 29 "BoilerLog" "tags" "Ljava/util/ArrayList;", Cond.classLink RX6 145 "BoilerLog$Tag", Cond.methodLink RX6 142 yJx4a65c_size_8abf5]
def wsX6_pipe_r2 : List Cond := [Cond.instanceMethod yJx4a65c_size_8abf5, Cond.selects RJx4a65c yJx4a65c_size_8abf5 yJx4a65c_size_8abf5, Cond.initialized RJx4a65c, Cond.code yJx4a65c_size_8abf5 cJx4a65c_size_8abf5 1 (some .int), Cond.fieldLink RJx4a65c 48 "java/util/ArrayList" "size" "I", Cond.methodLink RX6 161 yJx4a65c_get_915e3, Cond.instanceMethod yJx4a65c_get_915e3, Cond.selects RJx4a65c yJx4a65c_get_915e3 yJx4a65c_get_915e3, Cond.code yJx4a65c_get_915e3 cJx4a65c_get_915e3 2 (some (.object "java/lang/Object")), Cond.methodLink RJx4a65c 118 yJ15_checkIndex_7cf53, Cond.static yJ15_checkIndex_7cf53, Cond.initialized RJ15, Cond.code yJ15_checkIndex_7cf53 cJ15_checkIndex_7cf53 2 (some .int), Cond.methodLink RJ15 105 yJ3_checkIndex_8e157, Cond.static yJ3_checkIndex_8e157, Cond.initialized RJ3, Cond.code yJ3_checkIndex_8e157 cJ3_checkIndex_8e157 3 (some .int), Cond.methodLink RJx4a65c 123 yJx4a65c_elementData_915e3, Cond.instanceMethod yJx4a65c_elementData_915e3, Cond.selects RJx4a65c yJx4a65c_elementData_915e3 yJx4a65c_elementData_915e3, Cond.code yJx4a65c_elementData_915e3 cJx4a65c_elementData_915e3 2 (some (.object "java/lang/Object")), Cond.fieldLink RJx4a65c 9 "java/util/ArrayList" "elementData" "[Ljava/lang/Object;"]
def wsX6_pipe : List Cond := .code yX6_pipe cX6_pipe 5 (some .int) :: ((wsX6_pipe_r1 ++ wsX6_pipe_r2) ++ wsX60 ++ wsX50 ++ wsX40 ++ wsJx4a65c0 ++ (vx_atS RX6 88 "java/lang/IllegalArgumentException" ["java/lang/RuntimeException", "java/lang/Exception"]).filter goodWord ++ (vx_atS RX6 99 "java/lang/IllegalStateException" ["java/lang/RuntimeException", "java/lang/Exception"]).filter goodWord ++ (vx_atS RX6 204 "java/lang/IndexOutOfBoundsException" ["java/lang/RuntimeException", "java/lang/Exception"]).filter goodWord)
def wsX6_checkPerson : List Cond := .code yX6_checkPerson cX6_checkPerson 1 none :: ([.classLink RX6 200 "java/lang/IndexOutOfBoundsException", .initialized "java/lang/IndexOutOfBoundsException"] ++ (vx_atS RX6 204 "java/lang/IndexOutOfBoundsException" ["java/lang/RuntimeException", "java/lang/Exception"]).filter goodWord)
def wsX6_isOnDuty : List Cond := .code yX6_isOnDuty cX6_isOnDuty 2 (some .boolean) :: ([.fieldLink RX6 19 "BoilerLog" "gone" "[Z", .fieldLink RX6 56 "BoilerLog" "now" "I"] ++ wsX60)
def wsX6_isAble : List Cond := .code yX6_isAble cX6_isAble 2 (some .boolean) :: ([.fieldLink RX6 23 "BoilerLog" "entriesRead" "[I", .fieldLink RX6 60 "BoilerLog" "entriesAtShiftStart" "I", .methodLink RX6 290 yX6_isOnDuty, .instanceMethod yX6_isOnDuty, .selects RX6 yX6_isOnDuty yX6_isOnDuty, .initialized RX6, .code yX6_isOnDuty cX6_isOnDuty 2 (some .boolean), .fieldLink RX6 19 "BoilerLog" "gone" "[Z", .fieldLink RX6 56 "BoilerLog" "now" "I"] ++ wsX60)
def wsX6_hasTagOfAnother_r1 : List Cond := [Cond.fieldLink RX6 29 "BoilerLog" "tags" "Ljava/util/ArrayList;", Cond.classLink RX6 145 "BoilerLog$Tag", Cond.methodLink RX6 142 yJx4a65c_size_8abf5, Cond.instanceMethod yJx4a65c_size_8abf5, Cond.selects RJx4a65c yJx4a65c_size_8abf5 yJx4a65c_size_8abf5, Cond.initialized RJx4a65c, Cond.code yJx4a65c_size_8abf5 cJx4a65c_size_8abf5 1 (some .int), Cond.fieldLink RJx4a65c 48 "java/util/ArrayList" "size" "I", Cond.methodLink RX6 161 yJx4a65c_get_915e3, Cond.instanceMethod yJx4a65c_get_915e3, Cond.selects RJx4a65c yJx4a65c_get_915e3 yJx4a65c_get_915e3, Cond.code yJx4a65c_get_915e3 cJx4a65c_get_915e3 2 (some (.object "java/lang/Object")), Cond.methodLink RJx4a65c 118 yJ15_checkIndex_7cf53, Cond.static yJ15_checkIndex_7cf53, Cond.initialized RJ15, Cond.code yJ15_checkIndex_7cf53 cJ15_checkIndex_7cf53 2 (some .int), Cond.methodLink RJ15 105 yJ3_checkIndex_8e157, Cond.static yJ3_checkIndex_8e157, Cond.initialized RJ3, Cond.code yJ3_checkIndex_8e157 cJ3_checkIndex_8e157 3 (some .int), Cond.methodLink RJx4a65c 123 yJx4a65c_elementData_915e3, Cond.instanceMethod yJx4a65c_elementData_915e3, Cond.selects RJx4a65c yJx4a65c_elementData_915e3 yJx4a65c_elementData_915e3, Cond.code yJx4a65c_elementData_915e3 cJx4a65c_elementData_915e3 2 (some (.object "java/lang/Object"))]
def wsX6_hasTagOfAnother_r2 : List Cond := [Cond.fieldLink RJx4a65c 9 "java/util/ArrayList" "elementData" "[Ljava/lang/Object;"]
def wsX6_hasTagOfAnother : List Cond := .code yX6_hasTagOfAnother cX6_hasTagOfAnother 5 (some .boolean) :: ((wsX6_hasTagOfAnother_r1 ++ wsX6_hasTagOfAnother_r2) ++ wsX60 ++ wsX40 ++ wsJx4a65c0)
def wsX6_findObstacle_r1 : List Cond := [Cond.methodLink RX6 290 yX6_isOnDuty, Cond.instanceMethod yX6_isOnDuty, Cond.selects RX6 yX6_isOnDuty yX6_isOnDuty, Cond.initialized RX6, Cond.code yX6_isOnDuty cX6_isOnDuty 2 (some .boolean), Cond.fieldLink RX6 19 "BoilerLog" "gone" "[Z", Cond.fieldLink RX6 56 "BoilerLog" "now" "I", Cond.methodLink RX6 139 yX6_isAble, Cond.instanceMethod yX6_isAble, Cond.selects RX6 yX6_isAble yX6_isAble, Cond.code yX6_isAble cX6_isAble 2 (some .boolean), Cond.fieldLink RX6 23 "BoilerLog" "entriesRead" "[I", Cond.fieldLink RX6 60 "BoilerLog" "entriesAtShiftStart" "I", Cond.methodLink RX6 293 yX6_hasTagOfAnother, Cond.instanceMethod yX6_hasTagOfAnother, Cond.selects RX6 yX6_hasTagOfAnother yX6_hasTagOfAnother, Cond.code yX6_hasTagOfAnother cX6_hasTagOfAnother 5 (some .boolean), Cond.fieldLink RX6 29 "BoilerLog" "tags" "Ljava/util/ArrayList;", Cond.classLink RX6 145 "BoilerLog$Tag", Cond.methodLink RX6 142 yJx4a65c_size_8abf5, Cond.instanceMethod yJx4a65c_size_8abf5, Cond.selects RJx4a65c yJx4a65c_size_8abf5 yJx4a65c_size_8abf5, Cond.initialized RJx4a65c, Cond.code yJx4a65c_size_8abf5 cJx4a65c_size_8abf5 1 (some .int)]
def wsX6_findObstacle_r2 : List Cond := [Cond.fieldLink RJx4a65c 48 "java/util/ArrayList" "size" "I", Cond.methodLink RX6 161 yJx4a65c_get_915e3, Cond.instanceMethod yJx4a65c_get_915e3, Cond.selects RJx4a65c yJx4a65c_get_915e3 yJx4a65c_get_915e3, Cond.code yJx4a65c_get_915e3 cJx4a65c_get_915e3 2 (some (.object "java/lang/Object")), Cond.methodLink RJx4a65c 118 yJ15_checkIndex_7cf53, Cond.static yJ15_checkIndex_7cf53, Cond.initialized RJ15, Cond.code yJ15_checkIndex_7cf53 cJ15_checkIndex_7cf53 2 (some .int), Cond.methodLink RJ15 105 yJ3_checkIndex_8e157, Cond.static yJ3_checkIndex_8e157, Cond.initialized RJ3, Cond.code yJ3_checkIndex_8e157 cJ3_checkIndex_8e157 3 (some .int), Cond.methodLink RJx4a65c 123 yJx4a65c_elementData_915e3, Cond.instanceMethod yJx4a65c_elementData_915e3, Cond.selects RJx4a65c yJx4a65c_elementData_915e3 yJx4a65c_elementData_915e3, Cond.code yJx4a65c_elementData_915e3 cJx4a65c_elementData_915e3 2 (some (.object "java/lang/Object")), Cond.fieldLink RJx4a65c 9 "java/util/ArrayList" "elementData" "[Ljava/lang/Object;"]
def wsX6_findObstacle : List Cond := .code yX6_findObstacle cX6_findObstacle 3 (some .int) :: ((wsX6_findObstacle_r1 ++ wsX6_findObstacle_r2) ++ wsX60 ++ wsX40 ++ wsJx4a65c0)
def wsX6_setValve_r1 : List Cond := [Cond.fieldLink RX6 11 "BoilerLog" "valves" "[LBoilerLog$Valve;", Cond.fieldLink RX6 45 "BoilerLog" "log" "LBoilerLog$Log;", Cond.fieldLink RX6 56 "BoilerLog" "now" "I", Cond.instanceMethod yX2_noteTurn, Cond.initialized RX2, Cond.selects RX2 yX2_noteTurn yX2_noteTurn, Cond.code yX2_noteTurn cX2_noteTurn 5 none, Cond.methodLink RX2 25 yX2_note, Cond.instanceMethod yX2_note, Cond.selects RX2 yX2_note yX2_note, Cond.code yX2_note cX2_note 5 none, Cond.fieldLink RX2 15 "BoilerLog$Log" "count" "I", Cond.fieldLink RX2 11 "BoilerLog$Log" "codes" "[I", Cond.methodLink RX2 19 yJ7_copyOf_59c91, Cond.static yJ7_copyOf_59c91, Cond.initialized RJ7, Cond.code yJ7_copyOf_59c91 cJ7_copyOf_59c91 3 (some (.array .int)), Cond.methodLink RJ7 316 ⟨"[I", "clone", "()Ljava/lang/Object;"⟩, Cond.sameMethod "[I" "java/lang/Object" "clone" "()Ljava/lang/Object;", Cond.native ⟨"java/lang/Object", "clone", "()Ljava/lang/Object;"⟩, Cond.instanceMethod ⟨"java/lang/Object", "clone", "()Ljava/lang/Object;"⟩, Cond.selects "[I" ⟨"[I", "clone", "()Ljava/lang/Object;"⟩ ⟨"java/lang/Object", "clone", "()Ljava/lang/Object;"⟩, Cond.classLink RJ7 317 "[I", Cond.arrayClass .int]
def wsX6_setValve_r2 : List Cond := [Cond.methodLink RJ7 304 Lib.Math.min.name, Cond.static Lib.Math.min.name, Cond.initialized "java/lang/Math", Cond.code Lib.Math.min.name Lib.Math.min.code 2 (some .int), Cond.methodLink RJ7 150 arraycopyName, Cond.native arraycopyName, Cond.static arraycopyName, Cond.initialized "java/lang/System"]
def wsX6_setValve : List Cond := .code yX6_setValve cX6_setValve 5 (some .boolean) :: ((wsX6_setValve_r1 ++ wsX6_setValve_r2) ++ wsX60 ++ wsX50 ++ wsX20)
def wsX6_turn_r1 : List Cond := [Cond.classLink RX6 95 "java/lang/IllegalStateException", Cond.initialized "java/lang/IllegalStateException", Cond.methodLink RX6 110 yX6_checkPerson, Cond.static yX6_checkPerson, Cond.initialized RX6, Cond.code yX6_checkPerson cX6_checkPerson 1 none, Cond.classLink RX6 200 "java/lang/IndexOutOfBoundsException", Cond.initialized "java/lang/IndexOutOfBoundsException", Cond.methodLink RX6 76 yX6_checkValve, Cond.static yX6_checkValve, Cond.code yX6_checkValve cX6_checkValve 1 none, Cond.methodLink RX6 113 yX6_findObstacle, Cond.instanceMethod yX6_findObstacle, Cond.selects RX6 yX6_findObstacle yX6_findObstacle, Cond.code yX6_findObstacle cX6_findObstacle 3 (some .int), Cond.methodLink RX6 290 yX6_isOnDuty, Cond.instanceMethod yX6_isOnDuty, Cond.selects RX6 yX6_isOnDuty yX6_isOnDuty, Cond.code yX6_isOnDuty cX6_isOnDuty 2 (some .boolean), Cond.fieldLink RX6 19 "BoilerLog" "gone" "[Z", Cond.fieldLink RX6 56 "BoilerLog" "now" "I", Cond.methodLink RX6 139 yX6_isAble, Cond.instanceMethod yX6_isAble, Cond.selects RX6 yX6_isAble yX6_isAble]
def wsX6_turn_r2 : List Cond := [Cond.code yX6_isAble cX6_isAble 2 (some .boolean), Cond.fieldLink RX6 23 "BoilerLog" "entriesRead" "[I", Cond.fieldLink RX6 60 "BoilerLog" "entriesAtShiftStart" "I", Cond.methodLink RX6 293 yX6_hasTagOfAnother, Cond.instanceMethod yX6_hasTagOfAnother, Cond.selects RX6 yX6_hasTagOfAnother yX6_hasTagOfAnother, Cond.code yX6_hasTagOfAnother cX6_hasTagOfAnother 5 (some .boolean), Cond.fieldLink RX6 29 "BoilerLog" "tags" "Ljava/util/ArrayList;", Cond.classLink RX6 145 "BoilerLog$Tag", Cond.methodLink RX6 142 yJx4a65c_size_8abf5, Cond.instanceMethod yJx4a65c_size_8abf5, Cond.selects RJx4a65c yJx4a65c_size_8abf5 yJx4a65c_size_8abf5, Cond.initialized RJx4a65c, Cond.code yJx4a65c_size_8abf5 cJx4a65c_size_8abf5 1 (some .int), Cond.fieldLink RJx4a65c 48 "java/util/ArrayList" "size" "I", Cond.methodLink RX6 161 yJx4a65c_get_915e3, Cond.instanceMethod yJx4a65c_get_915e3, Cond.selects RJx4a65c yJx4a65c_get_915e3 yJx4a65c_get_915e3, Cond.code yJx4a65c_get_915e3 cJx4a65c_get_915e3 2 (some (.object "java/lang/Object")), Cond.methodLink RJx4a65c 118 yJ15_checkIndex_7cf53, Cond.static yJ15_checkIndex_7cf53, Cond.initialized RJ15, Cond.code yJ15_checkIndex_7cf53 cJ15_checkIndex_7cf53 2 (some .int), Cond.methodLink RJ15 105 yJ3_checkIndex_8e157]
def wsX6_turn_r3 : List Cond := [Cond.static yJ3_checkIndex_8e157, Cond.initialized RJ3, Cond.code yJ3_checkIndex_8e157 cJ3_checkIndex_8e157 3 (some .int), Cond.methodLink RJx4a65c 123 yJx4a65c_elementData_915e3, Cond.instanceMethod yJx4a65c_elementData_915e3, Cond.selects RJx4a65c yJx4a65c_elementData_915e3 yJx4a65c_elementData_915e3, Cond.code yJx4a65c_elementData_915e3 cJx4a65c_elementData_915e3 2 (some (.object "java/lang/Object")), Cond.fieldLink RJx4a65c 9 "java/util/ArrayList" "elementData" "[Ljava/lang/Object;", Cond.methodLink RX6 119 yX6_setValve, Cond.instanceMethod yX6_setValve, Cond.selects RX6 yX6_setValve yX6_setValve, Cond.code yX6_setValve cX6_setValve 5 (some .boolean), Cond.fieldLink RX6 11 "BoilerLog" "valves" "[LBoilerLog$Valve;", Cond.fieldLink RX6 45 "BoilerLog" "log" "LBoilerLog$Log;", Cond.instanceMethod yX2_noteTurn, Cond.initialized RX2, Cond.selects RX2 yX2_noteTurn yX2_noteTurn, Cond.code yX2_noteTurn cX2_noteTurn 5 none, Cond.methodLink RX2 25 yX2_note, Cond.instanceMethod yX2_note, Cond.selects RX2 yX2_note yX2_note, Cond.code yX2_note cX2_note 5 none, Cond.fieldLink RX2 15 "BoilerLog$Log" "count" "I", Cond.fieldLink RX2 11 "BoilerLog$Log" "codes" "[I"]
def wsX6_turn_r4 : List Cond := [Cond.methodLink RX2 19 yJ7_copyOf_59c91, Cond.static yJ7_copyOf_59c91, Cond.initialized RJ7, Cond.code yJ7_copyOf_59c91 cJ7_copyOf_59c91 3 (some (.array .int)), Cond.methodLink RJ7 316 ⟨"[I", "clone", "()Ljava/lang/Object;"⟩, Cond.sameMethod "[I" "java/lang/Object" "clone" "()Ljava/lang/Object;", Cond.native ⟨"java/lang/Object", "clone", "()Ljava/lang/Object;"⟩, Cond.instanceMethod ⟨"java/lang/Object", "clone", "()Ljava/lang/Object;"⟩, Cond.selects "[I" ⟨"[I", "clone", "()Ljava/lang/Object;"⟩ ⟨"java/lang/Object", "clone", "()Ljava/lang/Object;"⟩, Cond.classLink RJ7 317 "[I", Cond.arrayClass .int, Cond.methodLink RJ7 304 Lib.Math.min.name, Cond.static Lib.Math.min.name, Cond.initialized "java/lang/Math", Cond.code Lib.Math.min.name Lib.Math.min.code 2 (some .int), Cond.methodLink RJ7 150 arraycopyName, Cond.native arraycopyName, Cond.static arraycopyName, Cond.initialized "java/lang/System"]
def wsX6_turn : List Cond := .code yX6_turn cX6_turn 4 (some .boolean) :: ((wsX6_turn_r1 ++ (wsX6_turn_r2 ++ (wsX6_turn_r3 ++ wsX6_turn_r4))) ++ wsX60 ++ wsX40 ++ wsJx4a65c0 ++ wsX50 ++ wsX20 ++ (vx_atS RX6 99 "java/lang/IllegalStateException" ["java/lang/RuntimeException", "java/lang/Exception"]).filter goodWord ++ (vx_atS RX6 204 "java/lang/IndexOutOfBoundsException" ["java/lang/RuntimeException", "java/lang/Exception"]).filter goodWord)
def wsX6_obstacle_r1 : List Cond := [Cond.methodLink RX6 110 yX6_checkPerson, Cond.static yX6_checkPerson, Cond.initialized RX6, Cond.code yX6_checkPerson cX6_checkPerson 1 none, Cond.classLink RX6 200 "java/lang/IndexOutOfBoundsException", Cond.initialized "java/lang/IndexOutOfBoundsException", Cond.methodLink RX6 76 yX6_checkValve, Cond.static yX6_checkValve, Cond.code yX6_checkValve cX6_checkValve 1 none, Cond.methodLink RX6 113 yX6_findObstacle, Cond.instanceMethod yX6_findObstacle, Cond.selects RX6 yX6_findObstacle yX6_findObstacle, Cond.code yX6_findObstacle cX6_findObstacle 3 (some .int), Cond.methodLink RX6 290 yX6_isOnDuty, Cond.instanceMethod yX6_isOnDuty, Cond.selects RX6 yX6_isOnDuty yX6_isOnDuty, Cond.code yX6_isOnDuty cX6_isOnDuty 2 (some .boolean), Cond.fieldLink RX6 19 "BoilerLog" "gone" "[Z", Cond.fieldLink RX6 56 "BoilerLog" "now" "I", Cond.methodLink RX6 139 yX6_isAble, Cond.instanceMethod yX6_isAble, Cond.selects RX6 yX6_isAble yX6_isAble, Cond.code yX6_isAble cX6_isAble 2 (some .boolean), Cond.fieldLink RX6 23 "BoilerLog" "entriesRead" "[I"]
def wsX6_obstacle_r2 : List Cond := [Cond.fieldLink RX6 60 "BoilerLog" "entriesAtShiftStart" "I", Cond.methodLink RX6 293 yX6_hasTagOfAnother, Cond.instanceMethod yX6_hasTagOfAnother, Cond.selects RX6 yX6_hasTagOfAnother yX6_hasTagOfAnother, Cond.code yX6_hasTagOfAnother cX6_hasTagOfAnother 5 (some .boolean), Cond.fieldLink RX6 29 "BoilerLog" "tags" "Ljava/util/ArrayList;", Cond.classLink RX6 145 "BoilerLog$Tag", Cond.methodLink RX6 142 yJx4a65c_size_8abf5, Cond.instanceMethod yJx4a65c_size_8abf5, Cond.selects RJx4a65c yJx4a65c_size_8abf5 yJx4a65c_size_8abf5, Cond.initialized RJx4a65c, Cond.code yJx4a65c_size_8abf5 cJx4a65c_size_8abf5 1 (some .int), Cond.fieldLink RJx4a65c 48 "java/util/ArrayList" "size" "I", Cond.methodLink RX6 161 yJx4a65c_get_915e3, Cond.instanceMethod yJx4a65c_get_915e3, Cond.selects RJx4a65c yJx4a65c_get_915e3 yJx4a65c_get_915e3, Cond.code yJx4a65c_get_915e3 cJx4a65c_get_915e3 2 (some (.object "java/lang/Object")), Cond.methodLink RJx4a65c 118 yJ15_checkIndex_7cf53, Cond.static yJ15_checkIndex_7cf53, Cond.initialized RJ15, Cond.code yJ15_checkIndex_7cf53 cJ15_checkIndex_7cf53 2 (some .int), Cond.methodLink RJ15 105 yJ3_checkIndex_8e157, Cond.static yJ3_checkIndex_8e157, Cond.initialized RJ3]
def wsX6_obstacle_r3 : List Cond := [Cond.code yJ3_checkIndex_8e157 cJ3_checkIndex_8e157 3 (some .int), Cond.methodLink RJx4a65c 123 yJx4a65c_elementData_915e3, Cond.instanceMethod yJx4a65c_elementData_915e3, Cond.selects RJx4a65c yJx4a65c_elementData_915e3 yJx4a65c_elementData_915e3, Cond.code yJx4a65c_elementData_915e3 cJx4a65c_elementData_915e3 2 (some (.object "java/lang/Object")), Cond.fieldLink RJx4a65c 9 "java/util/ArrayList" "elementData" "[Ljava/lang/Object;"]
def wsX6_obstacle : List Cond := .code yX6_obstacle cX6_obstacle 3 (some .int) :: ((wsX6_obstacle_r1 ++ (wsX6_obstacle_r2 ++ wsX6_obstacle_r3)) ++ wsX60 ++ wsX40 ++ wsJx4a65c0 ++ (vx_atS RX6 204 "java/lang/IndexOutOfBoundsException" ["java/lang/RuntimeException", "java/lang/Exception"]).filter goodWord)
def wsX6_isOpen : List Cond := .code yX6_isOpen cX6_isOpen 2 (some .boolean) :: ([.fieldLink RX6 11 "BoilerLog" "valves" "[LBoilerLog$Valve;", .methodLink RX6 76 yX6_checkValve, .static yX6_checkValve, .initialized RX6, .code yX6_checkValve cX6_checkValve 1 none, .classLink RX6 200 "java/lang/IndexOutOfBoundsException", .initialized "java/lang/IndexOutOfBoundsException"] ++ wsX60 ++ wsX50 ++ (vx_atS RX6 204 "java/lang/IndexOutOfBoundsException" ["java/lang/RuntimeException", "java/lang/Exception"]).filter goodWord)
def wsX6_isOpenByLog_r1 : List Cond := [Cond.fieldLink RX6 45 "BoilerLog" "log" "LBoilerLog$Log;", Cond.methodLink RX6 76 yX6_checkValve, Cond.static yX6_checkValve, Cond.initialized RX6, Cond.code yX6_checkValve cX6_checkValve 1 none, Cond.classLink RX6 200 "java/lang/IndexOutOfBoundsException", Cond.initialized "java/lang/IndexOutOfBoundsException", Cond.instanceMethod yX2_size, Cond.initialized RX2, Cond.selects RX2 yX2_size yX2_size, Cond.code yX2_size cX2_size 1 (some .int), Cond.fieldLink RX2 15 "BoilerLog$Log" "count" "I", Cond.instanceMethod yX2_kindAt, Cond.selects RX2 yX2_kindAt yX2_kindAt, Cond.code yX2_kindAt cX2_kindAt 2 (some .int), Cond.fieldLink RX2 11 "BoilerLog$Log" "codes" "[I", Cond.instanceMethod yX2_valveTurnedAt, Cond.selects RX2 yX2_valveTurnedAt yX2_valveTurnedAt, Cond.code yX2_valveTurnedAt cX2_valveTurnedAt 2 (some .int), Cond.methodLink RX2 29 yX2_whatAt, Cond.instanceMethod yX2_whatAt, Cond.selects RX2 yX2_whatAt yX2_whatAt, Cond.code yX2_whatAt cX2_whatAt 2 (some .int), Cond.instanceMethod yX2_opensAt]
def wsX6_isOpenByLog_r2 : List Cond := [Cond.selects RX2 yX2_opensAt yX2_opensAt, Cond.code yX2_opensAt cX2_opensAt 2 (some .boolean)]
def wsX6_isOpenByLog : List Cond := .code yX6_isOpenByLog cX6_isOpenByLog 3 (some .boolean) :: ((wsX6_isOpenByLog_r1 ++ wsX6_isOpenByLog_r2) ++ wsX60 ++ wsX20 ++ (vx_atS RX6 204 "java/lang/IndexOutOfBoundsException" ["java/lang/RuntimeException", "java/lang/Exception"]).filter goodWord)
def wsX6_checkVessel : List Cond := .code yX6_checkVessel cX6_checkVessel 1 none :: ([.classLink RX6 200 "java/lang/IndexOutOfBoundsException", .initialized "java/lang/IndexOutOfBoundsException", .methodLink RX6 275 yX6_isVessel, .static yX6_isVessel, .initialized RX6, .code yX6_isVessel cX6_isVessel 1 (some .boolean)] ++ (vx_atS RX6 204 "java/lang/IndexOutOfBoundsException" ["java/lang/RuntimeException", "java/lang/Exception"]).filter goodWord)
def wsX6_level : List Cond := .code yX6_level cX6_level 2 (some .int) :: ([.fieldLink RX6 15 "BoilerLog" "levels" "[I", .methodLink RX6 136 yX6_checkVessel, .static yX6_checkVessel, .initialized RX6, .code yX6_checkVessel cX6_checkVessel 1 none, .classLink RX6 200 "java/lang/IndexOutOfBoundsException", .initialized "java/lang/IndexOutOfBoundsException", .methodLink RX6 275 yX6_isVessel, .static yX6_isVessel, .code yX6_isVessel cX6_isVessel 1 (some .boolean)] ++ wsX60 ++ (vx_atS RX6 204 "java/lang/IndexOutOfBoundsException" ["java/lang/RuntimeException", "java/lang/Exception"]).filter goodWord)
def wsX6_spilled : List Cond := .code yX6_spilled cX6_spilled 1 (some .int) :: ([.fieldLink RX6 63 "BoilerLog" "lost" "I"] ++ wsX60)
def wsJ8_hugeLength_7cf53 : List Cond := .code yJ8_hugeLength_7cf53 cJ8_hugeLength_7cf53 3 (some .int) :: ([.constant RJ8 200 (2147483639)])
def wsJ8_newLength_cabcc : List Cond := .code yJ8_newLength_cabcc cJ8_newLength_cabcc 4 (some .int) :: ([.methodLink RJ8 194 Lib.Math.max.name, .static Lib.Math.max.name, .initialized "java/lang/Math", .code Lib.Math.max.name Lib.Math.max.code 2 (some .int), .constant RJ8 200 (2147483639), .methodLink RJ8 201 yJ8_hugeLength_7cf53, .static yJ8_hugeLength_7cf53, .initialized RJ8, .code yJ8_hugeLength_7cf53 cJ8_hugeLength_7cf53 3 (some .int)])
def wsJ7_copyOf_6403c : List Cond := .code yJ7_copyOf_6403c cJ7_copyOf_6403c 4 (some (.array (.object "java/lang/Object"))) :: ([.classLink RJ7 110 "[Ljava/lang/Object;", .classLink RJ7 2 "java/lang/Object", .methodLink RJ7 304 Lib.Math.min.name, .static Lib.Math.min.name, .initialized "java/lang/Math", .code Lib.Math.min.name Lib.Math.min.code 2 (some .int), .methodLink RJ7 150 arraycopyName, .native arraycopyName, .static arraycopyName, .initialized "java/lang/System"])
def wsJ7_copyOf_1904c : List Cond := .code yJ7_copyOf_1904c cJ7_copyOf_1904c 2 (some (.array (.object "java/lang/Object"))) :: ([.methodLink RJ7 86 ⟨"java/lang/Object", "getClass", "()Ljava/lang/Class;"⟩, .selects "[Ljava/lang/Object;" ⟨"java/lang/Object", "getClass", "()Ljava/lang/Class;"⟩ ⟨"java/lang/Object", "getClass", "()Ljava/lang/Class;"⟩, .instanceMethod ⟨"java/lang/Object", "getClass", "()Ljava/lang/Class;"⟩, .native ⟨"java/lang/Object", "getClass", "()Ljava/lang/Class;"⟩, .methodLink RJ7 300 yJ7_copyOf_6403c, .static yJ7_copyOf_6403c, .initialized RJ7, .code yJ7_copyOf_6403c cJ7_copyOf_6403c 4 (some (.array (.object "java/lang/Object"))), .classLink RJ7 110 "[Ljava/lang/Object;", .classLink RJ7 2 "java/lang/Object", .methodLink RJ7 304 Lib.Math.min.name, .static Lib.Math.min.name, .initialized "java/lang/Math", .code Lib.Math.min.name Lib.Math.min.code 2 (some .int), .methodLink RJ7 150 arraycopyName, .native arraycopyName, .static arraycopyName, .initialized "java/lang/System"])
def wsJx4a65c_grow_92f84_r1 : List Cond := [Cond.fieldLink RJx4a65c 9 "java/util/ArrayList" "elementData" "[Ljava/lang/Object;", Cond.fieldLink RJx4a65c 39 "java/util/ArrayList" "DEFAULTCAPACITY_EMPTY_ELEMENTDATA" "[Ljava/lang/Object;", Cond.methodLink RJx4a65c 79 Lib.Math.max.name, Cond.static Lib.Math.max.name, Cond.initialized "java/lang/Math", Cond.code Lib.Math.max.name Lib.Math.max.code 2 (some .int), Cond.classLink RJx4a65c 7 "java/lang/Object", Cond.methodLink RJx4a65c 73 yJ8_newLength_cabcc, Cond.static yJ8_newLength_cabcc, Cond.initialized RJ8, Cond.code yJ8_newLength_cabcc cJ8_newLength_cabcc 4 (some .int), Cond.methodLink RJ8 194 Lib.Math.max.name, Cond.constant RJ8 200 (2147483639), Cond.methodLink RJ8 201 yJ8_hugeLength_7cf53, Cond.static yJ8_hugeLength_7cf53, Cond.code yJ8_hugeLength_7cf53 cJ8_hugeLength_7cf53 3 (some .int), Cond.methodLink RJx4a65c 66 yJ7_copyOf_1904c, Cond.static yJ7_copyOf_1904c, Cond.initialized RJ7, Cond.code yJ7_copyOf_1904c cJ7_copyOf_1904c 2 (some (.array (.object "java/lang/Object"))), Cond.methodLink RJ7 86 ⟨"java/lang/Object", "getClass", "()Ljava/lang/Class;"⟩, Cond.selects "[Ljava/lang/Object;" ⟨"java/lang/Object", "getClass", "()Ljava/lang/Class;"⟩ ⟨"java/lang/Object", "getClass", "()Ljava/lang/Class;"⟩, Cond.instanceMethod ⟨"java/lang/Object", "getClass", "()Ljava/lang/Class;"⟩, Cond.native ⟨"java/lang/Object", "getClass", "()Ljava/lang/Class;"⟩]
def wsJx4a65c_grow_92f84_r2 : List Cond := [Cond.methodLink RJ7 300 yJ7_copyOf_6403c, Cond.static yJ7_copyOf_6403c, Cond.code yJ7_copyOf_6403c cJ7_copyOf_6403c 4 (some (.array (.object "java/lang/Object"))), Cond.classLink RJ7 110 "[Ljava/lang/Object;", Cond.classLink RJ7 2 "java/lang/Object", Cond.methodLink RJ7 304 Lib.Math.min.name, Cond.static Lib.Math.min.name, Cond.code Lib.Math.min.name Lib.Math.min.code 2 (some .int), Cond.methodLink RJ7 150 arraycopyName, Cond.native arraycopyName, Cond.static arraycopyName, Cond.initialized "java/lang/System"]
def wsJx4a65c_grow_92f84 : List Cond := .code yJx4a65c_grow_92f84 cJx4a65c_grow_92f84 4 (some (.array (.object "java/lang/Object"))) :: ((wsJx4a65c_grow_92f84_r1 ++ wsJx4a65c_grow_92f84_r2) ++ wsJx4a65c0)
def wsJx4a65c_grow_d5877_r1 : List Cond := [Cond.fieldLink RJx4a65c 48 "java/util/ArrayList" "size" "I", Cond.methodLink RJx4a65c 69 yJx4a65c_grow_92f84, Cond.instanceMethod yJx4a65c_grow_92f84, Cond.selects RJx4a65c yJx4a65c_grow_92f84 yJx4a65c_grow_92f84, Cond.initialized RJx4a65c, Cond.code yJx4a65c_grow_92f84 cJx4a65c_grow_92f84 4 (some (.array (.object "java/lang/Object"))), Cond.fieldLink RJx4a65c 9 "java/util/ArrayList" "elementData" "[Ljava/lang/Object;", Cond.fieldLink RJx4a65c 39 "java/util/ArrayList" "DEFAULTCAPACITY_EMPTY_ELEMENTDATA" "[Ljava/lang/Object;", Cond.methodLink RJx4a65c 79 Lib.Math.max.name, Cond.static Lib.Math.max.name, Cond.initialized "java/lang/Math", Cond.code Lib.Math.max.name Lib.Math.max.code 2 (some .int), Cond.classLink RJx4a65c 7 "java/lang/Object", Cond.methodLink RJx4a65c 73 yJ8_newLength_cabcc, Cond.static yJ8_newLength_cabcc, Cond.initialized RJ8, Cond.code yJ8_newLength_cabcc cJ8_newLength_cabcc 4 (some .int), Cond.methodLink RJ8 194 Lib.Math.max.name, Cond.constant RJ8 200 (2147483639), Cond.methodLink RJ8 201 yJ8_hugeLength_7cf53, Cond.static yJ8_hugeLength_7cf53, Cond.code yJ8_hugeLength_7cf53 cJ8_hugeLength_7cf53 3 (some .int), Cond.methodLink RJx4a65c 66 yJ7_copyOf_1904c, Cond.static yJ7_copyOf_1904c]
def wsJx4a65c_grow_d5877_r2 : List Cond := [Cond.initialized RJ7, Cond.code yJ7_copyOf_1904c cJ7_copyOf_1904c 2 (some (.array (.object "java/lang/Object"))), Cond.methodLink RJ7 86 ⟨"java/lang/Object", "getClass", "()Ljava/lang/Class;"⟩, Cond.selects "[Ljava/lang/Object;" ⟨"java/lang/Object", "getClass", "()Ljava/lang/Class;"⟩ ⟨"java/lang/Object", "getClass", "()Ljava/lang/Class;"⟩, Cond.instanceMethod ⟨"java/lang/Object", "getClass", "()Ljava/lang/Class;"⟩, Cond.native ⟨"java/lang/Object", "getClass", "()Ljava/lang/Class;"⟩, Cond.methodLink RJ7 300 yJ7_copyOf_6403c, Cond.static yJ7_copyOf_6403c, Cond.code yJ7_copyOf_6403c cJ7_copyOf_6403c 4 (some (.array (.object "java/lang/Object"))), Cond.classLink RJ7 110 "[Ljava/lang/Object;", Cond.classLink RJ7 2 "java/lang/Object", Cond.methodLink RJ7 304 Lib.Math.min.name, Cond.static Lib.Math.min.name, Cond.code Lib.Math.min.name Lib.Math.min.code 2 (some .int), Cond.methodLink RJ7 150 arraycopyName, Cond.native arraycopyName, Cond.static arraycopyName, Cond.initialized "java/lang/System"]
def wsJx4a65c_grow_d5877 : List Cond := .code yJx4a65c_grow_d5877 cJx4a65c_grow_d5877 1 (some (.array (.object "java/lang/Object"))) :: ((wsJx4a65c_grow_d5877_r1 ++ wsJx4a65c_grow_d5877_r2) ++ wsJx4a65c0)
def wsJx4a65c_add_72be8_r1 : List Cond := [Cond.fieldLink RJx4a65c 48 "java/util/ArrayList" "size" "I", Cond.methodLink RJx4a65c 129 yJx4a65c_grow_d5877, Cond.instanceMethod yJx4a65c_grow_d5877, Cond.selects RJx4a65c yJx4a65c_grow_d5877 yJx4a65c_grow_d5877, Cond.initialized RJx4a65c, Cond.code yJx4a65c_grow_d5877 cJx4a65c_grow_d5877 1 (some (.array (.object "java/lang/Object"))), Cond.methodLink RJx4a65c 69 yJx4a65c_grow_92f84, Cond.instanceMethod yJx4a65c_grow_92f84, Cond.selects RJx4a65c yJx4a65c_grow_92f84 yJx4a65c_grow_92f84, Cond.code yJx4a65c_grow_92f84 cJx4a65c_grow_92f84 4 (some (.array (.object "java/lang/Object"))), Cond.fieldLink RJx4a65c 9 "java/util/ArrayList" "elementData" "[Ljava/lang/Object;", Cond.fieldLink RJx4a65c 39 "java/util/ArrayList" "DEFAULTCAPACITY_EMPTY_ELEMENTDATA" "[Ljava/lang/Object;", Cond.methodLink RJx4a65c 79 Lib.Math.max.name, Cond.static Lib.Math.max.name, Cond.initialized "java/lang/Math", Cond.code Lib.Math.max.name Lib.Math.max.code 2 (some .int), Cond.classLink RJx4a65c 7 "java/lang/Object", Cond.methodLink RJx4a65c 73 yJ8_newLength_cabcc, Cond.static yJ8_newLength_cabcc, Cond.initialized RJ8, Cond.code yJ8_newLength_cabcc cJ8_newLength_cabcc 4 (some .int), Cond.methodLink RJ8 194 Lib.Math.max.name, Cond.constant RJ8 200 (2147483639), Cond.methodLink RJ8 201 yJ8_hugeLength_7cf53]
def wsJx4a65c_add_72be8_r2 : List Cond := [Cond.static yJ8_hugeLength_7cf53, Cond.code yJ8_hugeLength_7cf53 cJ8_hugeLength_7cf53 3 (some .int), Cond.methodLink RJx4a65c 66 yJ7_copyOf_1904c, Cond.static yJ7_copyOf_1904c, Cond.initialized RJ7, Cond.code yJ7_copyOf_1904c cJ7_copyOf_1904c 2 (some (.array (.object "java/lang/Object"))), Cond.methodLink RJ7 86 ⟨"java/lang/Object", "getClass", "()Ljava/lang/Class;"⟩, Cond.selects "[Ljava/lang/Object;" ⟨"java/lang/Object", "getClass", "()Ljava/lang/Class;"⟩ ⟨"java/lang/Object", "getClass", "()Ljava/lang/Class;"⟩, Cond.instanceMethod ⟨"java/lang/Object", "getClass", "()Ljava/lang/Class;"⟩, Cond.native ⟨"java/lang/Object", "getClass", "()Ljava/lang/Class;"⟩, Cond.methodLink RJ7 300 yJ7_copyOf_6403c, Cond.static yJ7_copyOf_6403c, Cond.code yJ7_copyOf_6403c cJ7_copyOf_6403c 4 (some (.array (.object "java/lang/Object"))), Cond.classLink RJ7 110 "[Ljava/lang/Object;", Cond.classLink RJ7 2 "java/lang/Object", Cond.methodLink RJ7 304 Lib.Math.min.name, Cond.static Lib.Math.min.name, Cond.code Lib.Math.min.name Lib.Math.min.code 2 (some .int), Cond.methodLink RJ7 150 arraycopyName, Cond.native arraycopyName, Cond.static arraycopyName, Cond.initialized "java/lang/System"]
def wsJx4a65c_add_72be8 : List Cond := .code yJx4a65c_add_72be8 cJx4a65c_add_72be8 4 none :: ((wsJx4a65c_add_72be8_r1 ++ wsJx4a65c_add_72be8_r2) ++ wsJx4a65c0)
def wsJx4a65c_add_9ea2d_r1 : List Cond := [Cond.fieldLink RJx4a65c 63 "java/util/ArrayList" "modCount" "I", Cond.sameField "java/util/ArrayList" "java/util/AbstractList" "modCount" "I", Cond.fieldLink RJx4a65c 9 "java/util/ArrayList" "elementData" "[Ljava/lang/Object;", Cond.fieldLink RJx4a65c 48 "java/util/ArrayList" "size" "I", Cond.methodLink RJx4a65c 131 yJx4a65c_add_72be8, Cond.instanceMethod yJx4a65c_add_72be8, Cond.selects RJx4a65c yJx4a65c_add_72be8 yJx4a65c_add_72be8, Cond.initialized RJx4a65c, Cond.code yJx4a65c_add_72be8 cJx4a65c_add_72be8 4 none, Cond.methodLink RJx4a65c 129 yJx4a65c_grow_d5877, Cond.instanceMethod yJx4a65c_grow_d5877, Cond.selects RJx4a65c yJx4a65c_grow_d5877 yJx4a65c_grow_d5877, Cond.code yJx4a65c_grow_d5877 cJx4a65c_grow_d5877 1 (some (.array (.object "java/lang/Object"))), Cond.methodLink RJx4a65c 69 yJx4a65c_grow_92f84, Cond.instanceMethod yJx4a65c_grow_92f84, Cond.selects RJx4a65c yJx4a65c_grow_92f84 yJx4a65c_grow_92f84, Cond.code yJx4a65c_grow_92f84 cJx4a65c_grow_92f84 4 (some (.array (.object "java/lang/Object"))), Cond.fieldLink RJx4a65c 39 "java/util/ArrayList" "DEFAULTCAPACITY_EMPTY_ELEMENTDATA" "[Ljava/lang/Object;", Cond.methodLink RJx4a65c 79 Lib.Math.max.name, Cond.static Lib.Math.max.name, Cond.initialized "java/lang/Math", Cond.code Lib.Math.max.name Lib.Math.max.code 2 (some .int), Cond.classLink RJx4a65c 7 "java/lang/Object", Cond.methodLink RJx4a65c 73 yJ8_newLength_cabcc]
def wsJx4a65c_add_9ea2d_r2 : List Cond := [Cond.static yJ8_newLength_cabcc, Cond.initialized RJ8, Cond.code yJ8_newLength_cabcc cJ8_newLength_cabcc 4 (some .int), Cond.methodLink RJ8 194 Lib.Math.max.name, Cond.constant RJ8 200 (2147483639), Cond.methodLink RJ8 201 yJ8_hugeLength_7cf53, Cond.static yJ8_hugeLength_7cf53, Cond.code yJ8_hugeLength_7cf53 cJ8_hugeLength_7cf53 3 (some .int), Cond.methodLink RJx4a65c 66 yJ7_copyOf_1904c, Cond.static yJ7_copyOf_1904c, Cond.initialized RJ7, Cond.code yJ7_copyOf_1904c cJ7_copyOf_1904c 2 (some (.array (.object "java/lang/Object"))), Cond.methodLink RJ7 86 ⟨"java/lang/Object", "getClass", "()Ljava/lang/Class;"⟩, Cond.selects "[Ljava/lang/Object;" ⟨"java/lang/Object", "getClass", "()Ljava/lang/Class;"⟩ ⟨"java/lang/Object", "getClass", "()Ljava/lang/Class;"⟩, Cond.instanceMethod ⟨"java/lang/Object", "getClass", "()Ljava/lang/Class;"⟩, Cond.native ⟨"java/lang/Object", "getClass", "()Ljava/lang/Class;"⟩, Cond.methodLink RJ7 300 yJ7_copyOf_6403c, Cond.static yJ7_copyOf_6403c, Cond.code yJ7_copyOf_6403c cJ7_copyOf_6403c 4 (some (.array (.object "java/lang/Object"))), Cond.classLink RJ7 110 "[Ljava/lang/Object;", Cond.classLink RJ7 2 "java/lang/Object", Cond.methodLink RJ7 304 Lib.Math.min.name, Cond.static Lib.Math.min.name, Cond.code Lib.Math.min.name Lib.Math.min.code 2 (some .int)]
def wsJx4a65c_add_9ea2d_r3 : List Cond := [Cond.methodLink RJ7 150 arraycopyName, Cond.native arraycopyName, Cond.static arraycopyName, Cond.initialized "java/lang/System"]
def wsJx4a65c_add_9ea2d : List Cond := .code yJx4a65c_add_9ea2d cJx4a65c_add_9ea2d 2 (some .boolean) :: ((wsJx4a65c_add_9ea2d_r1 ++ (wsJx4a65c_add_9ea2d_r2 ++ wsJx4a65c_add_9ea2d_r3)) ++ wsJx4a65c0)
def wsX6_hang_r1 : List Cond := [Cond.classLink RX6 95 "java/lang/IllegalStateException", Cond.initialized "java/lang/IllegalStateException", Cond.fieldLink RX6 29 "BoilerLog" "tags" "Ljava/util/ArrayList;", Cond.classLink RX6 145 RX4, Cond.instantiable RX4 4, Cond.initialized RX4, Cond.fieldLink RX6 45 "BoilerLog" "log" "LBoilerLog$Log;", Cond.fieldLink RX6 56 "BoilerLog" "now" "I", Cond.methodLink RX6 110 yX6_checkPerson, Cond.static yX6_checkPerson, Cond.initialized RX6, Cond.code yX6_checkPerson cX6_checkPerson 1 none, Cond.classLink RX6 200 "java/lang/IndexOutOfBoundsException", Cond.initialized "java/lang/IndexOutOfBoundsException", Cond.methodLink RX6 76 yX6_checkValve, Cond.static yX6_checkValve, Cond.code yX6_checkValve cX6_checkValve 1 none, Cond.methodLink RX6 139 yX6_isAble, Cond.instanceMethod yX6_isAble, Cond.selects RX6 yX6_isAble yX6_isAble, Cond.code yX6_isAble cX6_isAble 2 (some .boolean), Cond.fieldLink RX6 23 "BoilerLog" "entriesRead" "[I", Cond.fieldLink RX6 60 "BoilerLog" "entriesAtShiftStart" "I", Cond.methodLink RX6 290 yX6_isOnDuty]
def wsX6_hang_r2 : List Cond := [Cond.instanceMethod yX6_isOnDuty, Cond.selects RX6 yX6_isOnDuty yX6_isOnDuty, Cond.code yX6_isOnDuty cX6_isOnDuty 2 (some .boolean), Cond.fieldLink RX6 19 "BoilerLog" "gone" "[Z", Cond.methodLink RX6 142 yJx4a65c_size_8abf5, Cond.instanceMethod yJx4a65c_size_8abf5, Cond.selects RJx4a65c yJx4a65c_size_8abf5 yJx4a65c_size_8abf5, Cond.initialized RJx4a65c, Cond.code yJx4a65c_size_8abf5 cJx4a65c_size_8abf5 1 (some .int), Cond.fieldLink RJx4a65c 48 "java/util/ArrayList" "size" "I", Cond.instanceMethod yX4_init, Cond.code yX4_init cX4_init 3 none, Cond.methodLink RX4 3 objectInit, Cond.instanceMethod objectInit, Cond.code objectInit ⟨#[0xb1]⟩ 1 none, Cond.fieldLink RX4 9 "BoilerLog$Tag" "firstAsker" "I", Cond.fieldLink RX4 15 "BoilerLog$Tag" "off" "Z", Cond.fieldLink RX4 19 "BoilerLog$Tag" "owner" "I", Cond.fieldLink RX4 22 "BoilerLog$Tag" "valve" "I", Cond.methodLink RX6 150 yJx4a65c_add_9ea2d, Cond.instanceMethod yJx4a65c_add_9ea2d, Cond.selects RJx4a65c yJx4a65c_add_9ea2d yJx4a65c_add_9ea2d, Cond.code yJx4a65c_add_9ea2d cJx4a65c_add_9ea2d 2 (some .boolean), Cond.fieldLink RJx4a65c 63 "java/util/ArrayList" "modCount" "I"]
def wsX6_hang_r3 : List Cond := [Cond.sameField "java/util/ArrayList" "java/util/AbstractList" "modCount" "I", Cond.fieldLink RJx4a65c 9 "java/util/ArrayList" "elementData" "[Ljava/lang/Object;", Cond.methodLink RJx4a65c 131 yJx4a65c_add_72be8, Cond.instanceMethod yJx4a65c_add_72be8, Cond.selects RJx4a65c yJx4a65c_add_72be8 yJx4a65c_add_72be8, Cond.code yJx4a65c_add_72be8 cJx4a65c_add_72be8 4 none, Cond.methodLink RJx4a65c 129 yJx4a65c_grow_d5877, Cond.instanceMethod yJx4a65c_grow_d5877, Cond.selects RJx4a65c yJx4a65c_grow_d5877 yJx4a65c_grow_d5877, Cond.code yJx4a65c_grow_d5877 cJx4a65c_grow_d5877 1 (some (.array (.object "java/lang/Object"))), Cond.methodLink RJx4a65c 69 yJx4a65c_grow_92f84, Cond.instanceMethod yJx4a65c_grow_92f84, Cond.selects RJx4a65c yJx4a65c_grow_92f84 yJx4a65c_grow_92f84, Cond.code yJx4a65c_grow_92f84 cJx4a65c_grow_92f84 4 (some (.array (.object "java/lang/Object"))), Cond.fieldLink RJx4a65c 39 "java/util/ArrayList" "DEFAULTCAPACITY_EMPTY_ELEMENTDATA" "[Ljava/lang/Object;", Cond.methodLink RJx4a65c 79 Lib.Math.max.name, Cond.static Lib.Math.max.name, Cond.initialized "java/lang/Math", Cond.code Lib.Math.max.name Lib.Math.max.code 2 (some .int), Cond.classLink RJx4a65c 7 "java/lang/Object", Cond.methodLink RJx4a65c 73 yJ8_newLength_cabcc, Cond.static yJ8_newLength_cabcc, Cond.initialized RJ8, Cond.code yJ8_newLength_cabcc cJ8_newLength_cabcc 4 (some .int)]
def wsX6_hang_r4 : List Cond := [Cond.methodLink RJ8 194 Lib.Math.max.name, Cond.constant RJ8 200 (2147483639), Cond.methodLink RJ8 201 yJ8_hugeLength_7cf53, Cond.static yJ8_hugeLength_7cf53, Cond.code yJ8_hugeLength_7cf53 cJ8_hugeLength_7cf53 3 (some .int), Cond.methodLink RJx4a65c 66 yJ7_copyOf_1904c, Cond.static yJ7_copyOf_1904c, Cond.initialized RJ7, Cond.code yJ7_copyOf_1904c cJ7_copyOf_1904c 2 (some (.array (.object "java/lang/Object"))), Cond.methodLink RJ7 86 ⟨"java/lang/Object", "getClass", "()Ljava/lang/Class;"⟩, Cond.selects "[Ljava/lang/Object;" ⟨"java/lang/Object", "getClass", "()Ljava/lang/Class;"⟩ ⟨"java/lang/Object", "getClass", "()Ljava/lang/Class;"⟩, Cond.instanceMethod ⟨"java/lang/Object", "getClass", "()Ljava/lang/Class;"⟩, Cond.native ⟨"java/lang/Object", "getClass", "()Ljava/lang/Class;"⟩, Cond.methodLink RJ7 300 yJ7_copyOf_6403c, Cond.static yJ7_copyOf_6403c, Cond.code yJ7_copyOf_6403c cJ7_copyOf_6403c 4 (some (.array (.object "java/lang/Object"))), Cond.classLink RJ7 110 "[Ljava/lang/Object;", Cond.classLink RJ7 2 "java/lang/Object", Cond.methodLink RJ7 304 Lib.Math.min.name, Cond.static Lib.Math.min.name, Cond.code Lib.Math.min.name Lib.Math.min.code 2 (some .int), Cond.methodLink RJ7 150 arraycopyName, Cond.native arraycopyName, Cond.static arraycopyName]
def wsX6_hang_r5 : List Cond := [Cond.initialized "java/lang/System", Cond.instanceMethod yX2_note, Cond.initialized RX2, Cond.selects RX2 yX2_note yX2_note, Cond.code yX2_note cX2_note 5 none, Cond.fieldLink RX2 15 "BoilerLog$Log" "count" "I", Cond.fieldLink RX2 11 "BoilerLog$Log" "codes" "[I", Cond.methodLink RX2 19 yJ7_copyOf_59c91, Cond.static yJ7_copyOf_59c91, Cond.code yJ7_copyOf_59c91 cJ7_copyOf_59c91 3 (some (.array .int)), Cond.methodLink RJ7 316 ⟨"[I", "clone", "()Ljava/lang/Object;"⟩, Cond.sameMethod "[I" "java/lang/Object" "clone" "()Ljava/lang/Object;", Cond.native ⟨"java/lang/Object", "clone", "()Ljava/lang/Object;"⟩, Cond.instanceMethod ⟨"java/lang/Object", "clone", "()Ljava/lang/Object;"⟩, Cond.selects "[I" ⟨"[I", "clone", "()Ljava/lang/Object;"⟩ ⟨"java/lang/Object", "clone", "()Ljava/lang/Object;"⟩, Cond.classLink RJ7 317 "[I", Cond.arrayClass .int]
def wsX6_hang : List Cond := .code yX6_hang cX6_hang 4 (some .int) :: ((wsX6_hang_r1 ++ (wsX6_hang_r2 ++ (wsX6_hang_r3 ++ (wsX6_hang_r4 ++ wsX6_hang_r5)))) ++ wsX60 ++ wsX40 ++ wsJx4a65c0 ++ wsX20 ++ (vx_atS RX6 99 "java/lang/IllegalStateException" ["java/lang/RuntimeException", "java/lang/Exception"]).filter goodWord ++ (vx_atS RX6 204 "java/lang/IndexOutOfBoundsException" ["java/lang/RuntimeException", "java/lang/Exception"]).filter goodWord)
def wsX6_checkTag : List Cond := .code yX6_checkTag cX6_checkTag 2 none :: ([.classLink RX6 200 "java/lang/IndexOutOfBoundsException", .initialized "java/lang/IndexOutOfBoundsException", .fieldLink RX6 29 "BoilerLog" "tags" "Ljava/util/ArrayList;", .methodLink RX6 142 yJx4a65c_size_8abf5, .instanceMethod yJx4a65c_size_8abf5, .selects RJx4a65c yJx4a65c_size_8abf5 yJx4a65c_size_8abf5, .initialized RJx4a65c, .code yJx4a65c_size_8abf5 cJx4a65c_size_8abf5 1 (some .int), .fieldLink RJx4a65c 48 "java/util/ArrayList" "size" "I"] ++ wsX60 ++ wsJx4a65c0 ++ (vx_atS RX6 204 "java/lang/IndexOutOfBoundsException" ["java/lang/RuntimeException", "java/lang/Exception"]).filter goodWord)
def wsX6_isFirstToAsk : List Cond := .code yX6_isFirstToAsk cX6_isFirstToAsk 2 (some .boolean) :: ([] ++ wsX40)
def wsX6_takeOff_r1 : List Cond := [Cond.classLink RX6 95 "java/lang/IllegalStateException", Cond.initialized "java/lang/IllegalStateException", Cond.fieldLink RX6 29 "BoilerLog" "tags" "Ljava/util/ArrayList;", Cond.classLink RX6 145 "BoilerLog$Tag", Cond.fieldLink RX6 19 "BoilerLog" "gone" "[Z", Cond.fieldLink RX6 45 "BoilerLog" "log" "LBoilerLog$Log;", Cond.fieldLink RX6 56 "BoilerLog" "now" "I", Cond.methodLink RX6 110 yX6_checkPerson, Cond.static yX6_checkPerson, Cond.initialized RX6, Cond.code yX6_checkPerson cX6_checkPerson 1 none, Cond.classLink RX6 200 "java/lang/IndexOutOfBoundsException", Cond.initialized "java/lang/IndexOutOfBoundsException", Cond.methodLink RX6 158 yX6_checkTag, Cond.instanceMethod yX6_checkTag, Cond.selects RX6 yX6_checkTag yX6_checkTag, Cond.code yX6_checkTag cX6_checkTag 2 none, Cond.methodLink RX6 142 yJx4a65c_size_8abf5, Cond.instanceMethod yJx4a65c_size_8abf5, Cond.selects RJx4a65c yJx4a65c_size_8abf5 yJx4a65c_size_8abf5, Cond.initialized RJx4a65c, Cond.code yJx4a65c_size_8abf5 cJx4a65c_size_8abf5 1 (some .int), Cond.fieldLink RJx4a65c 48 "java/util/ArrayList" "size" "I", Cond.methodLink RX6 161 yJx4a65c_get_915e3]
def wsX6_takeOff_r2 : List Cond := [Cond.instanceMethod yJx4a65c_get_915e3, Cond.selects RJx4a65c yJx4a65c_get_915e3 yJx4a65c_get_915e3, Cond.code yJx4a65c_get_915e3 cJx4a65c_get_915e3 2 (some (.object "java/lang/Object")), Cond.methodLink RJx4a65c 118 yJ15_checkIndex_7cf53, Cond.static yJ15_checkIndex_7cf53, Cond.initialized RJ15, Cond.code yJ15_checkIndex_7cf53 cJ15_checkIndex_7cf53 2 (some .int), Cond.methodLink RJ15 105 yJ3_checkIndex_8e157, Cond.static yJ3_checkIndex_8e157, Cond.initialized RJ3, Cond.code yJ3_checkIndex_8e157 cJ3_checkIndex_8e157 3 (some .int), Cond.methodLink RJx4a65c 123 yJx4a65c_elementData_915e3, Cond.instanceMethod yJx4a65c_elementData_915e3, Cond.selects RJx4a65c yJx4a65c_elementData_915e3 yJx4a65c_elementData_915e3, Cond.code yJx4a65c_elementData_915e3 cJx4a65c_elementData_915e3 2 (some (.object "java/lang/Object")), Cond.fieldLink RJx4a65c 9 "java/util/ArrayList" "elementData" "[Ljava/lang/Object;", Cond.methodLink RX6 139 yX6_isAble, Cond.instanceMethod yX6_isAble, Cond.selects RX6 yX6_isAble yX6_isAble, Cond.code yX6_isAble cX6_isAble 2 (some .boolean), Cond.fieldLink RX6 23 "BoilerLog" "entriesRead" "[I", Cond.fieldLink RX6 60 "BoilerLog" "entriesAtShiftStart" "I", Cond.methodLink RX6 290 yX6_isOnDuty, Cond.instanceMethod yX6_isOnDuty]
def wsX6_takeOff_r3 : List Cond := [Cond.selects RX6 yX6_isOnDuty yX6_isOnDuty, Cond.code yX6_isOnDuty cX6_isOnDuty 2 (some .boolean), Cond.methodLink RX6 173 yX6_isFirstToAsk, Cond.static yX6_isFirstToAsk, Cond.code yX6_isFirstToAsk cX6_isFirstToAsk 2 (some .boolean), Cond.instanceMethod yX2_note, Cond.initialized RX2, Cond.selects RX2 yX2_note yX2_note, Cond.code yX2_note cX2_note 5 none, Cond.fieldLink RX2 15 "BoilerLog$Log" "count" "I", Cond.fieldLink RX2 11 "BoilerLog$Log" "codes" "[I", Cond.methodLink RX2 19 yJ7_copyOf_59c91, Cond.static yJ7_copyOf_59c91, Cond.initialized RJ7, Cond.code yJ7_copyOf_59c91 cJ7_copyOf_59c91 3 (some (.array .int)), Cond.methodLink RJ7 316 ⟨"[I", "clone", "()Ljava/lang/Object;"⟩, Cond.sameMethod "[I" "java/lang/Object" "clone" "()Ljava/lang/Object;", Cond.native ⟨"java/lang/Object", "clone", "()Ljava/lang/Object;"⟩, Cond.instanceMethod ⟨"java/lang/Object", "clone", "()Ljava/lang/Object;"⟩, Cond.selects "[I" ⟨"[I", "clone", "()Ljava/lang/Object;"⟩ ⟨"java/lang/Object", "clone", "()Ljava/lang/Object;"⟩, Cond.classLink RJ7 317 "[I", Cond.arrayClass .int, Cond.methodLink RJ7 304 Lib.Math.min.name, Cond.static Lib.Math.min.name]
def wsX6_takeOff_r4 : List Cond := [Cond.initialized "java/lang/Math", Cond.code Lib.Math.min.name Lib.Math.min.code 2 (some .int), Cond.methodLink RJ7 150 arraycopyName, Cond.native arraycopyName, Cond.static arraycopyName, Cond.initialized "java/lang/System"]
def wsX6_takeOff : List Cond := .code yX6_takeOff cX6_takeOff 4 (some .boolean) :: ((wsX6_takeOff_r1 ++ (wsX6_takeOff_r2 ++ (wsX6_takeOff_r3 ++ wsX6_takeOff_r4))) ++ wsX60 ++ wsX40 ++ wsJx4a65c0 ++ wsX20 ++ (vx_atS RX6 99 "java/lang/IllegalStateException" ["java/lang/RuntimeException", "java/lang/Exception"]).filter goodWord ++ (vx_atS RX6 204 "java/lang/IndexOutOfBoundsException" ["java/lang/RuntimeException", "java/lang/Exception"]).filter goodWord)
def wsX6_valveOf_r1 : List Cond := [Cond.fieldLink RX6 29 "BoilerLog" "tags" "Ljava/util/ArrayList;", Cond.classLink RX6 145 "BoilerLog$Tag", Cond.methodLink RX6 158 yX6_checkTag, Cond.instanceMethod yX6_checkTag, Cond.selects RX6 yX6_checkTag yX6_checkTag, Cond.initialized RX6, Cond.code yX6_checkTag cX6_checkTag 2 none, Cond.classLink RX6 200 "java/lang/IndexOutOfBoundsException", Cond.initialized "java/lang/IndexOutOfBoundsException", Cond.methodLink RX6 142 yJx4a65c_size_8abf5, Cond.instanceMethod yJx4a65c_size_8abf5, Cond.selects RJx4a65c yJx4a65c_size_8abf5 yJx4a65c_size_8abf5, Cond.initialized RJx4a65c, Cond.code yJx4a65c_size_8abf5 cJx4a65c_size_8abf5 1 (some .int), Cond.fieldLink RJx4a65c 48 "java/util/ArrayList" "size" "I", Cond.methodLink RX6 161 yJx4a65c_get_915e3, Cond.instanceMethod yJx4a65c_get_915e3, Cond.selects RJx4a65c yJx4a65c_get_915e3 yJx4a65c_get_915e3, Cond.code yJx4a65c_get_915e3 cJx4a65c_get_915e3 2 (some (.object "java/lang/Object")), Cond.methodLink RJx4a65c 118 yJ15_checkIndex_7cf53, Cond.static yJ15_checkIndex_7cf53, Cond.initialized RJ15, Cond.code yJ15_checkIndex_7cf53 cJ15_checkIndex_7cf53 2 (some .int), Cond.methodLink RJ15 105 yJ3_checkIndex_8e157]
def wsX6_valveOf_r2 : List Cond := [Cond.static yJ3_checkIndex_8e157, Cond.initialized RJ3, Cond.code yJ3_checkIndex_8e157 cJ3_checkIndex_8e157 3 (some .int), Cond.methodLink RJx4a65c 123 yJx4a65c_elementData_915e3, Cond.instanceMethod yJx4a65c_elementData_915e3, Cond.selects RJx4a65c yJx4a65c_elementData_915e3 yJx4a65c_elementData_915e3, Cond.code yJx4a65c_elementData_915e3 cJx4a65c_elementData_915e3 2 (some (.object "java/lang/Object")), Cond.fieldLink RJx4a65c 9 "java/util/ArrayList" "elementData" "[Ljava/lang/Object;"]
def wsX6_valveOf : List Cond := .code yX6_valveOf cX6_valveOf 3 (some .int) :: ((wsX6_valveOf_r1 ++ wsX6_valveOf_r2) ++ wsX60 ++ wsX40 ++ wsJx4a65c0 ++ (vx_atS RX6 204 "java/lang/IndexOutOfBoundsException" ["java/lang/RuntimeException", "java/lang/Exception"]).filter goodWord)
def wsX6_ownerOf_r1 : List Cond := [Cond.fieldLink RX6 29 "BoilerLog" "tags" "Ljava/util/ArrayList;", Cond.classLink RX6 145 "BoilerLog$Tag", Cond.methodLink RX6 158 yX6_checkTag, Cond.instanceMethod yX6_checkTag, Cond.selects RX6 yX6_checkTag yX6_checkTag, Cond.initialized RX6, Cond.code yX6_checkTag cX6_checkTag 2 none, Cond.classLink RX6 200 "java/lang/IndexOutOfBoundsException", Cond.initialized "java/lang/IndexOutOfBoundsException", Cond.methodLink RX6 142 yJx4a65c_size_8abf5, Cond.instanceMethod yJx4a65c_size_8abf5, Cond.selects RJx4a65c yJx4a65c_size_8abf5 yJx4a65c_size_8abf5, Cond.initialized RJx4a65c, Cond.code yJx4a65c_size_8abf5 cJx4a65c_size_8abf5 1 (some .int), Cond.fieldLink RJx4a65c 48 "java/util/ArrayList" "size" "I", Cond.methodLink RX6 161 yJx4a65c_get_915e3, Cond.instanceMethod yJx4a65c_get_915e3, Cond.selects RJx4a65c yJx4a65c_get_915e3 yJx4a65c_get_915e3, Cond.code yJx4a65c_get_915e3 cJx4a65c_get_915e3 2 (some (.object "java/lang/Object")), Cond.methodLink RJx4a65c 118 yJ15_checkIndex_7cf53, Cond.static yJ15_checkIndex_7cf53, Cond.initialized RJ15, Cond.code yJ15_checkIndex_7cf53 cJ15_checkIndex_7cf53 2 (some .int), Cond.methodLink RJ15 105 yJ3_checkIndex_8e157]
def wsX6_ownerOf_r2 : List Cond := [Cond.static yJ3_checkIndex_8e157, Cond.initialized RJ3, Cond.code yJ3_checkIndex_8e157 cJ3_checkIndex_8e157 3 (some .int), Cond.methodLink RJx4a65c 123 yJx4a65c_elementData_915e3, Cond.instanceMethod yJx4a65c_elementData_915e3, Cond.selects RJx4a65c yJx4a65c_elementData_915e3 yJx4a65c_elementData_915e3, Cond.code yJx4a65c_elementData_915e3 cJx4a65c_elementData_915e3 2 (some (.object "java/lang/Object")), Cond.fieldLink RJx4a65c 9 "java/util/ArrayList" "elementData" "[Ljava/lang/Object;"]
def wsX6_ownerOf : List Cond := .code yX6_ownerOf cX6_ownerOf 2 (some .int) :: ((wsX6_ownerOf_r1 ++ wsX6_ownerOf_r2) ++ wsX60 ++ wsX40 ++ wsJx4a65c0 ++ (vx_atS RX6 204 "java/lang/IndexOutOfBoundsException" ["java/lang/RuntimeException", "java/lang/Exception"]).filter goodWord)
def wsX6_wasHungOn_r1 : List Cond := [Cond.fieldLink RX6 29 "BoilerLog" "tags" "Ljava/util/ArrayList;", Cond.classLink RX6 145 "BoilerLog$Tag", Cond.methodLink RX6 142 yJx4a65c_size_8abf5, Cond.instanceMethod yJx4a65c_size_8abf5, Cond.selects RJx4a65c yJx4a65c_size_8abf5 yJx4a65c_size_8abf5, Cond.initialized RJx4a65c, Cond.code yJx4a65c_size_8abf5 cJx4a65c_size_8abf5 1 (some .int), Cond.fieldLink RJx4a65c 48 "java/util/ArrayList" "size" "I", Cond.methodLink RX6 161 yJx4a65c_get_915e3, Cond.instanceMethod yJx4a65c_get_915e3, Cond.selects RJx4a65c yJx4a65c_get_915e3 yJx4a65c_get_915e3, Cond.code yJx4a65c_get_915e3 cJx4a65c_get_915e3 2 (some (.object "java/lang/Object")), Cond.methodLink RJx4a65c 118 yJ15_checkIndex_7cf53, Cond.static yJ15_checkIndex_7cf53, Cond.initialized RJ15, Cond.code yJ15_checkIndex_7cf53 cJ15_checkIndex_7cf53 2 (some .int), Cond.methodLink RJ15 105 yJ3_checkIndex_8e157, Cond.static yJ3_checkIndex_8e157, Cond.initialized RJ3, Cond.code yJ3_checkIndex_8e157 cJ3_checkIndex_8e157 3 (some .int), Cond.methodLink RJx4a65c 123 yJx4a65c_elementData_915e3, Cond.instanceMethod yJx4a65c_elementData_915e3, Cond.selects RJx4a65c yJx4a65c_elementData_915e3 yJx4a65c_elementData_915e3, Cond.code yJx4a65c_elementData_915e3 cJx4a65c_elementData_915e3 2 (some (.object "java/lang/Object"))]
def wsX6_wasHungOn_r2 : List Cond := [Cond.fieldLink RJx4a65c 9 "java/util/ArrayList" "elementData" "[Ljava/lang/Object;"]
def wsX6_wasHungOn : List Cond := .code yX6_wasHungOn cX6_wasHungOn 3 (some .boolean) :: ((wsX6_wasHungOn_r1 ++ wsX6_wasHungOn_r2) ++ wsX60 ++ wsX40 ++ wsJx4a65c0)
def wsX6_tagsByLog_r1 : List Cond := [Cond.fieldLink RX6 45 "BoilerLog" "log" "LBoilerLog$Log;", Cond.methodLink RX6 76 yX6_checkValve, Cond.static yX6_checkValve, Cond.initialized RX6, Cond.code yX6_checkValve cX6_checkValve 1 none, Cond.classLink RX6 200 "java/lang/IndexOutOfBoundsException", Cond.initialized "java/lang/IndexOutOfBoundsException", Cond.instanceMethod yX2_size, Cond.initialized RX2, Cond.selects RX2 yX2_size yX2_size, Cond.code yX2_size cX2_size 1 (some .int), Cond.fieldLink RX2 15 "BoilerLog$Log" "count" "I", Cond.instanceMethod yX2_kindAt, Cond.selects RX2 yX2_kindAt yX2_kindAt, Cond.code yX2_kindAt cX2_kindAt 2 (some .int), Cond.fieldLink RX2 11 "BoilerLog$Log" "codes" "[I", Cond.instanceMethod yX2_whatAt, Cond.selects RX2 yX2_whatAt yX2_whatAt, Cond.code yX2_whatAt cX2_whatAt 2 (some .int), Cond.methodLink RX6 186 yX6_wasHungOn, Cond.instanceMethod yX6_wasHungOn, Cond.selects RX6 yX6_wasHungOn yX6_wasHungOn, Cond.code yX6_wasHungOn cX6_wasHungOn 3 (some .boolean), Cond.fieldLink RX6 29 "BoilerLog" "tags" "Ljava/util/ArrayList;"]
def wsX6_tagsByLog_r2 : List Cond := [Cond.classLink RX6 145 "BoilerLog$Tag", Cond.methodLink RX6 142 yJx4a65c_size_8abf5, Cond.instanceMethod yJx4a65c_size_8abf5, Cond.selects RJx4a65c yJx4a65c_size_8abf5 yJx4a65c_size_8abf5, Cond.initialized RJx4a65c, Cond.code yJx4a65c_size_8abf5 cJx4a65c_size_8abf5 1 (some .int), Cond.fieldLink RJx4a65c 48 "java/util/ArrayList" "size" "I", Cond.methodLink RX6 161 yJx4a65c_get_915e3, Cond.instanceMethod yJx4a65c_get_915e3, Cond.selects RJx4a65c yJx4a65c_get_915e3 yJx4a65c_get_915e3, Cond.code yJx4a65c_get_915e3 cJx4a65c_get_915e3 2 (some (.object "java/lang/Object")), Cond.methodLink RJx4a65c 118 yJ15_checkIndex_7cf53, Cond.static yJ15_checkIndex_7cf53, Cond.initialized RJ15, Cond.code yJ15_checkIndex_7cf53 cJ15_checkIndex_7cf53 2 (some .int), Cond.methodLink RJ15 105 yJ3_checkIndex_8e157, Cond.static yJ3_checkIndex_8e157, Cond.initialized RJ3, Cond.code yJ3_checkIndex_8e157 cJ3_checkIndex_8e157 3 (some .int), Cond.methodLink RJx4a65c 123 yJx4a65c_elementData_915e3, Cond.instanceMethod yJx4a65c_elementData_915e3, Cond.selects RJx4a65c yJx4a65c_elementData_915e3 yJx4a65c_elementData_915e3, Cond.code yJx4a65c_elementData_915e3 cJx4a65c_elementData_915e3 2 (some (.object "java/lang/Object")), Cond.fieldLink RJx4a65c 9 "java/util/ArrayList" "elementData" "[Ljava/lang/Object;"]
def wsX6_tagsByLog : List Cond := .code yX6_tagsByLog cX6_tagsByLog 5 (some .int) :: ((wsX6_tagsByLog_r1 ++ wsX6_tagsByLog_r2) ++ wsX60 ++ wsX20 ++ wsX40 ++ wsJx4a65c0 ++ (vx_atS RX6 204 "java/lang/IndexOutOfBoundsException" ["java/lang/RuntimeException", "java/lang/Exception"]).filter goodWord)
def wsX6_checkNotGone : List Cond := .code yX6_checkNotGone cX6_checkNotGone 2 none :: ([.classLink RX6 95 "java/lang/IllegalStateException", .initialized "java/lang/IllegalStateException", .fieldLink RX6 19 "BoilerLog" "gone" "[Z"] ++ wsX60 ++ (vx_atS RX6 99 "java/lang/IllegalStateException" ["java/lang/RuntimeException", "java/lang/Exception"]).filter goodWord)
def wsX6_read : List Cond := .code yX6_read cX6_read 3 (some .int) :: ([.fieldLink RX6 45 "BoilerLog" "log" "LBoilerLog$Log;", .fieldLink RX6 23 "BoilerLog" "entriesRead" "[I", .methodLink RX6 110 yX6_checkPerson, .static yX6_checkPerson, .initialized RX6, .code yX6_checkPerson cX6_checkPerson 1 none, .classLink RX6 200 "java/lang/IndexOutOfBoundsException", .initialized "java/lang/IndexOutOfBoundsException", .methodLink RX6 190 yX6_checkNotGone, .instanceMethod yX6_checkNotGone, .selects RX6 yX6_checkNotGone yX6_checkNotGone, .code yX6_checkNotGone cX6_checkNotGone 2 none, .classLink RX6 95 "java/lang/IllegalStateException", .initialized "java/lang/IllegalStateException", .fieldLink RX6 19 "BoilerLog" "gone" "[Z", .instanceMethod yX2_size, .initialized RX2, .selects RX2 yX2_size yX2_size, .code yX2_size cX2_size 1 (some .int), .fieldLink RX2 15 "BoilerLog$Log" "count" "I"] ++ wsX60 ++ wsX20 ++ (vx_atS RX6 204 "java/lang/IndexOutOfBoundsException" ["java/lang/RuntimeException", "java/lang/Exception"]).filter goodWord ++ (vx_atS RX6 99 "java/lang/IllegalStateException" ["java/lang/RuntimeException", "java/lang/Exception"]).filter goodWord)
def wsX6_leave_r1 : List Cond := [Cond.fieldLink RX6 19 "BoilerLog" "gone" "[Z", Cond.fieldLink RX6 45 "BoilerLog" "log" "LBoilerLog$Log;", Cond.fieldLink RX6 56 "BoilerLog" "now" "I", Cond.fieldLink RX6 29 "BoilerLog" "tags" "Ljava/util/ArrayList;", Cond.classLink RX6 145 "BoilerLog$Tag", Cond.methodLink RX6 110 yX6_checkPerson, Cond.static yX6_checkPerson, Cond.initialized RX6, Cond.code yX6_checkPerson cX6_checkPerson 1 none, Cond.classLink RX6 200 "java/lang/IndexOutOfBoundsException", Cond.initialized "java/lang/IndexOutOfBoundsException", Cond.methodLink RX6 190 yX6_checkNotGone, Cond.instanceMethod yX6_checkNotGone, Cond.selects RX6 yX6_checkNotGone yX6_checkNotGone, Cond.code yX6_checkNotGone cX6_checkNotGone 2 none, Cond.classLink RX6 95 "java/lang/IllegalStateException", Cond.initialized "java/lang/IllegalStateException", Cond.instanceMethod yX2_note, Cond.initialized RX2, Cond.selects RX2 yX2_note yX2_note, Cond.code yX2_note cX2_note 5 none, Cond.fieldLink RX2 15 "BoilerLog$Log" "count" "I", Cond.fieldLink RX2 11 "BoilerLog$Log" "codes" "[I", Cond.methodLink RX2 19 yJ7_copyOf_59c91]
def wsX6_leave_r2 : List Cond := [Cond.static yJ7_copyOf_59c91, Cond.initialized RJ7, Cond.code yJ7_copyOf_59c91 cJ7_copyOf_59c91 3 (some (.array .int)), Cond.methodLink RJ7 316 ⟨"[I", "clone", "()Ljava/lang/Object;"⟩, Cond.sameMethod "[I" "java/lang/Object" "clone" "()Ljava/lang/Object;", Cond.native ⟨"java/lang/Object", "clone", "()Ljava/lang/Object;"⟩, Cond.instanceMethod ⟨"java/lang/Object", "clone", "()Ljava/lang/Object;"⟩, Cond.selects "[I" ⟨"[I", "clone", "()Ljava/lang/Object;"⟩ ⟨"java/lang/Object", "clone", "()Ljava/lang/Object;"⟩, Cond.classLink RJ7 317 "[I", Cond.arrayClass .int, Cond.methodLink RJ7 304 Lib.Math.min.name, Cond.static Lib.Math.min.name, Cond.initialized "java/lang/Math", Cond.code Lib.Math.min.name Lib.Math.min.code 2 (some .int), Cond.methodLink RJ7 150 arraycopyName, Cond.native arraycopyName, Cond.static arraycopyName, Cond.initialized "java/lang/System", Cond.methodLink RX6 142 yJx4a65c_size_8abf5, Cond.instanceMethod yJx4a65c_size_8abf5, Cond.selects RJx4a65c yJx4a65c_size_8abf5 yJx4a65c_size_8abf5, Cond.initialized RJx4a65c, Cond.code yJx4a65c_size_8abf5 cJx4a65c_size_8abf5 1 (some .int), Cond.fieldLink RJx4a65c 48 "java/util/ArrayList" "size" "I"]
def wsX6_leave_r3 : List Cond := [Cond.methodLink RX6 161 yJx4a65c_get_915e3, Cond.instanceMethod yJx4a65c_get_915e3, Cond.selects RJx4a65c yJx4a65c_get_915e3 yJx4a65c_get_915e3, Cond.code yJx4a65c_get_915e3 cJx4a65c_get_915e3 2 (some (.object "java/lang/Object")), Cond.methodLink RJx4a65c 118 yJ15_checkIndex_7cf53, Cond.static yJ15_checkIndex_7cf53, Cond.initialized RJ15, Cond.code yJ15_checkIndex_7cf53 cJ15_checkIndex_7cf53 2 (some .int), Cond.methodLink RJ15 105 yJ3_checkIndex_8e157, Cond.static yJ3_checkIndex_8e157, Cond.initialized RJ3, Cond.code yJ3_checkIndex_8e157 cJ3_checkIndex_8e157 3 (some .int), Cond.methodLink RJx4a65c 123 yJx4a65c_elementData_915e3, Cond.instanceMethod yJx4a65c_elementData_915e3, Cond.selects RJx4a65c yJx4a65c_elementData_915e3 yJx4a65c_elementData_915e3, Cond.code yJx4a65c_elementData_915e3 cJx4a65c_elementData_915e3 2 (some (.object "java/lang/Object")), Cond.fieldLink RJx4a65c 9 "java/util/ArrayList" "elementData" "[Ljava/lang/Object;"]
def wsX6_leave : List Cond := .code yX6_leave cX6_leave 5 (some .int) :: ((wsX6_leave_r1 ++ (wsX6_leave_r2 ++ wsX6_leave_r3)) ++ wsX60 ++ wsX40 ++ wsX20 ++ wsJx4a65c0 ++ (vx_atS RX6 204 "java/lang/IndexOutOfBoundsException" ["java/lang/RuntimeException", "java/lang/Exception"]).filter goodWord ++ (vx_atS RX6 99 "java/lang/IllegalStateException" ["java/lang/RuntimeException", "java/lang/Exception"]).filter goodWord)
def wsX6_canAct : List Cond := .code yX6_canAct cX6_canAct 2 (some .boolean) :: ([.methodLink RX6 110 yX6_checkPerson, .static yX6_checkPerson, .initialized RX6, .code yX6_checkPerson cX6_checkPerson 1 none, .classLink RX6 200 "java/lang/IndexOutOfBoundsException", .initialized "java/lang/IndexOutOfBoundsException", .methodLink RX6 139 yX6_isAble, .instanceMethod yX6_isAble, .selects RX6 yX6_isAble yX6_isAble, .code yX6_isAble cX6_isAble 2 (some .boolean), .fieldLink RX6 23 "BoilerLog" "entriesRead" "[I", .fieldLink RX6 60 "BoilerLog" "entriesAtShiftStart" "I", .methodLink RX6 290 yX6_isOnDuty, .instanceMethod yX6_isOnDuty, .selects RX6 yX6_isOnDuty yX6_isOnDuty, .code yX6_isOnDuty cX6_isOnDuty 2 (some .boolean), .fieldLink RX6 19 "BoilerLog" "gone" "[Z", .fieldLink RX6 56 "BoilerLog" "now" "I"] ++ wsX60 ++ (vx_atS RX6 204 "java/lang/IndexOutOfBoundsException" ["java/lang/RuntimeException", "java/lang/Exception"]).filter goodWord)
def wsX6_leadOn : List Cond := .code yX6_leadOn cX6_leadOn 5 none :: ([.fieldLink RX6 15 "BoilerLog" "levels" "[I", .methodLink RX6 306 Lib.Math.min.name, .static Lib.Math.min.name, .initialized "java/lang/Math", .code Lib.Math.min.name Lib.Math.min.code 2 (some .int), .fieldLink RX6 63 "BoilerLog" "lost" "I", .methodLink RX6 275 yX6_isVessel, .static yX6_isVessel, .initialized RX6, .code yX6_isVessel cX6_isVessel 1 (some .boolean)] ++ wsX60)
def wsX6_watch_r1 : List Cond := [Cond.fieldLink RX6 33 "BoilerLog" "alarms" "Ljava/util/ArrayList;", Cond.classLink RX6 212 "BoilerLog$Alarm", Cond.fieldLink RX6 15 "BoilerLog" "levels" "[I", Cond.fieldLink RX6 45 "BoilerLog" "log" "LBoilerLog$Log;", Cond.fieldLink RX6 56 "BoilerLog" "now" "I", Cond.methodLink RX6 161 yJx4a65c_get_915e3, Cond.instanceMethod yJx4a65c_get_915e3, Cond.selects RJx4a65c yJx4a65c_get_915e3 yJx4a65c_get_915e3, Cond.initialized RJx4a65c, Cond.code yJx4a65c_get_915e3 cJx4a65c_get_915e3 2 (some (.object "java/lang/Object")), Cond.fieldLink RJx4a65c 48 "java/util/ArrayList" "size" "I", Cond.methodLink RJx4a65c 118 yJ15_checkIndex_7cf53, Cond.static yJ15_checkIndex_7cf53, Cond.initialized RJ15, Cond.code yJ15_checkIndex_7cf53 cJ15_checkIndex_7cf53 2 (some .int), Cond.methodLink RJ15 105 yJ3_checkIndex_8e157, Cond.static yJ3_checkIndex_8e157, Cond.initialized RJ3, Cond.code yJ3_checkIndex_8e157 cJ3_checkIndex_8e157 3 (some .int), Cond.methodLink RJx4a65c 123 yJx4a65c_elementData_915e3, Cond.instanceMethod yJx4a65c_elementData_915e3, Cond.selects RJx4a65c yJx4a65c_elementData_915e3 yJx4a65c_elementData_915e3, Cond.code yJx4a65c_elementData_915e3 cJx4a65c_elementData_915e3 2 (some (.object "java/lang/Object")), Cond.fieldLink RJx4a65c 9 "java/util/ArrayList" "elementData" "[Ljava/lang/Object;"]
def wsX6_watch_r2 : List Cond := [Cond.instanceMethod yX0_isMetBy, Cond.initialized RX0, Cond.selects RX0 yX0_isMetBy yX0_isMetBy, Cond.code yX0_isMetBy cX0_isMetBy 2 (some .boolean), Cond.fieldLink RX0 21 "BoilerLog$Alarm" "high" "Z", Cond.fieldLink RX0 18 "BoilerLog$Alarm" "limit" "I", Cond.instanceMethod yX2_note, Cond.initialized RX2, Cond.selects RX2 yX2_note yX2_note, Cond.code yX2_note cX2_note 5 none, Cond.fieldLink RX2 15 "BoilerLog$Log" "count" "I", Cond.fieldLink RX2 11 "BoilerLog$Log" "codes" "[I", Cond.methodLink RX2 19 yJ7_copyOf_59c91, Cond.static yJ7_copyOf_59c91, Cond.initialized RJ7, Cond.code yJ7_copyOf_59c91 cJ7_copyOf_59c91 3 (some (.array .int)), Cond.methodLink RJ7 316 ⟨"[I", "clone", "()Ljava/lang/Object;"⟩, Cond.sameMethod "[I" "java/lang/Object" "clone" "()Ljava/lang/Object;", Cond.native ⟨"java/lang/Object", "clone", "()Ljava/lang/Object;"⟩, Cond.instanceMethod ⟨"java/lang/Object", "clone", "()Ljava/lang/Object;"⟩, Cond.selects "[I" ⟨"[I", "clone", "()Ljava/lang/Object;"⟩ ⟨"java/lang/Object", "clone", "()Ljava/lang/Object;"⟩, Cond.classLink RJ7 317 "[I", Cond.arrayClass .int, Cond.methodLink RJ7 304 Lib.Math.min.name]
def wsX6_watch_r3 : List Cond := [Cond.static Lib.Math.min.name, Cond.initialized "java/lang/Math", Cond.code Lib.Math.min.name Lib.Math.min.code 2 (some .int), Cond.methodLink RJ7 150 arraycopyName, Cond.native arraycopyName, Cond.static arraycopyName, Cond.initialized "java/lang/System", Cond.methodLink RX6 293 yX6_hasTagOfAnother, Cond.instanceMethod yX6_hasTagOfAnother, Cond.selects RX6 yX6_hasTagOfAnother yX6_hasTagOfAnother, Cond.initialized RX6, Cond.code yX6_hasTagOfAnother cX6_hasTagOfAnother 5 (some .boolean), Cond.fieldLink RX6 29 "BoilerLog" "tags" "Ljava/util/ArrayList;", Cond.classLink RX6 145 "BoilerLog$Tag", Cond.methodLink RX6 142 yJx4a65c_size_8abf5, Cond.instanceMethod yJx4a65c_size_8abf5, Cond.selects RJx4a65c yJx4a65c_size_8abf5 yJx4a65c_size_8abf5, Cond.code yJx4a65c_size_8abf5 cJx4a65c_size_8abf5 1 (some .int), Cond.methodLink RX6 119 yX6_setValve, Cond.instanceMethod yX6_setValve, Cond.selects RX6 yX6_setValve yX6_setValve, Cond.code yX6_setValve cX6_setValve 5 (some .boolean), Cond.fieldLink RX6 11 "BoilerLog" "valves" "[LBoilerLog$Valve;", Cond.instanceMethod yX2_noteTurn]
def wsX6_watch_r4 : List Cond := [Cond.selects RX2 yX2_noteTurn yX2_noteTurn, Cond.code yX2_noteTurn cX2_noteTurn 5 none, Cond.methodLink RX2 25 yX2_note]
def wsX6_watch : List Cond := .code yX6_watch cX6_watch 3 none :: ((wsX6_watch_r1 ++ (wsX6_watch_r2 ++ (wsX6_watch_r3 ++ wsX6_watch_r4))) ++ wsX60 ++ wsX00 ++ wsJx4a65c0 ++ wsX20 ++ wsX40 ++ wsX50)
def wsX6_endHour_r1 : List Cond := [Cond.fieldLink RX6 11 "BoilerLog" "valves" "[LBoilerLog$Valve;", Cond.fieldLink RX6 33 "BoilerLog" "alarms" "Ljava/util/ArrayList;", Cond.fieldLink RX6 56 "BoilerLog" "now" "I", Cond.fieldLink RX6 45 "BoilerLog" "log" "LBoilerLog$Log;", Cond.fieldLink RX6 60 "BoilerLog" "entriesAtShiftStart" "I", Cond.methodLink RX6 300 yX6_leadOn, Cond.instanceMethod yX6_leadOn, Cond.selects RX6 yX6_leadOn yX6_leadOn, Cond.initialized RX6, Cond.code yX6_leadOn cX6_leadOn 5 none, Cond.fieldLink RX6 15 "BoilerLog" "levels" "[I", Cond.methodLink RX6 306 Lib.Math.min.name, Cond.static Lib.Math.min.name, Cond.initialized "java/lang/Math", Cond.code Lib.Math.min.name Lib.Math.min.code 2 (some .int), Cond.fieldLink RX6 63 "BoilerLog" "lost" "I", Cond.methodLink RX6 275 yX6_isVessel, Cond.static yX6_isVessel, Cond.code yX6_isVessel cX6_isVessel 1 (some .boolean), Cond.methodLink RX6 142 yJx4a65c_size_8abf5, Cond.instanceMethod yJx4a65c_size_8abf5, Cond.selects RJx4a65c yJx4a65c_size_8abf5 yJx4a65c_size_8abf5, Cond.initialized RJx4a65c, Cond.code yJx4a65c_size_8abf5 cJx4a65c_size_8abf5 1 (some .int)]
def wsX6_endHour_r2 : List Cond := [Cond.fieldLink RJx4a65c 48 "java/util/ArrayList" "size" "I", Cond.methodLink RX6 303 yX6_watch, Cond.instanceMethod yX6_watch, Cond.selects RX6 yX6_watch yX6_watch, Cond.code yX6_watch cX6_watch 3 none, Cond.classLink RX6 212 "BoilerLog$Alarm", Cond.methodLink RX6 161 yJx4a65c_get_915e3, Cond.instanceMethod yJx4a65c_get_915e3, Cond.selects RJx4a65c yJx4a65c_get_915e3 yJx4a65c_get_915e3, Cond.code yJx4a65c_get_915e3 cJx4a65c_get_915e3 2 (some (.object "java/lang/Object")), Cond.methodLink RJx4a65c 118 yJ15_checkIndex_7cf53, Cond.static yJ15_checkIndex_7cf53, Cond.initialized RJ15, Cond.code yJ15_checkIndex_7cf53 cJ15_checkIndex_7cf53 2 (some .int), Cond.methodLink RJ15 105 yJ3_checkIndex_8e157, Cond.static yJ3_checkIndex_8e157, Cond.initialized RJ3, Cond.code yJ3_checkIndex_8e157 cJ3_checkIndex_8e157 3 (some .int), Cond.methodLink RJx4a65c 123 yJx4a65c_elementData_915e3, Cond.instanceMethod yJx4a65c_elementData_915e3, Cond.selects RJx4a65c yJx4a65c_elementData_915e3 yJx4a65c_elementData_915e3, Cond.code yJx4a65c_elementData_915e3 cJx4a65c_elementData_915e3 2 (some (.object "java/lang/Object")), Cond.fieldLink RJx4a65c 9 "java/util/ArrayList" "elementData" "[Ljava/lang/Object;", Cond.instanceMethod yX0_isMetBy]
def wsX6_endHour_r3 : List Cond := [Cond.initialized RX0, Cond.selects RX0 yX0_isMetBy yX0_isMetBy, Cond.code yX0_isMetBy cX0_isMetBy 2 (some .boolean), Cond.fieldLink RX0 21 "BoilerLog$Alarm" "high" "Z", Cond.fieldLink RX0 18 "BoilerLog$Alarm" "limit" "I", Cond.instanceMethod yX2_note, Cond.initialized RX2, Cond.selects RX2 yX2_note yX2_note, Cond.code yX2_note cX2_note 5 none, Cond.fieldLink RX2 15 "BoilerLog$Log" "count" "I", Cond.fieldLink RX2 11 "BoilerLog$Log" "codes" "[I", Cond.methodLink RX2 19 yJ7_copyOf_59c91, Cond.static yJ7_copyOf_59c91, Cond.initialized RJ7, Cond.code yJ7_copyOf_59c91 cJ7_copyOf_59c91 3 (some (.array .int)), Cond.methodLink RJ7 316 ⟨"[I", "clone", "()Ljava/lang/Object;"⟩, Cond.sameMethod "[I" "java/lang/Object" "clone" "()Ljava/lang/Object;", Cond.native ⟨"java/lang/Object", "clone", "()Ljava/lang/Object;"⟩, Cond.instanceMethod ⟨"java/lang/Object", "clone", "()Ljava/lang/Object;"⟩, Cond.selects "[I" ⟨"[I", "clone", "()Ljava/lang/Object;"⟩ ⟨"java/lang/Object", "clone", "()Ljava/lang/Object;"⟩, Cond.classLink RJ7 317 "[I", Cond.arrayClass .int, Cond.methodLink RJ7 304 Lib.Math.min.name, Cond.methodLink RJ7 150 arraycopyName]
def wsX6_endHour_r4 : List Cond := [Cond.native arraycopyName, Cond.static arraycopyName, Cond.initialized "java/lang/System", Cond.methodLink RX6 293 yX6_hasTagOfAnother, Cond.instanceMethod yX6_hasTagOfAnother, Cond.selects RX6 yX6_hasTagOfAnother yX6_hasTagOfAnother, Cond.code yX6_hasTagOfAnother cX6_hasTagOfAnother 5 (some .boolean), Cond.fieldLink RX6 29 "BoilerLog" "tags" "Ljava/util/ArrayList;", Cond.classLink RX6 145 "BoilerLog$Tag", Cond.methodLink RX6 119 yX6_setValve, Cond.instanceMethod yX6_setValve, Cond.selects RX6 yX6_setValve yX6_setValve, Cond.code yX6_setValve cX6_setValve 5 (some .boolean), Cond.instanceMethod yX2_noteTurn, Cond.selects RX2 yX2_noteTurn yX2_noteTurn, Cond.code yX2_noteTurn cX2_noteTurn 5 none, Cond.methodLink RX2 25 yX2_note, Cond.instanceMethod yX2_size, Cond.selects RX2 yX2_size yX2_size, Cond.code yX2_size cX2_size 1 (some .int)]
def wsX6_endHour : List Cond := .code yX6_endHour cX6_endHour 2 none :: ((wsX6_endHour_r1 ++ (wsX6_endHour_r2 ++ (wsX6_endHour_r3 ++ wsX6_endHour_r4))) ++ wsX60 ++ wsX50 ++ wsJx4a65c0 ++ wsX00 ++ wsX20 ++ wsX40)
def wsX6_advance_r1 : List Cond := [Cond.classLink RX6 84 "java/lang/IllegalArgumentException", Cond.initialized "java/lang/IllegalArgumentException", Cond.classLink RX6 95 "java/lang/IllegalStateException", Cond.initialized "java/lang/IllegalStateException", Cond.fieldLink RX6 56 "BoilerLog" "now" "I", Cond.methodLink RX6 197 yX6_endHour, Cond.instanceMethod yX6_endHour, Cond.selects RX6 yX6_endHour yX6_endHour, Cond.initialized RX6, Cond.code yX6_endHour cX6_endHour 2 none, Cond.fieldLink RX6 11 "BoilerLog" "valves" "[LBoilerLog$Valve;", Cond.fieldLink RX6 33 "BoilerLog" "alarms" "Ljava/util/ArrayList;", Cond.fieldLink RX6 45 "BoilerLog" "log" "LBoilerLog$Log;", Cond.fieldLink RX6 60 "BoilerLog" "entriesAtShiftStart" "I", Cond.methodLink RX6 300 yX6_leadOn, Cond.instanceMethod yX6_leadOn, Cond.selects RX6 yX6_leadOn yX6_leadOn, Cond.code yX6_leadOn cX6_leadOn 5 none, Cond.fieldLink RX6 15 "BoilerLog" "levels" "[I", Cond.methodLink RX6 306 Lib.Math.min.name, Cond.static Lib.Math.min.name, Cond.initialized "java/lang/Math", Cond.code Lib.Math.min.name Lib.Math.min.code 2 (some .int), Cond.fieldLink RX6 63 "BoilerLog" "lost" "I"]
def wsX6_advance_r2 : List Cond := [Cond.methodLink RX6 275 yX6_isVessel, Cond.static yX6_isVessel, Cond.code yX6_isVessel cX6_isVessel 1 (some .boolean), Cond.methodLink RX6 142 yJx4a65c_size_8abf5, Cond.instanceMethod yJx4a65c_size_8abf5, Cond.selects RJx4a65c yJx4a65c_size_8abf5 yJx4a65c_size_8abf5, Cond.initialized RJx4a65c, Cond.code yJx4a65c_size_8abf5 cJx4a65c_size_8abf5 1 (some .int), Cond.fieldLink RJx4a65c 48 "java/util/ArrayList" "size" "I", Cond.methodLink RX6 303 yX6_watch, Cond.instanceMethod yX6_watch, Cond.selects RX6 yX6_watch yX6_watch, Cond.code yX6_watch cX6_watch 3 none, Cond.classLink RX6 212 "BoilerLog$Alarm", Cond.methodLink RX6 161 yJx4a65c_get_915e3, Cond.instanceMethod yJx4a65c_get_915e3, Cond.selects RJx4a65c yJx4a65c_get_915e3 yJx4a65c_get_915e3, Cond.code yJx4a65c_get_915e3 cJx4a65c_get_915e3 2 (some (.object "java/lang/Object")), Cond.methodLink RJx4a65c 118 yJ15_checkIndex_7cf53, Cond.static yJ15_checkIndex_7cf53, Cond.initialized RJ15, Cond.code yJ15_checkIndex_7cf53 cJ15_checkIndex_7cf53 2 (some .int), Cond.methodLink RJ15 105 yJ3_checkIndex_8e157, Cond.static yJ3_checkIndex_8e157]
def wsX6_advance_r3 : List Cond := [Cond.initialized RJ3, Cond.code yJ3_checkIndex_8e157 cJ3_checkIndex_8e157 3 (some .int), Cond.methodLink RJx4a65c 123 yJx4a65c_elementData_915e3, Cond.instanceMethod yJx4a65c_elementData_915e3, Cond.selects RJx4a65c yJx4a65c_elementData_915e3 yJx4a65c_elementData_915e3, Cond.code yJx4a65c_elementData_915e3 cJx4a65c_elementData_915e3 2 (some (.object "java/lang/Object")), Cond.fieldLink RJx4a65c 9 "java/util/ArrayList" "elementData" "[Ljava/lang/Object;", Cond.instanceMethod yX0_isMetBy, Cond.initialized RX0, Cond.selects RX0 yX0_isMetBy yX0_isMetBy, Cond.code yX0_isMetBy cX0_isMetBy 2 (some .boolean), Cond.fieldLink RX0 21 "BoilerLog$Alarm" "high" "Z", Cond.fieldLink RX0 18 "BoilerLog$Alarm" "limit" "I", Cond.instanceMethod yX2_note, Cond.initialized RX2, Cond.selects RX2 yX2_note yX2_note, Cond.code yX2_note cX2_note 5 none, Cond.fieldLink RX2 15 "BoilerLog$Log" "count" "I", Cond.fieldLink RX2 11 "BoilerLog$Log" "codes" "[I", Cond.methodLink RX2 19 yJ7_copyOf_59c91, Cond.static yJ7_copyOf_59c91, Cond.initialized RJ7, Cond.code yJ7_copyOf_59c91 cJ7_copyOf_59c91 3 (some (.array .int)), Cond.methodLink RJ7 316 ⟨"[I", "clone", "()Ljava/lang/Object;"⟩]
def wsX6_advance_r4 : List Cond := [Cond.sameMethod "[I" "java/lang/Object" "clone" "()Ljava/lang/Object;", Cond.native ⟨"java/lang/Object", "clone", "()Ljava/lang/Object;"⟩, Cond.instanceMethod ⟨"java/lang/Object", "clone", "()Ljava/lang/Object;"⟩, Cond.selects "[I" ⟨"[I", "clone", "()Ljava/lang/Object;"⟩ ⟨"java/lang/Object", "clone", "()Ljava/lang/Object;"⟩, Cond.classLink RJ7 317 "[I", Cond.arrayClass .int, Cond.methodLink RJ7 304 Lib.Math.min.name, Cond.methodLink RJ7 150 arraycopyName, Cond.native arraycopyName, Cond.static arraycopyName, Cond.initialized "java/lang/System", Cond.methodLink RX6 293 yX6_hasTagOfAnother, Cond.instanceMethod yX6_hasTagOfAnother, Cond.selects RX6 yX6_hasTagOfAnother yX6_hasTagOfAnother, Cond.code yX6_hasTagOfAnother cX6_hasTagOfAnother 5 (some .boolean), Cond.fieldLink RX6 29 "BoilerLog" "tags" "Ljava/util/ArrayList;", Cond.classLink RX6 145 "BoilerLog$Tag", Cond.methodLink RX6 119 yX6_setValve, Cond.instanceMethod yX6_setValve, Cond.selects RX6 yX6_setValve yX6_setValve, Cond.code yX6_setValve cX6_setValve 5 (some .boolean), Cond.instanceMethod yX2_noteTurn, Cond.selects RX2 yX2_noteTurn yX2_noteTurn, Cond.code yX2_noteTurn cX2_noteTurn 5 none]
def wsX6_advance_r5 : List Cond := [Cond.methodLink RX2 25 yX2_note, Cond.instanceMethod yX2_size, Cond.selects RX2 yX2_size yX2_size, Cond.code yX2_size cX2_size 1 (some .int)]
def wsX6_advance : List Cond := .code yX6_advance cX6_advance 3 (some .int) :: ((wsX6_advance_r1 ++ (wsX6_advance_r2 ++ (wsX6_advance_r3 ++ (wsX6_advance_r4 ++ wsX6_advance_r5)))) ++ wsX60 ++ wsX50 ++ wsJx4a65c0 ++ wsX00 ++ wsX20 ++ wsX40 ++ (vx_atS RX6 88 "java/lang/IllegalArgumentException" ["java/lang/RuntimeException", "java/lang/Exception"]).filter goodWord ++ (vx_atS RX6 99 "java/lang/IllegalStateException" ["java/lang/RuntimeException", "java/lang/Exception"]).filter goodWord)
def wsX6_hour : List Cond := .code yX6_hour cX6_hour 1 (some .int) :: ([.fieldLink RX6 56 "BoilerLog" "now" "I"] ++ wsX60)
def wsX6_entries : List Cond := .code yX6_entries cX6_entries 1 (some .int) :: ([.fieldLink RX6 45 "BoilerLog" "log" "LBoilerLog$Log;", .instanceMethod yX2_size, .initialized RX2, .selects RX2 yX2_size yX2_size, .code yX2_size cX2_size 1 (some .int), .fieldLink RX2 15 "BoilerLog$Log" "count" "I"] ++ wsX60 ++ wsX20)
def wsX6_entryAt : List Cond := .code yX6_entryAt cX6_entryAt 2 (some .int) :: ([.classLink RX6 200 "java/lang/IndexOutOfBoundsException", .initialized "java/lang/IndexOutOfBoundsException", .fieldLink RX6 45 "BoilerLog" "log" "LBoilerLog$Log;", .instanceMethod yX2_size, .initialized RX2, .selects RX2 yX2_size yX2_size, .code yX2_size cX2_size 1 (some .int), .fieldLink RX2 15 "BoilerLog$Log" "count" "I", .instanceMethod yX2_codeAt, .selects RX2 yX2_codeAt yX2_codeAt, .code yX2_codeAt cX2_codeAt 2 (some .int), .fieldLink RX2 11 "BoilerLog$Log" "codes" "[I"] ++ wsX60 ++ wsX20 ++ (vx_atS RX6 204 "java/lang/IndexOutOfBoundsException" ["java/lang/RuntimeException", "java/lang/Exception"]).filter goodWord)
def wsX6_alarm_r1 : List Cond := [Cond.classLink RX6 84 "java/lang/IllegalArgumentException", Cond.initialized "java/lang/IllegalArgumentException", Cond.classLink RX6 95 "java/lang/IllegalStateException", Cond.initialized "java/lang/IllegalStateException", Cond.fieldLink RX6 33 "BoilerLog" "alarms" "Ljava/util/ArrayList;", Cond.classLink RX6 212 RX0, Cond.instantiable RX0 6, Cond.initialized RX0, Cond.methodLink RX6 136 yX6_checkVessel, Cond.static yX6_checkVessel, Cond.initialized RX6, Cond.code yX6_checkVessel cX6_checkVessel 1 none, Cond.classLink RX6 200 "java/lang/IndexOutOfBoundsException", Cond.initialized "java/lang/IndexOutOfBoundsException", Cond.methodLink RX6 275 yX6_isVessel, Cond.static yX6_isVessel, Cond.code yX6_isVessel cX6_isVessel 1 (some .boolean), Cond.methodLink RX6 76 yX6_checkValve, Cond.static yX6_checkValve, Cond.code yX6_checkValve cX6_checkValve 1 none, Cond.methodLink RX6 142 yJx4a65c_size_8abf5, Cond.instanceMethod yJx4a65c_size_8abf5, Cond.selects RJx4a65c yJx4a65c_size_8abf5 yJx4a65c_size_8abf5, Cond.initialized RJx4a65c]
def wsX6_alarm_r2 : List Cond := [Cond.code yJx4a65c_size_8abf5 cJx4a65c_size_8abf5 1 (some .int), Cond.fieldLink RJx4a65c 48 "java/util/ArrayList" "size" "I", Cond.instanceMethod yX0_init, Cond.code yX0_init cX0_init 6 none, Cond.methodLink RX0 3 objectInit, Cond.instanceMethod objectInit, Cond.code objectInit ⟨#[0xb1]⟩ 1 none, Cond.fieldLink RX0 9 "BoilerLog$Alarm" "state" "I", Cond.fieldLink RX0 15 "BoilerLog$Alarm" "vessel" "I", Cond.fieldLink RX0 18 "BoilerLog$Alarm" "limit" "I", Cond.fieldLink RX0 21 "BoilerLog$Alarm" "high" "Z", Cond.fieldLink RX0 25 "BoilerLog$Alarm" "valve" "I", Cond.fieldLink RX0 28 "BoilerLog$Alarm" "opens" "Z", Cond.methodLink RX6 150 yJx4a65c_add_9ea2d, Cond.instanceMethod yJx4a65c_add_9ea2d, Cond.selects RJx4a65c yJx4a65c_add_9ea2d yJx4a65c_add_9ea2d, Cond.code yJx4a65c_add_9ea2d cJx4a65c_add_9ea2d 2 (some .boolean), Cond.fieldLink RJx4a65c 63 "java/util/ArrayList" "modCount" "I", Cond.sameField "java/util/ArrayList" "java/util/AbstractList" "modCount" "I", Cond.fieldLink RJx4a65c 9 "java/util/ArrayList" "elementData" "[Ljava/lang/Object;", Cond.methodLink RJx4a65c 131 yJx4a65c_add_72be8, Cond.instanceMethod yJx4a65c_add_72be8, Cond.selects RJx4a65c yJx4a65c_add_72be8 yJx4a65c_add_72be8, Cond.code yJx4a65c_add_72be8 cJx4a65c_add_72be8 4 none]
def wsX6_alarm_r3 : List Cond := [Cond.methodLink RJx4a65c 129 yJx4a65c_grow_d5877, Cond.instanceMethod yJx4a65c_grow_d5877, Cond.selects RJx4a65c yJx4a65c_grow_d5877 yJx4a65c_grow_d5877, Cond.code yJx4a65c_grow_d5877 cJx4a65c_grow_d5877 1 (some (.array (.object "java/lang/Object"))), Cond.methodLink RJx4a65c 69 yJx4a65c_grow_92f84, Cond.instanceMethod yJx4a65c_grow_92f84, Cond.selects RJx4a65c yJx4a65c_grow_92f84 yJx4a65c_grow_92f84, Cond.code yJx4a65c_grow_92f84 cJx4a65c_grow_92f84 4 (some (.array (.object "java/lang/Object"))), Cond.fieldLink RJx4a65c 39 "java/util/ArrayList" "DEFAULTCAPACITY_EMPTY_ELEMENTDATA" "[Ljava/lang/Object;", Cond.methodLink RJx4a65c 79 Lib.Math.max.name, Cond.static Lib.Math.max.name, Cond.initialized "java/lang/Math", Cond.code Lib.Math.max.name Lib.Math.max.code 2 (some .int), Cond.classLink RJx4a65c 7 "java/lang/Object", Cond.methodLink RJx4a65c 73 yJ8_newLength_cabcc, Cond.static yJ8_newLength_cabcc, Cond.initialized RJ8, Cond.code yJ8_newLength_cabcc cJ8_newLength_cabcc 4 (some .int), Cond.methodLink RJ8 194 Lib.Math.max.name, Cond.constant RJ8 200 (2147483639), Cond.methodLink RJ8 201 yJ8_hugeLength_7cf53, Cond.static yJ8_hugeLength_7cf53, Cond.code yJ8_hugeLength_7cf53 cJ8_hugeLength_7cf53 3 (some .int), Cond.methodLink RJx4a65c 66 yJ7_copyOf_1904c]
def wsX6_alarm_r4 : List Cond := [Cond.static yJ7_copyOf_1904c, Cond.initialized RJ7, Cond.code yJ7_copyOf_1904c cJ7_copyOf_1904c 2 (some (.array (.object "java/lang/Object"))), Cond.methodLink RJ7 86 ⟨"java/lang/Object", "getClass", "()Ljava/lang/Class;"⟩, Cond.selects "[Ljava/lang/Object;" ⟨"java/lang/Object", "getClass", "()Ljava/lang/Class;"⟩ ⟨"java/lang/Object", "getClass", "()Ljava/lang/Class;"⟩, Cond.instanceMethod ⟨"java/lang/Object", "getClass", "()Ljava/lang/Class;"⟩, Cond.native ⟨"java/lang/Object", "getClass", "()Ljava/lang/Class;"⟩, Cond.methodLink RJ7 300 yJ7_copyOf_6403c, Cond.static yJ7_copyOf_6403c, Cond.code yJ7_copyOf_6403c cJ7_copyOf_6403c 4 (some (.array (.object "java/lang/Object"))), Cond.classLink RJ7 110 "[Ljava/lang/Object;", Cond.classLink RJ7 2 "java/lang/Object", Cond.methodLink RJ7 304 Lib.Math.min.name, Cond.static Lib.Math.min.name, Cond.code Lib.Math.min.name Lib.Math.min.code 2 (some .int), Cond.methodLink RJ7 150 arraycopyName, Cond.native arraycopyName, Cond.static arraycopyName, Cond.initialized "java/lang/System"]
def wsX6_alarm : List Cond := .code yX6_alarm cX6_alarm 6 (some .int) :: ((wsX6_alarm_r1 ++ (wsX6_alarm_r2 ++ (wsX6_alarm_r3 ++ wsX6_alarm_r4))) ++ wsX60 ++ wsX00 ++ wsJx4a65c0 ++ (vx_atS RX6 88 "java/lang/IllegalArgumentException" ["java/lang/RuntimeException", "java/lang/Exception"]).filter goodWord ++ (vx_atS RX6 99 "java/lang/IllegalStateException" ["java/lang/RuntimeException", "java/lang/Exception"]).filter goodWord ++ (vx_atS RX6 204 "java/lang/IndexOutOfBoundsException" ["java/lang/RuntimeException", "java/lang/Exception"]).filter goodWord)
def wsX6_stateOf_r1 : List Cond := [Cond.classLink RX6 200 "java/lang/IndexOutOfBoundsException", Cond.initialized "java/lang/IndexOutOfBoundsException", Cond.fieldLink RX6 33 "BoilerLog" "alarms" "Ljava/util/ArrayList;", Cond.classLink RX6 212 "BoilerLog$Alarm", Cond.methodLink RX6 142 yJx4a65c_size_8abf5, Cond.instanceMethod yJx4a65c_size_8abf5, Cond.selects RJx4a65c yJx4a65c_size_8abf5 yJx4a65c_size_8abf5, Cond.initialized RJx4a65c, Cond.code yJx4a65c_size_8abf5 cJx4a65c_size_8abf5 1 (some .int), Cond.fieldLink RJx4a65c 48 "java/util/ArrayList" "size" "I", Cond.methodLink RX6 161 yJx4a65c_get_915e3, Cond.instanceMethod yJx4a65c_get_915e3, Cond.selects RJx4a65c yJx4a65c_get_915e3 yJx4a65c_get_915e3, Cond.code yJx4a65c_get_915e3 cJx4a65c_get_915e3 2 (some (.object "java/lang/Object")), Cond.methodLink RJx4a65c 118 yJ15_checkIndex_7cf53, Cond.static yJ15_checkIndex_7cf53, Cond.initialized RJ15, Cond.code yJ15_checkIndex_7cf53 cJ15_checkIndex_7cf53 2 (some .int), Cond.methodLink RJ15 105 yJ3_checkIndex_8e157, Cond.static yJ3_checkIndex_8e157, Cond.initialized RJ3, Cond.code yJ3_checkIndex_8e157 cJ3_checkIndex_8e157 3 (some .int), Cond.methodLink RJx4a65c 123 yJx4a65c_elementData_915e3, Cond.instanceMethod yJx4a65c_elementData_915e3]
def wsX6_stateOf_r2 : List Cond := [Cond.selects RJx4a65c yJx4a65c_elementData_915e3 yJx4a65c_elementData_915e3, Cond.code yJx4a65c_elementData_915e3 cJx4a65c_elementData_915e3 2 (some (.object "java/lang/Object")), Cond.fieldLink RJx4a65c 9 "java/util/ArrayList" "elementData" "[Ljava/lang/Object;"]
def wsX6_stateOf : List Cond := .code yX6_stateOf cX6_stateOf 2 (some .int) :: ((wsX6_stateOf_r1 ++ wsX6_stateOf_r2) ++ wsX60 ++ wsX00 ++ wsJx4a65c0 ++ (vx_atS RX6 204 "java/lang/IndexOutOfBoundsException" ["java/lang/RuntimeException", "java/lang/Exception"]).filter goodWord)
def wsX6_insert : List Cond := .code yX6_insert cX6_insert 3 (some .int) :: ([.classLink RX6 84 "java/lang/IllegalArgumentException", .initialized "java/lang/IllegalArgumentException", .classLink RX6 95 "java/lang/IllegalStateException", .initialized "java/lang/IllegalStateException", .fieldLink RX6 52 "BoilerLog" "draft" "LBoilerLog$Draft;", .instanceMethod yX1_length, .initialized RX1, .selects RX1 yX1_length yX1_length, .code yX1_length cX1_length 1 (some .int), .fieldLink RX1 15 "BoilerLog$Draft" "count" "I", .instanceMethod yX1_put, .selects RX1 yX1_put yX1_put, .code yX1_put cX1_put 4 none, .fieldLink RX1 9 "BoilerLog$Draft" "characters" "[C"] ++ wsX60 ++ wsX10 ++ (vx_atS RX6 88 "java/lang/IllegalArgumentException" ["java/lang/RuntimeException", "java/lang/Exception"]).filter goodWord ++ (vx_atS RX6 99 "java/lang/IllegalStateException" ["java/lang/RuntimeException", "java/lang/Exception"]).filter goodWord)
def wsX6_clear : List Cond := .code yX6_clear cX6_clear 2 (some .int) :: ([.fieldLink RX6 52 "BoilerLog" "draft" "LBoilerLog$Draft;", .instanceMethod yX1_length, .initialized RX1, .selects RX1 yX1_length yX1_length, .code yX1_length cX1_length 1 (some .int), .fieldLink RX1 15 "BoilerLog$Draft" "count" "I", .instanceMethod yX1_wipe, .selects RX1 yX1_wipe yX1_wipe, .code yX1_wipe cX1_wipe 1 none] ++ wsX60 ++ wsX10)
def wsX6_isWhole : List Cond := .code yX6_isWhole cX6_isWhole 1 (some .boolean) :: ([.fieldLink RX6 52 "BoilerLog" "draft" "LBoilerLog$Draft;", .instanceMethod yX1_isComplete, .initialized RX1, .selects RX1 yX1_isComplete yX1_isComplete, .code yX1_isComplete cX1_isComplete 3 (some .boolean), .fieldLink RX1 15 "BoilerLog$Draft" "count" "I", .fieldLink RX1 9 "BoilerLog$Draft" "characters" "[C", .methodLink RX1 19 yX1_isLow, .static yX1_isLow, .code yX1_isLow cX1_isLow 1 (some .boolean), .constant RX1 35 (56320), .constant RX1 36 (57344), .methodLink RX1 23 yX1_isHigh, .static yX1_isHigh, .code yX1_isHigh cX1_isHigh 1 (some .boolean), .constant RX1 34 (55296)] ++ wsX60 ++ wsX10)
def wsX6_checkThread : List Cond := .code yX6_checkThread cX6_checkThread 2 none :: ([.classLink RX6 200 "java/lang/IndexOutOfBoundsException", .initialized "java/lang/IndexOutOfBoundsException", .fieldLink RX6 66 "BoilerLog" "threads" "I"] ++ wsX60 ++ (vx_atS RX6 204 "java/lang/IndexOutOfBoundsException" ["java/lang/RuntimeException", "java/lang/Exception"]).filter goodWord)
def wsX6_assign_r1 : List Cond := [Cond.fieldLink RX6 39 "BoilerLog" "tasks" "[I", Cond.fieldLink RX6 45 "BoilerLog" "log" "LBoilerLog$Log;", Cond.fieldLink RX6 56 "BoilerLog" "now" "I", Cond.instanceMethod yX2_note, Cond.initialized RX2, Cond.selects RX2 yX2_note yX2_note, Cond.code yX2_note cX2_note 5 none, Cond.fieldLink RX2 15 "BoilerLog$Log" "count" "I", Cond.fieldLink RX2 11 "BoilerLog$Log" "codes" "[I", Cond.methodLink RX2 19 yJ7_copyOf_59c91, Cond.static yJ7_copyOf_59c91, Cond.initialized RJ7, Cond.code yJ7_copyOf_59c91 cJ7_copyOf_59c91 3 (some (.array .int)), Cond.methodLink RJ7 316 ⟨"[I", "clone", "()Ljava/lang/Object;"⟩, Cond.sameMethod "[I" "java/lang/Object" "clone" "()Ljava/lang/Object;", Cond.native ⟨"java/lang/Object", "clone", "()Ljava/lang/Object;"⟩, Cond.instanceMethod ⟨"java/lang/Object", "clone", "()Ljava/lang/Object;"⟩, Cond.selects "[I" ⟨"[I", "clone", "()Ljava/lang/Object;"⟩ ⟨"java/lang/Object", "clone", "()Ljava/lang/Object;"⟩, Cond.classLink RJ7 317 "[I", Cond.arrayClass .int, Cond.methodLink RJ7 304 Lib.Math.min.name, Cond.static Lib.Math.min.name, Cond.initialized "java/lang/Math", Cond.code Lib.Math.min.name Lib.Math.min.code 2 (some .int)]
def wsX6_assign_r2 : List Cond := [Cond.methodLink RJ7 150 arraycopyName, Cond.native arraycopyName, Cond.static arraycopyName, Cond.initialized "java/lang/System"]
def wsX6_assign : List Cond := .code yX6_assign cX6_assign 3 none :: ((wsX6_assign_r1 ++ wsX6_assign_r2) ++ wsX60 ++ wsX20)
def wsX6_post_r1 : List Cond := [Cond.classLink RX6 95 "java/lang/IllegalStateException", Cond.initialized "java/lang/IllegalStateException", Cond.fieldLink RX6 52 "BoilerLog" "draft" "LBoilerLog$Draft;", Cond.fieldLink RX6 36 "BoilerLog" "posted" "Ljava/util/ArrayList;", Cond.classLink RX6 245 RX3, Cond.instantiable RX3 1, Cond.initialized RX3, Cond.fieldLink RX6 66 "BoilerLog" "threads" "I", Cond.methodLink RX6 110 yX6_checkPerson, Cond.static yX6_checkPerson, Cond.initialized RX6, Cond.code yX6_checkPerson cX6_checkPerson 1 none, Cond.classLink RX6 200 "java/lang/IndexOutOfBoundsException", Cond.initialized "java/lang/IndexOutOfBoundsException", Cond.methodLink RX6 240 yX6_checkThread, Cond.instanceMethod yX6_checkThread, Cond.selects RX6 yX6_checkThread yX6_checkThread, Cond.code yX6_checkThread cX6_checkThread 2 none, Cond.methodLink RX6 190 yX6_checkNotGone, Cond.instanceMethod yX6_checkNotGone, Cond.selects RX6 yX6_checkNotGone yX6_checkNotGone, Cond.code yX6_checkNotGone cX6_checkNotGone 2 none, Cond.fieldLink RX6 19 "BoilerLog" "gone" "[Z", Cond.instanceMethod yX1_isComplete]
def wsX6_post_r2 : List Cond := [Cond.initialized RX1, Cond.selects RX1 yX1_isComplete yX1_isComplete, Cond.code yX1_isComplete cX1_isComplete 3 (some .boolean), Cond.fieldLink RX1 15 "BoilerLog$Draft" "count" "I", Cond.fieldLink RX1 9 "BoilerLog$Draft" "characters" "[C", Cond.methodLink RX1 19 yX1_isLow, Cond.static yX1_isLow, Cond.code yX1_isLow cX1_isLow 1 (some .boolean), Cond.constant RX1 35 (56320), Cond.constant RX1 36 (57344), Cond.methodLink RX1 23 yX1_isHigh, Cond.static yX1_isHigh, Cond.code yX1_isHigh cX1_isHigh 1 (some .boolean), Cond.constant RX1 34 (55296), Cond.methodLink RX6 142 yJx4a65c_size_8abf5, Cond.instanceMethod yJx4a65c_size_8abf5, Cond.selects RJx4a65c yJx4a65c_size_8abf5 yJx4a65c_size_8abf5, Cond.initialized RJx4a65c, Cond.code yJx4a65c_size_8abf5 cJx4a65c_size_8abf5 1 (some .int), Cond.fieldLink RJx4a65c 48 "java/util/ArrayList" "size" "I", Cond.instanceMethod yX1_toSigns, Cond.selects RX1 yX1_toSigns yX1_toSigns, Cond.code yX1_toSigns cX1_toSigns 5 (some (.array .int)), Cond.arrayClass .int]
def wsX6_post_r3 : List Cond := [Cond.methodLink RX1 26 yX1_countHigh, Cond.instanceMethod yX1_countHigh, Cond.selects RX1 yX1_countHigh yX1_countHigh, Cond.code yX1_countHigh cX1_countHigh 3 (some .int), Cond.methodLink RX1 30 yX1_join, Cond.static yX1_join, Cond.code yX1_join cX1_join 2 (some .int), Cond.constant RX1 37 (65536), Cond.instanceMethod yX3_init, Cond.code yX3_init cX3_init 2 none, Cond.methodLink RX3 3 objectInit, Cond.instanceMethod objectInit, Cond.code objectInit ⟨#[0xb1]⟩ 1 none, Cond.fieldLink RX3 9 "BoilerLog$Message" "content" "[I", Cond.methodLink RX6 150 yJx4a65c_add_9ea2d, Cond.instanceMethod yJx4a65c_add_9ea2d, Cond.selects RJx4a65c yJx4a65c_add_9ea2d yJx4a65c_add_9ea2d, Cond.code yJx4a65c_add_9ea2d cJx4a65c_add_9ea2d 2 (some .boolean), Cond.fieldLink RJx4a65c 63 "java/util/ArrayList" "modCount" "I", Cond.sameField "java/util/ArrayList" "java/util/AbstractList" "modCount" "I", Cond.fieldLink RJx4a65c 9 "java/util/ArrayList" "elementData" "[Ljava/lang/Object;", Cond.methodLink RJx4a65c 131 yJx4a65c_add_72be8, Cond.instanceMethod yJx4a65c_add_72be8, Cond.selects RJx4a65c yJx4a65c_add_72be8 yJx4a65c_add_72be8]
def wsX6_post_r4 : List Cond := [Cond.code yJx4a65c_add_72be8 cJx4a65c_add_72be8 4 none, Cond.methodLink RJx4a65c 129 yJx4a65c_grow_d5877, Cond.instanceMethod yJx4a65c_grow_d5877, Cond.selects RJx4a65c yJx4a65c_grow_d5877 yJx4a65c_grow_d5877, Cond.code yJx4a65c_grow_d5877 cJx4a65c_grow_d5877 1 (some (.array (.object "java/lang/Object"))), Cond.methodLink RJx4a65c 69 yJx4a65c_grow_92f84, Cond.instanceMethod yJx4a65c_grow_92f84, Cond.selects RJx4a65c yJx4a65c_grow_92f84 yJx4a65c_grow_92f84, Cond.code yJx4a65c_grow_92f84 cJx4a65c_grow_92f84 4 (some (.array (.object "java/lang/Object"))), Cond.fieldLink RJx4a65c 39 "java/util/ArrayList" "DEFAULTCAPACITY_EMPTY_ELEMENTDATA" "[Ljava/lang/Object;", Cond.methodLink RJx4a65c 79 Lib.Math.max.name, Cond.static Lib.Math.max.name, Cond.initialized "java/lang/Math", Cond.code Lib.Math.max.name Lib.Math.max.code 2 (some .int), Cond.classLink RJx4a65c 7 "java/lang/Object", Cond.methodLink RJx4a65c 73 yJ8_newLength_cabcc, Cond.static yJ8_newLength_cabcc, Cond.initialized RJ8, Cond.code yJ8_newLength_cabcc cJ8_newLength_cabcc 4 (some .int), Cond.methodLink RJ8 194 Lib.Math.max.name, Cond.constant RJ8 200 (2147483639), Cond.methodLink RJ8 201 yJ8_hugeLength_7cf53, Cond.static yJ8_hugeLength_7cf53, Cond.code yJ8_hugeLength_7cf53 cJ8_hugeLength_7cf53 3 (some .int)]
def wsX6_post_r5 : List Cond := [Cond.methodLink RJx4a65c 66 yJ7_copyOf_1904c, Cond.static yJ7_copyOf_1904c, Cond.initialized RJ7, Cond.code yJ7_copyOf_1904c cJ7_copyOf_1904c 2 (some (.array (.object "java/lang/Object"))), Cond.methodLink RJ7 86 ⟨"java/lang/Object", "getClass", "()Ljava/lang/Class;"⟩, Cond.selects "[Ljava/lang/Object;" ⟨"java/lang/Object", "getClass", "()Ljava/lang/Class;"⟩ ⟨"java/lang/Object", "getClass", "()Ljava/lang/Class;"⟩, Cond.instanceMethod ⟨"java/lang/Object", "getClass", "()Ljava/lang/Class;"⟩, Cond.native ⟨"java/lang/Object", "getClass", "()Ljava/lang/Class;"⟩, Cond.methodLink RJ7 300 yJ7_copyOf_6403c, Cond.static yJ7_copyOf_6403c, Cond.code yJ7_copyOf_6403c cJ7_copyOf_6403c 4 (some (.array (.object "java/lang/Object"))), Cond.classLink RJ7 110 "[Ljava/lang/Object;", Cond.classLink RJ7 2 "java/lang/Object", Cond.methodLink RJ7 304 Lib.Math.min.name, Cond.static Lib.Math.min.name, Cond.code Lib.Math.min.name Lib.Math.min.code 2 (some .int), Cond.methodLink RJ7 150 arraycopyName, Cond.native arraycopyName, Cond.static arraycopyName, Cond.initialized "java/lang/System", Cond.instanceMethod yX1_wipe, Cond.selects RX1 yX1_wipe yX1_wipe, Cond.code yX1_wipe cX1_wipe 1 none, Cond.instanceMethod yX3_personCalled]
def wsX6_post_r6 : List Cond := [Cond.selects RX3 yX3_personCalled yX3_personCalled, Cond.code yX3_personCalled cX3_personCalled 3 (some .int), Cond.methodLink RX6 257 yX6_assign, Cond.instanceMethod yX6_assign, Cond.selects RX6 yX6_assign yX6_assign, Cond.code yX6_assign cX6_assign 3 none, Cond.fieldLink RX6 39 "BoilerLog" "tasks" "[I", Cond.fieldLink RX6 45 "BoilerLog" "log" "LBoilerLog$Log;", Cond.fieldLink RX6 56 "BoilerLog" "now" "I", Cond.instanceMethod yX2_note, Cond.initialized RX2, Cond.selects RX2 yX2_note yX2_note, Cond.code yX2_note cX2_note 5 none, Cond.fieldLink RX2 15 "BoilerLog$Log" "count" "I", Cond.fieldLink RX2 11 "BoilerLog$Log" "codes" "[I", Cond.methodLink RX2 19 yJ7_copyOf_59c91, Cond.static yJ7_copyOf_59c91, Cond.code yJ7_copyOf_59c91 cJ7_copyOf_59c91 3 (some (.array .int)), Cond.methodLink RJ7 316 ⟨"[I", "clone", "()Ljava/lang/Object;"⟩, Cond.sameMethod "[I" "java/lang/Object" "clone" "()Ljava/lang/Object;", Cond.native ⟨"java/lang/Object", "clone", "()Ljava/lang/Object;"⟩, Cond.instanceMethod ⟨"java/lang/Object", "clone", "()Ljava/lang/Object;"⟩, Cond.selects "[I" ⟨"[I", "clone", "()Ljava/lang/Object;"⟩ ⟨"java/lang/Object", "clone", "()Ljava/lang/Object;"⟩, Cond.classLink RJ7 317 "[I"]
def wsX6_post : List Cond := .code yX6_post cX6_post 5 (some .int) :: ((wsX6_post_r1 ++ (wsX6_post_r2 ++ (wsX6_post_r3 ++ (wsX6_post_r4 ++ (wsX6_post_r5 ++ wsX6_post_r6))))) ++ wsX60 ++ wsX30 ++ wsX10 ++ wsJx4a65c0 ++ wsX20 ++ (vx_atS RX6 99 "java/lang/IllegalStateException" ["java/lang/RuntimeException", "java/lang/Exception"]).filter goodWord ++ (vx_atS RX6 204 "java/lang/IndexOutOfBoundsException" ["java/lang/RuntimeException", "java/lang/Exception"]).filter goodWord)
def wsX6_finish_r1 : List Cond := [Cond.classLink RX6 95 "java/lang/IllegalStateException", Cond.initialized "java/lang/IllegalStateException", Cond.fieldLink RX6 39 "BoilerLog" "tasks" "[I", Cond.fieldLink RX6 45 "BoilerLog" "log" "LBoilerLog$Log;", Cond.fieldLink RX6 56 "BoilerLog" "now" "I", Cond.methodLink RX6 110 yX6_checkPerson, Cond.static yX6_checkPerson, Cond.initialized RX6, Cond.code yX6_checkPerson cX6_checkPerson 1 none, Cond.classLink RX6 200 "java/lang/IndexOutOfBoundsException", Cond.initialized "java/lang/IndexOutOfBoundsException", Cond.methodLink RX6 240 yX6_checkThread, Cond.instanceMethod yX6_checkThread, Cond.selects RX6 yX6_checkThread yX6_checkThread, Cond.code yX6_checkThread cX6_checkThread 2 none, Cond.fieldLink RX6 66 "BoilerLog" "threads" "I", Cond.methodLink RX6 190 yX6_checkNotGone, Cond.instanceMethod yX6_checkNotGone, Cond.selects RX6 yX6_checkNotGone yX6_checkNotGone, Cond.code yX6_checkNotGone cX6_checkNotGone 2 none, Cond.fieldLink RX6 19 "BoilerLog" "gone" "[Z", Cond.instanceMethod yX2_note, Cond.initialized RX2, Cond.selects RX2 yX2_note yX2_note]
def wsX6_finish_r2 : List Cond := [Cond.code yX2_note cX2_note 5 none, Cond.fieldLink RX2 15 "BoilerLog$Log" "count" "I", Cond.fieldLink RX2 11 "BoilerLog$Log" "codes" "[I", Cond.methodLink RX2 19 yJ7_copyOf_59c91, Cond.static yJ7_copyOf_59c91, Cond.initialized RJ7, Cond.code yJ7_copyOf_59c91 cJ7_copyOf_59c91 3 (some (.array .int)), Cond.methodLink RJ7 316 ⟨"[I", "clone", "()Ljava/lang/Object;"⟩, Cond.sameMethod "[I" "java/lang/Object" "clone" "()Ljava/lang/Object;", Cond.native ⟨"java/lang/Object", "clone", "()Ljava/lang/Object;"⟩, Cond.instanceMethod ⟨"java/lang/Object", "clone", "()Ljava/lang/Object;"⟩, Cond.selects "[I" ⟨"[I", "clone", "()Ljava/lang/Object;"⟩ ⟨"java/lang/Object", "clone", "()Ljava/lang/Object;"⟩, Cond.classLink RJ7 317 "[I", Cond.arrayClass .int, Cond.methodLink RJ7 304 Lib.Math.min.name, Cond.static Lib.Math.min.name, Cond.initialized "java/lang/Math", Cond.code Lib.Math.min.name Lib.Math.min.code 2 (some .int), Cond.methodLink RJ7 150 arraycopyName, Cond.native arraycopyName, Cond.static arraycopyName, Cond.initialized "java/lang/System"]
def wsX6_finish : List Cond := .code yX6_finish cX6_finish 3 none :: ((wsX6_finish_r1 ++ wsX6_finish_r2) ++ wsX60 ++ wsX20 ++ (vx_atS RX6 99 "java/lang/IllegalStateException" ["java/lang/RuntimeException", "java/lang/Exception"]).filter goodWord ++ (vx_atS RX6 204 "java/lang/IndexOutOfBoundsException" ["java/lang/RuntimeException", "java/lang/Exception"]).filter goodWord)
def wsX6_taskOf : List Cond := .code yX6_taskOf cX6_taskOf 2 (some .int) :: ([.fieldLink RX6 39 "BoilerLog" "tasks" "[I", .methodLink RX6 240 yX6_checkThread, .instanceMethod yX6_checkThread, .selects RX6 yX6_checkThread yX6_checkThread, .initialized RX6, .code yX6_checkThread cX6_checkThread 2 none, .classLink RX6 200 "java/lang/IndexOutOfBoundsException", .initialized "java/lang/IndexOutOfBoundsException", .fieldLink RX6 66 "BoilerLog" "threads" "I"] ++ wsX60 ++ (vx_atS RX6 204 "java/lang/IndexOutOfBoundsException" ["java/lang/RuntimeException", "java/lang/Exception"]).filter goodWord)
def wsX6_messages : List Cond := .code yX6_messages cX6_messages 1 (some .int) :: ([.fieldLink RX6 36 "BoilerLog" "posted" "Ljava/util/ArrayList;", .methodLink RX6 142 yJx4a65c_size_8abf5, .instanceMethod yJx4a65c_size_8abf5, .selects RJx4a65c yJx4a65c_size_8abf5 yJx4a65c_size_8abf5, .initialized RJx4a65c, .code yJx4a65c_size_8abf5 cJx4a65c_size_8abf5 1 (some .int), .fieldLink RJx4a65c 48 "java/util/ArrayList" "size" "I"] ++ wsX60 ++ wsJx4a65c0)
def wsX6_checkMessage : List Cond := .code yX6_checkMessage cX6_checkMessage 2 none :: ([.classLink RX6 200 "java/lang/IndexOutOfBoundsException", .initialized "java/lang/IndexOutOfBoundsException", .fieldLink RX6 36 "BoilerLog" "posted" "Ljava/util/ArrayList;", .methodLink RX6 142 yJx4a65c_size_8abf5, .instanceMethod yJx4a65c_size_8abf5, .selects RJx4a65c yJx4a65c_size_8abf5 yJx4a65c_size_8abf5, .initialized RJx4a65c, .code yJx4a65c_size_8abf5 cJx4a65c_size_8abf5 1 (some .int), .fieldLink RJx4a65c 48 "java/util/ArrayList" "size" "I"] ++ wsX60 ++ wsJx4a65c0 ++ (vx_atS RX6 204 "java/lang/IndexOutOfBoundsException" ["java/lang/RuntimeException", "java/lang/Exception"]).filter goodWord)
def wsX6_signs_r1 : List Cond := [Cond.fieldLink RX6 36 "BoilerLog" "posted" "Ljava/util/ArrayList;", Cond.classLink RX6 245 "BoilerLog$Message", Cond.methodLink RX6 262 yX6_checkMessage, Cond.instanceMethod yX6_checkMessage, Cond.selects RX6 yX6_checkMessage yX6_checkMessage, Cond.initialized RX6, Cond.code yX6_checkMessage cX6_checkMessage 2 none, Cond.classLink RX6 200 "java/lang/IndexOutOfBoundsException", Cond.initialized "java/lang/IndexOutOfBoundsException", Cond.methodLink RX6 142 yJx4a65c_size_8abf5, Cond.instanceMethod yJx4a65c_size_8abf5, Cond.selects RJx4a65c yJx4a65c_size_8abf5 yJx4a65c_size_8abf5, Cond.initialized RJx4a65c, Cond.code yJx4a65c_size_8abf5 cJx4a65c_size_8abf5 1 (some .int), Cond.fieldLink RJx4a65c 48 "java/util/ArrayList" "size" "I", Cond.methodLink RX6 161 yJx4a65c_get_915e3, Cond.instanceMethod yJx4a65c_get_915e3, Cond.selects RJx4a65c yJx4a65c_get_915e3 yJx4a65c_get_915e3, Cond.code yJx4a65c_get_915e3 cJx4a65c_get_915e3 2 (some (.object "java/lang/Object")), Cond.methodLink RJx4a65c 118 yJ15_checkIndex_7cf53, Cond.static yJ15_checkIndex_7cf53, Cond.initialized RJ15, Cond.code yJ15_checkIndex_7cf53 cJ15_checkIndex_7cf53 2 (some .int), Cond.methodLink RJ15 105 yJ3_checkIndex_8e157]
def wsX6_signs_r2 : List Cond := [Cond.static yJ3_checkIndex_8e157, Cond.initialized RJ3, Cond.code yJ3_checkIndex_8e157 cJ3_checkIndex_8e157 3 (some .int), Cond.methodLink RJx4a65c 123 yJx4a65c_elementData_915e3, Cond.instanceMethod yJx4a65c_elementData_915e3, Cond.selects RJx4a65c yJx4a65c_elementData_915e3 yJx4a65c_elementData_915e3, Cond.code yJx4a65c_elementData_915e3 cJx4a65c_elementData_915e3 2 (some (.object "java/lang/Object")), Cond.fieldLink RJx4a65c 9 "java/util/ArrayList" "elementData" "[Ljava/lang/Object;", Cond.instanceMethod yX3_length, Cond.initialized RX3, Cond.selects RX3 yX3_length yX3_length, Cond.code yX3_length cX3_length 1 (some .int), Cond.fieldLink RX3 9 "BoilerLog$Message" "content" "[I"]
def wsX6_signs : List Cond := .code yX6_signs cX6_signs 2 (some .int) :: ((wsX6_signs_r1 ++ wsX6_signs_r2) ++ wsX60 ++ wsJx4a65c0 ++ wsX30 ++ (vx_atS RX6 204 "java/lang/IndexOutOfBoundsException" ["java/lang/RuntimeException", "java/lang/Exception"]).filter goodWord)
def wsX6_checkPlace : List Cond := .code yX6_checkPlace cX6_checkPlace 1 none :: ([.classLink RX6 200 "java/lang/IndexOutOfBoundsException", .initialized "java/lang/IndexOutOfBoundsException"] ++ (vx_atS RX6 204 "java/lang/IndexOutOfBoundsException" ["java/lang/RuntimeException", "java/lang/Exception"]).filter goodWord)
def wsX6_signAt_r1 : List Cond := [Cond.fieldLink RX6 36 "BoilerLog" "posted" "Ljava/util/ArrayList;", Cond.classLink RX6 245 "BoilerLog$Message", Cond.methodLink RX6 262 yX6_checkMessage, Cond.instanceMethod yX6_checkMessage, Cond.selects RX6 yX6_checkMessage yX6_checkMessage, Cond.initialized RX6, Cond.code yX6_checkMessage cX6_checkMessage 2 none, Cond.classLink RX6 200 "java/lang/IndexOutOfBoundsException", Cond.initialized "java/lang/IndexOutOfBoundsException", Cond.methodLink RX6 142 yJx4a65c_size_8abf5, Cond.instanceMethod yJx4a65c_size_8abf5, Cond.selects RJx4a65c yJx4a65c_size_8abf5 yJx4a65c_size_8abf5, Cond.initialized RJx4a65c, Cond.code yJx4a65c_size_8abf5 cJx4a65c_size_8abf5 1 (some .int), Cond.fieldLink RJx4a65c 48 "java/util/ArrayList" "size" "I", Cond.methodLink RX6 266 yX6_checkPlace, Cond.static yX6_checkPlace, Cond.code yX6_checkPlace cX6_checkPlace 1 none, Cond.methodLink RX6 161 yJx4a65c_get_915e3, Cond.instanceMethod yJx4a65c_get_915e3, Cond.selects RJx4a65c yJx4a65c_get_915e3 yJx4a65c_get_915e3, Cond.code yJx4a65c_get_915e3 cJx4a65c_get_915e3 2 (some (.object "java/lang/Object")), Cond.methodLink RJx4a65c 118 yJ15_checkIndex_7cf53, Cond.static yJ15_checkIndex_7cf53]
def wsX6_signAt_r2 : List Cond := [Cond.initialized RJ15, Cond.code yJ15_checkIndex_7cf53 cJ15_checkIndex_7cf53 2 (some .int), Cond.methodLink RJ15 105 yJ3_checkIndex_8e157, Cond.static yJ3_checkIndex_8e157, Cond.initialized RJ3, Cond.code yJ3_checkIndex_8e157 cJ3_checkIndex_8e157 3 (some .int), Cond.methodLink RJx4a65c 123 yJx4a65c_elementData_915e3, Cond.instanceMethod yJx4a65c_elementData_915e3, Cond.selects RJx4a65c yJx4a65c_elementData_915e3 yJx4a65c_elementData_915e3, Cond.code yJx4a65c_elementData_915e3 cJx4a65c_elementData_915e3 2 (some (.object "java/lang/Object")), Cond.fieldLink RJx4a65c 9 "java/util/ArrayList" "elementData" "[Ljava/lang/Object;", Cond.instanceMethod yX3_get, Cond.initialized RX3, Cond.selects RX3 yX3_get yX3_get, Cond.code yX3_get cX3_get 2 (some .int), Cond.fieldLink RX3 9 "BoilerLog$Message" "content" "[I"]
def wsX6_signAt : List Cond := .code yX6_signAt cX6_signAt 3 (some .int) :: ((wsX6_signAt_r1 ++ wsX6_signAt_r2) ++ wsX60 ++ wsJx4a65c0 ++ wsX30 ++ (vx_atS RX6 204 "java/lang/IndexOutOfBoundsException" ["java/lang/RuntimeException", "java/lang/Exception"]).filter goodWord)
def wsX6_signBack_r1 : List Cond := [Cond.fieldLink RX6 36 "BoilerLog" "posted" "Ljava/util/ArrayList;", Cond.classLink RX6 245 "BoilerLog$Message", Cond.methodLink RX6 262 yX6_checkMessage, Cond.instanceMethod yX6_checkMessage, Cond.selects RX6 yX6_checkMessage yX6_checkMessage, Cond.initialized RX6, Cond.code yX6_checkMessage cX6_checkMessage 2 none, Cond.classLink RX6 200 "java/lang/IndexOutOfBoundsException", Cond.initialized "java/lang/IndexOutOfBoundsException", Cond.methodLink RX6 142 yJx4a65c_size_8abf5, Cond.instanceMethod yJx4a65c_size_8abf5, Cond.selects RJx4a65c yJx4a65c_size_8abf5 yJx4a65c_size_8abf5, Cond.initialized RJx4a65c, Cond.code yJx4a65c_size_8abf5 cJx4a65c_size_8abf5 1 (some .int), Cond.fieldLink RJx4a65c 48 "java/util/ArrayList" "size" "I", Cond.methodLink RX6 266 yX6_checkPlace, Cond.static yX6_checkPlace, Cond.code yX6_checkPlace cX6_checkPlace 1 none, Cond.methodLink RX6 161 yJx4a65c_get_915e3, Cond.instanceMethod yJx4a65c_get_915e3, Cond.selects RJx4a65c yJx4a65c_get_915e3 yJx4a65c_get_915e3, Cond.code yJx4a65c_get_915e3 cJx4a65c_get_915e3 2 (some (.object "java/lang/Object")), Cond.methodLink RJx4a65c 118 yJ15_checkIndex_7cf53, Cond.static yJ15_checkIndex_7cf53]
def wsX6_signBack_r2 : List Cond := [Cond.initialized RJ15, Cond.code yJ15_checkIndex_7cf53 cJ15_checkIndex_7cf53 2 (some .int), Cond.methodLink RJ15 105 yJ3_checkIndex_8e157, Cond.static yJ3_checkIndex_8e157, Cond.initialized RJ3, Cond.code yJ3_checkIndex_8e157 cJ3_checkIndex_8e157 3 (some .int), Cond.methodLink RJx4a65c 123 yJx4a65c_elementData_915e3, Cond.instanceMethod yJx4a65c_elementData_915e3, Cond.selects RJx4a65c yJx4a65c_elementData_915e3 yJx4a65c_elementData_915e3, Cond.code yJx4a65c_elementData_915e3 cJx4a65c_elementData_915e3 2 (some (.object "java/lang/Object")), Cond.fieldLink RJx4a65c 9 "java/util/ArrayList" "elementData" "[Ljava/lang/Object;", Cond.instanceMethod yX3_length, Cond.initialized RX3, Cond.selects RX3 yX3_length yX3_length, Cond.code yX3_length cX3_length 1 (some .int), Cond.fieldLink RX3 9 "BoilerLog$Message" "content" "[I", Cond.instanceMethod yX3_get, Cond.selects RX3 yX3_get yX3_get, Cond.code yX3_get cX3_get 2 (some .int)]
def wsX6_signBack : List Cond := .code yX6_signBack cX6_signBack 4 (some .int) :: ((wsX6_signBack_r1 ++ wsX6_signBack_r2) ++ wsX60 ++ wsJx4a65c0 ++ wsX30 ++ (vx_atS RX6 204 "java/lang/IndexOutOfBoundsException" ["java/lang/RuntimeException", "java/lang/Exception"]).filter goodWord)
def wsX7_init_r1 : List Cond := [Cond.methodLink RX7 1 objectInit, Cond.instanceMethod objectInit, Cond.code objectInit ⟨#[0xb1]⟩ 1 none, Cond.arrayClass .long, Cond.fieldLink RX7 7 "BoilerLogModel" "entry" "[J", Cond.arrayClass .int, Cond.fieldLink RX7 13 "BoilerLogModel" "hasRead" "[I", Cond.arrayClass .boolean, Cond.fieldLink RX7 17 "BoilerLogModel" "hasLeft" "[Z", Cond.fieldLink RX7 21 "BoilerLogModel" "isOpen" "[Z", Cond.fieldLink RX7 24 "BoilerLogModel" "from" "[I", Cond.fieldLink RX7 27 "BoilerLogModel" "to" "[I", Cond.fieldLink RX7 30 "BoilerLogModel" "level" "[I", Cond.fieldLink RX7 33 "BoilerLogModel" "hangsOn" "[I", Cond.fieldLink RX7 36 "BoilerLogModel" "owner" "[I", Cond.fieldLink RX7 39 "BoilerLogModel" "asked" "[I", Cond.fieldLink RX7 42 "BoilerLogModel" "watched" "[I", Cond.fieldLink RX7 45 "BoilerLogModel" "limit" "[I", Cond.fieldLink RX7 48 "BoilerLogModel" "isHigh" "[Z", Cond.fieldLink RX7 51 "BoilerLogModel" "turns" "[I", Cond.fieldLink RX7 54 "BoilerLogModel" "opens" "[Z", Cond.fieldLink RX7 57 "BoilerLogModel" "state" "[I", Cond.arrayClass .char, Cond.fieldLink RX7 60 "BoilerLogModel" "text" "[C"]
def wsX7_init_r2 : List Cond := [Cond.fieldLink RX7 64 "BoilerLogModel" "many" "[I", Cond.fieldLink RX7 67 "BoilerLogModel" "said" "[C", Cond.fieldLink RX7 70 "BoilerLogModel" "task" "[I", Cond.fieldLink RX7 73 "BoilerLogModel" "sign" "[I"]
def wsX7_init : List Cond := .code yX7_init cX7_init 1 none :: ((wsX7_init_r1 ++ wsX7_init_r2) ++ wsX70)
def wsX7_thrown : List Cond := .code yX7_thrown cX7_thrown 1 (some .int) :: ([.fieldLink RX7 76 "BoilerLogModel" "thrown" "I"] ++ wsX70)
def wsX7_in : List Cond := .code yX7_in cX7_in 3 (some .boolean) :: ([])
def wsX7_isPerson : List Cond := .code yX7_isPerson cX7_isPerson 1 (some .boolean) :: ([.methodLink RX7 80 yX7_in, .static yX7_in, .initialized RX7, .code yX7_in cX7_in 3 (some .boolean)])
def wsX7_isValve : List Cond := .code yX7_isValve cX7_isValve 1 (some .boolean) :: ([.methodLink RX7 80 yX7_in, .static yX7_in, .initialized RX7, .code yX7_in cX7_in 3 (some .boolean)])
def wsX7_isVessel : List Cond := .code yX7_isVessel cX7_isVessel 1 (some .boolean) :: ([.methodLink RX7 80 yX7_in, .static yX7_in, .initialized RX7, .code yX7_in cX7_in 3 (some .boolean)])
def wsX7_isTag : List Cond := .code yX7_isTag cX7_isTag 2 (some .boolean) :: ([.fieldLink RX7 84 "BoilerLogModel" "tags" "I", .methodLink RX7 80 yX7_in, .static yX7_in, .initialized RX7, .code yX7_in cX7_in 3 (some .boolean)] ++ wsX70)
def wsX7_notes : List Cond := .code yX7_notes cX7_notes 7 none :: ([.constantLong RX7 87 (10000), .fieldLink RX7 89 "BoilerLogModel" "hour" "I", .fieldLink RX7 92 "BoilerLogModel" "entries" "I", .fieldLink RX7 7 "BoilerLogModel" "entry" "[J"] ++ wsX70)
def wsX7_isOnDuty : List Cond := .code yX7_isOnDuty cX7_isOnDuty 2 (some .boolean) :: ([.fieldLink RX7 17 "BoilerLogModel" "hasLeft" "[Z", .fieldLink RX7 89 "BoilerLogModel" "hour" "I"] ++ wsX70)
def wsX7_may : List Cond := .code yX7_may cX7_may 2 (some .boolean) :: ([.fieldLink RX7 13 "BoilerLogModel" "hasRead" "[I", .fieldLink RX7 99 "BoilerLogModel" "atShift" "I", .methodLink RX7 95 yX7_isOnDuty, .instanceMethod yX7_isOnDuty, .selects RX7 yX7_isOnDuty yX7_isOnDuty, .initialized RX7, .code yX7_isOnDuty cX7_isOnDuty 2 (some .boolean), .fieldLink RX7 17 "BoilerLogModel" "hasLeft" "[Z", .fieldLink RX7 89 "BoilerLogModel" "hour" "I"] ++ wsX70)
def wsX7_tagsOn : List Cond := .code yX7_tagsOn cX7_tagsOn 4 (some .int) :: ([.fieldLink RX7 84 "BoilerLogModel" "tags" "I", .fieldLink RX7 33 "BoilerLogModel" "hangsOn" "[I"] ++ wsX70)
def wsX7_isBarred : List Cond := .code yX7_isBarred cX7_isBarred 5 (some .boolean) :: ([.fieldLink RX7 84 "BoilerLogModel" "tags" "I", .fieldLink RX7 33 "BoilerLogModel" "hangsOn" "[I", .fieldLink RX7 36 "BoilerLogModel" "owner" "[I"] ++ wsX70)
def wsX7_turnsTo : List Cond := .code yX7_turnsTo cX7_turnsTo 4 (some .boolean) :: ([.fieldLink RX7 21 "BoilerLogModel" "isOpen" "[Z", .methodLink RX7 102 yX7_notes, .instanceMethod yX7_notes, .selects RX7 yX7_notes yX7_notes, .initialized RX7, .code yX7_notes cX7_notes 7 none, .constantLong RX7 87 (10000), .fieldLink RX7 89 "BoilerLogModel" "hour" "I", .fieldLink RX7 92 "BoilerLogModel" "entries" "I", .fieldLink RX7 7 "BoilerLogModel" "entry" "[J"] ++ wsX70)
def wsX7_pipe : List Cond := .code yX7_pipe cX7_pipe 5 (some .int) :: ([.fieldLink RX7 21 "BoilerLogModel" "isOpen" "[Z", .fieldLink RX7 76 "BoilerLogModel" "thrown" "I", .fieldLink RX7 24 "BoilerLogModel" "from" "[I", .fieldLink RX7 27 "BoilerLogModel" "to" "[I", .methodLink RX7 80 yX7_in, .static yX7_in, .initialized RX7, .code yX7_in cX7_in 3 (some .boolean), .methodLink RX7 106 yX7_isValve, .static yX7_isValve, .code yX7_isValve cX7_isValve 1 (some .boolean), .methodLink RX7 109 yX7_tagsOn, .instanceMethod yX7_tagsOn, .selects RX7 yX7_tagsOn yX7_tagsOn, .code yX7_tagsOn cX7_tagsOn 4 (some .int), .fieldLink RX7 84 "BoilerLogModel" "tags" "I", .fieldLink RX7 33 "BoilerLogModel" "hangsOn" "[I"] ++ wsX70)
def wsX7_bars : List Cond := .code yX7_bars cX7_bars 3 (some .int) :: ([.methodLink RX7 95 yX7_isOnDuty, .instanceMethod yX7_isOnDuty, .selects RX7 yX7_isOnDuty yX7_isOnDuty, .initialized RX7, .code yX7_isOnDuty cX7_isOnDuty 2 (some .boolean), .fieldLink RX7 17 "BoilerLogModel" "hasLeft" "[Z", .fieldLink RX7 89 "BoilerLogModel" "hour" "I", .methodLink RX7 113 yX7_may, .instanceMethod yX7_may, .selects RX7 yX7_may yX7_may, .code yX7_may cX7_may 2 (some .boolean), .fieldLink RX7 13 "BoilerLogModel" "hasRead" "[I", .fieldLink RX7 99 "BoilerLogModel" "atShift" "I", .methodLink RX7 116 yX7_isBarred, .instanceMethod yX7_isBarred, .selects RX7 yX7_isBarred yX7_isBarred, .code yX7_isBarred cX7_isBarred 5 (some .boolean), .fieldLink RX7 84 "BoilerLogModel" "tags" "I", .fieldLink RX7 33 "BoilerLogModel" "hangsOn" "[I", .fieldLink RX7 36 "BoilerLogModel" "owner" "[I"] ++ wsX70)
def wsX7_turn_r1 : List Cond := [Cond.fieldLink RX7 76 "BoilerLogModel" "thrown" "I", Cond.methodLink RX7 120 yX7_isPerson, Cond.static yX7_isPerson, Cond.initialized RX7, Cond.code yX7_isPerson cX7_isPerson 1 (some .boolean), Cond.methodLink RX7 80 yX7_in, Cond.static yX7_in, Cond.code yX7_in cX7_in 3 (some .boolean), Cond.methodLink RX7 106 yX7_isValve, Cond.static yX7_isValve, Cond.code yX7_isValve cX7_isValve 1 (some .boolean), Cond.methodLink RX7 123 yX7_bars, Cond.instanceMethod yX7_bars, Cond.selects RX7 yX7_bars yX7_bars, Cond.code yX7_bars cX7_bars 3 (some .int), Cond.methodLink RX7 95 yX7_isOnDuty, Cond.instanceMethod yX7_isOnDuty, Cond.selects RX7 yX7_isOnDuty yX7_isOnDuty, Cond.code yX7_isOnDuty cX7_isOnDuty 2 (some .boolean), Cond.fieldLink RX7 17 "BoilerLogModel" "hasLeft" "[Z", Cond.fieldLink RX7 89 "BoilerLogModel" "hour" "I", Cond.methodLink RX7 113 yX7_may, Cond.instanceMethod yX7_may, Cond.selects RX7 yX7_may yX7_may]
def wsX7_turn_r2 : List Cond := [Cond.code yX7_may cX7_may 2 (some .boolean), Cond.fieldLink RX7 13 "BoilerLogModel" "hasRead" "[I", Cond.fieldLink RX7 99 "BoilerLogModel" "atShift" "I", Cond.methodLink RX7 116 yX7_isBarred, Cond.instanceMethod yX7_isBarred, Cond.selects RX7 yX7_isBarred yX7_isBarred, Cond.code yX7_isBarred cX7_isBarred 5 (some .boolean), Cond.fieldLink RX7 84 "BoilerLogModel" "tags" "I", Cond.fieldLink RX7 33 "BoilerLogModel" "hangsOn" "[I", Cond.fieldLink RX7 36 "BoilerLogModel" "owner" "[I", Cond.methodLink RX7 127 yX7_turnsTo, Cond.instanceMethod yX7_turnsTo, Cond.selects RX7 yX7_turnsTo yX7_turnsTo, Cond.code yX7_turnsTo cX7_turnsTo 4 (some .boolean), Cond.fieldLink RX7 21 "BoilerLogModel" "isOpen" "[Z", Cond.methodLink RX7 102 yX7_notes, Cond.instanceMethod yX7_notes, Cond.selects RX7 yX7_notes yX7_notes, Cond.code yX7_notes cX7_notes 7 none, Cond.constantLong RX7 87 (10000), Cond.fieldLink RX7 92 "BoilerLogModel" "entries" "I", Cond.fieldLink RX7 7 "BoilerLogModel" "entry" "[J"]
def wsX7_turn : List Cond := .code yX7_turn cX7_turn 4 (some .boolean) :: ((wsX7_turn_r1 ++ wsX7_turn_r2) ++ wsX70)
def wsX7_obstacle_r1 : List Cond := [Cond.fieldLink RX7 76 "BoilerLogModel" "thrown" "I", Cond.methodLink RX7 120 yX7_isPerson, Cond.static yX7_isPerson, Cond.initialized RX7, Cond.code yX7_isPerson cX7_isPerson 1 (some .boolean), Cond.methodLink RX7 80 yX7_in, Cond.static yX7_in, Cond.code yX7_in cX7_in 3 (some .boolean), Cond.methodLink RX7 106 yX7_isValve, Cond.static yX7_isValve, Cond.code yX7_isValve cX7_isValve 1 (some .boolean), Cond.methodLink RX7 123 yX7_bars, Cond.instanceMethod yX7_bars, Cond.selects RX7 yX7_bars yX7_bars, Cond.code yX7_bars cX7_bars 3 (some .int), Cond.methodLink RX7 95 yX7_isOnDuty, Cond.instanceMethod yX7_isOnDuty, Cond.selects RX7 yX7_isOnDuty yX7_isOnDuty, Cond.code yX7_isOnDuty cX7_isOnDuty 2 (some .boolean), Cond.fieldLink RX7 17 "BoilerLogModel" "hasLeft" "[Z", Cond.fieldLink RX7 89 "BoilerLogModel" "hour" "I", Cond.methodLink RX7 113 yX7_may, Cond.instanceMethod yX7_may, Cond.selects RX7 yX7_may yX7_may]
def wsX7_obstacle_r2 : List Cond := [Cond.code yX7_may cX7_may 2 (some .boolean), Cond.fieldLink RX7 13 "BoilerLogModel" "hasRead" "[I", Cond.fieldLink RX7 99 "BoilerLogModel" "atShift" "I", Cond.methodLink RX7 116 yX7_isBarred, Cond.instanceMethod yX7_isBarred, Cond.selects RX7 yX7_isBarred yX7_isBarred, Cond.code yX7_isBarred cX7_isBarred 5 (some .boolean), Cond.fieldLink RX7 84 "BoilerLogModel" "tags" "I", Cond.fieldLink RX7 33 "BoilerLogModel" "hangsOn" "[I", Cond.fieldLink RX7 36 "BoilerLogModel" "owner" "[I"]
def wsX7_obstacle : List Cond := .code yX7_obstacle cX7_obstacle 3 (some .int) :: ((wsX7_obstacle_r1 ++ wsX7_obstacle_r2) ++ wsX70)
def wsX7_isOpen : List Cond := .code yX7_isOpen cX7_isOpen 2 (some .boolean) :: ([.fieldLink RX7 76 "BoilerLogModel" "thrown" "I", .fieldLink RX7 21 "BoilerLogModel" "isOpen" "[Z", .methodLink RX7 106 yX7_isValve, .static yX7_isValve, .initialized RX7, .code yX7_isValve cX7_isValve 1 (some .boolean), .methodLink RX7 80 yX7_in, .static yX7_in, .code yX7_in cX7_in 3 (some .boolean)] ++ wsX70)
def wsX7_isOpenByLog : List Cond := .code yX7_isOpenByLog cX7_isOpenByLog 2 (some .boolean) :: ([.fieldLink RX7 76 "BoilerLogModel" "thrown" "I", .fieldLink RX7 21 "BoilerLogModel" "isOpen" "[Z", .methodLink RX7 106 yX7_isValve, .static yX7_isValve, .initialized RX7, .code yX7_isValve cX7_isValve 1 (some .boolean), .methodLink RX7 80 yX7_in, .static yX7_in, .code yX7_in cX7_in 3 (some .boolean)] ++ wsX70)
def wsX7_level : List Cond := .code yX7_level cX7_level 2 (some .int) :: ([.fieldLink RX7 76 "BoilerLogModel" "thrown" "I", .fieldLink RX7 30 "BoilerLogModel" "level" "[I", .methodLink RX7 131 yX7_isVessel, .static yX7_isVessel, .initialized RX7, .code yX7_isVessel cX7_isVessel 1 (some .boolean), .methodLink RX7 80 yX7_in, .static yX7_in, .code yX7_in cX7_in 3 (some .boolean)] ++ wsX70)
def wsX7_spilled : List Cond := .code yX7_spilled cX7_spilled 1 (some .int) :: ([.fieldLink RX7 76 "BoilerLogModel" "thrown" "I", .fieldLink RX7 134 "BoilerLogModel" "spilled" "I"] ++ wsX70)
def wsX7_hang_r1 : List Cond := [Cond.fieldLink RX7 84 "BoilerLogModel" "tags" "I", Cond.fieldLink RX7 76 "BoilerLogModel" "thrown" "I", Cond.fieldLink RX7 33 "BoilerLogModel" "hangsOn" "[I", Cond.fieldLink RX7 36 "BoilerLogModel" "owner" "[I", Cond.fieldLink RX7 39 "BoilerLogModel" "asked" "[I", Cond.methodLink RX7 120 yX7_isPerson, Cond.static yX7_isPerson, Cond.initialized RX7, Cond.code yX7_isPerson cX7_isPerson 1 (some .boolean), Cond.methodLink RX7 80 yX7_in, Cond.static yX7_in, Cond.code yX7_in cX7_in 3 (some .boolean), Cond.methodLink RX7 106 yX7_isValve, Cond.static yX7_isValve, Cond.code yX7_isValve cX7_isValve 1 (some .boolean), Cond.methodLink RX7 113 yX7_may, Cond.instanceMethod yX7_may, Cond.selects RX7 yX7_may yX7_may, Cond.code yX7_may cX7_may 2 (some .boolean), Cond.fieldLink RX7 13 "BoilerLogModel" "hasRead" "[I", Cond.fieldLink RX7 99 "BoilerLogModel" "atShift" "I", Cond.methodLink RX7 95 yX7_isOnDuty, Cond.instanceMethod yX7_isOnDuty, Cond.selects RX7 yX7_isOnDuty yX7_isOnDuty]
def wsX7_hang_r2 : List Cond := [Cond.code yX7_isOnDuty cX7_isOnDuty 2 (some .boolean), Cond.fieldLink RX7 17 "BoilerLogModel" "hasLeft" "[Z", Cond.fieldLink RX7 89 "BoilerLogModel" "hour" "I", Cond.methodLink RX7 102 yX7_notes, Cond.instanceMethod yX7_notes, Cond.selects RX7 yX7_notes yX7_notes, Cond.code yX7_notes cX7_notes 7 none, Cond.constantLong RX7 87 (10000), Cond.fieldLink RX7 92 "BoilerLogModel" "entries" "I", Cond.fieldLink RX7 7 "BoilerLogModel" "entry" "[J"]
def wsX7_hang : List Cond := .code yX7_hang cX7_hang 3 (some .int) :: ((wsX7_hang_r1 ++ wsX7_hang_r2) ++ wsX70)
def wsX7_takeOff_r1 : List Cond := [Cond.fieldLink RX7 76 "BoilerLogModel" "thrown" "I", Cond.fieldLink RX7 33 "BoilerLogModel" "hangsOn" "[I", Cond.fieldLink RX7 36 "BoilerLogModel" "owner" "[I", Cond.fieldLink RX7 17 "BoilerLogModel" "hasLeft" "[Z", Cond.fieldLink RX7 39 "BoilerLogModel" "asked" "[I", Cond.methodLink RX7 120 yX7_isPerson, Cond.static yX7_isPerson, Cond.initialized RX7, Cond.code yX7_isPerson cX7_isPerson 1 (some .boolean), Cond.methodLink RX7 80 yX7_in, Cond.static yX7_in, Cond.code yX7_in cX7_in 3 (some .boolean), Cond.methodLink RX7 137 yX7_isTag, Cond.instanceMethod yX7_isTag, Cond.selects RX7 yX7_isTag yX7_isTag, Cond.code yX7_isTag cX7_isTag 2 (some .boolean), Cond.fieldLink RX7 84 "BoilerLogModel" "tags" "I", Cond.methodLink RX7 113 yX7_may, Cond.instanceMethod yX7_may, Cond.selects RX7 yX7_may yX7_may, Cond.code yX7_may cX7_may 2 (some .boolean), Cond.fieldLink RX7 13 "BoilerLogModel" "hasRead" "[I", Cond.fieldLink RX7 99 "BoilerLogModel" "atShift" "I", Cond.methodLink RX7 95 yX7_isOnDuty]
def wsX7_takeOff_r2 : List Cond := [Cond.instanceMethod yX7_isOnDuty, Cond.selects RX7 yX7_isOnDuty yX7_isOnDuty, Cond.code yX7_isOnDuty cX7_isOnDuty 2 (some .boolean), Cond.fieldLink RX7 89 "BoilerLogModel" "hour" "I", Cond.methodLink RX7 102 yX7_notes, Cond.instanceMethod yX7_notes, Cond.selects RX7 yX7_notes yX7_notes, Cond.code yX7_notes cX7_notes 7 none, Cond.constantLong RX7 87 (10000), Cond.fieldLink RX7 92 "BoilerLogModel" "entries" "I", Cond.fieldLink RX7 7 "BoilerLogModel" "entry" "[J"]
def wsX7_takeOff : List Cond := .code yX7_takeOff cX7_takeOff 4 (some .boolean) :: ((wsX7_takeOff_r1 ++ wsX7_takeOff_r2) ++ wsX70)
def wsX7_valveOf : List Cond := .code yX7_valveOf cX7_valveOf 2 (some .int) :: ([.fieldLink RX7 76 "BoilerLogModel" "thrown" "I", .fieldLink RX7 33 "BoilerLogModel" "hangsOn" "[I", .methodLink RX7 137 yX7_isTag, .instanceMethod yX7_isTag, .selects RX7 yX7_isTag yX7_isTag, .initialized RX7, .code yX7_isTag cX7_isTag 2 (some .boolean), .fieldLink RX7 84 "BoilerLogModel" "tags" "I", .methodLink RX7 80 yX7_in, .static yX7_in, .code yX7_in cX7_in 3 (some .boolean)] ++ wsX70)
def wsX7_ownerOf : List Cond := .code yX7_ownerOf cX7_ownerOf 2 (some .int) :: ([.fieldLink RX7 76 "BoilerLogModel" "thrown" "I", .fieldLink RX7 36 "BoilerLogModel" "owner" "[I", .methodLink RX7 137 yX7_isTag, .instanceMethod yX7_isTag, .selects RX7 yX7_isTag yX7_isTag, .initialized RX7, .code yX7_isTag cX7_isTag 2 (some .boolean), .fieldLink RX7 84 "BoilerLogModel" "tags" "I", .methodLink RX7 80 yX7_in, .static yX7_in, .code yX7_in cX7_in 3 (some .boolean)] ++ wsX70)
def wsX7_tagsByLog : List Cond := .code yX7_tagsByLog cX7_tagsByLog 2 (some .int) :: ([.fieldLink RX7 76 "BoilerLogModel" "thrown" "I", .methodLink RX7 106 yX7_isValve, .static yX7_isValve, .initialized RX7, .code yX7_isValve cX7_isValve 1 (some .boolean), .methodLink RX7 80 yX7_in, .static yX7_in, .code yX7_in cX7_in 3 (some .boolean), .methodLink RX7 109 yX7_tagsOn, .instanceMethod yX7_tagsOn, .selects RX7 yX7_tagsOn yX7_tagsOn, .code yX7_tagsOn cX7_tagsOn 4 (some .int), .fieldLink RX7 84 "BoilerLogModel" "tags" "I", .fieldLink RX7 33 "BoilerLogModel" "hangsOn" "[I"] ++ wsX70)
def wsX7_read : List Cond := .code yX7_read cX7_read 3 (some .int) :: ([.fieldLink RX7 17 "BoilerLogModel" "hasLeft" "[Z", .fieldLink RX7 76 "BoilerLogModel" "thrown" "I", .fieldLink RX7 92 "BoilerLogModel" "entries" "I", .fieldLink RX7 13 "BoilerLogModel" "hasRead" "[I", .methodLink RX7 120 yX7_isPerson, .static yX7_isPerson, .initialized RX7, .code yX7_isPerson cX7_isPerson 1 (some .boolean), .methodLink RX7 80 yX7_in, .static yX7_in, .code yX7_in cX7_in 3 (some .boolean)] ++ wsX70)
def wsX7_leave : List Cond := .code yX7_leave cX7_leave 4 (some .int) :: ([.fieldLink RX7 17 "BoilerLogModel" "hasLeft" "[Z", .fieldLink RX7 76 "BoilerLogModel" "thrown" "I", .fieldLink RX7 84 "BoilerLogModel" "tags" "I", .fieldLink RX7 33 "BoilerLogModel" "hangsOn" "[I", .fieldLink RX7 36 "BoilerLogModel" "owner" "[I", .methodLink RX7 120 yX7_isPerson, .static yX7_isPerson, .initialized RX7, .code yX7_isPerson cX7_isPerson 1 (some .boolean), .methodLink RX7 80 yX7_in, .static yX7_in, .code yX7_in cX7_in 3 (some .boolean), .methodLink RX7 102 yX7_notes, .instanceMethod yX7_notes, .selects RX7 yX7_notes yX7_notes, .code yX7_notes cX7_notes 7 none, .constantLong RX7 87 (10000), .fieldLink RX7 89 "BoilerLogModel" "hour" "I", .fieldLink RX7 92 "BoilerLogModel" "entries" "I", .fieldLink RX7 7 "BoilerLogModel" "entry" "[J"] ++ wsX70)
def wsX7_canAct : List Cond := .code yX7_canAct cX7_canAct 2 (some .boolean) :: ([.fieldLink RX7 76 "BoilerLogModel" "thrown" "I", .methodLink RX7 120 yX7_isPerson, .static yX7_isPerson, .initialized RX7, .code yX7_isPerson cX7_isPerson 1 (some .boolean), .methodLink RX7 80 yX7_in, .static yX7_in, .code yX7_in cX7_in 3 (some .boolean), .methodLink RX7 113 yX7_may, .instanceMethod yX7_may, .selects RX7 yX7_may yX7_may, .code yX7_may cX7_may 2 (some .boolean), .fieldLink RX7 13 "BoilerLogModel" "hasRead" "[I", .fieldLink RX7 99 "BoilerLogModel" "atShift" "I", .methodLink RX7 95 yX7_isOnDuty, .instanceMethod yX7_isOnDuty, .selects RX7 yX7_isOnDuty yX7_isOnDuty, .code yX7_isOnDuty cX7_isOnDuty 2 (some .boolean), .fieldLink RX7 17 "BoilerLogModel" "hasLeft" "[Z", .fieldLink RX7 89 "BoilerLogModel" "hour" "I"] ++ wsX70)
def wsX7_leads : List Cond := .code yX7_leads cX7_leads 4 none :: ([.fieldLink RX7 24 "BoilerLogModel" "from" "[I", .fieldLink RX7 30 "BoilerLogModel" "level" "[I", .fieldLink RX7 27 "BoilerLogModel" "to" "[I", .fieldLink RX7 134 "BoilerLogModel" "spilled" "I"] ++ wsX70)
def wsX7_watches_r1 : List Cond := [Cond.fieldLink RX7 30 "BoilerLogModel" "level" "[I", Cond.fieldLink RX7 42 "BoilerLogModel" "watched" "[I", Cond.fieldLink RX7 48 "BoilerLogModel" "isHigh" "[Z", Cond.fieldLink RX7 45 "BoilerLogModel" "limit" "[I", Cond.fieldLink RX7 57 "BoilerLogModel" "state" "[I", Cond.fieldLink RX7 51 "BoilerLogModel" "turns" "[I", Cond.fieldLink RX7 54 "BoilerLogModel" "opens" "[Z", Cond.methodLink RX7 102 yX7_notes, Cond.instanceMethod yX7_notes, Cond.selects RX7 yX7_notes yX7_notes, Cond.initialized RX7, Cond.code yX7_notes cX7_notes 7 none, Cond.constantLong RX7 87 (10000), Cond.fieldLink RX7 89 "BoilerLogModel" "hour" "I", Cond.fieldLink RX7 92 "BoilerLogModel" "entries" "I", Cond.fieldLink RX7 7 "BoilerLogModel" "entry" "[J", Cond.methodLink RX7 109 yX7_tagsOn, Cond.instanceMethod yX7_tagsOn, Cond.selects RX7 yX7_tagsOn yX7_tagsOn, Cond.code yX7_tagsOn cX7_tagsOn 4 (some .int), Cond.fieldLink RX7 84 "BoilerLogModel" "tags" "I", Cond.fieldLink RX7 33 "BoilerLogModel" "hangsOn" "[I", Cond.methodLink RX7 127 yX7_turnsTo, Cond.instanceMethod yX7_turnsTo]
def wsX7_watches_r2 : List Cond := [Cond.selects RX7 yX7_turnsTo yX7_turnsTo, Cond.code yX7_turnsTo cX7_turnsTo 4 (some .boolean), Cond.fieldLink RX7 21 "BoilerLogModel" "isOpen" "[Z"]
def wsX7_watches : List Cond := .code yX7_watches cX7_watches 4 none :: ((wsX7_watches_r1 ++ wsX7_watches_r2) ++ wsX70)
def wsX7_ends_r1 : List Cond := [Cond.fieldLink RX7 21 "BoilerLogModel" "isOpen" "[Z", Cond.fieldLink RX7 144 "BoilerLogModel" "alarms" "I", Cond.fieldLink RX7 89 "BoilerLogModel" "hour" "I", Cond.fieldLink RX7 92 "BoilerLogModel" "entries" "I", Cond.fieldLink RX7 99 "BoilerLogModel" "atShift" "I", Cond.methodLink RX7 140 yX7_leads, Cond.instanceMethod yX7_leads, Cond.selects RX7 yX7_leads yX7_leads, Cond.initialized RX7, Cond.code yX7_leads cX7_leads 4 none, Cond.fieldLink RX7 24 "BoilerLogModel" "from" "[I", Cond.fieldLink RX7 30 "BoilerLogModel" "level" "[I", Cond.fieldLink RX7 27 "BoilerLogModel" "to" "[I", Cond.fieldLink RX7 134 "BoilerLogModel" "spilled" "I", Cond.methodLink RX7 147 yX7_watches, Cond.instanceMethod yX7_watches, Cond.selects RX7 yX7_watches yX7_watches, Cond.code yX7_watches cX7_watches 4 none, Cond.fieldLink RX7 42 "BoilerLogModel" "watched" "[I", Cond.fieldLink RX7 48 "BoilerLogModel" "isHigh" "[Z", Cond.fieldLink RX7 45 "BoilerLogModel" "limit" "[I", Cond.fieldLink RX7 57 "BoilerLogModel" "state" "[I", Cond.fieldLink RX7 51 "BoilerLogModel" "turns" "[I", Cond.fieldLink RX7 54 "BoilerLogModel" "opens" "[Z"]
def wsX7_ends_r2 : List Cond := [Cond.methodLink RX7 102 yX7_notes, Cond.instanceMethod yX7_notes, Cond.selects RX7 yX7_notes yX7_notes, Cond.code yX7_notes cX7_notes 7 none, Cond.constantLong RX7 87 (10000), Cond.fieldLink RX7 7 "BoilerLogModel" "entry" "[J", Cond.methodLink RX7 109 yX7_tagsOn, Cond.instanceMethod yX7_tagsOn, Cond.selects RX7 yX7_tagsOn yX7_tagsOn, Cond.code yX7_tagsOn cX7_tagsOn 4 (some .int), Cond.fieldLink RX7 84 "BoilerLogModel" "tags" "I", Cond.fieldLink RX7 33 "BoilerLogModel" "hangsOn" "[I", Cond.methodLink RX7 127 yX7_turnsTo, Cond.instanceMethod yX7_turnsTo, Cond.selects RX7 yX7_turnsTo yX7_turnsTo, Cond.code yX7_turnsTo cX7_turnsTo 4 (some .boolean)]
def wsX7_ends : List Cond := .code yX7_ends cX7_ends 2 none :: ((wsX7_ends_r1 ++ wsX7_ends_r2) ++ wsX70)
def wsX7_advance_r1 : List Cond := [Cond.fieldLink RX7 89 "BoilerLogModel" "hour" "I", Cond.fieldLink RX7 76 "BoilerLogModel" "thrown" "I", Cond.methodLink RX7 80 yX7_in, Cond.static yX7_in, Cond.initialized RX7, Cond.code yX7_in cX7_in 3 (some .boolean), Cond.methodLink RX7 150 yX7_ends, Cond.instanceMethod yX7_ends, Cond.selects RX7 yX7_ends yX7_ends, Cond.code yX7_ends cX7_ends 2 none, Cond.fieldLink RX7 21 "BoilerLogModel" "isOpen" "[Z", Cond.fieldLink RX7 144 "BoilerLogModel" "alarms" "I", Cond.fieldLink RX7 92 "BoilerLogModel" "entries" "I", Cond.fieldLink RX7 99 "BoilerLogModel" "atShift" "I", Cond.methodLink RX7 140 yX7_leads, Cond.instanceMethod yX7_leads, Cond.selects RX7 yX7_leads yX7_leads, Cond.code yX7_leads cX7_leads 4 none, Cond.fieldLink RX7 24 "BoilerLogModel" "from" "[I", Cond.fieldLink RX7 30 "BoilerLogModel" "level" "[I", Cond.fieldLink RX7 27 "BoilerLogModel" "to" "[I", Cond.fieldLink RX7 134 "BoilerLogModel" "spilled" "I", Cond.methodLink RX7 147 yX7_watches, Cond.instanceMethod yX7_watches]
def wsX7_advance_r2 : List Cond := [Cond.selects RX7 yX7_watches yX7_watches, Cond.code yX7_watches cX7_watches 4 none, Cond.fieldLink RX7 42 "BoilerLogModel" "watched" "[I", Cond.fieldLink RX7 48 "BoilerLogModel" "isHigh" "[Z", Cond.fieldLink RX7 45 "BoilerLogModel" "limit" "[I", Cond.fieldLink RX7 57 "BoilerLogModel" "state" "[I", Cond.fieldLink RX7 51 "BoilerLogModel" "turns" "[I", Cond.fieldLink RX7 54 "BoilerLogModel" "opens" "[Z", Cond.methodLink RX7 102 yX7_notes, Cond.instanceMethod yX7_notes, Cond.selects RX7 yX7_notes yX7_notes, Cond.code yX7_notes cX7_notes 7 none, Cond.constantLong RX7 87 (10000), Cond.fieldLink RX7 7 "BoilerLogModel" "entry" "[J", Cond.methodLink RX7 109 yX7_tagsOn, Cond.instanceMethod yX7_tagsOn, Cond.selects RX7 yX7_tagsOn yX7_tagsOn, Cond.code yX7_tagsOn cX7_tagsOn 4 (some .int), Cond.fieldLink RX7 84 "BoilerLogModel" "tags" "I", Cond.fieldLink RX7 33 "BoilerLogModel" "hangsOn" "[I", Cond.methodLink RX7 127 yX7_turnsTo, Cond.instanceMethod yX7_turnsTo, Cond.selects RX7 yX7_turnsTo yX7_turnsTo, Cond.code yX7_turnsTo cX7_turnsTo 4 (some .boolean)]
def wsX7_advance : List Cond := .code yX7_advance cX7_advance 3 (some .int) :: ((wsX7_advance_r1 ++ wsX7_advance_r2) ++ wsX70)
def wsX7_hour : List Cond := .code yX7_hour cX7_hour 1 (some .int) :: ([.fieldLink RX7 76 "BoilerLogModel" "thrown" "I", .fieldLink RX7 89 "BoilerLogModel" "hour" "I"] ++ wsX70)
def wsX7_entries : List Cond := .code yX7_entries cX7_entries 1 (some .int) :: ([.fieldLink RX7 76 "BoilerLogModel" "thrown" "I", .fieldLink RX7 92 "BoilerLogModel" "entries" "I"] ++ wsX70)
def wsX7_entryAt : List Cond := .code yX7_entryAt cX7_entryAt 2 (some .int) :: ([.fieldLink RX7 92 "BoilerLogModel" "entries" "I", .fieldLink RX7 76 "BoilerLogModel" "thrown" "I", .fieldLink RX7 7 "BoilerLogModel" "entry" "[J", .constantLong RX7 153 (2147483647), .methodLink RX7 80 yX7_in, .static yX7_in, .initialized RX7, .code yX7_in cX7_in 3 (some .boolean)] ++ wsX70)
def wsX7_alarm : List Cond := .code yX7_alarm cX7_alarm 6 (some .int) :: ([.fieldLink RX7 144 "BoilerLogModel" "alarms" "I", .fieldLink RX7 76 "BoilerLogModel" "thrown" "I", .fieldLink RX7 42 "BoilerLogModel" "watched" "[I", .fieldLink RX7 45 "BoilerLogModel" "limit" "[I", .fieldLink RX7 48 "BoilerLogModel" "isHigh" "[Z", .fieldLink RX7 51 "BoilerLogModel" "turns" "[I", .fieldLink RX7 54 "BoilerLogModel" "opens" "[Z", .methodLink RX7 131 yX7_isVessel, .static yX7_isVessel, .initialized RX7, .code yX7_isVessel cX7_isVessel 1 (some .boolean), .methodLink RX7 80 yX7_in, .static yX7_in, .code yX7_in cX7_in 3 (some .boolean), .methodLink RX7 106 yX7_isValve, .static yX7_isValve, .code yX7_isValve cX7_isValve 1 (some .boolean)] ++ wsX70)
def wsX7_stateOf : List Cond := .code yX7_stateOf cX7_stateOf 2 (some .int) :: ([.fieldLink RX7 144 "BoilerLogModel" "alarms" "I", .fieldLink RX7 76 "BoilerLogModel" "thrown" "I", .fieldLink RX7 57 "BoilerLogModel" "state" "[I", .methodLink RX7 80 yX7_in, .static yX7_in, .initialized RX7, .code yX7_in cX7_in 3 (some .boolean)] ++ wsX70)
def wsX7_insert : List Cond := .code yX7_insert cX7_insert 4 (some .int) :: ([.fieldLink RX7 155 "BoilerLogModel" "length" "I", .fieldLink RX7 76 "BoilerLogModel" "thrown" "I", .fieldLink RX7 60 "BoilerLogModel" "text" "[C", .methodLink RX7 80 yX7_in, .static yX7_in, .initialized RX7, .code yX7_in cX7_in 3 (some .boolean)] ++ wsX70)
def wsX7_clear : List Cond := .code yX7_clear cX7_clear 2 (some .int) :: ([.fieldLink RX7 76 "BoilerLogModel" "thrown" "I", .fieldLink RX7 155 "BoilerLogModel" "length" "I"] ++ wsX70)
def wsX7_isHighOne : List Cond := .code yX7_isHighOne cX7_isHighOne 1 (some .boolean) :: ([.constant RX7 158 (55296), .constant RX7 159 (56319)])
def wsX7_isLowOne : List Cond := .code yX7_isLowOne cX7_isLowOne 1 (some .boolean) :: ([.constant RX7 160 (56320), .constant RX7 161 (57343)])
def wsX7_isGood : List Cond := .code yX7_isGood cX7_isGood 4 (some .boolean) :: ([.fieldLink RX7 155 "BoilerLogModel" "length" "I", .fieldLink RX7 60 "BoilerLogModel" "text" "[C", .methodLink RX7 162 yX7_isLowOne, .static yX7_isLowOne, .initialized RX7, .code yX7_isLowOne cX7_isLowOne 1 (some .boolean), .constant RX7 160 (56320), .constant RX7 161 (57343), .methodLink RX7 166 yX7_isHighOne, .static yX7_isHighOne, .code yX7_isHighOne cX7_isHighOne 1 (some .boolean), .constant RX7 158 (55296), .constant RX7 159 (56319)] ++ wsX70)
def wsX7_isWhole : List Cond := .code yX7_isWhole cX7_isWhole 1 (some .boolean) :: ([.fieldLink RX7 76 "BoilerLogModel" "thrown" "I", .methodLink RX7 169 yX7_isGood, .instanceMethod yX7_isGood, .selects RX7 yX7_isGood yX7_isGood, .initialized RX7, .code yX7_isGood cX7_isGood 4 (some .boolean), .fieldLink RX7 155 "BoilerLogModel" "length" "I", .fieldLink RX7 60 "BoilerLogModel" "text" "[C", .methodLink RX7 162 yX7_isLowOne, .static yX7_isLowOne, .code yX7_isLowOne cX7_isLowOne 1 (some .boolean), .constant RX7 160 (56320), .constant RX7 161 (57343), .methodLink RX7 166 yX7_isHighOne, .static yX7_isHighOne, .code yX7_isHighOne cX7_isHighOne 1 (some .boolean), .constant RX7 158 (55296), .constant RX7 159 (56319)] ++ wsX70)
def wsX7_isThread : List Cond := .code yX7_isThread cX7_isThread 2 (some .boolean) :: ([.fieldLink RX7 173 "BoilerLogModel" "threads" "I", .methodLink RX7 80 yX7_in, .static yX7_in, .initialized RX7, .code yX7_in cX7_in 3 (some .boolean)] ++ wsX70)
def wsX7_meant : List Cond := .code yX7_meant cX7_meant 4 (some .int) :: ([.fieldLink RX7 155 "BoilerLogModel" "length" "I", .fieldLink RX7 60 "BoilerLogModel" "text" "[C"] ++ wsX70)
def wsX7_post_r1 : List Cond := [Cond.fieldLink RX7 17 "BoilerLogModel" "hasLeft" "[Z", Cond.fieldLink RX7 179 "BoilerLogModel" "messages" "I", Cond.fieldLink RX7 76 "BoilerLogModel" "thrown" "I", Cond.fieldLink RX7 173 "BoilerLogModel" "threads" "I", Cond.fieldLink RX7 70 "BoilerLogModel" "task" "[I", Cond.fieldLink RX7 64 "BoilerLogModel" "many" "[I", Cond.fieldLink RX7 155 "BoilerLogModel" "length" "I", Cond.fieldLink RX7 67 "BoilerLogModel" "said" "[C", Cond.fieldLink RX7 60 "BoilerLogModel" "text" "[C", Cond.methodLink RX7 120 yX7_isPerson, Cond.static yX7_isPerson, Cond.initialized RX7, Cond.code yX7_isPerson cX7_isPerson 1 (some .boolean), Cond.methodLink RX7 80 yX7_in, Cond.static yX7_in, Cond.code yX7_in cX7_in 3 (some .boolean), Cond.methodLink RX7 176 yX7_isThread, Cond.instanceMethod yX7_isThread, Cond.selects RX7 yX7_isThread yX7_isThread, Cond.code yX7_isThread cX7_isThread 2 (some .boolean), Cond.methodLink RX7 169 yX7_isGood, Cond.instanceMethod yX7_isGood, Cond.selects RX7 yX7_isGood yX7_isGood, Cond.code yX7_isGood cX7_isGood 4 (some .boolean)]
def wsX7_post_r2 : List Cond := [Cond.methodLink RX7 162 yX7_isLowOne, Cond.static yX7_isLowOne, Cond.code yX7_isLowOne cX7_isLowOne 1 (some .boolean), Cond.constant RX7 160 (56320), Cond.constant RX7 161 (57343), Cond.methodLink RX7 166 yX7_isHighOne, Cond.static yX7_isHighOne, Cond.code yX7_isHighOne cX7_isHighOne 1 (some .boolean), Cond.constant RX7 158 (55296), Cond.constant RX7 159 (56319), Cond.methodLink RX7 182 yX7_meant, Cond.instanceMethod yX7_meant, Cond.selects RX7 yX7_meant yX7_meant, Cond.code yX7_meant cX7_meant 4 (some .int), Cond.methodLink RX7 102 yX7_notes, Cond.instanceMethod yX7_notes, Cond.selects RX7 yX7_notes yX7_notes, Cond.code yX7_notes cX7_notes 7 none, Cond.constantLong RX7 87 (10000), Cond.fieldLink RX7 89 "BoilerLogModel" "hour" "I", Cond.fieldLink RX7 92 "BoilerLogModel" "entries" "I", Cond.fieldLink RX7 7 "BoilerLogModel" "entry" "[J"]
def wsX7_post : List Cond := .code yX7_post cX7_post 5 (some .int) :: ((wsX7_post_r1 ++ wsX7_post_r2) ++ wsX70)
def wsX7_finish : List Cond := .code yX7_finish cX7_finish 3 none :: ([.fieldLink RX7 70 "BoilerLogModel" "task" "[I", .fieldLink RX7 17 "BoilerLogModel" "hasLeft" "[Z", .fieldLink RX7 76 "BoilerLogModel" "thrown" "I", .methodLink RX7 120 yX7_isPerson, .static yX7_isPerson, .initialized RX7, .code yX7_isPerson cX7_isPerson 1 (some .boolean), .methodLink RX7 80 yX7_in, .static yX7_in, .code yX7_in cX7_in 3 (some .boolean), .methodLink RX7 176 yX7_isThread, .instanceMethod yX7_isThread, .selects RX7 yX7_isThread yX7_isThread, .code yX7_isThread cX7_isThread 2 (some .boolean), .fieldLink RX7 173 "BoilerLogModel" "threads" "I", .methodLink RX7 102 yX7_notes, .instanceMethod yX7_notes, .selects RX7 yX7_notes yX7_notes, .code yX7_notes cX7_notes 7 none, .constantLong RX7 87 (10000), .fieldLink RX7 89 "BoilerLogModel" "hour" "I", .fieldLink RX7 92 "BoilerLogModel" "entries" "I", .fieldLink RX7 7 "BoilerLogModel" "entry" "[J"] ++ wsX70)
def wsX7_taskOf : List Cond := .code yX7_taskOf cX7_taskOf 2 (some .int) :: ([.fieldLink RX7 76 "BoilerLogModel" "thrown" "I", .fieldLink RX7 70 "BoilerLogModel" "task" "[I", .methodLink RX7 176 yX7_isThread, .instanceMethod yX7_isThread, .selects RX7 yX7_isThread yX7_isThread, .initialized RX7, .code yX7_isThread cX7_isThread 2 (some .boolean), .fieldLink RX7 173 "BoilerLogModel" "threads" "I", .methodLink RX7 80 yX7_in, .static yX7_in, .code yX7_in cX7_in 3 (some .boolean)] ++ wsX70)
def wsX7_messages : List Cond := .code yX7_messages cX7_messages 1 (some .int) :: ([.fieldLink RX7 76 "BoilerLogModel" "thrown" "I", .fieldLink RX7 179 "BoilerLogModel" "messages" "I"] ++ wsX70)
def wsX7_laysSigns : List Cond := .code yX7_laysSigns cX7_laysSigns 4 none :: ([.fieldLink RX7 186 "BoilerLogModel" "signs" "I", .fieldLink RX7 64 "BoilerLogModel" "many" "[I", .fieldLink RX7 67 "BoilerLogModel" "said" "[C", .constant RX7 189 (65536), .constant RX7 158 (55296), .constant RX7 160 (56320), .fieldLink RX7 73 "BoilerLogModel" "sign" "[I", .methodLink RX7 166 yX7_isHighOne, .static yX7_isHighOne, .initialized RX7, .code yX7_isHighOne cX7_isHighOne 1 (some .boolean), .constant RX7 159 (56319)] ++ wsX70)
def wsX7_asksMessage : List Cond := .code yX7_asksMessage cX7_asksMessage 2 (some .boolean) :: ([.fieldLink RX7 179 "BoilerLogModel" "messages" "I", .fieldLink RX7 76 "BoilerLogModel" "thrown" "I", .methodLink RX7 80 yX7_in, .static yX7_in, .initialized RX7, .code yX7_in cX7_in 3 (some .boolean), .methodLink RX7 190 yX7_laysSigns, .instanceMethod yX7_laysSigns, .selects RX7 yX7_laysSigns yX7_laysSigns, .code yX7_laysSigns cX7_laysSigns 4 none, .fieldLink RX7 186 "BoilerLogModel" "signs" "I", .fieldLink RX7 64 "BoilerLogModel" "many" "[I", .fieldLink RX7 67 "BoilerLogModel" "said" "[C", .constant RX7 189 (65536), .constant RX7 158 (55296), .constant RX7 160 (56320), .fieldLink RX7 73 "BoilerLogModel" "sign" "[I", .methodLink RX7 166 yX7_isHighOne, .static yX7_isHighOne, .code yX7_isHighOne cX7_isHighOne 1 (some .boolean), .constant RX7 159 (56319)] ++ wsX70)
def wsX7_signs_r1 : List Cond := [Cond.fieldLink RX7 186 "BoilerLogModel" "signs" "I", Cond.methodLink RX7 193 yX7_asksMessage, Cond.instanceMethod yX7_asksMessage, Cond.selects RX7 yX7_asksMessage yX7_asksMessage, Cond.initialized RX7, Cond.code yX7_asksMessage cX7_asksMessage 2 (some .boolean), Cond.fieldLink RX7 179 "BoilerLogModel" "messages" "I", Cond.fieldLink RX7 76 "BoilerLogModel" "thrown" "I", Cond.methodLink RX7 80 yX7_in, Cond.static yX7_in, Cond.code yX7_in cX7_in 3 (some .boolean), Cond.methodLink RX7 190 yX7_laysSigns, Cond.instanceMethod yX7_laysSigns, Cond.selects RX7 yX7_laysSigns yX7_laysSigns, Cond.code yX7_laysSigns cX7_laysSigns 4 none, Cond.fieldLink RX7 64 "BoilerLogModel" "many" "[I", Cond.fieldLink RX7 67 "BoilerLogModel" "said" "[C", Cond.constant RX7 189 (65536), Cond.constant RX7 158 (55296), Cond.constant RX7 160 (56320), Cond.fieldLink RX7 73 "BoilerLogModel" "sign" "[I", Cond.methodLink RX7 166 yX7_isHighOne, Cond.static yX7_isHighOne, Cond.code yX7_isHighOne cX7_isHighOne 1 (some .boolean)]
def wsX7_signs_r2 : List Cond := [Cond.constant RX7 159 (56319)]
def wsX7_signs : List Cond := .code yX7_signs cX7_signs 2 (some .int) :: ((wsX7_signs_r1 ++ wsX7_signs_r2) ++ wsX70)
def wsX7_signOf_r1 : List Cond := [Cond.fieldLink RX7 76 "BoilerLogModel" "thrown" "I", Cond.fieldLink RX7 186 "BoilerLogModel" "signs" "I", Cond.fieldLink RX7 73 "BoilerLogModel" "sign" "[I", Cond.methodLink RX7 193 yX7_asksMessage, Cond.instanceMethod yX7_asksMessage, Cond.selects RX7 yX7_asksMessage yX7_asksMessage, Cond.initialized RX7, Cond.code yX7_asksMessage cX7_asksMessage 2 (some .boolean), Cond.fieldLink RX7 179 "BoilerLogModel" "messages" "I", Cond.methodLink RX7 80 yX7_in, Cond.static yX7_in, Cond.code yX7_in cX7_in 3 (some .boolean), Cond.methodLink RX7 190 yX7_laysSigns, Cond.instanceMethod yX7_laysSigns, Cond.selects RX7 yX7_laysSigns yX7_laysSigns, Cond.code yX7_laysSigns cX7_laysSigns 4 none, Cond.fieldLink RX7 64 "BoilerLogModel" "many" "[I", Cond.fieldLink RX7 67 "BoilerLogModel" "said" "[C", Cond.constant RX7 189 (65536), Cond.constant RX7 158 (55296), Cond.constant RX7 160 (56320), Cond.methodLink RX7 166 yX7_isHighOne, Cond.static yX7_isHighOne, Cond.code yX7_isHighOne cX7_isHighOne 1 (some .boolean)]
def wsX7_signOf_r2 : List Cond := [Cond.constant RX7 159 (56319)]
def wsX7_signOf : List Cond := .code yX7_signOf cX7_signOf 5 (some .int) :: ((wsX7_signOf_r1 ++ wsX7_signOf_r2) ++ wsX70)
def wsX7_signAt_r1 : List Cond := [Cond.methodLink RX7 196 yX7_signOf, Cond.instanceMethod yX7_signOf, Cond.selects RX7 yX7_signOf yX7_signOf, Cond.initialized RX7, Cond.code yX7_signOf cX7_signOf 5 (some .int), Cond.fieldLink RX7 76 "BoilerLogModel" "thrown" "I", Cond.fieldLink RX7 186 "BoilerLogModel" "signs" "I", Cond.fieldLink RX7 73 "BoilerLogModel" "sign" "[I", Cond.methodLink RX7 193 yX7_asksMessage, Cond.instanceMethod yX7_asksMessage, Cond.selects RX7 yX7_asksMessage yX7_asksMessage, Cond.code yX7_asksMessage cX7_asksMessage 2 (some .boolean), Cond.fieldLink RX7 179 "BoilerLogModel" "messages" "I", Cond.methodLink RX7 80 yX7_in, Cond.static yX7_in, Cond.code yX7_in cX7_in 3 (some .boolean), Cond.methodLink RX7 190 yX7_laysSigns, Cond.instanceMethod yX7_laysSigns, Cond.selects RX7 yX7_laysSigns yX7_laysSigns, Cond.code yX7_laysSigns cX7_laysSigns 4 none, Cond.fieldLink RX7 64 "BoilerLogModel" "many" "[I", Cond.fieldLink RX7 67 "BoilerLogModel" "said" "[C", Cond.constant RX7 189 (65536), Cond.constant RX7 158 (55296)]
def wsX7_signAt_r2 : List Cond := [Cond.constant RX7 160 (56320), Cond.methodLink RX7 166 yX7_isHighOne, Cond.static yX7_isHighOne, Cond.code yX7_isHighOne cX7_isHighOne 1 (some .boolean), Cond.constant RX7 159 (56319)]
def wsX7_signAt : List Cond := .code yX7_signAt cX7_signAt 3 (some .int) :: ((wsX7_signAt_r1 ++ wsX7_signAt_r2) ++ wsX70)
def wsX7_signBack_r1 : List Cond := [Cond.methodLink RX7 196 yX7_signOf, Cond.instanceMethod yX7_signOf, Cond.selects RX7 yX7_signOf yX7_signOf, Cond.initialized RX7, Cond.code yX7_signOf cX7_signOf 5 (some .int), Cond.fieldLink RX7 76 "BoilerLogModel" "thrown" "I", Cond.fieldLink RX7 186 "BoilerLogModel" "signs" "I", Cond.fieldLink RX7 73 "BoilerLogModel" "sign" "[I", Cond.methodLink RX7 193 yX7_asksMessage, Cond.instanceMethod yX7_asksMessage, Cond.selects RX7 yX7_asksMessage yX7_asksMessage, Cond.code yX7_asksMessage cX7_asksMessage 2 (some .boolean), Cond.fieldLink RX7 179 "BoilerLogModel" "messages" "I", Cond.methodLink RX7 80 yX7_in, Cond.static yX7_in, Cond.code yX7_in cX7_in 3 (some .boolean), Cond.methodLink RX7 190 yX7_laysSigns, Cond.instanceMethod yX7_laysSigns, Cond.selects RX7 yX7_laysSigns yX7_laysSigns, Cond.code yX7_laysSigns cX7_laysSigns 4 none, Cond.fieldLink RX7 64 "BoilerLogModel" "many" "[I", Cond.fieldLink RX7 67 "BoilerLogModel" "said" "[C", Cond.constant RX7 189 (65536), Cond.constant RX7 158 (55296)]
def wsX7_signBack_r2 : List Cond := [Cond.constant RX7 160 (56320), Cond.methodLink RX7 166 yX7_isHighOne, Cond.static yX7_isHighOne, Cond.code yX7_isHighOne cX7_isHighOne 1 (some .boolean), Cond.constant RX7 159 (56319)]
def wsX7_signBack : List Cond := .code yX7_signBack cX7_signBack 3 (some .int) :: ((wsX7_signBack_r1 ++ wsX7_signBack_r2) ++ wsX70)
def wsJ9_max_7cf53 : List Cond := .code yJ9_max_7cf53 cJ9_max_7cf53 2 (some .int) :: ([])
def wsJ9_min_7cf53 : List Cond := .code yJ9_min_7cf53 cJ9_min_7cf53 2 (some .int) :: ([])
def wsL_pipe_r1 : List Cond := [Cond.classLink RL 13 "java/lang/IndexOutOfBoundsException", Cond.classLink RL 15 "java/lang/IllegalArgumentException", Cond.classLink RL 17 "java/lang/IllegalStateException", Cond.methodLink RL 7 yX6_pipe, Cond.instanceMethod yX6_pipe, Cond.selects RX6 yX6_pipe yX6_pipe, Cond.initialized RX6, Cond.code yX6_pipe cX6_pipe 5 (some .int), Cond.classLink RX6 84 "java/lang/IllegalArgumentException", Cond.initialized "java/lang/IllegalArgumentException", Cond.classLink RX6 95 "java/lang/IllegalStateException", Cond.initialized "java/lang/IllegalStateException", Cond.fieldLink RX6 11 "BoilerLog" "valves" "[LBoilerLog$Valve;", Cond.methodLink RX6 76 yX6_checkValve, Cond.static yX6_checkValve, Cond.code yX6_checkValve cX6_checkValve 1 none, Cond.classLink RX6 200 "java/lang/IndexOutOfBoundsException", Cond.initialized "java/lang/IndexOutOfBoundsException", Cond.methodLink RX6 80 yX6_isEnd, Cond.static yX6_isEnd, Cond.code yX6_isEnd cX6_isEnd 1 (some .boolean), Cond.methodLink RX6 275 yX6_isVessel, Cond.static yX6_isVessel, Cond.code yX6_isVessel cX6_isVessel 1 (some .boolean)]
def wsL_pipe_r2 : List Cond := [Cond.methodLink RX6 106 yX6_countTagsOn, Cond.instanceMethod yX6_countTagsOn, Cond.selects RX6 yX6_countTagsOn yX6_countTagsOn, Cond.code yX6_countTagsOn cX6_countTagsOn 5 (some .int), Cond.fieldLink RX6 29 "BoilerLog" "tags" "Ljava/util/ArrayList;", Cond.classLink RX6 145 "BoilerLog$Tag", Cond.methodLink RX6 142 yJx4a65c_size_8abf5, Cond.instanceMethod yJx4a65c_size_8abf5, Cond.selects RJx4a65c yJx4a65c_size_8abf5 yJx4a65c_size_8abf5, Cond.initialized RJx4a65c, Cond.code yJx4a65c_size_8abf5 cJx4a65c_size_8abf5 1 (some .int), Cond.fieldLink RJx4a65c 48 "java/util/ArrayList" "size" "I", Cond.methodLink RX6 161 yJx4a65c_get_915e3, Cond.instanceMethod yJx4a65c_get_915e3, Cond.selects RJx4a65c yJx4a65c_get_915e3 yJx4a65c_get_915e3, Cond.code yJx4a65c_get_915e3 cJx4a65c_get_915e3 2 (some (.object "java/lang/Object")), Cond.methodLink RJx4a65c 118 yJ15_checkIndex_7cf53, Cond.static yJ15_checkIndex_7cf53, Cond.initialized RJ15, Cond.code yJ15_checkIndex_7cf53 cJ15_checkIndex_7cf53 2 (some .int), Cond.methodLink RJ15 105 yJ3_checkIndex_8e157, Cond.static yJ3_checkIndex_8e157, Cond.initialized RJ3, Cond.code yJ3_checkIndex_8e157 cJ3_checkIndex_8e157 3 (some .int)]
def wsL_pipe_r3 : List Cond := [Cond.methodLink RJx4a65c 123 yJx4a65c_elementData_915e3, Cond.instanceMethod yJx4a65c_elementData_915e3, Cond.selects RJx4a65c yJx4a65c_elementData_915e3 yJx4a65c_elementData_915e3, Cond.code yJx4a65c_elementData_915e3 cJx4a65c_elementData_915e3 2 (some (.object "java/lang/Object")), Cond.fieldLink RJx4a65c 9 "java/util/ArrayList" "elementData" "[Ljava/lang/Object;"]
def wsL_pipe : List Cond := .codeWith yL_pipe cL_pipe 6 (some .int) [(0, 12, 15, 13), (0, 12, 19, 15), (0, 12, 23, 17)] :: ((wsL_pipe_r1 ++ (wsL_pipe_r2 ++ wsL_pipe_r3)) ++ wsX60 ++ wsX50 ++ wsX40 ++ wsJx4a65c0 ++ (vx_atS RX6 88 "java/lang/IllegalArgumentException" ["java/lang/RuntimeException", "java/lang/Exception"]).filter goodWord ++ (vx_atS RX6 99 "java/lang/IllegalStateException" ["java/lang/RuntimeException", "java/lang/Exception"]).filter goodWord ++ (vx_atS RX6 204 "java/lang/IndexOutOfBoundsException" ["java/lang/RuntimeException", "java/lang/Exception"]).filter goodWord)
def wsL_turn_r1 : List Cond := [Cond.classLink RL 13 "java/lang/IndexOutOfBoundsException", Cond.classLink RL 17 "java/lang/IllegalStateException", Cond.methodLink RL 19 yX6_turn, Cond.instanceMethod yX6_turn, Cond.selects RX6 yX6_turn yX6_turn, Cond.initialized RX6, Cond.code yX6_turn cX6_turn 4 (some .boolean), Cond.classLink RX6 95 "java/lang/IllegalStateException", Cond.initialized "java/lang/IllegalStateException", Cond.methodLink RX6 110 yX6_checkPerson, Cond.static yX6_checkPerson, Cond.code yX6_checkPerson cX6_checkPerson 1 none, Cond.classLink RX6 200 "java/lang/IndexOutOfBoundsException", Cond.initialized "java/lang/IndexOutOfBoundsException", Cond.methodLink RX6 76 yX6_checkValve, Cond.static yX6_checkValve, Cond.code yX6_checkValve cX6_checkValve 1 none, Cond.methodLink RX6 113 yX6_findObstacle, Cond.instanceMethod yX6_findObstacle, Cond.selects RX6 yX6_findObstacle yX6_findObstacle, Cond.code yX6_findObstacle cX6_findObstacle 3 (some .int), Cond.methodLink RX6 290 yX6_isOnDuty, Cond.instanceMethod yX6_isOnDuty, Cond.selects RX6 yX6_isOnDuty yX6_isOnDuty]
def wsL_turn_r2 : List Cond := [Cond.code yX6_isOnDuty cX6_isOnDuty 2 (some .boolean), Cond.fieldLink RX6 19 "BoilerLog" "gone" "[Z", Cond.fieldLink RX6 56 "BoilerLog" "now" "I", Cond.methodLink RX6 139 yX6_isAble, Cond.instanceMethod yX6_isAble, Cond.selects RX6 yX6_isAble yX6_isAble, Cond.code yX6_isAble cX6_isAble 2 (some .boolean), Cond.fieldLink RX6 23 "BoilerLog" "entriesRead" "[I", Cond.fieldLink RX6 60 "BoilerLog" "entriesAtShiftStart" "I", Cond.methodLink RX6 293 yX6_hasTagOfAnother, Cond.instanceMethod yX6_hasTagOfAnother, Cond.selects RX6 yX6_hasTagOfAnother yX6_hasTagOfAnother, Cond.code yX6_hasTagOfAnother cX6_hasTagOfAnother 5 (some .boolean), Cond.fieldLink RX6 29 "BoilerLog" "tags" "Ljava/util/ArrayList;", Cond.classLink RX6 145 "BoilerLog$Tag", Cond.methodLink RX6 142 yJx4a65c_size_8abf5, Cond.instanceMethod yJx4a65c_size_8abf5, Cond.selects RJx4a65c yJx4a65c_size_8abf5 yJx4a65c_size_8abf5, Cond.initialized RJx4a65c, Cond.code yJx4a65c_size_8abf5 cJx4a65c_size_8abf5 1 (some .int), Cond.fieldLink RJx4a65c 48 "java/util/ArrayList" "size" "I", Cond.methodLink RX6 161 yJx4a65c_get_915e3, Cond.instanceMethod yJx4a65c_get_915e3, Cond.selects RJx4a65c yJx4a65c_get_915e3 yJx4a65c_get_915e3]
def wsL_turn_r3 : List Cond := [Cond.code yJx4a65c_get_915e3 cJx4a65c_get_915e3 2 (some (.object "java/lang/Object")), Cond.methodLink RJx4a65c 118 yJ15_checkIndex_7cf53, Cond.static yJ15_checkIndex_7cf53, Cond.initialized RJ15, Cond.code yJ15_checkIndex_7cf53 cJ15_checkIndex_7cf53 2 (some .int), Cond.methodLink RJ15 105 yJ3_checkIndex_8e157, Cond.static yJ3_checkIndex_8e157, Cond.initialized RJ3, Cond.code yJ3_checkIndex_8e157 cJ3_checkIndex_8e157 3 (some .int), Cond.methodLink RJx4a65c 123 yJx4a65c_elementData_915e3, Cond.instanceMethod yJx4a65c_elementData_915e3, Cond.selects RJx4a65c yJx4a65c_elementData_915e3 yJx4a65c_elementData_915e3, Cond.code yJx4a65c_elementData_915e3 cJx4a65c_elementData_915e3 2 (some (.object "java/lang/Object")), Cond.fieldLink RJx4a65c 9 "java/util/ArrayList" "elementData" "[Ljava/lang/Object;", Cond.methodLink RX6 119 yX6_setValve, Cond.instanceMethod yX6_setValve, Cond.selects RX6 yX6_setValve yX6_setValve, Cond.code yX6_setValve cX6_setValve 5 (some .boolean), Cond.fieldLink RX6 11 "BoilerLog" "valves" "[LBoilerLog$Valve;", Cond.fieldLink RX6 45 "BoilerLog" "log" "LBoilerLog$Log;", Cond.instanceMethod yX2_noteTurn, Cond.initialized RX2, Cond.selects RX2 yX2_noteTurn yX2_noteTurn, Cond.code yX2_noteTurn cX2_noteTurn 5 none]
def wsL_turn_r4 : List Cond := [Cond.methodLink RX2 25 yX2_note, Cond.instanceMethod yX2_note, Cond.selects RX2 yX2_note yX2_note, Cond.code yX2_note cX2_note 5 none, Cond.fieldLink RX2 15 "BoilerLog$Log" "count" "I", Cond.fieldLink RX2 11 "BoilerLog$Log" "codes" "[I", Cond.methodLink RX2 19 yJ7_copyOf_59c91, Cond.static yJ7_copyOf_59c91, Cond.initialized RJ7, Cond.code yJ7_copyOf_59c91 cJ7_copyOf_59c91 3 (some (.array .int)), Cond.methodLink RJ7 316 ⟨"[I", "clone", "()Ljava/lang/Object;"⟩, Cond.sameMethod "[I" "java/lang/Object" "clone" "()Ljava/lang/Object;", Cond.native ⟨"java/lang/Object", "clone", "()Ljava/lang/Object;"⟩, Cond.instanceMethod ⟨"java/lang/Object", "clone", "()Ljava/lang/Object;"⟩, Cond.selects "[I" ⟨"[I", "clone", "()Ljava/lang/Object;"⟩ ⟨"java/lang/Object", "clone", "()Ljava/lang/Object;"⟩, Cond.classLink RJ7 317 "[I", Cond.arrayClass .int, Cond.methodLink RJ7 304 Lib.Math.min.name, Cond.static Lib.Math.min.name, Cond.initialized "java/lang/Math", Cond.code Lib.Math.min.name Lib.Math.min.code 2 (some .int), Cond.methodLink RJ7 150 arraycopyName, Cond.native arraycopyName, Cond.static arraycopyName]
def wsL_turn_r5 : List Cond := [Cond.initialized "java/lang/System"]
def wsL_turn : List Cond := .codeWith yL_turn cL_turn 6 (some .int) [(0, 19, 22, 13), (0, 19, 26, 17)] :: ((wsL_turn_r1 ++ (wsL_turn_r2 ++ (wsL_turn_r3 ++ (wsL_turn_r4 ++ wsL_turn_r5)))) ++ wsX60 ++ wsX40 ++ wsJx4a65c0 ++ wsX50 ++ wsX20 ++ (vx_atS RX6 99 "java/lang/IllegalStateException" ["java/lang/RuntimeException", "java/lang/Exception"]).filter goodWord ++ (vx_atS RX6 204 "java/lang/IndexOutOfBoundsException" ["java/lang/RuntimeException", "java/lang/Exception"]).filter goodWord)
def wsL_obstacle_r1 : List Cond := [Cond.classLink RL 13 "java/lang/IndexOutOfBoundsException", Cond.methodLink RL 23 yX6_obstacle, Cond.instanceMethod yX6_obstacle, Cond.selects RX6 yX6_obstacle yX6_obstacle, Cond.initialized RX6, Cond.code yX6_obstacle cX6_obstacle 3 (some .int), Cond.methodLink RX6 110 yX6_checkPerson, Cond.static yX6_checkPerson, Cond.code yX6_checkPerson cX6_checkPerson 1 none, Cond.classLink RX6 200 "java/lang/IndexOutOfBoundsException", Cond.initialized "java/lang/IndexOutOfBoundsException", Cond.methodLink RX6 76 yX6_checkValve, Cond.static yX6_checkValve, Cond.code yX6_checkValve cX6_checkValve 1 none, Cond.methodLink RX6 113 yX6_findObstacle, Cond.instanceMethod yX6_findObstacle, Cond.selects RX6 yX6_findObstacle yX6_findObstacle, Cond.code yX6_findObstacle cX6_findObstacle 3 (some .int), Cond.methodLink RX6 290 yX6_isOnDuty, Cond.instanceMethod yX6_isOnDuty, Cond.selects RX6 yX6_isOnDuty yX6_isOnDuty, Cond.code yX6_isOnDuty cX6_isOnDuty 2 (some .boolean), Cond.fieldLink RX6 19 "BoilerLog" "gone" "[Z", Cond.fieldLink RX6 56 "BoilerLog" "now" "I"]
def wsL_obstacle_r2 : List Cond := [Cond.methodLink RX6 139 yX6_isAble, Cond.instanceMethod yX6_isAble, Cond.selects RX6 yX6_isAble yX6_isAble, Cond.code yX6_isAble cX6_isAble 2 (some .boolean), Cond.fieldLink RX6 23 "BoilerLog" "entriesRead" "[I", Cond.fieldLink RX6 60 "BoilerLog" "entriesAtShiftStart" "I", Cond.methodLink RX6 293 yX6_hasTagOfAnother, Cond.instanceMethod yX6_hasTagOfAnother, Cond.selects RX6 yX6_hasTagOfAnother yX6_hasTagOfAnother, Cond.code yX6_hasTagOfAnother cX6_hasTagOfAnother 5 (some .boolean), Cond.fieldLink RX6 29 "BoilerLog" "tags" "Ljava/util/ArrayList;", Cond.classLink RX6 145 "BoilerLog$Tag", Cond.methodLink RX6 142 yJx4a65c_size_8abf5, Cond.instanceMethod yJx4a65c_size_8abf5, Cond.selects RJx4a65c yJx4a65c_size_8abf5 yJx4a65c_size_8abf5, Cond.initialized RJx4a65c, Cond.code yJx4a65c_size_8abf5 cJx4a65c_size_8abf5 1 (some .int), Cond.fieldLink RJx4a65c 48 "java/util/ArrayList" "size" "I", Cond.methodLink RX6 161 yJx4a65c_get_915e3, Cond.instanceMethod yJx4a65c_get_915e3, Cond.selects RJx4a65c yJx4a65c_get_915e3 yJx4a65c_get_915e3, Cond.code yJx4a65c_get_915e3 cJx4a65c_get_915e3 2 (some (.object "java/lang/Object")), Cond.methodLink RJx4a65c 118 yJ15_checkIndex_7cf53, Cond.static yJ15_checkIndex_7cf53]
def wsL_obstacle_r3 : List Cond := [Cond.initialized RJ15, Cond.code yJ15_checkIndex_7cf53 cJ15_checkIndex_7cf53 2 (some .int), Cond.methodLink RJ15 105 yJ3_checkIndex_8e157, Cond.static yJ3_checkIndex_8e157, Cond.initialized RJ3, Cond.code yJ3_checkIndex_8e157 cJ3_checkIndex_8e157 3 (some .int), Cond.methodLink RJx4a65c 123 yJx4a65c_elementData_915e3, Cond.instanceMethod yJx4a65c_elementData_915e3, Cond.selects RJx4a65c yJx4a65c_elementData_915e3 yJx4a65c_elementData_915e3, Cond.code yJx4a65c_elementData_915e3 cJx4a65c_elementData_915e3 2 (some (.object "java/lang/Object")), Cond.fieldLink RJx4a65c 9 "java/util/ArrayList" "elementData" "[Ljava/lang/Object;"]
def wsL_obstacle : List Cond := .codeWith yL_obstacle cL_obstacle 5 (some .int) [(0, 10, 13, 13)] :: ((wsL_obstacle_r1 ++ (wsL_obstacle_r2 ++ wsL_obstacle_r3)) ++ wsX60 ++ wsX40 ++ wsJx4a65c0 ++ (vx_atS RX6 204 "java/lang/IndexOutOfBoundsException" ["java/lang/RuntimeException", "java/lang/Exception"]).filter goodWord)
def wsL_isOpen : List Cond := .codeWith yL_isOpen cL_isOpen 4 (some .int) [(0, 16, 19, 13)] :: ([.classLink RL 13 "java/lang/IndexOutOfBoundsException", .methodLink RL 27 yX6_isOpen, .instanceMethod yX6_isOpen, .selects RX6 yX6_isOpen yX6_isOpen, .initialized RX6, .code yX6_isOpen cX6_isOpen 2 (some .boolean), .fieldLink RX6 11 "BoilerLog" "valves" "[LBoilerLog$Valve;", .methodLink RX6 76 yX6_checkValve, .static yX6_checkValve, .code yX6_checkValve cX6_checkValve 1 none, .classLink RX6 200 "java/lang/IndexOutOfBoundsException", .initialized "java/lang/IndexOutOfBoundsException"] ++ wsX60 ++ wsX50 ++ (vx_atS RX6 204 "java/lang/IndexOutOfBoundsException" ["java/lang/RuntimeException", "java/lang/Exception"]).filter goodWord)
def wsL_isOpenByLog_r1 : List Cond := [Cond.classLink RL 13 "java/lang/IndexOutOfBoundsException", Cond.methodLink RL 31 yX6_isOpenByLog, Cond.instanceMethod yX6_isOpenByLog, Cond.selects RX6 yX6_isOpenByLog yX6_isOpenByLog, Cond.initialized RX6, Cond.code yX6_isOpenByLog cX6_isOpenByLog 3 (some .boolean), Cond.fieldLink RX6 45 "BoilerLog" "log" "LBoilerLog$Log;", Cond.methodLink RX6 76 yX6_checkValve, Cond.static yX6_checkValve, Cond.code yX6_checkValve cX6_checkValve 1 none, Cond.classLink RX6 200 "java/lang/IndexOutOfBoundsException", Cond.initialized "java/lang/IndexOutOfBoundsException", Cond.instanceMethod yX2_size, Cond.initialized RX2, Cond.selects RX2 yX2_size yX2_size, Cond.code yX2_size cX2_size 1 (some .int), Cond.fieldLink RX2 15 "BoilerLog$Log" "count" "I", Cond.instanceMethod yX2_kindAt, Cond.selects RX2 yX2_kindAt yX2_kindAt, Cond.code yX2_kindAt cX2_kindAt 2 (some .int), Cond.fieldLink RX2 11 "BoilerLog$Log" "codes" "[I", Cond.instanceMethod yX2_valveTurnedAt, Cond.selects RX2 yX2_valveTurnedAt yX2_valveTurnedAt, Cond.code yX2_valveTurnedAt cX2_valveTurnedAt 2 (some .int)]
def wsL_isOpenByLog_r2 : List Cond := [Cond.methodLink RX2 29 yX2_whatAt, Cond.instanceMethod yX2_whatAt, Cond.selects RX2 yX2_whatAt yX2_whatAt, Cond.code yX2_whatAt cX2_whatAt 2 (some .int), Cond.instanceMethod yX2_opensAt, Cond.selects RX2 yX2_opensAt yX2_opensAt, Cond.code yX2_opensAt cX2_opensAt 2 (some .boolean)]
def wsL_isOpenByLog : List Cond := .codeWith yL_isOpenByLog cL_isOpenByLog 4 (some .int) [(0, 16, 19, 13)] :: ((wsL_isOpenByLog_r1 ++ wsL_isOpenByLog_r2) ++ wsX60 ++ wsX20 ++ (vx_atS RX6 204 "java/lang/IndexOutOfBoundsException" ["java/lang/RuntimeException", "java/lang/Exception"]).filter goodWord)
def wsL_level : List Cond := .codeWith yL_level cL_level 4 (some .int) [(0, 9, 12, 13)] :: ([.classLink RL 13 "java/lang/IndexOutOfBoundsException", .methodLink RL 34 yX6_level, .instanceMethod yX6_level, .selects RX6 yX6_level yX6_level, .initialized RX6, .code yX6_level cX6_level 2 (some .int), .fieldLink RX6 15 "BoilerLog" "levels" "[I", .methodLink RX6 136 yX6_checkVessel, .static yX6_checkVessel, .code yX6_checkVessel cX6_checkVessel 1 none, .classLink RX6 200 "java/lang/IndexOutOfBoundsException", .initialized "java/lang/IndexOutOfBoundsException", .methodLink RX6 275 yX6_isVessel, .static yX6_isVessel, .code yX6_isVessel cX6_isVessel 1 (some .boolean)] ++ wsX60 ++ (vx_atS RX6 204 "java/lang/IndexOutOfBoundsException" ["java/lang/RuntimeException", "java/lang/Exception"]).filter goodWord)
def wsL_hang_r1 : List Cond := [Cond.classLink RL 13 "java/lang/IndexOutOfBoundsException", Cond.classLink RL 17 "java/lang/IllegalStateException", Cond.methodLink RL 38 yX6_hang, Cond.instanceMethod yX6_hang, Cond.selects RX6 yX6_hang yX6_hang, Cond.initialized RX6, Cond.code yX6_hang cX6_hang 4 (some .int), Cond.classLink RX6 95 "java/lang/IllegalStateException", Cond.initialized "java/lang/IllegalStateException", Cond.fieldLink RX6 29 "BoilerLog" "tags" "Ljava/util/ArrayList;", Cond.classLink RX6 145 RX4, Cond.instantiable RX4 4, Cond.initialized RX4, Cond.fieldLink RX6 45 "BoilerLog" "log" "LBoilerLog$Log;", Cond.fieldLink RX6 56 "BoilerLog" "now" "I", Cond.methodLink RX6 110 yX6_checkPerson, Cond.static yX6_checkPerson, Cond.code yX6_checkPerson cX6_checkPerson 1 none, Cond.classLink RX6 200 "java/lang/IndexOutOfBoundsException", Cond.initialized "java/lang/IndexOutOfBoundsException", Cond.methodLink RX6 76 yX6_checkValve, Cond.static yX6_checkValve, Cond.code yX6_checkValve cX6_checkValve 1 none, Cond.methodLink RX6 139 yX6_isAble]
def wsL_hang_r2 : List Cond := [Cond.instanceMethod yX6_isAble, Cond.selects RX6 yX6_isAble yX6_isAble, Cond.code yX6_isAble cX6_isAble 2 (some .boolean), Cond.fieldLink RX6 23 "BoilerLog" "entriesRead" "[I", Cond.fieldLink RX6 60 "BoilerLog" "entriesAtShiftStart" "I", Cond.methodLink RX6 290 yX6_isOnDuty, Cond.instanceMethod yX6_isOnDuty, Cond.selects RX6 yX6_isOnDuty yX6_isOnDuty, Cond.code yX6_isOnDuty cX6_isOnDuty 2 (some .boolean), Cond.fieldLink RX6 19 "BoilerLog" "gone" "[Z", Cond.methodLink RX6 142 yJx4a65c_size_8abf5, Cond.instanceMethod yJx4a65c_size_8abf5, Cond.selects RJx4a65c yJx4a65c_size_8abf5 yJx4a65c_size_8abf5, Cond.initialized RJx4a65c, Cond.code yJx4a65c_size_8abf5 cJx4a65c_size_8abf5 1 (some .int), Cond.fieldLink RJx4a65c 48 "java/util/ArrayList" "size" "I", Cond.instanceMethod yX4_init, Cond.code yX4_init cX4_init 3 none, Cond.methodLink RX4 3 objectInit, Cond.instanceMethod objectInit, Cond.code objectInit ⟨#[0xb1]⟩ 1 none, Cond.fieldLink RX4 9 "BoilerLog$Tag" "firstAsker" "I", Cond.fieldLink RX4 15 "BoilerLog$Tag" "off" "Z", Cond.fieldLink RX4 19 "BoilerLog$Tag" "owner" "I"]
def wsL_hang_r3 : List Cond := [Cond.fieldLink RX4 22 "BoilerLog$Tag" "valve" "I", Cond.methodLink RX6 150 yJx4a65c_add_9ea2d, Cond.instanceMethod yJx4a65c_add_9ea2d, Cond.selects RJx4a65c yJx4a65c_add_9ea2d yJx4a65c_add_9ea2d, Cond.code yJx4a65c_add_9ea2d cJx4a65c_add_9ea2d 2 (some .boolean), Cond.fieldLink RJx4a65c 63 "java/util/ArrayList" "modCount" "I", Cond.sameField "java/util/ArrayList" "java/util/AbstractList" "modCount" "I", Cond.fieldLink RJx4a65c 9 "java/util/ArrayList" "elementData" "[Ljava/lang/Object;", Cond.methodLink RJx4a65c 131 yJx4a65c_add_72be8, Cond.instanceMethod yJx4a65c_add_72be8, Cond.selects RJx4a65c yJx4a65c_add_72be8 yJx4a65c_add_72be8, Cond.code yJx4a65c_add_72be8 cJx4a65c_add_72be8 4 none, Cond.methodLink RJx4a65c 129 yJx4a65c_grow_d5877, Cond.instanceMethod yJx4a65c_grow_d5877, Cond.selects RJx4a65c yJx4a65c_grow_d5877 yJx4a65c_grow_d5877, Cond.code yJx4a65c_grow_d5877 cJx4a65c_grow_d5877 1 (some (.array (.object "java/lang/Object"))), Cond.methodLink RJx4a65c 69 yJx4a65c_grow_92f84, Cond.instanceMethod yJx4a65c_grow_92f84, Cond.selects RJx4a65c yJx4a65c_grow_92f84 yJx4a65c_grow_92f84, Cond.code yJx4a65c_grow_92f84 cJx4a65c_grow_92f84 4 (some (.array (.object "java/lang/Object"))), Cond.fieldLink RJx4a65c 39 "java/util/ArrayList" "DEFAULTCAPACITY_EMPTY_ELEMENTDATA" "[Ljava/lang/Object;", Cond.methodLink RJx4a65c 79 Lib.Math.max.name, Cond.static Lib.Math.max.name, Cond.initialized "java/lang/Math"]
def wsL_hang_r4 : List Cond := [Cond.code Lib.Math.max.name Lib.Math.max.code 2 (some .int), Cond.classLink RJx4a65c 7 "java/lang/Object", Cond.methodLink RJx4a65c 73 yJ8_newLength_cabcc, Cond.static yJ8_newLength_cabcc, Cond.initialized RJ8, Cond.code yJ8_newLength_cabcc cJ8_newLength_cabcc 4 (some .int), Cond.methodLink RJ8 194 Lib.Math.max.name, Cond.constant RJ8 200 (2147483639), Cond.methodLink RJ8 201 yJ8_hugeLength_7cf53, Cond.static yJ8_hugeLength_7cf53, Cond.code yJ8_hugeLength_7cf53 cJ8_hugeLength_7cf53 3 (some .int), Cond.methodLink RJx4a65c 66 yJ7_copyOf_1904c, Cond.static yJ7_copyOf_1904c, Cond.initialized RJ7, Cond.code yJ7_copyOf_1904c cJ7_copyOf_1904c 2 (some (.array (.object "java/lang/Object"))), Cond.methodLink RJ7 86 ⟨"java/lang/Object", "getClass", "()Ljava/lang/Class;"⟩, Cond.selects "[Ljava/lang/Object;" ⟨"java/lang/Object", "getClass", "()Ljava/lang/Class;"⟩ ⟨"java/lang/Object", "getClass", "()Ljava/lang/Class;"⟩, Cond.instanceMethod ⟨"java/lang/Object", "getClass", "()Ljava/lang/Class;"⟩, Cond.native ⟨"java/lang/Object", "getClass", "()Ljava/lang/Class;"⟩, Cond.methodLink RJ7 300 yJ7_copyOf_6403c, Cond.static yJ7_copyOf_6403c, Cond.code yJ7_copyOf_6403c cJ7_copyOf_6403c 4 (some (.array (.object "java/lang/Object"))), Cond.classLink RJ7 110 "[Ljava/lang/Object;", Cond.classLink RJ7 2 "java/lang/Object"]
def wsL_hang_r5 : List Cond := [Cond.methodLink RJ7 304 Lib.Math.min.name, Cond.static Lib.Math.min.name, Cond.code Lib.Math.min.name Lib.Math.min.code 2 (some .int), Cond.methodLink RJ7 150 arraycopyName, Cond.native arraycopyName, Cond.static arraycopyName, Cond.initialized "java/lang/System", Cond.instanceMethod yX2_note, Cond.initialized RX2, Cond.selects RX2 yX2_note yX2_note, Cond.code yX2_note cX2_note 5 none, Cond.fieldLink RX2 15 "BoilerLog$Log" "count" "I", Cond.fieldLink RX2 11 "BoilerLog$Log" "codes" "[I", Cond.methodLink RX2 19 yJ7_copyOf_59c91, Cond.static yJ7_copyOf_59c91, Cond.code yJ7_copyOf_59c91 cJ7_copyOf_59c91 3 (some (.array .int)), Cond.methodLink RJ7 316 ⟨"[I", "clone", "()Ljava/lang/Object;"⟩, Cond.sameMethod "[I" "java/lang/Object" "clone" "()Ljava/lang/Object;", Cond.native ⟨"java/lang/Object", "clone", "()Ljava/lang/Object;"⟩, Cond.instanceMethod ⟨"java/lang/Object", "clone", "()Ljava/lang/Object;"⟩, Cond.selects "[I" ⟨"[I", "clone", "()Ljava/lang/Object;"⟩ ⟨"java/lang/Object", "clone", "()Ljava/lang/Object;"⟩, Cond.classLink RJ7 317 "[I", Cond.arrayClass .int]
def wsL_hang : List Cond := .codeWith yL_hang cL_hang 5 (some .int) [(0, 10, 13, 13), (0, 10, 17, 17)] :: ((wsL_hang_r1 ++ (wsL_hang_r2 ++ (wsL_hang_r3 ++ (wsL_hang_r4 ++ wsL_hang_r5)))) ++ wsX60 ++ wsX40 ++ wsJx4a65c0 ++ wsX20 ++ (vx_atS RX6 99 "java/lang/IllegalStateException" ["java/lang/RuntimeException", "java/lang/Exception"]).filter goodWord ++ (vx_atS RX6 204 "java/lang/IndexOutOfBoundsException" ["java/lang/RuntimeException", "java/lang/Exception"]).filter goodWord)
def wsL_takeOff_r1 : List Cond := [Cond.classLink RL 13 "java/lang/IndexOutOfBoundsException", Cond.classLink RL 17 "java/lang/IllegalStateException", Cond.methodLink RL 41 yX6_takeOff, Cond.instanceMethod yX6_takeOff, Cond.selects RX6 yX6_takeOff yX6_takeOff, Cond.initialized RX6, Cond.code yX6_takeOff cX6_takeOff 4 (some .boolean), Cond.classLink RX6 95 "java/lang/IllegalStateException", Cond.initialized "java/lang/IllegalStateException", Cond.fieldLink RX6 29 "BoilerLog" "tags" "Ljava/util/ArrayList;", Cond.classLink RX6 145 "BoilerLog$Tag", Cond.fieldLink RX6 19 "BoilerLog" "gone" "[Z", Cond.fieldLink RX6 45 "BoilerLog" "log" "LBoilerLog$Log;", Cond.fieldLink RX6 56 "BoilerLog" "now" "I", Cond.methodLink RX6 110 yX6_checkPerson, Cond.static yX6_checkPerson, Cond.code yX6_checkPerson cX6_checkPerson 1 none, Cond.classLink RX6 200 "java/lang/IndexOutOfBoundsException", Cond.initialized "java/lang/IndexOutOfBoundsException", Cond.methodLink RX6 158 yX6_checkTag, Cond.instanceMethod yX6_checkTag, Cond.selects RX6 yX6_checkTag yX6_checkTag, Cond.code yX6_checkTag cX6_checkTag 2 none, Cond.methodLink RX6 142 yJx4a65c_size_8abf5]
def wsL_takeOff_r2 : List Cond := [Cond.instanceMethod yJx4a65c_size_8abf5, Cond.selects RJx4a65c yJx4a65c_size_8abf5 yJx4a65c_size_8abf5, Cond.initialized RJx4a65c, Cond.code yJx4a65c_size_8abf5 cJx4a65c_size_8abf5 1 (some .int), Cond.fieldLink RJx4a65c 48 "java/util/ArrayList" "size" "I", Cond.methodLink RX6 161 yJx4a65c_get_915e3, Cond.instanceMethod yJx4a65c_get_915e3, Cond.selects RJx4a65c yJx4a65c_get_915e3 yJx4a65c_get_915e3, Cond.code yJx4a65c_get_915e3 cJx4a65c_get_915e3 2 (some (.object "java/lang/Object")), Cond.methodLink RJx4a65c 118 yJ15_checkIndex_7cf53, Cond.static yJ15_checkIndex_7cf53, Cond.initialized RJ15, Cond.code yJ15_checkIndex_7cf53 cJ15_checkIndex_7cf53 2 (some .int), Cond.methodLink RJ15 105 yJ3_checkIndex_8e157, Cond.static yJ3_checkIndex_8e157, Cond.initialized RJ3, Cond.code yJ3_checkIndex_8e157 cJ3_checkIndex_8e157 3 (some .int), Cond.methodLink RJx4a65c 123 yJx4a65c_elementData_915e3, Cond.instanceMethod yJx4a65c_elementData_915e3, Cond.selects RJx4a65c yJx4a65c_elementData_915e3 yJx4a65c_elementData_915e3, Cond.code yJx4a65c_elementData_915e3 cJx4a65c_elementData_915e3 2 (some (.object "java/lang/Object")), Cond.fieldLink RJx4a65c 9 "java/util/ArrayList" "elementData" "[Ljava/lang/Object;", Cond.methodLink RX6 139 yX6_isAble, Cond.instanceMethod yX6_isAble]
def wsL_takeOff_r3 : List Cond := [Cond.selects RX6 yX6_isAble yX6_isAble, Cond.code yX6_isAble cX6_isAble 2 (some .boolean), Cond.fieldLink RX6 23 "BoilerLog" "entriesRead" "[I", Cond.fieldLink RX6 60 "BoilerLog" "entriesAtShiftStart" "I", Cond.methodLink RX6 290 yX6_isOnDuty, Cond.instanceMethod yX6_isOnDuty, Cond.selects RX6 yX6_isOnDuty yX6_isOnDuty, Cond.code yX6_isOnDuty cX6_isOnDuty 2 (some .boolean), Cond.methodLink RX6 173 yX6_isFirstToAsk, Cond.static yX6_isFirstToAsk, Cond.code yX6_isFirstToAsk cX6_isFirstToAsk 2 (some .boolean), Cond.instanceMethod yX2_note, Cond.initialized RX2, Cond.selects RX2 yX2_note yX2_note, Cond.code yX2_note cX2_note 5 none, Cond.fieldLink RX2 15 "BoilerLog$Log" "count" "I", Cond.fieldLink RX2 11 "BoilerLog$Log" "codes" "[I", Cond.methodLink RX2 19 yJ7_copyOf_59c91, Cond.static yJ7_copyOf_59c91, Cond.initialized RJ7, Cond.code yJ7_copyOf_59c91 cJ7_copyOf_59c91 3 (some (.array .int)), Cond.methodLink RJ7 316 ⟨"[I", "clone", "()Ljava/lang/Object;"⟩, Cond.sameMethod "[I" "java/lang/Object" "clone" "()Ljava/lang/Object;", Cond.native ⟨"java/lang/Object", "clone", "()Ljava/lang/Object;"⟩]
def wsL_takeOff_r4 : List Cond := [Cond.instanceMethod ⟨"java/lang/Object", "clone", "()Ljava/lang/Object;"⟩, Cond.selects "[I" ⟨"[I", "clone", "()Ljava/lang/Object;"⟩ ⟨"java/lang/Object", "clone", "()Ljava/lang/Object;"⟩, Cond.classLink RJ7 317 "[I", Cond.arrayClass .int, Cond.methodLink RJ7 304 Lib.Math.min.name, Cond.static Lib.Math.min.name, Cond.initialized "java/lang/Math", Cond.code Lib.Math.min.name Lib.Math.min.code 2 (some .int), Cond.methodLink RJ7 150 arraycopyName, Cond.native arraycopyName, Cond.static arraycopyName, Cond.initialized "java/lang/System"]
def wsL_takeOff : List Cond := .codeWith yL_takeOff cL_takeOff 5 (some .int) [(0, 17, 20, 13), (0, 17, 24, 17)] :: ((wsL_takeOff_r1 ++ (wsL_takeOff_r2 ++ (wsL_takeOff_r3 ++ wsL_takeOff_r4))) ++ wsX60 ++ wsX40 ++ wsJx4a65c0 ++ wsX20 ++ (vx_atS RX6 99 "java/lang/IllegalStateException" ["java/lang/RuntimeException", "java/lang/Exception"]).filter goodWord ++ (vx_atS RX6 204 "java/lang/IndexOutOfBoundsException" ["java/lang/RuntimeException", "java/lang/Exception"]).filter goodWord)
def wsL_valveOf_r1 : List Cond := [Cond.classLink RL 13 "java/lang/IndexOutOfBoundsException", Cond.methodLink RL 45 yX6_valveOf, Cond.instanceMethod yX6_valveOf, Cond.selects RX6 yX6_valveOf yX6_valveOf, Cond.initialized RX6, Cond.code yX6_valveOf cX6_valveOf 3 (some .int), Cond.fieldLink RX6 29 "BoilerLog" "tags" "Ljava/util/ArrayList;", Cond.classLink RX6 145 "BoilerLog$Tag", Cond.methodLink RX6 158 yX6_checkTag, Cond.instanceMethod yX6_checkTag, Cond.selects RX6 yX6_checkTag yX6_checkTag, Cond.code yX6_checkTag cX6_checkTag 2 none, Cond.classLink RX6 200 "java/lang/IndexOutOfBoundsException", Cond.initialized "java/lang/IndexOutOfBoundsException", Cond.methodLink RX6 142 yJx4a65c_size_8abf5, Cond.instanceMethod yJx4a65c_size_8abf5, Cond.selects RJx4a65c yJx4a65c_size_8abf5 yJx4a65c_size_8abf5, Cond.initialized RJx4a65c, Cond.code yJx4a65c_size_8abf5 cJx4a65c_size_8abf5 1 (some .int), Cond.fieldLink RJx4a65c 48 "java/util/ArrayList" "size" "I", Cond.methodLink RX6 161 yJx4a65c_get_915e3, Cond.instanceMethod yJx4a65c_get_915e3, Cond.selects RJx4a65c yJx4a65c_get_915e3 yJx4a65c_get_915e3, Cond.code yJx4a65c_get_915e3 cJx4a65c_get_915e3 2 (some (.object "java/lang/Object"))]
def wsL_valveOf_r2 : List Cond := [Cond.methodLink RJx4a65c 118 yJ15_checkIndex_7cf53, Cond.static yJ15_checkIndex_7cf53, Cond.initialized RJ15, Cond.code yJ15_checkIndex_7cf53 cJ15_checkIndex_7cf53 2 (some .int), Cond.methodLink RJ15 105 yJ3_checkIndex_8e157, Cond.static yJ3_checkIndex_8e157, Cond.initialized RJ3, Cond.code yJ3_checkIndex_8e157 cJ3_checkIndex_8e157 3 (some .int), Cond.methodLink RJx4a65c 123 yJx4a65c_elementData_915e3, Cond.instanceMethod yJx4a65c_elementData_915e3, Cond.selects RJx4a65c yJx4a65c_elementData_915e3 yJx4a65c_elementData_915e3, Cond.code yJx4a65c_elementData_915e3 cJx4a65c_elementData_915e3 2 (some (.object "java/lang/Object")), Cond.fieldLink RJx4a65c 9 "java/util/ArrayList" "elementData" "[Ljava/lang/Object;"]
def wsL_valveOf : List Cond := .codeWith yL_valveOf cL_valveOf 4 (some .int) [(0, 9, 12, 13)] :: ((wsL_valveOf_r1 ++ wsL_valveOf_r2) ++ wsX60 ++ wsX40 ++ wsJx4a65c0 ++ (vx_atS RX6 204 "java/lang/IndexOutOfBoundsException" ["java/lang/RuntimeException", "java/lang/Exception"]).filter goodWord)
def wsL_ownerOf_r1 : List Cond := [Cond.classLink RL 13 "java/lang/IndexOutOfBoundsException", Cond.methodLink RL 48 yX6_ownerOf, Cond.instanceMethod yX6_ownerOf, Cond.selects RX6 yX6_ownerOf yX6_ownerOf, Cond.initialized RX6, Cond.code yX6_ownerOf cX6_ownerOf 2 (some .int), Cond.fieldLink RX6 29 "BoilerLog" "tags" "Ljava/util/ArrayList;", Cond.classLink RX6 145 "BoilerLog$Tag", Cond.methodLink RX6 158 yX6_checkTag, Cond.instanceMethod yX6_checkTag, Cond.selects RX6 yX6_checkTag yX6_checkTag, Cond.code yX6_checkTag cX6_checkTag 2 none, Cond.classLink RX6 200 "java/lang/IndexOutOfBoundsException", Cond.initialized "java/lang/IndexOutOfBoundsException", Cond.methodLink RX6 142 yJx4a65c_size_8abf5, Cond.instanceMethod yJx4a65c_size_8abf5, Cond.selects RJx4a65c yJx4a65c_size_8abf5 yJx4a65c_size_8abf5, Cond.initialized RJx4a65c, Cond.code yJx4a65c_size_8abf5 cJx4a65c_size_8abf5 1 (some .int), Cond.fieldLink RJx4a65c 48 "java/util/ArrayList" "size" "I", Cond.methodLink RX6 161 yJx4a65c_get_915e3, Cond.instanceMethod yJx4a65c_get_915e3, Cond.selects RJx4a65c yJx4a65c_get_915e3 yJx4a65c_get_915e3, Cond.code yJx4a65c_get_915e3 cJx4a65c_get_915e3 2 (some (.object "java/lang/Object"))]
def wsL_ownerOf_r2 : List Cond := [Cond.methodLink RJx4a65c 118 yJ15_checkIndex_7cf53, Cond.static yJ15_checkIndex_7cf53, Cond.initialized RJ15, Cond.code yJ15_checkIndex_7cf53 cJ15_checkIndex_7cf53 2 (some .int), Cond.methodLink RJ15 105 yJ3_checkIndex_8e157, Cond.static yJ3_checkIndex_8e157, Cond.initialized RJ3, Cond.code yJ3_checkIndex_8e157 cJ3_checkIndex_8e157 3 (some .int), Cond.methodLink RJx4a65c 123 yJx4a65c_elementData_915e3, Cond.instanceMethod yJx4a65c_elementData_915e3, Cond.selects RJx4a65c yJx4a65c_elementData_915e3 yJx4a65c_elementData_915e3, Cond.code yJx4a65c_elementData_915e3 cJx4a65c_elementData_915e3 2 (some (.object "java/lang/Object")), Cond.fieldLink RJx4a65c 9 "java/util/ArrayList" "elementData" "[Ljava/lang/Object;"]
def wsL_ownerOf : List Cond := .codeWith yL_ownerOf cL_ownerOf 4 (some .int) [(0, 9, 12, 13)] :: ((wsL_ownerOf_r1 ++ wsL_ownerOf_r2) ++ wsX60 ++ wsX40 ++ wsJx4a65c0 ++ (vx_atS RX6 204 "java/lang/IndexOutOfBoundsException" ["java/lang/RuntimeException", "java/lang/Exception"]).filter goodWord)
def wsL_tagsByLog_r1 : List Cond := [Cond.classLink RL 13 "java/lang/IndexOutOfBoundsException", Cond.methodLink RL 51 yX6_tagsByLog, Cond.instanceMethod yX6_tagsByLog, Cond.selects RX6 yX6_tagsByLog yX6_tagsByLog, Cond.initialized RX6, Cond.code yX6_tagsByLog cX6_tagsByLog 5 (some .int), Cond.fieldLink RX6 45 "BoilerLog" "log" "LBoilerLog$Log;", Cond.methodLink RX6 76 yX6_checkValve, Cond.static yX6_checkValve, Cond.code yX6_checkValve cX6_checkValve 1 none, Cond.classLink RX6 200 "java/lang/IndexOutOfBoundsException", Cond.initialized "java/lang/IndexOutOfBoundsException", Cond.instanceMethod yX2_size, Cond.initialized RX2, Cond.selects RX2 yX2_size yX2_size, Cond.code yX2_size cX2_size 1 (some .int), Cond.fieldLink RX2 15 "BoilerLog$Log" "count" "I", Cond.instanceMethod yX2_kindAt, Cond.selects RX2 yX2_kindAt yX2_kindAt, Cond.code yX2_kindAt cX2_kindAt 2 (some .int), Cond.fieldLink RX2 11 "BoilerLog$Log" "codes" "[I", Cond.instanceMethod yX2_whatAt, Cond.selects RX2 yX2_whatAt yX2_whatAt, Cond.code yX2_whatAt cX2_whatAt 2 (some .int)]
def wsL_tagsByLog_r2 : List Cond := [Cond.methodLink RX6 186 yX6_wasHungOn, Cond.instanceMethod yX6_wasHungOn, Cond.selects RX6 yX6_wasHungOn yX6_wasHungOn, Cond.code yX6_wasHungOn cX6_wasHungOn 3 (some .boolean), Cond.fieldLink RX6 29 "BoilerLog" "tags" "Ljava/util/ArrayList;", Cond.classLink RX6 145 "BoilerLog$Tag", Cond.methodLink RX6 142 yJx4a65c_size_8abf5, Cond.instanceMethod yJx4a65c_size_8abf5, Cond.selects RJx4a65c yJx4a65c_size_8abf5 yJx4a65c_size_8abf5, Cond.initialized RJx4a65c, Cond.code yJx4a65c_size_8abf5 cJx4a65c_size_8abf5 1 (some .int), Cond.fieldLink RJx4a65c 48 "java/util/ArrayList" "size" "I", Cond.methodLink RX6 161 yJx4a65c_get_915e3, Cond.instanceMethod yJx4a65c_get_915e3, Cond.selects RJx4a65c yJx4a65c_get_915e3 yJx4a65c_get_915e3, Cond.code yJx4a65c_get_915e3 cJx4a65c_get_915e3 2 (some (.object "java/lang/Object")), Cond.methodLink RJx4a65c 118 yJ15_checkIndex_7cf53, Cond.static yJ15_checkIndex_7cf53, Cond.initialized RJ15, Cond.code yJ15_checkIndex_7cf53 cJ15_checkIndex_7cf53 2 (some .int), Cond.methodLink RJ15 105 yJ3_checkIndex_8e157, Cond.static yJ3_checkIndex_8e157, Cond.initialized RJ3, Cond.code yJ3_checkIndex_8e157 cJ3_checkIndex_8e157 3 (some .int)]
def wsL_tagsByLog_r3 : List Cond := [Cond.methodLink RJx4a65c 123 yJx4a65c_elementData_915e3, Cond.instanceMethod yJx4a65c_elementData_915e3, Cond.selects RJx4a65c yJx4a65c_elementData_915e3 yJx4a65c_elementData_915e3, Cond.code yJx4a65c_elementData_915e3 cJx4a65c_elementData_915e3 2 (some (.object "java/lang/Object")), Cond.fieldLink RJx4a65c 9 "java/util/ArrayList" "elementData" "[Ljava/lang/Object;"]
def wsL_tagsByLog : List Cond := .codeWith yL_tagsByLog cL_tagsByLog 4 (some .int) [(0, 9, 12, 13)] :: ((wsL_tagsByLog_r1 ++ (wsL_tagsByLog_r2 ++ wsL_tagsByLog_r3)) ++ wsX60 ++ wsX20 ++ wsX40 ++ wsJx4a65c0 ++ (vx_atS RX6 204 "java/lang/IndexOutOfBoundsException" ["java/lang/RuntimeException", "java/lang/Exception"]).filter goodWord)
def wsL_read_r1 : List Cond := [Cond.classLink RL 13 "java/lang/IndexOutOfBoundsException", Cond.classLink RL 17 "java/lang/IllegalStateException", Cond.methodLink RL 54 yX6_read, Cond.instanceMethod yX6_read, Cond.selects RX6 yX6_read yX6_read, Cond.initialized RX6, Cond.code yX6_read cX6_read 3 (some .int), Cond.fieldLink RX6 45 "BoilerLog" "log" "LBoilerLog$Log;", Cond.fieldLink RX6 23 "BoilerLog" "entriesRead" "[I", Cond.methodLink RX6 110 yX6_checkPerson, Cond.static yX6_checkPerson, Cond.code yX6_checkPerson cX6_checkPerson 1 none, Cond.classLink RX6 200 "java/lang/IndexOutOfBoundsException", Cond.initialized "java/lang/IndexOutOfBoundsException", Cond.methodLink RX6 190 yX6_checkNotGone, Cond.instanceMethod yX6_checkNotGone, Cond.selects RX6 yX6_checkNotGone yX6_checkNotGone, Cond.code yX6_checkNotGone cX6_checkNotGone 2 none, Cond.classLink RX6 95 "java/lang/IllegalStateException", Cond.initialized "java/lang/IllegalStateException", Cond.fieldLink RX6 19 "BoilerLog" "gone" "[Z", Cond.instanceMethod yX2_size, Cond.initialized RX2, Cond.selects RX2 yX2_size yX2_size]
def wsL_read_r2 : List Cond := [Cond.code yX2_size cX2_size 1 (some .int), Cond.fieldLink RX2 15 "BoilerLog$Log" "count" "I"]
def wsL_read : List Cond := .codeWith yL_read cL_read 4 (some .int) [(0, 9, 12, 13), (0, 9, 15, 17)] :: ((wsL_read_r1 ++ wsL_read_r2) ++ wsX60 ++ wsX20 ++ (vx_atS RX6 204 "java/lang/IndexOutOfBoundsException" ["java/lang/RuntimeException", "java/lang/Exception"]).filter goodWord ++ (vx_atS RX6 99 "java/lang/IllegalStateException" ["java/lang/RuntimeException", "java/lang/Exception"]).filter goodWord)
def wsL_leave_r1 : List Cond := [Cond.classLink RL 13 "java/lang/IndexOutOfBoundsException", Cond.classLink RL 17 "java/lang/IllegalStateException", Cond.methodLink RL 57 yX6_leave, Cond.instanceMethod yX6_leave, Cond.selects RX6 yX6_leave yX6_leave, Cond.initialized RX6, Cond.code yX6_leave cX6_leave 5 (some .int), Cond.fieldLink RX6 19 "BoilerLog" "gone" "[Z", Cond.fieldLink RX6 45 "BoilerLog" "log" "LBoilerLog$Log;", Cond.fieldLink RX6 56 "BoilerLog" "now" "I", Cond.fieldLink RX6 29 "BoilerLog" "tags" "Ljava/util/ArrayList;", Cond.classLink RX6 145 "BoilerLog$Tag", Cond.methodLink RX6 110 yX6_checkPerson, Cond.static yX6_checkPerson, Cond.code yX6_checkPerson cX6_checkPerson 1 none, Cond.classLink RX6 200 "java/lang/IndexOutOfBoundsException", Cond.initialized "java/lang/IndexOutOfBoundsException", Cond.methodLink RX6 190 yX6_checkNotGone, Cond.instanceMethod yX6_checkNotGone, Cond.selects RX6 yX6_checkNotGone yX6_checkNotGone, Cond.code yX6_checkNotGone cX6_checkNotGone 2 none, Cond.classLink RX6 95 "java/lang/IllegalStateException", Cond.initialized "java/lang/IllegalStateException", Cond.instanceMethod yX2_note]
def wsL_leave_r2 : List Cond := [Cond.initialized RX2, Cond.selects RX2 yX2_note yX2_note, Cond.code yX2_note cX2_note 5 none, Cond.fieldLink RX2 15 "BoilerLog$Log" "count" "I", Cond.fieldLink RX2 11 "BoilerLog$Log" "codes" "[I", Cond.methodLink RX2 19 yJ7_copyOf_59c91, Cond.static yJ7_copyOf_59c91, Cond.initialized RJ7, Cond.code yJ7_copyOf_59c91 cJ7_copyOf_59c91 3 (some (.array .int)), Cond.methodLink RJ7 316 ⟨"[I", "clone", "()Ljava/lang/Object;"⟩, Cond.sameMethod "[I" "java/lang/Object" "clone" "()Ljava/lang/Object;", Cond.native ⟨"java/lang/Object", "clone", "()Ljava/lang/Object;"⟩, Cond.instanceMethod ⟨"java/lang/Object", "clone", "()Ljava/lang/Object;"⟩, Cond.selects "[I" ⟨"[I", "clone", "()Ljava/lang/Object;"⟩ ⟨"java/lang/Object", "clone", "()Ljava/lang/Object;"⟩, Cond.classLink RJ7 317 "[I", Cond.arrayClass .int, Cond.methodLink RJ7 304 Lib.Math.min.name, Cond.static Lib.Math.min.name, Cond.initialized "java/lang/Math", Cond.code Lib.Math.min.name Lib.Math.min.code 2 (some .int), Cond.methodLink RJ7 150 arraycopyName, Cond.native arraycopyName, Cond.static arraycopyName, Cond.initialized "java/lang/System"]
def wsL_leave_r3 : List Cond := [Cond.methodLink RX6 142 yJx4a65c_size_8abf5, Cond.instanceMethod yJx4a65c_size_8abf5, Cond.selects RJx4a65c yJx4a65c_size_8abf5 yJx4a65c_size_8abf5, Cond.initialized RJx4a65c, Cond.code yJx4a65c_size_8abf5 cJx4a65c_size_8abf5 1 (some .int), Cond.fieldLink RJx4a65c 48 "java/util/ArrayList" "size" "I", Cond.methodLink RX6 161 yJx4a65c_get_915e3, Cond.instanceMethod yJx4a65c_get_915e3, Cond.selects RJx4a65c yJx4a65c_get_915e3 yJx4a65c_get_915e3, Cond.code yJx4a65c_get_915e3 cJx4a65c_get_915e3 2 (some (.object "java/lang/Object")), Cond.methodLink RJx4a65c 118 yJ15_checkIndex_7cf53, Cond.static yJ15_checkIndex_7cf53, Cond.initialized RJ15, Cond.code yJ15_checkIndex_7cf53 cJ15_checkIndex_7cf53 2 (some .int), Cond.methodLink RJ15 105 yJ3_checkIndex_8e157, Cond.static yJ3_checkIndex_8e157, Cond.initialized RJ3, Cond.code yJ3_checkIndex_8e157 cJ3_checkIndex_8e157 3 (some .int), Cond.methodLink RJx4a65c 123 yJx4a65c_elementData_915e3, Cond.instanceMethod yJx4a65c_elementData_915e3, Cond.selects RJx4a65c yJx4a65c_elementData_915e3 yJx4a65c_elementData_915e3, Cond.code yJx4a65c_elementData_915e3 cJx4a65c_elementData_915e3 2 (some (.object "java/lang/Object")), Cond.fieldLink RJx4a65c 9 "java/util/ArrayList" "elementData" "[Ljava/lang/Object;"]
def wsL_leave : List Cond := .codeWith yL_leave cL_leave 4 (some .int) [(0, 9, 12, 13), (0, 9, 15, 17)] :: ((wsL_leave_r1 ++ (wsL_leave_r2 ++ wsL_leave_r3)) ++ wsX60 ++ wsX40 ++ wsX20 ++ wsJx4a65c0 ++ (vx_atS RX6 204 "java/lang/IndexOutOfBoundsException" ["java/lang/RuntimeException", "java/lang/Exception"]).filter goodWord ++ (vx_atS RX6 99 "java/lang/IllegalStateException" ["java/lang/RuntimeException", "java/lang/Exception"]).filter goodWord)
def wsL_canAct : List Cond := .codeWith yL_canAct cL_canAct 4 (some .int) [(0, 16, 19, 13)] :: ([.classLink RL 13 "java/lang/IndexOutOfBoundsException", .methodLink RL 60 yX6_canAct, .instanceMethod yX6_canAct, .selects RX6 yX6_canAct yX6_canAct, .initialized RX6, .code yX6_canAct cX6_canAct 2 (some .boolean), .methodLink RX6 110 yX6_checkPerson, .static yX6_checkPerson, .code yX6_checkPerson cX6_checkPerson 1 none, .classLink RX6 200 "java/lang/IndexOutOfBoundsException", .initialized "java/lang/IndexOutOfBoundsException", .methodLink RX6 139 yX6_isAble, .instanceMethod yX6_isAble, .selects RX6 yX6_isAble yX6_isAble, .code yX6_isAble cX6_isAble 2 (some .boolean), .fieldLink RX6 23 "BoilerLog" "entriesRead" "[I", .fieldLink RX6 60 "BoilerLog" "entriesAtShiftStart" "I", .methodLink RX6 290 yX6_isOnDuty, .instanceMethod yX6_isOnDuty, .selects RX6 yX6_isOnDuty yX6_isOnDuty, .code yX6_isOnDuty cX6_isOnDuty 2 (some .boolean), .fieldLink RX6 19 "BoilerLog" "gone" "[Z", .fieldLink RX6 56 "BoilerLog" "now" "I"] ++ wsX60 ++ (vx_atS RX6 204 "java/lang/IndexOutOfBoundsException" ["java/lang/RuntimeException", "java/lang/Exception"]).filter goodWord)
def wsL_advance_r1 : List Cond := [Cond.classLink RL 15 "java/lang/IllegalArgumentException", Cond.classLink RL 17 "java/lang/IllegalStateException", Cond.methodLink RL 63 yX6_advance, Cond.instanceMethod yX6_advance, Cond.selects RX6 yX6_advance yX6_advance, Cond.initialized RX6, Cond.code yX6_advance cX6_advance 3 (some .int), Cond.classLink RX6 84 "java/lang/IllegalArgumentException", Cond.initialized "java/lang/IllegalArgumentException", Cond.classLink RX6 95 "java/lang/IllegalStateException", Cond.initialized "java/lang/IllegalStateException", Cond.fieldLink RX6 56 "BoilerLog" "now" "I", Cond.methodLink RX6 197 yX6_endHour, Cond.instanceMethod yX6_endHour, Cond.selects RX6 yX6_endHour yX6_endHour, Cond.code yX6_endHour cX6_endHour 2 none, Cond.fieldLink RX6 11 "BoilerLog" "valves" "[LBoilerLog$Valve;", Cond.fieldLink RX6 33 "BoilerLog" "alarms" "Ljava/util/ArrayList;", Cond.fieldLink RX6 45 "BoilerLog" "log" "LBoilerLog$Log;", Cond.fieldLink RX6 60 "BoilerLog" "entriesAtShiftStart" "I", Cond.methodLink RX6 300 yX6_leadOn, Cond.instanceMethod yX6_leadOn, Cond.selects RX6 yX6_leadOn yX6_leadOn, Cond.code yX6_leadOn cX6_leadOn 5 none]
def wsL_advance_r2 : List Cond := [Cond.fieldLink RX6 15 "BoilerLog" "levels" "[I", Cond.methodLink RX6 306 Lib.Math.min.name, Cond.static Lib.Math.min.name, Cond.initialized "java/lang/Math", Cond.code Lib.Math.min.name Lib.Math.min.code 2 (some .int), Cond.fieldLink RX6 63 "BoilerLog" "lost" "I", Cond.methodLink RX6 275 yX6_isVessel, Cond.static yX6_isVessel, Cond.code yX6_isVessel cX6_isVessel 1 (some .boolean), Cond.methodLink RX6 142 yJx4a65c_size_8abf5, Cond.instanceMethod yJx4a65c_size_8abf5, Cond.selects RJx4a65c yJx4a65c_size_8abf5 yJx4a65c_size_8abf5, Cond.initialized RJx4a65c, Cond.code yJx4a65c_size_8abf5 cJx4a65c_size_8abf5 1 (some .int), Cond.fieldLink RJx4a65c 48 "java/util/ArrayList" "size" "I", Cond.methodLink RX6 303 yX6_watch, Cond.instanceMethod yX6_watch, Cond.selects RX6 yX6_watch yX6_watch, Cond.code yX6_watch cX6_watch 3 none, Cond.classLink RX6 212 "BoilerLog$Alarm", Cond.methodLink RX6 161 yJx4a65c_get_915e3, Cond.instanceMethod yJx4a65c_get_915e3, Cond.selects RJx4a65c yJx4a65c_get_915e3 yJx4a65c_get_915e3, Cond.code yJx4a65c_get_915e3 cJx4a65c_get_915e3 2 (some (.object "java/lang/Object"))]
def wsL_advance_r3 : List Cond := [Cond.methodLink RJx4a65c 118 yJ15_checkIndex_7cf53, Cond.static yJ15_checkIndex_7cf53, Cond.initialized RJ15, Cond.code yJ15_checkIndex_7cf53 cJ15_checkIndex_7cf53 2 (some .int), Cond.methodLink RJ15 105 yJ3_checkIndex_8e157, Cond.static yJ3_checkIndex_8e157, Cond.initialized RJ3, Cond.code yJ3_checkIndex_8e157 cJ3_checkIndex_8e157 3 (some .int), Cond.methodLink RJx4a65c 123 yJx4a65c_elementData_915e3, Cond.instanceMethod yJx4a65c_elementData_915e3, Cond.selects RJx4a65c yJx4a65c_elementData_915e3 yJx4a65c_elementData_915e3, Cond.code yJx4a65c_elementData_915e3 cJx4a65c_elementData_915e3 2 (some (.object "java/lang/Object")), Cond.fieldLink RJx4a65c 9 "java/util/ArrayList" "elementData" "[Ljava/lang/Object;", Cond.instanceMethod yX0_isMetBy, Cond.initialized RX0, Cond.selects RX0 yX0_isMetBy yX0_isMetBy, Cond.code yX0_isMetBy cX0_isMetBy 2 (some .boolean), Cond.fieldLink RX0 21 "BoilerLog$Alarm" "high" "Z", Cond.fieldLink RX0 18 "BoilerLog$Alarm" "limit" "I", Cond.instanceMethod yX2_note, Cond.initialized RX2, Cond.selects RX2 yX2_note yX2_note, Cond.code yX2_note cX2_note 5 none, Cond.fieldLink RX2 15 "BoilerLog$Log" "count" "I"]
def wsL_advance_r4 : List Cond := [Cond.fieldLink RX2 11 "BoilerLog$Log" "codes" "[I", Cond.methodLink RX2 19 yJ7_copyOf_59c91, Cond.static yJ7_copyOf_59c91, Cond.initialized RJ7, Cond.code yJ7_copyOf_59c91 cJ7_copyOf_59c91 3 (some (.array .int)), Cond.methodLink RJ7 316 ⟨"[I", "clone", "()Ljava/lang/Object;"⟩, Cond.sameMethod "[I" "java/lang/Object" "clone" "()Ljava/lang/Object;", Cond.native ⟨"java/lang/Object", "clone", "()Ljava/lang/Object;"⟩, Cond.instanceMethod ⟨"java/lang/Object", "clone", "()Ljava/lang/Object;"⟩, Cond.selects "[I" ⟨"[I", "clone", "()Ljava/lang/Object;"⟩ ⟨"java/lang/Object", "clone", "()Ljava/lang/Object;"⟩, Cond.classLink RJ7 317 "[I", Cond.arrayClass .int, Cond.methodLink RJ7 304 Lib.Math.min.name, Cond.methodLink RJ7 150 arraycopyName, Cond.native arraycopyName, Cond.static arraycopyName, Cond.initialized "java/lang/System", Cond.methodLink RX6 293 yX6_hasTagOfAnother, Cond.instanceMethod yX6_hasTagOfAnother, Cond.selects RX6 yX6_hasTagOfAnother yX6_hasTagOfAnother, Cond.code yX6_hasTagOfAnother cX6_hasTagOfAnother 5 (some .boolean), Cond.fieldLink RX6 29 "BoilerLog" "tags" "Ljava/util/ArrayList;", Cond.classLink RX6 145 "BoilerLog$Tag", Cond.methodLink RX6 119 yX6_setValve]
def wsL_advance_r5 : List Cond := [Cond.instanceMethod yX6_setValve, Cond.selects RX6 yX6_setValve yX6_setValve, Cond.code yX6_setValve cX6_setValve 5 (some .boolean), Cond.instanceMethod yX2_noteTurn, Cond.selects RX2 yX2_noteTurn yX2_noteTurn, Cond.code yX2_noteTurn cX2_noteTurn 5 none, Cond.methodLink RX2 25 yX2_note, Cond.instanceMethod yX2_size, Cond.selects RX2 yX2_size yX2_size, Cond.code yX2_size cX2_size 1 (some .int)]
def wsL_advance : List Cond := .codeWith yL_advance cL_advance 4 (some .int) [(0, 9, 12, 15), (0, 9, 15, 17)] :: ((wsL_advance_r1 ++ (wsL_advance_r2 ++ (wsL_advance_r3 ++ (wsL_advance_r4 ++ wsL_advance_r5)))) ++ wsX60 ++ wsX50 ++ wsJx4a65c0 ++ wsX00 ++ wsX20 ++ wsX40 ++ (vx_atS RX6 88 "java/lang/IllegalArgumentException" ["java/lang/RuntimeException", "java/lang/Exception"]).filter goodWord ++ (vx_atS RX6 99 "java/lang/IllegalStateException" ["java/lang/RuntimeException", "java/lang/Exception"]).filter goodWord)
def wsL_entryAt : List Cond := .codeWith yL_entryAt cL_entryAt 4 (some .int) [(0, 9, 12, 13)] :: ([.classLink RL 13 "java/lang/IndexOutOfBoundsException", .methodLink RL 66 yX6_entryAt, .instanceMethod yX6_entryAt, .selects RX6 yX6_entryAt yX6_entryAt, .initialized RX6, .code yX6_entryAt cX6_entryAt 2 (some .int), .classLink RX6 200 "java/lang/IndexOutOfBoundsException", .initialized "java/lang/IndexOutOfBoundsException", .fieldLink RX6 45 "BoilerLog" "log" "LBoilerLog$Log;", .instanceMethod yX2_size, .initialized RX2, .selects RX2 yX2_size yX2_size, .code yX2_size cX2_size 1 (some .int), .fieldLink RX2 15 "BoilerLog$Log" "count" "I", .instanceMethod yX2_codeAt, .selects RX2 yX2_codeAt yX2_codeAt, .code yX2_codeAt cX2_codeAt 2 (some .int), .fieldLink RX2 11 "BoilerLog$Log" "codes" "[I"] ++ wsX60 ++ wsX20 ++ (vx_atS RX6 204 "java/lang/IndexOutOfBoundsException" ["java/lang/RuntimeException", "java/lang/Exception"]).filter goodWord)
def wsL_alarm_r1 : List Cond := [Cond.classLink RL 13 "java/lang/IndexOutOfBoundsException", Cond.classLink RL 15 "java/lang/IllegalArgumentException", Cond.classLink RL 17 "java/lang/IllegalStateException", Cond.methodLink RL 69 yX6_alarm, Cond.instanceMethod yX6_alarm, Cond.selects RX6 yX6_alarm yX6_alarm, Cond.initialized RX6, Cond.code yX6_alarm cX6_alarm 6 (some .int), Cond.classLink RX6 84 "java/lang/IllegalArgumentException", Cond.initialized "java/lang/IllegalArgumentException", Cond.classLink RX6 95 "java/lang/IllegalStateException", Cond.initialized "java/lang/IllegalStateException", Cond.fieldLink RX6 33 "BoilerLog" "alarms" "Ljava/util/ArrayList;", Cond.classLink RX6 212 RX0, Cond.instantiable RX0 6, Cond.initialized RX0, Cond.methodLink RX6 136 yX6_checkVessel, Cond.static yX6_checkVessel, Cond.code yX6_checkVessel cX6_checkVessel 1 none, Cond.classLink RX6 200 "java/lang/IndexOutOfBoundsException", Cond.initialized "java/lang/IndexOutOfBoundsException", Cond.methodLink RX6 275 yX6_isVessel, Cond.static yX6_isVessel, Cond.code yX6_isVessel cX6_isVessel 1 (some .boolean)]
def wsL_alarm_r2 : List Cond := [Cond.methodLink RX6 76 yX6_checkValve, Cond.static yX6_checkValve, Cond.code yX6_checkValve cX6_checkValve 1 none, Cond.methodLink RX6 142 yJx4a65c_size_8abf5, Cond.instanceMethod yJx4a65c_size_8abf5, Cond.selects RJx4a65c yJx4a65c_size_8abf5 yJx4a65c_size_8abf5, Cond.initialized RJx4a65c, Cond.code yJx4a65c_size_8abf5 cJx4a65c_size_8abf5 1 (some .int), Cond.fieldLink RJx4a65c 48 "java/util/ArrayList" "size" "I", Cond.instanceMethod yX0_init, Cond.code yX0_init cX0_init 6 none, Cond.methodLink RX0 3 objectInit, Cond.instanceMethod objectInit, Cond.code objectInit ⟨#[0xb1]⟩ 1 none, Cond.fieldLink RX0 9 "BoilerLog$Alarm" "state" "I", Cond.fieldLink RX0 15 "BoilerLog$Alarm" "vessel" "I", Cond.fieldLink RX0 18 "BoilerLog$Alarm" "limit" "I", Cond.fieldLink RX0 21 "BoilerLog$Alarm" "high" "Z", Cond.fieldLink RX0 25 "BoilerLog$Alarm" "valve" "I", Cond.fieldLink RX0 28 "BoilerLog$Alarm" "opens" "Z", Cond.methodLink RX6 150 yJx4a65c_add_9ea2d, Cond.instanceMethod yJx4a65c_add_9ea2d, Cond.selects RJx4a65c yJx4a65c_add_9ea2d yJx4a65c_add_9ea2d, Cond.code yJx4a65c_add_9ea2d cJx4a65c_add_9ea2d 2 (some .boolean)]
def wsL_alarm_r3 : List Cond := [Cond.fieldLink RJx4a65c 63 "java/util/ArrayList" "modCount" "I", Cond.sameField "java/util/ArrayList" "java/util/AbstractList" "modCount" "I", Cond.fieldLink RJx4a65c 9 "java/util/ArrayList" "elementData" "[Ljava/lang/Object;", Cond.methodLink RJx4a65c 131 yJx4a65c_add_72be8, Cond.instanceMethod yJx4a65c_add_72be8, Cond.selects RJx4a65c yJx4a65c_add_72be8 yJx4a65c_add_72be8, Cond.code yJx4a65c_add_72be8 cJx4a65c_add_72be8 4 none, Cond.methodLink RJx4a65c 129 yJx4a65c_grow_d5877, Cond.instanceMethod yJx4a65c_grow_d5877, Cond.selects RJx4a65c yJx4a65c_grow_d5877 yJx4a65c_grow_d5877, Cond.code yJx4a65c_grow_d5877 cJx4a65c_grow_d5877 1 (some (.array (.object "java/lang/Object"))), Cond.methodLink RJx4a65c 69 yJx4a65c_grow_92f84, Cond.instanceMethod yJx4a65c_grow_92f84, Cond.selects RJx4a65c yJx4a65c_grow_92f84 yJx4a65c_grow_92f84, Cond.code yJx4a65c_grow_92f84 cJx4a65c_grow_92f84 4 (some (.array (.object "java/lang/Object"))), Cond.fieldLink RJx4a65c 39 "java/util/ArrayList" "DEFAULTCAPACITY_EMPTY_ELEMENTDATA" "[Ljava/lang/Object;", Cond.methodLink RJx4a65c 79 Lib.Math.max.name, Cond.static Lib.Math.max.name, Cond.initialized "java/lang/Math", Cond.code Lib.Math.max.name Lib.Math.max.code 2 (some .int), Cond.classLink RJx4a65c 7 "java/lang/Object", Cond.methodLink RJx4a65c 73 yJ8_newLength_cabcc, Cond.static yJ8_newLength_cabcc, Cond.initialized RJ8]
def wsL_alarm_r4 : List Cond := [Cond.code yJ8_newLength_cabcc cJ8_newLength_cabcc 4 (some .int), Cond.methodLink RJ8 194 Lib.Math.max.name, Cond.constant RJ8 200 (2147483639), Cond.methodLink RJ8 201 yJ8_hugeLength_7cf53, Cond.static yJ8_hugeLength_7cf53, Cond.code yJ8_hugeLength_7cf53 cJ8_hugeLength_7cf53 3 (some .int), Cond.methodLink RJx4a65c 66 yJ7_copyOf_1904c, Cond.static yJ7_copyOf_1904c, Cond.initialized RJ7, Cond.code yJ7_copyOf_1904c cJ7_copyOf_1904c 2 (some (.array (.object "java/lang/Object"))), Cond.methodLink RJ7 86 ⟨"java/lang/Object", "getClass", "()Ljava/lang/Class;"⟩, Cond.selects "[Ljava/lang/Object;" ⟨"java/lang/Object", "getClass", "()Ljava/lang/Class;"⟩ ⟨"java/lang/Object", "getClass", "()Ljava/lang/Class;"⟩, Cond.instanceMethod ⟨"java/lang/Object", "getClass", "()Ljava/lang/Class;"⟩, Cond.native ⟨"java/lang/Object", "getClass", "()Ljava/lang/Class;"⟩, Cond.methodLink RJ7 300 yJ7_copyOf_6403c, Cond.static yJ7_copyOf_6403c, Cond.code yJ7_copyOf_6403c cJ7_copyOf_6403c 4 (some (.array (.object "java/lang/Object"))), Cond.classLink RJ7 110 "[Ljava/lang/Object;", Cond.classLink RJ7 2 "java/lang/Object", Cond.methodLink RJ7 304 Lib.Math.min.name, Cond.static Lib.Math.min.name, Cond.code Lib.Math.min.name Lib.Math.min.code 2 (some .int), Cond.methodLink RJ7 150 arraycopyName, Cond.native arraycopyName]
def wsL_alarm_r5 : List Cond := [Cond.static arraycopyName, Cond.initialized "java/lang/System"]
def wsL_alarm : List Cond := .codeWith yL_alarm cL_alarm 8 (some .int) [(0, 16, 19, 13), (0, 16, 23, 15), (0, 16, 27, 17)] :: ((wsL_alarm_r1 ++ (wsL_alarm_r2 ++ (wsL_alarm_r3 ++ (wsL_alarm_r4 ++ wsL_alarm_r5)))) ++ wsX60 ++ wsX00 ++ wsJx4a65c0 ++ (vx_atS RX6 88 "java/lang/IllegalArgumentException" ["java/lang/RuntimeException", "java/lang/Exception"]).filter goodWord ++ (vx_atS RX6 99 "java/lang/IllegalStateException" ["java/lang/RuntimeException", "java/lang/Exception"]).filter goodWord ++ (vx_atS RX6 204 "java/lang/IndexOutOfBoundsException" ["java/lang/RuntimeException", "java/lang/Exception"]).filter goodWord)
def wsL_stateOf_r1 : List Cond := [Cond.classLink RL 13 "java/lang/IndexOutOfBoundsException", Cond.methodLink RL 73 yX6_stateOf, Cond.instanceMethod yX6_stateOf, Cond.selects RX6 yX6_stateOf yX6_stateOf, Cond.initialized RX6, Cond.code yX6_stateOf cX6_stateOf 2 (some .int), Cond.classLink RX6 200 "java/lang/IndexOutOfBoundsException", Cond.initialized "java/lang/IndexOutOfBoundsException", Cond.fieldLink RX6 33 "BoilerLog" "alarms" "Ljava/util/ArrayList;", Cond.classLink RX6 212 "BoilerLog$Alarm", Cond.methodLink RX6 142 yJx4a65c_size_8abf5, Cond.instanceMethod yJx4a65c_size_8abf5, Cond.selects RJx4a65c yJx4a65c_size_8abf5 yJx4a65c_size_8abf5, Cond.initialized RJx4a65c, Cond.code yJx4a65c_size_8abf5 cJx4a65c_size_8abf5 1 (some .int), Cond.fieldLink RJx4a65c 48 "java/util/ArrayList" "size" "I", Cond.methodLink RX6 161 yJx4a65c_get_915e3, Cond.instanceMethod yJx4a65c_get_915e3, Cond.selects RJx4a65c yJx4a65c_get_915e3 yJx4a65c_get_915e3, Cond.code yJx4a65c_get_915e3 cJx4a65c_get_915e3 2 (some (.object "java/lang/Object")), Cond.methodLink RJx4a65c 118 yJ15_checkIndex_7cf53, Cond.static yJ15_checkIndex_7cf53, Cond.initialized RJ15, Cond.code yJ15_checkIndex_7cf53 cJ15_checkIndex_7cf53 2 (some .int)]
def wsL_stateOf_r2 : List Cond := [Cond.methodLink RJ15 105 yJ3_checkIndex_8e157, Cond.static yJ3_checkIndex_8e157, Cond.initialized RJ3, Cond.code yJ3_checkIndex_8e157 cJ3_checkIndex_8e157 3 (some .int), Cond.methodLink RJx4a65c 123 yJx4a65c_elementData_915e3, Cond.instanceMethod yJx4a65c_elementData_915e3, Cond.selects RJx4a65c yJx4a65c_elementData_915e3 yJx4a65c_elementData_915e3, Cond.code yJx4a65c_elementData_915e3 cJx4a65c_elementData_915e3 2 (some (.object "java/lang/Object")), Cond.fieldLink RJx4a65c 9 "java/util/ArrayList" "elementData" "[Ljava/lang/Object;"]
def wsL_stateOf : List Cond := .codeWith yL_stateOf cL_stateOf 4 (some .int) [(0, 9, 12, 13)] :: ((wsL_stateOf_r1 ++ wsL_stateOf_r2) ++ wsX60 ++ wsX00 ++ wsJx4a65c0 ++ (vx_atS RX6 204 "java/lang/IndexOutOfBoundsException" ["java/lang/RuntimeException", "java/lang/Exception"]).filter goodWord)
def wsL_insert : List Cond := .codeWith yL_insert cL_insert 5 (some .int) [(0, 10, 13, 15), (0, 10, 17, 17)] :: ([.classLink RL 15 "java/lang/IllegalArgumentException", .classLink RL 17 "java/lang/IllegalStateException", .methodLink RL 76 yX6_insert, .instanceMethod yX6_insert, .selects RX6 yX6_insert yX6_insert, .initialized RX6, .code yX6_insert cX6_insert 3 (some .int), .classLink RX6 84 "java/lang/IllegalArgumentException", .initialized "java/lang/IllegalArgumentException", .classLink RX6 95 "java/lang/IllegalStateException", .initialized "java/lang/IllegalStateException", .fieldLink RX6 52 "BoilerLog" "draft" "LBoilerLog$Draft;", .instanceMethod yX1_length, .initialized RX1, .selects RX1 yX1_length yX1_length, .code yX1_length cX1_length 1 (some .int), .fieldLink RX1 15 "BoilerLog$Draft" "count" "I", .instanceMethod yX1_put, .selects RX1 yX1_put yX1_put, .code yX1_put cX1_put 4 none, .fieldLink RX1 9 "BoilerLog$Draft" "characters" "[C"] ++ wsX60 ++ wsX10 ++ (vx_atS RX6 88 "java/lang/IllegalArgumentException" ["java/lang/RuntimeException", "java/lang/Exception"]).filter goodWord ++ (vx_atS RX6 99 "java/lang/IllegalStateException" ["java/lang/RuntimeException", "java/lang/Exception"]).filter goodWord)
def wsL_post_r1 : List Cond := [Cond.classLink RL 13 "java/lang/IndexOutOfBoundsException", Cond.classLink RL 17 "java/lang/IllegalStateException", Cond.methodLink RL 80 yX6_post, Cond.instanceMethod yX6_post, Cond.selects RX6 yX6_post yX6_post, Cond.initialized RX6, Cond.code yX6_post cX6_post 5 (some .int), Cond.classLink RX6 95 "java/lang/IllegalStateException", Cond.initialized "java/lang/IllegalStateException", Cond.fieldLink RX6 52 "BoilerLog" "draft" "LBoilerLog$Draft;", Cond.fieldLink RX6 36 "BoilerLog" "posted" "Ljava/util/ArrayList;", Cond.classLink RX6 245 RX3, Cond.instantiable RX3 1, Cond.initialized RX3, Cond.fieldLink RX6 66 "BoilerLog" "threads" "I", Cond.methodLink RX6 110 yX6_checkPerson, Cond.static yX6_checkPerson, Cond.code yX6_checkPerson cX6_checkPerson 1 none, Cond.classLink RX6 200 "java/lang/IndexOutOfBoundsException", Cond.initialized "java/lang/IndexOutOfBoundsException", Cond.methodLink RX6 240 yX6_checkThread, Cond.instanceMethod yX6_checkThread, Cond.selects RX6 yX6_checkThread yX6_checkThread, Cond.code yX6_checkThread cX6_checkThread 2 none]
def wsL_post_r2 : List Cond := [Cond.methodLink RX6 190 yX6_checkNotGone, Cond.instanceMethod yX6_checkNotGone, Cond.selects RX6 yX6_checkNotGone yX6_checkNotGone, Cond.code yX6_checkNotGone cX6_checkNotGone 2 none, Cond.fieldLink RX6 19 "BoilerLog" "gone" "[Z", Cond.instanceMethod yX1_isComplete, Cond.initialized RX1, Cond.selects RX1 yX1_isComplete yX1_isComplete, Cond.code yX1_isComplete cX1_isComplete 3 (some .boolean), Cond.fieldLink RX1 15 "BoilerLog$Draft" "count" "I", Cond.fieldLink RX1 9 "BoilerLog$Draft" "characters" "[C", Cond.methodLink RX1 19 yX1_isLow, Cond.static yX1_isLow, Cond.code yX1_isLow cX1_isLow 1 (some .boolean), Cond.constant RX1 35 (56320), Cond.constant RX1 36 (57344), Cond.methodLink RX1 23 yX1_isHigh, Cond.static yX1_isHigh, Cond.code yX1_isHigh cX1_isHigh 1 (some .boolean), Cond.constant RX1 34 (55296), Cond.methodLink RX6 142 yJx4a65c_size_8abf5, Cond.instanceMethod yJx4a65c_size_8abf5, Cond.selects RJx4a65c yJx4a65c_size_8abf5 yJx4a65c_size_8abf5, Cond.initialized RJx4a65c]
def wsL_post_r3 : List Cond := [Cond.code yJx4a65c_size_8abf5 cJx4a65c_size_8abf5 1 (some .int), Cond.fieldLink RJx4a65c 48 "java/util/ArrayList" "size" "I", Cond.instanceMethod yX1_toSigns, Cond.selects RX1 yX1_toSigns yX1_toSigns, Cond.code yX1_toSigns cX1_toSigns 5 (some (.array .int)), Cond.arrayClass .int, Cond.methodLink RX1 26 yX1_countHigh, Cond.instanceMethod yX1_countHigh, Cond.selects RX1 yX1_countHigh yX1_countHigh, Cond.code yX1_countHigh cX1_countHigh 3 (some .int), Cond.methodLink RX1 30 yX1_join, Cond.static yX1_join, Cond.code yX1_join cX1_join 2 (some .int), Cond.constant RX1 37 (65536), Cond.instanceMethod yX3_init, Cond.code yX3_init cX3_init 2 none, Cond.methodLink RX3 3 objectInit, Cond.instanceMethod objectInit, Cond.code objectInit ⟨#[0xb1]⟩ 1 none, Cond.fieldLink RX3 9 "BoilerLog$Message" "content" "[I", Cond.methodLink RX6 150 yJx4a65c_add_9ea2d, Cond.instanceMethod yJx4a65c_add_9ea2d, Cond.selects RJx4a65c yJx4a65c_add_9ea2d yJx4a65c_add_9ea2d, Cond.code yJx4a65c_add_9ea2d cJx4a65c_add_9ea2d 2 (some .boolean)]
def wsL_post_r4 : List Cond := [Cond.fieldLink RJx4a65c 63 "java/util/ArrayList" "modCount" "I", Cond.sameField "java/util/ArrayList" "java/util/AbstractList" "modCount" "I", Cond.fieldLink RJx4a65c 9 "java/util/ArrayList" "elementData" "[Ljava/lang/Object;", Cond.methodLink RJx4a65c 131 yJx4a65c_add_72be8, Cond.instanceMethod yJx4a65c_add_72be8, Cond.selects RJx4a65c yJx4a65c_add_72be8 yJx4a65c_add_72be8, Cond.code yJx4a65c_add_72be8 cJx4a65c_add_72be8 4 none, Cond.methodLink RJx4a65c 129 yJx4a65c_grow_d5877, Cond.instanceMethod yJx4a65c_grow_d5877, Cond.selects RJx4a65c yJx4a65c_grow_d5877 yJx4a65c_grow_d5877, Cond.code yJx4a65c_grow_d5877 cJx4a65c_grow_d5877 1 (some (.array (.object "java/lang/Object"))), Cond.methodLink RJx4a65c 69 yJx4a65c_grow_92f84, Cond.instanceMethod yJx4a65c_grow_92f84, Cond.selects RJx4a65c yJx4a65c_grow_92f84 yJx4a65c_grow_92f84, Cond.code yJx4a65c_grow_92f84 cJx4a65c_grow_92f84 4 (some (.array (.object "java/lang/Object"))), Cond.fieldLink RJx4a65c 39 "java/util/ArrayList" "DEFAULTCAPACITY_EMPTY_ELEMENTDATA" "[Ljava/lang/Object;", Cond.methodLink RJx4a65c 79 Lib.Math.max.name, Cond.static Lib.Math.max.name, Cond.initialized "java/lang/Math", Cond.code Lib.Math.max.name Lib.Math.max.code 2 (some .int), Cond.classLink RJx4a65c 7 "java/lang/Object", Cond.methodLink RJx4a65c 73 yJ8_newLength_cabcc, Cond.static yJ8_newLength_cabcc, Cond.initialized RJ8]
def wsL_post_r5 : List Cond := [Cond.code yJ8_newLength_cabcc cJ8_newLength_cabcc 4 (some .int), Cond.methodLink RJ8 194 Lib.Math.max.name, Cond.constant RJ8 200 (2147483639), Cond.methodLink RJ8 201 yJ8_hugeLength_7cf53, Cond.static yJ8_hugeLength_7cf53, Cond.code yJ8_hugeLength_7cf53 cJ8_hugeLength_7cf53 3 (some .int), Cond.methodLink RJx4a65c 66 yJ7_copyOf_1904c, Cond.static yJ7_copyOf_1904c, Cond.initialized RJ7, Cond.code yJ7_copyOf_1904c cJ7_copyOf_1904c 2 (some (.array (.object "java/lang/Object"))), Cond.methodLink RJ7 86 ⟨"java/lang/Object", "getClass", "()Ljava/lang/Class;"⟩, Cond.selects "[Ljava/lang/Object;" ⟨"java/lang/Object", "getClass", "()Ljava/lang/Class;"⟩ ⟨"java/lang/Object", "getClass", "()Ljava/lang/Class;"⟩, Cond.instanceMethod ⟨"java/lang/Object", "getClass", "()Ljava/lang/Class;"⟩, Cond.native ⟨"java/lang/Object", "getClass", "()Ljava/lang/Class;"⟩, Cond.methodLink RJ7 300 yJ7_copyOf_6403c, Cond.static yJ7_copyOf_6403c, Cond.code yJ7_copyOf_6403c cJ7_copyOf_6403c 4 (some (.array (.object "java/lang/Object"))), Cond.classLink RJ7 110 "[Ljava/lang/Object;", Cond.classLink RJ7 2 "java/lang/Object", Cond.methodLink RJ7 304 Lib.Math.min.name, Cond.static Lib.Math.min.name, Cond.code Lib.Math.min.name Lib.Math.min.code 2 (some .int), Cond.methodLink RJ7 150 arraycopyName, Cond.native arraycopyName]
def wsL_post_r6 : List Cond := [Cond.static arraycopyName, Cond.initialized "java/lang/System", Cond.instanceMethod yX1_wipe, Cond.selects RX1 yX1_wipe yX1_wipe, Cond.code yX1_wipe cX1_wipe 1 none, Cond.instanceMethod yX3_personCalled, Cond.selects RX3 yX3_personCalled yX3_personCalled, Cond.code yX3_personCalled cX3_personCalled 3 (some .int), Cond.methodLink RX6 257 yX6_assign, Cond.instanceMethod yX6_assign, Cond.selects RX6 yX6_assign yX6_assign, Cond.code yX6_assign cX6_assign 3 none, Cond.fieldLink RX6 39 "BoilerLog" "tasks" "[I", Cond.fieldLink RX6 45 "BoilerLog" "log" "LBoilerLog$Log;", Cond.fieldLink RX6 56 "BoilerLog" "now" "I", Cond.instanceMethod yX2_note, Cond.initialized RX2, Cond.selects RX2 yX2_note yX2_note, Cond.code yX2_note cX2_note 5 none, Cond.fieldLink RX2 15 "BoilerLog$Log" "count" "I", Cond.fieldLink RX2 11 "BoilerLog$Log" "codes" "[I", Cond.methodLink RX2 19 yJ7_copyOf_59c91, Cond.static yJ7_copyOf_59c91, Cond.code yJ7_copyOf_59c91 cJ7_copyOf_59c91 3 (some (.array .int))]
def wsL_post_r7 : List Cond := [Cond.methodLink RJ7 316 ⟨"[I", "clone", "()Ljava/lang/Object;"⟩, Cond.sameMethod "[I" "java/lang/Object" "clone" "()Ljava/lang/Object;", Cond.native ⟨"java/lang/Object", "clone", "()Ljava/lang/Object;"⟩, Cond.instanceMethod ⟨"java/lang/Object", "clone", "()Ljava/lang/Object;"⟩, Cond.selects "[I" ⟨"[I", "clone", "()Ljava/lang/Object;"⟩ ⟨"java/lang/Object", "clone", "()Ljava/lang/Object;"⟩, Cond.classLink RJ7 317 "[I"]
def wsL_post : List Cond := .codeWith yL_post cL_post 5 (some .int) [(0, 10, 13, 13), (0, 10, 17, 17)] :: ((wsL_post_r1 ++ (wsL_post_r2 ++ (wsL_post_r3 ++ (wsL_post_r4 ++ (wsL_post_r5 ++ (wsL_post_r6 ++ wsL_post_r7)))))) ++ wsX60 ++ wsX30 ++ wsX10 ++ wsJx4a65c0 ++ wsX20 ++ (vx_atS RX6 99 "java/lang/IllegalStateException" ["java/lang/RuntimeException", "java/lang/Exception"]).filter goodWord ++ (vx_atS RX6 204 "java/lang/IndexOutOfBoundsException" ["java/lang/RuntimeException", "java/lang/Exception"]).filter goodWord)
def wsL_finish_r1 : List Cond := [Cond.classLink RL 13 "java/lang/IndexOutOfBoundsException", Cond.classLink RL 17 "java/lang/IllegalStateException", Cond.methodLink RL 83 yX6_finish, Cond.instanceMethod yX6_finish, Cond.selects RX6 yX6_finish yX6_finish, Cond.initialized RX6, Cond.code yX6_finish cX6_finish 3 none, Cond.classLink RX6 95 "java/lang/IllegalStateException", Cond.initialized "java/lang/IllegalStateException", Cond.fieldLink RX6 39 "BoilerLog" "tasks" "[I", Cond.fieldLink RX6 45 "BoilerLog" "log" "LBoilerLog$Log;", Cond.fieldLink RX6 56 "BoilerLog" "now" "I", Cond.methodLink RX6 110 yX6_checkPerson, Cond.static yX6_checkPerson, Cond.code yX6_checkPerson cX6_checkPerson 1 none, Cond.classLink RX6 200 "java/lang/IndexOutOfBoundsException", Cond.initialized "java/lang/IndexOutOfBoundsException", Cond.methodLink RX6 240 yX6_checkThread, Cond.instanceMethod yX6_checkThread, Cond.selects RX6 yX6_checkThread yX6_checkThread, Cond.code yX6_checkThread cX6_checkThread 2 none, Cond.fieldLink RX6 66 "BoilerLog" "threads" "I", Cond.methodLink RX6 190 yX6_checkNotGone, Cond.instanceMethod yX6_checkNotGone]
def wsL_finish_r2 : List Cond := [Cond.selects RX6 yX6_checkNotGone yX6_checkNotGone, Cond.code yX6_checkNotGone cX6_checkNotGone 2 none, Cond.fieldLink RX6 19 "BoilerLog" "gone" "[Z", Cond.instanceMethod yX2_note, Cond.initialized RX2, Cond.selects RX2 yX2_note yX2_note, Cond.code yX2_note cX2_note 5 none, Cond.fieldLink RX2 15 "BoilerLog$Log" "count" "I", Cond.fieldLink RX2 11 "BoilerLog$Log" "codes" "[I", Cond.methodLink RX2 19 yJ7_copyOf_59c91, Cond.static yJ7_copyOf_59c91, Cond.initialized RJ7, Cond.code yJ7_copyOf_59c91 cJ7_copyOf_59c91 3 (some (.array .int)), Cond.methodLink RJ7 316 ⟨"[I", "clone", "()Ljava/lang/Object;"⟩, Cond.sameMethod "[I" "java/lang/Object" "clone" "()Ljava/lang/Object;", Cond.native ⟨"java/lang/Object", "clone", "()Ljava/lang/Object;"⟩, Cond.instanceMethod ⟨"java/lang/Object", "clone", "()Ljava/lang/Object;"⟩, Cond.selects "[I" ⟨"[I", "clone", "()Ljava/lang/Object;"⟩ ⟨"java/lang/Object", "clone", "()Ljava/lang/Object;"⟩, Cond.classLink RJ7 317 "[I", Cond.arrayClass .int, Cond.methodLink RJ7 304 Lib.Math.min.name, Cond.static Lib.Math.min.name, Cond.initialized "java/lang/Math", Cond.code Lib.Math.min.name Lib.Math.min.code 2 (some .int)]
def wsL_finish_r3 : List Cond := [Cond.methodLink RJ7 150 arraycopyName, Cond.native arraycopyName, Cond.static arraycopyName, Cond.initialized "java/lang/System"]
def wsL_finish : List Cond := .codeWith yL_finish cL_finish 4 (some .int) [(0, 6, 9, 13), (0, 6, 12, 17)] :: ((wsL_finish_r1 ++ (wsL_finish_r2 ++ wsL_finish_r3)) ++ wsX60 ++ wsX20 ++ (vx_atS RX6 99 "java/lang/IllegalStateException" ["java/lang/RuntimeException", "java/lang/Exception"]).filter goodWord ++ (vx_atS RX6 204 "java/lang/IndexOutOfBoundsException" ["java/lang/RuntimeException", "java/lang/Exception"]).filter goodWord)
def wsL_taskOf : List Cond := .codeWith yL_taskOf cL_taskOf 4 (some .int) [(0, 9, 12, 13)] :: ([.classLink RL 13 "java/lang/IndexOutOfBoundsException", .methodLink RL 87 yX6_taskOf, .instanceMethod yX6_taskOf, .selects RX6 yX6_taskOf yX6_taskOf, .initialized RX6, .code yX6_taskOf cX6_taskOf 2 (some .int), .fieldLink RX6 39 "BoilerLog" "tasks" "[I", .methodLink RX6 240 yX6_checkThread, .instanceMethod yX6_checkThread, .selects RX6 yX6_checkThread yX6_checkThread, .code yX6_checkThread cX6_checkThread 2 none, .classLink RX6 200 "java/lang/IndexOutOfBoundsException", .initialized "java/lang/IndexOutOfBoundsException", .fieldLink RX6 66 "BoilerLog" "threads" "I"] ++ wsX60 ++ (vx_atS RX6 204 "java/lang/IndexOutOfBoundsException" ["java/lang/RuntimeException", "java/lang/Exception"]).filter goodWord)
def wsL_signs_r1 : List Cond := [Cond.classLink RL 13 "java/lang/IndexOutOfBoundsException", Cond.methodLink RL 90 yX6_signs, Cond.instanceMethod yX6_signs, Cond.selects RX6 yX6_signs yX6_signs, Cond.initialized RX6, Cond.code yX6_signs cX6_signs 2 (some .int), Cond.fieldLink RX6 36 "BoilerLog" "posted" "Ljava/util/ArrayList;", Cond.classLink RX6 245 "BoilerLog$Message", Cond.methodLink RX6 262 yX6_checkMessage, Cond.instanceMethod yX6_checkMessage, Cond.selects RX6 yX6_checkMessage yX6_checkMessage, Cond.code yX6_checkMessage cX6_checkMessage 2 none, Cond.classLink RX6 200 "java/lang/IndexOutOfBoundsException", Cond.initialized "java/lang/IndexOutOfBoundsException", Cond.methodLink RX6 142 yJx4a65c_size_8abf5, Cond.instanceMethod yJx4a65c_size_8abf5, Cond.selects RJx4a65c yJx4a65c_size_8abf5 yJx4a65c_size_8abf5, Cond.initialized RJx4a65c, Cond.code yJx4a65c_size_8abf5 cJx4a65c_size_8abf5 1 (some .int), Cond.fieldLink RJx4a65c 48 "java/util/ArrayList" "size" "I", Cond.methodLink RX6 161 yJx4a65c_get_915e3, Cond.instanceMethod yJx4a65c_get_915e3, Cond.selects RJx4a65c yJx4a65c_get_915e3 yJx4a65c_get_915e3, Cond.code yJx4a65c_get_915e3 cJx4a65c_get_915e3 2 (some (.object "java/lang/Object"))]
def wsL_signs_r2 : List Cond := [Cond.methodLink RJx4a65c 118 yJ15_checkIndex_7cf53, Cond.static yJ15_checkIndex_7cf53, Cond.initialized RJ15, Cond.code yJ15_checkIndex_7cf53 cJ15_checkIndex_7cf53 2 (some .int), Cond.methodLink RJ15 105 yJ3_checkIndex_8e157, Cond.static yJ3_checkIndex_8e157, Cond.initialized RJ3, Cond.code yJ3_checkIndex_8e157 cJ3_checkIndex_8e157 3 (some .int), Cond.methodLink RJx4a65c 123 yJx4a65c_elementData_915e3, Cond.instanceMethod yJx4a65c_elementData_915e3, Cond.selects RJx4a65c yJx4a65c_elementData_915e3 yJx4a65c_elementData_915e3, Cond.code yJx4a65c_elementData_915e3 cJx4a65c_elementData_915e3 2 (some (.object "java/lang/Object")), Cond.fieldLink RJx4a65c 9 "java/util/ArrayList" "elementData" "[Ljava/lang/Object;", Cond.instanceMethod yX3_length, Cond.initialized RX3, Cond.selects RX3 yX3_length yX3_length, Cond.code yX3_length cX3_length 1 (some .int), Cond.fieldLink RX3 9 "BoilerLog$Message" "content" "[I"]
def wsL_signs : List Cond := .codeWith yL_signs cL_signs 4 (some .int) [(0, 9, 12, 13)] :: ((wsL_signs_r1 ++ wsL_signs_r2) ++ wsX60 ++ wsJx4a65c0 ++ wsX30 ++ (vx_atS RX6 204 "java/lang/IndexOutOfBoundsException" ["java/lang/RuntimeException", "java/lang/Exception"]).filter goodWord)
def wsL_signAt_r1 : List Cond := [Cond.classLink RL 13 "java/lang/IndexOutOfBoundsException", Cond.methodLink RL 93 yX6_signAt, Cond.instanceMethod yX6_signAt, Cond.selects RX6 yX6_signAt yX6_signAt, Cond.initialized RX6, Cond.code yX6_signAt cX6_signAt 3 (some .int), Cond.fieldLink RX6 36 "BoilerLog" "posted" "Ljava/util/ArrayList;", Cond.classLink RX6 245 "BoilerLog$Message", Cond.methodLink RX6 262 yX6_checkMessage, Cond.instanceMethod yX6_checkMessage, Cond.selects RX6 yX6_checkMessage yX6_checkMessage, Cond.code yX6_checkMessage cX6_checkMessage 2 none, Cond.classLink RX6 200 "java/lang/IndexOutOfBoundsException", Cond.initialized "java/lang/IndexOutOfBoundsException", Cond.methodLink RX6 142 yJx4a65c_size_8abf5, Cond.instanceMethod yJx4a65c_size_8abf5, Cond.selects RJx4a65c yJx4a65c_size_8abf5 yJx4a65c_size_8abf5, Cond.initialized RJx4a65c, Cond.code yJx4a65c_size_8abf5 cJx4a65c_size_8abf5 1 (some .int), Cond.fieldLink RJx4a65c 48 "java/util/ArrayList" "size" "I", Cond.methodLink RX6 266 yX6_checkPlace, Cond.static yX6_checkPlace, Cond.code yX6_checkPlace cX6_checkPlace 1 none, Cond.methodLink RX6 161 yJx4a65c_get_915e3]
def wsL_signAt_r2 : List Cond := [Cond.instanceMethod yJx4a65c_get_915e3, Cond.selects RJx4a65c yJx4a65c_get_915e3 yJx4a65c_get_915e3, Cond.code yJx4a65c_get_915e3 cJx4a65c_get_915e3 2 (some (.object "java/lang/Object")), Cond.methodLink RJx4a65c 118 yJ15_checkIndex_7cf53, Cond.static yJ15_checkIndex_7cf53, Cond.initialized RJ15, Cond.code yJ15_checkIndex_7cf53 cJ15_checkIndex_7cf53 2 (some .int), Cond.methodLink RJ15 105 yJ3_checkIndex_8e157, Cond.static yJ3_checkIndex_8e157, Cond.initialized RJ3, Cond.code yJ3_checkIndex_8e157 cJ3_checkIndex_8e157 3 (some .int), Cond.methodLink RJx4a65c 123 yJx4a65c_elementData_915e3, Cond.instanceMethod yJx4a65c_elementData_915e3, Cond.selects RJx4a65c yJx4a65c_elementData_915e3 yJx4a65c_elementData_915e3, Cond.code yJx4a65c_elementData_915e3 cJx4a65c_elementData_915e3 2 (some (.object "java/lang/Object")), Cond.fieldLink RJx4a65c 9 "java/util/ArrayList" "elementData" "[Ljava/lang/Object;", Cond.instanceMethod yX3_get, Cond.initialized RX3, Cond.selects RX3 yX3_get yX3_get, Cond.code yX3_get cX3_get 2 (some .int), Cond.fieldLink RX3 9 "BoilerLog$Message" "content" "[I"]
def wsL_signAt : List Cond := .codeWith yL_signAt cL_signAt 5 (some .int) [(0, 10, 13, 13)] :: ((wsL_signAt_r1 ++ wsL_signAt_r2) ++ wsX60 ++ wsJx4a65c0 ++ wsX30 ++ (vx_atS RX6 204 "java/lang/IndexOutOfBoundsException" ["java/lang/RuntimeException", "java/lang/Exception"]).filter goodWord)
def wsL_signBack_r1 : List Cond := [Cond.classLink RL 13 "java/lang/IndexOutOfBoundsException", Cond.methodLink RL 96 yX6_signBack, Cond.instanceMethod yX6_signBack, Cond.selects RX6 yX6_signBack yX6_signBack, Cond.initialized RX6, Cond.code yX6_signBack cX6_signBack 4 (some .int), Cond.fieldLink RX6 36 "BoilerLog" "posted" "Ljava/util/ArrayList;", Cond.classLink RX6 245 "BoilerLog$Message", Cond.methodLink RX6 262 yX6_checkMessage, Cond.instanceMethod yX6_checkMessage, Cond.selects RX6 yX6_checkMessage yX6_checkMessage, Cond.code yX6_checkMessage cX6_checkMessage 2 none, Cond.classLink RX6 200 "java/lang/IndexOutOfBoundsException", Cond.initialized "java/lang/IndexOutOfBoundsException", Cond.methodLink RX6 142 yJx4a65c_size_8abf5, Cond.instanceMethod yJx4a65c_size_8abf5, Cond.selects RJx4a65c yJx4a65c_size_8abf5 yJx4a65c_size_8abf5, Cond.initialized RJx4a65c, Cond.code yJx4a65c_size_8abf5 cJx4a65c_size_8abf5 1 (some .int), Cond.fieldLink RJx4a65c 48 "java/util/ArrayList" "size" "I", Cond.methodLink RX6 266 yX6_checkPlace, Cond.static yX6_checkPlace, Cond.code yX6_checkPlace cX6_checkPlace 1 none, Cond.methodLink RX6 161 yJx4a65c_get_915e3]
def wsL_signBack_r2 : List Cond := [Cond.instanceMethod yJx4a65c_get_915e3, Cond.selects RJx4a65c yJx4a65c_get_915e3 yJx4a65c_get_915e3, Cond.code yJx4a65c_get_915e3 cJx4a65c_get_915e3 2 (some (.object "java/lang/Object")), Cond.methodLink RJx4a65c 118 yJ15_checkIndex_7cf53, Cond.static yJ15_checkIndex_7cf53, Cond.initialized RJ15, Cond.code yJ15_checkIndex_7cf53 cJ15_checkIndex_7cf53 2 (some .int), Cond.methodLink RJ15 105 yJ3_checkIndex_8e157, Cond.static yJ3_checkIndex_8e157, Cond.initialized RJ3, Cond.code yJ3_checkIndex_8e157 cJ3_checkIndex_8e157 3 (some .int), Cond.methodLink RJx4a65c 123 yJx4a65c_elementData_915e3, Cond.instanceMethod yJx4a65c_elementData_915e3, Cond.selects RJx4a65c yJx4a65c_elementData_915e3 yJx4a65c_elementData_915e3, Cond.code yJx4a65c_elementData_915e3 cJx4a65c_elementData_915e3 2 (some (.object "java/lang/Object")), Cond.fieldLink RJx4a65c 9 "java/util/ArrayList" "elementData" "[Ljava/lang/Object;", Cond.instanceMethod yX3_length, Cond.initialized RX3, Cond.selects RX3 yX3_length yX3_length, Cond.code yX3_length cX3_length 1 (some .int), Cond.fieldLink RX3 9 "BoilerLog$Message" "content" "[I", Cond.instanceMethod yX3_get, Cond.selects RX3 yX3_get yX3_get, Cond.code yX3_get cX3_get 2 (some .int)]
def wsL_signBack : List Cond := .codeWith yL_signBack cL_signBack 5 (some .int) [(0, 10, 13, 13)] :: ((wsL_signBack_r1 ++ wsL_signBack_r2) ++ wsX60 ++ wsJx4a65c0 ++ wsX30 ++ (vx_atS RX6 204 "java/lang/IndexOutOfBoundsException" ["java/lang/RuntimeException", "java/lang/Exception"]).filter goodWord)
def wsL_law0_r1 : List Cond := [Cond.classLink RL 8 RX6, Cond.instantiable RX6 14, Cond.initialized RX6, Cond.classLink RL 100 RX7, Cond.instantiable RX7 32, Cond.initialized RX7, Cond.arrayClass .long, Cond.methodLink RL 99 yX6_init, Cond.instanceMethod yX6_init, Cond.code yX6_init cX6_init 2 none, Cond.methodLink RX6 1 objectInit, Cond.instanceMethod objectInit, Cond.code objectInit ⟨#[0xb1]⟩ 1 none, Cond.classLink RX6 9 RX5, Cond.fieldLink RX6 11 "BoilerLog" "valves" "[LBoilerLog$Valve;", Cond.arrayClass .int, Cond.fieldLink RX6 15 "BoilerLog" "levels" "[I", Cond.arrayClass .boolean, Cond.fieldLink RX6 19 "BoilerLog" "gone" "[Z", Cond.fieldLink RX6 23 "BoilerLog" "entriesRead" "[I", Cond.classLink RX6 26 RJx4a65c, Cond.instantiable RJx4a65c 3, Cond.initialized RJx4a65c, Cond.fieldLink RX6 29 "BoilerLog" "tags" "Ljava/util/ArrayList;"]
def wsL_law0_r2 : List Cond := [Cond.fieldLink RX6 33 "BoilerLog" "alarms" "Ljava/util/ArrayList;", Cond.fieldLink RX6 36 "BoilerLog" "posted" "Ljava/util/ArrayList;", Cond.fieldLink RX6 39 "BoilerLog" "tasks" "[I", Cond.classLink RX6 42 RX2, Cond.instantiable RX2 2, Cond.initialized RX2, Cond.fieldLink RX6 45 "BoilerLog" "log" "LBoilerLog$Log;", Cond.classLink RX6 49 RX1, Cond.instantiable RX1 2, Cond.initialized RX1, Cond.fieldLink RX6 52 "BoilerLog" "draft" "LBoilerLog$Draft;", Cond.fieldLink RX6 56 "BoilerLog" "now" "I", Cond.fieldLink RX6 60 "BoilerLog" "entriesAtShiftStart" "I", Cond.fieldLink RX6 63 "BoilerLog" "lost" "I", Cond.fieldLink RX6 66 "BoilerLog" "threads" "I", Cond.instantiable RX5 3, Cond.initialized RX5, Cond.methodLink RX6 28 yJx4a65c_init_da8c8, Cond.instanceMethod yJx4a65c_init_da8c8, Cond.code yJx4a65c_init_da8c8 cJx4a65c_init_da8c8 1 none, Cond.fieldLink RJx4a65c 39 "java/util/ArrayList" "DEFAULTCAPACITY_EMPTY_ELEMENTDATA" "[Ljava/lang/Object;", Cond.fieldLink RJx4a65c 9 "java/util/ArrayList" "elementData" "[Ljava/lang/Object;", Cond.methodLink RJx4a65c 1 yJxc12de_init_da8c8, Cond.instanceMethod yJxc12de_init_da8c8]
def wsL_law0_r3 : List Cond := [Cond.initialized RJxc12de, Cond.code yJxc12de_init_da8c8 cJxc12de_init_da8c8 1 none, Cond.fieldLink RJxc12de 7 "java/util/AbstractList" "modCount" "I", Cond.methodLink RJxc12de 1 yJxa1e45_init_da8c8, Cond.instanceMethod yJxa1e45_init_da8c8, Cond.initialized RJxa1e45, Cond.code yJxa1e45_init_da8c8 cJxa1e45_init_da8c8 1 none, Cond.methodLink RJxa1e45 1 objectInit, Cond.instanceMethod yX2_init, Cond.code yX2_init cX2_init 1 none, Cond.methodLink RX2 3 objectInit, Cond.fieldLink RX2 11 "BoilerLog$Log" "codes" "[I", Cond.fieldLink RX2 15 "BoilerLog$Log" "count" "I", Cond.instanceMethod yX1_init, Cond.code yX1_init cX1_init 1 none, Cond.methodLink RX1 3 objectInit, Cond.arrayClass .char, Cond.fieldLink RX1 9 "BoilerLog$Draft" "characters" "[C", Cond.fieldLink RX1 15 "BoilerLog$Draft" "count" "I", Cond.instanceMethod yX5_init, Cond.code yX5_init cX5_init 1 none, Cond.methodLink RX5 3 objectInit, Cond.fieldLink RX5 9 "BoilerLog$Valve" "open" "Z", Cond.fieldLink RX5 15 "BoilerLog$Valve" "from" "I"]
def wsL_law0_r4 : List Cond := [Cond.fieldLink RX5 19 "BoilerLog$Valve" "to" "I", Cond.methodLink RX6 70 yJ7_fill_53178, Cond.static yJ7_fill_53178, Cond.initialized RJ7, Cond.code yJ7_fill_53178 cJ7_fill_53178 4 none, Cond.methodLink RL 102 yX7_init, Cond.instanceMethod yX7_init, Cond.code yX7_init cX7_init 1 none, Cond.methodLink RX7 1 objectInit, Cond.fieldLink RX7 7 "BoilerLogModel" "entry" "[J", Cond.fieldLink RX7 13 "BoilerLogModel" "hasRead" "[I", Cond.fieldLink RX7 17 "BoilerLogModel" "hasLeft" "[Z", Cond.fieldLink RX7 21 "BoilerLogModel" "isOpen" "[Z", Cond.fieldLink RX7 24 "BoilerLogModel" "from" "[I", Cond.fieldLink RX7 27 "BoilerLogModel" "to" "[I", Cond.fieldLink RX7 30 "BoilerLogModel" "level" "[I", Cond.fieldLink RX7 33 "BoilerLogModel" "hangsOn" "[I", Cond.fieldLink RX7 36 "BoilerLogModel" "owner" "[I", Cond.fieldLink RX7 39 "BoilerLogModel" "asked" "[I", Cond.fieldLink RX7 42 "BoilerLogModel" "watched" "[I", Cond.fieldLink RX7 45 "BoilerLogModel" "limit" "[I", Cond.fieldLink RX7 48 "BoilerLogModel" "isHigh" "[Z", Cond.fieldLink RX7 51 "BoilerLogModel" "turns" "[I", Cond.fieldLink RX7 54 "BoilerLogModel" "opens" "[Z"]
def wsL_law0_r5 : List Cond := [Cond.fieldLink RX7 57 "BoilerLogModel" "state" "[I", Cond.fieldLink RX7 60 "BoilerLogModel" "text" "[C", Cond.fieldLink RX7 64 "BoilerLogModel" "many" "[I", Cond.fieldLink RX7 67 "BoilerLogModel" "said" "[C", Cond.fieldLink RX7 70 "BoilerLogModel" "task" "[I", Cond.fieldLink RX7 73 "BoilerLogModel" "sign" "[I", Cond.methodLink RL 103 yL_pipe, Cond.static yL_pipe, Cond.initialized RL, Cond.codeWith yL_pipe cL_pipe 6 (some .int) [(0, 12, 15, 13), (0, 12, 19, 15), (0, 12, 23, 17)], Cond.classLink RL 13 "java/lang/IndexOutOfBoundsException", Cond.classLink RL 15 "java/lang/IllegalArgumentException", Cond.classLink RL 17 "java/lang/IllegalStateException", Cond.methodLink RL 7 yX6_pipe, Cond.instanceMethod yX6_pipe, Cond.selects RX6 yX6_pipe yX6_pipe, Cond.code yX6_pipe cX6_pipe 5 (some .int), Cond.classLink RX6 84 "java/lang/IllegalArgumentException", Cond.initialized "java/lang/IllegalArgumentException", Cond.classLink RX6 95 "java/lang/IllegalStateException", Cond.initialized "java/lang/IllegalStateException", Cond.methodLink RX6 76 yX6_checkValve, Cond.static yX6_checkValve, Cond.code yX6_checkValve cX6_checkValve 1 none]
def wsL_law0_r6 : List Cond := [Cond.classLink RX6 200 "java/lang/IndexOutOfBoundsException", Cond.initialized "java/lang/IndexOutOfBoundsException", Cond.methodLink RX6 80 yX6_isEnd, Cond.static yX6_isEnd, Cond.code yX6_isEnd cX6_isEnd 1 (some .boolean), Cond.methodLink RX6 275 yX6_isVessel, Cond.static yX6_isVessel, Cond.code yX6_isVessel cX6_isVessel 1 (some .boolean), Cond.methodLink RX6 106 yX6_countTagsOn, Cond.instanceMethod yX6_countTagsOn, Cond.selects RX6 yX6_countTagsOn yX6_countTagsOn, Cond.code yX6_countTagsOn cX6_countTagsOn 5 (some .int), Cond.classLink RX6 145 "BoilerLog$Tag", Cond.methodLink RX6 142 yJx4a65c_size_8abf5, Cond.instanceMethod yJx4a65c_size_8abf5, Cond.selects RJx4a65c yJx4a65c_size_8abf5 yJx4a65c_size_8abf5, Cond.code yJx4a65c_size_8abf5 cJx4a65c_size_8abf5 1 (some .int), Cond.fieldLink RJx4a65c 48 "java/util/ArrayList" "size" "I", Cond.methodLink RX6 161 yJx4a65c_get_915e3, Cond.instanceMethod yJx4a65c_get_915e3, Cond.selects RJx4a65c yJx4a65c_get_915e3 yJx4a65c_get_915e3, Cond.code yJx4a65c_get_915e3 cJx4a65c_get_915e3 2 (some (.object "java/lang/Object")), Cond.methodLink RJx4a65c 118 yJ15_checkIndex_7cf53, Cond.static yJ15_checkIndex_7cf53]
def wsL_law0_r7 : List Cond := [Cond.initialized RJ15, Cond.code yJ15_checkIndex_7cf53 cJ15_checkIndex_7cf53 2 (some .int), Cond.methodLink RJ15 105 yJ3_checkIndex_8e157, Cond.static yJ3_checkIndex_8e157, Cond.initialized RJ3, Cond.code yJ3_checkIndex_8e157 cJ3_checkIndex_8e157 3 (some .int), Cond.methodLink RJx4a65c 123 yJx4a65c_elementData_915e3, Cond.instanceMethod yJx4a65c_elementData_915e3, Cond.selects RJx4a65c yJx4a65c_elementData_915e3 yJx4a65c_elementData_915e3, Cond.code yJx4a65c_elementData_915e3 cJx4a65c_elementData_915e3 2 (some (.object "java/lang/Object")), Cond.methodLink RL 108 yX7_pipe, Cond.instanceMethod yX7_pipe, Cond.selects RX7 yX7_pipe yX7_pipe, Cond.code yX7_pipe cX7_pipe 5 (some .int), Cond.fieldLink RX7 76 "BoilerLogModel" "thrown" "I", Cond.methodLink RX7 80 yX7_in, Cond.static yX7_in, Cond.code yX7_in cX7_in 3 (some .boolean), Cond.methodLink RX7 106 yX7_isValve, Cond.static yX7_isValve, Cond.code yX7_isValve cX7_isValve 1 (some .boolean), Cond.methodLink RX7 109 yX7_tagsOn, Cond.instanceMethod yX7_tagsOn, Cond.selects RX7 yX7_tagsOn yX7_tagsOn]
def wsL_law0_r8 : List Cond := [Cond.code yX7_tagsOn cX7_tagsOn 4 (some .int), Cond.fieldLink RX7 84 "BoilerLogModel" "tags" "I", Cond.methodLink RL 109 yX7_thrown, Cond.instanceMethod yX7_thrown, Cond.selects RX7 yX7_thrown yX7_thrown, Cond.code yX7_thrown cX7_thrown 1 (some .int), Cond.methodLink RL 113 yL_turn, Cond.static yL_turn, Cond.codeWith yL_turn cL_turn 6 (some .int) [(0, 19, 22, 13), (0, 19, 26, 17)], Cond.methodLink RL 19 yX6_turn, Cond.instanceMethod yX6_turn, Cond.selects RX6 yX6_turn yX6_turn, Cond.code yX6_turn cX6_turn 4 (some .boolean), Cond.methodLink RX6 110 yX6_checkPerson, Cond.static yX6_checkPerson, Cond.code yX6_checkPerson cX6_checkPerson 1 none, Cond.methodLink RX6 113 yX6_findObstacle, Cond.instanceMethod yX6_findObstacle, Cond.selects RX6 yX6_findObstacle yX6_findObstacle, Cond.code yX6_findObstacle cX6_findObstacle 3 (some .int), Cond.methodLink RX6 290 yX6_isOnDuty, Cond.instanceMethod yX6_isOnDuty, Cond.selects RX6 yX6_isOnDuty yX6_isOnDuty, Cond.code yX6_isOnDuty cX6_isOnDuty 2 (some .boolean)]
def wsL_law0_r9 : List Cond := [Cond.methodLink RX6 139 yX6_isAble, Cond.instanceMethod yX6_isAble, Cond.selects RX6 yX6_isAble yX6_isAble, Cond.code yX6_isAble cX6_isAble 2 (some .boolean), Cond.methodLink RX6 293 yX6_hasTagOfAnother, Cond.instanceMethod yX6_hasTagOfAnother, Cond.selects RX6 yX6_hasTagOfAnother yX6_hasTagOfAnother, Cond.code yX6_hasTagOfAnother cX6_hasTagOfAnother 5 (some .boolean), Cond.methodLink RX6 119 yX6_setValve, Cond.instanceMethod yX6_setValve, Cond.selects RX6 yX6_setValve yX6_setValve, Cond.code yX6_setValve cX6_setValve 5 (some .boolean), Cond.instanceMethod yX2_noteTurn, Cond.selects RX2 yX2_noteTurn yX2_noteTurn, Cond.code yX2_noteTurn cX2_noteTurn 5 none, Cond.methodLink RX2 25 yX2_note, Cond.instanceMethod yX2_note, Cond.selects RX2 yX2_note yX2_note, Cond.code yX2_note cX2_note 5 none, Cond.methodLink RX2 19 yJ7_copyOf_59c91, Cond.static yJ7_copyOf_59c91, Cond.code yJ7_copyOf_59c91 cJ7_copyOf_59c91 3 (some (.array .int)), Cond.methodLink RJ7 316 ⟨"[I", "clone", "()Ljava/lang/Object;"⟩, Cond.sameMethod "[I" "java/lang/Object" "clone" "()Ljava/lang/Object;"]
def wsL_law0_r10 : List Cond := [Cond.native ⟨"java/lang/Object", "clone", "()Ljava/lang/Object;"⟩, Cond.instanceMethod ⟨"java/lang/Object", "clone", "()Ljava/lang/Object;"⟩, Cond.selects "[I" ⟨"[I", "clone", "()Ljava/lang/Object;"⟩ ⟨"java/lang/Object", "clone", "()Ljava/lang/Object;"⟩, Cond.classLink RJ7 317 "[I", Cond.methodLink RJ7 304 Lib.Math.min.name, Cond.static Lib.Math.min.name, Cond.initialized "java/lang/Math", Cond.code Lib.Math.min.name Lib.Math.min.code 2 (some .int), Cond.methodLink RJ7 150 arraycopyName, Cond.native arraycopyName, Cond.static arraycopyName, Cond.initialized "java/lang/System", Cond.methodLink RL 116 yX7_turn, Cond.instanceMethod yX7_turn, Cond.selects RX7 yX7_turn yX7_turn, Cond.code yX7_turn cX7_turn 4 (some .boolean), Cond.methodLink RX7 120 yX7_isPerson, Cond.static yX7_isPerson, Cond.code yX7_isPerson cX7_isPerson 1 (some .boolean), Cond.methodLink RX7 123 yX7_bars, Cond.instanceMethod yX7_bars, Cond.selects RX7 yX7_bars yX7_bars, Cond.code yX7_bars cX7_bars 3 (some .int), Cond.methodLink RX7 95 yX7_isOnDuty]
def wsL_law0_r11 : List Cond := [Cond.instanceMethod yX7_isOnDuty, Cond.selects RX7 yX7_isOnDuty yX7_isOnDuty, Cond.code yX7_isOnDuty cX7_isOnDuty 2 (some .boolean), Cond.fieldLink RX7 89 "BoilerLogModel" "hour" "I", Cond.methodLink RX7 113 yX7_may, Cond.instanceMethod yX7_may, Cond.selects RX7 yX7_may yX7_may, Cond.code yX7_may cX7_may 2 (some .boolean), Cond.fieldLink RX7 99 "BoilerLogModel" "atShift" "I", Cond.methodLink RX7 116 yX7_isBarred, Cond.instanceMethod yX7_isBarred, Cond.selects RX7 yX7_isBarred yX7_isBarred, Cond.code yX7_isBarred cX7_isBarred 5 (some .boolean), Cond.methodLink RX7 127 yX7_turnsTo, Cond.instanceMethod yX7_turnsTo, Cond.selects RX7 yX7_turnsTo yX7_turnsTo, Cond.code yX7_turnsTo cX7_turnsTo 4 (some .boolean), Cond.methodLink RX7 102 yX7_notes, Cond.instanceMethod yX7_notes, Cond.selects RX7 yX7_notes yX7_notes, Cond.code yX7_notes cX7_notes 7 none, Cond.constantLong RX7 87 (10000), Cond.fieldLink RX7 92 "BoilerLogModel" "entries" "I", Cond.methodLink RL 117 yL_obstacle]
def wsL_law0_r12 : List Cond := [Cond.static yL_obstacle, Cond.codeWith yL_obstacle cL_obstacle 5 (some .int) [(0, 10, 13, 13)], Cond.methodLink RL 23 yX6_obstacle, Cond.instanceMethod yX6_obstacle, Cond.selects RX6 yX6_obstacle yX6_obstacle, Cond.code yX6_obstacle cX6_obstacle 3 (some .int), Cond.methodLink RL 120 yX7_obstacle, Cond.instanceMethod yX7_obstacle, Cond.selects RX7 yX7_obstacle yX7_obstacle, Cond.code yX7_obstacle cX7_obstacle 3 (some .int), Cond.methodLink RL 121 yL_isOpen, Cond.static yL_isOpen, Cond.codeWith yL_isOpen cL_isOpen 4 (some .int) [(0, 16, 19, 13)], Cond.methodLink RL 27 yX6_isOpen, Cond.instanceMethod yX6_isOpen, Cond.selects RX6 yX6_isOpen yX6_isOpen, Cond.code yX6_isOpen cX6_isOpen 2 (some .boolean), Cond.methodLink RL 124 yX7_isOpen, Cond.instanceMethod yX7_isOpen, Cond.selects RX7 yX7_isOpen yX7_isOpen, Cond.code yX7_isOpen cX7_isOpen 2 (some .boolean), Cond.methodLink RL 125 yL_isOpenByLog, Cond.static yL_isOpenByLog, Cond.codeWith yL_isOpenByLog cL_isOpenByLog 4 (some .int) [(0, 16, 19, 13)]]
def wsL_law0_r13 : List Cond := [Cond.methodLink RL 31 yX6_isOpenByLog, Cond.instanceMethod yX6_isOpenByLog, Cond.selects RX6 yX6_isOpenByLog yX6_isOpenByLog, Cond.code yX6_isOpenByLog cX6_isOpenByLog 3 (some .boolean), Cond.instanceMethod yX2_size, Cond.selects RX2 yX2_size yX2_size, Cond.code yX2_size cX2_size 1 (some .int), Cond.instanceMethod yX2_kindAt, Cond.selects RX2 yX2_kindAt yX2_kindAt, Cond.code yX2_kindAt cX2_kindAt 2 (some .int), Cond.instanceMethod yX2_valveTurnedAt, Cond.selects RX2 yX2_valveTurnedAt yX2_valveTurnedAt, Cond.code yX2_valveTurnedAt cX2_valveTurnedAt 2 (some .int), Cond.methodLink RX2 29 yX2_whatAt, Cond.instanceMethod yX2_whatAt, Cond.selects RX2 yX2_whatAt yX2_whatAt, Cond.code yX2_whatAt cX2_whatAt 2 (some .int), Cond.instanceMethod yX2_opensAt, Cond.selects RX2 yX2_opensAt yX2_opensAt, Cond.code yX2_opensAt cX2_opensAt 2 (some .boolean), Cond.methodLink RL 127 yX7_isOpenByLog, Cond.instanceMethod yX7_isOpenByLog, Cond.selects RX7 yX7_isOpenByLog yX7_isOpenByLog, Cond.code yX7_isOpenByLog cX7_isOpenByLog 2 (some .boolean)]
def wsL_law0_r14 : List Cond := [Cond.methodLink RL 128 yL_level, Cond.static yL_level, Cond.codeWith yL_level cL_level 4 (some .int) [(0, 9, 12, 13)], Cond.methodLink RL 34 yX6_level, Cond.instanceMethod yX6_level, Cond.selects RX6 yX6_level yX6_level, Cond.code yX6_level cX6_level 2 (some .int), Cond.methodLink RX6 136 yX6_checkVessel, Cond.static yX6_checkVessel, Cond.code yX6_checkVessel cX6_checkVessel 1 none, Cond.methodLink RL 130 yX7_level, Cond.instanceMethod yX7_level, Cond.selects RX7 yX7_level yX7_level, Cond.code yX7_level cX7_level 2 (some .int), Cond.methodLink RX7 131 yX7_isVessel, Cond.static yX7_isVessel, Cond.code yX7_isVessel cX7_isVessel 1 (some .boolean), Cond.methodLink RL 131 yX6_spilled, Cond.instanceMethod yX6_spilled, Cond.selects RX6 yX6_spilled yX6_spilled, Cond.code yX6_spilled cX6_spilled 1 (some .int), Cond.methodLink RL 134 yX7_spilled, Cond.instanceMethod yX7_spilled, Cond.selects RX7 yX7_spilled yX7_spilled]
def wsL_law0_r15 : List Cond := [Cond.code yX7_spilled cX7_spilled 1 (some .int), Cond.fieldLink RX7 134 "BoilerLogModel" "spilled" "I", Cond.methodLink RL 135 yL_hang, Cond.static yL_hang, Cond.codeWith yL_hang cL_hang 5 (some .int) [(0, 10, 13, 13), (0, 10, 17, 17)], Cond.methodLink RL 38 yX6_hang, Cond.instanceMethod yX6_hang, Cond.selects RX6 yX6_hang yX6_hang, Cond.code yX6_hang cX6_hang 4 (some .int), Cond.classLink RX6 145 RX4, Cond.instantiable RX4 4, Cond.initialized RX4, Cond.instanceMethod yX4_init, Cond.code yX4_init cX4_init 3 none, Cond.methodLink RX4 3 objectInit, Cond.fieldLink RX4 9 "BoilerLog$Tag" "firstAsker" "I", Cond.fieldLink RX4 15 "BoilerLog$Tag" "off" "Z", Cond.fieldLink RX4 19 "BoilerLog$Tag" "owner" "I", Cond.fieldLink RX4 22 "BoilerLog$Tag" "valve" "I", Cond.methodLink RX6 150 yJx4a65c_add_9ea2d, Cond.instanceMethod yJx4a65c_add_9ea2d, Cond.selects RJx4a65c yJx4a65c_add_9ea2d yJx4a65c_add_9ea2d, Cond.code yJx4a65c_add_9ea2d cJx4a65c_add_9ea2d 2 (some .boolean), Cond.fieldLink RJx4a65c 63 "java/util/ArrayList" "modCount" "I"]
def wsL_law0_r16 : List Cond := [Cond.sameField "java/util/ArrayList" "java/util/AbstractList" "modCount" "I", Cond.methodLink RJx4a65c 131 yJx4a65c_add_72be8, Cond.instanceMethod yJx4a65c_add_72be8, Cond.selects RJx4a65c yJx4a65c_add_72be8 yJx4a65c_add_72be8, Cond.code yJx4a65c_add_72be8 cJx4a65c_add_72be8 4 none, Cond.methodLink RJx4a65c 129 yJx4a65c_grow_d5877, Cond.instanceMethod yJx4a65c_grow_d5877, Cond.selects RJx4a65c yJx4a65c_grow_d5877 yJx4a65c_grow_d5877, Cond.code yJx4a65c_grow_d5877 cJx4a65c_grow_d5877 1 (some (.array (.object "java/lang/Object"))), Cond.methodLink RJx4a65c 69 yJx4a65c_grow_92f84, Cond.instanceMethod yJx4a65c_grow_92f84, Cond.selects RJx4a65c yJx4a65c_grow_92f84 yJx4a65c_grow_92f84, Cond.code yJx4a65c_grow_92f84 cJx4a65c_grow_92f84 4 (some (.array (.object "java/lang/Object"))), Cond.methodLink RJx4a65c 79 Lib.Math.max.name, Cond.static Lib.Math.max.name, Cond.code Lib.Math.max.name Lib.Math.max.code 2 (some .int), Cond.classLink RJx4a65c 7 "java/lang/Object", Cond.methodLink RJx4a65c 73 yJ8_newLength_cabcc, Cond.static yJ8_newLength_cabcc, Cond.initialized RJ8, Cond.code yJ8_newLength_cabcc cJ8_newLength_cabcc 4 (some .int), Cond.methodLink RJ8 194 Lib.Math.max.name, Cond.constant RJ8 200 (2147483639), Cond.methodLink RJ8 201 yJ8_hugeLength_7cf53]
def wsL_law0_r17 : List Cond := [Cond.static yJ8_hugeLength_7cf53, Cond.code yJ8_hugeLength_7cf53 cJ8_hugeLength_7cf53 3 (some .int), Cond.methodLink RJx4a65c 66 yJ7_copyOf_1904c, Cond.static yJ7_copyOf_1904c, Cond.code yJ7_copyOf_1904c cJ7_copyOf_1904c 2 (some (.array (.object "java/lang/Object"))), Cond.methodLink RJ7 86 ⟨"java/lang/Object", "getClass", "()Ljava/lang/Class;"⟩, Cond.selects "[Ljava/lang/Object;" ⟨"java/lang/Object", "getClass", "()Ljava/lang/Class;"⟩ ⟨"java/lang/Object", "getClass", "()Ljava/lang/Class;"⟩, Cond.instanceMethod ⟨"java/lang/Object", "getClass", "()Ljava/lang/Class;"⟩, Cond.native ⟨"java/lang/Object", "getClass", "()Ljava/lang/Class;"⟩, Cond.methodLink RJ7 300 yJ7_copyOf_6403c, Cond.static yJ7_copyOf_6403c, Cond.code yJ7_copyOf_6403c cJ7_copyOf_6403c 4 (some (.array (.object "java/lang/Object"))), Cond.classLink RJ7 110 "[Ljava/lang/Object;", Cond.classLink RJ7 2 "java/lang/Object", Cond.methodLink RL 137 yX7_hang, Cond.instanceMethod yX7_hang, Cond.selects RX7 yX7_hang yX7_hang, Cond.code yX7_hang cX7_hang 3 (some .int), Cond.methodLink RL 138 yL_takeOff, Cond.static yL_takeOff, Cond.codeWith yL_takeOff cL_takeOff 5 (some .int) [(0, 17, 20, 13), (0, 17, 24, 17)], Cond.methodLink RL 41 yX6_takeOff, Cond.instanceMethod yX6_takeOff, Cond.selects RX6 yX6_takeOff yX6_takeOff]
def wsL_law0_r18 : List Cond := [Cond.code yX6_takeOff cX6_takeOff 4 (some .boolean), Cond.methodLink RX6 158 yX6_checkTag, Cond.instanceMethod yX6_checkTag, Cond.selects RX6 yX6_checkTag yX6_checkTag, Cond.code yX6_checkTag cX6_checkTag 2 none, Cond.methodLink RX6 173 yX6_isFirstToAsk, Cond.static yX6_isFirstToAsk, Cond.code yX6_isFirstToAsk cX6_isFirstToAsk 2 (some .boolean), Cond.methodLink RL 140 yX7_takeOff, Cond.instanceMethod yX7_takeOff, Cond.selects RX7 yX7_takeOff yX7_takeOff, Cond.code yX7_takeOff cX7_takeOff 4 (some .boolean), Cond.methodLink RX7 137 yX7_isTag, Cond.instanceMethod yX7_isTag, Cond.selects RX7 yX7_isTag yX7_isTag, Cond.code yX7_isTag cX7_isTag 2 (some .boolean), Cond.methodLink RL 141 yL_valveOf, Cond.static yL_valveOf, Cond.codeWith yL_valveOf cL_valveOf 4 (some .int) [(0, 9, 12, 13)], Cond.methodLink RL 45 yX6_valveOf, Cond.instanceMethod yX6_valveOf, Cond.selects RX6 yX6_valveOf yX6_valveOf, Cond.code yX6_valveOf cX6_valveOf 3 (some .int), Cond.methodLink RL 143 yX7_valveOf]
def wsL_law0_r19 : List Cond := [Cond.instanceMethod yX7_valveOf, Cond.selects RX7 yX7_valveOf yX7_valveOf, Cond.code yX7_valveOf cX7_valveOf 2 (some .int), Cond.methodLink RL 144 yL_ownerOf, Cond.static yL_ownerOf, Cond.codeWith yL_ownerOf cL_ownerOf 4 (some .int) [(0, 9, 12, 13)], Cond.methodLink RL 48 yX6_ownerOf, Cond.instanceMethod yX6_ownerOf, Cond.selects RX6 yX6_ownerOf yX6_ownerOf, Cond.code yX6_ownerOf cX6_ownerOf 2 (some .int), Cond.methodLink RL 146 yX7_ownerOf, Cond.instanceMethod yX7_ownerOf, Cond.selects RX7 yX7_ownerOf yX7_ownerOf, Cond.code yX7_ownerOf cX7_ownerOf 2 (some .int), Cond.methodLink RL 147 yL_tagsByLog, Cond.static yL_tagsByLog, Cond.codeWith yL_tagsByLog cL_tagsByLog 4 (some .int) [(0, 9, 12, 13)], Cond.methodLink RL 51 yX6_tagsByLog, Cond.instanceMethod yX6_tagsByLog, Cond.selects RX6 yX6_tagsByLog yX6_tagsByLog, Cond.code yX6_tagsByLog cX6_tagsByLog 5 (some .int), Cond.methodLink RX6 186 yX6_wasHungOn, Cond.instanceMethod yX6_wasHungOn, Cond.selects RX6 yX6_wasHungOn yX6_wasHungOn]
def wsL_law0_r20 : List Cond := [Cond.code yX6_wasHungOn cX6_wasHungOn 3 (some .boolean), Cond.methodLink RL 149 yX7_tagsByLog, Cond.instanceMethod yX7_tagsByLog, Cond.selects RX7 yX7_tagsByLog yX7_tagsByLog, Cond.code yX7_tagsByLog cX7_tagsByLog 2 (some .int), Cond.methodLink RL 150 yL_read, Cond.static yL_read, Cond.codeWith yL_read cL_read 4 (some .int) [(0, 9, 12, 13), (0, 9, 15, 17)], Cond.methodLink RL 54 yX6_read, Cond.instanceMethod yX6_read, Cond.selects RX6 yX6_read yX6_read, Cond.code yX6_read cX6_read 3 (some .int), Cond.methodLink RX6 190 yX6_checkNotGone, Cond.instanceMethod yX6_checkNotGone, Cond.selects RX6 yX6_checkNotGone yX6_checkNotGone, Cond.code yX6_checkNotGone cX6_checkNotGone 2 none, Cond.methodLink RL 152 yX7_read, Cond.instanceMethod yX7_read, Cond.selects RX7 yX7_read yX7_read, Cond.code yX7_read cX7_read 3 (some .int), Cond.methodLink RL 153 yL_leave, Cond.static yL_leave, Cond.codeWith yL_leave cL_leave 4 (some .int) [(0, 9, 12, 13), (0, 9, 15, 17)], Cond.methodLink RL 57 yX6_leave]
def wsL_law0_r21 : List Cond := [Cond.instanceMethod yX6_leave, Cond.selects RX6 yX6_leave yX6_leave, Cond.code yX6_leave cX6_leave 5 (some .int), Cond.methodLink RL 155 yX7_leave, Cond.instanceMethod yX7_leave, Cond.selects RX7 yX7_leave yX7_leave, Cond.code yX7_leave cX7_leave 4 (some .int), Cond.methodLink RL 156 yL_canAct, Cond.static yL_canAct, Cond.codeWith yL_canAct cL_canAct 4 (some .int) [(0, 16, 19, 13)], Cond.methodLink RL 60 yX6_canAct, Cond.instanceMethod yX6_canAct, Cond.selects RX6 yX6_canAct yX6_canAct, Cond.code yX6_canAct cX6_canAct 2 (some .boolean), Cond.methodLink RL 158 yX7_canAct, Cond.instanceMethod yX7_canAct, Cond.selects RX7 yX7_canAct yX7_canAct, Cond.code yX7_canAct cX7_canAct 2 (some .boolean), Cond.methodLink RL 159 yL_advance, Cond.static yL_advance, Cond.codeWith yL_advance cL_advance 4 (some .int) [(0, 9, 12, 15), (0, 9, 15, 17)], Cond.methodLink RL 63 yX6_advance, Cond.instanceMethod yX6_advance, Cond.selects RX6 yX6_advance yX6_advance]
def wsL_law0_r22 : List Cond := [Cond.code yX6_advance cX6_advance 3 (some .int), Cond.methodLink RX6 197 yX6_endHour, Cond.instanceMethod yX6_endHour, Cond.selects RX6 yX6_endHour yX6_endHour, Cond.code yX6_endHour cX6_endHour 2 none, Cond.methodLink RX6 300 yX6_leadOn, Cond.instanceMethod yX6_leadOn, Cond.selects RX6 yX6_leadOn yX6_leadOn, Cond.code yX6_leadOn cX6_leadOn 5 none, Cond.methodLink RX6 306 Lib.Math.min.name, Cond.methodLink RX6 303 yX6_watch, Cond.instanceMethod yX6_watch, Cond.selects RX6 yX6_watch yX6_watch, Cond.code yX6_watch cX6_watch 3 none, Cond.classLink RX6 212 "BoilerLog$Alarm", Cond.instanceMethod yX0_isMetBy, Cond.initialized RX0, Cond.selects RX0 yX0_isMetBy yX0_isMetBy, Cond.code yX0_isMetBy cX0_isMetBy 2 (some .boolean), Cond.fieldLink RX0 21 "BoilerLog$Alarm" "high" "Z", Cond.fieldLink RX0 18 "BoilerLog$Alarm" "limit" "I", Cond.methodLink RL 161 yX7_advance, Cond.instanceMethod yX7_advance, Cond.selects RX7 yX7_advance yX7_advance]
def wsL_law0_r23 : List Cond := [Cond.code yX7_advance cX7_advance 3 (some .int), Cond.methodLink RX7 150 yX7_ends, Cond.instanceMethod yX7_ends, Cond.selects RX7 yX7_ends yX7_ends, Cond.code yX7_ends cX7_ends 2 none, Cond.fieldLink RX7 144 "BoilerLogModel" "alarms" "I", Cond.methodLink RX7 140 yX7_leads, Cond.instanceMethod yX7_leads, Cond.selects RX7 yX7_leads yX7_leads, Cond.code yX7_leads cX7_leads 4 none, Cond.methodLink RX7 147 yX7_watches, Cond.instanceMethod yX7_watches, Cond.selects RX7 yX7_watches yX7_watches, Cond.code yX7_watches cX7_watches 4 none, Cond.methodLink RL 162 yX6_hour, Cond.instanceMethod yX6_hour, Cond.selects RX6 yX6_hour yX6_hour, Cond.code yX6_hour cX6_hour 1 (some .int), Cond.methodLink RL 165 yX7_hour, Cond.instanceMethod yX7_hour, Cond.selects RX7 yX7_hour yX7_hour, Cond.code yX7_hour cX7_hour 1 (some .int), Cond.methodLink RL 166 yX6_entries, Cond.instanceMethod yX6_entries]
def wsL_law0_r24 : List Cond := [Cond.selects RX6 yX6_entries yX6_entries, Cond.code yX6_entries cX6_entries 1 (some .int), Cond.methodLink RL 169 yX7_entries, Cond.instanceMethod yX7_entries, Cond.selects RX7 yX7_entries yX7_entries, Cond.code yX7_entries cX7_entries 1 (some .int), Cond.methodLink RL 170 yL_entryAt, Cond.static yL_entryAt, Cond.codeWith yL_entryAt cL_entryAt 4 (some .int) [(0, 9, 12, 13)], Cond.methodLink RL 66 yX6_entryAt, Cond.instanceMethod yX6_entryAt, Cond.selects RX6 yX6_entryAt yX6_entryAt, Cond.code yX6_entryAt cX6_entryAt 2 (some .int), Cond.instanceMethod yX2_codeAt, Cond.selects RX2 yX2_codeAt yX2_codeAt, Cond.code yX2_codeAt cX2_codeAt 2 (some .int), Cond.methodLink RL 172 yX7_entryAt, Cond.instanceMethod yX7_entryAt, Cond.selects RX7 yX7_entryAt yX7_entryAt, Cond.code yX7_entryAt cX7_entryAt 2 (some .int), Cond.constantLong RX7 153 (2147483647), Cond.methodLink RL 173 yL_alarm, Cond.static yL_alarm, Cond.codeWith yL_alarm cL_alarm 8 (some .int) [(0, 16, 19, 13), (0, 16, 23, 15), (0, 16, 27, 17)]]
def wsL_law0_r25 : List Cond := [Cond.methodLink RL 69 yX6_alarm, Cond.instanceMethod yX6_alarm, Cond.selects RX6 yX6_alarm yX6_alarm, Cond.code yX6_alarm cX6_alarm 6 (some .int), Cond.classLink RX6 212 RX0, Cond.instantiable RX0 6, Cond.instanceMethod yX0_init, Cond.code yX0_init cX0_init 6 none, Cond.methodLink RX0 3 objectInit, Cond.fieldLink RX0 9 "BoilerLog$Alarm" "state" "I", Cond.fieldLink RX0 15 "BoilerLog$Alarm" "vessel" "I", Cond.fieldLink RX0 25 "BoilerLog$Alarm" "valve" "I", Cond.fieldLink RX0 28 "BoilerLog$Alarm" "opens" "Z", Cond.methodLink RL 176 yX7_alarm, Cond.instanceMethod yX7_alarm, Cond.selects RX7 yX7_alarm yX7_alarm, Cond.code yX7_alarm cX7_alarm 6 (some .int), Cond.methodLink RL 177 yL_stateOf, Cond.static yL_stateOf, Cond.codeWith yL_stateOf cL_stateOf 4 (some .int) [(0, 9, 12, 13)], Cond.methodLink RL 73 yX6_stateOf, Cond.instanceMethod yX6_stateOf, Cond.selects RX6 yX6_stateOf yX6_stateOf, Cond.code yX6_stateOf cX6_stateOf 2 (some .int)]
def wsL_law0_r26 : List Cond := [Cond.methodLink RL 179 yX7_stateOf, Cond.instanceMethod yX7_stateOf, Cond.selects RX7 yX7_stateOf yX7_stateOf, Cond.code yX7_stateOf cX7_stateOf 2 (some .int), Cond.methodLink RL 180 yL_insert, Cond.static yL_insert, Cond.codeWith yL_insert cL_insert 5 (some .int) [(0, 10, 13, 15), (0, 10, 17, 17)], Cond.methodLink RL 76 yX6_insert, Cond.instanceMethod yX6_insert, Cond.selects RX6 yX6_insert yX6_insert, Cond.code yX6_insert cX6_insert 3 (some .int), Cond.instanceMethod yX1_length, Cond.selects RX1 yX1_length yX1_length, Cond.code yX1_length cX1_length 1 (some .int), Cond.instanceMethod yX1_put, Cond.selects RX1 yX1_put yX1_put, Cond.code yX1_put cX1_put 4 none, Cond.methodLink RL 183 yX7_insert, Cond.instanceMethod yX7_insert, Cond.selects RX7 yX7_insert yX7_insert, Cond.code yX7_insert cX7_insert 4 (some .int), Cond.fieldLink RX7 155 "BoilerLogModel" "length" "I", Cond.methodLink RL 184 yX6_clear, Cond.instanceMethod yX6_clear]
def wsL_law0_r27 : List Cond := [Cond.selects RX6 yX6_clear yX6_clear, Cond.code yX6_clear cX6_clear 2 (some .int), Cond.instanceMethod yX1_wipe, Cond.selects RX1 yX1_wipe yX1_wipe, Cond.code yX1_wipe cX1_wipe 1 none, Cond.methodLink RL 187 yX7_clear, Cond.instanceMethod yX7_clear, Cond.selects RX7 yX7_clear yX7_clear, Cond.code yX7_clear cX7_clear 2 (some .int), Cond.methodLink RL 188 yX6_isWhole, Cond.instanceMethod yX6_isWhole, Cond.selects RX6 yX6_isWhole yX6_isWhole, Cond.code yX6_isWhole cX6_isWhole 1 (some .boolean), Cond.instanceMethod yX1_isComplete, Cond.selects RX1 yX1_isComplete yX1_isComplete, Cond.code yX1_isComplete cX1_isComplete 3 (some .boolean), Cond.methodLink RX1 19 yX1_isLow, Cond.static yX1_isLow, Cond.code yX1_isLow cX1_isLow 1 (some .boolean), Cond.constant RX1 35 (56320), Cond.constant RX1 36 (57344), Cond.methodLink RX1 23 yX1_isHigh, Cond.static yX1_isHigh, Cond.code yX1_isHigh cX1_isHigh 1 (some .boolean)]
def wsL_law0_r28 : List Cond := [Cond.constant RX1 34 (55296), Cond.methodLink RL 192 yX7_isWhole, Cond.instanceMethod yX7_isWhole, Cond.selects RX7 yX7_isWhole yX7_isWhole, Cond.code yX7_isWhole cX7_isWhole 1 (some .boolean), Cond.methodLink RX7 169 yX7_isGood, Cond.instanceMethod yX7_isGood, Cond.selects RX7 yX7_isGood yX7_isGood, Cond.code yX7_isGood cX7_isGood 4 (some .boolean), Cond.methodLink RX7 162 yX7_isLowOne, Cond.static yX7_isLowOne, Cond.code yX7_isLowOne cX7_isLowOne 1 (some .boolean), Cond.constant RX7 160 (56320), Cond.constant RX7 161 (57343), Cond.methodLink RX7 166 yX7_isHighOne, Cond.static yX7_isHighOne, Cond.code yX7_isHighOne cX7_isHighOne 1 (some .boolean), Cond.constant RX7 158 (55296), Cond.constant RX7 159 (56319), Cond.methodLink RL 193 yL_post, Cond.static yL_post, Cond.codeWith yL_post cL_post 5 (some .int) [(0, 10, 13, 13), (0, 10, 17, 17)], Cond.methodLink RL 80 yX6_post, Cond.instanceMethod yX6_post]
def wsL_law0_r29 : List Cond := [Cond.selects RX6 yX6_post yX6_post, Cond.code yX6_post cX6_post 5 (some .int), Cond.classLink RX6 245 RX3, Cond.instantiable RX3 1, Cond.initialized RX3, Cond.methodLink RX6 240 yX6_checkThread, Cond.instanceMethod yX6_checkThread, Cond.selects RX6 yX6_checkThread yX6_checkThread, Cond.code yX6_checkThread cX6_checkThread 2 none, Cond.instanceMethod yX1_toSigns, Cond.selects RX1 yX1_toSigns yX1_toSigns, Cond.code yX1_toSigns cX1_toSigns 5 (some (.array .int)), Cond.methodLink RX1 26 yX1_countHigh, Cond.instanceMethod yX1_countHigh, Cond.selects RX1 yX1_countHigh yX1_countHigh, Cond.code yX1_countHigh cX1_countHigh 3 (some .int), Cond.methodLink RX1 30 yX1_join, Cond.static yX1_join, Cond.code yX1_join cX1_join 2 (some .int), Cond.constant RX1 37 (65536), Cond.instanceMethod yX3_init, Cond.code yX3_init cX3_init 2 none, Cond.methodLink RX3 3 objectInit, Cond.fieldLink RX3 9 "BoilerLog$Message" "content" "[I"]
def wsL_law0_r30 : List Cond := [Cond.instanceMethod yX3_personCalled, Cond.selects RX3 yX3_personCalled yX3_personCalled, Cond.code yX3_personCalled cX3_personCalled 3 (some .int), Cond.methodLink RX6 257 yX6_assign, Cond.instanceMethod yX6_assign, Cond.selects RX6 yX6_assign yX6_assign, Cond.code yX6_assign cX6_assign 3 none, Cond.methodLink RL 195 yX7_post, Cond.instanceMethod yX7_post, Cond.selects RX7 yX7_post yX7_post, Cond.code yX7_post cX7_post 5 (some .int), Cond.fieldLink RX7 179 "BoilerLogModel" "messages" "I", Cond.fieldLink RX7 173 "BoilerLogModel" "threads" "I", Cond.methodLink RX7 176 yX7_isThread, Cond.instanceMethod yX7_isThread, Cond.selects RX7 yX7_isThread yX7_isThread, Cond.code yX7_isThread cX7_isThread 2 (some .boolean), Cond.methodLink RX7 182 yX7_meant, Cond.instanceMethod yX7_meant, Cond.selects RX7 yX7_meant yX7_meant, Cond.code yX7_meant cX7_meant 4 (some .int), Cond.methodLink RL 196 yL_finish, Cond.static yL_finish, Cond.codeWith yL_finish cL_finish 4 (some .int) [(0, 6, 9, 13), (0, 6, 12, 17)]]
def wsL_law0_r31 : List Cond := [Cond.methodLink RL 83 yX6_finish, Cond.instanceMethod yX6_finish, Cond.selects RX6 yX6_finish yX6_finish, Cond.code yX6_finish cX6_finish 3 none, Cond.methodLink RL 199 yX7_finish, Cond.instanceMethod yX7_finish, Cond.selects RX7 yX7_finish yX7_finish, Cond.code yX7_finish cX7_finish 3 none, Cond.methodLink RL 200 yL_taskOf, Cond.static yL_taskOf, Cond.codeWith yL_taskOf cL_taskOf 4 (some .int) [(0, 9, 12, 13)], Cond.methodLink RL 87 yX6_taskOf, Cond.instanceMethod yX6_taskOf, Cond.selects RX6 yX6_taskOf yX6_taskOf, Cond.code yX6_taskOf cX6_taskOf 2 (some .int), Cond.methodLink RL 202 yX7_taskOf, Cond.instanceMethod yX7_taskOf, Cond.selects RX7 yX7_taskOf yX7_taskOf, Cond.code yX7_taskOf cX7_taskOf 2 (some .int), Cond.methodLink RL 203 yX6_messages, Cond.instanceMethod yX6_messages, Cond.selects RX6 yX6_messages yX6_messages, Cond.code yX6_messages cX6_messages 1 (some .int), Cond.methodLink RL 206 yX7_messages]
def wsL_law0_r32 : List Cond := [Cond.instanceMethod yX7_messages, Cond.selects RX7 yX7_messages yX7_messages, Cond.code yX7_messages cX7_messages 1 (some .int), Cond.methodLink RL 207 yL_signs, Cond.static yL_signs, Cond.codeWith yL_signs cL_signs 4 (some .int) [(0, 9, 12, 13)], Cond.methodLink RL 90 yX6_signs, Cond.instanceMethod yX6_signs, Cond.selects RX6 yX6_signs yX6_signs, Cond.code yX6_signs cX6_signs 2 (some .int), Cond.classLink RX6 245 "BoilerLog$Message", Cond.methodLink RX6 262 yX6_checkMessage, Cond.instanceMethod yX6_checkMessage, Cond.selects RX6 yX6_checkMessage yX6_checkMessage, Cond.code yX6_checkMessage cX6_checkMessage 2 none, Cond.instanceMethod yX3_length, Cond.selects RX3 yX3_length yX3_length, Cond.code yX3_length cX3_length 1 (some .int), Cond.methodLink RL 209 yX7_signs, Cond.instanceMethod yX7_signs, Cond.selects RX7 yX7_signs yX7_signs, Cond.code yX7_signs cX7_signs 2 (some .int), Cond.fieldLink RX7 186 "BoilerLogModel" "signs" "I", Cond.methodLink RX7 193 yX7_asksMessage]
def wsL_law0_r33 : List Cond := [Cond.instanceMethod yX7_asksMessage, Cond.selects RX7 yX7_asksMessage yX7_asksMessage, Cond.code yX7_asksMessage cX7_asksMessage 2 (some .boolean), Cond.methodLink RX7 190 yX7_laysSigns, Cond.instanceMethod yX7_laysSigns, Cond.selects RX7 yX7_laysSigns yX7_laysSigns, Cond.code yX7_laysSigns cX7_laysSigns 4 none, Cond.constant RX7 189 (65536), Cond.methodLink RL 210 yL_signAt, Cond.static yL_signAt, Cond.codeWith yL_signAt cL_signAt 5 (some .int) [(0, 10, 13, 13)], Cond.methodLink RL 93 yX6_signAt, Cond.instanceMethod yX6_signAt, Cond.selects RX6 yX6_signAt yX6_signAt, Cond.code yX6_signAt cX6_signAt 3 (some .int), Cond.methodLink RX6 266 yX6_checkPlace, Cond.static yX6_checkPlace, Cond.code yX6_checkPlace cX6_checkPlace 1 none, Cond.instanceMethod yX3_get, Cond.selects RX3 yX3_get yX3_get, Cond.code yX3_get cX3_get 2 (some .int), Cond.methodLink RL 212 yX7_signAt, Cond.instanceMethod yX7_signAt, Cond.selects RX7 yX7_signAt yX7_signAt]
def wsL_law0_r34 : List Cond := [Cond.code yX7_signAt cX7_signAt 3 (some .int), Cond.methodLink RX7 196 yX7_signOf, Cond.instanceMethod yX7_signOf, Cond.selects RX7 yX7_signOf yX7_signOf, Cond.code yX7_signOf cX7_signOf 5 (some .int), Cond.methodLink RL 213 yL_signBack, Cond.static yL_signBack, Cond.codeWith yL_signBack cL_signBack 5 (some .int) [(0, 10, 13, 13)], Cond.methodLink RL 96 yX6_signBack, Cond.instanceMethod yX6_signBack, Cond.selects RX6 yX6_signBack yX6_signBack, Cond.code yX6_signBack cX6_signBack 4 (some .int), Cond.methodLink RL 215 yX7_signBack, Cond.instanceMethod yX7_signBack, Cond.selects RX7 yX7_signBack yX7_signBack, Cond.code yX7_signBack cX7_signBack 3 (some .int)]
def wsL_law0 : List Cond := (wsL_law0_r1 ++ (wsL_law0_r2 ++ (wsL_law0_r3 ++ (wsL_law0_r4 ++ (wsL_law0_r5 ++ (wsL_law0_r6 ++ (wsL_law0_r7 ++ (wsL_law0_r8 ++ (wsL_law0_r9 ++ (wsL_law0_r10 ++ (wsL_law0_r11 ++ (wsL_law0_r12 ++ (wsL_law0_r13 ++ (wsL_law0_r14 ++ (wsL_law0_r15 ++ (wsL_law0_r16 ++ (wsL_law0_r17 ++ (wsL_law0_r18 ++ (wsL_law0_r19 ++ (wsL_law0_r20 ++ (wsL_law0_r21 ++ (wsL_law0_r22 ++ (wsL_law0_r23 ++ (wsL_law0_r24 ++ (wsL_law0_r25 ++ (wsL_law0_r26 ++ (wsL_law0_r27 ++ (wsL_law0_r28 ++ (wsL_law0_r29 ++ (wsL_law0_r30 ++ (wsL_law0_r31 ++ (wsL_law0_r32 ++ (wsL_law0_r33 ++ wsL_law0_r34))))))))))))))))))))))))))))))))) ++ wsX60 ++ wsX70 ++ wsJx4a65c0 ++ wsX20 ++ wsX10 ++ wsX50 ++ wsX40 ++ wsX00 ++ wsX30 ++ ([] : List Cond)
def wsL_law : List Cond := wsL_law0 ++ (vx_atS RX6 88 "java/lang/IllegalArgumentException" ["java/lang/RuntimeException", "java/lang/Exception"]).filter goodWord ++ (vx_atS RX6 99 "java/lang/IllegalStateException" ["java/lang/RuntimeException", "java/lang/Exception"]).filter goodWord ++ (vx_atS RX6 204 "java/lang/IndexOutOfBoundsException" ["java/lang/RuntimeException", "java/lang/Exception"]).filter goodWord
end
section
theorem dX0_init_0 : decode cX0_init 0 = .ok (.aload_n 0, 1) := by decide +kernel
theorem dX0_init_1 : decode cX0_init 1 = .ok (.invokespecial 3, 3) := by decide +kernel
theorem dX0_init_4 : decode cX0_init 4 = .ok (.aload_n 0, 1) := by decide +kernel
theorem dX0_init_5 : decode cX0_init 5 = .ok (.iconst 0, 1) := by decide +kernel
theorem dX0_init_6 : decode cX0_init 6 = .ok (.putfield 9, 3) := by decide +kernel
theorem dX0_init_9 : decode cX0_init 9 = .ok (.aload_n 0, 1) := by decide +kernel
theorem dX0_init_10 : decode cX0_init 10 = .ok (.iload_n 1, 1) := by decide +kernel
theorem dX0_init_11 : decode cX0_init 11 = .ok (.putfield 15, 3) := by decide +kernel
theorem dX0_init_14 : decode cX0_init 14 = .ok (.aload_n 0, 1) := by decide +kernel
theorem dX0_init_15 : decode cX0_init 15 = .ok (.iload_n 2, 1) := by decide +kernel
theorem dX0_init_16 : decode cX0_init 16 = .ok (.putfield 18, 3) := by decide +kernel
theorem dX0_init_19 : decode cX0_init 19 = .ok (.aload_n 0, 1) := by decide +kernel
theorem dX0_init_20 : decode cX0_init 20 = .ok (.iload_n 3, 1) := by decide +kernel
theorem dX0_init_21 : decode cX0_init 21 = .ok (.putfield 21, 3) := by decide +kernel
theorem dX0_init_24 : decode cX0_init 24 = .ok (.aload_n 0, 1) := by decide +kernel
theorem dX0_init_25 : decode cX0_init 25 = .ok (.iload 4, 2) := by decide +kernel
theorem dX0_init_27 : decode cX0_init 27 = .ok (.putfield 25, 3) := by decide +kernel
theorem dX0_init_30 : decode cX0_init 30 = .ok (.aload_n 0, 1) := by decide +kernel
theorem dX0_init_31 : decode cX0_init 31 = .ok (.iload 5, 2) := by decide +kernel
theorem dX0_init_33 : decode cX0_init 33 = .ok (.putfield 28, 3) := by decide +kernel
theorem dX0_init_36 : decode cX0_init 36 = .ok (.return_, 1) := by decide +kernel
theorem dX0_isMetBy_0 : decode cX0_isMetBy 0 = .ok (.aload_n 0, 1) := by decide +kernel
theorem dX0_isMetBy_1 : decode cX0_isMetBy 1 = .ok (.getfield 21, 3) := by decide +kernel
theorem dX0_isMetBy_4 : decode cX0_isMetBy 4 = .ok (.ifCond .eq 19, 3) := by decide +kernel
theorem dX0_isMetBy_7 : decode cX0_isMetBy 7 = .ok (.iload_n 1, 1) := by decide +kernel
theorem dX0_isMetBy_8 : decode cX0_isMetBy 8 = .ok (.aload_n 0, 1) := by decide +kernel
theorem dX0_isMetBy_9 : decode cX0_isMetBy 9 = .ok (.getfield 18, 3) := by decide +kernel
theorem dX0_isMetBy_12 : decode cX0_isMetBy 12 = .ok (.if_icmp .lt 7, 3) := by decide +kernel
theorem dX0_isMetBy_15 : decode cX0_isMetBy 15 = .ok (.iconst 1, 1) := by decide +kernel
theorem dX0_isMetBy_16 : decode cX0_isMetBy 16 = .ok (.goto 20, 3) := by decide +kernel
theorem dX0_isMetBy_19 : decode cX0_isMetBy 19 = .ok (.iconst 0, 1) := by decide +kernel
theorem dX0_isMetBy_20 : decode cX0_isMetBy 20 = .ok (.goto 16, 3) := by decide +kernel
theorem dX0_isMetBy_23 : decode cX0_isMetBy 23 = .ok (.iload_n 1, 1) := by decide +kernel
theorem dX0_isMetBy_24 : decode cX0_isMetBy 24 = .ok (.aload_n 0, 1) := by decide +kernel
theorem dX0_isMetBy_25 : decode cX0_isMetBy 25 = .ok (.getfield 18, 3) := by decide +kernel
theorem dX0_isMetBy_28 : decode cX0_isMetBy 28 = .ok (.if_icmp .gt 7, 3) := by decide +kernel
theorem dX0_isMetBy_31 : decode cX0_isMetBy 31 = .ok (.iconst 1, 1) := by decide +kernel
theorem dX0_isMetBy_32 : decode cX0_isMetBy 32 = .ok (.goto 4, 3) := by decide +kernel
theorem dX0_isMetBy_35 : decode cX0_isMetBy 35 = .ok (.iconst 0, 1) := by decide +kernel
theorem dX0_isMetBy_36 : decode cX0_isMetBy 36 = .ok (.ireturn, 1) := by decide +kernel
theorem dX1_init_0 : decode cX1_init 0 = .ok (.aload_n 0, 1) := by decide +kernel
theorem dX1_init_1 : decode cX1_init 1 = .ok (.invokespecial 3, 3) := by decide +kernel
theorem dX1_init_4 : decode cX1_init 4 = .ok (.aload_n 0, 1) := by decide +kernel
theorem dX1_init_5 : decode cX1_init 5 = .ok (.bipush 40, 2) := by decide +kernel
theorem dX1_init_7 : decode cX1_init 7 = .ok (.newarray .char, 2) := by decide +kernel
theorem dX1_init_9 : decode cX1_init 9 = .ok (.putfield 9, 3) := by decide +kernel
theorem dX1_init_12 : decode cX1_init 12 = .ok (.aload_n 0, 1) := by decide +kernel
theorem dX1_init_13 : decode cX1_init 13 = .ok (.iconst 0, 1) := by decide +kernel
theorem dX1_init_14 : decode cX1_init 14 = .ok (.putfield 15, 3) := by decide +kernel
theorem dX1_init_17 : decode cX1_init 17 = .ok (.return_, 1) := by decide +kernel
theorem dX1_length_0 : decode cX1_length 0 = .ok (.aload_n 0, 1) := by decide +kernel
theorem dX1_length_1 : decode cX1_length 1 = .ok (.getfield 15, 3) := by decide +kernel
theorem dX1_length_4 : decode cX1_length 4 = .ok (.ireturn, 1) := by decide +kernel
theorem dX1_put_0 : decode cX1_put 0 = .ok (.aload_n 0, 1) := by decide +kernel
theorem dX1_put_1 : decode cX1_put 1 = .ok (.getfield 15, 3) := by decide +kernel
theorem dX1_put_4 : decode cX1_put 4 = .ok (.istore_n 3, 1) := by decide +kernel
theorem dX1_put_5 : decode cX1_put 5 = .ok (.iload_n 3, 1) := by decide +kernel
theorem dX1_put_6 : decode cX1_put 6 = .ok (.iload_n 1, 1) := by decide +kernel
theorem dX1_put_7 : decode cX1_put 7 = .ok (.if_icmp .le 23, 3) := by decide +kernel
theorem dX1_put_10 : decode cX1_put 10 = .ok (.aload_n 0, 1) := by decide +kernel
theorem dX1_put_11 : decode cX1_put 11 = .ok (.getfield 9, 3) := by decide +kernel
theorem dX1_put_14 : decode cX1_put 14 = .ok (.iload_n 3, 1) := by decide +kernel
theorem dX1_put_15 : decode cX1_put 15 = .ok (.aload_n 0, 1) := by decide +kernel
theorem dX1_put_16 : decode cX1_put 16 = .ok (.getfield 9, 3) := by decide +kernel
theorem dX1_put_19 : decode cX1_put 19 = .ok (.iload_n 3, 1) := by decide +kernel
theorem dX1_put_20 : decode cX1_put 20 = .ok (.iconst 1, 1) := by decide +kernel
theorem dX1_put_21 : decode cX1_put 21 = .ok (.isub, 1) := by decide +kernel
theorem dX1_put_22 : decode cX1_put 22 = .ok (.caload, 1) := by decide +kernel
theorem dX1_put_23 : decode cX1_put 23 = .ok (.castore, 1) := by decide +kernel
theorem dX1_put_24 : decode cX1_put 24 = .ok (.iinc 3 (-1), 3) := by decide +kernel
theorem dX1_put_27 : decode cX1_put 27 = .ok (.goto (-22), 3) := by decide +kernel
theorem dX1_put_30 : decode cX1_put 30 = .ok (.aload_n 0, 1) := by decide +kernel
theorem dX1_put_31 : decode cX1_put 31 = .ok (.getfield 9, 3) := by decide +kernel
theorem dX1_put_34 : decode cX1_put 34 = .ok (.iload_n 1, 1) := by decide +kernel
theorem dX1_put_35 : decode cX1_put 35 = .ok (.iload_n 2, 1) := by decide +kernel
theorem dX1_put_36 : decode cX1_put 36 = .ok (.castore, 1) := by decide +kernel
theorem dX1_put_37 : decode cX1_put 37 = .ok (.aload_n 0, 1) := by decide +kernel
theorem dX1_put_38 : decode cX1_put 38 = .ok (.dup, 1) := by decide +kernel
theorem dX1_put_39 : decode cX1_put 39 = .ok (.getfield 15, 3) := by decide +kernel
theorem dX1_put_42 : decode cX1_put 42 = .ok (.iconst 1, 1) := by decide +kernel
theorem dX1_put_43 : decode cX1_put 43 = .ok (.iadd, 1) := by decide +kernel
theorem dX1_put_44 : decode cX1_put 44 = .ok (.putfield 15, 3) := by decide +kernel
theorem dX1_put_47 : decode cX1_put 47 = .ok (.return_, 1) := by decide +kernel
theorem dX1_wipe_0 : decode cX1_wipe 0 = .ok (.aload_n 0, 1) := by decide +kernel
theorem dX1_wipe_1 : decode cX1_wipe 1 = .ok (.iconst 0, 1) := by decide +kernel
theorem dX1_wipe_2 : decode cX1_wipe 2 = .ok (.putfield 15, 3) := by decide +kernel
theorem dX1_wipe_5 : decode cX1_wipe 5 = .ok (.return_, 1) := by decide +kernel
set_option maxRecDepth 20000 in
theorem ggX1_isComplete_X1_isLow : GoodIn wsX1_isComplete wsX1_isLow := goodIn_r _ [6, 7, 8] (by decide +kernel) (by decide +kernel)
set_option maxRecDepth 20000 in
theorem gX1_isComplete_X1_isLow : GoodIn wsX1_isComplete (va_wsS RX1 19 yX1_isLow wsX1_isLow) := goodIn_app (goodIn_of _ (by decide +kernel)) ggX1_isComplete_X1_isLow
set_option maxRecDepth 20000 in
theorem ggX1_isComplete_X1_isHigh : GoodIn wsX1_isComplete wsX1_isHigh := goodIn_r _ [11, 12, 7] (by decide +kernel) (by decide +kernel)
set_option maxRecDepth 20000 in
theorem gX1_isComplete_X1_isHigh : GoodIn wsX1_isComplete (va_wsS RX1 23 yX1_isHigh wsX1_isHigh) := goodIn_app (goodIn_of _ (by decide +kernel)) ggX1_isComplete_X1_isHigh
theorem dX1_isComplete_0 : decode cX1_isComplete 0 = .ok (.iconst 0, 1) := by decide +kernel
theorem dX1_isComplete_1 : decode cX1_isComplete 1 = .ok (.istore_n 1, 1) := by decide +kernel
theorem dX1_isComplete_2 : decode cX1_isComplete 2 = .ok (.iconst 0, 1) := by decide +kernel
theorem dX1_isComplete_3 : decode cX1_isComplete 3 = .ok (.istore_n 2, 1) := by decide +kernel
theorem dX1_isComplete_4 : decode cX1_isComplete 4 = .ok (.iload_n 2, 1) := by decide +kernel
theorem dX1_isComplete_5 : decode cX1_isComplete 5 = .ok (.aload_n 0, 1) := by decide +kernel
theorem dX1_isComplete_6 : decode cX1_isComplete 6 = .ok (.getfield 15, 3) := by decide +kernel
theorem dX1_isComplete_9 : decode cX1_isComplete 9 = .ok (.if_icmp .ge 34, 3) := by decide +kernel
theorem dX1_isComplete_12 : decode cX1_isComplete 12 = .ok (.aload_n 0, 1) := by decide +kernel
theorem dX1_isComplete_13 : decode cX1_isComplete 13 = .ok (.getfield 9, 3) := by decide +kernel
theorem dX1_isComplete_16 : decode cX1_isComplete 16 = .ok (.iload_n 2, 1) := by decide +kernel
theorem dX1_isComplete_17 : decode cX1_isComplete 17 = .ok (.caload, 1) := by decide +kernel
theorem dX1_isComplete_18 : decode cX1_isComplete 18 = .ok (.invokestatic 19, 3) := by decide +kernel
theorem dX1_isComplete_21 : decode cX1_isComplete 21 = .ok (.iload_n 1, 1) := by decide +kernel
theorem dX1_isComplete_22 : decode cX1_isComplete 22 = .ok (.if_icmp .eq 5, 3) := by decide +kernel
theorem dX1_isComplete_25 : decode cX1_isComplete 25 = .ok (.iconst 0, 1) := by decide +kernel
theorem dX1_isComplete_26 : decode cX1_isComplete 26 = .ok (.ireturn, 1) := by decide +kernel
theorem dX1_isComplete_27 : decode cX1_isComplete 27 = .ok (.aload_n 0, 1) := by decide +kernel
theorem dX1_isComplete_28 : decode cX1_isComplete 28 = .ok (.getfield 9, 3) := by decide +kernel
theorem dX1_isComplete_31 : decode cX1_isComplete 31 = .ok (.iload_n 2, 1) := by decide +kernel
theorem dX1_isComplete_32 : decode cX1_isComplete 32 = .ok (.caload, 1) := by decide +kernel
theorem dX1_isComplete_33 : decode cX1_isComplete 33 = .ok (.invokestatic 23, 3) := by decide +kernel
theorem dX1_isComplete_36 : decode cX1_isComplete 36 = .ok (.istore_n 1, 1) := by decide +kernel
theorem dX1_isComplete_37 : decode cX1_isComplete 37 = .ok (.iinc 2 1, 3) := by decide +kernel
theorem dX1_isComplete_40 : decode cX1_isComplete 40 = .ok (.goto (-36), 3) := by decide +kernel
theorem dX1_isComplete_43 : decode cX1_isComplete 43 = .ok (.aload_n 0, 1) := by decide +kernel
theorem dX1_isComplete_44 : decode cX1_isComplete 44 = .ok (.getfield 15, 3) := by decide +kernel
theorem dX1_isComplete_47 : decode cX1_isComplete 47 = .ok (.ifCond .le 11, 3) := by decide +kernel
theorem dX1_isComplete_50 : decode cX1_isComplete 50 = .ok (.iload_n 1, 1) := by decide +kernel
theorem dX1_isComplete_51 : decode cX1_isComplete 51 = .ok (.ifCond .ne 7, 3) := by decide +kernel
theorem dX1_isComplete_54 : decode cX1_isComplete 54 = .ok (.iconst 1, 1) := by decide +kernel
theorem dX1_isComplete_55 : decode cX1_isComplete 55 = .ok (.goto 4, 3) := by decide +kernel
theorem dX1_isComplete_58 : decode cX1_isComplete 58 = .ok (.iconst 0, 1) := by decide +kernel
theorem dX1_isComplete_59 : decode cX1_isComplete 59 = .ok (.ireturn, 1) := by decide +kernel
set_option maxRecDepth 20000 in
theorem ggX1_toSigns_X1_countHigh : GoodIn wsX1_toSigns wsX1_countHigh := goodIn_r _ [8, 1, 3, 9, 10, 7, 11, 12, 13, 18, 19] (by decide +kernel) (by decide +kernel)
set_option maxRecDepth 20000 in
theorem gX1_toSigns_X1_countHigh : GoodIn wsX1_toSigns (wsV RX1 26 RX1 yX1_countHigh wsX1_countHigh) := goodIn_app (goodIn_of _ (by decide +kernel)) ggX1_toSigns_X1_countHigh
set_option maxRecDepth 20000 in
theorem ggX1_toSigns_X1_isHigh : GoodIn wsX1_toSigns wsX1_isHigh := goodIn_r _ [11, 12, 13] (by decide +kernel) (by decide +kernel)
set_option maxRecDepth 20000 in
theorem gX1_toSigns_X1_isHigh : GoodIn wsX1_toSigns (va_wsS RX1 23 yX1_isHigh wsX1_isHigh) := goodIn_app (goodIn_of _ (by decide +kernel)) ggX1_toSigns_X1_isHigh
set_option maxRecDepth 20000 in
theorem ggX1_toSigns_X1_join : GoodIn wsX1_toSigns wsX1_join := goodIn_r _ [16, 17, 12, 13] (by decide +kernel) (by decide +kernel)
set_option maxRecDepth 20000 in
theorem gX1_toSigns_X1_join : GoodIn wsX1_toSigns (va_wsS RX1 30 yX1_join wsX1_join) := goodIn_app (goodIn_of _ (by decide +kernel)) ggX1_toSigns_X1_join
theorem dX1_toSigns_0 : decode cX1_toSigns 0 = .ok (.aload_n 0, 1) := by decide +kernel
theorem dX1_toSigns_1 : decode cX1_toSigns 1 = .ok (.getfield 15, 3) := by decide +kernel
theorem dX1_toSigns_4 : decode cX1_toSigns 4 = .ok (.aload_n 0, 1) := by decide +kernel
theorem dX1_toSigns_5 : decode cX1_toSigns 5 = .ok (.invokevirtual 26, 3) := by decide +kernel
theorem dX1_toSigns_8 : decode cX1_toSigns 8 = .ok (.isub, 1) := by decide +kernel
theorem dX1_toSigns_9 : decode cX1_toSigns 9 = .ok (.newarray .int, 2) := by decide +kernel
theorem dX1_toSigns_11 : decode cX1_toSigns 11 = .ok (.astore_n 1, 1) := by decide +kernel
theorem dX1_toSigns_12 : decode cX1_toSigns 12 = .ok (.iconst 0, 1) := by decide +kernel
theorem dX1_toSigns_13 : decode cX1_toSigns 13 = .ok (.istore_n 2, 1) := by decide +kernel
theorem dX1_toSigns_14 : decode cX1_toSigns 14 = .ok (.iconst 0, 1) := by decide +kernel
theorem dX1_toSigns_15 : decode cX1_toSigns 15 = .ok (.istore_n 3, 1) := by decide +kernel
theorem dX1_toSigns_16 : decode cX1_toSigns 16 = .ok (.iload_n 3, 1) := by decide +kernel
theorem dX1_toSigns_17 : decode cX1_toSigns 17 = .ok (.aload_n 1, 1) := by decide +kernel
theorem dX1_toSigns_18 : decode cX1_toSigns 18 = .ok (.arraylength, 1) := by decide +kernel
theorem dX1_toSigns_19 : decode cX1_toSigns 19 = .ok (.if_icmp .ge 73, 3) := by decide +kernel
theorem dX1_toSigns_22 : decode cX1_toSigns 22 = .ok (.iload_n 2, 1) := by decide +kernel
theorem dX1_toSigns_23 : decode cX1_toSigns 23 = .ok (.aload_n 0, 1) := by decide +kernel
theorem dX1_toSigns_24 : decode cX1_toSigns 24 = .ok (.getfield 15, 3) := by decide +kernel
theorem dX1_toSigns_27 : decode cX1_toSigns 27 = .ok (.if_icmp .ge 65, 3) := by decide +kernel
theorem dX1_toSigns_30 : decode cX1_toSigns 30 = .ok (.aload_n 0, 1) := by decide +kernel
theorem dX1_toSigns_31 : decode cX1_toSigns 31 = .ok (.getfield 9, 3) := by decide +kernel
theorem dX1_toSigns_34 : decode cX1_toSigns 34 = .ok (.iload_n 2, 1) := by decide +kernel
theorem dX1_toSigns_35 : decode cX1_toSigns 35 = .ok (.caload, 1) := by decide +kernel
theorem dX1_toSigns_36 : decode cX1_toSigns 36 = .ok (.istore 4, 2) := by decide +kernel
theorem dX1_toSigns_38 : decode cX1_toSigns 38 = .ok (.iload 4, 2) := by decide +kernel
theorem dX1_toSigns_40 : decode cX1_toSigns 40 = .ok (.invokestatic 23, 3) := by decide +kernel
theorem dX1_toSigns_43 : decode cX1_toSigns 43 = .ok (.ifCond .eq 35, 3) := by decide +kernel
theorem dX1_toSigns_46 : decode cX1_toSigns 46 = .ok (.iload_n 2, 1) := by decide +kernel
theorem dX1_toSigns_47 : decode cX1_toSigns 47 = .ok (.iconst 1, 1) := by decide +kernel
theorem dX1_toSigns_48 : decode cX1_toSigns 48 = .ok (.iadd, 1) := by decide +kernel
theorem dX1_toSigns_49 : decode cX1_toSigns 49 = .ok (.aload_n 0, 1) := by decide +kernel
theorem dX1_toSigns_50 : decode cX1_toSigns 50 = .ok (.getfield 15, 3) := by decide +kernel
theorem dX1_toSigns_53 : decode cX1_toSigns 53 = .ok (.if_icmp .ge 25, 3) := by decide +kernel
theorem dX1_toSigns_56 : decode cX1_toSigns 56 = .ok (.aload_n 1, 1) := by decide +kernel
theorem dX1_toSigns_57 : decode cX1_toSigns 57 = .ok (.iload_n 3, 1) := by decide +kernel
theorem dX1_toSigns_58 : decode cX1_toSigns 58 = .ok (.iload 4, 2) := by decide +kernel
theorem dX1_toSigns_60 : decode cX1_toSigns 60 = .ok (.aload_n 0, 1) := by decide +kernel
theorem dX1_toSigns_61 : decode cX1_toSigns 61 = .ok (.getfield 9, 3) := by decide +kernel
theorem dX1_toSigns_64 : decode cX1_toSigns 64 = .ok (.iload_n 2, 1) := by decide +kernel
theorem dX1_toSigns_65 : decode cX1_toSigns 65 = .ok (.iconst 1, 1) := by decide +kernel
theorem dX1_toSigns_66 : decode cX1_toSigns 66 = .ok (.iadd, 1) := by decide +kernel
theorem dX1_toSigns_67 : decode cX1_toSigns 67 = .ok (.caload, 1) := by decide +kernel
theorem dX1_toSigns_68 : decode cX1_toSigns 68 = .ok (.invokestatic 30, 3) := by decide +kernel
theorem dX1_toSigns_71 : decode cX1_toSigns 71 = .ok (.iastore, 1) := by decide +kernel
theorem dX1_toSigns_72 : decode cX1_toSigns 72 = .ok (.iinc 2 2, 3) := by decide +kernel
theorem dX1_toSigns_75 : decode cX1_toSigns 75 = .ok (.goto 11, 3) := by decide +kernel
theorem dX1_toSigns_78 : decode cX1_toSigns 78 = .ok (.aload_n 1, 1) := by decide +kernel
theorem dX1_toSigns_79 : decode cX1_toSigns 79 = .ok (.iload_n 3, 1) := by decide +kernel
theorem dX1_toSigns_80 : decode cX1_toSigns 80 = .ok (.iload 4, 2) := by decide +kernel
theorem dX1_toSigns_82 : decode cX1_toSigns 82 = .ok (.iastore, 1) := by decide +kernel
theorem dX1_toSigns_83 : decode cX1_toSigns 83 = .ok (.iinc 2 1, 3) := by decide +kernel
theorem dX1_toSigns_86 : decode cX1_toSigns 86 = .ok (.iinc 3 1, 3) := by decide +kernel
theorem dX1_toSigns_89 : decode cX1_toSigns 89 = .ok (.goto (-73), 3) := by decide +kernel
theorem dX1_toSigns_92 : decode cX1_toSigns 92 = .ok (.aload_n 1, 1) := by decide +kernel
theorem dX1_toSigns_93 : decode cX1_toSigns 93 = .ok (.areturn, 1) := by decide +kernel
set_option maxRecDepth 20000 in
theorem ggX1_countHigh_X1_isHigh : GoodIn wsX1_countHigh wsX1_isHigh := goodIn_r _ [6, 7, 8] (by decide +kernel) (by decide +kernel)
set_option maxRecDepth 20000 in
theorem gX1_countHigh_X1_isHigh : GoodIn wsX1_countHigh (va_wsS RX1 23 yX1_isHigh wsX1_isHigh) := goodIn_app (goodIn_of _ (by decide +kernel)) ggX1_countHigh_X1_isHigh
theorem dX1_countHigh_0 : decode cX1_countHigh 0 = .ok (.iconst 0, 1) := by decide +kernel
theorem dX1_countHigh_1 : decode cX1_countHigh 1 = .ok (.istore_n 1, 1) := by decide +kernel
theorem dX1_countHigh_2 : decode cX1_countHigh 2 = .ok (.iconst 0, 1) := by decide +kernel
theorem dX1_countHigh_3 : decode cX1_countHigh 3 = .ok (.istore_n 2, 1) := by decide +kernel
theorem dX1_countHigh_4 : decode cX1_countHigh 4 = .ok (.iload_n 2, 1) := by decide +kernel
theorem dX1_countHigh_5 : decode cX1_countHigh 5 = .ok (.aload_n 0, 1) := by decide +kernel
theorem dX1_countHigh_6 : decode cX1_countHigh 6 = .ok (.getfield 15, 3) := by decide +kernel
theorem dX1_countHigh_9 : decode cX1_countHigh 9 = .ok (.if_icmp .ge 24, 3) := by decide +kernel
theorem dX1_countHigh_12 : decode cX1_countHigh 12 = .ok (.aload_n 0, 1) := by decide +kernel
theorem dX1_countHigh_13 : decode cX1_countHigh 13 = .ok (.getfield 9, 3) := by decide +kernel
theorem dX1_countHigh_16 : decode cX1_countHigh 16 = .ok (.iload_n 2, 1) := by decide +kernel
theorem dX1_countHigh_17 : decode cX1_countHigh 17 = .ok (.caload, 1) := by decide +kernel
theorem dX1_countHigh_18 : decode cX1_countHigh 18 = .ok (.invokestatic 23, 3) := by decide +kernel
theorem dX1_countHigh_21 : decode cX1_countHigh 21 = .ok (.ifCond .eq 6, 3) := by decide +kernel
theorem dX1_countHigh_24 : decode cX1_countHigh 24 = .ok (.iinc 1 1, 3) := by decide +kernel
theorem dX1_countHigh_27 : decode cX1_countHigh 27 = .ok (.iinc 2 1, 3) := by decide +kernel
theorem dX1_countHigh_30 : decode cX1_countHigh 30 = .ok (.goto (-26), 3) := by decide +kernel
theorem dX1_countHigh_33 : decode cX1_countHigh 33 = .ok (.iload_n 1, 1) := by decide +kernel
theorem dX1_countHigh_34 : decode cX1_countHigh 34 = .ok (.ireturn, 1) := by decide +kernel
theorem dX1_isHigh_0 : decode cX1_isHigh 0 = .ok (.iload_n 0, 1) := by decide +kernel
theorem dX1_isHigh_1 : decode cX1_isHigh 1 = .ok (.ldc 34, 2) := by decide +kernel
theorem dX1_isHigh_3 : decode cX1_isHigh 3 = .ok (.if_icmp .lt 13, 3) := by decide +kernel
theorem dX1_isHigh_6 : decode cX1_isHigh 6 = .ok (.iload_n 0, 1) := by decide +kernel
theorem dX1_isHigh_7 : decode cX1_isHigh 7 = .ok (.ldc 35, 2) := by decide +kernel
theorem dX1_isHigh_9 : decode cX1_isHigh 9 = .ok (.if_icmp .ge 7, 3) := by decide +kernel
theorem dX1_isHigh_12 : decode cX1_isHigh 12 = .ok (.iconst 1, 1) := by decide +kernel
theorem dX1_isHigh_13 : decode cX1_isHigh 13 = .ok (.goto 4, 3) := by decide +kernel
theorem dX1_isHigh_16 : decode cX1_isHigh 16 = .ok (.iconst 0, 1) := by decide +kernel
theorem dX1_isHigh_17 : decode cX1_isHigh 17 = .ok (.ireturn, 1) := by decide +kernel
theorem dX1_isLow_0 : decode cX1_isLow 0 = .ok (.iload_n 0, 1) := by decide +kernel
theorem dX1_isLow_1 : decode cX1_isLow 1 = .ok (.ldc 35, 2) := by decide +kernel
theorem dX1_isLow_3 : decode cX1_isLow 3 = .ok (.if_icmp .lt 13, 3) := by decide +kernel
theorem dX1_isLow_6 : decode cX1_isLow 6 = .ok (.iload_n 0, 1) := by decide +kernel
theorem dX1_isLow_7 : decode cX1_isLow 7 = .ok (.ldc 36, 2) := by decide +kernel
theorem dX1_isLow_9 : decode cX1_isLow 9 = .ok (.if_icmp .ge 7, 3) := by decide +kernel
theorem dX1_isLow_12 : decode cX1_isLow 12 = .ok (.iconst 1, 1) := by decide +kernel
theorem dX1_isLow_13 : decode cX1_isLow 13 = .ok (.goto 4, 3) := by decide +kernel
theorem dX1_isLow_16 : decode cX1_isLow 16 = .ok (.iconst 0, 1) := by decide +kernel
theorem dX1_isLow_17 : decode cX1_isLow 17 = .ok (.ireturn, 1) := by decide +kernel
theorem dX1_join_0 : decode cX1_join 0 = .ok (.ldc 37, 2) := by decide +kernel
theorem dX1_join_2 : decode cX1_join 2 = .ok (.iload_n 0, 1) := by decide +kernel
theorem dX1_join_3 : decode cX1_join 3 = .ok (.ldc 34, 2) := by decide +kernel
theorem dX1_join_5 : decode cX1_join 5 = .ok (.isub, 1) := by decide +kernel
theorem dX1_join_6 : decode cX1_join 6 = .ok (.bipush 10, 2) := by decide +kernel
theorem dX1_join_8 : decode cX1_join 8 = .ok (.ishl, 1) := by decide +kernel
theorem dX1_join_9 : decode cX1_join 9 = .ok (.iadd, 1) := by decide +kernel
theorem dX1_join_10 : decode cX1_join 10 = .ok (.iload_n 1, 1) := by decide +kernel
theorem dX1_join_11 : decode cX1_join 11 = .ok (.ldc 35, 2) := by decide +kernel
theorem dX1_join_13 : decode cX1_join 13 = .ok (.isub, 1) := by decide +kernel
theorem dX1_join_14 : decode cX1_join 14 = .ok (.iadd, 1) := by decide +kernel
theorem dX1_join_15 : decode cX1_join 15 = .ok (.ireturn, 1) := by decide +kernel
theorem dX2_init_0 : decode cX2_init 0 = .ok (.aload_n 0, 1) := by decide +kernel
theorem dX2_init_1 : decode cX2_init 1 = .ok (.invokespecial 3, 3) := by decide +kernel
theorem dX2_init_4 : decode cX2_init 4 = .ok (.aload_n 0, 1) := by decide +kernel
theorem dX2_init_5 : decode cX2_init 5 = .ok (.bipush 16, 2) := by decide +kernel
theorem dX2_init_7 : decode cX2_init 7 = .ok (.newarray .int, 2) := by decide +kernel
theorem dX2_init_9 : decode cX2_init 9 = .ok (.putfield 11, 3) := by decide +kernel
theorem dX2_init_12 : decode cX2_init 12 = .ok (.aload_n 0, 1) := by decide +kernel
theorem dX2_init_13 : decode cX2_init 13 = .ok (.iconst 0, 1) := by decide +kernel
theorem dX2_init_14 : decode cX2_init 14 = .ok (.putfield 15, 3) := by decide +kernel
theorem dX2_init_17 : decode cX2_init 17 = .ok (.return_, 1) := by decide +kernel
theorem dX2_size_0 : decode cX2_size 0 = .ok (.aload_n 0, 1) := by decide +kernel
theorem dX2_size_1 : decode cX2_size 1 = .ok (.getfield 15, 3) := by decide +kernel
theorem dX2_size_4 : decode cX2_size 4 = .ok (.ireturn, 1) := by decide +kernel
set_option maxRecDepth 20000 in
theorem ggX2_note_J7_copyOf_59c91 : GoodIn wsX2_note wsJ7_copyOf_59c91 := goodIn_r _ [6, 7, 8, 9, 10, 11, 12, 13, 14, 15, 16, 17, 18, 19, 20, 21] (by decide +kernel) (by decide +kernel)
set_option maxRecDepth 20000 in
theorem gX2_note_J7_copyOf_59c91 : GoodIn wsX2_note (va_wsS RX2 19 yJ7_copyOf_59c91 wsJ7_copyOf_59c91) := goodIn_app (goodIn_of _ (by decide +kernel)) ggX2_note_J7_copyOf_59c91
theorem dX2_note_0 : decode cX2_note 0 = .ok (.aload_n 0, 1) := by decide +kernel
theorem dX2_note_1 : decode cX2_note 1 = .ok (.getfield 15, 3) := by decide +kernel
theorem dX2_note_4 : decode cX2_note 4 = .ok (.sipush 20512, 3) := by decide +kernel
theorem dX2_note_7 : decode cX2_note 7 = .ok (.if_icmp .lt 4, 3) := by decide +kernel
theorem dX2_note_10 : decode cX2_note 10 = .ok (.return_, 1) := by decide +kernel
theorem dX2_note_11 : decode cX2_note 11 = .ok (.aload_n 0, 1) := by decide +kernel
theorem dX2_note_12 : decode cX2_note 12 = .ok (.getfield 15, 3) := by decide +kernel
theorem dX2_note_15 : decode cX2_note 15 = .ok (.aload_n 0, 1) := by decide +kernel
theorem dX2_note_16 : decode cX2_note 16 = .ok (.getfield 11, 3) := by decide +kernel
theorem dX2_note_19 : decode cX2_note 19 = .ok (.arraylength, 1) := by decide +kernel
theorem dX2_note_20 : decode cX2_note 20 = .ok (.if_icmp .lt 21, 3) := by decide +kernel
theorem dX2_note_23 : decode cX2_note 23 = .ok (.aload_n 0, 1) := by decide +kernel
theorem dX2_note_24 : decode cX2_note 24 = .ok (.aload_n 0, 1) := by decide +kernel
theorem dX2_note_25 : decode cX2_note 25 = .ok (.getfield 11, 3) := by decide +kernel
theorem dX2_note_28 : decode cX2_note 28 = .ok (.iconst 2, 1) := by decide +kernel
theorem dX2_note_29 : decode cX2_note 29 = .ok (.aload_n 0, 1) := by decide +kernel
theorem dX2_note_30 : decode cX2_note 30 = .ok (.getfield 11, 3) := by decide +kernel
theorem dX2_note_33 : decode cX2_note 33 = .ok (.arraylength, 1) := by decide +kernel
theorem dX2_note_34 : decode cX2_note 34 = .ok (.imul, 1) := by decide +kernel
theorem dX2_note_35 : decode cX2_note 35 = .ok (.invokestatic 19, 3) := by decide +kernel
theorem dX2_note_38 : decode cX2_note 38 = .ok (.putfield 11, 3) := by decide +kernel
theorem dX2_note_41 : decode cX2_note 41 = .ok (.aload_n 0, 1) := by decide +kernel
theorem dX2_note_42 : decode cX2_note 42 = .ok (.getfield 11, 3) := by decide +kernel
theorem dX2_note_45 : decode cX2_note 45 = .ok (.aload_n 0, 1) := by decide +kernel
theorem dX2_note_46 : decode cX2_note 46 = .ok (.getfield 15, 3) := by decide +kernel
theorem dX2_note_49 : decode cX2_note 49 = .ok (.sipush 10000, 3) := by decide +kernel
theorem dX2_note_52 : decode cX2_note 52 = .ok (.iload_n 1, 1) := by decide +kernel
theorem dX2_note_53 : decode cX2_note 53 = .ok (.imul, 1) := by decide +kernel
theorem dX2_note_54 : decode cX2_note 54 = .ok (.sipush 1000, 3) := by decide +kernel
theorem dX2_note_57 : decode cX2_note 57 = .ok (.iload_n 2, 1) := by decide +kernel
theorem dX2_note_58 : decode cX2_note 58 = .ok (.imul, 1) := by decide +kernel
theorem dX2_note_59 : decode cX2_note 59 = .ok (.iadd, 1) := by decide +kernel
theorem dX2_note_60 : decode cX2_note 60 = .ok (.bipush 100, 2) := by decide +kernel
theorem dX2_note_62 : decode cX2_note 62 = .ok (.iload_n 3, 1) := by decide +kernel
theorem dX2_note_63 : decode cX2_note 63 = .ok (.iconst 1, 1) := by decide +kernel
theorem dX2_note_64 : decode cX2_note 64 = .ok (.iadd, 1) := by decide +kernel
theorem dX2_note_65 : decode cX2_note 65 = .ok (.imul, 1) := by decide +kernel
theorem dX2_note_66 : decode cX2_note 66 = .ok (.iadd, 1) := by decide +kernel
theorem dX2_note_67 : decode cX2_note 67 = .ok (.iload 4, 2) := by decide +kernel
theorem dX2_note_69 : decode cX2_note 69 = .ok (.iadd, 1) := by decide +kernel
theorem dX2_note_70 : decode cX2_note 70 = .ok (.iastore, 1) := by decide +kernel
theorem dX2_note_71 : decode cX2_note 71 = .ok (.aload_n 0, 1) := by decide +kernel
theorem dX2_note_72 : decode cX2_note 72 = .ok (.dup, 1) := by decide +kernel
theorem dX2_note_73 : decode cX2_note 73 = .ok (.getfield 15, 3) := by decide +kernel
theorem dX2_note_76 : decode cX2_note 76 = .ok (.iconst 1, 1) := by decide +kernel
theorem dX2_note_77 : decode cX2_note 77 = .ok (.iadd, 1) := by decide +kernel
theorem dX2_note_78 : decode cX2_note 78 = .ok (.putfield 15, 3) := by decide +kernel
theorem dX2_note_81 : decode cX2_note 81 = .ok (.return_, 1) := by decide +kernel
set_option maxRecDepth 20000 in
theorem ggX2_noteTurn_X2_note : GoodIn wsX2_noteTurn wsX2_note := goodIn_r _ [5, 6, 7, 8, 9, 10, 11, 12, 13, 14, 15, 16, 17, 18, 19, 20, 21, 22, 23, 24, 25, 26, 27, 28] (by decide +kernel) (by decide +kernel)
set_option maxRecDepth 20000 in
theorem gX2_noteTurn_X2_note : GoodIn wsX2_noteTurn (wsV RX2 25 RX2 yX2_note wsX2_note) := goodIn_app (goodIn_of _ (by decide +kernel)) ggX2_noteTurn_X2_note
theorem dX2_noteTurn_0 : decode cX2_noteTurn 0 = .ok (.aload_n 0, 1) := by decide +kernel
theorem dX2_noteTurn_1 : decode cX2_noteTurn 1 = .ok (.iload_n 1, 1) := by decide +kernel
theorem dX2_noteTurn_2 : decode cX2_noteTurn 2 = .ok (.iconst 0, 1) := by decide +kernel
theorem dX2_noteTurn_3 : decode cX2_noteTurn 3 = .ok (.iload_n 2, 1) := by decide +kernel
theorem dX2_noteTurn_4 : decode cX2_noteTurn 4 = .ok (.iload 4, 2) := by decide +kernel
theorem dX2_noteTurn_6 : decode cX2_noteTurn 6 = .ok (.ifCond .eq 10, 3) := by decide +kernel
theorem dX2_noteTurn_9 : decode cX2_noteTurn 9 = .ok (.iload_n 3, 1) := by decide +kernel
theorem dX2_noteTurn_10 : decode cX2_noteTurn 10 = .ok (.bipush 10, 2) := by decide +kernel
theorem dX2_noteTurn_12 : decode cX2_noteTurn 12 = .ok (.iadd, 1) := by decide +kernel
theorem dX2_noteTurn_13 : decode cX2_noteTurn 13 = .ok (.goto 4, 3) := by decide +kernel
theorem dX2_noteTurn_16 : decode cX2_noteTurn 16 = .ok (.iload_n 3, 1) := by decide +kernel
theorem dX2_noteTurn_17 : decode cX2_noteTurn 17 = .ok (.invokevirtual 25, 3) := by decide +kernel
theorem dX2_noteTurn_20 : decode cX2_noteTurn 20 = .ok (.return_, 1) := by decide +kernel
theorem dX2_codeAt_0 : decode cX2_codeAt 0 = .ok (.aload_n 0, 1) := by decide +kernel
theorem dX2_codeAt_1 : decode cX2_codeAt 1 = .ok (.getfield 11, 3) := by decide +kernel
theorem dX2_codeAt_4 : decode cX2_codeAt 4 = .ok (.iload_n 1, 1) := by decide +kernel
theorem dX2_codeAt_5 : decode cX2_codeAt 5 = .ok (.iaload, 1) := by decide +kernel
theorem dX2_codeAt_6 : decode cX2_codeAt 6 = .ok (.ireturn, 1) := by decide +kernel
theorem dX2_kindAt_0 : decode cX2_kindAt 0 = .ok (.aload_n 0, 1) := by decide +kernel
theorem dX2_kindAt_1 : decode cX2_kindAt 1 = .ok (.getfield 11, 3) := by decide +kernel
theorem dX2_kindAt_4 : decode cX2_kindAt 4 = .ok (.iload_n 1, 1) := by decide +kernel
theorem dX2_kindAt_5 : decode cX2_kindAt 5 = .ok (.iaload, 1) := by decide +kernel
theorem dX2_kindAt_6 : decode cX2_kindAt 6 = .ok (.sipush 10000, 3) := by decide +kernel
theorem dX2_kindAt_9 : decode cX2_kindAt 9 = .ok (.irem, 1) := by decide +kernel
theorem dX2_kindAt_10 : decode cX2_kindAt 10 = .ok (.sipush 1000, 3) := by decide +kernel
theorem dX2_kindAt_13 : decode cX2_kindAt 13 = .ok (.idiv, 1) := by decide +kernel
theorem dX2_kindAt_14 : decode cX2_kindAt 14 = .ok (.ireturn, 1) := by decide +kernel
theorem dX2_whatAt_0 : decode cX2_whatAt 0 = .ok (.aload_n 0, 1) := by decide +kernel
theorem dX2_whatAt_1 : decode cX2_whatAt 1 = .ok (.getfield 11, 3) := by decide +kernel
theorem dX2_whatAt_4 : decode cX2_whatAt 4 = .ok (.iload_n 1, 1) := by decide +kernel
theorem dX2_whatAt_5 : decode cX2_whatAt 5 = .ok (.iaload, 1) := by decide +kernel
theorem dX2_whatAt_6 : decode cX2_whatAt 6 = .ok (.bipush 100, 2) := by decide +kernel
theorem dX2_whatAt_8 : decode cX2_whatAt 8 = .ok (.irem, 1) := by decide +kernel
theorem dX2_whatAt_9 : decode cX2_whatAt 9 = .ok (.ireturn, 1) := by decide +kernel
set_option maxRecDepth 20000 in
theorem ggX2_valveTurnedAt_X2_whatAt : GoodIn wsX2_valveTurnedAt wsX2_whatAt := goodIn_r _ [5, 6, 7, 8] (by decide +kernel) (by decide +kernel)
set_option maxRecDepth 20000 in
theorem gX2_valveTurnedAt_X2_whatAt : GoodIn wsX2_valveTurnedAt (wsV RX2 29 RX2 yX2_whatAt wsX2_whatAt) := goodIn_app (goodIn_of _ (by decide +kernel)) ggX2_valveTurnedAt_X2_whatAt
theorem dX2_valveTurnedAt_0 : decode cX2_valveTurnedAt 0 = .ok (.aload_n 0, 1) := by decide +kernel
theorem dX2_valveTurnedAt_1 : decode cX2_valveTurnedAt 1 = .ok (.iload_n 1, 1) := by decide +kernel
theorem dX2_valveTurnedAt_2 : decode cX2_valveTurnedAt 2 = .ok (.invokevirtual 29, 3) := by decide +kernel
theorem dX2_valveTurnedAt_5 : decode cX2_valveTurnedAt 5 = .ok (.bipush 10, 2) := by decide +kernel
theorem dX2_valveTurnedAt_7 : decode cX2_valveTurnedAt 7 = .ok (.irem, 1) := by decide +kernel
theorem dX2_valveTurnedAt_8 : decode cX2_valveTurnedAt 8 = .ok (.ireturn, 1) := by decide +kernel
set_option maxRecDepth 20000 in
theorem ggX2_opensAt_X2_whatAt : GoodIn wsX2_opensAt wsX2_whatAt := goodIn_r _ [5, 6, 7, 8] (by decide +kernel) (by decide +kernel)
set_option maxRecDepth 20000 in
theorem gX2_opensAt_X2_whatAt : GoodIn wsX2_opensAt (wsV RX2 29 RX2 yX2_whatAt wsX2_whatAt) := goodIn_app (goodIn_of _ (by decide +kernel)) ggX2_opensAt_X2_whatAt
theorem dX2_opensAt_0 : decode cX2_opensAt 0 = .ok (.aload_n 0, 1) := by decide +kernel
theorem dX2_opensAt_1 : decode cX2_opensAt 1 = .ok (.iload_n 1, 1) := by decide +kernel
theorem dX2_opensAt_2 : decode cX2_opensAt 2 = .ok (.invokevirtual 29, 3) := by decide +kernel
theorem dX2_opensAt_5 : decode cX2_opensAt 5 = .ok (.bipush 10, 2) := by decide +kernel
theorem dX2_opensAt_7 : decode cX2_opensAt 7 = .ok (.if_icmp .lt 7, 3) := by decide +kernel
theorem dX2_opensAt_10 : decode cX2_opensAt 10 = .ok (.iconst 1, 1) := by decide +kernel
theorem dX2_opensAt_11 : decode cX2_opensAt 11 = .ok (.goto 4, 3) := by decide +kernel
theorem dX2_opensAt_14 : decode cX2_opensAt 14 = .ok (.iconst 0, 1) := by decide +kernel
theorem dX2_opensAt_15 : decode cX2_opensAt 15 = .ok (.ireturn, 1) := by decide +kernel
theorem dX3_init_0 : decode cX3_init 0 = .ok (.aload_n 0, 1) := by decide +kernel
theorem dX3_init_1 : decode cX3_init 1 = .ok (.invokespecial 3, 3) := by decide +kernel
theorem dX3_init_4 : decode cX3_init 4 = .ok (.aload_n 0, 1) := by decide +kernel
theorem dX3_init_5 : decode cX3_init 5 = .ok (.aload_n 1, 1) := by decide +kernel
theorem dX3_init_6 : decode cX3_init 6 = .ok (.putfield 9, 3) := by decide +kernel
theorem dX3_init_9 : decode cX3_init 9 = .ok (.return_, 1) := by decide +kernel
theorem dX3_length_0 : decode cX3_length 0 = .ok (.aload_n 0, 1) := by decide +kernel
theorem dX3_length_1 : decode cX3_length 1 = .ok (.getfield 9, 3) := by decide +kernel
theorem dX3_length_4 : decode cX3_length 4 = .ok (.arraylength, 1) := by decide +kernel
theorem dX3_length_5 : decode cX3_length 5 = .ok (.ireturn, 1) := by decide +kernel
theorem dX3_get_0 : decode cX3_get 0 = .ok (.iload_n 1, 1) := by decide +kernel
theorem dX3_get_1 : decode cX3_get 1 = .ok (.ifCond .lt 21, 3) := by decide +kernel
theorem dX3_get_4 : decode cX3_get 4 = .ok (.iload_n 1, 1) := by decide +kernel
theorem dX3_get_5 : decode cX3_get 5 = .ok (.aload_n 0, 1) := by decide +kernel
theorem dX3_get_6 : decode cX3_get 6 = .ok (.getfield 9, 3) := by decide +kernel
theorem dX3_get_9 : decode cX3_get 9 = .ok (.arraylength, 1) := by decide +kernel
theorem dX3_get_10 : decode cX3_get 10 = .ok (.if_icmp .ge 12, 3) := by decide +kernel
theorem dX3_get_13 : decode cX3_get 13 = .ok (.aload_n 0, 1) := by decide +kernel
theorem dX3_get_14 : decode cX3_get 14 = .ok (.getfield 9, 3) := by decide +kernel
theorem dX3_get_17 : decode cX3_get 17 = .ok (.iload_n 1, 1) := by decide +kernel
theorem dX3_get_18 : decode cX3_get 18 = .ok (.iaload, 1) := by decide +kernel
theorem dX3_get_19 : decode cX3_get 19 = .ok (.goto 4, 3) := by decide +kernel
theorem dX3_get_22 : decode cX3_get 22 = .ok (.iconst (-1), 1) := by decide +kernel
theorem dX3_get_23 : decode cX3_get 23 = .ok (.ireturn, 1) := by decide +kernel
theorem dX3_personCalled_0 : decode cX3_personCalled 0 = .ok (.aload_n 0, 1) := by decide +kernel
theorem dX3_personCalled_1 : decode cX3_personCalled 1 = .ok (.getfield 9, 3) := by decide +kernel
theorem dX3_personCalled_4 : decode cX3_personCalled 4 = .ok (.arraylength, 1) := by decide +kernel
theorem dX3_personCalled_5 : decode cX3_personCalled 5 = .ok (.iconst 2, 1) := by decide +kernel
theorem dX3_personCalled_6 : decode cX3_personCalled 6 = .ok (.isub, 1) := by decide +kernel
theorem dX3_personCalled_7 : decode cX3_personCalled 7 = .ok (.istore_n 1, 1) := by decide +kernel
theorem dX3_personCalled_8 : decode cX3_personCalled 8 = .ok (.iload_n 1, 1) := by decide +kernel
theorem dX3_personCalled_9 : decode cX3_personCalled 9 = .ok (.ifCond .lt 44, 3) := by decide +kernel
theorem dX3_personCalled_12 : decode cX3_personCalled 12 = .ok (.aload_n 0, 1) := by decide +kernel
theorem dX3_personCalled_13 : decode cX3_personCalled 13 = .ok (.getfield 9, 3) := by decide +kernel
theorem dX3_personCalled_16 : decode cX3_personCalled 16 = .ok (.iload_n 1, 1) := by decide +kernel
theorem dX3_personCalled_17 : decode cX3_personCalled 17 = .ok (.iconst 1, 1) := by decide +kernel
theorem dX3_personCalled_18 : decode cX3_personCalled 18 = .ok (.iadd, 1) := by decide +kernel
theorem dX3_personCalled_19 : decode cX3_personCalled 19 = .ok (.iaload, 1) := by decide +kernel
theorem dX3_personCalled_20 : decode cX3_personCalled 20 = .ok (.bipush 48, 2) := by decide +kernel
theorem dX3_personCalled_22 : decode cX3_personCalled 22 = .ok (.isub, 1) := by decide +kernel
theorem dX3_personCalled_23 : decode cX3_personCalled 23 = .ok (.istore_n 2, 1) := by decide +kernel
theorem dX3_personCalled_24 : decode cX3_personCalled 24 = .ok (.aload_n 0, 1) := by decide +kernel
theorem dX3_personCalled_25 : decode cX3_personCalled 25 = .ok (.getfield 9, 3) := by decide +kernel
theorem dX3_personCalled_28 : decode cX3_personCalled 28 = .ok (.iload_n 1, 1) := by decide +kernel
theorem dX3_personCalled_29 : decode cX3_personCalled 29 = .ok (.iaload, 1) := by decide +kernel
theorem dX3_personCalled_30 : decode cX3_personCalled 30 = .ok (.bipush 64, 2) := by decide +kernel
theorem dX3_personCalled_32 : decode cX3_personCalled 32 = .ok (.if_icmp .ne 15, 3) := by decide +kernel
theorem dX3_personCalled_35 : decode cX3_personCalled 35 = .ok (.iload_n 2, 1) := by decide +kernel
theorem dX3_personCalled_36 : decode cX3_personCalled 36 = .ok (.ifCond .lt 11, 3) := by decide +kernel
theorem dX3_personCalled_39 : decode cX3_personCalled 39 = .ok (.iload_n 2, 1) := by decide +kernel
theorem dX3_personCalled_40 : decode cX3_personCalled 40 = .ok (.bipush 9, 2) := by decide +kernel
theorem dX3_personCalled_42 : decode cX3_personCalled 42 = .ok (.if_icmp .ge 5, 3) := by decide +kernel
theorem dX3_personCalled_45 : decode cX3_personCalled 45 = .ok (.iload_n 2, 1) := by decide +kernel
theorem dX3_personCalled_46 : decode cX3_personCalled 46 = .ok (.ireturn, 1) := by decide +kernel
theorem dX3_personCalled_47 : decode cX3_personCalled 47 = .ok (.iinc 1 (-1), 3) := by decide +kernel
theorem dX3_personCalled_50 : decode cX3_personCalled 50 = .ok (.goto (-42), 3) := by decide +kernel
theorem dX3_personCalled_53 : decode cX3_personCalled 53 = .ok (.iconst (-1), 1) := by decide +kernel
theorem dX3_personCalled_54 : decode cX3_personCalled 54 = .ok (.ireturn, 1) := by decide +kernel
theorem dX4_init_0 : decode cX4_init 0 = .ok (.aload_n 0, 1) := by decide +kernel
theorem dX4_init_1 : decode cX4_init 1 = .ok (.invokespecial 3, 3) := by decide +kernel
theorem dX4_init_4 : decode cX4_init 4 = .ok (.aload_n 0, 1) := by decide +kernel
theorem dX4_init_5 : decode cX4_init 5 = .ok (.iconst (-1), 1) := by decide +kernel
theorem dX4_init_6 : decode cX4_init 6 = .ok (.putfield 9, 3) := by decide +kernel
theorem dX4_init_9 : decode cX4_init 9 = .ok (.aload_n 0, 1) := by decide +kernel
theorem dX4_init_10 : decode cX4_init 10 = .ok (.iconst 0, 1) := by decide +kernel
theorem dX4_init_11 : decode cX4_init 11 = .ok (.putfield 15, 3) := by decide +kernel
theorem dX4_init_14 : decode cX4_init 14 = .ok (.aload_n 0, 1) := by decide +kernel
theorem dX4_init_15 : decode cX4_init 15 = .ok (.iload_n 1, 1) := by decide +kernel
theorem dX4_init_16 : decode cX4_init 16 = .ok (.putfield 19, 3) := by decide +kernel
theorem dX4_init_19 : decode cX4_init 19 = .ok (.aload_n 0, 1) := by decide +kernel
theorem dX4_init_20 : decode cX4_init 20 = .ok (.iload_n 2, 1) := by decide +kernel
theorem dX4_init_21 : decode cX4_init 21 = .ok (.putfield 22, 3) := by decide +kernel
theorem dX4_init_24 : decode cX4_init 24 = .ok (.return_, 1) := by decide +kernel
theorem dX5_init_0 : decode cX5_init 0 = .ok (.aload_n 0, 1) := by decide +kernel
theorem dX5_init_1 : decode cX5_init 1 = .ok (.invokespecial 3, 3) := by decide +kernel
theorem dX5_init_4 : decode cX5_init 4 = .ok (.aload_n 0, 1) := by decide +kernel
theorem dX5_init_5 : decode cX5_init 5 = .ok (.iconst 0, 1) := by decide +kernel
theorem dX5_init_6 : decode cX5_init 6 = .ok (.putfield 9, 3) := by decide +kernel
theorem dX5_init_9 : decode cX5_init 9 = .ok (.aload_n 0, 1) := by decide +kernel
theorem dX5_init_10 : decode cX5_init 10 = .ok (.iconst (-1), 1) := by decide +kernel
theorem dX5_init_11 : decode cX5_init 11 = .ok (.putfield 15, 3) := by decide +kernel
theorem dX5_init_14 : decode cX5_init 14 = .ok (.aload_n 0, 1) := by decide +kernel
theorem dX5_init_15 : decode cX5_init 15 = .ok (.iconst 0, 1) := by decide +kernel
theorem dX5_init_16 : decode cX5_init 16 = .ok (.putfield 19, 3) := by decide +kernel
theorem dX5_init_19 : decode cX5_init 19 = .ok (.return_, 1) := by decide +kernel
set_option maxRecDepth 20000 in
theorem ggX6_init_Jx4a65c_init_da8c8 : GoodIn wsX6_init wsJx4a65c_init_da8c8 := goodIn_r _ [34, 35, 36, 37, 38, 39, 40, 41, 42, 43, 44, 45, 46, 2, 3, 82, 83, 84] (by decide +kernel) (by decide +kernel)
set_option maxRecDepth 20000 in
theorem gX6_init_Jx4a65c_init_da8c8 : GoodIn wsX6_init (wsJx4a65c_init_da8c8) := ggX6_init_Jx4a65c_init_da8c8
set_option maxRecDepth 20000 in
theorem ggX6_init_X2_init : GoodIn wsX6_init wsX2_init := goodIn_r _ [48, 49, 2, 3, 6, 50, 51, 85, 86] (by decide +kernel) (by decide +kernel)
set_option maxRecDepth 20000 in
theorem gX6_init_X2_init_n44 : GoodIn wsX6_init (wsX2_init) := ggX6_init_X2_init
set_option maxRecDepth 20000 in
theorem ggX6_init_X1_init : GoodIn wsX6_init wsX1_init := goodIn_r _ [53, 54, 2, 3, 55, 56, 57, 87, 88] (by decide +kernel) (by decide +kernel)
set_option maxRecDepth 20000 in
theorem gX6_init_X1_init_n51 : GoodIn wsX6_init (wsX1_init) := ggX6_init_X1_init
set_option maxRecDepth 20000 in
theorem ggX6_init_X5_init : GoodIn wsX6_init wsX5_init := goodIn_r _ [59, 60, 2, 3, 61, 62, 63, 89, 90, 91] (by decide +kernel) (by decide +kernel)
set_option maxRecDepth 20000 in
theorem gX6_init_X5_init_n69 : GoodIn wsX6_init (wsX5_init) := ggX6_init_X5_init
set_option maxRecDepth 20000 in
theorem ggX6_init_J7_fill_53178 : GoodIn wsX6_init wsJ7_fill_53178 := goodIn_r _ [67] (by decide +kernel) (by decide +kernel)
set_option maxRecDepth 20000 in
theorem gX6_init_J7_fill_53178 : GoodIn wsX6_init (va_wsS RX6 70 yJ7_fill_53178 wsJ7_fill_53178) := goodIn_app (goodIn_of _ (by decide +kernel)) ggX6_init_J7_fill_53178
theorem dX6_init_0 : decode cX6_init 0 = .ok (.aload_n 0, 1) := by decide +kernel
theorem dX6_init_1 : decode cX6_init 1 = .ok (.invokespecial 1, 3) := by decide +kernel
theorem dX6_init_4 : decode cX6_init 4 = .ok (.aload_n 0, 1) := by decide +kernel
theorem dX6_init_5 : decode cX6_init 5 = .ok (.bipush 8, 2) := by decide +kernel
theorem dX6_init_7 : decode cX6_init 7 = .ok (.anewarray 9, 3) := by decide +kernel
theorem dX6_init_10 : decode cX6_init 10 = .ok (.putfield 11, 3) := by decide +kernel
theorem dX6_init_13 : decode cX6_init 13 = .ok (.aload_n 0, 1) := by decide +kernel
theorem dX6_init_14 : decode cX6_init 14 = .ok (.iconst 3, 1) := by decide +kernel
theorem dX6_init_15 : decode cX6_init 15 = .ok (.newarray .int, 2) := by decide +kernel
theorem dX6_init_17 : decode cX6_init 17 = .ok (.putfield 15, 3) := by decide +kernel
theorem dX6_init_20 : decode cX6_init 20 = .ok (.aload_n 0, 1) := by decide +kernel
theorem dX6_init_21 : decode cX6_init 21 = .ok (.bipush 9, 2) := by decide +kernel
theorem dX6_init_23 : decode cX6_init 23 = .ok (.newarray .boolean, 2) := by decide +kernel
theorem dX6_init_25 : decode cX6_init 25 = .ok (.putfield 19, 3) := by decide +kernel
theorem dX6_init_28 : decode cX6_init 28 = .ok (.aload_n 0, 1) := by decide +kernel
theorem dX6_init_29 : decode cX6_init 29 = .ok (.bipush 9, 2) := by decide +kernel
theorem dX6_init_31 : decode cX6_init 31 = .ok (.newarray .int, 2) := by decide +kernel
theorem dX6_init_33 : decode cX6_init 33 = .ok (.putfield 23, 3) := by decide +kernel
theorem dX6_init_36 : decode cX6_init 36 = .ok (.aload_n 0, 1) := by decide +kernel
theorem dX6_init_37 : decode cX6_init 37 = .ok (.new 26, 3) := by decide +kernel
theorem dX6_init_40 : decode cX6_init 40 = .ok (.dup, 1) := by decide +kernel
theorem dX6_init_41 : decode cX6_init 41 = .ok (.invokespecial 28, 3) := by decide +kernel
theorem dX6_init_44 : decode cX6_init 44 = .ok (.putfield 29, 3) := by decide +kernel
theorem dX6_init_47 : decode cX6_init 47 = .ok (.aload_n 0, 1) := by decide +kernel
theorem dX6_init_48 : decode cX6_init 48 = .ok (.new 26, 3) := by decide +kernel
theorem dX6_init_51 : decode cX6_init 51 = .ok (.dup, 1) := by decide +kernel
theorem dX6_init_52 : decode cX6_init 52 = .ok (.invokespecial 28, 3) := by decide +kernel
theorem dX6_init_55 : decode cX6_init 55 = .ok (.putfield 33, 3) := by decide +kernel
theorem dX6_init_58 : decode cX6_init 58 = .ok (.aload_n 0, 1) := by decide +kernel
theorem dX6_init_59 : decode cX6_init 59 = .ok (.new 26, 3) := by decide +kernel
theorem dX6_init_62 : decode cX6_init 62 = .ok (.dup, 1) := by decide +kernel
theorem dX6_init_63 : decode cX6_init 63 = .ok (.invokespecial 28, 3) := by decide +kernel
theorem dX6_init_66 : decode cX6_init 66 = .ok (.putfield 36, 3) := by decide +kernel
theorem dX6_init_69 : decode cX6_init 69 = .ok (.aload_n 0, 1) := by decide +kernel
theorem dX6_init_70 : decode cX6_init 70 = .ok (.bipush 60, 2) := by decide +kernel
theorem dX6_init_72 : decode cX6_init 72 = .ok (.newarray .int, 2) := by decide +kernel
theorem dX6_init_74 : decode cX6_init 74 = .ok (.putfield 39, 3) := by decide +kernel
theorem dX6_init_77 : decode cX6_init 77 = .ok (.aload_n 0, 1) := by decide +kernel
theorem dX6_init_78 : decode cX6_init 78 = .ok (.new 42, 3) := by decide +kernel
theorem dX6_init_81 : decode cX6_init 81 = .ok (.dup, 1) := by decide +kernel
theorem dX6_init_82 : decode cX6_init 82 = .ok (.invokespecial 44, 3) := by decide +kernel
theorem dX6_init_85 : decode cX6_init 85 = .ok (.putfield 45, 3) := by decide +kernel
theorem dX6_init_88 : decode cX6_init 88 = .ok (.aload_n 0, 1) := by decide +kernel
theorem dX6_init_89 : decode cX6_init 89 = .ok (.new 49, 3) := by decide +kernel
theorem dX6_init_92 : decode cX6_init 92 = .ok (.dup, 1) := by decide +kernel
theorem dX6_init_93 : decode cX6_init 93 = .ok (.invokespecial 51, 3) := by decide +kernel
theorem dX6_init_96 : decode cX6_init 96 = .ok (.putfield 52, 3) := by decide +kernel
theorem dX6_init_99 : decode cX6_init 99 = .ok (.aload_n 0, 1) := by decide +kernel
theorem dX6_init_100 : decode cX6_init 100 = .ok (.iconst 0, 1) := by decide +kernel
theorem dX6_init_101 : decode cX6_init 101 = .ok (.putfield 56, 3) := by decide +kernel
theorem dX6_init_104 : decode cX6_init 104 = .ok (.aload_n 0, 1) := by decide +kernel
theorem dX6_init_105 : decode cX6_init 105 = .ok (.iconst 0, 1) := by decide +kernel
theorem dX6_init_106 : decode cX6_init 106 = .ok (.putfield 60, 3) := by decide +kernel
theorem dX6_init_109 : decode cX6_init 109 = .ok (.aload_n 0, 1) := by decide +kernel
theorem dX6_init_110 : decode cX6_init 110 = .ok (.iconst 0, 1) := by decide +kernel
theorem dX6_init_111 : decode cX6_init 111 = .ok (.putfield 63, 3) := by decide +kernel
theorem dX6_init_114 : decode cX6_init 114 = .ok (.aload_n 0, 1) := by decide +kernel
theorem dX6_init_115 : decode cX6_init 115 = .ok (.iconst 0, 1) := by decide +kernel
theorem dX6_init_116 : decode cX6_init 116 = .ok (.putfield 66, 3) := by decide +kernel
theorem dX6_init_119 : decode cX6_init 119 = .ok (.iconst 0, 1) := by decide +kernel
theorem dX6_init_120 : decode cX6_init 120 = .ok (.istore_n 1, 1) := by decide +kernel
theorem dX6_init_121 : decode cX6_init 121 = .ok (.iload_n 1, 1) := by decide +kernel
theorem dX6_init_122 : decode cX6_init 122 = .ok (.bipush 8, 2) := by decide +kernel
theorem dX6_init_124 : decode cX6_init 124 = .ok (.if_icmp .ge 22, 3) := by decide +kernel
theorem dX6_init_127 : decode cX6_init 127 = .ok (.aload_n 0, 1) := by decide +kernel
theorem dX6_init_128 : decode cX6_init 128 = .ok (.getfield 11, 3) := by decide +kernel
theorem dX6_init_131 : decode cX6_init 131 = .ok (.iload_n 1, 1) := by decide +kernel
theorem dX6_init_132 : decode cX6_init 132 = .ok (.new 9, 3) := by decide +kernel
theorem dX6_init_135 : decode cX6_init 135 = .ok (.dup, 1) := by decide +kernel
theorem dX6_init_136 : decode cX6_init 136 = .ok (.invokespecial 69, 3) := by decide +kernel
theorem dX6_init_139 : decode cX6_init 139 = .ok (.aastore, 1) := by decide +kernel
theorem dX6_init_140 : decode cX6_init 140 = .ok (.iinc 1 1, 3) := by decide +kernel
theorem dX6_init_143 : decode cX6_init 143 = .ok (.goto (-22), 3) := by decide +kernel
theorem dX6_init_146 : decode cX6_init 146 = .ok (.aload_n 0, 1) := by decide +kernel
theorem dX6_init_147 : decode cX6_init 147 = .ok (.getfield 39, 3) := by decide +kernel
theorem dX6_init_150 : decode cX6_init 150 = .ok (.iconst (-1), 1) := by decide +kernel
theorem dX6_init_151 : decode cX6_init 151 = .ok (.invokestatic 70, 3) := by decide +kernel
theorem dX6_init_154 : decode cX6_init 154 = .ok (.return_, 1) := by decide +kernel
set_option maxRecDepth 20000 in
theorem ggX6_pipe_X6_checkValve : GoodIn wsX6_pipe wsX6_checkValve := goodIn_ca (goodIn_r _ [9, 10, 11] (by decide +kernel) (by decide +kernel)) (goodIn_sub (fun _ h => List.mem_cons_of_mem _ (List.mem_append_right _ h)) (by decide +kernel))
set_option maxRecDepth 20000 in
theorem gX6_pipe_X6_checkValve : GoodIn wsX6_pipe (va_wsS RX6 76 yX6_checkValve wsX6_checkValve) := goodIn_app (goodIn_of _ (by decide +kernel)) ggX6_pipe_X6_checkValve
set_option maxRecDepth 20000 in
theorem ggX6_pipe_X6_isEnd : GoodIn wsX6_pipe wsX6_isEnd := goodIn_r _ [14, 15, 16, 8, 17] (by decide +kernel) (by decide +kernel)
set_option maxRecDepth 20000 in
theorem gX6_pipe_X6_isEnd : GoodIn wsX6_pipe (va_wsS RX6 80 yX6_isEnd wsX6_isEnd) := goodIn_app (goodIn_of _ (by decide +kernel)) ggX6_pipe_X6_isEnd
set_option maxRecDepth 20000 in
theorem ggX6_pipe_X6_countTagsOn : GoodIn wsX6_pipe wsX6_countTagsOn := goodIn_r _ [21, 22, 23, 24, 25, 26, 27, 28, 29, 30, 31, 32, 33, 34, 35, 36, 37, 38, 39, 40, 41, 42, 43, 44, 45, 46, 47, 48, 49, 50, 51, 52, 53, 54, 55, 56, 57, 58, 59, 60, 64, 65, 66, 67, 68, 69, 70] (by decide +kernel) (by decide +kernel)
set_option maxRecDepth 20000 in
theorem gX6_pipe_X6_countTagsOn : GoodIn wsX6_pipe (wsV RX6 106 RX6 yX6_countTagsOn wsX6_countTagsOn) := goodIn_app (goodIn_of _ (by decide +kernel)) ggX6_pipe_X6_countTagsOn
theorem dX6_pipe_0 : decode cX6_pipe 0 = .ok (.iload_n 1, 1) := by decide +kernel
theorem dX6_pipe_1 : decode cX6_pipe 1 = .ok (.invokestatic 76, 3) := by decide +kernel
theorem dX6_pipe_4 : decode cX6_pipe 4 = .ok (.iload_n 2, 1) := by decide +kernel
theorem dX6_pipe_5 : decode cX6_pipe 5 = .ok (.invokestatic 80, 3) := by decide +kernel
theorem dX6_pipe_8 : decode cX6_pipe 8 = .ok (.ifCond .eq 15, 3) := by decide +kernel
theorem dX6_pipe_11 : decode cX6_pipe 11 = .ok (.iload_n 3, 1) := by decide +kernel
theorem dX6_pipe_12 : decode cX6_pipe 12 = .ok (.invokestatic 80, 3) := by decide +kernel
theorem dX6_pipe_15 : decode cX6_pipe 15 = .ok (.ifCond .eq 8, 3) := by decide +kernel
theorem dX6_pipe_18 : decode cX6_pipe 18 = .ok (.iload_n 2, 1) := by decide +kernel
theorem dX6_pipe_19 : decode cX6_pipe 19 = .ok (.iload_n 3, 1) := by decide +kernel
theorem dX6_pipe_20 : decode cX6_pipe 20 = .ok (.if_icmp .ne 13, 3) := by decide +kernel
theorem dX6_pipe_23 : decode cX6_pipe 23 = .ok (.new 84, 3) := by decide +kernel
theorem dX6_pipe_26 : decode cX6_pipe 26 = .ok (.dup, 1) := by decide +kernel
theorem dX6_pipe_27 : decode cX6_pipe 27 = .ok (.ldc 86, 2) := by decide +kernel
theorem dX6_pipe_29 : decode cX6_pipe 29 = .ok (.invokespecial 88, 3) := by decide +kernel
theorem dX6_pipe_32 : decode cX6_pipe 32 = .ok (.athrow, 1) := by decide +kernel
theorem dX6_pipe_33 : decode cX6_pipe 33 = .ok (.aload_n 0, 1) := by decide +kernel
theorem dX6_pipe_34 : decode cX6_pipe 34 = .ok (.getfield 11, 3) := by decide +kernel
theorem dX6_pipe_37 : decode cX6_pipe 37 = .ok (.iload_n 1, 1) := by decide +kernel
theorem dX6_pipe_38 : decode cX6_pipe 38 = .ok (.aaload, 1) := by decide +kernel
theorem dX6_pipe_39 : decode cX6_pipe 39 = .ok (.astore 4, 2) := by decide +kernel
theorem dX6_pipe_41 : decode cX6_pipe 41 = .ok (.aload 4, 2) := by decide +kernel
theorem dX6_pipe_43 : decode cX6_pipe 43 = .ok (.getfield 91, 3) := by decide +kernel
theorem dX6_pipe_46 : decode cX6_pipe 46 = .ok (.ifCond .eq 13, 3) := by decide +kernel
theorem dX6_pipe_49 : decode cX6_pipe 49 = .ok (.new 95, 3) := by decide +kernel
theorem dX6_pipe_52 : decode cX6_pipe 52 = .ok (.dup, 1) := by decide +kernel
theorem dX6_pipe_53 : decode cX6_pipe 53 = .ok (.ldc 97, 2) := by decide +kernel
theorem dX6_pipe_55 : decode cX6_pipe 55 = .ok (.invokespecial 99, 3) := by decide +kernel
theorem dX6_pipe_58 : decode cX6_pipe 58 = .ok (.athrow, 1) := by decide +kernel
theorem dX6_pipe_59 : decode cX6_pipe 59 = .ok (.aload 4, 2) := by decide +kernel
theorem dX6_pipe_61 : decode cX6_pipe 61 = .ok (.iload_n 2, 1) := by decide +kernel
theorem dX6_pipe_62 : decode cX6_pipe 62 = .ok (.putfield 100, 3) := by decide +kernel
theorem dX6_pipe_65 : decode cX6_pipe 65 = .ok (.aload 4, 2) := by decide +kernel
theorem dX6_pipe_67 : decode cX6_pipe 67 = .ok (.iload_n 3, 1) := by decide +kernel
theorem dX6_pipe_68 : decode cX6_pipe 68 = .ok (.putfield 103, 3) := by decide +kernel
theorem dX6_pipe_71 : decode cX6_pipe 71 = .ok (.aload_n 0, 1) := by decide +kernel
theorem dX6_pipe_72 : decode cX6_pipe 72 = .ok (.iload_n 1, 1) := by decide +kernel
theorem dX6_pipe_73 : decode cX6_pipe 73 = .ok (.invokevirtual 106, 3) := by decide +kernel
theorem dX6_pipe_76 : decode cX6_pipe 76 = .ok (.ireturn, 1) := by decide +kernel
set_option maxRecDepth 20000 in
theorem ggX6_turn_X6_checkPerson : GoodIn wsX6_turn wsX6_checkPerson := goodIn_ca (goodIn_r _ [6, 7, 8] (by decide +kernel) (by decide +kernel)) (goodIn_sub (fun _ h => List.mem_cons_of_mem _ (List.mem_append_right _ h)) (by decide +kernel))
set_option maxRecDepth 20000 in
theorem gX6_turn_X6_checkPerson : GoodIn wsX6_turn (va_wsS RX6 110 yX6_checkPerson wsX6_checkPerson) := goodIn_app (goodIn_of _ (by decide +kernel)) ggX6_turn_X6_checkPerson
set_option maxRecDepth 20000 in
theorem ggX6_turn_X6_checkValve : GoodIn wsX6_turn wsX6_checkValve := goodIn_ca (goodIn_r _ [11, 7, 8] (by decide +kernel) (by decide +kernel)) (goodIn_sub (fun _ h => List.mem_cons_of_mem _ (List.mem_append_right _ h)) (by decide +kernel))
set_option maxRecDepth 20000 in
theorem gX6_turn_X6_checkValve : GoodIn wsX6_turn (va_wsS RX6 76 yX6_checkValve wsX6_checkValve) := goodIn_app (goodIn_of _ (by decide +kernel)) ggX6_turn_X6_checkValve
set_option maxRecDepth 20000 in
theorem ggX6_turn_X6_findObstacle : GoodIn wsX6_turn wsX6_findObstacle := goodIn_r _ [15, 16, 17, 18, 5, 19, 20, 21, 22, 23, 24, 25, 26, 27, 28, 29, 30, 31, 32, 33, 34, 35, 36, 37, 38, 39, 40, 41, 42, 43, 44, 45, 46, 47, 48, 49, 50, 51, 52, 53, 54, 55, 56, 92, 93, 94, 95, 96, 97, 98, 99, 100, 101, 102, 103, 104, 105, 106, 107, 108, 109, 110, 111, 112] (by decide +kernel) (by decide +kernel)
set_option maxRecDepth 20000 in
theorem gX6_turn_X6_findObstacle : GoodIn wsX6_turn (wsV RX6 113 RX6 yX6_findObstacle wsX6_findObstacle) := goodIn_app (goodIn_of _ (by decide +kernel)) ggX6_turn_X6_findObstacle
set_option maxRecDepth 20000 in
theorem ggX6_turn_X6_setValve : GoodIn wsX6_turn wsX6_setValve := goodIn_r _ [60, 61, 62, 21, 63, 64, 65, 66, 67, 68, 69, 70, 71, 72, 73, 74, 75, 76, 77, 78, 79, 80, 81, 82, 83, 84, 85, 86, 87, 88, 89, 90, 91, 92, 93, 94, 95, 96, 97, 98, 99, 100, 101, 102, 103, 104, 105, 113, 114, 115, 116, 117] (by decide +kernel) (by decide +kernel)
set_option maxRecDepth 20000 in
theorem gX6_turn_X6_setValve : GoodIn wsX6_turn (wsV RX6 119 RX6 yX6_setValve wsX6_setValve) := goodIn_app (goodIn_of _ (by decide +kernel)) ggX6_turn_X6_setValve
theorem dX6_turn_0 : decode cX6_turn 0 = .ok (.iload_n 1, 1) := by decide +kernel
theorem dX6_turn_1 : decode cX6_turn 1 = .ok (.invokestatic 110, 3) := by decide +kernel
theorem dX6_turn_4 : decode cX6_turn 4 = .ok (.iload_n 2, 1) := by decide +kernel
theorem dX6_turn_5 : decode cX6_turn 5 = .ok (.invokestatic 76, 3) := by decide +kernel
theorem dX6_turn_8 : decode cX6_turn 8 = .ok (.aload_n 0, 1) := by decide +kernel
theorem dX6_turn_9 : decode cX6_turn 9 = .ok (.iload_n 1, 1) := by decide +kernel
theorem dX6_turn_10 : decode cX6_turn 10 = .ok (.iload_n 2, 1) := by decide +kernel
theorem dX6_turn_11 : decode cX6_turn 11 = .ok (.invokevirtual 113, 3) := by decide +kernel
theorem dX6_turn_14 : decode cX6_turn 14 = .ok (.ifCond .eq 13, 3) := by decide +kernel
theorem dX6_turn_17 : decode cX6_turn 17 = .ok (.new 95, 3) := by decide +kernel
theorem dX6_turn_20 : decode cX6_turn 20 = .ok (.dup, 1) := by decide +kernel
theorem dX6_turn_21 : decode cX6_turn 21 = .ok (.ldc 117, 2) := by decide +kernel
theorem dX6_turn_23 : decode cX6_turn 23 = .ok (.invokespecial 99, 3) := by decide +kernel
theorem dX6_turn_26 : decode cX6_turn 26 = .ok (.athrow, 1) := by decide +kernel
theorem dX6_turn_27 : decode cX6_turn 27 = .ok (.aload_n 0, 1) := by decide +kernel
theorem dX6_turn_28 : decode cX6_turn 28 = .ok (.iload_n 1, 1) := by decide +kernel
theorem dX6_turn_29 : decode cX6_turn 29 = .ok (.iload_n 2, 1) := by decide +kernel
theorem dX6_turn_30 : decode cX6_turn 30 = .ok (.iload_n 3, 1) := by decide +kernel
theorem dX6_turn_31 : decode cX6_turn 31 = .ok (.invokevirtual 119, 3) := by decide +kernel
theorem dX6_turn_34 : decode cX6_turn 34 = .ok (.ireturn, 1) := by decide +kernel
set_option maxRecDepth 20000 in
theorem ggX6_obstacle_X6_checkPerson : GoodIn wsX6_obstacle wsX6_checkPerson := goodIn_ca (goodIn_r _ [4, 5, 6] (by decide +kernel) (by decide +kernel)) (goodIn_sub (fun _ h => List.mem_cons_of_mem _ (List.mem_append_right _ h)) (by decide +kernel))
set_option maxRecDepth 20000 in
theorem gX6_obstacle_X6_checkPerson : GoodIn wsX6_obstacle (va_wsS RX6 110 yX6_checkPerson wsX6_checkPerson) := goodIn_app (goodIn_of _ (by decide +kernel)) ggX6_obstacle_X6_checkPerson
set_option maxRecDepth 20000 in
theorem ggX6_obstacle_X6_checkValve : GoodIn wsX6_obstacle wsX6_checkValve := goodIn_ca (goodIn_r _ [9, 5, 6] (by decide +kernel) (by decide +kernel)) (goodIn_sub (fun _ h => List.mem_cons_of_mem _ (List.mem_append_right _ h)) (by decide +kernel))
set_option maxRecDepth 20000 in
theorem gX6_obstacle_X6_checkValve : GoodIn wsX6_obstacle (va_wsS RX6 76 yX6_checkValve wsX6_checkValve) := goodIn_app (goodIn_of _ (by decide +kernel)) ggX6_obstacle_X6_checkValve
set_option maxRecDepth 20000 in
theorem ggX6_obstacle_X6_findObstacle : GoodIn wsX6_obstacle wsX6_findObstacle := goodIn_r _ [13, 14, 15, 16, 3, 17, 18, 19, 20, 21, 22, 23, 24, 25, 26, 27, 28, 29, 30, 31, 32, 33, 34, 35, 36, 37, 38, 39, 40, 41, 42, 43, 44, 45, 46, 47, 48, 49, 50, 51, 52, 53, 54, 55, 56, 57, 58, 59, 60, 61, 62, 63, 64, 65, 66, 67, 68, 69, 70, 71, 72, 73, 74, 75] (by decide +kernel) (by decide +kernel)
set_option maxRecDepth 20000 in
theorem gX6_obstacle_X6_findObstacle : GoodIn wsX6_obstacle (wsV RX6 113 RX6 yX6_findObstacle wsX6_findObstacle) := goodIn_app (goodIn_of _ (by decide +kernel)) ggX6_obstacle_X6_findObstacle
theorem dX6_obstacle_0 : decode cX6_obstacle 0 = .ok (.iload_n 1, 1) := by decide +kernel
theorem dX6_obstacle_1 : decode cX6_obstacle 1 = .ok (.invokestatic 110, 3) := by decide +kernel
theorem dX6_obstacle_4 : decode cX6_obstacle 4 = .ok (.iload_n 2, 1) := by decide +kernel
theorem dX6_obstacle_5 : decode cX6_obstacle 5 = .ok (.invokestatic 76, 3) := by decide +kernel
theorem dX6_obstacle_8 : decode cX6_obstacle 8 = .ok (.aload_n 0, 1) := by decide +kernel
theorem dX6_obstacle_9 : decode cX6_obstacle 9 = .ok (.iload_n 1, 1) := by decide +kernel
theorem dX6_obstacle_10 : decode cX6_obstacle 10 = .ok (.iload_n 2, 1) := by decide +kernel
theorem dX6_obstacle_11 : decode cX6_obstacle 11 = .ok (.invokevirtual 113, 3) := by decide +kernel
theorem dX6_obstacle_14 : decode cX6_obstacle 14 = .ok (.ireturn, 1) := by decide +kernel
set_option maxRecDepth 20000 in
theorem ggX6_isOpen_X6_checkValve : GoodIn wsX6_isOpen wsX6_checkValve := goodIn_ca (goodIn_r _ [5, 6, 7] (by decide +kernel) (by decide +kernel)) (goodIn_sub (fun _ h => List.mem_cons_of_mem _ (List.mem_append_right _ h)) (by decide +kernel))
set_option maxRecDepth 20000 in
theorem gX6_isOpen_X6_checkValve : GoodIn wsX6_isOpen (va_wsS RX6 76 yX6_checkValve wsX6_checkValve) := goodIn_app (goodIn_of _ (by decide +kernel)) ggX6_isOpen_X6_checkValve
theorem dX6_isOpen_0 : decode cX6_isOpen 0 = .ok (.iload_n 1, 1) := by decide +kernel
theorem dX6_isOpen_1 : decode cX6_isOpen 1 = .ok (.invokestatic 76, 3) := by decide +kernel
theorem dX6_isOpen_4 : decode cX6_isOpen 4 = .ok (.aload_n 0, 1) := by decide +kernel
theorem dX6_isOpen_5 : decode cX6_isOpen 5 = .ok (.getfield 11, 3) := by decide +kernel
theorem dX6_isOpen_8 : decode cX6_isOpen 8 = .ok (.iload_n 1, 1) := by decide +kernel
theorem dX6_isOpen_9 : decode cX6_isOpen 9 = .ok (.aaload, 1) := by decide +kernel
theorem dX6_isOpen_10 : decode cX6_isOpen 10 = .ok (.getfield 91, 3) := by decide +kernel
theorem dX6_isOpen_13 : decode cX6_isOpen 13 = .ok (.ireturn, 1) := by decide +kernel
set_option maxRecDepth 20000 in
theorem ggX6_isOpenByLog_X6_checkValve : GoodIn wsX6_isOpenByLog wsX6_checkValve := goodIn_ca (goodIn_r _ [5, 6, 7] (by decide +kernel) (by decide +kernel)) (goodIn_sub (fun _ h => List.mem_cons_of_mem _ (List.mem_append_right _ h)) (by decide +kernel))
set_option maxRecDepth 20000 in
theorem gX6_isOpenByLog_X6_checkValve : GoodIn wsX6_isOpenByLog (va_wsS RX6 76 yX6_checkValve wsX6_checkValve) := goodIn_app (goodIn_of _ (by decide +kernel)) ggX6_isOpenByLog_X6_checkValve
set_option maxRecDepth 20000 in
theorem ggX6_isOpenByLog_X2_size : GoodIn wsX6_isOpenByLog wsX2_size := goodIn_r _ [11, 12, 41, 42] (by decide +kernel) (by decide +kernel)
set_option maxRecDepth 20000 in
theorem gX6_isOpenByLog_X2_size_n123 : GoodIn wsX6_isOpenByLog (wsX2_size) := ggX6_isOpenByLog_X2_size
set_option maxRecDepth 20000 in
theorem ggX6_isOpenByLog_X2_kindAt : GoodIn wsX6_isOpenByLog wsX2_kindAt := goodIn_r _ [15, 16, 41, 42] (by decide +kernel) (by decide +kernel)
set_option maxRecDepth 20000 in
theorem gX6_isOpenByLog_X2_kindAt_n127 : GoodIn wsX6_isOpenByLog (wsX2_kindAt) := ggX6_isOpenByLog_X2_kindAt
set_option maxRecDepth 20000 in
theorem ggX6_isOpenByLog_X2_valveTurnedAt : GoodIn wsX6_isOpenByLog wsX2_valveTurnedAt := goodIn_r _ [19, 20, 21, 22, 9, 23, 16, 41, 42] (by decide +kernel) (by decide +kernel)
set_option maxRecDepth 20000 in
theorem gX6_isOpenByLog_X2_valveTurnedAt_n130 : GoodIn wsX6_isOpenByLog (wsX2_valveTurnedAt) := ggX6_isOpenByLog_X2_valveTurnedAt
set_option maxRecDepth 20000 in
theorem ggX6_isOpenByLog_X2_opensAt : GoodIn wsX6_isOpenByLog wsX2_opensAt := goodIn_r _ [26, 20, 21, 22, 9, 23, 16, 41, 42] (by decide +kernel) (by decide +kernel)
set_option maxRecDepth 20000 in
theorem gX6_isOpenByLog_X2_opensAt_n133 : GoodIn wsX6_isOpenByLog (wsX2_opensAt) := ggX6_isOpenByLog_X2_opensAt
theorem dX6_isOpenByLog_0 : decode cX6_isOpenByLog 0 = .ok (.iload_n 1, 1) := by decide +kernel
theorem dX6_isOpenByLog_1 : decode cX6_isOpenByLog 1 = .ok (.invokestatic 76, 3) := by decide +kernel
theorem dX6_isOpenByLog_4 : decode cX6_isOpenByLog 4 = .ok (.aload_n 0, 1) := by decide +kernel
theorem dX6_isOpenByLog_5 : decode cX6_isOpenByLog 5 = .ok (.getfield 45, 3) := by decide +kernel
theorem dX6_isOpenByLog_8 : decode cX6_isOpenByLog 8 = .ok (.invokevirtual 123, 3) := by decide +kernel
theorem dX6_isOpenByLog_11 : decode cX6_isOpenByLog 11 = .ok (.iconst 1, 1) := by decide +kernel
theorem dX6_isOpenByLog_12 : decode cX6_isOpenByLog 12 = .ok (.isub, 1) := by decide +kernel
theorem dX6_isOpenByLog_13 : decode cX6_isOpenByLog 13 = .ok (.istore_n 2, 1) := by decide +kernel
theorem dX6_isOpenByLog_14 : decode cX6_isOpenByLog 14 = .ok (.iload_n 2, 1) := by decide +kernel
theorem dX6_isOpenByLog_15 : decode cX6_isOpenByLog 15 = .ok (.ifCond .lt 41, 3) := by decide +kernel
theorem dX6_isOpenByLog_18 : decode cX6_isOpenByLog 18 = .ok (.aload_n 0, 1) := by decide +kernel
theorem dX6_isOpenByLog_19 : decode cX6_isOpenByLog 19 = .ok (.getfield 45, 3) := by decide +kernel
theorem dX6_isOpenByLog_22 : decode cX6_isOpenByLog 22 = .ok (.iload_n 2, 1) := by decide +kernel
theorem dX6_isOpenByLog_23 : decode cX6_isOpenByLog 23 = .ok (.invokevirtual 127, 3) := by decide +kernel
theorem dX6_isOpenByLog_26 : decode cX6_isOpenByLog 26 = .ok (.ifCond .ne 24, 3) := by decide +kernel
theorem dX6_isOpenByLog_29 : decode cX6_isOpenByLog 29 = .ok (.aload_n 0, 1) := by decide +kernel
theorem dX6_isOpenByLog_30 : decode cX6_isOpenByLog 30 = .ok (.getfield 45, 3) := by decide +kernel
theorem dX6_isOpenByLog_33 : decode cX6_isOpenByLog 33 = .ok (.iload_n 2, 1) := by decide +kernel
theorem dX6_isOpenByLog_34 : decode cX6_isOpenByLog 34 = .ok (.invokevirtual 130, 3) := by decide +kernel
theorem dX6_isOpenByLog_37 : decode cX6_isOpenByLog 37 = .ok (.iload_n 1, 1) := by decide +kernel
theorem dX6_isOpenByLog_38 : decode cX6_isOpenByLog 38 = .ok (.if_icmp .ne 12, 3) := by decide +kernel
theorem dX6_isOpenByLog_41 : decode cX6_isOpenByLog 41 = .ok (.aload_n 0, 1) := by decide +kernel
theorem dX6_isOpenByLog_42 : decode cX6_isOpenByLog 42 = .ok (.getfield 45, 3) := by decide +kernel
theorem dX6_isOpenByLog_45 : decode cX6_isOpenByLog 45 = .ok (.iload_n 2, 1) := by decide +kernel
theorem dX6_isOpenByLog_46 : decode cX6_isOpenByLog 46 = .ok (.invokevirtual 133, 3) := by decide +kernel
theorem dX6_isOpenByLog_49 : decode cX6_isOpenByLog 49 = .ok (.ireturn, 1) := by decide +kernel
theorem dX6_isOpenByLog_50 : decode cX6_isOpenByLog 50 = .ok (.iinc 2 (-1), 3) := by decide +kernel
theorem dX6_isOpenByLog_53 : decode cX6_isOpenByLog 53 = .ok (.goto (-39), 3) := by decide +kernel
theorem dX6_isOpenByLog_56 : decode cX6_isOpenByLog 56 = .ok (.iconst 0, 1) := by decide +kernel
theorem dX6_isOpenByLog_57 : decode cX6_isOpenByLog 57 = .ok (.ireturn, 1) := by decide +kernel
set_option maxRecDepth 20000 in
theorem ggX6_level_X6_checkVessel : GoodIn wsX6_level wsX6_checkVessel := goodIn_ca (goodIn_r _ [5, 6, 7, 8, 9, 4, 10] (by decide +kernel) (by decide +kernel)) (goodIn_sub (fun _ h => List.mem_cons_of_mem _ (List.mem_append_right _ h)) (by decide +kernel))
set_option maxRecDepth 20000 in
theorem gX6_level_X6_checkVessel : GoodIn wsX6_level (va_wsS RX6 136 yX6_checkVessel wsX6_checkVessel) := goodIn_app (goodIn_of _ (by decide +kernel)) ggX6_level_X6_checkVessel
theorem dX6_level_0 : decode cX6_level 0 = .ok (.iload_n 1, 1) := by decide +kernel
theorem dX6_level_1 : decode cX6_level 1 = .ok (.invokestatic 136, 3) := by decide +kernel
theorem dX6_level_4 : decode cX6_level 4 = .ok (.aload_n 0, 1) := by decide +kernel
theorem dX6_level_5 : decode cX6_level 5 = .ok (.getfield 15, 3) := by decide +kernel
theorem dX6_level_8 : decode cX6_level 8 = .ok (.iload_n 1, 1) := by decide +kernel
theorem dX6_level_9 : decode cX6_level 9 = .ok (.iaload, 1) := by decide +kernel
theorem dX6_level_10 : decode cX6_level 10 = .ok (.ireturn, 1) := by decide +kernel
theorem dX6_spilled_0 : decode cX6_spilled 0 = .ok (.aload_n 0, 1) := by decide +kernel
theorem dX6_spilled_1 : decode cX6_spilled 1 = .ok (.getfield 63, 3) := by decide +kernel
theorem dX6_spilled_4 : decode cX6_spilled 4 = .ok (.ireturn, 1) := by decide +kernel
set_option maxRecDepth 20000 in
theorem ggX6_hang_X6_checkPerson : GoodIn wsX6_hang wsX6_checkPerson := goodIn_ca (goodIn_r _ [12, 13, 14] (by decide +kernel) (by decide +kernel)) (goodIn_sub (fun _ h => List.mem_cons_of_mem _ (List.mem_append_right _ h)) (by decide +kernel))
set_option maxRecDepth 20000 in
theorem gX6_hang_X6_checkPerson : GoodIn wsX6_hang (va_wsS RX6 110 yX6_checkPerson wsX6_checkPerson) := goodIn_app (goodIn_of _ (by decide +kernel)) ggX6_hang_X6_checkPerson
set_option maxRecDepth 20000 in
theorem ggX6_hang_X6_checkValve : GoodIn wsX6_hang wsX6_checkValve := goodIn_ca (goodIn_r _ [17, 13, 14] (by decide +kernel) (by decide +kernel)) (goodIn_sub (fun _ h => List.mem_cons_of_mem _ (List.mem_append_right _ h)) (by decide +kernel))
set_option maxRecDepth 20000 in
theorem gX6_hang_X6_checkValve : GoodIn wsX6_hang (va_wsS RX6 76 yX6_checkValve wsX6_checkValve) := goodIn_app (goodIn_of _ (by decide +kernel)) ggX6_hang_X6_checkValve
set_option maxRecDepth 20000 in
theorem ggX6_hang_X6_isAble : GoodIn wsX6_hang wsX6_isAble := goodIn_r _ [21, 22, 23, 24, 25, 26, 11, 27, 28, 8, 114, 115, 116, 117, 118, 119, 120, 121, 122, 123, 124, 125, 126, 127] (by decide +kernel) (by decide +kernel)
set_option maxRecDepth 20000 in
theorem gX6_hang_X6_isAble : GoodIn wsX6_hang (wsV RX6 139 RX6 yX6_isAble wsX6_isAble) := goodIn_app (goodIn_of _ (by decide +kernel)) ggX6_hang_X6_isAble
set_option maxRecDepth 20000 in
theorem ggX6_hang_Jx4a65c_size_8abf5 : GoodIn wsX6_hang wsJx4a65c_size_8abf5 := goodIn_r _ [33, 34, 132, 133, 134] (by decide +kernel) (by decide +kernel)
set_option maxRecDepth 20000 in
theorem gX6_hang_Jx4a65c_size_8abf5 : GoodIn wsX6_hang (wsV RX6 142 RJx4a65c yJx4a65c_size_8abf5 wsJx4a65c_size_8abf5) := goodIn_app (goodIn_of _ (by decide +kernel)) ggX6_hang_Jx4a65c_size_8abf5
set_option maxRecDepth 20000 in
theorem ggX6_hang_X4_init : GoodIn wsX6_hang wsX4_init := goodIn_r _ [36, 37, 38, 39, 40, 41, 42, 43, 128, 129, 130, 131] (by decide +kernel) (by decide +kernel)
set_option maxRecDepth 20000 in
theorem gX6_hang_X4_init_n147 : GoodIn wsX6_hang (wsX4_init) := ggX6_hang_X4_init
set_option maxRecDepth 20000 in
theorem ggX6_hang_Jx4a65c_add_9ea2d : GoodIn wsX6_hang wsJx4a65c_add_9ea2d := goodIn_r _ [47, 48, 49, 50, 34, 51, 52, 53, 32, 54, 55, 56, 57, 58, 59, 60, 61, 62, 63, 64, 65, 66, 67, 68, 69, 70, 71, 72, 73, 74, 75, 76, 77, 78, 79, 80, 81, 82, 83, 84, 85, 86, 87, 88, 89, 90, 91, 92, 93, 94, 95, 96, 97, 132, 133, 134] (by decide +kernel) (by decide +kernel)
set_option maxRecDepth 20000 in
theorem gX6_hang_Jx4a65c_add_9ea2d : GoodIn wsX6_hang (wsV RX6 150 RJx4a65c yJx4a65c_add_9ea2d wsJx4a65c_add_9ea2d) := goodIn_app (goodIn_of _ (by decide +kernel)) ggX6_hang_Jx4a65c_add_9ea2d
set_option maxRecDepth 20000 in
theorem ggX6_hang_X2_note : GoodIn wsX6_hang wsX2_note := goodIn_r _ [101, 102, 103, 104, 105, 80, 106, 107, 108, 109, 110, 111, 112, 113, 91, 92, 66, 93, 94, 95, 96, 97, 135, 136] (by decide +kernel) (by decide +kernel)
set_option maxRecDepth 20000 in
theorem gX6_hang_X2_note_n154 : GoodIn wsX6_hang (wsX2_note) := ggX6_hang_X2_note
theorem dX6_hang_0 : decode cX6_hang 0 = .ok (.iload_n 1, 1) := by decide +kernel
theorem dX6_hang_1 : decode cX6_hang 1 = .ok (.invokestatic 110, 3) := by decide +kernel
theorem dX6_hang_4 : decode cX6_hang 4 = .ok (.iload_n 2, 1) := by decide +kernel
theorem dX6_hang_5 : decode cX6_hang 5 = .ok (.invokestatic 76, 3) := by decide +kernel
theorem dX6_hang_8 : decode cX6_hang 8 = .ok (.aload_n 0, 1) := by decide +kernel
theorem dX6_hang_9 : decode cX6_hang 9 = .ok (.iload_n 1, 1) := by decide +kernel
theorem dX6_hang_10 : decode cX6_hang 10 = .ok (.invokevirtual 139, 3) := by decide +kernel
theorem dX6_hang_13 : decode cX6_hang 13 = .ok (.ifCond .eq 15, 3) := by decide +kernel
theorem dX6_hang_16 : decode cX6_hang 16 = .ok (.aload_n 0, 1) := by decide +kernel
theorem dX6_hang_17 : decode cX6_hang 17 = .ok (.getfield 29, 3) := by decide +kernel
theorem dX6_hang_20 : decode cX6_hang 20 = .ok (.invokevirtual 142, 3) := by decide +kernel
theorem dX6_hang_23 : decode cX6_hang 23 = .ok (.bipush 40, 2) := by decide +kernel
theorem dX6_hang_25 : decode cX6_hang 25 = .ok (.if_icmp .lt 13, 3) := by decide +kernel
theorem dX6_hang_28 : decode cX6_hang 28 = .ok (.new 95, 3) := by decide +kernel
theorem dX6_hang_31 : decode cX6_hang 31 = .ok (.dup, 1) := by decide +kernel
theorem dX6_hang_32 : decode cX6_hang 32 = .ok (.ldc 143, 2) := by decide +kernel
theorem dX6_hang_34 : decode cX6_hang 34 = .ok (.invokespecial 99, 3) := by decide +kernel
theorem dX6_hang_37 : decode cX6_hang 37 = .ok (.athrow, 1) := by decide +kernel
theorem dX6_hang_38 : decode cX6_hang 38 = .ok (.aload_n 0, 1) := by decide +kernel
theorem dX6_hang_39 : decode cX6_hang 39 = .ok (.getfield 29, 3) := by decide +kernel
theorem dX6_hang_42 : decode cX6_hang 42 = .ok (.invokevirtual 142, 3) := by decide +kernel
theorem dX6_hang_45 : decode cX6_hang 45 = .ok (.istore_n 3, 1) := by decide +kernel
theorem dX6_hang_46 : decode cX6_hang 46 = .ok (.aload_n 0, 1) := by decide +kernel
theorem dX6_hang_47 : decode cX6_hang 47 = .ok (.getfield 29, 3) := by decide +kernel
theorem dX6_hang_50 : decode cX6_hang 50 = .ok (.new 145, 3) := by decide +kernel
theorem dX6_hang_53 : decode cX6_hang 53 = .ok (.dup, 1) := by decide +kernel
theorem dX6_hang_54 : decode cX6_hang 54 = .ok (.iload_n 1, 1) := by decide +kernel
theorem dX6_hang_55 : decode cX6_hang 55 = .ok (.iload_n 2, 1) := by decide +kernel
theorem dX6_hang_56 : decode cX6_hang 56 = .ok (.invokespecial 147, 3) := by decide +kernel
theorem dX6_hang_59 : decode cX6_hang 59 = .ok (.invokevirtual 150, 3) := by decide +kernel
theorem dX6_hang_62 : decode cX6_hang 62 = .ok (.pop, 1) := by decide +kernel
theorem dX6_hang_63 : decode cX6_hang 63 = .ok (.aload_n 0, 1) := by decide +kernel
theorem dX6_hang_64 : decode cX6_hang 64 = .ok (.getfield 45, 3) := by decide +kernel
theorem dX6_hang_67 : decode cX6_hang 67 = .ok (.aload_n 0, 1) := by decide +kernel
theorem dX6_hang_68 : decode cX6_hang 68 = .ok (.getfield 56, 3) := by decide +kernel
theorem dX6_hang_71 : decode cX6_hang 71 = .ok (.iconst 1, 1) := by decide +kernel
theorem dX6_hang_72 : decode cX6_hang 72 = .ok (.iload_n 1, 1) := by decide +kernel
theorem dX6_hang_73 : decode cX6_hang 73 = .ok (.iload_n 3, 1) := by decide +kernel
theorem dX6_hang_74 : decode cX6_hang 74 = .ok (.invokevirtual 154, 3) := by decide +kernel
theorem dX6_hang_77 : decode cX6_hang 77 = .ok (.iload_n 3, 1) := by decide +kernel
theorem dX6_hang_78 : decode cX6_hang 78 = .ok (.ireturn, 1) := by decide +kernel
set_option maxRecDepth 20000 in
theorem ggX6_takeOff_X6_checkPerson : GoodIn wsX6_takeOff wsX6_checkPerson := goodIn_ca (goodIn_r _ [11, 12, 13] (by decide +kernel) (by decide +kernel)) (goodIn_sub (fun _ h => List.mem_cons_of_mem _ (List.mem_append_right _ h)) (by decide +kernel))
set_option maxRecDepth 20000 in
theorem gX6_takeOff_X6_checkPerson : GoodIn wsX6_takeOff (va_wsS RX6 110 yX6_checkPerson wsX6_checkPerson) := goodIn_app (goodIn_of _ (by decide +kernel)) ggX6_takeOff_X6_checkPerson
set_option maxRecDepth 20000 in
theorem ggX6_takeOff_X6_checkTag : GoodIn wsX6_takeOff wsX6_checkTag := goodIn_ca (goodIn_r _ [17, 12, 13, 3, 18, 19, 20, 21, 22, 23, 79, 80, 81, 82, 83, 84, 85, 86, 87, 88, 89, 90, 91, 92, 97, 98, 99] (by decide +kernel) (by decide +kernel)) (goodIn_sub (fun _ h => List.mem_cons_of_mem _ (List.mem_append_right _ h)) (by decide +kernel))
set_option maxRecDepth 20000 in
theorem gX6_takeOff_X6_checkTag : GoodIn wsX6_takeOff (wsV RX6 158 RX6 yX6_checkTag wsX6_checkTag) := goodIn_app (goodIn_of _ (by decide +kernel)) ggX6_takeOff_X6_checkTag
set_option maxRecDepth 20000 in
theorem ggX6_takeOff_Jx4a65c_get_915e3 : GoodIn wsX6_takeOff wsJx4a65c_get_915e3 := goodIn_r _ [27, 23, 28, 29, 30, 31, 32, 33, 34, 35, 36, 37, 38, 21, 39, 40, 97, 98, 99] (by decide +kernel) (by decide +kernel)
set_option maxRecDepth 20000 in
theorem gX6_takeOff_Jx4a65c_get_915e3 : GoodIn wsX6_takeOff (wsV RX6 161 RJx4a65c yJx4a65c_get_915e3 wsJx4a65c_get_915e3) := goodIn_app (goodIn_of _ (by decide +kernel)) ggX6_takeOff_Jx4a65c_get_915e3
set_option maxRecDepth 20000 in
theorem ggX6_takeOff_X6_isAble : GoodIn wsX6_takeOff wsX6_isAble := goodIn_r _ [44, 45, 46, 47, 48, 49, 10, 50, 5, 7, 79, 80, 81, 82, 83, 84, 85, 86, 87, 88, 89, 90, 91, 92] (by decide +kernel) (by decide +kernel)
set_option maxRecDepth 20000 in
theorem gX6_takeOff_X6_isAble : GoodIn wsX6_takeOff (wsV RX6 139 RX6 yX6_isAble wsX6_isAble) := goodIn_app (goodIn_of _ (by decide +kernel)) ggX6_takeOff_X6_isAble
set_option maxRecDepth 20000 in
theorem ggX6_takeOff_X6_isFirstToAsk : GoodIn wsX6_takeOff wsX6_isFirstToAsk := goodIn_r _ [53, 93, 94, 95, 96] (by decide +kernel) (by decide +kernel)
set_option maxRecDepth 20000 in
theorem gX6_takeOff_X6_isFirstToAsk : GoodIn wsX6_takeOff (va_wsS RX6 173 yX6_isFirstToAsk wsX6_isFirstToAsk) := goodIn_app (goodIn_of _ (by decide +kernel)) ggX6_takeOff_X6_isFirstToAsk
set_option maxRecDepth 20000 in
theorem ggX6_takeOff_X2_note : GoodIn wsX6_takeOff wsX2_note := goodIn_r _ [57, 58, 59, 60, 61, 62, 63, 64, 65, 66, 67, 68, 69, 70, 71, 72, 73, 74, 75, 76, 77, 78, 100, 101] (by decide +kernel) (by decide +kernel)
set_option maxRecDepth 20000 in
theorem gX6_takeOff_X2_note_n154 : GoodIn wsX6_takeOff (wsX2_note) := ggX6_takeOff_X2_note
theorem dX6_takeOff_0 : decode cX6_takeOff 0 = .ok (.iload_n 1, 1) := by decide +kernel
theorem dX6_takeOff_1 : decode cX6_takeOff 1 = .ok (.invokestatic 110, 3) := by decide +kernel
theorem dX6_takeOff_4 : decode cX6_takeOff 4 = .ok (.aload_n 0, 1) := by decide +kernel
theorem dX6_takeOff_5 : decode cX6_takeOff 5 = .ok (.iload_n 2, 1) := by decide +kernel
theorem dX6_takeOff_6 : decode cX6_takeOff 6 = .ok (.invokevirtual 158, 3) := by decide +kernel
theorem dX6_takeOff_9 : decode cX6_takeOff 9 = .ok (.aload_n 0, 1) := by decide +kernel
theorem dX6_takeOff_10 : decode cX6_takeOff 10 = .ok (.getfield 29, 3) := by decide +kernel
theorem dX6_takeOff_13 : decode cX6_takeOff 13 = .ok (.iload_n 2, 1) := by decide +kernel
theorem dX6_takeOff_14 : decode cX6_takeOff 14 = .ok (.invokevirtual 161, 3) := by decide +kernel
theorem dX6_takeOff_17 : decode cX6_takeOff 17 = .ok (.checkcast 145, 3) := by decide +kernel
theorem dX6_takeOff_20 : decode cX6_takeOff 20 = .ok (.astore_n 3, 1) := by decide +kernel
theorem dX6_takeOff_21 : decode cX6_takeOff 21 = .ok (.aload_n 3, 1) := by decide +kernel
theorem dX6_takeOff_22 : decode cX6_takeOff 22 = .ok (.getfield 165, 3) := by decide +kernel
theorem dX6_takeOff_25 : decode cX6_takeOff 25 = .ok (.ifCond .ne 31, 3) := by decide +kernel
theorem dX6_takeOff_28 : decode cX6_takeOff 28 = .ok (.aload_n 0, 1) := by decide +kernel
theorem dX6_takeOff_29 : decode cX6_takeOff 29 = .ok (.iload_n 1, 1) := by decide +kernel
theorem dX6_takeOff_30 : decode cX6_takeOff 30 = .ok (.invokevirtual 139, 3) := by decide +kernel
theorem dX6_takeOff_33 : decode cX6_takeOff 33 = .ok (.ifCond .eq 23, 3) := by decide +kernel
theorem dX6_takeOff_36 : decode cX6_takeOff 36 = .ok (.iload_n 1, 1) := by decide +kernel
theorem dX6_takeOff_37 : decode cX6_takeOff 37 = .ok (.aload_n 3, 1) := by decide +kernel
theorem dX6_takeOff_38 : decode cX6_takeOff 38 = .ok (.getfield 168, 3) := by decide +kernel
theorem dX6_takeOff_41 : decode cX6_takeOff 41 = .ok (.if_icmp .eq 25, 3) := by decide +kernel
theorem dX6_takeOff_44 : decode cX6_takeOff 44 = .ok (.aload_n 0, 1) := by decide +kernel
theorem dX6_takeOff_45 : decode cX6_takeOff 45 = .ok (.getfield 19, 3) := by decide +kernel
theorem dX6_takeOff_48 : decode cX6_takeOff 48 = .ok (.aload_n 3, 1) := by decide +kernel
theorem dX6_takeOff_49 : decode cX6_takeOff 49 = .ok (.getfield 168, 3) := by decide +kernel
theorem dX6_takeOff_52 : decode cX6_takeOff 52 = .ok (.baload, 1) := by decide +kernel
theorem dX6_takeOff_53 : decode cX6_takeOff 53 = .ok (.ifCond .ne 13, 3) := by decide +kernel
theorem dX6_takeOff_56 : decode cX6_takeOff 56 = .ok (.new 95, 3) := by decide +kernel
theorem dX6_takeOff_59 : decode cX6_takeOff 59 = .ok (.dup, 1) := by decide +kernel
theorem dX6_takeOff_60 : decode cX6_takeOff 60 = .ok (.ldc 171, 2) := by decide +kernel
theorem dX6_takeOff_62 : decode cX6_takeOff 62 = .ok (.invokespecial 99, 3) := by decide +kernel
theorem dX6_takeOff_65 : decode cX6_takeOff 65 = .ok (.athrow, 1) := by decide +kernel
theorem dX6_takeOff_66 : decode cX6_takeOff 66 = .ok (.iload_n 1, 1) := by decide +kernel
theorem dX6_takeOff_67 : decode cX6_takeOff 67 = .ok (.aload_n 3, 1) := by decide +kernel
theorem dX6_takeOff_68 : decode cX6_takeOff 68 = .ok (.getfield 168, 3) := by decide +kernel
theorem dX6_takeOff_71 : decode cX6_takeOff 71 = .ok (.if_icmp .eq 18, 3) := by decide +kernel
theorem dX6_takeOff_74 : decode cX6_takeOff 74 = .ok (.aload_n 3, 1) := by decide +kernel
theorem dX6_takeOff_75 : decode cX6_takeOff 75 = .ok (.iload_n 1, 1) := by decide +kernel
theorem dX6_takeOff_76 : decode cX6_takeOff 76 = .ok (.invokestatic 173, 3) := by decide +kernel
theorem dX6_takeOff_79 : decode cX6_takeOff 79 = .ok (.ifCond .eq 10, 3) := by decide +kernel
theorem dX6_takeOff_82 : decode cX6_takeOff 82 = .ok (.aload_n 3, 1) := by decide +kernel
theorem dX6_takeOff_83 : decode cX6_takeOff 83 = .ok (.iload_n 1, 1) := by decide +kernel
theorem dX6_takeOff_84 : decode cX6_takeOff 84 = .ok (.putfield 177, 3) := by decide +kernel
theorem dX6_takeOff_87 : decode cX6_takeOff 87 = .ok (.iconst 0, 1) := by decide +kernel
theorem dX6_takeOff_88 : decode cX6_takeOff 88 = .ok (.ireturn, 1) := by decide +kernel
theorem dX6_takeOff_89 : decode cX6_takeOff 89 = .ok (.aload_n 3, 1) := by decide +kernel
theorem dX6_takeOff_90 : decode cX6_takeOff 90 = .ok (.iconst 1, 1) := by decide +kernel
theorem dX6_takeOff_91 : decode cX6_takeOff 91 = .ok (.putfield 165, 3) := by decide +kernel
theorem dX6_takeOff_94 : decode cX6_takeOff 94 = .ok (.aload_n 0, 1) := by decide +kernel
theorem dX6_takeOff_95 : decode cX6_takeOff 95 = .ok (.getfield 45, 3) := by decide +kernel
theorem dX6_takeOff_98 : decode cX6_takeOff 98 = .ok (.aload_n 0, 1) := by decide +kernel
theorem dX6_takeOff_99 : decode cX6_takeOff 99 = .ok (.getfield 56, 3) := by decide +kernel
theorem dX6_takeOff_102 : decode cX6_takeOff 102 = .ok (.iconst 2, 1) := by decide +kernel
theorem dX6_takeOff_103 : decode cX6_takeOff 103 = .ok (.iload_n 1, 1) := by decide +kernel
theorem dX6_takeOff_104 : decode cX6_takeOff 104 = .ok (.iload_n 2, 1) := by decide +kernel
theorem dX6_takeOff_105 : decode cX6_takeOff 105 = .ok (.invokevirtual 154, 3) := by decide +kernel
theorem dX6_takeOff_108 : decode cX6_takeOff 108 = .ok (.iconst 1, 1) := by decide +kernel
theorem dX6_takeOff_109 : decode cX6_takeOff 109 = .ok (.ireturn, 1) := by decide +kernel
set_option maxRecDepth 20000 in
theorem ggX6_valveOf_X6_checkTag : GoodIn wsX6_valveOf wsX6_checkTag := goodIn_ca (goodIn_r _ [7, 8, 9, 1, 10, 11, 12, 13, 14, 15, 33, 34, 35, 36, 37, 38, 39, 40, 41, 42, 43, 44, 45, 46, 51, 52, 53] (by decide +kernel) (by decide +kernel)) (goodIn_sub (fun _ h => List.mem_cons_of_mem _ (List.mem_append_right _ h)) (by decide +kernel))
set_option maxRecDepth 20000 in
theorem gX6_valveOf_X6_checkTag : GoodIn wsX6_valveOf (wsV RX6 158 RX6 yX6_checkTag wsX6_checkTag) := goodIn_app (goodIn_of _ (by decide +kernel)) ggX6_valveOf_X6_checkTag
set_option maxRecDepth 20000 in
theorem ggX6_valveOf_Jx4a65c_get_915e3 : GoodIn wsX6_valveOf wsJx4a65c_get_915e3 := goodIn_r _ [19, 15, 20, 21, 22, 23, 24, 25, 26, 27, 28, 29, 30, 13, 31, 32, 51, 52, 53] (by decide +kernel) (by decide +kernel)
set_option maxRecDepth 20000 in
theorem gX6_valveOf_Jx4a65c_get_915e3 : GoodIn wsX6_valveOf (wsV RX6 161 RJx4a65c yJx4a65c_get_915e3 wsJx4a65c_get_915e3) := goodIn_app (goodIn_of _ (by decide +kernel)) ggX6_valveOf_Jx4a65c_get_915e3
theorem dX6_valveOf_0 : decode cX6_valveOf 0 = .ok (.aload_n 0, 1) := by decide +kernel
theorem dX6_valveOf_1 : decode cX6_valveOf 1 = .ok (.iload_n 1, 1) := by decide +kernel
theorem dX6_valveOf_2 : decode cX6_valveOf 2 = .ok (.invokevirtual 158, 3) := by decide +kernel
theorem dX6_valveOf_5 : decode cX6_valveOf 5 = .ok (.aload_n 0, 1) := by decide +kernel
theorem dX6_valveOf_6 : decode cX6_valveOf 6 = .ok (.getfield 29, 3) := by decide +kernel
theorem dX6_valveOf_9 : decode cX6_valveOf 9 = .ok (.iload_n 1, 1) := by decide +kernel
theorem dX6_valveOf_10 : decode cX6_valveOf 10 = .ok (.invokevirtual 161, 3) := by decide +kernel
theorem dX6_valveOf_13 : decode cX6_valveOf 13 = .ok (.checkcast 145, 3) := by decide +kernel
theorem dX6_valveOf_16 : decode cX6_valveOf 16 = .ok (.astore_n 2, 1) := by decide +kernel
theorem dX6_valveOf_17 : decode cX6_valveOf 17 = .ok (.aload_n 2, 1) := by decide +kernel
theorem dX6_valveOf_18 : decode cX6_valveOf 18 = .ok (.getfield 165, 3) := by decide +kernel
theorem dX6_valveOf_21 : decode cX6_valveOf 21 = .ok (.ifCond .eq 7, 3) := by decide +kernel
theorem dX6_valveOf_24 : decode cX6_valveOf 24 = .ok (.iconst (-1), 1) := by decide +kernel
theorem dX6_valveOf_25 : decode cX6_valveOf 25 = .ok (.goto 7, 3) := by decide +kernel
theorem dX6_valveOf_28 : decode cX6_valveOf 28 = .ok (.aload_n 2, 1) := by decide +kernel
theorem dX6_valveOf_29 : decode cX6_valveOf 29 = .ok (.getfield 180, 3) := by decide +kernel
theorem dX6_valveOf_32 : decode cX6_valveOf 32 = .ok (.ireturn, 1) := by decide +kernel
set_option maxRecDepth 20000 in
theorem ggX6_ownerOf_X6_checkTag : GoodIn wsX6_ownerOf wsX6_checkTag := goodIn_ca (goodIn_r _ [7, 8, 9, 1, 10, 11, 12, 13, 14, 15, 33, 34, 35, 36, 37, 38, 39, 40, 41, 42, 43, 44, 45, 46, 51, 52, 53] (by decide +kernel) (by decide +kernel)) (goodIn_sub (fun _ h => List.mem_cons_of_mem _ (List.mem_append_right _ h)) (by decide +kernel))
set_option maxRecDepth 20000 in
theorem gX6_ownerOf_X6_checkTag : GoodIn wsX6_ownerOf (wsV RX6 158 RX6 yX6_checkTag wsX6_checkTag) := goodIn_app (goodIn_of _ (by decide +kernel)) ggX6_ownerOf_X6_checkTag
set_option maxRecDepth 20000 in
theorem ggX6_ownerOf_Jx4a65c_get_915e3 : GoodIn wsX6_ownerOf wsJx4a65c_get_915e3 := goodIn_r _ [19, 15, 20, 21, 22, 23, 24, 25, 26, 27, 28, 29, 30, 13, 31, 32, 51, 52, 53] (by decide +kernel) (by decide +kernel)
set_option maxRecDepth 20000 in
theorem gX6_ownerOf_Jx4a65c_get_915e3 : GoodIn wsX6_ownerOf (wsV RX6 161 RJx4a65c yJx4a65c_get_915e3 wsJx4a65c_get_915e3) := goodIn_app (goodIn_of _ (by decide +kernel)) ggX6_ownerOf_Jx4a65c_get_915e3
theorem dX6_ownerOf_0 : decode cX6_ownerOf 0 = .ok (.aload_n 0, 1) := by decide +kernel
theorem dX6_ownerOf_1 : decode cX6_ownerOf 1 = .ok (.iload_n 1, 1) := by decide +kernel
theorem dX6_ownerOf_2 : decode cX6_ownerOf 2 = .ok (.invokevirtual 158, 3) := by decide +kernel
theorem dX6_ownerOf_5 : decode cX6_ownerOf 5 = .ok (.aload_n 0, 1) := by decide +kernel
theorem dX6_ownerOf_6 : decode cX6_ownerOf 6 = .ok (.getfield 29, 3) := by decide +kernel
theorem dX6_ownerOf_9 : decode cX6_ownerOf 9 = .ok (.iload_n 1, 1) := by decide +kernel
theorem dX6_ownerOf_10 : decode cX6_ownerOf 10 = .ok (.invokevirtual 161, 3) := by decide +kernel
theorem dX6_ownerOf_13 : decode cX6_ownerOf 13 = .ok (.checkcast 145, 3) := by decide +kernel
theorem dX6_ownerOf_16 : decode cX6_ownerOf 16 = .ok (.getfield 168, 3) := by decide +kernel
theorem dX6_ownerOf_19 : decode cX6_ownerOf 19 = .ok (.ireturn, 1) := by decide +kernel
set_option maxRecDepth 20000 in
theorem ggX6_tagsByLog_X6_checkValve : GoodIn wsX6_tagsByLog wsX6_checkValve := goodIn_ca (goodIn_r _ [5, 6, 7] (by decide +kernel) (by decide +kernel)) (goodIn_sub (fun _ h => List.mem_cons_of_mem _ (List.mem_append_right _ h)) (by decide +kernel))
set_option maxRecDepth 20000 in
theorem gX6_tagsByLog_X6_checkValve : GoodIn wsX6_tagsByLog (va_wsS RX6 76 yX6_checkValve wsX6_checkValve) := goodIn_app (goodIn_of _ (by decide +kernel)) ggX6_tagsByLog_X6_checkValve
set_option maxRecDepth 20000 in
theorem ggX6_tagsByLog_X2_size : GoodIn wsX6_tagsByLog wsX2_size := goodIn_r _ [11, 12, 63, 64] (by decide +kernel) (by decide +kernel)
set_option maxRecDepth 20000 in
theorem gX6_tagsByLog_X2_size_n123 : GoodIn wsX6_tagsByLog (wsX2_size) := ggX6_tagsByLog_X2_size
set_option maxRecDepth 20000 in
theorem ggX6_tagsByLog_X2_kindAt : GoodIn wsX6_tagsByLog wsX2_kindAt := goodIn_r _ [15, 16, 63, 64] (by decide +kernel) (by decide +kernel)
set_option maxRecDepth 20000 in
theorem gX6_tagsByLog_X2_kindAt_n127 : GoodIn wsX6_tagsByLog (wsX2_kindAt) := ggX6_tagsByLog_X2_kindAt
set_option maxRecDepth 20000 in
theorem ggX6_tagsByLog_X2_whatAt : GoodIn wsX6_tagsByLog wsX2_whatAt := goodIn_r _ [19, 16, 63, 64] (by decide +kernel) (by decide +kernel)
set_option maxRecDepth 20000 in
theorem gX6_tagsByLog_X2_whatAt_n183 : GoodIn wsX6_tagsByLog (wsX2_whatAt) := ggX6_tagsByLog_X2_whatAt
set_option maxRecDepth 20000 in
theorem ggX6_tagsByLog_X6_wasHungOn : GoodIn wsX6_tagsByLog wsX6_wasHungOn := goodIn_r _ [23, 24, 25, 26, 27, 28, 29, 30, 31, 32, 33, 34, 35, 36, 37, 38, 39, 40, 41, 42, 43, 44, 45, 46, 47, 48, 49, 50, 51, 52, 53, 54, 55, 56, 57, 58, 59, 60, 61, 62, 65, 66, 67, 68, 69, 70, 71] (by decide +kernel) (by decide +kernel)
set_option maxRecDepth 20000 in
theorem gX6_tagsByLog_X6_wasHungOn : GoodIn wsX6_tagsByLog (wsV RX6 186 RX6 yX6_wasHungOn wsX6_wasHungOn) := goodIn_app (goodIn_of _ (by decide +kernel)) ggX6_tagsByLog_X6_wasHungOn
theorem dX6_tagsByLog_0 : decode cX6_tagsByLog 0 = .ok (.iload_n 1, 1) := by decide +kernel
theorem dX6_tagsByLog_1 : decode cX6_tagsByLog 1 = .ok (.invokestatic 76, 3) := by decide +kernel
theorem dX6_tagsByLog_4 : decode cX6_tagsByLog 4 = .ok (.iconst 0, 1) := by decide +kernel
theorem dX6_tagsByLog_5 : decode cX6_tagsByLog 5 = .ok (.istore_n 2, 1) := by decide +kernel
theorem dX6_tagsByLog_6 : decode cX6_tagsByLog 6 = .ok (.iconst 0, 1) := by decide +kernel
theorem dX6_tagsByLog_7 : decode cX6_tagsByLog 7 = .ok (.istore_n 3, 1) := by decide +kernel
theorem dX6_tagsByLog_8 : decode cX6_tagsByLog 8 = .ok (.iload_n 3, 1) := by decide +kernel
theorem dX6_tagsByLog_9 : decode cX6_tagsByLog 9 = .ok (.aload_n 0, 1) := by decide +kernel
theorem dX6_tagsByLog_10 : decode cX6_tagsByLog 10 = .ok (.getfield 45, 3) := by decide +kernel
theorem dX6_tagsByLog_13 : decode cX6_tagsByLog 13 = .ok (.invokevirtual 123, 3) := by decide +kernel
theorem dX6_tagsByLog_16 : decode cX6_tagsByLog 16 = .ok (.if_icmp .ge 61, 3) := by decide +kernel
theorem dX6_tagsByLog_19 : decode cX6_tagsByLog 19 = .ok (.aload_n 0, 1) := by decide +kernel
theorem dX6_tagsByLog_20 : decode cX6_tagsByLog 20 = .ok (.getfield 45, 3) := by decide +kernel
theorem dX6_tagsByLog_23 : decode cX6_tagsByLog 23 = .ok (.iload_n 3, 1) := by decide +kernel
theorem dX6_tagsByLog_24 : decode cX6_tagsByLog 24 = .ok (.invokevirtual 127, 3) := by decide +kernel
theorem dX6_tagsByLog_27 : decode cX6_tagsByLog 27 = .ok (.istore 4, 2) := by decide +kernel
theorem dX6_tagsByLog_29 : decode cX6_tagsByLog 29 = .ok (.iload 4, 2) := by decide +kernel
theorem dX6_tagsByLog_31 : decode cX6_tagsByLog 31 = .ok (.iconst 1, 1) := by decide +kernel
theorem dX6_tagsByLog_32 : decode cX6_tagsByLog 32 = .ok (.if_icmp .eq 9, 3) := by decide +kernel
theorem dX6_tagsByLog_35 : decode cX6_tagsByLog 35 = .ok (.iload 4, 2) := by decide +kernel
theorem dX6_tagsByLog_37 : decode cX6_tagsByLog 37 = .ok (.iconst 2, 1) := by decide +kernel
theorem dX6_tagsByLog_38 : decode cX6_tagsByLog 38 = .ok (.if_icmp .ne 33, 3) := by decide +kernel
theorem dX6_tagsByLog_41 : decode cX6_tagsByLog 41 = .ok (.aload_n 0, 1) := by decide +kernel
theorem dX6_tagsByLog_42 : decode cX6_tagsByLog 42 = .ok (.aload_n 0, 1) := by decide +kernel
theorem dX6_tagsByLog_43 : decode cX6_tagsByLog 43 = .ok (.getfield 45, 3) := by decide +kernel
theorem dX6_tagsByLog_46 : decode cX6_tagsByLog 46 = .ok (.iload_n 3, 1) := by decide +kernel
theorem dX6_tagsByLog_47 : decode cX6_tagsByLog 47 = .ok (.invokevirtual 183, 3) := by decide +kernel
theorem dX6_tagsByLog_50 : decode cX6_tagsByLog 50 = .ok (.iload_n 1, 1) := by decide +kernel
theorem dX6_tagsByLog_51 : decode cX6_tagsByLog 51 = .ok (.invokevirtual 186, 3) := by decide +kernel
theorem dX6_tagsByLog_54 : decode cX6_tagsByLog 54 = .ok (.ifCond .eq 17, 3) := by decide +kernel
theorem dX6_tagsByLog_57 : decode cX6_tagsByLog 57 = .ok (.iload_n 2, 1) := by decide +kernel
theorem dX6_tagsByLog_58 : decode cX6_tagsByLog 58 = .ok (.iload 4, 2) := by decide +kernel
theorem dX6_tagsByLog_60 : decode cX6_tagsByLog 60 = .ok (.iconst 1, 1) := by decide +kernel
theorem dX6_tagsByLog_61 : decode cX6_tagsByLog 61 = .ok (.if_icmp .ne 7, 3) := by decide +kernel
theorem dX6_tagsByLog_64 : decode cX6_tagsByLog 64 = .ok (.iconst 1, 1) := by decide +kernel
theorem dX6_tagsByLog_65 : decode cX6_tagsByLog 65 = .ok (.goto 4, 3) := by decide +kernel
theorem dX6_tagsByLog_68 : decode cX6_tagsByLog 68 = .ok (.iconst (-1), 1) := by decide +kernel
theorem dX6_tagsByLog_69 : decode cX6_tagsByLog 69 = .ok (.iadd, 1) := by decide +kernel
theorem dX6_tagsByLog_70 : decode cX6_tagsByLog 70 = .ok (.istore_n 2, 1) := by decide +kernel
theorem dX6_tagsByLog_71 : decode cX6_tagsByLog 71 = .ok (.iinc 3 1, 3) := by decide +kernel
theorem dX6_tagsByLog_74 : decode cX6_tagsByLog 74 = .ok (.goto (-66), 3) := by decide +kernel
theorem dX6_tagsByLog_77 : decode cX6_tagsByLog 77 = .ok (.iload_n 2, 1) := by decide +kernel
theorem dX6_tagsByLog_78 : decode cX6_tagsByLog 78 = .ok (.ireturn, 1) := by decide +kernel
set_option maxRecDepth 20000 in
theorem ggX6_read_X6_checkPerson : GoodIn wsX6_read wsX6_checkPerson := goodIn_ca (goodIn_r _ [6, 7, 8] (by decide +kernel) (by decide +kernel)) (goodIn_sub (fun _ h => List.mem_cons_of_mem _ (List.mem_append_left _ (List.mem_append_right _ h))) (by decide +kernel))
set_option maxRecDepth 20000 in
theorem gX6_read_X6_checkPerson : GoodIn wsX6_read (va_wsS RX6 110 yX6_checkPerson wsX6_checkPerson) := goodIn_app (goodIn_of _ (by decide +kernel)) ggX6_read_X6_checkPerson
set_option maxRecDepth 20000 in
theorem ggX6_read_X6_checkNotGone : GoodIn wsX6_read wsX6_checkNotGone := goodIn_ca (goodIn_r _ [12, 13, 14, 15, 21, 22, 23, 24, 25, 26, 27, 28, 29, 30, 31, 32, 33, 34] (by decide +kernel) (by decide +kernel)) (goodIn_sub (fun _ h => List.mem_cons_of_mem _ (List.mem_append_right _ h)) (by decide +kernel))
set_option maxRecDepth 20000 in
theorem gX6_read_X6_checkNotGone : GoodIn wsX6_read (wsV RX6 190 RX6 yX6_checkNotGone wsX6_checkNotGone) := goodIn_app (goodIn_of _ (by decide +kernel)) ggX6_read_X6_checkNotGone
set_option maxRecDepth 20000 in
theorem ggX6_read_X2_size : GoodIn wsX6_read wsX2_size := goodIn_r _ [19, 20, 35, 36] (by decide +kernel) (by decide +kernel)
set_option maxRecDepth 20000 in
theorem gX6_read_X2_size_n123 : GoodIn wsX6_read (wsX2_size) := ggX6_read_X2_size
theorem dX6_read_0 : decode cX6_read 0 = .ok (.iload_n 1, 1) := by decide +kernel
theorem dX6_read_1 : decode cX6_read 1 = .ok (.invokestatic 110, 3) := by decide +kernel
theorem dX6_read_4 : decode cX6_read 4 = .ok (.aload_n 0, 1) := by decide +kernel
theorem dX6_read_5 : decode cX6_read 5 = .ok (.iload_n 1, 1) := by decide +kernel
theorem dX6_read_6 : decode cX6_read 6 = .ok (.invokevirtual 190, 3) := by decide +kernel
theorem dX6_read_9 : decode cX6_read 9 = .ok (.aload_n 0, 1) := by decide +kernel
theorem dX6_read_10 : decode cX6_read 10 = .ok (.getfield 45, 3) := by decide +kernel
theorem dX6_read_13 : decode cX6_read 13 = .ok (.invokevirtual 123, 3) := by decide +kernel
theorem dX6_read_16 : decode cX6_read 16 = .ok (.aload_n 0, 1) := by decide +kernel
theorem dX6_read_17 : decode cX6_read 17 = .ok (.getfield 23, 3) := by decide +kernel
theorem dX6_read_20 : decode cX6_read 20 = .ok (.iload_n 1, 1) := by decide +kernel
theorem dX6_read_21 : decode cX6_read 21 = .ok (.iaload, 1) := by decide +kernel
theorem dX6_read_22 : decode cX6_read 22 = .ok (.isub, 1) := by decide +kernel
theorem dX6_read_23 : decode cX6_read 23 = .ok (.istore_n 2, 1) := by decide +kernel
theorem dX6_read_24 : decode cX6_read 24 = .ok (.aload_n 0, 1) := by decide +kernel
theorem dX6_read_25 : decode cX6_read 25 = .ok (.getfield 23, 3) := by decide +kernel
theorem dX6_read_28 : decode cX6_read 28 = .ok (.iload_n 1, 1) := by decide +kernel
theorem dX6_read_29 : decode cX6_read 29 = .ok (.aload_n 0, 1) := by decide +kernel
theorem dX6_read_30 : decode cX6_read 30 = .ok (.getfield 45, 3) := by decide +kernel
theorem dX6_read_33 : decode cX6_read 33 = .ok (.invokevirtual 123, 3) := by decide +kernel
theorem dX6_read_36 : decode cX6_read 36 = .ok (.iastore, 1) := by decide +kernel
theorem dX6_read_37 : decode cX6_read 37 = .ok (.iload_n 2, 1) := by decide +kernel
theorem dX6_read_38 : decode cX6_read 38 = .ok (.ireturn, 1) := by decide +kernel
set_option maxRecDepth 20000 in
theorem ggX6_leave_X6_checkPerson : GoodIn wsX6_leave wsX6_checkPerson := goodIn_ca (goodIn_r _ [9, 10, 11] (by decide +kernel) (by decide +kernel)) (goodIn_sub (fun _ h => List.mem_cons_of_mem _ (List.mem_append_left _ (List.mem_append_right _ h))) (by decide +kernel))
set_option maxRecDepth 20000 in
theorem gX6_leave_X6_checkPerson : GoodIn wsX6_leave (va_wsS RX6 110 yX6_checkPerson wsX6_checkPerson) := goodIn_app (goodIn_of _ (by decide +kernel)) ggX6_leave_X6_checkPerson
set_option maxRecDepth 20000 in
theorem ggX6_leave_X6_checkNotGone : GoodIn wsX6_leave wsX6_checkNotGone := goodIn_ca (goodIn_r _ [15, 16, 17, 1, 66, 67, 68, 69, 70, 71, 72, 73, 74, 75, 76, 77, 78, 79] (by decide +kernel) (by decide +kernel)) (goodIn_sub (fun _ h => List.mem_cons_of_mem _ (List.mem_append_right _ h)) (by decide +kernel))
set_option maxRecDepth 20000 in
theorem gX6_leave_X6_checkNotGone : GoodIn wsX6_leave (wsV RX6 190 RX6 yX6_checkNotGone wsX6_checkNotGone) := goodIn_app (goodIn_of _ (by decide +kernel)) ggX6_leave_X6_checkNotGone
set_option maxRecDepth 20000 in
theorem ggX6_leave_X2_note : GoodIn wsX6_leave wsX2_note := goodIn_r _ [21, 22, 23, 24, 25, 26, 27, 28, 29, 30, 31, 32, 33, 34, 35, 36, 37, 38, 39, 40, 41, 42, 84, 85] (by decide +kernel) (by decide +kernel)
set_option maxRecDepth 20000 in
theorem gX6_leave_X2_note_n154 : GoodIn wsX6_leave (wsX2_note) := ggX6_leave_X2_note
set_option maxRecDepth 20000 in
theorem ggX6_leave_Jx4a65c_size_8abf5 : GoodIn wsX6_leave wsJx4a65c_size_8abf5 := goodIn_r _ [47, 48, 86, 87, 88] (by decide +kernel) (by decide +kernel)
set_option maxRecDepth 20000 in
theorem gX6_leave_Jx4a65c_size_8abf5 : GoodIn wsX6_leave (wsV RX6 142 RJx4a65c yJx4a65c_size_8abf5 wsJx4a65c_size_8abf5) := goodIn_app (goodIn_of _ (by decide +kernel)) ggX6_leave_Jx4a65c_size_8abf5
set_option maxRecDepth 20000 in
theorem ggX6_leave_Jx4a65c_get_915e3 : GoodIn wsX6_leave wsJx4a65c_get_915e3 := goodIn_r _ [52, 48, 53, 54, 55, 56, 57, 58, 59, 60, 61, 62, 63, 46, 64, 65, 86, 87, 88] (by decide +kernel) (by decide +kernel)
set_option maxRecDepth 20000 in
theorem gX6_leave_Jx4a65c_get_915e3 : GoodIn wsX6_leave (wsV RX6 161 RJx4a65c yJx4a65c_get_915e3 wsJx4a65c_get_915e3) := goodIn_app (goodIn_of _ (by decide +kernel)) ggX6_leave_Jx4a65c_get_915e3
theorem dX6_leave_0 : decode cX6_leave 0 = .ok (.iload_n 1, 1) := by decide +kernel
theorem dX6_leave_1 : decode cX6_leave 1 = .ok (.invokestatic 110, 3) := by decide +kernel
theorem dX6_leave_4 : decode cX6_leave 4 = .ok (.aload_n 0, 1) := by decide +kernel
theorem dX6_leave_5 : decode cX6_leave 5 = .ok (.iload_n 1, 1) := by decide +kernel
theorem dX6_leave_6 : decode cX6_leave 6 = .ok (.invokevirtual 190, 3) := by decide +kernel
theorem dX6_leave_9 : decode cX6_leave 9 = .ok (.aload_n 0, 1) := by decide +kernel
theorem dX6_leave_10 : decode cX6_leave 10 = .ok (.getfield 19, 3) := by decide +kernel
theorem dX6_leave_13 : decode cX6_leave 13 = .ok (.iload_n 1, 1) := by decide +kernel
theorem dX6_leave_14 : decode cX6_leave 14 = .ok (.iconst 1, 1) := by decide +kernel
theorem dX6_leave_15 : decode cX6_leave 15 = .ok (.bastore, 1) := by decide +kernel
theorem dX6_leave_16 : decode cX6_leave 16 = .ok (.aload_n 0, 1) := by decide +kernel
theorem dX6_leave_17 : decode cX6_leave 17 = .ok (.getfield 45, 3) := by decide +kernel
theorem dX6_leave_20 : decode cX6_leave 20 = .ok (.aload_n 0, 1) := by decide +kernel
theorem dX6_leave_21 : decode cX6_leave 21 = .ok (.getfield 56, 3) := by decide +kernel
theorem dX6_leave_24 : decode cX6_leave 24 = .ok (.iconst 4, 1) := by decide +kernel
theorem dX6_leave_25 : decode cX6_leave 25 = .ok (.iload_n 1, 1) := by decide +kernel
theorem dX6_leave_26 : decode cX6_leave 26 = .ok (.iconst 0, 1) := by decide +kernel
theorem dX6_leave_27 : decode cX6_leave 27 = .ok (.invokevirtual 154, 3) := by decide +kernel
theorem dX6_leave_30 : decode cX6_leave 30 = .ok (.iconst 0, 1) := by decide +kernel
theorem dX6_leave_31 : decode cX6_leave 31 = .ok (.istore_n 2, 1) := by decide +kernel
theorem dX6_leave_32 : decode cX6_leave 32 = .ok (.iconst 0, 1) := by decide +kernel
theorem dX6_leave_33 : decode cX6_leave 33 = .ok (.istore_n 3, 1) := by decide +kernel
theorem dX6_leave_34 : decode cX6_leave 34 = .ok (.iload_n 3, 1) := by decide +kernel
theorem dX6_leave_35 : decode cX6_leave 35 = .ok (.aload_n 0, 1) := by decide +kernel
theorem dX6_leave_36 : decode cX6_leave 36 = .ok (.getfield 29, 3) := by decide +kernel
theorem dX6_leave_39 : decode cX6_leave 39 = .ok (.invokevirtual 142, 3) := by decide +kernel
theorem dX6_leave_42 : decode cX6_leave 42 = .ok (.if_icmp .ge 42, 3) := by decide +kernel
theorem dX6_leave_45 : decode cX6_leave 45 = .ok (.aload_n 0, 1) := by decide +kernel
theorem dX6_leave_46 : decode cX6_leave 46 = .ok (.getfield 29, 3) := by decide +kernel
theorem dX6_leave_49 : decode cX6_leave 49 = .ok (.iload_n 3, 1) := by decide +kernel
theorem dX6_leave_50 : decode cX6_leave 50 = .ok (.invokevirtual 161, 3) := by decide +kernel
theorem dX6_leave_53 : decode cX6_leave 53 = .ok (.checkcast 145, 3) := by decide +kernel
theorem dX6_leave_56 : decode cX6_leave 56 = .ok (.astore 4, 2) := by decide +kernel
theorem dX6_leave_58 : decode cX6_leave 58 = .ok (.aload 4, 2) := by decide +kernel
theorem dX6_leave_60 : decode cX6_leave 60 = .ok (.getfield 165, 3) := by decide +kernel
theorem dX6_leave_63 : decode cX6_leave 63 = .ok (.ifCond .ne 15, 3) := by decide +kernel
theorem dX6_leave_66 : decode cX6_leave 66 = .ok (.aload 4, 2) := by decide +kernel
theorem dX6_leave_68 : decode cX6_leave 68 = .ok (.getfield 168, 3) := by decide +kernel
theorem dX6_leave_71 : decode cX6_leave 71 = .ok (.iload_n 1, 1) := by decide +kernel
theorem dX6_leave_72 : decode cX6_leave 72 = .ok (.if_icmp .ne 6, 3) := by decide +kernel
theorem dX6_leave_75 : decode cX6_leave 75 = .ok (.iinc 2 1, 3) := by decide +kernel
theorem dX6_leave_78 : decode cX6_leave 78 = .ok (.iinc 3 1, 3) := by decide +kernel
theorem dX6_leave_81 : decode cX6_leave 81 = .ok (.goto (-47), 3) := by decide +kernel
theorem dX6_leave_84 : decode cX6_leave 84 = .ok (.iload_n 2, 1) := by decide +kernel
theorem dX6_leave_85 : decode cX6_leave 85 = .ok (.ireturn, 1) := by decide +kernel
set_option maxRecDepth 20000 in
theorem ggX6_canAct_X6_checkPerson : GoodIn wsX6_canAct wsX6_checkPerson := goodIn_ca (goodIn_r _ [4, 5, 6] (by decide +kernel) (by decide +kernel)) (goodIn_sub (fun _ h => List.mem_cons_of_mem _ (List.mem_append_right _ h)) (by decide +kernel))
set_option maxRecDepth 20000 in
theorem gX6_canAct_X6_checkPerson : GoodIn wsX6_canAct (va_wsS RX6 110 yX6_checkPerson wsX6_checkPerson) := goodIn_app (goodIn_of _ (by decide +kernel)) ggX6_canAct_X6_checkPerson
set_option maxRecDepth 20000 in
theorem ggX6_canAct_X6_isAble : GoodIn wsX6_canAct wsX6_isAble := goodIn_r _ [10, 11, 12, 13, 14, 15, 3, 16, 17, 18, 19, 20, 21, 22, 23, 24, 25, 26, 27, 28, 29, 30, 31, 32] (by decide +kernel) (by decide +kernel)
set_option maxRecDepth 20000 in
theorem gX6_canAct_X6_isAble : GoodIn wsX6_canAct (wsV RX6 139 RX6 yX6_isAble wsX6_isAble) := goodIn_app (goodIn_of _ (by decide +kernel)) ggX6_canAct_X6_isAble
theorem dX6_canAct_0 : decode cX6_canAct 0 = .ok (.iload_n 1, 1) := by decide +kernel
theorem dX6_canAct_1 : decode cX6_canAct 1 = .ok (.invokestatic 110, 3) := by decide +kernel
theorem dX6_canAct_4 : decode cX6_canAct 4 = .ok (.aload_n 0, 1) := by decide +kernel
theorem dX6_canAct_5 : decode cX6_canAct 5 = .ok (.iload_n 1, 1) := by decide +kernel
theorem dX6_canAct_6 : decode cX6_canAct 6 = .ok (.invokevirtual 139, 3) := by decide +kernel
theorem dX6_canAct_9 : decode cX6_canAct 9 = .ok (.ireturn, 1) := by decide +kernel
set_option maxRecDepth 20000 in
theorem ggX6_advance_X6_endHour : GoodIn wsX6_advance wsX6_endHour := goodIn_r _ [10, 11, 12, 5, 13, 14, 15, 16, 17, 9, 18, 19, 20, 21, 22, 23, 24, 25, 26, 27, 28, 29, 30, 31, 32, 33, 34, 35, 36, 37, 38, 39, 40, 41, 42, 43, 44, 45, 46, 47, 48, 49, 50, 51, 52, 53, 54, 55, 56, 57, 58, 59, 60, 61, 62, 63, 64, 65, 66, 67, 68, 69, 70, 71, 72, 73, 74, 75, 76, 77, 78, 79, 80, 81, 82, 83, 84, 85, 86, 87, 88, 89, 90, 91, 92, 93, 94, 95, 96, 97, 98, 99, 100, 101, 102, 103, 104, 105, 106, 107, 108, 109, 110, 111, 112, 113, 114, 115, 116, 117, 118, 119, 120, 121, 122, 123, 124, 125, 126, 127, 128, 129, 130, 131, 132] (by decide +kernel) (by decide +kernel)
set_option maxRecDepth 20000 in
theorem gX6_advance_X6_endHour : GoodIn wsX6_advance (wsV RX6 197 RX6 yX6_endHour wsX6_endHour) := goodIn_app (goodIn_of _ (by decide +kernel)) ggX6_advance_X6_endHour
theorem dX6_advance_0 : decode cX6_advance 0 = .ok (.iload_n 1, 1) := by decide +kernel
theorem dX6_advance_1 : decode cX6_advance 1 = .ok (.iconst 1, 1) := by decide +kernel
theorem dX6_advance_2 : decode cX6_advance 2 = .ok (.if_icmp .lt 9, 3) := by decide +kernel
theorem dX6_advance_5 : decode cX6_advance 5 = .ok (.iload_n 1, 1) := by decide +kernel
theorem dX6_advance_6 : decode cX6_advance 6 = .ok (.bipush 100, 2) := by decide +kernel
theorem dX6_advance_8 : decode cX6_advance 8 = .ok (.if_icmp .le 13, 3) := by decide +kernel
theorem dX6_advance_11 : decode cX6_advance 11 = .ok (.new 84, 3) := by decide +kernel
theorem dX6_advance_14 : decode cX6_advance 14 = .ok (.dup, 1) := by decide +kernel
theorem dX6_advance_15 : decode cX6_advance 15 = .ok (.ldc 193, 2) := by decide +kernel
theorem dX6_advance_17 : decode cX6_advance 17 = .ok (.invokespecial 88, 3) := by decide +kernel
theorem dX6_advance_20 : decode cX6_advance 20 = .ok (.athrow, 1) := by decide +kernel
theorem dX6_advance_21 : decode cX6_advance 21 = .ok (.aload_n 0, 1) := by decide +kernel
theorem dX6_advance_22 : decode cX6_advance 22 = .ok (.getfield 56, 3) := by decide +kernel
theorem dX6_advance_25 : decode cX6_advance 25 = .ok (.iload_n 1, 1) := by decide +kernel
theorem dX6_advance_26 : decode cX6_advance 26 = .ok (.iadd, 1) := by decide +kernel
theorem dX6_advance_27 : decode cX6_advance 27 = .ok (.sipush 2000, 3) := by decide +kernel
theorem dX6_advance_30 : decode cX6_advance 30 = .ok (.if_icmp .le 13, 3) := by decide +kernel
theorem dX6_advance_33 : decode cX6_advance 33 = .ok (.new 95, 3) := by decide +kernel
theorem dX6_advance_36 : decode cX6_advance 36 = .ok (.dup, 1) := by decide +kernel
theorem dX6_advance_37 : decode cX6_advance 37 = .ok (.ldc 195, 2) := by decide +kernel
theorem dX6_advance_39 : decode cX6_advance 39 = .ok (.invokespecial 99, 3) := by decide +kernel
theorem dX6_advance_42 : decode cX6_advance 42 = .ok (.athrow, 1) := by decide +kernel
theorem dX6_advance_43 : decode cX6_advance 43 = .ok (.iconst 0, 1) := by decide +kernel
theorem dX6_advance_44 : decode cX6_advance 44 = .ok (.istore_n 2, 1) := by decide +kernel
theorem dX6_advance_45 : decode cX6_advance 45 = .ok (.iload_n 2, 1) := by decide +kernel
theorem dX6_advance_46 : decode cX6_advance 46 = .ok (.iload_n 1, 1) := by decide +kernel
theorem dX6_advance_47 : decode cX6_advance 47 = .ok (.if_icmp .ge 13, 3) := by decide +kernel
theorem dX6_advance_50 : decode cX6_advance 50 = .ok (.aload_n 0, 1) := by decide +kernel
theorem dX6_advance_51 : decode cX6_advance 51 = .ok (.invokevirtual 197, 3) := by decide +kernel
theorem dX6_advance_54 : decode cX6_advance 54 = .ok (.iinc 2 1, 3) := by decide +kernel
theorem dX6_advance_57 : decode cX6_advance 57 = .ok (.goto (-12), 3) := by decide +kernel
theorem dX6_advance_60 : decode cX6_advance 60 = .ok (.aload_n 0, 1) := by decide +kernel
theorem dX6_advance_61 : decode cX6_advance 61 = .ok (.getfield 56, 3) := by decide +kernel
theorem dX6_advance_64 : decode cX6_advance 64 = .ok (.ireturn, 1) := by decide +kernel
theorem dX6_hour_0 : decode cX6_hour 0 = .ok (.aload_n 0, 1) := by decide +kernel
theorem dX6_hour_1 : decode cX6_hour 1 = .ok (.getfield 56, 3) := by decide +kernel
theorem dX6_hour_4 : decode cX6_hour 4 = .ok (.ireturn, 1) := by decide +kernel
set_option maxRecDepth 20000 in
theorem ggX6_entries_X2_size : GoodIn wsX6_entries wsX2_size := goodIn_r _ [5, 6, 21, 22] (by decide +kernel) (by decide +kernel)
set_option maxRecDepth 20000 in
theorem gX6_entries_X2_size_n123 : GoodIn wsX6_entries (wsX2_size) := ggX6_entries_X2_size
theorem dX6_entries_0 : decode cX6_entries 0 = .ok (.aload_n 0, 1) := by decide +kernel
theorem dX6_entries_1 : decode cX6_entries 1 = .ok (.getfield 45, 3) := by decide +kernel
theorem dX6_entries_4 : decode cX6_entries 4 = .ok (.invokevirtual 123, 3) := by decide +kernel
theorem dX6_entries_7 : decode cX6_entries 7 = .ok (.ireturn, 1) := by decide +kernel
set_option maxRecDepth 20000 in
theorem ggX6_entryAt_X2_size : GoodIn wsX6_entryAt wsX2_size := goodIn_r _ [7, 8, 27, 28] (by decide +kernel) (by decide +kernel)
set_option maxRecDepth 20000 in
theorem gX6_entryAt_X2_size_n123 : GoodIn wsX6_entryAt (wsX2_size) := ggX6_entryAt_X2_size
set_option maxRecDepth 20000 in
theorem ggX6_entryAt_X2_codeAt : GoodIn wsX6_entryAt wsX2_codeAt := goodIn_r _ [11, 12, 27, 28] (by decide +kernel) (by decide +kernel)
set_option maxRecDepth 20000 in
theorem gX6_entryAt_X2_codeAt_n205 : GoodIn wsX6_entryAt (wsX2_codeAt) := ggX6_entryAt_X2_codeAt
theorem dX6_entryAt_0 : decode cX6_entryAt 0 = .ok (.iload_n 1, 1) := by decide +kernel
theorem dX6_entryAt_1 : decode cX6_entryAt 1 = .ok (.ifCond .lt 14, 3) := by decide +kernel
theorem dX6_entryAt_4 : decode cX6_entryAt 4 = .ok (.iload_n 1, 1) := by decide +kernel
theorem dX6_entryAt_5 : decode cX6_entryAt 5 = .ok (.aload_n 0, 1) := by decide +kernel
theorem dX6_entryAt_6 : decode cX6_entryAt 6 = .ok (.getfield 45, 3) := by decide +kernel
theorem dX6_entryAt_9 : decode cX6_entryAt 9 = .ok (.invokevirtual 123, 3) := by decide +kernel
theorem dX6_entryAt_12 : decode cX6_entryAt 12 = .ok (.if_icmp .lt 13, 3) := by decide +kernel
theorem dX6_entryAt_15 : decode cX6_entryAt 15 = .ok (.new 200, 3) := by decide +kernel
theorem dX6_entryAt_18 : decode cX6_entryAt 18 = .ok (.dup, 1) := by decide +kernel
theorem dX6_entryAt_19 : decode cX6_entryAt 19 = .ok (.ldc 202, 2) := by decide +kernel
theorem dX6_entryAt_21 : decode cX6_entryAt 21 = .ok (.invokespecial 204, 3) := by decide +kernel
theorem dX6_entryAt_24 : decode cX6_entryAt 24 = .ok (.athrow, 1) := by decide +kernel
theorem dX6_entryAt_25 : decode cX6_entryAt 25 = .ok (.aload_n 0, 1) := by decide +kernel
theorem dX6_entryAt_26 : decode cX6_entryAt 26 = .ok (.getfield 45, 3) := by decide +kernel
theorem dX6_entryAt_29 : decode cX6_entryAt 29 = .ok (.iload_n 1, 1) := by decide +kernel
theorem dX6_entryAt_30 : decode cX6_entryAt 30 = .ok (.invokevirtual 205, 3) := by decide +kernel
theorem dX6_entryAt_33 : decode cX6_entryAt 33 = .ok (.ireturn, 1) := by decide +kernel
set_option maxRecDepth 20000 in
theorem ggX6_alarm_X6_checkVessel : GoodIn wsX6_alarm wsX6_checkVessel := goodIn_ca (goodIn_r _ [12, 13, 14, 15, 16, 11, 17] (by decide +kernel) (by decide +kernel)) (goodIn_sub (fun _ h => List.mem_cons_of_mem _ (List.mem_append_right _ h)) (by decide +kernel))
set_option maxRecDepth 20000 in
theorem gX6_alarm_X6_checkVessel : GoodIn wsX6_alarm (va_wsS RX6 136 yX6_checkVessel wsX6_checkVessel) := goodIn_app (goodIn_of _ (by decide +kernel)) ggX6_alarm_X6_checkVessel
set_option maxRecDepth 20000 in
theorem ggX6_alarm_X6_checkValve : GoodIn wsX6_alarm wsX6_checkValve := goodIn_ca (goodIn_r _ [20, 13, 14] (by decide +kernel) (by decide +kernel)) (goodIn_sub (fun _ h => List.mem_cons_of_mem _ (List.mem_append_right _ h)) (by decide +kernel))
set_option maxRecDepth 20000 in
theorem gX6_alarm_X6_checkValve : GoodIn wsX6_alarm (va_wsS RX6 76 yX6_checkValve wsX6_checkValve) := goodIn_app (goodIn_of _ (by decide +kernel)) ggX6_alarm_X6_checkValve
set_option maxRecDepth 20000 in
theorem ggX6_alarm_Jx4a65c_size_8abf5 : GoodIn wsX6_alarm wsJx4a65c_size_8abf5 := goodIn_r _ [25, 26, 112, 113, 114] (by decide +kernel) (by decide +kernel)
set_option maxRecDepth 20000 in
theorem gX6_alarm_Jx4a65c_size_8abf5 : GoodIn wsX6_alarm (wsV RX6 142 RJx4a65c yJx4a65c_size_8abf5 wsJx4a65c_size_8abf5) := goodIn_app (goodIn_of _ (by decide +kernel)) ggX6_alarm_Jx4a65c_size_8abf5
set_option maxRecDepth 20000 in
theorem ggX6_alarm_X0_init : GoodIn wsX6_alarm wsX0_init := goodIn_r _ [28, 29, 30, 31, 32, 33, 34, 35, 36, 37, 106, 107, 108, 109, 110, 111] (by decide +kernel) (by decide +kernel)
set_option maxRecDepth 20000 in
theorem gX6_alarm_X0_init_n214 : GoodIn wsX6_alarm (wsX0_init) := ggX6_alarm_X0_init
set_option maxRecDepth 20000 in
theorem ggX6_alarm_Jx4a65c_add_9ea2d : GoodIn wsX6_alarm wsJx4a65c_add_9ea2d := goodIn_r _ [41, 42, 43, 44, 26, 45, 46, 47, 24, 48, 49, 50, 51, 52, 53, 54, 55, 56, 57, 58, 59, 60, 61, 62, 63, 64, 65, 66, 67, 68, 69, 70, 71, 72, 73, 74, 75, 76, 77, 78, 79, 80, 81, 82, 83, 84, 85, 86, 87, 88, 89, 90, 91, 112, 113, 114] (by decide +kernel) (by decide +kernel)
set_option maxRecDepth 20000 in
theorem gX6_alarm_Jx4a65c_add_9ea2d : GoodIn wsX6_alarm (wsV RX6 150 RJx4a65c yJx4a65c_add_9ea2d wsJx4a65c_add_9ea2d) := goodIn_app (goodIn_of _ (by decide +kernel)) ggX6_alarm_Jx4a65c_add_9ea2d
theorem dX6_alarm_0 : decode cX6_alarm 0 = .ok (.iload_n 1, 1) := by decide +kernel
theorem dX6_alarm_1 : decode cX6_alarm 1 = .ok (.invokestatic 136, 3) := by decide +kernel
theorem dX6_alarm_4 : decode cX6_alarm 4 = .ok (.iload 4, 2) := by decide +kernel
theorem dX6_alarm_6 : decode cX6_alarm 6 = .ok (.invokestatic 76, 3) := by decide +kernel
theorem dX6_alarm_9 : decode cX6_alarm 9 = .ok (.iload_n 2, 1) := by decide +kernel
theorem dX6_alarm_10 : decode cX6_alarm 10 = .ok (.ifCond .lt 10, 3) := by decide +kernel
theorem dX6_alarm_13 : decode cX6_alarm 13 = .ok (.iload_n 2, 1) := by decide +kernel
theorem dX6_alarm_14 : decode cX6_alarm 14 = .ok (.sipush 1000, 3) := by decide +kernel
theorem dX6_alarm_17 : decode cX6_alarm 17 = .ok (.if_icmp .le 13, 3) := by decide +kernel
theorem dX6_alarm_20 : decode cX6_alarm 20 = .ok (.new 84, 3) := by decide +kernel
theorem dX6_alarm_23 : decode cX6_alarm 23 = .ok (.dup, 1) := by decide +kernel
theorem dX6_alarm_24 : decode cX6_alarm 24 = .ok (.ldc 208, 2) := by decide +kernel
theorem dX6_alarm_26 : decode cX6_alarm 26 = .ok (.invokespecial 88, 3) := by decide +kernel
theorem dX6_alarm_29 : decode cX6_alarm 29 = .ok (.athrow, 1) := by decide +kernel
theorem dX6_alarm_30 : decode cX6_alarm 30 = .ok (.aload_n 0, 1) := by decide +kernel
theorem dX6_alarm_31 : decode cX6_alarm 31 = .ok (.getfield 33, 3) := by decide +kernel
theorem dX6_alarm_34 : decode cX6_alarm 34 = .ok (.invokevirtual 142, 3) := by decide +kernel
theorem dX6_alarm_37 : decode cX6_alarm 37 = .ok (.bipush 10, 2) := by decide +kernel
theorem dX6_alarm_39 : decode cX6_alarm 39 = .ok (.if_icmp .lt 13, 3) := by decide +kernel
theorem dX6_alarm_42 : decode cX6_alarm 42 = .ok (.new 95, 3) := by decide +kernel
theorem dX6_alarm_45 : decode cX6_alarm 45 = .ok (.dup, 1) := by decide +kernel
theorem dX6_alarm_46 : decode cX6_alarm 46 = .ok (.ldc 210, 2) := by decide +kernel
theorem dX6_alarm_48 : decode cX6_alarm 48 = .ok (.invokespecial 99, 3) := by decide +kernel
theorem dX6_alarm_51 : decode cX6_alarm 51 = .ok (.athrow, 1) := by decide +kernel
theorem dX6_alarm_52 : decode cX6_alarm 52 = .ok (.aload_n 0, 1) := by decide +kernel
theorem dX6_alarm_53 : decode cX6_alarm 53 = .ok (.getfield 33, 3) := by decide +kernel
theorem dX6_alarm_56 : decode cX6_alarm 56 = .ok (.new 212, 3) := by decide +kernel
theorem dX6_alarm_59 : decode cX6_alarm 59 = .ok (.dup, 1) := by decide +kernel
theorem dX6_alarm_60 : decode cX6_alarm 60 = .ok (.iload_n 1, 1) := by decide +kernel
theorem dX6_alarm_61 : decode cX6_alarm 61 = .ok (.iload_n 2, 1) := by decide +kernel
theorem dX6_alarm_62 : decode cX6_alarm 62 = .ok (.iload_n 3, 1) := by decide +kernel
theorem dX6_alarm_63 : decode cX6_alarm 63 = .ok (.iload 4, 2) := by decide +kernel
theorem dX6_alarm_65 : decode cX6_alarm 65 = .ok (.iload 5, 2) := by decide +kernel
theorem dX6_alarm_67 : decode cX6_alarm 67 = .ok (.invokespecial 214, 3) := by decide +kernel
theorem dX6_alarm_70 : decode cX6_alarm 70 = .ok (.invokevirtual 150, 3) := by decide +kernel
theorem dX6_alarm_73 : decode cX6_alarm 73 = .ok (.pop, 1) := by decide +kernel
theorem dX6_alarm_74 : decode cX6_alarm 74 = .ok (.aload_n 0, 1) := by decide +kernel
theorem dX6_alarm_75 : decode cX6_alarm 75 = .ok (.getfield 33, 3) := by decide +kernel
theorem dX6_alarm_78 : decode cX6_alarm 78 = .ok (.invokevirtual 142, 3) := by decide +kernel
theorem dX6_alarm_81 : decode cX6_alarm 81 = .ok (.iconst 1, 1) := by decide +kernel
theorem dX6_alarm_82 : decode cX6_alarm 82 = .ok (.isub, 1) := by decide +kernel
theorem dX6_alarm_83 : decode cX6_alarm 83 = .ok (.ireturn, 1) := by decide +kernel
set_option maxRecDepth 20000 in
theorem ggX6_stateOf_Jx4a65c_size_8abf5 : GoodIn wsX6_stateOf wsJx4a65c_size_8abf5 := goodIn_r _ [9, 10, 48, 49, 50] (by decide +kernel) (by decide +kernel)
set_option maxRecDepth 20000 in
theorem gX6_stateOf_Jx4a65c_size_8abf5 : GoodIn wsX6_stateOf (wsV RX6 142 RJx4a65c yJx4a65c_size_8abf5 wsJx4a65c_size_8abf5) := goodIn_app (goodIn_of _ (by decide +kernel)) ggX6_stateOf_Jx4a65c_size_8abf5
set_option maxRecDepth 20000 in
theorem ggX6_stateOf_Jx4a65c_get_915e3 : GoodIn wsX6_stateOf wsJx4a65c_get_915e3 := goodIn_r _ [14, 10, 15, 16, 17, 18, 19, 20, 21, 22, 23, 24, 25, 8, 26, 27, 48, 49, 50] (by decide +kernel) (by decide +kernel)
set_option maxRecDepth 20000 in
theorem gX6_stateOf_Jx4a65c_get_915e3 : GoodIn wsX6_stateOf (wsV RX6 161 RJx4a65c yJx4a65c_get_915e3 wsJx4a65c_get_915e3) := goodIn_app (goodIn_of _ (by decide +kernel)) ggX6_stateOf_Jx4a65c_get_915e3
theorem dX6_stateOf_0 : decode cX6_stateOf 0 = .ok (.iload_n 1, 1) := by decide +kernel
theorem dX6_stateOf_1 : decode cX6_stateOf 1 = .ok (.ifCond .lt 14, 3) := by decide +kernel
theorem dX6_stateOf_4 : decode cX6_stateOf 4 = .ok (.iload_n 1, 1) := by decide +kernel
theorem dX6_stateOf_5 : decode cX6_stateOf 5 = .ok (.aload_n 0, 1) := by decide +kernel
theorem dX6_stateOf_6 : decode cX6_stateOf 6 = .ok (.getfield 33, 3) := by decide +kernel
theorem dX6_stateOf_9 : decode cX6_stateOf 9 = .ok (.invokevirtual 142, 3) := by decide +kernel
theorem dX6_stateOf_12 : decode cX6_stateOf 12 = .ok (.if_icmp .lt 13, 3) := by decide +kernel
theorem dX6_stateOf_15 : decode cX6_stateOf 15 = .ok (.new 200, 3) := by decide +kernel
theorem dX6_stateOf_18 : decode cX6_stateOf 18 = .ok (.dup, 1) := by decide +kernel
theorem dX6_stateOf_19 : decode cX6_stateOf 19 = .ok (.ldc 217, 2) := by decide +kernel
theorem dX6_stateOf_21 : decode cX6_stateOf 21 = .ok (.invokespecial 204, 3) := by decide +kernel
theorem dX6_stateOf_24 : decode cX6_stateOf 24 = .ok (.athrow, 1) := by decide +kernel
theorem dX6_stateOf_25 : decode cX6_stateOf 25 = .ok (.aload_n 0, 1) := by decide +kernel
theorem dX6_stateOf_26 : decode cX6_stateOf 26 = .ok (.getfield 33, 3) := by decide +kernel
theorem dX6_stateOf_29 : decode cX6_stateOf 29 = .ok (.iload_n 1, 1) := by decide +kernel
theorem dX6_stateOf_30 : decode cX6_stateOf 30 = .ok (.invokevirtual 161, 3) := by decide +kernel
theorem dX6_stateOf_33 : decode cX6_stateOf 33 = .ok (.checkcast 212, 3) := by decide +kernel
theorem dX6_stateOf_36 : decode cX6_stateOf 36 = .ok (.getfield 219, 3) := by decide +kernel
theorem dX6_stateOf_39 : decode cX6_stateOf 39 = .ok (.ireturn, 1) := by decide +kernel
set_option maxRecDepth 20000 in
theorem ggX6_insert_X1_length : GoodIn wsX6_insert wsX1_length := goodIn_r _ [9, 10, 29, 30] (by decide +kernel) (by decide +kernel)
set_option maxRecDepth 20000 in
theorem gX6_insert_X1_length_n222 : GoodIn wsX6_insert (wsX1_length) := ggX6_insert_X1_length
set_option maxRecDepth 20000 in
theorem ggX6_insert_X1_put : GoodIn wsX6_insert wsX1_put := goodIn_r _ [13, 10, 14, 29, 30] (by decide +kernel) (by decide +kernel)
set_option maxRecDepth 20000 in
theorem gX6_insert_X1_put_n229 : GoodIn wsX6_insert (wsX1_put) := ggX6_insert_X1_put
theorem dX6_insert_0 : decode cX6_insert 0 = .ok (.iload_n 1, 1) := by decide +kernel
theorem dX6_insert_1 : decode cX6_insert 1 = .ok (.ifCond .lt 14, 3) := by decide +kernel
theorem dX6_insert_4 : decode cX6_insert 4 = .ok (.iload_n 1, 1) := by decide +kernel
theorem dX6_insert_5 : decode cX6_insert 5 = .ok (.aload_n 0, 1) := by decide +kernel
theorem dX6_insert_6 : decode cX6_insert 6 = .ok (.getfield 52, 3) := by decide +kernel
theorem dX6_insert_9 : decode cX6_insert 9 = .ok (.invokevirtual 222, 3) := by decide +kernel
theorem dX6_insert_12 : decode cX6_insert 12 = .ok (.if_icmp .le 13, 3) := by decide +kernel
theorem dX6_insert_15 : decode cX6_insert 15 = .ok (.new 84, 3) := by decide +kernel
theorem dX6_insert_18 : decode cX6_insert 18 = .ok (.dup, 1) := by decide +kernel
theorem dX6_insert_19 : decode cX6_insert 19 = .ok (.ldc 225, 2) := by decide +kernel
theorem dX6_insert_21 : decode cX6_insert 21 = .ok (.invokespecial 88, 3) := by decide +kernel
theorem dX6_insert_24 : decode cX6_insert 24 = .ok (.athrow, 1) := by decide +kernel
theorem dX6_insert_25 : decode cX6_insert 25 = .ok (.aload_n 0, 1) := by decide +kernel
theorem dX6_insert_26 : decode cX6_insert 26 = .ok (.getfield 52, 3) := by decide +kernel
theorem dX6_insert_29 : decode cX6_insert 29 = .ok (.invokevirtual 222, 3) := by decide +kernel
theorem dX6_insert_32 : decode cX6_insert 32 = .ok (.bipush 40, 2) := by decide +kernel
theorem dX6_insert_34 : decode cX6_insert 34 = .ok (.if_icmp .lt 13, 3) := by decide +kernel
theorem dX6_insert_37 : decode cX6_insert 37 = .ok (.new 95, 3) := by decide +kernel
theorem dX6_insert_40 : decode cX6_insert 40 = .ok (.dup, 1) := by decide +kernel
theorem dX6_insert_41 : decode cX6_insert 41 = .ok (.ldc 227, 2) := by decide +kernel
theorem dX6_insert_43 : decode cX6_insert 43 = .ok (.invokespecial 99, 3) := by decide +kernel
theorem dX6_insert_46 : decode cX6_insert 46 = .ok (.athrow, 1) := by decide +kernel
theorem dX6_insert_47 : decode cX6_insert 47 = .ok (.aload_n 0, 1) := by decide +kernel
theorem dX6_insert_48 : decode cX6_insert 48 = .ok (.getfield 52, 3) := by decide +kernel
theorem dX6_insert_51 : decode cX6_insert 51 = .ok (.iload_n 1, 1) := by decide +kernel
theorem dX6_insert_52 : decode cX6_insert 52 = .ok (.iload_n 2, 1) := by decide +kernel
theorem dX6_insert_53 : decode cX6_insert 53 = .ok (.invokevirtual 229, 3) := by decide +kernel
theorem dX6_insert_56 : decode cX6_insert 56 = .ok (.aload_n 0, 1) := by decide +kernel
theorem dX6_insert_57 : decode cX6_insert 57 = .ok (.getfield 52, 3) := by decide +kernel
theorem dX6_insert_60 : decode cX6_insert 60 = .ok (.invokevirtual 222, 3) := by decide +kernel
theorem dX6_insert_63 : decode cX6_insert 63 = .ok (.ireturn, 1) := by decide +kernel
set_option maxRecDepth 20000 in
theorem ggX6_clear_X1_length : GoodIn wsX6_clear wsX1_length := goodIn_r _ [5, 6, 24, 25] (by decide +kernel) (by decide +kernel)
set_option maxRecDepth 20000 in
theorem gX6_clear_X1_length_n222 : GoodIn wsX6_clear (wsX1_length) := ggX6_clear_X1_length
set_option maxRecDepth 20000 in
theorem ggX6_clear_X1_wipe : GoodIn wsX6_clear wsX1_wipe := goodIn_r _ [9, 6, 24, 25] (by decide +kernel) (by decide +kernel)
set_option maxRecDepth 20000 in
theorem gX6_clear_X1_wipe_n233 : GoodIn wsX6_clear (wsX1_wipe) := ggX6_clear_X1_wipe
theorem dX6_clear_0 : decode cX6_clear 0 = .ok (.aload_n 0, 1) := by decide +kernel
theorem dX6_clear_1 : decode cX6_clear 1 = .ok (.getfield 52, 3) := by decide +kernel
theorem dX6_clear_4 : decode cX6_clear 4 = .ok (.invokevirtual 222, 3) := by decide +kernel
theorem dX6_clear_7 : decode cX6_clear 7 = .ok (.istore_n 1, 1) := by decide +kernel
theorem dX6_clear_8 : decode cX6_clear 8 = .ok (.aload_n 0, 1) := by decide +kernel
theorem dX6_clear_9 : decode cX6_clear 9 = .ok (.getfield 52, 3) := by decide +kernel
theorem dX6_clear_12 : decode cX6_clear 12 = .ok (.invokevirtual 233, 3) := by decide +kernel
theorem dX6_clear_15 : decode cX6_clear 15 = .ok (.iload_n 1, 1) := by decide +kernel
theorem dX6_clear_16 : decode cX6_clear 16 = .ok (.ireturn, 1) := by decide +kernel
set_option maxRecDepth 20000 in
theorem ggX6_isWhole_X1_isComplete : GoodIn wsX6_isWhole wsX1_isComplete := goodIn_r _ [5, 6, 7, 8, 9, 3, 10, 11, 12, 13, 14, 15, 16, 31, 32] (by decide +kernel) (by decide +kernel)
set_option maxRecDepth 20000 in
theorem gX6_isWhole_X1_isComplete_n236 : GoodIn wsX6_isWhole (wsX1_isComplete) := ggX6_isWhole_X1_isComplete
theorem dX6_isWhole_0 : decode cX6_isWhole 0 = .ok (.aload_n 0, 1) := by decide +kernel
theorem dX6_isWhole_1 : decode cX6_isWhole 1 = .ok (.getfield 52, 3) := by decide +kernel
theorem dX6_isWhole_4 : decode cX6_isWhole 4 = .ok (.invokevirtual 236, 3) := by decide +kernel
theorem dX6_isWhole_7 : decode cX6_isWhole 7 = .ok (.ireturn, 1) := by decide +kernel
set_option maxRecDepth 20000 in
theorem ggX6_post_X6_checkPerson : GoodIn wsX6_post wsX6_checkPerson := goodIn_ca (goodIn_r _ [12, 13, 14] (by decide +kernel) (by decide +kernel)) (goodIn_sub (fun _ h => List.mem_cons_of_mem _ (List.mem_append_right _ h)) (by decide +kernel))
set_option maxRecDepth 20000 in
theorem gX6_post_X6_checkPerson : GoodIn wsX6_post (va_wsS RX6 110 yX6_checkPerson wsX6_checkPerson) := goodIn_app (goodIn_of _ (by decide +kernel)) ggX6_post_X6_checkPerson
set_option maxRecDepth 20000 in
theorem ggX6_post_X6_checkThread : GoodIn wsX6_post wsX6_checkThread := goodIn_ca (goodIn_r _ [18, 13, 14, 8, 145, 146, 147, 148, 149, 150, 151, 152, 153, 154, 155, 156, 157, 158] (by decide +kernel) (by decide +kernel)) (goodIn_sub (fun _ h => List.mem_cons_of_mem _ (List.mem_append_right _ h)) (by decide +kernel))
set_option maxRecDepth 20000 in
theorem gX6_post_X6_checkThread : GoodIn wsX6_post (wsV RX6 240 RX6 yX6_checkThread wsX6_checkThread) := goodIn_app (goodIn_of _ (by decide +kernel)) ggX6_post_X6_checkThread
set_option maxRecDepth 20000 in
theorem ggX6_post_X6_checkNotGone : GoodIn wsX6_post wsX6_checkNotGone := goodIn_ca (goodIn_r _ [22, 1, 2, 23, 145, 146, 147, 148, 149, 150, 151, 152, 153, 154, 155, 156, 157, 158] (by decide +kernel) (by decide +kernel)) (goodIn_sub (fun _ h => List.mem_cons_of_mem _ (List.mem_append_left _ (List.mem_append_right _ h))) (by decide +kernel))
set_option maxRecDepth 20000 in
theorem gX6_post_X6_checkNotGone : GoodIn wsX6_post (wsV RX6 190 RX6 yX6_checkNotGone wsX6_checkNotGone) := goodIn_app (goodIn_of _ (by decide +kernel)) ggX6_post_X6_checkNotGone
set_option maxRecDepth 20000 in
theorem ggX6_post_X1_isComplete : GoodIn wsX6_post wsX1_isComplete := goodIn_r _ [27, 28, 29, 30, 31, 25, 32, 33, 34, 35, 36, 37, 38, 160, 161] (by decide +kernel) (by decide +kernel)
set_option maxRecDepth 20000 in
theorem gX6_post_X1_isComplete_n236 : GoodIn wsX6_post (wsX1_isComplete) := ggX6_post_X1_isComplete
set_option maxRecDepth 20000 in
theorem ggX6_post_Jx4a65c_size_8abf5 : GoodIn wsX6_post wsJx4a65c_size_8abf5 := goodIn_r _ [43, 44, 162, 163, 164] (by decide +kernel) (by decide +kernel)
set_option maxRecDepth 20000 in
theorem gX6_post_Jx4a65c_size_8abf5 : GoodIn wsX6_post (wsV RX6 142 RJx4a65c yJx4a65c_size_8abf5 wsJx4a65c_size_8abf5) := goodIn_app (goodIn_of _ (by decide +kernel)) ggX6_post_Jx4a65c_size_8abf5
set_option maxRecDepth 20000 in
theorem ggX6_post_X1_toSigns : GoodIn wsX6_post wsX1_toSigns := goodIn_r _ [47, 28, 48, 29, 49, 50, 51, 25, 52, 35, 36, 37, 38, 33, 53, 54, 55, 56, 160, 161] (by decide +kernel) (by decide +kernel)
set_option maxRecDepth 20000 in
theorem gX6_post_X1_toSigns_n247 : GoodIn wsX6_post (wsX1_toSigns) := ggX6_post_X1_toSigns
set_option maxRecDepth 20000 in
theorem ggX6_post_X3_init : GoodIn wsX6_post wsX3_init := goodIn_r _ [58, 59, 60, 61, 62, 159] (by decide +kernel) (by decide +kernel)
set_option maxRecDepth 20000 in
theorem gX6_post_X3_init_n251 : GoodIn wsX6_post (wsX3_init) := ggX6_post_X3_init
set_option maxRecDepth 20000 in
theorem ggX6_post_Jx4a65c_add_9ea2d : GoodIn wsX6_post wsJx4a65c_add_9ea2d := goodIn_r _ [66, 67, 68, 69, 44, 70, 71, 72, 42, 73, 74, 75, 76, 77, 78, 79, 80, 81, 82, 83, 84, 85, 86, 87, 88, 89, 90, 91, 92, 93, 94, 95, 96, 97, 98, 99, 100, 101, 102, 103, 104, 105, 106, 107, 108, 109, 110, 111, 112, 113, 114, 115, 116, 162, 163, 164] (by decide +kernel) (by decide +kernel)
set_option maxRecDepth 20000 in
theorem gX6_post_Jx4a65c_add_9ea2d : GoodIn wsX6_post (wsV RX6 150 RJx4a65c yJx4a65c_add_9ea2d wsJx4a65c_add_9ea2d) := goodIn_app (goodIn_of _ (by decide +kernel)) ggX6_post_Jx4a65c_add_9ea2d
set_option maxRecDepth 20000 in
theorem ggX6_post_X1_wipe : GoodIn wsX6_post wsX1_wipe := goodIn_r _ [119, 28, 160, 161] (by decide +kernel) (by decide +kernel)
set_option maxRecDepth 20000 in
theorem gX6_post_X1_wipe_n233 : GoodIn wsX6_post (wsX1_wipe) := ggX6_post_X1_wipe
set_option maxRecDepth 20000 in
theorem ggX6_post_X3_personCalled : GoodIn wsX6_post wsX3_personCalled := goodIn_r _ [122, 62, 159] (by decide +kernel) (by decide +kernel)
set_option maxRecDepth 20000 in
theorem gX6_post_X3_personCalled_n254 : GoodIn wsX6_post (wsX3_personCalled) := ggX6_post_X3_personCalled
set_option maxRecDepth 20000 in
theorem ggX6_post_X6_assign : GoodIn wsX6_post wsX6_assign := goodIn_r _ [126, 127, 128, 129, 130, 131, 132, 133, 134, 135, 136, 137, 99, 138, 139, 140, 141, 142, 143, 144, 48, 110, 111, 85, 112, 113, 114, 115, 116, 145, 146, 147, 148, 149, 150, 151, 152, 153, 154, 155, 156, 157, 158, 165, 166] (by decide +kernel) (by decide +kernel)
set_option maxRecDepth 20000 in
theorem gX6_post_X6_assign : GoodIn wsX6_post (wsV RX6 257 RX6 yX6_assign wsX6_assign) := goodIn_app (goodIn_of _ (by decide +kernel)) ggX6_post_X6_assign
theorem dX6_post_0 : decode cX6_post 0 = .ok (.iload_n 1, 1) := by decide +kernel
theorem dX6_post_1 : decode cX6_post 1 = .ok (.invokestatic 110, 3) := by decide +kernel
theorem dX6_post_4 : decode cX6_post 4 = .ok (.iload_n 2, 1) := by decide +kernel
theorem dX6_post_5 : decode cX6_post 5 = .ok (.iconst (-1), 1) := by decide +kernel
theorem dX6_post_6 : decode cX6_post 6 = .ok (.if_icmp .eq 8, 3) := by decide +kernel
theorem dX6_post_9 : decode cX6_post 9 = .ok (.aload_n 0, 1) := by decide +kernel
theorem dX6_post_10 : decode cX6_post 10 = .ok (.iload_n 2, 1) := by decide +kernel
theorem dX6_post_11 : decode cX6_post 11 = .ok (.invokevirtual 240, 3) := by decide +kernel
theorem dX6_post_14 : decode cX6_post 14 = .ok (.aload_n 0, 1) := by decide +kernel
theorem dX6_post_15 : decode cX6_post 15 = .ok (.iload_n 1, 1) := by decide +kernel
theorem dX6_post_16 : decode cX6_post 16 = .ok (.invokevirtual 190, 3) := by decide +kernel
theorem dX6_post_19 : decode cX6_post 19 = .ok (.aload_n 0, 1) := by decide +kernel
theorem dX6_post_20 : decode cX6_post 20 = .ok (.getfield 52, 3) := by decide +kernel
theorem dX6_post_23 : decode cX6_post 23 = .ok (.invokevirtual 236, 3) := by decide +kernel
theorem dX6_post_26 : decode cX6_post 26 = .ok (.ifCond .eq 15, 3) := by decide +kernel
theorem dX6_post_29 : decode cX6_post 29 = .ok (.aload_n 0, 1) := by decide +kernel
theorem dX6_post_30 : decode cX6_post 30 = .ok (.getfield 36, 3) := by decide +kernel
theorem dX6_post_33 : decode cX6_post 33 = .ok (.invokevirtual 142, 3) := by decide +kernel
theorem dX6_post_36 : decode cX6_post 36 = .ok (.bipush 60, 2) := by decide +kernel
theorem dX6_post_38 : decode cX6_post 38 = .ok (.if_icmp .lt 13, 3) := by decide +kernel
theorem dX6_post_41 : decode cX6_post 41 = .ok (.new 95, 3) := by decide +kernel
theorem dX6_post_44 : decode cX6_post 44 = .ok (.dup, 1) := by decide +kernel
theorem dX6_post_45 : decode cX6_post 45 = .ok (.ldc 243, 2) := by decide +kernel
theorem dX6_post_47 : decode cX6_post 47 = .ok (.invokespecial 99, 3) := by decide +kernel
theorem dX6_post_50 : decode cX6_post 50 = .ok (.athrow, 1) := by decide +kernel
theorem dX6_post_51 : decode cX6_post 51 = .ok (.new 245, 3) := by decide +kernel
theorem dX6_post_54 : decode cX6_post 54 = .ok (.dup, 1) := by decide +kernel
theorem dX6_post_55 : decode cX6_post 55 = .ok (.aload_n 0, 1) := by decide +kernel
theorem dX6_post_56 : decode cX6_post 56 = .ok (.getfield 52, 3) := by decide +kernel
theorem dX6_post_59 : decode cX6_post 59 = .ok (.invokevirtual 247, 3) := by decide +kernel
theorem dX6_post_62 : decode cX6_post 62 = .ok (.invokespecial 251, 3) := by decide +kernel
theorem dX6_post_65 : decode cX6_post 65 = .ok (.astore_n 3, 1) := by decide +kernel
theorem dX6_post_66 : decode cX6_post 66 = .ok (.aload_n 0, 1) := by decide +kernel
theorem dX6_post_67 : decode cX6_post 67 = .ok (.getfield 36, 3) := by decide +kernel
theorem dX6_post_70 : decode cX6_post 70 = .ok (.aload_n 3, 1) := by decide +kernel
theorem dX6_post_71 : decode cX6_post 71 = .ok (.invokevirtual 150, 3) := by decide +kernel
theorem dX6_post_74 : decode cX6_post 74 = .ok (.pop, 1) := by decide +kernel
theorem dX6_post_75 : decode cX6_post 75 = .ok (.aload_n 0, 1) := by decide +kernel
theorem dX6_post_76 : decode cX6_post 76 = .ok (.getfield 52, 3) := by decide +kernel
theorem dX6_post_79 : decode cX6_post 79 = .ok (.invokevirtual 233, 3) := by decide +kernel
theorem dX6_post_82 : decode cX6_post 82 = .ok (.iload_n 2, 1) := by decide +kernel
theorem dX6_post_83 : decode cX6_post 83 = .ok (.istore 4, 2) := by decide +kernel
theorem dX6_post_85 : decode cX6_post 85 = .ok (.iload_n 2, 1) := by decide +kernel
theorem dX6_post_86 : decode cX6_post 86 = .ok (.iconst (-1), 1) := by decide +kernel
theorem dX6_post_87 : decode cX6_post 87 = .ok (.if_icmp .ne 19, 3) := by decide +kernel
theorem dX6_post_90 : decode cX6_post 90 = .ok (.aload_n 0, 1) := by decide +kernel
theorem dX6_post_91 : decode cX6_post 91 = .ok (.getfield 66, 3) := by decide +kernel
theorem dX6_post_94 : decode cX6_post 94 = .ok (.istore 4, 2) := by decide +kernel
theorem dX6_post_96 : decode cX6_post 96 = .ok (.aload_n 0, 1) := by decide +kernel
theorem dX6_post_97 : decode cX6_post 97 = .ok (.dup, 1) := by decide +kernel
theorem dX6_post_98 : decode cX6_post 98 = .ok (.getfield 66, 3) := by decide +kernel
theorem dX6_post_101 : decode cX6_post 101 = .ok (.iconst 1, 1) := by decide +kernel
theorem dX6_post_102 : decode cX6_post 102 = .ok (.iadd, 1) := by decide +kernel
theorem dX6_post_103 : decode cX6_post 103 = .ok (.putfield 66, 3) := by decide +kernel
theorem dX6_post_106 : decode cX6_post 106 = .ok (.aload_n 0, 1) := by decide +kernel
theorem dX6_post_107 : decode cX6_post 107 = .ok (.iload 4, 2) := by decide +kernel
theorem dX6_post_109 : decode cX6_post 109 = .ok (.aload_n 3, 1) := by decide +kernel
theorem dX6_post_110 : decode cX6_post 110 = .ok (.invokevirtual 254, 3) := by decide +kernel
theorem dX6_post_113 : decode cX6_post 113 = .ok (.invokevirtual 257, 3) := by decide +kernel
theorem dX6_post_116 : decode cX6_post 116 = .ok (.iload 4, 2) := by decide +kernel
theorem dX6_post_118 : decode cX6_post 118 = .ok (.ireturn, 1) := by decide +kernel
set_option maxRecDepth 20000 in
theorem ggX6_finish_X6_checkPerson : GoodIn wsX6_finish wsX6_checkPerson := goodIn_ca (goodIn_r _ [9, 10, 11] (by decide +kernel) (by decide +kernel)) (goodIn_sub (fun _ h => List.mem_cons_of_mem _ (List.mem_append_right _ h)) (by decide +kernel))
set_option maxRecDepth 20000 in
theorem gX6_finish_X6_checkPerson : GoodIn wsX6_finish (va_wsS RX6 110 yX6_checkPerson wsX6_checkPerson) := goodIn_app (goodIn_of _ (by decide +kernel)) ggX6_finish_X6_checkPerson
set_option maxRecDepth 20000 in
theorem ggX6_finish_X6_checkThread : GoodIn wsX6_finish wsX6_checkThread := goodIn_ca (goodIn_r _ [15, 10, 11, 16, 47, 48, 49, 50, 51, 52, 53, 54, 55, 56, 57, 58, 59, 60] (by decide +kernel) (by decide +kernel)) (goodIn_sub (fun _ h => List.mem_cons_of_mem _ (List.mem_append_right _ h)) (by decide +kernel))
set_option maxRecDepth 20000 in
theorem gX6_finish_X6_checkThread : GoodIn wsX6_finish (wsV RX6 240 RX6 yX6_checkThread wsX6_checkThread) := goodIn_app (goodIn_of _ (by decide +kernel)) ggX6_finish_X6_checkThread
set_option maxRecDepth 20000 in
theorem ggX6_finish_X6_checkNotGone : GoodIn wsX6_finish wsX6_checkNotGone := goodIn_ca (goodIn_r _ [20, 1, 2, 21, 47, 48, 49, 50, 51, 52, 53, 54, 55, 56, 57, 58, 59, 60] (by decide +kernel) (by decide +kernel)) (goodIn_sub (fun _ h => List.mem_cons_of_mem _ (List.mem_append_left _ (List.mem_append_right _ h))) (by decide +kernel))
set_option maxRecDepth 20000 in
theorem gX6_finish_X6_checkNotGone : GoodIn wsX6_finish (wsV RX6 190 RX6 yX6_checkNotGone wsX6_checkNotGone) := goodIn_app (goodIn_of _ (by decide +kernel)) ggX6_finish_X6_checkNotGone
set_option maxRecDepth 20000 in
theorem ggX6_finish_X2_note : GoodIn wsX6_finish wsX2_note := goodIn_r _ [25, 26, 27, 28, 29, 30, 31, 32, 33, 34, 35, 36, 37, 38, 39, 40, 41, 42, 43, 44, 45, 46, 61, 62] (by decide +kernel) (by decide +kernel)
set_option maxRecDepth 20000 in
theorem gX6_finish_X2_note_n154 : GoodIn wsX6_finish (wsX2_note) := ggX6_finish_X2_note
theorem dX6_finish_0 : decode cX6_finish 0 = .ok (.iload_n 1, 1) := by decide +kernel
theorem dX6_finish_1 : decode cX6_finish 1 = .ok (.invokestatic 110, 3) := by decide +kernel
theorem dX6_finish_4 : decode cX6_finish 4 = .ok (.aload_n 0, 1) := by decide +kernel
theorem dX6_finish_5 : decode cX6_finish 5 = .ok (.iload_n 2, 1) := by decide +kernel
theorem dX6_finish_6 : decode cX6_finish 6 = .ok (.invokevirtual 240, 3) := by decide +kernel
theorem dX6_finish_9 : decode cX6_finish 9 = .ok (.aload_n 0, 1) := by decide +kernel
theorem dX6_finish_10 : decode cX6_finish 10 = .ok (.iload_n 1, 1) := by decide +kernel
theorem dX6_finish_11 : decode cX6_finish 11 = .ok (.invokevirtual 190, 3) := by decide +kernel
theorem dX6_finish_14 : decode cX6_finish 14 = .ok (.aload_n 0, 1) := by decide +kernel
theorem dX6_finish_15 : decode cX6_finish 15 = .ok (.getfield 39, 3) := by decide +kernel
theorem dX6_finish_18 : decode cX6_finish 18 = .ok (.iload_n 2, 1) := by decide +kernel
theorem dX6_finish_19 : decode cX6_finish 19 = .ok (.iaload, 1) := by decide +kernel
theorem dX6_finish_20 : decode cX6_finish 20 = .ok (.iload_n 1, 1) := by decide +kernel
theorem dX6_finish_21 : decode cX6_finish 21 = .ok (.if_icmp .eq 14, 3) := by decide +kernel
theorem dX6_finish_24 : decode cX6_finish 24 = .ok (.new 95, 3) := by decide +kernel
theorem dX6_finish_27 : decode cX6_finish 27 = .ok (.dup, 1) := by decide +kernel
theorem dX6_finish_28 : decode cX6_finish 28 = .ok (.ldc_w 260, 3) := by decide +kernel
theorem dX6_finish_31 : decode cX6_finish 31 = .ok (.invokespecial 99, 3) := by decide +kernel
theorem dX6_finish_34 : decode cX6_finish 34 = .ok (.athrow, 1) := by decide +kernel
theorem dX6_finish_35 : decode cX6_finish 35 = .ok (.aload_n 0, 1) := by decide +kernel
theorem dX6_finish_36 : decode cX6_finish 36 = .ok (.getfield 39, 3) := by decide +kernel
theorem dX6_finish_39 : decode cX6_finish 39 = .ok (.iload_n 2, 1) := by decide +kernel
theorem dX6_finish_40 : decode cX6_finish 40 = .ok (.iconst (-1), 1) := by decide +kernel
theorem dX6_finish_41 : decode cX6_finish 41 = .ok (.iastore, 1) := by decide +kernel
theorem dX6_finish_42 : decode cX6_finish 42 = .ok (.aload_n 0, 1) := by decide +kernel
theorem dX6_finish_43 : decode cX6_finish 43 = .ok (.getfield 45, 3) := by decide +kernel
theorem dX6_finish_46 : decode cX6_finish 46 = .ok (.aload_n 0, 1) := by decide +kernel
theorem dX6_finish_47 : decode cX6_finish 47 = .ok (.getfield 56, 3) := by decide +kernel
theorem dX6_finish_50 : decode cX6_finish 50 = .ok (.bipush 6, 2) := by decide +kernel
theorem dX6_finish_52 : decode cX6_finish 52 = .ok (.iload_n 1, 1) := by decide +kernel
theorem dX6_finish_53 : decode cX6_finish 53 = .ok (.iload_n 2, 1) := by decide +kernel
theorem dX6_finish_54 : decode cX6_finish 54 = .ok (.invokevirtual 154, 3) := by decide +kernel
theorem dX6_finish_57 : decode cX6_finish 57 = .ok (.return_, 1) := by decide +kernel
set_option maxRecDepth 20000 in
theorem ggX6_taskOf_X6_checkThread : GoodIn wsX6_taskOf wsX6_checkThread := goodIn_ca (goodIn_r _ [6, 7, 8, 9, 10, 11, 12, 13, 14, 15, 16, 17, 18, 19, 20, 21, 22, 23] (by decide +kernel) (by decide +kernel)) (goodIn_sub (fun _ h => List.mem_cons_of_mem _ (List.mem_append_right _ h)) (by decide +kernel))
set_option maxRecDepth 20000 in
theorem gX6_taskOf_X6_checkThread : GoodIn wsX6_taskOf (wsV RX6 240 RX6 yX6_checkThread wsX6_checkThread) := goodIn_app (goodIn_of _ (by decide +kernel)) ggX6_taskOf_X6_checkThread
theorem dX6_taskOf_0 : decode cX6_taskOf 0 = .ok (.aload_n 0, 1) := by decide +kernel
theorem dX6_taskOf_1 : decode cX6_taskOf 1 = .ok (.iload_n 1, 1) := by decide +kernel
theorem dX6_taskOf_2 : decode cX6_taskOf 2 = .ok (.invokevirtual 240, 3) := by decide +kernel
theorem dX6_taskOf_5 : decode cX6_taskOf 5 = .ok (.aload_n 0, 1) := by decide +kernel
theorem dX6_taskOf_6 : decode cX6_taskOf 6 = .ok (.getfield 39, 3) := by decide +kernel
theorem dX6_taskOf_9 : decode cX6_taskOf 9 = .ok (.iload_n 1, 1) := by decide +kernel
theorem dX6_taskOf_10 : decode cX6_taskOf 10 = .ok (.iaload, 1) := by decide +kernel
theorem dX6_taskOf_11 : decode cX6_taskOf 11 = .ok (.ireturn, 1) := by decide +kernel
set_option maxRecDepth 20000 in
theorem ggX6_messages_Jx4a65c_size_8abf5 : GoodIn wsX6_messages wsJx4a65c_size_8abf5 := goodIn_r _ [6, 7, 22, 23, 24] (by decide +kernel) (by decide +kernel)
set_option maxRecDepth 20000 in
theorem gX6_messages_Jx4a65c_size_8abf5 : GoodIn wsX6_messages (wsV RX6 142 RJx4a65c yJx4a65c_size_8abf5 wsJx4a65c_size_8abf5) := goodIn_app (goodIn_of _ (by decide +kernel)) ggX6_messages_Jx4a65c_size_8abf5
theorem dX6_messages_0 : decode cX6_messages 0 = .ok (.aload_n 0, 1) := by decide +kernel
theorem dX6_messages_1 : decode cX6_messages 1 = .ok (.getfield 36, 3) := by decide +kernel
theorem dX6_messages_4 : decode cX6_messages 4 = .ok (.invokevirtual 142, 3) := by decide +kernel
theorem dX6_messages_7 : decode cX6_messages 7 = .ok (.ireturn, 1) := by decide +kernel
set_option maxRecDepth 20000 in
theorem ggX6_signs_X6_checkMessage : GoodIn wsX6_signs wsX6_checkMessage := goodIn_ca (goodIn_r _ [7, 8, 9, 1, 10, 11, 12, 13, 14, 15, 38, 39, 40, 41, 42, 43, 44, 45, 46, 47, 48, 49, 50, 51, 52, 53, 54] (by decide +kernel) (by decide +kernel)) (goodIn_sub (fun _ h => List.mem_cons_of_mem _ (List.mem_append_right _ h)) (by decide +kernel))
set_option maxRecDepth 20000 in
theorem gX6_signs_X6_checkMessage : GoodIn wsX6_signs (wsV RX6 262 RX6 yX6_checkMessage wsX6_checkMessage) := goodIn_app (goodIn_of _ (by decide +kernel)) ggX6_signs_X6_checkMessage
set_option maxRecDepth 20000 in
theorem ggX6_signs_Jx4a65c_get_915e3 : GoodIn wsX6_signs wsJx4a65c_get_915e3 := goodIn_r _ [19, 15, 20, 21, 22, 23, 24, 25, 26, 27, 28, 29, 30, 13, 31, 32, 52, 53, 54] (by decide +kernel) (by decide +kernel)
set_option maxRecDepth 20000 in
theorem gX6_signs_Jx4a65c_get_915e3 : GoodIn wsX6_signs (wsV RX6 161 RJx4a65c yJx4a65c_get_915e3 wsJx4a65c_get_915e3) := goodIn_app (goodIn_of _ (by decide +kernel)) ggX6_signs_Jx4a65c_get_915e3
set_option maxRecDepth 20000 in
theorem ggX6_signs_X3_length : GoodIn wsX6_signs wsX3_length := goodIn_r _ [36, 37, 55] (by decide +kernel) (by decide +kernel)
set_option maxRecDepth 20000 in
theorem gX6_signs_X3_length_n265 : GoodIn wsX6_signs (wsX3_length) := ggX6_signs_X3_length
theorem dX6_signs_0 : decode cX6_signs 0 = .ok (.aload_n 0, 1) := by decide +kernel
theorem dX6_signs_1 : decode cX6_signs 1 = .ok (.iload_n 1, 1) := by decide +kernel
theorem dX6_signs_2 : decode cX6_signs 2 = .ok (.invokevirtual 262, 3) := by decide +kernel
theorem dX6_signs_5 : decode cX6_signs 5 = .ok (.aload_n 0, 1) := by decide +kernel
theorem dX6_signs_6 : decode cX6_signs 6 = .ok (.getfield 36, 3) := by decide +kernel
theorem dX6_signs_9 : decode cX6_signs 9 = .ok (.iload_n 1, 1) := by decide +kernel
theorem dX6_signs_10 : decode cX6_signs 10 = .ok (.invokevirtual 161, 3) := by decide +kernel
theorem dX6_signs_13 : decode cX6_signs 13 = .ok (.checkcast 245, 3) := by decide +kernel
theorem dX6_signs_16 : decode cX6_signs 16 = .ok (.invokevirtual 265, 3) := by decide +kernel
theorem dX6_signs_19 : decode cX6_signs 19 = .ok (.ireturn, 1) := by decide +kernel
set_option maxRecDepth 20000 in
theorem ggX6_signAt_X6_checkMessage : GoodIn wsX6_signAt wsX6_checkMessage := goodIn_ca (goodIn_r _ [7, 8, 9, 1, 10, 11, 12, 13, 14, 15, 41, 42, 43, 44, 45, 46, 47, 48, 49, 50, 51, 52, 53, 54, 55, 56, 57] (by decide +kernel) (by decide +kernel)) (goodIn_sub (fun _ h => List.mem_cons_of_mem _ (List.mem_append_right _ h)) (by decide +kernel))
set_option maxRecDepth 20000 in
theorem gX6_signAt_X6_checkMessage : GoodIn wsX6_signAt (wsV RX6 262 RX6 yX6_checkMessage wsX6_checkMessage) := goodIn_app (goodIn_of _ (by decide +kernel)) ggX6_signAt_X6_checkMessage
set_option maxRecDepth 20000 in
theorem ggX6_signAt_X6_checkPlace : GoodIn wsX6_signAt wsX6_checkPlace := goodIn_ca (goodIn_r _ [18, 8, 9] (by decide +kernel) (by decide +kernel)) (goodIn_sub (fun _ h => List.mem_cons_of_mem _ (List.mem_append_right _ h)) (by decide +kernel))
set_option maxRecDepth 20000 in
theorem gX6_signAt_X6_checkPlace : GoodIn wsX6_signAt (va_wsS RX6 266 yX6_checkPlace wsX6_checkPlace) := goodIn_app (goodIn_of _ (by decide +kernel)) ggX6_signAt_X6_checkPlace
set_option maxRecDepth 20000 in
theorem ggX6_signAt_Jx4a65c_get_915e3 : GoodIn wsX6_signAt wsJx4a65c_get_915e3 := goodIn_r _ [22, 15, 23, 24, 25, 26, 27, 28, 29, 30, 31, 32, 33, 13, 34, 35, 55, 56, 57] (by decide +kernel) (by decide +kernel)
set_option maxRecDepth 20000 in
theorem gX6_signAt_Jx4a65c_get_915e3 : GoodIn wsX6_signAt (wsV RX6 161 RJx4a65c yJx4a65c_get_915e3 wsJx4a65c_get_915e3) := goodIn_app (goodIn_of _ (by decide +kernel)) ggX6_signAt_Jx4a65c_get_915e3
set_option maxRecDepth 20000 in
theorem ggX6_signAt_X3_get : GoodIn wsX6_signAt wsX3_get := goodIn_r _ [39, 40, 58] (by decide +kernel) (by decide +kernel)
set_option maxRecDepth 20000 in
theorem gX6_signAt_X3_get_n269 : GoodIn wsX6_signAt (wsX3_get) := ggX6_signAt_X3_get
theorem dX6_signAt_0 : decode cX6_signAt 0 = .ok (.aload_n 0, 1) := by decide +kernel
theorem dX6_signAt_1 : decode cX6_signAt 1 = .ok (.iload_n 1, 1) := by decide +kernel
theorem dX6_signAt_2 : decode cX6_signAt 2 = .ok (.invokevirtual 262, 3) := by decide +kernel
theorem dX6_signAt_5 : decode cX6_signAt 5 = .ok (.iload_n 2, 1) := by decide +kernel
theorem dX6_signAt_6 : decode cX6_signAt 6 = .ok (.invokestatic 266, 3) := by decide +kernel
theorem dX6_signAt_9 : decode cX6_signAt 9 = .ok (.aload_n 0, 1) := by decide +kernel
theorem dX6_signAt_10 : decode cX6_signAt 10 = .ok (.getfield 36, 3) := by decide +kernel
theorem dX6_signAt_13 : decode cX6_signAt 13 = .ok (.iload_n 1, 1) := by decide +kernel
theorem dX6_signAt_14 : decode cX6_signAt 14 = .ok (.invokevirtual 161, 3) := by decide +kernel
theorem dX6_signAt_17 : decode cX6_signAt 17 = .ok (.checkcast 245, 3) := by decide +kernel
theorem dX6_signAt_20 : decode cX6_signAt 20 = .ok (.iload_n 2, 1) := by decide +kernel
theorem dX6_signAt_21 : decode cX6_signAt 21 = .ok (.invokevirtual 269, 3) := by decide +kernel
theorem dX6_signAt_24 : decode cX6_signAt 24 = .ok (.ireturn, 1) := by decide +kernel
set_option maxRecDepth 20000 in
theorem ggX6_signBack_X6_checkMessage : GoodIn wsX6_signBack wsX6_checkMessage := goodIn_ca (goodIn_r _ [7, 8, 9, 1, 10, 11, 12, 13, 14, 15, 44, 45, 46, 47, 48, 49, 50, 51, 52, 53, 54, 55, 56, 57, 58, 59, 60] (by decide +kernel) (by decide +kernel)) (goodIn_sub (fun _ h => List.mem_cons_of_mem _ (List.mem_append_right _ h)) (by decide +kernel))
set_option maxRecDepth 20000 in
theorem gX6_signBack_X6_checkMessage : GoodIn wsX6_signBack (wsV RX6 262 RX6 yX6_checkMessage wsX6_checkMessage) := goodIn_app (goodIn_of _ (by decide +kernel)) ggX6_signBack_X6_checkMessage
set_option maxRecDepth 20000 in
theorem ggX6_signBack_X6_checkPlace : GoodIn wsX6_signBack wsX6_checkPlace := goodIn_ca (goodIn_r _ [18, 8, 9] (by decide +kernel) (by decide +kernel)) (goodIn_sub (fun _ h => List.mem_cons_of_mem _ (List.mem_append_right _ h)) (by decide +kernel))
set_option maxRecDepth 20000 in
theorem gX6_signBack_X6_checkPlace : GoodIn wsX6_signBack (va_wsS RX6 266 yX6_checkPlace wsX6_checkPlace) := goodIn_app (goodIn_of _ (by decide +kernel)) ggX6_signBack_X6_checkPlace
set_option maxRecDepth 20000 in
theorem ggX6_signBack_Jx4a65c_get_915e3 : GoodIn wsX6_signBack wsJx4a65c_get_915e3 := goodIn_r _ [22, 15, 23, 24, 25, 26, 27, 28, 29, 30, 31, 32, 33, 13, 34, 35, 58, 59, 60] (by decide +kernel) (by decide +kernel)
set_option maxRecDepth 20000 in
theorem gX6_signBack_Jx4a65c_get_915e3 : GoodIn wsX6_signBack (wsV RX6 161 RJx4a65c yJx4a65c_get_915e3 wsJx4a65c_get_915e3) := goodIn_app (goodIn_of _ (by decide +kernel)) ggX6_signBack_Jx4a65c_get_915e3
set_option maxRecDepth 20000 in
theorem ggX6_signBack_X3_length : GoodIn wsX6_signBack wsX3_length := goodIn_r _ [39, 40, 61] (by decide +kernel) (by decide +kernel)
set_option maxRecDepth 20000 in
theorem gX6_signBack_X3_length_n265 : GoodIn wsX6_signBack (wsX3_length) := ggX6_signBack_X3_length
set_option maxRecDepth 20000 in
theorem ggX6_signBack_X3_get : GoodIn wsX6_signBack wsX3_get := goodIn_r _ [43, 40, 61] (by decide +kernel) (by decide +kernel)
set_option maxRecDepth 20000 in
theorem gX6_signBack_X3_get_n269 : GoodIn wsX6_signBack (wsX3_get) := ggX6_signBack_X3_get
theorem dX6_signBack_0 : decode cX6_signBack 0 = .ok (.aload_n 0, 1) := by decide +kernel
theorem dX6_signBack_1 : decode cX6_signBack 1 = .ok (.iload_n 1, 1) := by decide +kernel
theorem dX6_signBack_2 : decode cX6_signBack 2 = .ok (.invokevirtual 262, 3) := by decide +kernel
theorem dX6_signBack_5 : decode cX6_signBack 5 = .ok (.iload_n 2, 1) := by decide +kernel
theorem dX6_signBack_6 : decode cX6_signBack 6 = .ok (.invokestatic 266, 3) := by decide +kernel
theorem dX6_signBack_9 : decode cX6_signBack 9 = .ok (.aload_n 0, 1) := by decide +kernel
theorem dX6_signBack_10 : decode cX6_signBack 10 = .ok (.getfield 36, 3) := by decide +kernel
theorem dX6_signBack_13 : decode cX6_signBack 13 = .ok (.iload_n 1, 1) := by decide +kernel
theorem dX6_signBack_14 : decode cX6_signBack 14 = .ok (.invokevirtual 161, 3) := by decide +kernel
theorem dX6_signBack_17 : decode cX6_signBack 17 = .ok (.checkcast 245, 3) := by decide +kernel
theorem dX6_signBack_20 : decode cX6_signBack 20 = .ok (.astore_n 3, 1) := by decide +kernel
theorem dX6_signBack_21 : decode cX6_signBack 21 = .ok (.aload_n 3, 1) := by decide +kernel
theorem dX6_signBack_22 : decode cX6_signBack 22 = .ok (.aload_n 3, 1) := by decide +kernel
theorem dX6_signBack_23 : decode cX6_signBack 23 = .ok (.invokevirtual 265, 3) := by decide +kernel
theorem dX6_signBack_26 : decode cX6_signBack 26 = .ok (.iconst 1, 1) := by decide +kernel
theorem dX6_signBack_27 : decode cX6_signBack 27 = .ok (.isub, 1) := by decide +kernel
theorem dX6_signBack_28 : decode cX6_signBack 28 = .ok (.iload_n 2, 1) := by decide +kernel
theorem dX6_signBack_29 : decode cX6_signBack 29 = .ok (.isub, 1) := by decide +kernel
theorem dX6_signBack_30 : decode cX6_signBack 30 = .ok (.invokevirtual 269, 3) := by decide +kernel
theorem dX6_signBack_33 : decode cX6_signBack 33 = .ok (.ireturn, 1) := by decide +kernel
theorem dX6_checkPerson_0 : decode cX6_checkPerson 0 = .ok (.iload_n 0, 1) := by decide +kernel
theorem dX6_checkPerson_1 : decode cX6_checkPerson 1 = .ok (.ifCond .lt 9, 3) := by decide +kernel
theorem dX6_checkPerson_4 : decode cX6_checkPerson 4 = .ok (.iload_n 0, 1) := by decide +kernel
theorem dX6_checkPerson_5 : decode cX6_checkPerson 5 = .ok (.bipush 9, 2) := by decide +kernel
theorem dX6_checkPerson_7 : decode cX6_checkPerson 7 = .ok (.if_icmp .lt 14, 3) := by decide +kernel
theorem dX6_checkPerson_10 : decode cX6_checkPerson 10 = .ok (.new 200, 3) := by decide +kernel
theorem dX6_checkPerson_13 : decode cX6_checkPerson 13 = .ok (.dup, 1) := by decide +kernel
theorem dX6_checkPerson_14 : decode cX6_checkPerson 14 = .ok (.ldc_w 271, 3) := by decide +kernel
theorem dX6_checkPerson_17 : decode cX6_checkPerson 17 = .ok (.invokespecial 204, 3) := by decide +kernel
theorem dX6_checkPerson_20 : decode cX6_checkPerson 20 = .ok (.athrow, 1) := by decide +kernel
theorem dX6_checkPerson_21 : decode cX6_checkPerson 21 = .ok (.return_, 1) := by decide +kernel
theorem dX6_checkValve_0 : decode cX6_checkValve 0 = .ok (.iload_n 0, 1) := by decide +kernel
theorem dX6_checkValve_1 : decode cX6_checkValve 1 = .ok (.ifCond .lt 9, 3) := by decide +kernel
theorem dX6_checkValve_4 : decode cX6_checkValve 4 = .ok (.iload_n 0, 1) := by decide +kernel
theorem dX6_checkValve_5 : decode cX6_checkValve 5 = .ok (.bipush 8, 2) := by decide +kernel
theorem dX6_checkValve_7 : decode cX6_checkValve 7 = .ok (.if_icmp .lt 14, 3) := by decide +kernel
theorem dX6_checkValve_10 : decode cX6_checkValve 10 = .ok (.new 200, 3) := by decide +kernel
theorem dX6_checkValve_13 : decode cX6_checkValve 13 = .ok (.dup, 1) := by decide +kernel
theorem dX6_checkValve_14 : decode cX6_checkValve 14 = .ok (.ldc_w 273, 3) := by decide +kernel
theorem dX6_checkValve_17 : decode cX6_checkValve 17 = .ok (.invokespecial 204, 3) := by decide +kernel
theorem dX6_checkValve_20 : decode cX6_checkValve 20 = .ok (.athrow, 1) := by decide +kernel
theorem dX6_checkValve_21 : decode cX6_checkValve 21 = .ok (.return_, 1) := by decide +kernel
set_option maxRecDepth 20000 in
theorem ggX6_checkVessel_X6_isVessel : GoodIn wsX6_checkVessel wsX6_isVessel := goodIn_r _ [6] (by decide +kernel) (by decide +kernel)
set_option maxRecDepth 20000 in
theorem gX6_checkVessel_X6_isVessel : GoodIn wsX6_checkVessel (va_wsS RX6 275 yX6_isVessel wsX6_isVessel) := goodIn_app (goodIn_of _ (by decide +kernel)) ggX6_checkVessel_X6_isVessel
theorem dX6_checkVessel_0 : decode cX6_checkVessel 0 = .ok (.iload_n 0, 1) := by decide +kernel
theorem dX6_checkVessel_1 : decode cX6_checkVessel 1 = .ok (.invokestatic 275, 3) := by decide +kernel
theorem dX6_checkVessel_4 : decode cX6_checkVessel 4 = .ok (.ifCond .ne 14, 3) := by decide +kernel
theorem dX6_checkVessel_7 : decode cX6_checkVessel 7 = .ok (.new 200, 3) := by decide +kernel
theorem dX6_checkVessel_10 : decode cX6_checkVessel 10 = .ok (.dup, 1) := by decide +kernel
theorem dX6_checkVessel_11 : decode cX6_checkVessel 11 = .ok (.ldc_w 278, 3) := by decide +kernel
theorem dX6_checkVessel_14 : decode cX6_checkVessel 14 = .ok (.invokespecial 204, 3) := by decide +kernel
theorem dX6_checkVessel_17 : decode cX6_checkVessel 17 = .ok (.athrow, 1) := by decide +kernel
theorem dX6_checkVessel_18 : decode cX6_checkVessel 18 = .ok (.return_, 1) := by decide +kernel
set_option maxRecDepth 20000 in
theorem ggX6_checkTag_Jx4a65c_size_8abf5 : GoodIn wsX6_checkTag wsJx4a65c_size_8abf5 := goodIn_r _ [8, 9, 24, 25, 26] (by decide +kernel) (by decide +kernel)
set_option maxRecDepth 20000 in
theorem gX6_checkTag_Jx4a65c_size_8abf5 : GoodIn wsX6_checkTag (wsV RX6 142 RJx4a65c yJx4a65c_size_8abf5 wsJx4a65c_size_8abf5) := goodIn_app (goodIn_of _ (by decide +kernel)) ggX6_checkTag_Jx4a65c_size_8abf5
theorem dX6_checkTag_0 : decode cX6_checkTag 0 = .ok (.iload_n 1, 1) := by decide +kernel
theorem dX6_checkTag_1 : decode cX6_checkTag 1 = .ok (.ifCond .lt 14, 3) := by decide +kernel
theorem dX6_checkTag_4 : decode cX6_checkTag 4 = .ok (.iload_n 1, 1) := by decide +kernel
theorem dX6_checkTag_5 : decode cX6_checkTag 5 = .ok (.aload_n 0, 1) := by decide +kernel
theorem dX6_checkTag_6 : decode cX6_checkTag 6 = .ok (.getfield 29, 3) := by decide +kernel
theorem dX6_checkTag_9 : decode cX6_checkTag 9 = .ok (.invokevirtual 142, 3) := by decide +kernel
theorem dX6_checkTag_12 : decode cX6_checkTag 12 = .ok (.if_icmp .lt 14, 3) := by decide +kernel
theorem dX6_checkTag_15 : decode cX6_checkTag 15 = .ok (.new 200, 3) := by decide +kernel
theorem dX6_checkTag_18 : decode cX6_checkTag 18 = .ok (.dup, 1) := by decide +kernel
theorem dX6_checkTag_19 : decode cX6_checkTag 19 = .ok (.ldc_w 280, 3) := by decide +kernel
theorem dX6_checkTag_22 : decode cX6_checkTag 22 = .ok (.invokespecial 204, 3) := by decide +kernel
theorem dX6_checkTag_25 : decode cX6_checkTag 25 = .ok (.athrow, 1) := by decide +kernel
theorem dX6_checkTag_26 : decode cX6_checkTag 26 = .ok (.return_, 1) := by decide +kernel
theorem dX6_checkThread_0 : decode cX6_checkThread 0 = .ok (.iload_n 1, 1) := by decide +kernel
theorem dX6_checkThread_1 : decode cX6_checkThread 1 = .ok (.ifCond .lt 11, 3) := by decide +kernel
theorem dX6_checkThread_4 : decode cX6_checkThread 4 = .ok (.iload_n 1, 1) := by decide +kernel
theorem dX6_checkThread_5 : decode cX6_checkThread 5 = .ok (.aload_n 0, 1) := by decide +kernel
theorem dX6_checkThread_6 : decode cX6_checkThread 6 = .ok (.getfield 66, 3) := by decide +kernel
theorem dX6_checkThread_9 : decode cX6_checkThread 9 = .ok (.if_icmp .lt 14, 3) := by decide +kernel
theorem dX6_checkThread_12 : decode cX6_checkThread 12 = .ok (.new 200, 3) := by decide +kernel
theorem dX6_checkThread_15 : decode cX6_checkThread 15 = .ok (.dup, 1) := by decide +kernel
theorem dX6_checkThread_16 : decode cX6_checkThread 16 = .ok (.ldc_w 282, 3) := by decide +kernel
theorem dX6_checkThread_19 : decode cX6_checkThread 19 = .ok (.invokespecial 204, 3) := by decide +kernel
theorem dX6_checkThread_22 : decode cX6_checkThread 22 = .ok (.athrow, 1) := by decide +kernel
theorem dX6_checkThread_23 : decode cX6_checkThread 23 = .ok (.return_, 1) := by decide +kernel
set_option maxRecDepth 20000 in
theorem ggX6_checkMessage_Jx4a65c_size_8abf5 : GoodIn wsX6_checkMessage wsJx4a65c_size_8abf5 := goodIn_r _ [8, 9, 24, 25, 26] (by decide +kernel) (by decide +kernel)
set_option maxRecDepth 20000 in
theorem gX6_checkMessage_Jx4a65c_size_8abf5 : GoodIn wsX6_checkMessage (wsV RX6 142 RJx4a65c yJx4a65c_size_8abf5 wsJx4a65c_size_8abf5) := goodIn_app (goodIn_of _ (by decide +kernel)) ggX6_checkMessage_Jx4a65c_size_8abf5
theorem dX6_checkMessage_0 : decode cX6_checkMessage 0 = .ok (.iload_n 1, 1) := by decide +kernel
theorem dX6_checkMessage_1 : decode cX6_checkMessage 1 = .ok (.ifCond .lt 14, 3) := by decide +kernel
theorem dX6_checkMessage_4 : decode cX6_checkMessage 4 = .ok (.iload_n 1, 1) := by decide +kernel
theorem dX6_checkMessage_5 : decode cX6_checkMessage 5 = .ok (.aload_n 0, 1) := by decide +kernel
theorem dX6_checkMessage_6 : decode cX6_checkMessage 6 = .ok (.getfield 36, 3) := by decide +kernel
theorem dX6_checkMessage_9 : decode cX6_checkMessage 9 = .ok (.invokevirtual 142, 3) := by decide +kernel
theorem dX6_checkMessage_12 : decode cX6_checkMessage 12 = .ok (.if_icmp .lt 14, 3) := by decide +kernel
theorem dX6_checkMessage_15 : decode cX6_checkMessage 15 = .ok (.new 200, 3) := by decide +kernel
theorem dX6_checkMessage_18 : decode cX6_checkMessage 18 = .ok (.dup, 1) := by decide +kernel
theorem dX6_checkMessage_19 : decode cX6_checkMessage 19 = .ok (.ldc_w 284, 3) := by decide +kernel
theorem dX6_checkMessage_22 : decode cX6_checkMessage 22 = .ok (.invokespecial 204, 3) := by decide +kernel
theorem dX6_checkMessage_25 : decode cX6_checkMessage 25 = .ok (.athrow, 1) := by decide +kernel
theorem dX6_checkMessage_26 : decode cX6_checkMessage 26 = .ok (.return_, 1) := by decide +kernel
theorem dX6_checkPlace_0 : decode cX6_checkPlace 0 = .ok (.iload_n 0, 1) := by decide +kernel
theorem dX6_checkPlace_1 : decode cX6_checkPlace 1 = .ok (.ifCond .ge 14, 3) := by decide +kernel
theorem dX6_checkPlace_4 : decode cX6_checkPlace 4 = .ok (.new 200, 3) := by decide +kernel
theorem dX6_checkPlace_7 : decode cX6_checkPlace 7 = .ok (.dup, 1) := by decide +kernel
theorem dX6_checkPlace_8 : decode cX6_checkPlace 8 = .ok (.ldc_w 286, 3) := by decide +kernel
theorem dX6_checkPlace_11 : decode cX6_checkPlace 11 = .ok (.invokespecial 204, 3) := by decide +kernel
theorem dX6_checkPlace_14 : decode cX6_checkPlace 14 = .ok (.athrow, 1) := by decide +kernel
theorem dX6_checkPlace_15 : decode cX6_checkPlace 15 = .ok (.return_, 1) := by decide +kernel
theorem dX6_checkNotGone_0 : decode cX6_checkNotGone 0 = .ok (.aload_n 0, 1) := by decide +kernel
theorem dX6_checkNotGone_1 : decode cX6_checkNotGone 1 = .ok (.getfield 19, 3) := by decide +kernel
theorem dX6_checkNotGone_4 : decode cX6_checkNotGone 4 = .ok (.iload_n 1, 1) := by decide +kernel
theorem dX6_checkNotGone_5 : decode cX6_checkNotGone 5 = .ok (.baload, 1) := by decide +kernel
theorem dX6_checkNotGone_6 : decode cX6_checkNotGone 6 = .ok (.ifCond .eq 14, 3) := by decide +kernel
theorem dX6_checkNotGone_9 : decode cX6_checkNotGone 9 = .ok (.new 95, 3) := by decide +kernel
theorem dX6_checkNotGone_12 : decode cX6_checkNotGone 12 = .ok (.dup, 1) := by decide +kernel
theorem dX6_checkNotGone_13 : decode cX6_checkNotGone 13 = .ok (.ldc_w 288, 3) := by decide +kernel
theorem dX6_checkNotGone_16 : decode cX6_checkNotGone 16 = .ok (.invokespecial 99, 3) := by decide +kernel
theorem dX6_checkNotGone_19 : decode cX6_checkNotGone 19 = .ok (.athrow, 1) := by decide +kernel
theorem dX6_checkNotGone_20 : decode cX6_checkNotGone 20 = .ok (.return_, 1) := by decide +kernel
theorem dX6_isVessel_0 : decode cX6_isVessel 0 = .ok (.iload_n 0, 1) := by decide +kernel
theorem dX6_isVessel_1 : decode cX6_isVessel 1 = .ok (.ifCond .lt 12, 3) := by decide +kernel
theorem dX6_isVessel_4 : decode cX6_isVessel 4 = .ok (.iload_n 0, 1) := by decide +kernel
theorem dX6_isVessel_5 : decode cX6_isVessel 5 = .ok (.iconst 3, 1) := by decide +kernel
theorem dX6_isVessel_6 : decode cX6_isVessel 6 = .ok (.if_icmp .ge 7, 3) := by decide +kernel
theorem dX6_isVessel_9 : decode cX6_isVessel 9 = .ok (.iconst 1, 1) := by decide +kernel
theorem dX6_isVessel_10 : decode cX6_isVessel 10 = .ok (.goto 4, 3) := by decide +kernel
theorem dX6_isVessel_13 : decode cX6_isVessel 13 = .ok (.iconst 0, 1) := by decide +kernel
theorem dX6_isVessel_14 : decode cX6_isVessel 14 = .ok (.ireturn, 1) := by decide +kernel
set_option maxRecDepth 20000 in
theorem ggX6_isEnd_X6_isVessel : GoodIn wsX6_isEnd wsX6_isVessel := goodIn_r _ [4] (by decide +kernel) (by decide +kernel)
set_option maxRecDepth 20000 in
theorem gX6_isEnd_X6_isVessel : GoodIn wsX6_isEnd (va_wsS RX6 275 yX6_isVessel wsX6_isVessel) := goodIn_app (goodIn_of _ (by decide +kernel)) ggX6_isEnd_X6_isVessel
theorem dX6_isEnd_0 : decode cX6_isEnd 0 = .ok (.iload_n 0, 1) := by decide +kernel
theorem dX6_isEnd_1 : decode cX6_isEnd 1 = .ok (.iconst (-1), 1) := by decide +kernel
theorem dX6_isEnd_2 : decode cX6_isEnd 2 = .ok (.if_icmp .eq 10, 3) := by decide +kernel
theorem dX6_isEnd_5 : decode cX6_isEnd 5 = .ok (.iload_n 0, 1) := by decide +kernel
theorem dX6_isEnd_6 : decode cX6_isEnd 6 = .ok (.invokestatic 275, 3) := by decide +kernel
theorem dX6_isEnd_9 : decode cX6_isEnd 9 = .ok (.ifCond .eq 7, 3) := by decide +kernel
theorem dX6_isEnd_12 : decode cX6_isEnd 12 = .ok (.iconst 1, 1) := by decide +kernel
theorem dX6_isEnd_13 : decode cX6_isEnd 13 = .ok (.goto 4, 3) := by decide +kernel
theorem dX6_isEnd_16 : decode cX6_isEnd 16 = .ok (.iconst 0, 1) := by decide +kernel
theorem dX6_isEnd_17 : decode cX6_isEnd 17 = .ok (.ireturn, 1) := by decide +kernel
theorem dX6_isOnDuty_0 : decode cX6_isOnDuty 0 = .ok (.aload_n 0, 1) := by decide +kernel
theorem dX6_isOnDuty_1 : decode cX6_isOnDuty 1 = .ok (.getfield 19, 3) := by decide +kernel
theorem dX6_isOnDuty_4 : decode cX6_isOnDuty 4 = .ok (.iload_n 1, 1) := by decide +kernel
theorem dX6_isOnDuty_5 : decode cX6_isOnDuty 5 = .ok (.baload, 1) := by decide +kernel
theorem dX6_isOnDuty_6 : decode cX6_isOnDuty 6 = .ok (.ifCond .ne 22, 3) := by decide +kernel
theorem dX6_isOnDuty_9 : decode cX6_isOnDuty 9 = .ok (.iload_n 1, 1) := by decide +kernel
theorem dX6_isOnDuty_10 : decode cX6_isOnDuty 10 = .ok (.iconst 3, 1) := by decide +kernel
theorem dX6_isOnDuty_11 : decode cX6_isOnDuty 11 = .ok (.irem, 1) := by decide +kernel
theorem dX6_isOnDuty_12 : decode cX6_isOnDuty 12 = .ok (.aload_n 0, 1) := by decide +kernel
theorem dX6_isOnDuty_13 : decode cX6_isOnDuty 13 = .ok (.getfield 56, 3) := by decide +kernel
theorem dX6_isOnDuty_16 : decode cX6_isOnDuty 16 = .ok (.bipush 8, 2) := by decide +kernel
theorem dX6_isOnDuty_18 : decode cX6_isOnDuty 18 = .ok (.idiv, 1) := by decide +kernel
theorem dX6_isOnDuty_19 : decode cX6_isOnDuty 19 = .ok (.iconst 3, 1) := by decide +kernel
theorem dX6_isOnDuty_20 : decode cX6_isOnDuty 20 = .ok (.irem, 1) := by decide +kernel
theorem dX6_isOnDuty_21 : decode cX6_isOnDuty 21 = .ok (.if_icmp .ne 7, 3) := by decide +kernel
theorem dX6_isOnDuty_24 : decode cX6_isOnDuty 24 = .ok (.iconst 1, 1) := by decide +kernel
theorem dX6_isOnDuty_25 : decode cX6_isOnDuty 25 = .ok (.goto 4, 3) := by decide +kernel
theorem dX6_isOnDuty_28 : decode cX6_isOnDuty 28 = .ok (.iconst 0, 1) := by decide +kernel
theorem dX6_isOnDuty_29 : decode cX6_isOnDuty 29 = .ok (.ireturn, 1) := by decide +kernel
set_option maxRecDepth 20000 in
theorem ggX6_isAble_X6_isOnDuty : GoodIn wsX6_isAble wsX6_isOnDuty := goodIn_r _ [7, 8, 9, 10, 11, 12, 13, 14, 15, 16, 17, 18, 19, 20, 21, 22, 23] (by decide +kernel) (by decide +kernel)
set_option maxRecDepth 20000 in
theorem gX6_isAble_X6_isOnDuty : GoodIn wsX6_isAble (wsV RX6 290 RX6 yX6_isOnDuty wsX6_isOnDuty) := goodIn_app (goodIn_of _ (by decide +kernel)) ggX6_isAble_X6_isOnDuty
theorem dX6_isAble_0 : decode cX6_isAble 0 = .ok (.aload_n 0, 1) := by decide +kernel
theorem dX6_isAble_1 : decode cX6_isAble 1 = .ok (.iload_n 1, 1) := by decide +kernel
theorem dX6_isAble_2 : decode cX6_isAble 2 = .ok (.invokevirtual 290, 3) := by decide +kernel
theorem dX6_isAble_5 : decode cX6_isAble 5 = .ok (.ifCond .eq 20, 3) := by decide +kernel
theorem dX6_isAble_8 : decode cX6_isAble 8 = .ok (.aload_n 0, 1) := by decide +kernel
theorem dX6_isAble_9 : decode cX6_isAble 9 = .ok (.getfield 23, 3) := by decide +kernel
theorem dX6_isAble_12 : decode cX6_isAble 12 = .ok (.iload_n 1, 1) := by decide +kernel
theorem dX6_isAble_13 : decode cX6_isAble 13 = .ok (.iaload, 1) := by decide +kernel
theorem dX6_isAble_14 : decode cX6_isAble 14 = .ok (.aload_n 0, 1) := by decide +kernel
theorem dX6_isAble_15 : decode cX6_isAble 15 = .ok (.getfield 60, 3) := by decide +kernel
theorem dX6_isAble_18 : decode cX6_isAble 18 = .ok (.if_icmp .lt 7, 3) := by decide +kernel
theorem dX6_isAble_21 : decode cX6_isAble 21 = .ok (.iconst 1, 1) := by decide +kernel
theorem dX6_isAble_22 : decode cX6_isAble 22 = .ok (.goto 4, 3) := by decide +kernel
theorem dX6_isAble_25 : decode cX6_isAble 25 = .ok (.iconst 0, 1) := by decide +kernel
theorem dX6_isAble_26 : decode cX6_isAble 26 = .ok (.ireturn, 1) := by decide +kernel
set_option maxRecDepth 20000 in
theorem ggX6_findObstacle_X6_isOnDuty : GoodIn wsX6_findObstacle wsX6_isOnDuty := goodIn_r _ [5, 6, 7, 43, 44, 45, 46, 47, 48, 49, 50, 51, 52, 53, 54, 55, 56] (by decide +kernel) (by decide +kernel)
set_option maxRecDepth 20000 in
theorem gX6_findObstacle_X6_isOnDuty : GoodIn wsX6_findObstacle (wsV RX6 290 RX6 yX6_isOnDuty wsX6_isOnDuty) := goodIn_app (goodIn_of _ (by decide +kernel)) ggX6_findObstacle_X6_isOnDuty
set_option maxRecDepth 20000 in
theorem ggX6_findObstacle_X6_isAble : GoodIn wsX6_findObstacle wsX6_isAble := goodIn_r _ [11, 12, 13, 1, 2, 3, 4, 5, 6, 7, 43, 44, 45, 46, 47, 48, 49, 50, 51, 52, 53, 54, 55, 56] (by decide +kernel) (by decide +kernel)
set_option maxRecDepth 20000 in
theorem gX6_findObstacle_X6_isAble : GoodIn wsX6_findObstacle (wsV RX6 139 RX6 yX6_isAble wsX6_isAble) := goodIn_app (goodIn_of _ (by decide +kernel)) ggX6_findObstacle_X6_isAble
set_option maxRecDepth 20000 in
theorem ggX6_findObstacle_X6_hasTagOfAnother : GoodIn wsX6_findObstacle wsX6_hasTagOfAnother := goodIn_r _ [17, 18, 19, 20, 21, 22, 23, 24, 25, 26, 27, 28, 29, 30, 31, 32, 33, 34, 35, 36, 37, 38, 39, 40, 41, 42, 43, 44, 45, 46, 47, 48, 49, 50, 51, 52, 53, 54, 55, 56, 57, 58, 59, 60, 61, 62, 63] (by decide +kernel) (by decide +kernel)
set_option maxRecDepth 20000 in
theorem gX6_findObstacle_X6_hasTagOfAnother : GoodIn wsX6_findObstacle (wsV RX6 293 RX6 yX6_hasTagOfAnother wsX6_hasTagOfAnother) := goodIn_app (goodIn_of _ (by decide +kernel)) ggX6_findObstacle_X6_hasTagOfAnother
theorem dX6_findObstacle_0 : decode cX6_findObstacle 0 = .ok (.aload_n 0, 1) := by decide +kernel
theorem dX6_findObstacle_1 : decode cX6_findObstacle 1 = .ok (.iload_n 1, 1) := by decide +kernel
theorem dX6_findObstacle_2 : decode cX6_findObstacle 2 = .ok (.invokevirtual 290, 3) := by decide +kernel
theorem dX6_findObstacle_5 : decode cX6_findObstacle 5 = .ok (.ifCond .ne 5, 3) := by decide +kernel
theorem dX6_findObstacle_8 : decode cX6_findObstacle 8 = .ok (.iconst 1, 1) := by decide +kernel
theorem dX6_findObstacle_9 : decode cX6_findObstacle 9 = .ok (.ireturn, 1) := by decide +kernel
theorem dX6_findObstacle_10 : decode cX6_findObstacle 10 = .ok (.aload_n 0, 1) := by decide +kernel
theorem dX6_findObstacle_11 : decode cX6_findObstacle 11 = .ok (.iload_n 1, 1) := by decide +kernel
theorem dX6_findObstacle_12 : decode cX6_findObstacle 12 = .ok (.invokevirtual 139, 3) := by decide +kernel
theorem dX6_findObstacle_15 : decode cX6_findObstacle 15 = .ok (.ifCond .ne 5, 3) := by decide +kernel
theorem dX6_findObstacle_18 : decode cX6_findObstacle 18 = .ok (.iconst 2, 1) := by decide +kernel
theorem dX6_findObstacle_19 : decode cX6_findObstacle 19 = .ok (.ireturn, 1) := by decide +kernel
theorem dX6_findObstacle_20 : decode cX6_findObstacle 20 = .ok (.aload_n 0, 1) := by decide +kernel
theorem dX6_findObstacle_21 : decode cX6_findObstacle 21 = .ok (.iload_n 2, 1) := by decide +kernel
theorem dX6_findObstacle_22 : decode cX6_findObstacle 22 = .ok (.iload_n 1, 1) := by decide +kernel
theorem dX6_findObstacle_23 : decode cX6_findObstacle 23 = .ok (.invokevirtual 293, 3) := by decide +kernel
theorem dX6_findObstacle_26 : decode cX6_findObstacle 26 = .ok (.ifCond .eq 7, 3) := by decide +kernel
theorem dX6_findObstacle_29 : decode cX6_findObstacle 29 = .ok (.iconst 3, 1) := by decide +kernel
theorem dX6_findObstacle_30 : decode cX6_findObstacle 30 = .ok (.goto 4, 3) := by decide +kernel
theorem dX6_findObstacle_33 : decode cX6_findObstacle 33 = .ok (.iconst 0, 1) := by decide +kernel
theorem dX6_findObstacle_34 : decode cX6_findObstacle 34 = .ok (.ireturn, 1) := by decide +kernel
set_option maxRecDepth 20000 in
theorem ggX6_hasTagOfAnother_Jx4a65c_size_8abf5 : GoodIn wsX6_hasTagOfAnother wsJx4a65c_size_8abf5 := goodIn_r _ [7, 8, 44, 45, 46] (by decide +kernel) (by decide +kernel)
set_option maxRecDepth 20000 in
theorem gX6_hasTagOfAnother_Jx4a65c_size_8abf5 : GoodIn wsX6_hasTagOfAnother (wsV RX6 142 RJx4a65c yJx4a65c_size_8abf5 wsJx4a65c_size_8abf5) := goodIn_app (goodIn_of _ (by decide +kernel)) ggX6_hasTagOfAnother_Jx4a65c_size_8abf5
set_option maxRecDepth 20000 in
theorem ggX6_hasTagOfAnother_Jx4a65c_get_915e3 : GoodIn wsX6_hasTagOfAnother wsJx4a65c_get_915e3 := goodIn_r _ [12, 8, 13, 14, 15, 16, 17, 18, 19, 20, 21, 22, 23, 6, 24, 25, 44, 45, 46] (by decide +kernel) (by decide +kernel)
set_option maxRecDepth 20000 in
theorem gX6_hasTagOfAnother_Jx4a65c_get_915e3 : GoodIn wsX6_hasTagOfAnother (wsV RX6 161 RJx4a65c yJx4a65c_get_915e3 wsJx4a65c_get_915e3) := goodIn_app (goodIn_of _ (by decide +kernel)) ggX6_hasTagOfAnother_Jx4a65c_get_915e3
theorem dX6_hasTagOfAnother_0 : decode cX6_hasTagOfAnother 0 = .ok (.iconst 0, 1) := by decide +kernel
theorem dX6_hasTagOfAnother_1 : decode cX6_hasTagOfAnother 1 = .ok (.istore_n 3, 1) := by decide +kernel
theorem dX6_hasTagOfAnother_2 : decode cX6_hasTagOfAnother 2 = .ok (.iload_n 3, 1) := by decide +kernel
theorem dX6_hasTagOfAnother_3 : decode cX6_hasTagOfAnother 3 = .ok (.aload_n 0, 1) := by decide +kernel
theorem dX6_hasTagOfAnother_4 : decode cX6_hasTagOfAnother 4 = .ok (.getfield 29, 3) := by decide +kernel
theorem dX6_hasTagOfAnother_7 : decode cX6_hasTagOfAnother 7 = .ok (.invokevirtual 142, 3) := by decide +kernel
theorem dX6_hasTagOfAnother_10 : decode cX6_hasTagOfAnother 10 = .ok (.if_icmp .ge 50, 3) := by decide +kernel
theorem dX6_hasTagOfAnother_13 : decode cX6_hasTagOfAnother 13 = .ok (.aload_n 0, 1) := by decide +kernel
theorem dX6_hasTagOfAnother_14 : decode cX6_hasTagOfAnother 14 = .ok (.getfield 29, 3) := by decide +kernel
theorem dX6_hasTagOfAnother_17 : decode cX6_hasTagOfAnother 17 = .ok (.iload_n 3, 1) := by decide +kernel
theorem dX6_hasTagOfAnother_18 : decode cX6_hasTagOfAnother 18 = .ok (.invokevirtual 161, 3) := by decide +kernel
theorem dX6_hasTagOfAnother_21 : decode cX6_hasTagOfAnother 21 = .ok (.checkcast 145, 3) := by decide +kernel
theorem dX6_hasTagOfAnother_24 : decode cX6_hasTagOfAnother 24 = .ok (.astore 4, 2) := by decide +kernel
theorem dX6_hasTagOfAnother_26 : decode cX6_hasTagOfAnother 26 = .ok (.aload 4, 2) := by decide +kernel
theorem dX6_hasTagOfAnother_28 : decode cX6_hasTagOfAnother 28 = .ok (.getfield 165, 3) := by decide +kernel
theorem dX6_hasTagOfAnother_31 : decode cX6_hasTagOfAnother 31 = .ok (.ifCond .ne 23, 3) := by decide +kernel
theorem dX6_hasTagOfAnother_34 : decode cX6_hasTagOfAnother 34 = .ok (.aload 4, 2) := by decide +kernel
theorem dX6_hasTagOfAnother_36 : decode cX6_hasTagOfAnother 36 = .ok (.getfield 180, 3) := by decide +kernel
theorem dX6_hasTagOfAnother_39 : decode cX6_hasTagOfAnother 39 = .ok (.iload_n 1, 1) := by decide +kernel
theorem dX6_hasTagOfAnother_40 : decode cX6_hasTagOfAnother 40 = .ok (.if_icmp .ne 14, 3) := by decide +kernel
theorem dX6_hasTagOfAnother_43 : decode cX6_hasTagOfAnother 43 = .ok (.aload 4, 2) := by decide +kernel
theorem dX6_hasTagOfAnother_45 : decode cX6_hasTagOfAnother 45 = .ok (.getfield 168, 3) := by decide +kernel
theorem dX6_hasTagOfAnother_48 : decode cX6_hasTagOfAnother 48 = .ok (.iload_n 2, 1) := by decide +kernel
theorem dX6_hasTagOfAnother_49 : decode cX6_hasTagOfAnother 49 = .ok (.if_icmp .eq 5, 3) := by decide +kernel
theorem dX6_hasTagOfAnother_52 : decode cX6_hasTagOfAnother 52 = .ok (.iconst 1, 1) := by decide +kernel
theorem dX6_hasTagOfAnother_53 : decode cX6_hasTagOfAnother 53 = .ok (.ireturn, 1) := by decide +kernel
theorem dX6_hasTagOfAnother_54 : decode cX6_hasTagOfAnother 54 = .ok (.iinc 3 1, 3) := by decide +kernel
theorem dX6_hasTagOfAnother_57 : decode cX6_hasTagOfAnother 57 = .ok (.goto (-55), 3) := by decide +kernel
theorem dX6_hasTagOfAnother_60 : decode cX6_hasTagOfAnother 60 = .ok (.iconst 0, 1) := by decide +kernel
theorem dX6_hasTagOfAnother_61 : decode cX6_hasTagOfAnother 61 = .ok (.ireturn, 1) := by decide +kernel
set_option maxRecDepth 20000 in
theorem ggX6_countTagsOn_Jx4a65c_size_8abf5 : GoodIn wsX6_countTagsOn wsJx4a65c_size_8abf5 := goodIn_r _ [7, 8, 44, 45, 46] (by decide +kernel) (by decide +kernel)
set_option maxRecDepth 20000 in
theorem gX6_countTagsOn_Jx4a65c_size_8abf5 : GoodIn wsX6_countTagsOn (wsV RX6 142 RJx4a65c yJx4a65c_size_8abf5 wsJx4a65c_size_8abf5) := goodIn_app (goodIn_of _ (by decide +kernel)) ggX6_countTagsOn_Jx4a65c_size_8abf5
set_option maxRecDepth 20000 in
theorem ggX6_countTagsOn_Jx4a65c_get_915e3 : GoodIn wsX6_countTagsOn wsJx4a65c_get_915e3 := goodIn_r _ [12, 8, 13, 14, 15, 16, 17, 18, 19, 20, 21, 22, 23, 6, 24, 25, 44, 45, 46] (by decide +kernel) (by decide +kernel)
set_option maxRecDepth 20000 in
theorem gX6_countTagsOn_Jx4a65c_get_915e3 : GoodIn wsX6_countTagsOn (wsV RX6 161 RJx4a65c yJx4a65c_get_915e3 wsJx4a65c_get_915e3) := goodIn_app (goodIn_of _ (by decide +kernel)) ggX6_countTagsOn_Jx4a65c_get_915e3
theorem dX6_countTagsOn_0 : decode cX6_countTagsOn 0 = .ok (.iconst 0, 1) := by decide +kernel
theorem dX6_countTagsOn_1 : decode cX6_countTagsOn 1 = .ok (.istore_n 2, 1) := by decide +kernel
theorem dX6_countTagsOn_2 : decode cX6_countTagsOn 2 = .ok (.iconst 0, 1) := by decide +kernel
theorem dX6_countTagsOn_3 : decode cX6_countTagsOn 3 = .ok (.istore_n 3, 1) := by decide +kernel
theorem dX6_countTagsOn_4 : decode cX6_countTagsOn 4 = .ok (.iload_n 3, 1) := by decide +kernel
theorem dX6_countTagsOn_5 : decode cX6_countTagsOn 5 = .ok (.aload_n 0, 1) := by decide +kernel
theorem dX6_countTagsOn_6 : decode cX6_countTagsOn 6 = .ok (.getfield 29, 3) := by decide +kernel
theorem dX6_countTagsOn_9 : decode cX6_countTagsOn 9 = .ok (.invokevirtual 142, 3) := by decide +kernel
theorem dX6_countTagsOn_12 : decode cX6_countTagsOn 12 = .ok (.if_icmp .ge 42, 3) := by decide +kernel
theorem dX6_countTagsOn_15 : decode cX6_countTagsOn 15 = .ok (.aload_n 0, 1) := by decide +kernel
theorem dX6_countTagsOn_16 : decode cX6_countTagsOn 16 = .ok (.getfield 29, 3) := by decide +kernel
theorem dX6_countTagsOn_19 : decode cX6_countTagsOn 19 = .ok (.iload_n 3, 1) := by decide +kernel
theorem dX6_countTagsOn_20 : decode cX6_countTagsOn 20 = .ok (.invokevirtual 161, 3) := by decide +kernel
theorem dX6_countTagsOn_23 : decode cX6_countTagsOn 23 = .ok (.checkcast 145, 3) := by decide +kernel
theorem dX6_countTagsOn_26 : decode cX6_countTagsOn 26 = .ok (.astore 4, 2) := by decide +kernel
theorem dX6_countTagsOn_28 : decode cX6_countTagsOn 28 = .ok (.aload 4, 2) := by decide +kernel
theorem dX6_countTagsOn_30 : decode cX6_countTagsOn 30 = .ok (.getfield 165, 3) := by decide +kernel
theorem dX6_countTagsOn_33 : decode cX6_countTagsOn 33 = .ok (.ifCond .ne 15, 3) := by decide +kernel
theorem dX6_countTagsOn_36 : decode cX6_countTagsOn 36 = .ok (.aload 4, 2) := by decide +kernel
theorem dX6_countTagsOn_38 : decode cX6_countTagsOn 38 = .ok (.getfield 180, 3) := by decide +kernel
theorem dX6_countTagsOn_41 : decode cX6_countTagsOn 41 = .ok (.iload_n 1, 1) := by decide +kernel
theorem dX6_countTagsOn_42 : decode cX6_countTagsOn 42 = .ok (.if_icmp .ne 6, 3) := by decide +kernel
theorem dX6_countTagsOn_45 : decode cX6_countTagsOn 45 = .ok (.iinc 2 1, 3) := by decide +kernel
theorem dX6_countTagsOn_48 : decode cX6_countTagsOn 48 = .ok (.iinc 3 1, 3) := by decide +kernel
theorem dX6_countTagsOn_51 : decode cX6_countTagsOn 51 = .ok (.goto (-47), 3) := by decide +kernel
theorem dX6_countTagsOn_54 : decode cX6_countTagsOn 54 = .ok (.iload_n 2, 1) := by decide +kernel
theorem dX6_countTagsOn_55 : decode cX6_countTagsOn 55 = .ok (.ireturn, 1) := by decide +kernel
set_option maxRecDepth 20000 in
theorem ggX6_wasHungOn_Jx4a65c_size_8abf5 : GoodIn wsX6_wasHungOn wsJx4a65c_size_8abf5 := goodIn_r _ [7, 8, 44, 45, 46] (by decide +kernel) (by decide +kernel)
set_option maxRecDepth 20000 in
theorem gX6_wasHungOn_Jx4a65c_size_8abf5 : GoodIn wsX6_wasHungOn (wsV RX6 142 RJx4a65c yJx4a65c_size_8abf5 wsJx4a65c_size_8abf5) := goodIn_app (goodIn_of _ (by decide +kernel)) ggX6_wasHungOn_Jx4a65c_size_8abf5
set_option maxRecDepth 20000 in
theorem ggX6_wasHungOn_Jx4a65c_get_915e3 : GoodIn wsX6_wasHungOn wsJx4a65c_get_915e3 := goodIn_r _ [12, 8, 13, 14, 15, 16, 17, 18, 19, 20, 21, 22, 23, 6, 24, 25, 44, 45, 46] (by decide +kernel) (by decide +kernel)
set_option maxRecDepth 20000 in
theorem gX6_wasHungOn_Jx4a65c_get_915e3 : GoodIn wsX6_wasHungOn (wsV RX6 161 RJx4a65c yJx4a65c_get_915e3 wsJx4a65c_get_915e3) := goodIn_app (goodIn_of _ (by decide +kernel)) ggX6_wasHungOn_Jx4a65c_get_915e3
theorem dX6_wasHungOn_0 : decode cX6_wasHungOn 0 = .ok (.iload_n 1, 1) := by decide +kernel
theorem dX6_wasHungOn_1 : decode cX6_wasHungOn 1 = .ok (.ifCond .lt 36, 3) := by decide +kernel
theorem dX6_wasHungOn_4 : decode cX6_wasHungOn 4 = .ok (.iload_n 1, 1) := by decide +kernel
theorem dX6_wasHungOn_5 : decode cX6_wasHungOn 5 = .ok (.aload_n 0, 1) := by decide +kernel
theorem dX6_wasHungOn_6 : decode cX6_wasHungOn 6 = .ok (.getfield 29, 3) := by decide +kernel
theorem dX6_wasHungOn_9 : decode cX6_wasHungOn 9 = .ok (.invokevirtual 142, 3) := by decide +kernel
theorem dX6_wasHungOn_12 : decode cX6_wasHungOn 12 = .ok (.if_icmp .ge 25, 3) := by decide +kernel
theorem dX6_wasHungOn_15 : decode cX6_wasHungOn 15 = .ok (.aload_n 0, 1) := by decide +kernel
theorem dX6_wasHungOn_16 : decode cX6_wasHungOn 16 = .ok (.getfield 29, 3) := by decide +kernel
theorem dX6_wasHungOn_19 : decode cX6_wasHungOn 19 = .ok (.iload_n 1, 1) := by decide +kernel
theorem dX6_wasHungOn_20 : decode cX6_wasHungOn 20 = .ok (.invokevirtual 161, 3) := by decide +kernel
theorem dX6_wasHungOn_23 : decode cX6_wasHungOn 23 = .ok (.checkcast 145, 3) := by decide +kernel
theorem dX6_wasHungOn_26 : decode cX6_wasHungOn 26 = .ok (.getfield 180, 3) := by decide +kernel
theorem dX6_wasHungOn_29 : decode cX6_wasHungOn 29 = .ok (.iload_n 2, 1) := by decide +kernel
theorem dX6_wasHungOn_30 : decode cX6_wasHungOn 30 = .ok (.if_icmp .ne 7, 3) := by decide +kernel
theorem dX6_wasHungOn_33 : decode cX6_wasHungOn 33 = .ok (.iconst 1, 1) := by decide +kernel
theorem dX6_wasHungOn_34 : decode cX6_wasHungOn 34 = .ok (.goto 4, 3) := by decide +kernel
theorem dX6_wasHungOn_37 : decode cX6_wasHungOn 37 = .ok (.iconst 0, 1) := by decide +kernel
theorem dX6_wasHungOn_38 : decode cX6_wasHungOn 38 = .ok (.ireturn, 1) := by decide +kernel
theorem dX6_isFirstToAsk_0 : decode cX6_isFirstToAsk 0 = .ok (.aload_n 0, 1) := by decide +kernel
theorem dX6_isFirstToAsk_1 : decode cX6_isFirstToAsk 1 = .ok (.getfield 177, 3) := by decide +kernel
theorem dX6_isFirstToAsk_4 : decode cX6_isFirstToAsk 4 = .ok (.iconst (-1), 1) := by decide +kernel
theorem dX6_isFirstToAsk_5 : decode cX6_isFirstToAsk 5 = .ok (.if_icmp .eq 11, 3) := by decide +kernel
theorem dX6_isFirstToAsk_8 : decode cX6_isFirstToAsk 8 = .ok (.aload_n 0, 1) := by decide +kernel
theorem dX6_isFirstToAsk_9 : decode cX6_isFirstToAsk 9 = .ok (.getfield 177, 3) := by decide +kernel
theorem dX6_isFirstToAsk_12 : decode cX6_isFirstToAsk 12 = .ok (.iload_n 1, 1) := by decide +kernel
theorem dX6_isFirstToAsk_13 : decode cX6_isFirstToAsk 13 = .ok (.if_icmp .ne 7, 3) := by decide +kernel
theorem dX6_isFirstToAsk_16 : decode cX6_isFirstToAsk 16 = .ok (.iconst 1, 1) := by decide +kernel
theorem dX6_isFirstToAsk_17 : decode cX6_isFirstToAsk 17 = .ok (.goto 4, 3) := by decide +kernel
theorem dX6_isFirstToAsk_20 : decode cX6_isFirstToAsk 20 = .ok (.iconst 0, 1) := by decide +kernel
theorem dX6_isFirstToAsk_21 : decode cX6_isFirstToAsk 21 = .ok (.ireturn, 1) := by decide +kernel
set_option maxRecDepth 20000 in
theorem ggX6_setValve_X2_noteTurn : GoodIn wsX6_setValve wsX2_noteTurn := goodIn_r _ [7, 8, 9, 10, 5, 11, 12, 13, 14, 15, 16, 17, 18, 19, 20, 21, 22, 23, 24, 25, 26, 27, 28, 29, 30, 31, 32, 50, 51] (by decide +kernel) (by decide +kernel)
set_option maxRecDepth 20000 in
theorem gX6_setValve_X2_noteTurn_n296 : GoodIn wsX6_setValve (wsX2_noteTurn) := ggX6_setValve_X2_noteTurn
theorem dX6_setValve_0 : decode cX6_setValve 0 = .ok (.aload_n 0, 1) := by decide +kernel
theorem dX6_setValve_1 : decode cX6_setValve 1 = .ok (.getfield 11, 3) := by decide +kernel
theorem dX6_setValve_4 : decode cX6_setValve 4 = .ok (.iload_n 2, 1) := by decide +kernel
theorem dX6_setValve_5 : decode cX6_setValve 5 = .ok (.aaload, 1) := by decide +kernel
theorem dX6_setValve_6 : decode cX6_setValve 6 = .ok (.astore 4, 2) := by decide +kernel
theorem dX6_setValve_8 : decode cX6_setValve 8 = .ok (.aload 4, 2) := by decide +kernel
theorem dX6_setValve_10 : decode cX6_setValve 10 = .ok (.getfield 91, 3) := by decide +kernel
theorem dX6_setValve_13 : decode cX6_setValve 13 = .ok (.iload_n 3, 1) := by decide +kernel
theorem dX6_setValve_14 : decode cX6_setValve 14 = .ok (.if_icmp .ne 5, 3) := by decide +kernel
theorem dX6_setValve_17 : decode cX6_setValve 17 = .ok (.iconst 0, 1) := by decide +kernel
theorem dX6_setValve_18 : decode cX6_setValve 18 = .ok (.ireturn, 1) := by decide +kernel
theorem dX6_setValve_19 : decode cX6_setValve 19 = .ok (.aload 4, 2) := by decide +kernel
theorem dX6_setValve_21 : decode cX6_setValve 21 = .ok (.iload_n 3, 1) := by decide +kernel
theorem dX6_setValve_22 : decode cX6_setValve 22 = .ok (.putfield 91, 3) := by decide +kernel
theorem dX6_setValve_25 : decode cX6_setValve 25 = .ok (.aload_n 0, 1) := by decide +kernel
theorem dX6_setValve_26 : decode cX6_setValve 26 = .ok (.getfield 45, 3) := by decide +kernel
theorem dX6_setValve_29 : decode cX6_setValve 29 = .ok (.aload_n 0, 1) := by decide +kernel
theorem dX6_setValve_30 : decode cX6_setValve 30 = .ok (.getfield 56, 3) := by decide +kernel
theorem dX6_setValve_33 : decode cX6_setValve 33 = .ok (.iload_n 1, 1) := by decide +kernel
theorem dX6_setValve_34 : decode cX6_setValve 34 = .ok (.iload_n 2, 1) := by decide +kernel
theorem dX6_setValve_35 : decode cX6_setValve 35 = .ok (.iload_n 3, 1) := by decide +kernel
theorem dX6_setValve_36 : decode cX6_setValve 36 = .ok (.invokevirtual 296, 3) := by decide +kernel
theorem dX6_setValve_39 : decode cX6_setValve 39 = .ok (.iconst 1, 1) := by decide +kernel
theorem dX6_setValve_40 : decode cX6_setValve 40 = .ok (.ireturn, 1) := by decide +kernel
set_option maxRecDepth 20000 in
theorem ggX6_assign_X2_note : GoodIn wsX6_assign wsX2_note := goodIn_r _ [7, 8, 9, 10, 11, 12, 13, 14, 15, 16, 17, 18, 19, 20, 21, 22, 23, 24, 25, 26, 27, 28, 43, 44] (by decide +kernel) (by decide +kernel)
set_option maxRecDepth 20000 in
theorem gX6_assign_X2_note_n154 : GoodIn wsX6_assign (wsX2_note) := ggX6_assign_X2_note
theorem dX6_assign_0 : decode cX6_assign 0 = .ok (.iload_n 2, 1) := by decide +kernel
theorem dX6_assign_1 : decode cX6_assign 1 = .ok (.iconst (-1), 1) := by decide +kernel
theorem dX6_assign_2 : decode cX6_assign 2 = .ok (.if_icmp .eq 24, 3) := by decide +kernel
theorem dX6_assign_5 : decode cX6_assign 5 = .ok (.aload_n 0, 1) := by decide +kernel
theorem dX6_assign_6 : decode cX6_assign 6 = .ok (.getfield 39, 3) := by decide +kernel
theorem dX6_assign_9 : decode cX6_assign 9 = .ok (.iload_n 1, 1) := by decide +kernel
theorem dX6_assign_10 : decode cX6_assign 10 = .ok (.iload_n 2, 1) := by decide +kernel
theorem dX6_assign_11 : decode cX6_assign 11 = .ok (.iastore, 1) := by decide +kernel
theorem dX6_assign_12 : decode cX6_assign 12 = .ok (.aload_n 0, 1) := by decide +kernel
theorem dX6_assign_13 : decode cX6_assign 13 = .ok (.getfield 45, 3) := by decide +kernel
theorem dX6_assign_16 : decode cX6_assign 16 = .ok (.aload_n 0, 1) := by decide +kernel
theorem dX6_assign_17 : decode cX6_assign 17 = .ok (.getfield 56, 3) := by decide +kernel
theorem dX6_assign_20 : decode cX6_assign 20 = .ok (.iconst 5, 1) := by decide +kernel
theorem dX6_assign_21 : decode cX6_assign 21 = .ok (.iload_n 2, 1) := by decide +kernel
theorem dX6_assign_22 : decode cX6_assign 22 = .ok (.iload_n 1, 1) := by decide +kernel
theorem dX6_assign_23 : decode cX6_assign 23 = .ok (.invokevirtual 154, 3) := by decide +kernel
theorem dX6_assign_26 : decode cX6_assign 26 = .ok (.return_, 1) := by decide +kernel
set_option maxRecDepth 20000 in
theorem ggX6_endHour_X6_leadOn : GoodIn wsX6_endHour wsX6_leadOn := goodIn_r _ [10, 11, 12, 13, 14, 15, 16, 17, 18, 9, 19, 93, 94, 95, 96, 97, 98, 99, 100, 101, 102, 103, 104, 105, 106] (by decide +kernel) (by decide +kernel)
set_option maxRecDepth 20000 in
theorem gX6_endHour_X6_leadOn : GoodIn wsX6_endHour (wsV RX6 300 RX6 yX6_leadOn wsX6_leadOn) := goodIn_app (goodIn_of _ (by decide +kernel)) ggX6_endHour_X6_leadOn
set_option maxRecDepth 20000 in
theorem ggX6_endHour_Jx4a65c_size_8abf5 : GoodIn wsX6_endHour wsJx4a65c_size_8abf5 := goodIn_r _ [24, 25, 110, 111, 112] (by decide +kernel) (by decide +kernel)
set_option maxRecDepth 20000 in
theorem gX6_endHour_Jx4a65c_size_8abf5 : GoodIn wsX6_endHour (wsV RX6 142 RJx4a65c yJx4a65c_size_8abf5 wsJx4a65c_size_8abf5) := goodIn_app (goodIn_of _ (by decide +kernel)) ggX6_endHour_Jx4a65c_size_8abf5
set_option maxRecDepth 20000 in
theorem ggX6_endHour_X6_watch : GoodIn wsX6_endHour wsX6_watch := goodIn_r _ [29, 2, 30, 11, 4, 3, 31, 32, 33, 23, 34, 25, 35, 36, 37, 38, 39, 40, 41, 42, 43, 44, 45, 46, 47, 48, 49, 50, 51, 52, 53, 54, 55, 56, 57, 58, 59, 60, 61, 62, 63, 64, 65, 66, 67, 68, 69, 70, 71, 13, 14, 15, 72, 73, 74, 75, 76, 77, 78, 9, 79, 80, 81, 20, 21, 22, 24, 82, 83, 84, 85, 1, 86, 87, 88, 89, 93, 94, 95, 96, 97, 98, 99, 100, 101, 102, 103, 104, 105, 106, 113, 114, 115, 116, 117, 118, 110, 111, 112, 119, 120, 121, 122, 123, 124, 107, 108, 109] (by decide +kernel) (by decide +kernel)
set_option maxRecDepth 20000 in
theorem gX6_endHour_X6_watch : GoodIn wsX6_endHour (wsV RX6 303 RX6 yX6_watch wsX6_watch) := goodIn_app (goodIn_of _ (by decide +kernel)) ggX6_endHour_X6_watch
set_option maxRecDepth 20000 in
theorem ggX6_endHour_X2_size : GoodIn wsX6_endHour wsX2_size := goodIn_r _ [92, 58, 119, 120] (by decide +kernel) (by decide +kernel)
set_option maxRecDepth 20000 in
theorem gX6_endHour_X2_size_n123 : GoodIn wsX6_endHour (wsX2_size) := ggX6_endHour_X2_size
theorem dX6_endHour_0 : decode cX6_endHour 0 = .ok (.iconst 0, 1) := by decide +kernel
theorem dX6_endHour_1 : decode cX6_endHour 1 = .ok (.istore_n 1, 1) := by decide +kernel
theorem dX6_endHour_2 : decode cX6_endHour 2 = .ok (.iload_n 1, 1) := by decide +kernel
theorem dX6_endHour_3 : decode cX6_endHour 3 = .ok (.bipush 8, 2) := by decide +kernel
theorem dX6_endHour_5 : decode cX6_endHour 5 = .ok (.if_icmp .ge 43, 3) := by decide +kernel
theorem dX6_endHour_8 : decode cX6_endHour 8 = .ok (.aload_n 0, 1) := by decide +kernel
theorem dX6_endHour_9 : decode cX6_endHour 9 = .ok (.getfield 11, 3) := by decide +kernel
theorem dX6_endHour_12 : decode cX6_endHour 12 = .ok (.iload_n 1, 1) := by decide +kernel
theorem dX6_endHour_13 : decode cX6_endHour 13 = .ok (.aaload, 1) := by decide +kernel
theorem dX6_endHour_14 : decode cX6_endHour 14 = .ok (.getfield 91, 3) := by decide +kernel
theorem dX6_endHour_17 : decode cX6_endHour 17 = .ok (.ifCond .eq 25, 3) := by decide +kernel
theorem dX6_endHour_20 : decode cX6_endHour 20 = .ok (.aload_n 0, 1) := by decide +kernel
theorem dX6_endHour_21 : decode cX6_endHour 21 = .ok (.aload_n 0, 1) := by decide +kernel
theorem dX6_endHour_22 : decode cX6_endHour 22 = .ok (.getfield 11, 3) := by decide +kernel
theorem dX6_endHour_25 : decode cX6_endHour 25 = .ok (.iload_n 1, 1) := by decide +kernel
theorem dX6_endHour_26 : decode cX6_endHour 26 = .ok (.aaload, 1) := by decide +kernel
theorem dX6_endHour_27 : decode cX6_endHour 27 = .ok (.getfield 100, 3) := by decide +kernel
theorem dX6_endHour_30 : decode cX6_endHour 30 = .ok (.aload_n 0, 1) := by decide +kernel
theorem dX6_endHour_31 : decode cX6_endHour 31 = .ok (.getfield 11, 3) := by decide +kernel
theorem dX6_endHour_34 : decode cX6_endHour 34 = .ok (.iload_n 1, 1) := by decide +kernel
theorem dX6_endHour_35 : decode cX6_endHour 35 = .ok (.aaload, 1) := by decide +kernel
theorem dX6_endHour_36 : decode cX6_endHour 36 = .ok (.getfield 103, 3) := by decide +kernel
theorem dX6_endHour_39 : decode cX6_endHour 39 = .ok (.invokevirtual 300, 3) := by decide +kernel
theorem dX6_endHour_42 : decode cX6_endHour 42 = .ok (.iinc 1 1, 3) := by decide +kernel
theorem dX6_endHour_45 : decode cX6_endHour 45 = .ok (.goto (-43), 3) := by decide +kernel
theorem dX6_endHour_48 : decode cX6_endHour 48 = .ok (.iconst 0, 1) := by decide +kernel
theorem dX6_endHour_49 : decode cX6_endHour 49 = .ok (.istore_n 1, 1) := by decide +kernel
theorem dX6_endHour_50 : decode cX6_endHour 50 = .ok (.iload_n 1, 1) := by decide +kernel
theorem dX6_endHour_51 : decode cX6_endHour 51 = .ok (.aload_n 0, 1) := by decide +kernel
theorem dX6_endHour_52 : decode cX6_endHour 52 = .ok (.getfield 33, 3) := by decide +kernel
theorem dX6_endHour_55 : decode cX6_endHour 55 = .ok (.invokevirtual 142, 3) := by decide +kernel
theorem dX6_endHour_58 : decode cX6_endHour 58 = .ok (.if_icmp .ge 14, 3) := by decide +kernel
theorem dX6_endHour_61 : decode cX6_endHour 61 = .ok (.aload_n 0, 1) := by decide +kernel
theorem dX6_endHour_62 : decode cX6_endHour 62 = .ok (.iload_n 1, 1) := by decide +kernel
theorem dX6_endHour_63 : decode cX6_endHour 63 = .ok (.invokevirtual 303, 3) := by decide +kernel
theorem dX6_endHour_66 : decode cX6_endHour 66 = .ok (.iinc 1 1, 3) := by decide +kernel
theorem dX6_endHour_69 : decode cX6_endHour 69 = .ok (.goto (-19), 3) := by decide +kernel
theorem dX6_endHour_72 : decode cX6_endHour 72 = .ok (.aload_n 0, 1) := by decide +kernel
theorem dX6_endHour_73 : decode cX6_endHour 73 = .ok (.dup, 1) := by decide +kernel
theorem dX6_endHour_74 : decode cX6_endHour 74 = .ok (.getfield 56, 3) := by decide +kernel
theorem dX6_endHour_77 : decode cX6_endHour 77 = .ok (.iconst 1, 1) := by decide +kernel
theorem dX6_endHour_78 : decode cX6_endHour 78 = .ok (.iadd, 1) := by decide +kernel
theorem dX6_endHour_79 : decode cX6_endHour 79 = .ok (.putfield 56, 3) := by decide +kernel
theorem dX6_endHour_82 : decode cX6_endHour 82 = .ok (.aload_n 0, 1) := by decide +kernel
theorem dX6_endHour_83 : decode cX6_endHour 83 = .ok (.getfield 56, 3) := by decide +kernel
theorem dX6_endHour_86 : decode cX6_endHour 86 = .ok (.bipush 8, 2) := by decide +kernel
theorem dX6_endHour_88 : decode cX6_endHour 88 = .ok (.irem, 1) := by decide +kernel
theorem dX6_endHour_89 : decode cX6_endHour 89 = .ok (.ifCond .ne 14, 3) := by decide +kernel
theorem dX6_endHour_92 : decode cX6_endHour 92 = .ok (.aload_n 0, 1) := by decide +kernel
theorem dX6_endHour_93 : decode cX6_endHour 93 = .ok (.aload_n 0, 1) := by decide +kernel
theorem dX6_endHour_94 : decode cX6_endHour 94 = .ok (.getfield 45, 3) := by decide +kernel
theorem dX6_endHour_97 : decode cX6_endHour 97 = .ok (.invokevirtual 123, 3) := by decide +kernel
theorem dX6_endHour_100 : decode cX6_endHour 100 = .ok (.putfield 60, 3) := by decide +kernel
theorem dX6_endHour_103 : decode cX6_endHour 103 = .ok (.return_, 1) := by decide +kernel
set_option maxRecDepth 20000 in
theorem ggX6_leadOn_X6_isVessel : GoodIn wsX6_leadOn wsX6_isVessel := goodIn_r _ [10] (by decide +kernel) (by decide +kernel)
set_option maxRecDepth 20000 in
theorem gX6_leadOn_X6_isVessel : GoodIn wsX6_leadOn (va_wsS RX6 275 yX6_isVessel wsX6_isVessel) := goodIn_app (goodIn_of _ (by decide +kernel)) ggX6_leadOn_X6_isVessel
theorem dX6_leadOn_0 : decode cX6_leadOn 0 = .ok (.bipush 10, 2) := by decide +kernel
theorem dX6_leadOn_2 : decode cX6_leadOn 2 = .ok (.istore_n 3, 1) := by decide +kernel
theorem dX6_leadOn_3 : decode cX6_leadOn 3 = .ok (.iload_n 1, 1) := by decide +kernel
theorem dX6_leadOn_4 : decode cX6_leadOn 4 = .ok (.invokestatic 275, 3) := by decide +kernel
theorem dX6_leadOn_7 : decode cX6_leadOn 7 = .ok (.ifCond .eq 25, 3) := by decide +kernel
theorem dX6_leadOn_10 : decode cX6_leadOn 10 = .ok (.bipush 10, 2) := by decide +kernel
theorem dX6_leadOn_12 : decode cX6_leadOn 12 = .ok (.aload_n 0, 1) := by decide +kernel
theorem dX6_leadOn_13 : decode cX6_leadOn 13 = .ok (.getfield 15, 3) := by decide +kernel
theorem dX6_leadOn_16 : decode cX6_leadOn 16 = .ok (.iload_n 1, 1) := by decide +kernel
theorem dX6_leadOn_17 : decode cX6_leadOn 17 = .ok (.iaload, 1) := by decide +kernel
theorem dX6_leadOn_18 : decode cX6_leadOn 18 = .ok (.invokestatic 306, 3) := by decide +kernel
theorem dX6_leadOn_21 : decode cX6_leadOn 21 = .ok (.istore_n 3, 1) := by decide +kernel
theorem dX6_leadOn_22 : decode cX6_leadOn 22 = .ok (.aload_n 0, 1) := by decide +kernel
theorem dX6_leadOn_23 : decode cX6_leadOn 23 = .ok (.getfield 15, 3) := by decide +kernel
theorem dX6_leadOn_26 : decode cX6_leadOn 26 = .ok (.iload_n 1, 1) := by decide +kernel
theorem dX6_leadOn_27 : decode cX6_leadOn 27 = .ok (.dup2, 1) := by decide +kernel
theorem dX6_leadOn_28 : decode cX6_leadOn 28 = .ok (.iaload, 1) := by decide +kernel
theorem dX6_leadOn_29 : decode cX6_leadOn 29 = .ok (.iload_n 3, 1) := by decide +kernel
theorem dX6_leadOn_30 : decode cX6_leadOn 30 = .ok (.isub, 1) := by decide +kernel
theorem dX6_leadOn_31 : decode cX6_leadOn 31 = .ok (.iastore, 1) := by decide +kernel
theorem dX6_leadOn_32 : decode cX6_leadOn 32 = .ok (.iload_n 2, 1) := by decide +kernel
theorem dX6_leadOn_33 : decode cX6_leadOn 33 = .ok (.invokestatic 275, 3) := by decide +kernel
theorem dX6_leadOn_36 : decode cX6_leadOn 36 = .ok (.ifCond .eq 45, 3) := by decide +kernel
theorem dX6_leadOn_39 : decode cX6_leadOn 39 = .ok (.aload_n 0, 1) := by decide +kernel
theorem dX6_leadOn_40 : decode cX6_leadOn 40 = .ok (.getfield 15, 3) := by decide +kernel
theorem dX6_leadOn_43 : decode cX6_leadOn 43 = .ok (.iload_n 2, 1) := by decide +kernel
theorem dX6_leadOn_44 : decode cX6_leadOn 44 = .ok (.iaload, 1) := by decide +kernel
theorem dX6_leadOn_45 : decode cX6_leadOn 45 = .ok (.iload_n 3, 1) := by decide +kernel
theorem dX6_leadOn_46 : decode cX6_leadOn 46 = .ok (.iadd, 1) := by decide +kernel
theorem dX6_leadOn_47 : decode cX6_leadOn 47 = .ok (.istore 4, 2) := by decide +kernel
theorem dX6_leadOn_49 : decode cX6_leadOn 49 = .ok (.aload_n 0, 1) := by decide +kernel
theorem dX6_leadOn_50 : decode cX6_leadOn 50 = .ok (.getfield 15, 3) := by decide +kernel
theorem dX6_leadOn_53 : decode cX6_leadOn 53 = .ok (.iload_n 2, 1) := by decide +kernel
theorem dX6_leadOn_54 : decode cX6_leadOn 54 = .ok (.sipush 1000, 3) := by decide +kernel
theorem dX6_leadOn_57 : decode cX6_leadOn 57 = .ok (.iload 4, 2) := by decide +kernel
theorem dX6_leadOn_59 : decode cX6_leadOn 59 = .ok (.invokestatic 306, 3) := by decide +kernel
theorem dX6_leadOn_62 : decode cX6_leadOn 62 = .ok (.iastore, 1) := by decide +kernel
theorem dX6_leadOn_63 : decode cX6_leadOn 63 = .ok (.aload_n 0, 1) := by decide +kernel
theorem dX6_leadOn_64 : decode cX6_leadOn 64 = .ok (.dup, 1) := by decide +kernel
theorem dX6_leadOn_65 : decode cX6_leadOn 65 = .ok (.getfield 63, 3) := by decide +kernel
theorem dX6_leadOn_68 : decode cX6_leadOn 68 = .ok (.iload 4, 2) := by decide +kernel
theorem dX6_leadOn_70 : decode cX6_leadOn 70 = .ok (.aload_n 0, 1) := by decide +kernel
theorem dX6_leadOn_71 : decode cX6_leadOn 71 = .ok (.getfield 15, 3) := by decide +kernel
theorem dX6_leadOn_74 : decode cX6_leadOn 74 = .ok (.iload_n 2, 1) := by decide +kernel
theorem dX6_leadOn_75 : decode cX6_leadOn 75 = .ok (.iaload, 1) := by decide +kernel
theorem dX6_leadOn_76 : decode cX6_leadOn 76 = .ok (.isub, 1) := by decide +kernel
theorem dX6_leadOn_77 : decode cX6_leadOn 77 = .ok (.iadd, 1) := by decide +kernel
theorem dX6_leadOn_78 : decode cX6_leadOn 78 = .ok (.putfield 63, 3) := by decide +kernel
theorem dX6_leadOn_81 : decode cX6_leadOn 81 = .ok (.return_, 1) := by decide +kernel
set_option maxRecDepth 20000 in
theorem ggX6_watch_Jx4a65c_get_915e3 : GoodIn wsX6_watch wsJx4a65c_get_915e3 := goodIn_r _ [10, 11, 12, 13, 14, 15, 16, 17, 18, 19, 20, 21, 22, 9, 23, 24, 96, 97, 98] (by decide +kernel) (by decide +kernel)
set_option maxRecDepth 20000 in
theorem gX6_watch_Jx4a65c_get_915e3 : GoodIn wsX6_watch (wsV RX6 161 RJx4a65c yJx4a65c_get_915e3 wsJx4a65c_get_915e3) := goodIn_app (goodIn_of _ (by decide +kernel)) ggX6_watch_Jx4a65c_get_915e3
set_option maxRecDepth 20000 in
theorem ggX6_watch_X0_isMetBy : GoodIn wsX6_watch wsX0_isMetBy := goodIn_r _ [28, 29, 30, 90, 91, 92, 93, 94, 95] (by decide +kernel) (by decide +kernel)
set_option maxRecDepth 20000 in
theorem gX6_watch_X0_isMetBy_n314 : GoodIn wsX6_watch (wsX0_isMetBy) := ggX6_watch_X0_isMetBy
set_option maxRecDepth 20000 in
theorem ggX6_watch_X2_note : GoodIn wsX6_watch wsX2_note := goodIn_r _ [34, 35, 36, 37, 38, 39, 40, 41, 42, 43, 44, 45, 46, 47, 48, 49, 50, 51, 52, 53, 54, 55, 99, 100] (by decide +kernel) (by decide +kernel)
set_option maxRecDepth 20000 in
theorem gX6_watch_X2_note_n154 : GoodIn wsX6_watch (wsX2_note) := ggX6_watch_X2_note
set_option maxRecDepth 20000 in
theorem ggX6_watch_X6_hasTagOfAnother : GoodIn wsX6_watch wsX6_hasTagOfAnother := goodIn_r _ [60, 61, 62, 63, 64, 65, 9, 66, 11, 6, 7, 8, 10, 12, 13, 14, 15, 16, 17, 18, 19, 20, 21, 22, 23, 24, 76, 77, 78, 79, 80, 81, 82, 83, 84, 85, 86, 87, 88, 89, 101, 102, 103, 104, 96, 97, 98] (by decide +kernel) (by decide +kernel)
set_option maxRecDepth 20000 in
theorem gX6_watch_X6_hasTagOfAnother : GoodIn wsX6_watch (wsV RX6 293 RX6 yX6_hasTagOfAnother wsX6_hasTagOfAnother) := goodIn_app (goodIn_of _ (by decide +kernel)) ggX6_watch_X6_hasTagOfAnother
set_option maxRecDepth 20000 in
theorem ggX6_watch_X6_setValve : GoodIn wsX6_watch wsX6_setValve := goodIn_r _ [70, 71, 4, 5, 72, 32, 73, 74, 75, 31, 33, 34, 35, 36, 37, 38, 39, 40, 41, 42, 43, 44, 45, 46, 47, 48, 49, 50, 51, 52, 53, 54, 55, 76, 77, 78, 79, 80, 81, 82, 83, 84, 85, 86, 87, 88, 89, 105, 106, 107, 99, 100] (by decide +kernel) (by decide +kernel)
set_option maxRecDepth 20000 in
theorem gX6_watch_X6_setValve : GoodIn wsX6_watch (wsV RX6 119 RX6 yX6_setValve wsX6_setValve) := goodIn_app (goodIn_of _ (by decide +kernel)) ggX6_watch_X6_setValve
theorem dX6_watch_0 : decode cX6_watch 0 = .ok (.aload_n 0, 1) := by decide +kernel
theorem dX6_watch_1 : decode cX6_watch 1 = .ok (.getfield 33, 3) := by decide +kernel
theorem dX6_watch_4 : decode cX6_watch 4 = .ok (.iload_n 1, 1) := by decide +kernel
theorem dX6_watch_5 : decode cX6_watch 5 = .ok (.invokevirtual 161, 3) := by decide +kernel
theorem dX6_watch_8 : decode cX6_watch 8 = .ok (.checkcast 212, 3) := by decide +kernel
theorem dX6_watch_11 : decode cX6_watch 11 = .ok (.astore_n 2, 1) := by decide +kernel
theorem dX6_watch_12 : decode cX6_watch 12 = .ok (.aload_n 2, 1) := by decide +kernel
theorem dX6_watch_13 : decode cX6_watch 13 = .ok (.aload_n 0, 1) := by decide +kernel
theorem dX6_watch_14 : decode cX6_watch 14 = .ok (.getfield 15, 3) := by decide +kernel
theorem dX6_watch_17 : decode cX6_watch 17 = .ok (.aload_n 2, 1) := by decide +kernel
theorem dX6_watch_18 : decode cX6_watch 18 = .ok (.getfield 311, 3) := by decide +kernel
theorem dX6_watch_21 : decode cX6_watch 21 = .ok (.iaload, 1) := by decide +kernel
theorem dX6_watch_22 : decode cX6_watch 22 = .ok (.invokevirtual 314, 3) := by decide +kernel
theorem dX6_watch_25 : decode cX6_watch 25 = .ok (.ifCond .ne 9, 3) := by decide +kernel
theorem dX6_watch_28 : decode cX6_watch 28 = .ok (.aload_n 2, 1) := by decide +kernel
theorem dX6_watch_29 : decode cX6_watch 29 = .ok (.iconst 0, 1) := by decide +kernel
theorem dX6_watch_30 : decode cX6_watch 30 = .ok (.putfield 219, 3) := by decide +kernel
theorem dX6_watch_33 : decode cX6_watch 33 = .ok (.return_, 1) := by decide +kernel
theorem dX6_watch_34 : decode cX6_watch 34 = .ok (.aload_n 2, 1) := by decide +kernel
theorem dX6_watch_35 : decode cX6_watch 35 = .ok (.getfield 219, 3) := by decide +kernel
theorem dX6_watch_38 : decode cX6_watch 38 = .ok (.iconst 1, 1) := by decide +kernel
theorem dX6_watch_39 : decode cX6_watch 39 = .ok (.if_icmp .ne 4, 3) := by decide +kernel
theorem dX6_watch_42 : decode cX6_watch 42 = .ok (.return_, 1) := by decide +kernel
theorem dX6_watch_43 : decode cX6_watch 43 = .ok (.aload_n 2, 1) := by decide +kernel
theorem dX6_watch_44 : decode cX6_watch 44 = .ok (.getfield 219, 3) := by decide +kernel
theorem dX6_watch_47 : decode cX6_watch 47 = .ok (.ifCond .ne 17, 3) := by decide +kernel
theorem dX6_watch_50 : decode cX6_watch 50 = .ok (.aload_n 0, 1) := by decide +kernel
theorem dX6_watch_51 : decode cX6_watch 51 = .ok (.getfield 45, 3) := by decide +kernel
theorem dX6_watch_54 : decode cX6_watch 54 = .ok (.aload_n 0, 1) := by decide +kernel
theorem dX6_watch_55 : decode cX6_watch 55 = .ok (.getfield 56, 3) := by decide +kernel
theorem dX6_watch_58 : decode cX6_watch 58 = .ok (.iconst 3, 1) := by decide +kernel
theorem dX6_watch_59 : decode cX6_watch 59 = .ok (.iconst (-1), 1) := by decide +kernel
theorem dX6_watch_60 : decode cX6_watch 60 = .ok (.iload_n 1, 1) := by decide +kernel
theorem dX6_watch_61 : decode cX6_watch 61 = .ok (.invokevirtual 154, 3) := by decide +kernel
theorem dX6_watch_64 : decode cX6_watch 64 = .ok (.aload_n 0, 1) := by decide +kernel
theorem dX6_watch_65 : decode cX6_watch 65 = .ok (.aload_n 2, 1) := by decide +kernel
theorem dX6_watch_66 : decode cX6_watch 66 = .ok (.getfield 317, 3) := by decide +kernel
theorem dX6_watch_69 : decode cX6_watch 69 = .ok (.iconst (-1), 1) := by decide +kernel
theorem dX6_watch_70 : decode cX6_watch 70 = .ok (.invokevirtual 293, 3) := by decide +kernel
theorem dX6_watch_73 : decode cX6_watch 73 = .ok (.ifCond .eq 9, 3) := by decide +kernel
theorem dX6_watch_76 : decode cX6_watch 76 = .ok (.aload_n 2, 1) := by decide +kernel
theorem dX6_watch_77 : decode cX6_watch 77 = .ok (.iconst 2, 1) := by decide +kernel
theorem dX6_watch_78 : decode cX6_watch 78 = .ok (.putfield 219, 3) := by decide +kernel
theorem dX6_watch_81 : decode cX6_watch 81 = .ok (.return_, 1) := by decide +kernel
theorem dX6_watch_82 : decode cX6_watch 82 = .ok (.aload_n 0, 1) := by decide +kernel
theorem dX6_watch_83 : decode cX6_watch 83 = .ok (.iconst (-1), 1) := by decide +kernel
theorem dX6_watch_84 : decode cX6_watch 84 = .ok (.aload_n 2, 1) := by decide +kernel
theorem dX6_watch_85 : decode cX6_watch 85 = .ok (.getfield 317, 3) := by decide +kernel
theorem dX6_watch_88 : decode cX6_watch 88 = .ok (.aload_n 2, 1) := by decide +kernel
theorem dX6_watch_89 : decode cX6_watch 89 = .ok (.getfield 318, 3) := by decide +kernel
theorem dX6_watch_92 : decode cX6_watch 92 = .ok (.invokevirtual 119, 3) := by decide +kernel
theorem dX6_watch_95 : decode cX6_watch 95 = .ok (.pop, 1) := by decide +kernel
theorem dX6_watch_96 : decode cX6_watch 96 = .ok (.aload_n 2, 1) := by decide +kernel
theorem dX6_watch_97 : decode cX6_watch 97 = .ok (.iconst 1, 1) := by decide +kernel
theorem dX6_watch_98 : decode cX6_watch 98 = .ok (.putfield 219, 3) := by decide +kernel
theorem dX6_watch_101 : decode cX6_watch 101 = .ok (.return_, 1) := by decide +kernel
end
section
theorem dX7_init_0 : decode cX7_init 0 = .ok (.aload_n 0, 1) := by decide +kernel
theorem dX7_init_1 : decode cX7_init 1 = .ok (.invokespecial 1, 3) := by decide +kernel
theorem dX7_init_4 : decode cX7_init 4 = .ok (.aload_n 0, 1) := by decide +kernel
theorem dX7_init_5 : decode cX7_init 5 = .ok (.sipush 12500, 3) := by decide +kernel
theorem dX7_init_8 : decode cX7_init 8 = .ok (.newarray .long, 2) := by decide +kernel
theorem dX7_init_10 : decode cX7_init 10 = .ok (.putfield 7, 3) := by decide +kernel
theorem dX7_init_13 : decode cX7_init 13 = .ok (.aload_n 0, 1) := by decide +kernel
theorem dX7_init_14 : decode cX7_init 14 = .ok (.bipush 9, 2) := by decide +kernel
theorem dX7_init_16 : decode cX7_init 16 = .ok (.newarray .int, 2) := by decide +kernel
theorem dX7_init_18 : decode cX7_init 18 = .ok (.putfield 13, 3) := by decide +kernel
theorem dX7_init_21 : decode cX7_init 21 = .ok (.aload_n 0, 1) := by decide +kernel
theorem dX7_init_22 : decode cX7_init 22 = .ok (.bipush 9, 2) := by decide +kernel
theorem dX7_init_24 : decode cX7_init 24 = .ok (.newarray .boolean, 2) := by decide +kernel
theorem dX7_init_26 : decode cX7_init 26 = .ok (.putfield 17, 3) := by decide +kernel
theorem dX7_init_29 : decode cX7_init 29 = .ok (.aload_n 0, 1) := by decide +kernel
theorem dX7_init_30 : decode cX7_init 30 = .ok (.bipush 8, 2) := by decide +kernel
theorem dX7_init_32 : decode cX7_init 32 = .ok (.newarray .boolean, 2) := by decide +kernel
theorem dX7_init_34 : decode cX7_init 34 = .ok (.putfield 21, 3) := by decide +kernel
theorem dX7_init_37 : decode cX7_init 37 = .ok (.aload_n 0, 1) := by decide +kernel
theorem dX7_init_38 : decode cX7_init 38 = .ok (.bipush 8, 2) := by decide +kernel
theorem dX7_init_40 : decode cX7_init 40 = .ok (.newarray .int, 2) := by decide +kernel
theorem dX7_init_42 : decode cX7_init 42 = .ok (.dup, 1) := by decide +kernel
theorem dX7_init_43 : decode cX7_init 43 = .ok (.iconst 0, 1) := by decide +kernel
theorem dX7_init_44 : decode cX7_init 44 = .ok (.iconst (-1), 1) := by decide +kernel
theorem dX7_init_45 : decode cX7_init 45 = .ok (.iastore, 1) := by decide +kernel
theorem dX7_init_46 : decode cX7_init 46 = .ok (.dup, 1) := by decide +kernel
theorem dX7_init_47 : decode cX7_init 47 = .ok (.iconst 1, 1) := by decide +kernel
theorem dX7_init_48 : decode cX7_init 48 = .ok (.iconst (-1), 1) := by decide +kernel
theorem dX7_init_49 : decode cX7_init 49 = .ok (.iastore, 1) := by decide +kernel
theorem dX7_init_50 : decode cX7_init 50 = .ok (.dup, 1) := by decide +kernel
theorem dX7_init_51 : decode cX7_init 51 = .ok (.iconst 2, 1) := by decide +kernel
theorem dX7_init_52 : decode cX7_init 52 = .ok (.iconst (-1), 1) := by decide +kernel
theorem dX7_init_53 : decode cX7_init 53 = .ok (.iastore, 1) := by decide +kernel
theorem dX7_init_54 : decode cX7_init 54 = .ok (.dup, 1) := by decide +kernel
theorem dX7_init_55 : decode cX7_init 55 = .ok (.iconst 3, 1) := by decide +kernel
theorem dX7_init_56 : decode cX7_init 56 = .ok (.iconst (-1), 1) := by decide +kernel
theorem dX7_init_57 : decode cX7_init 57 = .ok (.iastore, 1) := by decide +kernel
theorem dX7_init_58 : decode cX7_init 58 = .ok (.dup, 1) := by decide +kernel
theorem dX7_init_59 : decode cX7_init 59 = .ok (.iconst 4, 1) := by decide +kernel
theorem dX7_init_60 : decode cX7_init 60 = .ok (.iconst (-1), 1) := by decide +kernel
theorem dX7_init_61 : decode cX7_init 61 = .ok (.iastore, 1) := by decide +kernel
theorem dX7_init_62 : decode cX7_init 62 = .ok (.dup, 1) := by decide +kernel
theorem dX7_init_63 : decode cX7_init 63 = .ok (.iconst 5, 1) := by decide +kernel
theorem dX7_init_64 : decode cX7_init 64 = .ok (.iconst (-1), 1) := by decide +kernel
theorem dX7_init_65 : decode cX7_init 65 = .ok (.iastore, 1) := by decide +kernel
theorem dX7_init_66 : decode cX7_init 66 = .ok (.dup, 1) := by decide +kernel
theorem dX7_init_67 : decode cX7_init 67 = .ok (.bipush 6, 2) := by decide +kernel
theorem dX7_init_69 : decode cX7_init 69 = .ok (.iconst (-1), 1) := by decide +kernel
theorem dX7_init_70 : decode cX7_init 70 = .ok (.iastore, 1) := by decide +kernel
theorem dX7_init_71 : decode cX7_init 71 = .ok (.dup, 1) := by decide +kernel
theorem dX7_init_72 : decode cX7_init 72 = .ok (.bipush 7, 2) := by decide +kernel
theorem dX7_init_74 : decode cX7_init 74 = .ok (.iconst (-1), 1) := by decide +kernel
theorem dX7_init_75 : decode cX7_init 75 = .ok (.iastore, 1) := by decide +kernel
theorem dX7_init_76 : decode cX7_init 76 = .ok (.putfield 24, 3) := by decide +kernel
theorem dX7_init_79 : decode cX7_init 79 = .ok (.aload_n 0, 1) := by decide +kernel
theorem dX7_init_80 : decode cX7_init 80 = .ok (.bipush 8, 2) := by decide +kernel
theorem dX7_init_82 : decode cX7_init 82 = .ok (.newarray .int, 2) := by decide +kernel
theorem dX7_init_84 : decode cX7_init 84 = .ok (.putfield 27, 3) := by decide +kernel
theorem dX7_init_87 : decode cX7_init 87 = .ok (.aload_n 0, 1) := by decide +kernel
theorem dX7_init_88 : decode cX7_init 88 = .ok (.iconst 3, 1) := by decide +kernel
theorem dX7_init_89 : decode cX7_init 89 = .ok (.newarray .int, 2) := by decide +kernel
theorem dX7_init_91 : decode cX7_init 91 = .ok (.putfield 30, 3) := by decide +kernel
theorem dX7_init_94 : decode cX7_init 94 = .ok (.aload_n 0, 1) := by decide +kernel
theorem dX7_init_95 : decode cX7_init 95 = .ok (.bipush 40, 2) := by decide +kernel
theorem dX7_init_97 : decode cX7_init 97 = .ok (.newarray .int, 2) := by decide +kernel
theorem dX7_init_99 : decode cX7_init 99 = .ok (.putfield 33, 3) := by decide +kernel
theorem dX7_init_102 : decode cX7_init 102 = .ok (.aload_n 0, 1) := by decide +kernel
theorem dX7_init_103 : decode cX7_init 103 = .ok (.bipush 40, 2) := by decide +kernel
theorem dX7_init_105 : decode cX7_init 105 = .ok (.newarray .int, 2) := by decide +kernel
theorem dX7_init_107 : decode cX7_init 107 = .ok (.putfield 36, 3) := by decide +kernel
theorem dX7_init_110 : decode cX7_init 110 = .ok (.aload_n 0, 1) := by decide +kernel
theorem dX7_init_111 : decode cX7_init 111 = .ok (.bipush 40, 2) := by decide +kernel
theorem dX7_init_113 : decode cX7_init 113 = .ok (.newarray .int, 2) := by decide +kernel
theorem dX7_init_115 : decode cX7_init 115 = .ok (.putfield 39, 3) := by decide +kernel
theorem dX7_init_118 : decode cX7_init 118 = .ok (.aload_n 0, 1) := by decide +kernel
theorem dX7_init_119 : decode cX7_init 119 = .ok (.bipush 10, 2) := by decide +kernel
theorem dX7_init_121 : decode cX7_init 121 = .ok (.newarray .int, 2) := by decide +kernel
theorem dX7_init_123 : decode cX7_init 123 = .ok (.putfield 42, 3) := by decide +kernel
theorem dX7_init_126 : decode cX7_init 126 = .ok (.aload_n 0, 1) := by decide +kernel
theorem dX7_init_127 : decode cX7_init 127 = .ok (.bipush 10, 2) := by decide +kernel
theorem dX7_init_129 : decode cX7_init 129 = .ok (.newarray .int, 2) := by decide +kernel
theorem dX7_init_131 : decode cX7_init 131 = .ok (.putfield 45, 3) := by decide +kernel
theorem dX7_init_134 : decode cX7_init 134 = .ok (.aload_n 0, 1) := by decide +kernel
theorem dX7_init_135 : decode cX7_init 135 = .ok (.bipush 10, 2) := by decide +kernel
theorem dX7_init_137 : decode cX7_init 137 = .ok (.newarray .boolean, 2) := by decide +kernel
theorem dX7_init_139 : decode cX7_init 139 = .ok (.putfield 48, 3) := by decide +kernel
theorem dX7_init_142 : decode cX7_init 142 = .ok (.aload_n 0, 1) := by decide +kernel
theorem dX7_init_143 : decode cX7_init 143 = .ok (.bipush 10, 2) := by decide +kernel
theorem dX7_init_145 : decode cX7_init 145 = .ok (.newarray .int, 2) := by decide +kernel
theorem dX7_init_147 : decode cX7_init 147 = .ok (.putfield 51, 3) := by decide +kernel
theorem dX7_init_150 : decode cX7_init 150 = .ok (.aload_n 0, 1) := by decide +kernel
theorem dX7_init_151 : decode cX7_init 151 = .ok (.bipush 10, 2) := by decide +kernel
theorem dX7_init_153 : decode cX7_init 153 = .ok (.newarray .boolean, 2) := by decide +kernel
theorem dX7_init_155 : decode cX7_init 155 = .ok (.putfield 54, 3) := by decide +kernel
theorem dX7_init_158 : decode cX7_init 158 = .ok (.aload_n 0, 1) := by decide +kernel
theorem dX7_init_159 : decode cX7_init 159 = .ok (.bipush 10, 2) := by decide +kernel
theorem dX7_init_161 : decode cX7_init 161 = .ok (.newarray .int, 2) := by decide +kernel
theorem dX7_init_163 : decode cX7_init 163 = .ok (.putfield 57, 3) := by decide +kernel
theorem dX7_init_166 : decode cX7_init 166 = .ok (.aload_n 0, 1) := by decide +kernel
theorem dX7_init_167 : decode cX7_init 167 = .ok (.bipush 40, 2) := by decide +kernel
theorem dX7_init_169 : decode cX7_init 169 = .ok (.newarray .char, 2) := by decide +kernel
theorem dX7_init_171 : decode cX7_init 171 = .ok (.putfield 60, 3) := by decide +kernel
theorem dX7_init_174 : decode cX7_init 174 = .ok (.aload_n 0, 1) := by decide +kernel
theorem dX7_init_175 : decode cX7_init 175 = .ok (.bipush 60, 2) := by decide +kernel
theorem dX7_init_177 : decode cX7_init 177 = .ok (.newarray .int, 2) := by decide +kernel
theorem dX7_init_179 : decode cX7_init 179 = .ok (.putfield 64, 3) := by decide +kernel
theorem dX7_init_182 : decode cX7_init 182 = .ok (.aload_n 0, 1) := by decide +kernel
theorem dX7_init_183 : decode cX7_init 183 = .ok (.sipush 2400, 3) := by decide +kernel
theorem dX7_init_186 : decode cX7_init 186 = .ok (.newarray .char, 2) := by decide +kernel
theorem dX7_init_188 : decode cX7_init 188 = .ok (.putfield 67, 3) := by decide +kernel
theorem dX7_init_191 : decode cX7_init 191 = .ok (.aload_n 0, 1) := by decide +kernel
theorem dX7_init_192 : decode cX7_init 192 = .ok (.bipush 60, 2) := by decide +kernel
theorem dX7_init_194 : decode cX7_init 194 = .ok (.newarray .int, 2) := by decide +kernel
theorem dX7_init_196 : decode cX7_init 196 = .ok (.putfield 70, 3) := by decide +kernel
theorem dX7_init_199 : decode cX7_init 199 = .ok (.aload_n 0, 1) := by decide +kernel
theorem dX7_init_200 : decode cX7_init 200 = .ok (.bipush 40, 2) := by decide +kernel
theorem dX7_init_202 : decode cX7_init 202 = .ok (.newarray .int, 2) := by decide +kernel
theorem dX7_init_204 : decode cX7_init 204 = .ok (.putfield 73, 3) := by decide +kernel
theorem dX7_init_207 : decode cX7_init 207 = .ok (.return_, 1) := by decide +kernel
theorem dX7_thrown_0 : decode cX7_thrown 0 = .ok (.aload_n 0, 1) := by decide +kernel
theorem dX7_thrown_1 : decode cX7_thrown 1 = .ok (.getfield 76, 3) := by decide +kernel
theorem dX7_thrown_4 : decode cX7_thrown 4 = .ok (.ireturn, 1) := by decide +kernel
theorem dX7_in_0 : decode cX7_in 0 = .ok (.iload_n 0, 1) := by decide +kernel
theorem dX7_in_1 : decode cX7_in 1 = .ok (.iload_n 1, 1) := by decide +kernel
theorem dX7_in_2 : decode cX7_in 2 = .ok (.if_icmp .lt 12, 3) := by decide +kernel
theorem dX7_in_5 : decode cX7_in 5 = .ok (.iload_n 0, 1) := by decide +kernel
theorem dX7_in_6 : decode cX7_in 6 = .ok (.iload_n 2, 1) := by decide +kernel
theorem dX7_in_7 : decode cX7_in 7 = .ok (.if_icmp .gt 7, 3) := by decide +kernel
theorem dX7_in_10 : decode cX7_in 10 = .ok (.iconst 1, 1) := by decide +kernel
theorem dX7_in_11 : decode cX7_in 11 = .ok (.goto 4, 3) := by decide +kernel
theorem dX7_in_14 : decode cX7_in 14 = .ok (.iconst 0, 1) := by decide +kernel
theorem dX7_in_15 : decode cX7_in 15 = .ok (.ireturn, 1) := by decide +kernel
set_option maxRecDepth 20000 in
theorem ggX7_isPerson_X7_in : GoodIn wsX7_isPerson wsX7_in := goodIn_r _ [4] (by decide +kernel) (by decide +kernel)
set_option maxRecDepth 20000 in
theorem gX7_isPerson_X7_in : GoodIn wsX7_isPerson (va_wsS RX7 80 yX7_in wsX7_in) := goodIn_app (goodIn_of _ (by decide +kernel)) ggX7_isPerson_X7_in
theorem dX7_isPerson_0 : decode cX7_isPerson 0 = .ok (.iload_n 0, 1) := by decide +kernel
theorem dX7_isPerson_1 : decode cX7_isPerson 1 = .ok (.iconst 0, 1) := by decide +kernel
theorem dX7_isPerson_2 : decode cX7_isPerson 2 = .ok (.bipush 8, 2) := by decide +kernel
theorem dX7_isPerson_4 : decode cX7_isPerson 4 = .ok (.invokestatic 80, 3) := by decide +kernel
theorem dX7_isPerson_7 : decode cX7_isPerson 7 = .ok (.ireturn, 1) := by decide +kernel
set_option maxRecDepth 20000 in
theorem ggX7_isValve_X7_in : GoodIn wsX7_isValve wsX7_in := goodIn_r _ [4] (by decide +kernel) (by decide +kernel)
set_option maxRecDepth 20000 in
theorem gX7_isValve_X7_in : GoodIn wsX7_isValve (va_wsS RX7 80 yX7_in wsX7_in) := goodIn_app (goodIn_of _ (by decide +kernel)) ggX7_isValve_X7_in
theorem dX7_isValve_0 : decode cX7_isValve 0 = .ok (.iload_n 0, 1) := by decide +kernel
theorem dX7_isValve_1 : decode cX7_isValve 1 = .ok (.iconst 0, 1) := by decide +kernel
theorem dX7_isValve_2 : decode cX7_isValve 2 = .ok (.bipush 7, 2) := by decide +kernel
theorem dX7_isValve_4 : decode cX7_isValve 4 = .ok (.invokestatic 80, 3) := by decide +kernel
theorem dX7_isValve_7 : decode cX7_isValve 7 = .ok (.ireturn, 1) := by decide +kernel
set_option maxRecDepth 20000 in
theorem ggX7_isVessel_X7_in : GoodIn wsX7_isVessel wsX7_in := goodIn_r _ [4] (by decide +kernel) (by decide +kernel)
set_option maxRecDepth 20000 in
theorem gX7_isVessel_X7_in : GoodIn wsX7_isVessel (va_wsS RX7 80 yX7_in wsX7_in) := goodIn_app (goodIn_of _ (by decide +kernel)) ggX7_isVessel_X7_in
theorem dX7_isVessel_0 : decode cX7_isVessel 0 = .ok (.iload_n 0, 1) := by decide +kernel
theorem dX7_isVessel_1 : decode cX7_isVessel 1 = .ok (.iconst 0, 1) := by decide +kernel
theorem dX7_isVessel_2 : decode cX7_isVessel 2 = .ok (.iconst 2, 1) := by decide +kernel
theorem dX7_isVessel_3 : decode cX7_isVessel 3 = .ok (.invokestatic 80, 3) := by decide +kernel
theorem dX7_isVessel_6 : decode cX7_isVessel 6 = .ok (.ireturn, 1) := by decide +kernel
set_option maxRecDepth 20000 in
theorem ggX7_isTag_X7_in : GoodIn wsX7_isTag wsX7_in := goodIn_r _ [5] (by decide +kernel) (by decide +kernel)
set_option maxRecDepth 20000 in
theorem gX7_isTag_X7_in : GoodIn wsX7_isTag (va_wsS RX7 80 yX7_in wsX7_in) := goodIn_app (goodIn_of _ (by decide +kernel)) ggX7_isTag_X7_in
theorem dX7_isTag_0 : decode cX7_isTag 0 = .ok (.iload_n 1, 1) := by decide +kernel
theorem dX7_isTag_1 : decode cX7_isTag 1 = .ok (.iconst 0, 1) := by decide +kernel
theorem dX7_isTag_2 : decode cX7_isTag 2 = .ok (.aload_n 0, 1) := by decide +kernel
theorem dX7_isTag_3 : decode cX7_isTag 3 = .ok (.getfield 84, 3) := by decide +kernel
theorem dX7_isTag_6 : decode cX7_isTag 6 = .ok (.iconst 1, 1) := by decide +kernel
theorem dX7_isTag_7 : decode cX7_isTag 7 = .ok (.isub, 1) := by decide +kernel
theorem dX7_isTag_8 : decode cX7_isTag 8 = .ok (.invokestatic 80, 3) := by decide +kernel
theorem dX7_isTag_11 : decode cX7_isTag 11 = .ok (.ireturn, 1) := by decide +kernel
theorem dX7_notes_0 : decode cX7_notes 0 = .ok (.ldc2_w 87, 3) := by decide +kernel
theorem dX7_notes_3 : decode cX7_notes 3 = .ok (.aload_n 0, 1) := by decide +kernel
theorem dX7_notes_4 : decode cX7_notes 4 = .ok (.getfield 89, 3) := by decide +kernel
theorem dX7_notes_7 : decode cX7_notes 7 = .ok (.i2l, 1) := by decide +kernel
theorem dX7_notes_8 : decode cX7_notes 8 = .ok (.lmul, 1) := by decide +kernel
theorem dX7_notes_9 : decode cX7_notes 9 = .ok (.sipush 1000, 3) := by decide +kernel
theorem dX7_notes_12 : decode cX7_notes 12 = .ok (.iload_n 1, 1) := by decide +kernel
theorem dX7_notes_13 : decode cX7_notes 13 = .ok (.imul, 1) := by decide +kernel
theorem dX7_notes_14 : decode cX7_notes 14 = .ok (.i2l, 1) := by decide +kernel
theorem dX7_notes_15 : decode cX7_notes 15 = .ok (.ladd, 1) := by decide +kernel
theorem dX7_notes_16 : decode cX7_notes 16 = .ok (.bipush 100, 2) := by decide +kernel
theorem dX7_notes_18 : decode cX7_notes 18 = .ok (.iload_n 2, 1) := by decide +kernel
theorem dX7_notes_19 : decode cX7_notes 19 = .ok (.iconst 1, 1) := by decide +kernel
theorem dX7_notes_20 : decode cX7_notes 20 = .ok (.iadd, 1) := by decide +kernel
theorem dX7_notes_21 : decode cX7_notes 21 = .ok (.imul, 1) := by decide +kernel
theorem dX7_notes_22 : decode cX7_notes 22 = .ok (.i2l, 1) := by decide +kernel
theorem dX7_notes_23 : decode cX7_notes 23 = .ok (.ladd, 1) := by decide +kernel
theorem dX7_notes_24 : decode cX7_notes 24 = .ok (.iload_n 3, 1) := by decide +kernel
theorem dX7_notes_25 : decode cX7_notes 25 = .ok (.i2l, 1) := by decide +kernel
theorem dX7_notes_26 : decode cX7_notes 26 = .ok (.ladd, 1) := by decide +kernel
theorem dX7_notes_27 : decode cX7_notes 27 = .ok (.lstore 4, 2) := by decide +kernel
theorem dX7_notes_29 : decode cX7_notes 29 = .ok (.aload_n 0, 1) := by decide +kernel
theorem dX7_notes_30 : decode cX7_notes 30 = .ok (.getfield 92, 3) := by decide +kernel
theorem dX7_notes_33 : decode cX7_notes 33 = .ok (.iconst 2, 1) := by decide +kernel
theorem dX7_notes_34 : decode cX7_notes 34 = .ok (.idiv, 1) := by decide +kernel
theorem dX7_notes_35 : decode cX7_notes 35 = .ok (.istore 6, 2) := by decide +kernel
theorem dX7_notes_37 : decode cX7_notes 37 = .ok (.aload_n 0, 1) := by decide +kernel
theorem dX7_notes_38 : decode cX7_notes 38 = .ok (.getfield 7, 3) := by decide +kernel
theorem dX7_notes_41 : decode cX7_notes 41 = .ok (.iload 6, 2) := by decide +kernel
theorem dX7_notes_43 : decode cX7_notes 43 = .ok (.aload_n 0, 1) := by decide +kernel
theorem dX7_notes_44 : decode cX7_notes 44 = .ok (.getfield 92, 3) := by decide +kernel
theorem dX7_notes_47 : decode cX7_notes 47 = .ok (.iconst 2, 1) := by decide +kernel
theorem dX7_notes_48 : decode cX7_notes 48 = .ok (.irem, 1) := by decide +kernel
theorem dX7_notes_49 : decode cX7_notes 49 = .ok (.ifCond .ne 8, 3) := by decide +kernel
theorem dX7_notes_52 : decode cX7_notes 52 = .ok (.lload 4, 2) := by decide +kernel
theorem dX7_notes_54 : decode cX7_notes 54 = .ok (.goto 16, 3) := by decide +kernel
theorem dX7_notes_57 : decode cX7_notes 57 = .ok (.aload_n 0, 1) := by decide +kernel
theorem dX7_notes_58 : decode cX7_notes 58 = .ok (.getfield 7, 3) := by decide +kernel
theorem dX7_notes_61 : decode cX7_notes 61 = .ok (.iload 6, 2) := by decide +kernel
theorem dX7_notes_63 : decode cX7_notes 63 = .ok (.laload, 1) := by decide +kernel
theorem dX7_notes_64 : decode cX7_notes 64 = .ok (.lload 4, 2) := by decide +kernel
theorem dX7_notes_66 : decode cX7_notes 66 = .ok (.bipush 32, 2) := by decide +kernel
theorem dX7_notes_68 : decode cX7_notes 68 = .ok (.lshl, 1) := by decide +kernel
theorem dX7_notes_69 : decode cX7_notes 69 = .ok (.lor, 1) := by decide +kernel
theorem dX7_notes_70 : decode cX7_notes 70 = .ok (.lastore, 1) := by decide +kernel
theorem dX7_notes_71 : decode cX7_notes 71 = .ok (.aload_n 0, 1) := by decide +kernel
theorem dX7_notes_72 : decode cX7_notes 72 = .ok (.dup, 1) := by decide +kernel
theorem dX7_notes_73 : decode cX7_notes 73 = .ok (.getfield 92, 3) := by decide +kernel
theorem dX7_notes_76 : decode cX7_notes 76 = .ok (.iconst 1, 1) := by decide +kernel
theorem dX7_notes_77 : decode cX7_notes 77 = .ok (.iadd, 1) := by decide +kernel
theorem dX7_notes_78 : decode cX7_notes 78 = .ok (.putfield 92, 3) := by decide +kernel
theorem dX7_notes_81 : decode cX7_notes 81 = .ok (.return_, 1) := by decide +kernel
theorem dX7_isOnDuty_0 : decode cX7_isOnDuty 0 = .ok (.aload_n 0, 1) := by decide +kernel
theorem dX7_isOnDuty_1 : decode cX7_isOnDuty 1 = .ok (.getfield 17, 3) := by decide +kernel
theorem dX7_isOnDuty_4 : decode cX7_isOnDuty 4 = .ok (.iload_n 1, 1) := by decide +kernel
theorem dX7_isOnDuty_5 : decode cX7_isOnDuty 5 = .ok (.baload, 1) := by decide +kernel
theorem dX7_isOnDuty_6 : decode cX7_isOnDuty 6 = .ok (.ifCond .ne 22, 3) := by decide +kernel
theorem dX7_isOnDuty_9 : decode cX7_isOnDuty 9 = .ok (.iload_n 1, 1) := by decide +kernel
theorem dX7_isOnDuty_10 : decode cX7_isOnDuty 10 = .ok (.iconst 3, 1) := by decide +kernel
theorem dX7_isOnDuty_11 : decode cX7_isOnDuty 11 = .ok (.irem, 1) := by decide +kernel
theorem dX7_isOnDuty_12 : decode cX7_isOnDuty 12 = .ok (.aload_n 0, 1) := by decide +kernel
theorem dX7_isOnDuty_13 : decode cX7_isOnDuty 13 = .ok (.getfield 89, 3) := by decide +kernel
theorem dX7_isOnDuty_16 : decode cX7_isOnDuty 16 = .ok (.bipush 8, 2) := by decide +kernel
theorem dX7_isOnDuty_18 : decode cX7_isOnDuty 18 = .ok (.idiv, 1) := by decide +kernel
theorem dX7_isOnDuty_19 : decode cX7_isOnDuty 19 = .ok (.iconst 3, 1) := by decide +kernel
theorem dX7_isOnDuty_20 : decode cX7_isOnDuty 20 = .ok (.irem, 1) := by decide +kernel
theorem dX7_isOnDuty_21 : decode cX7_isOnDuty 21 = .ok (.if_icmp .ne 7, 3) := by decide +kernel
theorem dX7_isOnDuty_24 : decode cX7_isOnDuty 24 = .ok (.iconst 1, 1) := by decide +kernel
theorem dX7_isOnDuty_25 : decode cX7_isOnDuty 25 = .ok (.goto 4, 3) := by decide +kernel
theorem dX7_isOnDuty_28 : decode cX7_isOnDuty 28 = .ok (.iconst 0, 1) := by decide +kernel
theorem dX7_isOnDuty_29 : decode cX7_isOnDuty 29 = .ok (.ireturn, 1) := by decide +kernel
set_option maxRecDepth 20000 in
theorem ggX7_may_X7_isOnDuty : GoodIn wsX7_may wsX7_isOnDuty := goodIn_r _ [7, 8, 9, 10, 11, 12, 13, 14, 15, 16, 17, 18, 19, 20, 21, 22, 23, 24, 25, 26, 27, 28, 29, 30, 31, 32, 33, 34, 35, 36, 37, 38, 39, 40, 41] (by decide +kernel) (by decide +kernel)
set_option maxRecDepth 20000 in
theorem gX7_may_X7_isOnDuty : GoodIn wsX7_may (wsV RX7 95 RX7 yX7_isOnDuty wsX7_isOnDuty) := goodIn_app (goodIn_of _ (by decide +kernel)) ggX7_may_X7_isOnDuty
theorem dX7_may_0 : decode cX7_may 0 = .ok (.aload_n 0, 1) := by decide +kernel
theorem dX7_may_1 : decode cX7_may 1 = .ok (.iload_n 1, 1) := by decide +kernel
theorem dX7_may_2 : decode cX7_may 2 = .ok (.invokevirtual 95, 3) := by decide +kernel
theorem dX7_may_5 : decode cX7_may 5 = .ok (.ifCond .eq 20, 3) := by decide +kernel
theorem dX7_may_8 : decode cX7_may 8 = .ok (.aload_n 0, 1) := by decide +kernel
theorem dX7_may_9 : decode cX7_may 9 = .ok (.getfield 13, 3) := by decide +kernel
theorem dX7_may_12 : decode cX7_may 12 = .ok (.iload_n 1, 1) := by decide +kernel
theorem dX7_may_13 : decode cX7_may 13 = .ok (.iaload, 1) := by decide +kernel
theorem dX7_may_14 : decode cX7_may 14 = .ok (.aload_n 0, 1) := by decide +kernel
theorem dX7_may_15 : decode cX7_may 15 = .ok (.getfield 99, 3) := by decide +kernel
theorem dX7_may_18 : decode cX7_may 18 = .ok (.if_icmp .lt 7, 3) := by decide +kernel
theorem dX7_may_21 : decode cX7_may 21 = .ok (.iconst 1, 1) := by decide +kernel
theorem dX7_may_22 : decode cX7_may 22 = .ok (.goto 4, 3) := by decide +kernel
theorem dX7_may_25 : decode cX7_may 25 = .ok (.iconst 0, 1) := by decide +kernel
theorem dX7_may_26 : decode cX7_may 26 = .ok (.ireturn, 1) := by decide +kernel
theorem dX7_tagsOn_0 : decode cX7_tagsOn 0 = .ok (.iconst 0, 1) := by decide +kernel
theorem dX7_tagsOn_1 : decode cX7_tagsOn 1 = .ok (.istore_n 2, 1) := by decide +kernel
theorem dX7_tagsOn_2 : decode cX7_tagsOn 2 = .ok (.iconst 0, 1) := by decide +kernel
theorem dX7_tagsOn_3 : decode cX7_tagsOn 3 = .ok (.istore_n 3, 1) := by decide +kernel
theorem dX7_tagsOn_4 : decode cX7_tagsOn 4 = .ok (.iload_n 3, 1) := by decide +kernel
theorem dX7_tagsOn_5 : decode cX7_tagsOn 5 = .ok (.aload_n 0, 1) := by decide +kernel
theorem dX7_tagsOn_6 : decode cX7_tagsOn 6 = .ok (.getfield 84, 3) := by decide +kernel
theorem dX7_tagsOn_9 : decode cX7_tagsOn 9 = .ok (.if_icmp .ge 27, 3) := by decide +kernel
theorem dX7_tagsOn_12 : decode cX7_tagsOn 12 = .ok (.iload_n 2, 1) := by decide +kernel
theorem dX7_tagsOn_13 : decode cX7_tagsOn 13 = .ok (.aload_n 0, 1) := by decide +kernel
theorem dX7_tagsOn_14 : decode cX7_tagsOn 14 = .ok (.getfield 33, 3) := by decide +kernel
theorem dX7_tagsOn_17 : decode cX7_tagsOn 17 = .ok (.iload_n 3, 1) := by decide +kernel
theorem dX7_tagsOn_18 : decode cX7_tagsOn 18 = .ok (.iaload, 1) := by decide +kernel
theorem dX7_tagsOn_19 : decode cX7_tagsOn 19 = .ok (.iload_n 1, 1) := by decide +kernel
theorem dX7_tagsOn_20 : decode cX7_tagsOn 20 = .ok (.if_icmp .ne 7, 3) := by decide +kernel
theorem dX7_tagsOn_23 : decode cX7_tagsOn 23 = .ok (.iconst 1, 1) := by decide +kernel
theorem dX7_tagsOn_24 : decode cX7_tagsOn 24 = .ok (.goto 4, 3) := by decide +kernel
theorem dX7_tagsOn_27 : decode cX7_tagsOn 27 = .ok (.iconst 0, 1) := by decide +kernel
theorem dX7_tagsOn_28 : decode cX7_tagsOn 28 = .ok (.iadd, 1) := by decide +kernel
theorem dX7_tagsOn_29 : decode cX7_tagsOn 29 = .ok (.istore_n 2, 1) := by decide +kernel
theorem dX7_tagsOn_30 : decode cX7_tagsOn 30 = .ok (.iinc 3 1, 3) := by decide +kernel
theorem dX7_tagsOn_33 : decode cX7_tagsOn 33 = .ok (.goto (-29), 3) := by decide +kernel
theorem dX7_tagsOn_36 : decode cX7_tagsOn 36 = .ok (.iload_n 2, 1) := by decide +kernel
theorem dX7_tagsOn_37 : decode cX7_tagsOn 37 = .ok (.ireturn, 1) := by decide +kernel
theorem dX7_isBarred_0 : decode cX7_isBarred 0 = .ok (.iconst 0, 1) := by decide +kernel
theorem dX7_isBarred_1 : decode cX7_isBarred 1 = .ok (.istore_n 3, 1) := by decide +kernel
theorem dX7_isBarred_2 : decode cX7_isBarred 2 = .ok (.iconst 0, 1) := by decide +kernel
theorem dX7_isBarred_3 : decode cX7_isBarred 3 = .ok (.istore 4, 2) := by decide +kernel
theorem dX7_isBarred_5 : decode cX7_isBarred 5 = .ok (.iload 4, 2) := by decide +kernel
theorem dX7_isBarred_7 : decode cX7_isBarred 7 = .ok (.aload_n 0, 1) := by decide +kernel
theorem dX7_isBarred_8 : decode cX7_isBarred 8 = .ok (.getfield 84, 3) := by decide +kernel
theorem dX7_isBarred_11 : decode cX7_isBarred 11 = .ok (.if_icmp .ge 41, 3) := by decide +kernel
theorem dX7_isBarred_14 : decode cX7_isBarred 14 = .ok (.iload_n 3, 1) := by decide +kernel
theorem dX7_isBarred_15 : decode cX7_isBarred 15 = .ok (.ifCond .ne 25, 3) := by decide +kernel
theorem dX7_isBarred_18 : decode cX7_isBarred 18 = .ok (.aload_n 0, 1) := by decide +kernel
theorem dX7_isBarred_19 : decode cX7_isBarred 19 = .ok (.getfield 33, 3) := by decide +kernel
theorem dX7_isBarred_22 : decode cX7_isBarred 22 = .ok (.iload 4, 2) := by decide +kernel
theorem dX7_isBarred_24 : decode cX7_isBarred 24 = .ok (.iaload, 1) := by decide +kernel
theorem dX7_isBarred_25 : decode cX7_isBarred 25 = .ok (.iload_n 2, 1) := by decide +kernel
theorem dX7_isBarred_26 : decode cX7_isBarred 26 = .ok (.if_icmp .ne 18, 3) := by decide +kernel
theorem dX7_isBarred_29 : decode cX7_isBarred 29 = .ok (.aload_n 0, 1) := by decide +kernel
theorem dX7_isBarred_30 : decode cX7_isBarred 30 = .ok (.getfield 36, 3) := by decide +kernel
theorem dX7_isBarred_33 : decode cX7_isBarred 33 = .ok (.iload 4, 2) := by decide +kernel
theorem dX7_isBarred_35 : decode cX7_isBarred 35 = .ok (.iaload, 1) := by decide +kernel
theorem dX7_isBarred_36 : decode cX7_isBarred 36 = .ok (.iload_n 1, 1) := by decide +kernel
theorem dX7_isBarred_37 : decode cX7_isBarred 37 = .ok (.if_icmp .eq 7, 3) := by decide +kernel
theorem dX7_isBarred_40 : decode cX7_isBarred 40 = .ok (.iconst 1, 1) := by decide +kernel
theorem dX7_isBarred_41 : decode cX7_isBarred 41 = .ok (.goto 4, 3) := by decide +kernel
theorem dX7_isBarred_44 : decode cX7_isBarred 44 = .ok (.iconst 0, 1) := by decide +kernel
theorem dX7_isBarred_45 : decode cX7_isBarred 45 = .ok (.istore_n 3, 1) := by decide +kernel
theorem dX7_isBarred_46 : decode cX7_isBarred 46 = .ok (.iinc 4 1, 3) := by decide +kernel
theorem dX7_isBarred_49 : decode cX7_isBarred 49 = .ok (.goto (-44), 3) := by decide +kernel
theorem dX7_isBarred_52 : decode cX7_isBarred 52 = .ok (.iload_n 3, 1) := by decide +kernel
theorem dX7_isBarred_53 : decode cX7_isBarred 53 = .ok (.ireturn, 1) := by decide +kernel
set_option maxRecDepth 20000 in
theorem ggX7_turnsTo_X7_notes : GoodIn wsX7_turnsTo wsX7_notes := goodIn_r _ [6, 7, 8, 9, 10, 11, 12, 13, 14, 15, 16, 17, 18, 19, 20, 21, 22, 23, 24, 25, 26, 27, 28, 29, 30, 31, 32, 33, 34, 35, 36, 37, 38, 39, 40, 41, 42] (by decide +kernel) (by decide +kernel)
set_option maxRecDepth 20000 in
theorem gX7_turnsTo_X7_notes : GoodIn wsX7_turnsTo (wsV RX7 102 RX7 yX7_notes wsX7_notes) := goodIn_app (goodIn_of _ (by decide +kernel)) ggX7_turnsTo_X7_notes
theorem dX7_turnsTo_0 : decode cX7_turnsTo 0 = .ok (.aload_n 0, 1) := by decide +kernel
theorem dX7_turnsTo_1 : decode cX7_turnsTo 1 = .ok (.getfield 21, 3) := by decide +kernel
theorem dX7_turnsTo_4 : decode cX7_turnsTo 4 = .ok (.iload_n 2, 1) := by decide +kernel
theorem dX7_turnsTo_5 : decode cX7_turnsTo 5 = .ok (.baload, 1) := by decide +kernel
theorem dX7_turnsTo_6 : decode cX7_turnsTo 6 = .ok (.iload_n 3, 1) := by decide +kernel
theorem dX7_turnsTo_7 : decode cX7_turnsTo 7 = .ok (.if_icmp .ne 5, 3) := by decide +kernel
theorem dX7_turnsTo_10 : decode cX7_turnsTo 10 = .ok (.iconst 0, 1) := by decide +kernel
theorem dX7_turnsTo_11 : decode cX7_turnsTo 11 = .ok (.ireturn, 1) := by decide +kernel
theorem dX7_turnsTo_12 : decode cX7_turnsTo 12 = .ok (.aload_n 0, 1) := by decide +kernel
theorem dX7_turnsTo_13 : decode cX7_turnsTo 13 = .ok (.getfield 21, 3) := by decide +kernel
theorem dX7_turnsTo_16 : decode cX7_turnsTo 16 = .ok (.iload_n 2, 1) := by decide +kernel
theorem dX7_turnsTo_17 : decode cX7_turnsTo 17 = .ok (.iload_n 3, 1) := by decide +kernel
theorem dX7_turnsTo_18 : decode cX7_turnsTo 18 = .ok (.bastore, 1) := by decide +kernel
theorem dX7_turnsTo_19 : decode cX7_turnsTo 19 = .ok (.aload_n 0, 1) := by decide +kernel
theorem dX7_turnsTo_20 : decode cX7_turnsTo 20 = .ok (.iconst 0, 1) := by decide +kernel
theorem dX7_turnsTo_21 : decode cX7_turnsTo 21 = .ok (.iload_n 1, 1) := by decide +kernel
theorem dX7_turnsTo_22 : decode cX7_turnsTo 22 = .ok (.iload_n 2, 1) := by decide +kernel
theorem dX7_turnsTo_23 : decode cX7_turnsTo 23 = .ok (.iload_n 3, 1) := by decide +kernel
theorem dX7_turnsTo_24 : decode cX7_turnsTo 24 = .ok (.ifCond .eq 8, 3) := by decide +kernel
theorem dX7_turnsTo_27 : decode cX7_turnsTo 27 = .ok (.bipush 10, 2) := by decide +kernel
theorem dX7_turnsTo_29 : decode cX7_turnsTo 29 = .ok (.goto 4, 3) := by decide +kernel
theorem dX7_turnsTo_32 : decode cX7_turnsTo 32 = .ok (.iconst 0, 1) := by decide +kernel
theorem dX7_turnsTo_33 : decode cX7_turnsTo 33 = .ok (.iadd, 1) := by decide +kernel
theorem dX7_turnsTo_34 : decode cX7_turnsTo 34 = .ok (.invokevirtual 102, 3) := by decide +kernel
theorem dX7_turnsTo_37 : decode cX7_turnsTo 37 = .ok (.iconst 1, 1) := by decide +kernel
theorem dX7_turnsTo_38 : decode cX7_turnsTo 38 = .ok (.ireturn, 1) := by decide +kernel
set_option maxRecDepth 20000 in
theorem ggX7_pipe_X7_in : GoodIn wsX7_pipe wsX7_in := goodIn_r _ [8] (by decide +kernel) (by decide +kernel)
set_option maxRecDepth 20000 in
theorem gX7_pipe_X7_in : GoodIn wsX7_pipe (va_wsS RX7 80 yX7_in wsX7_in) := goodIn_app (goodIn_of _ (by decide +kernel)) ggX7_pipe_X7_in
set_option maxRecDepth 20000 in
theorem ggX7_pipe_X7_isValve : GoodIn wsX7_pipe wsX7_isValve := goodIn_r _ [11, 5, 6, 7, 8] (by decide +kernel) (by decide +kernel)
set_option maxRecDepth 20000 in
theorem gX7_pipe_X7_isValve : GoodIn wsX7_pipe (va_wsS RX7 106 yX7_isValve wsX7_isValve) := goodIn_app (goodIn_of _ (by decide +kernel)) ggX7_pipe_X7_isValve
set_option maxRecDepth 20000 in
theorem ggX7_pipe_X7_tagsOn : GoodIn wsX7_pipe wsX7_tagsOn := goodIn_r _ [15, 16, 17, 18, 19, 20, 21, 22, 23, 24, 25, 26, 27, 28, 29, 30, 31, 32, 33, 34, 35, 36, 37, 38, 39, 40, 41, 42, 43, 44, 45, 46, 47, 48, 49] (by decide +kernel) (by decide +kernel)
set_option maxRecDepth 20000 in
theorem gX7_pipe_X7_tagsOn : GoodIn wsX7_pipe (wsV RX7 109 RX7 yX7_tagsOn wsX7_tagsOn) := goodIn_app (goodIn_of _ (by decide +kernel)) ggX7_pipe_X7_tagsOn
theorem dX7_pipe_0 : decode cX7_pipe 0 = .ok (.iload_n 2, 1) := by decide +kernel
theorem dX7_pipe_1 : decode cX7_pipe 1 = .ok (.iconst (-1), 1) := by decide +kernel
theorem dX7_pipe_2 : decode cX7_pipe 2 = .ok (.iconst 2, 1) := by decide +kernel
theorem dX7_pipe_3 : decode cX7_pipe 3 = .ok (.invokestatic 80, 3) := by decide +kernel
theorem dX7_pipe_6 : decode cX7_pipe 6 = .ok (.ifCond .eq 21, 3) := by decide +kernel
theorem dX7_pipe_9 : decode cX7_pipe 9 = .ok (.iload_n 3, 1) := by decide +kernel
theorem dX7_pipe_10 : decode cX7_pipe 10 = .ok (.iconst (-1), 1) := by decide +kernel
theorem dX7_pipe_11 : decode cX7_pipe 11 = .ok (.iconst 2, 1) := by decide +kernel
theorem dX7_pipe_12 : decode cX7_pipe 12 = .ok (.invokestatic 80, 3) := by decide +kernel
theorem dX7_pipe_15 : decode cX7_pipe 15 = .ok (.ifCond .eq 12, 3) := by decide +kernel
theorem dX7_pipe_18 : decode cX7_pipe 18 = .ok (.iload_n 2, 1) := by decide +kernel
theorem dX7_pipe_19 : decode cX7_pipe 19 = .ok (.iload_n 3, 1) := by decide +kernel
theorem dX7_pipe_20 : decode cX7_pipe 20 = .ok (.if_icmp .eq 7, 3) := by decide +kernel
theorem dX7_pipe_23 : decode cX7_pipe 23 = .ok (.iconst 1, 1) := by decide +kernel
theorem dX7_pipe_24 : decode cX7_pipe 24 = .ok (.goto 4, 3) := by decide +kernel
theorem dX7_pipe_27 : decode cX7_pipe 27 = .ok (.iconst 0, 1) := by decide +kernel
theorem dX7_pipe_28 : decode cX7_pipe 28 = .ok (.istore 4, 2) := by decide +kernel
theorem dX7_pipe_30 : decode cX7_pipe 30 = .ok (.aload_n 0, 1) := by decide +kernel
theorem dX7_pipe_31 : decode cX7_pipe 31 = .ok (.iload_n 1, 1) := by decide +kernel
theorem dX7_pipe_32 : decode cX7_pipe 32 = .ok (.invokestatic 106, 3) := by decide +kernel
theorem dX7_pipe_35 : decode cX7_pipe 35 = .ok (.ifCond .ne 7, 3) := by decide +kernel
theorem dX7_pipe_38 : decode cX7_pipe 38 = .ok (.iconst 1, 1) := by decide +kernel
theorem dX7_pipe_39 : decode cX7_pipe 39 = .ok (.goto 26, 3) := by decide +kernel
theorem dX7_pipe_42 : decode cX7_pipe 42 = .ok (.iload 4, 2) := by decide +kernel
theorem dX7_pipe_44 : decode cX7_pipe 44 = .ok (.ifCond .ne 7, 3) := by decide +kernel
theorem dX7_pipe_47 : decode cX7_pipe 47 = .ok (.iconst 2, 1) := by decide +kernel
theorem dX7_pipe_48 : decode cX7_pipe 48 = .ok (.goto 17, 3) := by decide +kernel
theorem dX7_pipe_51 : decode cX7_pipe 51 = .ok (.aload_n 0, 1) := by decide +kernel
theorem dX7_pipe_52 : decode cX7_pipe 52 = .ok (.getfield 21, 3) := by decide +kernel
theorem dX7_pipe_55 : decode cX7_pipe 55 = .ok (.iload_n 1, 1) := by decide +kernel
theorem dX7_pipe_56 : decode cX7_pipe 56 = .ok (.baload, 1) := by decide +kernel
theorem dX7_pipe_57 : decode cX7_pipe 57 = .ok (.ifCond .eq 7, 3) := by decide +kernel
theorem dX7_pipe_60 : decode cX7_pipe 60 = .ok (.iconst 3, 1) := by decide +kernel
theorem dX7_pipe_61 : decode cX7_pipe 61 = .ok (.goto 4, 3) := by decide +kernel
theorem dX7_pipe_64 : decode cX7_pipe 64 = .ok (.iconst 0, 1) := by decide +kernel
theorem dX7_pipe_65 : decode cX7_pipe 65 = .ok (.putfield 76, 3) := by decide +kernel
theorem dX7_pipe_68 : decode cX7_pipe 68 = .ok (.aload_n 0, 1) := by decide +kernel
theorem dX7_pipe_69 : decode cX7_pipe 69 = .ok (.getfield 76, 3) := by decide +kernel
theorem dX7_pipe_72 : decode cX7_pipe 72 = .ok (.ifCond .le 5, 3) := by decide +kernel
theorem dX7_pipe_75 : decode cX7_pipe 75 = .ok (.iconst 0, 1) := by decide +kernel
theorem dX7_pipe_76 : decode cX7_pipe 76 = .ok (.ireturn, 1) := by decide +kernel
theorem dX7_pipe_77 : decode cX7_pipe 77 = .ok (.aload_n 0, 1) := by decide +kernel
theorem dX7_pipe_78 : decode cX7_pipe 78 = .ok (.getfield 24, 3) := by decide +kernel
theorem dX7_pipe_81 : decode cX7_pipe 81 = .ok (.iload_n 1, 1) := by decide +kernel
theorem dX7_pipe_82 : decode cX7_pipe 82 = .ok (.iload_n 2, 1) := by decide +kernel
theorem dX7_pipe_83 : decode cX7_pipe 83 = .ok (.iastore, 1) := by decide +kernel
theorem dX7_pipe_84 : decode cX7_pipe 84 = .ok (.aload_n 0, 1) := by decide +kernel
theorem dX7_pipe_85 : decode cX7_pipe 85 = .ok (.getfield 27, 3) := by decide +kernel
theorem dX7_pipe_88 : decode cX7_pipe 88 = .ok (.iload_n 1, 1) := by decide +kernel
theorem dX7_pipe_89 : decode cX7_pipe 89 = .ok (.iload_n 3, 1) := by decide +kernel
theorem dX7_pipe_90 : decode cX7_pipe 90 = .ok (.iastore, 1) := by decide +kernel
theorem dX7_pipe_91 : decode cX7_pipe 91 = .ok (.aload_n 0, 1) := by decide +kernel
theorem dX7_pipe_92 : decode cX7_pipe 92 = .ok (.iload_n 1, 1) := by decide +kernel
theorem dX7_pipe_93 : decode cX7_pipe 93 = .ok (.invokevirtual 109, 3) := by decide +kernel
theorem dX7_pipe_96 : decode cX7_pipe 96 = .ok (.ireturn, 1) := by decide +kernel
set_option maxRecDepth 20000 in
theorem ggX7_bars_X7_isOnDuty : GoodIn wsX7_bars wsX7_isOnDuty := goodIn_r _ [5, 6, 7, 21, 22, 23, 24, 25, 26, 27, 28, 29, 30, 31, 32, 33, 34, 35, 36, 37, 38, 39, 40, 41, 42, 43, 44, 45, 46, 47, 48, 49, 50, 51, 52] (by decide +kernel) (by decide +kernel)
set_option maxRecDepth 20000 in
theorem gX7_bars_X7_isOnDuty : GoodIn wsX7_bars (wsV RX7 95 RX7 yX7_isOnDuty wsX7_isOnDuty) := goodIn_app (goodIn_of _ (by decide +kernel)) ggX7_bars_X7_isOnDuty
set_option maxRecDepth 20000 in
theorem ggX7_bars_X7_may : GoodIn wsX7_bars wsX7_may := goodIn_r _ [11, 12, 13, 1, 2, 3, 4, 5, 6, 7, 21, 22, 23, 24, 25, 26, 27, 28, 29, 30, 31, 32, 33, 34, 35, 36, 37, 38, 39, 40, 41, 42, 43, 44, 45, 46, 47, 48, 49, 50, 51, 52] (by decide +kernel) (by decide +kernel)
set_option maxRecDepth 20000 in
theorem gX7_bars_X7_may : GoodIn wsX7_bars (wsV RX7 113 RX7 yX7_may wsX7_may) := goodIn_app (goodIn_of _ (by decide +kernel)) ggX7_bars_X7_may
set_option maxRecDepth 20000 in
theorem ggX7_bars_X7_isBarred : GoodIn wsX7_bars wsX7_isBarred := goodIn_r _ [17, 18, 19, 20, 21, 22, 23, 24, 25, 26, 27, 28, 29, 30, 31, 32, 33, 34, 35, 36, 37, 38, 39, 40, 41, 42, 43, 44, 45, 46, 47, 48, 49, 50, 51, 52] (by decide +kernel) (by decide +kernel)
set_option maxRecDepth 20000 in
theorem gX7_bars_X7_isBarred : GoodIn wsX7_bars (wsV RX7 116 RX7 yX7_isBarred wsX7_isBarred) := goodIn_app (goodIn_of _ (by decide +kernel)) ggX7_bars_X7_isBarred
theorem dX7_bars_0 : decode cX7_bars 0 = .ok (.aload_n 0, 1) := by decide +kernel
theorem dX7_bars_1 : decode cX7_bars 1 = .ok (.iload_n 1, 1) := by decide +kernel
theorem dX7_bars_2 : decode cX7_bars 2 = .ok (.invokevirtual 95, 3) := by decide +kernel
theorem dX7_bars_5 : decode cX7_bars 5 = .ok (.ifCond .ne 7, 3) := by decide +kernel
theorem dX7_bars_8 : decode cX7_bars 8 = .ok (.iconst 1, 1) := by decide +kernel
theorem dX7_bars_9 : decode cX7_bars 9 = .ok (.goto 29, 3) := by decide +kernel
theorem dX7_bars_12 : decode cX7_bars 12 = .ok (.aload_n 0, 1) := by decide +kernel
theorem dX7_bars_13 : decode cX7_bars 13 = .ok (.iload_n 1, 1) := by decide +kernel
theorem dX7_bars_14 : decode cX7_bars 14 = .ok (.invokevirtual 113, 3) := by decide +kernel
theorem dX7_bars_17 : decode cX7_bars 17 = .ok (.ifCond .ne 7, 3) := by decide +kernel
theorem dX7_bars_20 : decode cX7_bars 20 = .ok (.iconst 2, 1) := by decide +kernel
theorem dX7_bars_21 : decode cX7_bars 21 = .ok (.goto 17, 3) := by decide +kernel
theorem dX7_bars_24 : decode cX7_bars 24 = .ok (.aload_n 0, 1) := by decide +kernel
theorem dX7_bars_25 : decode cX7_bars 25 = .ok (.iload_n 1, 1) := by decide +kernel
theorem dX7_bars_26 : decode cX7_bars 26 = .ok (.iload_n 2, 1) := by decide +kernel
theorem dX7_bars_27 : decode cX7_bars 27 = .ok (.invokevirtual 116, 3) := by decide +kernel
theorem dX7_bars_30 : decode cX7_bars 30 = .ok (.ifCond .eq 7, 3) := by decide +kernel
theorem dX7_bars_33 : decode cX7_bars 33 = .ok (.iconst 3, 1) := by decide +kernel
theorem dX7_bars_34 : decode cX7_bars 34 = .ok (.goto 4, 3) := by decide +kernel
theorem dX7_bars_37 : decode cX7_bars 37 = .ok (.iconst 0, 1) := by decide +kernel
theorem dX7_bars_38 : decode cX7_bars 38 = .ok (.ireturn, 1) := by decide +kernel
set_option maxRecDepth 20000 in
theorem ggX7_turn_X7_isPerson : GoodIn wsX7_turn wsX7_isPerson := goodIn_r _ [5, 6, 7, 4, 8] (by decide +kernel) (by decide +kernel)
set_option maxRecDepth 20000 in
theorem gX7_turn_X7_isPerson : GoodIn wsX7_turn (va_wsS RX7 120 yX7_isPerson wsX7_isPerson) := goodIn_app (goodIn_of _ (by decide +kernel)) ggX7_turn_X7_isPerson
set_option maxRecDepth 20000 in
theorem ggX7_turn_X7_isValve : GoodIn wsX7_turn wsX7_isValve := goodIn_r _ [11, 6, 7, 4, 8] (by decide +kernel) (by decide +kernel)
set_option maxRecDepth 20000 in
theorem gX7_turn_X7_isValve : GoodIn wsX7_turn (va_wsS RX7 106 yX7_isValve wsX7_isValve) := goodIn_app (goodIn_of _ (by decide +kernel)) ggX7_turn_X7_isValve
set_option maxRecDepth 20000 in
theorem ggX7_turn_X7_bars : GoodIn wsX7_turn wsX7_bars := goodIn_r _ [15, 16, 17, 18, 4, 19, 20, 21, 22, 23, 24, 25, 26, 27, 28, 29, 30, 31, 32, 33, 34, 47, 48, 49, 50, 51, 52, 53, 54, 55, 56, 57, 58, 59, 60, 61, 62, 63, 64, 65, 66, 67, 68, 69, 70, 71, 72, 73, 74, 75, 76, 77, 78] (by decide +kernel) (by decide +kernel)
set_option maxRecDepth 20000 in
theorem gX7_turn_X7_bars : GoodIn wsX7_turn (wsV RX7 123 RX7 yX7_bars wsX7_bars) := goodIn_app (goodIn_of _ (by decide +kernel)) ggX7_turn_X7_bars
set_option maxRecDepth 20000 in
theorem ggX7_turn_X7_turnsTo : GoodIn wsX7_turn wsX7_turnsTo := goodIn_r _ [38, 39, 40, 41, 42, 4, 43, 44, 21, 45, 46, 47, 48, 49, 50, 51, 52, 53, 54, 55, 56, 57, 58, 59, 60, 61, 62, 63, 64, 65, 66, 67, 68, 69, 70, 71, 72, 73, 74, 75, 76, 77, 78] (by decide +kernel) (by decide +kernel)
set_option maxRecDepth 20000 in
theorem gX7_turn_X7_turnsTo : GoodIn wsX7_turn (wsV RX7 127 RX7 yX7_turnsTo wsX7_turnsTo) := goodIn_app (goodIn_of _ (by decide +kernel)) ggX7_turn_X7_turnsTo
theorem dX7_turn_0 : decode cX7_turn 0 = .ok (.aload_n 0, 1) := by decide +kernel
theorem dX7_turn_1 : decode cX7_turn 1 = .ok (.iload_n 1, 1) := by decide +kernel
theorem dX7_turn_2 : decode cX7_turn 2 = .ok (.invokestatic 120, 3) := by decide +kernel
theorem dX7_turn_5 : decode cX7_turn 5 = .ok (.ifCond .eq 10, 3) := by decide +kernel
theorem dX7_turn_8 : decode cX7_turn 8 = .ok (.iload_n 2, 1) := by decide +kernel
theorem dX7_turn_9 : decode cX7_turn 9 = .ok (.invokestatic 106, 3) := by decide +kernel
theorem dX7_turn_12 : decode cX7_turn 12 = .ok (.ifCond .ne 7, 3) := by decide +kernel
theorem dX7_turn_15 : decode cX7_turn 15 = .ok (.iconst 1, 1) := by decide +kernel
theorem dX7_turn_16 : decode cX7_turn 16 = .ok (.goto 17, 3) := by decide +kernel
theorem dX7_turn_19 : decode cX7_turn 19 = .ok (.aload_n 0, 1) := by decide +kernel
theorem dX7_turn_20 : decode cX7_turn 20 = .ok (.iload_n 1, 1) := by decide +kernel
theorem dX7_turn_21 : decode cX7_turn 21 = .ok (.iload_n 2, 1) := by decide +kernel
theorem dX7_turn_22 : decode cX7_turn 22 = .ok (.invokevirtual 123, 3) := by decide +kernel
theorem dX7_turn_25 : decode cX7_turn 25 = .ok (.ifCond .le 7, 3) := by decide +kernel
theorem dX7_turn_28 : decode cX7_turn 28 = .ok (.iconst 2, 1) := by decide +kernel
theorem dX7_turn_29 : decode cX7_turn 29 = .ok (.goto 4, 3) := by decide +kernel
theorem dX7_turn_32 : decode cX7_turn 32 = .ok (.iconst 0, 1) := by decide +kernel
theorem dX7_turn_33 : decode cX7_turn 33 = .ok (.putfield 76, 3) := by decide +kernel
theorem dX7_turn_36 : decode cX7_turn 36 = .ok (.aload_n 0, 1) := by decide +kernel
theorem dX7_turn_37 : decode cX7_turn 37 = .ok (.getfield 76, 3) := by decide +kernel
theorem dX7_turn_40 : decode cX7_turn 40 = .ok (.ifCond .ne 17, 3) := by decide +kernel
theorem dX7_turn_43 : decode cX7_turn 43 = .ok (.aload_n 0, 1) := by decide +kernel
theorem dX7_turn_44 : decode cX7_turn 44 = .ok (.iload_n 1, 1) := by decide +kernel
theorem dX7_turn_45 : decode cX7_turn 45 = .ok (.iload_n 2, 1) := by decide +kernel
theorem dX7_turn_46 : decode cX7_turn 46 = .ok (.iload_n 3, 1) := by decide +kernel
theorem dX7_turn_47 : decode cX7_turn 47 = .ok (.invokevirtual 127, 3) := by decide +kernel
theorem dX7_turn_50 : decode cX7_turn 50 = .ok (.ifCond .eq 7, 3) := by decide +kernel
theorem dX7_turn_53 : decode cX7_turn 53 = .ok (.iconst 1, 1) := by decide +kernel
theorem dX7_turn_54 : decode cX7_turn 54 = .ok (.goto 4, 3) := by decide +kernel
theorem dX7_turn_57 : decode cX7_turn 57 = .ok (.iconst 0, 1) := by decide +kernel
theorem dX7_turn_58 : decode cX7_turn 58 = .ok (.ireturn, 1) := by decide +kernel
set_option maxRecDepth 20000 in
theorem ggX7_obstacle_X7_isPerson : GoodIn wsX7_obstacle wsX7_isPerson := goodIn_r _ [5, 6, 7, 4, 8] (by decide +kernel) (by decide +kernel)
set_option maxRecDepth 20000 in
theorem gX7_obstacle_X7_isPerson : GoodIn wsX7_obstacle (va_wsS RX7 120 yX7_isPerson wsX7_isPerson) := goodIn_app (goodIn_of _ (by decide +kernel)) ggX7_obstacle_X7_isPerson
set_option maxRecDepth 20000 in
theorem ggX7_obstacle_X7_isValve : GoodIn wsX7_obstacle wsX7_isValve := goodIn_r _ [11, 6, 7, 4, 8] (by decide +kernel) (by decide +kernel)
set_option maxRecDepth 20000 in
theorem gX7_obstacle_X7_isValve : GoodIn wsX7_obstacle (va_wsS RX7 106 yX7_isValve wsX7_isValve) := goodIn_app (goodIn_of _ (by decide +kernel)) ggX7_obstacle_X7_isValve
set_option maxRecDepth 20000 in
theorem ggX7_obstacle_X7_bars : GoodIn wsX7_obstacle wsX7_bars := goodIn_r _ [15, 16, 17, 18, 4, 19, 20, 21, 22, 23, 24, 25, 26, 27, 28, 29, 30, 31, 32, 33, 34, 35, 36, 37, 38, 39, 40, 41, 42, 43, 44, 45, 46, 47, 48, 49, 50, 51, 52, 53, 54, 55, 56, 57, 58, 59, 60, 61, 62, 63, 64, 65, 66] (by decide +kernel) (by decide +kernel)
set_option maxRecDepth 20000 in
theorem gX7_obstacle_X7_bars : GoodIn wsX7_obstacle (wsV RX7 123 RX7 yX7_bars wsX7_bars) := goodIn_app (goodIn_of _ (by decide +kernel)) ggX7_obstacle_X7_bars
theorem dX7_obstacle_0 : decode cX7_obstacle 0 = .ok (.aload_n 0, 1) := by decide +kernel
theorem dX7_obstacle_1 : decode cX7_obstacle 1 = .ok (.iload_n 1, 1) := by decide +kernel
theorem dX7_obstacle_2 : decode cX7_obstacle 2 = .ok (.invokestatic 120, 3) := by decide +kernel
theorem dX7_obstacle_5 : decode cX7_obstacle 5 = .ok (.ifCond .eq 14, 3) := by decide +kernel
theorem dX7_obstacle_8 : decode cX7_obstacle 8 = .ok (.iload_n 2, 1) := by decide +kernel
theorem dX7_obstacle_9 : decode cX7_obstacle 9 = .ok (.invokestatic 106, 3) := by decide +kernel
theorem dX7_obstacle_12 : decode cX7_obstacle 12 = .ok (.ifCond .eq 7, 3) := by decide +kernel
theorem dX7_obstacle_15 : decode cX7_obstacle 15 = .ok (.iconst 0, 1) := by decide +kernel
theorem dX7_obstacle_16 : decode cX7_obstacle 16 = .ok (.goto 4, 3) := by decide +kernel
theorem dX7_obstacle_19 : decode cX7_obstacle 19 = .ok (.iconst 1, 1) := by decide +kernel
theorem dX7_obstacle_20 : decode cX7_obstacle 20 = .ok (.putfield 76, 3) := by decide +kernel
theorem dX7_obstacle_23 : decode cX7_obstacle 23 = .ok (.aload_n 0, 1) := by decide +kernel
theorem dX7_obstacle_24 : decode cX7_obstacle 24 = .ok (.getfield 76, 3) := by decide +kernel
theorem dX7_obstacle_27 : decode cX7_obstacle 27 = .ok (.ifCond .le 7, 3) := by decide +kernel
theorem dX7_obstacle_30 : decode cX7_obstacle 30 = .ok (.iconst 0, 1) := by decide +kernel
theorem dX7_obstacle_31 : decode cX7_obstacle 31 = .ok (.goto 9, 3) := by decide +kernel
theorem dX7_obstacle_34 : decode cX7_obstacle 34 = .ok (.aload_n 0, 1) := by decide +kernel
theorem dX7_obstacle_35 : decode cX7_obstacle 35 = .ok (.iload_n 1, 1) := by decide +kernel
theorem dX7_obstacle_36 : decode cX7_obstacle 36 = .ok (.iload_n 2, 1) := by decide +kernel
theorem dX7_obstacle_37 : decode cX7_obstacle 37 = .ok (.invokevirtual 123, 3) := by decide +kernel
theorem dX7_obstacle_40 : decode cX7_obstacle 40 = .ok (.ireturn, 1) := by decide +kernel
set_option maxRecDepth 20000 in
theorem ggX7_isOpen_X7_isValve : GoodIn wsX7_isOpen wsX7_isValve := goodIn_r _ [6, 7, 8, 5, 9] (by decide +kernel) (by decide +kernel)
set_option maxRecDepth 20000 in
theorem gX7_isOpen_X7_isValve : GoodIn wsX7_isOpen (va_wsS RX7 106 yX7_isValve wsX7_isValve) := goodIn_app (goodIn_of _ (by decide +kernel)) ggX7_isOpen_X7_isValve
theorem dX7_isOpen_0 : decode cX7_isOpen 0 = .ok (.aload_n 0, 1) := by decide +kernel
theorem dX7_isOpen_1 : decode cX7_isOpen 1 = .ok (.iload_n 1, 1) := by decide +kernel
theorem dX7_isOpen_2 : decode cX7_isOpen 2 = .ok (.invokestatic 106, 3) := by decide +kernel
theorem dX7_isOpen_5 : decode cX7_isOpen 5 = .ok (.ifCond .eq 7, 3) := by decide +kernel
theorem dX7_isOpen_8 : decode cX7_isOpen 8 = .ok (.iconst 0, 1) := by decide +kernel
theorem dX7_isOpen_9 : decode cX7_isOpen 9 = .ok (.goto 4, 3) := by decide +kernel
theorem dX7_isOpen_12 : decode cX7_isOpen 12 = .ok (.iconst 1, 1) := by decide +kernel
theorem dX7_isOpen_13 : decode cX7_isOpen 13 = .ok (.putfield 76, 3) := by decide +kernel
theorem dX7_isOpen_16 : decode cX7_isOpen 16 = .ok (.aload_n 0, 1) := by decide +kernel
theorem dX7_isOpen_17 : decode cX7_isOpen 17 = .ok (.getfield 76, 3) := by decide +kernel
theorem dX7_isOpen_20 : decode cX7_isOpen 20 = .ok (.ifCond .ne 16, 3) := by decide +kernel
theorem dX7_isOpen_23 : decode cX7_isOpen 23 = .ok (.aload_n 0, 1) := by decide +kernel
theorem dX7_isOpen_24 : decode cX7_isOpen 24 = .ok (.getfield 21, 3) := by decide +kernel
theorem dX7_isOpen_27 : decode cX7_isOpen 27 = .ok (.iload_n 1, 1) := by decide +kernel
theorem dX7_isOpen_28 : decode cX7_isOpen 28 = .ok (.baload, 1) := by decide +kernel
theorem dX7_isOpen_29 : decode cX7_isOpen 29 = .ok (.ifCond .eq 7, 3) := by decide +kernel
theorem dX7_isOpen_32 : decode cX7_isOpen 32 = .ok (.iconst 1, 1) := by decide +kernel
theorem dX7_isOpen_33 : decode cX7_isOpen 33 = .ok (.goto 4, 3) := by decide +kernel
theorem dX7_isOpen_36 : decode cX7_isOpen 36 = .ok (.iconst 0, 1) := by decide +kernel
theorem dX7_isOpen_37 : decode cX7_isOpen 37 = .ok (.ireturn, 1) := by decide +kernel
set_option maxRecDepth 20000 in
theorem ggX7_isOpenByLog_X7_isValve : GoodIn wsX7_isOpenByLog wsX7_isValve := goodIn_r _ [6, 7, 8, 5, 9] (by decide +kernel) (by decide +kernel)
set_option maxRecDepth 20000 in
theorem gX7_isOpenByLog_X7_isValve : GoodIn wsX7_isOpenByLog (va_wsS RX7 106 yX7_isValve wsX7_isValve) := goodIn_app (goodIn_of _ (by decide +kernel)) ggX7_isOpenByLog_X7_isValve
theorem dX7_isOpenByLog_0 : decode cX7_isOpenByLog 0 = .ok (.aload_n 0, 1) := by decide +kernel
theorem dX7_isOpenByLog_1 : decode cX7_isOpenByLog 1 = .ok (.iload_n 1, 1) := by decide +kernel
theorem dX7_isOpenByLog_2 : decode cX7_isOpenByLog 2 = .ok (.invokestatic 106, 3) := by decide +kernel
theorem dX7_isOpenByLog_5 : decode cX7_isOpenByLog 5 = .ok (.ifCond .eq 7, 3) := by decide +kernel
theorem dX7_isOpenByLog_8 : decode cX7_isOpenByLog 8 = .ok (.iconst 0, 1) := by decide +kernel
theorem dX7_isOpenByLog_9 : decode cX7_isOpenByLog 9 = .ok (.goto 4, 3) := by decide +kernel
theorem dX7_isOpenByLog_12 : decode cX7_isOpenByLog 12 = .ok (.iconst 1, 1) := by decide +kernel
theorem dX7_isOpenByLog_13 : decode cX7_isOpenByLog 13 = .ok (.putfield 76, 3) := by decide +kernel
theorem dX7_isOpenByLog_16 : decode cX7_isOpenByLog 16 = .ok (.aload_n 0, 1) := by decide +kernel
theorem dX7_isOpenByLog_17 : decode cX7_isOpenByLog 17 = .ok (.getfield 76, 3) := by decide +kernel
theorem dX7_isOpenByLog_20 : decode cX7_isOpenByLog 20 = .ok (.ifCond .ne 16, 3) := by decide +kernel
theorem dX7_isOpenByLog_23 : decode cX7_isOpenByLog 23 = .ok (.aload_n 0, 1) := by decide +kernel
theorem dX7_isOpenByLog_24 : decode cX7_isOpenByLog 24 = .ok (.getfield 21, 3) := by decide +kernel
theorem dX7_isOpenByLog_27 : decode cX7_isOpenByLog 27 = .ok (.iload_n 1, 1) := by decide +kernel
theorem dX7_isOpenByLog_28 : decode cX7_isOpenByLog 28 = .ok (.baload, 1) := by decide +kernel
theorem dX7_isOpenByLog_29 : decode cX7_isOpenByLog 29 = .ok (.ifCond .eq 7, 3) := by decide +kernel
theorem dX7_isOpenByLog_32 : decode cX7_isOpenByLog 32 = .ok (.iconst 1, 1) := by decide +kernel
theorem dX7_isOpenByLog_33 : decode cX7_isOpenByLog 33 = .ok (.goto 4, 3) := by decide +kernel
theorem dX7_isOpenByLog_36 : decode cX7_isOpenByLog 36 = .ok (.iconst 0, 1) := by decide +kernel
theorem dX7_isOpenByLog_37 : decode cX7_isOpenByLog 37 = .ok (.ireturn, 1) := by decide +kernel
set_option maxRecDepth 20000 in
theorem ggX7_level_X7_isVessel : GoodIn wsX7_level wsX7_isVessel := goodIn_r _ [6, 7, 8, 5, 9] (by decide +kernel) (by decide +kernel)
set_option maxRecDepth 20000 in
theorem gX7_level_X7_isVessel : GoodIn wsX7_level (va_wsS RX7 131 yX7_isVessel wsX7_isVessel) := goodIn_app (goodIn_of _ (by decide +kernel)) ggX7_level_X7_isVessel
theorem dX7_level_0 : decode cX7_level 0 = .ok (.aload_n 0, 1) := by decide +kernel
theorem dX7_level_1 : decode cX7_level 1 = .ok (.iload_n 1, 1) := by decide +kernel
theorem dX7_level_2 : decode cX7_level 2 = .ok (.invokestatic 131, 3) := by decide +kernel
theorem dX7_level_5 : decode cX7_level 5 = .ok (.ifCond .eq 7, 3) := by decide +kernel
theorem dX7_level_8 : decode cX7_level 8 = .ok (.iconst 0, 1) := by decide +kernel
theorem dX7_level_9 : decode cX7_level 9 = .ok (.goto 4, 3) := by decide +kernel
theorem dX7_level_12 : decode cX7_level 12 = .ok (.iconst 1, 1) := by decide +kernel
theorem dX7_level_13 : decode cX7_level 13 = .ok (.putfield 76, 3) := by decide +kernel
theorem dX7_level_16 : decode cX7_level 16 = .ok (.aload_n 0, 1) := by decide +kernel
theorem dX7_level_17 : decode cX7_level 17 = .ok (.getfield 76, 3) := by decide +kernel
theorem dX7_level_20 : decode cX7_level 20 = .ok (.ifCond .le 7, 3) := by decide +kernel
theorem dX7_level_23 : decode cX7_level 23 = .ok (.iconst 0, 1) := by decide +kernel
theorem dX7_level_24 : decode cX7_level 24 = .ok (.goto 9, 3) := by decide +kernel
theorem dX7_level_27 : decode cX7_level 27 = .ok (.aload_n 0, 1) := by decide +kernel
theorem dX7_level_28 : decode cX7_level 28 = .ok (.getfield 30, 3) := by decide +kernel
theorem dX7_level_31 : decode cX7_level 31 = .ok (.iload_n 1, 1) := by decide +kernel
theorem dX7_level_32 : decode cX7_level 32 = .ok (.iaload, 1) := by decide +kernel
theorem dX7_level_33 : decode cX7_level 33 = .ok (.ireturn, 1) := by decide +kernel
theorem dX7_spilled_0 : decode cX7_spilled 0 = .ok (.aload_n 0, 1) := by decide +kernel
theorem dX7_spilled_1 : decode cX7_spilled 1 = .ok (.iconst 0, 1) := by decide +kernel
theorem dX7_spilled_2 : decode cX7_spilled 2 = .ok (.putfield 76, 3) := by decide +kernel
theorem dX7_spilled_5 : decode cX7_spilled 5 = .ok (.aload_n 0, 1) := by decide +kernel
theorem dX7_spilled_6 : decode cX7_spilled 6 = .ok (.getfield 134, 3) := by decide +kernel
theorem dX7_spilled_9 : decode cX7_spilled 9 = .ok (.ireturn, 1) := by decide +kernel
set_option maxRecDepth 20000 in
theorem ggX7_hang_X7_isPerson : GoodIn wsX7_hang wsX7_isPerson := goodIn_r _ [9, 10, 11, 8, 12] (by decide +kernel) (by decide +kernel)
set_option maxRecDepth 20000 in
theorem gX7_hang_X7_isPerson : GoodIn wsX7_hang (va_wsS RX7 120 yX7_isPerson wsX7_isPerson) := goodIn_app (goodIn_of _ (by decide +kernel)) ggX7_hang_X7_isPerson
set_option maxRecDepth 20000 in
theorem ggX7_hang_X7_isValve : GoodIn wsX7_hang wsX7_isValve := goodIn_r _ [15, 10, 11, 8, 12] (by decide +kernel) (by decide +kernel)
set_option maxRecDepth 20000 in
theorem gX7_hang_X7_isValve : GoodIn wsX7_hang (va_wsS RX7 106 yX7_isValve wsX7_isValve) := goodIn_app (goodIn_of _ (by decide +kernel)) ggX7_hang_X7_isValve
set_option maxRecDepth 20000 in
theorem ggX7_hang_X7_may : GoodIn wsX7_hang wsX7_may := goodIn_r _ [19, 20, 21, 22, 23, 24, 8, 25, 26, 27, 35, 36, 37, 38, 39, 40, 41, 42, 43, 44, 45, 46, 47, 48, 49, 50, 51, 52, 53, 54, 55, 56, 57, 58, 59, 60, 61, 62, 63, 64, 65, 66] (by decide +kernel) (by decide +kernel)
set_option maxRecDepth 20000 in
theorem gX7_hang_X7_may : GoodIn wsX7_hang (wsV RX7 113 RX7 yX7_may wsX7_may) := goodIn_app (goodIn_of _ (by decide +kernel)) ggX7_hang_X7_may
set_option maxRecDepth 20000 in
theorem ggX7_hang_X7_notes : GoodIn wsX7_hang wsX7_notes := goodIn_r _ [31, 32, 27, 33, 34, 35, 36, 37, 38, 39, 40, 41, 42, 43, 44, 45, 46, 47, 48, 49, 50, 51, 52, 53, 54, 55, 56, 57, 58, 59, 60, 61, 62, 63, 64, 65, 66] (by decide +kernel) (by decide +kernel)
set_option maxRecDepth 20000 in
theorem gX7_hang_X7_notes : GoodIn wsX7_hang (wsV RX7 102 RX7 yX7_notes wsX7_notes) := goodIn_app (goodIn_of _ (by decide +kernel)) ggX7_hang_X7_notes
theorem dX7_hang_0 : decode cX7_hang 0 = .ok (.aload_n 0, 1) := by decide +kernel
theorem dX7_hang_1 : decode cX7_hang 1 = .ok (.iload_n 1, 1) := by decide +kernel
theorem dX7_hang_2 : decode cX7_hang 2 = .ok (.invokestatic 120, 3) := by decide +kernel
theorem dX7_hang_5 : decode cX7_hang 5 = .ok (.ifCond .eq 10, 3) := by decide +kernel
theorem dX7_hang_8 : decode cX7_hang 8 = .ok (.iload_n 2, 1) := by decide +kernel
theorem dX7_hang_9 : decode cX7_hang 9 = .ok (.invokestatic 106, 3) := by decide +kernel
theorem dX7_hang_12 : decode cX7_hang 12 = .ok (.ifCond .ne 7, 3) := by decide +kernel
theorem dX7_hang_15 : decode cX7_hang 15 = .ok (.iconst 1, 1) := by decide +kernel
theorem dX7_hang_16 : decode cX7_hang 16 = .ok (.goto 25, 3) := by decide +kernel
theorem dX7_hang_19 : decode cX7_hang 19 = .ok (.aload_n 0, 1) := by decide +kernel
theorem dX7_hang_20 : decode cX7_hang 20 = .ok (.iload_n 1, 1) := by decide +kernel
theorem dX7_hang_21 : decode cX7_hang 21 = .ok (.invokevirtual 113, 3) := by decide +kernel
theorem dX7_hang_24 : decode cX7_hang 24 = .ok (.ifCond .eq 12, 3) := by decide +kernel
theorem dX7_hang_27 : decode cX7_hang 27 = .ok (.aload_n 0, 1) := by decide +kernel
theorem dX7_hang_28 : decode cX7_hang 28 = .ok (.getfield 84, 3) := by decide +kernel
theorem dX7_hang_31 : decode cX7_hang 31 = .ok (.bipush 40, 2) := by decide +kernel
theorem dX7_hang_33 : decode cX7_hang 33 = .ok (.if_icmp .ne 7, 3) := by decide +kernel
theorem dX7_hang_36 : decode cX7_hang 36 = .ok (.iconst 2, 1) := by decide +kernel
theorem dX7_hang_37 : decode cX7_hang 37 = .ok (.goto 4, 3) := by decide +kernel
theorem dX7_hang_40 : decode cX7_hang 40 = .ok (.iconst 0, 1) := by decide +kernel
theorem dX7_hang_41 : decode cX7_hang 41 = .ok (.putfield 76, 3) := by decide +kernel
theorem dX7_hang_44 : decode cX7_hang 44 = .ok (.aload_n 0, 1) := by decide +kernel
theorem dX7_hang_45 : decode cX7_hang 45 = .ok (.getfield 76, 3) := by decide +kernel
theorem dX7_hang_48 : decode cX7_hang 48 = .ok (.ifCond .le 5, 3) := by decide +kernel
theorem dX7_hang_51 : decode cX7_hang 51 = .ok (.iconst 0, 1) := by decide +kernel
theorem dX7_hang_52 : decode cX7_hang 52 = .ok (.ireturn, 1) := by decide +kernel
theorem dX7_hang_53 : decode cX7_hang 53 = .ok (.aload_n 0, 1) := by decide +kernel
theorem dX7_hang_54 : decode cX7_hang 54 = .ok (.getfield 33, 3) := by decide +kernel
theorem dX7_hang_57 : decode cX7_hang 57 = .ok (.aload_n 0, 1) := by decide +kernel
theorem dX7_hang_58 : decode cX7_hang 58 = .ok (.getfield 84, 3) := by decide +kernel
theorem dX7_hang_61 : decode cX7_hang 61 = .ok (.iload_n 2, 1) := by decide +kernel
theorem dX7_hang_62 : decode cX7_hang 62 = .ok (.iastore, 1) := by decide +kernel
theorem dX7_hang_63 : decode cX7_hang 63 = .ok (.aload_n 0, 1) := by decide +kernel
theorem dX7_hang_64 : decode cX7_hang 64 = .ok (.getfield 36, 3) := by decide +kernel
theorem dX7_hang_67 : decode cX7_hang 67 = .ok (.aload_n 0, 1) := by decide +kernel
theorem dX7_hang_68 : decode cX7_hang 68 = .ok (.getfield 84, 3) := by decide +kernel
theorem dX7_hang_71 : decode cX7_hang 71 = .ok (.iload_n 1, 1) := by decide +kernel
theorem dX7_hang_72 : decode cX7_hang 72 = .ok (.iastore, 1) := by decide +kernel
theorem dX7_hang_73 : decode cX7_hang 73 = .ok (.aload_n 0, 1) := by decide +kernel
theorem dX7_hang_74 : decode cX7_hang 74 = .ok (.getfield 39, 3) := by decide +kernel
theorem dX7_hang_77 : decode cX7_hang 77 = .ok (.aload_n 0, 1) := by decide +kernel
theorem dX7_hang_78 : decode cX7_hang 78 = .ok (.getfield 84, 3) := by decide +kernel
theorem dX7_hang_81 : decode cX7_hang 81 = .ok (.iconst 0, 1) := by decide +kernel
theorem dX7_hang_82 : decode cX7_hang 82 = .ok (.iastore, 1) := by decide +kernel
theorem dX7_hang_83 : decode cX7_hang 83 = .ok (.aload_n 0, 1) := by decide +kernel
theorem dX7_hang_84 : decode cX7_hang 84 = .ok (.iconst 1, 1) := by decide +kernel
theorem dX7_hang_85 : decode cX7_hang 85 = .ok (.iload_n 1, 1) := by decide +kernel
theorem dX7_hang_86 : decode cX7_hang 86 = .ok (.aload_n 0, 1) := by decide +kernel
theorem dX7_hang_87 : decode cX7_hang 87 = .ok (.getfield 84, 3) := by decide +kernel
theorem dX7_hang_90 : decode cX7_hang 90 = .ok (.invokevirtual 102, 3) := by decide +kernel
theorem dX7_hang_93 : decode cX7_hang 93 = .ok (.aload_n 0, 1) := by decide +kernel
theorem dX7_hang_94 : decode cX7_hang 94 = .ok (.dup, 1) := by decide +kernel
theorem dX7_hang_95 : decode cX7_hang 95 = .ok (.getfield 84, 3) := by decide +kernel
theorem dX7_hang_98 : decode cX7_hang 98 = .ok (.iconst 1, 1) := by decide +kernel
theorem dX7_hang_99 : decode cX7_hang 99 = .ok (.iadd, 1) := by decide +kernel
theorem dX7_hang_100 : decode cX7_hang 100 = .ok (.putfield 84, 3) := by decide +kernel
theorem dX7_hang_103 : decode cX7_hang 103 = .ok (.aload_n 0, 1) := by decide +kernel
theorem dX7_hang_104 : decode cX7_hang 104 = .ok (.getfield 84, 3) := by decide +kernel
theorem dX7_hang_107 : decode cX7_hang 107 = .ok (.iconst 1, 1) := by decide +kernel
theorem dX7_hang_108 : decode cX7_hang 108 = .ok (.isub, 1) := by decide +kernel
theorem dX7_hang_109 : decode cX7_hang 109 = .ok (.ireturn, 1) := by decide +kernel
set_option maxRecDepth 20000 in
theorem ggX7_takeOff_X7_isPerson : GoodIn wsX7_takeOff wsX7_isPerson := goodIn_r _ [9, 10, 11, 8, 12] (by decide +kernel) (by decide +kernel)
set_option maxRecDepth 20000 in
theorem gX7_takeOff_X7_isPerson : GoodIn wsX7_takeOff (va_wsS RX7 120 yX7_isPerson wsX7_isPerson) := goodIn_app (goodIn_of _ (by decide +kernel)) ggX7_takeOff_X7_isPerson
set_option maxRecDepth 20000 in
theorem ggX7_takeOff_X7_isTag : GoodIn wsX7_takeOff wsX7_isTag := goodIn_r _ [16, 17, 10, 11, 8, 12, 36, 37, 38, 39, 40, 41, 42, 43, 44, 45, 46, 47, 48, 49, 50, 51, 52, 53, 54, 55, 56, 57, 58, 59, 60, 61, 62, 63, 64, 65, 66, 67] (by decide +kernel) (by decide +kernel)
set_option maxRecDepth 20000 in
theorem gX7_takeOff_X7_isTag : GoodIn wsX7_takeOff (wsV RX7 137 RX7 yX7_isTag wsX7_isTag) := goodIn_app (goodIn_of _ (by decide +kernel)) ggX7_takeOff_X7_isTag
set_option maxRecDepth 20000 in
theorem ggX7_takeOff_X7_may : GoodIn wsX7_takeOff wsX7_may := goodIn_r _ [21, 22, 23, 24, 25, 26, 8, 27, 4, 28, 36, 37, 38, 39, 40, 41, 42, 43, 44, 45, 46, 47, 48, 49, 50, 51, 52, 53, 54, 55, 56, 57, 58, 59, 60, 61, 62, 63, 64, 65, 66, 67] (by decide +kernel) (by decide +kernel)
set_option maxRecDepth 20000 in
theorem gX7_takeOff_X7_may : GoodIn wsX7_takeOff (wsV RX7 113 RX7 yX7_may wsX7_may) := goodIn_app (goodIn_of _ (by decide +kernel)) ggX7_takeOff_X7_may
set_option maxRecDepth 20000 in
theorem ggX7_takeOff_X7_notes : GoodIn wsX7_takeOff wsX7_notes := goodIn_r _ [32, 33, 28, 34, 35, 36, 37, 38, 39, 40, 41, 42, 43, 44, 45, 46, 47, 48, 49, 50, 51, 52, 53, 54, 55, 56, 57, 58, 59, 60, 61, 62, 63, 64, 65, 66, 67] (by decide +kernel) (by decide +kernel)
set_option maxRecDepth 20000 in
theorem gX7_takeOff_X7_notes : GoodIn wsX7_takeOff (wsV RX7 102 RX7 yX7_notes wsX7_notes) := goodIn_app (goodIn_of _ (by decide +kernel)) ggX7_takeOff_X7_notes
theorem dX7_takeOff_0 : decode cX7_takeOff 0 = .ok (.aload_n 0, 1) := by decide +kernel
theorem dX7_takeOff_1 : decode cX7_takeOff 1 = .ok (.iload_n 1, 1) := by decide +kernel
theorem dX7_takeOff_2 : decode cX7_takeOff 2 = .ok (.invokestatic 120, 3) := by decide +kernel
theorem dX7_takeOff_5 : decode cX7_takeOff 5 = .ok (.ifCond .eq 15, 3) := by decide +kernel
theorem dX7_takeOff_8 : decode cX7_takeOff 8 = .ok (.aload_n 0, 1) := by decide +kernel
theorem dX7_takeOff_9 : decode cX7_takeOff 9 = .ok (.iload_n 2, 1) := by decide +kernel
theorem dX7_takeOff_10 : decode cX7_takeOff 10 = .ok (.invokevirtual 137, 3) := by decide +kernel
theorem dX7_takeOff_13 : decode cX7_takeOff 13 = .ok (.ifCond .eq 7, 3) := by decide +kernel
theorem dX7_takeOff_16 : decode cX7_takeOff 16 = .ok (.iconst 0, 1) := by decide +kernel
theorem dX7_takeOff_17 : decode cX7_takeOff 17 = .ok (.goto 4, 3) := by decide +kernel
theorem dX7_takeOff_20 : decode cX7_takeOff 20 = .ok (.iconst 1, 1) := by decide +kernel
theorem dX7_takeOff_21 : decode cX7_takeOff 21 = .ok (.putfield 76, 3) := by decide +kernel
theorem dX7_takeOff_24 : decode cX7_takeOff 24 = .ok (.aload_n 0, 1) := by decide +kernel
theorem dX7_takeOff_25 : decode cX7_takeOff 25 = .ok (.getfield 76, 3) := by decide +kernel
theorem dX7_takeOff_28 : decode cX7_takeOff 28 = .ok (.ifCond .ne 64, 3) := by decide +kernel
theorem dX7_takeOff_31 : decode cX7_takeOff 31 = .ok (.aload_n 0, 1) := by decide +kernel
theorem dX7_takeOff_32 : decode cX7_takeOff 32 = .ok (.getfield 33, 3) := by decide +kernel
theorem dX7_takeOff_35 : decode cX7_takeOff 35 = .ok (.iload_n 2, 1) := by decide +kernel
theorem dX7_takeOff_36 : decode cX7_takeOff 36 = .ok (.iaload, 1) := by decide +kernel
theorem dX7_takeOff_37 : decode cX7_takeOff 37 = .ok (.iconst (-1), 1) := by decide +kernel
theorem dX7_takeOff_38 : decode cX7_takeOff 38 = .ok (.if_icmp .eq 39, 3) := by decide +kernel
theorem dX7_takeOff_41 : decode cX7_takeOff 41 = .ok (.aload_n 0, 1) := by decide +kernel
theorem dX7_takeOff_42 : decode cX7_takeOff 42 = .ok (.iload_n 1, 1) := by decide +kernel
theorem dX7_takeOff_43 : decode cX7_takeOff 43 = .ok (.invokevirtual 113, 3) := by decide +kernel
theorem dX7_takeOff_46 : decode cX7_takeOff 46 = .ok (.ifCond .eq 31, 3) := by decide +kernel
theorem dX7_takeOff_49 : decode cX7_takeOff 49 = .ok (.iload_n 1, 1) := by decide +kernel
theorem dX7_takeOff_50 : decode cX7_takeOff 50 = .ok (.aload_n 0, 1) := by decide +kernel
theorem dX7_takeOff_51 : decode cX7_takeOff 51 = .ok (.getfield 36, 3) := by decide +kernel
theorem dX7_takeOff_54 : decode cX7_takeOff 54 = .ok (.iload_n 2, 1) := by decide +kernel
theorem dX7_takeOff_55 : decode cX7_takeOff 55 = .ok (.iaload, 1) := by decide +kernel
theorem dX7_takeOff_56 : decode cX7_takeOff 56 = .ok (.if_icmp .eq 17, 3) := by decide +kernel
theorem dX7_takeOff_59 : decode cX7_takeOff 59 = .ok (.aload_n 0, 1) := by decide +kernel
theorem dX7_takeOff_60 : decode cX7_takeOff 60 = .ok (.getfield 17, 3) := by decide +kernel
theorem dX7_takeOff_63 : decode cX7_takeOff 63 = .ok (.aload_n 0, 1) := by decide +kernel
theorem dX7_takeOff_64 : decode cX7_takeOff 64 = .ok (.getfield 36, 3) := by decide +kernel
theorem dX7_takeOff_67 : decode cX7_takeOff 67 = .ok (.iload_n 2, 1) := by decide +kernel
theorem dX7_takeOff_68 : decode cX7_takeOff 68 = .ok (.iaload, 1) := by decide +kernel
theorem dX7_takeOff_69 : decode cX7_takeOff 69 = .ok (.baload, 1) := by decide +kernel
theorem dX7_takeOff_70 : decode cX7_takeOff 70 = .ok (.ifCond .eq 7, 3) := by decide +kernel
theorem dX7_takeOff_73 : decode cX7_takeOff 73 = .ok (.iconst 1, 1) := by decide +kernel
theorem dX7_takeOff_74 : decode cX7_takeOff 74 = .ok (.goto 4, 3) := by decide +kernel
theorem dX7_takeOff_77 : decode cX7_takeOff 77 = .ok (.iconst 0, 1) := by decide +kernel
theorem dX7_takeOff_78 : decode cX7_takeOff 78 = .ok (.istore_n 3, 1) := by decide +kernel
theorem dX7_takeOff_79 : decode cX7_takeOff 79 = .ok (.aload_n 0, 1) := by decide +kernel
theorem dX7_takeOff_80 : decode cX7_takeOff 80 = .ok (.iload_n 3, 1) := by decide +kernel
theorem dX7_takeOff_81 : decode cX7_takeOff 81 = .ok (.ifCond .eq 7, 3) := by decide +kernel
theorem dX7_takeOff_84 : decode cX7_takeOff 84 = .ok (.iconst 0, 1) := by decide +kernel
theorem dX7_takeOff_85 : decode cX7_takeOff 85 = .ok (.goto 4, 3) := by decide +kernel
theorem dX7_takeOff_88 : decode cX7_takeOff 88 = .ok (.iconst 2, 1) := by decide +kernel
theorem dX7_takeOff_89 : decode cX7_takeOff 89 = .ok (.putfield 76, 3) := by decide +kernel
theorem dX7_takeOff_92 : decode cX7_takeOff 92 = .ok (.aload_n 0, 1) := by decide +kernel
theorem dX7_takeOff_93 : decode cX7_takeOff 93 = .ok (.getfield 76, 3) := by decide +kernel
theorem dX7_takeOff_96 : decode cX7_takeOff 96 = .ok (.ifCond .le 5, 3) := by decide +kernel
theorem dX7_takeOff_99 : decode cX7_takeOff 99 = .ok (.iconst 0, 1) := by decide +kernel
theorem dX7_takeOff_100 : decode cX7_takeOff 100 = .ok (.ireturn, 1) := by decide +kernel
theorem dX7_takeOff_101 : decode cX7_takeOff 101 = .ok (.aload_n 0, 1) := by decide +kernel
theorem dX7_takeOff_102 : decode cX7_takeOff 102 = .ok (.getfield 39, 3) := by decide +kernel
theorem dX7_takeOff_105 : decode cX7_takeOff 105 = .ok (.iload_n 2, 1) := by decide +kernel
theorem dX7_takeOff_106 : decode cX7_takeOff 106 = .ok (.dup2, 1) := by decide +kernel
theorem dX7_takeOff_107 : decode cX7_takeOff 107 = .ok (.iaload, 1) := by decide +kernel
theorem dX7_takeOff_108 : decode cX7_takeOff 108 = .ok (.iconst 1, 1) := by decide +kernel
theorem dX7_takeOff_109 : decode cX7_takeOff 109 = .ok (.iload_n 1, 1) := by decide +kernel
theorem dX7_takeOff_110 : decode cX7_takeOff 110 = .ok (.ishl, 1) := by decide +kernel
theorem dX7_takeOff_111 : decode cX7_takeOff 111 = .ok (.ior, 1) := by decide +kernel
theorem dX7_takeOff_112 : decode cX7_takeOff 112 = .ok (.iastore, 1) := by decide +kernel
theorem dX7_takeOff_113 : decode cX7_takeOff 113 = .ok (.iload_n 1, 1) := by decide +kernel
theorem dX7_takeOff_114 : decode cX7_takeOff 114 = .ok (.aload_n 0, 1) := by decide +kernel
theorem dX7_takeOff_115 : decode cX7_takeOff 115 = .ok (.getfield 36, 3) := by decide +kernel
theorem dX7_takeOff_118 : decode cX7_takeOff 118 = .ok (.iload_n 2, 1) := by decide +kernel
theorem dX7_takeOff_119 : decode cX7_takeOff 119 = .ok (.iaload, 1) := by decide +kernel
theorem dX7_takeOff_120 : decode cX7_takeOff 120 = .ok (.if_icmp .eq 21, 3) := by decide +kernel
theorem dX7_takeOff_123 : decode cX7_takeOff 123 = .ok (.aload_n 0, 1) := by decide +kernel
theorem dX7_takeOff_124 : decode cX7_takeOff 124 = .ok (.getfield 39, 3) := by decide +kernel
theorem dX7_takeOff_127 : decode cX7_takeOff 127 = .ok (.iload_n 2, 1) := by decide +kernel
theorem dX7_takeOff_128 : decode cX7_takeOff 128 = .ok (.iaload, 1) := by decide +kernel
theorem dX7_takeOff_129 : decode cX7_takeOff 129 = .ok (.aload_n 0, 1) := by decide +kernel
theorem dX7_takeOff_130 : decode cX7_takeOff 130 = .ok (.getfield 39, 3) := by decide +kernel
theorem dX7_takeOff_133 : decode cX7_takeOff 133 = .ok (.iload_n 2, 1) := by decide +kernel
theorem dX7_takeOff_134 : decode cX7_takeOff 134 = .ok (.iaload, 1) := by decide +kernel
theorem dX7_takeOff_135 : decode cX7_takeOff 135 = .ok (.iconst 1, 1) := by decide +kernel
theorem dX7_takeOff_136 : decode cX7_takeOff 136 = .ok (.isub, 1) := by decide +kernel
theorem dX7_takeOff_137 : decode cX7_takeOff 137 = .ok (.iand, 1) := by decide +kernel
theorem dX7_takeOff_138 : decode cX7_takeOff 138 = .ok (.ifCond .eq 7, 3) := by decide +kernel
theorem dX7_takeOff_141 : decode cX7_takeOff 141 = .ok (.iconst 1, 1) := by decide +kernel
theorem dX7_takeOff_142 : decode cX7_takeOff 142 = .ok (.goto 4, 3) := by decide +kernel
theorem dX7_takeOff_145 : decode cX7_takeOff 145 = .ok (.iconst 0, 1) := by decide +kernel
theorem dX7_takeOff_146 : decode cX7_takeOff 146 = .ok (.istore_n 3, 1) := by decide +kernel
theorem dX7_takeOff_147 : decode cX7_takeOff 147 = .ok (.iload_n 3, 1) := by decide +kernel
theorem dX7_takeOff_148 : decode cX7_takeOff 148 = .ok (.ifCond .eq 17, 3) := by decide +kernel
theorem dX7_takeOff_151 : decode cX7_takeOff 151 = .ok (.aload_n 0, 1) := by decide +kernel
theorem dX7_takeOff_152 : decode cX7_takeOff 152 = .ok (.getfield 33, 3) := by decide +kernel
theorem dX7_takeOff_155 : decode cX7_takeOff 155 = .ok (.iload_n 2, 1) := by decide +kernel
theorem dX7_takeOff_156 : decode cX7_takeOff 156 = .ok (.iconst (-1), 1) := by decide +kernel
theorem dX7_takeOff_157 : decode cX7_takeOff 157 = .ok (.iastore, 1) := by decide +kernel
theorem dX7_takeOff_158 : decode cX7_takeOff 158 = .ok (.aload_n 0, 1) := by decide +kernel
theorem dX7_takeOff_159 : decode cX7_takeOff 159 = .ok (.iconst 2, 1) := by decide +kernel
theorem dX7_takeOff_160 : decode cX7_takeOff 160 = .ok (.iload_n 1, 1) := by decide +kernel
theorem dX7_takeOff_161 : decode cX7_takeOff 161 = .ok (.iload_n 2, 1) := by decide +kernel
theorem dX7_takeOff_162 : decode cX7_takeOff 162 = .ok (.invokevirtual 102, 3) := by decide +kernel
theorem dX7_takeOff_165 : decode cX7_takeOff 165 = .ok (.iload_n 3, 1) := by decide +kernel
theorem dX7_takeOff_166 : decode cX7_takeOff 166 = .ok (.ireturn, 1) := by decide +kernel
set_option maxRecDepth 20000 in
theorem ggX7_valveOf_X7_isTag : GoodIn wsX7_valveOf wsX7_isTag := goodIn_r _ [7, 8, 9, 10, 6, 11, 12, 13, 14, 15, 16, 17, 18, 19, 20, 21, 22, 23, 24, 25, 26, 27, 28, 29, 30, 31, 32, 33, 34, 35, 36, 37, 38, 39, 40, 41, 42, 43] (by decide +kernel) (by decide +kernel)
set_option maxRecDepth 20000 in
theorem gX7_valveOf_X7_isTag : GoodIn wsX7_valveOf (wsV RX7 137 RX7 yX7_isTag wsX7_isTag) := goodIn_app (goodIn_of _ (by decide +kernel)) ggX7_valveOf_X7_isTag
theorem dX7_valveOf_0 : decode cX7_valveOf 0 = .ok (.aload_n 0, 1) := by decide +kernel
theorem dX7_valveOf_1 : decode cX7_valveOf 1 = .ok (.aload_n 0, 1) := by decide +kernel
theorem dX7_valveOf_2 : decode cX7_valveOf 2 = .ok (.iload_n 1, 1) := by decide +kernel
theorem dX7_valveOf_3 : decode cX7_valveOf 3 = .ok (.invokevirtual 137, 3) := by decide +kernel
theorem dX7_valveOf_6 : decode cX7_valveOf 6 = .ok (.ifCond .eq 7, 3) := by decide +kernel
theorem dX7_valveOf_9 : decode cX7_valveOf 9 = .ok (.iconst 0, 1) := by decide +kernel
theorem dX7_valveOf_10 : decode cX7_valveOf 10 = .ok (.goto 4, 3) := by decide +kernel
theorem dX7_valveOf_13 : decode cX7_valveOf 13 = .ok (.iconst 1, 1) := by decide +kernel
theorem dX7_valveOf_14 : decode cX7_valveOf 14 = .ok (.putfield 76, 3) := by decide +kernel
theorem dX7_valveOf_17 : decode cX7_valveOf 17 = .ok (.aload_n 0, 1) := by decide +kernel
theorem dX7_valveOf_18 : decode cX7_valveOf 18 = .ok (.getfield 76, 3) := by decide +kernel
theorem dX7_valveOf_21 : decode cX7_valveOf 21 = .ok (.ifCond .le 7, 3) := by decide +kernel
theorem dX7_valveOf_24 : decode cX7_valveOf 24 = .ok (.iconst 0, 1) := by decide +kernel
theorem dX7_valveOf_25 : decode cX7_valveOf 25 = .ok (.goto 9, 3) := by decide +kernel
theorem dX7_valveOf_28 : decode cX7_valveOf 28 = .ok (.aload_n 0, 1) := by decide +kernel
theorem dX7_valveOf_29 : decode cX7_valveOf 29 = .ok (.getfield 33, 3) := by decide +kernel
theorem dX7_valveOf_32 : decode cX7_valveOf 32 = .ok (.iload_n 1, 1) := by decide +kernel
theorem dX7_valveOf_33 : decode cX7_valveOf 33 = .ok (.iaload, 1) := by decide +kernel
theorem dX7_valveOf_34 : decode cX7_valveOf 34 = .ok (.ireturn, 1) := by decide +kernel
set_option maxRecDepth 20000 in
theorem ggX7_ownerOf_X7_isTag : GoodIn wsX7_ownerOf wsX7_isTag := goodIn_r _ [7, 8, 9, 10, 6, 11, 12, 13, 14, 15, 16, 17, 18, 19, 20, 21, 22, 23, 24, 25, 26, 27, 28, 29, 30, 31, 32, 33, 34, 35, 36, 37, 38, 39, 40, 41, 42, 43] (by decide +kernel) (by decide +kernel)
set_option maxRecDepth 20000 in
theorem gX7_ownerOf_X7_isTag : GoodIn wsX7_ownerOf (wsV RX7 137 RX7 yX7_isTag wsX7_isTag) := goodIn_app (goodIn_of _ (by decide +kernel)) ggX7_ownerOf_X7_isTag
theorem dX7_ownerOf_0 : decode cX7_ownerOf 0 = .ok (.aload_n 0, 1) := by decide +kernel
theorem dX7_ownerOf_1 : decode cX7_ownerOf 1 = .ok (.aload_n 0, 1) := by decide +kernel
theorem dX7_ownerOf_2 : decode cX7_ownerOf 2 = .ok (.iload_n 1, 1) := by decide +kernel
theorem dX7_ownerOf_3 : decode cX7_ownerOf 3 = .ok (.invokevirtual 137, 3) := by decide +kernel
theorem dX7_ownerOf_6 : decode cX7_ownerOf 6 = .ok (.ifCond .eq 7, 3) := by decide +kernel
theorem dX7_ownerOf_9 : decode cX7_ownerOf 9 = .ok (.iconst 0, 1) := by decide +kernel
theorem dX7_ownerOf_10 : decode cX7_ownerOf 10 = .ok (.goto 4, 3) := by decide +kernel
theorem dX7_ownerOf_13 : decode cX7_ownerOf 13 = .ok (.iconst 1, 1) := by decide +kernel
theorem dX7_ownerOf_14 : decode cX7_ownerOf 14 = .ok (.putfield 76, 3) := by decide +kernel
theorem dX7_ownerOf_17 : decode cX7_ownerOf 17 = .ok (.aload_n 0, 1) := by decide +kernel
theorem dX7_ownerOf_18 : decode cX7_ownerOf 18 = .ok (.getfield 76, 3) := by decide +kernel
theorem dX7_ownerOf_21 : decode cX7_ownerOf 21 = .ok (.ifCond .le 7, 3) := by decide +kernel
theorem dX7_ownerOf_24 : decode cX7_ownerOf 24 = .ok (.iconst 0, 1) := by decide +kernel
theorem dX7_ownerOf_25 : decode cX7_ownerOf 25 = .ok (.goto 9, 3) := by decide +kernel
theorem dX7_ownerOf_28 : decode cX7_ownerOf 28 = .ok (.aload_n 0, 1) := by decide +kernel
theorem dX7_ownerOf_29 : decode cX7_ownerOf 29 = .ok (.getfield 36, 3) := by decide +kernel
theorem dX7_ownerOf_32 : decode cX7_ownerOf 32 = .ok (.iload_n 1, 1) := by decide +kernel
theorem dX7_ownerOf_33 : decode cX7_ownerOf 33 = .ok (.iaload, 1) := by decide +kernel
theorem dX7_ownerOf_34 : decode cX7_ownerOf 34 = .ok (.ireturn, 1) := by decide +kernel
set_option maxRecDepth 20000 in
theorem ggX7_tagsByLog_X7_isValve : GoodIn wsX7_tagsByLog wsX7_isValve := goodIn_r _ [5, 6, 7, 4, 8] (by decide +kernel) (by decide +kernel)
set_option maxRecDepth 20000 in
theorem gX7_tagsByLog_X7_isValve : GoodIn wsX7_tagsByLog (va_wsS RX7 106 yX7_isValve wsX7_isValve) := goodIn_app (goodIn_of _ (by decide +kernel)) ggX7_tagsByLog_X7_isValve
set_option maxRecDepth 20000 in
theorem ggX7_tagsByLog_X7_tagsOn : GoodIn wsX7_tagsByLog wsX7_tagsOn := goodIn_r _ [12, 13, 14, 15, 16, 17, 18, 19, 20, 21, 22, 23, 24, 25, 26, 27, 28, 29, 30, 31, 32, 33, 34, 35, 36, 37, 38, 39, 40, 41, 42, 43, 44, 45, 46] (by decide +kernel) (by decide +kernel)
set_option maxRecDepth 20000 in
theorem gX7_tagsByLog_X7_tagsOn : GoodIn wsX7_tagsByLog (wsV RX7 109 RX7 yX7_tagsOn wsX7_tagsOn) := goodIn_app (goodIn_of _ (by decide +kernel)) ggX7_tagsByLog_X7_tagsOn
theorem dX7_tagsByLog_0 : decode cX7_tagsByLog 0 = .ok (.aload_n 0, 1) := by decide +kernel
theorem dX7_tagsByLog_1 : decode cX7_tagsByLog 1 = .ok (.iload_n 1, 1) := by decide +kernel
theorem dX7_tagsByLog_2 : decode cX7_tagsByLog 2 = .ok (.invokestatic 106, 3) := by decide +kernel
theorem dX7_tagsByLog_5 : decode cX7_tagsByLog 5 = .ok (.ifCond .eq 7, 3) := by decide +kernel
theorem dX7_tagsByLog_8 : decode cX7_tagsByLog 8 = .ok (.iconst 0, 1) := by decide +kernel
theorem dX7_tagsByLog_9 : decode cX7_tagsByLog 9 = .ok (.goto 4, 3) := by decide +kernel
theorem dX7_tagsByLog_12 : decode cX7_tagsByLog 12 = .ok (.iconst 1, 1) := by decide +kernel
theorem dX7_tagsByLog_13 : decode cX7_tagsByLog 13 = .ok (.putfield 76, 3) := by decide +kernel
theorem dX7_tagsByLog_16 : decode cX7_tagsByLog 16 = .ok (.aload_n 0, 1) := by decide +kernel
theorem dX7_tagsByLog_17 : decode cX7_tagsByLog 17 = .ok (.getfield 76, 3) := by decide +kernel
theorem dX7_tagsByLog_20 : decode cX7_tagsByLog 20 = .ok (.ifCond .le 7, 3) := by decide +kernel
theorem dX7_tagsByLog_23 : decode cX7_tagsByLog 23 = .ok (.iconst 0, 1) := by decide +kernel
theorem dX7_tagsByLog_24 : decode cX7_tagsByLog 24 = .ok (.goto 8, 3) := by decide +kernel
theorem dX7_tagsByLog_27 : decode cX7_tagsByLog 27 = .ok (.aload_n 0, 1) := by decide +kernel
theorem dX7_tagsByLog_28 : decode cX7_tagsByLog 28 = .ok (.iload_n 1, 1) := by decide +kernel
theorem dX7_tagsByLog_29 : decode cX7_tagsByLog 29 = .ok (.invokevirtual 109, 3) := by decide +kernel
theorem dX7_tagsByLog_32 : decode cX7_tagsByLog 32 = .ok (.ireturn, 1) := by decide +kernel
set_option maxRecDepth 20000 in
theorem ggX7_read_X7_isPerson : GoodIn wsX7_read wsX7_isPerson := goodIn_r _ [8, 9, 10, 7, 11] (by decide +kernel) (by decide +kernel)
set_option maxRecDepth 20000 in
theorem gX7_read_X7_isPerson : GoodIn wsX7_read (va_wsS RX7 120 yX7_isPerson wsX7_isPerson) := goodIn_app (goodIn_of _ (by decide +kernel)) ggX7_read_X7_isPerson
theorem dX7_read_0 : decode cX7_read 0 = .ok (.aload_n 0, 1) := by decide +kernel
theorem dX7_read_1 : decode cX7_read 1 = .ok (.iload_n 1, 1) := by decide +kernel
theorem dX7_read_2 : decode cX7_read 2 = .ok (.invokestatic 120, 3) := by decide +kernel
theorem dX7_read_5 : decode cX7_read 5 = .ok (.ifCond .ne 7, 3) := by decide +kernel
theorem dX7_read_8 : decode cX7_read 8 = .ok (.iconst 1, 1) := by decide +kernel
theorem dX7_read_9 : decode cX7_read 9 = .ok (.goto 17, 3) := by decide +kernel
theorem dX7_read_12 : decode cX7_read 12 = .ok (.aload_n 0, 1) := by decide +kernel
theorem dX7_read_13 : decode cX7_read 13 = .ok (.getfield 17, 3) := by decide +kernel
theorem dX7_read_16 : decode cX7_read 16 = .ok (.iload_n 1, 1) := by decide +kernel
theorem dX7_read_17 : decode cX7_read 17 = .ok (.baload, 1) := by decide +kernel
theorem dX7_read_18 : decode cX7_read 18 = .ok (.ifCond .eq 7, 3) := by decide +kernel
theorem dX7_read_21 : decode cX7_read 21 = .ok (.iconst 2, 1) := by decide +kernel
theorem dX7_read_22 : decode cX7_read 22 = .ok (.goto 4, 3) := by decide +kernel
theorem dX7_read_25 : decode cX7_read 25 = .ok (.iconst 0, 1) := by decide +kernel
theorem dX7_read_26 : decode cX7_read 26 = .ok (.putfield 76, 3) := by decide +kernel
theorem dX7_read_29 : decode cX7_read 29 = .ok (.aload_n 0, 1) := by decide +kernel
theorem dX7_read_30 : decode cX7_read 30 = .ok (.getfield 76, 3) := by decide +kernel
theorem dX7_read_33 : decode cX7_read 33 = .ok (.ifCond .le 5, 3) := by decide +kernel
theorem dX7_read_36 : decode cX7_read 36 = .ok (.iconst 0, 1) := by decide +kernel
theorem dX7_read_37 : decode cX7_read 37 = .ok (.ireturn, 1) := by decide +kernel
theorem dX7_read_38 : decode cX7_read 38 = .ok (.aload_n 0, 1) := by decide +kernel
theorem dX7_read_39 : decode cX7_read 39 = .ok (.getfield 92, 3) := by decide +kernel
theorem dX7_read_42 : decode cX7_read 42 = .ok (.aload_n 0, 1) := by decide +kernel
theorem dX7_read_43 : decode cX7_read 43 = .ok (.getfield 13, 3) := by decide +kernel
theorem dX7_read_46 : decode cX7_read 46 = .ok (.iload_n 1, 1) := by decide +kernel
theorem dX7_read_47 : decode cX7_read 47 = .ok (.iaload, 1) := by decide +kernel
theorem dX7_read_48 : decode cX7_read 48 = .ok (.isub, 1) := by decide +kernel
theorem dX7_read_49 : decode cX7_read 49 = .ok (.istore_n 2, 1) := by decide +kernel
theorem dX7_read_50 : decode cX7_read 50 = .ok (.aload_n 0, 1) := by decide +kernel
theorem dX7_read_51 : decode cX7_read 51 = .ok (.getfield 13, 3) := by decide +kernel
theorem dX7_read_54 : decode cX7_read 54 = .ok (.iload_n 1, 1) := by decide +kernel
theorem dX7_read_55 : decode cX7_read 55 = .ok (.aload_n 0, 1) := by decide +kernel
theorem dX7_read_56 : decode cX7_read 56 = .ok (.getfield 92, 3) := by decide +kernel
theorem dX7_read_59 : decode cX7_read 59 = .ok (.iastore, 1) := by decide +kernel
theorem dX7_read_60 : decode cX7_read 60 = .ok (.iload_n 2, 1) := by decide +kernel
theorem dX7_read_61 : decode cX7_read 61 = .ok (.ireturn, 1) := by decide +kernel
set_option maxRecDepth 20000 in
theorem ggX7_leave_X7_isPerson : GoodIn wsX7_leave wsX7_isPerson := goodIn_r _ [9, 10, 11, 8, 12] (by decide +kernel) (by decide +kernel)
set_option maxRecDepth 20000 in
theorem gX7_leave_X7_isPerson : GoodIn wsX7_leave (va_wsS RX7 120 yX7_isPerson wsX7_isPerson) := goodIn_app (goodIn_of _ (by decide +kernel)) ggX7_leave_X7_isPerson
set_option maxRecDepth 20000 in
theorem ggX7_leave_X7_notes : GoodIn wsX7_leave wsX7_notes := goodIn_r _ [16, 17, 18, 19, 20, 21, 22, 23, 24, 25, 26, 27, 28, 29, 30, 31, 32, 33, 34, 35, 36, 37, 38, 39, 40, 41, 42, 43, 44, 45, 46, 47, 48, 49, 50, 51, 52] (by decide +kernel) (by decide +kernel)
set_option maxRecDepth 20000 in
theorem gX7_leave_X7_notes : GoodIn wsX7_leave (wsV RX7 102 RX7 yX7_notes wsX7_notes) := goodIn_app (goodIn_of _ (by decide +kernel)) ggX7_leave_X7_notes
theorem dX7_leave_0 : decode cX7_leave 0 = .ok (.aload_n 0, 1) := by decide +kernel
theorem dX7_leave_1 : decode cX7_leave 1 = .ok (.iload_n 1, 1) := by decide +kernel
theorem dX7_leave_2 : decode cX7_leave 2 = .ok (.invokestatic 120, 3) := by decide +kernel
theorem dX7_leave_5 : decode cX7_leave 5 = .ok (.ifCond .ne 7, 3) := by decide +kernel
theorem dX7_leave_8 : decode cX7_leave 8 = .ok (.iconst 1, 1) := by decide +kernel
theorem dX7_leave_9 : decode cX7_leave 9 = .ok (.goto 17, 3) := by decide +kernel
theorem dX7_leave_12 : decode cX7_leave 12 = .ok (.aload_n 0, 1) := by decide +kernel
theorem dX7_leave_13 : decode cX7_leave 13 = .ok (.getfield 17, 3) := by decide +kernel
theorem dX7_leave_16 : decode cX7_leave 16 = .ok (.iload_n 1, 1) := by decide +kernel
theorem dX7_leave_17 : decode cX7_leave 17 = .ok (.baload, 1) := by decide +kernel
theorem dX7_leave_18 : decode cX7_leave 18 = .ok (.ifCond .eq 7, 3) := by decide +kernel
theorem dX7_leave_21 : decode cX7_leave 21 = .ok (.iconst 2, 1) := by decide +kernel
theorem dX7_leave_22 : decode cX7_leave 22 = .ok (.goto 4, 3) := by decide +kernel
theorem dX7_leave_25 : decode cX7_leave 25 = .ok (.iconst 0, 1) := by decide +kernel
theorem dX7_leave_26 : decode cX7_leave 26 = .ok (.putfield 76, 3) := by decide +kernel
theorem dX7_leave_29 : decode cX7_leave 29 = .ok (.aload_n 0, 1) := by decide +kernel
theorem dX7_leave_30 : decode cX7_leave 30 = .ok (.getfield 76, 3) := by decide +kernel
theorem dX7_leave_33 : decode cX7_leave 33 = .ok (.ifCond .le 5, 3) := by decide +kernel
theorem dX7_leave_36 : decode cX7_leave 36 = .ok (.iconst 0, 1) := by decide +kernel
theorem dX7_leave_37 : decode cX7_leave 37 = .ok (.ireturn, 1) := by decide +kernel
theorem dX7_leave_38 : decode cX7_leave 38 = .ok (.aload_n 0, 1) := by decide +kernel
theorem dX7_leave_39 : decode cX7_leave 39 = .ok (.getfield 17, 3) := by decide +kernel
theorem dX7_leave_42 : decode cX7_leave 42 = .ok (.iload_n 1, 1) := by decide +kernel
theorem dX7_leave_43 : decode cX7_leave 43 = .ok (.iconst 1, 1) := by decide +kernel
theorem dX7_leave_44 : decode cX7_leave 44 = .ok (.bastore, 1) := by decide +kernel
theorem dX7_leave_45 : decode cX7_leave 45 = .ok (.aload_n 0, 1) := by decide +kernel
theorem dX7_leave_46 : decode cX7_leave 46 = .ok (.iconst 4, 1) := by decide +kernel
theorem dX7_leave_47 : decode cX7_leave 47 = .ok (.iload_n 1, 1) := by decide +kernel
theorem dX7_leave_48 : decode cX7_leave 48 = .ok (.iconst 0, 1) := by decide +kernel
theorem dX7_leave_49 : decode cX7_leave 49 = .ok (.invokevirtual 102, 3) := by decide +kernel
theorem dX7_leave_52 : decode cX7_leave 52 = .ok (.iconst 0, 1) := by decide +kernel
theorem dX7_leave_53 : decode cX7_leave 53 = .ok (.istore_n 2, 1) := by decide +kernel
theorem dX7_leave_54 : decode cX7_leave 54 = .ok (.iconst 0, 1) := by decide +kernel
theorem dX7_leave_55 : decode cX7_leave 55 = .ok (.istore_n 3, 1) := by decide +kernel
theorem dX7_leave_56 : decode cX7_leave 56 = .ok (.iload_n 3, 1) := by decide +kernel
theorem dX7_leave_57 : decode cX7_leave 57 = .ok (.aload_n 0, 1) := by decide +kernel
theorem dX7_leave_58 : decode cX7_leave 58 = .ok (.getfield 84, 3) := by decide +kernel
theorem dX7_leave_61 : decode cX7_leave 61 = .ok (.if_icmp .ge 37, 3) := by decide +kernel
theorem dX7_leave_64 : decode cX7_leave 64 = .ok (.iload_n 2, 1) := by decide +kernel
theorem dX7_leave_65 : decode cX7_leave 65 = .ok (.aload_n 0, 1) := by decide +kernel
theorem dX7_leave_66 : decode cX7_leave 66 = .ok (.getfield 33, 3) := by decide +kernel
theorem dX7_leave_69 : decode cX7_leave 69 = .ok (.iload_n 3, 1) := by decide +kernel
theorem dX7_leave_70 : decode cX7_leave 70 = .ok (.iaload, 1) := by decide +kernel
theorem dX7_leave_71 : decode cX7_leave 71 = .ok (.iconst (-1), 1) := by decide +kernel
theorem dX7_leave_72 : decode cX7_leave 72 = .ok (.if_icmp .eq 17, 3) := by decide +kernel
theorem dX7_leave_75 : decode cX7_leave 75 = .ok (.aload_n 0, 1) := by decide +kernel
theorem dX7_leave_76 : decode cX7_leave 76 = .ok (.getfield 36, 3) := by decide +kernel
theorem dX7_leave_79 : decode cX7_leave 79 = .ok (.iload_n 3, 1) := by decide +kernel
theorem dX7_leave_80 : decode cX7_leave 80 = .ok (.iaload, 1) := by decide +kernel
theorem dX7_leave_81 : decode cX7_leave 81 = .ok (.iload_n 1, 1) := by decide +kernel
theorem dX7_leave_82 : decode cX7_leave 82 = .ok (.if_icmp .ne 7, 3) := by decide +kernel
theorem dX7_leave_85 : decode cX7_leave 85 = .ok (.iconst 1, 1) := by decide +kernel
theorem dX7_leave_86 : decode cX7_leave 86 = .ok (.goto 4, 3) := by decide +kernel
theorem dX7_leave_89 : decode cX7_leave 89 = .ok (.iconst 0, 1) := by decide +kernel
theorem dX7_leave_90 : decode cX7_leave 90 = .ok (.iadd, 1) := by decide +kernel
theorem dX7_leave_91 : decode cX7_leave 91 = .ok (.istore_n 2, 1) := by decide +kernel
theorem dX7_leave_92 : decode cX7_leave 92 = .ok (.iinc 3 1, 3) := by decide +kernel
theorem dX7_leave_95 : decode cX7_leave 95 = .ok (.goto (-39), 3) := by decide +kernel
theorem dX7_leave_98 : decode cX7_leave 98 = .ok (.iload_n 2, 1) := by decide +kernel
theorem dX7_leave_99 : decode cX7_leave 99 = .ok (.ireturn, 1) := by decide +kernel
set_option maxRecDepth 20000 in
theorem ggX7_canAct_X7_isPerson : GoodIn wsX7_canAct wsX7_isPerson := goodIn_r _ [5, 6, 7, 4, 8] (by decide +kernel) (by decide +kernel)
set_option maxRecDepth 20000 in
theorem gX7_canAct_X7_isPerson : GoodIn wsX7_canAct (va_wsS RX7 120 yX7_isPerson wsX7_isPerson) := goodIn_app (goodIn_of _ (by decide +kernel)) ggX7_canAct_X7_isPerson
set_option maxRecDepth 20000 in
theorem ggX7_canAct_X7_may : GoodIn wsX7_canAct wsX7_may := goodIn_r _ [12, 13, 14, 15, 16, 17, 4, 18, 19, 20, 21, 22, 23, 24, 25, 26, 27, 28, 29, 30, 31, 32, 33, 34, 35, 36, 37, 38, 39, 40, 41, 42, 43, 44, 45, 46, 47, 48, 49, 50, 51, 52] (by decide +kernel) (by decide +kernel)
set_option maxRecDepth 20000 in
theorem gX7_canAct_X7_may : GoodIn wsX7_canAct (wsV RX7 113 RX7 yX7_may wsX7_may) := goodIn_app (goodIn_of _ (by decide +kernel)) ggX7_canAct_X7_may
theorem dX7_canAct_0 : decode cX7_canAct 0 = .ok (.aload_n 0, 1) := by decide +kernel
theorem dX7_canAct_1 : decode cX7_canAct 1 = .ok (.iload_n 1, 1) := by decide +kernel
theorem dX7_canAct_2 : decode cX7_canAct 2 = .ok (.invokestatic 120, 3) := by decide +kernel
theorem dX7_canAct_5 : decode cX7_canAct 5 = .ok (.ifCond .eq 7, 3) := by decide +kernel
theorem dX7_canAct_8 : decode cX7_canAct 8 = .ok (.iconst 0, 1) := by decide +kernel
theorem dX7_canAct_9 : decode cX7_canAct 9 = .ok (.goto 4, 3) := by decide +kernel
theorem dX7_canAct_12 : decode cX7_canAct 12 = .ok (.iconst 1, 1) := by decide +kernel
theorem dX7_canAct_13 : decode cX7_canAct 13 = .ok (.putfield 76, 3) := by decide +kernel
theorem dX7_canAct_16 : decode cX7_canAct 16 = .ok (.aload_n 0, 1) := by decide +kernel
theorem dX7_canAct_17 : decode cX7_canAct 17 = .ok (.getfield 76, 3) := by decide +kernel
theorem dX7_canAct_20 : decode cX7_canAct 20 = .ok (.ifCond .ne 15, 3) := by decide +kernel
theorem dX7_canAct_23 : decode cX7_canAct 23 = .ok (.aload_n 0, 1) := by decide +kernel
theorem dX7_canAct_24 : decode cX7_canAct 24 = .ok (.iload_n 1, 1) := by decide +kernel
theorem dX7_canAct_25 : decode cX7_canAct 25 = .ok (.invokevirtual 113, 3) := by decide +kernel
theorem dX7_canAct_28 : decode cX7_canAct 28 = .ok (.ifCond .eq 7, 3) := by decide +kernel
theorem dX7_canAct_31 : decode cX7_canAct 31 = .ok (.iconst 1, 1) := by decide +kernel
theorem dX7_canAct_32 : decode cX7_canAct 32 = .ok (.goto 4, 3) := by decide +kernel
theorem dX7_canAct_35 : decode cX7_canAct 35 = .ok (.iconst 0, 1) := by decide +kernel
theorem dX7_canAct_36 : decode cX7_canAct 36 = .ok (.ireturn, 1) := by decide +kernel
theorem dX7_leads_0 : decode cX7_leads 0 = .ok (.aload_n 0, 1) := by decide +kernel
theorem dX7_leads_1 : decode cX7_leads 1 = .ok (.getfield 24, 3) := by decide +kernel
theorem dX7_leads_4 : decode cX7_leads 4 = .ok (.iload_n 1, 1) := by decide +kernel
theorem dX7_leads_5 : decode cX7_leads 5 = .ok (.iaload, 1) := by decide +kernel
theorem dX7_leads_6 : decode cX7_leads 6 = .ok (.iconst (-1), 1) := by decide +kernel
theorem dX7_leads_7 : decode cX7_leads 7 = .ok (.if_icmp .eq 19, 3) := by decide +kernel
theorem dX7_leads_10 : decode cX7_leads 10 = .ok (.aload_n 0, 1) := by decide +kernel
theorem dX7_leads_11 : decode cX7_leads 11 = .ok (.getfield 30, 3) := by decide +kernel
theorem dX7_leads_14 : decode cX7_leads 14 = .ok (.aload_n 0, 1) := by decide +kernel
theorem dX7_leads_15 : decode cX7_leads 15 = .ok (.getfield 24, 3) := by decide +kernel
theorem dX7_leads_18 : decode cX7_leads 18 = .ok (.iload_n 1, 1) := by decide +kernel
theorem dX7_leads_19 : decode cX7_leads 19 = .ok (.iaload, 1) := by decide +kernel
theorem dX7_leads_20 : decode cX7_leads 20 = .ok (.iaload, 1) := by decide +kernel
theorem dX7_leads_21 : decode cX7_leads 21 = .ok (.bipush 10, 2) := by decide +kernel
theorem dX7_leads_23 : decode cX7_leads 23 = .ok (.if_icmp .le 8, 3) := by decide +kernel
theorem dX7_leads_26 : decode cX7_leads 26 = .ok (.bipush 10, 2) := by decide +kernel
theorem dX7_leads_28 : decode cX7_leads 28 = .ok (.goto 14, 3) := by decide +kernel
theorem dX7_leads_31 : decode cX7_leads 31 = .ok (.aload_n 0, 1) := by decide +kernel
theorem dX7_leads_32 : decode cX7_leads 32 = .ok (.getfield 30, 3) := by decide +kernel
theorem dX7_leads_35 : decode cX7_leads 35 = .ok (.aload_n 0, 1) := by decide +kernel
theorem dX7_leads_36 : decode cX7_leads 36 = .ok (.getfield 24, 3) := by decide +kernel
theorem dX7_leads_39 : decode cX7_leads 39 = .ok (.iload_n 1, 1) := by decide +kernel
theorem dX7_leads_40 : decode cX7_leads 40 = .ok (.iaload, 1) := by decide +kernel
theorem dX7_leads_41 : decode cX7_leads 41 = .ok (.iaload, 1) := by decide +kernel
theorem dX7_leads_42 : decode cX7_leads 42 = .ok (.istore_n 2, 1) := by decide +kernel
theorem dX7_leads_43 : decode cX7_leads 43 = .ok (.aload_n 0, 1) := by decide +kernel
theorem dX7_leads_44 : decode cX7_leads 44 = .ok (.getfield 24, 3) := by decide +kernel
theorem dX7_leads_47 : decode cX7_leads 47 = .ok (.iload_n 1, 1) := by decide +kernel
theorem dX7_leads_48 : decode cX7_leads 48 = .ok (.iaload, 1) := by decide +kernel
theorem dX7_leads_49 : decode cX7_leads 49 = .ok (.iconst (-1), 1) := by decide +kernel
theorem dX7_leads_50 : decode cX7_leads 50 = .ok (.if_icmp .eq 18, 3) := by decide +kernel
theorem dX7_leads_53 : decode cX7_leads 53 = .ok (.aload_n 0, 1) := by decide +kernel
theorem dX7_leads_54 : decode cX7_leads 54 = .ok (.getfield 30, 3) := by decide +kernel
theorem dX7_leads_57 : decode cX7_leads 57 = .ok (.aload_n 0, 1) := by decide +kernel
theorem dX7_leads_58 : decode cX7_leads 58 = .ok (.getfield 24, 3) := by decide +kernel
theorem dX7_leads_61 : decode cX7_leads 61 = .ok (.iload_n 1, 1) := by decide +kernel
theorem dX7_leads_62 : decode cX7_leads 62 = .ok (.iaload, 1) := by decide +kernel
theorem dX7_leads_63 : decode cX7_leads 63 = .ok (.dup2, 1) := by decide +kernel
theorem dX7_leads_64 : decode cX7_leads 64 = .ok (.iaload, 1) := by decide +kernel
theorem dX7_leads_65 : decode cX7_leads 65 = .ok (.iload_n 2, 1) := by decide +kernel
theorem dX7_leads_66 : decode cX7_leads 66 = .ok (.isub, 1) := by decide +kernel
theorem dX7_leads_67 : decode cX7_leads 67 = .ok (.iastore, 1) := by decide +kernel
theorem dX7_leads_68 : decode cX7_leads 68 = .ok (.aload_n 0, 1) := by decide +kernel
theorem dX7_leads_69 : decode cX7_leads 69 = .ok (.getfield 27, 3) := by decide +kernel
theorem dX7_leads_72 : decode cX7_leads 72 = .ok (.iload_n 1, 1) := by decide +kernel
theorem dX7_leads_73 : decode cX7_leads 73 = .ok (.iaload, 1) := by decide +kernel
theorem dX7_leads_74 : decode cX7_leads 74 = .ok (.iconst (-1), 1) := by decide +kernel
theorem dX7_leads_75 : decode cX7_leads 75 = .ok (.if_icmp .eq 80, 3) := by decide +kernel
theorem dX7_leads_78 : decode cX7_leads 78 = .ok (.aload_n 0, 1) := by decide +kernel
theorem dX7_leads_79 : decode cX7_leads 79 = .ok (.getfield 30, 3) := by decide +kernel
theorem dX7_leads_82 : decode cX7_leads 82 = .ok (.aload_n 0, 1) := by decide +kernel
theorem dX7_leads_83 : decode cX7_leads 83 = .ok (.getfield 27, 3) := by decide +kernel
theorem dX7_leads_86 : decode cX7_leads 86 = .ok (.iload_n 1, 1) := by decide +kernel
theorem dX7_leads_87 : decode cX7_leads 87 = .ok (.iaload, 1) := by decide +kernel
theorem dX7_leads_88 : decode cX7_leads 88 = .ok (.dup2, 1) := by decide +kernel
theorem dX7_leads_89 : decode cX7_leads 89 = .ok (.iaload, 1) := by decide +kernel
theorem dX7_leads_90 : decode cX7_leads 90 = .ok (.iload_n 2, 1) := by decide +kernel
theorem dX7_leads_91 : decode cX7_leads 91 = .ok (.iadd, 1) := by decide +kernel
theorem dX7_leads_92 : decode cX7_leads 92 = .ok (.iastore, 1) := by decide +kernel
theorem dX7_leads_93 : decode cX7_leads 93 = .ok (.aload_n 0, 1) := by decide +kernel
theorem dX7_leads_94 : decode cX7_leads 94 = .ok (.getfield 30, 3) := by decide +kernel
theorem dX7_leads_97 : decode cX7_leads 97 = .ok (.aload_n 0, 1) := by decide +kernel
theorem dX7_leads_98 : decode cX7_leads 98 = .ok (.getfield 27, 3) := by decide +kernel
theorem dX7_leads_101 : decode cX7_leads 101 = .ok (.iload_n 1, 1) := by decide +kernel
theorem dX7_leads_102 : decode cX7_leads 102 = .ok (.iaload, 1) := by decide +kernel
theorem dX7_leads_103 : decode cX7_leads 103 = .ok (.iaload, 1) := by decide +kernel
theorem dX7_leads_104 : decode cX7_leads 104 = .ok (.sipush 1000, 3) := by decide +kernel
theorem dX7_leads_107 : decode cX7_leads 107 = .ok (.if_icmp .le 21, 3) := by decide +kernel
theorem dX7_leads_110 : decode cX7_leads 110 = .ok (.aload_n 0, 1) := by decide +kernel
theorem dX7_leads_111 : decode cX7_leads 111 = .ok (.getfield 30, 3) := by decide +kernel
theorem dX7_leads_114 : decode cX7_leads 114 = .ok (.aload_n 0, 1) := by decide +kernel
theorem dX7_leads_115 : decode cX7_leads 115 = .ok (.getfield 27, 3) := by decide +kernel
theorem dX7_leads_118 : decode cX7_leads 118 = .ok (.iload_n 1, 1) := by decide +kernel
theorem dX7_leads_119 : decode cX7_leads 119 = .ok (.iaload, 1) := by decide +kernel
theorem dX7_leads_120 : decode cX7_leads 120 = .ok (.iaload, 1) := by decide +kernel
theorem dX7_leads_121 : decode cX7_leads 121 = .ok (.sipush 1000, 3) := by decide +kernel
theorem dX7_leads_124 : decode cX7_leads 124 = .ok (.isub, 1) := by decide +kernel
theorem dX7_leads_125 : decode cX7_leads 125 = .ok (.goto 4, 3) := by decide +kernel
theorem dX7_leads_128 : decode cX7_leads 128 = .ok (.iconst 0, 1) := by decide +kernel
theorem dX7_leads_129 : decode cX7_leads 129 = .ok (.istore_n 3, 1) := by decide +kernel
theorem dX7_leads_130 : decode cX7_leads 130 = .ok (.aload_n 0, 1) := by decide +kernel
theorem dX7_leads_131 : decode cX7_leads 131 = .ok (.dup, 1) := by decide +kernel
theorem dX7_leads_132 : decode cX7_leads 132 = .ok (.getfield 134, 3) := by decide +kernel
theorem dX7_leads_135 : decode cX7_leads 135 = .ok (.iload_n 3, 1) := by decide +kernel
theorem dX7_leads_136 : decode cX7_leads 136 = .ok (.iadd, 1) := by decide +kernel
theorem dX7_leads_137 : decode cX7_leads 137 = .ok (.putfield 134, 3) := by decide +kernel
theorem dX7_leads_140 : decode cX7_leads 140 = .ok (.aload_n 0, 1) := by decide +kernel
theorem dX7_leads_141 : decode cX7_leads 141 = .ok (.getfield 30, 3) := by decide +kernel
theorem dX7_leads_144 : decode cX7_leads 144 = .ok (.aload_n 0, 1) := by decide +kernel
theorem dX7_leads_145 : decode cX7_leads 145 = .ok (.getfield 27, 3) := by decide +kernel
theorem dX7_leads_148 : decode cX7_leads 148 = .ok (.iload_n 1, 1) := by decide +kernel
theorem dX7_leads_149 : decode cX7_leads 149 = .ok (.iaload, 1) := by decide +kernel
theorem dX7_leads_150 : decode cX7_leads 150 = .ok (.dup2, 1) := by decide +kernel
theorem dX7_leads_151 : decode cX7_leads 151 = .ok (.iaload, 1) := by decide +kernel
theorem dX7_leads_152 : decode cX7_leads 152 = .ok (.iload_n 3, 1) := by decide +kernel
theorem dX7_leads_153 : decode cX7_leads 153 = .ok (.isub, 1) := by decide +kernel
theorem dX7_leads_154 : decode cX7_leads 154 = .ok (.iastore, 1) := by decide +kernel
theorem dX7_leads_155 : decode cX7_leads 155 = .ok (.return_, 1) := by decide +kernel
set_option maxRecDepth 20000 in
theorem ggX7_watches_X7_notes : GoodIn wsX7_watches wsX7_notes := goodIn_r _ [12, 13, 14, 15, 16, 28, 29, 30, 31, 32, 33, 34, 35, 36, 37, 38, 39, 40, 41, 42, 43, 44, 45, 46, 47, 48, 49, 50, 51, 52, 53, 54, 55, 56, 57, 58, 59] (by decide +kernel) (by decide +kernel)
set_option maxRecDepth 20000 in
theorem gX7_watches_X7_notes : GoodIn wsX7_watches (wsV RX7 102 RX7 yX7_notes wsX7_notes) := goodIn_app (goodIn_of _ (by decide +kernel)) ggX7_watches_X7_notes
set_option maxRecDepth 20000 in
theorem ggX7_watches_X7_tagsOn : GoodIn wsX7_watches wsX7_tagsOn := goodIn_r _ [20, 21, 22, 28, 29, 30, 31, 32, 33, 34, 35, 36, 37, 38, 39, 40, 41, 42, 43, 44, 45, 46, 47, 48, 49, 50, 51, 52, 53, 54, 55, 56, 57, 58, 59] (by decide +kernel) (by decide +kernel)
set_option maxRecDepth 20000 in
theorem gX7_watches_X7_tagsOn : GoodIn wsX7_watches (wsV RX7 109 RX7 yX7_tagsOn wsX7_tagsOn) := goodIn_app (goodIn_of _ (by decide +kernel)) ggX7_watches_X7_tagsOn
set_option maxRecDepth 20000 in
theorem ggX7_watches_X7_turnsTo : GoodIn wsX7_watches wsX7_turnsTo := goodIn_r _ [26, 27, 8, 9, 10, 11, 12, 13, 14, 15, 16, 28, 29, 30, 31, 32, 33, 34, 35, 36, 37, 38, 39, 40, 41, 42, 43, 44, 45, 46, 47, 48, 49, 50, 51, 52, 53, 54, 55, 56, 57, 58, 59] (by decide +kernel) (by decide +kernel)
set_option maxRecDepth 20000 in
theorem gX7_watches_X7_turnsTo : GoodIn wsX7_watches (wsV RX7 127 RX7 yX7_turnsTo wsX7_turnsTo) := goodIn_app (goodIn_of _ (by decide +kernel)) ggX7_watches_X7_turnsTo
theorem dX7_watches_0 : decode cX7_watches 0 = .ok (.aload_n 0, 1) := by decide +kernel
theorem dX7_watches_1 : decode cX7_watches 1 = .ok (.getfield 30, 3) := by decide +kernel
theorem dX7_watches_4 : decode cX7_watches 4 = .ok (.aload_n 0, 1) := by decide +kernel
theorem dX7_watches_5 : decode cX7_watches 5 = .ok (.getfield 42, 3) := by decide +kernel
theorem dX7_watches_8 : decode cX7_watches 8 = .ok (.iload_n 1, 1) := by decide +kernel
theorem dX7_watches_9 : decode cX7_watches 9 = .ok (.iaload, 1) := by decide +kernel
theorem dX7_watches_10 : decode cX7_watches 10 = .ok (.iaload, 1) := by decide +kernel
theorem dX7_watches_11 : decode cX7_watches 11 = .ok (.istore_n 2, 1) := by decide +kernel
theorem dX7_watches_12 : decode cX7_watches 12 = .ok (.aload_n 0, 1) := by decide +kernel
theorem dX7_watches_13 : decode cX7_watches 13 = .ok (.getfield 48, 3) := by decide +kernel
theorem dX7_watches_16 : decode cX7_watches 16 = .ok (.iload_n 1, 1) := by decide +kernel
theorem dX7_watches_17 : decode cX7_watches 17 = .ok (.baload, 1) := by decide +kernel
theorem dX7_watches_18 : decode cX7_watches 18 = .ok (.ifCond .eq 21, 3) := by decide +kernel
theorem dX7_watches_21 : decode cX7_watches 21 = .ok (.iload_n 2, 1) := by decide +kernel
theorem dX7_watches_22 : decode cX7_watches 22 = .ok (.aload_n 0, 1) := by decide +kernel
theorem dX7_watches_23 : decode cX7_watches 23 = .ok (.getfield 45, 3) := by decide +kernel
theorem dX7_watches_26 : decode cX7_watches 26 = .ok (.iload_n 1, 1) := by decide +kernel
theorem dX7_watches_27 : decode cX7_watches 27 = .ok (.iaload, 1) := by decide +kernel
theorem dX7_watches_28 : decode cX7_watches 28 = .ok (.if_icmp .lt 7, 3) := by decide +kernel
theorem dX7_watches_31 : decode cX7_watches 31 = .ok (.iconst 1, 1) := by decide +kernel
theorem dX7_watches_32 : decode cX7_watches 32 = .ok (.goto 22, 3) := by decide +kernel
theorem dX7_watches_35 : decode cX7_watches 35 = .ok (.iconst 0, 1) := by decide +kernel
theorem dX7_watches_36 : decode cX7_watches 36 = .ok (.goto 18, 3) := by decide +kernel
theorem dX7_watches_39 : decode cX7_watches 39 = .ok (.iload_n 2, 1) := by decide +kernel
theorem dX7_watches_40 : decode cX7_watches 40 = .ok (.aload_n 0, 1) := by decide +kernel
theorem dX7_watches_41 : decode cX7_watches 41 = .ok (.getfield 45, 3) := by decide +kernel
theorem dX7_watches_44 : decode cX7_watches 44 = .ok (.iload_n 1, 1) := by decide +kernel
theorem dX7_watches_45 : decode cX7_watches 45 = .ok (.iaload, 1) := by decide +kernel
theorem dX7_watches_46 : decode cX7_watches 46 = .ok (.if_icmp .gt 7, 3) := by decide +kernel
theorem dX7_watches_49 : decode cX7_watches 49 = .ok (.iconst 1, 1) := by decide +kernel
theorem dX7_watches_50 : decode cX7_watches 50 = .ok (.goto 4, 3) := by decide +kernel
theorem dX7_watches_53 : decode cX7_watches 53 = .ok (.iconst 0, 1) := by decide +kernel
theorem dX7_watches_54 : decode cX7_watches 54 = .ok (.istore_n 3, 1) := by decide +kernel
theorem dX7_watches_55 : decode cX7_watches 55 = .ok (.iload_n 3, 1) := by decide +kernel
theorem dX7_watches_56 : decode cX7_watches 56 = .ok (.ifCond .ne 11, 3) := by decide +kernel
theorem dX7_watches_59 : decode cX7_watches 59 = .ok (.aload_n 0, 1) := by decide +kernel
theorem dX7_watches_60 : decode cX7_watches 60 = .ok (.getfield 57, 3) := by decide +kernel
theorem dX7_watches_63 : decode cX7_watches 63 = .ok (.iload_n 1, 1) := by decide +kernel
theorem dX7_watches_64 : decode cX7_watches 64 = .ok (.iconst 0, 1) := by decide +kernel
theorem dX7_watches_65 : decode cX7_watches 65 = .ok (.iastore, 1) := by decide +kernel
theorem dX7_watches_66 : decode cX7_watches 66 = .ok (.return_, 1) := by decide +kernel
theorem dX7_watches_67 : decode cX7_watches 67 = .ok (.aload_n 0, 1) := by decide +kernel
theorem dX7_watches_68 : decode cX7_watches 68 = .ok (.getfield 57, 3) := by decide +kernel
theorem dX7_watches_71 : decode cX7_watches 71 = .ok (.iload_n 1, 1) := by decide +kernel
theorem dX7_watches_72 : decode cX7_watches 72 = .ok (.iaload, 1) := by decide +kernel
theorem dX7_watches_73 : decode cX7_watches 73 = .ok (.iconst 1, 1) := by decide +kernel
theorem dX7_watches_74 : decode cX7_watches 74 = .ok (.if_icmp .ne 4, 3) := by decide +kernel
theorem dX7_watches_77 : decode cX7_watches 77 = .ok (.return_, 1) := by decide +kernel
theorem dX7_watches_78 : decode cX7_watches 78 = .ok (.aload_n 0, 1) := by decide +kernel
theorem dX7_watches_79 : decode cX7_watches 79 = .ok (.getfield 57, 3) := by decide +kernel
theorem dX7_watches_82 : decode cX7_watches 82 = .ok (.iload_n 1, 1) := by decide +kernel
theorem dX7_watches_83 : decode cX7_watches 83 = .ok (.iaload, 1) := by decide +kernel
theorem dX7_watches_84 : decode cX7_watches 84 = .ok (.ifCond .ne 10, 3) := by decide +kernel
theorem dX7_watches_87 : decode cX7_watches 87 = .ok (.aload_n 0, 1) := by decide +kernel
theorem dX7_watches_88 : decode cX7_watches 88 = .ok (.iconst 3, 1) := by decide +kernel
theorem dX7_watches_89 : decode cX7_watches 89 = .ok (.iconst (-1), 1) := by decide +kernel
theorem dX7_watches_90 : decode cX7_watches 90 = .ok (.iload_n 1, 1) := by decide +kernel
theorem dX7_watches_91 : decode cX7_watches 91 = .ok (.invokevirtual 102, 3) := by decide +kernel
theorem dX7_watches_94 : decode cX7_watches 94 = .ok (.aload_n 0, 1) := by decide +kernel
theorem dX7_watches_95 : decode cX7_watches 95 = .ok (.getfield 57, 3) := by decide +kernel
theorem dX7_watches_98 : decode cX7_watches 98 = .ok (.iload_n 1, 1) := by decide +kernel
theorem dX7_watches_99 : decode cX7_watches 99 = .ok (.iconst 2, 1) := by decide +kernel
theorem dX7_watches_100 : decode cX7_watches 100 = .ok (.iastore, 1) := by decide +kernel
theorem dX7_watches_101 : decode cX7_watches 101 = .ok (.aload_n 0, 1) := by decide +kernel
theorem dX7_watches_102 : decode cX7_watches 102 = .ok (.aload_n 0, 1) := by decide +kernel
theorem dX7_watches_103 : decode cX7_watches 103 = .ok (.getfield 51, 3) := by decide +kernel
theorem dX7_watches_106 : decode cX7_watches 106 = .ok (.iload_n 1, 1) := by decide +kernel
theorem dX7_watches_107 : decode cX7_watches 107 = .ok (.iaload, 1) := by decide +kernel
theorem dX7_watches_108 : decode cX7_watches 108 = .ok (.invokevirtual 109, 3) := by decide +kernel
theorem dX7_watches_111 : decode cX7_watches 111 = .ok (.ifCond .ne 28, 3) := by decide +kernel
theorem dX7_watches_114 : decode cX7_watches 114 = .ok (.aload_n 0, 1) := by decide +kernel
theorem dX7_watches_115 : decode cX7_watches 115 = .ok (.iconst (-1), 1) := by decide +kernel
theorem dX7_watches_116 : decode cX7_watches 116 = .ok (.aload_n 0, 1) := by decide +kernel
theorem dX7_watches_117 : decode cX7_watches 117 = .ok (.getfield 51, 3) := by decide +kernel
theorem dX7_watches_120 : decode cX7_watches 120 = .ok (.iload_n 1, 1) := by decide +kernel
theorem dX7_watches_121 : decode cX7_watches 121 = .ok (.iaload, 1) := by decide +kernel
theorem dX7_watches_122 : decode cX7_watches 122 = .ok (.aload_n 0, 1) := by decide +kernel
theorem dX7_watches_123 : decode cX7_watches 123 = .ok (.getfield 54, 3) := by decide +kernel
theorem dX7_watches_126 : decode cX7_watches 126 = .ok (.iload_n 1, 1) := by decide +kernel
theorem dX7_watches_127 : decode cX7_watches 127 = .ok (.baload, 1) := by decide +kernel
theorem dX7_watches_128 : decode cX7_watches 128 = .ok (.invokevirtual 127, 3) := by decide +kernel
theorem dX7_watches_131 : decode cX7_watches 131 = .ok (.pop, 1) := by decide +kernel
theorem dX7_watches_132 : decode cX7_watches 132 = .ok (.aload_n 0, 1) := by decide +kernel
theorem dX7_watches_133 : decode cX7_watches 133 = .ok (.getfield 57, 3) := by decide +kernel
theorem dX7_watches_136 : decode cX7_watches 136 = .ok (.iload_n 1, 1) := by decide +kernel
theorem dX7_watches_137 : decode cX7_watches 137 = .ok (.iconst 1, 1) := by decide +kernel
theorem dX7_watches_138 : decode cX7_watches 138 = .ok (.iastore, 1) := by decide +kernel
theorem dX7_watches_139 : decode cX7_watches 139 = .ok (.return_, 1) := by decide +kernel
set_option maxRecDepth 20000 in
theorem ggX7_ends_X7_leads : GoodIn wsX7_ends wsX7_leads := goodIn_r _ [10, 11, 12, 13, 14, 41, 42, 43, 44, 45, 46, 47, 48, 49, 50, 51, 52, 53, 54, 55, 56, 57, 58, 59, 60, 61, 62, 63, 64, 65, 66, 67, 68, 69, 70, 71, 72] (by decide +kernel) (by decide +kernel)
set_option maxRecDepth 20000 in
theorem gX7_ends_X7_leads : GoodIn wsX7_ends (wsV RX7 140 RX7 yX7_leads wsX7_leads) := goodIn_app (goodIn_of _ (by decide +kernel)) ggX7_ends_X7_leads
set_option maxRecDepth 20000 in
theorem ggX7_ends_X7_watches : GoodIn wsX7_ends wsX7_watches := goodIn_r _ [18, 12, 19, 20, 21, 22, 23, 24, 25, 26, 27, 9, 28, 29, 3, 4, 30, 31, 32, 33, 34, 35, 36, 37, 38, 39, 40, 1, 41, 42, 43, 44, 45, 46, 47, 48, 49, 50, 51, 52, 53, 54, 55, 56, 57, 58, 59, 60, 61, 62, 63, 64, 65, 66, 67, 68, 69, 70, 71, 72] (by decide +kernel) (by decide +kernel)
set_option maxRecDepth 20000 in
theorem gX7_ends_X7_watches : GoodIn wsX7_ends (wsV RX7 147 RX7 yX7_watches wsX7_watches) := goodIn_app (goodIn_of _ (by decide +kernel)) ggX7_ends_X7_watches
theorem dX7_ends_0 : decode cX7_ends 0 = .ok (.iconst 0, 1) := by decide +kernel
theorem dX7_ends_1 : decode cX7_ends 1 = .ok (.istore_n 1, 1) := by decide +kernel
theorem dX7_ends_2 : decode cX7_ends 2 = .ok (.iload_n 1, 1) := by decide +kernel
theorem dX7_ends_3 : decode cX7_ends 3 = .ok (.bipush 8, 2) := by decide +kernel
theorem dX7_ends_5 : decode cX7_ends 5 = .ok (.if_icmp .ge 23, 3) := by decide +kernel
theorem dX7_ends_8 : decode cX7_ends 8 = .ok (.aload_n 0, 1) := by decide +kernel
theorem dX7_ends_9 : decode cX7_ends 9 = .ok (.getfield 21, 3) := by decide +kernel
theorem dX7_ends_12 : decode cX7_ends 12 = .ok (.iload_n 1, 1) := by decide +kernel
theorem dX7_ends_13 : decode cX7_ends 13 = .ok (.baload, 1) := by decide +kernel
theorem dX7_ends_14 : decode cX7_ends 14 = .ok (.ifCond .eq 8, 3) := by decide +kernel
theorem dX7_ends_17 : decode cX7_ends 17 = .ok (.aload_n 0, 1) := by decide +kernel
theorem dX7_ends_18 : decode cX7_ends 18 = .ok (.iload_n 1, 1) := by decide +kernel
theorem dX7_ends_19 : decode cX7_ends 19 = .ok (.invokevirtual 140, 3) := by decide +kernel
theorem dX7_ends_22 : decode cX7_ends 22 = .ok (.iinc 1 1, 3) := by decide +kernel
theorem dX7_ends_25 : decode cX7_ends 25 = .ok (.goto (-23), 3) := by decide +kernel
theorem dX7_ends_28 : decode cX7_ends 28 = .ok (.iconst 0, 1) := by decide +kernel
theorem dX7_ends_29 : decode cX7_ends 29 = .ok (.istore_n 1, 1) := by decide +kernel
theorem dX7_ends_30 : decode cX7_ends 30 = .ok (.iload_n 1, 1) := by decide +kernel
theorem dX7_ends_31 : decode cX7_ends 31 = .ok (.aload_n 0, 1) := by decide +kernel
theorem dX7_ends_32 : decode cX7_ends 32 = .ok (.getfield 144, 3) := by decide +kernel
theorem dX7_ends_35 : decode cX7_ends 35 = .ok (.if_icmp .ge 14, 3) := by decide +kernel
theorem dX7_ends_38 : decode cX7_ends 38 = .ok (.aload_n 0, 1) := by decide +kernel
theorem dX7_ends_39 : decode cX7_ends 39 = .ok (.iload_n 1, 1) := by decide +kernel
theorem dX7_ends_40 : decode cX7_ends 40 = .ok (.invokevirtual 147, 3) := by decide +kernel
theorem dX7_ends_43 : decode cX7_ends 43 = .ok (.iinc 1 1, 3) := by decide +kernel
theorem dX7_ends_46 : decode cX7_ends 46 = .ok (.goto (-16), 3) := by decide +kernel
theorem dX7_ends_49 : decode cX7_ends 49 = .ok (.aload_n 0, 1) := by decide +kernel
theorem dX7_ends_50 : decode cX7_ends 50 = .ok (.dup, 1) := by decide +kernel
theorem dX7_ends_51 : decode cX7_ends 51 = .ok (.getfield 89, 3) := by decide +kernel
theorem dX7_ends_54 : decode cX7_ends 54 = .ok (.iconst 1, 1) := by decide +kernel
theorem dX7_ends_55 : decode cX7_ends 55 = .ok (.iadd, 1) := by decide +kernel
theorem dX7_ends_56 : decode cX7_ends 56 = .ok (.putfield 89, 3) := by decide +kernel
theorem dX7_ends_59 : decode cX7_ends 59 = .ok (.aload_n 0, 1) := by decide +kernel
theorem dX7_ends_60 : decode cX7_ends 60 = .ok (.aload_n 0, 1) := by decide +kernel
theorem dX7_ends_61 : decode cX7_ends 61 = .ok (.getfield 89, 3) := by decide +kernel
theorem dX7_ends_64 : decode cX7_ends 64 = .ok (.bipush 8, 2) := by decide +kernel
theorem dX7_ends_66 : decode cX7_ends 66 = .ok (.irem, 1) := by decide +kernel
theorem dX7_ends_67 : decode cX7_ends 67 = .ok (.ifCond .ne 10, 3) := by decide +kernel
theorem dX7_ends_70 : decode cX7_ends 70 = .ok (.aload_n 0, 1) := by decide +kernel
theorem dX7_ends_71 : decode cX7_ends 71 = .ok (.getfield 92, 3) := by decide +kernel
theorem dX7_ends_74 : decode cX7_ends 74 = .ok (.goto 7, 3) := by decide +kernel
theorem dX7_ends_77 : decode cX7_ends 77 = .ok (.aload_n 0, 1) := by decide +kernel
theorem dX7_ends_78 : decode cX7_ends 78 = .ok (.getfield 99, 3) := by decide +kernel
theorem dX7_ends_81 : decode cX7_ends 81 = .ok (.putfield 99, 3) := by decide +kernel
theorem dX7_ends_84 : decode cX7_ends 84 = .ok (.return_, 1) := by decide +kernel
set_option maxRecDepth 20000 in
theorem ggX7_advance_X7_in : GoodIn wsX7_advance wsX7_in := goodIn_r _ [6] (by decide +kernel) (by decide +kernel)
set_option maxRecDepth 20000 in
theorem gX7_advance_X7_in : GoodIn wsX7_advance (va_wsS RX7 80 yX7_in wsX7_in) := goodIn_app (goodIn_of _ (by decide +kernel)) ggX7_advance_X7_in
set_option maxRecDepth 20000 in
theorem ggX7_advance_X7_ends : GoodIn wsX7_advance wsX7_ends := goodIn_r _ [10, 11, 12, 1, 13, 14, 15, 16, 17, 5, 18, 19, 20, 21, 22, 23, 24, 25, 26, 27, 28, 29, 30, 31, 32, 33, 34, 35, 36, 37, 38, 39, 40, 41, 42, 43, 44, 45, 46, 47, 48, 49, 50, 51, 52, 53, 54, 55, 56, 57, 58, 59, 60, 61, 62, 63, 64, 65, 66, 67, 68, 69, 70, 71, 72, 73, 74, 75, 76, 77, 78, 79, 80] (by decide +kernel) (by decide +kernel)
set_option maxRecDepth 20000 in
theorem gX7_advance_X7_ends : GoodIn wsX7_advance (wsV RX7 150 RX7 yX7_ends wsX7_ends) := goodIn_app (goodIn_of _ (by decide +kernel)) ggX7_advance_X7_ends
theorem dX7_advance_0 : decode cX7_advance 0 = .ok (.aload_n 0, 1) := by decide +kernel
theorem dX7_advance_1 : decode cX7_advance 1 = .ok (.iload_n 1, 1) := by decide +kernel
theorem dX7_advance_2 : decode cX7_advance 2 = .ok (.iconst 1, 1) := by decide +kernel
theorem dX7_advance_3 : decode cX7_advance 3 = .ok (.bipush 100, 2) := by decide +kernel
theorem dX7_advance_5 : decode cX7_advance 5 = .ok (.invokestatic 80, 3) := by decide +kernel
theorem dX7_advance_8 : decode cX7_advance 8 = .ok (.ifCond .ne 7, 3) := by decide +kernel
theorem dX7_advance_11 : decode cX7_advance 11 = .ok (.iconst 1, 1) := by decide +kernel
theorem dX7_advance_12 : decode cX7_advance 12 = .ok (.goto 20, 3) := by decide +kernel
theorem dX7_advance_15 : decode cX7_advance 15 = .ok (.aload_n 0, 1) := by decide +kernel
theorem dX7_advance_16 : decode cX7_advance 16 = .ok (.getfield 89, 3) := by decide +kernel
theorem dX7_advance_19 : decode cX7_advance 19 = .ok (.iload_n 1, 1) := by decide +kernel
theorem dX7_advance_20 : decode cX7_advance 20 = .ok (.iadd, 1) := by decide +kernel
theorem dX7_advance_21 : decode cX7_advance 21 = .ok (.sipush 2000, 3) := by decide +kernel
theorem dX7_advance_24 : decode cX7_advance 24 = .ok (.if_icmp .le 7, 3) := by decide +kernel
theorem dX7_advance_27 : decode cX7_advance 27 = .ok (.iconst 2, 1) := by decide +kernel
theorem dX7_advance_28 : decode cX7_advance 28 = .ok (.goto 4, 3) := by decide +kernel
theorem dX7_advance_31 : decode cX7_advance 31 = .ok (.iconst 0, 1) := by decide +kernel
theorem dX7_advance_32 : decode cX7_advance 32 = .ok (.putfield 76, 3) := by decide +kernel
theorem dX7_advance_35 : decode cX7_advance 35 = .ok (.aload_n 0, 1) := by decide +kernel
theorem dX7_advance_36 : decode cX7_advance 36 = .ok (.getfield 76, 3) := by decide +kernel
theorem dX7_advance_39 : decode cX7_advance 39 = .ok (.ifCond .le 5, 3) := by decide +kernel
theorem dX7_advance_42 : decode cX7_advance 42 = .ok (.iconst 0, 1) := by decide +kernel
theorem dX7_advance_43 : decode cX7_advance 43 = .ok (.ireturn, 1) := by decide +kernel
theorem dX7_advance_44 : decode cX7_advance 44 = .ok (.iconst 0, 1) := by decide +kernel
theorem dX7_advance_45 : decode cX7_advance 45 = .ok (.istore_n 2, 1) := by decide +kernel
theorem dX7_advance_46 : decode cX7_advance 46 = .ok (.iload_n 2, 1) := by decide +kernel
theorem dX7_advance_47 : decode cX7_advance 47 = .ok (.iload_n 1, 1) := by decide +kernel
theorem dX7_advance_48 : decode cX7_advance 48 = .ok (.if_icmp .ge 13, 3) := by decide +kernel
theorem dX7_advance_51 : decode cX7_advance 51 = .ok (.aload_n 0, 1) := by decide +kernel
theorem dX7_advance_52 : decode cX7_advance 52 = .ok (.invokevirtual 150, 3) := by decide +kernel
theorem dX7_advance_55 : decode cX7_advance 55 = .ok (.iinc 2 1, 3) := by decide +kernel
theorem dX7_advance_58 : decode cX7_advance 58 = .ok (.goto (-12), 3) := by decide +kernel
theorem dX7_advance_61 : decode cX7_advance 61 = .ok (.aload_n 0, 1) := by decide +kernel
theorem dX7_advance_62 : decode cX7_advance 62 = .ok (.getfield 89, 3) := by decide +kernel
theorem dX7_advance_65 : decode cX7_advance 65 = .ok (.ireturn, 1) := by decide +kernel
theorem dX7_hour_0 : decode cX7_hour 0 = .ok (.aload_n 0, 1) := by decide +kernel
theorem dX7_hour_1 : decode cX7_hour 1 = .ok (.iconst 0, 1) := by decide +kernel
theorem dX7_hour_2 : decode cX7_hour 2 = .ok (.putfield 76, 3) := by decide +kernel
theorem dX7_hour_5 : decode cX7_hour 5 = .ok (.aload_n 0, 1) := by decide +kernel
theorem dX7_hour_6 : decode cX7_hour 6 = .ok (.getfield 89, 3) := by decide +kernel
theorem dX7_hour_9 : decode cX7_hour 9 = .ok (.ireturn, 1) := by decide +kernel
theorem dX7_entries_0 : decode cX7_entries 0 = .ok (.aload_n 0, 1) := by decide +kernel
theorem dX7_entries_1 : decode cX7_entries 1 = .ok (.iconst 0, 1) := by decide +kernel
theorem dX7_entries_2 : decode cX7_entries 2 = .ok (.putfield 76, 3) := by decide +kernel
theorem dX7_entries_5 : decode cX7_entries 5 = .ok (.aload_n 0, 1) := by decide +kernel
theorem dX7_entries_6 : decode cX7_entries 6 = .ok (.getfield 92, 3) := by decide +kernel
theorem dX7_entries_9 : decode cX7_entries 9 = .ok (.ireturn, 1) := by decide +kernel
set_option maxRecDepth 20000 in
theorem ggX7_entryAt_X7_in : GoodIn wsX7_entryAt wsX7_in := goodIn_r _ [8] (by decide +kernel) (by decide +kernel)
set_option maxRecDepth 20000 in
theorem gX7_entryAt_X7_in : GoodIn wsX7_entryAt (va_wsS RX7 80 yX7_in wsX7_in) := goodIn_app (goodIn_of _ (by decide +kernel)) ggX7_entryAt_X7_in
theorem dX7_entryAt_0 : decode cX7_entryAt 0 = .ok (.aload_n 0, 1) := by decide +kernel
theorem dX7_entryAt_1 : decode cX7_entryAt 1 = .ok (.iload_n 1, 1) := by decide +kernel
theorem dX7_entryAt_2 : decode cX7_entryAt 2 = .ok (.iconst 0, 1) := by decide +kernel
theorem dX7_entryAt_3 : decode cX7_entryAt 3 = .ok (.aload_n 0, 1) := by decide +kernel
theorem dX7_entryAt_4 : decode cX7_entryAt 4 = .ok (.getfield 92, 3) := by decide +kernel
theorem dX7_entryAt_7 : decode cX7_entryAt 7 = .ok (.iconst 1, 1) := by decide +kernel
theorem dX7_entryAt_8 : decode cX7_entryAt 8 = .ok (.isub, 1) := by decide +kernel
theorem dX7_entryAt_9 : decode cX7_entryAt 9 = .ok (.invokestatic 80, 3) := by decide +kernel
theorem dX7_entryAt_12 : decode cX7_entryAt 12 = .ok (.ifCond .eq 7, 3) := by decide +kernel
theorem dX7_entryAt_15 : decode cX7_entryAt 15 = .ok (.iconst 0, 1) := by decide +kernel
theorem dX7_entryAt_16 : decode cX7_entryAt 16 = .ok (.goto 4, 3) := by decide +kernel
theorem dX7_entryAt_19 : decode cX7_entryAt 19 = .ok (.iconst 1, 1) := by decide +kernel
theorem dX7_entryAt_20 : decode cX7_entryAt 20 = .ok (.putfield 76, 3) := by decide +kernel
theorem dX7_entryAt_23 : decode cX7_entryAt 23 = .ok (.aload_n 0, 1) := by decide +kernel
theorem dX7_entryAt_24 : decode cX7_entryAt 24 = .ok (.getfield 76, 3) := by decide +kernel
theorem dX7_entryAt_27 : decode cX7_entryAt 27 = .ok (.ifCond .le 7, 3) := by decide +kernel
theorem dX7_entryAt_30 : decode cX7_entryAt 30 = .ok (.iconst 0, 1) := by decide +kernel
theorem dX7_entryAt_31 : decode cX7_entryAt 31 = .ok (.goto 23, 3) := by decide +kernel
theorem dX7_entryAt_34 : decode cX7_entryAt 34 = .ok (.aload_n 0, 1) := by decide +kernel
theorem dX7_entryAt_35 : decode cX7_entryAt 35 = .ok (.getfield 7, 3) := by decide +kernel
theorem dX7_entryAt_38 : decode cX7_entryAt 38 = .ok (.iload_n 1, 1) := by decide +kernel
theorem dX7_entryAt_39 : decode cX7_entryAt 39 = .ok (.iconst 2, 1) := by decide +kernel
theorem dX7_entryAt_40 : decode cX7_entryAt 40 = .ok (.idiv, 1) := by decide +kernel
theorem dX7_entryAt_41 : decode cX7_entryAt 41 = .ok (.laload, 1) := by decide +kernel
theorem dX7_entryAt_42 : decode cX7_entryAt 42 = .ok (.bipush 32, 2) := by decide +kernel
theorem dX7_entryAt_44 : decode cX7_entryAt 44 = .ok (.iload_n 1, 1) := by decide +kernel
theorem dX7_entryAt_45 : decode cX7_entryAt 45 = .ok (.iconst 2, 1) := by decide +kernel
theorem dX7_entryAt_46 : decode cX7_entryAt 46 = .ok (.irem, 1) := by decide +kernel
theorem dX7_entryAt_47 : decode cX7_entryAt 47 = .ok (.imul, 1) := by decide +kernel
theorem dX7_entryAt_48 : decode cX7_entryAt 48 = .ok (.lshr, 1) := by decide +kernel
theorem dX7_entryAt_49 : decode cX7_entryAt 49 = .ok (.ldc2_w 153, 3) := by decide +kernel
theorem dX7_entryAt_52 : decode cX7_entryAt 52 = .ok (.land, 1) := by decide +kernel
theorem dX7_entryAt_53 : decode cX7_entryAt 53 = .ok (.l2i, 1) := by decide +kernel
theorem dX7_entryAt_54 : decode cX7_entryAt 54 = .ok (.ireturn, 1) := by decide +kernel
set_option maxRecDepth 20000 in
theorem ggX7_alarm_X7_isVessel : GoodIn wsX7_alarm wsX7_isVessel := goodIn_r _ [11, 12, 13, 10, 14] (by decide +kernel) (by decide +kernel)
set_option maxRecDepth 20000 in
theorem gX7_alarm_X7_isVessel : GoodIn wsX7_alarm (va_wsS RX7 131 yX7_isVessel wsX7_isVessel) := goodIn_app (goodIn_of _ (by decide +kernel)) ggX7_alarm_X7_isVessel
set_option maxRecDepth 20000 in
theorem ggX7_alarm_X7_isValve : GoodIn wsX7_alarm wsX7_isValve := goodIn_r _ [17, 12, 13, 10, 14] (by decide +kernel) (by decide +kernel)
set_option maxRecDepth 20000 in
theorem gX7_alarm_X7_isValve : GoodIn wsX7_alarm (va_wsS RX7 106 yX7_isValve wsX7_isValve) := goodIn_app (goodIn_of _ (by decide +kernel)) ggX7_alarm_X7_isValve
set_option maxRecDepth 20000 in
theorem ggX7_alarm_X7_in : GoodIn wsX7_alarm wsX7_in := goodIn_r _ [14] (by decide +kernel) (by decide +kernel)
set_option maxRecDepth 20000 in
theorem gX7_alarm_X7_in : GoodIn wsX7_alarm (va_wsS RX7 80 yX7_in wsX7_in) := goodIn_app (goodIn_of _ (by decide +kernel)) ggX7_alarm_X7_in
theorem dX7_alarm_0 : decode cX7_alarm 0 = .ok (.aload_n 0, 1) := by decide +kernel
theorem dX7_alarm_1 : decode cX7_alarm 1 = .ok (.iload_n 1, 1) := by decide +kernel
theorem dX7_alarm_2 : decode cX7_alarm 2 = .ok (.invokestatic 131, 3) := by decide +kernel
theorem dX7_alarm_5 : decode cX7_alarm 5 = .ok (.ifCond .eq 11, 3) := by decide +kernel
theorem dX7_alarm_8 : decode cX7_alarm 8 = .ok (.iload 4, 2) := by decide +kernel
theorem dX7_alarm_10 : decode cX7_alarm 10 = .ok (.invokestatic 106, 3) := by decide +kernel
theorem dX7_alarm_13 : decode cX7_alarm 13 = .ok (.ifCond .ne 7, 3) := by decide +kernel
theorem dX7_alarm_16 : decode cX7_alarm 16 = .ok (.iconst 1, 1) := by decide +kernel
theorem dX7_alarm_17 : decode cX7_alarm 17 = .ok (.goto 32, 3) := by decide +kernel
theorem dX7_alarm_20 : decode cX7_alarm 20 = .ok (.iload_n 2, 1) := by decide +kernel
theorem dX7_alarm_21 : decode cX7_alarm 21 = .ok (.iconst 0, 1) := by decide +kernel
theorem dX7_alarm_22 : decode cX7_alarm 22 = .ok (.sipush 1000, 3) := by decide +kernel
theorem dX7_alarm_25 : decode cX7_alarm 25 = .ok (.invokestatic 80, 3) := by decide +kernel
theorem dX7_alarm_28 : decode cX7_alarm 28 = .ok (.ifCond .ne 7, 3) := by decide +kernel
theorem dX7_alarm_31 : decode cX7_alarm 31 = .ok (.iconst 2, 1) := by decide +kernel
theorem dX7_alarm_32 : decode cX7_alarm 32 = .ok (.goto 17, 3) := by decide +kernel
theorem dX7_alarm_35 : decode cX7_alarm 35 = .ok (.aload_n 0, 1) := by decide +kernel
theorem dX7_alarm_36 : decode cX7_alarm 36 = .ok (.getfield 144, 3) := by decide +kernel
theorem dX7_alarm_39 : decode cX7_alarm 39 = .ok (.bipush 10, 2) := by decide +kernel
theorem dX7_alarm_41 : decode cX7_alarm 41 = .ok (.if_icmp .ne 7, 3) := by decide +kernel
theorem dX7_alarm_44 : decode cX7_alarm 44 = .ok (.iconst 3, 1) := by decide +kernel
theorem dX7_alarm_45 : decode cX7_alarm 45 = .ok (.goto 4, 3) := by decide +kernel
theorem dX7_alarm_48 : decode cX7_alarm 48 = .ok (.iconst 0, 1) := by decide +kernel
theorem dX7_alarm_49 : decode cX7_alarm 49 = .ok (.putfield 76, 3) := by decide +kernel
theorem dX7_alarm_52 : decode cX7_alarm 52 = .ok (.aload_n 0, 1) := by decide +kernel
theorem dX7_alarm_53 : decode cX7_alarm 53 = .ok (.getfield 76, 3) := by decide +kernel
theorem dX7_alarm_56 : decode cX7_alarm 56 = .ok (.ifCond .le 5, 3) := by decide +kernel
theorem dX7_alarm_59 : decode cX7_alarm 59 = .ok (.iconst 0, 1) := by decide +kernel
theorem dX7_alarm_60 : decode cX7_alarm 60 = .ok (.ireturn, 1) := by decide +kernel
theorem dX7_alarm_61 : decode cX7_alarm 61 = .ok (.aload_n 0, 1) := by decide +kernel
theorem dX7_alarm_62 : decode cX7_alarm 62 = .ok (.getfield 42, 3) := by decide +kernel
theorem dX7_alarm_65 : decode cX7_alarm 65 = .ok (.aload_n 0, 1) := by decide +kernel
theorem dX7_alarm_66 : decode cX7_alarm 66 = .ok (.getfield 144, 3) := by decide +kernel
theorem dX7_alarm_69 : decode cX7_alarm 69 = .ok (.iload_n 1, 1) := by decide +kernel
theorem dX7_alarm_70 : decode cX7_alarm 70 = .ok (.iastore, 1) := by decide +kernel
theorem dX7_alarm_71 : decode cX7_alarm 71 = .ok (.aload_n 0, 1) := by decide +kernel
theorem dX7_alarm_72 : decode cX7_alarm 72 = .ok (.getfield 45, 3) := by decide +kernel
theorem dX7_alarm_75 : decode cX7_alarm 75 = .ok (.aload_n 0, 1) := by decide +kernel
theorem dX7_alarm_76 : decode cX7_alarm 76 = .ok (.getfield 144, 3) := by decide +kernel
theorem dX7_alarm_79 : decode cX7_alarm 79 = .ok (.iload_n 2, 1) := by decide +kernel
theorem dX7_alarm_80 : decode cX7_alarm 80 = .ok (.iastore, 1) := by decide +kernel
theorem dX7_alarm_81 : decode cX7_alarm 81 = .ok (.aload_n 0, 1) := by decide +kernel
theorem dX7_alarm_82 : decode cX7_alarm 82 = .ok (.getfield 48, 3) := by decide +kernel
theorem dX7_alarm_85 : decode cX7_alarm 85 = .ok (.aload_n 0, 1) := by decide +kernel
theorem dX7_alarm_86 : decode cX7_alarm 86 = .ok (.getfield 144, 3) := by decide +kernel
theorem dX7_alarm_89 : decode cX7_alarm 89 = .ok (.iload_n 3, 1) := by decide +kernel
theorem dX7_alarm_90 : decode cX7_alarm 90 = .ok (.bastore, 1) := by decide +kernel
theorem dX7_alarm_91 : decode cX7_alarm 91 = .ok (.aload_n 0, 1) := by decide +kernel
theorem dX7_alarm_92 : decode cX7_alarm 92 = .ok (.getfield 51, 3) := by decide +kernel
theorem dX7_alarm_95 : decode cX7_alarm 95 = .ok (.aload_n 0, 1) := by decide +kernel
theorem dX7_alarm_96 : decode cX7_alarm 96 = .ok (.getfield 144, 3) := by decide +kernel
theorem dX7_alarm_99 : decode cX7_alarm 99 = .ok (.iload 4, 2) := by decide +kernel
theorem dX7_alarm_101 : decode cX7_alarm 101 = .ok (.iastore, 1) := by decide +kernel
theorem dX7_alarm_102 : decode cX7_alarm 102 = .ok (.aload_n 0, 1) := by decide +kernel
theorem dX7_alarm_103 : decode cX7_alarm 103 = .ok (.getfield 54, 3) := by decide +kernel
theorem dX7_alarm_106 : decode cX7_alarm 106 = .ok (.aload_n 0, 1) := by decide +kernel
theorem dX7_alarm_107 : decode cX7_alarm 107 = .ok (.getfield 144, 3) := by decide +kernel
theorem dX7_alarm_110 : decode cX7_alarm 110 = .ok (.iload 5, 2) := by decide +kernel
theorem dX7_alarm_112 : decode cX7_alarm 112 = .ok (.bastore, 1) := by decide +kernel
theorem dX7_alarm_113 : decode cX7_alarm 113 = .ok (.aload_n 0, 1) := by decide +kernel
theorem dX7_alarm_114 : decode cX7_alarm 114 = .ok (.dup, 1) := by decide +kernel
theorem dX7_alarm_115 : decode cX7_alarm 115 = .ok (.getfield 144, 3) := by decide +kernel
theorem dX7_alarm_118 : decode cX7_alarm 118 = .ok (.iconst 1, 1) := by decide +kernel
theorem dX7_alarm_119 : decode cX7_alarm 119 = .ok (.iadd, 1) := by decide +kernel
theorem dX7_alarm_120 : decode cX7_alarm 120 = .ok (.putfield 144, 3) := by decide +kernel
theorem dX7_alarm_123 : decode cX7_alarm 123 = .ok (.aload_n 0, 1) := by decide +kernel
theorem dX7_alarm_124 : decode cX7_alarm 124 = .ok (.getfield 144, 3) := by decide +kernel
theorem dX7_alarm_127 : decode cX7_alarm 127 = .ok (.iconst 1, 1) := by decide +kernel
theorem dX7_alarm_128 : decode cX7_alarm 128 = .ok (.isub, 1) := by decide +kernel
theorem dX7_alarm_129 : decode cX7_alarm 129 = .ok (.ireturn, 1) := by decide +kernel
set_option maxRecDepth 20000 in
theorem ggX7_stateOf_X7_in : GoodIn wsX7_stateOf wsX7_in := goodIn_r _ [7] (by decide +kernel) (by decide +kernel)
set_option maxRecDepth 20000 in
theorem gX7_stateOf_X7_in : GoodIn wsX7_stateOf (va_wsS RX7 80 yX7_in wsX7_in) := goodIn_app (goodIn_of _ (by decide +kernel)) ggX7_stateOf_X7_in
theorem dX7_stateOf_0 : decode cX7_stateOf 0 = .ok (.aload_n 0, 1) := by decide +kernel
theorem dX7_stateOf_1 : decode cX7_stateOf 1 = .ok (.iload_n 1, 1) := by decide +kernel
theorem dX7_stateOf_2 : decode cX7_stateOf 2 = .ok (.iconst 0, 1) := by decide +kernel
theorem dX7_stateOf_3 : decode cX7_stateOf 3 = .ok (.aload_n 0, 1) := by decide +kernel
theorem dX7_stateOf_4 : decode cX7_stateOf 4 = .ok (.getfield 144, 3) := by decide +kernel
theorem dX7_stateOf_7 : decode cX7_stateOf 7 = .ok (.iconst 1, 1) := by decide +kernel
theorem dX7_stateOf_8 : decode cX7_stateOf 8 = .ok (.isub, 1) := by decide +kernel
theorem dX7_stateOf_9 : decode cX7_stateOf 9 = .ok (.invokestatic 80, 3) := by decide +kernel
theorem dX7_stateOf_12 : decode cX7_stateOf 12 = .ok (.ifCond .eq 7, 3) := by decide +kernel
theorem dX7_stateOf_15 : decode cX7_stateOf 15 = .ok (.iconst 0, 1) := by decide +kernel
theorem dX7_stateOf_16 : decode cX7_stateOf 16 = .ok (.goto 4, 3) := by decide +kernel
theorem dX7_stateOf_19 : decode cX7_stateOf 19 = .ok (.iconst 1, 1) := by decide +kernel
theorem dX7_stateOf_20 : decode cX7_stateOf 20 = .ok (.putfield 76, 3) := by decide +kernel
theorem dX7_stateOf_23 : decode cX7_stateOf 23 = .ok (.aload_n 0, 1) := by decide +kernel
theorem dX7_stateOf_24 : decode cX7_stateOf 24 = .ok (.getfield 76, 3) := by decide +kernel
theorem dX7_stateOf_27 : decode cX7_stateOf 27 = .ok (.ifCond .le 7, 3) := by decide +kernel
theorem dX7_stateOf_30 : decode cX7_stateOf 30 = .ok (.iconst 0, 1) := by decide +kernel
theorem dX7_stateOf_31 : decode cX7_stateOf 31 = .ok (.goto 9, 3) := by decide +kernel
theorem dX7_stateOf_34 : decode cX7_stateOf 34 = .ok (.aload_n 0, 1) := by decide +kernel
theorem dX7_stateOf_35 : decode cX7_stateOf 35 = .ok (.getfield 57, 3) := by decide +kernel
theorem dX7_stateOf_38 : decode cX7_stateOf 38 = .ok (.iload_n 1, 1) := by decide +kernel
theorem dX7_stateOf_39 : decode cX7_stateOf 39 = .ok (.iaload, 1) := by decide +kernel
theorem dX7_stateOf_40 : decode cX7_stateOf 40 = .ok (.ireturn, 1) := by decide +kernel
set_option maxRecDepth 20000 in
theorem ggX7_insert_X7_in : GoodIn wsX7_insert wsX7_in := goodIn_r _ [7] (by decide +kernel) (by decide +kernel)
set_option maxRecDepth 20000 in
theorem gX7_insert_X7_in : GoodIn wsX7_insert (va_wsS RX7 80 yX7_in wsX7_in) := goodIn_app (goodIn_of _ (by decide +kernel)) ggX7_insert_X7_in
theorem dX7_insert_0 : decode cX7_insert 0 = .ok (.aload_n 0, 1) := by decide +kernel
theorem dX7_insert_1 : decode cX7_insert 1 = .ok (.iload_n 1, 1) := by decide +kernel
theorem dX7_insert_2 : decode cX7_insert 2 = .ok (.iconst 0, 1) := by decide +kernel
theorem dX7_insert_3 : decode cX7_insert 3 = .ok (.aload_n 0, 1) := by decide +kernel
theorem dX7_insert_4 : decode cX7_insert 4 = .ok (.getfield 155, 3) := by decide +kernel
theorem dX7_insert_7 : decode cX7_insert 7 = .ok (.invokestatic 80, 3) := by decide +kernel
theorem dX7_insert_10 : decode cX7_insert 10 = .ok (.ifCond .ne 7, 3) := by decide +kernel
theorem dX7_insert_13 : decode cX7_insert 13 = .ok (.iconst 1, 1) := by decide +kernel
theorem dX7_insert_14 : decode cX7_insert 14 = .ok (.goto 17, 3) := by decide +kernel
theorem dX7_insert_17 : decode cX7_insert 17 = .ok (.aload_n 0, 1) := by decide +kernel
theorem dX7_insert_18 : decode cX7_insert 18 = .ok (.getfield 155, 3) := by decide +kernel
theorem dX7_insert_21 : decode cX7_insert 21 = .ok (.bipush 40, 2) := by decide +kernel
theorem dX7_insert_23 : decode cX7_insert 23 = .ok (.if_icmp .ne 7, 3) := by decide +kernel
theorem dX7_insert_26 : decode cX7_insert 26 = .ok (.iconst 2, 1) := by decide +kernel
theorem dX7_insert_27 : decode cX7_insert 27 = .ok (.goto 4, 3) := by decide +kernel
theorem dX7_insert_30 : decode cX7_insert 30 = .ok (.iconst 0, 1) := by decide +kernel
theorem dX7_insert_31 : decode cX7_insert 31 = .ok (.putfield 76, 3) := by decide +kernel
theorem dX7_insert_34 : decode cX7_insert 34 = .ok (.aload_n 0, 1) := by decide +kernel
theorem dX7_insert_35 : decode cX7_insert 35 = .ok (.getfield 76, 3) := by decide +kernel
theorem dX7_insert_38 : decode cX7_insert 38 = .ok (.ifCond .le 5, 3) := by decide +kernel
theorem dX7_insert_41 : decode cX7_insert 41 = .ok (.iconst 0, 1) := by decide +kernel
theorem dX7_insert_42 : decode cX7_insert 42 = .ok (.ireturn, 1) := by decide +kernel
theorem dX7_insert_43 : decode cX7_insert 43 = .ok (.aload_n 0, 1) := by decide +kernel
theorem dX7_insert_44 : decode cX7_insert 44 = .ok (.getfield 155, 3) := by decide +kernel
theorem dX7_insert_47 : decode cX7_insert 47 = .ok (.istore_n 3, 1) := by decide +kernel
theorem dX7_insert_48 : decode cX7_insert 48 = .ok (.iload_n 3, 1) := by decide +kernel
theorem dX7_insert_49 : decode cX7_insert 49 = .ok (.iload_n 1, 1) := by decide +kernel
theorem dX7_insert_50 : decode cX7_insert 50 = .ok (.if_icmp .le 23, 3) := by decide +kernel
theorem dX7_insert_53 : decode cX7_insert 53 = .ok (.aload_n 0, 1) := by decide +kernel
theorem dX7_insert_54 : decode cX7_insert 54 = .ok (.getfield 60, 3) := by decide +kernel
theorem dX7_insert_57 : decode cX7_insert 57 = .ok (.iload_n 3, 1) := by decide +kernel
theorem dX7_insert_58 : decode cX7_insert 58 = .ok (.aload_n 0, 1) := by decide +kernel
theorem dX7_insert_59 : decode cX7_insert 59 = .ok (.getfield 60, 3) := by decide +kernel
theorem dX7_insert_62 : decode cX7_insert 62 = .ok (.iload_n 3, 1) := by decide +kernel
theorem dX7_insert_63 : decode cX7_insert 63 = .ok (.iconst 1, 1) := by decide +kernel
theorem dX7_insert_64 : decode cX7_insert 64 = .ok (.isub, 1) := by decide +kernel
theorem dX7_insert_65 : decode cX7_insert 65 = .ok (.caload, 1) := by decide +kernel
theorem dX7_insert_66 : decode cX7_insert 66 = .ok (.castore, 1) := by decide +kernel
theorem dX7_insert_67 : decode cX7_insert 67 = .ok (.iinc 3 (-1), 3) := by decide +kernel
theorem dX7_insert_70 : decode cX7_insert 70 = .ok (.goto (-22), 3) := by decide +kernel
theorem dX7_insert_73 : decode cX7_insert 73 = .ok (.aload_n 0, 1) := by decide +kernel
theorem dX7_insert_74 : decode cX7_insert 74 = .ok (.getfield 60, 3) := by decide +kernel
theorem dX7_insert_77 : decode cX7_insert 77 = .ok (.iload_n 1, 1) := by decide +kernel
theorem dX7_insert_78 : decode cX7_insert 78 = .ok (.iload_n 2, 1) := by decide +kernel
theorem dX7_insert_79 : decode cX7_insert 79 = .ok (.castore, 1) := by decide +kernel
theorem dX7_insert_80 : decode cX7_insert 80 = .ok (.aload_n 0, 1) := by decide +kernel
theorem dX7_insert_81 : decode cX7_insert 81 = .ok (.dup, 1) := by decide +kernel
theorem dX7_insert_82 : decode cX7_insert 82 = .ok (.getfield 155, 3) := by decide +kernel
theorem dX7_insert_85 : decode cX7_insert 85 = .ok (.iconst 1, 1) := by decide +kernel
theorem dX7_insert_86 : decode cX7_insert 86 = .ok (.iadd, 1) := by decide +kernel
theorem dX7_insert_87 : decode cX7_insert 87 = .ok (.putfield 155, 3) := by decide +kernel
theorem dX7_insert_90 : decode cX7_insert 90 = .ok (.aload_n 0, 1) := by decide +kernel
theorem dX7_insert_91 : decode cX7_insert 91 = .ok (.getfield 155, 3) := by decide +kernel
theorem dX7_insert_94 : decode cX7_insert 94 = .ok (.ireturn, 1) := by decide +kernel
theorem dX7_clear_0 : decode cX7_clear 0 = .ok (.aload_n 0, 1) := by decide +kernel
theorem dX7_clear_1 : decode cX7_clear 1 = .ok (.iconst 0, 1) := by decide +kernel
theorem dX7_clear_2 : decode cX7_clear 2 = .ok (.putfield 76, 3) := by decide +kernel
theorem dX7_clear_5 : decode cX7_clear 5 = .ok (.aload_n 0, 1) := by decide +kernel
theorem dX7_clear_6 : decode cX7_clear 6 = .ok (.getfield 155, 3) := by decide +kernel
theorem dX7_clear_9 : decode cX7_clear 9 = .ok (.istore_n 1, 1) := by decide +kernel
theorem dX7_clear_10 : decode cX7_clear 10 = .ok (.aload_n 0, 1) := by decide +kernel
theorem dX7_clear_11 : decode cX7_clear 11 = .ok (.iconst 0, 1) := by decide +kernel
theorem dX7_clear_12 : decode cX7_clear 12 = .ok (.putfield 155, 3) := by decide +kernel
theorem dX7_clear_15 : decode cX7_clear 15 = .ok (.iload_n 1, 1) := by decide +kernel
theorem dX7_clear_16 : decode cX7_clear 16 = .ok (.ireturn, 1) := by decide +kernel
theorem dX7_isHighOne_0 : decode cX7_isHighOne 0 = .ok (.iload_n 0, 1) := by decide +kernel
theorem dX7_isHighOne_1 : decode cX7_isHighOne 1 = .ok (.ldc 158, 2) := by decide +kernel
theorem dX7_isHighOne_3 : decode cX7_isHighOne 3 = .ok (.if_icmp .lt 13, 3) := by decide +kernel
theorem dX7_isHighOne_6 : decode cX7_isHighOne 6 = .ok (.iload_n 0, 1) := by decide +kernel
theorem dX7_isHighOne_7 : decode cX7_isHighOne 7 = .ok (.ldc 159, 2) := by decide +kernel
theorem dX7_isHighOne_9 : decode cX7_isHighOne 9 = .ok (.if_icmp .gt 7, 3) := by decide +kernel
theorem dX7_isHighOne_12 : decode cX7_isHighOne 12 = .ok (.iconst 1, 1) := by decide +kernel
theorem dX7_isHighOne_13 : decode cX7_isHighOne 13 = .ok (.goto 4, 3) := by decide +kernel
theorem dX7_isHighOne_16 : decode cX7_isHighOne 16 = .ok (.iconst 0, 1) := by decide +kernel
theorem dX7_isHighOne_17 : decode cX7_isHighOne 17 = .ok (.ireturn, 1) := by decide +kernel
theorem dX7_isLowOne_0 : decode cX7_isLowOne 0 = .ok (.iload_n 0, 1) := by decide +kernel
theorem dX7_isLowOne_1 : decode cX7_isLowOne 1 = .ok (.ldc 160, 2) := by decide +kernel
theorem dX7_isLowOne_3 : decode cX7_isLowOne 3 = .ok (.if_icmp .lt 13, 3) := by decide +kernel
theorem dX7_isLowOne_6 : decode cX7_isLowOne 6 = .ok (.iload_n 0, 1) := by decide +kernel
theorem dX7_isLowOne_7 : decode cX7_isLowOne 7 = .ok (.ldc 161, 2) := by decide +kernel
theorem dX7_isLowOne_9 : decode cX7_isLowOne 9 = .ok (.if_icmp .gt 7, 3) := by decide +kernel
theorem dX7_isLowOne_12 : decode cX7_isLowOne 12 = .ok (.iconst 1, 1) := by decide +kernel
theorem dX7_isLowOne_13 : decode cX7_isLowOne 13 = .ok (.goto 4, 3) := by decide +kernel
theorem dX7_isLowOne_16 : decode cX7_isLowOne 16 = .ok (.iconst 0, 1) := by decide +kernel
theorem dX7_isLowOne_17 : decode cX7_isLowOne 17 = .ok (.ireturn, 1) := by decide +kernel
set_option maxRecDepth 20000 in
theorem ggX7_isGood_X7_isLowOne : GoodIn wsX7_isGood wsX7_isLowOne := goodIn_r _ [6, 7, 8] (by decide +kernel) (by decide +kernel)
set_option maxRecDepth 20000 in
theorem gX7_isGood_X7_isLowOne : GoodIn wsX7_isGood (va_wsS RX7 162 yX7_isLowOne wsX7_isLowOne) := goodIn_app (goodIn_of _ (by decide +kernel)) ggX7_isGood_X7_isLowOne
set_option maxRecDepth 20000 in
theorem ggX7_isGood_X7_isHighOne : GoodIn wsX7_isGood wsX7_isHighOne := goodIn_r _ [11, 12, 13] (by decide +kernel) (by decide +kernel)
set_option maxRecDepth 20000 in
theorem gX7_isGood_X7_isHighOne : GoodIn wsX7_isGood (va_wsS RX7 166 yX7_isHighOne wsX7_isHighOne) := goodIn_app (goodIn_of _ (by decide +kernel)) ggX7_isGood_X7_isHighOne
theorem dX7_isGood_0 : decode cX7_isGood 0 = .ok (.aload_n 0, 1) := by decide +kernel
theorem dX7_isGood_1 : decode cX7_isGood 1 = .ok (.getfield 155, 3) := by decide +kernel
theorem dX7_isGood_4 : decode cX7_isGood 4 = .ok (.ifCond .le 7, 3) := by decide +kernel
theorem dX7_isGood_7 : decode cX7_isGood 7 = .ok (.iconst 1, 1) := by decide +kernel
theorem dX7_isGood_8 : decode cX7_isGood 8 = .ok (.goto 4, 3) := by decide +kernel
theorem dX7_isGood_11 : decode cX7_isGood 11 = .ok (.iconst 0, 1) := by decide +kernel
theorem dX7_isGood_12 : decode cX7_isGood 12 = .ok (.istore_n 1, 1) := by decide +kernel
theorem dX7_isGood_13 : decode cX7_isGood 13 = .ok (.iconst 0, 1) := by decide +kernel
theorem dX7_isGood_14 : decode cX7_isGood 14 = .ok (.istore_n 2, 1) := by decide +kernel
theorem dX7_isGood_15 : decode cX7_isGood 15 = .ok (.iconst 0, 1) := by decide +kernel
theorem dX7_isGood_16 : decode cX7_isGood 16 = .ok (.istore_n 3, 1) := by decide +kernel
theorem dX7_isGood_17 : decode cX7_isGood 17 = .ok (.iload_n 3, 1) := by decide +kernel
theorem dX7_isGood_18 : decode cX7_isGood 18 = .ok (.aload_n 0, 1) := by decide +kernel
theorem dX7_isGood_19 : decode cX7_isGood 19 = .ok (.getfield 155, 3) := by decide +kernel
theorem dX7_isGood_22 : decode cX7_isGood 22 = .ok (.if_icmp .ge 42, 3) := by decide +kernel
theorem dX7_isGood_25 : decode cX7_isGood 25 = .ok (.iload_n 1, 1) := by decide +kernel
theorem dX7_isGood_26 : decode cX7_isGood 26 = .ok (.ifCond .eq 20, 3) := by decide +kernel
theorem dX7_isGood_29 : decode cX7_isGood 29 = .ok (.aload_n 0, 1) := by decide +kernel
theorem dX7_isGood_30 : decode cX7_isGood 30 = .ok (.getfield 60, 3) := by decide +kernel
theorem dX7_isGood_33 : decode cX7_isGood 33 = .ok (.iload_n 3, 1) := by decide +kernel
theorem dX7_isGood_34 : decode cX7_isGood 34 = .ok (.caload, 1) := by decide +kernel
theorem dX7_isGood_35 : decode cX7_isGood 35 = .ok (.invokestatic 162, 3) := by decide +kernel
theorem dX7_isGood_38 : decode cX7_isGood 38 = .ok (.iload_n 2, 1) := by decide +kernel
theorem dX7_isGood_39 : decode cX7_isGood 39 = .ok (.if_icmp .ne 7, 3) := by decide +kernel
theorem dX7_isGood_42 : decode cX7_isGood 42 = .ok (.iconst 1, 1) := by decide +kernel
theorem dX7_isGood_43 : decode cX7_isGood 43 = .ok (.goto 4, 3) := by decide +kernel
theorem dX7_isGood_46 : decode cX7_isGood 46 = .ok (.iconst 0, 1) := by decide +kernel
theorem dX7_isGood_47 : decode cX7_isGood 47 = .ok (.istore_n 1, 1) := by decide +kernel
theorem dX7_isGood_48 : decode cX7_isGood 48 = .ok (.aload_n 0, 1) := by decide +kernel
theorem dX7_isGood_49 : decode cX7_isGood 49 = .ok (.getfield 60, 3) := by decide +kernel
theorem dX7_isGood_52 : decode cX7_isGood 52 = .ok (.iload_n 3, 1) := by decide +kernel
theorem dX7_isGood_53 : decode cX7_isGood 53 = .ok (.caload, 1) := by decide +kernel
theorem dX7_isGood_54 : decode cX7_isGood 54 = .ok (.invokestatic 166, 3) := by decide +kernel
theorem dX7_isGood_57 : decode cX7_isGood 57 = .ok (.istore_n 2, 1) := by decide +kernel
theorem dX7_isGood_58 : decode cX7_isGood 58 = .ok (.iinc 3 1, 3) := by decide +kernel
theorem dX7_isGood_61 : decode cX7_isGood 61 = .ok (.goto (-44), 3) := by decide +kernel
theorem dX7_isGood_64 : decode cX7_isGood 64 = .ok (.iload_n 1, 1) := by decide +kernel
theorem dX7_isGood_65 : decode cX7_isGood 65 = .ok (.ifCond .eq 11, 3) := by decide +kernel
theorem dX7_isGood_68 : decode cX7_isGood 68 = .ok (.iload_n 2, 1) := by decide +kernel
theorem dX7_isGood_69 : decode cX7_isGood 69 = .ok (.ifCond .ne 7, 3) := by decide +kernel
theorem dX7_isGood_72 : decode cX7_isGood 72 = .ok (.iconst 1, 1) := by decide +kernel
theorem dX7_isGood_73 : decode cX7_isGood 73 = .ok (.goto 4, 3) := by decide +kernel
theorem dX7_isGood_76 : decode cX7_isGood 76 = .ok (.iconst 0, 1) := by decide +kernel
theorem dX7_isGood_77 : decode cX7_isGood 77 = .ok (.ireturn, 1) := by decide +kernel
set_option maxRecDepth 20000 in
theorem ggX7_isWhole_X7_isGood : GoodIn wsX7_isWhole wsX7_isGood := goodIn_r _ [6, 7, 8, 9, 10, 5, 11, 12, 13, 14, 15, 16, 17, 18, 19, 20, 21, 22, 23, 24, 25, 26, 27, 28, 29, 30, 31, 32, 33, 34, 35, 36, 37, 38, 39, 40, 41, 42, 43, 44, 45, 46, 47, 48, 49, 50] (by decide +kernel) (by decide +kernel)
set_option maxRecDepth 20000 in
theorem gX7_isWhole_X7_isGood : GoodIn wsX7_isWhole (wsV RX7 169 RX7 yX7_isGood wsX7_isGood) := goodIn_app (goodIn_of _ (by decide +kernel)) ggX7_isWhole_X7_isGood
theorem dX7_isWhole_0 : decode cX7_isWhole 0 = .ok (.aload_n 0, 1) := by decide +kernel
theorem dX7_isWhole_1 : decode cX7_isWhole 1 = .ok (.iconst 0, 1) := by decide +kernel
theorem dX7_isWhole_2 : decode cX7_isWhole 2 = .ok (.putfield 76, 3) := by decide +kernel
theorem dX7_isWhole_5 : decode cX7_isWhole 5 = .ok (.aload_n 0, 1) := by decide +kernel
theorem dX7_isWhole_6 : decode cX7_isWhole 6 = .ok (.invokevirtual 169, 3) := by decide +kernel
theorem dX7_isWhole_9 : decode cX7_isWhole 9 = .ok (.ireturn, 1) := by decide +kernel
set_option maxRecDepth 20000 in
theorem ggX7_isThread_X7_in : GoodIn wsX7_isThread wsX7_in := goodIn_r _ [5] (by decide +kernel) (by decide +kernel)
set_option maxRecDepth 20000 in
theorem gX7_isThread_X7_in : GoodIn wsX7_isThread (va_wsS RX7 80 yX7_in wsX7_in) := goodIn_app (goodIn_of _ (by decide +kernel)) ggX7_isThread_X7_in
theorem dX7_isThread_0 : decode cX7_isThread 0 = .ok (.iload_n 1, 1) := by decide +kernel
theorem dX7_isThread_1 : decode cX7_isThread 1 = .ok (.iconst 0, 1) := by decide +kernel
theorem dX7_isThread_2 : decode cX7_isThread 2 = .ok (.aload_n 0, 1) := by decide +kernel
theorem dX7_isThread_3 : decode cX7_isThread 3 = .ok (.getfield 173, 3) := by decide +kernel
theorem dX7_isThread_6 : decode cX7_isThread 6 = .ok (.iconst 1, 1) := by decide +kernel
theorem dX7_isThread_7 : decode cX7_isThread 7 = .ok (.isub, 1) := by decide +kernel
theorem dX7_isThread_8 : decode cX7_isThread 8 = .ok (.invokestatic 80, 3) := by decide +kernel
theorem dX7_isThread_11 : decode cX7_isThread 11 = .ok (.ireturn, 1) := by decide +kernel
theorem dX7_meant_0 : decode cX7_meant 0 = .ok (.iconst (-1), 1) := by decide +kernel
theorem dX7_meant_1 : decode cX7_meant 1 = .ok (.istore_n 1, 1) := by decide +kernel
theorem dX7_meant_2 : decode cX7_meant 2 = .ok (.iconst 0, 1) := by decide +kernel
theorem dX7_meant_3 : decode cX7_meant 3 = .ok (.istore_n 2, 1) := by decide +kernel
theorem dX7_meant_4 : decode cX7_meant 4 = .ok (.iload_n 2, 1) := by decide +kernel
theorem dX7_meant_5 : decode cX7_meant 5 = .ok (.iconst 1, 1) := by decide +kernel
theorem dX7_meant_6 : decode cX7_meant 6 = .ok (.iadd, 1) := by decide +kernel
theorem dX7_meant_7 : decode cX7_meant 7 = .ok (.aload_n 0, 1) := by decide +kernel
theorem dX7_meant_8 : decode cX7_meant 8 = .ok (.getfield 155, 3) := by decide +kernel
theorem dX7_meant_11 : decode cX7_meant 11 = .ok (.if_icmp .ge 72, 3) := by decide +kernel
theorem dX7_meant_14 : decode cX7_meant 14 = .ok (.aload_n 0, 1) := by decide +kernel
theorem dX7_meant_15 : decode cX7_meant 15 = .ok (.getfield 60, 3) := by decide +kernel
theorem dX7_meant_18 : decode cX7_meant 18 = .ok (.iload_n 2, 1) := by decide +kernel
theorem dX7_meant_19 : decode cX7_meant 19 = .ok (.caload, 1) := by decide +kernel
theorem dX7_meant_20 : decode cX7_meant 20 = .ok (.bipush 64, 2) := by decide +kernel
theorem dX7_meant_22 : decode cX7_meant 22 = .ok (.if_icmp .ne 33, 3) := by decide +kernel
theorem dX7_meant_25 : decode cX7_meant 25 = .ok (.aload_n 0, 1) := by decide +kernel
theorem dX7_meant_26 : decode cX7_meant 26 = .ok (.getfield 60, 3) := by decide +kernel
theorem dX7_meant_29 : decode cX7_meant 29 = .ok (.iload_n 2, 1) := by decide +kernel
theorem dX7_meant_30 : decode cX7_meant 30 = .ok (.iconst 1, 1) := by decide +kernel
theorem dX7_meant_31 : decode cX7_meant 31 = .ok (.iadd, 1) := by decide +kernel
theorem dX7_meant_32 : decode cX7_meant 32 = .ok (.caload, 1) := by decide +kernel
theorem dX7_meant_33 : decode cX7_meant 33 = .ok (.bipush 48, 2) := by decide +kernel
theorem dX7_meant_35 : decode cX7_meant 35 = .ok (.if_icmp .lt 20, 3) := by decide +kernel
theorem dX7_meant_38 : decode cX7_meant 38 = .ok (.aload_n 0, 1) := by decide +kernel
theorem dX7_meant_39 : decode cX7_meant 39 = .ok (.getfield 60, 3) := by decide +kernel
theorem dX7_meant_42 : decode cX7_meant 42 = .ok (.iload_n 2, 1) := by decide +kernel
theorem dX7_meant_43 : decode cX7_meant 43 = .ok (.iconst 1, 1) := by decide +kernel
theorem dX7_meant_44 : decode cX7_meant 44 = .ok (.iadd, 1) := by decide +kernel
theorem dX7_meant_45 : decode cX7_meant 45 = .ok (.caload, 1) := by decide +kernel
theorem dX7_meant_46 : decode cX7_meant 46 = .ok (.bipush 56, 2) := by decide +kernel
theorem dX7_meant_48 : decode cX7_meant 48 = .ok (.if_icmp .gt 7, 3) := by decide +kernel
theorem dX7_meant_51 : decode cX7_meant 51 = .ok (.iconst 1, 1) := by decide +kernel
theorem dX7_meant_52 : decode cX7_meant 52 = .ok (.goto 4, 3) := by decide +kernel
theorem dX7_meant_55 : decode cX7_meant 55 = .ok (.iconst 0, 1) := by decide +kernel
theorem dX7_meant_56 : decode cX7_meant 56 = .ok (.istore_n 3, 1) := by decide +kernel
theorem dX7_meant_57 : decode cX7_meant 57 = .ok (.iload_n 3, 1) := by decide +kernel
theorem dX7_meant_58 : decode cX7_meant 58 = .ok (.ifCond .eq 17, 3) := by decide +kernel
theorem dX7_meant_61 : decode cX7_meant 61 = .ok (.aload_n 0, 1) := by decide +kernel
theorem dX7_meant_62 : decode cX7_meant 62 = .ok (.getfield 60, 3) := by decide +kernel
theorem dX7_meant_65 : decode cX7_meant 65 = .ok (.iload_n 2, 1) := by decide +kernel
theorem dX7_meant_66 : decode cX7_meant 66 = .ok (.iconst 1, 1) := by decide +kernel
theorem dX7_meant_67 : decode cX7_meant 67 = .ok (.iadd, 1) := by decide +kernel
theorem dX7_meant_68 : decode cX7_meant 68 = .ok (.caload, 1) := by decide +kernel
theorem dX7_meant_69 : decode cX7_meant 69 = .ok (.bipush 48, 2) := by decide +kernel
theorem dX7_meant_71 : decode cX7_meant 71 = .ok (.isub, 1) := by decide +kernel
theorem dX7_meant_72 : decode cX7_meant 72 = .ok (.goto 4, 3) := by decide +kernel
theorem dX7_meant_75 : decode cX7_meant 75 = .ok (.iload_n 1, 1) := by decide +kernel
theorem dX7_meant_76 : decode cX7_meant 76 = .ok (.istore_n 1, 1) := by decide +kernel
theorem dX7_meant_77 : decode cX7_meant 77 = .ok (.iinc 2 1, 3) := by decide +kernel
theorem dX7_meant_80 : decode cX7_meant 80 = .ok (.goto (-76), 3) := by decide +kernel
theorem dX7_meant_83 : decode cX7_meant 83 = .ok (.iload_n 1, 1) := by decide +kernel
theorem dX7_meant_84 : decode cX7_meant 84 = .ok (.ireturn, 1) := by decide +kernel
set_option maxRecDepth 20000 in
theorem ggX7_post_X7_isPerson : GoodIn wsX7_post wsX7_isPerson := goodIn_r _ [13, 14, 15, 12, 16] (by decide +kernel) (by decide +kernel)
set_option maxRecDepth 20000 in
theorem gX7_post_X7_isPerson : GoodIn wsX7_post (va_wsS RX7 120 yX7_isPerson wsX7_isPerson) := goodIn_app (goodIn_of _ (by decide +kernel)) ggX7_post_X7_isPerson
set_option maxRecDepth 20000 in
theorem ggX7_post_X7_isThread : GoodIn wsX7_post wsX7_isThread := goodIn_r _ [20, 4, 14, 15, 12, 16, 47, 48, 49, 50, 51, 52, 53, 54, 55, 56, 57, 58, 59, 60, 61, 62, 63, 64, 65, 66, 67, 68, 69, 70, 71, 72, 73, 74, 75, 76, 77, 78] (by decide +kernel) (by decide +kernel)
set_option maxRecDepth 20000 in
theorem gX7_post_X7_isThread : GoodIn wsX7_post (wsV RX7 176 RX7 yX7_isThread wsX7_isThread) := goodIn_app (goodIn_of _ (by decide +kernel)) ggX7_post_X7_isThread
set_option maxRecDepth 20000 in
theorem ggX7_post_X7_isGood : GoodIn wsX7_post wsX7_isGood := goodIn_r _ [24, 7, 9, 25, 26, 12, 27, 28, 29, 30, 31, 32, 33, 34, 47, 48, 49, 50, 51, 52, 53, 54, 55, 56, 57, 58, 59, 60, 61, 62, 63, 64, 65, 66, 67, 68, 69, 70, 71, 72, 73, 74, 75, 76, 77, 78] (by decide +kernel) (by decide +kernel)
set_option maxRecDepth 20000 in
theorem gX7_post_X7_isGood : GoodIn wsX7_post (wsV RX7 169 RX7 yX7_isGood wsX7_isGood) := goodIn_app (goodIn_of _ (by decide +kernel)) ggX7_post_X7_isGood
set_option maxRecDepth 20000 in
theorem ggX7_post_X7_meant : GoodIn wsX7_post wsX7_meant := goodIn_r _ [38, 7, 9, 47, 48, 49, 50, 51, 52, 53, 54, 55, 56, 57, 58, 59, 60, 61, 62, 63, 64, 65, 66, 67, 68, 69, 70, 71, 72, 73, 74, 75, 76, 77, 78] (by decide +kernel) (by decide +kernel)
set_option maxRecDepth 20000 in
theorem gX7_post_X7_meant : GoodIn wsX7_post (wsV RX7 182 RX7 yX7_meant wsX7_meant) := goodIn_app (goodIn_of _ (by decide +kernel)) ggX7_post_X7_meant
set_option maxRecDepth 20000 in
theorem ggX7_post_X7_notes : GoodIn wsX7_post wsX7_notes := goodIn_r _ [42, 43, 44, 45, 46, 47, 48, 49, 50, 51, 52, 53, 54, 55, 56, 57, 58, 59, 60, 61, 62, 63, 64, 65, 66, 67, 68, 69, 70, 71, 72, 73, 74, 75, 76, 77, 78] (by decide +kernel) (by decide +kernel)
set_option maxRecDepth 20000 in
theorem gX7_post_X7_notes : GoodIn wsX7_post (wsV RX7 102 RX7 yX7_notes wsX7_notes) := goodIn_app (goodIn_of _ (by decide +kernel)) ggX7_post_X7_notes
theorem dX7_post_0 : decode cX7_post 0 = .ok (.aload_n 0, 1) := by decide +kernel
theorem dX7_post_1 : decode cX7_post 1 = .ok (.iload_n 1, 1) := by decide +kernel
theorem dX7_post_2 : decode cX7_post 2 = .ok (.invokestatic 120, 3) := by decide +kernel
theorem dX7_post_5 : decode cX7_post 5 = .ok (.ifCond .eq 16, 3) := by decide +kernel
theorem dX7_post_8 : decode cX7_post 8 = .ok (.iload_n 2, 1) := by decide +kernel
theorem dX7_post_9 : decode cX7_post 9 = .ok (.iconst (-1), 1) := by decide +kernel
theorem dX7_post_10 : decode cX7_post 10 = .ok (.if_icmp .eq 15, 3) := by decide +kernel
theorem dX7_post_13 : decode cX7_post 13 = .ok (.aload_n 0, 1) := by decide +kernel
theorem dX7_post_14 : decode cX7_post 14 = .ok (.iload_n 2, 1) := by decide +kernel
theorem dX7_post_15 : decode cX7_post 15 = .ok (.invokevirtual 176, 3) := by decide +kernel
theorem dX7_post_18 : decode cX7_post 18 = .ok (.ifCond .ne 7, 3) := by decide +kernel
theorem dX7_post_21 : decode cX7_post 21 = .ok (.iconst 1, 1) := by decide +kernel
theorem dX7_post_22 : decode cX7_post 22 = .ok (.goto 33, 3) := by decide +kernel
theorem dX7_post_25 : decode cX7_post 25 = .ok (.aload_n 0, 1) := by decide +kernel
theorem dX7_post_26 : decode cX7_post 26 = .ok (.getfield 17, 3) := by decide +kernel
theorem dX7_post_29 : decode cX7_post 29 = .ok (.iload_n 1, 1) := by decide +kernel
theorem dX7_post_30 : decode cX7_post 30 = .ok (.baload, 1) := by decide +kernel
theorem dX7_post_31 : decode cX7_post 31 = .ok (.ifCond .ne 19, 3) := by decide +kernel
theorem dX7_post_34 : decode cX7_post 34 = .ok (.aload_n 0, 1) := by decide +kernel
theorem dX7_post_35 : decode cX7_post 35 = .ok (.invokevirtual 169, 3) := by decide +kernel
theorem dX7_post_38 : decode cX7_post 38 = .ok (.ifCond .eq 12, 3) := by decide +kernel
theorem dX7_post_41 : decode cX7_post 41 = .ok (.aload_n 0, 1) := by decide +kernel
theorem dX7_post_42 : decode cX7_post 42 = .ok (.getfield 179, 3) := by decide +kernel
theorem dX7_post_45 : decode cX7_post 45 = .ok (.bipush 60, 2) := by decide +kernel
theorem dX7_post_47 : decode cX7_post 47 = .ok (.if_icmp .ne 7, 3) := by decide +kernel
theorem dX7_post_50 : decode cX7_post 50 = .ok (.iconst 2, 1) := by decide +kernel
theorem dX7_post_51 : decode cX7_post 51 = .ok (.goto 4, 3) := by decide +kernel
theorem dX7_post_54 : decode cX7_post 54 = .ok (.iconst 0, 1) := by decide +kernel
theorem dX7_post_55 : decode cX7_post 55 = .ok (.putfield 76, 3) := by decide +kernel
theorem dX7_post_58 : decode cX7_post 58 = .ok (.aload_n 0, 1) := by decide +kernel
theorem dX7_post_59 : decode cX7_post 59 = .ok (.getfield 76, 3) := by decide +kernel
theorem dX7_post_62 : decode cX7_post 62 = .ok (.ifCond .le 5, 3) := by decide +kernel
theorem dX7_post_65 : decode cX7_post 65 = .ok (.iconst 0, 1) := by decide +kernel
theorem dX7_post_66 : decode cX7_post 66 = .ok (.ireturn, 1) := by decide +kernel
theorem dX7_post_67 : decode cX7_post 67 = .ok (.iload_n 2, 1) := by decide +kernel
theorem dX7_post_68 : decode cX7_post 68 = .ok (.istore_n 3, 1) := by decide +kernel
theorem dX7_post_69 : decode cX7_post 69 = .ok (.iload_n 2, 1) := by decide +kernel
theorem dX7_post_70 : decode cX7_post 70 = .ok (.iconst (-1), 1) := by decide +kernel
theorem dX7_post_71 : decode cX7_post 71 = .ok (.if_icmp .ne 28, 3) := by decide +kernel
theorem dX7_post_74 : decode cX7_post 74 = .ok (.aload_n 0, 1) := by decide +kernel
theorem dX7_post_75 : decode cX7_post 75 = .ok (.getfield 173, 3) := by decide +kernel
theorem dX7_post_78 : decode cX7_post 78 = .ok (.istore_n 3, 1) := by decide +kernel
theorem dX7_post_79 : decode cX7_post 79 = .ok (.aload_n 0, 1) := by decide +kernel
theorem dX7_post_80 : decode cX7_post 80 = .ok (.getfield 70, 3) := by decide +kernel
theorem dX7_post_83 : decode cX7_post 83 = .ok (.aload_n 0, 1) := by decide +kernel
theorem dX7_post_84 : decode cX7_post 84 = .ok (.getfield 173, 3) := by decide +kernel
theorem dX7_post_87 : decode cX7_post 87 = .ok (.iconst (-1), 1) := by decide +kernel
theorem dX7_post_88 : decode cX7_post 88 = .ok (.iastore, 1) := by decide +kernel
theorem dX7_post_89 : decode cX7_post 89 = .ok (.aload_n 0, 1) := by decide +kernel
theorem dX7_post_90 : decode cX7_post 90 = .ok (.dup, 1) := by decide +kernel
theorem dX7_post_91 : decode cX7_post 91 = .ok (.getfield 173, 3) := by decide +kernel
theorem dX7_post_94 : decode cX7_post 94 = .ok (.iconst 1, 1) := by decide +kernel
theorem dX7_post_95 : decode cX7_post 95 = .ok (.iadd, 1) := by decide +kernel
theorem dX7_post_96 : decode cX7_post 96 = .ok (.putfield 173, 3) := by decide +kernel
theorem dX7_post_99 : decode cX7_post 99 = .ok (.aload_n 0, 1) := by decide +kernel
theorem dX7_post_100 : decode cX7_post 100 = .ok (.getfield 64, 3) := by decide +kernel
theorem dX7_post_103 : decode cX7_post 103 = .ok (.aload_n 0, 1) := by decide +kernel
theorem dX7_post_104 : decode cX7_post 104 = .ok (.getfield 179, 3) := by decide +kernel
theorem dX7_post_107 : decode cX7_post 107 = .ok (.aload_n 0, 1) := by decide +kernel
theorem dX7_post_108 : decode cX7_post 108 = .ok (.getfield 155, 3) := by decide +kernel
theorem dX7_post_111 : decode cX7_post 111 = .ok (.iastore, 1) := by decide +kernel
theorem dX7_post_112 : decode cX7_post 112 = .ok (.iconst 0, 1) := by decide +kernel
theorem dX7_post_113 : decode cX7_post 113 = .ok (.istore 4, 2) := by decide +kernel
theorem dX7_post_115 : decode cX7_post 115 = .ok (.iload 4, 2) := by decide +kernel
theorem dX7_post_117 : decode cX7_post 117 = .ok (.aload_n 0, 1) := by decide +kernel
theorem dX7_post_118 : decode cX7_post 118 = .ok (.getfield 155, 3) := by decide +kernel
theorem dX7_post_121 : decode cX7_post 121 = .ok (.if_icmp .ge 31, 3) := by decide +kernel
theorem dX7_post_124 : decode cX7_post 124 = .ok (.aload_n 0, 1) := by decide +kernel
theorem dX7_post_125 : decode cX7_post 125 = .ok (.getfield 67, 3) := by decide +kernel
theorem dX7_post_128 : decode cX7_post 128 = .ok (.bipush 40, 2) := by decide +kernel
theorem dX7_post_130 : decode cX7_post 130 = .ok (.aload_n 0, 1) := by decide +kernel
theorem dX7_post_131 : decode cX7_post 131 = .ok (.getfield 179, 3) := by decide +kernel
theorem dX7_post_134 : decode cX7_post 134 = .ok (.imul, 1) := by decide +kernel
theorem dX7_post_135 : decode cX7_post 135 = .ok (.iload 4, 2) := by decide +kernel
theorem dX7_post_137 : decode cX7_post 137 = .ok (.iadd, 1) := by decide +kernel
theorem dX7_post_138 : decode cX7_post 138 = .ok (.aload_n 0, 1) := by decide +kernel
theorem dX7_post_139 : decode cX7_post 139 = .ok (.getfield 60, 3) := by decide +kernel
theorem dX7_post_142 : decode cX7_post 142 = .ok (.iload 4, 2) := by decide +kernel
theorem dX7_post_144 : decode cX7_post 144 = .ok (.caload, 1) := by decide +kernel
theorem dX7_post_145 : decode cX7_post 145 = .ok (.castore, 1) := by decide +kernel
theorem dX7_post_146 : decode cX7_post 146 = .ok (.iinc 4 1, 3) := by decide +kernel
theorem dX7_post_149 : decode cX7_post 149 = .ok (.goto (-34), 3) := by decide +kernel
theorem dX7_post_152 : decode cX7_post 152 = .ok (.aload_n 0, 1) := by decide +kernel
theorem dX7_post_153 : decode cX7_post 153 = .ok (.dup, 1) := by decide +kernel
theorem dX7_post_154 : decode cX7_post 154 = .ok (.getfield 179, 3) := by decide +kernel
theorem dX7_post_157 : decode cX7_post 157 = .ok (.iconst 1, 1) := by decide +kernel
theorem dX7_post_158 : decode cX7_post 158 = .ok (.iadd, 1) := by decide +kernel
theorem dX7_post_159 : decode cX7_post 159 = .ok (.putfield 179, 3) := by decide +kernel
theorem dX7_post_162 : decode cX7_post 162 = .ok (.aload_n 0, 1) := by decide +kernel
theorem dX7_post_163 : decode cX7_post 163 = .ok (.invokevirtual 182, 3) := by decide +kernel
theorem dX7_post_166 : decode cX7_post 166 = .ok (.istore 4, 2) := by decide +kernel
theorem dX7_post_168 : decode cX7_post 168 = .ok (.iload 4, 2) := by decide +kernel
theorem dX7_post_170 : decode cX7_post 170 = .ok (.iconst (-1), 1) := by decide +kernel
theorem dX7_post_171 : decode cX7_post 171 = .ok (.if_icmp .eq 19, 3) := by decide +kernel
theorem dX7_post_174 : decode cX7_post 174 = .ok (.aload_n 0, 1) := by decide +kernel
theorem dX7_post_175 : decode cX7_post 175 = .ok (.getfield 70, 3) := by decide +kernel
theorem dX7_post_178 : decode cX7_post 178 = .ok (.iload_n 3, 1) := by decide +kernel
theorem dX7_post_179 : decode cX7_post 179 = .ok (.iload 4, 2) := by decide +kernel
theorem dX7_post_181 : decode cX7_post 181 = .ok (.iastore, 1) := by decide +kernel
theorem dX7_post_182 : decode cX7_post 182 = .ok (.aload_n 0, 1) := by decide +kernel
theorem dX7_post_183 : decode cX7_post 183 = .ok (.iconst 5, 1) := by decide +kernel
theorem dX7_post_184 : decode cX7_post 184 = .ok (.iload 4, 2) := by decide +kernel
theorem dX7_post_186 : decode cX7_post 186 = .ok (.iload_n 3, 1) := by decide +kernel
theorem dX7_post_187 : decode cX7_post 187 = .ok (.invokevirtual 102, 3) := by decide +kernel
theorem dX7_post_190 : decode cX7_post 190 = .ok (.aload_n 0, 1) := by decide +kernel
theorem dX7_post_191 : decode cX7_post 191 = .ok (.iconst 0, 1) := by decide +kernel
theorem dX7_post_192 : decode cX7_post 192 = .ok (.putfield 155, 3) := by decide +kernel
theorem dX7_post_195 : decode cX7_post 195 = .ok (.iload_n 3, 1) := by decide +kernel
theorem dX7_post_196 : decode cX7_post 196 = .ok (.ireturn, 1) := by decide +kernel
set_option maxRecDepth 20000 in
theorem ggX7_finish_X7_isPerson : GoodIn wsX7_finish wsX7_isPerson := goodIn_r _ [7, 8, 9, 6, 10] (by decide +kernel) (by decide +kernel)
set_option maxRecDepth 20000 in
theorem gX7_finish_X7_isPerson : GoodIn wsX7_finish (va_wsS RX7 120 yX7_isPerson wsX7_isPerson) := goodIn_app (goodIn_of _ (by decide +kernel)) ggX7_finish_X7_isPerson
set_option maxRecDepth 20000 in
theorem ggX7_finish_X7_isThread : GoodIn wsX7_finish wsX7_isThread := goodIn_r _ [14, 15, 8, 9, 6, 10, 24, 25, 26, 27, 28, 29, 30, 31, 32, 33, 34, 35, 36, 37, 38, 39, 40, 41, 42, 43, 44, 45, 46, 47, 48, 49, 50, 51, 52, 53, 54, 55] (by decide +kernel) (by decide +kernel)
set_option maxRecDepth 20000 in
theorem gX7_finish_X7_isThread : GoodIn wsX7_finish (wsV RX7 176 RX7 yX7_isThread wsX7_isThread) := goodIn_app (goodIn_of _ (by decide +kernel)) ggX7_finish_X7_isThread
set_option maxRecDepth 20000 in
theorem ggX7_finish_X7_notes : GoodIn wsX7_finish wsX7_notes := goodIn_r _ [19, 20, 21, 22, 23, 24, 25, 26, 27, 28, 29, 30, 31, 32, 33, 34, 35, 36, 37, 38, 39, 40, 41, 42, 43, 44, 45, 46, 47, 48, 49, 50, 51, 52, 53, 54, 55] (by decide +kernel) (by decide +kernel)
set_option maxRecDepth 20000 in
theorem gX7_finish_X7_notes : GoodIn wsX7_finish (wsV RX7 102 RX7 yX7_notes wsX7_notes) := goodIn_app (goodIn_of _ (by decide +kernel)) ggX7_finish_X7_notes
theorem dX7_finish_0 : decode cX7_finish 0 = .ok (.aload_n 0, 1) := by decide +kernel
theorem dX7_finish_1 : decode cX7_finish 1 = .ok (.iload_n 1, 1) := by decide +kernel
theorem dX7_finish_2 : decode cX7_finish 2 = .ok (.invokestatic 120, 3) := by decide +kernel
theorem dX7_finish_5 : decode cX7_finish 5 = .ok (.ifCond .eq 11, 3) := by decide +kernel
theorem dX7_finish_8 : decode cX7_finish 8 = .ok (.aload_n 0, 1) := by decide +kernel
theorem dX7_finish_9 : decode cX7_finish 9 = .ok (.iload_n 2, 1) := by decide +kernel
theorem dX7_finish_10 : decode cX7_finish 10 = .ok (.invokevirtual 176, 3) := by decide +kernel
theorem dX7_finish_13 : decode cX7_finish 13 = .ok (.ifCond .ne 7, 3) := by decide +kernel
theorem dX7_finish_16 : decode cX7_finish 16 = .ok (.iconst 1, 1) := by decide +kernel
theorem dX7_finish_17 : decode cX7_finish 17 = .ok (.goto 27, 3) := by decide +kernel
theorem dX7_finish_20 : decode cX7_finish 20 = .ok (.aload_n 0, 1) := by decide +kernel
theorem dX7_finish_21 : decode cX7_finish 21 = .ok (.getfield 70, 3) := by decide +kernel
theorem dX7_finish_24 : decode cX7_finish 24 = .ok (.iload_n 2, 1) := by decide +kernel
theorem dX7_finish_25 : decode cX7_finish 25 = .ok (.iaload, 1) := by decide +kernel
theorem dX7_finish_26 : decode cX7_finish 26 = .ok (.iload_n 1, 1) := by decide +kernel
theorem dX7_finish_27 : decode cX7_finish 27 = .ok (.if_icmp .ne 12, 3) := by decide +kernel
theorem dX7_finish_30 : decode cX7_finish 30 = .ok (.aload_n 0, 1) := by decide +kernel
theorem dX7_finish_31 : decode cX7_finish 31 = .ok (.getfield 17, 3) := by decide +kernel
theorem dX7_finish_34 : decode cX7_finish 34 = .ok (.iload_n 1, 1) := by decide +kernel
theorem dX7_finish_35 : decode cX7_finish 35 = .ok (.baload, 1) := by decide +kernel
theorem dX7_finish_36 : decode cX7_finish 36 = .ok (.ifCond .eq 7, 3) := by decide +kernel
theorem dX7_finish_39 : decode cX7_finish 39 = .ok (.iconst 2, 1) := by decide +kernel
theorem dX7_finish_40 : decode cX7_finish 40 = .ok (.goto 4, 3) := by decide +kernel
theorem dX7_finish_43 : decode cX7_finish 43 = .ok (.iconst 0, 1) := by decide +kernel
theorem dX7_finish_44 : decode cX7_finish 44 = .ok (.putfield 76, 3) := by decide +kernel
theorem dX7_finish_47 : decode cX7_finish 47 = .ok (.aload_n 0, 1) := by decide +kernel
theorem dX7_finish_48 : decode cX7_finish 48 = .ok (.getfield 76, 3) := by decide +kernel
theorem dX7_finish_51 : decode cX7_finish 51 = .ok (.ifCond .ne 18, 3) := by decide +kernel
theorem dX7_finish_54 : decode cX7_finish 54 = .ok (.aload_n 0, 1) := by decide +kernel
theorem dX7_finish_55 : decode cX7_finish 55 = .ok (.getfield 70, 3) := by decide +kernel
theorem dX7_finish_58 : decode cX7_finish 58 = .ok (.iload_n 2, 1) := by decide +kernel
theorem dX7_finish_59 : decode cX7_finish 59 = .ok (.iconst (-1), 1) := by decide +kernel
theorem dX7_finish_60 : decode cX7_finish 60 = .ok (.iastore, 1) := by decide +kernel
theorem dX7_finish_61 : decode cX7_finish 61 = .ok (.aload_n 0, 1) := by decide +kernel
theorem dX7_finish_62 : decode cX7_finish 62 = .ok (.bipush 6, 2) := by decide +kernel
theorem dX7_finish_64 : decode cX7_finish 64 = .ok (.iload_n 1, 1) := by decide +kernel
theorem dX7_finish_65 : decode cX7_finish 65 = .ok (.iload_n 2, 1) := by decide +kernel
theorem dX7_finish_66 : decode cX7_finish 66 = .ok (.invokevirtual 102, 3) := by decide +kernel
theorem dX7_finish_69 : decode cX7_finish 69 = .ok (.return_, 1) := by decide +kernel
set_option maxRecDepth 20000 in
theorem ggX7_taskOf_X7_isThread : GoodIn wsX7_taskOf wsX7_isThread := goodIn_r _ [7, 8, 9, 10, 6, 11, 12, 13, 14, 15, 16, 17, 18, 19, 20, 21, 22, 23, 24, 25, 26, 27, 28, 29, 30, 31, 32, 33, 34, 35, 36, 37, 38, 39, 40, 41, 42, 43] (by decide +kernel) (by decide +kernel)
set_option maxRecDepth 20000 in
theorem gX7_taskOf_X7_isThread : GoodIn wsX7_taskOf (wsV RX7 176 RX7 yX7_isThread wsX7_isThread) := goodIn_app (goodIn_of _ (by decide +kernel)) ggX7_taskOf_X7_isThread
theorem dX7_taskOf_0 : decode cX7_taskOf 0 = .ok (.aload_n 0, 1) := by decide +kernel
theorem dX7_taskOf_1 : decode cX7_taskOf 1 = .ok (.aload_n 0, 1) := by decide +kernel
theorem dX7_taskOf_2 : decode cX7_taskOf 2 = .ok (.iload_n 1, 1) := by decide +kernel
theorem dX7_taskOf_3 : decode cX7_taskOf 3 = .ok (.invokevirtual 176, 3) := by decide +kernel
theorem dX7_taskOf_6 : decode cX7_taskOf 6 = .ok (.ifCond .eq 7, 3) := by decide +kernel
theorem dX7_taskOf_9 : decode cX7_taskOf 9 = .ok (.iconst 0, 1) := by decide +kernel
theorem dX7_taskOf_10 : decode cX7_taskOf 10 = .ok (.goto 4, 3) := by decide +kernel
theorem dX7_taskOf_13 : decode cX7_taskOf 13 = .ok (.iconst 1, 1) := by decide +kernel
theorem dX7_taskOf_14 : decode cX7_taskOf 14 = .ok (.putfield 76, 3) := by decide +kernel
theorem dX7_taskOf_17 : decode cX7_taskOf 17 = .ok (.aload_n 0, 1) := by decide +kernel
theorem dX7_taskOf_18 : decode cX7_taskOf 18 = .ok (.getfield 76, 3) := by decide +kernel
theorem dX7_taskOf_21 : decode cX7_taskOf 21 = .ok (.ifCond .le 7, 3) := by decide +kernel
theorem dX7_taskOf_24 : decode cX7_taskOf 24 = .ok (.iconst 0, 1) := by decide +kernel
theorem dX7_taskOf_25 : decode cX7_taskOf 25 = .ok (.goto 9, 3) := by decide +kernel
theorem dX7_taskOf_28 : decode cX7_taskOf 28 = .ok (.aload_n 0, 1) := by decide +kernel
theorem dX7_taskOf_29 : decode cX7_taskOf 29 = .ok (.getfield 70, 3) := by decide +kernel
theorem dX7_taskOf_32 : decode cX7_taskOf 32 = .ok (.iload_n 1, 1) := by decide +kernel
theorem dX7_taskOf_33 : decode cX7_taskOf 33 = .ok (.iaload, 1) := by decide +kernel
theorem dX7_taskOf_34 : decode cX7_taskOf 34 = .ok (.ireturn, 1) := by decide +kernel
theorem dX7_messages_0 : decode cX7_messages 0 = .ok (.aload_n 0, 1) := by decide +kernel
theorem dX7_messages_1 : decode cX7_messages 1 = .ok (.iconst 0, 1) := by decide +kernel
theorem dX7_messages_2 : decode cX7_messages 2 = .ok (.putfield 76, 3) := by decide +kernel
theorem dX7_messages_5 : decode cX7_messages 5 = .ok (.aload_n 0, 1) := by decide +kernel
theorem dX7_messages_6 : decode cX7_messages 6 = .ok (.getfield 179, 3) := by decide +kernel
theorem dX7_messages_9 : decode cX7_messages 9 = .ok (.ireturn, 1) := by decide +kernel
set_option maxRecDepth 20000 in
theorem ggX7_laysSigns_X7_isHighOne : GoodIn wsX7_laysSigns wsX7_isHighOne := goodIn_r _ [11, 5, 12] (by decide +kernel) (by decide +kernel)
set_option maxRecDepth 20000 in
theorem gX7_laysSigns_X7_isHighOne : GoodIn wsX7_laysSigns (va_wsS RX7 166 yX7_isHighOne wsX7_isHighOne) := goodIn_app (goodIn_of _ (by decide +kernel)) ggX7_laysSigns_X7_isHighOne
theorem dX7_laysSigns_0 : decode cX7_laysSigns 0 = .ok (.aload_n 0, 1) := by decide +kernel
theorem dX7_laysSigns_1 : decode cX7_laysSigns 1 = .ok (.iconst 0, 1) := by decide +kernel
theorem dX7_laysSigns_2 : decode cX7_laysSigns 2 = .ok (.putfield 186, 3) := by decide +kernel
theorem dX7_laysSigns_5 : decode cX7_laysSigns 5 = .ok (.iconst 0, 1) := by decide +kernel
theorem dX7_laysSigns_6 : decode cX7_laysSigns 6 = .ok (.istore_n 2, 1) := by decide +kernel
theorem dX7_laysSigns_7 : decode cX7_laysSigns 7 = .ok (.iload_n 2, 1) := by decide +kernel
theorem dX7_laysSigns_8 : decode cX7_laysSigns 8 = .ok (.aload_n 0, 1) := by decide +kernel
theorem dX7_laysSigns_9 : decode cX7_laysSigns 9 = .ok (.getfield 64, 3) := by decide +kernel
theorem dX7_laysSigns_12 : decode cX7_laysSigns 12 = .ok (.iload_n 1, 1) := by decide +kernel
theorem dX7_laysSigns_13 : decode cX7_laysSigns 13 = .ok (.iaload, 1) := by decide +kernel
theorem dX7_laysSigns_14 : decode cX7_laysSigns 14 = .ok (.if_icmp .ge 88, 3) := by decide +kernel
theorem dX7_laysSigns_17 : decode cX7_laysSigns 17 = .ok (.aload_n 0, 1) := by decide +kernel
theorem dX7_laysSigns_18 : decode cX7_laysSigns 18 = .ok (.getfield 67, 3) := by decide +kernel
theorem dX7_laysSigns_21 : decode cX7_laysSigns 21 = .ok (.bipush 40, 2) := by decide +kernel
theorem dX7_laysSigns_23 : decode cX7_laysSigns 23 = .ok (.iload_n 1, 1) := by decide +kernel
theorem dX7_laysSigns_24 : decode cX7_laysSigns 24 = .ok (.imul, 1) := by decide +kernel
theorem dX7_laysSigns_25 : decode cX7_laysSigns 25 = .ok (.iload_n 2, 1) := by decide +kernel
theorem dX7_laysSigns_26 : decode cX7_laysSigns 26 = .ok (.iadd, 1) := by decide +kernel
theorem dX7_laysSigns_27 : decode cX7_laysSigns 27 = .ok (.caload, 1) := by decide +kernel
theorem dX7_laysSigns_28 : decode cX7_laysSigns 28 = .ok (.istore_n 3, 1) := by decide +kernel
theorem dX7_laysSigns_29 : decode cX7_laysSigns 29 = .ok (.aload_n 0, 1) := by decide +kernel
theorem dX7_laysSigns_30 : decode cX7_laysSigns 30 = .ok (.getfield 67, 3) := by decide +kernel
theorem dX7_laysSigns_33 : decode cX7_laysSigns 33 = .ok (.bipush 40, 2) := by decide +kernel
theorem dX7_laysSigns_35 : decode cX7_laysSigns 35 = .ok (.iload_n 1, 1) := by decide +kernel
theorem dX7_laysSigns_36 : decode cX7_laysSigns 36 = .ok (.imul, 1) := by decide +kernel
theorem dX7_laysSigns_37 : decode cX7_laysSigns 37 = .ok (.iload_n 2, 1) := by decide +kernel
theorem dX7_laysSigns_38 : decode cX7_laysSigns 38 = .ok (.iadd, 1) := by decide +kernel
theorem dX7_laysSigns_39 : decode cX7_laysSigns 39 = .ok (.caload, 1) := by decide +kernel
theorem dX7_laysSigns_40 : decode cX7_laysSigns 40 = .ok (.invokestatic 166, 3) := by decide +kernel
theorem dX7_laysSigns_43 : decode cX7_laysSigns 43 = .ok (.ifCond .eq 33, 3) := by decide +kernel
theorem dX7_laysSigns_46 : decode cX7_laysSigns 46 = .ok (.iinc 2 1, 3) := by decide +kernel
theorem dX7_laysSigns_49 : decode cX7_laysSigns 49 = .ok (.ldc 189, 2) := by decide +kernel
theorem dX7_laysSigns_51 : decode cX7_laysSigns 51 = .ok (.iload_n 3, 1) := by decide +kernel
theorem dX7_laysSigns_52 : decode cX7_laysSigns 52 = .ok (.ldc 158, 2) := by decide +kernel
theorem dX7_laysSigns_54 : decode cX7_laysSigns 54 = .ok (.isub, 1) := by decide +kernel
theorem dX7_laysSigns_55 : decode cX7_laysSigns 55 = .ok (.sipush 1024, 3) := by decide +kernel
theorem dX7_laysSigns_58 : decode cX7_laysSigns 58 = .ok (.imul, 1) := by decide +kernel
theorem dX7_laysSigns_59 : decode cX7_laysSigns 59 = .ok (.iadd, 1) := by decide +kernel
theorem dX7_laysSigns_60 : decode cX7_laysSigns 60 = .ok (.aload_n 0, 1) := by decide +kernel
theorem dX7_laysSigns_61 : decode cX7_laysSigns 61 = .ok (.getfield 67, 3) := by decide +kernel
theorem dX7_laysSigns_64 : decode cX7_laysSigns 64 = .ok (.bipush 40, 2) := by decide +kernel
theorem dX7_laysSigns_66 : decode cX7_laysSigns 66 = .ok (.iload_n 1, 1) := by decide +kernel
theorem dX7_laysSigns_67 : decode cX7_laysSigns 67 = .ok (.imul, 1) := by decide +kernel
theorem dX7_laysSigns_68 : decode cX7_laysSigns 68 = .ok (.iload_n 2, 1) := by decide +kernel
theorem dX7_laysSigns_69 : decode cX7_laysSigns 69 = .ok (.iadd, 1) := by decide +kernel
theorem dX7_laysSigns_70 : decode cX7_laysSigns 70 = .ok (.caload, 1) := by decide +kernel
theorem dX7_laysSigns_71 : decode cX7_laysSigns 71 = .ok (.iadd, 1) := by decide +kernel
theorem dX7_laysSigns_72 : decode cX7_laysSigns 72 = .ok (.ldc 160, 2) := by decide +kernel
theorem dX7_laysSigns_74 : decode cX7_laysSigns 74 = .ok (.isub, 1) := by decide +kernel
theorem dX7_laysSigns_75 : decode cX7_laysSigns 75 = .ok (.istore_n 3, 1) := by decide +kernel
theorem dX7_laysSigns_76 : decode cX7_laysSigns 76 = .ok (.aload_n 0, 1) := by decide +kernel
theorem dX7_laysSigns_77 : decode cX7_laysSigns 77 = .ok (.getfield 73, 3) := by decide +kernel
theorem dX7_laysSigns_80 : decode cX7_laysSigns 80 = .ok (.aload_n 0, 1) := by decide +kernel
theorem dX7_laysSigns_81 : decode cX7_laysSigns 81 = .ok (.getfield 186, 3) := by decide +kernel
theorem dX7_laysSigns_84 : decode cX7_laysSigns 84 = .ok (.iload_n 3, 1) := by decide +kernel
theorem dX7_laysSigns_85 : decode cX7_laysSigns 85 = .ok (.iastore, 1) := by decide +kernel
theorem dX7_laysSigns_86 : decode cX7_laysSigns 86 = .ok (.aload_n 0, 1) := by decide +kernel
theorem dX7_laysSigns_87 : decode cX7_laysSigns 87 = .ok (.dup, 1) := by decide +kernel
theorem dX7_laysSigns_88 : decode cX7_laysSigns 88 = .ok (.getfield 186, 3) := by decide +kernel
theorem dX7_laysSigns_91 : decode cX7_laysSigns 91 = .ok (.iconst 1, 1) := by decide +kernel
theorem dX7_laysSigns_92 : decode cX7_laysSigns 92 = .ok (.iadd, 1) := by decide +kernel
theorem dX7_laysSigns_93 : decode cX7_laysSigns 93 = .ok (.putfield 186, 3) := by decide +kernel
theorem dX7_laysSigns_96 : decode cX7_laysSigns 96 = .ok (.iinc 2 1, 3) := by decide +kernel
theorem dX7_laysSigns_99 : decode cX7_laysSigns 99 = .ok (.goto (-92), 3) := by decide +kernel
theorem dX7_laysSigns_102 : decode cX7_laysSigns 102 = .ok (.return_, 1) := by decide +kernel
set_option maxRecDepth 20000 in
theorem ggX7_asksMessage_X7_in : GoodIn wsX7_asksMessage wsX7_in := goodIn_r _ [6] (by decide +kernel) (by decide +kernel)
set_option maxRecDepth 20000 in
theorem gX7_asksMessage_X7_in : GoodIn wsX7_asksMessage (va_wsS RX7 80 yX7_in wsX7_in) := goodIn_app (goodIn_of _ (by decide +kernel)) ggX7_asksMessage_X7_in
set_option maxRecDepth 20000 in
theorem ggX7_asksMessage_X7_laysSigns : GoodIn wsX7_asksMessage wsX7_laysSigns := goodIn_r _ [10, 11, 12, 13, 14, 15, 16, 17, 18, 19, 5, 20, 21, 22, 23, 24, 25, 26, 27, 28, 29, 30, 31, 32, 33, 34, 35, 36, 37, 38, 39, 40, 41, 42, 43, 44, 45, 46, 47, 48, 49, 50, 51, 52, 53] (by decide +kernel) (by decide +kernel)
set_option maxRecDepth 20000 in
theorem gX7_asksMessage_X7_laysSigns : GoodIn wsX7_asksMessage (wsV RX7 190 RX7 yX7_laysSigns wsX7_laysSigns) := goodIn_app (goodIn_of _ (by decide +kernel)) ggX7_asksMessage_X7_laysSigns
theorem dX7_asksMessage_0 : decode cX7_asksMessage 0 = .ok (.aload_n 0, 1) := by decide +kernel
theorem dX7_asksMessage_1 : decode cX7_asksMessage 1 = .ok (.iload_n 1, 1) := by decide +kernel
theorem dX7_asksMessage_2 : decode cX7_asksMessage 2 = .ok (.iconst 0, 1) := by decide +kernel
theorem dX7_asksMessage_3 : decode cX7_asksMessage 3 = .ok (.aload_n 0, 1) := by decide +kernel
theorem dX7_asksMessage_4 : decode cX7_asksMessage 4 = .ok (.getfield 179, 3) := by decide +kernel
theorem dX7_asksMessage_7 : decode cX7_asksMessage 7 = .ok (.iconst 1, 1) := by decide +kernel
theorem dX7_asksMessage_8 : decode cX7_asksMessage 8 = .ok (.isub, 1) := by decide +kernel
theorem dX7_asksMessage_9 : decode cX7_asksMessage 9 = .ok (.invokestatic 80, 3) := by decide +kernel
theorem dX7_asksMessage_12 : decode cX7_asksMessage 12 = .ok (.ifCond .eq 7, 3) := by decide +kernel
theorem dX7_asksMessage_15 : decode cX7_asksMessage 15 = .ok (.iconst 0, 1) := by decide +kernel
theorem dX7_asksMessage_16 : decode cX7_asksMessage 16 = .ok (.goto 4, 3) := by decide +kernel
theorem dX7_asksMessage_19 : decode cX7_asksMessage 19 = .ok (.iconst 1, 1) := by decide +kernel
theorem dX7_asksMessage_20 : decode cX7_asksMessage 20 = .ok (.putfield 76, 3) := by decide +kernel
theorem dX7_asksMessage_23 : decode cX7_asksMessage 23 = .ok (.aload_n 0, 1) := by decide +kernel
theorem dX7_asksMessage_24 : decode cX7_asksMessage 24 = .ok (.getfield 76, 3) := by decide +kernel
theorem dX7_asksMessage_27 : decode cX7_asksMessage 27 = .ok (.ifCond .ne 8, 3) := by decide +kernel
theorem dX7_asksMessage_30 : decode cX7_asksMessage 30 = .ok (.aload_n 0, 1) := by decide +kernel
theorem dX7_asksMessage_31 : decode cX7_asksMessage 31 = .ok (.iload_n 1, 1) := by decide +kernel
theorem dX7_asksMessage_32 : decode cX7_asksMessage 32 = .ok (.invokevirtual 190, 3) := by decide +kernel
theorem dX7_asksMessage_35 : decode cX7_asksMessage 35 = .ok (.aload_n 0, 1) := by decide +kernel
theorem dX7_asksMessage_36 : decode cX7_asksMessage 36 = .ok (.getfield 76, 3) := by decide +kernel
theorem dX7_asksMessage_39 : decode cX7_asksMessage 39 = .ok (.ifCond .ne 7, 3) := by decide +kernel
theorem dX7_asksMessage_42 : decode cX7_asksMessage 42 = .ok (.iconst 1, 1) := by decide +kernel
theorem dX7_asksMessage_43 : decode cX7_asksMessage 43 = .ok (.goto 4, 3) := by decide +kernel
theorem dX7_asksMessage_46 : decode cX7_asksMessage 46 = .ok (.iconst 0, 1) := by decide +kernel
theorem dX7_asksMessage_47 : decode cX7_asksMessage 47 = .ok (.ireturn, 1) := by decide +kernel
set_option maxRecDepth 20000 in
theorem ggX7_signs_X7_asksMessage : GoodIn wsX7_signs wsX7_asksMessage := goodIn_r _ [6, 7, 8, 9, 10, 5, 11, 12, 13, 14, 15, 1, 16, 17, 18, 19, 20, 21, 22, 23, 24, 25, 26, 27, 28, 29, 30, 31, 32, 33, 34, 35, 36, 37, 38, 39, 40, 41, 42, 43, 44, 45, 46, 47, 48, 49, 50, 51, 52, 53, 54, 55, 56, 57] (by decide +kernel) (by decide +kernel)
set_option maxRecDepth 20000 in
theorem gX7_signs_X7_asksMessage : GoodIn wsX7_signs (wsV RX7 193 RX7 yX7_asksMessage wsX7_asksMessage) := goodIn_app (goodIn_of _ (by decide +kernel)) ggX7_signs_X7_asksMessage
theorem dX7_signs_0 : decode cX7_signs 0 = .ok (.aload_n 0, 1) := by decide +kernel
theorem dX7_signs_1 : decode cX7_signs 1 = .ok (.iload_n 1, 1) := by decide +kernel
theorem dX7_signs_2 : decode cX7_signs 2 = .ok (.invokevirtual 193, 3) := by decide +kernel
theorem dX7_signs_5 : decode cX7_signs 5 = .ok (.ifCond .eq 10, 3) := by decide +kernel
theorem dX7_signs_8 : decode cX7_signs 8 = .ok (.aload_n 0, 1) := by decide +kernel
theorem dX7_signs_9 : decode cX7_signs 9 = .ok (.getfield 186, 3) := by decide +kernel
theorem dX7_signs_12 : decode cX7_signs 12 = .ok (.goto 4, 3) := by decide +kernel
theorem dX7_signs_15 : decode cX7_signs 15 = .ok (.iconst 0, 1) := by decide +kernel
theorem dX7_signs_16 : decode cX7_signs 16 = .ok (.ireturn, 1) := by decide +kernel
set_option maxRecDepth 20000 in
theorem ggX7_signOf_X7_asksMessage : GoodIn wsX7_signOf wsX7_asksMessage := goodIn_r _ [8, 9, 1, 10, 11, 7, 12, 13, 14, 15, 16, 2, 17, 18, 19, 20, 21, 3, 22, 23, 24, 25, 26, 27, 28, 29, 30, 31, 32, 33, 34, 35, 36, 37, 38, 39, 40, 41, 42, 43, 44, 45, 46, 47, 48, 49, 50, 51, 52, 53, 54, 55, 56, 57] (by decide +kernel) (by decide +kernel)
set_option maxRecDepth 20000 in
theorem gX7_signOf_X7_asksMessage : GoodIn wsX7_signOf (wsV RX7 193 RX7 yX7_asksMessage wsX7_asksMessage) := goodIn_app (goodIn_of _ (by decide +kernel)) ggX7_signOf_X7_asksMessage
theorem dX7_signOf_0 : decode cX7_signOf 0 = .ok (.aload_n 0, 1) := by decide +kernel
theorem dX7_signOf_1 : decode cX7_signOf 1 = .ok (.iload_n 1, 1) := by decide +kernel
theorem dX7_signOf_2 : decode cX7_signOf 2 = .ok (.invokevirtual 193, 3) := by decide +kernel
theorem dX7_signOf_5 : decode cX7_signOf 5 = .ok (.ifCond .eq 11, 3) := by decide +kernel
theorem dX7_signOf_8 : decode cX7_signOf 8 = .ok (.iload_n 2, 1) := by decide +kernel
theorem dX7_signOf_9 : decode cX7_signOf 9 = .ok (.ifCond .lt 7, 3) := by decide +kernel
theorem dX7_signOf_12 : decode cX7_signOf 12 = .ok (.iconst 1, 1) := by decide +kernel
theorem dX7_signOf_13 : decode cX7_signOf 13 = .ok (.goto 4, 3) := by decide +kernel
theorem dX7_signOf_16 : decode cX7_signOf 16 = .ok (.iconst 0, 1) := by decide +kernel
theorem dX7_signOf_17 : decode cX7_signOf 17 = .ok (.istore 4, 2) := by decide +kernel
theorem dX7_signOf_19 : decode cX7_signOf 19 = .ok (.aload_n 0, 1) := by decide +kernel
theorem dX7_signOf_20 : decode cX7_signOf 20 = .ok (.iload 4, 2) := by decide +kernel
theorem dX7_signOf_22 : decode cX7_signOf 22 = .ok (.ifCond .eq 7, 3) := by decide +kernel
theorem dX7_signOf_25 : decode cX7_signOf 25 = .ok (.iconst 0, 1) := by decide +kernel
theorem dX7_signOf_26 : decode cX7_signOf 26 = .ok (.goto 4, 3) := by decide +kernel
theorem dX7_signOf_29 : decode cX7_signOf 29 = .ok (.iconst 1, 1) := by decide +kernel
theorem dX7_signOf_30 : decode cX7_signOf 30 = .ok (.putfield 76, 3) := by decide +kernel
theorem dX7_signOf_33 : decode cX7_signOf 33 = .ok (.iload 4, 2) := by decide +kernel
theorem dX7_signOf_35 : decode cX7_signOf 35 = .ok (.ifCond .ne 7, 3) := by decide +kernel
theorem dX7_signOf_38 : decode cX7_signOf 38 = .ok (.iconst 0, 1) := by decide +kernel
theorem dX7_signOf_39 : decode cX7_signOf 39 = .ok (.goto 36, 3) := by decide +kernel
theorem dX7_signOf_42 : decode cX7_signOf 42 = .ok (.iload_n 2, 1) := by decide +kernel
theorem dX7_signOf_43 : decode cX7_signOf 43 = .ok (.aload_n 0, 1) := by decide +kernel
theorem dX7_signOf_44 : decode cX7_signOf 44 = .ok (.getfield 186, 3) := by decide +kernel
theorem dX7_signOf_47 : decode cX7_signOf 47 = .ok (.if_icmp .lt 7, 3) := by decide +kernel
theorem dX7_signOf_50 : decode cX7_signOf 50 = .ok (.iconst (-1), 1) := by decide +kernel
theorem dX7_signOf_51 : decode cX7_signOf 51 = .ok (.goto 24, 3) := by decide +kernel
theorem dX7_signOf_54 : decode cX7_signOf 54 = .ok (.aload_n 0, 1) := by decide +kernel
theorem dX7_signOf_55 : decode cX7_signOf 55 = .ok (.getfield 73, 3) := by decide +kernel
theorem dX7_signOf_58 : decode cX7_signOf 58 = .ok (.iload_n 3, 1) := by decide +kernel
theorem dX7_signOf_59 : decode cX7_signOf 59 = .ok (.ifCond .eq 14, 3) := by decide +kernel
theorem dX7_signOf_62 : decode cX7_signOf 62 = .ok (.aload_n 0, 1) := by decide +kernel
theorem dX7_signOf_63 : decode cX7_signOf 63 = .ok (.getfield 186, 3) := by decide +kernel
theorem dX7_signOf_66 : decode cX7_signOf 66 = .ok (.iconst 1, 1) := by decide +kernel
theorem dX7_signOf_67 : decode cX7_signOf 67 = .ok (.isub, 1) := by decide +kernel
theorem dX7_signOf_68 : decode cX7_signOf 68 = .ok (.iload_n 2, 1) := by decide +kernel
theorem dX7_signOf_69 : decode cX7_signOf 69 = .ok (.isub, 1) := by decide +kernel
theorem dX7_signOf_70 : decode cX7_signOf 70 = .ok (.goto 4, 3) := by decide +kernel
theorem dX7_signOf_73 : decode cX7_signOf 73 = .ok (.iload_n 2, 1) := by decide +kernel
theorem dX7_signOf_74 : decode cX7_signOf 74 = .ok (.iaload, 1) := by decide +kernel
theorem dX7_signOf_75 : decode cX7_signOf 75 = .ok (.ireturn, 1) := by decide +kernel
set_option maxRecDepth 20000 in
theorem ggX7_signAt_X7_signOf : GoodIn wsX7_signAt wsX7_signOf := goodIn_r _ [5, 6, 7, 8, 9, 10, 11, 4, 12, 13, 14, 15, 16, 17, 18, 19, 20, 21, 22, 23, 24, 25, 26, 27, 28, 29, 30, 31, 32, 33, 34, 35, 36, 37, 38, 39, 40, 41, 42, 43, 44, 45, 46, 47, 48, 49, 50, 51, 52, 53, 54, 55, 56, 57, 58, 59, 60, 61] (by decide +kernel) (by decide +kernel)
set_option maxRecDepth 20000 in
theorem gX7_signAt_X7_signOf : GoodIn wsX7_signAt (wsV RX7 196 RX7 yX7_signOf wsX7_signOf) := goodIn_app (goodIn_of _ (by decide +kernel)) ggX7_signAt_X7_signOf
theorem dX7_signAt_0 : decode cX7_signAt 0 = .ok (.aload_n 0, 1) := by decide +kernel
theorem dX7_signAt_1 : decode cX7_signAt 1 = .ok (.iload_n 1, 1) := by decide +kernel
theorem dX7_signAt_2 : decode cX7_signAt 2 = .ok (.iload_n 2, 1) := by decide +kernel
theorem dX7_signAt_3 : decode cX7_signAt 3 = .ok (.iconst 0, 1) := by decide +kernel
theorem dX7_signAt_4 : decode cX7_signAt 4 = .ok (.invokevirtual 196, 3) := by decide +kernel
theorem dX7_signAt_7 : decode cX7_signAt 7 = .ok (.ireturn, 1) := by decide +kernel
set_option maxRecDepth 20000 in
theorem ggX7_signBack_X7_signOf : GoodIn wsX7_signBack wsX7_signOf := goodIn_r _ [5, 6, 7, 8, 9, 10, 11, 4, 12, 13, 14, 15, 16, 17, 18, 19, 20, 21, 22, 23, 24, 25, 26, 27, 28, 29, 30, 31, 32, 33, 34, 35, 36, 37, 38, 39, 40, 41, 42, 43, 44, 45, 46, 47, 48, 49, 50, 51, 52, 53, 54, 55, 56, 57, 58, 59, 60, 61] (by decide +kernel) (by decide +kernel)
set_option maxRecDepth 20000 in
theorem gX7_signBack_X7_signOf : GoodIn wsX7_signBack (wsV RX7 196 RX7 yX7_signOf wsX7_signOf) := goodIn_app (goodIn_of _ (by decide +kernel)) ggX7_signBack_X7_signOf
theorem dX7_signBack_0 : decode cX7_signBack 0 = .ok (.aload_n 0, 1) := by decide +kernel
theorem dX7_signBack_1 : decode cX7_signBack 1 = .ok (.iload_n 1, 1) := by decide +kernel
theorem dX7_signBack_2 : decode cX7_signBack 2 = .ok (.iload_n 2, 1) := by decide +kernel
theorem dX7_signBack_3 : decode cX7_signBack 3 = .ok (.iconst 1, 1) := by decide +kernel
theorem dX7_signBack_4 : decode cX7_signBack 4 = .ok (.invokevirtual 196, 3) := by decide +kernel
theorem dX7_signBack_7 : decode cX7_signBack 7 = .ok (.ireturn, 1) := by decide +kernel
theorem dJ9_max_7cf53_0 : decode cJ9_max_7cf53 0 = .ok (.iload_n 0, 1) := by decide +kernel
theorem dJ9_max_7cf53_1 : decode cJ9_max_7cf53 1 = .ok (.iload_n 1, 1) := by decide +kernel
theorem dJ9_max_7cf53_2 : decode cJ9_max_7cf53 2 = .ok (.if_icmp .lt 7, 3) := by decide +kernel
theorem dJ9_max_7cf53_5 : decode cJ9_max_7cf53 5 = .ok (.iload_n 0, 1) := by decide +kernel
theorem dJ9_max_7cf53_6 : decode cJ9_max_7cf53 6 = .ok (.goto 4, 3) := by decide +kernel
theorem dJ9_max_7cf53_9 : decode cJ9_max_7cf53 9 = .ok (.iload_n 1, 1) := by decide +kernel
theorem dJ9_max_7cf53_10 : decode cJ9_max_7cf53 10 = .ok (.ireturn, 1) := by decide +kernel
theorem dJ9_min_7cf53_0 : decode cJ9_min_7cf53 0 = .ok (.iload_n 0, 1) := by decide +kernel
theorem dJ9_min_7cf53_1 : decode cJ9_min_7cf53 1 = .ok (.iload_n 1, 1) := by decide +kernel
theorem dJ9_min_7cf53_2 : decode cJ9_min_7cf53 2 = .ok (.if_icmp .gt 7, 3) := by decide +kernel
theorem dJ9_min_7cf53_5 : decode cJ9_min_7cf53 5 = .ok (.iload_n 0, 1) := by decide +kernel
theorem dJ9_min_7cf53_6 : decode cJ9_min_7cf53 6 = .ok (.goto 4, 3) := by decide +kernel
theorem dJ9_min_7cf53_9 : decode cJ9_min_7cf53 9 = .ok (.iload_n 1, 1) := by decide +kernel
theorem dJ9_min_7cf53_10 : decode cJ9_min_7cf53 10 = .ok (.ireturn, 1) := by decide +kernel
theorem dJxa1e45_init_da8c8_0 : decode cJxa1e45_init_da8c8 0 = .ok (.aload_n 0, 1) := by decide +kernel
theorem dJxa1e45_init_da8c8_1 : decode cJxa1e45_init_da8c8 1 = .ok (.invokespecial 1, 3) := by decide +kernel
theorem dJxa1e45_init_da8c8_4 : decode cJxa1e45_init_da8c8 4 = .ok (.return_, 1) := by decide +kernel
set_option maxRecDepth 20000 in
theorem ggJxc12de_init_da8c8_Jxa1e45_init_da8c8 : GoodIn wsJxc12de_init_da8c8 wsJxa1e45_init_da8c8 := goodIn_r _ [5, 6, 7, 8] (by decide +kernel) (by decide +kernel)
set_option maxRecDepth 20000 in
theorem gJxc12de_init_da8c8_Jxa1e45_init_da8c8 : GoodIn wsJxc12de_init_da8c8 (wsJxa1e45_init_da8c8) := ggJxc12de_init_da8c8_Jxa1e45_init_da8c8
theorem dJxc12de_init_da8c8_0 : decode cJxc12de_init_da8c8 0 = .ok (.aload_n 0, 1) := by decide +kernel
theorem dJxc12de_init_da8c8_1 : decode cJxc12de_init_da8c8 1 = .ok (.invokespecial 1, 3) := by decide +kernel
theorem dJxc12de_init_da8c8_4 : decode cJxc12de_init_da8c8 4 = .ok (.aload_n 0, 1) := by decide +kernel
theorem dJxc12de_init_da8c8_5 : decode cJxc12de_init_da8c8 5 = .ok (.iconst 0, 1) := by decide +kernel
theorem dJxc12de_init_da8c8_6 : decode cJxc12de_init_da8c8 6 = .ok (.putfield 7, 3) := by decide +kernel
theorem dJxc12de_init_da8c8_9 : decode cJxc12de_init_da8c8 9 = .ok (.return_, 1) := by decide +kernel
set_option maxRecDepth 20000 in
theorem ggJx4a65c_init_da8c8_Jxc12de_init_da8c8 : GoodIn wsJx4a65c_init_da8c8 wsJxc12de_init_da8c8 := goodIn_r _ [6, 7, 8, 9, 10, 11, 12, 13, 14, 15, 16, 17] (by decide +kernel) (by decide +kernel)
set_option maxRecDepth 20000 in
theorem gJx4a65c_init_da8c8_Jxc12de_init_da8c8 : GoodIn wsJx4a65c_init_da8c8 (wsJxc12de_init_da8c8) := ggJx4a65c_init_da8c8_Jxc12de_init_da8c8
theorem dJx4a65c_init_da8c8_0 : decode cJx4a65c_init_da8c8 0 = .ok (.aload_n 0, 1) := by decide +kernel
theorem dJx4a65c_init_da8c8_1 : decode cJx4a65c_init_da8c8 1 = .ok (.invokespecial 1, 3) := by decide +kernel
theorem dJx4a65c_init_da8c8_4 : decode cJx4a65c_init_da8c8 4 = .ok (.aload_n 0, 1) := by decide +kernel
theorem dJx4a65c_init_da8c8_5 : decode cJx4a65c_init_da8c8 5 = .ok (.getstatic 39, 3) := by decide +kernel
theorem dJx4a65c_init_da8c8_8 : decode cJx4a65c_init_da8c8 8 = .ok (.putfield 9, 3) := by decide +kernel
theorem dJx4a65c_init_da8c8_11 : decode cJx4a65c_init_da8c8 11 = .ok (.return_, 1) := by decide +kernel
set_option maxRecDepth 20000 in
theorem ggJx4a65c_grow_92f84_J8_newLength_cabcc : GoodIn wsJx4a65c_grow_92f84 wsJ8_newLength_cabcc := goodIn_r _ [11, 12, 4, 5, 6, 13, 14, 15, 10, 16] (by decide +kernel) (by decide +kernel)
set_option maxRecDepth 20000 in
theorem gJx4a65c_grow_92f84_J8_newLength_cabcc : GoodIn wsJx4a65c_grow_92f84 (va_wsS RJx4a65c 73 yJ8_newLength_cabcc wsJ8_newLength_cabcc) := goodIn_app (goodIn_of _ (by decide +kernel)) ggJx4a65c_grow_92f84_J8_newLength_cabcc
set_option maxRecDepth 20000 in
theorem ggJx4a65c_grow_92f84_J7_copyOf_1904c : GoodIn wsJx4a65c_grow_92f84 wsJ7_copyOf_1904c := goodIn_r _ [20, 21, 22, 23, 24, 25, 26, 19, 27, 28, 29, 30, 31, 5, 32, 33, 34, 35, 36] (by decide +kernel) (by decide +kernel)
set_option maxRecDepth 20000 in
theorem gJx4a65c_grow_92f84_J7_copyOf_1904c : GoodIn wsJx4a65c_grow_92f84 (va_wsS RJx4a65c 66 yJ7_copyOf_1904c wsJ7_copyOf_1904c) := goodIn_app (goodIn_of _ (by decide +kernel)) ggJx4a65c_grow_92f84_J7_copyOf_1904c
theorem dJx4a65c_grow_92f84_0 : decode cJx4a65c_grow_92f84 0 = .ok (.aload_n 0, 1) := by decide +kernel
theorem dJx4a65c_grow_92f84_1 : decode cJx4a65c_grow_92f84 1 = .ok (.getfield 9, 3) := by decide +kernel
theorem dJx4a65c_grow_92f84_4 : decode cJx4a65c_grow_92f84 4 = .ok (.arraylength, 1) := by decide +kernel
theorem dJx4a65c_grow_92f84_5 : decode cJx4a65c_grow_92f84 5 = .ok (.istore_n 2, 1) := by decide +kernel
theorem dJx4a65c_grow_92f84_6 : decode cJx4a65c_grow_92f84 6 = .ok (.iload_n 2, 1) := by decide +kernel
theorem dJx4a65c_grow_92f84_7 : decode cJx4a65c_grow_92f84 7 = .ok (.ifCond .gt 13, 3) := by decide +kernel
theorem dJx4a65c_grow_92f84_10 : decode cJx4a65c_grow_92f84 10 = .ok (.aload_n 0, 1) := by decide +kernel
theorem dJx4a65c_grow_92f84_11 : decode cJx4a65c_grow_92f84 11 = .ok (.getfield 9, 3) := by decide +kernel
theorem dJx4a65c_grow_92f84_14 : decode cJx4a65c_grow_92f84 14 = .ok (.getstatic 39, 3) := by decide +kernel
theorem dJx4a65c_grow_92f84_17 : decode cJx4a65c_grow_92f84 17 = .ok (.if_acmp .eq 28, 3) := by decide +kernel
theorem dJx4a65c_grow_92f84_20 : decode cJx4a65c_grow_92f84 20 = .ok (.iload_n 2, 1) := by decide +kernel
theorem dJx4a65c_grow_92f84_21 : decode cJx4a65c_grow_92f84 21 = .ok (.iload_n 1, 1) := by decide +kernel
theorem dJx4a65c_grow_92f84_22 : decode cJx4a65c_grow_92f84 22 = .ok (.iload_n 2, 1) := by decide +kernel
theorem dJx4a65c_grow_92f84_23 : decode cJx4a65c_grow_92f84 23 = .ok (.isub, 1) := by decide +kernel
theorem dJx4a65c_grow_92f84_24 : decode cJx4a65c_grow_92f84 24 = .ok (.iload_n 2, 1) := by decide +kernel
theorem dJx4a65c_grow_92f84_25 : decode cJx4a65c_grow_92f84 25 = .ok (.iconst 1, 1) := by decide +kernel
theorem dJx4a65c_grow_92f84_26 : decode cJx4a65c_grow_92f84 26 = .ok (.ishr, 1) := by decide +kernel
theorem dJx4a65c_grow_92f84_27 : decode cJx4a65c_grow_92f84 27 = .ok (.invokestatic 73, 3) := by decide +kernel
theorem dJx4a65c_grow_92f84_30 : decode cJx4a65c_grow_92f84 30 = .ok (.istore_n 3, 1) := by decide +kernel
theorem dJx4a65c_grow_92f84_31 : decode cJx4a65c_grow_92f84 31 = .ok (.aload_n 0, 1) := by decide +kernel
theorem dJx4a65c_grow_92f84_32 : decode cJx4a65c_grow_92f84 32 = .ok (.aload_n 0, 1) := by decide +kernel
theorem dJx4a65c_grow_92f84_33 : decode cJx4a65c_grow_92f84 33 = .ok (.getfield 9, 3) := by decide +kernel
theorem dJx4a65c_grow_92f84_36 : decode cJx4a65c_grow_92f84 36 = .ok (.iload_n 3, 1) := by decide +kernel
theorem dJx4a65c_grow_92f84_37 : decode cJx4a65c_grow_92f84 37 = .ok (.invokestatic 66, 3) := by decide +kernel
theorem dJx4a65c_grow_92f84_40 : decode cJx4a65c_grow_92f84 40 = .ok (.dup_x1, 1) := by decide +kernel
theorem dJx4a65c_grow_92f84_41 : decode cJx4a65c_grow_92f84 41 = .ok (.putfield 9, 3) := by decide +kernel
theorem dJx4a65c_grow_92f84_44 : decode cJx4a65c_grow_92f84 44 = .ok (.areturn, 1) := by decide +kernel
theorem dJx4a65c_grow_92f84_45 : decode cJx4a65c_grow_92f84 45 = .ok (.aload_n 0, 1) := by decide +kernel
theorem dJx4a65c_grow_92f84_46 : decode cJx4a65c_grow_92f84 46 = .ok (.bipush 10, 2) := by decide +kernel
theorem dJx4a65c_grow_92f84_48 : decode cJx4a65c_grow_92f84 48 = .ok (.iload_n 1, 1) := by decide +kernel
theorem dJx4a65c_grow_92f84_49 : decode cJx4a65c_grow_92f84 49 = .ok (.invokestatic 79, 3) := by decide +kernel
theorem dJx4a65c_grow_92f84_52 : decode cJx4a65c_grow_92f84 52 = .ok (.anewarray 7, 3) := by decide +kernel
theorem dJx4a65c_grow_92f84_55 : decode cJx4a65c_grow_92f84 55 = .ok (.dup_x1, 1) := by decide +kernel
theorem dJx4a65c_grow_92f84_56 : decode cJx4a65c_grow_92f84 56 = .ok (.putfield 9, 3) := by decide +kernel
theorem dJx4a65c_grow_92f84_59 : decode cJx4a65c_grow_92f84 59 = .ok (.areturn, 1) := by decide +kernel
set_option maxRecDepth 20000 in
theorem ggJx4a65c_grow_d5877_Jx4a65c_grow_92f84 : GoodIn wsJx4a65c_grow_d5877 wsJx4a65c_grow_92f84 := goodIn_r _ [6, 7, 8, 9, 10, 11, 12, 13, 14, 15, 16, 17, 18, 19, 20, 21, 22, 23, 24, 25, 26, 27, 28, 29, 30, 31, 32, 33, 34, 35, 36, 37, 38, 39, 40, 41, 42, 43, 44, 45] (by decide +kernel) (by decide +kernel)
set_option maxRecDepth 20000 in
theorem gJx4a65c_grow_d5877_Jx4a65c_grow_92f84 : GoodIn wsJx4a65c_grow_d5877 (wsV RJx4a65c 69 RJx4a65c yJx4a65c_grow_92f84 wsJx4a65c_grow_92f84) := goodIn_app (goodIn_of _ (by decide +kernel)) ggJx4a65c_grow_d5877_Jx4a65c_grow_92f84
theorem dJx4a65c_grow_d5877_0 : decode cJx4a65c_grow_d5877 0 = .ok (.aload_n 0, 1) := by decide +kernel
theorem dJx4a65c_grow_d5877_1 : decode cJx4a65c_grow_d5877 1 = .ok (.aload_n 0, 1) := by decide +kernel
theorem dJx4a65c_grow_d5877_2 : decode cJx4a65c_grow_d5877 2 = .ok (.getfield 48, 3) := by decide +kernel
theorem dJx4a65c_grow_d5877_5 : decode cJx4a65c_grow_d5877 5 = .ok (.iconst 1, 1) := by decide +kernel
theorem dJx4a65c_grow_d5877_6 : decode cJx4a65c_grow_d5877 6 = .ok (.iadd, 1) := by decide +kernel
theorem dJx4a65c_grow_d5877_7 : decode cJx4a65c_grow_d5877 7 = .ok (.invokevirtual 69, 3) := by decide +kernel
theorem dJx4a65c_grow_d5877_10 : decode cJx4a65c_grow_d5877 10 = .ok (.areturn, 1) := by decide +kernel
theorem dJx4a65c_size_8abf5_0 : decode cJx4a65c_size_8abf5 0 = .ok (.aload_n 0, 1) := by decide +kernel
theorem dJx4a65c_size_8abf5_1 : decode cJx4a65c_size_8abf5 1 = .ok (.getfield 48, 3) := by decide +kernel
theorem dJx4a65c_size_8abf5_4 : decode cJx4a65c_size_8abf5 4 = .ok (.ireturn, 1) := by decide +kernel
theorem dJx4a65c_elementData_915e3_0 : decode cJx4a65c_elementData_915e3 0 = .ok (.aload_n 0, 1) := by decide +kernel
theorem dJx4a65c_elementData_915e3_1 : decode cJx4a65c_elementData_915e3 1 = .ok (.getfield 9, 3) := by decide +kernel
theorem dJx4a65c_elementData_915e3_4 : decode cJx4a65c_elementData_915e3 4 = .ok (.iload_n 1, 1) := by decide +kernel
theorem dJx4a65c_elementData_915e3_5 : decode cJx4a65c_elementData_915e3 5 = .ok (.aaload, 1) := by decide +kernel
theorem dJx4a65c_elementData_915e3_6 : decode cJx4a65c_elementData_915e3 6 = .ok (.areturn, 1) := by decide +kernel
set_option maxRecDepth 20000 in
theorem ggJx4a65c_get_915e3_J15_checkIndex_7cf53 : GoodIn wsJx4a65c_get_915e3 wsJ15_checkIndex_7cf53 := goodIn_r _ [5, 6, 7, 8, 9] (by decide +kernel) (by decide +kernel)
set_option maxRecDepth 20000 in
theorem gJx4a65c_get_915e3_J15_checkIndex_7cf53 : GoodIn wsJx4a65c_get_915e3 (va_wsS RJx4a65c 118 yJ15_checkIndex_7cf53 wsJ15_checkIndex_7cf53) := goodIn_app (goodIn_of _ (by decide +kernel)) ggJx4a65c_get_915e3_J15_checkIndex_7cf53
set_option maxRecDepth 20000 in
theorem ggJx4a65c_get_915e3_Jx4a65c_elementData_915e3 : GoodIn wsJx4a65c_get_915e3 wsJx4a65c_elementData_915e3 := goodIn_r _ [14, 15, 16, 17, 18] (by decide +kernel) (by decide +kernel)
set_option maxRecDepth 20000 in
theorem gJx4a65c_get_915e3_Jx4a65c_elementData_915e3 : GoodIn wsJx4a65c_get_915e3 (wsV RJx4a65c 123 RJx4a65c yJx4a65c_elementData_915e3 wsJx4a65c_elementData_915e3) := goodIn_app (goodIn_of _ (by decide +kernel)) ggJx4a65c_get_915e3_Jx4a65c_elementData_915e3
theorem dJx4a65c_get_915e3_0 : decode cJx4a65c_get_915e3 0 = .ok (.iload_n 1, 1) := by decide +kernel
theorem dJx4a65c_get_915e3_1 : decode cJx4a65c_get_915e3 1 = .ok (.aload_n 0, 1) := by decide +kernel
theorem dJx4a65c_get_915e3_2 : decode cJx4a65c_get_915e3 2 = .ok (.getfield 48, 3) := by decide +kernel
theorem dJx4a65c_get_915e3_5 : decode cJx4a65c_get_915e3 5 = .ok (.invokestatic 118, 3) := by decide +kernel
theorem dJx4a65c_get_915e3_8 : decode cJx4a65c_get_915e3 8 = .ok (.pop, 1) := by decide +kernel
theorem dJx4a65c_get_915e3_9 : decode cJx4a65c_get_915e3 9 = .ok (.aload_n 0, 1) := by decide +kernel
theorem dJx4a65c_get_915e3_10 : decode cJx4a65c_get_915e3 10 = .ok (.iload_n 1, 1) := by decide +kernel
theorem dJx4a65c_get_915e3_11 : decode cJx4a65c_get_915e3 11 = .ok (.invokevirtual 123, 3) := by decide +kernel
theorem dJx4a65c_get_915e3_14 : decode cJx4a65c_get_915e3 14 = .ok (.areturn, 1) := by decide +kernel
set_option maxRecDepth 20000 in
theorem ggJx4a65c_add_72be8_Jx4a65c_grow_d5877 : GoodIn wsJx4a65c_add_72be8 wsJx4a65c_grow_d5877 := goodIn_r _ [6, 1, 7, 8, 9, 5, 10, 11, 12, 13, 14, 15, 16, 17, 18, 19, 20, 21, 22, 23, 24, 25, 26, 27, 28, 29, 30, 31, 32, 33, 34, 35, 36, 37, 38, 39, 40, 41, 42, 43, 44, 45, 46, 47, 48, 49] (by decide +kernel) (by decide +kernel)
set_option maxRecDepth 20000 in
theorem gJx4a65c_add_72be8_Jx4a65c_grow_d5877 : GoodIn wsJx4a65c_add_72be8 (wsV RJx4a65c 129 RJx4a65c yJx4a65c_grow_d5877 wsJx4a65c_grow_d5877) := goodIn_app (goodIn_of _ (by decide +kernel)) ggJx4a65c_add_72be8_Jx4a65c_grow_d5877
theorem dJx4a65c_add_72be8_0 : decode cJx4a65c_add_72be8 0 = .ok (.iload_n 3, 1) := by decide +kernel
theorem dJx4a65c_add_72be8_1 : decode cJx4a65c_add_72be8 1 = .ok (.aload_n 2, 1) := by decide +kernel
theorem dJx4a65c_add_72be8_2 : decode cJx4a65c_add_72be8 2 = .ok (.arraylength, 1) := by decide +kernel
theorem dJx4a65c_add_72be8_3 : decode cJx4a65c_add_72be8 3 = .ok (.if_icmp .ne 8, 3) := by decide +kernel
theorem dJx4a65c_add_72be8_6 : decode cJx4a65c_add_72be8 6 = .ok (.aload_n 0, 1) := by decide +kernel
theorem dJx4a65c_add_72be8_7 : decode cJx4a65c_add_72be8 7 = .ok (.invokevirtual 129, 3) := by decide +kernel
theorem dJx4a65c_add_72be8_10 : decode cJx4a65c_add_72be8 10 = .ok (.astore_n 2, 1) := by decide +kernel
theorem dJx4a65c_add_72be8_11 : decode cJx4a65c_add_72be8 11 = .ok (.aload_n 2, 1) := by decide +kernel
theorem dJx4a65c_add_72be8_12 : decode cJx4a65c_add_72be8 12 = .ok (.iload_n 3, 1) := by decide +kernel
theorem dJx4a65c_add_72be8_13 : decode cJx4a65c_add_72be8 13 = .ok (.aload_n 1, 1) := by decide +kernel
theorem dJx4a65c_add_72be8_14 : decode cJx4a65c_add_72be8 14 = .ok (.aastore, 1) := by decide +kernel
theorem dJx4a65c_add_72be8_15 : decode cJx4a65c_add_72be8 15 = .ok (.aload_n 0, 1) := by decide +kernel
theorem dJx4a65c_add_72be8_16 : decode cJx4a65c_add_72be8 16 = .ok (.iload_n 3, 1) := by decide +kernel
theorem dJx4a65c_add_72be8_17 : decode cJx4a65c_add_72be8 17 = .ok (.iconst 1, 1) := by decide +kernel
theorem dJx4a65c_add_72be8_18 : decode cJx4a65c_add_72be8 18 = .ok (.iadd, 1) := by decide +kernel
theorem dJx4a65c_add_72be8_19 : decode cJx4a65c_add_72be8 19 = .ok (.putfield 48, 3) := by decide +kernel
theorem dJx4a65c_add_72be8_22 : decode cJx4a65c_add_72be8 22 = .ok (.return_, 1) := by decide +kernel
set_option maxRecDepth 20000 in
theorem ggJx4a65c_add_9ea2d_Jx4a65c_add_72be8 : GoodIn wsJx4a65c_add_9ea2d wsJx4a65c_add_72be8 := goodIn_r _ [9, 4, 10, 11, 12, 8, 13, 14, 15, 16, 17, 3, 18, 19, 20, 21, 22, 23, 24, 25, 26, 27, 28, 29, 30, 31, 32, 33, 34, 35, 36, 37, 38, 39, 40, 41, 42, 43, 44, 45, 46, 47, 48, 49, 50, 51, 52, 53, 54, 55] (by decide +kernel) (by decide +kernel)
set_option maxRecDepth 20000 in
theorem gJx4a65c_add_9ea2d_Jx4a65c_add_72be8 : GoodIn wsJx4a65c_add_9ea2d (wsV RJx4a65c 131 RJx4a65c yJx4a65c_add_72be8 wsJx4a65c_add_72be8) := goodIn_app (goodIn_of _ (by decide +kernel)) ggJx4a65c_add_9ea2d_Jx4a65c_add_72be8
theorem dJx4a65c_add_9ea2d_0 : decode cJx4a65c_add_9ea2d 0 = .ok (.aload_n 0, 1) := by decide +kernel
theorem dJx4a65c_add_9ea2d_1 : decode cJx4a65c_add_9ea2d 1 = .ok (.dup, 1) := by decide +kernel
theorem dJx4a65c_add_9ea2d_2 : decode cJx4a65c_add_9ea2d 2 = .ok (.getfield 63, 3) := by decide +kernel
theorem dJx4a65c_add_9ea2d_5 : decode cJx4a65c_add_9ea2d 5 = .ok (.iconst 1, 1) := by decide +kernel
theorem dJx4a65c_add_9ea2d_6 : decode cJx4a65c_add_9ea2d 6 = .ok (.iadd, 1) := by decide +kernel
theorem dJx4a65c_add_9ea2d_7 : decode cJx4a65c_add_9ea2d 7 = .ok (.putfield 63, 3) := by decide +kernel
theorem dJx4a65c_add_9ea2d_10 : decode cJx4a65c_add_9ea2d 10 = .ok (.aload_n 0, 1) := by decide +kernel
theorem dJx4a65c_add_9ea2d_11 : decode cJx4a65c_add_9ea2d 11 = .ok (.aload_n 1, 1) := by decide +kernel
theorem dJx4a65c_add_9ea2d_12 : decode cJx4a65c_add_9ea2d 12 = .ok (.aload_n 0, 1) := by decide +kernel
theorem dJx4a65c_add_9ea2d_13 : decode cJx4a65c_add_9ea2d 13 = .ok (.getfield 9, 3) := by decide +kernel
theorem dJx4a65c_add_9ea2d_16 : decode cJx4a65c_add_9ea2d 16 = .ok (.aload_n 0, 1) := by decide +kernel
theorem dJx4a65c_add_9ea2d_17 : decode cJx4a65c_add_9ea2d 17 = .ok (.getfield 48, 3) := by decide +kernel
theorem dJx4a65c_add_9ea2d_20 : decode cJx4a65c_add_9ea2d 20 = .ok (.invokevirtual 131, 3) := by decide +kernel
theorem dJx4a65c_add_9ea2d_23 : decode cJx4a65c_add_9ea2d 23 = .ok (.iconst 1, 1) := by decide +kernel
theorem dJx4a65c_add_9ea2d_24 : decode cJx4a65c_add_9ea2d 24 = .ok (.ireturn, 1) := by decide +kernel
theorem dJ7_fill_53178_0 : decode cJ7_fill_53178 0 = .ok (.iconst 0, 1) := by decide +kernel
theorem dJ7_fill_53178_1 : decode cJ7_fill_53178 1 = .ok (.istore_n 2, 1) := by decide +kernel
theorem dJ7_fill_53178_2 : decode cJ7_fill_53178 2 = .ok (.aload_n 0, 1) := by decide +kernel
theorem dJ7_fill_53178_3 : decode cJ7_fill_53178 3 = .ok (.arraylength, 1) := by decide +kernel
theorem dJ7_fill_53178_4 : decode cJ7_fill_53178 4 = .ok (.istore_n 3, 1) := by decide +kernel
theorem dJ7_fill_53178_5 : decode cJ7_fill_53178 5 = .ok (.iload_n 2, 1) := by decide +kernel
theorem dJ7_fill_53178_6 : decode cJ7_fill_53178 6 = .ok (.iload_n 3, 1) := by decide +kernel
theorem dJ7_fill_53178_7 : decode cJ7_fill_53178 7 = .ok (.if_icmp .ge 13, 3) := by decide +kernel
theorem dJ7_fill_53178_10 : decode cJ7_fill_53178 10 = .ok (.aload_n 0, 1) := by decide +kernel
theorem dJ7_fill_53178_11 : decode cJ7_fill_53178 11 = .ok (.iload_n 2, 1) := by decide +kernel
theorem dJ7_fill_53178_12 : decode cJ7_fill_53178 12 = .ok (.iload_n 1, 1) := by decide +kernel
theorem dJ7_fill_53178_13 : decode cJ7_fill_53178 13 = .ok (.iastore, 1) := by decide +kernel
theorem dJ7_fill_53178_14 : decode cJ7_fill_53178 14 = .ok (.iinc 2 1, 3) := by decide +kernel
theorem dJ7_fill_53178_17 : decode cJ7_fill_53178 17 = .ok (.goto (-12), 3) := by decide +kernel
theorem dJ7_fill_53178_20 : decode cJ7_fill_53178 20 = .ok (.return_, 1) := by decide +kernel
set_option maxRecDepth 20000 in
theorem ggJ7_copyOf_1904c_J7_copyOf_6403c : GoodIn wsJ7_copyOf_1904c wsJ7_copyOf_6403c := goodIn_r _ [8, 9, 10, 11, 12, 13, 14, 15, 16, 17, 18] (by decide +kernel) (by decide +kernel)
set_option maxRecDepth 20000 in
theorem gJ7_copyOf_1904c_J7_copyOf_6403c : GoodIn wsJ7_copyOf_1904c (va_wsS RJ7 300 yJ7_copyOf_6403c wsJ7_copyOf_6403c) := goodIn_app (goodIn_of _ (by decide +kernel)) ggJ7_copyOf_1904c_J7_copyOf_6403c
theorem dJ7_copyOf_1904c_0 : decode cJ7_copyOf_1904c 0 = .ok (.aload_n 0, 1) := by decide +kernel
theorem dJ7_copyOf_1904c_1 : decode cJ7_copyOf_1904c 1 = .ok (.iload_n 1, 1) := by decide +kernel
theorem dJ7_copyOf_1904c_2 : decode cJ7_copyOf_1904c 2 = .ok (.aload_n 0, 1) := by decide +kernel
theorem dJ7_copyOf_1904c_3 : decode cJ7_copyOf_1904c 3 = .ok (.invokevirtual 86, 3) := by decide +kernel
theorem dJ7_copyOf_1904c_6 : decode cJ7_copyOf_1904c 6 = .ok (.invokestatic 300, 3) := by decide +kernel
theorem dJ7_copyOf_1904c_9 : decode cJ7_copyOf_1904c 9 = .ok (.areturn, 1) := by decide +kernel
theorem dJ7_copyOf_6403c_0 : decode cJ7_copyOf_6403c 0 = .ok (.aload_n 2, 1) := by decide +kernel
theorem dJ7_copyOf_6403c_1 : decode cJ7_copyOf_6403c 1 = .ok (.ldc 110, 2) := by decide +kernel
theorem dJ7_copyOf_6403c_3 : decode cJ7_copyOf_6403c 3 = .ok (.if_acmp .ne 10, 3) := by decide +kernel
theorem dJ7_copyOf_6403c_6 : decode cJ7_copyOf_6403c 6 = .ok (.iload_n 1, 1) := by decide +kernel
theorem dJ7_copyOf_6403c_7 : decode cJ7_copyOf_6403c 7 = .ok (.anewarray 2, 3) := by decide +kernel
theorem dJ7_copyOf_6403c_10 : decode cJ7_copyOf_6403c 10 = .ok (.goto 14, 3) := by decide +kernel
theorem dJ7_copyOf_6403c_13 : decode cJ7_copyOf_6403c 13 = .ok (.aload_n 2, 1) := by decide +kernel
theorem dJ7_copyOf_6403c_14 : decode cJ7_copyOf_6403c 14 = .ok (.invokevirtual 90, 3) := by decide +kernel
theorem dJ7_copyOf_6403c_17 : decode cJ7_copyOf_6403c 17 = .ok (.iload_n 1, 1) := by decide +kernel
theorem dJ7_copyOf_6403c_18 : decode cJ7_copyOf_6403c 18 = .ok (.invokestatic 95, 3) := by decide +kernel
theorem dJ7_copyOf_6403c_21 : decode cJ7_copyOf_6403c 21 = .ok (.checkcast 110, 3) := by decide +kernel
theorem dJ7_copyOf_6403c_24 : decode cJ7_copyOf_6403c 24 = .ok (.astore_n 3, 1) := by decide +kernel
theorem dJ7_copyOf_6403c_25 : decode cJ7_copyOf_6403c 25 = .ok (.aload_n 0, 1) := by decide +kernel
theorem dJ7_copyOf_6403c_26 : decode cJ7_copyOf_6403c 26 = .ok (.iconst 0, 1) := by decide +kernel
theorem dJ7_copyOf_6403c_27 : decode cJ7_copyOf_6403c 27 = .ok (.aload_n 3, 1) := by decide +kernel
theorem dJ7_copyOf_6403c_28 : decode cJ7_copyOf_6403c 28 = .ok (.iconst 0, 1) := by decide +kernel
theorem dJ7_copyOf_6403c_29 : decode cJ7_copyOf_6403c 29 = .ok (.aload_n 0, 1) := by decide +kernel
theorem dJ7_copyOf_6403c_30 : decode cJ7_copyOf_6403c 30 = .ok (.arraylength, 1) := by decide +kernel
theorem dJ7_copyOf_6403c_31 : decode cJ7_copyOf_6403c 31 = .ok (.iload_n 1, 1) := by decide +kernel
theorem dJ7_copyOf_6403c_32 : decode cJ7_copyOf_6403c 32 = .ok (.invokestatic 304, 3) := by decide +kernel
theorem dJ7_copyOf_6403c_35 : decode cJ7_copyOf_6403c 35 = .ok (.invokestatic 150, 3) := by decide +kernel
theorem dJ7_copyOf_6403c_38 : decode cJ7_copyOf_6403c 38 = .ok (.aload_n 3, 1) := by decide +kernel
theorem dJ7_copyOf_6403c_39 : decode cJ7_copyOf_6403c 39 = .ok (.areturn, 1) := by decide +kernel
theorem dJ7_copyOf_59c91_0 : decode cJ7_copyOf_59c91 0 = .ok (.iload_n 1, 1) := by decide +kernel
theorem dJ7_copyOf_59c91_1 : decode cJ7_copyOf_59c91 1 = .ok (.aload_n 0, 1) := by decide +kernel
theorem dJ7_copyOf_59c91_2 : decode cJ7_copyOf_59c91 2 = .ok (.arraylength, 1) := by decide +kernel
theorem dJ7_copyOf_59c91_3 : decode cJ7_copyOf_59c91 3 = .ok (.if_icmp .ne 11, 3) := by decide +kernel
theorem dJ7_copyOf_59c91_6 : decode cJ7_copyOf_59c91 6 = .ok (.aload_n 0, 1) := by decide +kernel
theorem dJ7_copyOf_59c91_7 : decode cJ7_copyOf_59c91 7 = .ok (.invokevirtual 316, 3) := by decide +kernel
theorem dJ7_copyOf_59c91_10 : decode cJ7_copyOf_59c91 10 = .ok (.checkcast 317, 3) := by decide +kernel
theorem dJ7_copyOf_59c91_13 : decode cJ7_copyOf_59c91 13 = .ok (.areturn, 1) := by decide +kernel
theorem dJ7_copyOf_59c91_14 : decode cJ7_copyOf_59c91 14 = .ok (.iload_n 1, 1) := by decide +kernel
theorem dJ7_copyOf_59c91_15 : decode cJ7_copyOf_59c91 15 = .ok (.newarray .int, 2) := by decide +kernel
theorem dJ7_copyOf_59c91_17 : decode cJ7_copyOf_59c91 17 = .ok (.astore_n 2, 1) := by decide +kernel
theorem dJ7_copyOf_59c91_18 : decode cJ7_copyOf_59c91 18 = .ok (.aload_n 0, 1) := by decide +kernel
theorem dJ7_copyOf_59c91_19 : decode cJ7_copyOf_59c91 19 = .ok (.iconst 0, 1) := by decide +kernel
theorem dJ7_copyOf_59c91_20 : decode cJ7_copyOf_59c91 20 = .ok (.aload_n 2, 1) := by decide +kernel
theorem dJ7_copyOf_59c91_21 : decode cJ7_copyOf_59c91 21 = .ok (.iconst 0, 1) := by decide +kernel
theorem dJ7_copyOf_59c91_22 : decode cJ7_copyOf_59c91 22 = .ok (.aload_n 0, 1) := by decide +kernel
theorem dJ7_copyOf_59c91_23 : decode cJ7_copyOf_59c91 23 = .ok (.arraylength, 1) := by decide +kernel
theorem dJ7_copyOf_59c91_24 : decode cJ7_copyOf_59c91 24 = .ok (.iload_n 1, 1) := by decide +kernel
theorem dJ7_copyOf_59c91_25 : decode cJ7_copyOf_59c91 25 = .ok (.invokestatic 304, 3) := by decide +kernel
theorem dJ7_copyOf_59c91_28 : decode cJ7_copyOf_59c91 28 = .ok (.invokestatic 150, 3) := by decide +kernel
theorem dJ7_copyOf_59c91_31 : decode cJ7_copyOf_59c91 31 = .ok (.aload_n 2, 1) := by decide +kernel
theorem dJ7_copyOf_59c91_32 : decode cJ7_copyOf_59c91 32 = .ok (.areturn, 1) := by decide +kernel
set_option maxRecDepth 20000 in
theorem ggJ15_checkIndex_7cf53_J3_checkIndex_8e157 : GoodIn wsJ15_checkIndex_7cf53 wsJ3_checkIndex_8e157 := goodIn_r _ [4] (by decide +kernel) (by decide +kernel)
set_option maxRecDepth 20000 in
theorem gJ15_checkIndex_7cf53_J3_checkIndex_8e157 : GoodIn wsJ15_checkIndex_7cf53 (va_wsS RJ15 105 yJ3_checkIndex_8e157 wsJ3_checkIndex_8e157) := goodIn_app (goodIn_of _ (by decide +kernel)) ggJ15_checkIndex_7cf53_J3_checkIndex_8e157
theorem dJ15_checkIndex_7cf53_0 : decode cJ15_checkIndex_7cf53 0 = .ok (.iload_n 0, 1) := by decide +kernel
theorem dJ15_checkIndex_7cf53_1 : decode cJ15_checkIndex_7cf53 1 = .ok (.iload_n 1, 1) := by decide +kernel
theorem dJ15_checkIndex_7cf53_2 : decode cJ15_checkIndex_7cf53 2 = .ok (.aconst_null, 1) := by decide +kernel
theorem dJ15_checkIndex_7cf53_3 : decode cJ15_checkIndex_7cf53 3 = .ok (.invokestatic 105, 3) := by decide +kernel
theorem dJ15_checkIndex_7cf53_6 : decode cJ15_checkIndex_7cf53 6 = .ok (.ireturn, 1) := by decide +kernel
set_option maxRecDepth 20000 in
theorem ggJ8_newLength_cabcc_J8_hugeLength_7cf53 : GoodIn wsJ8_newLength_cabcc wsJ8_hugeLength_7cf53 := goodIn_r _ [9, 5] (by decide +kernel) (by decide +kernel)
set_option maxRecDepth 20000 in
theorem gJ8_newLength_cabcc_J8_hugeLength_7cf53 : GoodIn wsJ8_newLength_cabcc (va_wsS RJ8 201 yJ8_hugeLength_7cf53 wsJ8_hugeLength_7cf53) := goodIn_app (goodIn_of _ (by decide +kernel)) ggJ8_newLength_cabcc_J8_hugeLength_7cf53
theorem dJ8_newLength_cabcc_0 : decode cJ8_newLength_cabcc 0 = .ok (.iload_n 0, 1) := by decide +kernel
theorem dJ8_newLength_cabcc_1 : decode cJ8_newLength_cabcc 1 = .ok (.iload_n 1, 1) := by decide +kernel
theorem dJ8_newLength_cabcc_2 : decode cJ8_newLength_cabcc 2 = .ok (.iload_n 2, 1) := by decide +kernel
theorem dJ8_newLength_cabcc_3 : decode cJ8_newLength_cabcc 3 = .ok (.invokestatic 194, 3) := by decide +kernel
theorem dJ8_newLength_cabcc_6 : decode cJ8_newLength_cabcc 6 = .ok (.iadd, 1) := by decide +kernel
theorem dJ8_newLength_cabcc_7 : decode cJ8_newLength_cabcc 7 = .ok (.istore_n 3, 1) := by decide +kernel
theorem dJ8_newLength_cabcc_8 : decode cJ8_newLength_cabcc 8 = .ok (.iconst 0, 1) := by decide +kernel
theorem dJ8_newLength_cabcc_9 : decode cJ8_newLength_cabcc 9 = .ok (.iload_n 3, 1) := by decide +kernel
theorem dJ8_newLength_cabcc_10 : decode cJ8_newLength_cabcc 10 = .ok (.if_icmp .ge 11, 3) := by decide +kernel
theorem dJ8_newLength_cabcc_13 : decode cJ8_newLength_cabcc 13 = .ok (.iload_n 3, 1) := by decide +kernel
theorem dJ8_newLength_cabcc_14 : decode cJ8_newLength_cabcc 14 = .ok (.ldc 200, 2) := by decide +kernel
theorem dJ8_newLength_cabcc_16 : decode cJ8_newLength_cabcc 16 = .ok (.if_icmp .gt 5, 3) := by decide +kernel
theorem dJ8_newLength_cabcc_19 : decode cJ8_newLength_cabcc 19 = .ok (.iload_n 3, 1) := by decide +kernel
theorem dJ8_newLength_cabcc_20 : decode cJ8_newLength_cabcc 20 = .ok (.ireturn, 1) := by decide +kernel
theorem dJ8_newLength_cabcc_21 : decode cJ8_newLength_cabcc 21 = .ok (.iload_n 0, 1) := by decide +kernel
theorem dJ8_newLength_cabcc_22 : decode cJ8_newLength_cabcc 22 = .ok (.iload_n 1, 1) := by decide +kernel
theorem dJ8_newLength_cabcc_23 : decode cJ8_newLength_cabcc 23 = .ok (.invokestatic 201, 3) := by decide +kernel
theorem dJ8_newLength_cabcc_26 : decode cJ8_newLength_cabcc 26 = .ok (.ireturn, 1) := by decide +kernel
theorem dJ8_hugeLength_7cf53_0 : decode cJ8_hugeLength_7cf53 0 = .ok (.iload_n 0, 1) := by decide +kernel
theorem dJ8_hugeLength_7cf53_1 : decode cJ8_hugeLength_7cf53 1 = .ok (.iload_n 1, 1) := by decide +kernel
theorem dJ8_hugeLength_7cf53_2 : decode cJ8_hugeLength_7cf53 2 = .ok (.iadd, 1) := by decide +kernel
theorem dJ8_hugeLength_7cf53_3 : decode cJ8_hugeLength_7cf53 3 = .ok (.istore_n 2, 1) := by decide +kernel
theorem dJ8_hugeLength_7cf53_4 : decode cJ8_hugeLength_7cf53 4 = .ok (.iload_n 2, 1) := by decide +kernel
theorem dJ8_hugeLength_7cf53_5 : decode cJ8_hugeLength_7cf53 5 = .ok (.ifCond .ge 44, 3) := by decide +kernel
theorem dJ8_hugeLength_7cf53_8 : decode cJ8_hugeLength_7cf53 8 = .ok (.new 204, 3) := by decide +kernel
theorem dJ8_hugeLength_7cf53_11 : decode cJ8_hugeLength_7cf53 11 = .ok (.dup, 1) := by decide +kernel
theorem dJ8_hugeLength_7cf53_12 : decode cJ8_hugeLength_7cf53 12 = .ok (.new 89, 3) := by decide +kernel
theorem dJ8_hugeLength_7cf53_15 : decode cJ8_hugeLength_7cf53 15 = .ok (.dup, 1) := by decide +kernel
theorem dJ8_hugeLength_7cf53_16 : decode cJ8_hugeLength_7cf53 16 = .ok (.invokespecial 91, 3) := by decide +kernel
theorem dJ8_hugeLength_7cf53_19 : decode cJ8_hugeLength_7cf53 19 = .ok (.ldc 206, 2) := by decide +kernel
theorem dJ8_hugeLength_7cf53_21 : decode cJ8_hugeLength_7cf53 21 = .ok (.invokevirtual 94, 3) := by decide +kernel
theorem dJ8_hugeLength_7cf53_24 : decode cJ8_hugeLength_7cf53 24 = .ok (.iload_n 0, 1) := by decide +kernel
theorem dJ8_hugeLength_7cf53_25 : decode cJ8_hugeLength_7cf53 25 = .ok (.invokevirtual 98, 3) := by decide +kernel
theorem dJ8_hugeLength_7cf53_28 : decode cJ8_hugeLength_7cf53 28 = .ok (.ldc 208, 2) := by decide +kernel
theorem dJ8_hugeLength_7cf53_30 : decode cJ8_hugeLength_7cf53 30 = .ok (.invokevirtual 94, 3) := by decide +kernel
theorem dJ8_hugeLength_7cf53_33 : decode cJ8_hugeLength_7cf53 33 = .ok (.iload_n 1, 1) := by decide +kernel
theorem dJ8_hugeLength_7cf53_34 : decode cJ8_hugeLength_7cf53 34 = .ok (.invokevirtual 98, 3) := by decide +kernel
theorem dJ8_hugeLength_7cf53_37 : decode cJ8_hugeLength_7cf53 37 = .ok (.ldc 210, 2) := by decide +kernel
theorem dJ8_hugeLength_7cf53_39 : decode cJ8_hugeLength_7cf53 39 = .ok (.invokevirtual 94, 3) := by decide +kernel
theorem dJ8_hugeLength_7cf53_42 : decode cJ8_hugeLength_7cf53 42 = .ok (.invokevirtual 101, 3) := by decide +kernel
theorem dJ8_hugeLength_7cf53_45 : decode cJ8_hugeLength_7cf53 45 = .ok (.invokespecial 212, 3) := by decide +kernel
theorem dJ8_hugeLength_7cf53_48 : decode cJ8_hugeLength_7cf53 48 = .ok (.athrow, 1) := by decide +kernel
theorem dJ8_hugeLength_7cf53_49 : decode cJ8_hugeLength_7cf53 49 = .ok (.iload_n 2, 1) := by decide +kernel
theorem dJ8_hugeLength_7cf53_50 : decode cJ8_hugeLength_7cf53 50 = .ok (.ldc 200, 2) := by decide +kernel
theorem dJ8_hugeLength_7cf53_52 : decode cJ8_hugeLength_7cf53 52 = .ok (.if_icmp .gt 6, 3) := by decide +kernel
theorem dJ8_hugeLength_7cf53_55 : decode cJ8_hugeLength_7cf53 55 = .ok (.ldc 200, 2) := by decide +kernel
theorem dJ8_hugeLength_7cf53_57 : decode cJ8_hugeLength_7cf53 57 = .ok (.ireturn, 1) := by decide +kernel
theorem dJ8_hugeLength_7cf53_58 : decode cJ8_hugeLength_7cf53 58 = .ok (.iload_n 2, 1) := by decide +kernel
theorem dJ8_hugeLength_7cf53_59 : decode cJ8_hugeLength_7cf53 59 = .ok (.ireturn, 1) := by decide +kernel
theorem dJ3_checkIndex_8e157_0 : decode cJ3_checkIndex_8e157 0 = .ok (.iload_n 0, 1) := by decide +kernel
theorem dJ3_checkIndex_8e157_1 : decode cJ3_checkIndex_8e157 1 = .ok (.ifCond .lt 8, 3) := by decide +kernel
theorem dJ3_checkIndex_8e157_4 : decode cJ3_checkIndex_8e157 4 = .ok (.iload_n 0, 1) := by decide +kernel
theorem dJ3_checkIndex_8e157_5 : decode cJ3_checkIndex_8e157 5 = .ok (.iload_n 1, 1) := by decide +kernel
theorem dJ3_checkIndex_8e157_6 : decode cJ3_checkIndex_8e157 6 = .ok (.if_icmp .lt 10, 3) := by decide +kernel
theorem dJ3_checkIndex_8e157_9 : decode cJ3_checkIndex_8e157 9 = .ok (.aload_n 2, 1) := by decide +kernel
theorem dJ3_checkIndex_8e157_10 : decode cJ3_checkIndex_8e157 10 = .ok (.iload_n 0, 1) := by decide +kernel
theorem dJ3_checkIndex_8e157_11 : decode cJ3_checkIndex_8e157 11 = .ok (.iload_n 1, 1) := by decide +kernel
theorem dJ3_checkIndex_8e157_12 : decode cJ3_checkIndex_8e157 12 = .ok (.invokestatic 95, 3) := by decide +kernel
theorem dJ3_checkIndex_8e157_15 : decode cJ3_checkIndex_8e157 15 = .ok (.athrow, 1) := by decide +kernel
theorem dJ3_checkIndex_8e157_16 : decode cJ3_checkIndex_8e157 16 = .ok (.iload_n 0, 1) := by decide +kernel
theorem dJ3_checkIndex_8e157_17 : decode cJ3_checkIndex_8e157 17 = .ok (.ireturn, 1) := by decide +kernel
end
section
abbrev vwCl : List vw_C := [(RJx4a65c, TJx4a65c, 3), (RX0, TX0, 6), (RX1, TX1, 2), (RX2, TX2, 2), (RX3, TX3, 1), (RX4, TX4, 4), (RX5, TX5, 3), (RX6, TX6, 14), (RX7, TX7, 32)]
/-! worlds, contracts and calls in this claim's own words -/
def zT (cy : Nat → ClassId) : List (ClassId × FieldType) := [(cy 0, .int), (cy 1, .long), (cy 2, .boolean), (cy 3, .char), (cy 4, .object "BoilerLog$Valve"), (cy 5, .object "java/lang/Object")]
abbrev zG : Type := va_G × (Nat → ClassId)
/-- a reading method's start: the world w, the classes -/
def zPp (G : zG) (w : va_W) (U : State) : Prop := va_P G.1 vwCl w U.heap ∧ va_K G.1 vwCl (zT G.2) U
/-- a writing method's start -/
def zPu (G : zG) (w : va_W) (sz : Nat) (U : State) : Prop := U.heap.size = sz ∧ va_P G.1 vwCl w U.heap ∧ va_K G.1 vwCl (zT G.2) U ∧ va_D (fun _ => True) w
/-- what a world is behind a method -/
def zB (G : zG) (A : Nat → Prop) (w : va_W) (t : State) : Prop := va_P G.1 vwCl w t.heap ∧ va_D A w
/-- a reading method's end: a number, the heap as it was -/
def zQi (post : Int32 → Prop) : Array Value → State → Outcome → State → Prop := fun _ st oc t => ∃ r : Int32, oc = .returned (some (.int r)) ∧ post r ∧ t.heap = st.heap
def zQq (post : Option Nat → Prop) : Array Value → State → Outcome → State → Prop := fun _ st oc t => ∃ r : Option Nat, oc = .returned (some (va_rf r)) ∧ post r ∧ t.heap = st.heap
abbrev zQu (G : zG) (w : va_W) (sz : Nat) (post : Int32 → va_W → Prop) : Array Value → State → Outcome → State → Prop := va_Qi post (zB G (va_A w sz)) (va_A w sz)
abbrev zQv (G : zG) (w : va_W) (sz : Nat) (post : va_W → Prop) : Array Value → State → Outcome → State → Prop := va_Qv post (zB G (va_A w sz)) (va_A w sz)
theorem zPp.blind {G : zG} {w : va_W} {av : List Value} : FrameBlind (va_Pc av (zPp G w)) := fun a U g mk q => ⟨q.1, q.2.1, va_K.moved (u := U) (U := U.calling g mk a) (Vm.Alike.refl U.vm) q.2.2⟩
theorem zPu.blind {G : zG} {w : va_W} {sz : Nat} {av : List Value} : FrameBlind (va_Pc av (zPu G w sz)) := fun a U g mk q => ⟨q.1, q.2.1, q.2.2.1, va_K.moved (u := U) (U := U.calling g mk a) (Vm.Alike.refl U.vm) q.2.2.2.1, q.2.2.2.2⟩
section ZC
variable {p : Program} {l : Launch} {e : Env} {R : Room} {s : State} {m : MethodId} {args : Array Value} {below : List Frame} {meth : Method} {c : Code} {H : Heap} {locs : List Loc} {cells slots : Nat} {Q : State → Prop}
variable {pc : Nat} {ls : Array Slot} {rest st0 : List Value} {a : Array Value} {A0 : Nat → Prop} {H0 : Heap} {mc ms : Nat} {free : Addr → Prop}
theorem z_csi {post : Int32 → Prop} (hr : CallRun p l e R s m args below meth c H locs cells slots 0 0 (F0 m pc ls st0) rest (zQi post a) (fun _ => False))
    (kk : ∀ r : Int32, post r → W p l e R s m args below meth c H locs cells slots Q (F0 m (pc + 3) ls (.int r :: rest))) : W p l e R s m args below meth c H locs cells slots Q (F0 m pc ls st0) := by
  intro T hT X
  obtain ⟨v, st₀, t, T', L, h0, X', hL, e1, ⟨r, hv, hp, hh⟩, st⟩ := hr T hT X
  cases hv
  obtain ⟨t2, a1, b1⟩ := kk r hp T' (by rw [e1, hh, h0]) (Stand.forget X' (fun q h => (hL q h).elim))
  exact ⟨t2, st t2 a1, b1⟩
theorem z_csq {post : Option Nat → Prop} (hr : CallRun p l e R s m args below meth c H locs cells slots 0 0 (F0 m pc ls st0) rest (zQq post a) (fun _ => False))
    (kk : ∀ r : Option Nat, post r → W p l e R s m args below meth c H locs cells slots Q (F0 m (pc + 3) ls (va_rf r :: rest))) : W p l e R s m args below meth c H locs cells slots Q (F0 m pc ls st0) := by
  intro T hT X
  obtain ⟨v, st₀, t, T', L, h0, X', hL, e1, ⟨r, hv, hp, hh⟩, st⟩ := hr T hT X
  cases hv
  obtain ⟨t2, a1, b1⟩ := kk r hp T' (by rw [e1, hh, h0]) (Stand.forget X' (fun q h => (hL q h).elim))
  exact ⟨t2, st t2 a1, b1⟩
theorem z_in {G : zG} {w : va_W} {H0 H : Heap} {A0 : Nat → Prop} {locs : List Loc} (hD : va_D A0 w) (hS : va_S A0 H0 H locs) (hA : ∀ q, H0.size ≤ q → A0 q) : ∀ q, va_A w H.size q → A0 q := by
  intro q h
  rcases h with ⟨k, e, h⟩ | h
  · exact hD.2 k (q, e) h
  · exact hA q (Nat.le_trans hS.1 h)
/-- a call that gets this method's whole world: a number -/
theorem z_cui {G : zG} {w : va_W} {post : Int32 → va_W → Prop} (hr : va_Run p l e R s m args below meth c H locs cells slots mc ms (F0 m pc ls st0) rest (zQu G w H.size post a) (va_A w H.size)) (hD : va_D A0 w) (hS : va_S A0 H0 H locs) (hA : ∀ q, H0.size ≤ q → A0 q)
    (kk : ∀ (r : Int32) (w' : va_W) (H : Heap) (locs : List Loc), post r w' → va_P G.1 vwCl w' H → va_D A0 w' → va_S A0 H0 H locs → W p l e R s m args below meth c H locs (cells + mc) (slots + ms) Q (F0 m (pc + 3) ls (.int r :: rest))) : W p l e R s m args below meth c H locs cells slots Q (F0 m pc ls st0) := by
  have hF := z_in (G := G) hD hS hA
  refine va_calli hr hS (fun q _ h => hF q h) hF (fun r u t H1 locs ht hvm hw hB hz1 hk1 hS => ?_)
  obtain ⟨hP1, hD1⟩ := hB
  rw [ht] at hP1
  exact kk r u H1 locs hw hP1 (hD1.weaken (fun _ _ _ h => hF _ h)) hS
theorem z_cuv {G : zG} {w : va_W} {post : va_W → Prop} (hr : va_Run p l e R s m args below meth c H locs cells slots mc ms (F0 m pc ls st0) rest (zQv G w H.size post a) (va_A w H.size)) (hD : va_D A0 w) (hS : va_S A0 H0 H locs) (hA : ∀ q, H0.size ≤ q → A0 q)
    (kk : ∀ (w' : va_W) (H : Heap) (locs : List Loc), post w' → va_P G.1 vwCl w' H → va_D A0 w' → va_S A0 H0 H locs → W p l e R s m args below meth c H locs (cells + mc) (slots + ms) Q (F0 m (pc + 3) ls rest)) : W p l e R s m args below meth c H locs cells slots Q (F0 m pc ls st0) := by
  have hF := z_in (G := G) hD hS hA
  refine va_callv hr hS (fun q _ h => hF q h) hF (fun u t H1 locs ht hvm hw hB hz1 hk1 hS => ?_)
  obtain ⟨hP1, hD1⟩ := hB
  rw [ht] at hP1
  exact kk u H1 locs hw hP1 (hD1.weaken (fun _ _ _ h => hF _ h)) hS
/-- what a call of a reading method wants -/
theorem z_ps {G : zG} {w : va_W} {As : List Value} (hK : va_K G.1 vwCl (zT G.2) s) (hP : va_P G.1 vwCl w H) : PreS s H (va_Pc As (zPp G w)) As :=
  ⟨zPp.blind, fun U hU hW => ⟨rfl, by rw [hU]; exact hP, va_K.moved hW.alike hK⟩⟩
theorem z_pv {G : zG} {w wa : va_W} {As : List Value} {C : String} {b ci q0 : Nat} {T : u_T} {N : Nat} {fs : List Value} (hK : va_K G.1 vwCl (zT G.2) s) (hPa : va_P G.1 vwCl wa H) (hc : vwCl[ci]? = some (C, T, N)) (he : wa[q0]? = some (b, .inr (ci, fs))) (hP : va_P G.1 vwCl w H) : PreV s H C b (va_Pc (.ref b :: As) (zPp G w)) As :=
  ⟨zPp.blind, va_recv hK hPa hc he, fun U hU hW => ⟨rfl, by rw [hU]; exact hP, va_K.moved hW.alike hK⟩⟩
theorem z_us {G : zG} {w : va_W} {As : List Value} (hK : va_K G.1 vwCl (zT G.2) s) (hP : va_P G.1 vwCl w H) (hD : va_D A0 w) : PreS s H (va_Pc As (zPu G w H.size)) As :=
  ⟨zPu.blind, fun U hU hW => ⟨rfl, by rw [hU], by rw [hU]; exact hP, va_K.moved hW.alike hK, hD.weaken (fun _ _ _ _ => trivial)⟩⟩
theorem z_uv {G : zG} {w wa : va_W} {As : List Value} {C : String} {b ci q0 : Nat} {T : u_T} {N : Nat} {fs : List Value} (hK : va_K G.1 vwCl (zT G.2) s) (hPa : va_P G.1 vwCl wa H) (hc : vwCl[ci]? = some (C, T, N)) (he : wa[q0]? = some (b, .inr (ci, fs))) (hP : va_P G.1 vwCl w H) (hD : va_D A0 w) : PreV s H C b (va_Pc (.ref b :: As) (zPu G w H.size)) As :=
  ⟨zPu.blind, va_recv hK hPa hc he, fun U hU hW => ⟨rfl, by rw [hU], by rw [hU]; exact hP, va_K.moved hW.alike hK, hD.weaken (fun _ _ _ _ => trivial)⟩⟩
end ZC
def zb (b : Bool) : Int32 := if b then 1 else 0
theorem zb_0 {b : Bool} : zb b = 0 ↔ b = false := by cases b <;> decide
theorem zb_1 {b : Bool} : zb b = 1 ↔ b = true := by cases b <;> decide
theorem zb_t : zb true = 1 := rfl
theorem zb_f : zb false = 0 := rfl
theorem zn_zb (b : Bool) : narrow .boolean (.int (zb b)) = .int (zb b) := by cases b <;> rfl
theorem zb_eq {a b : Bool} : zb a = zb b ↔ a = b := by cases a <;> cases b <;> decide
theorem zb_ne {a b : Bool} (h : ¬ zb a = zb b) : ¬ a = b := fun z => h (zb_eq.mpr z)
end
section
/-! what the calls answer, as functions of two tables: N (counters) and T (cells).
N: 0 the hour, 1 entries, 2 tags, 3 alarms, 4 the text's length, 5 messages, 6 threads, 20 + m the length of message m.
T: 0 the entries' numbers, 1 read, 2 left, 3 open, 4 from, 5 to, 6 level, 7 owner, 8 a tag's valve, 9 who asked first, 10 off, 11 watched, 12 limit, 13 high, 14 turns, 15 opens, 16 state, 17 text, 18 task, 19 the shift's entries and what was spilled, 20 + m message m. -/
def sIn (v lo hi : Int32) : Bool := decide (lo ≤ v) && decide (v ≤ hi)
/-- a number that is a place among n -/
def sIx (v : Int32) (n : Nat) : Bool := decide (0 ≤ v.toInt ∧ v.toInt < n)
theorem sIx_in {v : Int32} {n : Nat} : sIx v n = true ↔ vp_in v n := by
  rw [vp_in_iff, sIx, decide_eq_true_eq]
theorem sIx_no {v : Int32} {n : Nat} : sIx v n = false ↔ ¬ vp_in v n := by
  rw [← sIx_in]; cases sIx v n <;> simp
theorem sIn_lit {v : Int32} {k : Nat} {K : Int32} (hK : K.toInt = k) : sIn v 0 K = sIx v (k + 1) := by
  have h0 : (0 : Int32).toInt = 0 := by decide
  rw [Bool.eq_iff_iff]
  simp only [sIn, sIx, Bool.and_eq_true, decide_eq_true_eq, Int32.le_iff_toInt_le, h0, hK]
  omega
theorem sIn_8 {v : Int32} : sIn v 0 8 = sIx v 9 := sIn_lit (k := 8) (by decide)
theorem sIn_7 {v : Int32} : sIn v 0 7 = sIx v 8 := sIn_lit (k := 7) (by decide)
theorem sIn_2 {v : Int32} : sIn v 0 2 = sIx v 3 := sIn_lit (k := 2) (by decide)
theorem sIn_ix {v : Int32} {n : Nat} (h : n < 2 ^ 31) : sIn v 0 (nI n - 1) = sIx v n := by
  cases n with
  | zero =>
    have h0 : (nI 0 - 1).toInt = -1 := by decide
    have h1 : (0 : Int32).toInt = 0 := by decide
    rw [Bool.eq_iff_iff]
    simp only [sIn, sIx, Bool.and_eq_true, decide_eq_true_eq, Int32.le_iff_toInt_le, h0, h1]
    omega
  | succ k =>
    rw [nI_pred]
    exact sIn_lit (nI_toInt (by omega))
def sHi (v : Int32) : Bool := decide (55296 ≤ v) && decide (v ≤ 56319)
def sLo (v : Int32) : Bool := decide (56320 ≤ v) && decide (v ≤ 57343)
def sDuty (N : Nat → Nat) (T : Nat → Nat → Int32) (p : Int32) : Bool := decide (T 2 p.toNatClampNeg = 0) && decide (p - p / 3 * 3 = nI (N 0) / 8 - nI (N 0) / 8 / 3 * 3)
def sMay (N : Nat → Nat) (T : Nat → Nat → Int32) (p : Int32) : Bool := sDuty N T p && decide (T 19 0 ≤ T 1 p.toNatClampNeg)
def sCnt (f : Nat → Bool) : Nat → Nat
  | 0 => 0
  | n + 1 => sCnt f n + if f n then 1 else 0
theorem sCnt_le (f : Nat → Bool) : ∀ n, sCnt f n ≤ n
  | 0 => Nat.le_refl _
  | n + 1 => by
    have := sCnt_le f n
    rw [sCnt]
    split <;> omega
theorem sCnt_congr {f g : Nat → Bool} : ∀ {n : Nat}, (∀ k, k < n → f k = g k) → sCnt f n = sCnt g n
  | 0, _ => rfl
  | n + 1, h => by rw [sCnt, sCnt, sCnt_congr (fun k hk => h k (by omega)), h n (by omega)]
def sAny (f : Nat → Bool) : Nat → Bool
  | 0 => false
  | n + 1 => sAny f n || f n
theorem sAny_congr {f g : Nat → Bool} : ∀ {n : Nat}, (∀ k, k < n → f k = g k) → sAny f n = sAny g n
  | 0, _ => rfl
  | n + 1, h => by rw [sAny, sAny, sAny_congr (fun k hk => h k (by omega)), h n (by omega)]
theorem sAny_iff {f : Nat → Bool} : ∀ {n : Nat}, sAny f n = true ↔ ∃ k, k < n ∧ f k = true
  | 0 => ⟨fun h => (by cases h), fun ⟨k, h, _⟩ => absurd h (Nat.not_lt_zero k)⟩
  | n + 1 => by
    rw [sAny, Bool.or_eq_true, sAny_iff]
    constructor
    · rintro (⟨k, h1, h2⟩ | h)
      · exact ⟨k, by omega, h2⟩
      · exact ⟨n, by omega, h⟩
    · rintro ⟨k, h1, h2⟩
      by_cases hk : k = n
      · subst hk; exact Or.inr h2
      · exact Or.inl ⟨k, by omega, h2⟩
/-- tags on a valve; whether one of somebody else hangs there -/
def sOn (N : Nat → Nat) (T : Nat → Nat → Int32) (v : Int32) : Nat := sCnt (fun t => decide (T 10 t = 0) && decide (T 8 t = v)) (N 2)
def sBar (N : Nat → Nat) (T : Nat → Nat → Int32) (p v : Int32) : Bool := sAny (fun t => decide (T 10 t = 0) && decide (T 8 t = v) && !decide (T 7 t = p)) (N 2)
def sBars (N : Nat → Nat) (T : Nat → Nat → Int32) (p v : Int32) : Int32 := if sDuty N T p = false then 1 else if sMay N T p = false then 2 else if sBar N T p v = true then 3 else 0
/-- the reference's own row of valves: NONE where the tag is off -/
def sHG (N : Nat → Nat) (T : Nat → Nat → Int32) (hg : Nat → Int32) : Prop := ∀ t, t < N 2 → hg t = if T 10 t = 0 then T 8 t else -1
theorem sHG_eq {N : Nat → Nat} {T : Nat → Nat → Int32} {hg : Nat → Int32} {v : Int32} (h : sHG N T hg) (hv : vp_in v 8) {t : Nat} (ht : t < N 2) : decide (hg t = v) = (decide (T 10 t = 0) && decide (T 8 t = v)) := by
  rw [h t ht]
  have hne : ¬ (-1 : Int32) = v := by
    intro e
    rw [← e] at hv
    exact hv (Or.inl (by decide))
  by_cases h0 : T 10 t = 0 <;> simp [h0, hne]
theorem sOn_hg {N : Nat → Nat} {T : Nat → Nat → Int32} {hg : Nat → Int32} {v : Int32} (h : sHG N T hg) (hv : vp_in v 8) : sCnt (fun t => decide (hg t = v)) (N 2) = sOn N T v := sCnt_congr (fun t ht => sHG_eq h hv ht)
theorem sBar_hg {N : Nat → Nat} {T : Nat → Nat → Int32} {hg : Nat → Int32} {p v : Int32} (h : sHG N T hg) (hv : vp_in v 8) : sAny (fun t => decide (hg t = v) && !decide (T 7 t = p)) (N 2) = sBar N T p v := sAny_congr (fun t ht => by rw [sHG_eq h hv ht])
theorem z_none {D : va_G} {cl : List vw_C} {H : Heap} : va_P D cl ([] : va_W) H := fun k q h => by simp at h
theorem zb_n0 {b : Bool} (h : ¬ zb b = 0) : b = true := by cases b <;> simp_all [zb]
theorem zf_zb (b : Bool) : fits .boolean (.int (zb b)) = true := by cases b <;> rfl
/-- the reference's cells -/
abbrev mW (G : zG) (q : Nat → Nat) (th : Int32) (N : Nat → Nat) (T : Nat → Nat → Int32) (E : Nat → Int64) (hg ag mn sd tk : Nat → Int32) (sg : Int32) (sn : Nat → Int32) : va_W :=
  [(q 0, .inr (8, [.int th, .int (nI (N 0)), .int (nI (N 1)), .ref (q 1), .int (T 19 0), .ref (q 2), .ref (q 3), .ref (q 4), .ref (q 5), .ref (q 6), .ref (q 7), .int (T 19 1), .int (nI (N 2)), .ref (q 8), .ref (q 9), .ref (q 10), .int (nI (N 3)), .ref (q 11), .ref (q 12), .ref (q 13), .ref (q 14), .ref (q 15), .ref (q 16), .int (nI (N 4)), .ref (q 17), .int (nI (N 5)), .ref (q 18), .ref (q 19), .int (nI (N 6)), .ref (q 20), .int sg, .ref (q 21)])), (q 1, .inl (G.2 1, 12500, .inr (.inl E))), (q 2, .inl (G.2 0, 9, .inl (T 1))), (q 3, .inl (G.2 2, 9, .inl (T 2))), (q 4, .inl (G.2 2, 8, .inl (T 3))), (q 5, .inl (G.2 0, 8, .inl (T 4))), (q 6, .inl (G.2 0, 8, .inl (T 5))), (q 7, .inl (G.2 0, 3, .inl (T 6))), (q 8, .inl (G.2 0, 40, .inl hg)), (q 9, .inl (G.2 0, 40, .inl (T 7))), (q 10, .inl (G.2 0, 40, .inl ag)), (q 11, .inl (G.2 0, 10, .inl (T 11))), (q 12, .inl (G.2 0, 10, .inl (T 12))), (q 13, .inl (G.2 2, 10, .inl (T 13))), (q 14, .inl (G.2 0, 10, .inl (T 14))), (q 15, .inl (G.2 2, 10, .inl (T 15))), (q 16, .inl (G.2 0, 10, .inl (T 16))), (q 17, .inl (G.2 3, 40, .inl (T 17))), (q 18, .inl (G.2 0, 60, .inl mn)), (q 19, .inl (G.2 3, 2400, .inl sd)), (q 20, .inl (G.2 0, 60, .inl tk)), (q 21, .inl (G.2 0, 40, .inl sn))]
theorem sLe0 {n : Nat} (h : n < 2 ^ 31) : nI n ≤ 0 ↔ n = 0 := by
  rw [show (0 : Int32) = nI 0 from rfl, nI_leI h (by omega)]
  omega
theorem sLe0n {n : Nat} (h : n < 2 ^ 31) (z : ¬ nI n ≤ 0) : 0 < n := Nat.pos_of_ne_zero (fun y => z ((sLe0 h).mpr y))
/-- a text's first i signs are whole but for a high one at their end; whether a low one is wanted then -/
def sW (t : Nat → Int32) : Nat → Bool
  | 0 => false
  | n + 1 => sHi (t n)
def sG (t : Nat → Int32) : Nat → Bool
  | 0 => true
  | n + 1 => sG t n && decide (sLo (t n) = sW t n)
def sGood (t : Nat → Int32) (n : Nat) : Bool := (sG t n && decide (0 < n)) && !sW t n
end
section
/-! what the calls throw, answer and leave behind -/
def sK1 (a : Bool) : Int32 := if a then 0 else 1
def sK2 (a b : Bool) : Int32 := if a then (if b then 0 else 2) else 1
def sK3 (a b c : Bool) : Int32 := if a then (if b then (if c then 0 else 3) else 2) else 1
theorem sK1_0 {a : Bool} (h : sK1 a = 0) : a = true := by cases a <;> simp_all [sK1]
theorem sK2_0 {a b : Bool} (h : sK2 a b = 0) : a = true ∧ b = true := by cases a <;> cases b <;> simp_all [sK2]
theorem sK3_0 {a b c : Bool} (h : sK3 a b c = 0) : a = true ∧ b = true ∧ c = true := by cases a <;> cases b <;> cases c <;> simp_all [sK3]
theorem sK1_le {a : Bool} (h : sK1 a ≤ 0) : sK1 a = 0 := by cases a <;> revert h <;> decide
theorem sK2_le {a b : Bool} (h : sK2 a b ≤ 0) : sK2 a b = 0 := by cases a <;> cases b <;> revert h <;> decide
theorem sK3_le {a b c : Bool} (h : sK3 a b c ≤ 0) : sK3 a b c = 0 := by cases a <;> cases b <;> cases c <;> revert h <;> decide
theorem sK1_nle {a : Bool} (h : ¬ sK1 a ≤ 0) : ¬ sK1 a = 0 := by cases a <;> revert h <;> decide
theorem sK2_nle {a b : Bool} (h : ¬ sK2 a b ≤ 0) : ¬ sK2 a b = 0 := by cases a <;> cases b <;> revert h <;> decide
theorem sK3_nle {a b c : Bool} (h : ¬ sK3 a b c ≤ 0) : ¬ sK3 a b c = 0 := by cases a <;> cases b <;> cases c <;> revert h <;> decide
abbrev zS : Type := (Nat → Nat) × (Nat → Nat → Int32)
/-- the number of an entry -/
def sCode (h : Nat) (kind who what : Int32) : Int32 := 10000 * nI h + 1000 * kind + 100 * (who + 1) + what
def sNote (N : Nat → Nat) (T : Nat → Nat → Int32) (kind who what : Int32) : zS := (va_up N 1 (N 1 + 1), va_up T 0 (upd (T 0) (N 1) (sCode (N 0) kind who what)))
def sTurn (N : Nat → Nat) (T : Nat → Nat → Int32) (who v : Int32) (o : Bool) : zS := if T 3 v.toNatClampNeg = zb o then (N, T) else sNote N (va_up T 3 (upd (T 3) v.toNatClampNeg (zb o))) 0 who (v + if o then 10 else 0)
def sEnd (v : Int32) : Bool := sIn v (-1) 2
def sLed (N : Nat → Nat) (T : Nat → Nat → Int32) (i : Nat) : zS :=
  let much : Int32 := if T 4 i = -1 then 10 else if T 6 (T 4 i).toNatClampNeg ≤ 10 then T 6 (T 4 i).toNatClampNeg else 10
  let L1 : Nat → Int32 := if T 4 i = -1 then T 6 else upd (T 6) (T 4 i).toNatClampNeg (T 6 (T 4 i).toNatClampNeg - much)
  if T 5 i = -1 then (N, va_up T 6 L1) else
  let fill : Int32 := L1 (T 5 i).toNatClampNeg + much
  let over : Int32 := if fill ≤ 1000 then 0 else fill - 1000
  (N, va_up (va_up T 6 (upd L1 (T 5 i).toNatClampNeg (fill - over))) 19 (upd (T 19) 1 (T 19 1 + over)))
def sMet (T : Nat → Nat → Int32) (a : Nat) : Bool := if T 13 a = 0 then decide (T 6 (T 11 a).toNatClampNeg ≤ T 12 a) else decide (T 12 a ≤ T 6 (T 11 a).toNatClampNeg)
/-- an alarm that is raised now -/
def sRaise (N : Nat → Nat) (T : Nat → Nat → Int32) (a : Nat) : zS := if T 16 a = 0 then sNote N T 3 (-1) (nI a) else (N, T)
def sWatch1 (S : zS) (a : Nat) : zS :=
  if sOn S.1 S.2 (S.2 14 a) = 0 then
    let S2 := sTurn S.1 S.2 (-1) (S.2 14 a) (decide (S.2 15 a = 1))
    (S2.1, va_up S2.2 16 (upd (S2.2 16) a 1))
  else (S.1, va_up S.2 16 (upd (S.2 16) a 2))
def sWatch (N : Nat → Nat) (T : Nat → Nat → Int32) (a : Nat) : zS :=
  if sMet T a = false then (N, va_up T 16 (upd (T 16) a 0)) else if T 16 a = 1 then (N, T) else sWatch1 (sRaise N T a) a
def sLeads : Nat → (Nat → Nat) → (Nat → Nat → Int32) → zS
  | 0, N, T => (N, T)
  | i + 1, N, T => let S := sLeads i N T; if S.2 3 i = 0 then S else sLed S.1 S.2 i
def sWatches : Nat → (Nat → Nat) → (Nat → Nat → Int32) → zS
  | 0, N, T => (N, T)
  | a + 1, N, T => let S := sWatches a N T; sWatch S.1 S.2 a
def sHour (N : Nat → Nat) (T : Nat → Nat → Int32) : zS :=
  let S1 := sLeads 8 N T
  let S := sWatches (S1.1 3) S1.1 S1.2
  (va_up S.1 0 (S.1 0 + 1), if (S.1 0 + 1) % 8 = 0 then va_up S.2 19 (upd (S.2 19) 0 (nI (S.1 1))) else S.2)
def sHours : Nat → (Nat → Nat) → (Nat → Nat → Int32) → zS
  | 0, N, T => (N, T)
  | h + 1, N, T => let S := sHours h N T; sHour S.1 S.2
/-- the calls: what is thrown (0: nothing), the answer, the next state -/
def kPipe (N : Nat → Nat) (T : Nat → Nat → Int32) (v f t : Int32) : Int32 := sK3 (sIx v 8) ((sEnd f && sEnd t) && !decide (f = t)) (decide (T 3 v.toNatClampNeg = 0))
def nPipe (N : Nat → Nat) (T : Nat → Nat → Int32) (v f t : Int32) : zS := (N, va_up (va_up T 4 (upd (T 4) v.toNatClampNeg f)) 5 (upd (T 5) v.toNatClampNeg t))
def kTurn (N : Nat → Nat) (T : Nat → Nat → Int32) (p v : Int32) : Int32 := sK2 (sIx p 9 && sIx v 8) (decide (sBars N T p v = 0))
def kPV (p v : Int32) : Int32 := sK1 (sIx p 9 && sIx v 8)
def kV (v : Int32) (n : Nat) : Int32 := sK1 (sIx v n)
def kHang (N : Nat → Nat) (T : Nat → Nat → Int32) (p v : Int32) : Int32 := sK2 (sIx p 9 && sIx v 8) (sMay N T p && !decide (N 2 = 40))
def nHang (N : Nat → Nat) (T : Nat → Nat → Int32) (p v : Int32) : zS :=
  let S := sNote N (va_up (va_up (va_up (va_up T 7 (upd (T 7) (N 2) p)) 8 (upd (T 8) (N 2) v)) 9 (upd (T 9) (N 2) (-1))) 10 (upd (T 10) (N 2) 0)) 1 p (nI (N 2))
  (va_up S.1 2 (N 2 + 1), S.2)
def sComes (T : Nat → Nat → Int32) (p : Int32) (t : Nat) : Bool := decide (p = T 7 t) || (!decide (T 9 t = -1) && !decide (T 9 t = p))
def kTake (N : Nat → Nat) (T : Nat → Nat → Int32) (p t : Int32) : Int32 := sK2 (sIx p 9 && sIx t (N 2)) ((decide (T 10 t.toNatClampNeg = 0) && sMay N T p) && (decide (p = T 7 t.toNatClampNeg) || !decide (T 2 (T 7 t.toNatClampNeg).toNatClampNeg = 0)))
def nTake (N : Nat → Nat) (T : Nat → Nat → Int32) (p t : Int32) : zS :=
  if sComes T p t.toNatClampNeg then sNote N (va_up T 10 (upd (T 10) t.toNatClampNeg 1)) 2 p t else (N, va_up T 9 (upd (T 9) t.toNatClampNeg p))
def rValveOf (T : Nat → Nat → Int32) (t : Int32) : Int32 := if T 10 t.toNatClampNeg = 0 then T 8 t.toNatClampNeg else -1
def kRead (N : Nat → Nat) (T : Nat → Nat → Int32) (p : Int32) : Int32 := sK2 (sIx p 9) (decide (T 2 p.toNatClampNeg = 0))
def nRead (N : Nat → Nat) (T : Nat → Nat → Int32) (p : Int32) : zS := (N, va_up T 1 (upd (T 1) p.toNatClampNeg (nI (N 1))))
def rLeave (N : Nat → Nat) (T : Nat → Nat → Int32) (p : Int32) : Int32 := nI (sCnt (fun t => decide (T 10 t = 0) && decide (T 7 t = p)) (N 2))
def nLeave (N : Nat → Nat) (T : Nat → Nat → Int32) (p : Int32) : zS := sNote N (va_up T 2 (upd (T 2) p.toNatClampNeg 1)) 4 p 0
def kAdv (N : Nat → Nat) (h : Int32) : Int32 := sK2 (sIn h 1 100) (decide (nI (N 0) + h ≤ 2000))
def kAlarm (N : Nat → Nat) (ves lim v : Int32) : Int32 := sK3 (sIx ves 3 && sIx v 8) (sIn lim 0 1000) (!decide (N 3 = 10))
def nAlarm (N : Nat → Nat) (T : Nat → Nat → Int32) (ves lim : Int32) (hi : Bool) (v : Int32) (op : Bool) : zS :=
  (va_up N 3 (N 3 + 1), va_up (va_up (va_up (va_up (va_up T 11 (upd (T 11) (N 3) ves)) 12 (upd (T 12) (N 3) lim)) 13 (upd (T 13) (N 3) (zb hi))) 14 (upd (T 14) (N 3) v)) 15 (upd (T 15) (N 3) (zb op)))
def kIns (N : Nat → Nat) (pl : Int32) : Int32 := sK2 (sIn pl 0 (nI (N 4))) (!decide (N 4 = 40))
def sIns (f : Nat → Int32) (p n : Nat) (ch : Int32) : Nat → Int32 := fun j => if j = p then ch else if p < j ∧ j ≤ n then f (j - 1) else f j
def nIns (N : Nat → Nat) (T : Nat → Nat → Int32) (pl ch : Int32) : zS := (va_up N 4 (N 4 + 1), va_up T 17 (sIns (T 17) pl.toNatClampNeg (N 4) ch))
/-- the person that a text makes a task for: the last such place -/
def sCalls (t : Nat → Int32) (k : Nat) : Bool := decide (t k = 64) && (decide (48 ≤ t (k + 1)) && decide (t (k + 1) ≤ 56))
def sMeantTo (t : Nat → Int32) : Nat → Int32
  | 0 => -1
  | k + 1 => if sCalls t k then t (k + 1) - 48 else sMeantTo t k
def sMeant (t : Nat → Int32) (n : Nat) : Int32 := sMeantTo t (n - 1)
def kPost (N : Nat → Nat) (T : Nat → Nat → Int32) (p th : Int32) : Int32 := sK2 (sIx p 9 && (decide (th = -1) || sIx th (N 6))) ((decide (T 2 p.toNatClampNeg = 0) && sGood (T 17) (N 4)) && !decide (N 5 = 60))
def rPost (N : Nat → Nat) (th : Int32) : Int32 := if th = -1 then nI (N 6) else th
def sAssign (N : Nat → Nat) (T : Nat → Nat → Int32) (th who : Int32) : zS := if who = -1 then (N, T) else sNote N (va_up T 18 (upd (T 18) th.toNatClampNeg who)) 5 who th
def nPost0 (N : Nat → Nat) (T : Nat → Nat → Int32) (th : Int32) : zS :=
  (va_up (va_up (va_up (if th = -1 then va_up N 6 (N 6 + 1) else N) (20 + N 5) (N 4)) 5 (N 5 + 1)) 4 0, va_up (if th = -1 then va_up T 18 (upd (T 18) (N 6) (-1)) else T) (20 + N 5) (T 17))
def nPost (N : Nat → Nat) (T : Nat → Nat → Int32) (th : Int32) : zS := sAssign (nPost0 N T th).1 (nPost0 N T th).2 (rPost N th) (sMeant (T 17) (N 4))
def kFin (N : Nat → Nat) (T : Nat → Nat → Int32) (p th : Int32) : Int32 := sK2 (sIx p 9 && sIx th (N 6)) (decide (T 18 th.toNatClampNeg = p) && decide (T 2 p.toNatClampNeg = 0))
def nFin (N : Nat → Nat) (T : Nat → Nat → Int32) (p th : Int32) : zS := sNote N (va_up T 18 (upd (T 18) th.toNatClampNeg (-1))) 6 p th
/-- the signs of a text: how many in its first k characters, and each -/
def sPair (a b : Int32) : Int32 := 65536 + (a - 55296) * 1024 + b - 56320
def sLen (t : Nat → Int32) : Nat → Nat
  | 0 => 0
  | k + 1 => if sHi (t k) then sLen t k else sLen t k + 1
def sSgn (t : Nat → Int32) : Nat → Nat → Int32
  | 0 => fun _ => 0
  | k + 1 => if sHi (t k) then sSgn t k else upd (sSgn t k) (sLen t k) (if sW t k then sPair (t (k - 1)) (t k) else t k)
def rSigns (N : Nat → Nat) (T : Nat → Nat → Int32) (m : Nat) : Nat := sLen (T (20 + m)) (N (20 + m))
def kSignAt (N : Nat → Nat) (m pl : Int32) : Int32 := sK1 (sIx m (N 5) && decide (0 ≤ pl))
def rSignAt (N : Nat → Nat) (T : Nat → Nat → Int32) (m pl : Int32) (back : Bool) : Int32 :=
  if nI (rSigns N T m.toNatClampNeg) ≤ pl then -1 else sSgn (T (20 + m.toNatClampNeg)) (N (20 + m.toNatClampNeg)) (if back then rSigns N T m.toNatClampNeg - 1 - pl.toNatClampNeg else pl.toNatClampNeg)
/-- what the reference keeps beside (N, T) -/
def sPk (c : Nat → Int32) (n j : Nat) : Nat := (c (2 * j)).toNatClampNeg + if 2 * j + 1 < n then (c (2 * j + 1)).toNatClampNeg * 4294967296 else 0
def sRE (E : Nat → Int64) (c : Nat → Int32) (n : Nat) : Prop := (∀ k, k < n → ∃ x : Nat, x < 1073741824 ∧ c k = nI x) ∧ ∀ j, 2 * j < n → E j = lN (sPk c n j)
def sAG (N : Nat → Nat) (T : Nat → Nat → Int32) (ag : Nat → Int32) : Prop := ∀ t, t < N 2 → T 10 t = 0 → ag t = if T 9 t = -1 then 0 else (1 : Int32) <<< (T 9 t &&& 31)
def sSD (N : Nat → Nat) (T : Nat → Nat → Int32) (mn sd : Nat → Int32) : Prop := ∀ m, m < N 5 → mn m = nI (N (20 + m)) ∧ ∀ k, k < N (20 + m) → sd (40 * m + k) = T (20 + m) k
def sTK (N : Nat → Nat) (T : Nat → Nat → Int32) (tk : Nat → Int32) : Prop := ∀ t, t < N 6 → tk t = T 18 t
def sMR (N : Nat → Nat) (T : Nat → Nat → Int32) (E : Nat → Int64) (hg ag mn sd tk : Nat → Int32) : Prop := sRE E (T 0) (N 1) ∧ sHG N T hg ∧ sAG N T ag ∧ sSD N T mn sd ∧ sTK N T tk
def sMO (G : zG) (q : Nat → Nat) (th : Int32) (N : Nat → Nat) (T : Nat → Nat → Int32) (w : va_W) : Prop := ∃ (E : Nat → Int64) (hg ag mn sd tk : Nat → Int32) (sg : Int32) (sn : Nat → Int32), w = mW G q th N T E hg ag mn sd tk sg sn ∧ sMR N T E hg ag mn sd tk
/-- alarms that have answered -/
def sAns (T : Nat → Nat → Int32) (n : Nat) : Nat := sCnt (fun a => decide (T 16 a = 1)) n
/-- what holds of (N, T) whatever was called; K calls so far, a alarms watched in this hour -/
def sInv (N : Nat → Nat) (T : Nat → Nat → Int32) (K a : Nat) : Prop :=
  (N 0 ≤ 2000 ∧ N 2 ≤ 40 ∧ N 3 ≤ 10 ∧ N 4 ≤ 40 ∧ N 5 ≤ 60 ∧ N 6 ≤ N 5 ∧ N 1 + N 3 ≤ K + N 3 * N 0 + a + sAns T (N 3)) ∧
  (∀ i, (T 2 i = 0 ∨ T 2 i = 1) ∧ (T 3 i = 0 ∨ T 3 i = 1) ∧ (T 10 i = 0 ∨ T 10 i = 1) ∧ (T 13 i = 0 ∨ T 13 i = 1) ∧ (T 15 i = 0 ∨ T 15 i = 1)) ∧
  (∀ v, v < 8 → sEnd (T 4 v) = true ∧ sEnd (T 5 v) = true ∧ ¬ T 4 v = T 5 v) ∧
  (∀ t, t < N 2 → vp_in (T 7 t) 9 ∧ vp_in (T 8 t) 8 ∧ (T 9 t = -1 ∨ vp_in (T 9 t) 9)) ∧
  (∀ a, a < N 3 → vp_in (T 11 a) 3 ∧ vp_in (T 14 a) 8 ∧ (T 16 a = 0 ∨ T 16 a = 1 ∨ T 16 a = 2)) ∧ (∀ a, N 3 ≤ a → T 16 a = 0) ∧
  (∀ m, m < N 5 → N (20 + m) ≤ 40 ∧ sGood (T (20 + m)) (N (20 + m)) = true) ∧
  (∀ t, t < N 6 → T 18 t = -1 ∨ vp_in (T 18 t) 9) ∧ (∀ t, N 6 ≤ t → T 18 t = -1) ∧
  (∀ j, ∃ x : Nat, x < 65536 ∧ T 17 j = nI x)
end
section
set_option maxHeartbeats 4000000 in
set_option maxRecDepth 100000 in
theorem c_X7_in (l : Launch) (G : zG) (v lo hi : Int32)  : Met l yX7_in wsX7_in ({ frames := 0, cells := 0, slots := 0, locals := 0 }) (va_Pc [.int v, .int lo, .int hi] (zPp G ([] : va_W))) (zQi (fun r : Int32 => r = zb (sIn v lo hi))) 0 0 (fun _ => False) := by
  refine Met.ofW (cc := cX7_in) (maxL := 3) (ret := (some .boolean)) (by decide) rfl ?_
  intro p e s m args below meth c s₁ B hml hv
  obtain ⟨rfl, hP, hK⟩ := hv
  have hx := B.exec
  have hb := B.bytes
  have hr := B.returns
  have hts := atoms_spec (ws := wsX7_in) B.pre
  have hown : s.vm.findClass RX7 = some m.cls := findClass_of_methodNamed B.named
  have hlocks := B.notSynchronized
  have hl := lv_entry ([.int v, .int lo, .int hi]) (n := 3) (Nat.le_of_ble_eq_true rfl)
  rw [lg_entry_eq]
  generalize (lg_sl ([.int v, .int lo, .int hi]) ++ List.replicate (3 - (lg_sl ([.int v, .int lo, .int hi])).length) Slot.unset).toArray = ls at hl ⊢
  have hl : lv_has ls 3 [(0, .int v), (1, .int lo), (2, .int hi)] := hl
  refine lv_iload_n hx hb dX7_in_0 rfl (lv_at hl 0 rfl) ?_
  refine lv_iload_n hx hb dX7_in_1 rfl (lv_at hl 1 rfl) ?_
  refine lv_icmp_lt (tgt := 14) hx hb dX7_in_2 (by decide) (fun zc_1 => ?_) (fun zc_1 => ?_)
  · skip
    have zd_1 := Int32.not_le.mpr zc_1
    refine lv_iconst (v := 0) hx hb dX7_in_14 (by decide) ?_
    exact W.zret (v := 0) hx hb hr rfl (fun t ht hW => ⟨0, rfl, (by simp [sIn, zb, zc_1, zd_1]), ht⟩) (fun _ h => nomatch h) dX7_in_15
  · skip
    have zd_1 := Int32.not_lt.mp zc_1
    refine lv_iload_n hx hb dX7_in_5 rfl (lv_at hl 0 rfl) ?_
    refine lv_iload_n hx hb dX7_in_6 rfl (lv_at hl 2 rfl) ?_
    refine lv_icmp_gt (tgt := 14) hx hb dX7_in_7 (by decide) (fun zc_2 => ?_) (fun zc_2 => ?_)
    · skip
      have zd_2 := Int32.not_le.mpr zc_2
      refine lv_iconst (v := 0) hx hb dX7_in_14 (by decide) ?_
      exact W.zret (v := 0) hx hb hr rfl (fun t ht hW => ⟨0, rfl, (by simp [sIn, zb, zc_1, zd_1, zc_2, zd_2]), ht⟩) (fun _ h => nomatch h) dX7_in_15
    · skip
      have zd_2 := Int32.not_lt.mp zc_2
      refine lv_iconst (v := 1) hx hb dX7_in_10 (by decide) ?_
      refine lv_goto (tgt := 15) hx hb dX7_in_11 (by decide) ?_
      exact W.zret (v := 1) hx hb hr rfl (fun t ht hW => ⟨1, rfl, (by simp [sIn, zb, zc_1, zd_1, zc_2, zd_2]), ht⟩) (fun _ h => nomatch h) dX7_in_15

set_option maxHeartbeats 4000000 in
set_option maxRecDepth 100000 in
theorem c_X7_isPerson (l : Launch) (G : zG) (v : Int32)  : Met l yX7_isPerson wsX7_isPerson ({ frames := 1, cells := 0, slots := 0, locals := 22 }) (va_Pc [.int v] (zPp G ([] : va_W))) (zQi (fun r : Int32 => r = zb (sIx v 9))) 0 0 (fun _ => False) := by
  refine Met.ofW (cc := cX7_isPerson) (maxL := 1) (ret := (some .boolean)) (by decide) rfl ?_
  intro p e s m args below meth c s₁ B hml hv
  obtain ⟨rfl, hP, hK⟩ := hv
  have hx := B.exec
  have hb := B.bytes
  have hr := B.returns
  have hts := atoms_spec (ws := wsX7_isPerson) B.pre
  have hown : s.vm.findClass RX7 = some m.cls := findClass_of_methodNamed B.named
  have hlocks := B.notSynchronized
  have hl := lv_entry ([.int v]) (n := 1) (Nat.le_of_ble_eq_true rfl)
  rw [lg_entry_eq]
  generalize (lg_sl ([.int v]) ++ List.replicate (1 - (lg_sl ([.int v])).length) Slot.unset).toArray = ls at hl ⊢
  have hl : lv_has ls 1 [(0, .int v)] := hl
  refine lv_iload_n hx hb dX7_isPerson_0 rfl (lv_at hl 0 rfl) ?_
  refine lv_iconst (v := 0) hx hb dX7_isPerson_1 (by decide) ?_
  refine lv_bipush (v := 8) hx hb dX7_isPerson_2 (by decide) ?_
  refine z_csi (va_Run.run (va_runS (As := [.int v, .int 0, .int 8]) (rest := []) ⟨hx, hb, hml, hown, hts⟩ (c_X7_in l G v 0 8) (va_cwS 3 hts gX7_isPerson_X7_in rfl rfl rfl (by decide +kernel) ⟨Nat.le_of_ble_eq_true rfl, Nat.le_of_ble_eq_true rfl⟩) (z_ps hK z_none) rfl rfl hl.1 rfl (lv_room (Nat.le_of_ble_eq_true rfl)) dX7_isPerson_4 ⟨(Nat.zero_le _), (Nat.zero_le _)⟩)) (fun zr_1 hzr_1 => ?_)
  subst hzr_1
  exact W.zret (v := zb (sIn v 0 8)) hx hb hr (zn_zb _) (fun t ht hW => ⟨zb (sIn v 0 8), rfl, (by rw [sIn_8]), ht⟩) (fun _ h => nomatch h) dX7_isPerson_7

set_option maxHeartbeats 4000000 in
set_option maxRecDepth 100000 in
theorem c_X7_isValve (l : Launch) (G : zG) (v : Int32)  : Met l yX7_isValve wsX7_isValve ({ frames := 1, cells := 0, slots := 0, locals := 22 }) (va_Pc [.int v] (zPp G ([] : va_W))) (zQi (fun r : Int32 => r = zb (sIx v 8))) 0 0 (fun _ => False) := by
  refine Met.ofW (cc := cX7_isValve) (maxL := 1) (ret := (some .boolean)) (by decide) rfl ?_
  intro p e s m args below meth c s₁ B hml hv
  obtain ⟨rfl, hP, hK⟩ := hv
  have hx := B.exec
  have hb := B.bytes
  have hr := B.returns
  have hts := atoms_spec (ws := wsX7_isValve) B.pre
  have hown : s.vm.findClass RX7 = some m.cls := findClass_of_methodNamed B.named
  have hlocks := B.notSynchronized
  have hl := lv_entry ([.int v]) (n := 1) (Nat.le_of_ble_eq_true rfl)
  rw [lg_entry_eq]
  generalize (lg_sl ([.int v]) ++ List.replicate (1 - (lg_sl ([.int v])).length) Slot.unset).toArray = ls at hl ⊢
  have hl : lv_has ls 1 [(0, .int v)] := hl
  refine lv_iload_n hx hb dX7_isValve_0 rfl (lv_at hl 0 rfl) ?_
  refine lv_iconst (v := 0) hx hb dX7_isValve_1 (by decide) ?_
  refine lv_bipush (v := 7) hx hb dX7_isValve_2 (by decide) ?_
  refine z_csi (va_Run.run (va_runS (As := [.int v, .int 0, .int 7]) (rest := []) ⟨hx, hb, hml, hown, hts⟩ (c_X7_in l G v 0 7) (va_cwS 3 hts gX7_isValve_X7_in rfl rfl rfl (by decide +kernel) ⟨Nat.le_of_ble_eq_true rfl, Nat.le_of_ble_eq_true rfl⟩) (z_ps hK z_none) rfl rfl hl.1 rfl (lv_room (Nat.le_of_ble_eq_true rfl)) dX7_isValve_4 ⟨(Nat.zero_le _), (Nat.zero_le _)⟩)) (fun zr_1 hzr_1 => ?_)
  subst hzr_1
  exact W.zret (v := zb (sIn v 0 7)) hx hb hr (zn_zb _) (fun t ht hW => ⟨zb (sIn v 0 7), rfl, (by rw [sIn_7]), ht⟩) (fun _ h => nomatch h) dX7_isValve_7

set_option maxHeartbeats 4000000 in
set_option maxRecDepth 100000 in
theorem c_X7_isVessel (l : Launch) (G : zG) (v : Int32)  : Met l yX7_isVessel wsX7_isVessel ({ frames := 1, cells := 0, slots := 0, locals := 22 }) (va_Pc [.int v] (zPp G ([] : va_W))) (zQi (fun r : Int32 => r = zb (sIx v 3))) 0 0 (fun _ => False) := by
  refine Met.ofW (cc := cX7_isVessel) (maxL := 1) (ret := (some .boolean)) (by decide) rfl ?_
  intro p e s m args below meth c s₁ B hml hv
  obtain ⟨rfl, hP, hK⟩ := hv
  have hx := B.exec
  have hb := B.bytes
  have hr := B.returns
  have hts := atoms_spec (ws := wsX7_isVessel) B.pre
  have hown : s.vm.findClass RX7 = some m.cls := findClass_of_methodNamed B.named
  have hlocks := B.notSynchronized
  have hl := lv_entry ([.int v]) (n := 1) (Nat.le_of_ble_eq_true rfl)
  rw [lg_entry_eq]
  generalize (lg_sl ([.int v]) ++ List.replicate (1 - (lg_sl ([.int v])).length) Slot.unset).toArray = ls at hl ⊢
  have hl : lv_has ls 1 [(0, .int v)] := hl
  refine lv_iload_n hx hb dX7_isVessel_0 rfl (lv_at hl 0 rfl) ?_
  refine lv_iconst (v := 0) hx hb dX7_isVessel_1 (by decide) ?_
  refine lv_iconst (v := 2) hx hb dX7_isVessel_2 (by decide) ?_
  refine z_csi (va_Run.run (va_runS (As := [.int v, .int 0, .int 2]) (rest := []) ⟨hx, hb, hml, hown, hts⟩ (c_X7_in l G v 0 2) (va_cwS 3 hts gX7_isVessel_X7_in rfl rfl rfl (by decide +kernel) ⟨Nat.le_of_ble_eq_true rfl, Nat.le_of_ble_eq_true rfl⟩) (z_ps hK z_none) rfl rfl hl.1 rfl (lv_room (Nat.le_of_ble_eq_true rfl)) dX7_isVessel_3 ⟨(Nat.zero_le _), (Nat.zero_le _)⟩)) (fun zr_1 hzr_1 => ?_)
  subst hzr_1
  exact W.zret (v := zb (sIn v 0 2)) hx hb hr (zn_zb _) (fun t ht hW => ⟨zb (sIn v 0 2), rfl, (by rw [sIn_2]), ht⟩) (fun _ h => nomatch h) dX7_isVessel_6

set_option maxHeartbeats 4000000 in
set_option maxRecDepth 100000 in
theorem c_X7_isHighOne (l : Launch) (G : zG) (v : Int32)  : Met l yX7_isHighOne wsX7_isHighOne ({ frames := 0, cells := 0, slots := 0, locals := 0 }) (va_Pc [.int v] (zPp G ([] : va_W))) (zQi (fun r : Int32 => r = zb (sHi v))) 0 0 (fun _ => False) := by
  refine Met.ofW (cc := cX7_isHighOne) (maxL := 1) (ret := (some .boolean)) (by decide) rfl ?_
  intro p e s m args below meth c s₁ B hml hv
  obtain ⟨rfl, hP, hK⟩ := hv
  have hx := B.exec
  have hb := B.bytes
  have hr := B.returns
  have hts := atoms_spec (ws := wsX7_isHighOne) B.pre
  have hown : s.vm.findClass RX7 = some m.cls := findClass_of_methodNamed B.named
  have hlocks := B.notSynchronized
  have hl := lv_entry ([.int v]) (n := 1) (Nat.le_of_ble_eq_true rfl)
  rw [lg_entry_eq]
  generalize (lg_sl ([.int v]) ++ List.replicate (1 - (lg_sl ([.int v])).length) Slot.unset).toArray = ls at hl ⊢
  have hl : lv_has ls 1 [(0, .int v)] := hl
  refine lv_iload_n hx hb dX7_isHighOne_0 rfl (lv_at hl 0 rfl) ?_
  refine lv_ldc (v := 55296) hx hb hown (hts _ (List.mem_of_getElem? (i := 1) rfl)) dX7_isHighOne_1 ?_
  refine lv_icmp_lt (tgt := 16) hx hb dX7_isHighOne_3 (by decide) (fun zc_1 => ?_) (fun zc_1 => ?_)
  · skip
    have zd_1 := Int32.not_le.mpr zc_1
    refine lv_iconst (v := 0) hx hb dX7_isHighOne_16 (by decide) ?_
    exact W.zret (v := 0) hx hb hr rfl (fun t ht hW => ⟨0, rfl, (by simp [sHi, zb, zc_1, zd_1]), ht⟩) (fun _ h => nomatch h) dX7_isHighOne_17
  · skip
    have zd_1 := Int32.not_lt.mp zc_1
    refine lv_iload_n hx hb dX7_isHighOne_6 rfl (lv_at hl 0 rfl) ?_
    refine lv_ldc (v := 56319) hx hb hown (hts _ (List.mem_of_getElem? (i := 2) rfl)) dX7_isHighOne_7 ?_
    refine lv_icmp_gt (tgt := 16) hx hb dX7_isHighOne_9 (by decide) (fun zc_2 => ?_) (fun zc_2 => ?_)
    · skip
      have zd_2 := Int32.not_le.mpr zc_2
      refine lv_iconst (v := 0) hx hb dX7_isHighOne_16 (by decide) ?_
      exact W.zret (v := 0) hx hb hr rfl (fun t ht hW => ⟨0, rfl, (by simp [sHi, zb, zc_1, zd_1, zc_2, zd_2]), ht⟩) (fun _ h => nomatch h) dX7_isHighOne_17
    · skip
      have zd_2 := Int32.not_lt.mp zc_2
      refine lv_iconst (v := 1) hx hb dX7_isHighOne_12 (by decide) ?_
      refine lv_goto (tgt := 17) hx hb dX7_isHighOne_13 (by decide) ?_
      exact W.zret (v := 1) hx hb hr rfl (fun t ht hW => ⟨1, rfl, (by simp [sHi, zb, zc_1, zd_1, zc_2, zd_2]), ht⟩) (fun _ h => nomatch h) dX7_isHighOne_17

set_option maxHeartbeats 4000000 in
set_option maxRecDepth 100000 in
theorem c_X7_isLowOne (l : Launch) (G : zG) (v : Int32)  : Met l yX7_isLowOne wsX7_isLowOne ({ frames := 0, cells := 0, slots := 0, locals := 0 }) (va_Pc [.int v] (zPp G ([] : va_W))) (zQi (fun r : Int32 => r = zb (sLo v))) 0 0 (fun _ => False) := by
  refine Met.ofW (cc := cX7_isLowOne) (maxL := 1) (ret := (some .boolean)) (by decide) rfl ?_
  intro p e s m args below meth c s₁ B hml hv
  obtain ⟨rfl, hP, hK⟩ := hv
  have hx := B.exec
  have hb := B.bytes
  have hr := B.returns
  have hts := atoms_spec (ws := wsX7_isLowOne) B.pre
  have hown : s.vm.findClass RX7 = some m.cls := findClass_of_methodNamed B.named
  have hlocks := B.notSynchronized
  have hl := lv_entry ([.int v]) (n := 1) (Nat.le_of_ble_eq_true rfl)
  rw [lg_entry_eq]
  generalize (lg_sl ([.int v]) ++ List.replicate (1 - (lg_sl ([.int v])).length) Slot.unset).toArray = ls at hl ⊢
  have hl : lv_has ls 1 [(0, .int v)] := hl
  refine lv_iload_n hx hb dX7_isLowOne_0 rfl (lv_at hl 0 rfl) ?_
  refine lv_ldc (v := 56320) hx hb hown (hts _ (List.mem_of_getElem? (i := 1) rfl)) dX7_isLowOne_1 ?_
  refine lv_icmp_lt (tgt := 16) hx hb dX7_isLowOne_3 (by decide) (fun zc_1 => ?_) (fun zc_1 => ?_)
  · skip
    have zd_1 := Int32.not_le.mpr zc_1
    refine lv_iconst (v := 0) hx hb dX7_isLowOne_16 (by decide) ?_
    exact W.zret (v := 0) hx hb hr rfl (fun t ht hW => ⟨0, rfl, (by simp [sLo, zb, zc_1, zd_1]), ht⟩) (fun _ h => nomatch h) dX7_isLowOne_17
  · skip
    have zd_1 := Int32.not_lt.mp zc_1
    refine lv_iload_n hx hb dX7_isLowOne_6 rfl (lv_at hl 0 rfl) ?_
    refine lv_ldc (v := 57343) hx hb hown (hts _ (List.mem_of_getElem? (i := 2) rfl)) dX7_isLowOne_7 ?_
    refine lv_icmp_gt (tgt := 16) hx hb dX7_isLowOne_9 (by decide) (fun zc_2 => ?_) (fun zc_2 => ?_)
    · skip
      have zd_2 := Int32.not_le.mpr zc_2
      refine lv_iconst (v := 0) hx hb dX7_isLowOne_16 (by decide) ?_
      exact W.zret (v := 0) hx hb hr rfl (fun t ht hW => ⟨0, rfl, (by simp [sLo, zb, zc_1, zd_1, zc_2, zd_2]), ht⟩) (fun _ h => nomatch h) dX7_isLowOne_17
    · skip
      have zd_2 := Int32.not_lt.mp zc_2
      refine lv_iconst (v := 1) hx hb dX7_isLowOne_12 (by decide) ?_
      refine lv_goto (tgt := 17) hx hb dX7_isLowOne_13 (by decide) ?_
      exact W.zret (v := 1) hx hb hr rfl (fun t ht hW => ⟨1, rfl, (by simp [sLo, zb, zc_1, zd_1, zc_2, zd_2]), ht⟩) (fun _ h => nomatch h) dX7_isLowOne_17

set_option maxHeartbeats 4000000 in
set_option maxRecDepth 100000 in
theorem c_X7_isTag (l : Launch) (G : zG) (q : Nat → Nat) (th : Int32) (N : Nat → Nat) (T : Nat → Nat → Int32) (E : Nat → Int64) (hg ag mn sd tk : Nat → Int32) (sg : Int32) (sn : Nat → Int32) (a1 : Int32) (hn2 : N 2 < 2 ^ 31) : Met l yX7_isTag wsX7_isTag ({ frames := 1, cells := 0, slots := 0, locals := 22 }) (va_Pc [.ref (q 0), .int a1] (zPp G (mW G q th N T E hg ag mn sd tk sg sn))) (zQi (fun r : Int32 => r = zb (sIx a1 (N 2)))) 0 0 (fun _ => False) := by
  refine Met.ofW (cc := cX7_isTag) (maxL := 2) (ret := (some .boolean)) (by decide) rfl ?_
  intro p e s m args below meth c s₁ B hml hv
  obtain ⟨rfl, hP, hK⟩ := hv
  have hx := B.exec
  have hb := B.bytes
  have hr := B.returns
  have hts := atoms_spec (ws := wsX7_isTag) B.pre
  have hown : s.vm.findClass RX7 = some m.cls := findClass_of_methodNamed B.named
  have hlocks := B.notSynchronized
  have hi_X7 : ∀ w ∈ u_ws RX7 TX7 32, w ∈ wsX7_isTag := (fun _ h => List.mem_cons_of_mem _ (List.mem_append_right _ h))
  have hP : va_P G.1 vwCl [(q 0, .inr (8, [.int th, .int (nI (N 0)), .int (nI (N 1)), .ref (q 1), .int (T 19 0), .ref (q 2), .ref (q 3), .ref (q 4), .ref (q 5), .ref (q 6), .ref (q 7), .int (T 19 1), .int (nI (N 2)), .ref (q 8), .ref (q 9), .ref (q 10), .int (nI (N 3)), .ref (q 11), .ref (q 12), .ref (q 13), .ref (q 14), .ref (q 15), .ref (q 16), .int (nI (N 4)), .ref (q 17), .int (nI (N 5)), .ref (q 18), .ref (q 19), .int (nI (N 6)), .ref (q 20), .int sg, .ref (q 21)])), (q 1, .inl (G.2 1, 12500, .inr (.inl E))), (q 2, .inl (G.2 0, 9, .inl (T 1))), (q 3, .inl (G.2 2, 9, .inl (T 2))), (q 4, .inl (G.2 2, 8, .inl (T 3))), (q 5, .inl (G.2 0, 8, .inl (T 4))), (q 6, .inl (G.2 0, 8, .inl (T 5))), (q 7, .inl (G.2 0, 3, .inl (T 6))), (q 8, .inl (G.2 0, 40, .inl hg)), (q 9, .inl (G.2 0, 40, .inl (T 7))), (q 10, .inl (G.2 0, 40, .inl ag)), (q 11, .inl (G.2 0, 10, .inl (T 11))), (q 12, .inl (G.2 0, 10, .inl (T 12))), (q 13, .inl (G.2 2, 10, .inl (T 13))), (q 14, .inl (G.2 0, 10, .inl (T 14))), (q 15, .inl (G.2 2, 10, .inl (T 15))), (q 16, .inl (G.2 0, 10, .inl (T 16))), (q 17, .inl (G.2 3, 40, .inl (T 17))), (q 18, .inl (G.2 0, 60, .inl mn)), (q 19, .inl (G.2 3, 2400, .inl sd)), (q 20, .inl (G.2 0, 60, .inl tk)), (q 21, .inl (G.2 0, 40, .inl sn))] s.heap := hP
  have hl := lv_entry ([.ref (q 0), .int a1]) (n := 2) (Nat.le_of_ble_eq_true rfl)
  rw [lg_entry_eq]
  generalize (lg_sl ([.ref (q 0), .int a1]) ++ List.replicate (2 - (lg_sl ([.ref (q 0), .int a1])).length) Slot.unset).toArray = ls at hl ⊢
  have hl : lv_has ls 2 [(0, .ref (q 0)), (1, .int a1)] := hl
  refine lv_iload_n hx hb dX7_isTag_0 rfl (lv_at hl 1 rfl) ?_
  refine lv_iconst (v := 0) hx hb dX7_isTag_1 (by decide) ?_
  refine lv_aload_n hx hb dX7_isTag_2 rfl (lv_at hl 0 rfl) ?_
  refine va_get (D := G.1) (ci := 8) (v := .int (nI (N 2))) (C := RX7) (T := TX7) (N := 32) hx hb hts hi_X7 hown hK hP 0 rfl rfl 12 (by decide) (hts (.fieldLink RX7 84 "BoilerLogModel" "tags" "I") (List.mem_of_getElem? (i := 1) rfl)) (fun _ h9 => h9) rfl dX7_isTag_3 ?_
  refine lv_iconst (v := 1) hx hb dX7_isTag_6 (by decide) ?_
  refine lv_isub hx hb dX7_isTag_7 ?_
  refine z_csi (va_Run.run (va_runS (As := [.int a1, .int 0, .int ((nI (N 2)) - 1)]) (rest := []) ⟨hx, hb, hml, hown, hts⟩ (c_X7_in l G a1 0 ((nI (N 2)) - 1)) (va_cwS 3 hts gX7_isTag_X7_in rfl rfl rfl (by decide +kernel) ⟨Nat.le_of_ble_eq_true rfl, Nat.le_of_ble_eq_true rfl⟩) (z_ps hK z_none) rfl rfl hl.1 rfl (lv_room (Nat.le_of_ble_eq_true rfl)) dX7_isTag_8 ⟨(Nat.zero_le _), (Nat.zero_le _)⟩)) (fun zr_1 hzr_1 => ?_)
  subst hzr_1
  exact W.zret (v := zb (sIn a1 0 ((nI (N 2)) - 1))) hx hb hr (zn_zb _) (fun t ht hW => ⟨zb (sIn a1 0 ((nI (N 2)) - 1)), rfl, (by rw [sIn_ix hn2]), ht⟩) (fun _ h => nomatch h) dX7_isTag_11

set_option maxHeartbeats 4000000 in
set_option maxRecDepth 100000 in
theorem c_X7_isThread (l : Launch) (G : zG) (q : Nat → Nat) (th : Int32) (N : Nat → Nat) (T : Nat → Nat → Int32) (E : Nat → Int64) (hg ag mn sd tk : Nat → Int32) (sg : Int32) (sn : Nat → Int32) (a1 : Int32) (hn6 : N 6 < 2 ^ 31) : Met l yX7_isThread wsX7_isThread ({ frames := 1, cells := 0, slots := 0, locals := 22 }) (va_Pc [.ref (q 0), .int a1] (zPp G (mW G q th N T E hg ag mn sd tk sg sn))) (zQi (fun r : Int32 => r = zb (sIx a1 (N 6)))) 0 0 (fun _ => False) := by
  refine Met.ofW (cc := cX7_isThread) (maxL := 2) (ret := (some .boolean)) (by decide) rfl ?_
  intro p e s m args below meth c s₁ B hml hv
  obtain ⟨rfl, hP, hK⟩ := hv
  have hx := B.exec
  have hb := B.bytes
  have hr := B.returns
  have hts := atoms_spec (ws := wsX7_isThread) B.pre
  have hown : s.vm.findClass RX7 = some m.cls := findClass_of_methodNamed B.named
  have hlocks := B.notSynchronized
  have hi_X7 : ∀ w ∈ u_ws RX7 TX7 32, w ∈ wsX7_isThread := (fun _ h => List.mem_cons_of_mem _ (List.mem_append_right _ h))
  have hP : va_P G.1 vwCl [(q 0, .inr (8, [.int th, .int (nI (N 0)), .int (nI (N 1)), .ref (q 1), .int (T 19 0), .ref (q 2), .ref (q 3), .ref (q 4), .ref (q 5), .ref (q 6), .ref (q 7), .int (T 19 1), .int (nI (N 2)), .ref (q 8), .ref (q 9), .ref (q 10), .int (nI (N 3)), .ref (q 11), .ref (q 12), .ref (q 13), .ref (q 14), .ref (q 15), .ref (q 16), .int (nI (N 4)), .ref (q 17), .int (nI (N 5)), .ref (q 18), .ref (q 19), .int (nI (N 6)), .ref (q 20), .int sg, .ref (q 21)])), (q 1, .inl (G.2 1, 12500, .inr (.inl E))), (q 2, .inl (G.2 0, 9, .inl (T 1))), (q 3, .inl (G.2 2, 9, .inl (T 2))), (q 4, .inl (G.2 2, 8, .inl (T 3))), (q 5, .inl (G.2 0, 8, .inl (T 4))), (q 6, .inl (G.2 0, 8, .inl (T 5))), (q 7, .inl (G.2 0, 3, .inl (T 6))), (q 8, .inl (G.2 0, 40, .inl hg)), (q 9, .inl (G.2 0, 40, .inl (T 7))), (q 10, .inl (G.2 0, 40, .inl ag)), (q 11, .inl (G.2 0, 10, .inl (T 11))), (q 12, .inl (G.2 0, 10, .inl (T 12))), (q 13, .inl (G.2 2, 10, .inl (T 13))), (q 14, .inl (G.2 0, 10, .inl (T 14))), (q 15, .inl (G.2 2, 10, .inl (T 15))), (q 16, .inl (G.2 0, 10, .inl (T 16))), (q 17, .inl (G.2 3, 40, .inl (T 17))), (q 18, .inl (G.2 0, 60, .inl mn)), (q 19, .inl (G.2 3, 2400, .inl sd)), (q 20, .inl (G.2 0, 60, .inl tk)), (q 21, .inl (G.2 0, 40, .inl sn))] s.heap := hP
  have hl := lv_entry ([.ref (q 0), .int a1]) (n := 2) (Nat.le_of_ble_eq_true rfl)
  rw [lg_entry_eq]
  generalize (lg_sl ([.ref (q 0), .int a1]) ++ List.replicate (2 - (lg_sl ([.ref (q 0), .int a1])).length) Slot.unset).toArray = ls at hl ⊢
  have hl : lv_has ls 2 [(0, .ref (q 0)), (1, .int a1)] := hl
  refine lv_iload_n hx hb dX7_isThread_0 rfl (lv_at hl 1 rfl) ?_
  refine lv_iconst (v := 0) hx hb dX7_isThread_1 (by decide) ?_
  refine lv_aload_n hx hb dX7_isThread_2 rfl (lv_at hl 0 rfl) ?_
  refine va_get (D := G.1) (ci := 8) (v := .int (nI (N 6))) (C := RX7) (T := TX7) (N := 32) hx hb hts hi_X7 hown hK hP 0 rfl rfl 28 (by decide) (hts (.fieldLink RX7 173 "BoilerLogModel" "threads" "I") (List.mem_of_getElem? (i := 1) rfl)) (fun _ h9 => h9) rfl dX7_isThread_3 ?_
  refine lv_iconst (v := 1) hx hb dX7_isThread_6 (by decide) ?_
  refine lv_isub hx hb dX7_isThread_7 ?_
  refine z_csi (va_Run.run (va_runS (As := [.int a1, .int 0, .int ((nI (N 6)) - 1)]) (rest := []) ⟨hx, hb, hml, hown, hts⟩ (c_X7_in l G a1 0 ((nI (N 6)) - 1)) (va_cwS 3 hts gX7_isThread_X7_in rfl rfl rfl (by decide +kernel) ⟨Nat.le_of_ble_eq_true rfl, Nat.le_of_ble_eq_true rfl⟩) (z_ps hK z_none) rfl rfl hl.1 rfl (lv_room (Nat.le_of_ble_eq_true rfl)) dX7_isThread_8 ⟨(Nat.zero_le _), (Nat.zero_le _)⟩)) (fun zr_1 hzr_1 => ?_)
  subst hzr_1
  exact W.zret (v := zb (sIn a1 0 ((nI (N 6)) - 1))) hx hb hr (zn_zb _) (fun t ht hW => ⟨zb (sIn a1 0 ((nI (N 6)) - 1)), rfl, (by rw [sIn_ix hn6]), ht⟩) (fun _ h => nomatch h) dX7_isThread_11

set_option maxHeartbeats 4000000 in
set_option maxRecDepth 100000 in
theorem c_X7_isOnDuty (l : Launch) (G : zG) (q : Nat → Nat) (th : Int32) (N : Nat → Nat) (T : Nat → Nat → Int32) (E : Nat → Int64) (hg ag mn sd tk : Nat → Int32) (sg : Int32) (sn : Nat → Int32) (a1 : Int32) (hp : vp_in a1 9) : Met l yX7_isOnDuty wsX7_isOnDuty ({ frames := 0, cells := 0, slots := 0, locals := 0 }) (va_Pc [.ref (q 0), .int a1] (zPp G (mW G q th N T E hg ag mn sd tk sg sn))) (zQi (fun r : Int32 => r = zb (sDuty N T a1))) 0 0 (fun _ => False) := by
  refine Met.ofW (cc := cX7_isOnDuty) (maxL := 2) (ret := (some .boolean)) (by decide) rfl ?_
  intro p e s m args below meth c s₁ B hml hv
  obtain ⟨rfl, hP, hK⟩ := hv
  have hx := B.exec
  have hb := B.bytes
  have hr := B.returns
  have hts := atoms_spec (ws := wsX7_isOnDuty) B.pre
  have hown : s.vm.findClass RX7 = some m.cls := findClass_of_methodNamed B.named
  have hlocks := B.notSynchronized
  have hi_X7 : ∀ w ∈ u_ws RX7 TX7 32, w ∈ wsX7_isOnDuty := (fun _ h => List.mem_cons_of_mem _ (List.mem_append_right _ h))
  have hP : va_P G.1 vwCl [(q 0, .inr (8, [.int th, .int (nI (N 0)), .int (nI (N 1)), .ref (q 1), .int (T 19 0), .ref (q 2), .ref (q 3), .ref (q 4), .ref (q 5), .ref (q 6), .ref (q 7), .int (T 19 1), .int (nI (N 2)), .ref (q 8), .ref (q 9), .ref (q 10), .int (nI (N 3)), .ref (q 11), .ref (q 12), .ref (q 13), .ref (q 14), .ref (q 15), .ref (q 16), .int (nI (N 4)), .ref (q 17), .int (nI (N 5)), .ref (q 18), .ref (q 19), .int (nI (N 6)), .ref (q 20), .int sg, .ref (q 21)])), (q 1, .inl (G.2 1, 12500, .inr (.inl E))), (q 2, .inl (G.2 0, 9, .inl (T 1))), (q 3, .inl (G.2 2, 9, .inl (T 2))), (q 4, .inl (G.2 2, 8, .inl (T 3))), (q 5, .inl (G.2 0, 8, .inl (T 4))), (q 6, .inl (G.2 0, 8, .inl (T 5))), (q 7, .inl (G.2 0, 3, .inl (T 6))), (q 8, .inl (G.2 0, 40, .inl hg)), (q 9, .inl (G.2 0, 40, .inl (T 7))), (q 10, .inl (G.2 0, 40, .inl ag)), (q 11, .inl (G.2 0, 10, .inl (T 11))), (q 12, .inl (G.2 0, 10, .inl (T 12))), (q 13, .inl (G.2 2, 10, .inl (T 13))), (q 14, .inl (G.2 0, 10, .inl (T 14))), (q 15, .inl (G.2 2, 10, .inl (T 15))), (q 16, .inl (G.2 0, 10, .inl (T 16))), (q 17, .inl (G.2 3, 40, .inl (T 17))), (q 18, .inl (G.2 0, 60, .inl mn)), (q 19, .inl (G.2 3, 2400, .inl sd)), (q 20, .inl (G.2 0, 60, .inl tk)), (q 21, .inl (G.2 0, 40, .inl sn))] s.heap := hP
  have hl := lv_entry ([.ref (q 0), .int a1]) (n := 2) (Nat.le_of_ble_eq_true rfl)
  rw [lg_entry_eq]
  generalize (lg_sl ([.ref (q 0), .int a1]) ++ List.replicate (2 - (lg_sl ([.ref (q 0), .int a1])).length) Slot.unset).toArray = ls at hl ⊢
  have hl : lv_has ls 2 [(0, .ref (q 0)), (1, .int a1)] := hl
  refine lv_aload_n hx hb dX7_isOnDuty_0 rfl (lv_at hl 0 rfl) ?_
  refine va_get (D := G.1) (ci := 8) (v := .ref (q 3)) (C := RX7) (T := TX7) (N := 32) hx hb hts hi_X7 hown hK hP 0 rfl rfl 6 (by decide) (hts (.fieldLink RX7 17 "BoilerLogModel" "hasLeft" "[Z") (List.mem_of_getElem? (i := 1) rfl)) (fun _ h9 => h9) rfl dX7_isOnDuty_1 ?_
  refine lv_iload_n hx hb dX7_isOnDuty_4 rfl (lv_at hl 1 rfl) ?_
  refine va_zald hx hb hK hP 3 2 rfl rfl (by assumption) dX7_isOnDuty_5 ?_
  refine lv_if_ne (tgt := 28) hx hb dX7_isOnDuty_6 (by decide) (fun zc_1 => ?_) (fun zc_1 => ?_)
  · skip
    refine lv_iconst (v := 0) hx hb dX7_isOnDuty_28 (by decide) ?_
    exact W.zret (v := 0) hx hb hr rfl (fun t ht hW => ⟨0, rfl, (by simp [sDuty, zb, zc_1]), ht⟩) (fun _ h => nomatch h) dX7_isOnDuty_29
  · skip
    refine lv_iload_n hx hb dX7_isOnDuty_9 rfl (lv_at hl 1 rfl) ?_
    refine lv_iconst (v := 3) hx hb dX7_isOnDuty_10 (by decide) ?_
    refine lv_irem hx hb dX7_isOnDuty_11 (by decide) ?_
    refine lv_aload_n hx hb dX7_isOnDuty_12 rfl (lv_at hl 0 rfl) ?_
    refine va_get (D := G.1) (ci := 8) (v := .int (nI (N 0))) (C := RX7) (T := TX7) (N := 32) hx hb hts hi_X7 hown hK hP 0 rfl rfl 1 (by decide) (hts (.fieldLink RX7 89 "BoilerLogModel" "hour" "I") (List.mem_of_getElem? (i := 2) rfl)) (fun _ h9 => h9) rfl dX7_isOnDuty_13 ?_
    refine lv_bipush (v := 8) hx hb dX7_isOnDuty_16 (by decide) ?_
    refine lv_idiv hx hb dX7_isOnDuty_18 (by decide) ?_
    refine lv_iconst (v := 3) hx hb dX7_isOnDuty_19 (by decide) ?_
    refine lv_irem hx hb dX7_isOnDuty_20 (by decide) ?_
    refine lv_icmp_ne (tgt := 28) hx hb dX7_isOnDuty_21 (by decide) (fun zc_2 => ?_) (fun zc_2 => ?_)
    · skip
      refine lv_iconst (v := 0) hx hb dX7_isOnDuty_28 (by decide) ?_
      exact W.zret (v := 0) hx hb hr rfl (fun t ht hW => ⟨0, rfl, (by simp [sDuty, zb, zc_1, zc_2]), ht⟩) (fun _ h => nomatch h) dX7_isOnDuty_29
    · skip
      refine lv_iconst (v := 1) hx hb dX7_isOnDuty_24 (by decide) ?_
      refine lv_goto (tgt := 29) hx hb dX7_isOnDuty_25 (by decide) ?_
      exact W.zret (v := 1) hx hb hr rfl (fun t ht hW => ⟨1, rfl, (by simp [sDuty, zb, zc_1, zc_2]), ht⟩) (fun _ h => nomatch h) dX7_isOnDuty_29

set_option maxHeartbeats 4000000 in
set_option maxRecDepth 100000 in
theorem c_X7_may (l : Launch) (G : zG) (q : Nat → Nat) (th : Int32) (N : Nat → Nat) (T : Nat → Nat → Int32) (E : Nat → Int64) (hg ag mn sd tk : Nat → Int32) (sg : Int32) (sn : Nat → Int32) (a1 : Int32) (hp : vp_in a1 9) : Met l yX7_may wsX7_may ({ frames := 1, cells := 0, slots := 0, locals := 21 }) (va_Pc [.ref (q 0), .int a1] (zPp G (mW G q th N T E hg ag mn sd tk sg sn))) (zQi (fun r : Int32 => r = zb (sMay N T a1))) 0 0 (fun _ => False) := by
  refine Met.ofW (cc := cX7_may) (maxL := 2) (ret := (some .boolean)) (by decide) rfl ?_
  intro p e s m args below meth c s₁ B hml hv
  obtain ⟨rfl, hP, hK⟩ := hv
  have hx := B.exec
  have hb := B.bytes
  have hr := B.returns
  have hts := atoms_spec (ws := wsX7_may) B.pre
  have hown : s.vm.findClass RX7 = some m.cls := findClass_of_methodNamed B.named
  have hlocks := B.notSynchronized
  have hi_X7 : ∀ w ∈ u_ws RX7 TX7 32, w ∈ wsX7_may := (fun _ h => List.mem_cons_of_mem _ (List.mem_append_right _ h))
  have hP : va_P G.1 vwCl [(q 0, .inr (8, [.int th, .int (nI (N 0)), .int (nI (N 1)), .ref (q 1), .int (T 19 0), .ref (q 2), .ref (q 3), .ref (q 4), .ref (q 5), .ref (q 6), .ref (q 7), .int (T 19 1), .int (nI (N 2)), .ref (q 8), .ref (q 9), .ref (q 10), .int (nI (N 3)), .ref (q 11), .ref (q 12), .ref (q 13), .ref (q 14), .ref (q 15), .ref (q 16), .int (nI (N 4)), .ref (q 17), .int (nI (N 5)), .ref (q 18), .ref (q 19), .int (nI (N 6)), .ref (q 20), .int sg, .ref (q 21)])), (q 1, .inl (G.2 1, 12500, .inr (.inl E))), (q 2, .inl (G.2 0, 9, .inl (T 1))), (q 3, .inl (G.2 2, 9, .inl (T 2))), (q 4, .inl (G.2 2, 8, .inl (T 3))), (q 5, .inl (G.2 0, 8, .inl (T 4))), (q 6, .inl (G.2 0, 8, .inl (T 5))), (q 7, .inl (G.2 0, 3, .inl (T 6))), (q 8, .inl (G.2 0, 40, .inl hg)), (q 9, .inl (G.2 0, 40, .inl (T 7))), (q 10, .inl (G.2 0, 40, .inl ag)), (q 11, .inl (G.2 0, 10, .inl (T 11))), (q 12, .inl (G.2 0, 10, .inl (T 12))), (q 13, .inl (G.2 2, 10, .inl (T 13))), (q 14, .inl (G.2 0, 10, .inl (T 14))), (q 15, .inl (G.2 2, 10, .inl (T 15))), (q 16, .inl (G.2 0, 10, .inl (T 16))), (q 17, .inl (G.2 3, 40, .inl (T 17))), (q 18, .inl (G.2 0, 60, .inl mn)), (q 19, .inl (G.2 3, 2400, .inl sd)), (q 20, .inl (G.2 0, 60, .inl tk)), (q 21, .inl (G.2 0, 40, .inl sn))] s.heap := hP
  have hl := lv_entry ([.ref (q 0), .int a1]) (n := 2) (Nat.le_of_ble_eq_true rfl)
  rw [lg_entry_eq]
  generalize (lg_sl ([.ref (q 0), .int a1]) ++ List.replicate (2 - (lg_sl ([.ref (q 0), .int a1])).length) Slot.unset).toArray = ls at hl ⊢
  have hl : lv_has ls 2 [(0, .ref (q 0)), (1, .int a1)] := hl
  refine lv_aload_n hx hb dX7_may_0 rfl (lv_at hl 0 rfl) ?_
  refine lv_iload_n hx hb dX7_may_1 rfl (lv_at hl 1 rfl) ?_
  refine z_csi (va_Run.run (va_runV (As := [.int a1]) (rest := []) ⟨hx, hb, hml, hown, hts⟩ (c_X7_isOnDuty l G q th N T E hg ag mn sd tk sg sn a1 (by assumption)) (cwV 1 hts gX7_may_X7_isOnDuty rfl rfl rfl (by decide +kernel) ⟨Nat.le_of_ble_eq_true rfl, Nat.le_of_ble_eq_true rfl⟩) (z_pv hK hP (ci := 8) (q0 := 0) rfl rfl hP) rfl rfl hl.1 rfl (lv_room (Nat.le_of_ble_eq_true rfl)) dX7_may_2 ⟨(Nat.zero_le _), (Nat.zero_le _)⟩)) (fun zr_1 hzr_1 => ?_)
  subst hzr_1
  refine lv_if_eq (tgt := 25) hx hb dX7_may_5 (by decide) (fun zc_2 => ?_) (fun zc_2 => ?_)
  · skip
    have zc_2 := zb_0.mp zc_2
    refine lv_iconst (v := 0) hx hb dX7_may_25 (by decide) ?_
    exact W.zret (v := 0) hx hb hr rfl (fun t ht hW => ⟨0, rfl, (by simp [sMay, zb, zc_2]), ht⟩) (fun _ h => nomatch h) dX7_may_26
  · skip
    have zc_2 := zb_n0 zc_2
    refine lv_aload_n hx hb dX7_may_8 rfl (lv_at hl 0 rfl) ?_
    refine va_get (D := G.1) (ci := 8) (v := .ref (q 2)) (C := RX7) (T := TX7) (N := 32) hx hb hts hi_X7 hown hK hP 0 rfl rfl 5 (by decide) (hts (.fieldLink RX7 13 "BoilerLogModel" "hasRead" "[I") (List.mem_of_getElem? (i := 1) rfl)) (fun _ h9 => h9) rfl dX7_may_9 ?_
    refine lv_iload_n hx hb dX7_may_12 rfl (lv_at hl 1 rfl) ?_
    refine va_iald hx hb hK hP 2 0 rfl rfl (by assumption) dX7_may_13 ?_
    refine lv_aload_n hx hb dX7_may_14 rfl (lv_at hl 0 rfl) ?_
    refine va_get (D := G.1) (ci := 8) (v := .int (T 19 0)) (C := RX7) (T := TX7) (N := 32) hx hb hts hi_X7 hown hK hP 0 rfl rfl 4 (by decide) (hts (.fieldLink RX7 99 "BoilerLogModel" "atShift" "I") (List.mem_of_getElem? (i := 2) rfl)) (fun _ h9 => h9) rfl dX7_may_15 ?_
    refine lv_icmp_lt (tgt := 25) hx hb dX7_may_18 (by decide) (fun zc_3 => ?_) (fun zc_3 => ?_)
    · skip
      have zd_3 := Int32.not_le.mpr zc_3
      refine lv_iconst (v := 0) hx hb dX7_may_25 (by decide) ?_
      exact W.zret (v := 0) hx hb hr rfl (fun t ht hW => ⟨0, rfl, (by simp [sMay, zb, zc_2, zc_3, zd_3]), ht⟩) (fun _ h => nomatch h) dX7_may_26
    · skip
      have zd_3 := Int32.not_lt.mp zc_3
      refine lv_iconst (v := 1) hx hb dX7_may_21 (by decide) ?_
      refine lv_goto (tgt := 26) hx hb dX7_may_22 (by decide) ?_
      exact W.zret (v := 1) hx hb hr rfl (fun t ht hW => ⟨1, rfl, (by simp [sMay, zb, zc_2, zc_3, zd_3]), ht⟩) (fun _ h => nomatch h) dX7_may_26

set_option maxHeartbeats 4000000 in
set_option maxRecDepth 100000 in
theorem c_X7_tagsOn (l : Launch) (G : zG) (q : Nat → Nat) (th : Int32) (N : Nat → Nat) (T : Nat → Nat → Int32) (E : Nat → Int64) (hg ag mn sd tk : Nat → Int32) (sg : Int32) (sn : Nat → Int32) (a1 : Int32) (hn2 : N 2 ≤ 40) (hG1 : sHG N T hg) (hv : vp_in a1 8) : Met l yX7_tagsOn wsX7_tagsOn ({ frames := 0, cells := 0, slots := 0, locals := 0 }) (va_Pc [.ref (q 0), .int a1] (zPp G (mW G q th N T E hg ag mn sd tk sg sn))) (zQi (fun r : Int32 => r = nI (sOn N T a1))) 0 0 (fun _ => False) := by
  refine Met.ofW (cc := cX7_tagsOn) (maxL := 4) (ret := (some .int)) (by decide) rfl ?_
  intro p e s m args below meth c s₁ B hml hv
  obtain ⟨rfl, hP, hK⟩ := hv
  have hx := B.exec
  have hb := B.bytes
  have hr := B.returns
  have hts := atoms_spec (ws := wsX7_tagsOn) B.pre
  have hown : s.vm.findClass RX7 = some m.cls := findClass_of_methodNamed B.named
  have hlocks := B.notSynchronized
  have hi_X7 : ∀ w ∈ u_ws RX7 TX7 32, w ∈ wsX7_tagsOn := (fun _ h => List.mem_cons_of_mem _ (List.mem_append_right _ h))
  have hP : va_P G.1 vwCl [(q 0, .inr (8, [.int th, .int (nI (N 0)), .int (nI (N 1)), .ref (q 1), .int (T 19 0), .ref (q 2), .ref (q 3), .ref (q 4), .ref (q 5), .ref (q 6), .ref (q 7), .int (T 19 1), .int (nI (N 2)), .ref (q 8), .ref (q 9), .ref (q 10), .int (nI (N 3)), .ref (q 11), .ref (q 12), .ref (q 13), .ref (q 14), .ref (q 15), .ref (q 16), .int (nI (N 4)), .ref (q 17), .int (nI (N 5)), .ref (q 18), .ref (q 19), .int (nI (N 6)), .ref (q 20), .int sg, .ref (q 21)])), (q 1, .inl (G.2 1, 12500, .inr (.inl E))), (q 2, .inl (G.2 0, 9, .inl (T 1))), (q 3, .inl (G.2 2, 9, .inl (T 2))), (q 4, .inl (G.2 2, 8, .inl (T 3))), (q 5, .inl (G.2 0, 8, .inl (T 4))), (q 6, .inl (G.2 0, 8, .inl (T 5))), (q 7, .inl (G.2 0, 3, .inl (T 6))), (q 8, .inl (G.2 0, 40, .inl hg)), (q 9, .inl (G.2 0, 40, .inl (T 7))), (q 10, .inl (G.2 0, 40, .inl ag)), (q 11, .inl (G.2 0, 10, .inl (T 11))), (q 12, .inl (G.2 0, 10, .inl (T 12))), (q 13, .inl (G.2 2, 10, .inl (T 13))), (q 14, .inl (G.2 0, 10, .inl (T 14))), (q 15, .inl (G.2 2, 10, .inl (T 15))), (q 16, .inl (G.2 0, 10, .inl (T 16))), (q 17, .inl (G.2 3, 40, .inl (T 17))), (q 18, .inl (G.2 0, 60, .inl mn)), (q 19, .inl (G.2 3, 2400, .inl sd)), (q 20, .inl (G.2 0, 60, .inl tk)), (q 21, .inl (G.2 0, 40, .inl sn))] s.heap := hP
  have hl := lv_entry ([.ref (q 0), .int a1]) (n := 4) (Nat.le_of_ble_eq_true rfl)
  rw [lg_entry_eq]
  generalize (lg_sl ([.ref (q 0), .int a1]) ++ List.replicate (4 - (lg_sl ([.ref (q 0), .int a1])).length) Slot.unset).toArray = ls at hl ⊢
  have hl : lv_has ls 4 [(0, .ref (q 0)), (1, .int a1)] := hl
  refine lv_iconst (v := 0) hx hb dX7_tagsOn_0 (by decide) ?_
  refine lv_istore_n (lv' := [(2, .int 0), (0, .ref (q 0)), (1, .int a1)]) hx hb dX7_tagsOn_1 rfl hl (by decide) rfl (fun ls hl => ?_)
  refine lv_iconst (v := 0) hx hb dX7_tagsOn_2 (by decide) ?_
  refine lv_istore_n (lv' := [(3, .int 0), (2, .int 0), (0, .ref (q 0)), (1, .int a1)]) hx hb dX7_tagsOn_3 rfl hl (by decide) rfl (fun ls hl => ?_)
  have key_4 : ∀ (n i : Nat), i ≤ N 2 → N 2 < i + n → ∀ ls : Array Slot, lv_has ls 4 [(0, .ref (q 0)), (1, .int a1), (2, .int (nI (sCnt (fun t => decide (hg t = a1)) i))), (3, .int (nI i))] → W p l e (headSpec wsX7_tagsOn ({ frames := 0, cells := 0, slots := 0, locals := 0 })).room s m ([.ref (q 0), .int a1] : List Value).toArray below meth c s.heap [] 0 0 (MQ below (zQi (fun r : Int32 => r = nI (sOn N T a1))) ([.ref (q 0), .int a1] : List Value).toArray s 0 0 (fun _ => False)) (F0 m 4 ls []) := by
    intro n
    induction n with
    | zero => intro i h1 h2; exact absurd h2 (by omega)
    | succ n ih =>
      intro i hi hn ls hl
      refine lv_iload_n hx hb dX7_tagsOn_4 rfl (lv_at hl 3 rfl) ?_
      refine lv_aload_n hx hb dX7_tagsOn_5 rfl (lv_at hl 0 rfl) ?_
      refine va_get (D := G.1) (ci := 8) (v := .int (nI (N 2))) (C := RX7) (T := TX7) (N := 32) hx hb hts hi_X7 hown hK hP 0 rfl rfl 12 (by decide) (hts (.fieldLink RX7 84 "BoilerLogModel" "tags" "I") (List.mem_of_getElem? (i := 1) rfl)) (fun _ h9 => h9) rfl dX7_tagsOn_6 ?_
      refine lv_icmp_ge (tgt := 36) hx hb dX7_tagsOn_9 (by decide) (fun zc_1 => ?_) (fun zc_1 => ?_)
      · skip
        have zd_1 := Int32.not_lt.mpr zc_1
        have hc := (nI_leI (by omega) (by omega)).mp zc_1
        obtain rfl := Nat.le_antisymm hi hc
        refine lv_iload_n hx hb dX7_tagsOn_36 rfl (lv_at hl 2 rfl) ?_
        exact W.iret (v := nI (sCnt (fun t => decide (hg t = a1)) (N 2))) hx hb hr (fun t ht hW => ⟨nI (sCnt (fun t => decide (hg t = a1)) (N 2)), rfl, (by rw [sOn_hg hG1 hv]), ht⟩) (fun _ h => nomatch h) dX7_tagsOn_37
      · skip
        have zd_1 := Int32.not_le.mp zc_1
        have hc := Nat.lt_of_not_le (fun z => zc_1 ((nI_leI (by omega) (by omega)).mpr z))
        refine lv_iload_n hx hb dX7_tagsOn_12 rfl (lv_at hl 2 rfl) ?_
        refine lv_aload_n hx hb dX7_tagsOn_13 rfl (lv_at hl 0 rfl) ?_
        refine va_get (D := G.1) (ci := 8) (v := .ref (q 8)) (C := RX7) (T := TX7) (N := 32) hx hb hts hi_X7 hown hK hP 0 rfl rfl 13 (by decide) (hts (.fieldLink RX7 33 "BoilerLogModel" "hangsOn" "[I") (List.mem_of_getElem? (i := 2) rfl)) (fun _ h9 => h9) rfl dX7_tagsOn_14 ?_
        refine lv_iload_n hx hb dX7_tagsOn_17 rfl (lv_at hl 3 rfl) ?_
        refine va_iald hx hb hK hP 8 0 rfl rfl (vp_in_nI (by omega) (by omega)) dX7_tagsOn_18 ?_
        refine W.eq (g2 := F0 m 19 ls [.int (hg i), .int (nI (sCnt (fun t => decide (hg t = a1)) i))]) (by rw [nI_clamp (by omega)]) ?_
        refine lv_iload_n hx hb dX7_tagsOn_19 rfl (lv_at hl 1 rfl) ?_
        refine lv_icmp_ne (tgt := 27) hx hb dX7_tagsOn_20 (by decide) (fun zc_2 => ?_) (fun zc_2 => ?_)
        · skip
          refine lv_iconst (v := 0) hx hb dX7_tagsOn_27 (by decide) ?_
          refine lv_iadd hx hb dX7_tagsOn_28 ?_
          refine lv_istore_n (lv' := [(2, .int ((nI (sCnt (fun t => decide (hg t = a1)) i)) + 0)), (0, .ref (q 0)), (1, .int a1), (3, .int (nI i))]) hx hb dX7_tagsOn_29 rfl hl (by decide) rfl (fun ls hl => ?_)
          refine lv_iinc (v := (nI (i + 1))) (lv' := [(3, .int (nI (i + 1))), (2, .int ((nI (sCnt (fun t => decide (hg t = a1)) i)) + 0)), (0, .ref (q 0)), (1, .int a1)]) hx hb dX7_tagsOn_30 hl (k := 3) rfl (by first | rfl | exact nI_1 _) (by decide) rfl (fun ls hl => ?_)
          refine lv_goto (tgt := 4) hx hb dX7_tagsOn_33 (by decide) ?_
          have hl2 := lv_sub (l' := [(0, .ref (q 0)), (1, .int a1), (2, .int ((nI (sCnt (fun t => decide (hg t = a1)) i)) + 0)), (3, .int (nI (i + 1)))]) hl [2, 3, 1, 0] rfl
          have e_2 : (nI (sCnt (fun t => decide (hg t = a1)) i)) + 0 = nI (sCnt (fun t => decide (hg t = a1)) (i + 1)) := by simp [sCnt, nI_succ, zc_2]
          rw [e_2] at hl2
          exact ih (i + 1) (by omega) (by omega) ls hl2
        · skip
          refine lv_iconst (v := 1) hx hb dX7_tagsOn_23 (by decide) ?_
          refine lv_goto (tgt := 28) hx hb dX7_tagsOn_24 (by decide) ?_
          refine lv_iadd hx hb dX7_tagsOn_28 ?_
          refine lv_istore_n (lv' := [(2, .int ((nI (sCnt (fun t => decide (hg t = a1)) i)) + 1)), (0, .ref (q 0)), (1, .int a1), (3, .int (nI i))]) hx hb dX7_tagsOn_29 rfl hl (by decide) rfl (fun ls hl => ?_)
          refine lv_iinc (v := (nI (i + 1))) (lv' := [(3, .int (nI (i + 1))), (2, .int ((nI (sCnt (fun t => decide (hg t = a1)) i)) + 1)), (0, .ref (q 0)), (1, .int a1)]) hx hb dX7_tagsOn_30 hl (k := 3) rfl (by first | rfl | exact nI_1 _) (by decide) rfl (fun ls hl => ?_)
          refine lv_goto (tgt := 4) hx hb dX7_tagsOn_33 (by decide) ?_
          have hl2 := lv_sub (l' := [(0, .ref (q 0)), (1, .int a1), (2, .int ((nI (sCnt (fun t => decide (hg t = a1)) i)) + 1)), (3, .int (nI (i + 1)))]) hl [2, 3, 1, 0] rfl
          have e_2 : (nI (sCnt (fun t => decide (hg t = a1)) i)) + 1 = nI (sCnt (fun t => decide (hg t = a1)) (i + 1)) := by simp [sCnt, nI_succ, zc_2]
          rw [e_2] at hl2
          exact ih (i + 1) (by omega) (by omega) ls hl2
  exact key_4 (N 2 + 1) 0 (Nat.zero_le _) (by omega) ls (lv_sub hl [2, 3, 1, 0] rfl)

set_option maxHeartbeats 4000000 in
set_option maxRecDepth 100000 in
theorem c_X7_isBarred (l : Launch) (G : zG) (q : Nat → Nat) (th : Int32) (N : Nat → Nat) (T : Nat → Nat → Int32) (E : Nat → Int64) (hg ag mn sd tk : Nat → Int32) (sg : Int32) (sn : Nat → Int32) (a1 a2 : Int32) (hn2 : N 2 ≤ 40) (hG1 : sHG N T hg) (hv : vp_in a2 8) : Met l yX7_isBarred wsX7_isBarred ({ frames := 0, cells := 0, slots := 0, locals := 0 }) (va_Pc [.ref (q 0), .int a1, .int a2] (zPp G (mW G q th N T E hg ag mn sd tk sg sn))) (zQi (fun r : Int32 => r = zb (sBar N T a1 a2))) 0 0 (fun _ => False) := by
  refine Met.ofW (cc := cX7_isBarred) (maxL := 5) (ret := (some .boolean)) (by decide) rfl ?_
  intro p e s m args below meth c s₁ B hml hv
  obtain ⟨rfl, hP, hK⟩ := hv
  have hx := B.exec
  have hb := B.bytes
  have hr := B.returns
  have hts := atoms_spec (ws := wsX7_isBarred) B.pre
  have hown : s.vm.findClass RX7 = some m.cls := findClass_of_methodNamed B.named
  have hlocks := B.notSynchronized
  have hi_X7 : ∀ w ∈ u_ws RX7 TX7 32, w ∈ wsX7_isBarred := (fun _ h => List.mem_cons_of_mem _ (List.mem_append_right _ h))
  have hP : va_P G.1 vwCl [(q 0, .inr (8, [.int th, .int (nI (N 0)), .int (nI (N 1)), .ref (q 1), .int (T 19 0), .ref (q 2), .ref (q 3), .ref (q 4), .ref (q 5), .ref (q 6), .ref (q 7), .int (T 19 1), .int (nI (N 2)), .ref (q 8), .ref (q 9), .ref (q 10), .int (nI (N 3)), .ref (q 11), .ref (q 12), .ref (q 13), .ref (q 14), .ref (q 15), .ref (q 16), .int (nI (N 4)), .ref (q 17), .int (nI (N 5)), .ref (q 18), .ref (q 19), .int (nI (N 6)), .ref (q 20), .int sg, .ref (q 21)])), (q 1, .inl (G.2 1, 12500, .inr (.inl E))), (q 2, .inl (G.2 0, 9, .inl (T 1))), (q 3, .inl (G.2 2, 9, .inl (T 2))), (q 4, .inl (G.2 2, 8, .inl (T 3))), (q 5, .inl (G.2 0, 8, .inl (T 4))), (q 6, .inl (G.2 0, 8, .inl (T 5))), (q 7, .inl (G.2 0, 3, .inl (T 6))), (q 8, .inl (G.2 0, 40, .inl hg)), (q 9, .inl (G.2 0, 40, .inl (T 7))), (q 10, .inl (G.2 0, 40, .inl ag)), (q 11, .inl (G.2 0, 10, .inl (T 11))), (q 12, .inl (G.2 0, 10, .inl (T 12))), (q 13, .inl (G.2 2, 10, .inl (T 13))), (q 14, .inl (G.2 0, 10, .inl (T 14))), (q 15, .inl (G.2 2, 10, .inl (T 15))), (q 16, .inl (G.2 0, 10, .inl (T 16))), (q 17, .inl (G.2 3, 40, .inl (T 17))), (q 18, .inl (G.2 0, 60, .inl mn)), (q 19, .inl (G.2 3, 2400, .inl sd)), (q 20, .inl (G.2 0, 60, .inl tk)), (q 21, .inl (G.2 0, 40, .inl sn))] s.heap := hP
  have hl := lv_entry ([.ref (q 0), .int a1, .int a2]) (n := 5) (Nat.le_of_ble_eq_true rfl)
  rw [lg_entry_eq]
  generalize (lg_sl ([.ref (q 0), .int a1, .int a2]) ++ List.replicate (5 - (lg_sl ([.ref (q 0), .int a1, .int a2])).length) Slot.unset).toArray = ls at hl ⊢
  have hl : lv_has ls 5 [(0, .ref (q 0)), (1, .int a1), (2, .int a2)] := hl
  refine lv_iconst (v := 0) hx hb dX7_isBarred_0 (by decide) ?_
  refine lv_istore_n (lv' := [(3, .int 0), (0, .ref (q 0)), (1, .int a1), (2, .int a2)]) hx hb dX7_isBarred_1 rfl hl (by decide) rfl (fun ls hl => ?_)
  refine lv_iconst (v := 0) hx hb dX7_isBarred_2 (by decide) ?_
  refine lv_istore (lv' := [(4, .int 0), (3, .int 0), (0, .ref (q 0)), (1, .int a1), (2, .int a2)]) hx hb dX7_isBarred_3 hl (by decide) rfl (fun ls hl => ?_)
  have key_5 : ∀ (n i : Nat), i ≤ N 2 → N 2 < i + n → ∀ ls : Array Slot, lv_has ls 5 [(0, .ref (q 0)), (1, .int a1), (2, .int a2), (3, .int (zb (sAny (fun t => decide (hg t = a2) && !decide (T 7 t = a1)) i))), (4, .int (nI i))] → W p l e (headSpec wsX7_isBarred ({ frames := 0, cells := 0, slots := 0, locals := 0 })).room s m ([.ref (q 0), .int a1, .int a2] : List Value).toArray below meth c s.heap [] 0 0 (MQ below (zQi (fun r : Int32 => r = zb (sBar N T a1 a2))) ([.ref (q 0), .int a1, .int a2] : List Value).toArray s 0 0 (fun _ => False)) (F0 m 5 ls []) := by
    intro n
    induction n with
    | zero => intro i h1 h2; exact absurd h2 (by omega)
    | succ n ih =>
      intro i hi hn ls hl
      refine lv_iload hx hb dX7_isBarred_5 (lv_at hl 4 rfl) ?_
      refine lv_aload_n hx hb dX7_isBarred_7 rfl (lv_at hl 0 rfl) ?_
      refine va_get (D := G.1) (ci := 8) (v := .int (nI (N 2))) (C := RX7) (T := TX7) (N := 32) hx hb hts hi_X7 hown hK hP 0 rfl rfl 12 (by decide) (hts (.fieldLink RX7 84 "BoilerLogModel" "tags" "I") (List.mem_of_getElem? (i := 1) rfl)) (fun _ h9 => h9) rfl dX7_isBarred_8 ?_
      refine lv_icmp_ge (tgt := 52) hx hb dX7_isBarred_11 (by decide) (fun zc_1 => ?_) (fun zc_1 => ?_)
      · skip
        have zd_1 := Int32.not_lt.mpr zc_1
        have hc := (nI_leI (by omega) (by omega)).mp zc_1
        obtain rfl := Nat.le_antisymm hi hc
        refine lv_iload_n hx hb dX7_isBarred_52 rfl (lv_at hl 3 rfl) ?_
        exact W.zret (v := zb (sAny (fun t => decide (hg t = a2) && !decide (T 7 t = a1)) (N 2))) hx hb hr (zn_zb _) (fun t ht hW => ⟨zb (sAny (fun t => decide (hg t = a2) && !decide (T 7 t = a1)) (N 2)), rfl, (by rw [sBar_hg hG1 hv]), ht⟩) (fun _ h => nomatch h) dX7_isBarred_53
      · skip
        have zd_1 := Int32.not_le.mp zc_1
        have hc := Nat.lt_of_not_le (fun z => zc_1 ((nI_leI (by omega) (by omega)).mpr z))
        refine lv_iload_n hx hb dX7_isBarred_14 rfl (lv_at hl 3 rfl) ?_
        refine lv_if_ne (tgt := 40) hx hb dX7_isBarred_15 (by decide) (fun zc_2 => ?_) (fun zc_2 => ?_)
        · skip
          have zc_2 := zb_n0 zc_2
          refine lv_iconst (v := 1) hx hb dX7_isBarred_40 (by decide) ?_
          refine lv_goto (tgt := 45) hx hb dX7_isBarred_41 (by decide) ?_
          refine lv_istore_n (lv' := [(3, .int 1), (0, .ref (q 0)), (1, .int a1), (2, .int a2), (4, .int (nI i))]) hx hb dX7_isBarred_45 rfl hl (by decide) rfl (fun ls hl => ?_)
          refine lv_iinc (v := (nI (i + 1))) (lv' := [(4, .int (nI (i + 1))), (3, .int 1), (0, .ref (q 0)), (1, .int a1), (2, .int a2)]) hx hb dX7_isBarred_46 hl (k := 4) rfl (by first | rfl | exact nI_1 _) (by decide) rfl (fun ls hl => ?_)
          refine lv_goto (tgt := 5) hx hb dX7_isBarred_49 (by decide) ?_
          have hl2 := lv_sub (l' := [(0, .ref (q 0)), (1, .int a1), (2, .int a2), (3, .int 1), (4, .int (nI (i + 1)))]) hl [2, 3, 4, 1, 0] rfl
          have e_3 : 1 = zb (sAny (fun t => decide (hg t = a2) && !decide (T 7 t = a1)) (i + 1)) := by simp [sAny, zb, zc_1, zd_1, zc_2]
          rw [e_3] at hl2
          exact ih (i + 1) (by omega) (by omega) ls hl2
        · skip
          have zc_2 := zb_0.mp zc_2
          refine lv_aload_n hx hb dX7_isBarred_18 rfl (lv_at hl 0 rfl) ?_
          refine va_get (D := G.1) (ci := 8) (v := .ref (q 8)) (C := RX7) (T := TX7) (N := 32) hx hb hts hi_X7 hown hK hP 0 rfl rfl 13 (by decide) (hts (.fieldLink RX7 33 "BoilerLogModel" "hangsOn" "[I") (List.mem_of_getElem? (i := 2) rfl)) (fun _ h9 => h9) rfl dX7_isBarred_19 ?_
          refine lv_iload hx hb dX7_isBarred_22 (lv_at hl 4 rfl) ?_
          refine va_iald hx hb hK hP 8 0 rfl rfl (vp_in_nI (by omega) (by omega)) dX7_isBarred_24 ?_
          refine W.eq (g2 := F0 m 25 ls [.int (hg i)]) (by rw [nI_clamp (by omega)]) ?_
          refine lv_iload_n hx hb dX7_isBarred_25 rfl (lv_at hl 2 rfl) ?_
          refine lv_icmp_ne (tgt := 44) hx hb dX7_isBarred_26 (by decide) (fun zc_3 => ?_) (fun zc_3 => ?_)
          · skip
            refine lv_iconst (v := 0) hx hb dX7_isBarred_44 (by decide) ?_
            refine lv_istore_n (lv' := [(3, .int 0), (0, .ref (q 0)), (1, .int a1), (2, .int a2), (4, .int (nI i))]) hx hb dX7_isBarred_45 rfl hl (by decide) rfl (fun ls hl => ?_)
            refine lv_iinc (v := (nI (i + 1))) (lv' := [(4, .int (nI (i + 1))), (3, .int 0), (0, .ref (q 0)), (1, .int a1), (2, .int a2)]) hx hb dX7_isBarred_46 hl (k := 4) rfl (by first | rfl | exact nI_1 _) (by decide) rfl (fun ls hl => ?_)
            refine lv_goto (tgt := 5) hx hb dX7_isBarred_49 (by decide) ?_
            have hl2 := lv_sub (l' := [(0, .ref (q 0)), (1, .int a1), (2, .int a2), (3, .int 0), (4, .int (nI (i + 1)))]) hl [2, 3, 4, 1, 0] rfl
            have e_3 : 0 = zb (sAny (fun t => decide (hg t = a2) && !decide (T 7 t = a1)) (i + 1)) := by simp [sAny, zb, zc_1, zd_1, zc_2, zc_3]
            rw [e_3] at hl2
            exact ih (i + 1) (by omega) (by omega) ls hl2
          · skip
            refine lv_aload_n hx hb dX7_isBarred_29 rfl (lv_at hl 0 rfl) ?_
            refine va_get (D := G.1) (ci := 8) (v := .ref (q 9)) (C := RX7) (T := TX7) (N := 32) hx hb hts hi_X7 hown hK hP 0 rfl rfl 14 (by decide) (hts (.fieldLink RX7 36 "BoilerLogModel" "owner" "[I") (List.mem_of_getElem? (i := 3) rfl)) (fun _ h9 => h9) rfl dX7_isBarred_30 ?_
            refine lv_iload hx hb dX7_isBarred_33 (lv_at hl 4 rfl) ?_
            refine va_iald hx hb hK hP 9 0 rfl rfl (vp_in_nI (by omega) (by omega)) dX7_isBarred_35 ?_
            refine W.eq (g2 := F0 m 36 ls [.int ((T 7) i)]) (by rw [nI_clamp (by omega)]) ?_
            refine lv_iload_n hx hb dX7_isBarred_36 rfl (lv_at hl 1 rfl) ?_
            refine lv_icmp_eq (tgt := 44) hx hb dX7_isBarred_37 (by decide) (fun zc_4 => ?_) (fun zc_4 => ?_)
            · skip
              refine lv_iconst (v := 0) hx hb dX7_isBarred_44 (by decide) ?_
              refine lv_istore_n (lv' := [(3, .int 0), (0, .ref (q 0)), (1, .int a1), (2, .int a2), (4, .int (nI i))]) hx hb dX7_isBarred_45 rfl hl (by decide) rfl (fun ls hl => ?_)
              refine lv_iinc (v := (nI (i + 1))) (lv' := [(4, .int (nI (i + 1))), (3, .int 0), (0, .ref (q 0)), (1, .int a1), (2, .int a2)]) hx hb dX7_isBarred_46 hl (k := 4) rfl (by first | rfl | exact nI_1 _) (by decide) rfl (fun ls hl => ?_)
              refine lv_goto (tgt := 5) hx hb dX7_isBarred_49 (by decide) ?_
              have hl2 := lv_sub (l' := [(0, .ref (q 0)), (1, .int a1), (2, .int a2), (3, .int 0), (4, .int (nI (i + 1)))]) hl [2, 3, 4, 1, 0] rfl
              have e_3 : 0 = zb (sAny (fun t => decide (hg t = a2) && !decide (T 7 t = a1)) (i + 1)) := by simp [sAny, zb, zc_1, zd_1, zc_2, zc_3, zc_4]
              rw [e_3] at hl2
              exact ih (i + 1) (by omega) (by omega) ls hl2
            · skip
              refine lv_iconst (v := 1) hx hb dX7_isBarred_40 (by decide) ?_
              refine lv_goto (tgt := 45) hx hb dX7_isBarred_41 (by decide) ?_
              refine lv_istore_n (lv' := [(3, .int 1), (0, .ref (q 0)), (1, .int a1), (2, .int a2), (4, .int (nI i))]) hx hb dX7_isBarred_45 rfl hl (by decide) rfl (fun ls hl => ?_)
              refine lv_iinc (v := (nI (i + 1))) (lv' := [(4, .int (nI (i + 1))), (3, .int 1), (0, .ref (q 0)), (1, .int a1), (2, .int a2)]) hx hb dX7_isBarred_46 hl (k := 4) rfl (by first | rfl | exact nI_1 _) (by decide) rfl (fun ls hl => ?_)
              refine lv_goto (tgt := 5) hx hb dX7_isBarred_49 (by decide) ?_
              have hl2 := lv_sub (l' := [(0, .ref (q 0)), (1, .int a1), (2, .int a2), (3, .int 1), (4, .int (nI (i + 1)))]) hl [2, 3, 4, 1, 0] rfl
              have e_3 : 1 = zb (sAny (fun t => decide (hg t = a2) && !decide (T 7 t = a1)) (i + 1)) := by simp [sAny, zb, zc_1, zd_1, zc_2, zc_3, zc_4]
              rw [e_3] at hl2
              exact ih (i + 1) (by omega) (by omega) ls hl2
  exact key_5 (N 2 + 1) 0 (Nat.zero_le _) (by omega) ls (lv_sub hl [2, 3, 4, 1, 0] rfl)

set_option maxHeartbeats 4000000 in
set_option maxRecDepth 100000 in
theorem c_X7_bars (l : Launch) (G : zG) (q : Nat → Nat) (th : Int32) (N : Nat → Nat) (T : Nat → Nat → Int32) (E : Nat → Int64) (hg ag mn sd tk : Nat → Int32) (sg : Int32) (sn : Nat → Int32) (a1 a2 : Int32) (hn2 : N 2 ≤ 40) (hG1 : sHG N T hg) (hp : vp_in a1 9) (hv : vp_in a2 8) : Met l yX7_bars wsX7_bars ({ frames := 2, cells := 0, slots := 0, locals := 42 }) (va_Pc [.ref (q 0), .int a1, .int a2] (zPp G (mW G q th N T E hg ag mn sd tk sg sn))) (zQi (fun r : Int32 => r = sBars N T a1 a2)) 0 0 (fun _ => False) := by
  refine Met.ofW (cc := cX7_bars) (maxL := 3) (ret := (some .int)) (by decide) rfl ?_
  intro p e s m args below meth c s₁ B hml hv
  obtain ⟨rfl, hP, hK⟩ := hv
  have hx := B.exec
  have hb := B.bytes
  have hr := B.returns
  have hts := atoms_spec (ws := wsX7_bars) B.pre
  have hown : s.vm.findClass RX7 = some m.cls := findClass_of_methodNamed B.named
  have hlocks := B.notSynchronized
  have hP : va_P G.1 vwCl [(q 0, .inr (8, [.int th, .int (nI (N 0)), .int (nI (N 1)), .ref (q 1), .int (T 19 0), .ref (q 2), .ref (q 3), .ref (q 4), .ref (q 5), .ref (q 6), .ref (q 7), .int (T 19 1), .int (nI (N 2)), .ref (q 8), .ref (q 9), .ref (q 10), .int (nI (N 3)), .ref (q 11), .ref (q 12), .ref (q 13), .ref (q 14), .ref (q 15), .ref (q 16), .int (nI (N 4)), .ref (q 17), .int (nI (N 5)), .ref (q 18), .ref (q 19), .int (nI (N 6)), .ref (q 20), .int sg, .ref (q 21)])), (q 1, .inl (G.2 1, 12500, .inr (.inl E))), (q 2, .inl (G.2 0, 9, .inl (T 1))), (q 3, .inl (G.2 2, 9, .inl (T 2))), (q 4, .inl (G.2 2, 8, .inl (T 3))), (q 5, .inl (G.2 0, 8, .inl (T 4))), (q 6, .inl (G.2 0, 8, .inl (T 5))), (q 7, .inl (G.2 0, 3, .inl (T 6))), (q 8, .inl (G.2 0, 40, .inl hg)), (q 9, .inl (G.2 0, 40, .inl (T 7))), (q 10, .inl (G.2 0, 40, .inl ag)), (q 11, .inl (G.2 0, 10, .inl (T 11))), (q 12, .inl (G.2 0, 10, .inl (T 12))), (q 13, .inl (G.2 2, 10, .inl (T 13))), (q 14, .inl (G.2 0, 10, .inl (T 14))), (q 15, .inl (G.2 2, 10, .inl (T 15))), (q 16, .inl (G.2 0, 10, .inl (T 16))), (q 17, .inl (G.2 3, 40, .inl (T 17))), (q 18, .inl (G.2 0, 60, .inl mn)), (q 19, .inl (G.2 3, 2400, .inl sd)), (q 20, .inl (G.2 0, 60, .inl tk)), (q 21, .inl (G.2 0, 40, .inl sn))] s.heap := hP
  have hl := lv_entry ([.ref (q 0), .int a1, .int a2]) (n := 3) (Nat.le_of_ble_eq_true rfl)
  rw [lg_entry_eq]
  generalize (lg_sl ([.ref (q 0), .int a1, .int a2]) ++ List.replicate (3 - (lg_sl ([.ref (q 0), .int a1, .int a2])).length) Slot.unset).toArray = ls at hl ⊢
  have hl : lv_has ls 3 [(0, .ref (q 0)), (1, .int a1), (2, .int a2)] := hl
  refine lv_aload_n hx hb dX7_bars_0 rfl (lv_at hl 0 rfl) ?_
  refine lv_iload_n hx hb dX7_bars_1 rfl (lv_at hl 1 rfl) ?_
  refine z_csi (va_Run.run (va_runV (As := [.int a1]) (rest := []) ⟨hx, hb, hml, hown, hts⟩ (c_X7_isOnDuty l G q th N T E hg ag mn sd tk sg sn a1 (by assumption)) (cwV 1 hts gX7_bars_X7_isOnDuty rfl rfl rfl (by decide +kernel) ⟨Nat.le_of_ble_eq_true rfl, Nat.le_of_ble_eq_true rfl⟩) (z_pv hK hP (ci := 8) (q0 := 0) rfl rfl hP) rfl rfl hl.1 rfl (lv_room (Nat.le_of_ble_eq_true rfl)) dX7_bars_2 ⟨(Nat.zero_le _), (Nat.zero_le _)⟩)) (fun zr_1 hzr_1 => ?_)
  subst hzr_1
  refine lv_if_ne (tgt := 12) hx hb dX7_bars_5 (by decide) (fun zc_2 => ?_) (fun zc_2 => ?_)
  · skip
    have zc_2 := zb_n0 zc_2
    refine lv_aload_n hx hb dX7_bars_12 rfl (lv_at hl 0 rfl) ?_
    refine lv_iload_n hx hb dX7_bars_13 rfl (lv_at hl 1 rfl) ?_
    refine z_csi (va_Run.run (va_runV (As := [.int a1]) (rest := []) ⟨hx, hb, hml, hown, hts⟩ (c_X7_may l G q th N T E hg ag mn sd tk sg sn a1 (by assumption)) (cwV 1 hts gX7_bars_X7_may rfl rfl rfl (by decide +kernel) ⟨Nat.le_of_ble_eq_true rfl, Nat.le_of_ble_eq_true rfl⟩) (z_pv hK hP (ci := 8) (q0 := 0) rfl rfl hP) rfl rfl hl.1 rfl (lv_room (Nat.le_of_ble_eq_true rfl)) dX7_bars_14 ⟨(Nat.zero_le _), (Nat.zero_le _)⟩)) (fun zr_3 hzr_3 => ?_)
    subst hzr_3
    refine lv_if_ne (tgt := 24) hx hb dX7_bars_17 (by decide) (fun zc_4 => ?_) (fun zc_4 => ?_)
    · skip
      have zc_4 := zb_n0 zc_4
      refine lv_aload_n hx hb dX7_bars_24 rfl (lv_at hl 0 rfl) ?_
      refine lv_iload_n hx hb dX7_bars_25 rfl (lv_at hl 1 rfl) ?_
      refine lv_iload_n hx hb dX7_bars_26 rfl (lv_at hl 2 rfl) ?_
      refine z_csi (va_Run.run (va_runV (As := [.int a1, .int a2]) (rest := []) ⟨hx, hb, hml, hown, hts⟩ (c_X7_isBarred l G q th N T E hg ag mn sd tk sg sn a1 a2 (by assumption) (by assumption) (by assumption)) (cwV 2 hts gX7_bars_X7_isBarred rfl rfl rfl (by decide +kernel) ⟨Nat.le_of_ble_eq_true rfl, Nat.le_of_ble_eq_true rfl⟩) (z_pv hK hP (ci := 8) (q0 := 0) rfl rfl hP) rfl rfl hl.1 rfl (lv_room (Nat.le_of_ble_eq_true rfl)) dX7_bars_27 ⟨(Nat.zero_le _), (Nat.zero_le _)⟩)) (fun zr_5 hzr_5 => ?_)
      subst hzr_5
      refine lv_if_eq (tgt := 37) hx hb dX7_bars_30 (by decide) (fun zc_6 => ?_) (fun zc_6 => ?_)
      · skip
        have zc_6 := zb_0.mp zc_6
        refine lv_iconst (v := 0) hx hb dX7_bars_37 (by decide) ?_
        exact W.iret (v := 0) hx hb hr (fun t ht hW => ⟨0, rfl, (by simp [sBars, zb, zc_2, zc_4, zc_6]), ht⟩) (fun _ h => nomatch h) dX7_bars_38
      · skip
        have zc_6 := zb_n0 zc_6
        refine lv_iconst (v := 3) hx hb dX7_bars_33 (by decide) ?_
        refine lv_goto (tgt := 38) hx hb dX7_bars_34 (by decide) ?_
        exact W.iret (v := 3) hx hb hr (fun t ht hW => ⟨3, rfl, (by simp [sBars, zb, zc_2, zc_4, zc_6]), ht⟩) (fun _ h => nomatch h) dX7_bars_38
    · skip
      have zc_4 := zb_0.mp zc_4
      refine lv_iconst (v := 2) hx hb dX7_bars_20 (by decide) ?_
      refine lv_goto (tgt := 38) hx hb dX7_bars_21 (by decide) ?_
      exact W.iret (v := 2) hx hb hr (fun t ht hW => ⟨2, rfl, (by simp [sBars, zb, zc_2, zc_4]), ht⟩) (fun _ h => nomatch h) dX7_bars_38
  · skip
    have zc_2 := zb_0.mp zc_2
    refine lv_iconst (v := 1) hx hb dX7_bars_8 (by decide) ?_
    refine lv_goto (tgt := 38) hx hb dX7_bars_9 (by decide) ?_
    exact W.iret (v := 1) hx hb hr (fun t ht hW => ⟨1, rfl, (by simp [sBars, zb, zc_2]), ht⟩) (fun _ h => nomatch h) dX7_bars_38

set_option maxHeartbeats 4000000 in
set_option maxRecDepth 100000 in
theorem c_X7_isGood (l : Launch) (G : zG) (q : Nat → Nat) (th : Int32) (N : Nat → Nat) (T : Nat → Nat → Int32) (E : Nat → Int64) (hg ag mn sd tk : Nat → Int32) (sg : Int32) (sn : Nat → Int32)  (hn4 : N 4 ≤ 40) : Met l yX7_isGood wsX7_isGood ({ frames := 1, cells := 0, slots := 0, locals := 20 }) (va_Pc [.ref (q 0)] (zPp G (mW G q th N T E hg ag mn sd tk sg sn))) (zQi (fun r : Int32 => r = zb (sGood (T 17) (N 4)))) 0 0 (fun _ => False) := by
  refine Met.ofW (cc := cX7_isGood) (maxL := 4) (ret := (some .boolean)) (by decide) rfl ?_
  intro p e s m args below meth c s₁ B hml hv
  obtain ⟨rfl, hP, hK⟩ := hv
  have hx := B.exec
  have hb := B.bytes
  have hr := B.returns
  have hts := atoms_spec (ws := wsX7_isGood) B.pre
  have hown : s.vm.findClass RX7 = some m.cls := findClass_of_methodNamed B.named
  have hlocks := B.notSynchronized
  have hi_X7 : ∀ w ∈ u_ws RX7 TX7 32, w ∈ wsX7_isGood := (fun _ h => List.mem_cons_of_mem _ (List.mem_append_right _ h))
  have hP : va_P G.1 vwCl [(q 0, .inr (8, [.int th, .int (nI (N 0)), .int (nI (N 1)), .ref (q 1), .int (T 19 0), .ref (q 2), .ref (q 3), .ref (q 4), .ref (q 5), .ref (q 6), .ref (q 7), .int (T 19 1), .int (nI (N 2)), .ref (q 8), .ref (q 9), .ref (q 10), .int (nI (N 3)), .ref (q 11), .ref (q 12), .ref (q 13), .ref (q 14), .ref (q 15), .ref (q 16), .int (nI (N 4)), .ref (q 17), .int (nI (N 5)), .ref (q 18), .ref (q 19), .int (nI (N 6)), .ref (q 20), .int sg, .ref (q 21)])), (q 1, .inl (G.2 1, 12500, .inr (.inl E))), (q 2, .inl (G.2 0, 9, .inl (T 1))), (q 3, .inl (G.2 2, 9, .inl (T 2))), (q 4, .inl (G.2 2, 8, .inl (T 3))), (q 5, .inl (G.2 0, 8, .inl (T 4))), (q 6, .inl (G.2 0, 8, .inl (T 5))), (q 7, .inl (G.2 0, 3, .inl (T 6))), (q 8, .inl (G.2 0, 40, .inl hg)), (q 9, .inl (G.2 0, 40, .inl (T 7))), (q 10, .inl (G.2 0, 40, .inl ag)), (q 11, .inl (G.2 0, 10, .inl (T 11))), (q 12, .inl (G.2 0, 10, .inl (T 12))), (q 13, .inl (G.2 2, 10, .inl (T 13))), (q 14, .inl (G.2 0, 10, .inl (T 14))), (q 15, .inl (G.2 2, 10, .inl (T 15))), (q 16, .inl (G.2 0, 10, .inl (T 16))), (q 17, .inl (G.2 3, 40, .inl (T 17))), (q 18, .inl (G.2 0, 60, .inl mn)), (q 19, .inl (G.2 3, 2400, .inl sd)), (q 20, .inl (G.2 0, 60, .inl tk)), (q 21, .inl (G.2 0, 40, .inl sn))] s.heap := hP
  have hl := lv_entry ([.ref (q 0)]) (n := 4) (Nat.le_of_ble_eq_true rfl)
  rw [lg_entry_eq]
  generalize (lg_sl ([.ref (q 0)]) ++ List.replicate (4 - (lg_sl ([.ref (q 0)])).length) Slot.unset).toArray = ls at hl ⊢
  have hl : lv_has ls 4 [(0, .ref (q 0))] := hl
  have cut_12 : W p l e (headSpec wsX7_isGood ({ frames := 1, cells := 0, slots := 0, locals := 20 })).room s m ([.ref (q 0)] : List Value).toArray below meth c s.heap [] 0 0 (MQ below (zQi (fun r : Int32 => r = zb (sGood (T 17) (N 4)))) ([.ref (q 0)] : List Value).toArray s 0 0 (fun _ => False)) (F0 m 12 ls [.int (zb (decide (0 < N 4)))]) := by
    refine lv_istore_n (lv' := [(1, .int (zb (decide (0 < N 4)))), (0, .ref (q 0))]) hx hb dX7_isGood_12 rfl hl (by decide) rfl (fun ls hl => ?_)
    refine lv_iconst (v := 0) hx hb dX7_isGood_13 (by decide) ?_
    refine lv_istore_n (lv' := [(2, .int 0), (1, .int (zb (decide (0 < N 4)))), (0, .ref (q 0))]) hx hb dX7_isGood_14 rfl hl (by decide) rfl (fun ls hl => ?_)
    refine lv_iconst (v := 0) hx hb dX7_isGood_15 (by decide) ?_
    refine lv_istore_n (lv' := [(3, .int 0), (2, .int 0), (1, .int (zb (decide (0 < N 4)))), (0, .ref (q 0))]) hx hb dX7_isGood_16 rfl hl (by decide) rfl (fun ls hl => ?_)
    have key_17 : ∀ (n i : Nat), i ≤ N 4 → N 4 < i + n → ∀ ls : Array Slot, lv_has ls 4 [(0, .ref (q 0)), (1, .int (zb (sG (T 17) i && decide (0 < N 4)))), (2, .int (zb (sW (T 17) i))), (3, .int (nI i))] → W p l e (headSpec wsX7_isGood ({ frames := 1, cells := 0, slots := 0, locals := 20 })).room s m ([.ref (q 0)] : List Value).toArray below meth c s.heap [] 0 0 (MQ below (zQi (fun r : Int32 => r = zb (sGood (T 17) (N 4)))) ([.ref (q 0)] : List Value).toArray s 0 0 (fun _ => False)) (F0 m 17 ls []) := by
      intro n
      induction n with
      | zero => intro i h1 h2; exact absurd h2 (by omega)
      | succ n ih =>
        intro i hi hn ls hl
        refine lv_iload_n hx hb dX7_isGood_17 rfl (lv_at hl 3 rfl) ?_
        refine lv_aload_n hx hb dX7_isGood_18 rfl (lv_at hl 0 rfl) ?_
        refine va_get (D := G.1) (ci := 8) (v := .int (nI (N 4))) (C := RX7) (T := TX7) (N := 32) hx hb hts hi_X7 hown hK hP 0 rfl rfl 23 (by decide) (hts (.fieldLink RX7 155 "BoilerLogModel" "length" "I") (List.mem_of_getElem? (i := 1) rfl)) (fun _ h9 => h9) rfl dX7_isGood_19 ?_
        refine lv_icmp_ge (tgt := 64) hx hb dX7_isGood_22 (by decide) (fun zc_1 => ?_) (fun zc_1 => ?_)
        · skip
          have zd_1 := Int32.not_lt.mpr zc_1
          have hc := (nI_leI (by omega) (by omega)).mp zc_1
          obtain rfl := Nat.le_antisymm hi hc
          refine lv_iload_n hx hb dX7_isGood_64 rfl (lv_at hl 1 rfl) ?_
          refine lv_if_eq (tgt := 76) hx hb dX7_isGood_65 (by decide) (fun zc_2 => ?_) (fun zc_2 => ?_)
          · skip
            have zc_2 := zb_0.mp zc_2
            refine lv_iconst (v := 0) hx hb dX7_isGood_76 (by decide) ?_
            exact W.zret (v := 0) hx hb hr rfl (fun t ht hW => ⟨0, rfl, (by simp [sGood, zb, zc_1, zd_1, zc_2]), ht⟩) (fun _ h => nomatch h) dX7_isGood_77
          · skip
            have zc_2 := zb_n0 zc_2
            refine lv_iload_n hx hb dX7_isGood_68 rfl (lv_at hl 2 rfl) ?_
            refine lv_if_ne (tgt := 76) hx hb dX7_isGood_69 (by decide) (fun zc_3 => ?_) (fun zc_3 => ?_)
            · skip
              have zc_3 := zb_n0 zc_3
              refine lv_iconst (v := 0) hx hb dX7_isGood_76 (by decide) ?_
              exact W.zret (v := 0) hx hb hr rfl (fun t ht hW => ⟨0, rfl, (by simp [sGood, zb, zc_1, zd_1, zc_2, zc_3]), ht⟩) (fun _ h => nomatch h) dX7_isGood_77
            · skip
              have zc_3 := zb_0.mp zc_3
              refine lv_iconst (v := 1) hx hb dX7_isGood_72 (by decide) ?_
              refine lv_goto (tgt := 77) hx hb dX7_isGood_73 (by decide) ?_
              exact W.zret (v := 1) hx hb hr rfl (fun t ht hW => ⟨1, rfl, (by simp [sGood, zb, zc_1, zd_1, zc_2, zc_3]), ht⟩) (fun _ h => nomatch h) dX7_isGood_77
        · skip
          have zd_1 := Int32.not_le.mp zc_1
          have hc := Nat.lt_of_not_le (fun z => zc_1 ((nI_leI (by omega) (by omega)).mpr z))
          have cut_47 : W p l e (headSpec wsX7_isGood ({ frames := 1, cells := 0, slots := 0, locals := 20 })).room s m ([.ref (q 0)] : List Value).toArray below meth c s.heap [] 0 0 (MQ below (zQi (fun r : Int32 => r = zb (sGood (T 17) (N 4)))) ([.ref (q 0)] : List Value).toArray s 0 0 (fun _ => False)) (F0 m 47 ls [.int (zb (sG (T 17) (i + 1) && decide (0 < N 4)))]) := by
            refine lv_istore_n (lv' := [(1, .int (zb (sG (T 17) (i + 1) && decide (0 < N 4)))), (0, .ref (q 0)), (2, .int (zb (sW (T 17) i))), (3, .int (nI i))]) hx hb dX7_isGood_47 rfl hl (by decide) rfl (fun ls hl => ?_)
            refine lv_aload_n hx hb dX7_isGood_48 rfl (lv_at hl 1 rfl) ?_
            refine va_get (D := G.1) (ci := 8) (v := .ref (q 17)) (C := RX7) (T := TX7) (N := 32) hx hb hts hi_X7 hown hK hP 0 rfl rfl 24 (by decide) (hts (.fieldLink RX7 60 "BoilerLogModel" "text" "[C") (List.mem_of_getElem? (i := 2) rfl)) (fun _ h9 => h9) rfl dX7_isGood_49 ?_
            refine lv_iload_n hx hb dX7_isGood_52 rfl (lv_at hl 3 rfl) ?_
            refine va_cald hx hb hK hP 17 3 rfl rfl (vp_in_nI (by omega) (by omega)) dX7_isGood_53 ?_
            refine W.eq (g2 := F0 m 54 ls [.int ((T 17) i)]) (by rw [nI_clamp (by omega)]) ?_
            refine z_csi (va_Run.run (va_runS (As := [.int ((T 17) i)]) (rest := []) ⟨hx, hb, hml, hown, hts⟩ (c_X7_isHighOne l G ((T 17) i)) (va_cwS 1 hts gX7_isGood_X7_isHighOne rfl rfl rfl (by decide +kernel) ⟨Nat.le_of_ble_eq_true rfl, Nat.le_of_ble_eq_true rfl⟩) (z_ps hK z_none) rfl rfl hl.1 rfl (lv_room (Nat.le_of_ble_eq_true rfl)) dX7_isGood_54 ⟨(Nat.zero_le _), (Nat.zero_le _)⟩)) (fun zr_4 hzr_4 => ?_)
            subst hzr_4
            refine lv_istore_n (lv' := [(2, .int (zb (sHi ((T 17) i)))), (1, .int (zb (sG (T 17) (i + 1) && decide (0 < N 4)))), (0, .ref (q 0)), (3, .int (nI i))]) hx hb dX7_isGood_57 rfl hl (by decide) rfl (fun ls hl => ?_)
            refine lv_iinc (v := (nI (i + 1))) (lv' := [(3, .int (nI (i + 1))), (2, .int (zb (sHi ((T 17) i)))), (1, .int (zb (sG (T 17) (i + 1) && decide (0 < N 4)))), (0, .ref (q 0))]) hx hb dX7_isGood_58 hl (k := 3) rfl (by first | rfl | exact nI_1 _) (by decide) rfl (fun ls hl => ?_)
            refine lv_goto (tgt := 17) hx hb dX7_isGood_61 (by decide) ?_
            have hl2 := lv_sub (l' := [(0, .ref (q 0)), (1, .int (zb (sG (T 17) (i + 1) && decide (0 < N 4)))), (2, .int (zb (sHi ((T 17) i)))), (3, .int (nI (i + 1)))]) hl [3, 2, 1, 0] rfl
            have e_2 : zb (sHi ((T 17) i)) = zb (sW (T 17) (i + 1)) := by simp [sW]
            rw [e_2] at hl2
            exact ih (i + 1) (by omega) (by omega) ls hl2
          refine lv_iload_n hx hb dX7_isGood_25 rfl (lv_at hl 1 rfl) ?_
          refine lv_if_eq (tgt := 46) hx hb dX7_isGood_26 (by decide) (fun zc_5 => ?_) (fun zc_5 => ?_)
          · skip
            have zc_5 := zb_0.mp zc_5
            refine lv_iconst (v := 0) hx hb dX7_isGood_46 (by decide) ?_
            exact W.eq (g2 := F0 m 47 ls [.int (zb (sG (T 17) (i + 1) && decide (0 < N 4)))]) (by rw [show 0 = zb (sG (T 17) (i + 1) && decide (0 < N 4)) from (by skip; simp_all [zb, sG])]) cut_47
          · skip
            have zc_5 := zb_n0 zc_5
            refine lv_aload_n hx hb dX7_isGood_29 rfl (lv_at hl 0 rfl) ?_
            refine va_get (D := G.1) (ci := 8) (v := .ref (q 17)) (C := RX7) (T := TX7) (N := 32) hx hb hts hi_X7 hown hK hP 0 rfl rfl 24 (by decide) (hts (.fieldLink RX7 60 "BoilerLogModel" "text" "[C") (List.mem_of_getElem? (i := 2) rfl)) (fun _ h9 => h9) rfl dX7_isGood_30 ?_
            refine lv_iload_n hx hb dX7_isGood_33 rfl (lv_at hl 3 rfl) ?_
            refine va_cald hx hb hK hP 17 3 rfl rfl (vp_in_nI (by omega) (by omega)) dX7_isGood_34 ?_
            refine W.eq (g2 := F0 m 35 ls [.int ((T 17) i)]) (by rw [nI_clamp (by omega)]) ?_
            refine z_csi (va_Run.run (va_runS (As := [.int ((T 17) i)]) (rest := []) ⟨hx, hb, hml, hown, hts⟩ (c_X7_isLowOne l G ((T 17) i)) (va_cwS 1 hts gX7_isGood_X7_isLowOne rfl rfl rfl (by decide +kernel) ⟨Nat.le_of_ble_eq_true rfl, Nat.le_of_ble_eq_true rfl⟩) (z_ps hK z_none) rfl rfl hl.1 rfl (lv_room (Nat.le_of_ble_eq_true rfl)) dX7_isGood_35 ⟨(Nat.zero_le _), (Nat.zero_le _)⟩)) (fun zr_6 hzr_6 => ?_)
            subst hzr_6
            refine lv_iload_n hx hb dX7_isGood_38 rfl (lv_at hl 2 rfl) ?_
            refine lv_icmp_ne (tgt := 46) hx hb dX7_isGood_39 (by decide) (fun zc_7 => ?_) (fun zc_7 => ?_)
            · skip
              have zc_7 := zb_ne zc_7
              refine lv_iconst (v := 0) hx hb dX7_isGood_46 (by decide) ?_
              exact W.eq (g2 := F0 m 47 ls [.int (zb (sG (T 17) (i + 1) && decide (0 < N 4)))]) (by rw [show 0 = zb (sG (T 17) (i + 1) && decide (0 < N 4)) from (by skip; simp_all [zb, sG])]) cut_47
            · skip
              have zc_7 := zb_eq.mp zc_7
              refine lv_iconst (v := 1) hx hb dX7_isGood_42 (by decide) ?_
              refine lv_goto (tgt := 47) hx hb dX7_isGood_43 (by decide) ?_
              exact W.eq (g2 := F0 m 47 ls [.int (zb (sG (T 17) (i + 1) && decide (0 < N 4)))]) (by rw [show 1 = zb (sG (T 17) (i + 1) && decide (0 < N 4)) from (by skip; simp_all [zb, sG])]) cut_47
    exact key_17 (N 4 + 1) 0 (Nat.zero_le _) (by omega) ls (lv_sub hl [3, 2, 1, 0] rfl)
  refine lv_aload_n hx hb dX7_isGood_0 rfl (lv_at hl 0 rfl) ?_
  refine va_get (D := G.1) (ci := 8) (v := .int (nI (N 4))) (C := RX7) (T := TX7) (N := 32) hx hb hts hi_X7 hown hK hP 0 rfl rfl 23 (by decide) (hts (.fieldLink RX7 155 "BoilerLogModel" "length" "I") (List.mem_of_getElem? (i := 1) rfl)) (fun _ h9 => h9) rfl dX7_isGood_1 ?_
  refine lv_if_le (tgt := 11) hx hb dX7_isGood_4 (by decide) (fun zc_8 => ?_) (fun zc_8 => ?_)
  · skip
    have zd_8 := Int32.not_lt.mpr zc_8
    have zc_8 := (sLe0 (by omega)).mp zc_8
    refine lv_iconst (v := 0) hx hb dX7_isGood_11 (by decide) ?_
    exact W.eq (g2 := F0 m 12 ls [.int (zb (decide (0 < N 4)))]) (by rw [show 0 = zb (decide (0 < N 4)) from (by have zc := zc_8; simp [zb]; omega)]) cut_12
  · skip
    have zd_8 := Int32.not_le.mp zc_8
    have zc_8 := sLe0n (by omega) zc_8
    refine lv_iconst (v := 1) hx hb dX7_isGood_7 (by decide) ?_
    refine lv_goto (tgt := 12) hx hb dX7_isGood_8 (by decide) ?_
    exact W.eq (g2 := F0 m 12 ls [.int (zb (decide (0 < N 4)))]) (by rw [show 1 = zb (decide (0 < N 4)) from (by have zc := zc_8; simp [zb]; omega)]) cut_12
end
