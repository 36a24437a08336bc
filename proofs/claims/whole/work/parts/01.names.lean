-- ===== PART A: goes FIRST, ahead of the names: the tables' words, and 'selects' of the private methods out of them =====
/-- a private method of a class that the tables say can be made, by its rows of tables_1 -/
def lw_okq (q : MethodName × Nat) : Prop := (q.1.cls ≠ "java/lang/invoke/MethodHandle" ∧ q.1.cls ≠ "java/lang/invoke/VarHandle") ∧ Cond.instantiable q.1.cls q.2 ∈ tables_1 ∧ Cond.privateMethod q.1 ∈ tables_1 ∧ Cond.instanceMethod q.1 ∈ tables_1
theorem lw_p0 : lw_okq (⟨"GreenHorseUpstairs$Rooms", "measure", "()V"⟩, 2) := ⟨⟨by decide +kernel, by decide +kernel⟩, List.mem_of_getElem? (i := 29) (by decide +kernel), List.mem_of_getElem? (i := 35) (by decide +kernel), List.mem_of_getElem? (i := 36) (by decide +kernel)⟩
theorem lw_p1 : lw_okq (⟨"GreenHorseUpstairs$Rooms", "shortenBy", "(I)V"⟩, 2) := ⟨⟨by decide +kernel, by decide +kernel⟩, List.mem_of_getElem? (i := 29) (by decide +kernel), List.mem_of_getElem? (i := 39) (by decide +kernel), List.mem_of_getElem? (i := 40) (by decide +kernel)⟩
theorem lw_p2 : lw_okq (⟨"GreenHorseUpstairs", "refuse", "(I)I"⟩, 9) := ⟨⟨by decide +kernel, by decide +kernel⟩, List.mem_of_getElem? (i := 15) (by decide +kernel), List.mem_of_getElem? (i := 161) (by decide +kernel), List.mem_of_getElem? (i := 162) (by decide +kernel)⟩
theorem lw_p3 : lw_okq (⟨"GreenHorseUpstairs$Letters", "faultOfStatement", "(I)I"⟩, 2) := ⟨⟨by decide +kernel, by decide +kernel⟩, List.mem_of_getElem? (i := 116) (by decide +kernel), List.mem_of_getElem? (i := 181) (by decide +kernel), List.mem_of_getElem? (i := 182) (by decide +kernel)⟩
theorem lw_p4 : lw_okq (⟨"GreenHorseUpstairs", "performAll", "()I"⟩, 9) := ⟨⟨by decide +kernel, by decide +kernel⟩, List.mem_of_getElem? (i := 15) (by decide +kernel), List.mem_of_getElem? (i := 283) (by decide +kernel), List.mem_of_getElem? (i := 284) (by decide +kernel)⟩
theorem lw_p5 : lw_okq (⟨"GreenHorseUpstairs", "perform", "(I)Z"⟩, 9) := ⟨⟨by decide +kernel, by decide +kernel⟩, List.mem_of_getElem? (i := 15) (by decide +kernel), List.mem_of_getElem? (i := 303) (by decide +kernel), List.mem_of_getElem? (i := 304) (by decide +kernel)⟩
theorem lw_p6 : lw_okq (⟨"GreenHorseUpstairs", "performDoor", "(II)Z"⟩, 9) := ⟨⟨by decide +kernel, by decide +kernel⟩, List.mem_of_getElem? (i := 15) (by decide +kernel), List.mem_of_getElem? (i := 312) (by decide +kernel), List.mem_of_getElem? (i := 313) (by decide +kernel)⟩
theorem lw_p7 : lw_okq (⟨"GreenHorseUpstairs", "performQuestion", "(IIII)Z"⟩, 9) := ⟨⟨by decide +kernel, by decide +kernel⟩, List.mem_of_getElem? (i := 15) (by decide +kernel), List.mem_of_getElem? (i := 328) (by decide +kernel), List.mem_of_getElem? (i := 329) (by decide +kernel)⟩
theorem lw_p8 : lw_okq (⟨"GreenHorseUpstairs", "performGroup", "(III)Z"⟩, 9) := ⟨⟨by decide +kernel, by decide +kernel⟩, List.mem_of_getElem? (i := 15) (by decide +kernel), List.mem_of_getElem? (i := 336) (by decide +kernel), List.mem_of_getElem? (i := 337) (by decide +kernel)⟩
theorem lw_p9 : lw_okq (⟨"GreenHorseUpstairs", "performPlace", "(II)Z"⟩, 9) := ⟨⟨by decide +kernel, by decide +kernel⟩, List.mem_of_getElem? (i := 15) (by decide +kernel), List.mem_of_getElem? (i := 344) (by decide +kernel), List.mem_of_getElem? (i := 345) (by decide +kernel)⟩
theorem lw_p10 : lw_okq (⟨"GreenHorseUpstairs", "noGroup", "(I)Z"⟩, 9) := ⟨⟨by decide +kernel, by decide +kernel⟩, List.mem_of_getElem? (i := 15) (by decide +kernel), List.mem_of_getElem? (i := 348) (by decide +kernel), List.mem_of_getElem? (i := 349) (by decide +kernel)⟩
theorem lw_p11 : lw_okq (⟨"GreenHorseUpstairs", "performAnswer", "(III)Z"⟩, 9) := ⟨⟨by decide +kernel, by decide +kernel⟩, List.mem_of_getElem? (i := 15) (by decide +kernel), List.mem_of_getElem? (i := 356) (by decide +kernel), List.mem_of_getElem? (i := 357) (by decide +kernel)⟩
theorem lw_p12 : lw_okq (⟨"GreenHorseUpstairs", "noQuestion", "(I)Z"⟩, 9) := ⟨⟨by decide +kernel, by decide +kernel⟩, List.mem_of_getElem? (i := 15) (by decide +kernel), List.mem_of_getElem? (i := 360) (by decide +kernel), List.mem_of_getElem? (i := 361) (by decide +kernel)⟩
theorem lw_p13 : lw_okq (⟨"GreenHorseUpstairs", "performMinutes", "(I)Z"⟩, 9) := ⟨⟨by decide +kernel, by decide +kernel⟩, List.mem_of_getElem? (i := 15) (by decide +kernel), List.mem_of_getElem? (i := 368) (by decide +kernel), List.mem_of_getElem? (i := 369) (by decide +kernel)⟩
theorem lw_p14 : lw_okq (⟨"GreenHorseUpstairs$Museum", "goOnWith", "(II)V"⟩, 15) := ⟨⟨by decide +kernel, by decide +kernel⟩, List.mem_of_getElem? (i := 23) (by decide +kernel), List.mem_of_getElem? (i := 384) (by decide +kernel), List.mem_of_getElem? (i := 385) (by decide +kernel)⟩
theorem lw_p15 : lw_okq (⟨"GreenHorseUpstairs$Museum", "wouldCopy", "(II)Z"⟩, 15) := ⟨⟨by decide +kernel, by decide +kernel⟩, List.mem_of_getElem? (i := 23) (by decide +kernel), List.mem_of_getElem? (i := 397) (by decide +kernel), List.mem_of_getElem? (i := 398) (by decide +kernel)⟩
def lw_privs_1 : List (MethodName × Nat) := [(⟨"GreenHorseUpstairs$Rooms", "measure", "()V"⟩, 2), (⟨"GreenHorseUpstairs$Rooms", "shortenBy", "(I)V"⟩, 2), (⟨"GreenHorseUpstairs", "refuse", "(I)I"⟩, 9), (⟨"GreenHorseUpstairs$Letters", "faultOfStatement", "(I)I"⟩, 2), (⟨"GreenHorseUpstairs", "performAll", "()I"⟩, 9), (⟨"GreenHorseUpstairs", "perform", "(I)Z"⟩, 9), (⟨"GreenHorseUpstairs", "performDoor", "(II)Z"⟩, 9), (⟨"GreenHorseUpstairs", "performQuestion", "(IIII)Z"⟩, 9), (⟨"GreenHorseUpstairs", "performGroup", "(III)Z"⟩, 9), (⟨"GreenHorseUpstairs", "performPlace", "(II)Z"⟩, 9), (⟨"GreenHorseUpstairs", "noGroup", "(I)Z"⟩, 9), (⟨"GreenHorseUpstairs", "performAnswer", "(III)Z"⟩, 9), (⟨"GreenHorseUpstairs", "noQuestion", "(I)Z"⟩, 9), (⟨"GreenHorseUpstairs", "performMinutes", "(I)Z"⟩, 9), (⟨"GreenHorseUpstairs$Museum", "goOnWith", "(II)V"⟩, 15), (⟨"GreenHorseUpstairs$Museum", "wouldCopy", "(II)Z"⟩, 15)]
theorem lw_r1 : ∀ q ∈ lw_privs_1, lw_okq q := List.forall_mem_cons.mpr ⟨lw_p0, List.forall_mem_cons.mpr ⟨lw_p1, List.forall_mem_cons.mpr ⟨lw_p2, List.forall_mem_cons.mpr ⟨lw_p3, List.forall_mem_cons.mpr ⟨lw_p4, List.forall_mem_cons.mpr ⟨lw_p5, List.forall_mem_cons.mpr ⟨lw_p6, List.forall_mem_cons.mpr ⟨lw_p7, List.forall_mem_cons.mpr ⟨lw_p8, List.forall_mem_cons.mpr ⟨lw_p9, List.forall_mem_cons.mpr ⟨lw_p10, List.forall_mem_cons.mpr ⟨lw_p11, List.forall_mem_cons.mpr ⟨lw_p12, List.forall_mem_cons.mpr ⟨lw_p13, List.forall_mem_cons.mpr ⟨lw_p14, List.forall_mem_cons.mpr ⟨lw_p15, fun _ h => absurd h List.not_mem_nil⟩⟩⟩⟩⟩⟩⟩⟩⟩⟩⟩⟩⟩⟩⟩⟩
theorem lw_p16 : lw_okq (⟨"GreenHorseUpstairs$Museum", "sourceFor", "(II)I"⟩, 15) := ⟨⟨by decide +kernel, by decide +kernel⟩, List.mem_of_getElem? (i := 23) (by decide +kernel), List.mem_of_getElem? (i := 401) (by decide +kernel), List.mem_of_getElem? (i := 402) (by decide +kernel)⟩
theorem lw_p17 : lw_okq (⟨"GreenHorseUpstairs$Museum", "ownAnswer", "(II)I"⟩, 15) := ⟨⟨by decide +kernel, by decide +kernel⟩, List.mem_of_getElem? (i := 23) (by decide +kernel), List.mem_of_getElem? (i := 405) (by decide +kernel), List.mem_of_getElem? (i := 406) (by decide +kernel)⟩
theorem lw_p18 : lw_okq (⟨"GreenHorseUpstairs", "thinkAhead", "(I)V"⟩, 9) := ⟨⟨by decide +kernel, by decide +kernel⟩, List.mem_of_getElem? (i := 15) (by decide +kernel), List.mem_of_getElem? (i := 476) (by decide +kernel), List.mem_of_getElem? (i := 477) (by decide +kernel)⟩
theorem lw_p19 : lw_okq (⟨"GreenHorseUpstairs", "think", "()V"⟩, 9) := ⟨⟨by decide +kernel, by decide +kernel⟩, List.mem_of_getElem? (i := 15) (by decide +kernel), List.mem_of_getElem? (i := 480) (by decide +kernel), List.mem_of_getElem? (i := 481) (by decide +kernel)⟩
theorem lw_p20 : lw_okq (⟨"GreenHorseUpstairs", "minutesTillDone", "(I)I"⟩, 9) := ⟨⟨by decide +kernel, by decide +kernel⟩, List.mem_of_getElem? (i := 15) (by decide +kernel), List.mem_of_getElem? (i := 505) (by decide +kernel), List.mem_of_getElem? (i := 506) (by decide +kernel)⟩
theorem lw_p21 : lw_okq (⟨"GreenHorseUpstairs", "firstDone", "()I"⟩, 9) := ⟨⟨by decide +kernel, by decide +kernel⟩, List.mem_of_getElem? (i := 15) (by decide +kernel), List.mem_of_getElem? (i := 521) (by decide +kernel), List.mem_of_getElem? (i := 522) (by decide +kernel)⟩
theorem lw_p22 : lw_okq (⟨"GreenHorseUpstairs", "minutesTillAllDone", "()I"⟩, 9) := ⟨⟨by decide +kernel, by decide +kernel⟩, List.mem_of_getElem? (i := 15) (by decide +kernel), List.mem_of_getElem? (i := 525) (by decide +kernel), List.mem_of_getElem? (i := 526) (by decide +kernel)⟩
theorem lw_p23 : lw_okq (⟨"GreenHorseUpstairs", "fullest", "(II)I"⟩, 9) := ⟨⟨by decide +kernel, by decide +kernel⟩, List.mem_of_getElem? (i := 15) (by decide +kernel), List.mem_of_getElem? (i := 543) (by decide +kernel), List.mem_of_getElem? (i := 544) (by decide +kernel)⟩
theorem lw_p24 : lw_okq (⟨"GreenHorseUpstairs", "soonestFirst", "(I)I"⟩, 9) := ⟨⟨by decide +kernel, by decide +kernel⟩, List.mem_of_getElem? (i := 15) (by decide +kernel), List.mem_of_getElem? (i := 559) (by decide +kernel), List.mem_of_getElem? (i := 560) (by decide +kernel)⟩
theorem lw_p25 : lw_okq (⟨"GreenHorseUpstairs", "truestFirst", "(I)I"⟩, 9) := ⟨⟨by decide +kernel, by decide +kernel⟩, List.mem_of_getElem? (i := 15) (by decide +kernel), List.mem_of_getElem? (i := 563) (by decide +kernel), List.mem_of_getElem? (i := 564) (by decide +kernel)⟩
theorem lw_p26 : lw_okq (⟨"GreenHorseUpstairs", "firstsApart", "()I"⟩, 9) := ⟨⟨by decide +kernel, by decide +kernel⟩, List.mem_of_getElem? (i := 15) (by decide +kernel), List.mem_of_getElem? (i := 571) (by decide +kernel), List.mem_of_getElem? (i := 572) (by decide +kernel)⟩
theorem lw_p27 : lw_okq (⟨"GreenHorseUpstairs", "fullestWith", "(I)I"⟩, 9) := ⟨⟨by decide +kernel, by decide +kernel⟩, List.mem_of_getElem? (i := 15) (by decide +kernel), List.mem_of_getElem? (i := 575) (by decide +kernel), List.mem_of_getElem? (i := 576) (by decide +kernel)⟩
theorem lw_p28 : lw_okq (⟨"GreenHorseUpstairs", "firstIn", "(II)I"⟩, 9) := ⟨⟨by decide +kernel, by decide +kernel⟩, List.mem_of_getElem? (i := 15) (by decide +kernel), List.mem_of_getElem? (i := 579) (by decide +kernel), List.mem_of_getElem? (i := 580) (by decide +kernel)⟩
theorem lw_p29 : lw_okq (⟨"GreenHorseUpstairs", "minutesOfAllTogether", "()I"⟩, 9) := ⟨⟨by decide +kernel, by decide +kernel⟩, List.mem_of_getElem? (i := 15) (by decide +kernel), List.mem_of_getElem? (i := 608) (by decide +kernel), List.mem_of_getElem? (i := 609) (by decide +kernel)⟩
theorem lw_p30 : lw_okq (⟨"GreenHorseUpstairs", "isContent", "(IIII)Z"⟩, 9) := ⟨⟨by decide +kernel, by decide +kernel⟩, List.mem_of_getElem? (i := 15) (by decide +kernel), List.mem_of_getElem? (i := 616) (by decide +kernel), List.mem_of_getElem? (i := 617) (by decide +kernel)⟩
theorem lw_p31 : lw_okq (⟨"GreenHorseUpstairs", "minutesByChoice", "(IIII)I"⟩, 9) := ⟨⟨by decide +kernel, by decide +kernel⟩, List.mem_of_getElem? (i := 15) (by decide +kernel), List.mem_of_getElem? (i := 620) (by decide +kernel), List.mem_of_getElem? (i := 621) (by decide +kernel)⟩
def lw_privs_2 : List (MethodName × Nat) := [(⟨"GreenHorseUpstairs$Museum", "sourceFor", "(II)I"⟩, 15), (⟨"GreenHorseUpstairs$Museum", "ownAnswer", "(II)I"⟩, 15), (⟨"GreenHorseUpstairs", "thinkAhead", "(I)V"⟩, 9), (⟨"GreenHorseUpstairs", "think", "()V"⟩, 9), (⟨"GreenHorseUpstairs", "minutesTillDone", "(I)I"⟩, 9), (⟨"GreenHorseUpstairs", "firstDone", "()I"⟩, 9), (⟨"GreenHorseUpstairs", "minutesTillAllDone", "()I"⟩, 9), (⟨"GreenHorseUpstairs", "fullest", "(II)I"⟩, 9), (⟨"GreenHorseUpstairs", "soonestFirst", "(I)I"⟩, 9), (⟨"GreenHorseUpstairs", "truestFirst", "(I)I"⟩, 9), (⟨"GreenHorseUpstairs", "firstsApart", "()I"⟩, 9), (⟨"GreenHorseUpstairs", "fullestWith", "(I)I"⟩, 9), (⟨"GreenHorseUpstairs", "firstIn", "(II)I"⟩, 9), (⟨"GreenHorseUpstairs", "minutesOfAllTogether", "()I"⟩, 9), (⟨"GreenHorseUpstairs", "isContent", "(IIII)Z"⟩, 9), (⟨"GreenHorseUpstairs", "minutesByChoice", "(IIII)I"⟩, 9)]
theorem lw_r2 : ∀ q ∈ lw_privs_2, lw_okq q := List.forall_mem_cons.mpr ⟨lw_p16, List.forall_mem_cons.mpr ⟨lw_p17, List.forall_mem_cons.mpr ⟨lw_p18, List.forall_mem_cons.mpr ⟨lw_p19, List.forall_mem_cons.mpr ⟨lw_p20, List.forall_mem_cons.mpr ⟨lw_p21, List.forall_mem_cons.mpr ⟨lw_p22, List.forall_mem_cons.mpr ⟨lw_p23, List.forall_mem_cons.mpr ⟨lw_p24, List.forall_mem_cons.mpr ⟨lw_p25, List.forall_mem_cons.mpr ⟨lw_p26, List.forall_mem_cons.mpr ⟨lw_p27, List.forall_mem_cons.mpr ⟨lw_p28, List.forall_mem_cons.mpr ⟨lw_p29, List.forall_mem_cons.mpr ⟨lw_p30, List.forall_mem_cons.mpr ⟨lw_p31, fun _ h => absurd h List.not_mem_nil⟩⟩⟩⟩⟩⟩⟩⟩⟩⟩⟩⟩⟩⟩⟩⟩
theorem lw_p32 : lw_okq (⟨"GreenHorseUpstairs", "firstChosen", "(II)I"⟩, 9) := ⟨⟨by decide +kernel, by decide +kernel⟩, List.mem_of_getElem? (i := 15) (by decide +kernel), List.mem_of_getElem? (i := 624) (by decide +kernel), List.mem_of_getElem? (i := 625) (by decide +kernel)⟩
theorem lw_p33 : lw_okq (⟨"GreenHorseUpstairs", "rowTellsSheetOf", "(I)Z"⟩, 9) := ⟨⟨by decide +kernel, by decide +kernel⟩, List.mem_of_getElem? (i := 15) (by decide +kernel), List.mem_of_getElem? (i := 636) (by decide +kernel), List.mem_of_getElem? (i := 637) (by decide +kernel)⟩
theorem lw_p34 : lw_okq (⟨"GreenHorseUpstairsModel", "no", "(I)I"⟩, 17) := ⟨⟨by decide +kernel, by decide +kernel⟩, List.mem_of_getElem? (i := 691) (by decide +kernel), List.mem_of_getElem? (i := 753) (by decide +kernel), List.mem_of_getElem? (i := 754) (by decide +kernel)⟩
theorem lw_p35 : lw_okq (⟨"GreenHorseUpstairsModel", "readsStatement", "()Z"⟩, 17) := ⟨⟨by decide +kernel, by decide +kernel⟩, List.mem_of_getElem? (i := 691) (by decide +kernel), List.mem_of_getElem? (i := 761) (by decide +kernel), List.mem_of_getElem? (i := 762) (by decide +kernel)⟩
theorem lw_p36 : lw_okq (⟨"GreenHorseUpstairsModel", "here", "()I"⟩, 17) := ⟨⟨by decide +kernel, by decide +kernel⟩, List.mem_of_getElem? (i := 691) (by decide +kernel), List.mem_of_getElem? (i := 765) (by decide +kernel), List.mem_of_getElem? (i := 766) (by decide +kernel)⟩
theorem lw_p37 : lw_okq (⟨"GreenHorseUpstairsModel", "readsDigit", "(I)Z"⟩, 17) := ⟨⟨by decide +kernel, by decide +kernel⟩, List.mem_of_getElem? (i := 691) (by decide +kernel), List.mem_of_getElem? (i := 769) (by decide +kernel), List.mem_of_getElem? (i := 770) (by decide +kernel)⟩
theorem lw_p38 : lw_okq (⟨"GreenHorseUpstairsModel", "readsKind", "()Z"⟩, 17) := ⟨⟨by decide +kernel, by decide +kernel⟩, List.mem_of_getElem? (i := 691) (by decide +kernel), List.mem_of_getElem? (i := 776) (by decide +kernel), List.mem_of_getElem? (i := 777) (by decide +kernel)⟩
theorem lw_p39 : lw_okq (⟨"GreenHorseUpstairsModel", "isDone", "(I)Z"⟩, 17) := ⟨⟨by decide +kernel, by decide +kernel⟩, List.mem_of_getElem? (i := 691) (by decide +kernel), List.mem_of_getElem? (i := 786) (by decide +kernel), List.mem_of_getElem? (i := 787) (by decide +kernel)⟩
theorem lw_p40 : lw_okq (⟨"GreenHorseUpstairsModel", "turnsDoor", "(II)V"⟩, 17) := ⟨⟨by decide +kernel, by decide +kernel⟩, List.mem_of_getElem? (i := 691) (by decide +kernel), List.mem_of_getElem? (i := 793) (by decide +kernel), List.mem_of_getElem? (i := 794) (by decide +kernel)⟩
theorem lw_p41 : lw_okq (⟨"GreenHorseUpstairsModel", "isGroup", "(I)Z"⟩, 17) := ⟨⟨by decide +kernel, by decide +kernel⟩, List.mem_of_getElem? (i := 691) (by decide +kernel), List.mem_of_getElem? (i := 806) (by decide +kernel), List.mem_of_getElem? (i := 807) (by decide +kernel)⟩
theorem lw_p42 : lw_okq (⟨"GreenHorseUpstairsModel", "isQuestion", "(I)Z"⟩, 17) := ⟨⟨by decide +kernel, by decide +kernel⟩, List.mem_of_getElem? (i := 691) (by decide +kernel), List.mem_of_getElem? (i := 810) (by decide +kernel), List.mem_of_getElem? (i := 811) (by decide +kernel)⟩
theorem lw_p43 : lw_okq (⟨"GreenHorseUpstairsModel", "minutesOn", "([II)V"⟩, 17) := ⟨⟨by decide +kernel, by decide +kernel⟩, List.mem_of_getElem? (i := 691) (by decide +kernel), List.mem_of_getElem? (i := 814) (by decide +kernel), List.mem_of_getElem? (i := 815) (by decide +kernel)⟩
theorem lw_p44 : lw_okq (⟨"GreenHorseUpstairsModel", "minute", "([I)V"⟩, 17) := ⟨⟨by decide +kernel, by decide +kernel⟩, List.mem_of_getElem? (i := 691) (by decide +kernel), List.mem_of_getElem? (i := 818) (by decide +kernel), List.mem_of_getElem? (i := 819) (by decide +kernel)⟩
theorem lw_p45 : lw_okq (⟨"GreenHorseUpstairsModel", "goes", "([II)V"⟩, 17) := ⟨⟨by decide +kernel, by decide +kernel⟩, List.mem_of_getElem? (i := 691) (by decide +kernel), List.mem_of_getElem? (i := 822) (by decide +kernel), List.mem_of_getElem? (i := 823) (by decide +kernel)⟩
theorem lw_p46 : lw_okq (⟨"GreenHorseUpstairsModel", "onward", "([III)I"⟩, 17) := ⟨⟨by decide +kernel, by decide +kernel⟩, List.mem_of_getElem? (i := 691) (by decide +kernel), List.mem_of_getElem? (i := 829) (by decide +kernel), List.mem_of_getElem? (i := 830) (by decide +kernel)⟩
theorem lw_p47 : lw_okq (⟨"GreenHorseUpstairsModel", "doorsTo", "([II)V"⟩, 17) := ⟨⟨by decide +kernel, by decide +kernel⟩, List.mem_of_getElem? (i := 691) (by decide +kernel), List.mem_of_getElem? (i := 833) (by decide +kernel), List.mem_of_getElem? (i := 834) (by decide +kernel)⟩
def lw_privs_3 : List (MethodName × Nat) := [(⟨"GreenHorseUpstairs", "firstChosen", "(II)I"⟩, 9), (⟨"GreenHorseUpstairs", "rowTellsSheetOf", "(I)Z"⟩, 9), (⟨"GreenHorseUpstairsModel", "no", "(I)I"⟩, 17), (⟨"GreenHorseUpstairsModel", "readsStatement", "()Z"⟩, 17), (⟨"GreenHorseUpstairsModel", "here", "()I"⟩, 17), (⟨"GreenHorseUpstairsModel", "readsDigit", "(I)Z"⟩, 17), (⟨"GreenHorseUpstairsModel", "readsKind", "()Z"⟩, 17), (⟨"GreenHorseUpstairsModel", "isDone", "(I)Z"⟩, 17), (⟨"GreenHorseUpstairsModel", "turnsDoor", "(II)V"⟩, 17), (⟨"GreenHorseUpstairsModel", "isGroup", "(I)Z"⟩, 17), (⟨"GreenHorseUpstairsModel", "isQuestion", "(I)Z"⟩, 17), (⟨"GreenHorseUpstairsModel", "minutesOn", "([II)V"⟩, 17), (⟨"GreenHorseUpstairsModel", "minute", "([I)V"⟩, 17), (⟨"GreenHorseUpstairsModel", "goes", "([II)V"⟩, 17), (⟨"GreenHorseUpstairsModel", "onward", "([III)I"⟩, 17), (⟨"GreenHorseUpstairsModel", "doorsTo", "([II)V"⟩, 17)]
theorem lw_r3 : ∀ q ∈ lw_privs_3, lw_okq q := List.forall_mem_cons.mpr ⟨lw_p32, List.forall_mem_cons.mpr ⟨lw_p33, List.forall_mem_cons.mpr ⟨lw_p34, List.forall_mem_cons.mpr ⟨lw_p35, List.forall_mem_cons.mpr ⟨lw_p36, List.forall_mem_cons.mpr ⟨lw_p37, List.forall_mem_cons.mpr ⟨lw_p38, List.forall_mem_cons.mpr ⟨lw_p39, List.forall_mem_cons.mpr ⟨lw_p40, List.forall_mem_cons.mpr ⟨lw_p41, List.forall_mem_cons.mpr ⟨lw_p42, List.forall_mem_cons.mpr ⟨lw_p43, List.forall_mem_cons.mpr ⟨lw_p44, List.forall_mem_cons.mpr ⟨lw_p45, List.forall_mem_cons.mpr ⟨lw_p46, List.forall_mem_cons.mpr ⟨lw_p47, fun _ h => absurd h List.not_mem_nil⟩⟩⟩⟩⟩⟩⟩⟩⟩⟩⟩⟩⟩⟩⟩⟩
theorem lw_p48 : lw_okq (⟨"GreenHorseUpstairsModel", "doors", "([III)I"⟩, 17) := ⟨⟨by decide +kernel, by decide +kernel⟩, List.mem_of_getElem? (i := 691) (by decide +kernel), List.mem_of_getElem? (i := 854) (by decide +kernel), List.mem_of_getElem? (i := 855) (by decide +kernel)⟩
theorem lw_p49 : lw_okq (⟨"GreenHorseUpstairsModel", "begins", "()V"⟩, 17) := ⟨⟨by decide +kernel, by decide +kernel⟩, List.mem_of_getElem? (i := 691) (by decide +kernel), List.mem_of_getElem? (i := 903) (by decide +kernel), List.mem_of_getElem? (i := 904) (by decide +kernel)⟩
theorem lw_p50 : lw_okq (⟨"GreenHorseUpstairsModel", "doneNow", "(I)I"⟩, 17) := ⟨⟨by decide +kernel, by decide +kernel⟩, List.mem_of_getElem? (i := 691) (by decide +kernel), List.mem_of_getElem? (i := 917) (by decide +kernel), List.mem_of_getElem? (i := 918) (by decide +kernel)⟩
theorem lw_p51 : lw_okq (⟨"GreenHorseUpstairsModel", "doneIn", "(I)I"⟩, 17) := ⟨⟨by decide +kernel, by decide +kernel⟩, List.mem_of_getElem? (i := 691) (by decide +kernel), List.mem_of_getElem? (i := 921) (by decide +kernel), List.mem_of_getElem? (i := 922) (by decide +kernel)⟩
theorem lw_p52 : lw_okq (⟨"GreenHorseUpstairsModel", "allDoneIn", "()I"⟩, 17) := ⟨⟨by decide +kernel, by decide +kernel⟩, List.mem_of_getElem? (i := 691) (by decide +kernel), List.mem_of_getElem? (i := 932) (by decide +kernel), List.mem_of_getElem? (i := 933) (by decide +kernel)⟩
theorem lw_p53 : lw_okq (⟨"GreenHorseUpstairsModel", "findsFull", "(I)V"⟩, 17) := ⟨⟨by decide +kernel, by decide +kernel⟩, List.mem_of_getElem? (i := 691) (by decide +kernel), List.mem_of_getElem? (i := 947) (by decide +kernel), List.mem_of_getElem? (i := 948) (by decide +kernel)⟩
theorem lw_p54 : lw_okq (⟨"GreenHorseUpstairsModel", "leaves", "(I)V"⟩, 17) := ⟨⟨by decide +kernel, by decide +kernel⟩, List.mem_of_getElem? (i := 691) (by decide +kernel), List.mem_of_getElem? (i := 970) (by decide +kernel), List.mem_of_getElem? (i := 971) (by decide +kernel)⟩
theorem lw_p55 : lw_okq (⟨"GreenHorseUpstairsModel", "noFar", "(I)I"⟩, 17) := ⟨⟨by decide +kernel, by decide +kernel⟩, List.mem_of_getElem? (i := 691) (by decide +kernel), List.mem_of_getElem? (i := 990) (by decide +kernel), List.mem_of_getElem? (i := 991) (by decide +kernel)⟩
theorem lw_p56 : lw_okq (⟨"GreenHorseUpstairsModel", "orNever", "(I)I"⟩, 17) := ⟨⟨by decide +kernel, by decide +kernel⟩, List.mem_of_getElem? (i := 691) (by decide +kernel), List.mem_of_getElem? (i := 994) (by decide +kernel), List.mem_of_getElem? (i := 995) (by decide +kernel)⟩
theorem lw_p57 : lw_okq (⟨"GreenHorseUpstairsModel", "doneBy", "(IIIII)I"⟩, 17) := ⟨⟨by decide +kernel, by decide +kernel⟩, List.mem_of_getElem? (i := 691) (by decide +kernel), List.mem_of_getElem? (i := 1002) (by decide +kernel), List.mem_of_getElem? (i := 1003) (by decide +kernel)⟩
theorem lw_p58 : lw_okq (⟨"GreenHorseUpstairsModel", "isTold", "(I)Z"⟩, 17) := ⟨⟨by decide +kernel, by decide +kernel⟩, List.mem_of_getElem? (i := 691) (by decide +kernel), List.mem_of_getElem? (i := 1018) (by decide +kernel), List.mem_of_getElem? (i := 1019) (by decide +kernel)⟩
theorem lw_p59 : lw_okq (⟨"GreenHorseUpstairsModel", "drawn", "(I)I"⟩, 17) := ⟨⟨by decide +kernel, by decide +kernel⟩, List.mem_of_getElem? (i := 691) (by decide +kernel), List.mem_of_getElem? (i := 1034) (by decide +kernel), List.mem_of_getElem? (i := 1035) (by decide +kernel)⟩
def lw_privs_4 : List (MethodName × Nat) := [(⟨"GreenHorseUpstairsModel", "doors", "([III)I"⟩, 17), (⟨"GreenHorseUpstairsModel", "begins", "()V"⟩, 17), (⟨"GreenHorseUpstairsModel", "doneNow", "(I)I"⟩, 17), (⟨"GreenHorseUpstairsModel", "doneIn", "(I)I"⟩, 17), (⟨"GreenHorseUpstairsModel", "allDoneIn", "()I"⟩, 17), (⟨"GreenHorseUpstairsModel", "findsFull", "(I)V"⟩, 17), (⟨"GreenHorseUpstairsModel", "leaves", "(I)V"⟩, 17), (⟨"GreenHorseUpstairsModel", "noFar", "(I)I"⟩, 17), (⟨"GreenHorseUpstairsModel", "orNever", "(I)I"⟩, 17), (⟨"GreenHorseUpstairsModel", "doneBy", "(IIIII)I"⟩, 17), (⟨"GreenHorseUpstairsModel", "isTold", "(I)Z"⟩, 17), (⟨"GreenHorseUpstairsModel", "drawn", "(I)I"⟩, 17)]
theorem lw_r4 : ∀ q ∈ lw_privs_4, lw_okq q := List.forall_mem_cons.mpr ⟨lw_p48, List.forall_mem_cons.mpr ⟨lw_p49, List.forall_mem_cons.mpr ⟨lw_p50, List.forall_mem_cons.mpr ⟨lw_p51, List.forall_mem_cons.mpr ⟨lw_p52, List.forall_mem_cons.mpr ⟨lw_p53, List.forall_mem_cons.mpr ⟨lw_p54, List.forall_mem_cons.mpr ⟨lw_p55, List.forall_mem_cons.mpr ⟨lw_p56, List.forall_mem_cons.mpr ⟨lw_p57, List.forall_mem_cons.mpr ⟨lw_p58, List.forall_mem_cons.mpr ⟨lw_p59, fun _ h => absurd h List.not_mem_nil⟩⟩⟩⟩⟩⟩⟩⟩⟩⟩⟩⟩
def lw_privs : List (MethodName × Nat) := lw_privs_1 ++ (lw_privs_2 ++ (lw_privs_3 ++ (lw_privs_4)))
def lw_tbl : List Cond := k2_sels lw_privs ++ tables_1
theorem lw_privs_ok : ∀ q ∈ lw_privs, lw_okq q := by
  show ∀ q ∈ lw_privs_1 ++ (lw_privs_2 ++ (lw_privs_3 ++ (lw_privs_4))), lw_okq q
  exact List.forall_mem_append.mpr ⟨lw_r1, List.forall_mem_append.mpr ⟨lw_r2, List.forall_mem_append.mpr ⟨lw_r3, lw_r4⟩⟩⟩
def RX0 : String := "GreenHorseUpstairs$Letters"
def TX0 : u_T := fun k => match k with
  | 0 => ("GreenHorseUpstairs$Letters", "signs", "[I", true)
  | _ => ("GreenHorseUpstairs$Letters", "length", "I", false)
def tyX0 : Nat → FieldType := fun k => match k with
  | 0 => .array .int
  | _ => .int
abbrev wsX00 : List Cond := u_ws RX0 TX0 2
theorem nmX0 : ∀ a, a < 2 → ∀ b, b < 2 → a ≠ b → (TX0 a).2.1 ≠ (TX0 b).2.1 := by decide +kernel
theorem tyX0_ok : ∀ k, k < 2 → parseFieldDescriptor (TX0 k).2.2.1 = some (tyX0 k) := by decide +kernel
abbrev cX0_init : ByteArray := prog_2_method_1_code
def yX0_init : MethodName := ⟨RX0, "<init>", "()V"⟩
abbrev cX0_length : ByteArray := prog_2_method_2_code
def yX0_length : MethodName := ⟨RX0, "length", "()I"⟩
abbrev cX0_isFull : ByteArray := prog_2_method_3_code
def yX0_isFull : MethodName := ⟨RX0, "isFull", "()Z"⟩
abbrev cX0_append : ByteArray := prog_2_method_4_code
def yX0_append : MethodName := ⟨RX0, "append", "(I)I"⟩
abbrev cX0_forget : ByteArray := prog_2_method_5_code
def yX0_forget : MethodName := ⟨RX0, "forget", "()V"⟩
abbrev cX0_at : ByteArray := prog_2_method_6_code
def yX0_at : MethodName := ⟨RX0, "at", "(I)I"⟩
abbrev cX0_digit : ByteArray := prog_2_method_7_code
def yX0_digit : MethodName := ⟨RX0, "digit", "(I)I"⟩
abbrev cX0_kindOf : ByteArray := prog_2_method_8_code
def yX0_kindOf : MethodName := ⟨RX0, "kindOf", "(I)I"⟩
abbrev cX0_signsBehind : ByteArray := prog_2_method_9_code
def yX0_signsBehind : MethodName := ⟨RX0, "signsBehind", "(I)I"⟩
abbrev cX0_faultOfForm : ByteArray := prog_2_method_10_code
def yX0_faultOfForm : MethodName := ⟨RX0, "faultOfForm", "()I"⟩
abbrev cX0_faultOfStatement : ByteArray := prog_2_method_11_code
def yX0_faultOfStatement : MethodName := ⟨RX0, "faultOfStatement", "(I)I"⟩
abbrev cX0_fits : ByteArray := prog_2_method_12_code
def yX0_fits : MethodName := ⟨RX0, "fits", "(IIII)Z"⟩
def RX1 : String := "GreenHorseUpstairs$Museum"
def TX1 : u_T := fun k => match k with
  | 0 => ("GreenHorseUpstairs$Museum", "rooms", "LGreenHorseUpstairs$Rooms;", true)
  | 1 => ("GreenHorseUpstairs$Museum", "minute", "I", false)
  | 2 => ("GreenHorseUpstairs$Museum", "questions", "I", false)
  | 3 => ("GreenHorseUpstairs$Museum", "kind", "[I", true)
  | 4 => ("GreenHorseUpstairs$Museum", "figure", "[I", true)
  | 5 => ("GreenHorseUpstairs$Museum", "room", "[I", true)
  | 6 => ("GreenHorseUpstairs$Museum", "truth", "[I", true)
  | 7 => ("GreenHorseUpstairs$Museum", "groups", "I", false)
  | 8 => ("GreenHorseUpstairs$Museum", "tall", "[I", true)
  | 9 => ("GreenHorseUpstairs$Museum", "wit", "[I", true)
  | 10 => ("GreenHorseUpstairs$Museum", "first", "[I", true)
  | 11 => ("GreenHorseUpstairs$Museum", "at", "[I", true)
  | 12 => ("GreenHorseUpstairs$Museum", "looked", "[I", true)
  | 13 => ("GreenHorseUpstairs$Museum", "sheets", "[I", true)
  | _ => ("GreenHorseUpstairs$Museum", "sources", "[I", true)
def tyX1 : Nat → FieldType := fun k => match k with
  | 0 => .object "GreenHorseUpstairs$Rooms"
  | 1 => .int
  | 2 => .int
  | 3 => .array .int
  | 4 => .array .int
  | 5 => .array .int
  | 6 => .array .int
  | 7 => .int
  | 8 => .array .int
  | 9 => .array .int
  | 10 => .array .int
  | 11 => .array .int
  | 12 => .array .int
  | 13 => .array .int
  | _ => .array .int
abbrev wsX10 : List Cond := u_ws RX1 TX1 15
theorem nmX1 : ∀ a, a < 15 → ∀ b, b < 15 → a ≠ b → (TX1 a).2.1 ≠ (TX1 b).2.1 := by decide +kernel
theorem tyX1_ok : ∀ k, k < 15 → parseFieldDescriptor (TX1 k).2.2.1 = some (tyX1 k) := by decide +kernel
abbrev cX1_init : ByteArray := prog_3_method_1_code
def yX1_init : MethodName := ⟨RX1, "<init>", "()V"⟩
abbrev cX1_become : ByteArray := prog_3_method_2_code
def yX1_become : MethodName := ⟨RX1, "become", "(LGreenHorseUpstairs$Museum;)V"⟩
abbrev cX1_forgetCopies : ByteArray := prog_3_method_3_code
def yX1_forgetCopies : MethodName := ⟨RX1, "forgetCopies", "()V"⟩
abbrev cX1_addQuestion : ByteArray := prog_3_method_4_code
def yX1_addQuestion : MethodName := ⟨RX1, "addQuestion", "(IIII)V"⟩
abbrev cX1_addGroup : ByteArray := prog_3_method_5_code
def yX1_addGroup : MethodName := ⟨RX1, "addGroup", "(III)V"⟩
abbrev cX1_place : ByteArray := prog_3_method_6_code
def yX1_place : MethodName := ⟨RX1, "place", "(II)V"⟩
abbrev cX1_answerOf : ByteArray := prog_3_method_7_code
def yX1_answerOf : MethodName := ⟨RX1, "answerOf", "(II)I"⟩
abbrev cX1_fill : ByteArray := prog_3_method_8_code
def yX1_fill : MethodName := ⟨RX1, "fill", "(III)V"⟩
abbrev cX1_fillTruth : ByteArray := prog_3_method_9_code
def yX1_fillTruth : MethodName := ⟨RX1, "fillTruth", "(I)V"⟩
abbrev cX1_sourceOf : ByteArray := prog_3_method_10_code
def yX1_sourceOf : MethodName := ⟨RX1, "sourceOf", "(II)I"⟩
abbrev cX1_nextQuestion : ByteArray := prog_3_method_11_code
def yX1_nextQuestion : MethodName := ⟨RX1, "nextQuestion", "(I)I"⟩
abbrev cX1_isDone : ByteArray := prog_3_method_12_code
def yX1_isDone : MethodName := ⟨RX1, "isDone", "(I)Z"⟩
abbrev cX1_undone : ByteArray := prog_3_method_13_code
def yX1_undone : MethodName := ⟨RX1, "undone", "()I"⟩
abbrev cX1_minutesFor : ByteArray := prog_3_method_14_code
def yX1_minutesFor : MethodName := ⟨RX1, "minutesFor", "(I)I"⟩
abbrev cX1_passMinutes : ByteArray := prog_3_method_15_code
def yX1_passMinutes : MethodName := ⟨RX1, "passMinutes", "(I)V"⟩
abbrev cX1_passMinute : ByteArray := prog_3_method_16_code
def yX1_passMinute : MethodName := ⟨RX1, "passMinute", "()V"⟩
abbrev cX1_goOnWith : ByteArray := prog_3_method_17_code
def yX1_goOnWith : MethodName := ⟨RX1, "goOnWith", "(II)V"⟩
abbrev cX1_wouldCopy : ByteArray := prog_3_method_18_code
def yX1_wouldCopy : MethodName := ⟨RX1, "wouldCopy", "(II)Z"⟩
abbrev cX1_sourceFor : ByteArray := prog_3_method_19_code
def yX1_sourceFor : MethodName := ⟨RX1, "sourceFor", "(II)I"⟩
abbrev cX1_ownAnswer : ByteArray := prog_3_method_20_code
def yX1_ownAnswer : MethodName := ⟨RX1, "ownAnswer", "(II)I"⟩
abbrev cX1_answersOf : ByteArray := prog_3_method_21_code
def yX1_answersOf : MethodName := ⟨RX1, "answersOf", "(I)I"⟩
abbrev cX1_rightOf : ByteArray := prog_3_method_22_code
def yX1_rightOf : MethodName := ⟨RX1, "rightOf", "(I)I"⟩
abbrev cX1_copiedBy : ByteArray := prog_3_method_23_code
def yX1_copiedBy : MethodName := ⟨RX1, "copiedBy", "(I)I"⟩
abbrev cX1_answersOfAll : ByteArray := prog_3_method_24_code
def yX1_answersOfAll : MethodName := ⟨RX1, "answersOfAll", "()I"⟩
abbrev cX1_rightOfAll : ByteArray := prog_3_method_25_code
def yX1_rightOfAll : MethodName := ⟨RX1, "rightOfAll", "()I"⟩
abbrev cX1_copiedByAll : ByteArray := prog_3_method_26_code
def yX1_copiedByAll : MethodName := ⟨RX1, "copiedByAll", "()I"⟩
abbrev cX1_groupsAt : ByteArray := prog_3_method_27_code
def yX1_groupsAt : MethodName := ⟨RX1, "groupsAt", "(I)I"⟩
def RX2 : String := "GreenHorseUpstairs$Rooms"
def TX2 : u_T := fun k => match k with
  | 0 => ("GreenHorseUpstairs$Rooms", "open", "[I", true)
  | _ => ("GreenHorseUpstairs$Rooms", "far", "[I", true)
def tyX2 : Nat → FieldType := fun k => match k with
  | 0 => .array .int
  | _ => .array .int
abbrev wsX20 : List Cond := u_ws RX2 TX2 2
theorem nmX2 : ∀ a, a < 2 → ∀ b, b < 2 → a ≠ b → (TX2 a).2.1 ≠ (TX2 b).2.1 := by decide +kernel
theorem tyX2_ok : ∀ k, k < 2 → parseFieldDescriptor (TX2 k).2.2.1 = some (tyX2 k) := by decide +kernel
abbrev cX2_init : ByteArray := prog_4_method_1_code
def yX2_init : MethodName := ⟨RX2, "<init>", "()V"⟩
abbrev cX2_become : ByteArray := prog_4_method_2_code
def yX2_become : MethodName := ⟨RX2, "become", "(LGreenHorseUpstairs$Rooms;)V"⟩
abbrev cX2_isOpen : ByteArray := prog_4_method_3_code
def yX2_isOpen : MethodName := ⟨RX2, "isOpen", "(II)Z"⟩
abbrev cX2_turn : ByteArray := prog_4_method_4_code
def yX2_turn : MethodName := ⟨RX2, "turn", "(II)V"⟩
abbrev cX2_doors : ByteArray := prog_4_method_5_code
def yX2_doors : MethodName := ⟨RX2, "doors", "()I"⟩
abbrev cX2_distance : ByteArray := prog_4_method_6_code
def yX2_distance : MethodName := ⟨RX2, "distance", "(II)I"⟩
abbrev cX2_towards : ByteArray := prog_4_method_7_code
def yX2_towards : MethodName := ⟨RX2, "towards", "(II)I"⟩
abbrev cX2_measure : ByteArray := prog_4_method_8_code
def yX2_measure : MethodName := ⟨RX2, "measure", "()V"⟩
abbrev cX2_shortenBy : ByteArray := prog_4_method_9_code
def yX2_shortenBy : MethodName := ⟨RX2, "shortenBy", "(I)V"⟩
def RX3 : String := "GreenHorseUpstairs"
def TX3 : u_T := fun k => match k with
  | 0 => ("GreenHorseUpstairs", "now", "LGreenHorseUpstairs$Museum;", true)
  | 1 => ("GreenHorseUpstairs", "thought", "LGreenHorseUpstairs$Museum;", true)
  | 2 => ("GreenHorseUpstairs", "kept", "LGreenHorseUpstairs$Museum;", true)
  | 3 => ("GreenHorseUpstairs", "image", "LGreenHorseUpstairs$Museum;", true)
  | 4 => ("GreenHorseUpstairs", "imageTaken", "Z", false)
  | 5 => ("GreenHorseUpstairs", "letters", "LGreenHorseUpstairs$Letters;", true)
  | 6 => ("GreenHorseUpstairs", "row", "[I", true)
  | 7 => ("GreenHorseUpstairs", "rowLength", "I", false)
  | _ => ("GreenHorseUpstairs", "refusals", "[I", true)
def tyX3 : Nat → FieldType := fun k => match k with
  | 0 => .object "GreenHorseUpstairs$Museum"
  | 1 => .object "GreenHorseUpstairs$Museum"
  | 2 => .object "GreenHorseUpstairs$Museum"
  | 3 => .object "GreenHorseUpstairs$Museum"
  | 4 => .boolean
  | 5 => .object "GreenHorseUpstairs$Letters"
  | 6 => .array .int
  | 7 => .int
  | _ => .array .int
abbrev wsX30 : List Cond := u_ws RX3 TX3 9
theorem nmX3 : ∀ a, a < 9 → ∀ b, b < 9 → a ≠ b → (TX3 a).2.1 ≠ (TX3 b).2.1 := by decide +kernel
theorem tyX3_ok : ∀ k, k < 9 → parseFieldDescriptor (TX3 k).2.2.1 = some (tyX3 k) := by decide +kernel
abbrev cX3_init : ByteArray := prog_1_method_1_code
def yX3_init : MethodName := ⟨RX3, "<init>", "()V"⟩
abbrev cX3_letter : ByteArray := prog_1_method_2_code
def yX3_letter : MethodName := ⟨RX3, "letter", "(I)I"⟩
abbrev cX3_museum : ByteArray := prog_1_method_3_code
def yX3_museum : MethodName := ⟨RX3, "museum", "()I"⟩
abbrev cX3_door : ByteArray := prog_1_method_4_code
def yX3_door : MethodName := ⟨RX3, "door", "(II)I"⟩
abbrev cX3_question : ByteArray := prog_1_method_5_code
def yX3_question : MethodName := ⟨RX3, "question", "(II)I"⟩
abbrev cX3_group : ByteArray := prog_1_method_6_code
def yX3_group : MethodName := ⟨RX3, "group", "(II)I"⟩
abbrev cX3_sheet : ByteArray := prog_1_method_7_code
def yX3_sheet : MethodName := ⟨RX3, "sheet", "(II)I"⟩
abbrev cX3_opens : ByteArray := prog_1_method_8_code
def yX3_opens : MethodName := ⟨RX3, "opens", "(II)I"⟩
abbrev cX3_put : ByteArray := prog_1_method_9_code
def yX3_put : MethodName := ⟨RX3, "put", "(II)I"⟩
abbrev cX3_start : ByteArray := prog_1_method_10_code
def yX3_start : MethodName := ⟨RX3, "start", "(II)I"⟩
abbrev cX3_write : ByteArray := prog_1_method_11_code
def yX3_write : MethodName := ⟨RX3, "write", "(III)I"⟩
abbrev cX3_minutes : ByteArray := prog_1_method_12_code
def yX3_minutes : MethodName := ⟨RX3, "minutes", "(I)I"⟩
abbrev cX3_behind : ByteArray := prog_1_method_13_code
def yX3_behind : MethodName := ⟨RX3, "behind", "(III)I"⟩
abbrev cX3_done : ByteArray := prog_1_method_14_code
def yX3_done : MethodName := ⟨RX3, "done", "(I)I"⟩
abbrev cX3_ended : ByteArray := prog_1_method_15_code
def yX3_ended : MethodName := ⟨RX3, "ended", "(I)I"⟩
abbrev cX3_answer : ByteArray := prog_1_method_16_code
def yX3_answer : MethodName := ⟨RX3, "answer", "(III)I"⟩
abbrev cX3_full : ByteArray := prog_1_method_17_code
def yX3_full : MethodName := ⟨RX3, "full", "(II)I"⟩
abbrev cX3_right : ByteArray := prog_1_method_18_code
def yX3_right : MethodName := ⟨RX3, "right", "(I)I"⟩
abbrev cX3_bestFirst : ByteArray := prog_1_method_19_code
def yX3_bestFirst : MethodName := ⟨RX3, "bestFirst", "(II)I"⟩
abbrev cX3_apart : ByteArray := prog_1_method_20_code
def yX3_apart : MethodName := ⟨RX3, "apart", "(I)I"⟩
abbrev cX3_leave : ByteArray := prog_1_method_21_code
def yX3_leave : MethodName := ⟨RX3, "leave", "()I"⟩
abbrev cX3_tell : ByteArray := prog_1_method_22_code
def yX3_tell : MethodName := ⟨RX3, "tell", "(I)I"⟩
abbrev cX3_spreads : ByteArray := prog_1_method_23_code
def yX3_spreads : MethodName := ⟨RX3, "spreads", "(II)I"⟩
abbrev cX3_missing : ByteArray := prog_1_method_24_code
def yX3_missing : MethodName := ⟨RX3, "missing", "(II)I"⟩
abbrev cX3_worth : ByteArray := prog_1_method_25_code
def yX3_worth : MethodName := ⟨RX3, "worth", "(I)I"⟩
abbrev cX3_two : ByteArray := prog_1_method_26_code
def yX3_two : MethodName := ⟨RX3, "two", "(II)I"⟩
abbrev cX3_newDoor : ByteArray := prog_1_method_27_code
def yX3_newDoor : MethodName := ⟨RX3, "newDoor", "()I"⟩
abbrev cX3_which : ByteArray := prog_1_method_28_code
def yX3_which : MethodName := ⟨RX3, "which", "(III)I"⟩
abbrev cX3_row : ByteArray := prog_1_method_29_code
def yX3_row : MethodName := ⟨RX3, "row", "(I)I"⟩
abbrev cX3_judge : ByteArray := prog_1_method_30_code
def yX3_judge : MethodName := ⟨RX3, "judge", "(I)I"⟩
abbrev cX3_clear : ByteArray := prog_1_method_31_code
def yX3_clear : MethodName := ⟨RX3, "clear", "()I"⟩
abbrev cX3_lots : ByteArray := prog_1_method_32_code
def yX3_lots : MethodName := ⟨RX3, "lots", "(III)I"⟩
abbrev cX3_image : ByteArray := prog_1_method_33_code
def yX3_image : MethodName := ⟨RX3, "image", "()I"⟩
abbrev cX3_on : ByteArray := prog_1_method_34_code
def yX3_on : MethodName := ⟨RX3, "on", "()I"⟩
abbrev cX3_count : ByteArray := prog_1_method_35_code
def yX3_count : MethodName := ⟨RX3, "count", "(I)I"⟩
abbrev cX3_refuse : ByteArray := prog_1_method_36_code
def yX3_refuse : MethodName := ⟨RX3, "refuse", "(I)I"⟩
abbrev cX3_noRoom : ByteArray := prog_1_method_37_code
def yX3_noRoom : MethodName := ⟨RX3, "noRoom", "(I)Z"⟩
abbrev cX3_noQuestion : ByteArray := prog_1_method_38_code
def yX3_noQuestion : MethodName := ⟨RX3, "noQuestion", "(I)Z"⟩
abbrev cX3_noGroup : ByteArray := prog_1_method_39_code
def yX3_noGroup : MethodName := ⟨RX3, "noGroup", "(I)Z"⟩
abbrev cX3_think : ByteArray := prog_1_method_40_code
def yX3_think : MethodName := ⟨RX3, "think", "()V"⟩
abbrev cX3_thinkAhead : ByteArray := prog_1_method_41_code
def yX3_thinkAhead : MethodName := ⟨RX3, "thinkAhead", "(I)V"⟩
abbrev cX3_noneIfNever : ByteArray := prog_1_method_42_code
def yX3_noneIfNever : MethodName := ⟨RX3, "noneIfNever", "(I)I"⟩
abbrev cX3_minutesTillDone : ByteArray := prog_1_method_43_code
def yX3_minutesTillDone : MethodName := ⟨RX3, "minutesTillDone", "(I)I"⟩
abbrev cX3_minutesTillAllDone : ByteArray := prog_1_method_44_code
def yX3_minutesTillAllDone : MethodName := ⟨RX3, "minutesTillAllDone", "()I"⟩
abbrev cX3_minutesOfAllTogether : ByteArray := prog_1_method_45_code
def yX3_minutesOfAllTogether : MethodName := ⟨RX3, "minutesOfAllTogether", "()I"⟩
abbrev cX3_firstDone : ByteArray := prog_1_method_46_code
def yX3_firstDone : MethodName := ⟨RX3, "firstDone", "()I"⟩
abbrev cX3_fullest : ByteArray := prog_1_method_47_code
def yX3_fullest : MethodName := ⟨RX3, "fullest", "(II)I"⟩
abbrev cX3_soonestFirst : ByteArray := prog_1_method_48_code
def yX3_soonestFirst : MethodName := ⟨RX3, "soonestFirst", "(I)I"⟩
abbrev cX3_truestFirst : ByteArray := prog_1_method_49_code
def yX3_truestFirst : MethodName := ⟨RX3, "truestFirst", "(I)I"⟩
abbrev cX3_firstsApart : ByteArray := prog_1_method_50_code
def yX3_firstsApart : MethodName := ⟨RX3, "firstsApart", "()I"⟩
abbrev cX3_firstIn : ByteArray := prog_1_method_51_code
def yX3_firstIn : MethodName := ⟨RX3, "firstIn", "(II)I"⟩
abbrev cX3_fullestWith : ByteArray := prog_1_method_52_code
def yX3_fullestWith : MethodName := ⟨RX3, "fullestWith", "(I)I"⟩
abbrev cX3_isContent : ByteArray := prog_1_method_53_code
def yX3_isContent : MethodName := ⟨RX3, "isContent", "(IIII)Z"⟩
abbrev cX3_minutesByChoice : ByteArray := prog_1_method_54_code
def yX3_minutesByChoice : MethodName := ⟨RX3, "minutesByChoice", "(IIII)I"⟩
abbrev cX3_firstChosen : ByteArray := prog_1_method_55_code
def yX3_firstChosen : MethodName := ⟨RX3, "firstChosen", "(II)I"⟩
abbrev cX3_rowTellsSheetOf : ByteArray := prog_1_method_56_code
def yX3_rowTellsSheetOf : MethodName := ⟨RX3, "rowTellsSheetOf", "(I)Z"⟩
abbrev cX3_nextSeed : ByteArray := prog_1_method_57_code
def yX3_nextSeed : MethodName := ⟨RX3, "nextSeed", "(I)I"⟩
abbrev cX3_drawn : ByteArray := prog_1_method_58_code
def yX3_drawn : MethodName := ⟨RX3, "drawn", "(I)I"⟩
abbrev cX3_performAll : ByteArray := prog_1_method_59_code
def yX3_performAll : MethodName := ⟨RX3, "performAll", "()I"⟩
abbrev cX3_perform : ByteArray := prog_1_method_60_code
def yX3_perform : MethodName := ⟨RX3, "perform", "(I)Z"⟩
abbrev cX3_performDoor : ByteArray := prog_1_method_61_code
def yX3_performDoor : MethodName := ⟨RX3, "performDoor", "(II)Z"⟩
abbrev cX3_performQuestion : ByteArray := prog_1_method_62_code
def yX3_performQuestion : MethodName := ⟨RX3, "performQuestion", "(IIII)Z"⟩
abbrev cX3_performGroup : ByteArray := prog_1_method_63_code
def yX3_performGroup : MethodName := ⟨RX3, "performGroup", "(III)Z"⟩
abbrev cX3_performPlace : ByteArray := prog_1_method_64_code
def yX3_performPlace : MethodName := ⟨RX3, "performPlace", "(II)Z"⟩
abbrev cX3_performAnswer : ByteArray := prog_1_method_65_code
def yX3_performAnswer : MethodName := ⟨RX3, "performAnswer", "(III)Z"⟩
abbrev cX3_performMinutes : ByteArray := prog_1_method_66_code
def yX3_performMinutes : MethodName := ⟨RX3, "performMinutes", "(I)Z"⟩
def RX4 : String := "GreenHorseUpstairsModel"
def TX4 : u_T := fun k => match k with
  | 0 => ("GreenHorseUpstairsModel", "s", "[I", true)
  | 1 => ("GreenHorseUpstairsModel", "m", "[I", true)
  | 2 => ("GreenHorseUpstairsModel", "image", "[I", true)
  | 3 => ("GreenHorseUpstairsModel", "was", "[I", true)
  | 4 => ("GreenHorseUpstairsModel", "hasImage", "Z", false)
  | 5 => ("GreenHorseUpstairsModel", "letters", "[I", true)
  | 6 => ("GreenHorseUpstairsModel", "row", "[I", true)
  | 7 => ("GreenHorseUpstairsModel", "refused", "[I", true)
  | 8 => ("GreenHorseUpstairsModel", "letterMany", "I", false)
  | 9 => ("GreenHorseUpstairsModel", "rowMany", "I", false)
  | 10 => ("GreenHorseUpstairsModel", "far", "[I", true)
  | 11 => ("GreenHorseUpstairsModel", "place", "I", false)
  | 12 => ("GreenHorseUpstairsModel", "numbers", "[I", true)
  | 13 => ("GreenHorseUpstairsModel", "fullMost", "I", false)
  | 14 => ("GreenHorseUpstairsModel", "fullWhen", "I", false)
  | 15 => ("GreenHorseUpstairsModel", "fullWhere", "I", false)
  | _ => ("GreenHorseUpstairsModel", "seed", "I", false)
def tyX4 : Nat → FieldType := fun k => match k with
  | 0 => .array .int
  | 1 => .array .int
  | 2 => .array .int
  | 3 => .array .int
  | 4 => .boolean
  | 5 => .array .int
  | 6 => .array .int
  | 7 => .array .int
  | 8 => .int
  | 9 => .int
  | 10 => .array .int
  | 11 => .int
  | 12 => .array .int
  | 13 => .int
  | 14 => .int
  | 15 => .int
  | _ => .int
abbrev wsX40 : List Cond := u_ws RX4 TX4 17
theorem nmX4 : ∀ a, a < 17 → ∀ b, b < 17 → a ≠ b → (TX4 a).2.1 ≠ (TX4 b).2.1 := by decide +kernel
theorem tyX4_ok : ∀ k, k < 17 → parseFieldDescriptor (TX4 k).2.2.1 = some (tyX4 k) := by decide +kernel
abbrev cX4_init : ByteArray := prog_6_method_1_code
def yX4_init : MethodName := ⟨RX4, "<init>", "()V"⟩
abbrev cX4_isIn : ByteArray := prog_6_method_2_code
def yX4_isIn : MethodName := ⟨RX4, "isIn", "(III)Z"⟩
abbrev cX4_lays : ByteArray := prog_6_method_3_code
def yX4_lays : MethodName := ⟨RX4, "lays", "([I[I)V"⟩
abbrev cX4_no : ByteArray := prog_6_method_4_code
def yX4_no : MethodName := ⟨RX4, "no", "(I)I"⟩
abbrev cX4_noFar : ByteArray := prog_6_method_5_code
def yX4_noFar : MethodName := ⟨RX4, "noFar", "(I)I"⟩
abbrev cX4_ask : ByteArray := prog_6_method_6_code
def yX4_ask : MethodName := ⟨RX4, "ask", "(II)I"⟩
abbrev cX4_of : ByteArray := prog_6_method_7_code
def yX4_of : MethodName := ⟨RX4, "of", "(II)I"⟩
abbrev cX4_sheetOf : ByteArray := prog_6_method_8_code
def yX4_sheetOf : MethodName := ⟨RX4, "sheetOf", "(II)I"⟩
abbrev cX4_fromOf : ByteArray := prog_6_method_9_code
def yX4_fromOf : MethodName := ⟨RX4, "fromOf", "(II)I"⟩
abbrev cX4_isRoom : ByteArray := prog_6_method_10_code
def yX4_isRoom : MethodName := ⟨RX4, "isRoom", "(I)Z"⟩
abbrev cX4_isQuestion : ByteArray := prog_6_method_11_code
def yX4_isQuestion : MethodName := ⟨RX4, "isQuestion", "(I)Z"⟩
abbrev cX4_isGroup : ByteArray := prog_6_method_12_code
def yX4_isGroup : MethodName := ⟨RX4, "isGroup", "(I)Z"⟩
abbrev cX4_doorsTo : ByteArray := prog_6_method_13_code
def yX4_doorsTo : MethodName := ⟨RX4, "doorsTo", "([II)V"⟩
abbrev cX4_onward : ByteArray := prog_6_method_14_code
def yX4_onward : MethodName := ⟨RX4, "onward", "([III)I"⟩
abbrev cX4_doors : ByteArray := prog_6_method_15_code
def yX4_doors : MethodName := ⟨RX4, "doors", "([III)I"⟩
abbrev cX4_minutesOf : ByteArray := prog_6_method_16_code
def yX4_minutesOf : MethodName := ⟨RX4, "minutesOf", "([II)I"⟩
abbrev cX4_nextOf : ByteArray := prog_6_method_17_code
def yX4_nextOf : MethodName := ⟨RX4, "nextOf", "([II)I"⟩
abbrev cX4_other : ByteArray := prog_6_method_18_code
def yX4_other : MethodName := ⟨RX4, "other", "([III)I"⟩
abbrev cX4_writes : ByteArray := prog_6_method_19_code
def yX4_writes : MethodName := ⟨RX4, "writes", "([III)V"⟩
abbrev cX4_goes : ByteArray := prog_6_method_20_code
def yX4_goes : MethodName := ⟨RX4, "goes", "([II)V"⟩
abbrev cX4_minute : ByteArray := prog_6_method_21_code
def yX4_minute : MethodName := ⟨RX4, "minute", "([I)V"⟩
abbrev cX4_minutesOn : ByteArray := prog_6_method_22_code
def yX4_minutesOn : MethodName := ⟨RX4, "minutesOn", "([II)V"⟩
abbrev cX4_begins : ByteArray := prog_6_method_23_code
def yX4_begins : MethodName := ⟨RX4, "begins", "()V"⟩
abbrev cX4_answersOf : ByteArray := prog_6_method_24_code
def yX4_answersOf : MethodName := ⟨RX4, "answersOf", "([II)I"⟩
abbrev cX4_rightOf : ByteArray := prog_6_method_25_code
def yX4_rightOf : MethodName := ⟨RX4, "rightOf", "([II)I"⟩
abbrev cX4_copiedOf : ByteArray := prog_6_method_26_code
def yX4_copiedOf : MethodName := ⟨RX4, "copiedOf", "([II)I"⟩
abbrev cX4_rightAll : ByteArray := prog_6_method_27_code
def yX4_rightAll : MethodName := ⟨RX4, "rightAll", "([I)I"⟩
abbrev cX4_isDoneIn : ByteArray := prog_6_method_28_code
def yX4_isDoneIn : MethodName := ⟨RX4, "isDoneIn", "([II)Z"⟩
abbrev cX4_areAllDone : ByteArray := prog_6_method_29_code
def yX4_areAllDone : MethodName := ⟨RX4, "areAllDone", "([I)Z"⟩
abbrev cX4_letter : ByteArray := prog_6_method_30_code
def yX4_letter : MethodName := ⟨RX4, "letter", "(I)I"⟩
abbrev cX4_here : ByteArray := prog_6_method_31_code
def yX4_here : MethodName := ⟨RX4, "here", "()I"⟩
abbrev cX4_readsDigit : ByteArray := prog_6_method_32_code
def yX4_readsDigit : MethodName := ⟨RX4, "readsDigit", "(I)Z"⟩
abbrev cX4_kindBy : ByteArray := prog_6_method_33_code
def yX4_kindBy : MethodName := ⟨RX4, "kindBy", "(I)I"⟩
abbrev cX4_readsKind : ByteArray := prog_6_method_34_code
def yX4_readsKind : MethodName := ⟨RX4, "readsKind", "()Z"⟩
abbrev cX4_readsStatement : ByteArray := prog_6_method_35_code
def yX4_readsStatement : MethodName := ⟨RX4, "readsStatement", "()Z"⟩
abbrev cX4_turnsDoor : ByteArray := prog_6_method_36_code
def yX4_turnsDoor : MethodName := ⟨RX4, "turnsDoor", "(II)V"⟩
abbrev cX4_isDone : ByteArray := prog_6_method_37_code
def yX4_isDone : MethodName := ⟨RX4, "isDone", "(I)Z"⟩
abbrev cX4_museum : ByteArray := prog_6_method_38_code
def yX4_museum : MethodName := ⟨RX4, "museum", "()I"⟩
abbrev cX4_door : ByteArray := prog_6_method_39_code
def yX4_door : MethodName := ⟨RX4, "door", "(II)I"⟩
abbrev cX4_question : ByteArray := prog_6_method_40_code
def yX4_question : MethodName := ⟨RX4, "question", "(II)I"⟩
abbrev cX4_group : ByteArray := prog_6_method_41_code
def yX4_group : MethodName := ⟨RX4, "group", "(II)I"⟩
abbrev cX4_sheet : ByteArray := prog_6_method_42_code
def yX4_sheet : MethodName := ⟨RX4, "sheet", "(II)I"⟩
abbrev cX4_opens : ByteArray := prog_6_method_43_code
def yX4_opens : MethodName := ⟨RX4, "opens", "(II)I"⟩
abbrev cX4_put : ByteArray := prog_6_method_44_code
def yX4_put : MethodName := ⟨RX4, "put", "(II)I"⟩
abbrev cX4_start : ByteArray := prog_6_method_45_code
def yX4_start : MethodName := ⟨RX4, "start", "(II)I"⟩
abbrev cX4_write : ByteArray := prog_6_method_46_code
def yX4_write : MethodName := ⟨RX4, "write", "(III)I"⟩
abbrev cX4_minutes : ByteArray := prog_6_method_47_code
def yX4_minutes : MethodName := ⟨RX4, "minutes", "(I)I"⟩
abbrev cX4_wrongMinutes : ByteArray := prog_6_method_48_code
def yX4_wrongMinutes : MethodName := ⟨RX4, "wrongMinutes", "(I)I"⟩
abbrev cX4_behind : ByteArray := prog_6_method_49_code
def yX4_behind : MethodName := ⟨RX4, "behind", "(III)I"⟩
abbrev cX4_doneIn : ByteArray := prog_6_method_50_code
def yX4_doneIn : MethodName := ⟨RX4, "doneIn", "(I)I"⟩
abbrev cX4_allDoneIn : ByteArray := prog_6_method_51_code
def yX4_allDoneIn : MethodName := ⟨RX4, "allDoneIn", "()I"⟩
abbrev cX4_doneNow : ByteArray := prog_6_method_52_code
def yX4_doneNow : MethodName := ⟨RX4, "doneNow", "(I)I"⟩
abbrev cX4_done : ByteArray := prog_6_method_53_code
def yX4_done : MethodName := ⟨RX4, "done", "(I)I"⟩
abbrev cX4_ended : ByteArray := prog_6_method_54_code
def yX4_ended : MethodName := ⟨RX4, "ended", "(I)I"⟩
abbrev cX4_answer : ByteArray := prog_6_method_55_code
def yX4_answer : MethodName := ⟨RX4, "answer", "(III)I"⟩
abbrev cX4_inRoom : ByteArray := prog_6_method_56_code
def yX4_inRoom : MethodName := ⟨RX4, "inRoom", "([II)I"⟩
abbrev cX4_findsFull : ByteArray := prog_6_method_57_code
def yX4_findsFull : MethodName := ⟨RX4, "findsFull", "(I)V"⟩
abbrev cX4_full : ByteArray := prog_6_method_58_code
def yX4_full : MethodName := ⟨RX4, "full", "(II)I"⟩
abbrev cX4_right : ByteArray := prog_6_method_59_code
def yX4_right : MethodName := ⟨RX4, "right", "(I)I"⟩
abbrev cX4_bestFirst : ByteArray := prog_6_method_60_code
def yX4_bestFirst : MethodName := ⟨RX4, "bestFirst", "(II)I"⟩
abbrev cX4_apart : ByteArray := prog_6_method_61_code
def yX4_apart : MethodName := ⟨RX4, "apart", "(I)I"⟩
abbrev cX4_leaves : ByteArray := prog_6_method_62_code
def yX4_leaves : MethodName := ⟨RX4, "leaves", "(I)V"⟩
abbrev cX4_leave : ByteArray := prog_6_method_63_code
def yX4_leave : MethodName := ⟨RX4, "leave", "()I"⟩
abbrev cX4_tell : ByteArray := prog_6_method_64_code
def yX4_tell : MethodName := ⟨RX4, "tell", "(I)I"⟩
abbrev cX4_spreads : ByteArray := prog_6_method_65_code
def yX4_spreads : MethodName := ⟨RX4, "spreads", "(II)I"⟩
abbrev cX4_missing : ByteArray := prog_6_method_66_code
def yX4_missing : MethodName := ⟨RX4, "missing", "(II)I"⟩
abbrev cX4_orNever : ByteArray := prog_6_method_67_code
def yX4_orNever : MethodName := ⟨RX4, "orNever", "(I)I"⟩
abbrev cX4_worth : ByteArray := prog_6_method_68_code
def yX4_worth : MethodName := ⟨RX4, "worth", "(I)I"⟩
abbrev cX4_doneBy : ByteArray := prog_6_method_69_code
def yX4_doneBy : MethodName := ⟨RX4, "doneBy", "(IIIII)I"⟩
abbrev cX4_two : ByteArray := prog_6_method_70_code
def yX4_two : MethodName := ⟨RX4, "two", "(II)I"⟩
abbrev cX4_newDoor : ByteArray := prog_6_method_71_code
def yX4_newDoor : MethodName := ⟨RX4, "newDoor", "()I"⟩
abbrev cX4_row : ByteArray := prog_6_method_72_code
def yX4_row : MethodName := ⟨RX4, "row", "(I)I"⟩
abbrev cX4_isTold : ByteArray := prog_6_method_73_code
def yX4_isTold : MethodName := ⟨RX4, "isTold", "(I)Z"⟩
abbrev cX4_which : ByteArray := prog_6_method_74_code
def yX4_which : MethodName := ⟨RX4, "which", "(III)I"⟩
abbrev cX4_judge : ByteArray := prog_6_method_75_code
def yX4_judge : MethodName := ⟨RX4, "judge", "(I)I"⟩
abbrev cX4_clear : ByteArray := prog_6_method_76_code
def yX4_clear : MethodName := ⟨RX4, "clear", "()I"⟩
abbrev cX4_drawn : ByteArray := prog_6_method_77_code
def yX4_drawn : MethodName := ⟨RX4, "drawn", "(I)I"⟩
abbrev cX4_lots : ByteArray := prog_6_method_78_code
def yX4_lots : MethodName := ⟨RX4, "lots", "(III)I"⟩
abbrev cX4_image : ByteArray := prog_6_method_79_code
def yX4_image : MethodName := ⟨RX4, "image", "()I"⟩
abbrev cX4_on : ByteArray := prog_6_method_80_code
def yX4_on : MethodName := ⟨RX4, "on", "()I"⟩
abbrev cX4_count : ByteArray := prog_6_method_81_code
def yX4_count : MethodName := ⟨RX4, "count", "(I)I"⟩
def RJ9 : String := "java/lang/Math"
def RJ0 : String := "java/lang/String"
abbrev cJ0_length_8abf5 : ByteArray := prog_9_method_54_code
def yJ0_length_8abf5 : MethodName := ⟨RJ0, "length", "()I"⟩
abbrev cJ0_indexOf_0f7a4 : ByteArray := prog_9_method_79_code
def yJ0_indexOf_0f7a4 : MethodName := ⟨RJ0, "indexOf", "(I)I"⟩
abbrev cJ0_indexOf_7cf53 : ByteArray := prog_9_method_80_code
def yJ0_indexOf_7cf53 : MethodName := ⟨RJ0, "indexOf", "(II)I"⟩
abbrev cJ0_coder_7d493 : ByteArray := prog_9_method_152_code
def yJ0_coder_7d493 : MethodName := ⟨RJ0, "coder", "()B"⟩
abbrev cJ0_isLatin1_aae02 : ByteArray := prog_9_method_154_code
def yJ0_isLatin1_aae02 : MethodName := ⟨RJ0, "isLatin1", "()Z"⟩
def RJ1 : String := "java/lang/StringLatin1"
abbrev cJ1_canEncode_9a6ad : ByteArray := prog_10_method_4_code
def yJ1_canEncode_9a6ad : MethodName := ⟨RJ1, "canEncode", "(I)Z"⟩
abbrev cJ1_indexOf_4cfef : ByteArray := prog_10_method_22_code
def yJ1_indexOf_4cfef : MethodName := ⟨RJ1, "indexOf", "([BIII)I"⟩
abbrev cJ1_indexOfChar_4cfef : ByteArray := prog_10_method_23_code
def yJ1_indexOfChar_4cfef : MethodName := ⟨RJ1, "indexOfChar", "([BIII)I"⟩
def RJ2 : String := "java/lang/StringUTF16"
def RJ10 : String := "java/lang/System"
def RJ7 : String := "java/util/Arrays"
abbrev cJ7_fill_53178 : ByteArray := prog_13_method_103_code
def yJ7_fill_53178 : MethodName := ⟨RJ7, "fill", "([II)V"⟩
def RL : String := "GreenHorseUpstairsLaw"
abbrev cL_law : ByteArray := code
def yL_law : MethodName := ⟨RL, "law", "([I)Z"⟩
abbrev vwCl : List vw_C := [(RX0, TX0, 2), (RX1, TX1, 15), (RX2, TX2, 2), (RX3, TX3, 9), (RX4, TX4, 17)]
