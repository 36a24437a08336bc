section
-- ===== PART A: goes FIRST, ahead of the names: the tables' words, and 'selects' of the private methods out of them =====
/-- a private method of a class that the tables say can be made, by its rows of tables_1 -/
def lw_okq (q : MethodName × Nat) : Prop := (q.1.cls ≠ "java/lang/invoke/MethodHandle" ∧ q.1.cls ≠ "java/lang/invoke/VarHandle") ∧ Cond.instantiable q.1.cls q.2 ∈ tables_1 ∧ Cond.privateMethod q.1 ∈ tables_1 ∧ Cond.instanceMethod q.1 ∈ tables_1
theorem lw_p0 : lw_okq (⟨"GreenHorseUpstairs$Rooms", "measure", "()V"⟩, 2) := ⟨⟨by decide +kernel, by decide +kernel⟩, List.mem_of_getElem? (i := 29) (by decide +kernel), List.mem_of_getElem? (i := 35) (by decide +kernel), List.mem_of_getElem? (i := 36) (by decide +kernel)⟩
theorem lw_p1 : lw_okq (⟨"GreenHorseUpstairs$Rooms", "shortenBy", "(I)V"⟩, 2) := ⟨⟨by decide +kernel, by decide +kernel⟩, List.mem_of_getElem? (i := 29) (by decide +kernel), List.mem_of_getElem? (i := 39) (by decide +kernel), List.mem_of_getElem? (i := 40) (by decide +kernel)⟩
theorem lw_p2 : lw_okq (⟨"GreenHorseUpstairs", "refuse", "(I)I"⟩, 9) := ⟨⟨by decide +kernel, by decide +kernel⟩, List.mem_of_getElem? (i := 15) (by decide +kernel), List.mem_of_getElem? (i := 161) (by decide +kernel), List.mem_of_getElem? (i := 162) (by decide +kernel)⟩
theorem lw_p3 : lw_okq (⟨"GreenHorseUpstairs$Letters", "faultOfStatement", "(I)I"⟩, 2) := ⟨⟨by decide +kernel, by decide +kernel⟩, List.mem_of_getElem? (i := 116) (by decide +kernel), List.mem_of_getElem? (i := 181) (by decide +kernel), List.mem_of_getElem? (i := 182) (by decide +kernel)⟩
theorem lw_p4 : lw_okq (⟨"GreenHorseUpstairs", "performAll", "()I"⟩, 9) := ⟨⟨by decide +kernel, by decide +kernel⟩, List.mem_of_getElem? (i := 15) (by decide +kernel), List.mem_of_getElem? (i := 283) (by decide +kernel), List.mem_of_getElem? (i := 284) (by decide +kernel)⟩
theorem lw_p5 : lw_okq (⟨"GreenHorseUpstairs", "perform", "(I)Z"⟩, 9) := ⟨⟨by decide +kernel, by decide +kernel⟩, List.mem_of_getElem? (i := 15) (by decide +kernel), List.mem_of_getElem? (i := 303) (by decide +kernel), List.mem_of_getElem? (i := 304) (by decide +kernel)⟩
theorem lw_p6 : lw_okq (⟨"GreenHorseUpstairs", "performDoor", "(II)Z"⟩, 9) := ⟨⟨by decide +kernel, by decide +kernel⟩, List.mem_of_getElem? (i := 15) (by decide +kernel), List.mem_of_getElem? (i := 312) (by decide +kernel), List.mem_of_getElem? (i := 313) (by decide +kernel)⟩
theorem lw_p7 : lw_okq (⟨"GreenHorseUpstairs", "performQuestion", "(IIII)Z"⟩, 9) := ⟨⟨by decide +kernel, by decide +kernel⟩, List.mem_of_getElem? (i := 15) (by decide +kernel), List.mem_of_getElem? (i := 328) (by decide +kernel), List.mem_of_getElem? (i := 329) (by decide +kernel)⟩
theorem lw_p8 : lw_okq (⟨"GreenHorseUpstairs", "performGroup", "(III)Z"⟩, 9) := ⟨⟨by decide +kernel, by decide +kernel⟩, List.mem_of_getElem? (i := 15) (by decide +kernel), List.mem_of_getElem? (i := 336) (by decide +kernel), List.mem_of_getElem? (i := 337) (by decide +kernel)⟩
theorem lw_p9 : lw_okq (⟨"GreenHorseUpstairs", "performPlace", "(II)Z"⟩, 9) := ⟨⟨by decide +kernel, by decide +kernel⟩, List.mem_of_getElem? (i := 15) (by decide +kernel), List.mem_of_getElem? (i := 344) (by decide +kernel), List.mem_of_getElem? (i := 345) (by decide +kernel)⟩
theorem lw_p10 : lw_okq (⟨"GreenHorseUpstairs", "noGroup", "(I)Z"⟩, 9) := ⟨⟨by decide +kernel, by decide +kernel⟩, List.mem_of_getElem? (i := 15) (by decide +kernel), List.mem_of_getElem? (i := 348) (by decide +kernel), List.mem_of_getElem? (i := 349) (by decide +kernel)⟩
theorem lw_p11 : lw_okq (⟨"GreenHorseUpstairs", "performAnswer", "(III)Z"⟩, 9) := ⟨⟨by decide +kernel, by decide +kernel⟩, List.mem_of_getElem? (i := 15) (by decide +kernel), List.mem_of_getElem? (i := 356) (by decide +kernel), List.mem_of_getElem? (i := 357) (by decide +kernel)⟩
theorem lw_p12 : lw_okq (⟨"GreenHorseUpstairs", "noQuestion", "(I)Z"⟩, 9) := ⟨⟨by decide +kernel, by decide +kernel⟩, List.mem_of_getElem? (i := 15) (by decide +kernel), List.mem_of_getElem? (i := 360) (by decide +kernel), List.mem_of_getElem? (i := 361) (by decide +kernel)⟩
theorem lw_p13 : lw_okq (⟨"GreenHorseUpstairs", "performMinutes", "(I)Z"⟩, 9) := ⟨⟨by decide +kernel, by decide +kernel⟩, List.mem_of_getElem? (i := 15) (by decide +kernel), List.mem_of_getElem? (i := 368) (by decide +kernel), List.mem_of_getElem? (i := 369) (by decide +kernel)⟩
theorem lw_p14 : lw_okq (⟨"GreenHorseUpstairs$Museum", "goOnWith", "(II)V"⟩, 15) := ⟨⟨by decide +kernel, by decide +kernel⟩, List.mem_of_getElem? (i := 23) (by decide +kernel), List.mem_of_getElem? (i := 384) (by decide +kernel), List.mem_of_getElem? (i := 385) (by decide +kernel)⟩
theorem lw_p15 : lw_okq (⟨"GreenHorseUpstairs$Museum", "wouldCopy", "(II)Z"⟩, 15) := ⟨⟨by decide +kernel, by decide +kernel⟩, List.mem_of_getElem? (i := 23) (by decide +kernel), List.mem_of_getElem? (i := 397) (by decide +kernel), List.mem_of_getElem? (i := 398) (by decide +kernel)⟩
def lw_privs_1 : List (MethodName × Nat) := [(⟨"GreenHorseUpstairs$Rooms", "measure", "()V"⟩, 2), (⟨"GreenHorseUpstairs$Rooms", "shortenBy", "(I)V"⟩, 2), (⟨"GreenHorseUpstairs", "refuse", "(I)I"⟩, 9), (⟨"GreenHorseUpstairs$Letters", "faultOfStatement", "(I)I"⟩, 2), (⟨"GreenHorseUpstairs", "performAll", "()I"⟩, 9), (⟨"GreenHorseUpstairs", "perform", "(I)Z"⟩, 9), (⟨"GreenHorseUpstairs", "performDoor", "(II)Z"⟩, 9), (⟨"GreenHorseUpstairs", "performQuestion", "(IIII)Z"⟩, 9), (⟨"GreenHorseUpstairs", "performGroup", "(III)Z"⟩, 9), (⟨"GreenHorseUpstairs", "performPlace", "(II)Z"⟩, 9), (⟨"GreenHorseUpstairs", "noGroup", "(I)Z"⟩, 9), (⟨"GreenHorseUpstairs", "performAnswer", "(III)Z"⟩, 9), (⟨"GreenHorseUpstairs", "noQuestion", "(I)Z"⟩, 9), (⟨"GreenHorseUpstairs", "performMinutes", "(I)Z"⟩, 9), (⟨"GreenHorseUpstairs$Museum", "goOnWith", "(II)V"⟩, 15), (⟨"GreenHorseUpstairs$Museum", "wouldCopy", "(II)Z"⟩, 15)]
theorem lw_r1 : ∀ q ∈ lw_privs_1, lw_okq q := List.forall_mem_cons.mpr ⟨lw_p0, List.forall_mem_cons.mpr ⟨lw_p1, List.forall_mem_cons.mpr ⟨lw_p2, List.forall_mem_cons.mpr ⟨lw_p3, List.forall_mem_cons.mpr ⟨lw_p4, List.forall_mem_cons.mpr ⟨lw_p5, List.forall_mem_cons.mpr ⟨lw_p6, List.forall_mem_cons.mpr ⟨lw_p7, List.forall_mem_cons.mpr ⟨lw_p8, List.forall_mem_cons.mpr ⟨lw_p9, List.forall_mem_cons.mpr ⟨lw_p10, List.forall_mem_cons.mpr ⟨lw_p11, List.forall_mem_cons.mpr ⟨lw_p12, List.forall_mem_cons.mpr ⟨lw_p13, List.forall_mem_cons.mpr ⟨lw_p14, List.forall_mem_cons.mpr ⟨lw_p15, fun _ h => absurd h List.not_mem_nil⟩⟩⟩⟩⟩⟩⟩⟩⟩⟩⟩⟩⟩⟩⟩⟩
theorem lw_p16 : lw_okq (⟨"GreenHorseUpstairs$Museum", "sourceFor", "(II)I"⟩, 15) := ⟨⟨by decide +kernel, by decide +kernel⟩, List.mem_of_getElem? (i := 23) (by decide +kernel), List.mem_of_getElem? (i := 401) (by decide +kernel), List.mem_of_getElem? (i := 402) (by decide +kernel)⟩
theorem lw_p17 : lw_okq (⟨"GreenHorseUpstairs$Museum", "ownAnswer", "(II)I"⟩, 15) := ⟨⟨by decide +kernel, by decide +kernel⟩, List.mem_of_getElem? (i := 23) (by decide +kernel), List.mem_of_getElem? (i := 405) (by decide +kernel), List.mem_of_getElem? (i := 406) (by decide +kernel)⟩
theorem lw_p18 : lw_okq (⟨"GreenHorseUpstairs", "thinkAhead", "(I)V"⟩, 9) := ⟨⟨by decide +kernel, by decide +kernel⟩, List.mem_of_getElem? (i := 15) (by decide +kernel), List.mem_of_getElem? (i := 476) (by decide +kernel), List.mem_of_getElem? (i := 477) (by decide +kernel)⟩
theorem lw_p19 : lw_okq (⟨"GreenHorseUpstairs", "think", "()V"⟩, 9) := ⟨⟨by decide +kernel, by decide +kernel⟩, List.mem_of_getElem? (i := 15) (by decide +kernel), List.mem_of_getElem? (i := 480) (by decide +kernel), List.mem_of_getElem? (i := 481) (by decide +kernel)⟩
theorem lw_p20 : lw_okq (⟨"GreenHorseUpstairs", "minutesTillDone", "(I)I"⟩, 9) := ⟨⟨by decide +kernel, by decide +kernel⟩, List.mem_of_getElem? (i := 15) (by decide +kernel), List.mem_of_getElem? (i := 505) (by decide +kernel), List.mem_of_getElem? (i := 506) (by decide +kernel)⟩
theorem lw_p21 : lw_okq (⟨"GreenHorseUpstairs", "firstDone", "()I"⟩, 9) := ⟨⟨by decide +kernel, by decide +kernel⟩, List.mem_of_getElem? (i := 15) (by decide +kernel), List.mem_of_getElem? (i := 521) (by decide +kernel), List.mem_of_getElem? (i := 522) (by decide +kernel)⟩
theorem lw_p22 : lw_okq (⟨"GreenHorseUpstairs", "minutesTillAllDone", "()I"⟩, 9) := ⟨⟨by decide +kernel, by decide +kernel⟩, List.mem_of_getElem? (i := 15) (by decide +kernel), List.mem_of_getElem? (i := 525) (by decide +kernel), List.mem_of_getElem? (i := 526) (by decide +kernel)⟩
theorem lw_p23 : lw_okq (⟨"GreenHorseUpstairs", "fullest", "(II)I"⟩, 9) := ⟨⟨by decide +kernel, by decide +kernel⟩, List.mem_of_getElem? (i := 15) (by decide +kernel), List.mem_of_getElem? (i := 543) (by decide +kernel), List.mem_of_getElem? (i := 544) (by decide +kernel)⟩
theorem lw_p24 : lw_okq (⟨"GreenHorseUpstairs", "soonestFirst", "(I)I"⟩, 9) := ⟨⟨by decide +kernel, by decide +kernel⟩, List.mem_of_getElem? (i := 15) (by decide +kernel), List.mem_of_getElem? (i := 559) (by decide +kernel), List.mem_of_getElem? (i := 560) (by decide +kernel)⟩
theorem lw_p25 : lw_okq (⟨"GreenHorseUpstairs", "truestFirst", "(I)I"⟩, 9) := ⟨⟨by decide +kernel, by decide +kernel⟩, List.mem_of_getElem? (i := 15) (by decide +kernel), List.mem_of_getElem? (i := 563) (by decide +kernel), List.mem_of_getElem? (i := 564) (by decide +kernel)⟩
theorem lw_p26 : lw_okq (⟨"GreenHorseUpstairs", "firstsApart", "()I"⟩, 9) := ⟨⟨by decide +kernel, by decide +kernel⟩, List.mem_of_getElem? (i := 15) (by decide +kernel), List.mem_of_getElem? (i := 571) (by decide +kernel), List.mem_of_getElem? (i := 572) (by decide +kernel)⟩
theorem lw_p27 : lw_okq (⟨"GreenHorseUpstairs", "fullestWith", "(I)I"⟩, 9) := ⟨⟨by decide +kernel, by decide +kernel⟩, List.mem_of_getElem? (i := 15) (by decide +kernel), List.mem_of_getElem? (i := 575) (by decide +kernel), List.mem_of_getElem? (i := 576) (by decide +kernel)⟩
theorem lw_p28 : lw_okq (⟨"GreenHorseUpstairs", "firstIn", "(II)I"⟩, 9) := ⟨⟨by decide +kernel, by decide +kernel⟩, List.mem_of_getElem? (i := 15) (by decide +kernel), List.mem_of_getElem? (i := 579) (by decide +kernel), List.mem_of_getElem? (i := 580) (by decide +kernel)⟩
theorem lw_p29 : lw_okq (⟨"GreenHorseUpstairs", "minutesOfAllTogether", "()I"⟩, 9) := ⟨⟨by decide +kernel, by decide +kernel⟩, List.mem_of_getElem? (i := 15) (by decide +kernel), List.mem_of_getElem? (i := 608) (by decide +kernel), List.mem_of_getElem? (i := 609) (by decide +kernel)⟩
theorem lw_p30 : lw_okq (⟨"GreenHorseUpstairs", "isContent", "(IIII)Z"⟩, 9) := ⟨⟨by decide +kernel, by decide +kernel⟩, List.mem_of_getElem? (i := 15) (by decide +kernel), List.mem_of_getElem? (i := 616) (by decide +kernel), List.mem_of_getElem? (i := 617) (by decide +kernel)⟩
theorem lw_p31 : lw_okq (⟨"GreenHorseUpstairs", "minutesByChoice", "(IIII)I"⟩, 9) := ⟨⟨by decide +kernel, by decide +kernel⟩, List.mem_of_getElem? (i := 15) (by decide +kernel), List.mem_of_getElem? (i := 620) (by decide +kernel), List.mem_of_getElem? (i := 621) (by decide +kernel)⟩
def lw_privs_2 : List (MethodName × Nat) := [(⟨"GreenHorseUpstairs$Museum", "sourceFor", "(II)I"⟩, 15), (⟨"GreenHorseUpstairs$Museum", "ownAnswer", "(II)I"⟩, 15), (⟨"GreenHorseUpstairs", "thinkAhead", "(I)V"⟩, 9), (⟨"GreenHorseUpstairs", "think", "()V"⟩, 9), (⟨"GreenHorseUpstairs", "minutesTillDone", "(I)I"⟩, 9), (⟨"GreenHorseUpstairs", "firstDone", "()I"⟩, 9), (⟨"GreenHorseUpstairs", "minutesTillAllDone", "()I"⟩, 9), (⟨"GreenHorseUpstairs", "fullest", "(II)I"⟩, 9), (⟨"GreenHorseUpstairs", "soonestFirst", "(I)I"⟩, 9), (⟨"GreenHorseUpstairs", "truestFirst", "(I)I"⟩, 9), (⟨"GreenHorseUpstairs", "firstsApart", "()I"⟩, 9), (⟨"GreenHorseUpstairs", "fullestWith", "(I)I"⟩, 9), (⟨"GreenHorseUpstairs", "firstIn", "(II)I"⟩, 9), (⟨"GreenHorseUpstairs", "minutesOfAllTogether", "()I"⟩, 9), (⟨"GreenHorseUpstairs", "isContent", "(IIII)Z"⟩, 9), (⟨"GreenHorseUpstairs", "minutesByChoice", "(IIII)I"⟩, 9)]
theorem lw_r2 : ∀ q ∈ lw_privs_2, lw_okq q := List.forall_mem_cons.mpr ⟨lw_p16, List.forall_mem_cons.mpr ⟨lw_p17, List.forall_mem_cons.mpr ⟨lw_p18, List.forall_mem_cons.mpr ⟨lw_p19, List.forall_mem_cons.mpr ⟨lw_p20, List.forall_mem_cons.mpr ⟨lw_p21, List.forall_mem_cons.mpr ⟨lw_p22, List.forall_mem_cons.mpr ⟨lw_p23, List.forall_mem_cons.mpr ⟨lw_p24, List.forall_mem_cons.mpr ⟨lw_p25, List.forall_mem_cons.mpr ⟨lw_p26, List.forall_mem_cons.mpr ⟨lw_p27, List.forall_mem_cons.mpr ⟨lw_p28, List.forall_mem_cons.mpr ⟨lw_p29, List.forall_mem_cons.mpr ⟨lw_p30, List.forall_mem_cons.mpr ⟨lw_p31, fun _ h => absurd h List.not_mem_nil⟩⟩⟩⟩⟩⟩⟩⟩⟩⟩⟩⟩⟩⟩⟩⟩
theorem lw_p32 : lw_okq (⟨"GreenHorseUpstairs", "firstChosen", "(II)I"⟩, 9) := ⟨⟨by decide +kernel, by decide +kernel⟩, List.mem_of_getElem? (i := 15) (by decide +kernel), List.mem_of_getElem? (i := 624) (by decide +kernel), List.mem_of_getElem? (i := 625) (by decide +kernel)⟩
theorem lw_p33 : lw_okq (⟨"GreenHorseUpstairs", "rowTellsSheetOf", "(I)Z"⟩, 9) := ⟨⟨by decide +kernel, by decide +kernel⟩, List.mem_of_getElem? (i := 15) (by decide +kernel), List.mem_of_getElem? (i := 636) (by decide +kernel), List.mem_of_getElem? (i := 637) (by decide +kernel)⟩
theorem lw_p34 : lw_okq (⟨"GreenHorseUpstairsModel", "no", "(I)I"⟩, 17) := ⟨⟨by decide +kernel, by decide +kernel⟩, List.mem_of_getElem? (i := 691) (by decide +kernel), List.mem_of_getElem? (i := 753) (by decide +kernel), List.mem_of_getElem? (i := 754) (by decide +kernel)⟩
theorem lw_p35 : lw_okq (⟨"GreenHorseUpstairsModel", "readsStatement", "()Z"⟩, 17) := ⟨⟨by decide +kernel, by decide +kernel⟩, List.mem_of_getElem? (i := 691) (by decide +kernel), List.mem_of_getElem? (i := 761) (by decide +kernel), List.mem_of_getElem? (i := 762) (by decide +kernel)⟩
theorem lw_p36 : lw_okq (⟨"GreenHorseUpstairsModel", "here", "()I"⟩, 17) := ⟨⟨by decide +kernel, by decide +kernel⟩, List.mem_of_getElem? (i := 691) (by decide +kernel), List.mem_of_getElem? (i := 765) (by decide +kernel), List.mem_of_getElem? (i := 766) (by decide +kernel)⟩
theorem lw_p37 : lw_okq (⟨"GreenHorseUpstairsModel", "readsDigit", "(I)Z"⟩, 17) := ⟨⟨by decide +kernel, by decide +kernel⟩, List.mem_of_getElem? (i := 691) (by decide +kernel), List.mem_of_getElem? (i := 769) (by decide +kernel), List.mem_of_getElem? (i := 770) (by decide +kernel)⟩
theorem lw_p38 : lw_okq (⟨"GreenHorseUpstairsModel", "readsKind", "()Z"⟩, 17) := ⟨⟨by decide +kernel, by decide +kernel⟩, List.mem_of_getElem? (i := 691) (by decide +kernel), List.mem_of_getElem? (i := 776) (by decide +kernel), List.mem_of_getElem? (i := 777) (by decide +kernel)⟩
theorem lw_p39 : lw_okq (⟨"GreenHorseUpstairsModel", "isDone", "(I)Z"⟩, 17) := ⟨⟨by decide +kernel, by decide +kernel⟩, List.mem_of_getElem? (i := 691) (by decide +kernel), List.mem_of_getElem? (i := 786) (by decide +kernel), List.mem_of_getElem? (i := 787) (by decide +kernel)⟩
theorem lw_p40 : lw_okq (⟨"GreenHorseUpstairsModel", "turnsDoor", "(II)V"⟩, 17) := ⟨⟨by decide +kernel, by decide +kernel⟩, List.mem_of_getElem? (i := 691) (by decide +kernel), List.mem_of_getElem? (i := 793) (by decide +kernel), List.mem_of_getElem? (i := 794) (by decide +kernel)⟩
theorem lw_p41 : lw_okq (⟨"GreenHorseUpstairsModel", "isGroup", "(I)Z"⟩, 17) := ⟨⟨by decide +kernel, by decide +kernel⟩, List.mem_of_getElem? (i := 691) (by decide +kernel), List.mem_of_getElem? (i := 806) (by decide +kernel), List.mem_of_getElem? (i := 807) (by decide +kernel)⟩
theorem lw_p42 : lw_okq (⟨"GreenHorseUpstairsModel", "isQuestion", "(I)Z"⟩, 17) := ⟨⟨by decide +kernel, by decide +kernel⟩, List.mem_of_getElem? (i := 691) (by decide +kernel), List.mem_of_getElem? (i := 810) (by decide +kernel), List.mem_of_getElem? (i := 811) (by decide +kernel)⟩
theorem lw_p43 : lw_okq (⟨"GreenHorseUpstairsModel", "minutesOn", "([II)V"⟩, 17) := ⟨⟨by decide +kernel, by decide +kernel⟩, List.mem_of_getElem? (i := 691) (by decide +kernel), List.mem_of_getElem? (i := 814) (by decide +kernel), List.mem_of_getElem? (i := 815) (by decide +kernel)⟩
theorem lw_p44 : lw_okq (⟨"GreenHorseUpstairsModel", "minute", "([I)V"⟩, 17) := ⟨⟨by decide +kernel, by decide +kernel⟩, List.mem_of_getElem? (i := 691) (by decide +kernel), List.mem_of_getElem? (i := 818) (by decide +kernel), List.mem_of_getElem? (i := 819) (by decide +kernel)⟩
theorem lw_p45 : lw_okq (⟨"GreenHorseUpstairsModel", "goes", "([II)V"⟩, 17) := ⟨⟨by decide +kernel, by decide +kernel⟩, List.mem_of_getElem? (i := 691) (by decide +kernel), List.mem_of_getElem? (i := 822) (by decide +kernel), List.mem_of_getElem? (i := 823) (by decide +kernel)⟩
theorem lw_p46 : lw_okq (⟨"GreenHorseUpstairsModel", "onward", "([III)I"⟩, 17) := ⟨⟨by decide +kernel, by decide +kernel⟩, List.mem_of_getElem? (i := 691) (by decide +kernel), List.mem_of_getElem? (i := 829) (by decide +kernel), List.mem_of_getElem? (i := 830) (by decide +kernel)⟩
theorem lw_p47 : lw_okq (⟨"GreenHorseUpstairsModel", "doorsTo", "([II)V"⟩, 17) := ⟨⟨by decide +kernel, by decide +kernel⟩, List.mem_of_getElem? (i := 691) (by decide +kernel), List.mem_of_getElem? (i := 833) (by decide +kernel), List.mem_of_getElem? (i := 834) (by decide +kernel)⟩
def lw_privs_3 : List (MethodName × Nat) := [(⟨"GreenHorseUpstairs", "firstChosen", "(II)I"⟩, 9), (⟨"GreenHorseUpstairs", "rowTellsSheetOf", "(I)Z"⟩, 9), (⟨"GreenHorseUpstairsModel", "no", "(I)I"⟩, 17), (⟨"GreenHorseUpstairsModel", "readsStatement", "()Z"⟩, 17), (⟨"GreenHorseUpstairsModel", "here", "()I"⟩, 17), (⟨"GreenHorseUpstairsModel", "readsDigit", "(I)Z"⟩, 17), (⟨"GreenHorseUpstairsModel", "readsKind", "()Z"⟩, 17), (⟨"GreenHorseUpstairsModel", "isDone", "(I)Z"⟩, 17), (⟨"GreenHorseUpstairsModel", "turnsDoor", "(II)V"⟩, 17), (⟨"GreenHorseUpstairsModel", "isGroup", "(I)Z"⟩, 17), (⟨"GreenHorseUpstairsModel", "isQuestion", "(I)Z"⟩, 17), (⟨"GreenHorseUpstairsModel", "minutesOn", "([II)V"⟩, 17), (⟨"GreenHorseUpstairsModel", "minute", "([I)V"⟩, 17), (⟨"GreenHorseUpstairsModel", "goes", "([II)V"⟩, 17), (⟨"GreenHorseUpstairsModel", "onward", "([III)I"⟩, 17), (⟨"GreenHorseUpstairsModel", "doorsTo", "([II)V"⟩, 17)]
theorem lw_r3 : ∀ q ∈ lw_privs_3, lw_okq q := List.forall_mem_cons.mpr ⟨lw_p32, List.forall_mem_cons.mpr ⟨lw_p33, List.forall_mem_cons.mpr ⟨lw_p34, List.forall_mem_cons.mpr ⟨lw_p35, List.forall_mem_cons.mpr ⟨lw_p36, List.forall_mem_cons.mpr ⟨lw_p37, List.forall_mem_cons.mpr ⟨lw_p38, List.forall_mem_cons.mpr ⟨lw_p39, List.forall_mem_cons.mpr ⟨lw_p40, List.forall_mem_cons.mpr ⟨lw_p41, List.forall_mem_cons.mpr ⟨lw_p42, List.forall_mem_cons.mpr ⟨lw_p43, List.forall_mem_cons.mpr ⟨lw_p44, List.forall_mem_cons.mpr ⟨lw_p45, List.forall_mem_cons.mpr ⟨lw_p46, List.forall_mem_cons.mpr ⟨lw_p47, fun _ h => absurd h List.not_mem_nil⟩⟩⟩⟩⟩⟩⟩⟩⟩⟩⟩⟩⟩⟩⟩⟩
theorem lw_p48 : lw_okq (⟨"GreenHorseUpstairsModel", "doors", "([III)I"⟩, 17) := ⟨⟨by decide +kernel, by decide +kernel⟩, List.mem_of_getElem? (i := 691) (by decide +kernel), List.mem_of_getElem? (i := 854) (by decide +kernel), List.mem_of_getElem? (i := 855) (by decide +kernel)⟩
theorem lw_p49 : lw_okq (⟨"GreenHorseUpstairsModel", "begins", "()V"⟩, 17) := ⟨⟨by decide +kernel, by decide +kernel⟩, List.mem_of_getElem? (i := 691) (by decide +kernel), List.mem_of_getElem? (i := 903) (by decide +kernel), List.mem_of_getElem? (i := 904) (by decide +kernel)⟩
theorem lw_p50 : lw_okq (⟨"GreenHorseUpstairsModel", "doneNow", "(I)I"⟩, 17) := ⟨⟨by decide +kernel, by decide +kernel⟩, List.mem_of_getElem? (i := 691) (by decide +kernel), List.mem_of_getElem? (i := 917) (by decide +kernel), List.mem_of_getElem? (i := 918) (by decide +kernel)⟩
theorem lw_p51 : lw_okq (⟨"GreenHorseUpstairsModel", "doneIn", "(I)I"⟩, 17) := ⟨⟨by decide +kernel, by decide +kernel⟩, List.mem_of_getElem? (i := 691) (by decide +kernel), List.mem_of_getElem? (i := 921) (by decide +kernel), List.mem_of_getElem? (i := 922) (by decide +kernel)⟩
theorem lw_p52 : lw_okq (⟨"GreenHorseUpstairsModel", "allDoneIn", "()I"⟩, 17) := ⟨⟨by decide +kernel, by decide +kernel⟩, List.mem_of_getElem? (i := 691) (by decide +kernel), List.mem_of_getElem? (i := 932) (by decide +kernel), List.mem_of_getElem? (i := 933) (by decide +kernel)⟩
theorem lw_p53 : lw_okq (⟨"GreenHorseUpstairsModel", "findsFull", "(I)V"⟩, 17) := ⟨⟨by decide +kernel, by decide +kernel⟩, List.mem_of_getElem? (i := 691) (by decide +kernel), List.mem_of_getElem? (i := 947) (by decide +kernel), List.mem_of_getElem? (i := 948) (by decide +kernel)⟩
theorem lw_p54 : lw_okq (⟨"GreenHorseUpstairsModel", "leaves", "(I)V"⟩, 17) := ⟨⟨by decide +kernel, by decide +kernel⟩, List.mem_of_getElem? (i := 691) (by decide +kernel), List.mem_of_getElem? (i := 970) (by decide +kernel), List.mem_of_getElem? (i := 971) (by decide +kernel)⟩
theorem lw_p55 : lw_okq (⟨"GreenHorseUpstairsModel", "noFar", "(I)I"⟩, 17) := ⟨⟨by decide +kernel, by decide +kernel⟩, List.mem_of_getElem? (i := 691) (by decide +kernel), List.mem_of_getElem? (i := 990) (by decide +kernel), List.mem_of_getElem? (i := 991) (by decide +kernel)⟩
theorem lw_p56 : lw_okq (⟨"GreenHorseUpstairsModel", "orNever", "(I)I"⟩, 17) := ⟨⟨by decide +kernel, by decide +kernel⟩, List.mem_of_getElem? (i := 691) (by decide +kernel), List.mem_of_getElem? (i := 994) (by decide +kernel), List.mem_of_getElem? (i := 995) (by decide +kernel)⟩
theorem lw_p57 : lw_okq (⟨"GreenHorseUpstairsModel", "doneBy", "(IIIII)I"⟩, 17) := ⟨⟨by decide +kernel, by decide +kernel⟩, List.mem_of_getElem? (i := 691) (by decide +kernel), List.mem_of_getElem? (i := 1002) (by decide +kernel), List.mem_of_getElem? (i := 1003) (by decide +kernel)⟩
theorem lw_p58 : lw_okq (⟨"GreenHorseUpstairsModel", "isTold", "(I)Z"⟩, 17) := ⟨⟨by decide +kernel, by decide +kernel⟩, List.mem_of_getElem? (i := 691) (by decide +kernel), List.mem_of_getElem? (i := 1018) (by decide +kernel), List.mem_of_getElem? (i := 1019) (by decide +kernel)⟩
theorem lw_p59 : lw_okq (⟨"GreenHorseUpstairsModel", "drawn", "(I)I"⟩, 17) := ⟨⟨by decide +kernel, by decide +kernel⟩, List.mem_of_getElem? (i := 691) (by decide +kernel), List.mem_of_getElem? (i := 1034) (by decide +kernel), List.mem_of_getElem? (i := 1035) (by decide +kernel)⟩
def lw_privs_4 : List (MethodName × Nat) := [(⟨"GreenHorseUpstairsModel", "doors", "([III)I"⟩, 17), (⟨"GreenHorseUpstairsModel", "begins", "()V"⟩, 17), (⟨"GreenHorseUpstairsModel", "doneNow", "(I)I"⟩, 17), (⟨"GreenHorseUpstairsModel", "doneIn", "(I)I"⟩, 17), (⟨"GreenHorseUpstairsModel", "allDoneIn", "()I"⟩, 17), (⟨"GreenHorseUpstairsModel", "findsFull", "(I)V"⟩, 17), (⟨"GreenHorseUpstairsModel", "leaves", "(I)V"⟩, 17), (⟨"GreenHorseUpstairsModel", "noFar", "(I)I"⟩, 17), (⟨"GreenHorseUpstairsModel", "orNever", "(I)I"⟩, 17), (⟨"GreenHorseUpstairsModel", "doneBy", "(IIIII)I"⟩, 17), (⟨"GreenHorseUpstairsModel", "isTold", "(I)Z"⟩, 17), (⟨"GreenHorseUpstairsModel", "drawn", "(I)I"⟩, 17)]
theorem lw_r4 : ∀ q ∈ lw_privs_4, lw_okq q := List.forall_mem_cons.mpr ⟨lw_p48, List.forall_mem_cons.mpr ⟨lw_p49, List.forall_mem_cons.mpr ⟨lw_p50, List.forall_mem_cons.mpr ⟨lw_p51, List.forall_mem_cons.mpr ⟨lw_p52, List.forall_mem_cons.mpr ⟨lw_p53, List.forall_mem_cons.mpr ⟨lw_p54, List.forall_mem_cons.mpr ⟨lw_p55, List.forall_mem_cons.mpr ⟨lw_p56, List.forall_mem_cons.mpr ⟨lw_p57, List.forall_mem_cons.mpr ⟨lw_p58, List.forall_mem_cons.mpr ⟨lw_p59, fun _ h => absurd h List.not_mem_nil⟩⟩⟩⟩⟩⟩⟩⟩⟩⟩⟩⟩
def lw_privs : List (MethodName × Nat) := lw_privs_1 ++ (lw_privs_2 ++ (lw_privs_3 ++ (lw_privs_4)))
def lw_tbl : List Cond := k2_sels lw_privs ++ tables_1
theorem lw_privs_ok : ∀ q ∈ lw_privs, lw_okq q := by
  show ∀ q ∈ lw_privs_1 ++ (lw_privs_2 ++ (lw_privs_3 ++ (lw_privs_4))), lw_okq q
  exact List.forall_mem_append.mpr ⟨lw_r1, List.forall_mem_append.mpr ⟨lw_r2, List.forall_mem_append.mpr ⟨lw_r3, lw_r4⟩⟩⟩
def RX0 : String := "GreenHorseUpstairs$Letters"
def TX0 : u_T := fun k => match k with
  | 0 => ("GreenHorseUpstairs$Letters", "signs", "[I", true)
  | _ => ("GreenHorseUpstairs$Letters", "length", "I", false)
def tyX0 : Nat → FieldType := fun k => match k with
  | 0 => .array .int
  | _ => .int
abbrev wsX00 : List Cond := u_ws RX0 TX0 2
theorem nmX0 : ∀ a, a < 2 → ∀ b, b < 2 → a ≠ b → (TX0 a).2.1 ≠ (TX0 b).2.1 := by decide +kernel
theorem tyX0_ok : ∀ k, k < 2 → parseFieldDescriptor (TX0 k).2.2.1 = some (tyX0 k) := by decide +kernel
abbrev cX0_init : ByteArray := prog_2_method_1_code
def yX0_init : MethodName := ⟨RX0, "<init>", "()V"⟩
abbrev cX0_length : ByteArray := prog_2_method_2_code
def yX0_length : MethodName := ⟨RX0, "length", "()I"⟩
abbrev cX0_isFull : ByteArray := prog_2_method_3_code
def yX0_isFull : MethodName := ⟨RX0, "isFull", "()Z"⟩
abbrev cX0_append : ByteArray := prog_2_method_4_code
def yX0_append : MethodName := ⟨RX0, "append", "(I)I"⟩
abbrev cX0_forget : ByteArray := prog_2_method_5_code
def yX0_forget : MethodName := ⟨RX0, "forget", "()V"⟩
abbrev cX0_at : ByteArray := prog_2_method_6_code
def yX0_at : MethodName := ⟨RX0, "at", "(I)I"⟩
abbrev cX0_digit : ByteArray := prog_2_method_7_code
def yX0_digit : MethodName := ⟨RX0, "digit", "(I)I"⟩
abbrev cX0_kindOf : ByteArray := prog_2_method_8_code
def yX0_kindOf : MethodName := ⟨RX0, "kindOf", "(I)I"⟩
abbrev cX0_signsBehind : ByteArray := prog_2_method_9_code
def yX0_signsBehind : MethodName := ⟨RX0, "signsBehind", "(I)I"⟩
abbrev cX0_faultOfForm : ByteArray := prog_2_method_10_code
def yX0_faultOfForm : MethodName := ⟨RX0, "faultOfForm", "()I"⟩
abbrev cX0_faultOfStatement : ByteArray := prog_2_method_11_code
def yX0_faultOfStatement : MethodName := ⟨RX0, "faultOfStatement", "(I)I"⟩
abbrev cX0_fits : ByteArray := prog_2_method_12_code
def yX0_fits : MethodName := ⟨RX0, "fits", "(IIII)Z"⟩
def RX1 : String := "GreenHorseUpstairs$Museum"
def TX1 : u_T := fun k => match k with
  | 0 => ("GreenHorseUpstairs$Museum", "rooms", "LGreenHorseUpstairs$Rooms;", true)
  | 1 => ("GreenHorseUpstairs$Museum", "minute", "I", false)
  | 2 => ("GreenHorseUpstairs$Museum", "questions", "I", false)
  | 3 => ("GreenHorseUpstairs$Museum", "kind", "[I", true)
  | 4 => ("GreenHorseUpstairs$Museum", "figure", "[I", true)
  | 5 => ("GreenHorseUpstairs$Museum", "room", "[I", true)
  | 6 => ("GreenHorseUpstairs$Museum", "truth", "[I", true)
  | 7 => ("GreenHorseUpstairs$Museum", "groups", "I", false)
  | 8 => ("GreenHorseUpstairs$Museum", "tall", "[I", true)
  | 9 => ("GreenHorseUpstairs$Museum", "wit", "[I", true)
  | 10 => ("GreenHorseUpstairs$Museum", "first", "[I", true)
  | 11 => ("GreenHorseUpstairs$Museum", "at", "[I", true)
  | 12 => ("GreenHorseUpstairs$Museum", "looked", "[I", true)
  | 13 => ("GreenHorseUpstairs$Museum", "sheets", "[I", true)
  | _ => ("GreenHorseUpstairs$Museum", "sources", "[I", true)
def tyX1 : Nat → FieldType := fun k => match k with
  | 0 => .object "GreenHorseUpstairs$Rooms"
  | 1 => .int
  | 2 => .int
  | 3 => .array .int
  | 4 => .array .int
  | 5 => .array .int
  | 6 => .array .int
  | 7 => .int
  | 8 => .array .int
  | 9 => .array .int
  | 10 => .array .int
  | 11 => .array .int
  | 12 => .array .int
  | 13 => .array .int
  | _ => .array .int
abbrev wsX10 : List Cond := u_ws RX1 TX1 15
theorem nmX1 : ∀ a, a < 15 → ∀ b, b < 15 → a ≠ b → (TX1 a).2.1 ≠ (TX1 b).2.1 := by decide +kernel
theorem tyX1_ok : ∀ k, k < 15 → parseFieldDescriptor (TX1 k).2.2.1 = some (tyX1 k) := by decide +kernel
abbrev cX1_init : ByteArray := prog_3_method_1_code
def yX1_init : MethodName := ⟨RX1, "<init>", "()V"⟩
abbrev cX1_become : ByteArray := prog_3_method_2_code
def yX1_become : MethodName := ⟨RX1, "become", "(LGreenHorseUpstairs$Museum;)V"⟩
abbrev cX1_forgetCopies : ByteArray := prog_3_method_3_code
def yX1_forgetCopies : MethodName := ⟨RX1, "forgetCopies", "()V"⟩
abbrev cX1_addQuestion : ByteArray := prog_3_method_4_code
def yX1_addQuestion : MethodName := ⟨RX1, "addQuestion", "(IIII)V"⟩
abbrev cX1_addGroup : ByteArray := prog_3_method_5_code
def yX1_addGroup : MethodName := ⟨RX1, "addGroup", "(III)V"⟩
abbrev cX1_place : ByteArray := prog_3_method_6_code
def yX1_place : MethodName := ⟨RX1, "place", "(II)V"⟩
abbrev cX1_answerOf : ByteArray := prog_3_method_7_code
def yX1_answerOf : MethodName := ⟨RX1, "answerOf", "(II)I"⟩
abbrev cX1_fill : ByteArray := prog_3_method_8_code
def yX1_fill : MethodName := ⟨RX1, "fill", "(III)V"⟩
abbrev cX1_fillTruth : ByteArray := prog_3_method_9_code
def yX1_fillTruth : MethodName := ⟨RX1, "fillTruth", "(I)V"⟩
abbrev cX1_sourceOf : ByteArray := prog_3_method_10_code
def yX1_sourceOf : MethodName := ⟨RX1, "sourceOf", "(II)I"⟩
abbrev cX1_nextQuestion : ByteArray := prog_3_method_11_code
def yX1_nextQuestion : MethodName := ⟨RX1, "nextQuestion", "(I)I"⟩
abbrev cX1_isDone : ByteArray := prog_3_method_12_code
def yX1_isDone : MethodName := ⟨RX1, "isDone", "(I)Z"⟩
abbrev cX1_undone : ByteArray := prog_3_method_13_code
def yX1_undone : MethodName := ⟨RX1, "undone", "()I"⟩
abbrev cX1_minutesFor : ByteArray := prog_3_method_14_code
def yX1_minutesFor : MethodName := ⟨RX1, "minutesFor", "(I)I"⟩
abbrev cX1_passMinutes : ByteArray := prog_3_method_15_code
def yX1_passMinutes : MethodName := ⟨RX1, "passMinutes", "(I)V"⟩
abbrev cX1_passMinute : ByteArray := prog_3_method_16_code
def yX1_passMinute : MethodName := ⟨RX1, "passMinute", "()V"⟩
abbrev cX1_goOnWith : ByteArray := prog_3_method_17_code
def yX1_goOnWith : MethodName := ⟨RX1, "goOnWith", "(II)V"⟩
abbrev cX1_wouldCopy : ByteArray := prog_3_method_18_code
def yX1_wouldCopy : MethodName := ⟨RX1, "wouldCopy", "(II)Z"⟩
abbrev cX1_sourceFor : ByteArray := prog_3_method_19_code
def yX1_sourceFor : MethodName := ⟨RX1, "sourceFor", "(II)I"⟩
abbrev cX1_ownAnswer : ByteArray := prog_3_method_20_code
def yX1_ownAnswer : MethodName := ⟨RX1, "ownAnswer", "(II)I"⟩
abbrev cX1_answersOf : ByteArray := prog_3_method_21_code
def yX1_answersOf : MethodName := ⟨RX1, "answersOf", "(I)I"⟩
abbrev cX1_rightOf : ByteArray := prog_3_method_22_code
def yX1_rightOf : MethodName := ⟨RX1, "rightOf", "(I)I"⟩
abbrev cX1_copiedBy : ByteArray := prog_3_method_23_code
def yX1_copiedBy : MethodName := ⟨RX1, "copiedBy", "(I)I"⟩
abbrev cX1_answersOfAll : ByteArray := prog_3_method_24_code
def yX1_answersOfAll : MethodName := ⟨RX1, "answersOfAll", "()I"⟩
abbrev cX1_rightOfAll : ByteArray := prog_3_method_25_code
def yX1_rightOfAll : MethodName := ⟨RX1, "rightOfAll", "()I"⟩
abbrev cX1_copiedByAll : ByteArray := prog_3_method_26_code
def yX1_copiedByAll : MethodName := ⟨RX1, "copiedByAll", "()I"⟩
abbrev cX1_groupsAt : ByteArray := prog_3_method_27_code
def yX1_groupsAt : MethodName := ⟨RX1, "groupsAt", "(I)I"⟩
def RX2 : String := "GreenHorseUpstairs$Rooms"
def TX2 : u_T := fun k => match k with
  | 0 => ("GreenHorseUpstairs$Rooms", "open", "[I", true)
  | _ => ("GreenHorseUpstairs$Rooms", "far", "[I", true)
def tyX2 : Nat → FieldType := fun k => match k with
  | 0 => .array .int
  | _ => .array .int
abbrev wsX20 : List Cond := u_ws RX2 TX2 2
theorem nmX2 : ∀ a, a < 2 → ∀ b, b < 2 → a ≠ b → (TX2 a).2.1 ≠ (TX2 b).2.1 := by decide +kernel
theorem tyX2_ok : ∀ k, k < 2 → parseFieldDescriptor (TX2 k).2.2.1 = some (tyX2 k) := by decide +kernel
abbrev cX2_init : ByteArray := prog_4_method_1_code
def yX2_init : MethodName := ⟨RX2, "<init>", "()V"⟩
abbrev cX2_become : ByteArray := prog_4_method_2_code
def yX2_become : MethodName := ⟨RX2, "become", "(LGreenHorseUpstairs$Rooms;)V"⟩
abbrev cX2_isOpen : ByteArray := prog_4_method_3_code
def yX2_isOpen : MethodName := ⟨RX2, "isOpen", "(II)Z"⟩
abbrev cX2_turn : ByteArray := prog_4_method_4_code
def yX2_turn : MethodName := ⟨RX2, "turn", "(II)V"⟩
abbrev cX2_doors : ByteArray := prog_4_method_5_code
def yX2_doors : MethodName := ⟨RX2, "doors", "()I"⟩
abbrev cX2_distance : ByteArray := prog_4_method_6_code
def yX2_distance : MethodName := ⟨RX2, "distance", "(II)I"⟩
abbrev cX2_towards : ByteArray := prog_4_method_7_code
def yX2_towards : MethodName := ⟨RX2, "towards", "(II)I"⟩
abbrev cX2_measure : ByteArray := prog_4_method_8_code
def yX2_measure : MethodName := ⟨RX2, "measure", "()V"⟩
abbrev cX2_shortenBy : ByteArray := prog_4_method_9_code
def yX2_shortenBy : MethodName := ⟨RX2, "shortenBy", "(I)V"⟩
def RX3 : String := "GreenHorseUpstairs"
def TX3 : u_T := fun k => match k with
  | 0 => ("GreenHorseUpstairs", "now", "LGreenHorseUpstairs$Museum;", true)
  | 1 => ("GreenHorseUpstairs", "thought", "LGreenHorseUpstairs$Museum;", true)
  | 2 => ("GreenHorseUpstairs", "kept", "LGreenHorseUpstairs$Museum;", true)
  | 3 => ("GreenHorseUpstairs", "image", "LGreenHorseUpstairs$Museum;", true)
  | 4 => ("GreenHorseUpstairs", "imageTaken", "Z", false)
  | 5 => ("GreenHorseUpstairs", "letters", "LGreenHorseUpstairs$Letters;", true)
  | 6 => ("GreenHorseUpstairs", "row", "[I", true)
  | 7 => ("GreenHorseUpstairs", "rowLength", "I", false)
  | _ => ("GreenHorseUpstairs", "refusals", "[I", true)
def tyX3 : Nat → FieldType := fun k => match k with
  | 0 => .object "GreenHorseUpstairs$Museum"
  | 1 => .object "GreenHorseUpstairs$Museum"
  | 2 => .object "GreenHorseUpstairs$Museum"
  | 3 => .object "GreenHorseUpstairs$Museum"
  | 4 => .boolean
  | 5 => .object "GreenHorseUpstairs$Letters"
  | 6 => .array .int
  | 7 => .int
  | _ => .array .int
abbrev wsX30 : List Cond := u_ws RX3 TX3 9
theorem nmX3 : ∀ a, a < 9 → ∀ b, b < 9 → a ≠ b → (TX3 a).2.1 ≠ (TX3 b).2.1 := by decide +kernel
theorem tyX3_ok : ∀ k, k < 9 → parseFieldDescriptor (TX3 k).2.2.1 = some (tyX3 k) := by decide +kernel
abbrev cX3_init : ByteArray := prog_1_method_1_code
def yX3_init : MethodName := ⟨RX3, "<init>", "()V"⟩
abbrev cX3_letter : ByteArray := prog_1_method_2_code
def yX3_letter : MethodName := ⟨RX3, "letter", "(I)I"⟩
abbrev cX3_museum : ByteArray := prog_1_method_3_code
def yX3_museum : MethodName := ⟨RX3, "museum", "()I"⟩
abbrev cX3_door : ByteArray := prog_1_method_4_code
def yX3_door : MethodName := ⟨RX3, "door", "(II)I"⟩
abbrev cX3_question : ByteArray := prog_1_method_5_code
def yX3_question : MethodName := ⟨RX3, "question", "(II)I"⟩
abbrev cX3_group : ByteArray := prog_1_method_6_code
def yX3_group : MethodName := ⟨RX3, "group", "(II)I"⟩
abbrev cX3_sheet : ByteArray := prog_1_method_7_code
def yX3_sheet : MethodName := ⟨RX3, "sheet", "(II)I"⟩
abbrev cX3_opens : ByteArray := prog_1_method_8_code
def yX3_opens : MethodName := ⟨RX3, "opens", "(II)I"⟩
abbrev cX3_put : ByteArray := prog_1_method_9_code
def yX3_put : MethodName := ⟨RX3, "put", "(II)I"⟩
abbrev cX3_start : ByteArray := prog_1_method_10_code
def yX3_start : MethodName := ⟨RX3, "start", "(II)I"⟩
abbrev cX3_write : ByteArray := prog_1_method_11_code
def yX3_write : MethodName := ⟨RX3, "write", "(III)I"⟩
abbrev cX3_minutes : ByteArray := prog_1_method_12_code
def yX3_minutes : MethodName := ⟨RX3, "minutes", "(I)I"⟩
abbrev cX3_behind : ByteArray := prog_1_method_13_code
def yX3_behind : MethodName := ⟨RX3, "behind", "(III)I"⟩
abbrev cX3_done : ByteArray := prog_1_method_14_code
def yX3_done : MethodName := ⟨RX3, "done", "(I)I"⟩
abbrev cX3_ended : ByteArray := prog_1_method_15_code
def yX3_ended : MethodName := ⟨RX3, "ended", "(I)I"⟩
abbrev cX3_answer : ByteArray := prog_1_method_16_code
def yX3_answer : MethodName := ⟨RX3, "answer", "(III)I"⟩
abbrev cX3_full : ByteArray := prog_1_method_17_code
def yX3_full : MethodName := ⟨RX3, "full", "(II)I"⟩
abbrev cX3_right : ByteArray := prog_1_method_18_code
def yX3_right : MethodName := ⟨RX3, "right", "(I)I"⟩
abbrev cX3_bestFirst : ByteArray := prog_1_method_19_code
def yX3_bestFirst : MethodName := ⟨RX3, "bestFirst", "(II)I"⟩
abbrev cX3_apart : ByteArray := prog_1_method_20_code
def yX3_apart : MethodName := ⟨RX3, "apart", "(I)I"⟩
abbrev cX3_leave : ByteArray := prog_1_method_21_code
def yX3_leave : MethodName := ⟨RX3, "leave", "()I"⟩
abbrev cX3_tell : ByteArray := prog_1_method_22_code
def yX3_tell : MethodName := ⟨RX3, "tell", "(I)I"⟩
abbrev cX3_spreads : ByteArray := prog_1_method_23_code
def yX3_spreads : MethodName := ⟨RX3, "spreads", "(II)I"⟩
abbrev cX3_missing : ByteArray := prog_1_method_24_code
def yX3_missing : MethodName := ⟨RX3, "missing", "(II)I"⟩
abbrev cX3_worth : ByteArray := prog_1_method_25_code
def yX3_worth : MethodName := ⟨RX3, "worth", "(I)I"⟩
abbrev cX3_two : ByteArray := prog_1_method_26_code
def yX3_two : MethodName := ⟨RX3, "two", "(II)I"⟩
abbrev cX3_newDoor : ByteArray := prog_1_method_27_code
def yX3_newDoor : MethodName := ⟨RX3, "newDoor", "()I"⟩
abbrev cX3_which : ByteArray := prog_1_method_28_code
def yX3_which : MethodName := ⟨RX3, "which", "(III)I"⟩
abbrev cX3_row : ByteArray := prog_1_method_29_code
def yX3_row : MethodName := ⟨RX3, "row", "(I)I"⟩
abbrev cX3_judge : ByteArray := prog_1_method_30_code
def yX3_judge : MethodName := ⟨RX3, "judge", "(I)I"⟩
abbrev cX3_clear : ByteArray := prog_1_method_31_code
def yX3_clear : MethodName := ⟨RX3, "clear", "()I"⟩
abbrev cX3_lots : ByteArray := prog_1_method_32_code
def yX3_lots : MethodName := ⟨RX3, "lots", "(III)I"⟩
abbrev cX3_image : ByteArray := prog_1_method_33_code
def yX3_image : MethodName := ⟨RX3, "image", "()I"⟩
abbrev cX3_on : ByteArray := prog_1_method_34_code
def yX3_on : MethodName := ⟨RX3, "on", "()I"⟩
abbrev cX3_count : ByteArray := prog_1_method_35_code
def yX3_count : MethodName := ⟨RX3, "count", "(I)I"⟩
abbrev cX3_refuse : ByteArray := prog_1_method_36_code
def yX3_refuse : MethodName := ⟨RX3, "refuse", "(I)I"⟩
abbrev cX3_noRoom : ByteArray := prog_1_method_37_code
def yX3_noRoom : MethodName := ⟨RX3, "noRoom", "(I)Z"⟩
abbrev cX3_noQuestion : ByteArray := prog_1_method_38_code
def yX3_noQuestion : MethodName := ⟨RX3, "noQuestion", "(I)Z"⟩
abbrev cX3_noGroup : ByteArray := prog_1_method_39_code
def yX3_noGroup : MethodName := ⟨RX3, "noGroup", "(I)Z"⟩
abbrev cX3_think : ByteArray := prog_1_method_40_code
def yX3_think : MethodName := ⟨RX3, "think", "()V"⟩
abbrev cX3_thinkAhead : ByteArray := prog_1_method_41_code
def yX3_thinkAhead : MethodName := ⟨RX3, "thinkAhead", "(I)V"⟩
abbrev cX3_noneIfNever : ByteArray := prog_1_method_42_code
def yX3_noneIfNever : MethodName := ⟨RX3, "noneIfNever", "(I)I"⟩
abbrev cX3_minutesTillDone : ByteArray := prog_1_method_43_code
def yX3_minutesTillDone : MethodName := ⟨RX3, "minutesTillDone", "(I)I"⟩
abbrev cX3_minutesTillAllDone : ByteArray := prog_1_method_44_code
def yX3_minutesTillAllDone : MethodName := ⟨RX3, "minutesTillAllDone", "()I"⟩
abbrev cX3_minutesOfAllTogether : ByteArray := prog_1_method_45_code
def yX3_minutesOfAllTogether : MethodName := ⟨RX3, "minutesOfAllTogether", "()I"⟩
abbrev cX3_firstDone : ByteArray := prog_1_method_46_code
def yX3_firstDone : MethodName := ⟨RX3, "firstDone", "()I"⟩
abbrev cX3_fullest : ByteArray := prog_1_method_47_code
def yX3_fullest : MethodName := ⟨RX3, "fullest", "(II)I"⟩
abbrev cX3_soonestFirst : ByteArray := prog_1_method_48_code
def yX3_soonestFirst : MethodName := ⟨RX3, "soonestFirst", "(I)I"⟩
abbrev cX3_truestFirst : ByteArray := prog_1_method_49_code
def yX3_truestFirst : MethodName := ⟨RX3, "truestFirst", "(I)I"⟩
abbrev cX3_firstsApart : ByteArray := prog_1_method_50_code
def yX3_firstsApart : MethodName := ⟨RX3, "firstsApart", "()I"⟩
abbrev cX3_firstIn : ByteArray := prog_1_method_51_code
def yX3_firstIn : MethodName := ⟨RX3, "firstIn", "(II)I"⟩
abbrev cX3_fullestWith : ByteArray := prog_1_method_52_code
def yX3_fullestWith : MethodName := ⟨RX3, "fullestWith", "(I)I"⟩
abbrev cX3_isContent : ByteArray := prog_1_method_53_code
def yX3_isContent : MethodName := ⟨RX3, "isContent", "(IIII)Z"⟩
abbrev cX3_minutesByChoice : ByteArray := prog_1_method_54_code
def yX3_minutesByChoice : MethodName := ⟨RX3, "minutesByChoice", "(IIII)I"⟩
abbrev cX3_firstChosen : ByteArray := prog_1_method_55_code
def yX3_firstChosen : MethodName := ⟨RX3, "firstChosen", "(II)I"⟩
abbrev cX3_rowTellsSheetOf : ByteArray := prog_1_method_56_code
def yX3_rowTellsSheetOf : MethodName := ⟨RX3, "rowTellsSheetOf", "(I)Z"⟩
abbrev cX3_nextSeed : ByteArray := prog_1_method_57_code
def yX3_nextSeed : MethodName := ⟨RX3, "nextSeed", "(I)I"⟩
abbrev cX3_drawn : ByteArray := prog_1_method_58_code
def yX3_drawn : MethodName := ⟨RX3, "drawn", "(I)I"⟩
abbrev cX3_performAll : ByteArray := prog_1_method_59_code
def yX3_performAll : MethodName := ⟨RX3, "performAll", "()I"⟩
abbrev cX3_perform : ByteArray := prog_1_method_60_code
def yX3_perform : MethodName := ⟨RX3, "perform", "(I)Z"⟩
abbrev cX3_performDoor : ByteArray := prog_1_method_61_code
def yX3_performDoor : MethodName := ⟨RX3, "performDoor", "(II)Z"⟩
abbrev cX3_performQuestion : ByteArray := prog_1_method_62_code
def yX3_performQuestion : MethodName := ⟨RX3, "performQuestion", "(IIII)Z"⟩
abbrev cX3_performGroup : ByteArray := prog_1_method_63_code
def yX3_performGroup : MethodName := ⟨RX3, "performGroup", "(III)Z"⟩
abbrev cX3_performPlace : ByteArray := prog_1_method_64_code
def yX3_performPlace : MethodName := ⟨RX3, "performPlace", "(II)Z"⟩
abbrev cX3_performAnswer : ByteArray := prog_1_method_65_code
def yX3_performAnswer : MethodName := ⟨RX3, "performAnswer", "(III)Z"⟩
abbrev cX3_performMinutes : ByteArray := prog_1_method_66_code
def yX3_performMinutes : MethodName := ⟨RX3, "performMinutes", "(I)Z"⟩
def RX4 : String := "GreenHorseUpstairsModel"
def TX4 : u_T := fun k => match k with
  | 0 => ("GreenHorseUpstairsModel", "s", "[I", true)
  | 1 => ("GreenHorseUpstairsModel", "m", "[I", true)
  | 2 => ("GreenHorseUpstairsModel", "image", "[I", true)
  | 3 => ("GreenHorseUpstairsModel", "was", "[I", true)
  | 4 => ("GreenHorseUpstairsModel", "hasImage", "Z", false)
  | 5 => ("GreenHorseUpstairsModel", "letters", "[I", true)
  | 6 => ("GreenHorseUpstairsModel", "row", "[I", true)
  | 7 => ("GreenHorseUpstairsModel", "refused", "[I", true)
  | 8 => ("GreenHorseUpstairsModel", "letterMany", "I", false)
  | 9 => ("GreenHorseUpstairsModel", "rowMany", "I", false)
  | 10 => ("GreenHorseUpstairsModel", "far", "[I", true)
  | 11 => ("GreenHorseUpstairsModel", "place", "I", false)
  | 12 => ("GreenHorseUpstairsModel", "numbers", "[I", true)
  | 13 => ("GreenHorseUpstairsModel", "fullMost", "I", false)
  | 14 => ("GreenHorseUpstairsModel", "fullWhen", "I", false)
  | 15 => ("GreenHorseUpstairsModel", "fullWhere", "I", false)
  | _ => ("GreenHorseUpstairsModel", "seed", "I", false)
def tyX4 : Nat → FieldType := fun k => match k with
  | 0 => .array .int
  | 1 => .array .int
  | 2 => .array .int
  | 3 => .array .int
  | 4 => .boolean
  | 5 => .array .int
  | 6 => .array .int
  | 7 => .array .int
  | 8 => .int
  | 9 => .int
  | 10 => .array .int
  | 11 => .int
  | 12 => .array .int
  | 13 => .int
  | 14 => .int
  | 15 => .int
  | _ => .int
abbrev wsX40 : List Cond := u_ws RX4 TX4 17
theorem nmX4 : ∀ a, a < 17 → ∀ b, b < 17 → a ≠ b → (TX4 a).2.1 ≠ (TX4 b).2.1 := by decide +kernel
theorem tyX4_ok : ∀ k, k < 17 → parseFieldDescriptor (TX4 k).2.2.1 = some (tyX4 k) := by decide +kernel
abbrev cX4_init : ByteArray := prog_6_method_1_code
def yX4_init : MethodName := ⟨RX4, "<init>", "()V"⟩
abbrev cX4_isIn : ByteArray := prog_6_method_2_code
def yX4_isIn : MethodName := ⟨RX4, "isIn", "(III)Z"⟩
abbrev cX4_lays : ByteArray := prog_6_method_3_code
def yX4_lays : MethodName := ⟨RX4, "lays", "([I[I)V"⟩
abbrev cX4_no : ByteArray := prog_6_method_4_code
def yX4_no : MethodName := ⟨RX4, "no", "(I)I"⟩
abbrev cX4_noFar : ByteArray := prog_6_method_5_code
def yX4_noFar : MethodName := ⟨RX4, "noFar", "(I)I"⟩
abbrev cX4_ask : ByteArray := prog_6_method_6_code
def yX4_ask : MethodName := ⟨RX4, "ask", "(II)I"⟩
abbrev cX4_of : ByteArray := prog_6_method_7_code
def yX4_of : MethodName := ⟨RX4, "of", "(II)I"⟩
abbrev cX4_sheetOf : ByteArray := prog_6_method_8_code
def yX4_sheetOf : MethodName := ⟨RX4, "sheetOf", "(II)I"⟩
abbrev cX4_fromOf : ByteArray := prog_6_method_9_code
def yX4_fromOf : MethodName := ⟨RX4, "fromOf", "(II)I"⟩
abbrev cX4_isRoom : ByteArray := prog_6_method_10_code
def yX4_isRoom : MethodName := ⟨RX4, "isRoom", "(I)Z"⟩
abbrev cX4_isQuestion : ByteArray := prog_6_method_11_code
def yX4_isQuestion : MethodName := ⟨RX4, "isQuestion", "(I)Z"⟩
abbrev cX4_isGroup : ByteArray := prog_6_method_12_code
def yX4_isGroup : MethodName := ⟨RX4, "isGroup", "(I)Z"⟩
abbrev cX4_doorsTo : ByteArray := prog_6_method_13_code
def yX4_doorsTo : MethodName := ⟨RX4, "doorsTo", "([II)V"⟩
abbrev cX4_onward : ByteArray := prog_6_method_14_code
def yX4_onward : MethodName := ⟨RX4, "onward", "([III)I"⟩
abbrev cX4_doors : ByteArray := prog_6_method_15_code
def yX4_doors : MethodName := ⟨RX4, "doors", "([III)I"⟩
abbrev cX4_minutesOf : ByteArray := prog_6_method_16_code
def yX4_minutesOf : MethodName := ⟨RX4, "minutesOf", "([II)I"⟩
abbrev cX4_nextOf : ByteArray := prog_6_method_17_code
def yX4_nextOf : MethodName := ⟨RX4, "nextOf", "([II)I"⟩
abbrev cX4_other : ByteArray := prog_6_method_18_code
def yX4_other : MethodName := ⟨RX4, "other", "([III)I"⟩
abbrev cX4_writes : ByteArray := prog_6_method_19_code
def yX4_writes : MethodName := ⟨RX4, "writes", "([III)V"⟩
abbrev cX4_goes : ByteArray := prog_6_method_20_code
def yX4_goes : MethodName := ⟨RX4, "goes", "([II)V"⟩
abbrev cX4_minute : ByteArray := prog_6_method_21_code
def yX4_minute : MethodName := ⟨RX4, "minute", "([I)V"⟩
abbrev cX4_minutesOn : ByteArray := prog_6_method_22_code
def yX4_minutesOn : MethodName := ⟨RX4, "minutesOn", "([II)V"⟩
abbrev cX4_begins : ByteArray := prog_6_method_23_code
def yX4_begins : MethodName := ⟨RX4, "begins", "()V"⟩
abbrev cX4_answersOf : ByteArray := prog_6_method_24_code
def yX4_answersOf : MethodName := ⟨RX4, "answersOf", "([II)I"⟩
abbrev cX4_rightOf : ByteArray := prog_6_method_25_code
def yX4_rightOf : MethodName := ⟨RX4, "rightOf", "([II)I"⟩
abbrev cX4_copiedOf : ByteArray := prog_6_method_26_code
def yX4_copiedOf : MethodName := ⟨RX4, "copiedOf", "([II)I"⟩
abbrev cX4_rightAll : ByteArray := prog_6_method_27_code
def yX4_rightAll : MethodName := ⟨RX4, "rightAll", "([I)I"⟩
abbrev cX4_isDoneIn : ByteArray := prog_6_method_28_code
def yX4_isDoneIn : MethodName := ⟨RX4, "isDoneIn", "([II)Z"⟩
abbrev cX4_areAllDone : ByteArray := prog_6_method_29_code
def yX4_areAllDone : MethodName := ⟨RX4, "areAllDone", "([I)Z"⟩
abbrev cX4_letter : ByteArray := prog_6_method_30_code
def yX4_letter : MethodName := ⟨RX4, "letter", "(I)I"⟩
abbrev cX4_here : ByteArray := prog_6_method_31_code
def yX4_here : MethodName := ⟨RX4, "here", "()I"⟩
abbrev cX4_readsDigit : ByteArray := prog_6_method_32_code
def yX4_readsDigit : MethodName := ⟨RX4, "readsDigit", "(I)Z"⟩
abbrev cX4_kindBy : ByteArray := prog_6_method_33_code
def yX4_kindBy : MethodName := ⟨RX4, "kindBy", "(I)I"⟩
abbrev cX4_readsKind : ByteArray := prog_6_method_34_code
def yX4_readsKind : MethodName := ⟨RX4, "readsKind", "()Z"⟩
abbrev cX4_readsStatement : ByteArray := prog_6_method_35_code
def yX4_readsStatement : MethodName := ⟨RX4, "readsStatement", "()Z"⟩
abbrev cX4_turnsDoor : ByteArray := prog_6_method_36_code
def yX4_turnsDoor : MethodName := ⟨RX4, "turnsDoor", "(II)V"⟩
abbrev cX4_isDone : ByteArray := prog_6_method_37_code
def yX4_isDone : MethodName := ⟨RX4, "isDone", "(I)Z"⟩
abbrev cX4_museum : ByteArray := prog_6_method_38_code
def yX4_museum : MethodName := ⟨RX4, "museum", "()I"⟩
abbrev cX4_door : ByteArray := prog_6_method_39_code
def yX4_door : MethodName := ⟨RX4, "door", "(II)I"⟩
abbrev cX4_question : ByteArray := prog_6_method_40_code
def yX4_question : MethodName := ⟨RX4, "question", "(II)I"⟩
abbrev cX4_group : ByteArray := prog_6_method_41_code
def yX4_group : MethodName := ⟨RX4, "group", "(II)I"⟩
abbrev cX4_sheet : ByteArray := prog_6_method_42_code
def yX4_sheet : MethodName := ⟨RX4, "sheet", "(II)I"⟩
abbrev cX4_opens : ByteArray := prog_6_method_43_code
def yX4_opens : MethodName := ⟨RX4, "opens", "(II)I"⟩
abbrev cX4_put : ByteArray := prog_6_method_44_code
def yX4_put : MethodName := ⟨RX4, "put", "(II)I"⟩
abbrev cX4_start : ByteArray := prog_6_method_45_code
def yX4_start : MethodName := ⟨RX4, "start", "(II)I"⟩
abbrev cX4_write : ByteArray := prog_6_method_46_code
def yX4_write : MethodName := ⟨RX4, "write", "(III)I"⟩
abbrev cX4_minutes : ByteArray := prog_6_method_47_code
def yX4_minutes : MethodName := ⟨RX4, "minutes", "(I)I"⟩
abbrev cX4_wrongMinutes : ByteArray := prog_6_method_48_code
def yX4_wrongMinutes : MethodName := ⟨RX4, "wrongMinutes", "(I)I"⟩
abbrev cX4_behind : ByteArray := prog_6_method_49_code
def yX4_behind : MethodName := ⟨RX4, "behind", "(III)I"⟩
abbrev cX4_doneIn : ByteArray := prog_6_method_50_code
def yX4_doneIn : MethodName := ⟨RX4, "doneIn", "(I)I"⟩
abbrev cX4_allDoneIn : ByteArray := prog_6_method_51_code
def yX4_allDoneIn : MethodName := ⟨RX4, "allDoneIn", "()I"⟩
abbrev cX4_doneNow : ByteArray := prog_6_method_52_code
def yX4_doneNow : MethodName := ⟨RX4, "doneNow", "(I)I"⟩
abbrev cX4_done : ByteArray := prog_6_method_53_code
def yX4_done : MethodName := ⟨RX4, "done", "(I)I"⟩
abbrev cX4_ended : ByteArray := prog_6_method_54_code
def yX4_ended : MethodName := ⟨RX4, "ended", "(I)I"⟩
abbrev cX4_answer : ByteArray := prog_6_method_55_code
def yX4_answer : MethodName := ⟨RX4, "answer", "(III)I"⟩
abbrev cX4_inRoom : ByteArray := prog_6_method_56_code
def yX4_inRoom : MethodName := ⟨RX4, "inRoom", "([II)I"⟩
abbrev cX4_findsFull : ByteArray := prog_6_method_57_code
def yX4_findsFull : MethodName := ⟨RX4, "findsFull", "(I)V"⟩
abbrev cX4_full : ByteArray := prog_6_method_58_code
def yX4_full : MethodName := ⟨RX4, "full", "(II)I"⟩
abbrev cX4_right : ByteArray := prog_6_method_59_code
def yX4_right : MethodName := ⟨RX4, "right", "(I)I"⟩
abbrev cX4_bestFirst : ByteArray := prog_6_method_60_code
def yX4_bestFirst : MethodName := ⟨RX4, "bestFirst", "(II)I"⟩
abbrev cX4_apart : ByteArray := prog_6_method_61_code
def yX4_apart : MethodName := ⟨RX4, "apart", "(I)I"⟩
abbrev cX4_leaves : ByteArray := prog_6_method_62_code
def yX4_leaves : MethodName := ⟨RX4, "leaves", "(I)V"⟩
abbrev cX4_leave : ByteArray := prog_6_method_63_code
def yX4_leave : MethodName := ⟨RX4, "leave", "()I"⟩
abbrev cX4_tell : ByteArray := prog_6_method_64_code
def yX4_tell : MethodName := ⟨RX4, "tell", "(I)I"⟩
abbrev cX4_spreads : ByteArray := prog_6_method_65_code
def yX4_spreads : MethodName := ⟨RX4, "spreads", "(II)I"⟩
abbrev cX4_missing : ByteArray := prog_6_method_66_code
def yX4_missing : MethodName := ⟨RX4, "missing", "(II)I"⟩
abbrev cX4_orNever : ByteArray := prog_6_method_67_code
def yX4_orNever : MethodName := ⟨RX4, "orNever", "(I)I"⟩
abbrev cX4_worth : ByteArray := prog_6_method_68_code
def yX4_worth : MethodName := ⟨RX4, "worth", "(I)I"⟩
abbrev cX4_doneBy : ByteArray := prog_6_method_69_code
def yX4_doneBy : MethodName := ⟨RX4, "doneBy", "(IIIII)I"⟩
abbrev cX4_two : ByteArray := prog_6_method_70_code
def yX4_two : MethodName := ⟨RX4, "two", "(II)I"⟩
abbrev cX4_newDoor : ByteArray := prog_6_method_71_code
def yX4_newDoor : MethodName := ⟨RX4, "newDoor", "()I"⟩
abbrev cX4_row : ByteArray := prog_6_method_72_code
def yX4_row : MethodName := ⟨RX4, "row", "(I)I"⟩
abbrev cX4_isTold : ByteArray := prog_6_method_73_code
def yX4_isTold : MethodName := ⟨RX4, "isTold", "(I)Z"⟩
abbrev cX4_which : ByteArray := prog_6_method_74_code
def yX4_which : MethodName := ⟨RX4, "which", "(III)I"⟩
abbrev cX4_judge : ByteArray := prog_6_method_75_code
def yX4_judge : MethodName := ⟨RX4, "judge", "(I)I"⟩
abbrev cX4_clear : ByteArray := prog_6_method_76_code
def yX4_clear : MethodName := ⟨RX4, "clear", "()I"⟩
abbrev cX4_drawn : ByteArray := prog_6_method_77_code
def yX4_drawn : MethodName := ⟨RX4, "drawn", "(I)I"⟩
abbrev cX4_lots : ByteArray := prog_6_method_78_code
def yX4_lots : MethodName := ⟨RX4, "lots", "(III)I"⟩
abbrev cX4_image : ByteArray := prog_6_method_79_code
def yX4_image : MethodName := ⟨RX4, "image", "()I"⟩
abbrev cX4_on : ByteArray := prog_6_method_80_code
def yX4_on : MethodName := ⟨RX4, "on", "()I"⟩
abbrev cX4_count : ByteArray := prog_6_method_81_code
def yX4_count : MethodName := ⟨RX4, "count", "(I)I"⟩
def RJ9 : String := "java/lang/Math"
def RJ0 : String := "java/lang/String"
abbrev cJ0_length_8abf5 : ByteArray := prog_9_method_54_code
def yJ0_length_8abf5 : MethodName := ⟨RJ0, "length", "()I"⟩
abbrev cJ0_indexOf_0f7a4 : ByteArray := prog_9_method_79_code
def yJ0_indexOf_0f7a4 : MethodName := ⟨RJ0, "indexOf", "(I)I"⟩
abbrev cJ0_indexOf_7cf53 : ByteArray := prog_9_method_80_code
def yJ0_indexOf_7cf53 : MethodName := ⟨RJ0, "indexOf", "(II)I"⟩
abbrev cJ0_coder_7d493 : ByteArray := prog_9_method_152_code
def yJ0_coder_7d493 : MethodName := ⟨RJ0, "coder", "()B"⟩
abbrev cJ0_isLatin1_aae02 : ByteArray := prog_9_method_154_code
def yJ0_isLatin1_aae02 : MethodName := ⟨RJ0, "isLatin1", "()Z"⟩
def RJ1 : String := "java/lang/StringLatin1"
abbrev cJ1_canEncode_9a6ad : ByteArray := prog_10_method_4_code
def yJ1_canEncode_9a6ad : MethodName := ⟨RJ1, "canEncode", "(I)Z"⟩
abbrev cJ1_indexOf_4cfef : ByteArray := prog_10_method_22_code
def yJ1_indexOf_4cfef : MethodName := ⟨RJ1, "indexOf", "([BIII)I"⟩
abbrev cJ1_indexOfChar_4cfef : ByteArray := prog_10_method_23_code
def yJ1_indexOfChar_4cfef : MethodName := ⟨RJ1, "indexOfChar", "([BIII)I"⟩
def RJ2 : String := "java/lang/StringUTF16"
def RJ10 : String := "java/lang/System"
def RJ7 : String := "java/util/Arrays"
abbrev cJ7_fill_53178 : ByteArray := prog_13_method_103_code
def yJ7_fill_53178 : MethodName := ⟨RJ7, "fill", "([II)V"⟩
def RL : String := "GreenHorseUpstairsLaw"
abbrev cL_law : ByteArray := code
def yL_law : MethodName := ⟨RL, "law", "([I)Z"⟩
abbrev vwCl : List vw_C := [(RX0, TX0, 2), (RX1, TX1, 15), (RX2, TX2, 2), (RX3, TX3, 9), (RX4, TX4, 17)]
end
section
theorem dX0_init_0 : decode cX0_init 0 = .ok (.aload_n 0, 1) := by decide +kernel
theorem dX0_init_1 : decode cX0_init 1 = .ok (.invokespecial 3, 3) := by decide +kernel
theorem dX0_init_4 : decode cX0_init 4 = .ok (.aload_n 0, 1) := by decide +kernel
theorem dX0_init_5 : decode cX0_init 5 = .ok (.bipush 96, 2) := by decide +kernel
theorem dX0_init_7 : decode cX0_init 7 = .ok (.newarray .int, 2) := by decide +kernel
theorem dX0_init_9 : decode cX0_init 9 = .ok (.putfield 11, 3) := by decide +kernel
theorem dX0_init_12 : decode cX0_init 12 = .ok (.aload_n 0, 1) := by decide +kernel
theorem dX0_init_13 : decode cX0_init 13 = .ok (.iconst 0, 1) := by decide +kernel
theorem dX0_init_14 : decode cX0_init 14 = .ok (.putfield 15, 3) := by decide +kernel
theorem dX0_init_17 : decode cX0_init 17 = .ok (.return_, 1) := by decide +kernel
theorem dX0_length_0 : decode cX0_length 0 = .ok (.aload_n 0, 1) := by decide +kernel
theorem dX0_length_1 : decode cX0_length 1 = .ok (.getfield 15, 3) := by decide +kernel
theorem dX0_length_4 : decode cX0_length 4 = .ok (.ireturn, 1) := by decide +kernel
theorem dX0_isFull_0 : decode cX0_isFull 0 = .ok (.aload_n 0, 1) := by decide +kernel
theorem dX0_isFull_1 : decode cX0_isFull 1 = .ok (.getfield 15, 3) := by decide +kernel
theorem dX0_isFull_4 : decode cX0_isFull 4 = .ok (.bipush 96, 2) := by decide +kernel
theorem dX0_isFull_6 : decode cX0_isFull 6 = .ok (.if_icmp .lt 7, 3) := by decide +kernel
theorem dX0_isFull_9 : decode cX0_isFull 9 = .ok (.iconst 1, 1) := by decide +kernel
theorem dX0_isFull_10 : decode cX0_isFull 10 = .ok (.goto 4, 3) := by decide +kernel
theorem dX0_isFull_13 : decode cX0_isFull 13 = .ok (.iconst 0, 1) := by decide +kernel
theorem dX0_isFull_14 : decode cX0_isFull 14 = .ok (.ireturn, 1) := by decide +kernel
theorem dX0_append_0 : decode cX0_append 0 = .ok (.aload_n 0, 1) := by decide +kernel
theorem dX0_append_1 : decode cX0_append 1 = .ok (.getfield 15, 3) := by decide +kernel
theorem dX0_append_4 : decode cX0_append 4 = .ok (.bipush 96, 2) := by decide +kernel
theorem dX0_append_6 : decode cX0_append 6 = .ok (.if_icmp .ge 23, 3) := by decide +kernel
theorem dX0_append_9 : decode cX0_append 9 = .ok (.aload_n 0, 1) := by decide +kernel
theorem dX0_append_10 : decode cX0_append 10 = .ok (.getfield 11, 3) := by decide +kernel
theorem dX0_append_13 : decode cX0_append 13 = .ok (.aload_n 0, 1) := by decide +kernel
theorem dX0_append_14 : decode cX0_append 14 = .ok (.getfield 15, 3) := by decide +kernel
theorem dX0_append_17 : decode cX0_append 17 = .ok (.iload_n 1, 1) := by decide +kernel
theorem dX0_append_18 : decode cX0_append 18 = .ok (.iastore, 1) := by decide +kernel
theorem dX0_append_19 : decode cX0_append 19 = .ok (.aload_n 0, 1) := by decide +kernel
theorem dX0_append_20 : decode cX0_append 20 = .ok (.dup, 1) := by decide +kernel
theorem dX0_append_21 : decode cX0_append 21 = .ok (.getfield 15, 3) := by decide +kernel
theorem dX0_append_24 : decode cX0_append 24 = .ok (.iconst 1, 1) := by decide +kernel
theorem dX0_append_25 : decode cX0_append 25 = .ok (.iadd, 1) := by decide +kernel
theorem dX0_append_26 : decode cX0_append 26 = .ok (.putfield 15, 3) := by decide +kernel
theorem dX0_append_29 : decode cX0_append 29 = .ok (.aload_n 0, 1) := by decide +kernel
theorem dX0_append_30 : decode cX0_append 30 = .ok (.getfield 15, 3) := by decide +kernel
theorem dX0_append_33 : decode cX0_append 33 = .ok (.ireturn, 1) := by decide +kernel
theorem dX0_forget_0 : decode cX0_forget 0 = .ok (.aload_n 0, 1) := by decide +kernel
theorem dX0_forget_1 : decode cX0_forget 1 = .ok (.iconst 0, 1) := by decide +kernel
theorem dX0_forget_2 : decode cX0_forget 2 = .ok (.putfield 15, 3) := by decide +kernel
theorem dX0_forget_5 : decode cX0_forget 5 = .ok (.return_, 1) := by decide +kernel
theorem dX0_at_0 : decode cX0_at 0 = .ok (.iload_n 1, 1) := by decide +kernel
theorem dX0_at_1 : decode cX0_at 1 = .ok (.ifCond .lt 20, 3) := by decide +kernel
theorem dX0_at_4 : decode cX0_at 4 = .ok (.iload_n 1, 1) := by decide +kernel
theorem dX0_at_5 : decode cX0_at 5 = .ok (.aload_n 0, 1) := by decide +kernel
theorem dX0_at_6 : decode cX0_at 6 = .ok (.getfield 15, 3) := by decide +kernel
theorem dX0_at_9 : decode cX0_at 9 = .ok (.if_icmp .ge 12, 3) := by decide +kernel
theorem dX0_at_12 : decode cX0_at 12 = .ok (.aload_n 0, 1) := by decide +kernel
theorem dX0_at_13 : decode cX0_at 13 = .ok (.getfield 11, 3) := by decide +kernel
theorem dX0_at_16 : decode cX0_at 16 = .ok (.iload_n 1, 1) := by decide +kernel
theorem dX0_at_17 : decode cX0_at 17 = .ok (.iaload, 1) := by decide +kernel
theorem dX0_at_18 : decode cX0_at 18 = .ok (.goto 4, 3) := by decide +kernel
theorem dX0_at_21 : decode cX0_at 21 = .ok (.iconst 0, 1) := by decide +kernel
theorem dX0_at_22 : decode cX0_at 22 = .ok (.ireturn, 1) := by decide +kernel
theorem dX0_digit_0 : decode cX0_digit 0 = .ok (.aload_n 0, 1) := by decide +kernel
theorem dX0_digit_1 : decode cX0_digit 1 = .ok (.iload_n 1, 1) := by decide +kernel
theorem dX0_digit_2 : decode cX0_digit 2 = .ok (.invokevirtual 19, 3) := by decide +kernel
theorem dX0_digit_5 : decode cX0_digit 5 = .ok (.bipush 48, 2) := by decide +kernel
theorem dX0_digit_7 : decode cX0_digit 7 = .ok (.isub, 1) := by decide +kernel
theorem dX0_digit_8 : decode cX0_digit 8 = .ok (.ireturn, 1) := by decide +kernel
theorem dX0_kindOf_0 : decode cX0_kindOf 0 = .ok (.ldc 23, 2) := by decide +kernel
theorem dX0_kindOf_2 : decode cX0_kindOf 2 = .ok (.iload_n 0, 1) := by decide +kernel
theorem dX0_kindOf_3 : decode cX0_kindOf 3 = .ok (.i2c, 1) := by decide +kernel
theorem dX0_kindOf_4 : decode cX0_kindOf 4 = .ok (.invokevirtual 25, 3) := by decide +kernel
theorem dX0_kindOf_7 : decode cX0_kindOf 7 = .ok (.ireturn, 1) := by decide +kernel
theorem dX0_signsBehind_0 : decode cX0_signsBehind 0 = .ok (.iload_n 0, 1) := by decide +kernel
theorem dX0_signsBehind_1 : decode cX0_signsBehind 1 = .ok (.lookupswitch 65 #[(97, 59), (100, 59), (103, 61), (109, 59), (113, 63), (119, 61)], 59) := by decide +kernel
theorem dX0_signsBehind_60 : decode cX0_signsBehind 60 = .ok (.iconst 2, 1) := by decide +kernel
theorem dX0_signsBehind_61 : decode cX0_signsBehind 61 = .ok (.ireturn, 1) := by decide +kernel
theorem dX0_signsBehind_62 : decode cX0_signsBehind 62 = .ok (.iconst 3, 1) := by decide +kernel
theorem dX0_signsBehind_63 : decode cX0_signsBehind 63 = .ok (.ireturn, 1) := by decide +kernel
theorem dX0_signsBehind_64 : decode cX0_signsBehind 64 = .ok (.iconst 4, 1) := by decide +kernel
theorem dX0_signsBehind_65 : decode cX0_signsBehind 65 = .ok (.ireturn, 1) := by decide +kernel
theorem dX0_signsBehind_66 : decode cX0_signsBehind 66 = .ok (.iconst 0, 1) := by decide +kernel
theorem dX0_signsBehind_67 : decode cX0_signsBehind 67 = .ok (.ireturn, 1) := by decide +kernel
theorem dX0_faultOfForm_0 : decode cX0_faultOfForm 0 = .ok (.iconst 0, 1) := by decide +kernel
theorem dX0_faultOfForm_1 : decode cX0_faultOfForm 1 = .ok (.istore_n 1, 1) := by decide +kernel
theorem dX0_faultOfForm_2 : decode cX0_faultOfForm 2 = .ok (.aload_n 0, 1) := by decide +kernel
theorem dX0_faultOfForm_3 : decode cX0_faultOfForm 3 = .ok (.iload_n 1, 1) := by decide +kernel
theorem dX0_faultOfForm_4 : decode cX0_faultOfForm 4 = .ok (.invokevirtual 30, 3) := by decide +kernel
theorem dX0_faultOfForm_7 : decode cX0_faultOfForm 7 = .ok (.istore_n 2, 1) := by decide +kernel
theorem dX0_faultOfForm_8 : decode cX0_faultOfForm 8 = .ok (.iload_n 2, 1) := by decide +kernel
theorem dX0_faultOfForm_9 : decode cX0_faultOfForm 9 = .ok (.bipush (-9), 2) := by decide +kernel
theorem dX0_faultOfForm_11 : decode cX0_faultOfForm 11 = .ok (.if_icmp .eq 5, 3) := by decide +kernel
theorem dX0_faultOfForm_14 : decode cX0_faultOfForm 14 = .ok (.iload_n 2, 1) := by decide +kernel
theorem dX0_faultOfForm_15 : decode cX0_faultOfForm 15 = .ok (.ireturn, 1) := by decide +kernel
theorem dX0_faultOfForm_16 : decode cX0_faultOfForm 16 = .ok (.iload_n 1, 1) := by decide +kernel
theorem dX0_faultOfForm_17 : decode cX0_faultOfForm 17 = .ok (.aload_n 0, 1) := by decide +kernel
theorem dX0_faultOfForm_18 : decode cX0_faultOfForm 18 = .ok (.iload_n 1, 1) := by decide +kernel
theorem dX0_faultOfForm_19 : decode cX0_faultOfForm 19 = .ok (.invokevirtual 19, 3) := by decide +kernel
theorem dX0_faultOfForm_22 : decode cX0_faultOfForm 22 = .ok (.invokestatic 33, 3) := by decide +kernel
theorem dX0_faultOfForm_25 : decode cX0_faultOfForm 25 = .ok (.iconst 2, 1) := by decide +kernel
theorem dX0_faultOfForm_26 : decode cX0_faultOfForm 26 = .ok (.iadd, 1) := by decide +kernel
theorem dX0_faultOfForm_27 : decode cX0_faultOfForm 27 = .ok (.iadd, 1) := by decide +kernel
theorem dX0_faultOfForm_28 : decode cX0_faultOfForm 28 = .ok (.istore_n 1, 1) := by decide +kernel
theorem dX0_faultOfForm_29 : decode cX0_faultOfForm 29 = .ok (.iload_n 1, 1) := by decide +kernel
theorem dX0_faultOfForm_30 : decode cX0_faultOfForm 30 = .ok (.aload_n 0, 1) := by decide +kernel
theorem dX0_faultOfForm_31 : decode cX0_faultOfForm 31 = .ok (.getfield 15, 3) := by decide +kernel
theorem dX0_faultOfForm_34 : decode cX0_faultOfForm 34 = .ok (.if_icmp .lt (-32), 3) := by decide +kernel
theorem dX0_faultOfForm_37 : decode cX0_faultOfForm 37 = .ok (.bipush (-9), 2) := by decide +kernel
theorem dX0_faultOfForm_39 : decode cX0_faultOfForm 39 = .ok (.ireturn, 1) := by decide +kernel
theorem dX0_faultOfStatement_0 : decode cX0_faultOfStatement 0 = .ok (.aload_n 0, 1) := by decide +kernel
theorem dX0_faultOfStatement_1 : decode cX0_faultOfStatement 1 = .ok (.iload_n 1, 1) := by decide +kernel
theorem dX0_faultOfStatement_2 : decode cX0_faultOfStatement 2 = .ok (.invokevirtual 19, 3) := by decide +kernel
theorem dX0_faultOfStatement_5 : decode cX0_faultOfStatement 5 = .ok (.istore_n 2, 1) := by decide +kernel
theorem dX0_faultOfStatement_6 : decode cX0_faultOfStatement 6 = .ok (.iload_n 2, 1) := by decide +kernel
theorem dX0_faultOfStatement_7 : decode cX0_faultOfStatement 7 = .ok (.invokestatic 33, 3) := by decide +kernel
theorem dX0_faultOfStatement_10 : decode cX0_faultOfStatement 10 = .ok (.istore_n 3, 1) := by decide +kernel
theorem dX0_faultOfStatement_11 : decode cX0_faultOfStatement 11 = .ok (.iload_n 3, 1) := by decide +kernel
theorem dX0_faultOfStatement_12 : decode cX0_faultOfStatement 12 = .ok (.ifCond .ne 5, 3) := by decide +kernel
theorem dX0_faultOfStatement_15 : decode cX0_faultOfStatement 15 = .ok (.iload_n 1, 1) := by decide +kernel
theorem dX0_faultOfStatement_16 : decode cX0_faultOfStatement 16 = .ok (.ireturn, 1) := by decide +kernel
theorem dX0_faultOfStatement_17 : decode cX0_faultOfStatement 17 = .ok (.iconst 1, 1) := by decide +kernel
theorem dX0_faultOfStatement_18 : decode cX0_faultOfStatement 18 = .ok (.istore 4, 2) := by decide +kernel
theorem dX0_faultOfStatement_20 : decode cX0_faultOfStatement 20 = .ok (.iload 4, 2) := by decide +kernel
theorem dX0_faultOfStatement_22 : decode cX0_faultOfStatement 22 = .ok (.iload_n 3, 1) := by decide +kernel
theorem dX0_faultOfStatement_23 : decode cX0_faultOfStatement 23 = .ok (.iconst 1, 1) := by decide +kernel
theorem dX0_faultOfStatement_24 : decode cX0_faultOfStatement 24 = .ok (.iadd, 1) := by decide +kernel
theorem dX0_faultOfStatement_25 : decode cX0_faultOfStatement 25 = .ok (.if_icmp .gt 43, 3) := by decide +kernel
theorem dX0_faultOfStatement_28 : decode cX0_faultOfStatement 28 = .ok (.iload_n 1, 1) := by decide +kernel
theorem dX0_faultOfStatement_29 : decode cX0_faultOfStatement 29 = .ok (.iload 4, 2) := by decide +kernel
theorem dX0_faultOfStatement_31 : decode cX0_faultOfStatement 31 = .ok (.iadd, 1) := by decide +kernel
theorem dX0_faultOfStatement_32 : decode cX0_faultOfStatement 32 = .ok (.aload_n 0, 1) := by decide +kernel
theorem dX0_faultOfStatement_33 : decode cX0_faultOfStatement 33 = .ok (.getfield 15, 3) := by decide +kernel
theorem dX0_faultOfStatement_36 : decode cX0_faultOfStatement 36 = .ok (.if_icmp .ge 21, 3) := by decide +kernel
theorem dX0_faultOfStatement_39 : decode cX0_faultOfStatement 39 = .ok (.iload_n 2, 1) := by decide +kernel
theorem dX0_faultOfStatement_40 : decode cX0_faultOfStatement 40 = .ok (.iload 4, 2) := by decide +kernel
theorem dX0_faultOfStatement_42 : decode cX0_faultOfStatement 42 = .ok (.iload_n 3, 1) := by decide +kernel
theorem dX0_faultOfStatement_43 : decode cX0_faultOfStatement 43 = .ok (.aload_n 0, 1) := by decide +kernel
theorem dX0_faultOfStatement_44 : decode cX0_faultOfStatement 44 = .ok (.iload_n 1, 1) := by decide +kernel
theorem dX0_faultOfStatement_45 : decode cX0_faultOfStatement 45 = .ok (.iload 4, 2) := by decide +kernel
theorem dX0_faultOfStatement_47 : decode cX0_faultOfStatement 47 = .ok (.iadd, 1) := by decide +kernel
theorem dX0_faultOfStatement_48 : decode cX0_faultOfStatement 48 = .ok (.invokevirtual 19, 3) := by decide +kernel
theorem dX0_faultOfStatement_51 : decode cX0_faultOfStatement 51 = .ok (.invokestatic 36, 3) := by decide +kernel
theorem dX0_faultOfStatement_54 : decode cX0_faultOfStatement 54 = .ok (.ifCond .ne 8, 3) := by decide +kernel
theorem dX0_faultOfStatement_57 : decode cX0_faultOfStatement 57 = .ok (.iload_n 1, 1) := by decide +kernel
theorem dX0_faultOfStatement_58 : decode cX0_faultOfStatement 58 = .ok (.iload 4, 2) := by decide +kernel
theorem dX0_faultOfStatement_60 : decode cX0_faultOfStatement 60 = .ok (.iadd, 1) := by decide +kernel
theorem dX0_faultOfStatement_61 : decode cX0_faultOfStatement 61 = .ok (.ireturn, 1) := by decide +kernel
theorem dX0_faultOfStatement_62 : decode cX0_faultOfStatement 62 = .ok (.iinc 4 1, 3) := by decide +kernel
theorem dX0_faultOfStatement_65 : decode cX0_faultOfStatement 65 = .ok (.goto (-45), 3) := by decide +kernel
theorem dX0_faultOfStatement_68 : decode cX0_faultOfStatement 68 = .ok (.bipush (-9), 2) := by decide +kernel
theorem dX0_faultOfStatement_70 : decode cX0_faultOfStatement 70 = .ok (.ireturn, 1) := by decide +kernel
theorem dX0_fits_0 : decode cX0_fits 0 = .ok (.iload_n 1, 1) := by decide +kernel
theorem dX0_fits_1 : decode cX0_fits 1 = .ok (.iload_n 2, 1) := by decide +kernel
theorem dX0_fits_2 : decode cX0_fits 2 = .ok (.if_icmp .le 15, 3) := by decide +kernel
theorem dX0_fits_5 : decode cX0_fits 5 = .ok (.iload_n 3, 1) := by decide +kernel
theorem dX0_fits_6 : decode cX0_fits 6 = .ok (.bipush 59, 2) := by decide +kernel
theorem dX0_fits_8 : decode cX0_fits 8 = .ok (.if_icmp .ne 7, 3) := by decide +kernel
theorem dX0_fits_11 : decode cX0_fits 11 = .ok (.iconst 1, 1) := by decide +kernel
theorem dX0_fits_12 : decode cX0_fits 12 = .ok (.goto 4, 3) := by decide +kernel
theorem dX0_fits_15 : decode cX0_fits 15 = .ok (.iconst 0, 1) := by decide +kernel
theorem dX0_fits_16 : decode cX0_fits 16 = .ok (.ireturn, 1) := by decide +kernel
theorem dX0_fits_17 : decode cX0_fits 17 = .ok (.iload_n 0, 1) := by decide +kernel
theorem dX0_fits_18 : decode cX0_fits 18 = .ok (.bipush 113, 2) := by decide +kernel
theorem dX0_fits_20 : decode cX0_fits 20 = .ok (.if_icmp .ne 21, 3) := by decide +kernel
theorem dX0_fits_23 : decode cX0_fits 23 = .ok (.iload_n 1, 1) := by decide +kernel
theorem dX0_fits_24 : decode cX0_fits 24 = .ok (.iconst 1, 1) := by decide +kernel
theorem dX0_fits_25 : decode cX0_fits 25 = .ok (.if_icmp .ne 16, 3) := by decide +kernel
theorem dX0_fits_28 : decode cX0_fits 28 = .ok (.iload_n 3, 1) := by decide +kernel
theorem dX0_fits_29 : decode cX0_fits 29 = .ok (.invokestatic 40, 3) := by decide +kernel
theorem dX0_fits_32 : decode cX0_fits 32 = .ok (.ifCond .lt 7, 3) := by decide +kernel
theorem dX0_fits_35 : decode cX0_fits 35 = .ok (.iconst 1, 1) := by decide +kernel
theorem dX0_fits_36 : decode cX0_fits 36 = .ok (.goto 4, 3) := by decide +kernel
theorem dX0_fits_39 : decode cX0_fits 39 = .ok (.iconst 0, 1) := by decide +kernel
theorem dX0_fits_40 : decode cX0_fits 40 = .ok (.ireturn, 1) := by decide +kernel
theorem dX0_fits_41 : decode cX0_fits 41 = .ok (.iload_n 3, 1) := by decide +kernel
theorem dX0_fits_42 : decode cX0_fits 42 = .ok (.bipush 48, 2) := by decide +kernel
theorem dX0_fits_44 : decode cX0_fits 44 = .ok (.if_icmp .lt 13, 3) := by decide +kernel
theorem dX0_fits_47 : decode cX0_fits 47 = .ok (.iload_n 3, 1) := by decide +kernel
theorem dX0_fits_48 : decode cX0_fits 48 = .ok (.bipush 57, 2) := by decide +kernel
theorem dX0_fits_50 : decode cX0_fits 50 = .ok (.if_icmp .gt 7, 3) := by decide +kernel
theorem dX0_fits_53 : decode cX0_fits 53 = .ok (.iconst 1, 1) := by decide +kernel
theorem dX0_fits_54 : decode cX0_fits 54 = .ok (.goto 4, 3) := by decide +kernel
theorem dX0_fits_57 : decode cX0_fits 57 = .ok (.iconst 0, 1) := by decide +kernel
theorem dX0_fits_58 : decode cX0_fits 58 = .ok (.ireturn, 1) := by decide +kernel
theorem dX1_init_0 : decode cX1_init 0 = .ok (.aload_n 0, 1) := by decide +kernel
theorem dX1_init_1 : decode cX1_init 1 = .ok (.invokespecial 3, 3) := by decide +kernel
theorem dX1_init_4 : decode cX1_init 4 = .ok (.aload_n 0, 1) := by decide +kernel
theorem dX1_init_5 : decode cX1_init 5 = .ok (.new 9, 3) := by decide +kernel
theorem dX1_init_8 : decode cX1_init 8 = .ok (.dup, 1) := by decide +kernel
theorem dX1_init_9 : decode cX1_init 9 = .ok (.invokespecial 11, 3) := by decide +kernel
theorem dX1_init_12 : decode cX1_init 12 = .ok (.putfield 12, 3) := by decide +kernel
theorem dX1_init_15 : decode cX1_init 15 = .ok (.aload_n 0, 1) := by decide +kernel
theorem dX1_init_16 : decode cX1_init 16 = .ok (.iconst 0, 1) := by decide +kernel
theorem dX1_init_17 : decode cX1_init 17 = .ok (.putfield 18, 3) := by decide +kernel
theorem dX1_init_20 : decode cX1_init 20 = .ok (.aload_n 0, 1) := by decide +kernel
theorem dX1_init_21 : decode cX1_init 21 = .ok (.iconst 0, 1) := by decide +kernel
theorem dX1_init_22 : decode cX1_init 22 = .ok (.putfield 22, 3) := by decide +kernel
theorem dX1_init_25 : decode cX1_init 25 = .ok (.aload_n 0, 1) := by decide +kernel
theorem dX1_init_26 : decode cX1_init 26 = .ok (.bipush 8, 2) := by decide +kernel
theorem dX1_init_28 : decode cX1_init 28 = .ok (.newarray .int, 2) := by decide +kernel
theorem dX1_init_30 : decode cX1_init 30 = .ok (.putfield 25, 3) := by decide +kernel
theorem dX1_init_33 : decode cX1_init 33 = .ok (.aload_n 0, 1) := by decide +kernel
theorem dX1_init_34 : decode cX1_init 34 = .ok (.bipush 8, 2) := by decide +kernel
theorem dX1_init_36 : decode cX1_init 36 = .ok (.newarray .int, 2) := by decide +kernel
theorem dX1_init_38 : decode cX1_init 38 = .ok (.putfield 29, 3) := by decide +kernel
theorem dX1_init_41 : decode cX1_init 41 = .ok (.aload_n 0, 1) := by decide +kernel
theorem dX1_init_42 : decode cX1_init 42 = .ok (.bipush 8, 2) := by decide +kernel
theorem dX1_init_44 : decode cX1_init 44 = .ok (.newarray .int, 2) := by decide +kernel
theorem dX1_init_46 : decode cX1_init 46 = .ok (.putfield 32, 3) := by decide +kernel
theorem dX1_init_49 : decode cX1_init 49 = .ok (.aload_n 0, 1) := by decide +kernel
theorem dX1_init_50 : decode cX1_init 50 = .ok (.bipush 8, 2) := by decide +kernel
theorem dX1_init_52 : decode cX1_init 52 = .ok (.newarray .int, 2) := by decide +kernel
theorem dX1_init_54 : decode cX1_init 54 = .ok (.putfield 35, 3) := by decide +kernel
theorem dX1_init_57 : decode cX1_init 57 = .ok (.aload_n 0, 1) := by decide +kernel
theorem dX1_init_58 : decode cX1_init 58 = .ok (.iconst 0, 1) := by decide +kernel
theorem dX1_init_59 : decode cX1_init 59 = .ok (.putfield 38, 3) := by decide +kernel
theorem dX1_init_62 : decode cX1_init 62 = .ok (.aload_n 0, 1) := by decide +kernel
theorem dX1_init_63 : decode cX1_init 63 = .ok (.iconst 5, 1) := by decide +kernel
theorem dX1_init_64 : decode cX1_init 64 = .ok (.newarray .int, 2) := by decide +kernel
theorem dX1_init_66 : decode cX1_init 66 = .ok (.putfield 41, 3) := by decide +kernel
theorem dX1_init_69 : decode cX1_init 69 = .ok (.aload_n 0, 1) := by decide +kernel
theorem dX1_init_70 : decode cX1_init 70 = .ok (.iconst 5, 1) := by decide +kernel
theorem dX1_init_71 : decode cX1_init 71 = .ok (.newarray .int, 2) := by decide +kernel
theorem dX1_init_73 : decode cX1_init 73 = .ok (.putfield 44, 3) := by decide +kernel
theorem dX1_init_76 : decode cX1_init 76 = .ok (.aload_n 0, 1) := by decide +kernel
theorem dX1_init_77 : decode cX1_init 77 = .ok (.iconst 5, 1) := by decide +kernel
theorem dX1_init_78 : decode cX1_init 78 = .ok (.newarray .int, 2) := by decide +kernel
theorem dX1_init_80 : decode cX1_init 80 = .ok (.putfield 47, 3) := by decide +kernel
theorem dX1_init_83 : decode cX1_init 83 = .ok (.aload_n 0, 1) := by decide +kernel
theorem dX1_init_84 : decode cX1_init 84 = .ok (.iconst 5, 1) := by decide +kernel
theorem dX1_init_85 : decode cX1_init 85 = .ok (.newarray .int, 2) := by decide +kernel
theorem dX1_init_87 : decode cX1_init 87 = .ok (.putfield 50, 3) := by decide +kernel
theorem dX1_init_90 : decode cX1_init 90 = .ok (.aload_n 0, 1) := by decide +kernel
theorem dX1_init_91 : decode cX1_init 91 = .ok (.iconst 5, 1) := by decide +kernel
theorem dX1_init_92 : decode cX1_init 92 = .ok (.newarray .int, 2) := by decide +kernel
theorem dX1_init_94 : decode cX1_init 94 = .ok (.putfield 53, 3) := by decide +kernel
theorem dX1_init_97 : decode cX1_init 97 = .ok (.aload_n 0, 1) := by decide +kernel
theorem dX1_init_98 : decode cX1_init 98 = .ok (.bipush 40, 2) := by decide +kernel
theorem dX1_init_100 : decode cX1_init 100 = .ok (.newarray .int, 2) := by decide +kernel
theorem dX1_init_102 : decode cX1_init 102 = .ok (.putfield 56, 3) := by decide +kernel
theorem dX1_init_105 : decode cX1_init 105 = .ok (.aload_n 0, 1) := by decide +kernel
theorem dX1_init_106 : decode cX1_init 106 = .ok (.bipush 40, 2) := by decide +kernel
theorem dX1_init_108 : decode cX1_init 108 = .ok (.newarray .int, 2) := by decide +kernel
theorem dX1_init_110 : decode cX1_init 110 = .ok (.putfield 59, 3) := by decide +kernel
theorem dX1_init_113 : decode cX1_init 113 = .ok (.aload_n 0, 1) := by decide +kernel
theorem dX1_init_114 : decode cX1_init 114 = .ok (.getfield 56, 3) := by decide +kernel
theorem dX1_init_117 : decode cX1_init 117 = .ok (.bipush (-9), 2) := by decide +kernel
theorem dX1_init_119 : decode cX1_init 119 = .ok (.invokestatic 62, 3) := by decide +kernel
theorem dX1_init_122 : decode cX1_init 122 = .ok (.aload_n 0, 1) := by decide +kernel
theorem dX1_init_123 : decode cX1_init 123 = .ok (.getfield 59, 3) := by decide +kernel
theorem dX1_init_126 : decode cX1_init 126 = .ok (.bipush (-9), 2) := by decide +kernel
theorem dX1_init_128 : decode cX1_init 128 = .ok (.invokestatic 62, 3) := by decide +kernel
theorem dX1_init_131 : decode cX1_init 131 = .ok (.return_, 1) := by decide +kernel
theorem dX1_become_0 : decode cX1_become 0 = .ok (.aload_n 0, 1) := by decide +kernel
theorem dX1_become_1 : decode cX1_become 1 = .ok (.getfield 12, 3) := by decide +kernel
theorem dX1_become_4 : decode cX1_become 4 = .ok (.aload_n 1, 1) := by decide +kernel
theorem dX1_become_5 : decode cX1_become 5 = .ok (.getfield 12, 3) := by decide +kernel
theorem dX1_become_8 : decode cX1_become 8 = .ok (.invokevirtual 68, 3) := by decide +kernel
theorem dX1_become_11 : decode cX1_become 11 = .ok (.aload_n 0, 1) := by decide +kernel
theorem dX1_become_12 : decode cX1_become 12 = .ok (.aload_n 1, 1) := by decide +kernel
theorem dX1_become_13 : decode cX1_become 13 = .ok (.getfield 18, 3) := by decide +kernel
theorem dX1_become_16 : decode cX1_become 16 = .ok (.putfield 18, 3) := by decide +kernel
theorem dX1_become_19 : decode cX1_become 19 = .ok (.aload_n 0, 1) := by decide +kernel
theorem dX1_become_20 : decode cX1_become 20 = .ok (.aload_n 1, 1) := by decide +kernel
theorem dX1_become_21 : decode cX1_become 21 = .ok (.getfield 22, 3) := by decide +kernel
theorem dX1_become_24 : decode cX1_become 24 = .ok (.putfield 22, 3) := by decide +kernel
theorem dX1_become_27 : decode cX1_become 27 = .ok (.aload_n 1, 1) := by decide +kernel
theorem dX1_become_28 : decode cX1_become 28 = .ok (.getfield 25, 3) := by decide +kernel
theorem dX1_become_31 : decode cX1_become 31 = .ok (.iconst 0, 1) := by decide +kernel
theorem dX1_become_32 : decode cX1_become 32 = .ok (.aload_n 0, 1) := by decide +kernel
theorem dX1_become_33 : decode cX1_become 33 = .ok (.getfield 25, 3) := by decide +kernel
theorem dX1_become_36 : decode cX1_become 36 = .ok (.iconst 0, 1) := by decide +kernel
theorem dX1_become_37 : decode cX1_become 37 = .ok (.bipush 8, 2) := by decide +kernel
theorem dX1_become_39 : decode cX1_become 39 = .ok (.invokestatic 72, 3) := by decide +kernel
theorem dX1_become_42 : decode cX1_become 42 = .ok (.aload_n 1, 1) := by decide +kernel
theorem dX1_become_43 : decode cX1_become 43 = .ok (.getfield 29, 3) := by decide +kernel
theorem dX1_become_46 : decode cX1_become 46 = .ok (.iconst 0, 1) := by decide +kernel
theorem dX1_become_47 : decode cX1_become 47 = .ok (.aload_n 0, 1) := by decide +kernel
theorem dX1_become_48 : decode cX1_become 48 = .ok (.getfield 29, 3) := by decide +kernel
theorem dX1_become_51 : decode cX1_become 51 = .ok (.iconst 0, 1) := by decide +kernel
theorem dX1_become_52 : decode cX1_become 52 = .ok (.bipush 8, 2) := by decide +kernel
theorem dX1_become_54 : decode cX1_become 54 = .ok (.invokestatic 72, 3) := by decide +kernel
theorem dX1_become_57 : decode cX1_become 57 = .ok (.aload_n 1, 1) := by decide +kernel
theorem dX1_become_58 : decode cX1_become 58 = .ok (.getfield 32, 3) := by decide +kernel
theorem dX1_become_61 : decode cX1_become 61 = .ok (.iconst 0, 1) := by decide +kernel
theorem dX1_become_62 : decode cX1_become 62 = .ok (.aload_n 0, 1) := by decide +kernel
theorem dX1_become_63 : decode cX1_become 63 = .ok (.getfield 32, 3) := by decide +kernel
theorem dX1_become_66 : decode cX1_become 66 = .ok (.iconst 0, 1) := by decide +kernel
theorem dX1_become_67 : decode cX1_become 67 = .ok (.bipush 8, 2) := by decide +kernel
theorem dX1_become_69 : decode cX1_become 69 = .ok (.invokestatic 72, 3) := by decide +kernel
theorem dX1_become_72 : decode cX1_become 72 = .ok (.aload_n 1, 1) := by decide +kernel
theorem dX1_become_73 : decode cX1_become 73 = .ok (.getfield 35, 3) := by decide +kernel
theorem dX1_become_76 : decode cX1_become 76 = .ok (.iconst 0, 1) := by decide +kernel
theorem dX1_become_77 : decode cX1_become 77 = .ok (.aload_n 0, 1) := by decide +kernel
theorem dX1_become_78 : decode cX1_become 78 = .ok (.getfield 35, 3) := by decide +kernel
theorem dX1_become_81 : decode cX1_become 81 = .ok (.iconst 0, 1) := by decide +kernel
theorem dX1_become_82 : decode cX1_become 82 = .ok (.bipush 8, 2) := by decide +kernel
theorem dX1_become_84 : decode cX1_become 84 = .ok (.invokestatic 72, 3) := by decide +kernel
theorem dX1_become_87 : decode cX1_become 87 = .ok (.aload_n 0, 1) := by decide +kernel
theorem dX1_become_88 : decode cX1_become 88 = .ok (.aload_n 1, 1) := by decide +kernel
theorem dX1_become_89 : decode cX1_become 89 = .ok (.getfield 38, 3) := by decide +kernel
theorem dX1_become_92 : decode cX1_become 92 = .ok (.putfield 38, 3) := by decide +kernel
theorem dX1_become_95 : decode cX1_become 95 = .ok (.aload_n 1, 1) := by decide +kernel
theorem dX1_become_96 : decode cX1_become 96 = .ok (.getfield 41, 3) := by decide +kernel
theorem dX1_become_99 : decode cX1_become 99 = .ok (.iconst 0, 1) := by decide +kernel
theorem dX1_become_100 : decode cX1_become 100 = .ok (.aload_n 0, 1) := by decide +kernel
theorem dX1_become_101 : decode cX1_become 101 = .ok (.getfield 41, 3) := by decide +kernel
theorem dX1_become_104 : decode cX1_become 104 = .ok (.iconst 0, 1) := by decide +kernel
theorem dX1_become_105 : decode cX1_become 105 = .ok (.iconst 5, 1) := by decide +kernel
theorem dX1_become_106 : decode cX1_become 106 = .ok (.invokestatic 72, 3) := by decide +kernel
theorem dX1_become_109 : decode cX1_become 109 = .ok (.aload_n 1, 1) := by decide +kernel
theorem dX1_become_110 : decode cX1_become 110 = .ok (.getfield 44, 3) := by decide +kernel
theorem dX1_become_113 : decode cX1_become 113 = .ok (.iconst 0, 1) := by decide +kernel
theorem dX1_become_114 : decode cX1_become 114 = .ok (.aload_n 0, 1) := by decide +kernel
theorem dX1_become_115 : decode cX1_become 115 = .ok (.getfield 44, 3) := by decide +kernel
theorem dX1_become_118 : decode cX1_become 118 = .ok (.iconst 0, 1) := by decide +kernel
theorem dX1_become_119 : decode cX1_become 119 = .ok (.iconst 5, 1) := by decide +kernel
theorem dX1_become_120 : decode cX1_become 120 = .ok (.invokestatic 72, 3) := by decide +kernel
theorem dX1_become_123 : decode cX1_become 123 = .ok (.aload_n 1, 1) := by decide +kernel
theorem dX1_become_124 : decode cX1_become 124 = .ok (.getfield 47, 3) := by decide +kernel
theorem dX1_become_127 : decode cX1_become 127 = .ok (.iconst 0, 1) := by decide +kernel
theorem dX1_become_128 : decode cX1_become 128 = .ok (.aload_n 0, 1) := by decide +kernel
theorem dX1_become_129 : decode cX1_become 129 = .ok (.getfield 47, 3) := by decide +kernel
theorem dX1_become_132 : decode cX1_become 132 = .ok (.iconst 0, 1) := by decide +kernel
theorem dX1_become_133 : decode cX1_become 133 = .ok (.iconst 5, 1) := by decide +kernel
theorem dX1_become_134 : decode cX1_become 134 = .ok (.invokestatic 72, 3) := by decide +kernel
theorem dX1_become_137 : decode cX1_become 137 = .ok (.aload_n 1, 1) := by decide +kernel
theorem dX1_become_138 : decode cX1_become 138 = .ok (.getfield 50, 3) := by decide +kernel
theorem dX1_become_141 : decode cX1_become 141 = .ok (.iconst 0, 1) := by decide +kernel
theorem dX1_become_142 : decode cX1_become 142 = .ok (.aload_n 0, 1) := by decide +kernel
theorem dX1_become_143 : decode cX1_become 143 = .ok (.getfield 50, 3) := by decide +kernel
theorem dX1_become_146 : decode cX1_become 146 = .ok (.iconst 0, 1) := by decide +kernel
theorem dX1_become_147 : decode cX1_become 147 = .ok (.iconst 5, 1) := by decide +kernel
theorem dX1_become_148 : decode cX1_become 148 = .ok (.invokestatic 72, 3) := by decide +kernel
theorem dX1_become_151 : decode cX1_become 151 = .ok (.aload_n 1, 1) := by decide +kernel
theorem dX1_become_152 : decode cX1_become 152 = .ok (.getfield 53, 3) := by decide +kernel
theorem dX1_become_155 : decode cX1_become 155 = .ok (.iconst 0, 1) := by decide +kernel
theorem dX1_become_156 : decode cX1_become 156 = .ok (.aload_n 0, 1) := by decide +kernel
theorem dX1_become_157 : decode cX1_become 157 = .ok (.getfield 53, 3) := by decide +kernel
theorem dX1_become_160 : decode cX1_become 160 = .ok (.iconst 0, 1) := by decide +kernel
theorem dX1_become_161 : decode cX1_become 161 = .ok (.iconst 5, 1) := by decide +kernel
theorem dX1_become_162 : decode cX1_become 162 = .ok (.invokestatic 72, 3) := by decide +kernel
theorem dX1_become_165 : decode cX1_become 165 = .ok (.aload_n 1, 1) := by decide +kernel
theorem dX1_become_166 : decode cX1_become 166 = .ok (.getfield 56, 3) := by decide +kernel
theorem dX1_become_169 : decode cX1_become 169 = .ok (.iconst 0, 1) := by decide +kernel
theorem dX1_become_170 : decode cX1_become 170 = .ok (.aload_n 0, 1) := by decide +kernel
theorem dX1_become_171 : decode cX1_become 171 = .ok (.getfield 56, 3) := by decide +kernel
theorem dX1_become_174 : decode cX1_become 174 = .ok (.iconst 0, 1) := by decide +kernel
theorem dX1_become_175 : decode cX1_become 175 = .ok (.aload_n 0, 1) := by decide +kernel
theorem dX1_become_176 : decode cX1_become 176 = .ok (.getfield 56, 3) := by decide +kernel
theorem dX1_become_179 : decode cX1_become 179 = .ok (.arraylength, 1) := by decide +kernel
theorem dX1_become_180 : decode cX1_become 180 = .ok (.invokestatic 72, 3) := by decide +kernel
theorem dX1_become_183 : decode cX1_become 183 = .ok (.aload_n 1, 1) := by decide +kernel
theorem dX1_become_184 : decode cX1_become 184 = .ok (.getfield 59, 3) := by decide +kernel
theorem dX1_become_187 : decode cX1_become 187 = .ok (.iconst 0, 1) := by decide +kernel
theorem dX1_become_188 : decode cX1_become 188 = .ok (.aload_n 0, 1) := by decide +kernel
theorem dX1_become_189 : decode cX1_become 189 = .ok (.getfield 59, 3) := by decide +kernel
theorem dX1_become_192 : decode cX1_become 192 = .ok (.iconst 0, 1) := by decide +kernel
theorem dX1_become_193 : decode cX1_become 193 = .ok (.aload_n 0, 1) := by decide +kernel
theorem dX1_become_194 : decode cX1_become 194 = .ok (.getfield 59, 3) := by decide +kernel
theorem dX1_become_197 : decode cX1_become 197 = .ok (.arraylength, 1) := by decide +kernel
theorem dX1_become_198 : decode cX1_become 198 = .ok (.invokestatic 72, 3) := by decide +kernel
theorem dX1_become_201 : decode cX1_become 201 = .ok (.return_, 1) := by decide +kernel
theorem dX1_forgetCopies_0 : decode cX1_forgetCopies 0 = .ok (.aload_n 0, 1) := by decide +kernel
theorem dX1_forgetCopies_1 : decode cX1_forgetCopies 1 = .ok (.getfield 59, 3) := by decide +kernel
theorem dX1_forgetCopies_4 : decode cX1_forgetCopies 4 = .ok (.bipush (-9), 2) := by decide +kernel
theorem dX1_forgetCopies_6 : decode cX1_forgetCopies 6 = .ok (.invokestatic 62, 3) := by decide +kernel
theorem dX1_forgetCopies_9 : decode cX1_forgetCopies 9 = .ok (.return_, 1) := by decide +kernel
theorem dX1_addQuestion_0 : decode cX1_addQuestion 0 = .ok (.aload_n 0, 1) := by decide +kernel
theorem dX1_addQuestion_1 : decode cX1_addQuestion 1 = .ok (.getfield 22, 3) := by decide +kernel
theorem dX1_addQuestion_4 : decode cX1_addQuestion 4 = .ok (.bipush 8, 2) := by decide +kernel
theorem dX1_addQuestion_6 : decode cX1_addQuestion 6 = .ok (.if_icmp .lt 4, 3) := by decide +kernel
theorem dX1_addQuestion_9 : decode cX1_addQuestion 9 = .ok (.return_, 1) := by decide +kernel
theorem dX1_addQuestion_10 : decode cX1_addQuestion 10 = .ok (.aload_n 0, 1) := by decide +kernel
theorem dX1_addQuestion_11 : decode cX1_addQuestion 11 = .ok (.getfield 25, 3) := by decide +kernel
theorem dX1_addQuestion_14 : decode cX1_addQuestion 14 = .ok (.aload_n 0, 1) := by decide +kernel
theorem dX1_addQuestion_15 : decode cX1_addQuestion 15 = .ok (.getfield 22, 3) := by decide +kernel
theorem dX1_addQuestion_18 : decode cX1_addQuestion 18 = .ok (.iload_n 1, 1) := by decide +kernel
theorem dX1_addQuestion_19 : decode cX1_addQuestion 19 = .ok (.iastore, 1) := by decide +kernel
theorem dX1_addQuestion_20 : decode cX1_addQuestion 20 = .ok (.aload_n 0, 1) := by decide +kernel
theorem dX1_addQuestion_21 : decode cX1_addQuestion 21 = .ok (.getfield 29, 3) := by decide +kernel
theorem dX1_addQuestion_24 : decode cX1_addQuestion 24 = .ok (.aload_n 0, 1) := by decide +kernel
theorem dX1_addQuestion_25 : decode cX1_addQuestion 25 = .ok (.getfield 22, 3) := by decide +kernel
theorem dX1_addQuestion_28 : decode cX1_addQuestion 28 = .ok (.iload_n 2, 1) := by decide +kernel
theorem dX1_addQuestion_29 : decode cX1_addQuestion 29 = .ok (.iastore, 1) := by decide +kernel
theorem dX1_addQuestion_30 : decode cX1_addQuestion 30 = .ok (.aload_n 0, 1) := by decide +kernel
theorem dX1_addQuestion_31 : decode cX1_addQuestion 31 = .ok (.getfield 32, 3) := by decide +kernel
theorem dX1_addQuestion_34 : decode cX1_addQuestion 34 = .ok (.aload_n 0, 1) := by decide +kernel
theorem dX1_addQuestion_35 : decode cX1_addQuestion 35 = .ok (.getfield 22, 3) := by decide +kernel
theorem dX1_addQuestion_38 : decode cX1_addQuestion 38 = .ok (.iload_n 3, 1) := by decide +kernel
theorem dX1_addQuestion_39 : decode cX1_addQuestion 39 = .ok (.iastore, 1) := by decide +kernel
theorem dX1_addQuestion_40 : decode cX1_addQuestion 40 = .ok (.aload_n 0, 1) := by decide +kernel
theorem dX1_addQuestion_41 : decode cX1_addQuestion 41 = .ok (.getfield 35, 3) := by decide +kernel
theorem dX1_addQuestion_44 : decode cX1_addQuestion 44 = .ok (.aload_n 0, 1) := by decide +kernel
theorem dX1_addQuestion_45 : decode cX1_addQuestion 45 = .ok (.getfield 22, 3) := by decide +kernel
theorem dX1_addQuestion_48 : decode cX1_addQuestion 48 = .ok (.iload 4, 2) := by decide +kernel
theorem dX1_addQuestion_50 : decode cX1_addQuestion 50 = .ok (.iastore, 1) := by decide +kernel
theorem dX1_addQuestion_51 : decode cX1_addQuestion 51 = .ok (.aload_n 0, 1) := by decide +kernel
theorem dX1_addQuestion_52 : decode cX1_addQuestion 52 = .ok (.dup, 1) := by decide +kernel
theorem dX1_addQuestion_53 : decode cX1_addQuestion 53 = .ok (.getfield 22, 3) := by decide +kernel
theorem dX1_addQuestion_56 : decode cX1_addQuestion 56 = .ok (.iconst 1, 1) := by decide +kernel
theorem dX1_addQuestion_57 : decode cX1_addQuestion 57 = .ok (.iadd, 1) := by decide +kernel
theorem dX1_addQuestion_58 : decode cX1_addQuestion 58 = .ok (.putfield 22, 3) := by decide +kernel
theorem dX1_addQuestion_61 : decode cX1_addQuestion 61 = .ok (.return_, 1) := by decide +kernel
theorem dX1_addGroup_0 : decode cX1_addGroup 0 = .ok (.aload_n 0, 1) := by decide +kernel
theorem dX1_addGroup_1 : decode cX1_addGroup 1 = .ok (.getfield 38, 3) := by decide +kernel
theorem dX1_addGroup_4 : decode cX1_addGroup 4 = .ok (.iconst 5, 1) := by decide +kernel
theorem dX1_addGroup_5 : decode cX1_addGroup 5 = .ok (.if_icmp .lt 4, 3) := by decide +kernel
theorem dX1_addGroup_8 : decode cX1_addGroup 8 = .ok (.return_, 1) := by decide +kernel
theorem dX1_addGroup_9 : decode cX1_addGroup 9 = .ok (.aload_n 0, 1) := by decide +kernel
theorem dX1_addGroup_10 : decode cX1_addGroup 10 = .ok (.getfield 41, 3) := by decide +kernel
theorem dX1_addGroup_13 : decode cX1_addGroup 13 = .ok (.aload_n 0, 1) := by decide +kernel
theorem dX1_addGroup_14 : decode cX1_addGroup 14 = .ok (.getfield 38, 3) := by decide +kernel
theorem dX1_addGroup_17 : decode cX1_addGroup 17 = .ok (.iload_n 1, 1) := by decide +kernel
theorem dX1_addGroup_18 : decode cX1_addGroup 18 = .ok (.iastore, 1) := by decide +kernel
theorem dX1_addGroup_19 : decode cX1_addGroup 19 = .ok (.aload_n 0, 1) := by decide +kernel
theorem dX1_addGroup_20 : decode cX1_addGroup 20 = .ok (.getfield 44, 3) := by decide +kernel
theorem dX1_addGroup_23 : decode cX1_addGroup 23 = .ok (.aload_n 0, 1) := by decide +kernel
theorem dX1_addGroup_24 : decode cX1_addGroup 24 = .ok (.getfield 38, 3) := by decide +kernel
theorem dX1_addGroup_27 : decode cX1_addGroup 27 = .ok (.iload_n 2, 1) := by decide +kernel
theorem dX1_addGroup_28 : decode cX1_addGroup 28 = .ok (.iastore, 1) := by decide +kernel
theorem dX1_addGroup_29 : decode cX1_addGroup 29 = .ok (.aload_n 0, 1) := by decide +kernel
theorem dX1_addGroup_30 : decode cX1_addGroup 30 = .ok (.getfield 47, 3) := by decide +kernel
theorem dX1_addGroup_33 : decode cX1_addGroup 33 = .ok (.aload_n 0, 1) := by decide +kernel
theorem dX1_addGroup_34 : decode cX1_addGroup 34 = .ok (.getfield 38, 3) := by decide +kernel
theorem dX1_addGroup_37 : decode cX1_addGroup 37 = .ok (.iload_n 3, 1) := by decide +kernel
theorem dX1_addGroup_38 : decode cX1_addGroup 38 = .ok (.iastore, 1) := by decide +kernel
theorem dX1_addGroup_39 : decode cX1_addGroup 39 = .ok (.aload_n 0, 1) := by decide +kernel
theorem dX1_addGroup_40 : decode cX1_addGroup 40 = .ok (.dup, 1) := by decide +kernel
theorem dX1_addGroup_41 : decode cX1_addGroup 41 = .ok (.getfield 38, 3) := by decide +kernel
theorem dX1_addGroup_44 : decode cX1_addGroup 44 = .ok (.iconst 1, 1) := by decide +kernel
theorem dX1_addGroup_45 : decode cX1_addGroup 45 = .ok (.iadd, 1) := by decide +kernel
theorem dX1_addGroup_46 : decode cX1_addGroup 46 = .ok (.putfield 38, 3) := by decide +kernel
theorem dX1_addGroup_49 : decode cX1_addGroup 49 = .ok (.return_, 1) := by decide +kernel
theorem dX1_place_0 : decode cX1_place 0 = .ok (.aload_n 0, 1) := by decide +kernel
theorem dX1_place_1 : decode cX1_place 1 = .ok (.getfield 50, 3) := by decide +kernel
theorem dX1_place_4 : decode cX1_place 4 = .ok (.iload_n 1, 1) := by decide +kernel
theorem dX1_place_5 : decode cX1_place 5 = .ok (.iload_n 2, 1) := by decide +kernel
theorem dX1_place_6 : decode cX1_place 6 = .ok (.iastore, 1) := by decide +kernel
theorem dX1_place_7 : decode cX1_place 7 = .ok (.aload_n 0, 1) := by decide +kernel
theorem dX1_place_8 : decode cX1_place 8 = .ok (.getfield 53, 3) := by decide +kernel
theorem dX1_place_11 : decode cX1_place 11 = .ok (.iload_n 1, 1) := by decide +kernel
theorem dX1_place_12 : decode cX1_place 12 = .ok (.iconst 0, 1) := by decide +kernel
theorem dX1_place_13 : decode cX1_place 13 = .ok (.iastore, 1) := by decide +kernel
theorem dX1_place_14 : decode cX1_place 14 = .ok (.return_, 1) := by decide +kernel
theorem dX1_answerOf_0 : decode cX1_answerOf 0 = .ok (.aload_n 0, 1) := by decide +kernel
theorem dX1_answerOf_1 : decode cX1_answerOf 1 = .ok (.getfield 56, 3) := by decide +kernel
theorem dX1_answerOf_4 : decode cX1_answerOf 4 = .ok (.iload_n 1, 1) := by decide +kernel
theorem dX1_answerOf_5 : decode cX1_answerOf 5 = .ok (.bipush 8, 2) := by decide +kernel
theorem dX1_answerOf_7 : decode cX1_answerOf 7 = .ok (.imul, 1) := by decide +kernel
theorem dX1_answerOf_8 : decode cX1_answerOf 8 = .ok (.iload_n 2, 1) := by decide +kernel
theorem dX1_answerOf_9 : decode cX1_answerOf 9 = .ok (.iadd, 1) := by decide +kernel
theorem dX1_answerOf_10 : decode cX1_answerOf 10 = .ok (.iaload, 1) := by decide +kernel
theorem dX1_answerOf_11 : decode cX1_answerOf 11 = .ok (.ireturn, 1) := by decide +kernel
theorem dX1_fill_0 : decode cX1_fill 0 = .ok (.aload_n 0, 1) := by decide +kernel
theorem dX1_fill_1 : decode cX1_fill 1 = .ok (.getfield 56, 3) := by decide +kernel
theorem dX1_fill_4 : decode cX1_fill 4 = .ok (.iload_n 1, 1) := by decide +kernel
theorem dX1_fill_5 : decode cX1_fill 5 = .ok (.bipush 8, 2) := by decide +kernel
theorem dX1_fill_7 : decode cX1_fill 7 = .ok (.imul, 1) := by decide +kernel
theorem dX1_fill_8 : decode cX1_fill 8 = .ok (.iload_n 2, 1) := by decide +kernel
theorem dX1_fill_9 : decode cX1_fill 9 = .ok (.iadd, 1) := by decide +kernel
theorem dX1_fill_10 : decode cX1_fill 10 = .ok (.iload_n 3, 1) := by decide +kernel
theorem dX1_fill_11 : decode cX1_fill 11 = .ok (.iastore, 1) := by decide +kernel
theorem dX1_fill_12 : decode cX1_fill 12 = .ok (.return_, 1) := by decide +kernel
theorem dX1_fillTruth_0 : decode cX1_fillTruth 0 = .ok (.iconst 0, 1) := by decide +kernel
theorem dX1_fillTruth_1 : decode cX1_fillTruth 1 = .ok (.istore_n 2, 1) := by decide +kernel
theorem dX1_fillTruth_2 : decode cX1_fillTruth 2 = .ok (.iload_n 2, 1) := by decide +kernel
theorem dX1_fillTruth_3 : decode cX1_fillTruth 3 = .ok (.aload_n 0, 1) := by decide +kernel
theorem dX1_fillTruth_4 : decode cX1_fillTruth 4 = .ok (.getfield 38, 3) := by decide +kernel
theorem dX1_fillTruth_7 : decode cX1_fillTruth 7 = .ok (.if_icmp .ge 21, 3) := by decide +kernel
theorem dX1_fillTruth_10 : decode cX1_fillTruth 10 = .ok (.aload_n 0, 1) := by decide +kernel
theorem dX1_fillTruth_11 : decode cX1_fillTruth 11 = .ok (.iload_n 2, 1) := by decide +kernel
theorem dX1_fillTruth_12 : decode cX1_fillTruth 12 = .ok (.iload_n 1, 1) := by decide +kernel
theorem dX1_fillTruth_13 : decode cX1_fillTruth 13 = .ok (.aload_n 0, 1) := by decide +kernel
theorem dX1_fillTruth_14 : decode cX1_fillTruth 14 = .ok (.getfield 35, 3) := by decide +kernel
theorem dX1_fillTruth_17 : decode cX1_fillTruth 17 = .ok (.iload_n 1, 1) := by decide +kernel
theorem dX1_fillTruth_18 : decode cX1_fillTruth 18 = .ok (.iaload, 1) := by decide +kernel
theorem dX1_fillTruth_19 : decode cX1_fillTruth 19 = .ok (.invokevirtual 78, 3) := by decide +kernel
theorem dX1_fillTruth_22 : decode cX1_fillTruth 22 = .ok (.iinc 2 1, 3) := by decide +kernel
theorem dX1_fillTruth_25 : decode cX1_fillTruth 25 = .ok (.goto (-23), 3) := by decide +kernel
theorem dX1_fillTruth_28 : decode cX1_fillTruth 28 = .ok (.return_, 1) := by decide +kernel
theorem dX1_sourceOf_0 : decode cX1_sourceOf 0 = .ok (.aload_n 0, 1) := by decide +kernel
theorem dX1_sourceOf_1 : decode cX1_sourceOf 1 = .ok (.getfield 59, 3) := by decide +kernel
theorem dX1_sourceOf_4 : decode cX1_sourceOf 4 = .ok (.iload_n 1, 1) := by decide +kernel
theorem dX1_sourceOf_5 : decode cX1_sourceOf 5 = .ok (.bipush 8, 2) := by decide +kernel
theorem dX1_sourceOf_7 : decode cX1_sourceOf 7 = .ok (.imul, 1) := by decide +kernel
theorem dX1_sourceOf_8 : decode cX1_sourceOf 8 = .ok (.iload_n 2, 1) := by decide +kernel
theorem dX1_sourceOf_9 : decode cX1_sourceOf 9 = .ok (.iadd, 1) := by decide +kernel
theorem dX1_sourceOf_10 : decode cX1_sourceOf 10 = .ok (.iaload, 1) := by decide +kernel
theorem dX1_sourceOf_11 : decode cX1_sourceOf 11 = .ok (.ireturn, 1) := by decide +kernel
theorem dX1_nextQuestion_0 : decode cX1_nextQuestion 0 = .ok (.iconst 0, 1) := by decide +kernel
theorem dX1_nextQuestion_1 : decode cX1_nextQuestion 1 = .ok (.istore_n 2, 1) := by decide +kernel
theorem dX1_nextQuestion_2 : decode cX1_nextQuestion 2 = .ok (.iload_n 2, 1) := by decide +kernel
theorem dX1_nextQuestion_3 : decode cX1_nextQuestion 3 = .ok (.aload_n 0, 1) := by decide +kernel
theorem dX1_nextQuestion_4 : decode cX1_nextQuestion 4 = .ok (.getfield 22, 3) := by decide +kernel
theorem dX1_nextQuestion_7 : decode cX1_nextQuestion 7 = .ok (.if_icmp .ge 41, 3) := by decide +kernel
theorem dX1_nextQuestion_10 : decode cX1_nextQuestion 10 = .ok (.aload_n 0, 1) := by decide +kernel
theorem dX1_nextQuestion_11 : decode cX1_nextQuestion 11 = .ok (.getfield 47, 3) := by decide +kernel
theorem dX1_nextQuestion_14 : decode cX1_nextQuestion 14 = .ok (.iload_n 1, 1) := by decide +kernel
theorem dX1_nextQuestion_15 : decode cX1_nextQuestion 15 = .ok (.iaload, 1) := by decide +kernel
theorem dX1_nextQuestion_16 : decode cX1_nextQuestion 16 = .ok (.iload_n 2, 1) := by decide +kernel
theorem dX1_nextQuestion_17 : decode cX1_nextQuestion 17 = .ok (.iadd, 1) := by decide +kernel
theorem dX1_nextQuestion_18 : decode cX1_nextQuestion 18 = .ok (.aload_n 0, 1) := by decide +kernel
theorem dX1_nextQuestion_19 : decode cX1_nextQuestion 19 = .ok (.getfield 22, 3) := by decide +kernel
theorem dX1_nextQuestion_22 : decode cX1_nextQuestion 22 = .ok (.irem, 1) := by decide +kernel
theorem dX1_nextQuestion_23 : decode cX1_nextQuestion 23 = .ok (.istore_n 3, 1) := by decide +kernel
theorem dX1_nextQuestion_24 : decode cX1_nextQuestion 24 = .ok (.aload_n 0, 1) := by decide +kernel
theorem dX1_nextQuestion_25 : decode cX1_nextQuestion 25 = .ok (.getfield 56, 3) := by decide +kernel
theorem dX1_nextQuestion_28 : decode cX1_nextQuestion 28 = .ok (.iload_n 1, 1) := by decide +kernel
theorem dX1_nextQuestion_29 : decode cX1_nextQuestion 29 = .ok (.bipush 8, 2) := by decide +kernel
theorem dX1_nextQuestion_31 : decode cX1_nextQuestion 31 = .ok (.imul, 1) := by decide +kernel
theorem dX1_nextQuestion_32 : decode cX1_nextQuestion 32 = .ok (.iload_n 3, 1) := by decide +kernel
theorem dX1_nextQuestion_33 : decode cX1_nextQuestion 33 = .ok (.iadd, 1) := by decide +kernel
theorem dX1_nextQuestion_34 : decode cX1_nextQuestion 34 = .ok (.iaload, 1) := by decide +kernel
theorem dX1_nextQuestion_35 : decode cX1_nextQuestion 35 = .ok (.bipush (-9), 2) := by decide +kernel
theorem dX1_nextQuestion_37 : decode cX1_nextQuestion 37 = .ok (.if_icmp .ne 5, 3) := by decide +kernel
theorem dX1_nextQuestion_40 : decode cX1_nextQuestion 40 = .ok (.iload_n 3, 1) := by decide +kernel
theorem dX1_nextQuestion_41 : decode cX1_nextQuestion 41 = .ok (.ireturn, 1) := by decide +kernel
theorem dX1_nextQuestion_42 : decode cX1_nextQuestion 42 = .ok (.iinc 2 1, 3) := by decide +kernel
theorem dX1_nextQuestion_45 : decode cX1_nextQuestion 45 = .ok (.goto (-43), 3) := by decide +kernel
theorem dX1_nextQuestion_48 : decode cX1_nextQuestion 48 = .ok (.bipush (-9), 2) := by decide +kernel
theorem dX1_nextQuestion_50 : decode cX1_nextQuestion 50 = .ok (.ireturn, 1) := by decide +kernel
theorem dX1_isDone_0 : decode cX1_isDone 0 = .ok (.aload_n 0, 1) := by decide +kernel
theorem dX1_isDone_1 : decode cX1_isDone 1 = .ok (.iload_n 1, 1) := by decide +kernel
theorem dX1_isDone_2 : decode cX1_isDone 2 = .ok (.invokevirtual 81, 3) := by decide +kernel
theorem dX1_isDone_5 : decode cX1_isDone 5 = .ok (.bipush (-9), 2) := by decide +kernel
theorem dX1_isDone_7 : decode cX1_isDone 7 = .ok (.if_icmp .ne 7, 3) := by decide +kernel
theorem dX1_isDone_10 : decode cX1_isDone 10 = .ok (.iconst 1, 1) := by decide +kernel
theorem dX1_isDone_11 : decode cX1_isDone 11 = .ok (.goto 4, 3) := by decide +kernel
theorem dX1_isDone_14 : decode cX1_isDone 14 = .ok (.iconst 0, 1) := by decide +kernel
theorem dX1_isDone_15 : decode cX1_isDone 15 = .ok (.ireturn, 1) := by decide +kernel
theorem dX1_undone_0 : decode cX1_undone 0 = .ok (.iconst 0, 1) := by decide +kernel
theorem dX1_undone_1 : decode cX1_undone 1 = .ok (.istore_n 1, 1) := by decide +kernel
theorem dX1_undone_2 : decode cX1_undone 2 = .ok (.iconst 0, 1) := by decide +kernel
theorem dX1_undone_3 : decode cX1_undone 3 = .ok (.istore_n 2, 1) := by decide +kernel
theorem dX1_undone_4 : decode cX1_undone 4 = .ok (.iload_n 2, 1) := by decide +kernel
theorem dX1_undone_5 : decode cX1_undone 5 = .ok (.aload_n 0, 1) := by decide +kernel
theorem dX1_undone_6 : decode cX1_undone 6 = .ok (.getfield 38, 3) := by decide +kernel
theorem dX1_undone_9 : decode cX1_undone 9 = .ok (.if_icmp .ge 25, 3) := by decide +kernel
theorem dX1_undone_12 : decode cX1_undone 12 = .ok (.iload_n 1, 1) := by decide +kernel
theorem dX1_undone_13 : decode cX1_undone 13 = .ok (.aload_n 0, 1) := by decide +kernel
theorem dX1_undone_14 : decode cX1_undone 14 = .ok (.iload_n 2, 1) := by decide +kernel
theorem dX1_undone_15 : decode cX1_undone 15 = .ok (.invokevirtual 85, 3) := by decide +kernel
theorem dX1_undone_18 : decode cX1_undone 18 = .ok (.ifCond .eq 7, 3) := by decide +kernel
theorem dX1_undone_21 : decode cX1_undone 21 = .ok (.iconst 0, 1) := by decide +kernel
theorem dX1_undone_22 : decode cX1_undone 22 = .ok (.goto 4, 3) := by decide +kernel
theorem dX1_undone_25 : decode cX1_undone 25 = .ok (.iconst 1, 1) := by decide +kernel
theorem dX1_undone_26 : decode cX1_undone 26 = .ok (.iadd, 1) := by decide +kernel
theorem dX1_undone_27 : decode cX1_undone 27 = .ok (.istore_n 1, 1) := by decide +kernel
theorem dX1_undone_28 : decode cX1_undone 28 = .ok (.iinc 2 1, 3) := by decide +kernel
theorem dX1_undone_31 : decode cX1_undone 31 = .ok (.goto (-27), 3) := by decide +kernel
theorem dX1_undone_34 : decode cX1_undone 34 = .ok (.iload_n 1, 1) := by decide +kernel
theorem dX1_undone_35 : decode cX1_undone 35 = .ok (.ireturn, 1) := by decide +kernel
theorem dX1_minutesFor_0 : decode cX1_minutesFor 0 = .ok (.aload_n 0, 1) := by decide +kernel
theorem dX1_minutesFor_1 : decode cX1_minutesFor 1 = .ok (.getfield 25, 3) := by decide +kernel
theorem dX1_minutesFor_4 : decode cX1_minutesFor 4 = .ok (.iload_n 1, 1) := by decide +kernel
theorem dX1_minutesFor_5 : decode cX1_minutesFor 5 = .ok (.iaload, 1) := by decide +kernel
theorem dX1_minutesFor_6 : decode cX1_minutesFor 6 = .ok (.tableswitch 47 1 5 #[34, 47, 43, 34, 45], 34) := by decide +kernel
theorem dX1_minutesFor_40 : decode cX1_minutesFor 40 = .ok (.iconst 1, 1) := by decide +kernel
theorem dX1_minutesFor_41 : decode cX1_minutesFor 41 = .ok (.aload_n 0, 1) := by decide +kernel
theorem dX1_minutesFor_42 : decode cX1_minutesFor 42 = .ok (.getfield 29, 3) := by decide +kernel
theorem dX1_minutesFor_45 : decode cX1_minutesFor 45 = .ok (.iload_n 1, 1) := by decide +kernel
theorem dX1_minutesFor_46 : decode cX1_minutesFor 46 = .ok (.iaload, 1) := by decide +kernel
theorem dX1_minutesFor_47 : decode cX1_minutesFor 47 = .ok (.iadd, 1) := by decide +kernel
theorem dX1_minutesFor_48 : decode cX1_minutesFor 48 = .ok (.ireturn, 1) := by decide +kernel
theorem dX1_minutesFor_49 : decode cX1_minutesFor 49 = .ok (.iconst 2, 1) := by decide +kernel
theorem dX1_minutesFor_50 : decode cX1_minutesFor 50 = .ok (.ireturn, 1) := by decide +kernel
theorem dX1_minutesFor_51 : decode cX1_minutesFor 51 = .ok (.iconst 3, 1) := by decide +kernel
theorem dX1_minutesFor_52 : decode cX1_minutesFor 52 = .ok (.ireturn, 1) := by decide +kernel
theorem dX1_minutesFor_53 : decode cX1_minutesFor 53 = .ok (.iconst 1, 1) := by decide +kernel
theorem dX1_minutesFor_54 : decode cX1_minutesFor 54 = .ok (.ireturn, 1) := by decide +kernel
theorem dX1_passMinutes_0 : decode cX1_passMinutes 0 = .ok (.iconst 0, 1) := by decide +kernel
theorem dX1_passMinutes_1 : decode cX1_passMinutes 1 = .ok (.istore_n 2, 1) := by decide +kernel
theorem dX1_passMinutes_2 : decode cX1_passMinutes 2 = .ok (.iload_n 2, 1) := by decide +kernel
theorem dX1_passMinutes_3 : decode cX1_passMinutes 3 = .ok (.iload_n 1, 1) := by decide +kernel
theorem dX1_passMinutes_4 : decode cX1_passMinutes 4 = .ok (.if_icmp .ge 13, 3) := by decide +kernel
theorem dX1_passMinutes_7 : decode cX1_passMinutes 7 = .ok (.aload_n 0, 1) := by decide +kernel
theorem dX1_passMinutes_8 : decode cX1_passMinutes 8 = .ok (.invokevirtual 89, 3) := by decide +kernel
theorem dX1_passMinutes_11 : decode cX1_passMinutes 11 = .ok (.iinc 2 1, 3) := by decide +kernel
theorem dX1_passMinutes_14 : decode cX1_passMinutes 14 = .ok (.goto (-12), 3) := by decide +kernel
theorem dX1_passMinutes_17 : decode cX1_passMinutes 17 = .ok (.return_, 1) := by decide +kernel
theorem dX1_passMinute_0 : decode cX1_passMinute 0 = .ok (.aload_n 0, 1) := by decide +kernel
theorem dX1_passMinute_1 : decode cX1_passMinute 1 = .ok (.dup, 1) := by decide +kernel
theorem dX1_passMinute_2 : decode cX1_passMinute 2 = .ok (.getfield 18, 3) := by decide +kernel
theorem dX1_passMinute_5 : decode cX1_passMinute 5 = .ok (.iconst 1, 1) := by decide +kernel
theorem dX1_passMinute_6 : decode cX1_passMinute 6 = .ok (.iadd, 1) := by decide +kernel
theorem dX1_passMinute_7 : decode cX1_passMinute 7 = .ok (.putfield 18, 3) := by decide +kernel
theorem dX1_passMinute_10 : decode cX1_passMinute 10 = .ok (.iconst 0, 1) := by decide +kernel
theorem dX1_passMinute_11 : decode cX1_passMinute 11 = .ok (.istore_n 1, 1) := by decide +kernel
theorem dX1_passMinute_12 : decode cX1_passMinute 12 = .ok (.iload_n 1, 1) := by decide +kernel
theorem dX1_passMinute_13 : decode cX1_passMinute 13 = .ok (.aload_n 0, 1) := by decide +kernel
theorem dX1_passMinute_14 : decode cX1_passMinute 14 = .ok (.getfield 38, 3) := by decide +kernel
theorem dX1_passMinute_17 : decode cX1_passMinute 17 = .ok (.if_icmp .ge 27, 3) := by decide +kernel
theorem dX1_passMinute_20 : decode cX1_passMinute 20 = .ok (.aload_n 0, 1) := by decide +kernel
theorem dX1_passMinute_21 : decode cX1_passMinute 21 = .ok (.iload_n 1, 1) := by decide +kernel
theorem dX1_passMinute_22 : decode cX1_passMinute 22 = .ok (.invokevirtual 81, 3) := by decide +kernel
theorem dX1_passMinute_25 : decode cX1_passMinute 25 = .ok (.istore_n 2, 1) := by decide +kernel
theorem dX1_passMinute_26 : decode cX1_passMinute 26 = .ok (.iload_n 2, 1) := by decide +kernel
theorem dX1_passMinute_27 : decode cX1_passMinute 27 = .ok (.bipush (-9), 2) := by decide +kernel
theorem dX1_passMinute_29 : decode cX1_passMinute 29 = .ok (.if_icmp .eq 9, 3) := by decide +kernel
theorem dX1_passMinute_32 : decode cX1_passMinute 32 = .ok (.aload_n 0, 1) := by decide +kernel
theorem dX1_passMinute_33 : decode cX1_passMinute 33 = .ok (.iload_n 1, 1) := by decide +kernel
theorem dX1_passMinute_34 : decode cX1_passMinute 34 = .ok (.iload_n 2, 1) := by decide +kernel
theorem dX1_passMinute_35 : decode cX1_passMinute 35 = .ok (.invokevirtual 92, 3) := by decide +kernel
theorem dX1_passMinute_38 : decode cX1_passMinute 38 = .ok (.iinc 1 1, 3) := by decide +kernel
theorem dX1_passMinute_41 : decode cX1_passMinute 41 = .ok (.goto (-29), 3) := by decide +kernel
theorem dX1_passMinute_44 : decode cX1_passMinute 44 = .ok (.return_, 1) := by decide +kernel
theorem dX1_goOnWith_0 : decode cX1_goOnWith 0 = .ok (.aload_n 0, 1) := by decide +kernel
theorem dX1_goOnWith_1 : decode cX1_goOnWith 1 = .ok (.getfield 50, 3) := by decide +kernel
theorem dX1_goOnWith_4 : decode cX1_goOnWith 4 = .ok (.iload_n 1, 1) := by decide +kernel
theorem dX1_goOnWith_5 : decode cX1_goOnWith 5 = .ok (.iaload, 1) := by decide +kernel
theorem dX1_goOnWith_6 : decode cX1_goOnWith 6 = .ok (.aload_n 0, 1) := by decide +kernel
theorem dX1_goOnWith_7 : decode cX1_goOnWith 7 = .ok (.getfield 32, 3) := by decide +kernel
theorem dX1_goOnWith_10 : decode cX1_goOnWith 10 = .ok (.iload_n 2, 1) := by decide +kernel
theorem dX1_goOnWith_11 : decode cX1_goOnWith 11 = .ok (.iaload, 1) := by decide +kernel
theorem dX1_goOnWith_12 : decode cX1_goOnWith 12 = .ok (.if_icmp .eq 28, 3) := by decide +kernel
theorem dX1_goOnWith_15 : decode cX1_goOnWith 15 = .ok (.aload_n 0, 1) := by decide +kernel
theorem dX1_goOnWith_16 : decode cX1_goOnWith 16 = .ok (.iload_n 1, 1) := by decide +kernel
theorem dX1_goOnWith_17 : decode cX1_goOnWith 17 = .ok (.aload_n 0, 1) := by decide +kernel
theorem dX1_goOnWith_18 : decode cX1_goOnWith 18 = .ok (.getfield 12, 3) := by decide +kernel
theorem dX1_goOnWith_21 : decode cX1_goOnWith 21 = .ok (.aload_n 0, 1) := by decide +kernel
theorem dX1_goOnWith_22 : decode cX1_goOnWith 22 = .ok (.getfield 50, 3) := by decide +kernel
theorem dX1_goOnWith_25 : decode cX1_goOnWith 25 = .ok (.iload_n 1, 1) := by decide +kernel
theorem dX1_goOnWith_26 : decode cX1_goOnWith 26 = .ok (.iaload, 1) := by decide +kernel
theorem dX1_goOnWith_27 : decode cX1_goOnWith 27 = .ok (.aload_n 0, 1) := by decide +kernel
theorem dX1_goOnWith_28 : decode cX1_goOnWith 28 = .ok (.getfield 32, 3) := by decide +kernel
theorem dX1_goOnWith_31 : decode cX1_goOnWith 31 = .ok (.iload_n 2, 1) := by decide +kernel
theorem dX1_goOnWith_32 : decode cX1_goOnWith 32 = .ok (.iaload, 1) := by decide +kernel
theorem dX1_goOnWith_33 : decode cX1_goOnWith 33 = .ok (.invokevirtual 96, 3) := by decide +kernel
theorem dX1_goOnWith_36 : decode cX1_goOnWith 36 = .ok (.invokevirtual 100, 3) := by decide +kernel
theorem dX1_goOnWith_39 : decode cX1_goOnWith 39 = .ok (.return_, 1) := by decide +kernel
theorem dX1_goOnWith_40 : decode cX1_goOnWith 40 = .ok (.aload_n 0, 1) := by decide +kernel
theorem dX1_goOnWith_41 : decode cX1_goOnWith 41 = .ok (.getfield 53, 3) := by decide +kernel
theorem dX1_goOnWith_44 : decode cX1_goOnWith 44 = .ok (.iload_n 1, 1) := by decide +kernel
theorem dX1_goOnWith_45 : decode cX1_goOnWith 45 = .ok (.dup2, 1) := by decide +kernel
theorem dX1_goOnWith_46 : decode cX1_goOnWith 46 = .ok (.iaload, 1) := by decide +kernel
theorem dX1_goOnWith_47 : decode cX1_goOnWith 47 = .ok (.iconst 1, 1) := by decide +kernel
theorem dX1_goOnWith_48 : decode cX1_goOnWith 48 = .ok (.iadd, 1) := by decide +kernel
theorem dX1_goOnWith_49 : decode cX1_goOnWith 49 = .ok (.iastore, 1) := by decide +kernel
theorem dX1_goOnWith_50 : decode cX1_goOnWith 50 = .ok (.aload_n 0, 1) := by decide +kernel
theorem dX1_goOnWith_51 : decode cX1_goOnWith 51 = .ok (.getfield 53, 3) := by decide +kernel
theorem dX1_goOnWith_54 : decode cX1_goOnWith 54 = .ok (.iload_n 1, 1) := by decide +kernel
theorem dX1_goOnWith_55 : decode cX1_goOnWith 55 = .ok (.iaload, 1) := by decide +kernel
theorem dX1_goOnWith_56 : decode cX1_goOnWith 56 = .ok (.aload_n 0, 1) := by decide +kernel
theorem dX1_goOnWith_57 : decode cX1_goOnWith 57 = .ok (.iload_n 2, 1) := by decide +kernel
theorem dX1_goOnWith_58 : decode cX1_goOnWith 58 = .ok (.invokevirtual 103, 3) := by decide +kernel
theorem dX1_goOnWith_61 : decode cX1_goOnWith 61 = .ok (.if_icmp .ge 4, 3) := by decide +kernel
theorem dX1_goOnWith_64 : decode cX1_goOnWith 64 = .ok (.return_, 1) := by decide +kernel
theorem dX1_goOnWith_65 : decode cX1_goOnWith 65 = .ok (.aload_n 0, 1) := by decide +kernel
theorem dX1_goOnWith_66 : decode cX1_goOnWith 66 = .ok (.getfield 53, 3) := by decide +kernel
theorem dX1_goOnWith_69 : decode cX1_goOnWith 69 = .ok (.iload_n 1, 1) := by decide +kernel
theorem dX1_goOnWith_70 : decode cX1_goOnWith 70 = .ok (.iconst 0, 1) := by decide +kernel
theorem dX1_goOnWith_71 : decode cX1_goOnWith 71 = .ok (.iastore, 1) := by decide +kernel
theorem dX1_goOnWith_72 : decode cX1_goOnWith 72 = .ok (.aload_n 0, 1) := by decide +kernel
theorem dX1_goOnWith_73 : decode cX1_goOnWith 73 = .ok (.iload_n 1, 1) := by decide +kernel
theorem dX1_goOnWith_74 : decode cX1_goOnWith 74 = .ok (.iload_n 2, 1) := by decide +kernel
theorem dX1_goOnWith_75 : decode cX1_goOnWith 75 = .ok (.invokevirtual 106, 3) := by decide +kernel
theorem dX1_goOnWith_78 : decode cX1_goOnWith 78 = .ok (.ifCond .eq 12, 3) := by decide +kernel
theorem dX1_goOnWith_81 : decode cX1_goOnWith 81 = .ok (.aload_n 0, 1) := by decide +kernel
theorem dX1_goOnWith_82 : decode cX1_goOnWith 82 = .ok (.iload_n 1, 1) := by decide +kernel
theorem dX1_goOnWith_83 : decode cX1_goOnWith 83 = .ok (.iload_n 2, 1) := by decide +kernel
theorem dX1_goOnWith_84 : decode cX1_goOnWith 84 = .ok (.invokevirtual 110, 3) := by decide +kernel
theorem dX1_goOnWith_87 : decode cX1_goOnWith 87 = .ok (.goto 5, 3) := by decide +kernel
theorem dX1_goOnWith_90 : decode cX1_goOnWith 90 = .ok (.bipush (-9), 2) := by decide +kernel
theorem dX1_goOnWith_92 : decode cX1_goOnWith 92 = .ok (.istore_n 3, 1) := by decide +kernel
theorem dX1_goOnWith_93 : decode cX1_goOnWith 93 = .ok (.aload_n 0, 1) := by decide +kernel
theorem dX1_goOnWith_94 : decode cX1_goOnWith 94 = .ok (.getfield 59, 3) := by decide +kernel
theorem dX1_goOnWith_97 : decode cX1_goOnWith 97 = .ok (.iload_n 1, 1) := by decide +kernel
theorem dX1_goOnWith_98 : decode cX1_goOnWith 98 = .ok (.bipush 8, 2) := by decide +kernel
theorem dX1_goOnWith_100 : decode cX1_goOnWith 100 = .ok (.imul, 1) := by decide +kernel
theorem dX1_goOnWith_101 : decode cX1_goOnWith 101 = .ok (.iload_n 2, 1) := by decide +kernel
theorem dX1_goOnWith_102 : decode cX1_goOnWith 102 = .ok (.iadd, 1) := by decide +kernel
theorem dX1_goOnWith_103 : decode cX1_goOnWith 103 = .ok (.iload_n 3, 1) := by decide +kernel
theorem dX1_goOnWith_104 : decode cX1_goOnWith 104 = .ok (.iastore, 1) := by decide +kernel
theorem dX1_goOnWith_105 : decode cX1_goOnWith 105 = .ok (.aload_n 0, 1) := by decide +kernel
theorem dX1_goOnWith_106 : decode cX1_goOnWith 106 = .ok (.iload_n 1, 1) := by decide +kernel
theorem dX1_goOnWith_107 : decode cX1_goOnWith 107 = .ok (.iload_n 2, 1) := by decide +kernel
theorem dX1_goOnWith_108 : decode cX1_goOnWith 108 = .ok (.iload_n 3, 1) := by decide +kernel
theorem dX1_goOnWith_109 : decode cX1_goOnWith 109 = .ok (.bipush (-9), 2) := by decide +kernel
theorem dX1_goOnWith_111 : decode cX1_goOnWith 111 = .ok (.if_icmp .ne 12, 3) := by decide +kernel
theorem dX1_goOnWith_114 : decode cX1_goOnWith 114 = .ok (.aload_n 0, 1) := by decide +kernel
theorem dX1_goOnWith_115 : decode cX1_goOnWith 115 = .ok (.iload_n 1, 1) := by decide +kernel
theorem dX1_goOnWith_116 : decode cX1_goOnWith 116 = .ok (.iload_n 2, 1) := by decide +kernel
theorem dX1_goOnWith_117 : decode cX1_goOnWith 117 = .ok (.invokevirtual 113, 3) := by decide +kernel
theorem dX1_goOnWith_120 : decode cX1_goOnWith 120 = .ok (.goto 9, 3) := by decide +kernel
theorem dX1_goOnWith_123 : decode cX1_goOnWith 123 = .ok (.aload_n 0, 1) := by decide +kernel
theorem dX1_goOnWith_124 : decode cX1_goOnWith 124 = .ok (.iload_n 3, 1) := by decide +kernel
theorem dX1_goOnWith_125 : decode cX1_goOnWith 125 = .ok (.iload_n 2, 1) := by decide +kernel
theorem dX1_goOnWith_126 : decode cX1_goOnWith 126 = .ok (.invokevirtual 116, 3) := by decide +kernel
theorem dX1_goOnWith_129 : decode cX1_goOnWith 129 = .ok (.invokevirtual 78, 3) := by decide +kernel
theorem dX1_goOnWith_132 : decode cX1_goOnWith 132 = .ok (.return_, 1) := by decide +kernel
theorem dX1_wouldCopy_0 : decode cX1_wouldCopy 0 = .ok (.aload_n 0, 1) := by decide +kernel
theorem dX1_wouldCopy_1 : decode cX1_wouldCopy 1 = .ok (.getfield 25, 3) := by decide +kernel
theorem dX1_wouldCopy_4 : decode cX1_wouldCopy 4 = .ok (.iload_n 2, 1) := by decide +kernel
theorem dX1_wouldCopy_5 : decode cX1_wouldCopy 5 = .ok (.iaload, 1) := by decide +kernel
theorem dX1_wouldCopy_6 : decode cX1_wouldCopy 6 = .ok (.lookupswitch 47 #[(0, 26), (1, 26)], 26) := by decide +kernel
theorem dX1_wouldCopy_32 : decode cX1_wouldCopy 32 = .ok (.aload_n 0, 1) := by decide +kernel
theorem dX1_wouldCopy_33 : decode cX1_wouldCopy 33 = .ok (.getfield 41, 3) := by decide +kernel
theorem dX1_wouldCopy_36 : decode cX1_wouldCopy 36 = .ok (.iload_n 1, 1) := by decide +kernel
theorem dX1_wouldCopy_37 : decode cX1_wouldCopy 37 = .ok (.iaload, 1) := by decide +kernel
theorem dX1_wouldCopy_38 : decode cX1_wouldCopy 38 = .ok (.aload_n 0, 1) := by decide +kernel
theorem dX1_wouldCopy_39 : decode cX1_wouldCopy 39 = .ok (.getfield 29, 3) := by decide +kernel
theorem dX1_wouldCopy_42 : decode cX1_wouldCopy 42 = .ok (.iload_n 2, 1) := by decide +kernel
theorem dX1_wouldCopy_43 : decode cX1_wouldCopy 43 = .ok (.iaload, 1) := by decide +kernel
theorem dX1_wouldCopy_44 : decode cX1_wouldCopy 44 = .ok (.if_icmp .ge 7, 3) := by decide +kernel
theorem dX1_wouldCopy_47 : decode cX1_wouldCopy 47 = .ok (.iconst 1, 1) := by decide +kernel
theorem dX1_wouldCopy_48 : decode cX1_wouldCopy 48 = .ok (.goto 4, 3) := by decide +kernel
theorem dX1_wouldCopy_51 : decode cX1_wouldCopy 51 = .ok (.iconst 0, 1) := by decide +kernel
theorem dX1_wouldCopy_52 : decode cX1_wouldCopy 52 = .ok (.ireturn, 1) := by decide +kernel
theorem dX1_wouldCopy_53 : decode cX1_wouldCopy 53 = .ok (.aload_n 0, 1) := by decide +kernel
theorem dX1_wouldCopy_54 : decode cX1_wouldCopy 54 = .ok (.getfield 25, 3) := by decide +kernel
theorem dX1_wouldCopy_57 : decode cX1_wouldCopy 57 = .ok (.iload_n 2, 1) := by decide +kernel
theorem dX1_wouldCopy_58 : decode cX1_wouldCopy 58 = .ok (.iaload, 1) := by decide +kernel
theorem dX1_wouldCopy_59 : decode cX1_wouldCopy 59 = .ok (.iconst 2, 1) := by decide +kernel
theorem dX1_wouldCopy_60 : decode cX1_wouldCopy 60 = .ok (.if_icmp .ne 7, 3) := by decide +kernel
theorem dX1_wouldCopy_63 : decode cX1_wouldCopy 63 = .ok (.iconst 1, 1) := by decide +kernel
theorem dX1_wouldCopy_64 : decode cX1_wouldCopy 64 = .ok (.goto 4, 3) := by decide +kernel
theorem dX1_wouldCopy_67 : decode cX1_wouldCopy 67 = .ok (.iconst 0, 1) := by decide +kernel
theorem dX1_wouldCopy_68 : decode cX1_wouldCopy 68 = .ok (.ireturn, 1) := by decide +kernel
theorem dX1_sourceFor_0 : decode cX1_sourceFor 0 = .ok (.iconst 0, 1) := by decide +kernel
theorem dX1_sourceFor_1 : decode cX1_sourceFor 1 = .ok (.istore_n 3, 1) := by decide +kernel
theorem dX1_sourceFor_2 : decode cX1_sourceFor 2 = .ok (.iload_n 3, 1) := by decide +kernel
theorem dX1_sourceFor_3 : decode cX1_sourceFor 3 = .ok (.aload_n 0, 1) := by decide +kernel
theorem dX1_sourceFor_4 : decode cX1_sourceFor 4 = .ok (.getfield 38, 3) := by decide +kernel
theorem dX1_sourceFor_7 : decode cX1_sourceFor 7 = .ok (.if_icmp .ge 59, 3) := by decide +kernel
theorem dX1_sourceFor_10 : decode cX1_sourceFor 10 = .ok (.iload_n 3, 1) := by decide +kernel
theorem dX1_sourceFor_11 : decode cX1_sourceFor 11 = .ok (.iload_n 1, 1) := by decide +kernel
theorem dX1_sourceFor_12 : decode cX1_sourceFor 12 = .ok (.if_icmp .eq 22, 3) := by decide +kernel
theorem dX1_sourceFor_15 : decode cX1_sourceFor 15 = .ok (.aload_n 0, 1) := by decide +kernel
theorem dX1_sourceFor_16 : decode cX1_sourceFor 16 = .ok (.getfield 50, 3) := by decide +kernel
theorem dX1_sourceFor_19 : decode cX1_sourceFor 19 = .ok (.iload_n 3, 1) := by decide +kernel
theorem dX1_sourceFor_20 : decode cX1_sourceFor 20 = .ok (.iaload, 1) := by decide +kernel
theorem dX1_sourceFor_21 : decode cX1_sourceFor 21 = .ok (.aload_n 0, 1) := by decide +kernel
theorem dX1_sourceFor_22 : decode cX1_sourceFor 22 = .ok (.getfield 50, 3) := by decide +kernel
theorem dX1_sourceFor_25 : decode cX1_sourceFor 25 = .ok (.iload_n 1, 1) := by decide +kernel
theorem dX1_sourceFor_26 : decode cX1_sourceFor 26 = .ok (.iaload, 1) := by decide +kernel
theorem dX1_sourceFor_27 : decode cX1_sourceFor 27 = .ok (.if_icmp .ne 7, 3) := by decide +kernel
theorem dX1_sourceFor_30 : decode cX1_sourceFor 30 = .ok (.iconst 1, 1) := by decide +kernel
theorem dX1_sourceFor_31 : decode cX1_sourceFor 31 = .ok (.goto 4, 3) := by decide +kernel
theorem dX1_sourceFor_34 : decode cX1_sourceFor 34 = .ok (.iconst 0, 1) := by decide +kernel
theorem dX1_sourceFor_35 : decode cX1_sourceFor 35 = .ok (.istore 4, 2) := by decide +kernel
theorem dX1_sourceFor_37 : decode cX1_sourceFor 37 = .ok (.iload 4, 2) := by decide +kernel
theorem dX1_sourceFor_39 : decode cX1_sourceFor 39 = .ok (.ifCond .eq 21, 3) := by decide +kernel
theorem dX1_sourceFor_42 : decode cX1_sourceFor 42 = .ok (.aload_n 0, 1) := by decide +kernel
theorem dX1_sourceFor_43 : decode cX1_sourceFor 43 = .ok (.getfield 56, 3) := by decide +kernel
theorem dX1_sourceFor_46 : decode cX1_sourceFor 46 = .ok (.iload_n 3, 1) := by decide +kernel
theorem dX1_sourceFor_47 : decode cX1_sourceFor 47 = .ok (.bipush 8, 2) := by decide +kernel
theorem dX1_sourceFor_49 : decode cX1_sourceFor 49 = .ok (.imul, 1) := by decide +kernel
theorem dX1_sourceFor_50 : decode cX1_sourceFor 50 = .ok (.iload_n 2, 1) := by decide +kernel
theorem dX1_sourceFor_51 : decode cX1_sourceFor 51 = .ok (.iadd, 1) := by decide +kernel
theorem dX1_sourceFor_52 : decode cX1_sourceFor 52 = .ok (.iaload, 1) := by decide +kernel
theorem dX1_sourceFor_53 : decode cX1_sourceFor 53 = .ok (.bipush (-9), 2) := by decide +kernel
theorem dX1_sourceFor_55 : decode cX1_sourceFor 55 = .ok (.if_icmp .eq 5, 3) := by decide +kernel
theorem dX1_sourceFor_58 : decode cX1_sourceFor 58 = .ok (.iload_n 3, 1) := by decide +kernel
theorem dX1_sourceFor_59 : decode cX1_sourceFor 59 = .ok (.ireturn, 1) := by decide +kernel
theorem dX1_sourceFor_60 : decode cX1_sourceFor 60 = .ok (.iinc 3 1, 3) := by decide +kernel
theorem dX1_sourceFor_63 : decode cX1_sourceFor 63 = .ok (.goto (-61), 3) := by decide +kernel
theorem dX1_sourceFor_66 : decode cX1_sourceFor 66 = .ok (.bipush (-9), 2) := by decide +kernel
theorem dX1_sourceFor_68 : decode cX1_sourceFor 68 = .ok (.ireturn, 1) := by decide +kernel
theorem dX1_ownAnswer_0 : decode cX1_ownAnswer 0 = .ok (.aload_n 0, 1) := by decide +kernel
theorem dX1_ownAnswer_1 : decode cX1_ownAnswer 1 = .ok (.getfield 35, 3) := by decide +kernel
theorem dX1_ownAnswer_4 : decode cX1_ownAnswer 4 = .ok (.iload_n 2, 1) := by decide +kernel
theorem dX1_ownAnswer_5 : decode cX1_ownAnswer 5 = .ok (.iaload, 1) := by decide +kernel
theorem dX1_ownAnswer_6 : decode cX1_ownAnswer 6 = .ok (.istore_n 3, 1) := by decide +kernel
theorem dX1_ownAnswer_7 : decode cX1_ownAnswer 7 = .ok (.aload_n 0, 1) := by decide +kernel
theorem dX1_ownAnswer_8 : decode cX1_ownAnswer 8 = .ok (.getfield 25, 3) := by decide +kernel
theorem dX1_ownAnswer_11 : decode cX1_ownAnswer 11 = .ok (.iload_n 2, 1) := by decide +kernel
theorem dX1_ownAnswer_12 : decode cX1_ownAnswer 12 = .ok (.iaload, 1) := by decide +kernel
theorem dX1_ownAnswer_13 : decode cX1_ownAnswer 13 = .ok (.tableswitch 62 3 5 #[27, 34, 60], 27) := by decide +kernel
theorem dX1_ownAnswer_40 : decode cX1_ownAnswer 40 = .ok (.aload_n 0, 1) := by decide +kernel
theorem dX1_ownAnswer_41 : decode cX1_ownAnswer 41 = .ok (.getfield 44, 3) := by decide +kernel
theorem dX1_ownAnswer_44 : decode cX1_ownAnswer 44 = .ok (.iload_n 1, 1) := by decide +kernel
theorem dX1_ownAnswer_45 : decode cX1_ownAnswer 45 = .ok (.iaload, 1) := by decide +kernel
theorem dX1_ownAnswer_46 : decode cX1_ownAnswer 46 = .ok (.ireturn, 1) := by decide +kernel
theorem dX1_ownAnswer_47 : decode cX1_ownAnswer 47 = .ok (.aload_n 0, 1) := by decide +kernel
theorem dX1_ownAnswer_48 : decode cX1_ownAnswer 48 = .ok (.getfield 44, 3) := by decide +kernel
theorem dX1_ownAnswer_51 : decode cX1_ownAnswer 51 = .ok (.iload_n 1, 1) := by decide +kernel
theorem dX1_ownAnswer_52 : decode cX1_ownAnswer 52 = .ok (.iaload, 1) := by decide +kernel
theorem dX1_ownAnswer_53 : decode cX1_ownAnswer 53 = .ok (.aload_n 0, 1) := by decide +kernel
theorem dX1_ownAnswer_54 : decode cX1_ownAnswer 54 = .ok (.getfield 29, 3) := by decide +kernel
theorem dX1_ownAnswer_57 : decode cX1_ownAnswer 57 = .ok (.iload_n 2, 1) := by decide +kernel
theorem dX1_ownAnswer_58 : decode cX1_ownAnswer 58 = .ok (.iaload, 1) := by decide +kernel
theorem dX1_ownAnswer_59 : decode cX1_ownAnswer 59 = .ok (.if_icmp .ge 12, 3) := by decide +kernel
theorem dX1_ownAnswer_62 : decode cX1_ownAnswer 62 = .ok (.iload_n 3, 1) := by decide +kernel
theorem dX1_ownAnswer_63 : decode cX1_ownAnswer 63 = .ok (.iconst 1, 1) := by decide +kernel
theorem dX1_ownAnswer_64 : decode cX1_ownAnswer 64 = .ok (.iadd, 1) := by decide +kernel
theorem dX1_ownAnswer_65 : decode cX1_ownAnswer 65 = .ok (.bipush 10, 2) := by decide +kernel
theorem dX1_ownAnswer_67 : decode cX1_ownAnswer 67 = .ok (.irem, 1) := by decide +kernel
theorem dX1_ownAnswer_68 : decode cX1_ownAnswer 68 = .ok (.goto 4, 3) := by decide +kernel
theorem dX1_ownAnswer_71 : decode cX1_ownAnswer 71 = .ok (.iload_n 3, 1) := by decide +kernel
theorem dX1_ownAnswer_72 : decode cX1_ownAnswer 72 = .ok (.ireturn, 1) := by decide +kernel
theorem dX1_ownAnswer_73 : decode cX1_ownAnswer 73 = .ok (.iload_n 3, 1) := by decide +kernel
theorem dX1_ownAnswer_74 : decode cX1_ownAnswer 74 = .ok (.ireturn, 1) := by decide +kernel
theorem dX1_ownAnswer_75 : decode cX1_ownAnswer 75 = .ok (.aload_n 0, 1) := by decide +kernel
theorem dX1_ownAnswer_76 : decode cX1_ownAnswer 76 = .ok (.getfield 41, 3) := by decide +kernel
theorem dX1_ownAnswer_79 : decode cX1_ownAnswer 79 = .ok (.iload_n 1, 1) := by decide +kernel
theorem dX1_ownAnswer_80 : decode cX1_ownAnswer 80 = .ok (.iaload, 1) := by decide +kernel
theorem dX1_ownAnswer_81 : decode cX1_ownAnswer 81 = .ok (.aload_n 0, 1) := by decide +kernel
theorem dX1_ownAnswer_82 : decode cX1_ownAnswer 82 = .ok (.getfield 29, 3) := by decide +kernel
theorem dX1_ownAnswer_85 : decode cX1_ownAnswer 85 = .ok (.iload_n 2, 1) := by decide +kernel
theorem dX1_ownAnswer_86 : decode cX1_ownAnswer 86 = .ok (.iaload, 1) := by decide +kernel
theorem dX1_ownAnswer_87 : decode cX1_ownAnswer 87 = .ok (.if_icmp .ge 12, 3) := by decide +kernel
theorem dX1_ownAnswer_90 : decode cX1_ownAnswer 90 = .ok (.aload_n 0, 1) := by decide +kernel
theorem dX1_ownAnswer_91 : decode cX1_ownAnswer 91 = .ok (.getfield 44, 3) := by decide +kernel
theorem dX1_ownAnswer_94 : decode cX1_ownAnswer 94 = .ok (.iload_n 1, 1) := by decide +kernel
theorem dX1_ownAnswer_95 : decode cX1_ownAnswer 95 = .ok (.iaload, 1) := by decide +kernel
theorem dX1_ownAnswer_96 : decode cX1_ownAnswer 96 = .ok (.goto 4, 3) := by decide +kernel
theorem dX1_ownAnswer_99 : decode cX1_ownAnswer 99 = .ok (.iload_n 3, 1) := by decide +kernel
theorem dX1_ownAnswer_100 : decode cX1_ownAnswer 100 = .ok (.ireturn, 1) := by decide +kernel
theorem dX1_answersOf_0 : decode cX1_answersOf 0 = .ok (.iconst 0, 1) := by decide +kernel
theorem dX1_answersOf_1 : decode cX1_answersOf 1 = .ok (.istore_n 2, 1) := by decide +kernel
theorem dX1_answersOf_2 : decode cX1_answersOf 2 = .ok (.iconst 0, 1) := by decide +kernel
theorem dX1_answersOf_3 : decode cX1_answersOf 3 = .ok (.istore_n 3, 1) := by decide +kernel
theorem dX1_answersOf_4 : decode cX1_answersOf 4 = .ok (.iload_n 3, 1) := by decide +kernel
theorem dX1_answersOf_5 : decode cX1_answersOf 5 = .ok (.aload_n 0, 1) := by decide +kernel
theorem dX1_answersOf_6 : decode cX1_answersOf 6 = .ok (.getfield 22, 3) := by decide +kernel
theorem dX1_answersOf_9 : decode cX1_answersOf 9 = .ok (.if_icmp .ge 28, 3) := by decide +kernel
theorem dX1_answersOf_12 : decode cX1_answersOf 12 = .ok (.iload_n 2, 1) := by decide +kernel
theorem dX1_answersOf_13 : decode cX1_answersOf 13 = .ok (.aload_n 0, 1) := by decide +kernel
theorem dX1_answersOf_14 : decode cX1_answersOf 14 = .ok (.iload_n 1, 1) := by decide +kernel
theorem dX1_answersOf_15 : decode cX1_answersOf 15 = .ok (.iload_n 3, 1) := by decide +kernel
theorem dX1_answersOf_16 : decode cX1_answersOf 16 = .ok (.invokevirtual 116, 3) := by decide +kernel
theorem dX1_answersOf_19 : decode cX1_answersOf 19 = .ok (.bipush (-9), 2) := by decide +kernel
theorem dX1_answersOf_21 : decode cX1_answersOf 21 = .ok (.if_icmp .ne 7, 3) := by decide +kernel
theorem dX1_answersOf_24 : decode cX1_answersOf 24 = .ok (.iconst 0, 1) := by decide +kernel
theorem dX1_answersOf_25 : decode cX1_answersOf 25 = .ok (.goto 4, 3) := by decide +kernel
theorem dX1_answersOf_28 : decode cX1_answersOf 28 = .ok (.iconst 1, 1) := by decide +kernel
theorem dX1_answersOf_29 : decode cX1_answersOf 29 = .ok (.iadd, 1) := by decide +kernel
theorem dX1_answersOf_30 : decode cX1_answersOf 30 = .ok (.istore_n 2, 1) := by decide +kernel
theorem dX1_answersOf_31 : decode cX1_answersOf 31 = .ok (.iinc 3 1, 3) := by decide +kernel
theorem dX1_answersOf_34 : decode cX1_answersOf 34 = .ok (.goto (-30), 3) := by decide +kernel
theorem dX1_answersOf_37 : decode cX1_answersOf 37 = .ok (.iload_n 2, 1) := by decide +kernel
theorem dX1_answersOf_38 : decode cX1_answersOf 38 = .ok (.ireturn, 1) := by decide +kernel
theorem dX1_rightOf_0 : decode cX1_rightOf 0 = .ok (.iconst 0, 1) := by decide +kernel
theorem dX1_rightOf_1 : decode cX1_rightOf 1 = .ok (.istore_n 2, 1) := by decide +kernel
theorem dX1_rightOf_2 : decode cX1_rightOf 2 = .ok (.iconst 0, 1) := by decide +kernel
theorem dX1_rightOf_3 : decode cX1_rightOf 3 = .ok (.istore_n 3, 1) := by decide +kernel
theorem dX1_rightOf_4 : decode cX1_rightOf 4 = .ok (.iload_n 3, 1) := by decide +kernel
theorem dX1_rightOf_5 : decode cX1_rightOf 5 = .ok (.aload_n 0, 1) := by decide +kernel
theorem dX1_rightOf_6 : decode cX1_rightOf 6 = .ok (.getfield 22, 3) := by decide +kernel
theorem dX1_rightOf_9 : decode cX1_rightOf 9 = .ok (.if_icmp .ge 32, 3) := by decide +kernel
theorem dX1_rightOf_12 : decode cX1_rightOf 12 = .ok (.iload_n 2, 1) := by decide +kernel
theorem dX1_rightOf_13 : decode cX1_rightOf 13 = .ok (.aload_n 0, 1) := by decide +kernel
theorem dX1_rightOf_14 : decode cX1_rightOf 14 = .ok (.iload_n 1, 1) := by decide +kernel
theorem dX1_rightOf_15 : decode cX1_rightOf 15 = .ok (.iload_n 3, 1) := by decide +kernel
theorem dX1_rightOf_16 : decode cX1_rightOf 16 = .ok (.invokevirtual 116, 3) := by decide +kernel
theorem dX1_rightOf_19 : decode cX1_rightOf 19 = .ok (.aload_n 0, 1) := by decide +kernel
theorem dX1_rightOf_20 : decode cX1_rightOf 20 = .ok (.getfield 35, 3) := by decide +kernel
theorem dX1_rightOf_23 : decode cX1_rightOf 23 = .ok (.iload_n 3, 1) := by decide +kernel
theorem dX1_rightOf_24 : decode cX1_rightOf 24 = .ok (.iaload, 1) := by decide +kernel
theorem dX1_rightOf_25 : decode cX1_rightOf 25 = .ok (.if_icmp .ne 7, 3) := by decide +kernel
theorem dX1_rightOf_28 : decode cX1_rightOf 28 = .ok (.iconst 1, 1) := by decide +kernel
theorem dX1_rightOf_29 : decode cX1_rightOf 29 = .ok (.goto 4, 3) := by decide +kernel
theorem dX1_rightOf_32 : decode cX1_rightOf 32 = .ok (.iconst 0, 1) := by decide +kernel
theorem dX1_rightOf_33 : decode cX1_rightOf 33 = .ok (.iadd, 1) := by decide +kernel
theorem dX1_rightOf_34 : decode cX1_rightOf 34 = .ok (.istore_n 2, 1) := by decide +kernel
theorem dX1_rightOf_35 : decode cX1_rightOf 35 = .ok (.iinc 3 1, 3) := by decide +kernel
theorem dX1_rightOf_38 : decode cX1_rightOf 38 = .ok (.goto (-34), 3) := by decide +kernel
theorem dX1_rightOf_41 : decode cX1_rightOf 41 = .ok (.iload_n 2, 1) := by decide +kernel
theorem dX1_rightOf_42 : decode cX1_rightOf 42 = .ok (.ireturn, 1) := by decide +kernel
theorem dX1_copiedBy_0 : decode cX1_copiedBy 0 = .ok (.iconst 0, 1) := by decide +kernel
theorem dX1_copiedBy_1 : decode cX1_copiedBy 1 = .ok (.istore_n 2, 1) := by decide +kernel
theorem dX1_copiedBy_2 : decode cX1_copiedBy 2 = .ok (.iconst 0, 1) := by decide +kernel
theorem dX1_copiedBy_3 : decode cX1_copiedBy 3 = .ok (.istore_n 3, 1) := by decide +kernel
theorem dX1_copiedBy_4 : decode cX1_copiedBy 4 = .ok (.iload_n 3, 1) := by decide +kernel
theorem dX1_copiedBy_5 : decode cX1_copiedBy 5 = .ok (.aload_n 0, 1) := by decide +kernel
theorem dX1_copiedBy_6 : decode cX1_copiedBy 6 = .ok (.getfield 22, 3) := by decide +kernel
theorem dX1_copiedBy_9 : decode cX1_copiedBy 9 = .ok (.if_icmp .ge 28, 3) := by decide +kernel
theorem dX1_copiedBy_12 : decode cX1_copiedBy 12 = .ok (.iload_n 2, 1) := by decide +kernel
theorem dX1_copiedBy_13 : decode cX1_copiedBy 13 = .ok (.aload_n 0, 1) := by decide +kernel
theorem dX1_copiedBy_14 : decode cX1_copiedBy 14 = .ok (.iload_n 1, 1) := by decide +kernel
theorem dX1_copiedBy_15 : decode cX1_copiedBy 15 = .ok (.iload_n 3, 1) := by decide +kernel
theorem dX1_copiedBy_16 : decode cX1_copiedBy 16 = .ok (.invokevirtual 119, 3) := by decide +kernel
theorem dX1_copiedBy_19 : decode cX1_copiedBy 19 = .ok (.bipush (-9), 2) := by decide +kernel
theorem dX1_copiedBy_21 : decode cX1_copiedBy 21 = .ok (.if_icmp .ne 7, 3) := by decide +kernel
theorem dX1_copiedBy_24 : decode cX1_copiedBy 24 = .ok (.iconst 0, 1) := by decide +kernel
theorem dX1_copiedBy_25 : decode cX1_copiedBy 25 = .ok (.goto 4, 3) := by decide +kernel
theorem dX1_copiedBy_28 : decode cX1_copiedBy 28 = .ok (.iconst 1, 1) := by decide +kernel
theorem dX1_copiedBy_29 : decode cX1_copiedBy 29 = .ok (.iadd, 1) := by decide +kernel
theorem dX1_copiedBy_30 : decode cX1_copiedBy 30 = .ok (.istore_n 2, 1) := by decide +kernel
theorem dX1_copiedBy_31 : decode cX1_copiedBy 31 = .ok (.iinc 3 1, 3) := by decide +kernel
theorem dX1_copiedBy_34 : decode cX1_copiedBy 34 = .ok (.goto (-30), 3) := by decide +kernel
theorem dX1_copiedBy_37 : decode cX1_copiedBy 37 = .ok (.iload_n 2, 1) := by decide +kernel
theorem dX1_copiedBy_38 : decode cX1_copiedBy 38 = .ok (.ireturn, 1) := by decide +kernel
theorem dX1_answersOfAll_0 : decode cX1_answersOfAll 0 = .ok (.iconst 0, 1) := by decide +kernel
theorem dX1_answersOfAll_1 : decode cX1_answersOfAll 1 = .ok (.istore_n 1, 1) := by decide +kernel
theorem dX1_answersOfAll_2 : decode cX1_answersOfAll 2 = .ok (.iconst 0, 1) := by decide +kernel
theorem dX1_answersOfAll_3 : decode cX1_answersOfAll 3 = .ok (.istore_n 2, 1) := by decide +kernel
theorem dX1_answersOfAll_4 : decode cX1_answersOfAll 4 = .ok (.iload_n 2, 1) := by decide +kernel
theorem dX1_answersOfAll_5 : decode cX1_answersOfAll 5 = .ok (.aload_n 0, 1) := by decide +kernel
theorem dX1_answersOfAll_6 : decode cX1_answersOfAll 6 = .ok (.getfield 38, 3) := by decide +kernel
theorem dX1_answersOfAll_9 : decode cX1_answersOfAll 9 = .ok (.if_icmp .ge 17, 3) := by decide +kernel
theorem dX1_answersOfAll_12 : decode cX1_answersOfAll 12 = .ok (.iload_n 1, 1) := by decide +kernel
theorem dX1_answersOfAll_13 : decode cX1_answersOfAll 13 = .ok (.aload_n 0, 1) := by decide +kernel
theorem dX1_answersOfAll_14 : decode cX1_answersOfAll 14 = .ok (.iload_n 2, 1) := by decide +kernel
theorem dX1_answersOfAll_15 : decode cX1_answersOfAll 15 = .ok (.invokevirtual 122, 3) := by decide +kernel
theorem dX1_answersOfAll_18 : decode cX1_answersOfAll 18 = .ok (.iadd, 1) := by decide +kernel
theorem dX1_answersOfAll_19 : decode cX1_answersOfAll 19 = .ok (.istore_n 1, 1) := by decide +kernel
theorem dX1_answersOfAll_20 : decode cX1_answersOfAll 20 = .ok (.iinc 2 1, 3) := by decide +kernel
theorem dX1_answersOfAll_23 : decode cX1_answersOfAll 23 = .ok (.goto (-19), 3) := by decide +kernel
theorem dX1_answersOfAll_26 : decode cX1_answersOfAll 26 = .ok (.iload_n 1, 1) := by decide +kernel
theorem dX1_answersOfAll_27 : decode cX1_answersOfAll 27 = .ok (.ireturn, 1) := by decide +kernel
theorem dX1_rightOfAll_0 : decode cX1_rightOfAll 0 = .ok (.iconst 0, 1) := by decide +kernel
theorem dX1_rightOfAll_1 : decode cX1_rightOfAll 1 = .ok (.istore_n 1, 1) := by decide +kernel
theorem dX1_rightOfAll_2 : decode cX1_rightOfAll 2 = .ok (.iconst 0, 1) := by decide +kernel
theorem dX1_rightOfAll_3 : decode cX1_rightOfAll 3 = .ok (.istore_n 2, 1) := by decide +kernel
theorem dX1_rightOfAll_4 : decode cX1_rightOfAll 4 = .ok (.iload_n 2, 1) := by decide +kernel
theorem dX1_rightOfAll_5 : decode cX1_rightOfAll 5 = .ok (.aload_n 0, 1) := by decide +kernel
theorem dX1_rightOfAll_6 : decode cX1_rightOfAll 6 = .ok (.getfield 38, 3) := by decide +kernel
theorem dX1_rightOfAll_9 : decode cX1_rightOfAll 9 = .ok (.if_icmp .ge 17, 3) := by decide +kernel
theorem dX1_rightOfAll_12 : decode cX1_rightOfAll 12 = .ok (.iload_n 1, 1) := by decide +kernel
theorem dX1_rightOfAll_13 : decode cX1_rightOfAll 13 = .ok (.aload_n 0, 1) := by decide +kernel
theorem dX1_rightOfAll_14 : decode cX1_rightOfAll 14 = .ok (.iload_n 2, 1) := by decide +kernel
theorem dX1_rightOfAll_15 : decode cX1_rightOfAll 15 = .ok (.invokevirtual 125, 3) := by decide +kernel
theorem dX1_rightOfAll_18 : decode cX1_rightOfAll 18 = .ok (.iadd, 1) := by decide +kernel
theorem dX1_rightOfAll_19 : decode cX1_rightOfAll 19 = .ok (.istore_n 1, 1) := by decide +kernel
theorem dX1_rightOfAll_20 : decode cX1_rightOfAll 20 = .ok (.iinc 2 1, 3) := by decide +kernel
theorem dX1_rightOfAll_23 : decode cX1_rightOfAll 23 = .ok (.goto (-19), 3) := by decide +kernel
theorem dX1_rightOfAll_26 : decode cX1_rightOfAll 26 = .ok (.iload_n 1, 1) := by decide +kernel
theorem dX1_rightOfAll_27 : decode cX1_rightOfAll 27 = .ok (.ireturn, 1) := by decide +kernel
theorem dX1_copiedByAll_0 : decode cX1_copiedByAll 0 = .ok (.iconst 0, 1) := by decide +kernel
theorem dX1_copiedByAll_1 : decode cX1_copiedByAll 1 = .ok (.istore_n 1, 1) := by decide +kernel
theorem dX1_copiedByAll_2 : decode cX1_copiedByAll 2 = .ok (.iconst 0, 1) := by decide +kernel
theorem dX1_copiedByAll_3 : decode cX1_copiedByAll 3 = .ok (.istore_n 2, 1) := by decide +kernel
theorem dX1_copiedByAll_4 : decode cX1_copiedByAll 4 = .ok (.iload_n 2, 1) := by decide +kernel
theorem dX1_copiedByAll_5 : decode cX1_copiedByAll 5 = .ok (.aload_n 0, 1) := by decide +kernel
theorem dX1_copiedByAll_6 : decode cX1_copiedByAll 6 = .ok (.getfield 38, 3) := by decide +kernel
theorem dX1_copiedByAll_9 : decode cX1_copiedByAll 9 = .ok (.if_icmp .ge 17, 3) := by decide +kernel
theorem dX1_copiedByAll_12 : decode cX1_copiedByAll 12 = .ok (.iload_n 1, 1) := by decide +kernel
theorem dX1_copiedByAll_13 : decode cX1_copiedByAll 13 = .ok (.aload_n 0, 1) := by decide +kernel
theorem dX1_copiedByAll_14 : decode cX1_copiedByAll 14 = .ok (.iload_n 2, 1) := by decide +kernel
theorem dX1_copiedByAll_15 : decode cX1_copiedByAll 15 = .ok (.invokevirtual 128, 3) := by decide +kernel
theorem dX1_copiedByAll_18 : decode cX1_copiedByAll 18 = .ok (.iadd, 1) := by decide +kernel
theorem dX1_copiedByAll_19 : decode cX1_copiedByAll 19 = .ok (.istore_n 1, 1) := by decide +kernel
theorem dX1_copiedByAll_20 : decode cX1_copiedByAll 20 = .ok (.iinc 2 1, 3) := by decide +kernel
theorem dX1_copiedByAll_23 : decode cX1_copiedByAll 23 = .ok (.goto (-19), 3) := by decide +kernel
theorem dX1_copiedByAll_26 : decode cX1_copiedByAll 26 = .ok (.iload_n 1, 1) := by decide +kernel
theorem dX1_copiedByAll_27 : decode cX1_copiedByAll 27 = .ok (.ireturn, 1) := by decide +kernel
theorem dX1_groupsAt_0 : decode cX1_groupsAt 0 = .ok (.iconst 0, 1) := by decide +kernel
theorem dX1_groupsAt_1 : decode cX1_groupsAt 1 = .ok (.istore_n 2, 1) := by decide +kernel
theorem dX1_groupsAt_2 : decode cX1_groupsAt 2 = .ok (.iconst 0, 1) := by decide +kernel
theorem dX1_groupsAt_3 : decode cX1_groupsAt 3 = .ok (.istore_n 3, 1) := by decide +kernel
theorem dX1_groupsAt_4 : decode cX1_groupsAt 4 = .ok (.iload_n 3, 1) := by decide +kernel
theorem dX1_groupsAt_5 : decode cX1_groupsAt 5 = .ok (.aload_n 0, 1) := by decide +kernel
theorem dX1_groupsAt_6 : decode cX1_groupsAt 6 = .ok (.getfield 38, 3) := by decide +kernel
theorem dX1_groupsAt_9 : decode cX1_groupsAt 9 = .ok (.if_icmp .ge 27, 3) := by decide +kernel
theorem dX1_groupsAt_12 : decode cX1_groupsAt 12 = .ok (.iload_n 2, 1) := by decide +kernel
theorem dX1_groupsAt_13 : decode cX1_groupsAt 13 = .ok (.aload_n 0, 1) := by decide +kernel
theorem dX1_groupsAt_14 : decode cX1_groupsAt 14 = .ok (.getfield 50, 3) := by decide +kernel
theorem dX1_groupsAt_17 : decode cX1_groupsAt 17 = .ok (.iload_n 3, 1) := by decide +kernel
theorem dX1_groupsAt_18 : decode cX1_groupsAt 18 = .ok (.iaload, 1) := by decide +kernel
theorem dX1_groupsAt_19 : decode cX1_groupsAt 19 = .ok (.iload_n 1, 1) := by decide +kernel
theorem dX1_groupsAt_20 : decode cX1_groupsAt 20 = .ok (.if_icmp .ne 7, 3) := by decide +kernel
theorem dX1_groupsAt_23 : decode cX1_groupsAt 23 = .ok (.iconst 1, 1) := by decide +kernel
theorem dX1_groupsAt_24 : decode cX1_groupsAt 24 = .ok (.goto 4, 3) := by decide +kernel
theorem dX1_groupsAt_27 : decode cX1_groupsAt 27 = .ok (.iconst 0, 1) := by decide +kernel
theorem dX1_groupsAt_28 : decode cX1_groupsAt 28 = .ok (.iadd, 1) := by decide +kernel
theorem dX1_groupsAt_29 : decode cX1_groupsAt 29 = .ok (.istore_n 2, 1) := by decide +kernel
theorem dX1_groupsAt_30 : decode cX1_groupsAt 30 = .ok (.iinc 3 1, 3) := by decide +kernel
theorem dX1_groupsAt_33 : decode cX1_groupsAt 33 = .ok (.goto (-29), 3) := by decide +kernel
theorem dX1_groupsAt_36 : decode cX1_groupsAt 36 = .ok (.iload_n 2, 1) := by decide +kernel
theorem dX1_groupsAt_37 : decode cX1_groupsAt 37 = .ok (.ireturn, 1) := by decide +kernel
theorem dX2_init_0 : decode cX2_init 0 = .ok (.aload_n 0, 1) := by decide +kernel
theorem dX2_init_1 : decode cX2_init 1 = .ok (.invokespecial 3, 3) := by decide +kernel
theorem dX2_init_4 : decode cX2_init 4 = .ok (.aload_n 0, 1) := by decide +kernel
theorem dX2_init_5 : decode cX2_init 5 = .ok (.bipush 49, 2) := by decide +kernel
theorem dX2_init_7 : decode cX2_init 7 = .ok (.newarray .int, 2) := by decide +kernel
theorem dX2_init_9 : decode cX2_init 9 = .ok (.putfield 11, 3) := by decide +kernel
theorem dX2_init_12 : decode cX2_init 12 = .ok (.aload_n 0, 1) := by decide +kernel
theorem dX2_init_13 : decode cX2_init 13 = .ok (.bipush 49, 2) := by decide +kernel
theorem dX2_init_15 : decode cX2_init 15 = .ok (.newarray .int, 2) := by decide +kernel
theorem dX2_init_17 : decode cX2_init 17 = .ok (.putfield 15, 3) := by decide +kernel
theorem dX2_init_20 : decode cX2_init 20 = .ok (.aload_n 0, 1) := by decide +kernel
theorem dX2_init_21 : decode cX2_init 21 = .ok (.invokevirtual 18, 3) := by decide +kernel
theorem dX2_init_24 : decode cX2_init 24 = .ok (.return_, 1) := by decide +kernel
theorem dX2_become_0 : decode cX2_become 0 = .ok (.aload_n 1, 1) := by decide +kernel
theorem dX2_become_1 : decode cX2_become 1 = .ok (.getfield 11, 3) := by decide +kernel
theorem dX2_become_4 : decode cX2_become 4 = .ok (.iconst 0, 1) := by decide +kernel
theorem dX2_become_5 : decode cX2_become 5 = .ok (.aload_n 0, 1) := by decide +kernel
theorem dX2_become_6 : decode cX2_become 6 = .ok (.getfield 11, 3) := by decide +kernel
theorem dX2_become_9 : decode cX2_become 9 = .ok (.iconst 0, 1) := by decide +kernel
theorem dX2_become_10 : decode cX2_become 10 = .ok (.aload_n 0, 1) := by decide +kernel
theorem dX2_become_11 : decode cX2_become 11 = .ok (.getfield 11, 3) := by decide +kernel
theorem dX2_become_14 : decode cX2_become 14 = .ok (.arraylength, 1) := by decide +kernel
theorem dX2_become_15 : decode cX2_become 15 = .ok (.invokestatic 21, 3) := by decide +kernel
theorem dX2_become_18 : decode cX2_become 18 = .ok (.aload_n 1, 1) := by decide +kernel
theorem dX2_become_19 : decode cX2_become 19 = .ok (.getfield 15, 3) := by decide +kernel
theorem dX2_become_22 : decode cX2_become 22 = .ok (.iconst 0, 1) := by decide +kernel
theorem dX2_become_23 : decode cX2_become 23 = .ok (.aload_n 0, 1) := by decide +kernel
theorem dX2_become_24 : decode cX2_become 24 = .ok (.getfield 15, 3) := by decide +kernel
theorem dX2_become_27 : decode cX2_become 27 = .ok (.iconst 0, 1) := by decide +kernel
theorem dX2_become_28 : decode cX2_become 28 = .ok (.aload_n 0, 1) := by decide +kernel
theorem dX2_become_29 : decode cX2_become 29 = .ok (.getfield 15, 3) := by decide +kernel
theorem dX2_become_32 : decode cX2_become 32 = .ok (.arraylength, 1) := by decide +kernel
theorem dX2_become_33 : decode cX2_become 33 = .ok (.invokestatic 21, 3) := by decide +kernel
theorem dX2_become_36 : decode cX2_become 36 = .ok (.return_, 1) := by decide +kernel
theorem dX2_isOpen_0 : decode cX2_isOpen 0 = .ok (.aload_n 0, 1) := by decide +kernel
theorem dX2_isOpen_1 : decode cX2_isOpen 1 = .ok (.getfield 11, 3) := by decide +kernel
theorem dX2_isOpen_4 : decode cX2_isOpen 4 = .ok (.iload_n 1, 1) := by decide +kernel
theorem dX2_isOpen_5 : decode cX2_isOpen 5 = .ok (.bipush 7, 2) := by decide +kernel
theorem dX2_isOpen_7 : decode cX2_isOpen 7 = .ok (.imul, 1) := by decide +kernel
theorem dX2_isOpen_8 : decode cX2_isOpen 8 = .ok (.iload_n 2, 1) := by decide +kernel
theorem dX2_isOpen_9 : decode cX2_isOpen 9 = .ok (.iadd, 1) := by decide +kernel
theorem dX2_isOpen_10 : decode cX2_isOpen 10 = .ok (.iaload, 1) := by decide +kernel
theorem dX2_isOpen_11 : decode cX2_isOpen 11 = .ok (.iconst 1, 1) := by decide +kernel
theorem dX2_isOpen_12 : decode cX2_isOpen 12 = .ok (.if_icmp .ne 7, 3) := by decide +kernel
theorem dX2_isOpen_15 : decode cX2_isOpen 15 = .ok (.iconst 1, 1) := by decide +kernel
theorem dX2_isOpen_16 : decode cX2_isOpen 16 = .ok (.goto 4, 3) := by decide +kernel
theorem dX2_isOpen_19 : decode cX2_isOpen 19 = .ok (.iconst 0, 1) := by decide +kernel
theorem dX2_isOpen_20 : decode cX2_isOpen 20 = .ok (.ireturn, 1) := by decide +kernel
theorem dX2_turn_0 : decode cX2_turn 0 = .ok (.aload_n 0, 1) := by decide +kernel
theorem dX2_turn_1 : decode cX2_turn 1 = .ok (.iload_n 1, 1) := by decide +kernel
theorem dX2_turn_2 : decode cX2_turn 2 = .ok (.iload_n 2, 1) := by decide +kernel
theorem dX2_turn_3 : decode cX2_turn 3 = .ok (.invokevirtual 27, 3) := by decide +kernel
theorem dX2_turn_6 : decode cX2_turn 6 = .ok (.ifCond .eq 7, 3) := by decide +kernel
theorem dX2_turn_9 : decode cX2_turn 9 = .ok (.iconst 0, 1) := by decide +kernel
theorem dX2_turn_10 : decode cX2_turn 10 = .ok (.goto 4, 3) := by decide +kernel
theorem dX2_turn_13 : decode cX2_turn 13 = .ok (.iconst 1, 1) := by decide +kernel
theorem dX2_turn_14 : decode cX2_turn 14 = .ok (.istore_n 3, 1) := by decide +kernel
theorem dX2_turn_15 : decode cX2_turn 15 = .ok (.aload_n 0, 1) := by decide +kernel
theorem dX2_turn_16 : decode cX2_turn 16 = .ok (.getfield 11, 3) := by decide +kernel
theorem dX2_turn_19 : decode cX2_turn 19 = .ok (.iload_n 1, 1) := by decide +kernel
theorem dX2_turn_20 : decode cX2_turn 20 = .ok (.bipush 7, 2) := by decide +kernel
theorem dX2_turn_22 : decode cX2_turn 22 = .ok (.imul, 1) := by decide +kernel
theorem dX2_turn_23 : decode cX2_turn 23 = .ok (.iload_n 2, 1) := by decide +kernel
theorem dX2_turn_24 : decode cX2_turn 24 = .ok (.iadd, 1) := by decide +kernel
theorem dX2_turn_25 : decode cX2_turn 25 = .ok (.iload_n 3, 1) := by decide +kernel
theorem dX2_turn_26 : decode cX2_turn 26 = .ok (.iastore, 1) := by decide +kernel
theorem dX2_turn_27 : decode cX2_turn 27 = .ok (.aload_n 0, 1) := by decide +kernel
theorem dX2_turn_28 : decode cX2_turn 28 = .ok (.getfield 11, 3) := by decide +kernel
theorem dX2_turn_31 : decode cX2_turn 31 = .ok (.iload_n 2, 1) := by decide +kernel
theorem dX2_turn_32 : decode cX2_turn 32 = .ok (.bipush 7, 2) := by decide +kernel
theorem dX2_turn_34 : decode cX2_turn 34 = .ok (.imul, 1) := by decide +kernel
theorem dX2_turn_35 : decode cX2_turn 35 = .ok (.iload_n 1, 1) := by decide +kernel
theorem dX2_turn_36 : decode cX2_turn 36 = .ok (.iadd, 1) := by decide +kernel
theorem dX2_turn_37 : decode cX2_turn 37 = .ok (.iload_n 3, 1) := by decide +kernel
theorem dX2_turn_38 : decode cX2_turn 38 = .ok (.iastore, 1) := by decide +kernel
theorem dX2_turn_39 : decode cX2_turn 39 = .ok (.aload_n 0, 1) := by decide +kernel
theorem dX2_turn_40 : decode cX2_turn 40 = .ok (.invokevirtual 18, 3) := by decide +kernel
theorem dX2_turn_43 : decode cX2_turn 43 = .ok (.return_, 1) := by decide +kernel
theorem dX2_doors_0 : decode cX2_doors 0 = .ok (.iconst 0, 1) := by decide +kernel
theorem dX2_doors_1 : decode cX2_doors 1 = .ok (.istore_n 1, 1) := by decide +kernel
theorem dX2_doors_2 : decode cX2_doors 2 = .ok (.iconst 0, 1) := by decide +kernel
theorem dX2_doors_3 : decode cX2_doors 3 = .ok (.istore_n 2, 1) := by decide +kernel
theorem dX2_doors_4 : decode cX2_doors 4 = .ok (.iload_n 2, 1) := by decide +kernel
theorem dX2_doors_5 : decode cX2_doors 5 = .ok (.aload_n 0, 1) := by decide +kernel
theorem dX2_doors_6 : decode cX2_doors 6 = .ok (.getfield 11, 3) := by decide +kernel
theorem dX2_doors_9 : decode cX2_doors 9 = .ok (.arraylength, 1) := by decide +kernel
theorem dX2_doors_10 : decode cX2_doors 10 = .ok (.if_icmp .ge 18, 3) := by decide +kernel
theorem dX2_doors_13 : decode cX2_doors 13 = .ok (.iload_n 1, 1) := by decide +kernel
theorem dX2_doors_14 : decode cX2_doors 14 = .ok (.aload_n 0, 1) := by decide +kernel
theorem dX2_doors_15 : decode cX2_doors 15 = .ok (.getfield 11, 3) := by decide +kernel
theorem dX2_doors_18 : decode cX2_doors 18 = .ok (.iload_n 2, 1) := by decide +kernel
theorem dX2_doors_19 : decode cX2_doors 19 = .ok (.iaload, 1) := by decide +kernel
theorem dX2_doors_20 : decode cX2_doors 20 = .ok (.iadd, 1) := by decide +kernel
theorem dX2_doors_21 : decode cX2_doors 21 = .ok (.istore_n 1, 1) := by decide +kernel
theorem dX2_doors_22 : decode cX2_doors 22 = .ok (.iinc 2 1, 3) := by decide +kernel
theorem dX2_doors_25 : decode cX2_doors 25 = .ok (.goto (-21), 3) := by decide +kernel
theorem dX2_doors_28 : decode cX2_doors 28 = .ok (.iload_n 1, 1) := by decide +kernel
theorem dX2_doors_29 : decode cX2_doors 29 = .ok (.iconst 2, 1) := by decide +kernel
theorem dX2_doors_30 : decode cX2_doors 30 = .ok (.idiv, 1) := by decide +kernel
theorem dX2_doors_31 : decode cX2_doors 31 = .ok (.ireturn, 1) := by decide +kernel
theorem dX2_distance_0 : decode cX2_distance 0 = .ok (.aload_n 0, 1) := by decide +kernel
theorem dX2_distance_1 : decode cX2_distance 1 = .ok (.getfield 15, 3) := by decide +kernel
theorem dX2_distance_4 : decode cX2_distance 4 = .ok (.iload_n 1, 1) := by decide +kernel
theorem dX2_distance_5 : decode cX2_distance 5 = .ok (.bipush 7, 2) := by decide +kernel
theorem dX2_distance_7 : decode cX2_distance 7 = .ok (.imul, 1) := by decide +kernel
theorem dX2_distance_8 : decode cX2_distance 8 = .ok (.iload_n 2, 1) := by decide +kernel
theorem dX2_distance_9 : decode cX2_distance 9 = .ok (.iadd, 1) := by decide +kernel
theorem dX2_distance_10 : decode cX2_distance 10 = .ok (.iaload, 1) := by decide +kernel
theorem dX2_distance_11 : decode cX2_distance 11 = .ok (.istore_n 3, 1) := by decide +kernel
theorem dX2_distance_12 : decode cX2_distance 12 = .ok (.iload_n 3, 1) := by decide +kernel
theorem dX2_distance_13 : decode cX2_distance 13 = .ok (.sipush 1000, 3) := by decide +kernel
theorem dX2_distance_16 : decode cX2_distance 16 = .ok (.if_icmp .lt 8, 3) := by decide +kernel
theorem dX2_distance_19 : decode cX2_distance 19 = .ok (.bipush (-9), 2) := by decide +kernel
theorem dX2_distance_21 : decode cX2_distance 21 = .ok (.goto 4, 3) := by decide +kernel
theorem dX2_distance_24 : decode cX2_distance 24 = .ok (.iload_n 3, 1) := by decide +kernel
theorem dX2_distance_25 : decode cX2_distance 25 = .ok (.ireturn, 1) := by decide +kernel
theorem dX2_towards_0 : decode cX2_towards 0 = .ok (.aload_n 0, 1) := by decide +kernel
theorem dX2_towards_1 : decode cX2_towards 1 = .ok (.getfield 15, 3) := by decide +kernel
theorem dX2_towards_4 : decode cX2_towards 4 = .ok (.iload_n 1, 1) := by decide +kernel
theorem dX2_towards_5 : decode cX2_towards 5 = .ok (.bipush 7, 2) := by decide +kernel
theorem dX2_towards_7 : decode cX2_towards 7 = .ok (.imul, 1) := by decide +kernel
theorem dX2_towards_8 : decode cX2_towards 8 = .ok (.iload_n 2, 1) := by decide +kernel
theorem dX2_towards_9 : decode cX2_towards 9 = .ok (.iadd, 1) := by decide +kernel
theorem dX2_towards_10 : decode cX2_towards 10 = .ok (.iaload, 1) := by decide +kernel
theorem dX2_towards_11 : decode cX2_towards 11 = .ok (.istore_n 3, 1) := by decide +kernel
theorem dX2_towards_12 : decode cX2_towards 12 = .ok (.iconst 0, 1) := by decide +kernel
theorem dX2_towards_13 : decode cX2_towards 13 = .ok (.istore 4, 2) := by decide +kernel
theorem dX2_towards_15 : decode cX2_towards 15 = .ok (.iload 4, 2) := by decide +kernel
theorem dX2_towards_17 : decode cX2_towards 17 = .ok (.bipush 7, 2) := by decide +kernel
theorem dX2_towards_19 : decode cX2_towards 19 = .ok (.if_icmp .ge 44, 3) := by decide +kernel
theorem dX2_towards_22 : decode cX2_towards 22 = .ok (.aload_n 0, 1) := by decide +kernel
theorem dX2_towards_23 : decode cX2_towards 23 = .ok (.getfield 11, 3) := by decide +kernel
theorem dX2_towards_26 : decode cX2_towards 26 = .ok (.iload_n 1, 1) := by decide +kernel
theorem dX2_towards_27 : decode cX2_towards 27 = .ok (.bipush 7, 2) := by decide +kernel
theorem dX2_towards_29 : decode cX2_towards 29 = .ok (.imul, 1) := by decide +kernel
theorem dX2_towards_30 : decode cX2_towards 30 = .ok (.iload 4, 2) := by decide +kernel
theorem dX2_towards_32 : decode cX2_towards 32 = .ok (.iadd, 1) := by decide +kernel
theorem dX2_towards_33 : decode cX2_towards 33 = .ok (.iaload, 1) := by decide +kernel
theorem dX2_towards_34 : decode cX2_towards 34 = .ok (.iconst 1, 1) := by decide +kernel
theorem dX2_towards_35 : decode cX2_towards 35 = .ok (.if_icmp .ne 22, 3) := by decide +kernel
theorem dX2_towards_38 : decode cX2_towards 38 = .ok (.aload_n 0, 1) := by decide +kernel
theorem dX2_towards_39 : decode cX2_towards 39 = .ok (.getfield 15, 3) := by decide +kernel
theorem dX2_towards_42 : decode cX2_towards 42 = .ok (.iload 4, 2) := by decide +kernel
theorem dX2_towards_44 : decode cX2_towards 44 = .ok (.bipush 7, 2) := by decide +kernel
theorem dX2_towards_46 : decode cX2_towards 46 = .ok (.imul, 1) := by decide +kernel
theorem dX2_towards_47 : decode cX2_towards 47 = .ok (.iload_n 2, 1) := by decide +kernel
theorem dX2_towards_48 : decode cX2_towards 48 = .ok (.iadd, 1) := by decide +kernel
theorem dX2_towards_49 : decode cX2_towards 49 = .ok (.iaload, 1) := by decide +kernel
theorem dX2_towards_50 : decode cX2_towards 50 = .ok (.iload_n 3, 1) := by decide +kernel
theorem dX2_towards_51 : decode cX2_towards 51 = .ok (.if_icmp .ge 6, 3) := by decide +kernel
theorem dX2_towards_54 : decode cX2_towards 54 = .ok (.iload 4, 2) := by decide +kernel
theorem dX2_towards_56 : decode cX2_towards 56 = .ok (.ireturn, 1) := by decide +kernel
theorem dX2_towards_57 : decode cX2_towards 57 = .ok (.iinc 4 1, 3) := by decide +kernel
theorem dX2_towards_60 : decode cX2_towards 60 = .ok (.goto (-45), 3) := by decide +kernel
theorem dX2_towards_63 : decode cX2_towards 63 = .ok (.iload_n 1, 1) := by decide +kernel
theorem dX2_towards_64 : decode cX2_towards 64 = .ok (.ireturn, 1) := by decide +kernel
theorem dX2_measure_0 : decode cX2_measure 0 = .ok (.iconst 0, 1) := by decide +kernel
theorem dX2_measure_1 : decode cX2_measure 1 = .ok (.istore_n 1, 1) := by decide +kernel
theorem dX2_measure_2 : decode cX2_measure 2 = .ok (.iload_n 1, 1) := by decide +kernel
theorem dX2_measure_3 : decode cX2_measure 3 = .ok (.aload_n 0, 1) := by decide +kernel
theorem dX2_measure_4 : decode cX2_measure 4 = .ok (.getfield 15, 3) := by decide +kernel
theorem dX2_measure_7 : decode cX2_measure 7 = .ok (.arraylength, 1) := by decide +kernel
theorem dX2_measure_8 : decode cX2_measure 8 = .ok (.if_icmp .ge 32, 3) := by decide +kernel
theorem dX2_measure_11 : decode cX2_measure 11 = .ok (.aload_n 0, 1) := by decide +kernel
theorem dX2_measure_12 : decode cX2_measure 12 = .ok (.getfield 15, 3) := by decide +kernel
theorem dX2_measure_15 : decode cX2_measure 15 = .ok (.iload_n 1, 1) := by decide +kernel
theorem dX2_measure_16 : decode cX2_measure 16 = .ok (.aload_n 0, 1) := by decide +kernel
theorem dX2_measure_17 : decode cX2_measure 17 = .ok (.getfield 11, 3) := by decide +kernel
theorem dX2_measure_20 : decode cX2_measure 20 = .ok (.iload_n 1, 1) := by decide +kernel
theorem dX2_measure_21 : decode cX2_measure 21 = .ok (.iaload, 1) := by decide +kernel
theorem dX2_measure_22 : decode cX2_measure 22 = .ok (.iconst 1, 1) := by decide +kernel
theorem dX2_measure_23 : decode cX2_measure 23 = .ok (.if_icmp .ne 7, 3) := by decide +kernel
theorem dX2_measure_26 : decode cX2_measure 26 = .ok (.iconst 1, 1) := by decide +kernel
theorem dX2_measure_27 : decode cX2_measure 27 = .ok (.goto 6, 3) := by decide +kernel
theorem dX2_measure_30 : decode cX2_measure 30 = .ok (.sipush 1000, 3) := by decide +kernel
theorem dX2_measure_33 : decode cX2_measure 33 = .ok (.iastore, 1) := by decide +kernel
theorem dX2_measure_34 : decode cX2_measure 34 = .ok (.iinc 1 1, 3) := by decide +kernel
theorem dX2_measure_37 : decode cX2_measure 37 = .ok (.goto (-35), 3) := by decide +kernel
theorem dX2_measure_40 : decode cX2_measure 40 = .ok (.iconst 0, 1) := by decide +kernel
theorem dX2_measure_41 : decode cX2_measure 41 = .ok (.istore_n 1, 1) := by decide +kernel
theorem dX2_measure_42 : decode cX2_measure 42 = .ok (.iload_n 1, 1) := by decide +kernel
theorem dX2_measure_43 : decode cX2_measure 43 = .ok (.bipush 7, 2) := by decide +kernel
theorem dX2_measure_45 : decode cX2_measure 45 = .ok (.if_icmp .ge 21, 3) := by decide +kernel
theorem dX2_measure_48 : decode cX2_measure 48 = .ok (.aload_n 0, 1) := by decide +kernel
theorem dX2_measure_49 : decode cX2_measure 49 = .ok (.getfield 15, 3) := by decide +kernel
theorem dX2_measure_52 : decode cX2_measure 52 = .ok (.iload_n 1, 1) := by decide +kernel
theorem dX2_measure_53 : decode cX2_measure 53 = .ok (.bipush 7, 2) := by decide +kernel
theorem dX2_measure_55 : decode cX2_measure 55 = .ok (.imul, 1) := by decide +kernel
theorem dX2_measure_56 : decode cX2_measure 56 = .ok (.iload_n 1, 1) := by decide +kernel
theorem dX2_measure_57 : decode cX2_measure 57 = .ok (.iadd, 1) := by decide +kernel
theorem dX2_measure_58 : decode cX2_measure 58 = .ok (.iconst 0, 1) := by decide +kernel
theorem dX2_measure_59 : decode cX2_measure 59 = .ok (.iastore, 1) := by decide +kernel
theorem dX2_measure_60 : decode cX2_measure 60 = .ok (.iinc 1 1, 3) := by decide +kernel
theorem dX2_measure_63 : decode cX2_measure 63 = .ok (.goto (-21), 3) := by decide +kernel
theorem dX2_measure_66 : decode cX2_measure 66 = .ok (.iconst 0, 1) := by decide +kernel
theorem dX2_measure_67 : decode cX2_measure 67 = .ok (.istore_n 1, 1) := by decide +kernel
theorem dX2_measure_68 : decode cX2_measure 68 = .ok (.iload_n 1, 1) := by decide +kernel
theorem dX2_measure_69 : decode cX2_measure 69 = .ok (.bipush 7, 2) := by decide +kernel
theorem dX2_measure_71 : decode cX2_measure 71 = .ok (.if_icmp .ge 14, 3) := by decide +kernel
theorem dX2_measure_74 : decode cX2_measure 74 = .ok (.aload_n 0, 1) := by decide +kernel
theorem dX2_measure_75 : decode cX2_measure 75 = .ok (.iload_n 1, 1) := by decide +kernel
theorem dX2_measure_76 : decode cX2_measure 76 = .ok (.invokevirtual 31, 3) := by decide +kernel
theorem dX2_measure_79 : decode cX2_measure 79 = .ok (.iinc 1 1, 3) := by decide +kernel
theorem dX2_measure_82 : decode cX2_measure 82 = .ok (.goto (-14), 3) := by decide +kernel
theorem dX2_measure_85 : decode cX2_measure 85 = .ok (.return_, 1) := by decide +kernel
theorem dX2_shortenBy_0 : decode cX2_shortenBy 0 = .ok (.iconst 0, 1) := by decide +kernel
theorem dX2_shortenBy_1 : decode cX2_shortenBy 1 = .ok (.istore_n 2, 1) := by decide +kernel
theorem dX2_shortenBy_2 : decode cX2_shortenBy 2 = .ok (.iload_n 2, 1) := by decide +kernel
theorem dX2_shortenBy_3 : decode cX2_shortenBy 3 = .ok (.bipush 7, 2) := by decide +kernel
theorem dX2_shortenBy_5 : decode cX2_shortenBy 5 = .ok (.if_icmp .ge 75, 3) := by decide +kernel
theorem dX2_shortenBy_8 : decode cX2_shortenBy 8 = .ok (.iconst 0, 1) := by decide +kernel
theorem dX2_shortenBy_9 : decode cX2_shortenBy 9 = .ok (.istore_n 3, 1) := by decide +kernel
theorem dX2_shortenBy_10 : decode cX2_shortenBy 10 = .ok (.iload_n 3, 1) := by decide +kernel
theorem dX2_shortenBy_11 : decode cX2_shortenBy 11 = .ok (.bipush 7, 2) := by decide +kernel
theorem dX2_shortenBy_13 : decode cX2_shortenBy 13 = .ok (.if_icmp .ge 61, 3) := by decide +kernel
theorem dX2_shortenBy_16 : decode cX2_shortenBy 16 = .ok (.aload_n 0, 1) := by decide +kernel
theorem dX2_shortenBy_17 : decode cX2_shortenBy 17 = .ok (.getfield 15, 3) := by decide +kernel
theorem dX2_shortenBy_20 : decode cX2_shortenBy 20 = .ok (.iload_n 2, 1) := by decide +kernel
theorem dX2_shortenBy_21 : decode cX2_shortenBy 21 = .ok (.bipush 7, 2) := by decide +kernel
theorem dX2_shortenBy_23 : decode cX2_shortenBy 23 = .ok (.imul, 1) := by decide +kernel
theorem dX2_shortenBy_24 : decode cX2_shortenBy 24 = .ok (.iload_n 1, 1) := by decide +kernel
theorem dX2_shortenBy_25 : decode cX2_shortenBy 25 = .ok (.iadd, 1) := by decide +kernel
theorem dX2_shortenBy_26 : decode cX2_shortenBy 26 = .ok (.iaload, 1) := by decide +kernel
theorem dX2_shortenBy_27 : decode cX2_shortenBy 27 = .ok (.aload_n 0, 1) := by decide +kernel
theorem dX2_shortenBy_28 : decode cX2_shortenBy 28 = .ok (.getfield 15, 3) := by decide +kernel
theorem dX2_shortenBy_31 : decode cX2_shortenBy 31 = .ok (.iload_n 1, 1) := by decide +kernel
theorem dX2_shortenBy_32 : decode cX2_shortenBy 32 = .ok (.bipush 7, 2) := by decide +kernel
theorem dX2_shortenBy_34 : decode cX2_shortenBy 34 = .ok (.imul, 1) := by decide +kernel
theorem dX2_shortenBy_35 : decode cX2_shortenBy 35 = .ok (.iload_n 3, 1) := by decide +kernel
theorem dX2_shortenBy_36 : decode cX2_shortenBy 36 = .ok (.iadd, 1) := by decide +kernel
theorem dX2_shortenBy_37 : decode cX2_shortenBy 37 = .ok (.iaload, 1) := by decide +kernel
theorem dX2_shortenBy_38 : decode cX2_shortenBy 38 = .ok (.iadd, 1) := by decide +kernel
theorem dX2_shortenBy_39 : decode cX2_shortenBy 39 = .ok (.istore 4, 2) := by decide +kernel
theorem dX2_shortenBy_41 : decode cX2_shortenBy 41 = .ok (.aload_n 0, 1) := by decide +kernel
theorem dX2_shortenBy_42 : decode cX2_shortenBy 42 = .ok (.getfield 15, 3) := by decide +kernel
theorem dX2_shortenBy_45 : decode cX2_shortenBy 45 = .ok (.iload_n 2, 1) := by decide +kernel
theorem dX2_shortenBy_46 : decode cX2_shortenBy 46 = .ok (.bipush 7, 2) := by decide +kernel
theorem dX2_shortenBy_48 : decode cX2_shortenBy 48 = .ok (.imul, 1) := by decide +kernel
theorem dX2_shortenBy_49 : decode cX2_shortenBy 49 = .ok (.iload_n 3, 1) := by decide +kernel
theorem dX2_shortenBy_50 : decode cX2_shortenBy 50 = .ok (.iadd, 1) := by decide +kernel
theorem dX2_shortenBy_51 : decode cX2_shortenBy 51 = .ok (.aload_n 0, 1) := by decide +kernel
theorem dX2_shortenBy_52 : decode cX2_shortenBy 52 = .ok (.getfield 15, 3) := by decide +kernel
theorem dX2_shortenBy_55 : decode cX2_shortenBy 55 = .ok (.iload_n 2, 1) := by decide +kernel
theorem dX2_shortenBy_56 : decode cX2_shortenBy 56 = .ok (.bipush 7, 2) := by decide +kernel
theorem dX2_shortenBy_58 : decode cX2_shortenBy 58 = .ok (.imul, 1) := by decide +kernel
theorem dX2_shortenBy_59 : decode cX2_shortenBy 59 = .ok (.iload_n 3, 1) := by decide +kernel
theorem dX2_shortenBy_60 : decode cX2_shortenBy 60 = .ok (.iadd, 1) := by decide +kernel
theorem dX2_shortenBy_61 : decode cX2_shortenBy 61 = .ok (.iaload, 1) := by decide +kernel
theorem dX2_shortenBy_62 : decode cX2_shortenBy 62 = .ok (.iload 4, 2) := by decide +kernel
theorem dX2_shortenBy_64 : decode cX2_shortenBy 64 = .ok (.invokestatic 35, 3) := by decide +kernel
theorem dX2_shortenBy_67 : decode cX2_shortenBy 67 = .ok (.iastore, 1) := by decide +kernel
theorem dX2_shortenBy_68 : decode cX2_shortenBy 68 = .ok (.iinc 3 1, 3) := by decide +kernel
theorem dX2_shortenBy_71 : decode cX2_shortenBy 71 = .ok (.goto (-61), 3) := by decide +kernel
theorem dX2_shortenBy_74 : decode cX2_shortenBy 74 = .ok (.iinc 2 1, 3) := by decide +kernel
theorem dX2_shortenBy_77 : decode cX2_shortenBy 77 = .ok (.goto (-75), 3) := by decide +kernel
theorem dX2_shortenBy_80 : decode cX2_shortenBy 80 = .ok (.return_, 1) := by decide +kernel
theorem dJ0_length_8abf5_0 : decode cJ0_length_8abf5 0 = .ok (.aload_n 0, 1) := by decide +kernel
theorem dJ0_length_8abf5_1 : decode cJ0_length_8abf5 1 = .ok (.getfield 9, 3) := by decide +kernel
theorem dJ0_length_8abf5_4 : decode cJ0_length_8abf5 4 = .ok (.arraylength, 1) := by decide +kernel
theorem dJ0_length_8abf5_5 : decode cJ0_length_8abf5 5 = .ok (.aload_n 0, 1) := by decide +kernel
theorem dJ0_length_8abf5_6 : decode cJ0_length_8abf5 6 = .ok (.invokevirtual 335, 3) := by decide +kernel
theorem dJ0_length_8abf5_9 : decode cJ0_length_8abf5 9 = .ok (.ishr, 1) := by decide +kernel
theorem dJ0_length_8abf5_10 : decode cJ0_length_8abf5 10 = .ok (.ireturn, 1) := by decide +kernel
theorem dJ0_indexOf_0f7a4_0 : decode cJ0_indexOf_0f7a4 0 = .ok (.aload_n 0, 1) := by decide +kernel
theorem dJ0_indexOf_0f7a4_1 : decode cJ0_indexOf_0f7a4 1 = .ok (.iload_n 1, 1) := by decide +kernel
theorem dJ0_indexOf_0f7a4_2 : decode cJ0_indexOf_0f7a4 2 = .ok (.iconst 0, 1) := by decide +kernel
theorem dJ0_indexOf_0f7a4_3 : decode cJ0_indexOf_0f7a4 3 = .ok (.invokevirtual 633, 3) := by decide +kernel
theorem dJ0_indexOf_0f7a4_6 : decode cJ0_indexOf_0f7a4 6 = .ok (.ireturn, 1) := by decide +kernel
theorem dJ0_indexOf_7cf53_0 : decode cJ0_indexOf_7cf53 0 = .ok (.aload_n 0, 1) := by decide +kernel
theorem dJ0_indexOf_7cf53_1 : decode cJ0_indexOf_7cf53 1 = .ok (.invokevirtual 492, 3) := by decide +kernel
theorem dJ0_indexOf_7cf53_4 : decode cJ0_indexOf_7cf53 4 = .ok (.ifCond .eq 19, 3) := by decide +kernel
theorem dJ0_indexOf_7cf53_7 : decode cJ0_indexOf_7cf53 7 = .ok (.aload_n 0, 1) := by decide +kernel
theorem dJ0_indexOf_7cf53_8 : decode cJ0_indexOf_7cf53 8 = .ok (.getfield 9, 3) := by decide +kernel
theorem dJ0_indexOf_7cf53_11 : decode cJ0_indexOf_7cf53 11 = .ok (.iload_n 1, 1) := by decide +kernel
theorem dJ0_indexOf_7cf53_12 : decode cJ0_indexOf_7cf53 12 = .ok (.iload_n 2, 1) := by decide +kernel
theorem dJ0_indexOf_7cf53_13 : decode cJ0_indexOf_7cf53 13 = .ok (.aload_n 0, 1) := by decide +kernel
theorem dJ0_indexOf_7cf53_14 : decode cJ0_indexOf_7cf53 14 = .ok (.invokevirtual 505, 3) := by decide +kernel
theorem dJ0_indexOf_7cf53_17 : decode cJ0_indexOf_7cf53 17 = .ok (.invokestatic 637, 3) := by decide +kernel
theorem dJ0_indexOf_7cf53_20 : decode cJ0_indexOf_7cf53 20 = .ok (.goto 16, 3) := by decide +kernel
theorem dJ0_indexOf_7cf53_23 : decode cJ0_indexOf_7cf53 23 = .ok (.aload_n 0, 1) := by decide +kernel
theorem dJ0_indexOf_7cf53_24 : decode cJ0_indexOf_7cf53 24 = .ok (.getfield 9, 3) := by decide +kernel
theorem dJ0_indexOf_7cf53_27 : decode cJ0_indexOf_7cf53 27 = .ok (.iload_n 1, 1) := by decide +kernel
theorem dJ0_indexOf_7cf53_28 : decode cJ0_indexOf_7cf53 28 = .ok (.iload_n 2, 1) := by decide +kernel
theorem dJ0_indexOf_7cf53_29 : decode cJ0_indexOf_7cf53 29 = .ok (.aload_n 0, 1) := by decide +kernel
theorem dJ0_indexOf_7cf53_30 : decode cJ0_indexOf_7cf53 30 = .ok (.invokevirtual 505, 3) := by decide +kernel
theorem dJ0_indexOf_7cf53_33 : decode cJ0_indexOf_7cf53 33 = .ok (.invokestatic 640, 3) := by decide +kernel
theorem dJ0_indexOf_7cf53_36 : decode cJ0_indexOf_7cf53 36 = .ok (.ireturn, 1) := by decide +kernel
theorem dJ0_coder_7d493_0 : decode cJ0_coder_7d493 0 = .ok (.getstatic 38, 3) := by decide +kernel
theorem dJ0_coder_7d493_3 : decode cJ0_coder_7d493 3 = .ok (.ifCond .eq 10, 3) := by decide +kernel
theorem dJ0_coder_7d493_6 : decode cJ0_coder_7d493 6 = .ok (.aload_n 0, 1) := by decide +kernel
theorem dJ0_coder_7d493_7 : decode cJ0_coder_7d493 7 = .ok (.getfield 15, 3) := by decide +kernel
theorem dJ0_coder_7d493_10 : decode cJ0_coder_7d493 10 = .ok (.goto 4, 3) := by decide +kernel
theorem dJ0_coder_7d493_13 : decode cJ0_coder_7d493 13 = .ok (.iconst 1, 1) := by decide +kernel
theorem dJ0_coder_7d493_14 : decode cJ0_coder_7d493 14 = .ok (.ireturn, 1) := by decide +kernel
theorem dJ0_isLatin1_aae02_0 : decode cJ0_isLatin1_aae02 0 = .ok (.getstatic 38, 3) := by decide +kernel
theorem dJ0_isLatin1_aae02_3 : decode cJ0_isLatin1_aae02 3 = .ok (.ifCond .eq 14, 3) := by decide +kernel
theorem dJ0_isLatin1_aae02_6 : decode cJ0_isLatin1_aae02 6 = .ok (.aload_n 0, 1) := by decide +kernel
theorem dJ0_isLatin1_aae02_7 : decode cJ0_isLatin1_aae02 7 = .ok (.getfield 15, 3) := by decide +kernel
theorem dJ0_isLatin1_aae02_10 : decode cJ0_isLatin1_aae02 10 = .ok (.ifCond .ne 7, 3) := by decide +kernel
theorem dJ0_isLatin1_aae02_13 : decode cJ0_isLatin1_aae02 13 = .ok (.iconst 1, 1) := by decide +kernel
theorem dJ0_isLatin1_aae02_14 : decode cJ0_isLatin1_aae02 14 = .ok (.goto 4, 3) := by decide +kernel
theorem dJ0_isLatin1_aae02_17 : decode cJ0_isLatin1_aae02 17 = .ok (.iconst 0, 1) := by decide +kernel
theorem dJ0_isLatin1_aae02_18 : decode cJ0_isLatin1_aae02 18 = .ok (.ireturn, 1) := by decide +kernel
theorem dJ1_canEncode_9a6ad_0 : decode cJ1_canEncode_9a6ad 0 = .ok (.iload_n 0, 1) := by decide +kernel
theorem dJ1_canEncode_9a6ad_1 : decode cJ1_canEncode_9a6ad 1 = .ok (.ifCond .lt 14, 3) := by decide +kernel
theorem dJ1_canEncode_9a6ad_4 : decode cJ1_canEncode_9a6ad 4 = .ok (.iload_n 0, 1) := by decide +kernel
theorem dJ1_canEncode_9a6ad_5 : decode cJ1_canEncode_9a6ad 5 = .ok (.sipush 255, 3) := by decide +kernel
theorem dJ1_canEncode_9a6ad_8 : decode cJ1_canEncode_9a6ad 8 = .ok (.if_icmp .gt 7, 3) := by decide +kernel
theorem dJ1_canEncode_9a6ad_11 : decode cJ1_canEncode_9a6ad 11 = .ok (.iconst 1, 1) := by decide +kernel
theorem dJ1_canEncode_9a6ad_12 : decode cJ1_canEncode_9a6ad 12 = .ok (.goto 4, 3) := by decide +kernel
theorem dJ1_canEncode_9a6ad_15 : decode cJ1_canEncode_9a6ad 15 = .ok (.iconst 0, 1) := by decide +kernel
theorem dJ1_canEncode_9a6ad_16 : decode cJ1_canEncode_9a6ad 16 = .ok (.ireturn, 1) := by decide +kernel
theorem dJ1_indexOf_4cfef_0 : decode cJ1_indexOf_4cfef 0 = .ok (.iload_n 1, 1) := by decide +kernel
theorem dJ1_indexOf_4cfef_1 : decode cJ1_indexOf_4cfef 1 = .ok (.invokestatic 88, 3) := by decide +kernel
theorem dJ1_indexOf_4cfef_4 : decode cJ1_indexOf_4cfef 4 = .ok (.ifCond .ne 5, 3) := by decide +kernel
theorem dJ1_indexOf_4cfef_7 : decode cJ1_indexOf_4cfef 7 = .ok (.iconst (-1), 1) := by decide +kernel
theorem dJ1_indexOf_4cfef_8 : decode cJ1_indexOf_4cfef 8 = .ok (.ireturn, 1) := by decide +kernel
theorem dJ1_indexOf_4cfef_9 : decode cJ1_indexOf_4cfef 9 = .ok (.iload_n 2, 1) := by decide +kernel
theorem dJ1_indexOf_4cfef_10 : decode cJ1_indexOf_4cfef 10 = .ok (.iconst 0, 1) := by decide +kernel
theorem dJ1_indexOf_4cfef_11 : decode cJ1_indexOf_4cfef 11 = .ok (.invokestatic 92, 3) := by decide +kernel
theorem dJ1_indexOf_4cfef_14 : decode cJ1_indexOf_4cfef 14 = .ok (.istore_n 2, 1) := by decide +kernel
theorem dJ1_indexOf_4cfef_15 : decode cJ1_indexOf_4cfef 15 = .ok (.iload_n 3, 1) := by decide +kernel
theorem dJ1_indexOf_4cfef_16 : decode cJ1_indexOf_4cfef 16 = .ok (.aload_n 0, 1) := by decide +kernel
theorem dJ1_indexOf_4cfef_17 : decode cJ1_indexOf_4cfef 17 = .ok (.arraylength, 1) := by decide +kernel
theorem dJ1_indexOf_4cfef_18 : decode cJ1_indexOf_4cfef 18 = .ok (.invokestatic 38, 3) := by decide +kernel
theorem dJ1_indexOf_4cfef_21 : decode cJ1_indexOf_4cfef 21 = .ok (.istore_n 3, 1) := by decide +kernel
theorem dJ1_indexOf_4cfef_22 : decode cJ1_indexOf_4cfef 22 = .ok (.iload_n 2, 1) := by decide +kernel
theorem dJ1_indexOf_4cfef_23 : decode cJ1_indexOf_4cfef 23 = .ok (.iload_n 3, 1) := by decide +kernel
theorem dJ1_indexOf_4cfef_24 : decode cJ1_indexOf_4cfef 24 = .ok (.if_icmp .lt 5, 3) := by decide +kernel
theorem dJ1_indexOf_4cfef_27 : decode cJ1_indexOf_4cfef 27 = .ok (.iconst (-1), 1) := by decide +kernel
theorem dJ1_indexOf_4cfef_28 : decode cJ1_indexOf_4cfef 28 = .ok (.ireturn, 1) := by decide +kernel
theorem dJ1_indexOf_4cfef_29 : decode cJ1_indexOf_4cfef 29 = .ok (.aload_n 0, 1) := by decide +kernel
theorem dJ1_indexOf_4cfef_30 : decode cJ1_indexOf_4cfef 30 = .ok (.iload_n 1, 1) := by decide +kernel
theorem dJ1_indexOf_4cfef_31 : decode cJ1_indexOf_4cfef 31 = .ok (.iload_n 2, 1) := by decide +kernel
theorem dJ1_indexOf_4cfef_32 : decode cJ1_indexOf_4cfef 32 = .ok (.iload_n 3, 1) := by decide +kernel
theorem dJ1_indexOf_4cfef_33 : decode cJ1_indexOf_4cfef 33 = .ok (.invokestatic 95, 3) := by decide +kernel
theorem dJ1_indexOf_4cfef_36 : decode cJ1_indexOf_4cfef 36 = .ok (.ireturn, 1) := by decide +kernel
theorem dJ1_indexOfChar_4cfef_0 : decode cJ1_indexOfChar_4cfef 0 = .ok (.iload_n 1, 1) := by decide +kernel
theorem dJ1_indexOfChar_4cfef_1 : decode cJ1_indexOfChar_4cfef 1 = .ok (.i2b, 1) := by decide +kernel
theorem dJ1_indexOfChar_4cfef_2 : decode cJ1_indexOfChar_4cfef 2 = .ok (.istore 4, 2) := by decide +kernel
theorem dJ1_indexOfChar_4cfef_4 : decode cJ1_indexOfChar_4cfef 4 = .ok (.iload_n 2, 1) := by decide +kernel
theorem dJ1_indexOfChar_4cfef_5 : decode cJ1_indexOfChar_4cfef 5 = .ok (.istore 5, 2) := by decide +kernel
theorem dJ1_indexOfChar_4cfef_7 : decode cJ1_indexOfChar_4cfef 7 = .ok (.iload 5, 2) := by decide +kernel
theorem dJ1_indexOfChar_4cfef_9 : decode cJ1_indexOfChar_4cfef 9 = .ok (.iload_n 3, 1) := by decide +kernel
theorem dJ1_indexOfChar_4cfef_10 : decode cJ1_indexOfChar_4cfef 10 = .ok (.if_icmp .ge 21, 3) := by decide +kernel
theorem dJ1_indexOfChar_4cfef_13 : decode cJ1_indexOfChar_4cfef 13 = .ok (.aload_n 0, 1) := by decide +kernel
theorem dJ1_indexOfChar_4cfef_14 : decode cJ1_indexOfChar_4cfef 14 = .ok (.iload 5, 2) := by decide +kernel
theorem dJ1_indexOfChar_4cfef_16 : decode cJ1_indexOfChar_4cfef 16 = .ok (.baload, 1) := by decide +kernel
theorem dJ1_indexOfChar_4cfef_17 : decode cJ1_indexOfChar_4cfef 17 = .ok (.iload 4, 2) := by decide +kernel
theorem dJ1_indexOfChar_4cfef_19 : decode cJ1_indexOfChar_4cfef 19 = .ok (.if_icmp .ne 6, 3) := by decide +kernel
theorem dJ1_indexOfChar_4cfef_22 : decode cJ1_indexOfChar_4cfef 22 = .ok (.iload 5, 2) := by decide +kernel
theorem dJ1_indexOfChar_4cfef_24 : decode cJ1_indexOfChar_4cfef 24 = .ok (.ireturn, 1) := by decide +kernel
theorem dJ1_indexOfChar_4cfef_25 : decode cJ1_indexOfChar_4cfef 25 = .ok (.iinc 5 1, 3) := by decide +kernel
theorem dJ1_indexOfChar_4cfef_28 : decode cJ1_indexOfChar_4cfef 28 = .ok (.goto (-21), 3) := by decide +kernel
theorem dJ1_indexOfChar_4cfef_31 : decode cJ1_indexOfChar_4cfef 31 = .ok (.iconst (-1), 1) := by decide +kernel
theorem dJ1_indexOfChar_4cfef_32 : decode cJ1_indexOfChar_4cfef 32 = .ok (.ireturn, 1) := by decide +kernel
theorem dJ7_fill_53178_0 : decode cJ7_fill_53178 0 = .ok (.iconst 0, 1) := by decide +kernel
theorem dJ7_fill_53178_1 : decode cJ7_fill_53178 1 = .ok (.istore_n 2, 1) := by decide +kernel
theorem dJ7_fill_53178_2 : decode cJ7_fill_53178 2 = .ok (.aload_n 0, 1) := by decide +kernel
theorem dJ7_fill_53178_3 : decode cJ7_fill_53178 3 = .ok (.arraylength, 1) := by decide +kernel
theorem dJ7_fill_53178_4 : decode cJ7_fill_53178 4 = .ok (.istore_n 3, 1) := by decide +kernel
theorem dJ7_fill_53178_5 : decode cJ7_fill_53178 5 = .ok (.iload_n 2, 1) := by decide +kernel
theorem dJ7_fill_53178_6 : decode cJ7_fill_53178 6 = .ok (.iload_n 3, 1) := by decide +kernel
theorem dJ7_fill_53178_7 : decode cJ7_fill_53178 7 = .ok (.if_icmp .ge 13, 3) := by decide +kernel
theorem dJ7_fill_53178_10 : decode cJ7_fill_53178 10 = .ok (.aload_n 0, 1) := by decide +kernel
theorem dJ7_fill_53178_11 : decode cJ7_fill_53178 11 = .ok (.iload_n 2, 1) := by decide +kernel
theorem dJ7_fill_53178_12 : decode cJ7_fill_53178 12 = .ok (.iload_n 1, 1) := by decide +kernel
theorem dJ7_fill_53178_13 : decode cJ7_fill_53178 13 = .ok (.iastore, 1) := by decide +kernel
theorem dJ7_fill_53178_14 : decode cJ7_fill_53178 14 = .ok (.iinc 2 1, 3) := by decide +kernel
theorem dJ7_fill_53178_17 : decode cJ7_fill_53178 17 = .ok (.goto (-12), 3) := by decide +kernel
theorem dJ7_fill_53178_20 : decode cJ7_fill_53178 20 = .ok (.return_, 1) := by decide +kernel
end
section
theorem dX3_init_0 : decode cX3_init 0 = .ok (.aload_n 0, 1) := by decide +kernel
theorem dX3_init_1 : decode cX3_init 1 = .ok (.invokespecial 1, 3) := by decide +kernel
theorem dX3_init_4 : decode cX3_init 4 = .ok (.aload_n 0, 1) := by decide +kernel
theorem dX3_init_5 : decode cX3_init 5 = .ok (.new 7, 3) := by decide +kernel
theorem dX3_init_8 : decode cX3_init 8 = .ok (.dup, 1) := by decide +kernel
theorem dX3_init_9 : decode cX3_init 9 = .ok (.invokespecial 9, 3) := by decide +kernel
theorem dX3_init_12 : decode cX3_init 12 = .ok (.putfield 10, 3) := by decide +kernel
theorem dX3_init_15 : decode cX3_init 15 = .ok (.aload_n 0, 1) := by decide +kernel
theorem dX3_init_16 : decode cX3_init 16 = .ok (.new 7, 3) := by decide +kernel
theorem dX3_init_19 : decode cX3_init 19 = .ok (.dup, 1) := by decide +kernel
theorem dX3_init_20 : decode cX3_init 20 = .ok (.invokespecial 9, 3) := by decide +kernel
theorem dX3_init_23 : decode cX3_init 23 = .ok (.putfield 16, 3) := by decide +kernel
theorem dX3_init_26 : decode cX3_init 26 = .ok (.aload_n 0, 1) := by decide +kernel
theorem dX3_init_27 : decode cX3_init 27 = .ok (.new 7, 3) := by decide +kernel
theorem dX3_init_30 : decode cX3_init 30 = .ok (.dup, 1) := by decide +kernel
theorem dX3_init_31 : decode cX3_init 31 = .ok (.invokespecial 9, 3) := by decide +kernel
theorem dX3_init_34 : decode cX3_init 34 = .ok (.putfield 19, 3) := by decide +kernel
theorem dX3_init_37 : decode cX3_init 37 = .ok (.aload_n 0, 1) := by decide +kernel
theorem dX3_init_38 : decode cX3_init 38 = .ok (.new 7, 3) := by decide +kernel
theorem dX3_init_41 : decode cX3_init 41 = .ok (.dup, 1) := by decide +kernel
theorem dX3_init_42 : decode cX3_init 42 = .ok (.invokespecial 9, 3) := by decide +kernel
theorem dX3_init_45 : decode cX3_init 45 = .ok (.putfield 22, 3) := by decide +kernel
theorem dX3_init_48 : decode cX3_init 48 = .ok (.aload_n 0, 1) := by decide +kernel
theorem dX3_init_49 : decode cX3_init 49 = .ok (.iconst 0, 1) := by decide +kernel
theorem dX3_init_50 : decode cX3_init 50 = .ok (.putfield 25, 3) := by decide +kernel
theorem dX3_init_53 : decode cX3_init 53 = .ok (.aload_n 0, 1) := by decide +kernel
theorem dX3_init_54 : decode cX3_init 54 = .ok (.new 29, 3) := by decide +kernel
theorem dX3_init_57 : decode cX3_init 57 = .ok (.dup, 1) := by decide +kernel
theorem dX3_init_58 : decode cX3_init 58 = .ok (.invokespecial 31, 3) := by decide +kernel
theorem dX3_init_61 : decode cX3_init 61 = .ok (.putfield 32, 3) := by decide +kernel
theorem dX3_init_64 : decode cX3_init 64 = .ok (.aload_n 0, 1) := by decide +kernel
theorem dX3_init_65 : decode cX3_init 65 = .ok (.bipush 12, 2) := by decide +kernel
theorem dX3_init_67 : decode cX3_init 67 = .ok (.newarray .int, 2) := by decide +kernel
theorem dX3_init_69 : decode cX3_init 69 = .ok (.putfield 36, 3) := by decide +kernel
theorem dX3_init_72 : decode cX3_init 72 = .ok (.aload_n 0, 1) := by decide +kernel
theorem dX3_init_73 : decode cX3_init 73 = .ok (.iconst 0, 1) := by decide +kernel
theorem dX3_init_74 : decode cX3_init 74 = .ok (.putfield 40, 3) := by decide +kernel
theorem dX3_init_77 : decode cX3_init 77 = .ok (.aload_n 0, 1) := by decide +kernel
theorem dX3_init_78 : decode cX3_init 78 = .ok (.bipush 7, 2) := by decide +kernel
theorem dX3_init_80 : decode cX3_init 80 = .ok (.newarray .int, 2) := by decide +kernel
theorem dX3_init_82 : decode cX3_init 82 = .ok (.putfield 44, 3) := by decide +kernel
theorem dX3_init_85 : decode cX3_init 85 = .ok (.return_, 1) := by decide +kernel
theorem dX3_letter_0 : decode cX3_letter 0 = .ok (.iload_n 1, 1) := by decide +kernel
theorem dX3_letter_1 : decode cX3_letter 1 = .ok (.ifCond .ge 10, 3) := by decide +kernel
theorem dX3_letter_4 : decode cX3_letter 4 = .ok (.aload_n 0, 1) := by decide +kernel
theorem dX3_letter_5 : decode cX3_letter 5 = .ok (.bipush (-4), 2) := by decide +kernel
theorem dX3_letter_7 : decode cX3_letter 7 = .ok (.invokevirtual 47, 3) := by decide +kernel
theorem dX3_letter_10 : decode cX3_letter 10 = .ok (.ireturn, 1) := by decide +kernel
theorem dX3_letter_11 : decode cX3_letter 11 = .ok (.iload_n 1, 1) := by decide +kernel
theorem dX3_letter_12 : decode cX3_letter 12 = .ok (.sipush 255, 3) := by decide +kernel
theorem dX3_letter_15 : decode cX3_letter 15 = .ok (.if_icmp .gt 13, 3) := by decide +kernel
theorem dX3_letter_18 : decode cX3_letter 18 = .ok (.aload_n 0, 1) := by decide +kernel
theorem dX3_letter_19 : decode cX3_letter 19 = .ok (.getfield 32, 3) := by decide +kernel
theorem dX3_letter_22 : decode cX3_letter 22 = .ok (.invokevirtual 51, 3) := by decide +kernel
theorem dX3_letter_25 : decode cX3_letter 25 = .ok (.ifCond .eq 10, 3) := by decide +kernel
theorem dX3_letter_28 : decode cX3_letter 28 = .ok (.aload_n 0, 1) := by decide +kernel
theorem dX3_letter_29 : decode cX3_letter 29 = .ok (.bipush (-6), 2) := by decide +kernel
theorem dX3_letter_31 : decode cX3_letter 31 = .ok (.invokevirtual 47, 3) := by decide +kernel
theorem dX3_letter_34 : decode cX3_letter 34 = .ok (.ireturn, 1) := by decide +kernel
theorem dX3_letter_35 : decode cX3_letter 35 = .ok (.aload_n 0, 1) := by decide +kernel
theorem dX3_letter_36 : decode cX3_letter 36 = .ok (.getfield 32, 3) := by decide +kernel
theorem dX3_letter_39 : decode cX3_letter 39 = .ok (.iload_n 1, 1) := by decide +kernel
theorem dX3_letter_40 : decode cX3_letter 40 = .ok (.invokevirtual 55, 3) := by decide +kernel
theorem dX3_letter_43 : decode cX3_letter 43 = .ok (.ireturn, 1) := by decide +kernel
theorem dX3_museum_0 : decode cX3_museum 0 = .ok (.aload_n 0, 1) := by decide +kernel
theorem dX3_museum_1 : decode cX3_museum 1 = .ok (.getfield 32, 3) := by decide +kernel
theorem dX3_museum_4 : decode cX3_museum 4 = .ok (.invokevirtual 58, 3) := by decide +kernel
theorem dX3_museum_7 : decode cX3_museum 7 = .ok (.istore_n 1, 1) := by decide +kernel
theorem dX3_museum_8 : decode cX3_museum 8 = .ok (.iload_n 1, 1) := by decide +kernel
theorem dX3_museum_9 : decode cX3_museum 9 = .ok (.ifCond .lt 11, 3) := by decide +kernel
theorem dX3_museum_12 : decode cX3_museum 12 = .ok (.sipush (-1000), 3) := by decide +kernel
theorem dX3_museum_15 : decode cX3_museum 15 = .ok (.iload_n 1, 1) := by decide +kernel
theorem dX3_museum_16 : decode cX3_museum 16 = .ok (.isub, 1) := by decide +kernel
theorem dX3_museum_17 : decode cX3_museum 17 = .ok (.goto 7, 3) := by decide +kernel
theorem dX3_museum_20 : decode cX3_museum 20 = .ok (.aload_n 0, 1) := by decide +kernel
theorem dX3_museum_21 : decode cX3_museum 21 = .ok (.invokevirtual 62, 3) := by decide +kernel
theorem dX3_museum_24 : decode cX3_museum 24 = .ok (.istore_n 2, 1) := by decide +kernel
theorem dX3_museum_25 : decode cX3_museum 25 = .ok (.aload_n 0, 1) := by decide +kernel
theorem dX3_museum_26 : decode cX3_museum 26 = .ok (.getfield 32, 3) := by decide +kernel
theorem dX3_museum_29 : decode cX3_museum 29 = .ok (.invokevirtual 65, 3) := by decide +kernel
theorem dX3_museum_32 : decode cX3_museum 32 = .ok (.iload_n 2, 1) := by decide +kernel
theorem dX3_museum_33 : decode cX3_museum 33 = .ok (.ireturn, 1) := by decide +kernel
theorem dX3_door_0 : decode cX3_door 0 = .ok (.iload_n 1, 1) := by decide +kernel
theorem dX3_door_1 : decode cX3_door 1 = .ok (.invokestatic 68, 3) := by decide +kernel
theorem dX3_door_4 : decode cX3_door 4 = .ok (.ifCond .ne 10, 3) := by decide +kernel
theorem dX3_door_7 : decode cX3_door 7 = .ok (.iload_n 2, 1) := by decide +kernel
theorem dX3_door_8 : decode cX3_door 8 = .ok (.invokestatic 68, 3) := by decide +kernel
theorem dX3_door_11 : decode cX3_door 11 = .ok (.ifCond .eq 9, 3) := by decide +kernel
theorem dX3_door_14 : decode cX3_door 14 = .ok (.aload_n 0, 1) := by decide +kernel
theorem dX3_door_15 : decode cX3_door 15 = .ok (.iconst (-1), 1) := by decide +kernel
theorem dX3_door_16 : decode cX3_door 16 = .ok (.invokevirtual 47, 3) := by decide +kernel
theorem dX3_door_19 : decode cX3_door 19 = .ok (.ireturn, 1) := by decide +kernel
theorem dX3_door_20 : decode cX3_door 20 = .ok (.aload_n 0, 1) := by decide +kernel
theorem dX3_door_21 : decode cX3_door 21 = .ok (.getfield 10, 3) := by decide +kernel
theorem dX3_door_24 : decode cX3_door 24 = .ok (.getfield 72, 3) := by decide +kernel
theorem dX3_door_27 : decode cX3_door 27 = .ok (.iload_n 1, 1) := by decide +kernel
theorem dX3_door_28 : decode cX3_door 28 = .ok (.iload_n 2, 1) := by decide +kernel
theorem dX3_door_29 : decode cX3_door 29 = .ok (.invokevirtual 76, 3) := by decide +kernel
theorem dX3_door_32 : decode cX3_door 32 = .ok (.ireturn, 1) := by decide +kernel
theorem dX3_question_0 : decode cX3_question 0 = .ok (.aload_n 0, 1) := by decide +kernel
theorem dX3_question_1 : decode cX3_question 1 = .ok (.iload_n 1, 1) := by decide +kernel
theorem dX3_question_2 : decode cX3_question 2 = .ok (.invokevirtual 82, 3) := by decide +kernel
theorem dX3_question_5 : decode cX3_question 5 = .ok (.ifCond .eq 9, 3) := by decide +kernel
theorem dX3_question_8 : decode cX3_question 8 = .ok (.aload_n 0, 1) := by decide +kernel
theorem dX3_question_9 : decode cX3_question 9 = .ok (.iconst (-1), 1) := by decide +kernel
theorem dX3_question_10 : decode cX3_question 10 = .ok (.invokevirtual 47, 3) := by decide +kernel
theorem dX3_question_13 : decode cX3_question 13 = .ok (.ireturn, 1) := by decide +kernel
theorem dX3_question_14 : decode cX3_question 14 = .ok (.iload_n 2, 1) := by decide +kernel
theorem dX3_question_15 : decode cX3_question 15 = .ok (.tableswitch 82 0 4 #[33, 43, 53, 63, 73], 33) := by decide +kernel
theorem dX3_question_48 : decode cX3_question 48 = .ok (.aload_n 0, 1) := by decide +kernel
theorem dX3_question_49 : decode cX3_question 49 = .ok (.getfield 10, 3) := by decide +kernel
theorem dX3_question_52 : decode cX3_question 52 = .ok (.getfield 85, 3) := by decide +kernel
theorem dX3_question_55 : decode cX3_question 55 = .ok (.iload_n 1, 1) := by decide +kernel
theorem dX3_question_56 : decode cX3_question 56 = .ok (.iaload, 1) := by decide +kernel
theorem dX3_question_57 : decode cX3_question 57 = .ok (.ireturn, 1) := by decide +kernel
theorem dX3_question_58 : decode cX3_question 58 = .ok (.aload_n 0, 1) := by decide +kernel
theorem dX3_question_59 : decode cX3_question 59 = .ok (.getfield 10, 3) := by decide +kernel
theorem dX3_question_62 : decode cX3_question 62 = .ok (.getfield 88, 3) := by decide +kernel
theorem dX3_question_65 : decode cX3_question 65 = .ok (.iload_n 1, 1) := by decide +kernel
theorem dX3_question_66 : decode cX3_question 66 = .ok (.iaload, 1) := by decide +kernel
theorem dX3_question_67 : decode cX3_question 67 = .ok (.ireturn, 1) := by decide +kernel
theorem dX3_question_68 : decode cX3_question 68 = .ok (.aload_n 0, 1) := by decide +kernel
theorem dX3_question_69 : decode cX3_question 69 = .ok (.getfield 10, 3) := by decide +kernel
theorem dX3_question_72 : decode cX3_question 72 = .ok (.getfield 91, 3) := by decide +kernel
theorem dX3_question_75 : decode cX3_question 75 = .ok (.iload_n 1, 1) := by decide +kernel
theorem dX3_question_76 : decode cX3_question 76 = .ok (.iaload, 1) := by decide +kernel
theorem dX3_question_77 : decode cX3_question 77 = .ok (.ireturn, 1) := by decide +kernel
theorem dX3_question_78 : decode cX3_question 78 = .ok (.aload_n 0, 1) := by decide +kernel
theorem dX3_question_79 : decode cX3_question 79 = .ok (.getfield 10, 3) := by decide +kernel
theorem dX3_question_82 : decode cX3_question 82 = .ok (.getfield 94, 3) := by decide +kernel
theorem dX3_question_85 : decode cX3_question 85 = .ok (.iload_n 1, 1) := by decide +kernel
theorem dX3_question_86 : decode cX3_question 86 = .ok (.iaload, 1) := by decide +kernel
theorem dX3_question_87 : decode cX3_question 87 = .ok (.ireturn, 1) := by decide +kernel
theorem dX3_question_88 : decode cX3_question 88 = .ok (.aload_n 0, 1) := by decide +kernel
theorem dX3_question_89 : decode cX3_question 89 = .ok (.getfield 10, 3) := by decide +kernel
theorem dX3_question_92 : decode cX3_question 92 = .ok (.iload_n 1, 1) := by decide +kernel
theorem dX3_question_93 : decode cX3_question 93 = .ok (.invokevirtual 97, 3) := by decide +kernel
theorem dX3_question_96 : decode cX3_question 96 = .ok (.ireturn, 1) := by decide +kernel
theorem dX3_question_97 : decode cX3_question 97 = .ok (.aload_n 0, 1) := by decide +kernel
theorem dX3_question_98 : decode cX3_question 98 = .ok (.bipush (-2), 2) := by decide +kernel
theorem dX3_question_100 : decode cX3_question 100 = .ok (.invokevirtual 47, 3) := by decide +kernel
theorem dX3_question_103 : decode cX3_question 103 = .ok (.ireturn, 1) := by decide +kernel
theorem dX3_group_0 : decode cX3_group 0 = .ok (.aload_n 0, 1) := by decide +kernel
theorem dX3_group_1 : decode cX3_group 1 = .ok (.iload_n 1, 1) := by decide +kernel
theorem dX3_group_2 : decode cX3_group 2 = .ok (.invokevirtual 100, 3) := by decide +kernel
theorem dX3_group_5 : decode cX3_group 5 = .ok (.ifCond .eq 9, 3) := by decide +kernel
theorem dX3_group_8 : decode cX3_group 8 = .ok (.aload_n 0, 1) := by decide +kernel
theorem dX3_group_9 : decode cX3_group 9 = .ok (.iconst (-1), 1) := by decide +kernel
theorem dX3_group_10 : decode cX3_group 10 = .ok (.invokevirtual 47, 3) := by decide +kernel
theorem dX3_group_13 : decode cX3_group 13 = .ok (.ireturn, 1) := by decide +kernel
theorem dX3_group_14 : decode cX3_group 14 = .ok (.iload_n 2, 1) := by decide +kernel
theorem dX3_group_15 : decode cX3_group 15 = .ok (.tableswitch 96 0 5 #[37, 47, 57, 67, 77, 87], 37) := by decide +kernel
theorem dX3_group_52 : decode cX3_group 52 = .ok (.aload_n 0, 1) := by decide +kernel
theorem dX3_group_53 : decode cX3_group 53 = .ok (.getfield 10, 3) := by decide +kernel
theorem dX3_group_56 : decode cX3_group 56 = .ok (.getfield 103, 3) := by decide +kernel
theorem dX3_group_59 : decode cX3_group 59 = .ok (.iload_n 1, 1) := by decide +kernel
theorem dX3_group_60 : decode cX3_group 60 = .ok (.iaload, 1) := by decide +kernel
theorem dX3_group_61 : decode cX3_group 61 = .ok (.ireturn, 1) := by decide +kernel
theorem dX3_group_62 : decode cX3_group 62 = .ok (.aload_n 0, 1) := by decide +kernel
theorem dX3_group_63 : decode cX3_group 63 = .ok (.getfield 10, 3) := by decide +kernel
theorem dX3_group_66 : decode cX3_group 66 = .ok (.getfield 106, 3) := by decide +kernel
theorem dX3_group_69 : decode cX3_group 69 = .ok (.iload_n 1, 1) := by decide +kernel
theorem dX3_group_70 : decode cX3_group 70 = .ok (.iaload, 1) := by decide +kernel
theorem dX3_group_71 : decode cX3_group 71 = .ok (.ireturn, 1) := by decide +kernel
theorem dX3_group_72 : decode cX3_group 72 = .ok (.aload_n 0, 1) := by decide +kernel
theorem dX3_group_73 : decode cX3_group 73 = .ok (.getfield 10, 3) := by decide +kernel
theorem dX3_group_76 : decode cX3_group 76 = .ok (.getfield 109, 3) := by decide +kernel
theorem dX3_group_79 : decode cX3_group 79 = .ok (.iload_n 1, 1) := by decide +kernel
theorem dX3_group_80 : decode cX3_group 80 = .ok (.iaload, 1) := by decide +kernel
theorem dX3_group_81 : decode cX3_group 81 = .ok (.ireturn, 1) := by decide +kernel
theorem dX3_group_82 : decode cX3_group 82 = .ok (.aload_n 0, 1) := by decide +kernel
theorem dX3_group_83 : decode cX3_group 83 = .ok (.getfield 10, 3) := by decide +kernel
theorem dX3_group_86 : decode cX3_group 86 = .ok (.getfield 112, 3) := by decide +kernel
theorem dX3_group_89 : decode cX3_group 89 = .ok (.iload_n 1, 1) := by decide +kernel
theorem dX3_group_90 : decode cX3_group 90 = .ok (.iaload, 1) := by decide +kernel
theorem dX3_group_91 : decode cX3_group 91 = .ok (.ireturn, 1) := by decide +kernel
theorem dX3_group_92 : decode cX3_group 92 = .ok (.aload_n 0, 1) := by decide +kernel
theorem dX3_group_93 : decode cX3_group 93 = .ok (.getfield 10, 3) := by decide +kernel
theorem dX3_group_96 : decode cX3_group 96 = .ok (.getfield 115, 3) := by decide +kernel
theorem dX3_group_99 : decode cX3_group 99 = .ok (.iload_n 1, 1) := by decide +kernel
theorem dX3_group_100 : decode cX3_group 100 = .ok (.iaload, 1) := by decide +kernel
theorem dX3_group_101 : decode cX3_group 101 = .ok (.ireturn, 1) := by decide +kernel
theorem dX3_group_102 : decode cX3_group 102 = .ok (.aload_n 0, 1) := by decide +kernel
theorem dX3_group_103 : decode cX3_group 103 = .ok (.getfield 10, 3) := by decide +kernel
theorem dX3_group_106 : decode cX3_group 106 = .ok (.iload_n 1, 1) := by decide +kernel
theorem dX3_group_107 : decode cX3_group 107 = .ok (.invokevirtual 118, 3) := by decide +kernel
theorem dX3_group_110 : decode cX3_group 110 = .ok (.ireturn, 1) := by decide +kernel
theorem dX3_group_111 : decode cX3_group 111 = .ok (.aload_n 0, 1) := by decide +kernel
theorem dX3_group_112 : decode cX3_group 112 = .ok (.bipush (-2), 2) := by decide +kernel
theorem dX3_group_114 : decode cX3_group 114 = .ok (.invokevirtual 47, 3) := by decide +kernel
theorem dX3_group_117 : decode cX3_group 117 = .ok (.ireturn, 1) := by decide +kernel
theorem dX3_sheet_0 : decode cX3_sheet 0 = .ok (.aload_n 0, 1) := by decide +kernel
theorem dX3_sheet_1 : decode cX3_sheet 1 = .ok (.iload_n 1, 1) := by decide +kernel
theorem dX3_sheet_2 : decode cX3_sheet 2 = .ok (.invokevirtual 100, 3) := by decide +kernel
theorem dX3_sheet_5 : decode cX3_sheet 5 = .ok (.ifCond .ne 11, 3) := by decide +kernel
theorem dX3_sheet_8 : decode cX3_sheet 8 = .ok (.aload_n 0, 1) := by decide +kernel
theorem dX3_sheet_9 : decode cX3_sheet 9 = .ok (.iload_n 2, 1) := by decide +kernel
theorem dX3_sheet_10 : decode cX3_sheet 10 = .ok (.invokevirtual 82, 3) := by decide +kernel
theorem dX3_sheet_13 : decode cX3_sheet 13 = .ok (.ifCond .eq 9, 3) := by decide +kernel
theorem dX3_sheet_16 : decode cX3_sheet 16 = .ok (.aload_n 0, 1) := by decide +kernel
theorem dX3_sheet_17 : decode cX3_sheet 17 = .ok (.iconst (-1), 1) := by decide +kernel
theorem dX3_sheet_18 : decode cX3_sheet 18 = .ok (.invokevirtual 47, 3) := by decide +kernel
theorem dX3_sheet_21 : decode cX3_sheet 21 = .ok (.ireturn, 1) := by decide +kernel
theorem dX3_sheet_22 : decode cX3_sheet 22 = .ok (.aload_n 0, 1) := by decide +kernel
theorem dX3_sheet_23 : decode cX3_sheet 23 = .ok (.getfield 10, 3) := by decide +kernel
theorem dX3_sheet_26 : decode cX3_sheet 26 = .ok (.iload_n 1, 1) := by decide +kernel
theorem dX3_sheet_27 : decode cX3_sheet 27 = .ok (.iload_n 2, 1) := by decide +kernel
theorem dX3_sheet_28 : decode cX3_sheet 28 = .ok (.invokevirtual 121, 3) := by decide +kernel
theorem dX3_sheet_31 : decode cX3_sheet 31 = .ok (.ireturn, 1) := by decide +kernel
theorem dX3_opens_0 : decode cX3_opens 0 = .ok (.iload_n 1, 1) := by decide +kernel
theorem dX3_opens_1 : decode cX3_opens 1 = .ok (.invokestatic 68, 3) := by decide +kernel
theorem dX3_opens_4 : decode cX3_opens 4 = .ok (.ifCond .ne 15, 3) := by decide +kernel
theorem dX3_opens_7 : decode cX3_opens 7 = .ok (.iload_n 2, 1) := by decide +kernel
theorem dX3_opens_8 : decode cX3_opens 8 = .ok (.invokestatic 68, 3) := by decide +kernel
theorem dX3_opens_11 : decode cX3_opens 11 = .ok (.ifCond .ne 8, 3) := by decide +kernel
theorem dX3_opens_14 : decode cX3_opens 14 = .ok (.iload_n 1, 1) := by decide +kernel
theorem dX3_opens_15 : decode cX3_opens 15 = .ok (.iload_n 2, 1) := by decide +kernel
theorem dX3_opens_16 : decode cX3_opens 16 = .ok (.if_icmp .ne 9, 3) := by decide +kernel
theorem dX3_opens_19 : decode cX3_opens 19 = .ok (.aload_n 0, 1) := by decide +kernel
theorem dX3_opens_20 : decode cX3_opens 20 = .ok (.iconst (-1), 1) := by decide +kernel
theorem dX3_opens_21 : decode cX3_opens 21 = .ok (.invokevirtual 47, 3) := by decide +kernel
theorem dX3_opens_24 : decode cX3_opens 24 = .ok (.ireturn, 1) := by decide +kernel
theorem dX3_opens_25 : decode cX3_opens 25 = .ok (.aload_n 0, 1) := by decide +kernel
theorem dX3_opens_26 : decode cX3_opens 26 = .ok (.getfield 10, 3) := by decide +kernel
theorem dX3_opens_29 : decode cX3_opens 29 = .ok (.getfield 72, 3) := by decide +kernel
theorem dX3_opens_32 : decode cX3_opens 32 = .ok (.iload_n 1, 1) := by decide +kernel
theorem dX3_opens_33 : decode cX3_opens 33 = .ok (.iload_n 2, 1) := by decide +kernel
theorem dX3_opens_34 : decode cX3_opens 34 = .ok (.invokevirtual 124, 3) := by decide +kernel
theorem dX3_opens_37 : decode cX3_opens 37 = .ok (.aload_n 0, 1) := by decide +kernel
theorem dX3_opens_38 : decode cX3_opens 38 = .ok (.getfield 10, 3) := by decide +kernel
theorem dX3_opens_41 : decode cX3_opens 41 = .ok (.getfield 72, 3) := by decide +kernel
theorem dX3_opens_44 : decode cX3_opens 44 = .ok (.iload_n 1, 1) := by decide +kernel
theorem dX3_opens_45 : decode cX3_opens 45 = .ok (.iload_n 2, 1) := by decide +kernel
theorem dX3_opens_46 : decode cX3_opens 46 = .ok (.invokevirtual 128, 3) := by decide +kernel
theorem dX3_opens_49 : decode cX3_opens 49 = .ok (.ifCond .eq 7, 3) := by decide +kernel
theorem dX3_opens_52 : decode cX3_opens 52 = .ok (.iconst 1, 1) := by decide +kernel
theorem dX3_opens_53 : decode cX3_opens 53 = .ok (.goto 4, 3) := by decide +kernel
theorem dX3_opens_56 : decode cX3_opens 56 = .ok (.iconst 0, 1) := by decide +kernel
theorem dX3_opens_57 : decode cX3_opens 57 = .ok (.ireturn, 1) := by decide +kernel
theorem dX3_put_0 : decode cX3_put 0 = .ok (.aload_n 0, 1) := by decide +kernel
theorem dX3_put_1 : decode cX3_put 1 = .ok (.iload_n 1, 1) := by decide +kernel
theorem dX3_put_2 : decode cX3_put 2 = .ok (.invokevirtual 100, 3) := by decide +kernel
theorem dX3_put_5 : decode cX3_put 5 = .ok (.ifCond .ne 10, 3) := by decide +kernel
theorem dX3_put_8 : decode cX3_put 8 = .ok (.iload_n 2, 1) := by decide +kernel
theorem dX3_put_9 : decode cX3_put 9 = .ok (.invokestatic 68, 3) := by decide +kernel
theorem dX3_put_12 : decode cX3_put 12 = .ok (.ifCond .eq 9, 3) := by decide +kernel
theorem dX3_put_15 : decode cX3_put 15 = .ok (.aload_n 0, 1) := by decide +kernel
theorem dX3_put_16 : decode cX3_put 16 = .ok (.iconst (-1), 1) := by decide +kernel
theorem dX3_put_17 : decode cX3_put 17 = .ok (.invokevirtual 47, 3) := by decide +kernel
theorem dX3_put_20 : decode cX3_put 20 = .ok (.ireturn, 1) := by decide +kernel
theorem dX3_put_21 : decode cX3_put 21 = .ok (.aload_n 0, 1) := by decide +kernel
theorem dX3_put_22 : decode cX3_put 22 = .ok (.getfield 10, 3) := by decide +kernel
theorem dX3_put_25 : decode cX3_put 25 = .ok (.getfield 112, 3) := by decide +kernel
theorem dX3_put_28 : decode cX3_put 28 = .ok (.iload_n 1, 1) := by decide +kernel
theorem dX3_put_29 : decode cX3_put 29 = .ok (.iaload, 1) := by decide +kernel
theorem dX3_put_30 : decode cX3_put 30 = .ok (.istore_n 3, 1) := by decide +kernel
theorem dX3_put_31 : decode cX3_put 31 = .ok (.aload_n 0, 1) := by decide +kernel
theorem dX3_put_32 : decode cX3_put 32 = .ok (.getfield 10, 3) := by decide +kernel
theorem dX3_put_35 : decode cX3_put 35 = .ok (.iload_n 1, 1) := by decide +kernel
theorem dX3_put_36 : decode cX3_put 36 = .ok (.iload_n 2, 1) := by decide +kernel
theorem dX3_put_37 : decode cX3_put 37 = .ok (.invokevirtual 132, 3) := by decide +kernel
theorem dX3_put_40 : decode cX3_put 40 = .ok (.iload_n 3, 1) := by decide +kernel
theorem dX3_put_41 : decode cX3_put 41 = .ok (.ireturn, 1) := by decide +kernel
theorem dX3_start_0 : decode cX3_start 0 = .ok (.aload_n 0, 1) := by decide +kernel
theorem dX3_start_1 : decode cX3_start 1 = .ok (.iload_n 1, 1) := by decide +kernel
theorem dX3_start_2 : decode cX3_start 2 = .ok (.invokevirtual 100, 3) := by decide +kernel
theorem dX3_start_5 : decode cX3_start 5 = .ok (.ifCond .eq 9, 3) := by decide +kernel
theorem dX3_start_8 : decode cX3_start 8 = .ok (.aload_n 0, 1) := by decide +kernel
theorem dX3_start_9 : decode cX3_start 9 = .ok (.iconst (-1), 1) := by decide +kernel
theorem dX3_start_10 : decode cX3_start 10 = .ok (.invokevirtual 47, 3) := by decide +kernel
theorem dX3_start_13 : decode cX3_start 13 = .ok (.ireturn, 1) := by decide +kernel
theorem dX3_start_14 : decode cX3_start 14 = .ok (.iload_n 2, 1) := by decide +kernel
theorem dX3_start_15 : decode cX3_start 15 = .ok (.ifCond .ge 10, 3) := by decide +kernel
theorem dX3_start_18 : decode cX3_start 18 = .ok (.aload_n 0, 1) := by decide +kernel
theorem dX3_start_19 : decode cX3_start 19 = .ok (.bipush (-4), 2) := by decide +kernel
theorem dX3_start_21 : decode cX3_start 21 = .ok (.invokevirtual 47, 3) := by decide +kernel
theorem dX3_start_24 : decode cX3_start 24 = .ok (.ireturn, 1) := by decide +kernel
theorem dX3_start_25 : decode cX3_start 25 = .ok (.iload_n 2, 1) := by decide +kernel
theorem dX3_start_26 : decode cX3_start 26 = .ok (.bipush 8, 2) := by decide +kernel
theorem dX3_start_28 : decode cX3_start 28 = .ok (.if_icmp .lt 10, 3) := by decide +kernel
theorem dX3_start_31 : decode cX3_start 31 = .ok (.aload_n 0, 1) := by decide +kernel
theorem dX3_start_32 : decode cX3_start 32 = .ok (.bipush (-6), 2) := by decide +kernel
theorem dX3_start_34 : decode cX3_start 34 = .ok (.invokevirtual 47, 3) := by decide +kernel
theorem dX3_start_37 : decode cX3_start 37 = .ok (.ireturn, 1) := by decide +kernel
theorem dX3_start_38 : decode cX3_start 38 = .ok (.aload_n 0, 1) := by decide +kernel
theorem dX3_start_39 : decode cX3_start 39 = .ok (.getfield 10, 3) := by decide +kernel
theorem dX3_start_42 : decode cX3_start 42 = .ok (.getfield 109, 3) := by decide +kernel
theorem dX3_start_45 : decode cX3_start 45 = .ok (.iload_n 1, 1) := by decide +kernel
theorem dX3_start_46 : decode cX3_start 46 = .ok (.iaload, 1) := by decide +kernel
theorem dX3_start_47 : decode cX3_start 47 = .ok (.istore_n 3, 1) := by decide +kernel
theorem dX3_start_48 : decode cX3_start 48 = .ok (.aload_n 0, 1) := by decide +kernel
theorem dX3_start_49 : decode cX3_start 49 = .ok (.getfield 10, 3) := by decide +kernel
theorem dX3_start_52 : decode cX3_start 52 = .ok (.getfield 109, 3) := by decide +kernel
theorem dX3_start_55 : decode cX3_start 55 = .ok (.iload_n 1, 1) := by decide +kernel
theorem dX3_start_56 : decode cX3_start 56 = .ok (.iload_n 2, 1) := by decide +kernel
theorem dX3_start_57 : decode cX3_start 57 = .ok (.iastore, 1) := by decide +kernel
theorem dX3_start_58 : decode cX3_start 58 = .ok (.iload_n 3, 1) := by decide +kernel
theorem dX3_start_59 : decode cX3_start 59 = .ok (.ireturn, 1) := by decide +kernel
theorem dX3_write_0 : decode cX3_write 0 = .ok (.aload_n 0, 1) := by decide +kernel
theorem dX3_write_1 : decode cX3_write 1 = .ok (.iload_n 1, 1) := by decide +kernel
theorem dX3_write_2 : decode cX3_write 2 = .ok (.invokevirtual 100, 3) := by decide +kernel
theorem dX3_write_5 : decode cX3_write 5 = .ok (.ifCond .ne 11, 3) := by decide +kernel
theorem dX3_write_8 : decode cX3_write 8 = .ok (.aload_n 0, 1) := by decide +kernel
theorem dX3_write_9 : decode cX3_write 9 = .ok (.iload_n 2, 1) := by decide +kernel
theorem dX3_write_10 : decode cX3_write 10 = .ok (.invokevirtual 82, 3) := by decide +kernel
theorem dX3_write_13 : decode cX3_write 13 = .ok (.ifCond .eq 9, 3) := by decide +kernel
theorem dX3_write_16 : decode cX3_write 16 = .ok (.aload_n 0, 1) := by decide +kernel
theorem dX3_write_17 : decode cX3_write 17 = .ok (.iconst (-1), 1) := by decide +kernel
theorem dX3_write_18 : decode cX3_write 18 = .ok (.invokevirtual 47, 3) := by decide +kernel
theorem dX3_write_21 : decode cX3_write 21 = .ok (.ireturn, 1) := by decide +kernel
theorem dX3_write_22 : decode cX3_write 22 = .ok (.iload_n 3, 1) := by decide +kernel
theorem dX3_write_23 : decode cX3_write 23 = .ok (.ifCond .ge 10, 3) := by decide +kernel
theorem dX3_write_26 : decode cX3_write 26 = .ok (.aload_n 0, 1) := by decide +kernel
theorem dX3_write_27 : decode cX3_write 27 = .ok (.bipush (-4), 2) := by decide +kernel
theorem dX3_write_29 : decode cX3_write 29 = .ok (.invokevirtual 47, 3) := by decide +kernel
theorem dX3_write_32 : decode cX3_write 32 = .ok (.ireturn, 1) := by decide +kernel
theorem dX3_write_33 : decode cX3_write 33 = .ok (.iload_n 3, 1) := by decide +kernel
theorem dX3_write_34 : decode cX3_write 34 = .ok (.bipush 10, 2) := by decide +kernel
theorem dX3_write_36 : decode cX3_write 36 = .ok (.if_icmp .le 10, 3) := by decide +kernel
theorem dX3_write_39 : decode cX3_write 39 = .ok (.aload_n 0, 1) := by decide +kernel
theorem dX3_write_40 : decode cX3_write 40 = .ok (.bipush (-6), 2) := by decide +kernel
theorem dX3_write_42 : decode cX3_write 42 = .ok (.invokevirtual 47, 3) := by decide +kernel
theorem dX3_write_45 : decode cX3_write 45 = .ok (.ireturn, 1) := by decide +kernel
theorem dX3_write_46 : decode cX3_write 46 = .ok (.aload_n 0, 1) := by decide +kernel
theorem dX3_write_47 : decode cX3_write 47 = .ok (.getfield 10, 3) := by decide +kernel
theorem dX3_write_50 : decode cX3_write 50 = .ok (.iload_n 1, 1) := by decide +kernel
theorem dX3_write_51 : decode cX3_write 51 = .ok (.iload_n 2, 1) := by decide +kernel
theorem dX3_write_52 : decode cX3_write 52 = .ok (.invokevirtual 121, 3) := by decide +kernel
theorem dX3_write_55 : decode cX3_write 55 = .ok (.istore 4, 2) := by decide +kernel
theorem dX3_write_57 : decode cX3_write 57 = .ok (.aload_n 0, 1) := by decide +kernel
theorem dX3_write_58 : decode cX3_write 58 = .ok (.getfield 10, 3) := by decide +kernel
theorem dX3_write_61 : decode cX3_write 61 = .ok (.iload_n 1, 1) := by decide +kernel
theorem dX3_write_62 : decode cX3_write 62 = .ok (.iload_n 2, 1) := by decide +kernel
theorem dX3_write_63 : decode cX3_write 63 = .ok (.iload_n 3, 1) := by decide +kernel
theorem dX3_write_64 : decode cX3_write 64 = .ok (.bipush 10, 2) := by decide +kernel
theorem dX3_write_66 : decode cX3_write 66 = .ok (.if_icmp .ne 8, 3) := by decide +kernel
theorem dX3_write_69 : decode cX3_write 69 = .ok (.bipush (-9), 2) := by decide +kernel
theorem dX3_write_71 : decode cX3_write 71 = .ok (.goto 4, 3) := by decide +kernel
theorem dX3_write_74 : decode cX3_write 74 = .ok (.iload_n 3, 1) := by decide +kernel
theorem dX3_write_75 : decode cX3_write 75 = .ok (.invokevirtual 135, 3) := by decide +kernel
theorem dX3_write_78 : decode cX3_write 78 = .ok (.iload 4, 2) := by decide +kernel
theorem dX3_write_80 : decode cX3_write 80 = .ok (.ireturn, 1) := by decide +kernel
theorem dX3_minutes_0 : decode cX3_minutes 0 = .ok (.iload_n 1, 1) := by decide +kernel
theorem dX3_minutes_1 : decode cX3_minutes 1 = .ok (.iconst 1, 1) := by decide +kernel
theorem dX3_minutes_2 : decode cX3_minutes 2 = .ok (.if_icmp .ge 10, 3) := by decide +kernel
theorem dX3_minutes_5 : decode cX3_minutes 5 = .ok (.aload_n 0, 1) := by decide +kernel
theorem dX3_minutes_6 : decode cX3_minutes 6 = .ok (.bipush (-4), 2) := by decide +kernel
theorem dX3_minutes_8 : decode cX3_minutes 8 = .ok (.invokevirtual 47, 3) := by decide +kernel
theorem dX3_minutes_11 : decode cX3_minutes 11 = .ok (.ireturn, 1) := by decide +kernel
theorem dX3_minutes_12 : decode cX3_minutes 12 = .ok (.iload_n 1, 1) := by decide +kernel
theorem dX3_minutes_13 : decode cX3_minutes 13 = .ok (.bipush 60, 2) := by decide +kernel
theorem dX3_minutes_15 : decode cX3_minutes 15 = .ok (.if_icmp .gt 18, 3) := by decide +kernel
theorem dX3_minutes_18 : decode cX3_minutes 18 = .ok (.aload_n 0, 1) := by decide +kernel
theorem dX3_minutes_19 : decode cX3_minutes 19 = .ok (.getfield 10, 3) := by decide +kernel
theorem dX3_minutes_22 : decode cX3_minutes 22 = .ok (.getfield 139, 3) := by decide +kernel
theorem dX3_minutes_25 : decode cX3_minutes 25 = .ok (.iload_n 1, 1) := by decide +kernel
theorem dX3_minutes_26 : decode cX3_minutes 26 = .ok (.iadd, 1) := by decide +kernel
theorem dX3_minutes_27 : decode cX3_minutes 27 = .ok (.sipush 999, 3) := by decide +kernel
theorem dX3_minutes_30 : decode cX3_minutes 30 = .ok (.if_icmp .le 10, 3) := by decide +kernel
theorem dX3_minutes_33 : decode cX3_minutes 33 = .ok (.aload_n 0, 1) := by decide +kernel
theorem dX3_minutes_34 : decode cX3_minutes 34 = .ok (.bipush (-6), 2) := by decide +kernel
theorem dX3_minutes_36 : decode cX3_minutes 36 = .ok (.invokevirtual 47, 3) := by decide +kernel
theorem dX3_minutes_39 : decode cX3_minutes 39 = .ok (.ireturn, 1) := by decide +kernel
theorem dX3_minutes_40 : decode cX3_minutes 40 = .ok (.aload_n 0, 1) := by decide +kernel
theorem dX3_minutes_41 : decode cX3_minutes 41 = .ok (.getfield 10, 3) := by decide +kernel
theorem dX3_minutes_44 : decode cX3_minutes 44 = .ok (.iload_n 1, 1) := by decide +kernel
theorem dX3_minutes_45 : decode cX3_minutes 45 = .ok (.invokevirtual 142, 3) := by decide +kernel
theorem dX3_minutes_48 : decode cX3_minutes 48 = .ok (.aload_n 0, 1) := by decide +kernel
theorem dX3_minutes_49 : decode cX3_minutes 49 = .ok (.getfield 10, 3) := by decide +kernel
theorem dX3_minutes_52 : decode cX3_minutes 52 = .ok (.invokevirtual 146, 3) := by decide +kernel
theorem dX3_minutes_55 : decode cX3_minutes 55 = .ok (.ireturn, 1) := by decide +kernel
theorem dX3_behind_0 : decode cX3_behind 0 = .ok (.aload_n 0, 1) := by decide +kernel
theorem dX3_behind_1 : decode cX3_behind 1 = .ok (.iload_n 1, 1) := by decide +kernel
theorem dX3_behind_2 : decode cX3_behind 2 = .ok (.invokevirtual 100, 3) := by decide +kernel
theorem dX3_behind_5 : decode cX3_behind 5 = .ok (.ifCond .eq 9, 3) := by decide +kernel
theorem dX3_behind_8 : decode cX3_behind 8 = .ok (.aload_n 0, 1) := by decide +kernel
theorem dX3_behind_9 : decode cX3_behind 9 = .ok (.iconst (-1), 1) := by decide +kernel
theorem dX3_behind_10 : decode cX3_behind 10 = .ok (.invokevirtual 47, 3) := by decide +kernel
theorem dX3_behind_13 : decode cX3_behind 13 = .ok (.ireturn, 1) := by decide +kernel
theorem dX3_behind_14 : decode cX3_behind 14 = .ok (.iload_n 2, 1) := by decide +kernel
theorem dX3_behind_15 : decode cX3_behind 15 = .ok (.ifCond .ge 10, 3) := by decide +kernel
theorem dX3_behind_18 : decode cX3_behind 18 = .ok (.aload_n 0, 1) := by decide +kernel
theorem dX3_behind_19 : decode cX3_behind 19 = .ok (.bipush (-4), 2) := by decide +kernel
theorem dX3_behind_21 : decode cX3_behind 21 = .ok (.invokevirtual 47, 3) := by decide +kernel
theorem dX3_behind_24 : decode cX3_behind 24 = .ok (.ireturn, 1) := by decide +kernel
theorem dX3_behind_25 : decode cX3_behind 25 = .ok (.iload_n 2, 1) := by decide +kernel
theorem dX3_behind_26 : decode cX3_behind 26 = .ok (.bipush 99, 2) := by decide +kernel
theorem dX3_behind_28 : decode cX3_behind 28 = .ok (.if_icmp .le 10, 3) := by decide +kernel
theorem dX3_behind_31 : decode cX3_behind 31 = .ok (.aload_n 0, 1) := by decide +kernel
theorem dX3_behind_32 : decode cX3_behind 32 = .ok (.bipush (-6), 2) := by decide +kernel
theorem dX3_behind_34 : decode cX3_behind 34 = .ok (.invokevirtual 47, 3) := by decide +kernel
theorem dX3_behind_37 : decode cX3_behind 37 = .ok (.ireturn, 1) := by decide +kernel
theorem dX3_behind_38 : decode cX3_behind 38 = .ok (.iload_n 3, 1) := by decide +kernel
theorem dX3_behind_39 : decode cX3_behind 39 = .ok (.ifCond .lt 8, 3) := by decide +kernel
theorem dX3_behind_42 : decode cX3_behind 42 = .ok (.iload_n 3, 1) := by decide +kernel
theorem dX3_behind_43 : decode cX3_behind 43 = .ok (.iconst 3, 1) := by decide +kernel
theorem dX3_behind_44 : decode cX3_behind 44 = .ok (.if_icmp .le 10, 3) := by decide +kernel
theorem dX3_behind_47 : decode cX3_behind 47 = .ok (.aload_n 0, 1) := by decide +kernel
theorem dX3_behind_48 : decode cX3_behind 48 = .ok (.bipush (-2), 2) := by decide +kernel
theorem dX3_behind_50 : decode cX3_behind 50 = .ok (.invokevirtual 47, 3) := by decide +kernel
theorem dX3_behind_53 : decode cX3_behind 53 = .ok (.ireturn, 1) := by decide +kernel
theorem dX3_behind_54 : decode cX3_behind 54 = .ok (.aload_n 0, 1) := by decide +kernel
theorem dX3_behind_55 : decode cX3_behind 55 = .ok (.iload_n 2, 1) := by decide +kernel
theorem dX3_behind_56 : decode cX3_behind 56 = .ok (.invokevirtual 149, 3) := by decide +kernel
theorem dX3_behind_59 : decode cX3_behind 59 = .ok (.iload_n 3, 1) := by decide +kernel
theorem dX3_behind_60 : decode cX3_behind 60 = .ok (.tableswitch 56 0 2 #[28, 38, 47], 28) := by decide +kernel
theorem dX3_behind_88 : decode cX3_behind 88 = .ok (.aload_n 0, 1) := by decide +kernel
theorem dX3_behind_89 : decode cX3_behind 89 = .ok (.getfield 16, 3) := by decide +kernel
theorem dX3_behind_92 : decode cX3_behind 92 = .ok (.getfield 112, 3) := by decide +kernel
theorem dX3_behind_95 : decode cX3_behind 95 = .ok (.iload_n 1, 1) := by decide +kernel
theorem dX3_behind_96 : decode cX3_behind 96 = .ok (.iaload, 1) := by decide +kernel
theorem dX3_behind_97 : decode cX3_behind 97 = .ok (.ireturn, 1) := by decide +kernel
theorem dX3_behind_98 : decode cX3_behind 98 = .ok (.aload_n 0, 1) := by decide +kernel
theorem dX3_behind_99 : decode cX3_behind 99 = .ok (.getfield 16, 3) := by decide +kernel
theorem dX3_behind_102 : decode cX3_behind 102 = .ok (.iload_n 1, 1) := by decide +kernel
theorem dX3_behind_103 : decode cX3_behind 103 = .ok (.invokevirtual 152, 3) := by decide +kernel
theorem dX3_behind_106 : decode cX3_behind 106 = .ok (.ireturn, 1) := by decide +kernel
theorem dX3_behind_107 : decode cX3_behind 107 = .ok (.aload_n 0, 1) := by decide +kernel
theorem dX3_behind_108 : decode cX3_behind 108 = .ok (.getfield 16, 3) := by decide +kernel
theorem dX3_behind_111 : decode cX3_behind 111 = .ok (.iload_n 1, 1) := by decide +kernel
theorem dX3_behind_112 : decode cX3_behind 112 = .ok (.invokevirtual 155, 3) := by decide +kernel
theorem dX3_behind_115 : decode cX3_behind 115 = .ok (.ireturn, 1) := by decide +kernel
theorem dX3_behind_116 : decode cX3_behind 116 = .ok (.aload_n 0, 1) := by decide +kernel
theorem dX3_behind_117 : decode cX3_behind 117 = .ok (.getfield 16, 3) := by decide +kernel
theorem dX3_behind_120 : decode cX3_behind 120 = .ok (.iload_n 1, 1) := by decide +kernel
theorem dX3_behind_121 : decode cX3_behind 121 = .ok (.invokevirtual 158, 3) := by decide +kernel
theorem dX3_behind_124 : decode cX3_behind 124 = .ok (.ireturn, 1) := by decide +kernel
theorem dX3_done_0 : decode cX3_done 0 = .ok (.aload_n 0, 1) := by decide +kernel
theorem dX3_done_1 : decode cX3_done 1 = .ok (.iload_n 1, 1) := by decide +kernel
theorem dX3_done_2 : decode cX3_done 2 = .ok (.invokevirtual 100, 3) := by decide +kernel
theorem dX3_done_5 : decode cX3_done 5 = .ok (.ifCond .eq 9, 3) := by decide +kernel
theorem dX3_done_8 : decode cX3_done 8 = .ok (.aload_n 0, 1) := by decide +kernel
theorem dX3_done_9 : decode cX3_done 9 = .ok (.iconst (-1), 1) := by decide +kernel
theorem dX3_done_10 : decode cX3_done 10 = .ok (.invokevirtual 47, 3) := by decide +kernel
theorem dX3_done_13 : decode cX3_done 13 = .ok (.ireturn, 1) := by decide +kernel
theorem dX3_done_14 : decode cX3_done 14 = .ok (.aload_n 0, 1) := by decide +kernel
theorem dX3_done_15 : decode cX3_done 15 = .ok (.invokevirtual 161, 3) := by decide +kernel
theorem dX3_done_18 : decode cX3_done 18 = .ok (.aload_n 0, 1) := by decide +kernel
theorem dX3_done_19 : decode cX3_done 19 = .ok (.iload_n 1, 1) := by decide +kernel
theorem dX3_done_20 : decode cX3_done 20 = .ok (.invokevirtual 164, 3) := by decide +kernel
theorem dX3_done_23 : decode cX3_done 23 = .ok (.invokestatic 167, 3) := by decide +kernel
theorem dX3_done_26 : decode cX3_done 26 = .ok (.ireturn, 1) := by decide +kernel
theorem dX3_ended_0 : decode cX3_ended 0 = .ok (.iload_n 1, 1) := by decide +kernel
theorem dX3_ended_1 : decode cX3_ended 1 = .ok (.ifCond .lt 8, 3) := by decide +kernel
theorem dX3_ended_4 : decode cX3_ended 4 = .ok (.iload_n 1, 1) := by decide +kernel
theorem dX3_ended_5 : decode cX3_ended 5 = .ok (.iconst 1, 1) := by decide +kernel
theorem dX3_ended_6 : decode cX3_ended 6 = .ok (.if_icmp .le 10, 3) := by decide +kernel
theorem dX3_ended_9 : decode cX3_ended 9 = .ok (.aload_n 0, 1) := by decide +kernel
theorem dX3_ended_10 : decode cX3_ended 10 = .ok (.bipush (-2), 2) := by decide +kernel
theorem dX3_ended_12 : decode cX3_ended 12 = .ok (.invokevirtual 47, 3) := by decide +kernel
theorem dX3_ended_15 : decode cX3_ended 15 = .ok (.ireturn, 1) := by decide +kernel
theorem dX3_ended_16 : decode cX3_ended 16 = .ok (.aload_n 0, 1) := by decide +kernel
theorem dX3_ended_17 : decode cX3_ended 17 = .ok (.invokevirtual 161, 3) := by decide +kernel
theorem dX3_ended_20 : decode cX3_ended 20 = .ok (.iload_n 1, 1) := by decide +kernel
theorem dX3_ended_21 : decode cX3_ended 21 = .ok (.ifCond .ne 10, 3) := by decide +kernel
theorem dX3_ended_24 : decode cX3_ended 24 = .ok (.aload_n 0, 1) := by decide +kernel
theorem dX3_ended_25 : decode cX3_ended 25 = .ok (.invokevirtual 170, 3) := by decide +kernel
theorem dX3_ended_28 : decode cX3_ended 28 = .ok (.goto 10, 3) := by decide +kernel
theorem dX3_ended_31 : decode cX3_ended 31 = .ok (.aload_n 0, 1) := by decide +kernel
theorem dX3_ended_32 : decode cX3_ended 32 = .ok (.invokevirtual 173, 3) := by decide +kernel
theorem dX3_ended_35 : decode cX3_ended 35 = .ok (.invokestatic 167, 3) := by decide +kernel
theorem dX3_ended_38 : decode cX3_ended 38 = .ok (.ireturn, 1) := by decide +kernel
theorem dX3_answer_0 : decode cX3_answer 0 = .ok (.aload_n 0, 1) := by decide +kernel
theorem dX3_answer_1 : decode cX3_answer 1 = .ok (.iload_n 1, 1) := by decide +kernel
theorem dX3_answer_2 : decode cX3_answer 2 = .ok (.invokevirtual 100, 3) := by decide +kernel
theorem dX3_answer_5 : decode cX3_answer 5 = .ok (.ifCond .ne 11, 3) := by decide +kernel
theorem dX3_answer_8 : decode cX3_answer 8 = .ok (.aload_n 0, 1) := by decide +kernel
theorem dX3_answer_9 : decode cX3_answer 9 = .ok (.iload_n 2, 1) := by decide +kernel
theorem dX3_answer_10 : decode cX3_answer 10 = .ok (.invokevirtual 82, 3) := by decide +kernel
theorem dX3_answer_13 : decode cX3_answer 13 = .ok (.ifCond .eq 9, 3) := by decide +kernel
theorem dX3_answer_16 : decode cX3_answer 16 = .ok (.aload_n 0, 1) := by decide +kernel
theorem dX3_answer_17 : decode cX3_answer 17 = .ok (.iconst (-1), 1) := by decide +kernel
theorem dX3_answer_18 : decode cX3_answer 18 = .ok (.invokevirtual 47, 3) := by decide +kernel
theorem dX3_answer_21 : decode cX3_answer 21 = .ok (.ireturn, 1) := by decide +kernel
theorem dX3_answer_22 : decode cX3_answer 22 = .ok (.iload_n 3, 1) := by decide +kernel
theorem dX3_answer_23 : decode cX3_answer 23 = .ok (.ifCond .lt 8, 3) := by decide +kernel
theorem dX3_answer_26 : decode cX3_answer 26 = .ok (.iload_n 3, 1) := by decide +kernel
theorem dX3_answer_27 : decode cX3_answer 27 = .ok (.iconst 1, 1) := by decide +kernel
theorem dX3_answer_28 : decode cX3_answer 28 = .ok (.if_icmp .le 10, 3) := by decide +kernel
theorem dX3_answer_31 : decode cX3_answer 31 = .ok (.aload_n 0, 1) := by decide +kernel
theorem dX3_answer_32 : decode cX3_answer 32 = .ok (.bipush (-2), 2) := by decide +kernel
theorem dX3_answer_34 : decode cX3_answer 34 = .ok (.invokevirtual 47, 3) := by decide +kernel
theorem dX3_answer_37 : decode cX3_answer 37 = .ok (.ireturn, 1) := by decide +kernel
theorem dX3_answer_38 : decode cX3_answer 38 = .ok (.aload_n 0, 1) := by decide +kernel
theorem dX3_answer_39 : decode cX3_answer 39 = .ok (.bipush 99, 2) := by decide +kernel
theorem dX3_answer_41 : decode cX3_answer 41 = .ok (.invokevirtual 149, 3) := by decide +kernel
theorem dX3_answer_44 : decode cX3_answer 44 = .ok (.iload_n 3, 1) := by decide +kernel
theorem dX3_answer_45 : decode cX3_answer 45 = .ok (.ifCond .ne 15, 3) := by decide +kernel
theorem dX3_answer_48 : decode cX3_answer 48 = .ok (.aload_n 0, 1) := by decide +kernel
theorem dX3_answer_49 : decode cX3_answer 49 = .ok (.getfield 16, 3) := by decide +kernel
theorem dX3_answer_52 : decode cX3_answer 52 = .ok (.iload_n 1, 1) := by decide +kernel
theorem dX3_answer_53 : decode cX3_answer 53 = .ok (.iload_n 2, 1) := by decide +kernel
theorem dX3_answer_54 : decode cX3_answer 54 = .ok (.invokevirtual 121, 3) := by decide +kernel
theorem dX3_answer_57 : decode cX3_answer 57 = .ok (.goto 12, 3) := by decide +kernel
theorem dX3_answer_60 : decode cX3_answer 60 = .ok (.aload_n 0, 1) := by decide +kernel
theorem dX3_answer_61 : decode cX3_answer 61 = .ok (.getfield 16, 3) := by decide +kernel
theorem dX3_answer_64 : decode cX3_answer 64 = .ok (.iload_n 1, 1) := by decide +kernel
theorem dX3_answer_65 : decode cX3_answer 65 = .ok (.iload_n 2, 1) := by decide +kernel
theorem dX3_answer_66 : decode cX3_answer 66 = .ok (.invokevirtual 176, 3) := by decide +kernel
theorem dX3_answer_69 : decode cX3_answer 69 = .ok (.ireturn, 1) := by decide +kernel
theorem dX3_full_0 : decode cX3_full 0 = .ok (.iload_n 1, 1) := by decide +kernel
theorem dX3_full_1 : decode cX3_full 1 = .ok (.ifCond .ge 10, 3) := by decide +kernel
theorem dX3_full_4 : decode cX3_full 4 = .ok (.aload_n 0, 1) := by decide +kernel
theorem dX3_full_5 : decode cX3_full 5 = .ok (.bipush (-4), 2) := by decide +kernel
theorem dX3_full_7 : decode cX3_full 7 = .ok (.invokevirtual 47, 3) := by decide +kernel
theorem dX3_full_10 : decode cX3_full 10 = .ok (.ireturn, 1) := by decide +kernel
theorem dX3_full_11 : decode cX3_full 11 = .ok (.iload_n 1, 1) := by decide +kernel
theorem dX3_full_12 : decode cX3_full 12 = .ok (.bipush 99, 2) := by decide +kernel
theorem dX3_full_14 : decode cX3_full 14 = .ok (.if_icmp .le 10, 3) := by decide +kernel
theorem dX3_full_17 : decode cX3_full 17 = .ok (.aload_n 0, 1) := by decide +kernel
theorem dX3_full_18 : decode cX3_full 18 = .ok (.bipush (-6), 2) := by decide +kernel
theorem dX3_full_20 : decode cX3_full 20 = .ok (.invokevirtual 47, 3) := by decide +kernel
theorem dX3_full_23 : decode cX3_full 23 = .ok (.ireturn, 1) := by decide +kernel
theorem dX3_full_24 : decode cX3_full 24 = .ok (.iload_n 2, 1) := by decide +kernel
theorem dX3_full_25 : decode cX3_full 25 = .ok (.ifCond .lt 8, 3) := by decide +kernel
theorem dX3_full_28 : decode cX3_full 28 = .ok (.iload_n 2, 1) := by decide +kernel
theorem dX3_full_29 : decode cX3_full 29 = .ok (.iconst 2, 1) := by decide +kernel
theorem dX3_full_30 : decode cX3_full 30 = .ok (.if_icmp .le 10, 3) := by decide +kernel
theorem dX3_full_33 : decode cX3_full 33 = .ok (.aload_n 0, 1) := by decide +kernel
theorem dX3_full_34 : decode cX3_full 34 = .ok (.bipush (-2), 2) := by decide +kernel
theorem dX3_full_36 : decode cX3_full 36 = .ok (.invokevirtual 47, 3) := by decide +kernel
theorem dX3_full_39 : decode cX3_full 39 = .ok (.ireturn, 1) := by decide +kernel
theorem dX3_full_40 : decode cX3_full 40 = .ok (.aload_n 0, 1) := by decide +kernel
theorem dX3_full_41 : decode cX3_full 41 = .ok (.invokevirtual 161, 3) := by decide +kernel
theorem dX3_full_44 : decode cX3_full 44 = .ok (.aload_n 0, 1) := by decide +kernel
theorem dX3_full_45 : decode cX3_full 45 = .ok (.iload_n 1, 1) := by decide +kernel
theorem dX3_full_46 : decode cX3_full 46 = .ok (.iload_n 2, 1) := by decide +kernel
theorem dX3_full_47 : decode cX3_full 47 = .ok (.invokevirtual 179, 3) := by decide +kernel
theorem dX3_full_50 : decode cX3_full 50 = .ok (.ireturn, 1) := by decide +kernel
theorem dX3_right_0 : decode cX3_right 0 = .ok (.iload_n 1, 1) := by decide +kernel
theorem dX3_right_1 : decode cX3_right 1 = .ok (.ifCond .ge 10, 3) := by decide +kernel
theorem dX3_right_4 : decode cX3_right 4 = .ok (.aload_n 0, 1) := by decide +kernel
theorem dX3_right_5 : decode cX3_right 5 = .ok (.bipush (-4), 2) := by decide +kernel
theorem dX3_right_7 : decode cX3_right 7 = .ok (.invokevirtual 47, 3) := by decide +kernel
theorem dX3_right_10 : decode cX3_right 10 = .ok (.ireturn, 1) := by decide +kernel
theorem dX3_right_11 : decode cX3_right 11 = .ok (.iload_n 1, 1) := by decide +kernel
theorem dX3_right_12 : decode cX3_right 12 = .ok (.bipush 99, 2) := by decide +kernel
theorem dX3_right_14 : decode cX3_right 14 = .ok (.if_icmp .le 10, 3) := by decide +kernel
theorem dX3_right_17 : decode cX3_right 17 = .ok (.aload_n 0, 1) := by decide +kernel
theorem dX3_right_18 : decode cX3_right 18 = .ok (.bipush (-6), 2) := by decide +kernel
theorem dX3_right_20 : decode cX3_right 20 = .ok (.invokevirtual 47, 3) := by decide +kernel
theorem dX3_right_23 : decode cX3_right 23 = .ok (.ireturn, 1) := by decide +kernel
theorem dX3_right_24 : decode cX3_right 24 = .ok (.aload_n 0, 1) := by decide +kernel
theorem dX3_right_25 : decode cX3_right 25 = .ok (.iload_n 1, 1) := by decide +kernel
theorem dX3_right_26 : decode cX3_right 26 = .ok (.invokevirtual 149, 3) := by decide +kernel
theorem dX3_right_29 : decode cX3_right 29 = .ok (.aload_n 0, 1) := by decide +kernel
theorem dX3_right_30 : decode cX3_right 30 = .ok (.getfield 16, 3) := by decide +kernel
theorem dX3_right_33 : decode cX3_right 33 = .ok (.invokevirtual 146, 3) := by decide +kernel
theorem dX3_right_36 : decode cX3_right 36 = .ok (.ireturn, 1) := by decide +kernel
theorem dX3_bestFirst_0 : decode cX3_bestFirst 0 = .ok (.aload_n 0, 1) := by decide +kernel
theorem dX3_bestFirst_1 : decode cX3_bestFirst 1 = .ok (.iload_n 1, 1) := by decide +kernel
theorem dX3_bestFirst_2 : decode cX3_bestFirst 2 = .ok (.invokevirtual 100, 3) := by decide +kernel
theorem dX3_bestFirst_5 : decode cX3_bestFirst 5 = .ok (.ifCond .eq 9, 3) := by decide +kernel
theorem dX3_bestFirst_8 : decode cX3_bestFirst 8 = .ok (.aload_n 0, 1) := by decide +kernel
theorem dX3_bestFirst_9 : decode cX3_bestFirst 9 = .ok (.iconst (-1), 1) := by decide +kernel
theorem dX3_bestFirst_10 : decode cX3_bestFirst 10 = .ok (.invokevirtual 47, 3) := by decide +kernel
theorem dX3_bestFirst_13 : decode cX3_bestFirst 13 = .ok (.ireturn, 1) := by decide +kernel
theorem dX3_bestFirst_14 : decode cX3_bestFirst 14 = .ok (.iload_n 2, 1) := by decide +kernel
theorem dX3_bestFirst_15 : decode cX3_bestFirst 15 = .ok (.ifCond .lt 8, 3) := by decide +kernel
theorem dX3_bestFirst_18 : decode cX3_bestFirst 18 = .ok (.iload_n 2, 1) := by decide +kernel
theorem dX3_bestFirst_19 : decode cX3_bestFirst 19 = .ok (.iconst 1, 1) := by decide +kernel
theorem dX3_bestFirst_20 : decode cX3_bestFirst 20 = .ok (.if_icmp .le 10, 3) := by decide +kernel
theorem dX3_bestFirst_23 : decode cX3_bestFirst 23 = .ok (.aload_n 0, 1) := by decide +kernel
theorem dX3_bestFirst_24 : decode cX3_bestFirst 24 = .ok (.bipush (-2), 2) := by decide +kernel
theorem dX3_bestFirst_26 : decode cX3_bestFirst 26 = .ok (.invokevirtual 47, 3) := by decide +kernel
theorem dX3_bestFirst_29 : decode cX3_bestFirst 29 = .ok (.ireturn, 1) := by decide +kernel
theorem dX3_bestFirst_30 : decode cX3_bestFirst 30 = .ok (.iload_n 2, 1) := by decide +kernel
theorem dX3_bestFirst_31 : decode cX3_bestFirst 31 = .ok (.ifCond .ne 11, 3) := by decide +kernel
theorem dX3_bestFirst_34 : decode cX3_bestFirst 34 = .ok (.aload_n 0, 1) := by decide +kernel
theorem dX3_bestFirst_35 : decode cX3_bestFirst 35 = .ok (.iload_n 1, 1) := by decide +kernel
theorem dX3_bestFirst_36 : decode cX3_bestFirst 36 = .ok (.invokevirtual 182, 3) := by decide +kernel
theorem dX3_bestFirst_39 : decode cX3_bestFirst 39 = .ok (.goto 8, 3) := by decide +kernel
theorem dX3_bestFirst_42 : decode cX3_bestFirst 42 = .ok (.aload_n 0, 1) := by decide +kernel
theorem dX3_bestFirst_43 : decode cX3_bestFirst 43 = .ok (.iload_n 1, 1) := by decide +kernel
theorem dX3_bestFirst_44 : decode cX3_bestFirst 44 = .ok (.invokevirtual 185, 3) := by decide +kernel
theorem dX3_bestFirst_47 : decode cX3_bestFirst 47 = .ok (.ireturn, 1) := by decide +kernel
theorem dX3_apart_0 : decode cX3_apart 0 = .ok (.iload_n 1, 1) := by decide +kernel
theorem dX3_apart_1 : decode cX3_apart 1 = .ok (.iconst (-1), 1) := by decide +kernel
theorem dX3_apart_2 : decode cX3_apart 2 = .ok (.if_icmp .ge 10, 3) := by decide +kernel
theorem dX3_apart_5 : decode cX3_apart 5 = .ok (.aload_n 0, 1) := by decide +kernel
theorem dX3_apart_6 : decode cX3_apart 6 = .ok (.bipush (-4), 2) := by decide +kernel
theorem dX3_apart_8 : decode cX3_apart 8 = .ok (.invokevirtual 47, 3) := by decide +kernel
theorem dX3_apart_11 : decode cX3_apart 11 = .ok (.ireturn, 1) := by decide +kernel
theorem dX3_apart_12 : decode cX3_apart 12 = .ok (.iload_n 1, 1) := by decide +kernel
theorem dX3_apart_13 : decode cX3_apart 13 = .ok (.aload_n 0, 1) := by decide +kernel
theorem dX3_apart_14 : decode cX3_apart 14 = .ok (.getfield 10, 3) := by decide +kernel
theorem dX3_apart_17 : decode cX3_apart 17 = .ok (.getfield 188, 3) := by decide +kernel
theorem dX3_apart_20 : decode cX3_apart 20 = .ok (.if_icmp .lt 9, 3) := by decide +kernel
theorem dX3_apart_23 : decode cX3_apart 23 = .ok (.aload_n 0, 1) := by decide +kernel
theorem dX3_apart_24 : decode cX3_apart 24 = .ok (.iconst (-1), 1) := by decide +kernel
theorem dX3_apart_25 : decode cX3_apart 25 = .ok (.invokevirtual 47, 3) := by decide +kernel
theorem dX3_apart_28 : decode cX3_apart 28 = .ok (.ireturn, 1) := by decide +kernel
theorem dX3_apart_29 : decode cX3_apart 29 = .ok (.aload_n 0, 1) := by decide +kernel
theorem dX3_apart_30 : decode cX3_apart 30 = .ok (.getfield 10, 3) := by decide +kernel
theorem dX3_apart_33 : decode cX3_apart 33 = .ok (.getfield 188, 3) := by decide +kernel
theorem dX3_apart_36 : decode cX3_apart 36 = .ok (.iconst 3, 1) := by decide +kernel
theorem dX3_apart_37 : decode cX3_apart 37 = .ok (.if_icmp .le 10, 3) := by decide +kernel
theorem dX3_apart_40 : decode cX3_apart 40 = .ok (.aload_n 0, 1) := by decide +kernel
theorem dX3_apart_41 : decode cX3_apart 41 = .ok (.bipush (-3), 2) := by decide +kernel
theorem dX3_apart_43 : decode cX3_apart 43 = .ok (.invokevirtual 47, 3) := by decide +kernel
theorem dX3_apart_46 : decode cX3_apart 46 = .ok (.ireturn, 1) := by decide +kernel
theorem dX3_apart_47 : decode cX3_apart 47 = .ok (.aload_n 0, 1) := by decide +kernel
theorem dX3_apart_48 : decode cX3_apart 48 = .ok (.invokevirtual 191, 3) := by decide +kernel
theorem dX3_apart_51 : decode cX3_apart 51 = .ok (.istore_n 2, 1) := by decide +kernel
theorem dX3_apart_52 : decode cX3_apart 52 = .ok (.iload_n 1, 1) := by decide +kernel
theorem dX3_apart_53 : decode cX3_apart 53 = .ok (.ifCond .lt 10, 3) := by decide +kernel
theorem dX3_apart_56 : decode cX3_apart 56 = .ok (.aload_n 0, 1) := by decide +kernel
theorem dX3_apart_57 : decode cX3_apart 57 = .ok (.iload_n 2, 1) := by decide +kernel
theorem dX3_apart_58 : decode cX3_apart 58 = .ok (.iload_n 1, 1) := by decide +kernel
theorem dX3_apart_59 : decode cX3_apart 59 = .ok (.invokevirtual 194, 3) := by decide +kernel
theorem dX3_apart_62 : decode cX3_apart 62 = .ok (.ireturn, 1) := by decide +kernel
theorem dX3_apart_63 : decode cX3_apart 63 = .ok (.aload_n 0, 1) := by decide +kernel
theorem dX3_apart_64 : decode cX3_apart 64 = .ok (.iload_n 2, 1) := by decide +kernel
theorem dX3_apart_65 : decode cX3_apart 65 = .ok (.invokevirtual 197, 3) := by decide +kernel
theorem dX3_apart_68 : decode cX3_apart 68 = .ok (.ireturn, 1) := by decide +kernel
theorem dX3_leave_0 : decode cX3_leave 0 = .ok (.bipush (-9), 2) := by decide +kernel
theorem dX3_leave_2 : decode cX3_leave 2 = .ok (.istore_n 1, 1) := by decide +kernel
theorem dX3_leave_3 : decode cX3_leave 3 = .ok (.bipush 100, 2) := by decide +kernel
theorem dX3_leave_5 : decode cX3_leave 5 = .ok (.istore_n 2, 1) := by decide +kernel
theorem dX3_leave_6 : decode cX3_leave 6 = .ok (.iconst 0, 1) := by decide +kernel
theorem dX3_leave_7 : decode cX3_leave 7 = .ok (.istore_n 3, 1) := by decide +kernel
theorem dX3_leave_8 : decode cX3_leave 8 = .ok (.iload_n 3, 1) := by decide +kernel
theorem dX3_leave_9 : decode cX3_leave 9 = .ok (.aload_n 0, 1) := by decide +kernel
theorem dX3_leave_10 : decode cX3_leave 10 = .ok (.getfield 10, 3) := by decide +kernel
theorem dX3_leave_13 : decode cX3_leave 13 = .ok (.getfield 200, 3) := by decide +kernel
theorem dX3_leave_16 : decode cX3_leave 16 = .ok (.if_icmp .ge 38, 3) := by decide +kernel
theorem dX3_leave_19 : decode cX3_leave 19 = .ok (.aload_n 0, 1) := by decide +kernel
theorem dX3_leave_20 : decode cX3_leave 20 = .ok (.invokevirtual 161, 3) := by decide +kernel
theorem dX3_leave_23 : decode cX3_leave 23 = .ok (.aload_n 0, 1) := by decide +kernel
theorem dX3_leave_24 : decode cX3_leave 24 = .ok (.getfield 16, 3) := by decide +kernel
theorem dX3_leave_27 : decode cX3_leave 27 = .ok (.iload_n 3, 1) := by decide +kernel
theorem dX3_leave_28 : decode cX3_leave 28 = .ok (.invokevirtual 203, 3) := by decide +kernel
theorem dX3_leave_31 : decode cX3_leave 31 = .ok (.aload_n 0, 1) := by decide +kernel
theorem dX3_leave_32 : decode cX3_leave 32 = .ok (.invokevirtual 173, 3) := by decide +kernel
theorem dX3_leave_35 : decode cX3_leave 35 = .ok (.istore 4, 2) := by decide +kernel
theorem dX3_leave_37 : decode cX3_leave 37 = .ok (.iload 4, 2) := by decide +kernel
theorem dX3_leave_39 : decode cX3_leave 39 = .ok (.iload_n 2, 1) := by decide +kernel
theorem dX3_leave_40 : decode cX3_leave 40 = .ok (.if_icmp .ge 8, 3) := by decide +kernel
theorem dX3_leave_43 : decode cX3_leave 43 = .ok (.iload 4, 2) := by decide +kernel
theorem dX3_leave_45 : decode cX3_leave 45 = .ok (.istore_n 2, 1) := by decide +kernel
theorem dX3_leave_46 : decode cX3_leave 46 = .ok (.iload_n 3, 1) := by decide +kernel
theorem dX3_leave_47 : decode cX3_leave 47 = .ok (.istore_n 1, 1) := by decide +kernel
theorem dX3_leave_48 : decode cX3_leave 48 = .ok (.iinc 3 1, 3) := by decide +kernel
theorem dX3_leave_51 : decode cX3_leave 51 = .ok (.goto (-43), 3) := by decide +kernel
theorem dX3_leave_54 : decode cX3_leave 54 = .ok (.iload_n 1, 1) := by decide +kernel
theorem dX3_leave_55 : decode cX3_leave 55 = .ok (.ireturn, 1) := by decide +kernel
theorem dX3_tell_0 : decode cX3_tell 0 = .ok (.iload_n 1, 1) := by decide +kernel
theorem dX3_tell_1 : decode cX3_tell 1 = .ok (.ifCond .ge 10, 3) := by decide +kernel
theorem dX3_tell_4 : decode cX3_tell 4 = .ok (.aload_n 0, 1) := by decide +kernel
theorem dX3_tell_5 : decode cX3_tell 5 = .ok (.bipush (-4), 2) := by decide +kernel
theorem dX3_tell_7 : decode cX3_tell 7 = .ok (.invokevirtual 47, 3) := by decide +kernel
theorem dX3_tell_10 : decode cX3_tell 10 = .ok (.ireturn, 1) := by decide +kernel
theorem dX3_tell_11 : decode cX3_tell 11 = .ok (.iload_n 1, 1) := by decide +kernel
theorem dX3_tell_12 : decode cX3_tell 12 = .ok (.bipush 99, 2) := by decide +kernel
theorem dX3_tell_14 : decode cX3_tell 14 = .ok (.if_icmp .le 10, 3) := by decide +kernel
theorem dX3_tell_17 : decode cX3_tell 17 = .ok (.aload_n 0, 1) := by decide +kernel
theorem dX3_tell_18 : decode cX3_tell 18 = .ok (.bipush (-6), 2) := by decide +kernel
theorem dX3_tell_20 : decode cX3_tell 20 = .ok (.invokevirtual 47, 3) := by decide +kernel
theorem dX3_tell_23 : decode cX3_tell 23 = .ok (.ireturn, 1) := by decide +kernel
theorem dX3_tell_24 : decode cX3_tell 24 = .ok (.aload_n 0, 1) := by decide +kernel
theorem dX3_tell_25 : decode cX3_tell 25 = .ok (.iload_n 1, 1) := by decide +kernel
theorem dX3_tell_26 : decode cX3_tell 26 = .ok (.invokevirtual 149, 3) := by decide +kernel
theorem dX3_tell_29 : decode cX3_tell 29 = .ok (.aload_n 0, 1) := by decide +kernel
theorem dX3_tell_30 : decode cX3_tell 30 = .ok (.getfield 16, 3) := by decide +kernel
theorem dX3_tell_33 : decode cX3_tell 33 = .ok (.invokevirtual 146, 3) := by decide +kernel
theorem dX3_tell_36 : decode cX3_tell 36 = .ok (.istore_n 2, 1) := by decide +kernel
theorem dX3_tell_37 : decode cX3_tell 37 = .ok (.bipush (-9), 2) := by decide +kernel
theorem dX3_tell_39 : decode cX3_tell 39 = .ok (.istore_n 3, 1) := by decide +kernel
theorem dX3_tell_40 : decode cX3_tell 40 = .ok (.iconst 0, 1) := by decide +kernel
theorem dX3_tell_41 : decode cX3_tell 41 = .ok (.istore 4, 2) := by decide +kernel
theorem dX3_tell_43 : decode cX3_tell 43 = .ok (.iload 4, 2) := by decide +kernel
theorem dX3_tell_45 : decode cX3_tell 45 = .ok (.aload_n 0, 1) := by decide +kernel
theorem dX3_tell_46 : decode cX3_tell 46 = .ok (.getfield 10, 3) := by decide +kernel
theorem dX3_tell_49 : decode cX3_tell 49 = .ok (.getfield 200, 3) := by decide +kernel
theorem dX3_tell_52 : decode cX3_tell 52 = .ok (.if_icmp .ge 54, 3) := by decide +kernel
theorem dX3_tell_55 : decode cX3_tell 55 = .ok (.aload_n 0, 1) := by decide +kernel
theorem dX3_tell_56 : decode cX3_tell 56 = .ok (.invokevirtual 161, 3) := by decide +kernel
theorem dX3_tell_59 : decode cX3_tell 59 = .ok (.aload_n 0, 1) := by decide +kernel
theorem dX3_tell_60 : decode cX3_tell 60 = .ok (.getfield 16, 3) := by decide +kernel
theorem dX3_tell_63 : decode cX3_tell 63 = .ok (.getfield 85, 3) := by decide +kernel
theorem dX3_tell_66 : decode cX3_tell 66 = .ok (.iload 4, 2) := by decide +kernel
theorem dX3_tell_68 : decode cX3_tell 68 = .ok (.iconst 5, 1) := by decide +kernel
theorem dX3_tell_69 : decode cX3_tell 69 = .ok (.iastore, 1) := by decide +kernel
theorem dX3_tell_70 : decode cX3_tell 70 = .ok (.aload_n 0, 1) := by decide +kernel
theorem dX3_tell_71 : decode cX3_tell 71 = .ok (.getfield 16, 3) := by decide +kernel
theorem dX3_tell_74 : decode cX3_tell 74 = .ok (.iload_n 1, 1) := by decide +kernel
theorem dX3_tell_75 : decode cX3_tell 75 = .ok (.invokevirtual 142, 3) := by decide +kernel
theorem dX3_tell_78 : decode cX3_tell 78 = .ok (.aload_n 0, 1) := by decide +kernel
theorem dX3_tell_79 : decode cX3_tell 79 = .ok (.getfield 16, 3) := by decide +kernel
theorem dX3_tell_82 : decode cX3_tell 82 = .ok (.invokevirtual 146, 3) := by decide +kernel
theorem dX3_tell_85 : decode cX3_tell 85 = .ok (.iload_n 2, 1) := by decide +kernel
theorem dX3_tell_86 : decode cX3_tell 86 = .ok (.if_icmp .le 14, 3) := by decide +kernel
theorem dX3_tell_89 : decode cX3_tell 89 = .ok (.aload_n 0, 1) := by decide +kernel
theorem dX3_tell_90 : decode cX3_tell 90 = .ok (.getfield 16, 3) := by decide +kernel
theorem dX3_tell_93 : decode cX3_tell 93 = .ok (.invokevirtual 146, 3) := by decide +kernel
theorem dX3_tell_96 : decode cX3_tell 96 = .ok (.istore_n 2, 1) := by decide +kernel
theorem dX3_tell_97 : decode cX3_tell 97 = .ok (.iload 4, 2) := by decide +kernel
theorem dX3_tell_99 : decode cX3_tell 99 = .ok (.istore_n 3, 1) := by decide +kernel
theorem dX3_tell_100 : decode cX3_tell 100 = .ok (.iinc 4 1, 3) := by decide +kernel
theorem dX3_tell_103 : decode cX3_tell 103 = .ok (.goto (-60), 3) := by decide +kernel
theorem dX3_tell_106 : decode cX3_tell 106 = .ok (.iload_n 3, 1) := by decide +kernel
theorem dX3_tell_107 : decode cX3_tell 107 = .ok (.ireturn, 1) := by decide +kernel
theorem dX3_spreads_0 : decode cX3_spreads 0 = .ok (.aload_n 0, 1) := by decide +kernel
theorem dX3_spreads_1 : decode cX3_spreads 1 = .ok (.iload_n 1, 1) := by decide +kernel
theorem dX3_spreads_2 : decode cX3_spreads 2 = .ok (.invokevirtual 100, 3) := by decide +kernel
theorem dX3_spreads_5 : decode cX3_spreads 5 = .ok (.ifCond .ne 11, 3) := by decide +kernel
theorem dX3_spreads_8 : decode cX3_spreads 8 = .ok (.aload_n 0, 1) := by decide +kernel
theorem dX3_spreads_9 : decode cX3_spreads 9 = .ok (.iload_n 2, 1) := by decide +kernel
theorem dX3_spreads_10 : decode cX3_spreads 10 = .ok (.invokevirtual 82, 3) := by decide +kernel
theorem dX3_spreads_13 : decode cX3_spreads 13 = .ok (.ifCond .eq 9, 3) := by decide +kernel
theorem dX3_spreads_16 : decode cX3_spreads 16 = .ok (.aload_n 0, 1) := by decide +kernel
theorem dX3_spreads_17 : decode cX3_spreads 17 = .ok (.iconst (-1), 1) := by decide +kernel
theorem dX3_spreads_18 : decode cX3_spreads 18 = .ok (.invokevirtual 47, 3) := by decide +kernel
theorem dX3_spreads_21 : decode cX3_spreads 21 = .ok (.ireturn, 1) := by decide +kernel
theorem dX3_spreads_22 : decode cX3_spreads 22 = .ok (.aload_n 0, 1) := by decide +kernel
theorem dX3_spreads_23 : decode cX3_spreads 23 = .ok (.getfield 10, 3) := by decide +kernel
theorem dX3_spreads_26 : decode cX3_spreads 26 = .ok (.iload_n 1, 1) := by decide +kernel
theorem dX3_spreads_27 : decode cX3_spreads 27 = .ok (.iload_n 2, 1) := by decide +kernel
theorem dX3_spreads_28 : decode cX3_spreads 28 = .ok (.invokevirtual 121, 3) := by decide +kernel
theorem dX3_spreads_31 : decode cX3_spreads 31 = .ok (.bipush (-9), 2) := by decide +kernel
theorem dX3_spreads_33 : decode cX3_spreads 33 = .ok (.if_icmp .eq 10, 3) := by decide +kernel
theorem dX3_spreads_36 : decode cX3_spreads 36 = .ok (.aload_n 0, 1) := by decide +kernel
theorem dX3_spreads_37 : decode cX3_spreads 37 = .ok (.bipush (-3), 2) := by decide +kernel
theorem dX3_spreads_39 : decode cX3_spreads 39 = .ok (.invokevirtual 47, 3) := by decide +kernel
theorem dX3_spreads_42 : decode cX3_spreads 42 = .ok (.ireturn, 1) := by decide +kernel
theorem dX3_spreads_43 : decode cX3_spreads 43 = .ok (.aload_n 0, 1) := by decide +kernel
theorem dX3_spreads_44 : decode cX3_spreads 44 = .ok (.getfield 10, 3) := by decide +kernel
theorem dX3_spreads_47 : decode cX3_spreads 47 = .ok (.getfield 94, 3) := by decide +kernel
theorem dX3_spreads_50 : decode cX3_spreads 50 = .ok (.iload_n 2, 1) := by decide +kernel
theorem dX3_spreads_51 : decode cX3_spreads 51 = .ok (.iaload, 1) := by decide +kernel
theorem dX3_spreads_52 : decode cX3_spreads 52 = .ok (.iconst 1, 1) := by decide +kernel
theorem dX3_spreads_53 : decode cX3_spreads 53 = .ok (.iadd, 1) := by decide +kernel
theorem dX3_spreads_54 : decode cX3_spreads 54 = .ok (.bipush 10, 2) := by decide +kernel
theorem dX3_spreads_56 : decode cX3_spreads 56 = .ok (.irem, 1) := by decide +kernel
theorem dX3_spreads_57 : decode cX3_spreads 57 = .ok (.istore_n 3, 1) := by decide +kernel
theorem dX3_spreads_58 : decode cX3_spreads 58 = .ok (.aload_n 0, 1) := by decide +kernel
theorem dX3_spreads_59 : decode cX3_spreads 59 = .ok (.invokevirtual 161, 3) := by decide +kernel
theorem dX3_spreads_62 : decode cX3_spreads 62 = .ok (.aload_n 0, 1) := by decide +kernel
theorem dX3_spreads_63 : decode cX3_spreads 63 = .ok (.getfield 16, 3) := by decide +kernel
theorem dX3_spreads_66 : decode cX3_spreads 66 = .ok (.iload_n 1, 1) := by decide +kernel
theorem dX3_spreads_67 : decode cX3_spreads 67 = .ok (.iload_n 2, 1) := by decide +kernel
theorem dX3_spreads_68 : decode cX3_spreads 68 = .ok (.iload_n 3, 1) := by decide +kernel
theorem dX3_spreads_69 : decode cX3_spreads 69 = .ok (.invokevirtual 135, 3) := by decide +kernel
theorem dX3_spreads_72 : decode cX3_spreads 72 = .ok (.aload_n 0, 1) := by decide +kernel
theorem dX3_spreads_73 : decode cX3_spreads 73 = .ok (.getfield 16, 3) := by decide +kernel
theorem dX3_spreads_76 : decode cX3_spreads 76 = .ok (.bipush 99, 2) := by decide +kernel
theorem dX3_spreads_78 : decode cX3_spreads 78 = .ok (.invokevirtual 142, 3) := by decide +kernel
theorem dX3_spreads_81 : decode cX3_spreads 81 = .ok (.iconst 0, 1) := by decide +kernel
theorem dX3_spreads_82 : decode cX3_spreads 82 = .ok (.istore 4, 2) := by decide +kernel
theorem dX3_spreads_84 : decode cX3_spreads 84 = .ok (.iconst 0, 1) := by decide +kernel
theorem dX3_spreads_85 : decode cX3_spreads 85 = .ok (.istore 5, 2) := by decide +kernel
theorem dX3_spreads_87 : decode cX3_spreads 87 = .ok (.iload 5, 2) := by decide +kernel
theorem dX3_spreads_89 : decode cX3_spreads 89 = .ok (.aload_n 0, 1) := by decide +kernel
theorem dX3_spreads_90 : decode cX3_spreads 90 = .ok (.getfield 16, 3) := by decide +kernel
theorem dX3_spreads_93 : decode cX3_spreads 93 = .ok (.getfield 188, 3) := by decide +kernel
theorem dX3_spreads_96 : decode cX3_spreads 96 = .ok (.if_icmp .ge 33, 3) := by decide +kernel
theorem dX3_spreads_99 : decode cX3_spreads 99 = .ok (.iload 4, 2) := by decide +kernel
theorem dX3_spreads_101 : decode cX3_spreads 101 = .ok (.aload_n 0, 1) := by decide +kernel
theorem dX3_spreads_102 : decode cX3_spreads 102 = .ok (.getfield 16, 3) := by decide +kernel
theorem dX3_spreads_105 : decode cX3_spreads 105 = .ok (.iload 5, 2) := by decide +kernel
theorem dX3_spreads_107 : decode cX3_spreads 107 = .ok (.iload_n 2, 1) := by decide +kernel
theorem dX3_spreads_108 : decode cX3_spreads 108 = .ok (.invokevirtual 121, 3) := by decide +kernel
theorem dX3_spreads_111 : decode cX3_spreads 111 = .ok (.iload_n 3, 1) := by decide +kernel
theorem dX3_spreads_112 : decode cX3_spreads 112 = .ok (.if_icmp .ne 7, 3) := by decide +kernel
theorem dX3_spreads_115 : decode cX3_spreads 115 = .ok (.iconst 1, 1) := by decide +kernel
theorem dX3_spreads_116 : decode cX3_spreads 116 = .ok (.goto 4, 3) := by decide +kernel
theorem dX3_spreads_119 : decode cX3_spreads 119 = .ok (.iconst 0, 1) := by decide +kernel
theorem dX3_spreads_120 : decode cX3_spreads 120 = .ok (.iadd, 1) := by decide +kernel
theorem dX3_spreads_121 : decode cX3_spreads 121 = .ok (.istore 4, 2) := by decide +kernel
theorem dX3_spreads_123 : decode cX3_spreads 123 = .ok (.iinc 5 1, 3) := by decide +kernel
theorem dX3_spreads_126 : decode cX3_spreads 126 = .ok (.goto (-39), 3) := by decide +kernel
theorem dX3_spreads_129 : decode cX3_spreads 129 = .ok (.iload 4, 2) := by decide +kernel
theorem dX3_spreads_131 : decode cX3_spreads 131 = .ok (.ireturn, 1) := by decide +kernel
theorem dX3_missing_0 : decode cX3_missing 0 = .ok (.iload_n 1, 1) := by decide +kernel
theorem dX3_missing_1 : decode cX3_missing 1 = .ok (.ifCond .lt 7, 3) := by decide +kernel
theorem dX3_missing_4 : decode cX3_missing 4 = .ok (.iload_n 2, 1) := by decide +kernel
theorem dX3_missing_5 : decode cX3_missing 5 = .ok (.ifCond .ge 10, 3) := by decide +kernel
theorem dX3_missing_8 : decode cX3_missing 8 = .ok (.aload_n 0, 1) := by decide +kernel
theorem dX3_missing_9 : decode cX3_missing 9 = .ok (.bipush (-4), 2) := by decide +kernel
theorem dX3_missing_11 : decode cX3_missing 11 = .ok (.invokevirtual 47, 3) := by decide +kernel
theorem dX3_missing_14 : decode cX3_missing 14 = .ok (.ireturn, 1) := by decide +kernel
theorem dX3_missing_15 : decode cX3_missing 15 = .ok (.iload_n 1, 1) := by decide +kernel
theorem dX3_missing_16 : decode cX3_missing 16 = .ok (.bipush 99, 2) := by decide +kernel
theorem dX3_missing_18 : decode cX3_missing 18 = .ok (.if_icmp .gt 9, 3) := by decide +kernel
theorem dX3_missing_21 : decode cX3_missing 21 = .ok (.iload_n 2, 1) := by decide +kernel
theorem dX3_missing_22 : decode cX3_missing 22 = .ok (.bipush 9, 2) := by decide +kernel
theorem dX3_missing_24 : decode cX3_missing 24 = .ok (.if_icmp .le 10, 3) := by decide +kernel
theorem dX3_missing_27 : decode cX3_missing 27 = .ok (.aload_n 0, 1) := by decide +kernel
theorem dX3_missing_28 : decode cX3_missing 28 = .ok (.bipush (-6), 2) := by decide +kernel
theorem dX3_missing_30 : decode cX3_missing 30 = .ok (.invokevirtual 47, 3) := by decide +kernel
theorem dX3_missing_33 : decode cX3_missing 33 = .ok (.ireturn, 1) := by decide +kernel
theorem dX3_missing_34 : decode cX3_missing 34 = .ok (.aload_n 0, 1) := by decide +kernel
theorem dX3_missing_35 : decode cX3_missing 35 = .ok (.iload_n 1, 1) := by decide +kernel
theorem dX3_missing_36 : decode cX3_missing 36 = .ok (.invokevirtual 149, 3) := by decide +kernel
theorem dX3_missing_39 : decode cX3_missing 39 = .ok (.iconst 0, 1) := by decide +kernel
theorem dX3_missing_40 : decode cX3_missing 40 = .ok (.istore_n 3, 1) := by decide +kernel
theorem dX3_missing_41 : decode cX3_missing 41 = .ok (.iconst 0, 1) := by decide +kernel
theorem dX3_missing_42 : decode cX3_missing 42 = .ok (.istore 4, 2) := by decide +kernel
theorem dX3_missing_44 : decode cX3_missing 44 = .ok (.iload 4, 2) := by decide +kernel
theorem dX3_missing_46 : decode cX3_missing 46 = .ok (.aload_n 0, 1) := by decide +kernel
theorem dX3_missing_47 : decode cX3_missing 47 = .ok (.getfield 16, 3) := by decide +kernel
theorem dX3_missing_50 : decode cX3_missing 50 = .ok (.getfield 188, 3) := by decide +kernel
theorem dX3_missing_53 : decode cX3_missing 53 = .ok (.if_icmp .ge 52, 3) := by decide +kernel
theorem dX3_missing_56 : decode cX3_missing 56 = .ok (.aload_n 0, 1) := by decide +kernel
theorem dX3_missing_57 : decode cX3_missing 57 = .ok (.getfield 16, 3) := by decide +kernel
theorem dX3_missing_60 : decode cX3_missing 60 = .ok (.getfield 72, 3) := by decide +kernel
theorem dX3_missing_63 : decode cX3_missing 63 = .ok (.aload_n 0, 1) := by decide +kernel
theorem dX3_missing_64 : decode cX3_missing 64 = .ok (.getfield 16, 3) := by decide +kernel
theorem dX3_missing_67 : decode cX3_missing 67 = .ok (.getfield 112, 3) := by decide +kernel
theorem dX3_missing_70 : decode cX3_missing 70 = .ok (.iload 4, 2) := by decide +kernel
theorem dX3_missing_72 : decode cX3_missing 72 = .ok (.iaload, 1) := by decide +kernel
theorem dX3_missing_73 : decode cX3_missing 73 = .ok (.iconst 0, 1) := by decide +kernel
theorem dX3_missing_74 : decode cX3_missing 74 = .ok (.invokevirtual 76, 3) := by decide +kernel
theorem dX3_missing_77 : decode cX3_missing 77 = .ok (.istore 5, 2) := by decide +kernel
theorem dX3_missing_79 : decode cX3_missing 79 = .ok (.iload 5, 2) := by decide +kernel
theorem dX3_missing_81 : decode cX3_missing 81 = .ok (.bipush (-9), 2) := by decide +kernel
theorem dX3_missing_83 : decode cX3_missing 83 = .ok (.if_icmp .eq 9, 3) := by decide +kernel
theorem dX3_missing_86 : decode cX3_missing 86 = .ok (.iload 5, 2) := by decide +kernel
theorem dX3_missing_88 : decode cX3_missing 88 = .ok (.iload_n 2, 1) := by decide +kernel
theorem dX3_missing_89 : decode cX3_missing 89 = .ok (.if_icmp .le 10, 3) := by decide +kernel
theorem dX3_missing_92 : decode cX3_missing 92 = .ok (.iload_n 3, 1) := by decide +kernel
theorem dX3_missing_93 : decode cX3_missing 93 = .ok (.iconst 1, 1) := by decide +kernel
theorem dX3_missing_94 : decode cX3_missing 94 = .ok (.iload 4, 2) := by decide +kernel
theorem dX3_missing_96 : decode cX3_missing 96 = .ok (.ishl, 1) := by decide +kernel
theorem dX3_missing_97 : decode cX3_missing 97 = .ok (.ior, 1) := by decide +kernel
theorem dX3_missing_98 : decode cX3_missing 98 = .ok (.istore_n 3, 1) := by decide +kernel
theorem dX3_missing_99 : decode cX3_missing 99 = .ok (.iinc 4 1, 3) := by decide +kernel
theorem dX3_missing_102 : decode cX3_missing 102 = .ok (.goto (-58), 3) := by decide +kernel
theorem dX3_missing_105 : decode cX3_missing 105 = .ok (.iload_n 3, 1) := by decide +kernel
theorem dX3_missing_106 : decode cX3_missing 106 = .ok (.ireturn, 1) := by decide +kernel
theorem dX3_worth_0 : decode cX3_worth 0 = .ok (.aload_n 0, 1) := by decide +kernel
theorem dX3_worth_1 : decode cX3_worth 1 = .ok (.iload_n 1, 1) := by decide +kernel
theorem dX3_worth_2 : decode cX3_worth 2 = .ok (.invokevirtual 82, 3) := by decide +kernel
theorem dX3_worth_5 : decode cX3_worth 5 = .ok (.ifCond .eq 12, 3) := by decide +kernel
theorem dX3_worth_8 : decode cX3_worth 8 = .ok (.ldc 206, 2) := by decide +kernel
theorem dX3_worth_10 : decode cX3_worth 10 = .ok (.aload_n 0, 1) := by decide +kernel
theorem dX3_worth_11 : decode cX3_worth 11 = .ok (.iconst (-1), 1) := by decide +kernel
theorem dX3_worth_12 : decode cX3_worth 12 = .ok (.invokevirtual 47, 3) := by decide +kernel
theorem dX3_worth_15 : decode cX3_worth 15 = .ok (.isub, 1) := by decide +kernel
theorem dX3_worth_16 : decode cX3_worth 16 = .ok (.ireturn, 1) := by decide +kernel
theorem dX3_worth_17 : decode cX3_worth 17 = .ok (.aload_n 0, 1) := by decide +kernel
theorem dX3_worth_18 : decode cX3_worth 18 = .ok (.invokevirtual 161, 3) := by decide +kernel
theorem dX3_worth_21 : decode cX3_worth 21 = .ok (.aload_n 0, 1) := by decide +kernel
theorem dX3_worth_22 : decode cX3_worth 22 = .ok (.invokevirtual 207, 3) := by decide +kernel
theorem dX3_worth_25 : decode cX3_worth 25 = .ok (.istore_n 2, 1) := by decide +kernel
theorem dX3_worth_26 : decode cX3_worth 26 = .ok (.aload_n 0, 1) := by decide +kernel
theorem dX3_worth_27 : decode cX3_worth 27 = .ok (.invokevirtual 161, 3) := by decide +kernel
theorem dX3_worth_30 : decode cX3_worth 30 = .ok (.aload_n 0, 1) := by decide +kernel
theorem dX3_worth_31 : decode cX3_worth 31 = .ok (.getfield 16, 3) := by decide +kernel
theorem dX3_worth_34 : decode cX3_worth 34 = .ok (.iload_n 1, 1) := by decide +kernel
theorem dX3_worth_35 : decode cX3_worth 35 = .ok (.invokevirtual 203, 3) := by decide +kernel
theorem dX3_worth_38 : decode cX3_worth 38 = .ok (.iload_n 2, 1) := by decide +kernel
theorem dX3_worth_39 : decode cX3_worth 39 = .ok (.aload_n 0, 1) := by decide +kernel
theorem dX3_worth_40 : decode cX3_worth 40 = .ok (.invokevirtual 207, 3) := by decide +kernel
theorem dX3_worth_43 : decode cX3_worth 43 = .ok (.isub, 1) := by decide +kernel
theorem dX3_worth_44 : decode cX3_worth 44 = .ok (.ireturn, 1) := by decide +kernel
theorem dX3_two_0 : decode cX3_two 0 = .ok (.aload_n 0, 1) := by decide +kernel
theorem dX3_two_1 : decode cX3_two 1 = .ok (.iload_n 1, 1) := by decide +kernel
theorem dX3_two_2 : decode cX3_two 2 = .ok (.invokevirtual 100, 3) := by decide +kernel
theorem dX3_two_5 : decode cX3_two 5 = .ok (.ifCond .ne 16, 3) := by decide +kernel
theorem dX3_two_8 : decode cX3_two 8 = .ok (.aload_n 0, 1) := by decide +kernel
theorem dX3_two_9 : decode cX3_two 9 = .ok (.iload_n 2, 1) := by decide +kernel
theorem dX3_two_10 : decode cX3_two 10 = .ok (.invokevirtual 100, 3) := by decide +kernel
theorem dX3_two_13 : decode cX3_two 13 = .ok (.ifCond .ne 8, 3) := by decide +kernel
theorem dX3_two_16 : decode cX3_two 16 = .ok (.iload_n 1, 1) := by decide +kernel
theorem dX3_two_17 : decode cX3_two 17 = .ok (.iload_n 2, 1) := by decide +kernel
theorem dX3_two_18 : decode cX3_two 18 = .ok (.if_icmp .ne 9, 3) := by decide +kernel
theorem dX3_two_21 : decode cX3_two 21 = .ok (.aload_n 0, 1) := by decide +kernel
theorem dX3_two_22 : decode cX3_two 22 = .ok (.iconst (-1), 1) := by decide +kernel
theorem dX3_two_23 : decode cX3_two 23 = .ok (.invokevirtual 47, 3) := by decide +kernel
theorem dX3_two_26 : decode cX3_two 26 = .ok (.ireturn, 1) := by decide +kernel
theorem dX3_two_27 : decode cX3_two 27 = .ok (.iconst 0, 1) := by decide +kernel
theorem dX3_two_28 : decode cX3_two 28 = .ok (.istore_n 3, 1) := by decide +kernel
theorem dX3_two_29 : decode cX3_two 29 = .ok (.iload_n 3, 1) := by decide +kernel
theorem dX3_two_30 : decode cX3_two 30 = .ok (.iconst 2, 1) := by decide +kernel
theorem dX3_two_31 : decode cX3_two 31 = .ok (.if_icmp .ge 56, 3) := by decide +kernel
theorem dX3_two_34 : decode cX3_two 34 = .ok (.iconst 0, 1) := by decide +kernel
theorem dX3_two_35 : decode cX3_two 35 = .ok (.istore 4, 2) := by decide +kernel
theorem dX3_two_37 : decode cX3_two 37 = .ok (.iload 4, 2) := by decide +kernel
theorem dX3_two_39 : decode cX3_two 39 = .ok (.iconst 2, 1) := by decide +kernel
theorem dX3_two_40 : decode cX3_two 40 = .ok (.if_icmp .ge 41, 3) := by decide +kernel
theorem dX3_two_43 : decode cX3_two 43 = .ok (.aload_n 0, 1) := by decide +kernel
theorem dX3_two_44 : decode cX3_two 44 = .ok (.iload_n 1, 1) := by decide +kernel
theorem dX3_two_45 : decode cX3_two 45 = .ok (.iload_n 3, 1) := by decide +kernel
theorem dX3_two_46 : decode cX3_two 46 = .ok (.iload_n 2, 1) := by decide +kernel
theorem dX3_two_47 : decode cX3_two 47 = .ok (.iload 4, 2) := by decide +kernel
theorem dX3_two_49 : decode cX3_two 49 = .ok (.invokevirtual 210, 3) := by decide +kernel
theorem dX3_two_52 : decode cX3_two 52 = .ok (.ifCond .eq 23, 3) := by decide +kernel
theorem dX3_two_55 : decode cX3_two 55 = .ok (.aload_n 0, 1) := by decide +kernel
theorem dX3_two_56 : decode cX3_two 56 = .ok (.iload_n 2, 1) := by decide +kernel
theorem dX3_two_57 : decode cX3_two 57 = .ok (.iload 4, 2) := by decide +kernel
theorem dX3_two_59 : decode cX3_two 59 = .ok (.iload_n 1, 1) := by decide +kernel
theorem dX3_two_60 : decode cX3_two 60 = .ok (.iload_n 3, 1) := by decide +kernel
theorem dX3_two_61 : decode cX3_two 61 = .ok (.invokevirtual 210, 3) := by decide +kernel
theorem dX3_two_64 : decode cX3_two 64 = .ok (.ifCond .eq 11, 3) := by decide +kernel
theorem dX3_two_67 : decode cX3_two 67 = .ok (.bipush 10, 2) := by decide +kernel
theorem dX3_two_69 : decode cX3_two 69 = .ok (.iload_n 3, 1) := by decide +kernel
theorem dX3_two_70 : decode cX3_two 70 = .ok (.imul, 1) := by decide +kernel
theorem dX3_two_71 : decode cX3_two 71 = .ok (.iload 4, 2) := by decide +kernel
theorem dX3_two_73 : decode cX3_two 73 = .ok (.iadd, 1) := by decide +kernel
theorem dX3_two_74 : decode cX3_two 74 = .ok (.ireturn, 1) := by decide +kernel
theorem dX3_two_75 : decode cX3_two 75 = .ok (.iinc 4 1, 3) := by decide +kernel
theorem dX3_two_78 : decode cX3_two 78 = .ok (.goto (-41), 3) := by decide +kernel
theorem dX3_two_81 : decode cX3_two 81 = .ok (.iinc 3 1, 3) := by decide +kernel
theorem dX3_two_84 : decode cX3_two 84 = .ok (.goto (-55), 3) := by decide +kernel
theorem dX3_two_87 : decode cX3_two 87 = .ok (.bipush (-9), 2) := by decide +kernel
theorem dX3_two_89 : decode cX3_two 89 = .ok (.ireturn, 1) := by decide +kernel
theorem dX3_newDoor_0 : decode cX3_newDoor 0 = .ok (.aload_n 0, 1) := by decide +kernel
theorem dX3_newDoor_1 : decode cX3_newDoor 1 = .ok (.invokevirtual 161, 3) := by decide +kernel
theorem dX3_newDoor_4 : decode cX3_newDoor 4 = .ok (.aload_n 0, 1) := by decide +kernel
theorem dX3_newDoor_5 : decode cX3_newDoor 5 = .ok (.invokevirtual 173, 3) := by decide +kernel
theorem dX3_newDoor_8 : decode cX3_newDoor 8 = .ok (.istore_n 1, 1) := by decide +kernel
theorem dX3_newDoor_9 : decode cX3_newDoor 9 = .ok (.bipush (-9), 2) := by decide +kernel
theorem dX3_newDoor_11 : decode cX3_newDoor 11 = .ok (.istore_n 2, 1) := by decide +kernel
theorem dX3_newDoor_12 : decode cX3_newDoor 12 = .ok (.iconst 0, 1) := by decide +kernel
theorem dX3_newDoor_13 : decode cX3_newDoor 13 = .ok (.istore_n 3, 1) := by decide +kernel
theorem dX3_newDoor_14 : decode cX3_newDoor 14 = .ok (.iload_n 3, 1) := by decide +kernel
theorem dX3_newDoor_15 : decode cX3_newDoor 15 = .ok (.bipush 7, 2) := by decide +kernel
theorem dX3_newDoor_17 : decode cX3_newDoor 17 = .ok (.if_icmp .ge 86, 3) := by decide +kernel
theorem dX3_newDoor_20 : decode cX3_newDoor 20 = .ok (.iload_n 3, 1) := by decide +kernel
theorem dX3_newDoor_21 : decode cX3_newDoor 21 = .ok (.iconst 1, 1) := by decide +kernel
theorem dX3_newDoor_22 : decode cX3_newDoor 22 = .ok (.iadd, 1) := by decide +kernel
theorem dX3_newDoor_23 : decode cX3_newDoor 23 = .ok (.istore 4, 2) := by decide +kernel
theorem dX3_newDoor_25 : decode cX3_newDoor 25 = .ok (.iload 4, 2) := by decide +kernel
theorem dX3_newDoor_27 : decode cX3_newDoor 27 = .ok (.bipush 7, 2) := by decide +kernel
theorem dX3_newDoor_29 : decode cX3_newDoor 29 = .ok (.if_icmp .ge 68, 3) := by decide +kernel
theorem dX3_newDoor_32 : decode cX3_newDoor 32 = .ok (.aload_n 0, 1) := by decide +kernel
theorem dX3_newDoor_33 : decode cX3_newDoor 33 = .ok (.getfield 10, 3) := by decide +kernel
theorem dX3_newDoor_36 : decode cX3_newDoor 36 = .ok (.getfield 72, 3) := by decide +kernel
theorem dX3_newDoor_39 : decode cX3_newDoor 39 = .ok (.iload_n 3, 1) := by decide +kernel
theorem dX3_newDoor_40 : decode cX3_newDoor 40 = .ok (.iload 4, 2) := by decide +kernel
theorem dX3_newDoor_42 : decode cX3_newDoor 42 = .ok (.invokevirtual 128, 3) := by decide +kernel
theorem dX3_newDoor_45 : decode cX3_newDoor 45 = .ok (.ifCond .eq 6, 3) := by decide +kernel
theorem dX3_newDoor_48 : decode cX3_newDoor 48 = .ok (.goto 43, 3) := by decide +kernel
theorem dX3_newDoor_51 : decode cX3_newDoor 51 = .ok (.aload_n 0, 1) := by decide +kernel
theorem dX3_newDoor_52 : decode cX3_newDoor 52 = .ok (.invokevirtual 161, 3) := by decide +kernel
theorem dX3_newDoor_55 : decode cX3_newDoor 55 = .ok (.aload_n 0, 1) := by decide +kernel
theorem dX3_newDoor_56 : decode cX3_newDoor 56 = .ok (.getfield 16, 3) := by decide +kernel
theorem dX3_newDoor_59 : decode cX3_newDoor 59 = .ok (.getfield 72, 3) := by decide +kernel
theorem dX3_newDoor_62 : decode cX3_newDoor 62 = .ok (.iload_n 3, 1) := by decide +kernel
theorem dX3_newDoor_63 : decode cX3_newDoor 63 = .ok (.iload 4, 2) := by decide +kernel
theorem dX3_newDoor_65 : decode cX3_newDoor 65 = .ok (.invokevirtual 124, 3) := by decide +kernel
theorem dX3_newDoor_68 : decode cX3_newDoor 68 = .ok (.aload_n 0, 1) := by decide +kernel
theorem dX3_newDoor_69 : decode cX3_newDoor 69 = .ok (.invokevirtual 173, 3) := by decide +kernel
theorem dX3_newDoor_72 : decode cX3_newDoor 72 = .ok (.istore 5, 2) := by decide +kernel
theorem dX3_newDoor_74 : decode cX3_newDoor 74 = .ok (.iload 5, 2) := by decide +kernel
theorem dX3_newDoor_76 : decode cX3_newDoor 76 = .ok (.iload_n 1, 1) := by decide +kernel
theorem dX3_newDoor_77 : decode cX3_newDoor 77 = .ok (.if_icmp .ge 14, 3) := by decide +kernel
theorem dX3_newDoor_80 : decode cX3_newDoor 80 = .ok (.iload 5, 2) := by decide +kernel
theorem dX3_newDoor_82 : decode cX3_newDoor 82 = .ok (.istore_n 1, 1) := by decide +kernel
theorem dX3_newDoor_83 : decode cX3_newDoor 83 = .ok (.bipush 10, 2) := by decide +kernel
theorem dX3_newDoor_85 : decode cX3_newDoor 85 = .ok (.iload_n 3, 1) := by decide +kernel
theorem dX3_newDoor_86 : decode cX3_newDoor 86 = .ok (.imul, 1) := by decide +kernel
theorem dX3_newDoor_87 : decode cX3_newDoor 87 = .ok (.iload 4, 2) := by decide +kernel
theorem dX3_newDoor_89 : decode cX3_newDoor 89 = .ok (.iadd, 1) := by decide +kernel
theorem dX3_newDoor_90 : decode cX3_newDoor 90 = .ok (.istore_n 2, 1) := by decide +kernel
theorem dX3_newDoor_91 : decode cX3_newDoor 91 = .ok (.iinc 4 1, 3) := by decide +kernel
theorem dX3_newDoor_94 : decode cX3_newDoor 94 = .ok (.goto (-69), 3) := by decide +kernel
theorem dX3_newDoor_97 : decode cX3_newDoor 97 = .ok (.iinc 3 1, 3) := by decide +kernel
theorem dX3_newDoor_100 : decode cX3_newDoor 100 = .ok (.goto (-86), 3) := by decide +kernel
theorem dX3_newDoor_103 : decode cX3_newDoor 103 = .ok (.iload_n 2, 1) := by decide +kernel
theorem dX3_newDoor_104 : decode cX3_newDoor 104 = .ok (.ireturn, 1) := by decide +kernel
theorem dX3_which_0 : decode cX3_which 0 = .ok (.aload_n 0, 1) := by decide +kernel
theorem dX3_which_1 : decode cX3_which 1 = .ok (.iload_n 1, 1) := by decide +kernel
theorem dX3_which_2 : decode cX3_which 2 = .ok (.invokevirtual 100, 3) := by decide +kernel
theorem dX3_which_5 : decode cX3_which 5 = .ok (.ifCond .ne 11, 3) := by decide +kernel
theorem dX3_which_8 : decode cX3_which 8 = .ok (.aload_n 0, 1) := by decide +kernel
theorem dX3_which_9 : decode cX3_which 9 = .ok (.iload_n 2, 1) := by decide +kernel
theorem dX3_which_10 : decode cX3_which 10 = .ok (.invokevirtual 82, 3) := by decide +kernel
theorem dX3_which_13 : decode cX3_which 13 = .ok (.ifCond .eq 9, 3) := by decide +kernel
theorem dX3_which_16 : decode cX3_which 16 = .ok (.aload_n 0, 1) := by decide +kernel
theorem dX3_which_17 : decode cX3_which 17 = .ok (.iconst (-1), 1) := by decide +kernel
theorem dX3_which_18 : decode cX3_which 18 = .ok (.invokevirtual 47, 3) := by decide +kernel
theorem dX3_which_21 : decode cX3_which 21 = .ok (.ireturn, 1) := by decide +kernel
theorem dX3_which_22 : decode cX3_which 22 = .ok (.iload_n 3, 1) := by decide +kernel
theorem dX3_which_23 : decode cX3_which 23 = .ok (.ifCond .lt 8, 3) := by decide +kernel
theorem dX3_which_26 : decode cX3_which 26 = .ok (.iload_n 3, 1) := by decide +kernel
theorem dX3_which_27 : decode cX3_which 27 = .ok (.iconst 1, 1) := by decide +kernel
theorem dX3_which_28 : decode cX3_which 28 = .ok (.if_icmp .le 10, 3) := by decide +kernel
theorem dX3_which_31 : decode cX3_which 31 = .ok (.aload_n 0, 1) := by decide +kernel
theorem dX3_which_32 : decode cX3_which 32 = .ok (.bipush (-2), 2) := by decide +kernel
theorem dX3_which_34 : decode cX3_which 34 = .ok (.invokevirtual 47, 3) := by decide +kernel
theorem dX3_which_37 : decode cX3_which 37 = .ok (.ireturn, 1) := by decide +kernel
theorem dX3_which_38 : decode cX3_which 38 = .ok (.aload_n 0, 1) := by decide +kernel
theorem dX3_which_39 : decode cX3_which 39 = .ok (.getfield 40, 3) := by decide +kernel
theorem dX3_which_42 : decode cX3_which 42 = .ok (.aload_n 0, 1) := by decide +kernel
theorem dX3_which_43 : decode cX3_which 43 = .ok (.getfield 10, 3) := by decide +kernel
theorem dX3_which_46 : decode cX3_which 46 = .ok (.getfield 200, 3) := by decide +kernel
theorem dX3_which_49 : decode cX3_which 49 = .ok (.if_icmp .eq 10, 3) := by decide +kernel
theorem dX3_which_52 : decode cX3_which 52 = .ok (.aload_n 0, 1) := by decide +kernel
theorem dX3_which_53 : decode cX3_which 53 = .ok (.bipush (-3), 2) := by decide +kernel
theorem dX3_which_55 : decode cX3_which 55 = .ok (.invokevirtual 47, 3) := by decide +kernel
theorem dX3_which_58 : decode cX3_which 58 = .ok (.ireturn, 1) := by decide +kernel
theorem dX3_which_59 : decode cX3_which 59 = .ok (.iconst 0, 1) := by decide +kernel
theorem dX3_which_60 : decode cX3_which 60 = .ok (.istore 4, 2) := by decide +kernel
theorem dX3_which_62 : decode cX3_which 62 = .ok (.iload_n 3, 1) := by decide +kernel
theorem dX3_which_63 : decode cX3_which 63 = .ok (.ifCond .ne 8, 3) := by decide +kernel
theorem dX3_which_66 : decode cX3_which 66 = .ok (.bipush 6, 2) := by decide +kernel
theorem dX3_which_68 : decode cX3_which 68 = .ok (.goto 5, 3) := by decide +kernel
theorem dX3_which_71 : decode cX3_which 71 = .ok (.bipush 10, 2) := by decide +kernel
theorem dX3_which_73 : decode cX3_which 73 = .ok (.istore 5, 2) := by decide +kernel
theorem dX3_which_75 : decode cX3_which 75 = .ok (.iconst 0, 1) := by decide +kernel
theorem dX3_which_76 : decode cX3_which 76 = .ok (.istore 6, 2) := by decide +kernel
theorem dX3_which_78 : decode cX3_which 78 = .ok (.iload 6, 2) := by decide +kernel
theorem dX3_which_80 : decode cX3_which 80 = .ok (.iload 5, 2) := by decide +kernel
theorem dX3_which_82 : decode cX3_which 82 = .ok (.if_icmp .ge 68, 3) := by decide +kernel
theorem dX3_which_85 : decode cX3_which 85 = .ok (.aload_n 0, 1) := by decide +kernel
theorem dX3_which_86 : decode cX3_which 86 = .ok (.invokevirtual 161, 3) := by decide +kernel
theorem dX3_which_89 : decode cX3_which 89 = .ok (.iload_n 3, 1) := by decide +kernel
theorem dX3_which_90 : decode cX3_which 90 = .ok (.ifCond .ne 17, 3) := by decide +kernel
theorem dX3_which_93 : decode cX3_which 93 = .ok (.aload_n 0, 1) := by decide +kernel
theorem dX3_which_94 : decode cX3_which 94 = .ok (.getfield 16, 3) := by decide +kernel
theorem dX3_which_97 : decode cX3_which 97 = .ok (.getfield 85, 3) := by decide +kernel
theorem dX3_which_100 : decode cX3_which 100 = .ok (.iload_n 2, 1) := by decide +kernel
theorem dX3_which_101 : decode cX3_which 101 = .ok (.iload 6, 2) := by decide +kernel
theorem dX3_which_103 : decode cX3_which 103 = .ok (.iastore, 1) := by decide +kernel
theorem dX3_which_104 : decode cX3_which 104 = .ok (.goto 14, 3) := by decide +kernel
theorem dX3_which_107 : decode cX3_which 107 = .ok (.aload_n 0, 1) := by decide +kernel
theorem dX3_which_108 : decode cX3_which 108 = .ok (.getfield 16, 3) := by decide +kernel
theorem dX3_which_111 : decode cX3_which 111 = .ok (.getfield 106, 3) := by decide +kernel
theorem dX3_which_114 : decode cX3_which 114 = .ok (.iload_n 1, 1) := by decide +kernel
theorem dX3_which_115 : decode cX3_which 115 = .ok (.iload 6, 2) := by decide +kernel
theorem dX3_which_117 : decode cX3_which 117 = .ok (.iastore, 1) := by decide +kernel
theorem dX3_which_118 : decode cX3_which 118 = .ok (.aload_n 0, 1) := by decide +kernel
theorem dX3_which_119 : decode cX3_which 119 = .ok (.getfield 16, 3) := by decide +kernel
theorem dX3_which_122 : decode cX3_which 122 = .ok (.bipush 99, 2) := by decide +kernel
theorem dX3_which_124 : decode cX3_which 124 = .ok (.invokevirtual 142, 3) := by decide +kernel
theorem dX3_which_127 : decode cX3_which 127 = .ok (.aload_n 0, 1) := by decide +kernel
theorem dX3_which_128 : decode cX3_which 128 = .ok (.iload_n 1, 1) := by decide +kernel
theorem dX3_which_129 : decode cX3_which 129 = .ok (.invokevirtual 214, 3) := by decide +kernel
theorem dX3_which_132 : decode cX3_which 132 = .ok (.ifCond .eq 12, 3) := by decide +kernel
theorem dX3_which_135 : decode cX3_which 135 = .ok (.iload 4, 2) := by decide +kernel
theorem dX3_which_137 : decode cX3_which 137 = .ok (.iconst 1, 1) := by decide +kernel
theorem dX3_which_138 : decode cX3_which 138 = .ok (.iload 6, 2) := by decide +kernel
theorem dX3_which_140 : decode cX3_which 140 = .ok (.ishl, 1) := by decide +kernel
theorem dX3_which_141 : decode cX3_which 141 = .ok (.ior, 1) := by decide +kernel
theorem dX3_which_142 : decode cX3_which 142 = .ok (.istore 4, 2) := by decide +kernel
theorem dX3_which_144 : decode cX3_which 144 = .ok (.iinc 6 1, 3) := by decide +kernel
theorem dX3_which_147 : decode cX3_which 147 = .ok (.goto (-69), 3) := by decide +kernel
theorem dX3_which_150 : decode cX3_which 150 = .ok (.iload 4, 2) := by decide +kernel
theorem dX3_which_152 : decode cX3_which 152 = .ok (.ireturn, 1) := by decide +kernel
theorem dX3_row_0 : decode cX3_row 0 = .ok (.iload_n 1, 1) := by decide +kernel
theorem dX3_row_1 : decode cX3_row 1 = .ok (.ifCond .ge 10, 3) := by decide +kernel
theorem dX3_row_4 : decode cX3_row 4 = .ok (.aload_n 0, 1) := by decide +kernel
theorem dX3_row_5 : decode cX3_row 5 = .ok (.bipush (-4), 2) := by decide +kernel
theorem dX3_row_7 : decode cX3_row 7 = .ok (.invokevirtual 47, 3) := by decide +kernel
theorem dX3_row_10 : decode cX3_row 10 = .ok (.ireturn, 1) := by decide +kernel
theorem dX3_row_11 : decode cX3_row 11 = .ok (.iload_n 1, 1) := by decide +kernel
theorem dX3_row_12 : decode cX3_row 12 = .ok (.bipush 99, 2) := by decide +kernel
theorem dX3_row_14 : decode cX3_row 14 = .ok (.if_icmp .gt 12, 3) := by decide +kernel
theorem dX3_row_17 : decode cX3_row 17 = .ok (.aload_n 0, 1) := by decide +kernel
theorem dX3_row_18 : decode cX3_row 18 = .ok (.getfield 40, 3) := by decide +kernel
theorem dX3_row_21 : decode cX3_row 21 = .ok (.bipush 12, 2) := by decide +kernel
theorem dX3_row_23 : decode cX3_row 23 = .ok (.if_icmp .lt 10, 3) := by decide +kernel
theorem dX3_row_26 : decode cX3_row 26 = .ok (.aload_n 0, 1) := by decide +kernel
theorem dX3_row_27 : decode cX3_row 27 = .ok (.bipush (-6), 2) := by decide +kernel
theorem dX3_row_29 : decode cX3_row 29 = .ok (.invokevirtual 47, 3) := by decide +kernel
theorem dX3_row_32 : decode cX3_row 32 = .ok (.ireturn, 1) := by decide +kernel
theorem dX3_row_33 : decode cX3_row 33 = .ok (.aload_n 0, 1) := by decide +kernel
theorem dX3_row_34 : decode cX3_row 34 = .ok (.getfield 36, 3) := by decide +kernel
theorem dX3_row_37 : decode cX3_row 37 = .ok (.aload_n 0, 1) := by decide +kernel
theorem dX3_row_38 : decode cX3_row 38 = .ok (.getfield 40, 3) := by decide +kernel
theorem dX3_row_41 : decode cX3_row 41 = .ok (.iload_n 1, 1) := by decide +kernel
theorem dX3_row_42 : decode cX3_row 42 = .ok (.iastore, 1) := by decide +kernel
theorem dX3_row_43 : decode cX3_row 43 = .ok (.aload_n 0, 1) := by decide +kernel
theorem dX3_row_44 : decode cX3_row 44 = .ok (.dup, 1) := by decide +kernel
theorem dX3_row_45 : decode cX3_row 45 = .ok (.getfield 40, 3) := by decide +kernel
theorem dX3_row_48 : decode cX3_row 48 = .ok (.iconst 1, 1) := by decide +kernel
theorem dX3_row_49 : decode cX3_row 49 = .ok (.iadd, 1) := by decide +kernel
theorem dX3_row_50 : decode cX3_row 50 = .ok (.putfield 40, 3) := by decide +kernel
theorem dX3_row_53 : decode cX3_row 53 = .ok (.aload_n 0, 1) := by decide +kernel
theorem dX3_row_54 : decode cX3_row 54 = .ok (.getfield 40, 3) := by decide +kernel
theorem dX3_row_57 : decode cX3_row 57 = .ok (.ireturn, 1) := by decide +kernel
theorem dX3_judge_0 : decode cX3_judge 0 = .ok (.aload_n 0, 1) := by decide +kernel
theorem dX3_judge_1 : decode cX3_judge 1 = .ok (.iload_n 1, 1) := by decide +kernel
theorem dX3_judge_2 : decode cX3_judge 2 = .ok (.invokevirtual 100, 3) := by decide +kernel
theorem dX3_judge_5 : decode cX3_judge 5 = .ok (.ifCond .eq 9, 3) := by decide +kernel
theorem dX3_judge_8 : decode cX3_judge 8 = .ok (.aload_n 0, 1) := by decide +kernel
theorem dX3_judge_9 : decode cX3_judge 9 = .ok (.iconst (-1), 1) := by decide +kernel
theorem dX3_judge_10 : decode cX3_judge 10 = .ok (.invokevirtual 47, 3) := by decide +kernel
theorem dX3_judge_13 : decode cX3_judge 13 = .ok (.ireturn, 1) := by decide +kernel
theorem dX3_judge_14 : decode cX3_judge 14 = .ok (.bipush (-9), 2) := by decide +kernel
theorem dX3_judge_16 : decode cX3_judge 16 = .ok (.istore_n 2, 1) := by decide +kernel
theorem dX3_judge_17 : decode cX3_judge 17 = .ok (.aload_n 0, 1) := by decide +kernel
theorem dX3_judge_18 : decode cX3_judge 18 = .ok (.invokevirtual 161, 3) := by decide +kernel
theorem dX3_judge_21 : decode cX3_judge 21 = .ok (.iconst 0, 1) := by decide +kernel
theorem dX3_judge_22 : decode cX3_judge 22 = .ok (.istore_n 3, 1) := by decide +kernel
theorem dX3_judge_23 : decode cX3_judge 23 = .ok (.iload_n 3, 1) := by decide +kernel
theorem dX3_judge_24 : decode cX3_judge 24 = .ok (.aload_n 0, 1) := by decide +kernel
theorem dX3_judge_25 : decode cX3_judge 25 = .ok (.getfield 40, 3) := by decide +kernel
theorem dX3_judge_28 : decode cX3_judge 28 = .ok (.if_icmp .ge 41, 3) := by decide +kernel
theorem dX3_judge_31 : decode cX3_judge 31 = .ok (.iload_n 2, 1) := by decide +kernel
theorem dX3_judge_32 : decode cX3_judge 32 = .ok (.bipush (-9), 2) := by decide +kernel
theorem dX3_judge_34 : decode cX3_judge 34 = .ok (.if_icmp .ne 35, 3) := by decide +kernel
theorem dX3_judge_37 : decode cX3_judge 37 = .ok (.aload_n 0, 1) := by decide +kernel
theorem dX3_judge_38 : decode cX3_judge 38 = .ok (.getfield 16, 3) := by decide +kernel
theorem dX3_judge_41 : decode cX3_judge 41 = .ok (.iload_n 1, 1) := by decide +kernel
theorem dX3_judge_42 : decode cX3_judge 42 = .ok (.invokevirtual 152, 3) := by decide +kernel
theorem dX3_judge_45 : decode cX3_judge 45 = .ok (.aload_n 0, 1) := by decide +kernel
theorem dX3_judge_46 : decode cX3_judge 46 = .ok (.getfield 36, 3) := by decide +kernel
theorem dX3_judge_49 : decode cX3_judge 49 = .ok (.iload_n 3, 1) := by decide +kernel
theorem dX3_judge_50 : decode cX3_judge 50 = .ok (.iaload, 1) := by decide +kernel
theorem dX3_judge_51 : decode cX3_judge 51 = .ok (.if_icmp .eq 5, 3) := by decide +kernel
theorem dX3_judge_54 : decode cX3_judge 54 = .ok (.iload_n 3, 1) := by decide +kernel
theorem dX3_judge_55 : decode cX3_judge 55 = .ok (.istore_n 2, 1) := by decide +kernel
theorem dX3_judge_56 : decode cX3_judge 56 = .ok (.aload_n 0, 1) := by decide +kernel
theorem dX3_judge_57 : decode cX3_judge 57 = .ok (.getfield 16, 3) := by decide +kernel
theorem dX3_judge_60 : decode cX3_judge 60 = .ok (.invokevirtual 217, 3) := by decide +kernel
theorem dX3_judge_63 : decode cX3_judge 63 = .ok (.iinc 3 1, 3) := by decide +kernel
theorem dX3_judge_66 : decode cX3_judge 66 = .ok (.goto (-43), 3) := by decide +kernel
theorem dX3_judge_69 : decode cX3_judge 69 = .ok (.aload_n 0, 1) := by decide +kernel
theorem dX3_judge_70 : decode cX3_judge 70 = .ok (.iconst 0, 1) := by decide +kernel
theorem dX3_judge_71 : decode cX3_judge 71 = .ok (.putfield 40, 3) := by decide +kernel
theorem dX3_judge_74 : decode cX3_judge 74 = .ok (.iload_n 2, 1) := by decide +kernel
theorem dX3_judge_75 : decode cX3_judge 75 = .ok (.ireturn, 1) := by decide +kernel
theorem dX3_clear_0 : decode cX3_clear 0 = .ok (.aload_n 0, 1) := by decide +kernel
theorem dX3_clear_1 : decode cX3_clear 1 = .ok (.getfield 40, 3) := by decide +kernel
theorem dX3_clear_4 : decode cX3_clear 4 = .ok (.istore_n 1, 1) := by decide +kernel
theorem dX3_clear_5 : decode cX3_clear 5 = .ok (.aload_n 0, 1) := by decide +kernel
theorem dX3_clear_6 : decode cX3_clear 6 = .ok (.iconst 0, 1) := by decide +kernel
theorem dX3_clear_7 : decode cX3_clear 7 = .ok (.putfield 40, 3) := by decide +kernel
theorem dX3_clear_10 : decode cX3_clear 10 = .ok (.iload_n 1, 1) := by decide +kernel
theorem dX3_clear_11 : decode cX3_clear 11 = .ok (.ireturn, 1) := by decide +kernel
theorem dX3_lots_0 : decode cX3_lots 0 = .ok (.iload_n 1, 1) := by decide +kernel
theorem dX3_lots_1 : decode cX3_lots 1 = .ok (.iconst 1, 1) := by decide +kernel
theorem dX3_lots_2 : decode cX3_lots 2 = .ok (.if_icmp .ge 10, 3) := by decide +kernel
theorem dX3_lots_5 : decode cX3_lots 5 = .ok (.aload_n 0, 1) := by decide +kernel
theorem dX3_lots_6 : decode cX3_lots 6 = .ok (.bipush (-4), 2) := by decide +kernel
theorem dX3_lots_8 : decode cX3_lots 8 = .ok (.invokevirtual 47, 3) := by decide +kernel
theorem dX3_lots_11 : decode cX3_lots 11 = .ok (.ireturn, 1) := by decide +kernel
theorem dX3_lots_12 : decode cX3_lots 12 = .ok (.iload_n 1, 1) := by decide +kernel
theorem dX3_lots_13 : decode cX3_lots 13 = .ok (.bipush 20, 2) := by decide +kernel
theorem dX3_lots_15 : decode cX3_lots 15 = .ok (.if_icmp .le 10, 3) := by decide +kernel
theorem dX3_lots_18 : decode cX3_lots 18 = .ok (.aload_n 0, 1) := by decide +kernel
theorem dX3_lots_19 : decode cX3_lots 19 = .ok (.bipush (-6), 2) := by decide +kernel
theorem dX3_lots_21 : decode cX3_lots 21 = .ok (.invokevirtual 47, 3) := by decide +kernel
theorem dX3_lots_24 : decode cX3_lots 24 = .ok (.ireturn, 1) := by decide +kernel
theorem dX3_lots_25 : decode cX3_lots 25 = .ok (.iload_n 3, 1) := by decide +kernel
theorem dX3_lots_26 : decode cX3_lots 26 = .ok (.ifCond .lt 8, 3) := by decide +kernel
theorem dX3_lots_29 : decode cX3_lots 29 = .ok (.iload_n 3, 1) := by decide +kernel
theorem dX3_lots_30 : decode cX3_lots 30 = .ok (.iconst 1, 1) := by decide +kernel
theorem dX3_lots_31 : decode cX3_lots 31 = .ok (.if_icmp .le 10, 3) := by decide +kernel
theorem dX3_lots_34 : decode cX3_lots 34 = .ok (.aload_n 0, 1) := by decide +kernel
theorem dX3_lots_35 : decode cX3_lots 35 = .ok (.bipush (-2), 2) := by decide +kernel
theorem dX3_lots_37 : decode cX3_lots 37 = .ok (.invokevirtual 47, 3) := by decide +kernel
theorem dX3_lots_40 : decode cX3_lots 40 = .ok (.ireturn, 1) := by decide +kernel
theorem dX3_lots_41 : decode cX3_lots 41 = .ok (.iload_n 2, 1) := by decide +kernel
theorem dX3_lots_42 : decode cX3_lots 42 = .ok (.istore 4, 2) := by decide +kernel
theorem dX3_lots_44 : decode cX3_lots 44 = .ok (.iconst 0, 1) := by decide +kernel
theorem dX3_lots_45 : decode cX3_lots 45 = .ok (.istore 5, 2) := by decide +kernel
theorem dX3_lots_47 : decode cX3_lots 47 = .ok (.iconst 0, 1) := by decide +kernel
theorem dX3_lots_48 : decode cX3_lots 48 = .ok (.istore 6, 2) := by decide +kernel
theorem dX3_lots_50 : decode cX3_lots 50 = .ok (.iload 6, 2) := by decide +kernel
theorem dX3_lots_52 : decode cX3_lots 52 = .ok (.iload_n 1, 1) := by decide +kernel
theorem dX3_lots_53 : decode cX3_lots 53 = .ok (.if_icmp .ge 119, 3) := by decide +kernel
theorem dX3_lots_56 : decode cX3_lots 56 = .ok (.aload_n 0, 1) := by decide +kernel
theorem dX3_lots_57 : decode cX3_lots 57 = .ok (.invokevirtual 161, 3) := by decide +kernel
theorem dX3_lots_60 : decode cX3_lots 60 = .ok (.iconst 0, 1) := by decide +kernel
theorem dX3_lots_61 : decode cX3_lots 61 = .ok (.istore 7, 2) := by decide +kernel
theorem dX3_lots_63 : decode cX3_lots 63 = .ok (.iload 7, 2) := by decide +kernel
theorem dX3_lots_65 : decode cX3_lots 65 = .ok (.aload_n 0, 1) := by decide +kernel
theorem dX3_lots_66 : decode cX3_lots 66 = .ok (.getfield 16, 3) := by decide +kernel
theorem dX3_lots_69 : decode cX3_lots 69 = .ok (.getfield 188, 3) := by decide +kernel
theorem dX3_lots_72 : decode cX3_lots 72 = .ok (.if_icmp .ge 59, 3) := by decide +kernel
theorem dX3_lots_75 : decode cX3_lots 75 = .ok (.iload 4, 2) := by decide +kernel
theorem dX3_lots_77 : decode cX3_lots 77 = .ok (.invokestatic 220, 3) := by decide +kernel
theorem dX3_lots_80 : decode cX3_lots 80 = .ok (.istore 4, 2) := by decide +kernel
theorem dX3_lots_82 : decode cX3_lots 82 = .ok (.aload_n 0, 1) := by decide +kernel
theorem dX3_lots_83 : decode cX3_lots 83 = .ok (.getfield 16, 3) := by decide +kernel
theorem dX3_lots_86 : decode cX3_lots 86 = .ok (.getfield 112, 3) := by decide +kernel
theorem dX3_lots_89 : decode cX3_lots 89 = .ok (.iload 7, 2) := by decide +kernel
theorem dX3_lots_91 : decode cX3_lots 91 = .ok (.iload 4, 2) := by decide +kernel
theorem dX3_lots_93 : decode cX3_lots 93 = .ok (.invokestatic 223, 3) := by decide +kernel
theorem dX3_lots_96 : decode cX3_lots 96 = .ok (.bipush 7, 2) := by decide +kernel
theorem dX3_lots_98 : decode cX3_lots 98 = .ok (.irem, 1) := by decide +kernel
theorem dX3_lots_99 : decode cX3_lots 99 = .ok (.iastore, 1) := by decide +kernel
theorem dX3_lots_100 : decode cX3_lots 100 = .ok (.iload 4, 2) := by decide +kernel
theorem dX3_lots_102 : decode cX3_lots 102 = .ok (.invokestatic 220, 3) := by decide +kernel
theorem dX3_lots_105 : decode cX3_lots 105 = .ok (.istore 4, 2) := by decide +kernel
theorem dX3_lots_107 : decode cX3_lots 107 = .ok (.aload_n 0, 1) := by decide +kernel
theorem dX3_lots_108 : decode cX3_lots 108 = .ok (.getfield 16, 3) := by decide +kernel
theorem dX3_lots_111 : decode cX3_lots 111 = .ok (.getfield 109, 3) := by decide +kernel
theorem dX3_lots_114 : decode cX3_lots 114 = .ok (.iload 7, 2) := by decide +kernel
theorem dX3_lots_116 : decode cX3_lots 116 = .ok (.iload 4, 2) := by decide +kernel
theorem dX3_lots_118 : decode cX3_lots 118 = .ok (.invokestatic 223, 3) := by decide +kernel
theorem dX3_lots_121 : decode cX3_lots 121 = .ok (.bipush 8, 2) := by decide +kernel
theorem dX3_lots_123 : decode cX3_lots 123 = .ok (.irem, 1) := by decide +kernel
theorem dX3_lots_124 : decode cX3_lots 124 = .ok (.iastore, 1) := by decide +kernel
theorem dX3_lots_125 : decode cX3_lots 125 = .ok (.iinc 7 1, 3) := by decide +kernel
theorem dX3_lots_128 : decode cX3_lots 128 = .ok (.goto (-65), 3) := by decide +kernel
theorem dX3_lots_131 : decode cX3_lots 131 = .ok (.aload_n 0, 1) := by decide +kernel
theorem dX3_lots_132 : decode cX3_lots 132 = .ok (.getfield 16, 3) := by decide +kernel
theorem dX3_lots_135 : decode cX3_lots 135 = .ok (.bipush 30, 2) := by decide +kernel
theorem dX3_lots_137 : decode cX3_lots 137 = .ok (.invokevirtual 142, 3) := by decide +kernel
theorem dX3_lots_140 : decode cX3_lots 140 = .ok (.iload 5, 2) := by decide +kernel
theorem dX3_lots_142 : decode cX3_lots 142 = .ok (.iload_n 3, 1) := by decide +kernel
theorem dX3_lots_143 : decode cX3_lots 143 = .ok (.ifCond .ne 13, 3) := by decide +kernel
theorem dX3_lots_146 : decode cX3_lots 146 = .ok (.aload_n 0, 1) := by decide +kernel
theorem dX3_lots_147 : decode cX3_lots 147 = .ok (.getfield 16, 3) := by decide +kernel
theorem dX3_lots_150 : decode cX3_lots 150 = .ok (.invokevirtual 146, 3) := by decide +kernel
theorem dX3_lots_153 : decode cX3_lots 153 = .ok (.goto 10, 3) := by decide +kernel
theorem dX3_lots_156 : decode cX3_lots 156 = .ok (.aload_n 0, 1) := by decide +kernel
theorem dX3_lots_157 : decode cX3_lots 157 = .ok (.getfield 16, 3) := by decide +kernel
theorem dX3_lots_160 : decode cX3_lots 160 = .ok (.invokevirtual 226, 3) := by decide +kernel
theorem dX3_lots_163 : decode cX3_lots 163 = .ok (.iadd, 1) := by decide +kernel
theorem dX3_lots_164 : decode cX3_lots 164 = .ok (.istore 5, 2) := by decide +kernel
theorem dX3_lots_166 : decode cX3_lots 166 = .ok (.iinc 6 1, 3) := by decide +kernel
theorem dX3_lots_169 : decode cX3_lots 169 = .ok (.goto (-119), 3) := by decide +kernel
theorem dX3_lots_172 : decode cX3_lots 172 = .ok (.iload 5, 2) := by decide +kernel
theorem dX3_lots_174 : decode cX3_lots 174 = .ok (.ireturn, 1) := by decide +kernel
theorem dX3_image_0 : decode cX3_image 0 = .ok (.aload_n 0, 1) := by decide +kernel
theorem dX3_image_1 : decode cX3_image 1 = .ok (.getfield 22, 3) := by decide +kernel
theorem dX3_image_4 : decode cX3_image 4 = .ok (.aload_n 0, 1) := by decide +kernel
theorem dX3_image_5 : decode cX3_image 5 = .ok (.getfield 10, 3) := by decide +kernel
theorem dX3_image_8 : decode cX3_image 8 = .ok (.invokevirtual 229, 3) := by decide +kernel
theorem dX3_image_11 : decode cX3_image 11 = .ok (.aload_n 0, 1) := by decide +kernel
theorem dX3_image_12 : decode cX3_image 12 = .ok (.iconst 1, 1) := by decide +kernel
theorem dX3_image_13 : decode cX3_image 13 = .ok (.putfield 25, 3) := by decide +kernel
theorem dX3_image_16 : decode cX3_image 16 = .ok (.aload_n 0, 1) := by decide +kernel
theorem dX3_image_17 : decode cX3_image 17 = .ok (.getfield 10, 3) := by decide +kernel
theorem dX3_image_20 : decode cX3_image 20 = .ok (.getfield 139, 3) := by decide +kernel
theorem dX3_image_23 : decode cX3_image 23 = .ok (.ireturn, 1) := by decide +kernel
theorem dX3_on_0 : decode cX3_on 0 = .ok (.aload_n 0, 1) := by decide +kernel
theorem dX3_on_1 : decode cX3_on 1 = .ok (.getfield 25, 3) := by decide +kernel
theorem dX3_on_4 : decode cX3_on 4 = .ok (.ifCond .ne 10, 3) := by decide +kernel
theorem dX3_on_7 : decode cX3_on 7 = .ok (.aload_n 0, 1) := by decide +kernel
theorem dX3_on_8 : decode cX3_on 8 = .ok (.bipush (-3), 2) := by decide +kernel
theorem dX3_on_10 : decode cX3_on 10 = .ok (.invokevirtual 47, 3) := by decide +kernel
theorem dX3_on_13 : decode cX3_on 13 = .ok (.ireturn, 1) := by decide +kernel
theorem dX3_on_14 : decode cX3_on 14 = .ok (.aload_n 0, 1) := by decide +kernel
theorem dX3_on_15 : decode cX3_on 15 = .ok (.getfield 10, 3) := by decide +kernel
theorem dX3_on_18 : decode cX3_on 18 = .ok (.aload_n 0, 1) := by decide +kernel
theorem dX3_on_19 : decode cX3_on 19 = .ok (.getfield 22, 3) := by decide +kernel
theorem dX3_on_22 : decode cX3_on 22 = .ok (.invokevirtual 229, 3) := by decide +kernel
theorem dX3_on_25 : decode cX3_on 25 = .ok (.aload_n 0, 1) := by decide +kernel
theorem dX3_on_26 : decode cX3_on 26 = .ok (.getfield 10, 3) := by decide +kernel
theorem dX3_on_29 : decode cX3_on 29 = .ok (.getfield 139, 3) := by decide +kernel
theorem dX3_on_32 : decode cX3_on 32 = .ok (.ireturn, 1) := by decide +kernel
theorem dX3_count_0 : decode cX3_count 0 = .ok (.iload_n 1, 1) := by decide +kernel
theorem dX3_count_1 : decode cX3_count 1 = .ok (.tableswitch 111 0 7 #[47, 55, 63, 74, 82, 90, 98, 103], 47) := by decide +kernel
theorem dX3_count_48 : decode cX3_count 48 = .ok (.aload_n 0, 1) := by decide +kernel
theorem dX3_count_49 : decode cX3_count 49 = .ok (.getfield 10, 3) := by decide +kernel
theorem dX3_count_52 : decode cX3_count 52 = .ok (.getfield 200, 3) := by decide +kernel
theorem dX3_count_55 : decode cX3_count 55 = .ok (.ireturn, 1) := by decide +kernel
theorem dX3_count_56 : decode cX3_count 56 = .ok (.aload_n 0, 1) := by decide +kernel
theorem dX3_count_57 : decode cX3_count 57 = .ok (.getfield 10, 3) := by decide +kernel
theorem dX3_count_60 : decode cX3_count 60 = .ok (.getfield 188, 3) := by decide +kernel
theorem dX3_count_63 : decode cX3_count 63 = .ok (.ireturn, 1) := by decide +kernel
theorem dX3_count_64 : decode cX3_count 64 = .ok (.aload_n 0, 1) := by decide +kernel
theorem dX3_count_65 : decode cX3_count 65 = .ok (.getfield 10, 3) := by decide +kernel
theorem dX3_count_68 : decode cX3_count 68 = .ok (.getfield 72, 3) := by decide +kernel
theorem dX3_count_71 : decode cX3_count 71 = .ok (.invokevirtual 233, 3) := by decide +kernel
theorem dX3_count_74 : decode cX3_count 74 = .ok (.ireturn, 1) := by decide +kernel
theorem dX3_count_75 : decode cX3_count 75 = .ok (.aload_n 0, 1) := by decide +kernel
theorem dX3_count_76 : decode cX3_count 76 = .ok (.getfield 10, 3) := by decide +kernel
theorem dX3_count_79 : decode cX3_count 79 = .ok (.getfield 139, 3) := by decide +kernel
theorem dX3_count_82 : decode cX3_count 82 = .ok (.ireturn, 1) := by decide +kernel
theorem dX3_count_83 : decode cX3_count 83 = .ok (.aload_n 0, 1) := by decide +kernel
theorem dX3_count_84 : decode cX3_count 84 = .ok (.getfield 10, 3) := by decide +kernel
theorem dX3_count_87 : decode cX3_count 87 = .ok (.invokevirtual 236, 3) := by decide +kernel
theorem dX3_count_90 : decode cX3_count 90 = .ok (.ireturn, 1) := by decide +kernel
theorem dX3_count_91 : decode cX3_count 91 = .ok (.aload_n 0, 1) := by decide +kernel
theorem dX3_count_92 : decode cX3_count 92 = .ok (.getfield 10, 3) := by decide +kernel
theorem dX3_count_95 : decode cX3_count 95 = .ok (.invokevirtual 146, 3) := by decide +kernel
theorem dX3_count_98 : decode cX3_count 98 = .ok (.ireturn, 1) := by decide +kernel
theorem dX3_count_99 : decode cX3_count 99 = .ok (.aload_n 0, 1) := by decide +kernel
theorem dX3_count_100 : decode cX3_count 100 = .ok (.getfield 40, 3) := by decide +kernel
theorem dX3_count_103 : decode cX3_count 103 = .ok (.ireturn, 1) := by decide +kernel
theorem dX3_count_104 : decode cX3_count 104 = .ok (.aload_n 0, 1) := by decide +kernel
theorem dX3_count_105 : decode cX3_count 105 = .ok (.getfield 32, 3) := by decide +kernel
theorem dX3_count_108 : decode cX3_count 108 = .ok (.invokevirtual 239, 3) := by decide +kernel
theorem dX3_count_111 : decode cX3_count 111 = .ok (.ireturn, 1) := by decide +kernel
theorem dX3_count_112 : decode cX3_count 112 = .ok (.iload_n 1, 1) := by decide +kernel
theorem dX3_count_113 : decode cX3_count 113 = .ok (.bipush 11, 2) := by decide +kernel
theorem dX3_count_115 : decode cX3_count 115 = .ok (.if_icmp .lt 21, 3) := by decide +kernel
theorem dX3_count_118 : decode cX3_count 118 = .ok (.iload_n 1, 1) := by decide +kernel
theorem dX3_count_119 : decode cX3_count 119 = .ok (.bipush 16, 2) := by decide +kernel
theorem dX3_count_121 : decode cX3_count 121 = .ok (.if_icmp .gt 15, 3) := by decide +kernel
theorem dX3_count_124 : decode cX3_count 124 = .ok (.aload_n 0, 1) := by decide +kernel
theorem dX3_count_125 : decode cX3_count 125 = .ok (.getfield 44, 3) := by decide +kernel
theorem dX3_count_128 : decode cX3_count 128 = .ok (.iload_n 1, 1) := by decide +kernel
theorem dX3_count_129 : decode cX3_count 129 = .ok (.bipush 10, 2) := by decide +kernel
theorem dX3_count_131 : decode cX3_count 131 = .ok (.isub, 1) := by decide +kernel
theorem dX3_count_132 : decode cX3_count 132 = .ok (.iaload, 1) := by decide +kernel
theorem dX3_count_133 : decode cX3_count 133 = .ok (.goto 5, 3) := by decide +kernel
theorem dX3_count_136 : decode cX3_count 136 = .ok (.bipush (-9), 2) := by decide +kernel
theorem dX3_count_138 : decode cX3_count 138 = .ok (.ireturn, 1) := by decide +kernel
theorem dX3_refuse_0 : decode cX3_refuse 0 = .ok (.aload_n 0, 1) := by decide +kernel
theorem dX3_refuse_1 : decode cX3_refuse 1 = .ok (.getfield 44, 3) := by decide +kernel
theorem dX3_refuse_4 : decode cX3_refuse 4 = .ok (.iload_n 1, 1) := by decide +kernel
theorem dX3_refuse_5 : decode cX3_refuse 5 = .ok (.ineg, 1) := by decide +kernel
theorem dX3_refuse_6 : decode cX3_refuse 6 = .ok (.dup2, 1) := by decide +kernel
theorem dX3_refuse_7 : decode cX3_refuse 7 = .ok (.iaload, 1) := by decide +kernel
theorem dX3_refuse_8 : decode cX3_refuse 8 = .ok (.iconst 1, 1) := by decide +kernel
theorem dX3_refuse_9 : decode cX3_refuse 9 = .ok (.iadd, 1) := by decide +kernel
theorem dX3_refuse_10 : decode cX3_refuse 10 = .ok (.iastore, 1) := by decide +kernel
theorem dX3_refuse_11 : decode cX3_refuse 11 = .ok (.iload_n 1, 1) := by decide +kernel
theorem dX3_refuse_12 : decode cX3_refuse 12 = .ok (.ireturn, 1) := by decide +kernel
theorem dX3_noRoom_0 : decode cX3_noRoom 0 = .ok (.iload_n 0, 1) := by decide +kernel
theorem dX3_noRoom_1 : decode cX3_noRoom 1 = .ok (.ifCond .lt 9, 3) := by decide +kernel
theorem dX3_noRoom_4 : decode cX3_noRoom 4 = .ok (.iload_n 0, 1) := by decide +kernel
theorem dX3_noRoom_5 : decode cX3_noRoom 5 = .ok (.bipush 7, 2) := by decide +kernel
theorem dX3_noRoom_7 : decode cX3_noRoom 7 = .ok (.if_icmp .lt 7, 3) := by decide +kernel
theorem dX3_noRoom_10 : decode cX3_noRoom 10 = .ok (.iconst 1, 1) := by decide +kernel
theorem dX3_noRoom_11 : decode cX3_noRoom 11 = .ok (.goto 4, 3) := by decide +kernel
theorem dX3_noRoom_14 : decode cX3_noRoom 14 = .ok (.iconst 0, 1) := by decide +kernel
theorem dX3_noRoom_15 : decode cX3_noRoom 15 = .ok (.ireturn, 1) := by decide +kernel
theorem dX3_noQuestion_0 : decode cX3_noQuestion 0 = .ok (.iload_n 1, 1) := by decide +kernel
theorem dX3_noQuestion_1 : decode cX3_noQuestion 1 = .ok (.ifCond .lt 14, 3) := by decide +kernel
theorem dX3_noQuestion_4 : decode cX3_noQuestion 4 = .ok (.iload_n 1, 1) := by decide +kernel
theorem dX3_noQuestion_5 : decode cX3_noQuestion 5 = .ok (.aload_n 0, 1) := by decide +kernel
theorem dX3_noQuestion_6 : decode cX3_noQuestion 6 = .ok (.getfield 10, 3) := by decide +kernel
theorem dX3_noQuestion_9 : decode cX3_noQuestion 9 = .ok (.getfield 200, 3) := by decide +kernel
theorem dX3_noQuestion_12 : decode cX3_noQuestion 12 = .ok (.if_icmp .lt 7, 3) := by decide +kernel
theorem dX3_noQuestion_15 : decode cX3_noQuestion 15 = .ok (.iconst 1, 1) := by decide +kernel
theorem dX3_noQuestion_16 : decode cX3_noQuestion 16 = .ok (.goto 4, 3) := by decide +kernel
theorem dX3_noQuestion_19 : decode cX3_noQuestion 19 = .ok (.iconst 0, 1) := by decide +kernel
theorem dX3_noQuestion_20 : decode cX3_noQuestion 20 = .ok (.ireturn, 1) := by decide +kernel
theorem dX3_noGroup_0 : decode cX3_noGroup 0 = .ok (.iload_n 1, 1) := by decide +kernel
theorem dX3_noGroup_1 : decode cX3_noGroup 1 = .ok (.ifCond .lt 14, 3) := by decide +kernel
theorem dX3_noGroup_4 : decode cX3_noGroup 4 = .ok (.iload_n 1, 1) := by decide +kernel
theorem dX3_noGroup_5 : decode cX3_noGroup 5 = .ok (.aload_n 0, 1) := by decide +kernel
theorem dX3_noGroup_6 : decode cX3_noGroup 6 = .ok (.getfield 10, 3) := by decide +kernel
theorem dX3_noGroup_9 : decode cX3_noGroup 9 = .ok (.getfield 188, 3) := by decide +kernel
theorem dX3_noGroup_12 : decode cX3_noGroup 12 = .ok (.if_icmp .lt 7, 3) := by decide +kernel
theorem dX3_noGroup_15 : decode cX3_noGroup 15 = .ok (.iconst 1, 1) := by decide +kernel
theorem dX3_noGroup_16 : decode cX3_noGroup 16 = .ok (.goto 4, 3) := by decide +kernel
theorem dX3_noGroup_19 : decode cX3_noGroup 19 = .ok (.iconst 0, 1) := by decide +kernel
theorem dX3_noGroup_20 : decode cX3_noGroup 20 = .ok (.ireturn, 1) := by decide +kernel
theorem dX3_think_0 : decode cX3_think 0 = .ok (.aload_n 0, 1) := by decide +kernel
theorem dX3_think_1 : decode cX3_think 1 = .ok (.getfield 16, 3) := by decide +kernel
theorem dX3_think_4 : decode cX3_think 4 = .ok (.aload_n 0, 1) := by decide +kernel
theorem dX3_think_5 : decode cX3_think 5 = .ok (.getfield 10, 3) := by decide +kernel
theorem dX3_think_8 : decode cX3_think 8 = .ok (.invokevirtual 229, 3) := by decide +kernel
theorem dX3_think_11 : decode cX3_think 11 = .ok (.aload_n 0, 1) := by decide +kernel
theorem dX3_think_12 : decode cX3_think 12 = .ok (.getfield 16, 3) := by decide +kernel
theorem dX3_think_15 : decode cX3_think 15 = .ok (.invokevirtual 242, 3) := by decide +kernel
theorem dX3_think_18 : decode cX3_think 18 = .ok (.return_, 1) := by decide +kernel
theorem dX3_thinkAhead_0 : decode cX3_thinkAhead 0 = .ok (.aload_n 0, 1) := by decide +kernel
theorem dX3_thinkAhead_1 : decode cX3_thinkAhead 1 = .ok (.invokevirtual 161, 3) := by decide +kernel
theorem dX3_thinkAhead_4 : decode cX3_thinkAhead 4 = .ok (.aload_n 0, 1) := by decide +kernel
theorem dX3_thinkAhead_5 : decode cX3_thinkAhead 5 = .ok (.getfield 16, 3) := by decide +kernel
theorem dX3_thinkAhead_8 : decode cX3_thinkAhead 8 = .ok (.iload_n 1, 1) := by decide +kernel
theorem dX3_thinkAhead_9 : decode cX3_thinkAhead 9 = .ok (.invokevirtual 142, 3) := by decide +kernel
theorem dX3_thinkAhead_12 : decode cX3_thinkAhead 12 = .ok (.return_, 1) := by decide +kernel
theorem dX3_noneIfNever_0 : decode cX3_noneIfNever 0 = .ok (.iload_n 0, 1) := by decide +kernel
theorem dX3_noneIfNever_1 : decode cX3_noneIfNever 1 = .ok (.bipush 100, 2) := by decide +kernel
theorem dX3_noneIfNever_3 : decode cX3_noneIfNever 3 = .ok (.if_icmp .lt 8, 3) := by decide +kernel
theorem dX3_noneIfNever_6 : decode cX3_noneIfNever 6 = .ok (.bipush (-9), 2) := by decide +kernel
theorem dX3_noneIfNever_8 : decode cX3_noneIfNever 8 = .ok (.goto 4, 3) := by decide +kernel
theorem dX3_noneIfNever_11 : decode cX3_noneIfNever 11 = .ok (.iload_n 0, 1) := by decide +kernel
theorem dX3_noneIfNever_12 : decode cX3_noneIfNever 12 = .ok (.ireturn, 1) := by decide +kernel
theorem dX3_minutesTillDone_0 : decode cX3_minutesTillDone 0 = .ok (.iconst 0, 1) := by decide +kernel
theorem dX3_minutesTillDone_1 : decode cX3_minutesTillDone 1 = .ok (.istore_n 2, 1) := by decide +kernel
theorem dX3_minutesTillDone_2 : decode cX3_minutesTillDone 2 = .ok (.iload_n 2, 1) := by decide +kernel
theorem dX3_minutesTillDone_3 : decode cX3_minutesTillDone 3 = .ok (.bipush 100, 2) := by decide +kernel
theorem dX3_minutesTillDone_5 : decode cX3_minutesTillDone 5 = .ok (.if_icmp .ge 27, 3) := by decide +kernel
theorem dX3_minutesTillDone_8 : decode cX3_minutesTillDone 8 = .ok (.aload_n 0, 1) := by decide +kernel
theorem dX3_minutesTillDone_9 : decode cX3_minutesTillDone 9 = .ok (.getfield 16, 3) := by decide +kernel
theorem dX3_minutesTillDone_12 : decode cX3_minutesTillDone 12 = .ok (.iload_n 1, 1) := by decide +kernel
theorem dX3_minutesTillDone_13 : decode cX3_minutesTillDone 13 = .ok (.invokevirtual 245, 3) := by decide +kernel
theorem dX3_minutesTillDone_16 : decode cX3_minutesTillDone 16 = .ok (.ifCond .ne 16, 3) := by decide +kernel
theorem dX3_minutesTillDone_19 : decode cX3_minutesTillDone 19 = .ok (.aload_n 0, 1) := by decide +kernel
theorem dX3_minutesTillDone_20 : decode cX3_minutesTillDone 20 = .ok (.getfield 16, 3) := by decide +kernel
theorem dX3_minutesTillDone_23 : decode cX3_minutesTillDone 23 = .ok (.invokevirtual 217, 3) := by decide +kernel
theorem dX3_minutesTillDone_26 : decode cX3_minutesTillDone 26 = .ok (.iinc 2 1, 3) := by decide +kernel
theorem dX3_minutesTillDone_29 : decode cX3_minutesTillDone 29 = .ok (.goto (-27), 3) := by decide +kernel
theorem dX3_minutesTillDone_32 : decode cX3_minutesTillDone 32 = .ok (.iload_n 2, 1) := by decide +kernel
theorem dX3_minutesTillDone_33 : decode cX3_minutesTillDone 33 = .ok (.ireturn, 1) := by decide +kernel
theorem dX3_minutesTillAllDone_0 : decode cX3_minutesTillAllDone 0 = .ok (.iconst 0, 1) := by decide +kernel
theorem dX3_minutesTillAllDone_1 : decode cX3_minutesTillAllDone 1 = .ok (.istore_n 1, 1) := by decide +kernel
theorem dX3_minutesTillAllDone_2 : decode cX3_minutesTillAllDone 2 = .ok (.iload_n 1, 1) := by decide +kernel
theorem dX3_minutesTillAllDone_3 : decode cX3_minutesTillAllDone 3 = .ok (.bipush 100, 2) := by decide +kernel
theorem dX3_minutesTillAllDone_5 : decode cX3_minutesTillAllDone 5 = .ok (.if_icmp .ge 26, 3) := by decide +kernel
theorem dX3_minutesTillAllDone_8 : decode cX3_minutesTillAllDone 8 = .ok (.aload_n 0, 1) := by decide +kernel
theorem dX3_minutesTillAllDone_9 : decode cX3_minutesTillAllDone 9 = .ok (.getfield 16, 3) := by decide +kernel
theorem dX3_minutesTillAllDone_12 : decode cX3_minutesTillAllDone 12 = .ok (.invokevirtual 248, 3) := by decide +kernel
theorem dX3_minutesTillAllDone_15 : decode cX3_minutesTillAllDone 15 = .ok (.ifCond .le 16, 3) := by decide +kernel
theorem dX3_minutesTillAllDone_18 : decode cX3_minutesTillAllDone 18 = .ok (.aload_n 0, 1) := by decide +kernel
theorem dX3_minutesTillAllDone_19 : decode cX3_minutesTillAllDone 19 = .ok (.getfield 16, 3) := by decide +kernel
theorem dX3_minutesTillAllDone_22 : decode cX3_minutesTillAllDone 22 = .ok (.invokevirtual 217, 3) := by decide +kernel
theorem dX3_minutesTillAllDone_25 : decode cX3_minutesTillAllDone 25 = .ok (.iinc 1 1, 3) := by decide +kernel
theorem dX3_minutesTillAllDone_28 : decode cX3_minutesTillAllDone 28 = .ok (.goto (-26), 3) := by decide +kernel
theorem dX3_minutesTillAllDone_31 : decode cX3_minutesTillAllDone 31 = .ok (.iload_n 1, 1) := by decide +kernel
theorem dX3_minutesTillAllDone_32 : decode cX3_minutesTillAllDone 32 = .ok (.ireturn, 1) := by decide +kernel
theorem dX3_minutesOfAllTogether_0 : decode cX3_minutesOfAllTogether 0 = .ok (.iconst 0, 1) := by decide +kernel
theorem dX3_minutesOfAllTogether_1 : decode cX3_minutesOfAllTogether 1 = .ok (.istore_n 1, 1) := by decide +kernel
theorem dX3_minutesOfAllTogether_2 : decode cX3_minutesOfAllTogether 2 = .ok (.iconst 0, 1) := by decide +kernel
theorem dX3_minutesOfAllTogether_3 : decode cX3_minutesOfAllTogether 3 = .ok (.istore_n 2, 1) := by decide +kernel
theorem dX3_minutesOfAllTogether_4 : decode cX3_minutesOfAllTogether 4 = .ok (.iload_n 2, 1) := by decide +kernel
theorem dX3_minutesOfAllTogether_5 : decode cX3_minutesOfAllTogether 5 = .ok (.bipush 100, 2) := by decide +kernel
theorem dX3_minutesOfAllTogether_7 : decode cX3_minutesOfAllTogether 7 = .ok (.if_icmp .ge 26, 3) := by decide +kernel
theorem dX3_minutesOfAllTogether_10 : decode cX3_minutesOfAllTogether 10 = .ok (.iload_n 1, 1) := by decide +kernel
theorem dX3_minutesOfAllTogether_11 : decode cX3_minutesOfAllTogether 11 = .ok (.aload_n 0, 1) := by decide +kernel
theorem dX3_minutesOfAllTogether_12 : decode cX3_minutesOfAllTogether 12 = .ok (.getfield 16, 3) := by decide +kernel
theorem dX3_minutesOfAllTogether_15 : decode cX3_minutesOfAllTogether 15 = .ok (.invokevirtual 248, 3) := by decide +kernel
theorem dX3_minutesOfAllTogether_18 : decode cX3_minutesOfAllTogether 18 = .ok (.iadd, 1) := by decide +kernel
theorem dX3_minutesOfAllTogether_19 : decode cX3_minutesOfAllTogether 19 = .ok (.istore_n 1, 1) := by decide +kernel
theorem dX3_minutesOfAllTogether_20 : decode cX3_minutesOfAllTogether 20 = .ok (.aload_n 0, 1) := by decide +kernel
theorem dX3_minutesOfAllTogether_21 : decode cX3_minutesOfAllTogether 21 = .ok (.getfield 16, 3) := by decide +kernel
theorem dX3_minutesOfAllTogether_24 : decode cX3_minutesOfAllTogether 24 = .ok (.invokevirtual 217, 3) := by decide +kernel
theorem dX3_minutesOfAllTogether_27 : decode cX3_minutesOfAllTogether 27 = .ok (.iinc 2 1, 3) := by decide +kernel
theorem dX3_minutesOfAllTogether_30 : decode cX3_minutesOfAllTogether 30 = .ok (.goto (-26), 3) := by decide +kernel
theorem dX3_minutesOfAllTogether_33 : decode cX3_minutesOfAllTogether 33 = .ok (.iload_n 1, 1) := by decide +kernel
theorem dX3_minutesOfAllTogether_34 : decode cX3_minutesOfAllTogether 34 = .ok (.ireturn, 1) := by decide +kernel
theorem dX3_firstDone_0 : decode cX3_firstDone 0 = .ok (.iconst 0, 1) := by decide +kernel
theorem dX3_firstDone_1 : decode cX3_firstDone 1 = .ok (.istore_n 1, 1) := by decide +kernel
theorem dX3_firstDone_2 : decode cX3_firstDone 2 = .ok (.iload_n 1, 1) := by decide +kernel
theorem dX3_firstDone_3 : decode cX3_firstDone 3 = .ok (.bipush 99, 2) := by decide +kernel
theorem dX3_firstDone_5 : decode cX3_firstDone 5 = .ok (.if_icmp .gt 48, 3) := by decide +kernel
theorem dX3_firstDone_8 : decode cX3_firstDone 8 = .ok (.iconst 0, 1) := by decide +kernel
theorem dX3_firstDone_9 : decode cX3_firstDone 9 = .ok (.istore_n 2, 1) := by decide +kernel
theorem dX3_firstDone_10 : decode cX3_firstDone 10 = .ok (.iload_n 2, 1) := by decide +kernel
theorem dX3_firstDone_11 : decode cX3_firstDone 11 = .ok (.aload_n 0, 1) := by decide +kernel
theorem dX3_firstDone_12 : decode cX3_firstDone 12 = .ok (.getfield 16, 3) := by decide +kernel
theorem dX3_firstDone_15 : decode cX3_firstDone 15 = .ok (.getfield 188, 3) := by decide +kernel
theorem dX3_firstDone_18 : decode cX3_firstDone 18 = .ok (.if_icmp .ge 22, 3) := by decide +kernel
theorem dX3_firstDone_21 : decode cX3_firstDone 21 = .ok (.aload_n 0, 1) := by decide +kernel
theorem dX3_firstDone_22 : decode cX3_firstDone 22 = .ok (.getfield 16, 3) := by decide +kernel
theorem dX3_firstDone_25 : decode cX3_firstDone 25 = .ok (.iload_n 2, 1) := by decide +kernel
theorem dX3_firstDone_26 : decode cX3_firstDone 26 = .ok (.invokevirtual 245, 3) := by decide +kernel
theorem dX3_firstDone_29 : decode cX3_firstDone 29 = .ok (.ifCond .eq 5, 3) := by decide +kernel
theorem dX3_firstDone_32 : decode cX3_firstDone 32 = .ok (.iload_n 2, 1) := by decide +kernel
theorem dX3_firstDone_33 : decode cX3_firstDone 33 = .ok (.ireturn, 1) := by decide +kernel
theorem dX3_firstDone_34 : decode cX3_firstDone 34 = .ok (.iinc 2 1, 3) := by decide +kernel
theorem dX3_firstDone_37 : decode cX3_firstDone 37 = .ok (.goto (-27), 3) := by decide +kernel
theorem dX3_firstDone_40 : decode cX3_firstDone 40 = .ok (.aload_n 0, 1) := by decide +kernel
theorem dX3_firstDone_41 : decode cX3_firstDone 41 = .ok (.getfield 16, 3) := by decide +kernel
theorem dX3_firstDone_44 : decode cX3_firstDone 44 = .ok (.invokevirtual 217, 3) := by decide +kernel
theorem dX3_firstDone_47 : decode cX3_firstDone 47 = .ok (.iinc 1 1, 3) := by decide +kernel
theorem dX3_firstDone_50 : decode cX3_firstDone 50 = .ok (.goto (-48), 3) := by decide +kernel
theorem dX3_firstDone_53 : decode cX3_firstDone 53 = .ok (.bipush (-9), 2) := by decide +kernel
theorem dX3_firstDone_55 : decode cX3_firstDone 55 = .ok (.ireturn, 1) := by decide +kernel
theorem dX3_fullest_0 : decode cX3_fullest 0 = .ok (.iconst (-1), 1) := by decide +kernel
theorem dX3_fullest_1 : decode cX3_fullest 1 = .ok (.istore_n 3, 1) := by decide +kernel
theorem dX3_fullest_2 : decode cX3_fullest 2 = .ok (.iconst 0, 1) := by decide +kernel
theorem dX3_fullest_3 : decode cX3_fullest 3 = .ok (.istore 4, 2) := by decide +kernel
theorem dX3_fullest_5 : decode cX3_fullest 5 = .ok (.iconst 0, 1) := by decide +kernel
theorem dX3_fullest_6 : decode cX3_fullest 6 = .ok (.istore 5, 2) := by decide +kernel
theorem dX3_fullest_8 : decode cX3_fullest 8 = .ok (.iconst 0, 1) := by decide +kernel
theorem dX3_fullest_9 : decode cX3_fullest 9 = .ok (.istore 6, 2) := by decide +kernel
theorem dX3_fullest_11 : decode cX3_fullest 11 = .ok (.iload 6, 2) := by decide +kernel
theorem dX3_fullest_13 : decode cX3_fullest 13 = .ok (.iload_n 1, 1) := by decide +kernel
theorem dX3_fullest_14 : decode cX3_fullest 14 = .ok (.if_icmp .gt 60, 3) := by decide +kernel
theorem dX3_fullest_17 : decode cX3_fullest 17 = .ok (.iconst 0, 1) := by decide +kernel
theorem dX3_fullest_18 : decode cX3_fullest 18 = .ok (.istore 7, 2) := by decide +kernel
theorem dX3_fullest_20 : decode cX3_fullest 20 = .ok (.iload 7, 2) := by decide +kernel
theorem dX3_fullest_22 : decode cX3_fullest 22 = .ok (.bipush 7, 2) := by decide +kernel
theorem dX3_fullest_24 : decode cX3_fullest 24 = .ok (.if_icmp .ge 37, 3) := by decide +kernel
theorem dX3_fullest_27 : decode cX3_fullest 27 = .ok (.aload_n 0, 1) := by decide +kernel
theorem dX3_fullest_28 : decode cX3_fullest 28 = .ok (.getfield 16, 3) := by decide +kernel
theorem dX3_fullest_31 : decode cX3_fullest 31 = .ok (.iload 7, 2) := by decide +kernel
theorem dX3_fullest_33 : decode cX3_fullest 33 = .ok (.invokevirtual 251, 3) := by decide +kernel
theorem dX3_fullest_36 : decode cX3_fullest 36 = .ok (.istore 8, 2) := by decide +kernel
theorem dX3_fullest_38 : decode cX3_fullest 38 = .ok (.iload 8, 2) := by decide +kernel
theorem dX3_fullest_40 : decode cX3_fullest 40 = .ok (.iload_n 3, 1) := by decide +kernel
theorem dX3_fullest_41 : decode cX3_fullest 41 = .ok (.if_icmp .le 14, 3) := by decide +kernel
theorem dX3_fullest_44 : decode cX3_fullest 44 = .ok (.iload 8, 2) := by decide +kernel
theorem dX3_fullest_46 : decode cX3_fullest 46 = .ok (.istore_n 3, 1) := by decide +kernel
theorem dX3_fullest_47 : decode cX3_fullest 47 = .ok (.iload 6, 2) := by decide +kernel
theorem dX3_fullest_49 : decode cX3_fullest 49 = .ok (.istore 4, 2) := by decide +kernel
theorem dX3_fullest_51 : decode cX3_fullest 51 = .ok (.iload 7, 2) := by decide +kernel
theorem dX3_fullest_53 : decode cX3_fullest 53 = .ok (.istore 5, 2) := by decide +kernel
theorem dX3_fullest_55 : decode cX3_fullest 55 = .ok (.iinc 7 1, 3) := by decide +kernel
theorem dX3_fullest_58 : decode cX3_fullest 58 = .ok (.goto (-38), 3) := by decide +kernel
theorem dX3_fullest_61 : decode cX3_fullest 61 = .ok (.aload_n 0, 1) := by decide +kernel
theorem dX3_fullest_62 : decode cX3_fullest 62 = .ok (.getfield 16, 3) := by decide +kernel
theorem dX3_fullest_65 : decode cX3_fullest 65 = .ok (.invokevirtual 217, 3) := by decide +kernel
theorem dX3_fullest_68 : decode cX3_fullest 68 = .ok (.iinc 6 1, 3) := by decide +kernel
theorem dX3_fullest_71 : decode cX3_fullest 71 = .ok (.goto (-60), 3) := by decide +kernel
theorem dX3_fullest_74 : decode cX3_fullest 74 = .ok (.iload_n 2, 1) := by decide +kernel
theorem dX3_fullest_75 : decode cX3_fullest 75 = .ok (.ifCond .ne 5, 3) := by decide +kernel
theorem dX3_fullest_78 : decode cX3_fullest 78 = .ok (.iload_n 3, 1) := by decide +kernel
theorem dX3_fullest_79 : decode cX3_fullest 79 = .ok (.ireturn, 1) := by decide +kernel
theorem dX3_fullest_80 : decode cX3_fullest 80 = .ok (.iload_n 2, 1) := by decide +kernel
theorem dX3_fullest_81 : decode cX3_fullest 81 = .ok (.iconst 1, 1) := by decide +kernel
theorem dX3_fullest_82 : decode cX3_fullest 82 = .ok (.if_icmp .ne 8, 3) := by decide +kernel
theorem dX3_fullest_85 : decode cX3_fullest 85 = .ok (.iload 4, 2) := by decide +kernel
theorem dX3_fullest_87 : decode cX3_fullest 87 = .ok (.goto 5, 3) := by decide +kernel
theorem dX3_fullest_90 : decode cX3_fullest 90 = .ok (.iload 5, 2) := by decide +kernel
theorem dX3_fullest_92 : decode cX3_fullest 92 = .ok (.ireturn, 1) := by decide +kernel
theorem dX3_soonestFirst_0 : decode cX3_soonestFirst 0 = .ok (.bipush (-9), 2) := by decide +kernel
theorem dX3_soonestFirst_2 : decode cX3_soonestFirst 2 = .ok (.istore_n 2, 1) := by decide +kernel
theorem dX3_soonestFirst_3 : decode cX3_soonestFirst 3 = .ok (.bipush 100, 2) := by decide +kernel
theorem dX3_soonestFirst_5 : decode cX3_soonestFirst 5 = .ok (.istore_n 3, 1) := by decide +kernel
theorem dX3_soonestFirst_6 : decode cX3_soonestFirst 6 = .ok (.iconst 0, 1) := by decide +kernel
theorem dX3_soonestFirst_7 : decode cX3_soonestFirst 7 = .ok (.istore 4, 2) := by decide +kernel
theorem dX3_soonestFirst_9 : decode cX3_soonestFirst 9 = .ok (.iload 4, 2) := by decide +kernel
theorem dX3_soonestFirst_11 : decode cX3_soonestFirst 11 = .ok (.bipush 8, 2) := by decide +kernel
theorem dX3_soonestFirst_13 : decode cX3_soonestFirst 13 = .ok (.if_icmp .ge 43, 3) := by decide +kernel
theorem dX3_soonestFirst_16 : decode cX3_soonestFirst 16 = .ok (.aload_n 0, 1) := by decide +kernel
theorem dX3_soonestFirst_17 : decode cX3_soonestFirst 17 = .ok (.invokevirtual 161, 3) := by decide +kernel
theorem dX3_soonestFirst_20 : decode cX3_soonestFirst 20 = .ok (.aload_n 0, 1) := by decide +kernel
theorem dX3_soonestFirst_21 : decode cX3_soonestFirst 21 = .ok (.getfield 16, 3) := by decide +kernel
theorem dX3_soonestFirst_24 : decode cX3_soonestFirst 24 = .ok (.getfield 109, 3) := by decide +kernel
theorem dX3_soonestFirst_27 : decode cX3_soonestFirst 27 = .ok (.iload_n 1, 1) := by decide +kernel
theorem dX3_soonestFirst_28 : decode cX3_soonestFirst 28 = .ok (.iload 4, 2) := by decide +kernel
theorem dX3_soonestFirst_30 : decode cX3_soonestFirst 30 = .ok (.iastore, 1) := by decide +kernel
theorem dX3_soonestFirst_31 : decode cX3_soonestFirst 31 = .ok (.aload_n 0, 1) := by decide +kernel
theorem dX3_soonestFirst_32 : decode cX3_soonestFirst 32 = .ok (.iload_n 1, 1) := by decide +kernel
theorem dX3_soonestFirst_33 : decode cX3_soonestFirst 33 = .ok (.invokevirtual 164, 3) := by decide +kernel
theorem dX3_soonestFirst_36 : decode cX3_soonestFirst 36 = .ok (.istore 5, 2) := by decide +kernel
theorem dX3_soonestFirst_38 : decode cX3_soonestFirst 38 = .ok (.iload 5, 2) := by decide +kernel
theorem dX3_soonestFirst_40 : decode cX3_soonestFirst 40 = .ok (.iload_n 3, 1) := by decide +kernel
theorem dX3_soonestFirst_41 : decode cX3_soonestFirst 41 = .ok (.if_icmp .ge 9, 3) := by decide +kernel
theorem dX3_soonestFirst_44 : decode cX3_soonestFirst 44 = .ok (.iload 5, 2) := by decide +kernel
theorem dX3_soonestFirst_46 : decode cX3_soonestFirst 46 = .ok (.istore_n 3, 1) := by decide +kernel
theorem dX3_soonestFirst_47 : decode cX3_soonestFirst 47 = .ok (.iload 4, 2) := by decide +kernel
theorem dX3_soonestFirst_49 : decode cX3_soonestFirst 49 = .ok (.istore_n 2, 1) := by decide +kernel
theorem dX3_soonestFirst_50 : decode cX3_soonestFirst 50 = .ok (.iinc 4 1, 3) := by decide +kernel
theorem dX3_soonestFirst_53 : decode cX3_soonestFirst 53 = .ok (.goto (-44), 3) := by decide +kernel
theorem dX3_soonestFirst_56 : decode cX3_soonestFirst 56 = .ok (.iload_n 2, 1) := by decide +kernel
theorem dX3_soonestFirst_57 : decode cX3_soonestFirst 57 = .ok (.ireturn, 1) := by decide +kernel
theorem dX3_truestFirst_0 : decode cX3_truestFirst 0 = .ok (.iconst 0, 1) := by decide +kernel
theorem dX3_truestFirst_1 : decode cX3_truestFirst 1 = .ok (.istore_n 2, 1) := by decide +kernel
theorem dX3_truestFirst_2 : decode cX3_truestFirst 2 = .ok (.iconst (-1), 1) := by decide +kernel
theorem dX3_truestFirst_3 : decode cX3_truestFirst 3 = .ok (.istore_n 3, 1) := by decide +kernel
theorem dX3_truestFirst_4 : decode cX3_truestFirst 4 = .ok (.iconst 0, 1) := by decide +kernel
theorem dX3_truestFirst_5 : decode cX3_truestFirst 5 = .ok (.istore 4, 2) := by decide +kernel
theorem dX3_truestFirst_7 : decode cX3_truestFirst 7 = .ok (.iload 4, 2) := by decide +kernel
theorem dX3_truestFirst_9 : decode cX3_truestFirst 9 = .ok (.bipush 8, 2) := by decide +kernel
theorem dX3_truestFirst_11 : decode cX3_truestFirst 11 = .ok (.if_icmp .ge 55, 3) := by decide +kernel
theorem dX3_truestFirst_14 : decode cX3_truestFirst 14 = .ok (.aload_n 0, 1) := by decide +kernel
theorem dX3_truestFirst_15 : decode cX3_truestFirst 15 = .ok (.invokevirtual 161, 3) := by decide +kernel
theorem dX3_truestFirst_18 : decode cX3_truestFirst 18 = .ok (.aload_n 0, 1) := by decide +kernel
theorem dX3_truestFirst_19 : decode cX3_truestFirst 19 = .ok (.getfield 16, 3) := by decide +kernel
theorem dX3_truestFirst_22 : decode cX3_truestFirst 22 = .ok (.getfield 109, 3) := by decide +kernel
theorem dX3_truestFirst_25 : decode cX3_truestFirst 25 = .ok (.iload_n 1, 1) := by decide +kernel
theorem dX3_truestFirst_26 : decode cX3_truestFirst 26 = .ok (.iload 4, 2) := by decide +kernel
theorem dX3_truestFirst_28 : decode cX3_truestFirst 28 = .ok (.iastore, 1) := by decide +kernel
theorem dX3_truestFirst_29 : decode cX3_truestFirst 29 = .ok (.aload_n 0, 1) := by decide +kernel
theorem dX3_truestFirst_30 : decode cX3_truestFirst 30 = .ok (.getfield 16, 3) := by decide +kernel
theorem dX3_truestFirst_33 : decode cX3_truestFirst 33 = .ok (.bipush 99, 2) := by decide +kernel
theorem dX3_truestFirst_35 : decode cX3_truestFirst 35 = .ok (.invokevirtual 142, 3) := by decide +kernel
theorem dX3_truestFirst_38 : decode cX3_truestFirst 38 = .ok (.aload_n 0, 1) := by decide +kernel
theorem dX3_truestFirst_39 : decode cX3_truestFirst 39 = .ok (.getfield 16, 3) := by decide +kernel
theorem dX3_truestFirst_42 : decode cX3_truestFirst 42 = .ok (.iload_n 1, 1) := by decide +kernel
theorem dX3_truestFirst_43 : decode cX3_truestFirst 43 = .ok (.invokevirtual 155, 3) := by decide +kernel
theorem dX3_truestFirst_46 : decode cX3_truestFirst 46 = .ok (.istore 5, 2) := by decide +kernel
theorem dX3_truestFirst_48 : decode cX3_truestFirst 48 = .ok (.iload 5, 2) := by decide +kernel
theorem dX3_truestFirst_50 : decode cX3_truestFirst 50 = .ok (.iload_n 3, 1) := by decide +kernel
theorem dX3_truestFirst_51 : decode cX3_truestFirst 51 = .ok (.if_icmp .le 9, 3) := by decide +kernel
theorem dX3_truestFirst_54 : decode cX3_truestFirst 54 = .ok (.iload 5, 2) := by decide +kernel
theorem dX3_truestFirst_56 : decode cX3_truestFirst 56 = .ok (.istore_n 3, 1) := by decide +kernel
theorem dX3_truestFirst_57 : decode cX3_truestFirst 57 = .ok (.iload 4, 2) := by decide +kernel
theorem dX3_truestFirst_59 : decode cX3_truestFirst 59 = .ok (.istore_n 2, 1) := by decide +kernel
theorem dX3_truestFirst_60 : decode cX3_truestFirst 60 = .ok (.iinc 4 1, 3) := by decide +kernel
theorem dX3_truestFirst_63 : decode cX3_truestFirst 63 = .ok (.goto (-56), 3) := by decide +kernel
theorem dX3_truestFirst_66 : decode cX3_truestFirst 66 = .ok (.iload_n 2, 1) := by decide +kernel
theorem dX3_truestFirst_67 : decode cX3_truestFirst 67 = .ok (.ireturn, 1) := by decide +kernel
theorem dX3_firstsApart_0 : decode cX3_firstsApart 0 = .ok (.aload_n 0, 1) := by decide +kernel
theorem dX3_firstsApart_1 : decode cX3_firstsApart 1 = .ok (.invokevirtual 161, 3) := by decide +kernel
theorem dX3_firstsApart_4 : decode cX3_firstsApart 4 = .ok (.aload_n 0, 1) := by decide +kernel
theorem dX3_firstsApart_5 : decode cX3_firstsApart 5 = .ok (.iconst 0, 1) := by decide +kernel
theorem dX3_firstsApart_6 : decode cX3_firstsApart 6 = .ok (.iconst 0, 1) := by decide +kernel
theorem dX3_firstsApart_7 : decode cX3_firstsApart 7 = .ok (.invokevirtual 179, 3) := by decide +kernel
theorem dX3_firstsApart_10 : decode cX3_firstsApart 10 = .ok (.istore_n 1, 1) := by decide +kernel
theorem dX3_firstsApart_11 : decode cX3_firstsApart 11 = .ok (.iconst 0, 1) := by decide +kernel
theorem dX3_firstsApart_12 : decode cX3_firstsApart 12 = .ok (.istore_n 2, 1) := by decide +kernel
theorem dX3_firstsApart_13 : decode cX3_firstsApart 13 = .ok (.aload_n 0, 1) := by decide +kernel
theorem dX3_firstsApart_14 : decode cX3_firstsApart 14 = .ok (.iconst 0, 1) := by decide +kernel
theorem dX3_firstsApart_15 : decode cX3_firstsApart 15 = .ok (.invokevirtual 197, 3) := by decide +kernel
theorem dX3_firstsApart_18 : decode cX3_firstsApart 18 = .ok (.istore_n 3, 1) := by decide +kernel
theorem dX3_firstsApart_19 : decode cX3_firstsApart 19 = .ok (.iconst 1, 1) := by decide +kernel
theorem dX3_firstsApart_20 : decode cX3_firstsApart 20 = .ok (.iconst 3, 1) := by decide +kernel
theorem dX3_firstsApart_21 : decode cX3_firstsApart 21 = .ok (.aload_n 0, 1) := by decide +kernel
theorem dX3_firstsApart_22 : decode cX3_firstsApart 22 = .ok (.getfield 10, 3) := by decide +kernel
theorem dX3_firstsApart_25 : decode cX3_firstsApart 25 = .ok (.getfield 188, 3) := by decide +kernel
theorem dX3_firstsApart_28 : decode cX3_firstsApart 28 = .ok (.imul, 1) := by decide +kernel
theorem dX3_firstsApart_29 : decode cX3_firstsApart 29 = .ok (.ishl, 1) := by decide +kernel
theorem dX3_firstsApart_30 : decode cX3_firstsApart 30 = .ok (.istore 4, 2) := by decide +kernel
theorem dX3_firstsApart_32 : decode cX3_firstsApart 32 = .ok (.iconst 1, 1) := by decide +kernel
theorem dX3_firstsApart_33 : decode cX3_firstsApart 33 = .ok (.istore 5, 2) := by decide +kernel
theorem dX3_firstsApart_35 : decode cX3_firstsApart 35 = .ok (.iload 5, 2) := by decide +kernel
theorem dX3_firstsApart_37 : decode cX3_firstsApart 37 = .ok (.iload 4, 2) := by decide +kernel
theorem dX3_firstsApart_39 : decode cX3_firstsApart 39 = .ok (.if_icmp .ge 34, 3) := by decide +kernel
theorem dX3_firstsApart_42 : decode cX3_firstsApart 42 = .ok (.iload_n 3, 1) := by decide +kernel
theorem dX3_firstsApart_43 : decode cX3_firstsApart 43 = .ok (.iload_n 1, 1) := by decide +kernel
theorem dX3_firstsApart_44 : decode cX3_firstsApart 44 = .ok (.if_icmp .le 29, 3) := by decide +kernel
theorem dX3_firstsApart_47 : decode cX3_firstsApart 47 = .ok (.aload_n 0, 1) := by decide +kernel
theorem dX3_firstsApart_48 : decode cX3_firstsApart 48 = .ok (.iload 5, 2) := by decide +kernel
theorem dX3_firstsApart_50 : decode cX3_firstsApart 50 = .ok (.invokevirtual 197, 3) := by decide +kernel
theorem dX3_firstsApart_53 : decode cX3_firstsApart 53 = .ok (.istore 6, 2) := by decide +kernel
theorem dX3_firstsApart_55 : decode cX3_firstsApart 55 = .ok (.iload 6, 2) := by decide +kernel
theorem dX3_firstsApart_57 : decode cX3_firstsApart 57 = .ok (.iload_n 3, 1) := by decide +kernel
theorem dX3_firstsApart_58 : decode cX3_firstsApart 58 = .ok (.if_icmp .ge 9, 3) := by decide +kernel
theorem dX3_firstsApart_61 : decode cX3_firstsApart 61 = .ok (.iload 6, 2) := by decide +kernel
theorem dX3_firstsApart_63 : decode cX3_firstsApart 63 = .ok (.istore_n 3, 1) := by decide +kernel
theorem dX3_firstsApart_64 : decode cX3_firstsApart 64 = .ok (.iload 5, 2) := by decide +kernel
theorem dX3_firstsApart_66 : decode cX3_firstsApart 66 = .ok (.istore_n 2, 1) := by decide +kernel
theorem dX3_firstsApart_67 : decode cX3_firstsApart 67 = .ok (.iinc 5 1, 3) := by decide +kernel
theorem dX3_firstsApart_70 : decode cX3_firstsApart 70 = .ok (.goto (-35), 3) := by decide +kernel
theorem dX3_firstsApart_73 : decode cX3_firstsApart 73 = .ok (.iload_n 2, 1) := by decide +kernel
theorem dX3_firstsApart_74 : decode cX3_firstsApart 74 = .ok (.ireturn, 1) := by decide +kernel
theorem dX3_firstIn_0 : decode cX3_firstIn 0 = .ok (.iload_n 1, 1) := by decide +kernel
theorem dX3_firstIn_1 : decode cX3_firstIn 1 = .ok (.iconst 3, 1) := by decide +kernel
theorem dX3_firstIn_2 : decode cX3_firstIn 2 = .ok (.aload_n 0, 1) := by decide +kernel
theorem dX3_firstIn_3 : decode cX3_firstIn 3 = .ok (.getfield 10, 3) := by decide +kernel
theorem dX3_firstIn_6 : decode cX3_firstIn 6 = .ok (.getfield 188, 3) := by decide +kernel
theorem dX3_firstIn_9 : decode cX3_firstIn 9 = .ok (.iconst 1, 1) := by decide +kernel
theorem dX3_firstIn_10 : decode cX3_firstIn 10 = .ok (.isub, 1) := by decide +kernel
theorem dX3_firstIn_11 : decode cX3_firstIn 11 = .ok (.iload_n 2, 1) := by decide +kernel
theorem dX3_firstIn_12 : decode cX3_firstIn 12 = .ok (.isub, 1) := by decide +kernel
theorem dX3_firstIn_13 : decode cX3_firstIn 13 = .ok (.imul, 1) := by decide +kernel
theorem dX3_firstIn_14 : decode cX3_firstIn 14 = .ok (.ishr, 1) := by decide +kernel
theorem dX3_firstIn_15 : decode cX3_firstIn 15 = .ok (.bipush 7, 2) := by decide +kernel
theorem dX3_firstIn_17 : decode cX3_firstIn 17 = .ok (.iand, 1) := by decide +kernel
theorem dX3_firstIn_18 : decode cX3_firstIn 18 = .ok (.ireturn, 1) := by decide +kernel
theorem dX3_fullestWith_0 : decode cX3_fullestWith 0 = .ok (.aload_n 0, 1) := by decide +kernel
theorem dX3_fullestWith_1 : decode cX3_fullestWith 1 = .ok (.invokevirtual 161, 3) := by decide +kernel
theorem dX3_fullestWith_4 : decode cX3_fullestWith 4 = .ok (.iconst 0, 1) := by decide +kernel
theorem dX3_fullestWith_5 : decode cX3_fullestWith 5 = .ok (.istore_n 2, 1) := by decide +kernel
theorem dX3_fullestWith_6 : decode cX3_fullestWith 6 = .ok (.iload_n 2, 1) := by decide +kernel
theorem dX3_fullestWith_7 : decode cX3_fullestWith 7 = .ok (.aload_n 0, 1) := by decide +kernel
theorem dX3_fullestWith_8 : decode cX3_fullestWith 8 = .ok (.getfield 16, 3) := by decide +kernel
theorem dX3_fullestWith_11 : decode cX3_fullestWith 11 = .ok (.getfield 188, 3) := by decide +kernel
theorem dX3_fullestWith_14 : decode cX3_fullestWith 14 = .ok (.if_icmp .ge 24, 3) := by decide +kernel
theorem dX3_fullestWith_17 : decode cX3_fullestWith 17 = .ok (.aload_n 0, 1) := by decide +kernel
theorem dX3_fullestWith_18 : decode cX3_fullestWith 18 = .ok (.getfield 16, 3) := by decide +kernel
theorem dX3_fullestWith_21 : decode cX3_fullestWith 21 = .ok (.getfield 109, 3) := by decide +kernel
theorem dX3_fullestWith_24 : decode cX3_fullestWith 24 = .ok (.iload_n 2, 1) := by decide +kernel
theorem dX3_fullestWith_25 : decode cX3_fullestWith 25 = .ok (.aload_n 0, 1) := by decide +kernel
theorem dX3_fullestWith_26 : decode cX3_fullestWith 26 = .ok (.iload_n 1, 1) := by decide +kernel
theorem dX3_fullestWith_27 : decode cX3_fullestWith 27 = .ok (.iload_n 2, 1) := by decide +kernel
theorem dX3_fullestWith_28 : decode cX3_fullestWith 28 = .ok (.invokevirtual 194, 3) := by decide +kernel
theorem dX3_fullestWith_31 : decode cX3_fullestWith 31 = .ok (.iastore, 1) := by decide +kernel
theorem dX3_fullestWith_32 : decode cX3_fullestWith 32 = .ok (.iinc 2 1, 3) := by decide +kernel
theorem dX3_fullestWith_35 : decode cX3_fullestWith 35 = .ok (.goto (-29), 3) := by decide +kernel
theorem dX3_fullestWith_38 : decode cX3_fullestWith 38 = .ok (.aload_n 0, 1) := by decide +kernel
theorem dX3_fullestWith_39 : decode cX3_fullestWith 39 = .ok (.bipush 30, 2) := by decide +kernel
theorem dX3_fullestWith_41 : decode cX3_fullestWith 41 = .ok (.iconst 0, 1) := by decide +kernel
theorem dX3_fullestWith_42 : decode cX3_fullestWith 42 = .ok (.invokevirtual 179, 3) := by decide +kernel
theorem dX3_fullestWith_45 : decode cX3_fullestWith 45 = .ok (.ireturn, 1) := by decide +kernel
theorem dX3_isContent_0 : decode cX3_isContent 0 = .ok (.aload_n 0, 1) := by decide +kernel
theorem dX3_isContent_1 : decode cX3_isContent 1 = .ok (.iload_n 1, 1) := by decide +kernel
theorem dX3_isContent_2 : decode cX3_isContent 2 = .ok (.iload_n 2, 1) := by decide +kernel
theorem dX3_isContent_3 : decode cX3_isContent 3 = .ok (.iload_n 3, 1) := by decide +kernel
theorem dX3_isContent_4 : decode cX3_isContent 4 = .ok (.iload 4, 2) := by decide +kernel
theorem dX3_isContent_6 : decode cX3_isContent 6 = .ok (.invokevirtual 254, 3) := by decide +kernel
theorem dX3_isContent_9 : decode cX3_isContent 9 = .ok (.aload_n 0, 1) := by decide +kernel
theorem dX3_isContent_10 : decode cX3_isContent 10 = .ok (.iload_n 1, 1) := by decide +kernel
theorem dX3_isContent_11 : decode cX3_isContent 11 = .ok (.iconst 1, 1) := by decide +kernel
theorem dX3_isContent_12 : decode cX3_isContent 12 = .ok (.iload_n 2, 1) := by decide +kernel
theorem dX3_isContent_13 : decode cX3_isContent 13 = .ok (.isub, 1) := by decide +kernel
theorem dX3_isContent_14 : decode cX3_isContent 14 = .ok (.iload_n 3, 1) := by decide +kernel
theorem dX3_isContent_15 : decode cX3_isContent 15 = .ok (.iload 4, 2) := by decide +kernel
theorem dX3_isContent_17 : decode cX3_isContent 17 = .ok (.invokevirtual 254, 3) := by decide +kernel
theorem dX3_isContent_20 : decode cX3_isContent 20 = .ok (.if_icmp .gt 7, 3) := by decide +kernel
theorem dX3_isContent_23 : decode cX3_isContent 23 = .ok (.iconst 1, 1) := by decide +kernel
theorem dX3_isContent_24 : decode cX3_isContent 24 = .ok (.goto 4, 3) := by decide +kernel
theorem dX3_isContent_27 : decode cX3_isContent 27 = .ok (.iconst 0, 1) := by decide +kernel
theorem dX3_isContent_28 : decode cX3_isContent 28 = .ok (.ireturn, 1) := by decide +kernel
theorem dX3_minutesByChoice_0 : decode cX3_minutesByChoice 0 = .ok (.aload_n 0, 1) := by decide +kernel
theorem dX3_minutesByChoice_1 : decode cX3_minutesByChoice 1 = .ok (.invokevirtual 161, 3) := by decide +kernel
theorem dX3_minutesByChoice_4 : decode cX3_minutesByChoice 4 = .ok (.aload_n 0, 1) := by decide +kernel
theorem dX3_minutesByChoice_5 : decode cX3_minutesByChoice 5 = .ok (.getfield 16, 3) := by decide +kernel
theorem dX3_minutesByChoice_8 : decode cX3_minutesByChoice 8 = .ok (.getfield 109, 3) := by decide +kernel
theorem dX3_minutesByChoice_11 : decode cX3_minutesByChoice 11 = .ok (.iload_n 1, 1) := by decide +kernel
theorem dX3_minutesByChoice_12 : decode cX3_minutesByChoice 12 = .ok (.aload_n 0, 1) := by decide +kernel
theorem dX3_minutesByChoice_13 : decode cX3_minutesByChoice 13 = .ok (.iload_n 1, 1) := by decide +kernel
theorem dX3_minutesByChoice_14 : decode cX3_minutesByChoice 14 = .ok (.iload_n 2, 1) := by decide +kernel
theorem dX3_minutesByChoice_15 : decode cX3_minutesByChoice 15 = .ok (.invokevirtual 258, 3) := by decide +kernel
theorem dX3_minutesByChoice_18 : decode cX3_minutesByChoice 18 = .ok (.iastore, 1) := by decide +kernel
theorem dX3_minutesByChoice_19 : decode cX3_minutesByChoice 19 = .ok (.aload_n 0, 1) := by decide +kernel
theorem dX3_minutesByChoice_20 : decode cX3_minutesByChoice 20 = .ok (.getfield 16, 3) := by decide +kernel
theorem dX3_minutesByChoice_23 : decode cX3_minutesByChoice 23 = .ok (.getfield 109, 3) := by decide +kernel
theorem dX3_minutesByChoice_26 : decode cX3_minutesByChoice 26 = .ok (.iload_n 3, 1) := by decide +kernel
theorem dX3_minutesByChoice_27 : decode cX3_minutesByChoice 27 = .ok (.aload_n 0, 1) := by decide +kernel
theorem dX3_minutesByChoice_28 : decode cX3_minutesByChoice 28 = .ok (.iload_n 3, 1) := by decide +kernel
theorem dX3_minutesByChoice_29 : decode cX3_minutesByChoice 29 = .ok (.iload 4, 2) := by decide +kernel
theorem dX3_minutesByChoice_31 : decode cX3_minutesByChoice 31 = .ok (.invokevirtual 258, 3) := by decide +kernel
theorem dX3_minutesByChoice_34 : decode cX3_minutesByChoice 34 = .ok (.iastore, 1) := by decide +kernel
theorem dX3_minutesByChoice_35 : decode cX3_minutesByChoice 35 = .ok (.aload_n 0, 1) := by decide +kernel
theorem dX3_minutesByChoice_36 : decode cX3_minutesByChoice 36 = .ok (.iload_n 1, 1) := by decide +kernel
theorem dX3_minutesByChoice_37 : decode cX3_minutesByChoice 37 = .ok (.invokevirtual 164, 3) := by decide +kernel
theorem dX3_minutesByChoice_40 : decode cX3_minutesByChoice 40 = .ok (.ireturn, 1) := by decide +kernel
theorem dX3_firstChosen_0 : decode cX3_firstChosen 0 = .ok (.aload_n 0, 1) := by decide +kernel
theorem dX3_firstChosen_1 : decode cX3_firstChosen 1 = .ok (.getfield 10, 3) := by decide +kernel
theorem dX3_firstChosen_4 : decode cX3_firstChosen 4 = .ok (.getfield 109, 3) := by decide +kernel
theorem dX3_firstChosen_7 : decode cX3_firstChosen 7 = .ok (.iload_n 1, 1) := by decide +kernel
theorem dX3_firstChosen_8 : decode cX3_firstChosen 8 = .ok (.iaload, 1) := by decide +kernel
theorem dX3_firstChosen_9 : decode cX3_firstChosen 9 = .ok (.iload_n 2, 1) := by decide +kernel
theorem dX3_firstChosen_10 : decode cX3_firstChosen 10 = .ok (.iadd, 1) := by decide +kernel
theorem dX3_firstChosen_11 : decode cX3_firstChosen 11 = .ok (.bipush 8, 2) := by decide +kernel
theorem dX3_firstChosen_13 : decode cX3_firstChosen 13 = .ok (.irem, 1) := by decide +kernel
theorem dX3_firstChosen_14 : decode cX3_firstChosen 14 = .ok (.ireturn, 1) := by decide +kernel
theorem dX3_rowTellsSheetOf_0 : decode cX3_rowTellsSheetOf 0 = .ok (.iconst 0, 1) := by decide +kernel
theorem dX3_rowTellsSheetOf_1 : decode cX3_rowTellsSheetOf 1 = .ok (.istore_n 2, 1) := by decide +kernel
theorem dX3_rowTellsSheetOf_2 : decode cX3_rowTellsSheetOf 2 = .ok (.iload_n 2, 1) := by decide +kernel
theorem dX3_rowTellsSheetOf_3 : decode cX3_rowTellsSheetOf 3 = .ok (.aload_n 0, 1) := by decide +kernel
theorem dX3_rowTellsSheetOf_4 : decode cX3_rowTellsSheetOf 4 = .ok (.getfield 40, 3) := by decide +kernel
theorem dX3_rowTellsSheetOf_7 : decode cX3_rowTellsSheetOf 7 = .ok (.if_icmp .ge 53, 3) := by decide +kernel
theorem dX3_rowTellsSheetOf_10 : decode cX3_rowTellsSheetOf 10 = .ok (.iload_n 2, 1) := by decide +kernel
theorem dX3_rowTellsSheetOf_11 : decode cX3_rowTellsSheetOf 11 = .ok (.aload_n 0, 1) := by decide +kernel
theorem dX3_rowTellsSheetOf_12 : decode cX3_rowTellsSheetOf 12 = .ok (.getfield 16, 3) := by decide +kernel
theorem dX3_rowTellsSheetOf_15 : decode cX3_rowTellsSheetOf 15 = .ok (.getfield 200, 3) := by decide +kernel
theorem dX3_rowTellsSheetOf_18 : decode cX3_rowTellsSheetOf 18 = .ok (.if_icmp .ge 42, 3) := by decide +kernel
theorem dX3_rowTellsSheetOf_21 : decode cX3_rowTellsSheetOf 21 = .ok (.aload_n 0, 1) := by decide +kernel
theorem dX3_rowTellsSheetOf_22 : decode cX3_rowTellsSheetOf 22 = .ok (.getfield 16, 3) := by decide +kernel
theorem dX3_rowTellsSheetOf_25 : decode cX3_rowTellsSheetOf 25 = .ok (.iload_n 1, 1) := by decide +kernel
theorem dX3_rowTellsSheetOf_26 : decode cX3_rowTellsSheetOf 26 = .ok (.iload_n 2, 1) := by decide +kernel
theorem dX3_rowTellsSheetOf_27 : decode cX3_rowTellsSheetOf 27 = .ok (.invokevirtual 121, 3) := by decide +kernel
theorem dX3_rowTellsSheetOf_30 : decode cX3_rowTellsSheetOf 30 = .ok (.istore_n 3, 1) := by decide +kernel
theorem dX3_rowTellsSheetOf_31 : decode cX3_rowTellsSheetOf 31 = .ok (.aload_n 0, 1) := by decide +kernel
theorem dX3_rowTellsSheetOf_32 : decode cX3_rowTellsSheetOf 32 = .ok (.getfield 36, 3) := by decide +kernel
theorem dX3_rowTellsSheetOf_35 : decode cX3_rowTellsSheetOf 35 = .ok (.iload_n 2, 1) := by decide +kernel
theorem dX3_rowTellsSheetOf_36 : decode cX3_rowTellsSheetOf 36 = .ok (.iaload, 1) := by decide +kernel
theorem dX3_rowTellsSheetOf_37 : decode cX3_rowTellsSheetOf 37 = .ok (.iload_n 3, 1) := by decide +kernel
theorem dX3_rowTellsSheetOf_38 : decode cX3_rowTellsSheetOf 38 = .ok (.bipush (-9), 2) := by decide +kernel
theorem dX3_rowTellsSheetOf_40 : decode cX3_rowTellsSheetOf 40 = .ok (.if_icmp .ne 8, 3) := by decide +kernel
theorem dX3_rowTellsSheetOf_43 : decode cX3_rowTellsSheetOf 43 = .ok (.bipush 10, 2) := by decide +kernel
theorem dX3_rowTellsSheetOf_45 : decode cX3_rowTellsSheetOf 45 = .ok (.goto 4, 3) := by decide +kernel
theorem dX3_rowTellsSheetOf_48 : decode cX3_rowTellsSheetOf 48 = .ok (.iload_n 3, 1) := by decide +kernel
theorem dX3_rowTellsSheetOf_49 : decode cX3_rowTellsSheetOf 49 = .ok (.if_icmp .eq 5, 3) := by decide +kernel
theorem dX3_rowTellsSheetOf_52 : decode cX3_rowTellsSheetOf 52 = .ok (.iconst 0, 1) := by decide +kernel
theorem dX3_rowTellsSheetOf_53 : decode cX3_rowTellsSheetOf 53 = .ok (.ireturn, 1) := by decide +kernel
theorem dX3_rowTellsSheetOf_54 : decode cX3_rowTellsSheetOf 54 = .ok (.iinc 2 1, 3) := by decide +kernel
theorem dX3_rowTellsSheetOf_57 : decode cX3_rowTellsSheetOf 57 = .ok (.goto (-55), 3) := by decide +kernel
theorem dX3_rowTellsSheetOf_60 : decode cX3_rowTellsSheetOf 60 = .ok (.iconst 1, 1) := by decide +kernel
theorem dX3_rowTellsSheetOf_61 : decode cX3_rowTellsSheetOf 61 = .ok (.ireturn, 1) := by decide +kernel
theorem dX3_nextSeed_0 : decode cX3_nextSeed 0 = .ok (.iload_n 0, 1) := by decide +kernel
theorem dX3_nextSeed_1 : decode cX3_nextSeed 1 = .ok (.ldc_w 261, 3) := by decide +kernel
theorem dX3_nextSeed_4 : decode cX3_nextSeed 4 = .ok (.imul, 1) := by decide +kernel
theorem dX3_nextSeed_5 : decode cX3_nextSeed 5 = .ok (.ldc_w 262, 3) := by decide +kernel
theorem dX3_nextSeed_8 : decode cX3_nextSeed 8 = .ok (.iadd, 1) := by decide +kernel
theorem dX3_nextSeed_9 : decode cX3_nextSeed 9 = .ok (.ireturn, 1) := by decide +kernel
theorem dX3_drawn_0 : decode cX3_drawn 0 = .ok (.iload_n 0, 1) := by decide +kernel
theorem dX3_drawn_1 : decode cX3_drawn 1 = .ok (.ldc_w 263, 3) := by decide +kernel
theorem dX3_drawn_4 : decode cX3_drawn 4 = .ok (.iand, 1) := by decide +kernel
theorem dX3_drawn_5 : decode cX3_drawn 5 = .ok (.sipush 256, 3) := by decide +kernel
theorem dX3_drawn_8 : decode cX3_drawn 8 = .ok (.idiv, 1) := by decide +kernel
theorem dX3_drawn_9 : decode cX3_drawn 9 = .ok (.ireturn, 1) := by decide +kernel
theorem dX3_performAll_0 : decode cX3_performAll 0 = .ok (.aload_n 0, 1) := by decide +kernel
theorem dX3_performAll_1 : decode cX3_performAll 1 = .ok (.getfield 19, 3) := by decide +kernel
theorem dX3_performAll_4 : decode cX3_performAll 4 = .ok (.aload_n 0, 1) := by decide +kernel
theorem dX3_performAll_5 : decode cX3_performAll 5 = .ok (.getfield 10, 3) := by decide +kernel
theorem dX3_performAll_8 : decode cX3_performAll 8 = .ok (.invokevirtual 229, 3) := by decide +kernel
theorem dX3_performAll_11 : decode cX3_performAll 11 = .ok (.iconst 0, 1) := by decide +kernel
theorem dX3_performAll_12 : decode cX3_performAll 12 = .ok (.istore_n 1, 1) := by decide +kernel
theorem dX3_performAll_13 : decode cX3_performAll 13 = .ok (.iconst 0, 1) := by decide +kernel
theorem dX3_performAll_14 : decode cX3_performAll 14 = .ok (.istore_n 2, 1) := by decide +kernel
theorem dX3_performAll_15 : decode cX3_performAll 15 = .ok (.iload_n 2, 1) := by decide +kernel
theorem dX3_performAll_16 : decode cX3_performAll 16 = .ok (.aload_n 0, 1) := by decide +kernel
theorem dX3_performAll_17 : decode cX3_performAll 17 = .ok (.getfield 32, 3) := by decide +kernel
theorem dX3_performAll_20 : decode cX3_performAll 20 = .ok (.invokevirtual 239, 3) := by decide +kernel
theorem dX3_performAll_23 : decode cX3_performAll 23 = .ok (.if_icmp .ge 50, 3) := by decide +kernel
theorem dX3_performAll_26 : decode cX3_performAll 26 = .ok (.aload_n 0, 1) := by decide +kernel
theorem dX3_performAll_27 : decode cX3_performAll 27 = .ok (.iload_n 2, 1) := by decide +kernel
theorem dX3_performAll_28 : decode cX3_performAll 28 = .ok (.invokevirtual 264, 3) := by decide +kernel
theorem dX3_performAll_31 : decode cX3_performAll 31 = .ok (.ifCond .ne 20, 3) := by decide +kernel
theorem dX3_performAll_34 : decode cX3_performAll 34 = .ok (.aload_n 0, 1) := by decide +kernel
theorem dX3_performAll_35 : decode cX3_performAll 35 = .ok (.getfield 10, 3) := by decide +kernel
theorem dX3_performAll_38 : decode cX3_performAll 38 = .ok (.aload_n 0, 1) := by decide +kernel
theorem dX3_performAll_39 : decode cX3_performAll 39 = .ok (.getfield 19, 3) := by decide +kernel
theorem dX3_performAll_42 : decode cX3_performAll 42 = .ok (.invokevirtual 229, 3) := by decide +kernel
theorem dX3_performAll_45 : decode cX3_performAll 45 = .ok (.sipush (-2000), 3) := by decide +kernel
theorem dX3_performAll_48 : decode cX3_performAll 48 = .ok (.iload_n 2, 1) := by decide +kernel
theorem dX3_performAll_49 : decode cX3_performAll 49 = .ok (.isub, 1) := by decide +kernel
theorem dX3_performAll_50 : decode cX3_performAll 50 = .ok (.ireturn, 1) := by decide +kernel
theorem dX3_performAll_51 : decode cX3_performAll 51 = .ok (.iload_n 2, 1) := by decide +kernel
theorem dX3_performAll_52 : decode cX3_performAll 52 = .ok (.aload_n 0, 1) := by decide +kernel
theorem dX3_performAll_53 : decode cX3_performAll 53 = .ok (.getfield 32, 3) := by decide +kernel
theorem dX3_performAll_56 : decode cX3_performAll 56 = .ok (.iload_n 2, 1) := by decide +kernel
theorem dX3_performAll_57 : decode cX3_performAll 57 = .ok (.invokevirtual 267, 3) := by decide +kernel
theorem dX3_performAll_60 : decode cX3_performAll 60 = .ok (.invokestatic 269, 3) := by decide +kernel
theorem dX3_performAll_63 : decode cX3_performAll 63 = .ok (.iconst 2, 1) := by decide +kernel
theorem dX3_performAll_64 : decode cX3_performAll 64 = .ok (.iadd, 1) := by decide +kernel
theorem dX3_performAll_65 : decode cX3_performAll 65 = .ok (.iadd, 1) := by decide +kernel
theorem dX3_performAll_66 : decode cX3_performAll 66 = .ok (.istore_n 2, 1) := by decide +kernel
theorem dX3_performAll_67 : decode cX3_performAll 67 = .ok (.iinc 1 1, 3) := by decide +kernel
theorem dX3_performAll_70 : decode cX3_performAll 70 = .ok (.goto (-55), 3) := by decide +kernel
theorem dX3_performAll_73 : decode cX3_performAll 73 = .ok (.iload_n 1, 1) := by decide +kernel
theorem dX3_performAll_74 : decode cX3_performAll 74 = .ok (.ireturn, 1) := by decide +kernel
theorem dX3_perform_0 : decode cX3_perform 0 = .ok (.aload_n 0, 1) := by decide +kernel
theorem dX3_perform_1 : decode cX3_perform 1 = .ok (.getfield 32, 3) := by decide +kernel
theorem dX3_perform_4 : decode cX3_perform 4 = .ok (.iload_n 1, 1) := by decide +kernel
theorem dX3_perform_5 : decode cX3_perform 5 = .ok (.iconst 1, 1) := by decide +kernel
theorem dX3_perform_6 : decode cX3_perform 6 = .ok (.iadd, 1) := by decide +kernel
theorem dX3_perform_7 : decode cX3_perform 7 = .ok (.invokevirtual 272, 3) := by decide +kernel
theorem dX3_perform_10 : decode cX3_perform 10 = .ok (.istore_n 2, 1) := by decide +kernel
theorem dX3_perform_11 : decode cX3_perform 11 = .ok (.aload_n 0, 1) := by decide +kernel
theorem dX3_perform_12 : decode cX3_perform 12 = .ok (.getfield 32, 3) := by decide +kernel
theorem dX3_perform_15 : decode cX3_perform 15 = .ok (.iload_n 1, 1) := by decide +kernel
theorem dX3_perform_16 : decode cX3_perform 16 = .ok (.iconst 2, 1) := by decide +kernel
theorem dX3_perform_17 : decode cX3_perform 17 = .ok (.iadd, 1) := by decide +kernel
theorem dX3_perform_18 : decode cX3_perform 18 = .ok (.invokevirtual 272, 3) := by decide +kernel
theorem dX3_perform_21 : decode cX3_perform 21 = .ok (.istore_n 3, 1) := by decide +kernel
theorem dX3_perform_22 : decode cX3_perform 22 = .ok (.aload_n 0, 1) := by decide +kernel
theorem dX3_perform_23 : decode cX3_perform 23 = .ok (.getfield 32, 3) := by decide +kernel
theorem dX3_perform_26 : decode cX3_perform 26 = .ok (.iload_n 1, 1) := by decide +kernel
theorem dX3_perform_27 : decode cX3_perform 27 = .ok (.iconst 3, 1) := by decide +kernel
theorem dX3_perform_28 : decode cX3_perform 28 = .ok (.iadd, 1) := by decide +kernel
theorem dX3_perform_29 : decode cX3_perform 29 = .ok (.invokevirtual 272, 3) := by decide +kernel
theorem dX3_perform_32 : decode cX3_perform 32 = .ok (.istore 4, 2) := by decide +kernel
theorem dX3_perform_34 : decode cX3_perform 34 = .ok (.aload_n 0, 1) := by decide +kernel
theorem dX3_perform_35 : decode cX3_perform 35 = .ok (.getfield 32, 3) := by decide +kernel
theorem dX3_perform_38 : decode cX3_perform 38 = .ok (.iload_n 1, 1) := by decide +kernel
theorem dX3_perform_39 : decode cX3_perform 39 = .ok (.invokevirtual 267, 3) := by decide +kernel
theorem dX3_perform_42 : decode cX3_perform 42 = .ok (.lookupswitch 113 #[(97, 97), (100, 50), (103, 88), (113, 57), (119, 104)], 50) := by decide +kernel
theorem dX3_perform_92 : decode cX3_perform 92 = .ok (.aload_n 0, 1) := by decide +kernel
theorem dX3_perform_93 : decode cX3_perform 93 = .ok (.iload_n 2, 1) := by decide +kernel
theorem dX3_perform_94 : decode cX3_perform 94 = .ok (.iload_n 3, 1) := by decide +kernel
theorem dX3_perform_95 : decode cX3_perform 95 = .ok (.invokevirtual 275, 3) := by decide +kernel
theorem dX3_perform_98 : decode cX3_perform 98 = .ok (.ireturn, 1) := by decide +kernel
theorem dX3_perform_99 : decode cX3_perform 99 = .ok (.aload_n 0, 1) := by decide +kernel
theorem dX3_perform_100 : decode cX3_perform 100 = .ok (.aload_n 0, 1) := by decide +kernel
theorem dX3_perform_101 : decode cX3_perform 101 = .ok (.getfield 32, 3) := by decide +kernel
theorem dX3_perform_104 : decode cX3_perform 104 = .ok (.iload_n 1, 1) := by decide +kernel
theorem dX3_perform_105 : decode cX3_perform 105 = .ok (.iconst 1, 1) := by decide +kernel
theorem dX3_perform_106 : decode cX3_perform 106 = .ok (.iadd, 1) := by decide +kernel
theorem dX3_perform_107 : decode cX3_perform 107 = .ok (.invokevirtual 267, 3) := by decide +kernel
theorem dX3_perform_110 : decode cX3_perform 110 = .ok (.invokestatic 278, 3) := by decide +kernel
theorem dX3_perform_113 : decode cX3_perform 113 = .ok (.iload_n 3, 1) := by decide +kernel
theorem dX3_perform_114 : decode cX3_perform 114 = .ok (.iload 4, 2) := by decide +kernel
theorem dX3_perform_116 : decode cX3_perform 116 = .ok (.aload_n 0, 1) := by decide +kernel
theorem dX3_perform_117 : decode cX3_perform 117 = .ok (.getfield 32, 3) := by decide +kernel
theorem dX3_perform_120 : decode cX3_perform 120 = .ok (.iload_n 1, 1) := by decide +kernel
theorem dX3_perform_121 : decode cX3_perform 121 = .ok (.iconst 4, 1) := by decide +kernel
theorem dX3_perform_122 : decode cX3_perform 122 = .ok (.iadd, 1) := by decide +kernel
theorem dX3_perform_123 : decode cX3_perform 123 = .ok (.invokevirtual 272, 3) := by decide +kernel
theorem dX3_perform_126 : decode cX3_perform 126 = .ok (.invokevirtual 281, 3) := by decide +kernel
theorem dX3_perform_129 : decode cX3_perform 129 = .ok (.ireturn, 1) := by decide +kernel
theorem dX3_perform_130 : decode cX3_perform 130 = .ok (.aload_n 0, 1) := by decide +kernel
theorem dX3_perform_131 : decode cX3_perform 131 = .ok (.iload_n 2, 1) := by decide +kernel
theorem dX3_perform_132 : decode cX3_perform 132 = .ok (.iload_n 3, 1) := by decide +kernel
theorem dX3_perform_133 : decode cX3_perform 133 = .ok (.iload 4, 2) := by decide +kernel
theorem dX3_perform_135 : decode cX3_perform 135 = .ok (.invokevirtual 284, 3) := by decide +kernel
theorem dX3_perform_138 : decode cX3_perform 138 = .ok (.ireturn, 1) := by decide +kernel
theorem dX3_perform_139 : decode cX3_perform 139 = .ok (.aload_n 0, 1) := by decide +kernel
theorem dX3_perform_140 : decode cX3_perform 140 = .ok (.iload_n 2, 1) := by decide +kernel
theorem dX3_perform_141 : decode cX3_perform 141 = .ok (.iload_n 3, 1) := by decide +kernel
theorem dX3_perform_142 : decode cX3_perform 142 = .ok (.invokevirtual 288, 3) := by decide +kernel
theorem dX3_perform_145 : decode cX3_perform 145 = .ok (.ireturn, 1) := by decide +kernel
theorem dX3_perform_146 : decode cX3_perform 146 = .ok (.aload_n 0, 1) := by decide +kernel
theorem dX3_perform_147 : decode cX3_perform 147 = .ok (.iload_n 2, 1) := by decide +kernel
theorem dX3_perform_148 : decode cX3_perform 148 = .ok (.iload_n 3, 1) := by decide +kernel
theorem dX3_perform_149 : decode cX3_perform 149 = .ok (.iload 4, 2) := by decide +kernel
theorem dX3_perform_151 : decode cX3_perform 151 = .ok (.invokevirtual 291, 3) := by decide +kernel
theorem dX3_perform_154 : decode cX3_perform 154 = .ok (.ireturn, 1) := by decide +kernel
theorem dX3_perform_155 : decode cX3_perform 155 = .ok (.aload_n 0, 1) := by decide +kernel
theorem dX3_perform_156 : decode cX3_perform 156 = .ok (.bipush 10, 2) := by decide +kernel
theorem dX3_perform_158 : decode cX3_perform 158 = .ok (.iload_n 2, 1) := by decide +kernel
theorem dX3_perform_159 : decode cX3_perform 159 = .ok (.imul, 1) := by decide +kernel
theorem dX3_perform_160 : decode cX3_perform 160 = .ok (.iload_n 3, 1) := by decide +kernel
theorem dX3_perform_161 : decode cX3_perform 161 = .ok (.iadd, 1) := by decide +kernel
theorem dX3_perform_162 : decode cX3_perform 162 = .ok (.invokevirtual 294, 3) := by decide +kernel
theorem dX3_perform_165 : decode cX3_perform 165 = .ok (.ireturn, 1) := by decide +kernel
theorem dX3_performDoor_0 : decode cX3_performDoor 0 = .ok (.iload_n 1, 1) := by decide +kernel
theorem dX3_performDoor_1 : decode cX3_performDoor 1 = .ok (.invokestatic 68, 3) := by decide +kernel
theorem dX3_performDoor_4 : decode cX3_performDoor 4 = .ok (.ifCond .ne 15, 3) := by decide +kernel
theorem dX3_performDoor_7 : decode cX3_performDoor 7 = .ok (.iload_n 2, 1) := by decide +kernel
theorem dX3_performDoor_8 : decode cX3_performDoor 8 = .ok (.invokestatic 68, 3) := by decide +kernel
theorem dX3_performDoor_11 : decode cX3_performDoor 11 = .ok (.ifCond .ne 8, 3) := by decide +kernel
theorem dX3_performDoor_14 : decode cX3_performDoor 14 = .ok (.iload_n 1, 1) := by decide +kernel
theorem dX3_performDoor_15 : decode cX3_performDoor 15 = .ok (.iload_n 2, 1) := by decide +kernel
theorem dX3_performDoor_16 : decode cX3_performDoor 16 = .ok (.if_icmp .ne 5, 3) := by decide +kernel
theorem dX3_performDoor_19 : decode cX3_performDoor 19 = .ok (.iconst 0, 1) := by decide +kernel
theorem dX3_performDoor_20 : decode cX3_performDoor 20 = .ok (.ireturn, 1) := by decide +kernel
theorem dX3_performDoor_21 : decode cX3_performDoor 21 = .ok (.aload_n 0, 1) := by decide +kernel
theorem dX3_performDoor_22 : decode cX3_performDoor 22 = .ok (.getfield 10, 3) := by decide +kernel
theorem dX3_performDoor_25 : decode cX3_performDoor 25 = .ok (.getfield 72, 3) := by decide +kernel
theorem dX3_performDoor_28 : decode cX3_performDoor 28 = .ok (.iload_n 1, 1) := by decide +kernel
theorem dX3_performDoor_29 : decode cX3_performDoor 29 = .ok (.iload_n 2, 1) := by decide +kernel
theorem dX3_performDoor_30 : decode cX3_performDoor 30 = .ok (.invokevirtual 124, 3) := by decide +kernel
theorem dX3_performDoor_33 : decode cX3_performDoor 33 = .ok (.iconst 1, 1) := by decide +kernel
theorem dX3_performDoor_34 : decode cX3_performDoor 34 = .ok (.ireturn, 1) := by decide +kernel
theorem dX3_performQuestion_0 : decode cX3_performQuestion 0 = .ok (.iload_n 3, 1) := by decide +kernel
theorem dX3_performQuestion_1 : decode cX3_performQuestion 1 = .ok (.invokestatic 68, 3) := by decide +kernel
theorem dX3_performQuestion_4 : decode cX3_performQuestion 4 = .ok (.ifCond .ne 15, 3) := by decide +kernel
theorem dX3_performQuestion_7 : decode cX3_performQuestion 7 = .ok (.aload_n 0, 1) := by decide +kernel
theorem dX3_performQuestion_8 : decode cX3_performQuestion 8 = .ok (.getfield 10, 3) := by decide +kernel
theorem dX3_performQuestion_11 : decode cX3_performQuestion 11 = .ok (.getfield 200, 3) := by decide +kernel
theorem dX3_performQuestion_14 : decode cX3_performQuestion 14 = .ok (.bipush 8, 2) := by decide +kernel
theorem dX3_performQuestion_16 : decode cX3_performQuestion 16 = .ok (.if_icmp .lt 5, 3) := by decide +kernel
theorem dX3_performQuestion_19 : decode cX3_performQuestion 19 = .ok (.iconst 0, 1) := by decide +kernel
theorem dX3_performQuestion_20 : decode cX3_performQuestion 20 = .ok (.ireturn, 1) := by decide +kernel
theorem dX3_performQuestion_21 : decode cX3_performQuestion 21 = .ok (.aload_n 0, 1) := by decide +kernel
theorem dX3_performQuestion_22 : decode cX3_performQuestion 22 = .ok (.getfield 10, 3) := by decide +kernel
theorem dX3_performQuestion_25 : decode cX3_performQuestion 25 = .ok (.iload_n 1, 1) := by decide +kernel
theorem dX3_performQuestion_26 : decode cX3_performQuestion 26 = .ok (.iload_n 2, 1) := by decide +kernel
theorem dX3_performQuestion_27 : decode cX3_performQuestion 27 = .ok (.iload_n 3, 1) := by decide +kernel
theorem dX3_performQuestion_28 : decode cX3_performQuestion 28 = .ok (.iload 4, 2) := by decide +kernel
theorem dX3_performQuestion_30 : decode cX3_performQuestion 30 = .ok (.invokevirtual 297, 3) := by decide +kernel
theorem dX3_performQuestion_33 : decode cX3_performQuestion 33 = .ok (.iconst 1, 1) := by decide +kernel
theorem dX3_performQuestion_34 : decode cX3_performQuestion 34 = .ok (.ireturn, 1) := by decide +kernel
theorem dX3_performGroup_0 : decode cX3_performGroup 0 = .ok (.iload_n 3, 1) := by decide +kernel
theorem dX3_performGroup_1 : decode cX3_performGroup 1 = .ok (.bipush 8, 2) := by decide +kernel
theorem dX3_performGroup_3 : decode cX3_performGroup 3 = .ok (.if_icmp .ge 14, 3) := by decide +kernel
theorem dX3_performGroup_6 : decode cX3_performGroup 6 = .ok (.aload_n 0, 1) := by decide +kernel
theorem dX3_performGroup_7 : decode cX3_performGroup 7 = .ok (.getfield 10, 3) := by decide +kernel
theorem dX3_performGroup_10 : decode cX3_performGroup 10 = .ok (.getfield 188, 3) := by decide +kernel
theorem dX3_performGroup_13 : decode cX3_performGroup 13 = .ok (.iconst 5, 1) := by decide +kernel
theorem dX3_performGroup_14 : decode cX3_performGroup 14 = .ok (.if_icmp .lt 5, 3) := by decide +kernel
theorem dX3_performGroup_17 : decode cX3_performGroup 17 = .ok (.iconst 0, 1) := by decide +kernel
theorem dX3_performGroup_18 : decode cX3_performGroup 18 = .ok (.ireturn, 1) := by decide +kernel
theorem dX3_performGroup_19 : decode cX3_performGroup 19 = .ok (.aload_n 0, 1) := by decide +kernel
theorem dX3_performGroup_20 : decode cX3_performGroup 20 = .ok (.getfield 10, 3) := by decide +kernel
theorem dX3_performGroup_23 : decode cX3_performGroup 23 = .ok (.iload_n 1, 1) := by decide +kernel
theorem dX3_performGroup_24 : decode cX3_performGroup 24 = .ok (.iload_n 2, 1) := by decide +kernel
theorem dX3_performGroup_25 : decode cX3_performGroup 25 = .ok (.iload_n 3, 1) := by decide +kernel
theorem dX3_performGroup_26 : decode cX3_performGroup 26 = .ok (.invokevirtual 301, 3) := by decide +kernel
theorem dX3_performGroup_29 : decode cX3_performGroup 29 = .ok (.iconst 1, 1) := by decide +kernel
theorem dX3_performGroup_30 : decode cX3_performGroup 30 = .ok (.ireturn, 1) := by decide +kernel
theorem dX3_performPlace_0 : decode cX3_performPlace 0 = .ok (.aload_n 0, 1) := by decide +kernel
theorem dX3_performPlace_1 : decode cX3_performPlace 1 = .ok (.iload_n 1, 1) := by decide +kernel
theorem dX3_performPlace_2 : decode cX3_performPlace 2 = .ok (.invokevirtual 100, 3) := by decide +kernel
theorem dX3_performPlace_5 : decode cX3_performPlace 5 = .ok (.ifCond .ne 10, 3) := by decide +kernel
theorem dX3_performPlace_8 : decode cX3_performPlace 8 = .ok (.iload_n 2, 1) := by decide +kernel
theorem dX3_performPlace_9 : decode cX3_performPlace 9 = .ok (.invokestatic 68, 3) := by decide +kernel
theorem dX3_performPlace_12 : decode cX3_performPlace 12 = .ok (.ifCond .eq 5, 3) := by decide +kernel
theorem dX3_performPlace_15 : decode cX3_performPlace 15 = .ok (.iconst 0, 1) := by decide +kernel
theorem dX3_performPlace_16 : decode cX3_performPlace 16 = .ok (.ireturn, 1) := by decide +kernel
theorem dX3_performPlace_17 : decode cX3_performPlace 17 = .ok (.aload_n 0, 1) := by decide +kernel
theorem dX3_performPlace_18 : decode cX3_performPlace 18 = .ok (.getfield 10, 3) := by decide +kernel
theorem dX3_performPlace_21 : decode cX3_performPlace 21 = .ok (.iload_n 1, 1) := by decide +kernel
theorem dX3_performPlace_22 : decode cX3_performPlace 22 = .ok (.iload_n 2, 1) := by decide +kernel
theorem dX3_performPlace_23 : decode cX3_performPlace 23 = .ok (.invokevirtual 132, 3) := by decide +kernel
theorem dX3_performPlace_26 : decode cX3_performPlace 26 = .ok (.iconst 1, 1) := by decide +kernel
theorem dX3_performPlace_27 : decode cX3_performPlace 27 = .ok (.ireturn, 1) := by decide +kernel
theorem dX3_performAnswer_0 : decode cX3_performAnswer 0 = .ok (.aload_n 0, 1) := by decide +kernel
theorem dX3_performAnswer_1 : decode cX3_performAnswer 1 = .ok (.iload_n 1, 1) := by decide +kernel
theorem dX3_performAnswer_2 : decode cX3_performAnswer 2 = .ok (.invokevirtual 100, 3) := by decide +kernel
theorem dX3_performAnswer_5 : decode cX3_performAnswer 5 = .ok (.ifCond .ne 11, 3) := by decide +kernel
theorem dX3_performAnswer_8 : decode cX3_performAnswer 8 = .ok (.aload_n 0, 1) := by decide +kernel
theorem dX3_performAnswer_9 : decode cX3_performAnswer 9 = .ok (.iload_n 2, 1) := by decide +kernel
theorem dX3_performAnswer_10 : decode cX3_performAnswer 10 = .ok (.invokevirtual 82, 3) := by decide +kernel
theorem dX3_performAnswer_13 : decode cX3_performAnswer 13 = .ok (.ifCond .eq 5, 3) := by decide +kernel
theorem dX3_performAnswer_16 : decode cX3_performAnswer 16 = .ok (.iconst 0, 1) := by decide +kernel
theorem dX3_performAnswer_17 : decode cX3_performAnswer 17 = .ok (.ireturn, 1) := by decide +kernel
theorem dX3_performAnswer_18 : decode cX3_performAnswer 18 = .ok (.aload_n 0, 1) := by decide +kernel
theorem dX3_performAnswer_19 : decode cX3_performAnswer 19 = .ok (.getfield 10, 3) := by decide +kernel
theorem dX3_performAnswer_22 : decode cX3_performAnswer 22 = .ok (.iload_n 1, 1) := by decide +kernel
theorem dX3_performAnswer_23 : decode cX3_performAnswer 23 = .ok (.iload_n 2, 1) := by decide +kernel
theorem dX3_performAnswer_24 : decode cX3_performAnswer 24 = .ok (.iload_n 3, 1) := by decide +kernel
theorem dX3_performAnswer_25 : decode cX3_performAnswer 25 = .ok (.invokevirtual 135, 3) := by decide +kernel
theorem dX3_performAnswer_28 : decode cX3_performAnswer 28 = .ok (.iconst 1, 1) := by decide +kernel
theorem dX3_performAnswer_29 : decode cX3_performAnswer 29 = .ok (.ireturn, 1) := by decide +kernel
theorem dX3_performMinutes_0 : decode cX3_performMinutes 0 = .ok (.iload_n 1, 1) := by decide +kernel
theorem dX3_performMinutes_1 : decode cX3_performMinutes 1 = .ok (.iconst 1, 1) := by decide +kernel
theorem dX3_performMinutes_2 : decode cX3_performMinutes 2 = .ok (.if_icmp .lt 24, 3) := by decide +kernel
theorem dX3_performMinutes_5 : decode cX3_performMinutes 5 = .ok (.iload_n 1, 1) := by decide +kernel
theorem dX3_performMinutes_6 : decode cX3_performMinutes 6 = .ok (.bipush 60, 2) := by decide +kernel
theorem dX3_performMinutes_8 : decode cX3_performMinutes 8 = .ok (.if_icmp .gt 18, 3) := by decide +kernel
theorem dX3_performMinutes_11 : decode cX3_performMinutes 11 = .ok (.aload_n 0, 1) := by decide +kernel
theorem dX3_performMinutes_12 : decode cX3_performMinutes 12 = .ok (.getfield 10, 3) := by decide +kernel
theorem dX3_performMinutes_15 : decode cX3_performMinutes 15 = .ok (.getfield 139, 3) := by decide +kernel
theorem dX3_performMinutes_18 : decode cX3_performMinutes 18 = .ok (.iload_n 1, 1) := by decide +kernel
theorem dX3_performMinutes_19 : decode cX3_performMinutes 19 = .ok (.iadd, 1) := by decide +kernel
theorem dX3_performMinutes_20 : decode cX3_performMinutes 20 = .ok (.sipush 999, 3) := by decide +kernel
theorem dX3_performMinutes_23 : decode cX3_performMinutes 23 = .ok (.if_icmp .le 5, 3) := by decide +kernel
theorem dX3_performMinutes_26 : decode cX3_performMinutes 26 = .ok (.iconst 0, 1) := by decide +kernel
theorem dX3_performMinutes_27 : decode cX3_performMinutes 27 = .ok (.ireturn, 1) := by decide +kernel
theorem dX3_performMinutes_28 : decode cX3_performMinutes 28 = .ok (.aload_n 0, 1) := by decide +kernel
theorem dX3_performMinutes_29 : decode cX3_performMinutes 29 = .ok (.getfield 10, 3) := by decide +kernel
theorem dX3_performMinutes_32 : decode cX3_performMinutes 32 = .ok (.iload_n 1, 1) := by decide +kernel
theorem dX3_performMinutes_33 : decode cX3_performMinutes 33 = .ok (.invokevirtual 142, 3) := by decide +kernel
theorem dX3_performMinutes_36 : decode cX3_performMinutes 36 = .ok (.iconst 1, 1) := by decide +kernel
theorem dX3_performMinutes_37 : decode cX3_performMinutes 37 = .ok (.ireturn, 1) := by decide +kernel
end
section
theorem dX4_init_0 : decode cX4_init 0 = .ok (.aload_n 0, 1) := by decide +kernel
theorem dX4_init_1 : decode cX4_init 1 = .ok (.invokespecial 1, 3) := by decide +kernel
theorem dX4_init_4 : decode cX4_init 4 = .ok (.aload_n 0, 1) := by decide +kernel
theorem dX4_init_5 : decode cX4_init 5 = .ok (.sipush 147, 3) := by decide +kernel
theorem dX4_init_8 : decode cX4_init 8 = .ok (.newarray .int, 2) := by decide +kernel
theorem dX4_init_10 : decode cX4_init 10 = .ok (.putfield 9, 3) := by decide +kernel
theorem dX4_init_13 : decode cX4_init 13 = .ok (.aload_n 0, 1) := by decide +kernel
theorem dX4_init_14 : decode cX4_init 14 = .ok (.sipush 147, 3) := by decide +kernel
theorem dX4_init_17 : decode cX4_init 17 = .ok (.newarray .int, 2) := by decide +kernel
theorem dX4_init_19 : decode cX4_init 19 = .ok (.putfield 13, 3) := by decide +kernel
theorem dX4_init_22 : decode cX4_init 22 = .ok (.aload_n 0, 1) := by decide +kernel
theorem dX4_init_23 : decode cX4_init 23 = .ok (.sipush 147, 3) := by decide +kernel
theorem dX4_init_26 : decode cX4_init 26 = .ok (.newarray .int, 2) := by decide +kernel
theorem dX4_init_28 : decode cX4_init 28 = .ok (.putfield 16, 3) := by decide +kernel
theorem dX4_init_31 : decode cX4_init 31 = .ok (.aload_n 0, 1) := by decide +kernel
theorem dX4_init_32 : decode cX4_init 32 = .ok (.sipush 147, 3) := by decide +kernel
theorem dX4_init_35 : decode cX4_init 35 = .ok (.newarray .int, 2) := by decide +kernel
theorem dX4_init_37 : decode cX4_init 37 = .ok (.putfield 19, 3) := by decide +kernel
theorem dX4_init_40 : decode cX4_init 40 = .ok (.aload_n 0, 1) := by decide +kernel
theorem dX4_init_41 : decode cX4_init 41 = .ok (.bipush 96, 2) := by decide +kernel
theorem dX4_init_43 : decode cX4_init 43 = .ok (.newarray .int, 2) := by decide +kernel
theorem dX4_init_45 : decode cX4_init 45 = .ok (.putfield 22, 3) := by decide +kernel
theorem dX4_init_48 : decode cX4_init 48 = .ok (.aload_n 0, 1) := by decide +kernel
theorem dX4_init_49 : decode cX4_init 49 = .ok (.bipush 12, 2) := by decide +kernel
theorem dX4_init_51 : decode cX4_init 51 = .ok (.newarray .int, 2) := by decide +kernel
theorem dX4_init_53 : decode cX4_init 53 = .ok (.putfield 25, 3) := by decide +kernel
theorem dX4_init_56 : decode cX4_init 56 = .ok (.aload_n 0, 1) := by decide +kernel
theorem dX4_init_57 : decode cX4_init 57 = .ok (.bipush 7, 2) := by decide +kernel
theorem dX4_init_59 : decode cX4_init 59 = .ok (.newarray .int, 2) := by decide +kernel
theorem dX4_init_61 : decode cX4_init 61 = .ok (.putfield 28, 3) := by decide +kernel
theorem dX4_init_64 : decode cX4_init 64 = .ok (.aload_n 0, 1) := by decide +kernel
theorem dX4_init_65 : decode cX4_init 65 = .ok (.bipush 7, 2) := by decide +kernel
theorem dX4_init_67 : decode cX4_init 67 = .ok (.newarray .int, 2) := by decide +kernel
theorem dX4_init_69 : decode cX4_init 69 = .ok (.putfield 31, 3) := by decide +kernel
theorem dX4_init_72 : decode cX4_init 72 = .ok (.aload_n 0, 1) := by decide +kernel
theorem dX4_init_73 : decode cX4_init 73 = .ok (.iconst 4, 1) := by decide +kernel
theorem dX4_init_74 : decode cX4_init 74 = .ok (.newarray .int, 2) := by decide +kernel
theorem dX4_init_76 : decode cX4_init 76 = .ok (.putfield 34, 3) := by decide +kernel
theorem dX4_init_79 : decode cX4_init 79 = .ok (.return_, 1) := by decide +kernel
theorem dX4_isIn_0 : decode cX4_isIn 0 = .ok (.iload_n 0, 1) := by decide +kernel
theorem dX4_isIn_1 : decode cX4_isIn 1 = .ok (.iload_n 1, 1) := by decide +kernel
theorem dX4_isIn_2 : decode cX4_isIn 2 = .ok (.if_icmp .lt 12, 3) := by decide +kernel
theorem dX4_isIn_5 : decode cX4_isIn 5 = .ok (.iload_n 0, 1) := by decide +kernel
theorem dX4_isIn_6 : decode cX4_isIn 6 = .ok (.iload_n 2, 1) := by decide +kernel
theorem dX4_isIn_7 : decode cX4_isIn 7 = .ok (.if_icmp .gt 7, 3) := by decide +kernel
theorem dX4_isIn_10 : decode cX4_isIn 10 = .ok (.iconst 1, 1) := by decide +kernel
theorem dX4_isIn_11 : decode cX4_isIn 11 = .ok (.goto 4, 3) := by decide +kernel
theorem dX4_isIn_14 : decode cX4_isIn 14 = .ok (.iconst 0, 1) := by decide +kernel
theorem dX4_isIn_15 : decode cX4_isIn 15 = .ok (.ireturn, 1) := by decide +kernel
theorem dX4_lays_0 : decode cX4_lays 0 = .ok (.iconst 0, 1) := by decide +kernel
theorem dX4_lays_1 : decode cX4_lays 1 = .ok (.istore_n 2, 1) := by decide +kernel
theorem dX4_lays_2 : decode cX4_lays 2 = .ok (.iload_n 2, 1) := by decide +kernel
theorem dX4_lays_3 : decode cX4_lays 3 = .ok (.sipush 147, 3) := by decide +kernel
theorem dX4_lays_6 : decode cX4_lays 6 = .ok (.if_icmp .ge 15, 3) := by decide +kernel
theorem dX4_lays_9 : decode cX4_lays 9 = .ok (.aload_n 1, 1) := by decide +kernel
theorem dX4_lays_10 : decode cX4_lays 10 = .ok (.iload_n 2, 1) := by decide +kernel
theorem dX4_lays_11 : decode cX4_lays 11 = .ok (.aload_n 0, 1) := by decide +kernel
theorem dX4_lays_12 : decode cX4_lays 12 = .ok (.iload_n 2, 1) := by decide +kernel
theorem dX4_lays_13 : decode cX4_lays 13 = .ok (.iaload, 1) := by decide +kernel
theorem dX4_lays_14 : decode cX4_lays 14 = .ok (.iastore, 1) := by decide +kernel
theorem dX4_lays_15 : decode cX4_lays 15 = .ok (.iinc 2 1, 3) := by decide +kernel
theorem dX4_lays_18 : decode cX4_lays 18 = .ok (.goto (-16), 3) := by decide +kernel
theorem dX4_lays_21 : decode cX4_lays 21 = .ok (.return_, 1) := by decide +kernel
theorem dX4_no_0 : decode cX4_no 0 = .ok (.aload_n 0, 1) := by decide +kernel
theorem dX4_no_1 : decode cX4_no 1 = .ok (.getfield 28, 3) := by decide +kernel
theorem dX4_no_4 : decode cX4_no 4 = .ok (.iload_n 1, 1) := by decide +kernel
theorem dX4_no_5 : decode cX4_no 5 = .ok (.ineg, 1) := by decide +kernel
theorem dX4_no_6 : decode cX4_no 6 = .ok (.dup2, 1) := by decide +kernel
theorem dX4_no_7 : decode cX4_no 7 = .ok (.iaload, 1) := by decide +kernel
theorem dX4_no_8 : decode cX4_no 8 = .ok (.iconst 1, 1) := by decide +kernel
theorem dX4_no_9 : decode cX4_no 9 = .ok (.iadd, 1) := by decide +kernel
theorem dX4_no_10 : decode cX4_no 10 = .ok (.iastore, 1) := by decide +kernel
theorem dX4_no_11 : decode cX4_no 11 = .ok (.iload_n 1, 1) := by decide +kernel
theorem dX4_no_12 : decode cX4_no 12 = .ok (.ireturn, 1) := by decide +kernel
theorem dX4_noFar_0 : decode cX4_noFar 0 = .ok (.ldc 37, 2) := by decide +kernel
theorem dX4_noFar_2 : decode cX4_noFar 2 = .ok (.aload_n 0, 1) := by decide +kernel
theorem dX4_noFar_3 : decode cX4_noFar 3 = .ok (.iload_n 1, 1) := by decide +kernel
theorem dX4_noFar_4 : decode cX4_noFar 4 = .ok (.invokevirtual 38, 3) := by decide +kernel
theorem dX4_noFar_7 : decode cX4_noFar 7 = .ok (.isub, 1) := by decide +kernel
theorem dX4_noFar_8 : decode cX4_noFar 8 = .ok (.ireturn, 1) := by decide +kernel
theorem dX4_ask_0 : decode cX4_ask 0 = .ok (.bipush 10, 2) := by decide +kernel
theorem dX4_ask_2 : decode cX4_ask 2 = .ok (.iconst 4, 1) := by decide +kernel
theorem dX4_ask_3 : decode cX4_ask 3 = .ok (.iload_n 0, 1) := by decide +kernel
theorem dX4_ask_4 : decode cX4_ask 4 = .ok (.imul, 1) := by decide +kernel
theorem dX4_ask_5 : decode cX4_ask 5 = .ok (.iadd, 1) := by decide +kernel
theorem dX4_ask_6 : decode cX4_ask 6 = .ok (.iload_n 1, 1) := by decide +kernel
theorem dX4_ask_7 : decode cX4_ask 7 = .ok (.iadd, 1) := by decide +kernel
theorem dX4_ask_8 : decode cX4_ask 8 = .ok (.ireturn, 1) := by decide +kernel
theorem dX4_of_0 : decode cX4_of 0 = .ok (.bipush 42, 2) := by decide +kernel
theorem dX4_of_2 : decode cX4_of 2 = .ok (.iconst 5, 1) := by decide +kernel
theorem dX4_of_3 : decode cX4_of 3 = .ok (.iload_n 0, 1) := by decide +kernel
theorem dX4_of_4 : decode cX4_of 4 = .ok (.imul, 1) := by decide +kernel
theorem dX4_of_5 : decode cX4_of 5 = .ok (.iadd, 1) := by decide +kernel
theorem dX4_of_6 : decode cX4_of 6 = .ok (.iload_n 1, 1) := by decide +kernel
theorem dX4_of_7 : decode cX4_of 7 = .ok (.iadd, 1) := by decide +kernel
theorem dX4_of_8 : decode cX4_of 8 = .ok (.ireturn, 1) := by decide +kernel
theorem dX4_sheetOf_0 : decode cX4_sheetOf 0 = .ok (.bipush 67, 2) := by decide +kernel
theorem dX4_sheetOf_2 : decode cX4_sheetOf 2 = .ok (.bipush 8, 2) := by decide +kernel
theorem dX4_sheetOf_4 : decode cX4_sheetOf 4 = .ok (.iload_n 0, 1) := by decide +kernel
theorem dX4_sheetOf_5 : decode cX4_sheetOf 5 = .ok (.imul, 1) := by decide +kernel
theorem dX4_sheetOf_6 : decode cX4_sheetOf 6 = .ok (.iadd, 1) := by decide +kernel
theorem dX4_sheetOf_7 : decode cX4_sheetOf 7 = .ok (.iload_n 1, 1) := by decide +kernel
theorem dX4_sheetOf_8 : decode cX4_sheetOf 8 = .ok (.iadd, 1) := by decide +kernel
theorem dX4_sheetOf_9 : decode cX4_sheetOf 9 = .ok (.ireturn, 1) := by decide +kernel
theorem dX4_fromOf_0 : decode cX4_fromOf 0 = .ok (.bipush 107, 2) := by decide +kernel
theorem dX4_fromOf_2 : decode cX4_fromOf 2 = .ok (.bipush 8, 2) := by decide +kernel
theorem dX4_fromOf_4 : decode cX4_fromOf 4 = .ok (.iload_n 0, 1) := by decide +kernel
theorem dX4_fromOf_5 : decode cX4_fromOf 5 = .ok (.imul, 1) := by decide +kernel
theorem dX4_fromOf_6 : decode cX4_fromOf 6 = .ok (.iadd, 1) := by decide +kernel
theorem dX4_fromOf_7 : decode cX4_fromOf 7 = .ok (.iload_n 1, 1) := by decide +kernel
theorem dX4_fromOf_8 : decode cX4_fromOf 8 = .ok (.iadd, 1) := by decide +kernel
theorem dX4_fromOf_9 : decode cX4_fromOf 9 = .ok (.ireturn, 1) := by decide +kernel
theorem dX4_isRoom_0 : decode cX4_isRoom 0 = .ok (.iload_n 0, 1) := by decide +kernel
theorem dX4_isRoom_1 : decode cX4_isRoom 1 = .ok (.iconst 0, 1) := by decide +kernel
theorem dX4_isRoom_2 : decode cX4_isRoom 2 = .ok (.bipush 6, 2) := by decide +kernel
theorem dX4_isRoom_4 : decode cX4_isRoom 4 = .ok (.invokestatic 42, 3) := by decide +kernel
theorem dX4_isRoom_7 : decode cX4_isRoom 7 = .ok (.ireturn, 1) := by decide +kernel
theorem dX4_isQuestion_0 : decode cX4_isQuestion 0 = .ok (.iload_n 1, 1) := by decide +kernel
theorem dX4_isQuestion_1 : decode cX4_isQuestion 1 = .ok (.iconst 0, 1) := by decide +kernel
theorem dX4_isQuestion_2 : decode cX4_isQuestion 2 = .ok (.aload_n 0, 1) := by decide +kernel
theorem dX4_isQuestion_3 : decode cX4_isQuestion 3 = .ok (.getfield 9, 3) := by decide +kernel
theorem dX4_isQuestion_6 : decode cX4_isQuestion 6 = .ok (.iconst 0, 1) := by decide +kernel
theorem dX4_isQuestion_7 : decode cX4_isQuestion 7 = .ok (.iaload, 1) := by decide +kernel
theorem dX4_isQuestion_8 : decode cX4_isQuestion 8 = .ok (.iconst 1, 1) := by decide +kernel
theorem dX4_isQuestion_9 : decode cX4_isQuestion 9 = .ok (.isub, 1) := by decide +kernel
theorem dX4_isQuestion_10 : decode cX4_isQuestion 10 = .ok (.invokestatic 42, 3) := by decide +kernel
theorem dX4_isQuestion_13 : decode cX4_isQuestion 13 = .ok (.ireturn, 1) := by decide +kernel
theorem dX4_isGroup_0 : decode cX4_isGroup 0 = .ok (.iload_n 1, 1) := by decide +kernel
theorem dX4_isGroup_1 : decode cX4_isGroup 1 = .ok (.iconst 0, 1) := by decide +kernel
theorem dX4_isGroup_2 : decode cX4_isGroup 2 = .ok (.aload_n 0, 1) := by decide +kernel
theorem dX4_isGroup_3 : decode cX4_isGroup 3 = .ok (.getfield 9, 3) := by decide +kernel
theorem dX4_isGroup_6 : decode cX4_isGroup 6 = .ok (.iconst 1, 1) := by decide +kernel
theorem dX4_isGroup_7 : decode cX4_isGroup 7 = .ok (.iaload, 1) := by decide +kernel
theorem dX4_isGroup_8 : decode cX4_isGroup 8 = .ok (.iconst 1, 1) := by decide +kernel
theorem dX4_isGroup_9 : decode cX4_isGroup 9 = .ok (.isub, 1) := by decide +kernel
theorem dX4_isGroup_10 : decode cX4_isGroup 10 = .ok (.invokestatic 42, 3) := by decide +kernel
theorem dX4_isGroup_13 : decode cX4_isGroup 13 = .ok (.ireturn, 1) := by decide +kernel
theorem dX4_doorsTo_0 : decode cX4_doorsTo 0 = .ok (.iconst 0, 1) := by decide +kernel
theorem dX4_doorsTo_1 : decode cX4_doorsTo 1 = .ok (.istore_n 3, 1) := by decide +kernel
theorem dX4_doorsTo_2 : decode cX4_doorsTo 2 = .ok (.iload_n 3, 1) := by decide +kernel
theorem dX4_doorsTo_3 : decode cX4_doorsTo 3 = .ok (.bipush 7, 2) := by decide +kernel
theorem dX4_doorsTo_5 : decode cX4_doorsTo 5 = .ok (.if_icmp .ge 26, 3) := by decide +kernel
theorem dX4_doorsTo_8 : decode cX4_doorsTo 8 = .ok (.aload_n 0, 1) := by decide +kernel
theorem dX4_doorsTo_9 : decode cX4_doorsTo 9 = .ok (.getfield 31, 3) := by decide +kernel
theorem dX4_doorsTo_12 : decode cX4_doorsTo 12 = .ok (.iload_n 3, 1) := by decide +kernel
theorem dX4_doorsTo_13 : decode cX4_doorsTo 13 = .ok (.iload_n 3, 1) := by decide +kernel
theorem dX4_doorsTo_14 : decode cX4_doorsTo 14 = .ok (.iload_n 2, 1) := by decide +kernel
theorem dX4_doorsTo_15 : decode cX4_doorsTo 15 = .ok (.if_icmp .ne 7, 3) := by decide +kernel
theorem dX4_doorsTo_18 : decode cX4_doorsTo 18 = .ok (.iconst 0, 1) := by decide +kernel
theorem dX4_doorsTo_19 : decode cX4_doorsTo 19 = .ok (.goto 5, 3) := by decide +kernel
theorem dX4_doorsTo_22 : decode cX4_doorsTo 22 = .ok (.ldc 37, 2) := by decide +kernel
theorem dX4_doorsTo_24 : decode cX4_doorsTo 24 = .ok (.iastore, 1) := by decide +kernel
theorem dX4_doorsTo_25 : decode cX4_doorsTo 25 = .ok (.iinc 3 1, 3) := by decide +kernel
theorem dX4_doorsTo_28 : decode cX4_doorsTo 28 = .ok (.goto (-26), 3) := by decide +kernel
theorem dX4_doorsTo_31 : decode cX4_doorsTo 31 = .ok (.iconst 0, 1) := by decide +kernel
theorem dX4_doorsTo_32 : decode cX4_doorsTo 32 = .ok (.istore_n 3, 1) := by decide +kernel
theorem dX4_doorsTo_33 : decode cX4_doorsTo 33 = .ok (.iload_n 3, 1) := by decide +kernel
theorem dX4_doorsTo_34 : decode cX4_doorsTo 34 = .ok (.bipush 7, 2) := by decide +kernel
theorem dX4_doorsTo_36 : decode cX4_doorsTo 36 = .ok (.if_icmp .ge 89, 3) := by decide +kernel
theorem dX4_doorsTo_39 : decode cX4_doorsTo 39 = .ok (.iconst 0, 1) := by decide +kernel
theorem dX4_doorsTo_40 : decode cX4_doorsTo 40 = .ok (.istore 4, 2) := by decide +kernel
theorem dX4_doorsTo_42 : decode cX4_doorsTo 42 = .ok (.iload 4, 2) := by decide +kernel
theorem dX4_doorsTo_44 : decode cX4_doorsTo 44 = .ok (.bipush 7, 2) := by decide +kernel
theorem dX4_doorsTo_46 : decode cX4_doorsTo 46 = .ok (.if_icmp .ge 73, 3) := by decide +kernel
theorem dX4_doorsTo_49 : decode cX4_doorsTo 49 = .ok (.iconst 0, 1) := by decide +kernel
theorem dX4_doorsTo_50 : decode cX4_doorsTo 50 = .ok (.istore 5, 2) := by decide +kernel
theorem dX4_doorsTo_52 : decode cX4_doorsTo 52 = .ok (.iload 5, 2) := by decide +kernel
theorem dX4_doorsTo_54 : decode cX4_doorsTo 54 = .ok (.bipush 7, 2) := by decide +kernel
theorem dX4_doorsTo_56 : decode cX4_doorsTo 56 = .ok (.if_icmp .ge 57, 3) := by decide +kernel
theorem dX4_doorsTo_59 : decode cX4_doorsTo 59 = .ok (.aload_n 0, 1) := by decide +kernel
theorem dX4_doorsTo_60 : decode cX4_doorsTo 60 = .ok (.getfield 31, 3) := by decide +kernel
theorem dX4_doorsTo_63 : decode cX4_doorsTo 63 = .ok (.iload 4, 2) := by decide +kernel
theorem dX4_doorsTo_65 : decode cX4_doorsTo 65 = .ok (.iaload, 1) := by decide +kernel
theorem dX4_doorsTo_66 : decode cX4_doorsTo 66 = .ok (.iload_n 3, 1) := by decide +kernel
theorem dX4_doorsTo_67 : decode cX4_doorsTo 67 = .ok (.if_icmp .ne 40, 3) := by decide +kernel
theorem dX4_doorsTo_70 : decode cX4_doorsTo 70 = .ok (.aload_n 1, 1) := by decide +kernel
theorem dX4_doorsTo_71 : decode cX4_doorsTo 71 = .ok (.iconst 3, 1) := by decide +kernel
theorem dX4_doorsTo_72 : decode cX4_doorsTo 72 = .ok (.iload 4, 2) := by decide +kernel
theorem dX4_doorsTo_74 : decode cX4_doorsTo 74 = .ok (.iadd, 1) := by decide +kernel
theorem dX4_doorsTo_75 : decode cX4_doorsTo 75 = .ok (.iaload, 1) := by decide +kernel
theorem dX4_doorsTo_76 : decode cX4_doorsTo 76 = .ok (.iload 5, 2) := by decide +kernel
theorem dX4_doorsTo_78 : decode cX4_doorsTo 78 = .ok (.ishr, 1) := by decide +kernel
theorem dX4_doorsTo_79 : decode cX4_doorsTo 79 = .ok (.iconst 1, 1) := by decide +kernel
theorem dX4_doorsTo_80 : decode cX4_doorsTo 80 = .ok (.iand, 1) := by decide +kernel
theorem dX4_doorsTo_81 : decode cX4_doorsTo 81 = .ok (.iconst 1, 1) := by decide +kernel
theorem dX4_doorsTo_82 : decode cX4_doorsTo 82 = .ok (.if_icmp .ne 25, 3) := by decide +kernel
theorem dX4_doorsTo_85 : decode cX4_doorsTo 85 = .ok (.aload_n 0, 1) := by decide +kernel
theorem dX4_doorsTo_86 : decode cX4_doorsTo 86 = .ok (.getfield 31, 3) := by decide +kernel
theorem dX4_doorsTo_89 : decode cX4_doorsTo 89 = .ok (.iload 5, 2) := by decide +kernel
theorem dX4_doorsTo_91 : decode cX4_doorsTo 91 = .ok (.iaload, 1) := by decide +kernel
theorem dX4_doorsTo_92 : decode cX4_doorsTo 92 = .ok (.ldc 37, 2) := by decide +kernel
theorem dX4_doorsTo_94 : decode cX4_doorsTo 94 = .ok (.if_icmp .ne 13, 3) := by decide +kernel
theorem dX4_doorsTo_97 : decode cX4_doorsTo 97 = .ok (.aload_n 0, 1) := by decide +kernel
theorem dX4_doorsTo_98 : decode cX4_doorsTo 98 = .ok (.getfield 31, 3) := by decide +kernel
theorem dX4_doorsTo_101 : decode cX4_doorsTo 101 = .ok (.iload 5, 2) := by decide +kernel
theorem dX4_doorsTo_103 : decode cX4_doorsTo 103 = .ok (.iload_n 3, 1) := by decide +kernel
theorem dX4_doorsTo_104 : decode cX4_doorsTo 104 = .ok (.iconst 1, 1) := by decide +kernel
theorem dX4_doorsTo_105 : decode cX4_doorsTo 105 = .ok (.iadd, 1) := by decide +kernel
theorem dX4_doorsTo_106 : decode cX4_doorsTo 106 = .ok (.iastore, 1) := by decide +kernel
theorem dX4_doorsTo_107 : decode cX4_doorsTo 107 = .ok (.iinc 5 1, 3) := by decide +kernel
theorem dX4_doorsTo_110 : decode cX4_doorsTo 110 = .ok (.goto (-58), 3) := by decide +kernel
theorem dX4_doorsTo_113 : decode cX4_doorsTo 113 = .ok (.iinc 4 1, 3) := by decide +kernel
theorem dX4_doorsTo_116 : decode cX4_doorsTo 116 = .ok (.goto (-74), 3) := by decide +kernel
theorem dX4_doorsTo_119 : decode cX4_doorsTo 119 = .ok (.iinc 3 1, 3) := by decide +kernel
theorem dX4_doorsTo_122 : decode cX4_doorsTo 122 = .ok (.goto (-89), 3) := by decide +kernel
theorem dX4_doorsTo_125 : decode cX4_doorsTo 125 = .ok (.return_, 1) := by decide +kernel
theorem dX4_onward_0 : decode cX4_onward 0 = .ok (.aload_n 0, 1) := by decide +kernel
theorem dX4_onward_1 : decode cX4_onward 1 = .ok (.aload_n 1, 1) := by decide +kernel
theorem dX4_onward_2 : decode cX4_onward 2 = .ok (.iload_n 3, 1) := by decide +kernel
theorem dX4_onward_3 : decode cX4_onward 3 = .ok (.invokevirtual 46, 3) := by decide +kernel
theorem dX4_onward_6 : decode cX4_onward 6 = .ok (.aload_n 0, 1) := by decide +kernel
theorem dX4_onward_7 : decode cX4_onward 7 = .ok (.getfield 31, 3) := by decide +kernel
theorem dX4_onward_10 : decode cX4_onward 10 = .ok (.iload_n 2, 1) := by decide +kernel
theorem dX4_onward_11 : decode cX4_onward 11 = .ok (.iaload, 1) := by decide +kernel
theorem dX4_onward_12 : decode cX4_onward 12 = .ok (.ldc 37, 2) := by decide +kernel
theorem dX4_onward_14 : decode cX4_onward 14 = .ok (.if_icmp .ne 5, 3) := by decide +kernel
theorem dX4_onward_17 : decode cX4_onward 17 = .ok (.iload_n 2, 1) := by decide +kernel
theorem dX4_onward_18 : decode cX4_onward 18 = .ok (.ireturn, 1) := by decide +kernel
theorem dX4_onward_19 : decode cX4_onward 19 = .ok (.iconst 0, 1) := by decide +kernel
theorem dX4_onward_20 : decode cX4_onward 20 = .ok (.istore 4, 2) := by decide +kernel
theorem dX4_onward_22 : decode cX4_onward 22 = .ok (.iload 4, 2) := by decide +kernel
theorem dX4_onward_24 : decode cX4_onward 24 = .ok (.bipush 7, 2) := by decide +kernel
theorem dX4_onward_26 : decode cX4_onward 26 = .ok (.if_icmp .ge 44, 3) := by decide +kernel
theorem dX4_onward_29 : decode cX4_onward 29 = .ok (.aload_n 1, 1) := by decide +kernel
theorem dX4_onward_30 : decode cX4_onward 30 = .ok (.iconst 3, 1) := by decide +kernel
theorem dX4_onward_31 : decode cX4_onward 31 = .ok (.iload_n 2, 1) := by decide +kernel
theorem dX4_onward_32 : decode cX4_onward 32 = .ok (.iadd, 1) := by decide +kernel
theorem dX4_onward_33 : decode cX4_onward 33 = .ok (.iaload, 1) := by decide +kernel
theorem dX4_onward_34 : decode cX4_onward 34 = .ok (.iload 4, 2) := by decide +kernel
theorem dX4_onward_36 : decode cX4_onward 36 = .ok (.ishr, 1) := by decide +kernel
theorem dX4_onward_37 : decode cX4_onward 37 = .ok (.iconst 1, 1) := by decide +kernel
theorem dX4_onward_38 : decode cX4_onward 38 = .ok (.iand, 1) := by decide +kernel
theorem dX4_onward_39 : decode cX4_onward 39 = .ok (.iconst 1, 1) := by decide +kernel
theorem dX4_onward_40 : decode cX4_onward 40 = .ok (.if_icmp .ne 24, 3) := by decide +kernel
theorem dX4_onward_43 : decode cX4_onward 43 = .ok (.aload_n 0, 1) := by decide +kernel
theorem dX4_onward_44 : decode cX4_onward 44 = .ok (.getfield 31, 3) := by decide +kernel
theorem dX4_onward_47 : decode cX4_onward 47 = .ok (.iload 4, 2) := by decide +kernel
theorem dX4_onward_49 : decode cX4_onward 49 = .ok (.iaload, 1) := by decide +kernel
theorem dX4_onward_50 : decode cX4_onward 50 = .ok (.aload_n 0, 1) := by decide +kernel
theorem dX4_onward_51 : decode cX4_onward 51 = .ok (.getfield 31, 3) := by decide +kernel
theorem dX4_onward_54 : decode cX4_onward 54 = .ok (.iload_n 2, 1) := by decide +kernel
theorem dX4_onward_55 : decode cX4_onward 55 = .ok (.iaload, 1) := by decide +kernel
theorem dX4_onward_56 : decode cX4_onward 56 = .ok (.iconst 1, 1) := by decide +kernel
theorem dX4_onward_57 : decode cX4_onward 57 = .ok (.isub, 1) := by decide +kernel
theorem dX4_onward_58 : decode cX4_onward 58 = .ok (.if_icmp .ne 6, 3) := by decide +kernel
theorem dX4_onward_61 : decode cX4_onward 61 = .ok (.iload 4, 2) := by decide +kernel
theorem dX4_onward_63 : decode cX4_onward 63 = .ok (.ireturn, 1) := by decide +kernel
theorem dX4_onward_64 : decode cX4_onward 64 = .ok (.iinc 4 1, 3) := by decide +kernel
theorem dX4_onward_67 : decode cX4_onward 67 = .ok (.goto (-45), 3) := by decide +kernel
theorem dX4_onward_70 : decode cX4_onward 70 = .ok (.iload_n 2, 1) := by decide +kernel
theorem dX4_onward_71 : decode cX4_onward 71 = .ok (.ireturn, 1) := by decide +kernel
theorem dX4_doors_0 : decode cX4_doors 0 = .ok (.aload_n 0, 1) := by decide +kernel
theorem dX4_doors_1 : decode cX4_doors 1 = .ok (.aload_n 1, 1) := by decide +kernel
theorem dX4_doors_2 : decode cX4_doors 2 = .ok (.iload_n 3, 1) := by decide +kernel
theorem dX4_doors_3 : decode cX4_doors 3 = .ok (.invokevirtual 46, 3) := by decide +kernel
theorem dX4_doors_6 : decode cX4_doors 6 = .ok (.aload_n 0, 1) := by decide +kernel
theorem dX4_doors_7 : decode cX4_doors 7 = .ok (.getfield 31, 3) := by decide +kernel
theorem dX4_doors_10 : decode cX4_doors 10 = .ok (.iload_n 2, 1) := by decide +kernel
theorem dX4_doors_11 : decode cX4_doors 11 = .ok (.iaload, 1) := by decide +kernel
theorem dX4_doors_12 : decode cX4_doors 12 = .ok (.ldc 37, 2) := by decide +kernel
theorem dX4_doors_14 : decode cX4_doors 14 = .ok (.if_icmp .ne 8, 3) := by decide +kernel
theorem dX4_doors_17 : decode cX4_doors 17 = .ok (.bipush (-9), 2) := by decide +kernel
theorem dX4_doors_19 : decode cX4_doors 19 = .ok (.goto 9, 3) := by decide +kernel
theorem dX4_doors_22 : decode cX4_doors 22 = .ok (.aload_n 0, 1) := by decide +kernel
theorem dX4_doors_23 : decode cX4_doors 23 = .ok (.getfield 31, 3) := by decide +kernel
theorem dX4_doors_26 : decode cX4_doors 26 = .ok (.iload_n 2, 1) := by decide +kernel
theorem dX4_doors_27 : decode cX4_doors 27 = .ok (.iaload, 1) := by decide +kernel
theorem dX4_doors_28 : decode cX4_doors 28 = .ok (.ireturn, 1) := by decide +kernel
theorem dX4_minutesOf_0 : decode cX4_minutesOf 0 = .ok (.aload_n 0, 1) := by decide +kernel
theorem dX4_minutesOf_1 : decode cX4_minutesOf 1 = .ok (.iload_n 1, 1) := by decide +kernel
theorem dX4_minutesOf_2 : decode cX4_minutesOf 2 = .ok (.iconst 0, 1) := by decide +kernel
theorem dX4_minutesOf_3 : decode cX4_minutesOf 3 = .ok (.invokestatic 50, 3) := by decide +kernel
theorem dX4_minutesOf_6 : decode cX4_minutesOf 6 = .ok (.iaload, 1) := by decide +kernel
theorem dX4_minutesOf_7 : decode cX4_minutesOf 7 = .ok (.tableswitch 47 1 5 #[33, 47, 43, 33, 45], 33) := by decide +kernel
theorem dX4_minutesOf_40 : decode cX4_minutesOf 40 = .ok (.iconst 1, 1) := by decide +kernel
theorem dX4_minutesOf_41 : decode cX4_minutesOf 41 = .ok (.aload_n 0, 1) := by decide +kernel
theorem dX4_minutesOf_42 : decode cX4_minutesOf 42 = .ok (.iload_n 1, 1) := by decide +kernel
theorem dX4_minutesOf_43 : decode cX4_minutesOf 43 = .ok (.iconst 1, 1) := by decide +kernel
theorem dX4_minutesOf_44 : decode cX4_minutesOf 44 = .ok (.invokestatic 50, 3) := by decide +kernel
theorem dX4_minutesOf_47 : decode cX4_minutesOf 47 = .ok (.iaload, 1) := by decide +kernel
theorem dX4_minutesOf_48 : decode cX4_minutesOf 48 = .ok (.iadd, 1) := by decide +kernel
theorem dX4_minutesOf_49 : decode cX4_minutesOf 49 = .ok (.ireturn, 1) := by decide +kernel
theorem dX4_minutesOf_50 : decode cX4_minutesOf 50 = .ok (.iconst 2, 1) := by decide +kernel
theorem dX4_minutesOf_51 : decode cX4_minutesOf 51 = .ok (.ireturn, 1) := by decide +kernel
theorem dX4_minutesOf_52 : decode cX4_minutesOf 52 = .ok (.iconst 3, 1) := by decide +kernel
theorem dX4_minutesOf_53 : decode cX4_minutesOf 53 = .ok (.ireturn, 1) := by decide +kernel
theorem dX4_minutesOf_54 : decode cX4_minutesOf 54 = .ok (.iconst 1, 1) := by decide +kernel
theorem dX4_minutesOf_55 : decode cX4_minutesOf 55 = .ok (.ireturn, 1) := by decide +kernel
theorem dX4_nextOf_0 : decode cX4_nextOf 0 = .ok (.iconst 0, 1) := by decide +kernel
theorem dX4_nextOf_1 : decode cX4_nextOf 1 = .ok (.istore_n 2, 1) := by decide +kernel
theorem dX4_nextOf_2 : decode cX4_nextOf 2 = .ok (.iload_n 2, 1) := by decide +kernel
theorem dX4_nextOf_3 : decode cX4_nextOf 3 = .ok (.aload_n 0, 1) := by decide +kernel
theorem dX4_nextOf_4 : decode cX4_nextOf 4 = .ok (.iconst 0, 1) := by decide +kernel
theorem dX4_nextOf_5 : decode cX4_nextOf 5 = .ok (.iaload, 1) := by decide +kernel
theorem dX4_nextOf_6 : decode cX4_nextOf 6 = .ok (.if_icmp .ge 35, 3) := by decide +kernel
theorem dX4_nextOf_9 : decode cX4_nextOf 9 = .ok (.aload_n 0, 1) := by decide +kernel
theorem dX4_nextOf_10 : decode cX4_nextOf 10 = .ok (.iload_n 1, 1) := by decide +kernel
theorem dX4_nextOf_11 : decode cX4_nextOf 11 = .ok (.iconst 2, 1) := by decide +kernel
theorem dX4_nextOf_12 : decode cX4_nextOf 12 = .ok (.invokestatic 54, 3) := by decide +kernel
theorem dX4_nextOf_15 : decode cX4_nextOf 15 = .ok (.iaload, 1) := by decide +kernel
theorem dX4_nextOf_16 : decode cX4_nextOf 16 = .ok (.iload_n 2, 1) := by decide +kernel
theorem dX4_nextOf_17 : decode cX4_nextOf 17 = .ok (.iadd, 1) := by decide +kernel
theorem dX4_nextOf_18 : decode cX4_nextOf 18 = .ok (.aload_n 0, 1) := by decide +kernel
theorem dX4_nextOf_19 : decode cX4_nextOf 19 = .ok (.iconst 0, 1) := by decide +kernel
theorem dX4_nextOf_20 : decode cX4_nextOf 20 = .ok (.iaload, 1) := by decide +kernel
theorem dX4_nextOf_21 : decode cX4_nextOf 21 = .ok (.irem, 1) := by decide +kernel
theorem dX4_nextOf_22 : decode cX4_nextOf 22 = .ok (.istore_n 3, 1) := by decide +kernel
theorem dX4_nextOf_23 : decode cX4_nextOf 23 = .ok (.aload_n 0, 1) := by decide +kernel
theorem dX4_nextOf_24 : decode cX4_nextOf 24 = .ok (.iload_n 1, 1) := by decide +kernel
theorem dX4_nextOf_25 : decode cX4_nextOf 25 = .ok (.iload_n 3, 1) := by decide +kernel
theorem dX4_nextOf_26 : decode cX4_nextOf 26 = .ok (.invokestatic 57, 3) := by decide +kernel
theorem dX4_nextOf_29 : decode cX4_nextOf 29 = .ok (.iaload, 1) := by decide +kernel
theorem dX4_nextOf_30 : decode cX4_nextOf 30 = .ok (.ifCond .ge 5, 3) := by decide +kernel
theorem dX4_nextOf_33 : decode cX4_nextOf 33 = .ok (.iload_n 3, 1) := by decide +kernel
theorem dX4_nextOf_34 : decode cX4_nextOf 34 = .ok (.ireturn, 1) := by decide +kernel
theorem dX4_nextOf_35 : decode cX4_nextOf 35 = .ok (.iinc 2 1, 3) := by decide +kernel
theorem dX4_nextOf_38 : decode cX4_nextOf 38 = .ok (.goto (-36), 3) := by decide +kernel
theorem dX4_nextOf_41 : decode cX4_nextOf 41 = .ok (.bipush (-9), 2) := by decide +kernel
theorem dX4_nextOf_43 : decode cX4_nextOf 43 = .ok (.ireturn, 1) := by decide +kernel
theorem dX4_other_0 : decode cX4_other 0 = .ok (.iconst 0, 1) := by decide +kernel
theorem dX4_other_1 : decode cX4_other 1 = .ok (.istore_n 3, 1) := by decide +kernel
theorem dX4_other_2 : decode cX4_other 2 = .ok (.iload_n 3, 1) := by decide +kernel
theorem dX4_other_3 : decode cX4_other 3 = .ok (.aload_n 0, 1) := by decide +kernel
theorem dX4_other_4 : decode cX4_other 4 = .ok (.iconst 1, 1) := by decide +kernel
theorem dX4_other_5 : decode cX4_other 5 = .ok (.iaload, 1) := by decide +kernel
theorem dX4_other_6 : decode cX4_other 6 = .ok (.if_icmp .ge 43, 3) := by decide +kernel
theorem dX4_other_9 : decode cX4_other 9 = .ok (.iload_n 3, 1) := by decide +kernel
theorem dX4_other_10 : decode cX4_other 10 = .ok (.iload_n 1, 1) := by decide +kernel
theorem dX4_other_11 : decode cX4_other 11 = .ok (.if_icmp .eq 32, 3) := by decide +kernel
theorem dX4_other_14 : decode cX4_other 14 = .ok (.aload_n 0, 1) := by decide +kernel
theorem dX4_other_15 : decode cX4_other 15 = .ok (.iload_n 3, 1) := by decide +kernel
theorem dX4_other_16 : decode cX4_other 16 = .ok (.iconst 3, 1) := by decide +kernel
theorem dX4_other_17 : decode cX4_other 17 = .ok (.invokestatic 54, 3) := by decide +kernel
theorem dX4_other_20 : decode cX4_other 20 = .ok (.iaload, 1) := by decide +kernel
theorem dX4_other_21 : decode cX4_other 21 = .ok (.aload_n 0, 1) := by decide +kernel
theorem dX4_other_22 : decode cX4_other 22 = .ok (.iload_n 1, 1) := by decide +kernel
theorem dX4_other_23 : decode cX4_other 23 = .ok (.iconst 3, 1) := by decide +kernel
theorem dX4_other_24 : decode cX4_other 24 = .ok (.invokestatic 54, 3) := by decide +kernel
theorem dX4_other_27 : decode cX4_other 27 = .ok (.iaload, 1) := by decide +kernel
theorem dX4_other_28 : decode cX4_other 28 = .ok (.if_icmp .ne 15, 3) := by decide +kernel
theorem dX4_other_31 : decode cX4_other 31 = .ok (.aload_n 0, 1) := by decide +kernel
theorem dX4_other_32 : decode cX4_other 32 = .ok (.iload_n 3, 1) := by decide +kernel
theorem dX4_other_33 : decode cX4_other 33 = .ok (.iload_n 2, 1) := by decide +kernel
theorem dX4_other_34 : decode cX4_other 34 = .ok (.invokestatic 57, 3) := by decide +kernel
theorem dX4_other_37 : decode cX4_other 37 = .ok (.iaload, 1) := by decide +kernel
theorem dX4_other_38 : decode cX4_other 38 = .ok (.ifCond .lt 5, 3) := by decide +kernel
theorem dX4_other_41 : decode cX4_other 41 = .ok (.iload_n 3, 1) := by decide +kernel
theorem dX4_other_42 : decode cX4_other 42 = .ok (.ireturn, 1) := by decide +kernel
theorem dX4_other_43 : decode cX4_other 43 = .ok (.iinc 3 1, 3) := by decide +kernel
theorem dX4_other_46 : decode cX4_other 46 = .ok (.goto (-44), 3) := by decide +kernel
theorem dX4_other_49 : decode cX4_other 49 = .ok (.bipush (-9), 2) := by decide +kernel
theorem dX4_other_51 : decode cX4_other 51 = .ok (.ireturn, 1) := by decide +kernel
theorem dX4_writes_0 : decode cX4_writes 0 = .ok (.aload_n 0, 1) := by decide +kernel
theorem dX4_writes_1 : decode cX4_writes 1 = .ok (.iload_n 2, 1) := by decide +kernel
theorem dX4_writes_2 : decode cX4_writes 2 = .ok (.iconst 0, 1) := by decide +kernel
theorem dX4_writes_3 : decode cX4_writes 3 = .ok (.invokestatic 50, 3) := by decide +kernel
theorem dX4_writes_6 : decode cX4_writes 6 = .ok (.iaload, 1) := by decide +kernel
theorem dX4_writes_7 : decode cX4_writes 7 = .ok (.istore_n 3, 1) := by decide +kernel
theorem dX4_writes_8 : decode cX4_writes 8 = .ok (.aload_n 0, 1) := by decide +kernel
theorem dX4_writes_9 : decode cX4_writes 9 = .ok (.iload_n 2, 1) := by decide +kernel
theorem dX4_writes_10 : decode cX4_writes 10 = .ok (.iconst 1, 1) := by decide +kernel
theorem dX4_writes_11 : decode cX4_writes 11 = .ok (.invokestatic 50, 3) := by decide +kernel
theorem dX4_writes_14 : decode cX4_writes 14 = .ok (.iaload, 1) := by decide +kernel
theorem dX4_writes_15 : decode cX4_writes 15 = .ok (.istore 4, 2) := by decide +kernel
theorem dX4_writes_17 : decode cX4_writes 17 = .ok (.aload_n 0, 1) := by decide +kernel
theorem dX4_writes_18 : decode cX4_writes 18 = .ok (.iload_n 2, 1) := by decide +kernel
theorem dX4_writes_19 : decode cX4_writes 19 = .ok (.iconst 3, 1) := by decide +kernel
theorem dX4_writes_20 : decode cX4_writes 20 = .ok (.invokestatic 50, 3) := by decide +kernel
theorem dX4_writes_23 : decode cX4_writes 23 = .ok (.iaload, 1) := by decide +kernel
theorem dX4_writes_24 : decode cX4_writes 24 = .ok (.istore 5, 2) := by decide +kernel
theorem dX4_writes_26 : decode cX4_writes 26 = .ok (.aload_n 0, 1) := by decide +kernel
theorem dX4_writes_27 : decode cX4_writes 27 = .ok (.iload_n 1, 1) := by decide +kernel
theorem dX4_writes_28 : decode cX4_writes 28 = .ok (.iconst 1, 1) := by decide +kernel
theorem dX4_writes_29 : decode cX4_writes 29 = .ok (.invokestatic 54, 3) := by decide +kernel
theorem dX4_writes_32 : decode cX4_writes 32 = .ok (.iaload, 1) := by decide +kernel
theorem dX4_writes_33 : decode cX4_writes 33 = .ok (.istore 6, 2) := by decide +kernel
theorem dX4_writes_35 : decode cX4_writes 35 = .ok (.aload_n 0, 1) := by decide +kernel
theorem dX4_writes_36 : decode cX4_writes 36 = .ok (.iload_n 1, 1) := by decide +kernel
theorem dX4_writes_37 : decode cX4_writes 37 = .ok (.iconst 0, 1) := by decide +kernel
theorem dX4_writes_38 : decode cX4_writes 38 = .ok (.invokestatic 54, 3) := by decide +kernel
theorem dX4_writes_41 : decode cX4_writes 41 = .ok (.iaload, 1) := by decide +kernel
theorem dX4_writes_42 : decode cX4_writes 42 = .ok (.iload 4, 2) := by decide +kernel
theorem dX4_writes_44 : decode cX4_writes 44 = .ok (.if_icmp .lt 7, 3) := by decide +kernel
theorem dX4_writes_47 : decode cX4_writes 47 = .ok (.iconst 1, 1) := by decide +kernel
theorem dX4_writes_48 : decode cX4_writes 48 = .ok (.goto 4, 3) := by decide +kernel
theorem dX4_writes_51 : decode cX4_writes 51 = .ok (.iconst 0, 1) := by decide +kernel
theorem dX4_writes_52 : decode cX4_writes 52 = .ok (.istore 7, 2) := by decide +kernel
theorem dX4_writes_54 : decode cX4_writes 54 = .ok (.bipush (-9), 2) := by decide +kernel
theorem dX4_writes_56 : decode cX4_writes 56 = .ok (.istore 8, 2) := by decide +kernel
theorem dX4_writes_58 : decode cX4_writes 58 = .ok (.iload 6, 2) := by decide +kernel
theorem dX4_writes_60 : decode cX4_writes 60 = .ok (.istore 9, 2) := by decide +kernel
theorem dX4_writes_62 : decode cX4_writes 62 = .ok (.iload_n 3, 1) := by decide +kernel
theorem dX4_writes_63 : decode cX4_writes 63 = .ok (.tableswitch 59 3 5 #[25, 28, 52], 25) := by decide +kernel
theorem dX4_writes_88 : decode cX4_writes 88 = .ok (.goto 87, 3) := by decide +kernel
theorem dX4_writes_91 : decode cX4_writes 91 = .ok (.iload 6, 2) := by decide +kernel
theorem dX4_writes_93 : decode cX4_writes 93 = .ok (.iload 4, 2) := by decide +kernel
theorem dX4_writes_95 : decode cX4_writes 95 = .ok (.if_icmp .ge 13, 3) := by decide +kernel
theorem dX4_writes_98 : decode cX4_writes 98 = .ok (.iload 5, 2) := by decide +kernel
theorem dX4_writes_100 : decode cX4_writes 100 = .ok (.iconst 1, 1) := by decide +kernel
theorem dX4_writes_101 : decode cX4_writes 101 = .ok (.iadd, 1) := by decide +kernel
theorem dX4_writes_102 : decode cX4_writes 102 = .ok (.bipush 10, 2) := by decide +kernel
theorem dX4_writes_104 : decode cX4_writes 104 = .ok (.irem, 1) := by decide +kernel
theorem dX4_writes_105 : decode cX4_writes 105 = .ok (.goto 5, 3) := by decide +kernel
theorem dX4_writes_108 : decode cX4_writes 108 = .ok (.iload 5, 2) := by decide +kernel
theorem dX4_writes_110 : decode cX4_writes 110 = .ok (.istore 9, 2) := by decide +kernel
theorem dX4_writes_112 : decode cX4_writes 112 = .ok (.goto 63, 3) := by decide +kernel
theorem dX4_writes_115 : decode cX4_writes 115 = .ok (.iload 5, 2) := by decide +kernel
theorem dX4_writes_117 : decode cX4_writes 117 = .ok (.istore 9, 2) := by decide +kernel
theorem dX4_writes_119 : decode cX4_writes 119 = .ok (.goto 56, 3) := by decide +kernel
theorem dX4_writes_122 : decode cX4_writes 122 = .ok (.iload 7, 2) := by decide +kernel
theorem dX4_writes_124 : decode cX4_writes 124 = .ok (.ifCond .eq 13, 3) := by decide +kernel
theorem dX4_writes_127 : decode cX4_writes 127 = .ok (.iload_n 3, 1) := by decide +kernel
theorem dX4_writes_128 : decode cX4_writes 128 = .ok (.iconst 2, 1) := by decide +kernel
theorem dX4_writes_129 : decode cX4_writes 129 = .ok (.if_icmp .eq 8, 3) := by decide +kernel
theorem dX4_writes_132 : decode cX4_writes 132 = .ok (.bipush (-9), 2) := by decide +kernel
theorem dX4_writes_134 : decode cX4_writes 134 = .ok (.goto 9, 3) := by decide +kernel
theorem dX4_writes_137 : decode cX4_writes 137 = .ok (.aload_n 0, 1) := by decide +kernel
theorem dX4_writes_138 : decode cX4_writes 138 = .ok (.iload_n 1, 1) := by decide +kernel
theorem dX4_writes_139 : decode cX4_writes 139 = .ok (.iload_n 2, 1) := by decide +kernel
theorem dX4_writes_140 : decode cX4_writes 140 = .ok (.invokestatic 60, 3) := by decide +kernel
theorem dX4_writes_143 : decode cX4_writes 143 = .ok (.istore 8, 2) := by decide +kernel
theorem dX4_writes_145 : decode cX4_writes 145 = .ok (.iload 8, 2) := by decide +kernel
theorem dX4_writes_147 : decode cX4_writes 147 = .ok (.ifCond .lt 14, 3) := by decide +kernel
theorem dX4_writes_150 : decode cX4_writes 150 = .ok (.aload_n 0, 1) := by decide +kernel
theorem dX4_writes_151 : decode cX4_writes 151 = .ok (.iload 8, 2) := by decide +kernel
theorem dX4_writes_153 : decode cX4_writes 153 = .ok (.iload_n 2, 1) := by decide +kernel
theorem dX4_writes_154 : decode cX4_writes 154 = .ok (.invokestatic 57, 3) := by decide +kernel
theorem dX4_writes_157 : decode cX4_writes 157 = .ok (.iaload, 1) := by decide +kernel
theorem dX4_writes_158 : decode cX4_writes 158 = .ok (.goto 15, 3) := by decide +kernel
theorem dX4_writes_161 : decode cX4_writes 161 = .ok (.iload 7, 2) := by decide +kernel
theorem dX4_writes_163 : decode cX4_writes 163 = .ok (.ifCond .eq 8, 3) := by decide +kernel
theorem dX4_writes_166 : decode cX4_writes 166 = .ok (.iload 5, 2) := by decide +kernel
theorem dX4_writes_168 : decode cX4_writes 168 = .ok (.goto 5, 3) := by decide +kernel
theorem dX4_writes_171 : decode cX4_writes 171 = .ok (.iload 6, 2) := by decide +kernel
theorem dX4_writes_173 : decode cX4_writes 173 = .ok (.istore 9, 2) := by decide +kernel
theorem dX4_writes_175 : decode cX4_writes 175 = .ok (.aload_n 0, 1) := by decide +kernel
theorem dX4_writes_176 : decode cX4_writes 176 = .ok (.iload_n 1, 1) := by decide +kernel
theorem dX4_writes_177 : decode cX4_writes 177 = .ok (.iload_n 2, 1) := by decide +kernel
theorem dX4_writes_178 : decode cX4_writes 178 = .ok (.invokestatic 57, 3) := by decide +kernel
theorem dX4_writes_181 : decode cX4_writes 181 = .ok (.iload 9, 2) := by decide +kernel
theorem dX4_writes_183 : decode cX4_writes 183 = .ok (.iastore, 1) := by decide +kernel
theorem dX4_writes_184 : decode cX4_writes 184 = .ok (.aload_n 0, 1) := by decide +kernel
theorem dX4_writes_185 : decode cX4_writes 185 = .ok (.iload_n 1, 1) := by decide +kernel
theorem dX4_writes_186 : decode cX4_writes 186 = .ok (.iload_n 2, 1) := by decide +kernel
theorem dX4_writes_187 : decode cX4_writes 187 = .ok (.invokestatic 64, 3) := by decide +kernel
theorem dX4_writes_190 : decode cX4_writes 190 = .ok (.iload 8, 2) := by decide +kernel
theorem dX4_writes_192 : decode cX4_writes 192 = .ok (.iastore, 1) := by decide +kernel
theorem dX4_writes_193 : decode cX4_writes 193 = .ok (.return_, 1) := by decide +kernel
theorem dX4_goes_0 : decode cX4_goes 0 = .ok (.aload_n 1, 1) := by decide +kernel
theorem dX4_goes_1 : decode cX4_goes 1 = .ok (.iload_n 2, 1) := by decide +kernel
theorem dX4_goes_2 : decode cX4_goes 2 = .ok (.invokestatic 67, 3) := by decide +kernel
theorem dX4_goes_5 : decode cX4_goes 5 = .ok (.istore_n 3, 1) := by decide +kernel
theorem dX4_goes_6 : decode cX4_goes 6 = .ok (.iload_n 3, 1) := by decide +kernel
theorem dX4_goes_7 : decode cX4_goes 7 = .ok (.ifCond .ge 4, 3) := by decide +kernel
theorem dX4_goes_10 : decode cX4_goes 10 = .ok (.return_, 1) := by decide +kernel
theorem dX4_goes_11 : decode cX4_goes 11 = .ok (.aload_n 1, 1) := by decide +kernel
theorem dX4_goes_12 : decode cX4_goes 12 = .ok (.iload_n 2, 1) := by decide +kernel
theorem dX4_goes_13 : decode cX4_goes 13 = .ok (.iconst 3, 1) := by decide +kernel
theorem dX4_goes_14 : decode cX4_goes 14 = .ok (.invokestatic 54, 3) := by decide +kernel
theorem dX4_goes_17 : decode cX4_goes 17 = .ok (.iaload, 1) := by decide +kernel
theorem dX4_goes_18 : decode cX4_goes 18 = .ok (.aload_n 1, 1) := by decide +kernel
theorem dX4_goes_19 : decode cX4_goes 19 = .ok (.iload_n 3, 1) := by decide +kernel
theorem dX4_goes_20 : decode cX4_goes 20 = .ok (.iconst 2, 1) := by decide +kernel
theorem dX4_goes_21 : decode cX4_goes 21 = .ok (.invokestatic 50, 3) := by decide +kernel
theorem dX4_goes_24 : decode cX4_goes 24 = .ok (.iaload, 1) := by decide +kernel
theorem dX4_goes_25 : decode cX4_goes 25 = .ok (.if_icmp .eq 38, 3) := by decide +kernel
theorem dX4_goes_28 : decode cX4_goes 28 = .ok (.aload_n 1, 1) := by decide +kernel
theorem dX4_goes_29 : decode cX4_goes 29 = .ok (.iload_n 2, 1) := by decide +kernel
theorem dX4_goes_30 : decode cX4_goes 30 = .ok (.iconst 3, 1) := by decide +kernel
theorem dX4_goes_31 : decode cX4_goes 31 = .ok (.invokestatic 54, 3) := by decide +kernel
theorem dX4_goes_34 : decode cX4_goes 34 = .ok (.aload_n 0, 1) := by decide +kernel
theorem dX4_goes_35 : decode cX4_goes 35 = .ok (.aload_n 1, 1) := by decide +kernel
theorem dX4_goes_36 : decode cX4_goes 36 = .ok (.aload_n 1, 1) := by decide +kernel
theorem dX4_goes_37 : decode cX4_goes 37 = .ok (.iload_n 2, 1) := by decide +kernel
theorem dX4_goes_38 : decode cX4_goes 38 = .ok (.iconst 3, 1) := by decide +kernel
theorem dX4_goes_39 : decode cX4_goes 39 = .ok (.invokestatic 54, 3) := by decide +kernel
theorem dX4_goes_42 : decode cX4_goes 42 = .ok (.iaload, 1) := by decide +kernel
theorem dX4_goes_43 : decode cX4_goes 43 = .ok (.aload_n 1, 1) := by decide +kernel
theorem dX4_goes_44 : decode cX4_goes 44 = .ok (.iload_n 3, 1) := by decide +kernel
theorem dX4_goes_45 : decode cX4_goes 45 = .ok (.iconst 2, 1) := by decide +kernel
theorem dX4_goes_46 : decode cX4_goes 46 = .ok (.invokestatic 50, 3) := by decide +kernel
theorem dX4_goes_49 : decode cX4_goes 49 = .ok (.iaload, 1) := by decide +kernel
theorem dX4_goes_50 : decode cX4_goes 50 = .ok (.invokevirtual 71, 3) := by decide +kernel
theorem dX4_goes_53 : decode cX4_goes 53 = .ok (.iastore, 1) := by decide +kernel
theorem dX4_goes_54 : decode cX4_goes 54 = .ok (.aload_n 1, 1) := by decide +kernel
theorem dX4_goes_55 : decode cX4_goes 55 = .ok (.iload_n 2, 1) := by decide +kernel
theorem dX4_goes_56 : decode cX4_goes 56 = .ok (.iconst 4, 1) := by decide +kernel
theorem dX4_goes_57 : decode cX4_goes 57 = .ok (.invokestatic 54, 3) := by decide +kernel
theorem dX4_goes_60 : decode cX4_goes 60 = .ok (.iconst 0, 1) := by decide +kernel
theorem dX4_goes_61 : decode cX4_goes 61 = .ok (.iastore, 1) := by decide +kernel
theorem dX4_goes_62 : decode cX4_goes 62 = .ok (.return_, 1) := by decide +kernel
theorem dX4_goes_63 : decode cX4_goes 63 = .ok (.aload_n 1, 1) := by decide +kernel
theorem dX4_goes_64 : decode cX4_goes 64 = .ok (.iload_n 2, 1) := by decide +kernel
theorem dX4_goes_65 : decode cX4_goes 65 = .ok (.iconst 4, 1) := by decide +kernel
theorem dX4_goes_66 : decode cX4_goes 66 = .ok (.invokestatic 54, 3) := by decide +kernel
theorem dX4_goes_69 : decode cX4_goes 69 = .ok (.dup2, 1) := by decide +kernel
theorem dX4_goes_70 : decode cX4_goes 70 = .ok (.iaload, 1) := by decide +kernel
theorem dX4_goes_71 : decode cX4_goes 71 = .ok (.iconst 1, 1) := by decide +kernel
theorem dX4_goes_72 : decode cX4_goes 72 = .ok (.iadd, 1) := by decide +kernel
theorem dX4_goes_73 : decode cX4_goes 73 = .ok (.iastore, 1) := by decide +kernel
theorem dX4_goes_74 : decode cX4_goes 74 = .ok (.aload_n 1, 1) := by decide +kernel
theorem dX4_goes_75 : decode cX4_goes 75 = .ok (.iload_n 2, 1) := by decide +kernel
theorem dX4_goes_76 : decode cX4_goes 76 = .ok (.iconst 4, 1) := by decide +kernel
theorem dX4_goes_77 : decode cX4_goes 77 = .ok (.invokestatic 54, 3) := by decide +kernel
theorem dX4_goes_80 : decode cX4_goes 80 = .ok (.iaload, 1) := by decide +kernel
theorem dX4_goes_81 : decode cX4_goes 81 = .ok (.aload_n 1, 1) := by decide +kernel
theorem dX4_goes_82 : decode cX4_goes 82 = .ok (.iload_n 3, 1) := by decide +kernel
theorem dX4_goes_83 : decode cX4_goes 83 = .ok (.invokestatic 74, 3) := by decide +kernel
theorem dX4_goes_86 : decode cX4_goes 86 = .ok (.if_icmp .ge 4, 3) := by decide +kernel
theorem dX4_goes_89 : decode cX4_goes 89 = .ok (.return_, 1) := by decide +kernel
theorem dX4_goes_90 : decode cX4_goes 90 = .ok (.aload_n 1, 1) := by decide +kernel
theorem dX4_goes_91 : decode cX4_goes 91 = .ok (.iload_n 2, 1) := by decide +kernel
theorem dX4_goes_92 : decode cX4_goes 92 = .ok (.iload_n 3, 1) := by decide +kernel
theorem dX4_goes_93 : decode cX4_goes 93 = .ok (.invokestatic 77, 3) := by decide +kernel
theorem dX4_goes_96 : decode cX4_goes 96 = .ok (.aload_n 1, 1) := by decide +kernel
theorem dX4_goes_97 : decode cX4_goes 97 = .ok (.iload_n 2, 1) := by decide +kernel
theorem dX4_goes_98 : decode cX4_goes 98 = .ok (.iconst 4, 1) := by decide +kernel
theorem dX4_goes_99 : decode cX4_goes 99 = .ok (.invokestatic 54, 3) := by decide +kernel
theorem dX4_goes_102 : decode cX4_goes 102 = .ok (.iconst 0, 1) := by decide +kernel
theorem dX4_goes_103 : decode cX4_goes 103 = .ok (.iastore, 1) := by decide +kernel
theorem dX4_goes_104 : decode cX4_goes 104 = .ok (.return_, 1) := by decide +kernel
theorem dX4_minute_0 : decode cX4_minute 0 = .ok (.aload_n 1, 1) := by decide +kernel
theorem dX4_minute_1 : decode cX4_minute 1 = .ok (.iconst 2, 1) := by decide +kernel
theorem dX4_minute_2 : decode cX4_minute 2 = .ok (.dup2, 1) := by decide +kernel
theorem dX4_minute_3 : decode cX4_minute 3 = .ok (.iaload, 1) := by decide +kernel
theorem dX4_minute_4 : decode cX4_minute 4 = .ok (.iconst 1, 1) := by decide +kernel
theorem dX4_minute_5 : decode cX4_minute 5 = .ok (.iadd, 1) := by decide +kernel
theorem dX4_minute_6 : decode cX4_minute 6 = .ok (.iastore, 1) := by decide +kernel
theorem dX4_minute_7 : decode cX4_minute 7 = .ok (.iconst 0, 1) := by decide +kernel
theorem dX4_minute_8 : decode cX4_minute 8 = .ok (.istore_n 2, 1) := by decide +kernel
theorem dX4_minute_9 : decode cX4_minute 9 = .ok (.iload_n 2, 1) := by decide +kernel
theorem dX4_minute_10 : decode cX4_minute 10 = .ok (.aload_n 1, 1) := by decide +kernel
theorem dX4_minute_11 : decode cX4_minute 11 = .ok (.iconst 1, 1) := by decide +kernel
theorem dX4_minute_12 : decode cX4_minute 12 = .ok (.iaload, 1) := by decide +kernel
theorem dX4_minute_13 : decode cX4_minute 13 = .ok (.if_icmp .ge 15, 3) := by decide +kernel
theorem dX4_minute_16 : decode cX4_minute 16 = .ok (.aload_n 0, 1) := by decide +kernel
theorem dX4_minute_17 : decode cX4_minute 17 = .ok (.aload_n 1, 1) := by decide +kernel
theorem dX4_minute_18 : decode cX4_minute 18 = .ok (.iload_n 2, 1) := by decide +kernel
theorem dX4_minute_19 : decode cX4_minute 19 = .ok (.invokevirtual 81, 3) := by decide +kernel
theorem dX4_minute_22 : decode cX4_minute 22 = .ok (.iinc 2 1, 3) := by decide +kernel
theorem dX4_minute_25 : decode cX4_minute 25 = .ok (.goto (-16), 3) := by decide +kernel
theorem dX4_minute_28 : decode cX4_minute 28 = .ok (.return_, 1) := by decide +kernel
theorem dX4_minutesOn_0 : decode cX4_minutesOn 0 = .ok (.iconst 0, 1) := by decide +kernel
theorem dX4_minutesOn_1 : decode cX4_minutesOn 1 = .ok (.istore_n 3, 1) := by decide +kernel
theorem dX4_minutesOn_2 : decode cX4_minutesOn 2 = .ok (.iload_n 3, 1) := by decide +kernel
theorem dX4_minutesOn_3 : decode cX4_minutesOn 3 = .ok (.iload_n 2, 1) := by decide +kernel
theorem dX4_minutesOn_4 : decode cX4_minutesOn 4 = .ok (.if_icmp .ge 14, 3) := by decide +kernel
theorem dX4_minutesOn_7 : decode cX4_minutesOn 7 = .ok (.aload_n 0, 1) := by decide +kernel
theorem dX4_minutesOn_8 : decode cX4_minutesOn 8 = .ok (.aload_n 1, 1) := by decide +kernel
theorem dX4_minutesOn_9 : decode cX4_minutesOn 9 = .ok (.invokevirtual 84, 3) := by decide +kernel
theorem dX4_minutesOn_12 : decode cX4_minutesOn 12 = .ok (.iinc 3 1, 3) := by decide +kernel
theorem dX4_minutesOn_15 : decode cX4_minutesOn 15 = .ok (.goto (-13), 3) := by decide +kernel
theorem dX4_minutesOn_18 : decode cX4_minutesOn 18 = .ok (.return_, 1) := by decide +kernel
theorem dX4_begins_0 : decode cX4_begins 0 = .ok (.aload_n 0, 1) := by decide +kernel
theorem dX4_begins_1 : decode cX4_begins 1 = .ok (.getfield 9, 3) := by decide +kernel
theorem dX4_begins_4 : decode cX4_begins 4 = .ok (.aload_n 0, 1) := by decide +kernel
theorem dX4_begins_5 : decode cX4_begins 5 = .ok (.getfield 13, 3) := by decide +kernel
theorem dX4_begins_8 : decode cX4_begins 8 = .ok (.invokestatic 88, 3) := by decide +kernel
theorem dX4_begins_11 : decode cX4_begins 11 = .ok (.bipush 107, 2) := by decide +kernel
theorem dX4_begins_13 : decode cX4_begins 13 = .ok (.istore_n 1, 1) := by decide +kernel
theorem dX4_begins_14 : decode cX4_begins 14 = .ok (.iload_n 1, 1) := by decide +kernel
theorem dX4_begins_15 : decode cX4_begins 15 = .ok (.sipush 147, 3) := by decide +kernel
theorem dX4_begins_18 : decode cX4_begins 18 = .ok (.if_icmp .ge 17, 3) := by decide +kernel
theorem dX4_begins_21 : decode cX4_begins 21 = .ok (.aload_n 0, 1) := by decide +kernel
theorem dX4_begins_22 : decode cX4_begins 22 = .ok (.getfield 13, 3) := by decide +kernel
theorem dX4_begins_25 : decode cX4_begins 25 = .ok (.iload_n 1, 1) := by decide +kernel
theorem dX4_begins_26 : decode cX4_begins 26 = .ok (.bipush (-9), 2) := by decide +kernel
theorem dX4_begins_28 : decode cX4_begins 28 = .ok (.iastore, 1) := by decide +kernel
theorem dX4_begins_29 : decode cX4_begins 29 = .ok (.iinc 1 1, 3) := by decide +kernel
theorem dX4_begins_32 : decode cX4_begins 32 = .ok (.goto (-18), 3) := by decide +kernel
theorem dX4_begins_35 : decode cX4_begins 35 = .ok (.return_, 1) := by decide +kernel
theorem dX4_answersOf_0 : decode cX4_answersOf 0 = .ok (.iconst 0, 1) := by decide +kernel
theorem dX4_answersOf_1 : decode cX4_answersOf 1 = .ok (.istore_n 2, 1) := by decide +kernel
theorem dX4_answersOf_2 : decode cX4_answersOf 2 = .ok (.iconst 0, 1) := by decide +kernel
theorem dX4_answersOf_3 : decode cX4_answersOf 3 = .ok (.istore_n 3, 1) := by decide +kernel
theorem dX4_answersOf_4 : decode cX4_answersOf 4 = .ok (.iload_n 3, 1) := by decide +kernel
theorem dX4_answersOf_5 : decode cX4_answersOf 5 = .ok (.aload_n 0, 1) := by decide +kernel
theorem dX4_answersOf_6 : decode cX4_answersOf 6 = .ok (.iconst 0, 1) := by decide +kernel
theorem dX4_answersOf_7 : decode cX4_answersOf 7 = .ok (.iaload, 1) := by decide +kernel
theorem dX4_answersOf_8 : decode cX4_answersOf 8 = .ok (.if_icmp .ge 27, 3) := by decide +kernel
theorem dX4_answersOf_11 : decode cX4_answersOf 11 = .ok (.iload_n 2, 1) := by decide +kernel
theorem dX4_answersOf_12 : decode cX4_answersOf 12 = .ok (.aload_n 0, 1) := by decide +kernel
theorem dX4_answersOf_13 : decode cX4_answersOf 13 = .ok (.iload_n 1, 1) := by decide +kernel
theorem dX4_answersOf_14 : decode cX4_answersOf 14 = .ok (.iload_n 3, 1) := by decide +kernel
theorem dX4_answersOf_15 : decode cX4_answersOf 15 = .ok (.invokestatic 57, 3) := by decide +kernel
theorem dX4_answersOf_18 : decode cX4_answersOf 18 = .ok (.iaload, 1) := by decide +kernel
theorem dX4_answersOf_19 : decode cX4_answersOf 19 = .ok (.ifCond .lt 7, 3) := by decide +kernel
theorem dX4_answersOf_22 : decode cX4_answersOf 22 = .ok (.iconst 1, 1) := by decide +kernel
theorem dX4_answersOf_23 : decode cX4_answersOf 23 = .ok (.goto 4, 3) := by decide +kernel
theorem dX4_answersOf_26 : decode cX4_answersOf 26 = .ok (.iconst 0, 1) := by decide +kernel
theorem dX4_answersOf_27 : decode cX4_answersOf 27 = .ok (.iadd, 1) := by decide +kernel
theorem dX4_answersOf_28 : decode cX4_answersOf 28 = .ok (.istore_n 2, 1) := by decide +kernel
theorem dX4_answersOf_29 : decode cX4_answersOf 29 = .ok (.iinc 3 1, 3) := by decide +kernel
theorem dX4_answersOf_32 : decode cX4_answersOf 32 = .ok (.goto (-28), 3) := by decide +kernel
theorem dX4_answersOf_35 : decode cX4_answersOf 35 = .ok (.iload_n 2, 1) := by decide +kernel
theorem dX4_answersOf_36 : decode cX4_answersOf 36 = .ok (.ireturn, 1) := by decide +kernel
theorem dX4_rightOf_0 : decode cX4_rightOf 0 = .ok (.iconst 0, 1) := by decide +kernel
theorem dX4_rightOf_1 : decode cX4_rightOf 1 = .ok (.istore_n 2, 1) := by decide +kernel
theorem dX4_rightOf_2 : decode cX4_rightOf 2 = .ok (.iconst 0, 1) := by decide +kernel
theorem dX4_rightOf_3 : decode cX4_rightOf 3 = .ok (.istore_n 3, 1) := by decide +kernel
theorem dX4_rightOf_4 : decode cX4_rightOf 4 = .ok (.iload_n 3, 1) := by decide +kernel
theorem dX4_rightOf_5 : decode cX4_rightOf 5 = .ok (.aload_n 0, 1) := by decide +kernel
theorem dX4_rightOf_6 : decode cX4_rightOf 6 = .ok (.iconst 0, 1) := by decide +kernel
theorem dX4_rightOf_7 : decode cX4_rightOf 7 = .ok (.iaload, 1) := by decide +kernel
theorem dX4_rightOf_8 : decode cX4_rightOf 8 = .ok (.if_icmp .ge 34, 3) := by decide +kernel
theorem dX4_rightOf_11 : decode cX4_rightOf 11 = .ok (.iload_n 2, 1) := by decide +kernel
theorem dX4_rightOf_12 : decode cX4_rightOf 12 = .ok (.aload_n 0, 1) := by decide +kernel
theorem dX4_rightOf_13 : decode cX4_rightOf 13 = .ok (.iload_n 1, 1) := by decide +kernel
theorem dX4_rightOf_14 : decode cX4_rightOf 14 = .ok (.iload_n 3, 1) := by decide +kernel
theorem dX4_rightOf_15 : decode cX4_rightOf 15 = .ok (.invokestatic 57, 3) := by decide +kernel
theorem dX4_rightOf_18 : decode cX4_rightOf 18 = .ok (.iaload, 1) := by decide +kernel
theorem dX4_rightOf_19 : decode cX4_rightOf 19 = .ok (.aload_n 0, 1) := by decide +kernel
theorem dX4_rightOf_20 : decode cX4_rightOf 20 = .ok (.iload_n 3, 1) := by decide +kernel
theorem dX4_rightOf_21 : decode cX4_rightOf 21 = .ok (.iconst 3, 1) := by decide +kernel
theorem dX4_rightOf_22 : decode cX4_rightOf 22 = .ok (.invokestatic 50, 3) := by decide +kernel
theorem dX4_rightOf_25 : decode cX4_rightOf 25 = .ok (.iaload, 1) := by decide +kernel
theorem dX4_rightOf_26 : decode cX4_rightOf 26 = .ok (.if_icmp .ne 7, 3) := by decide +kernel
theorem dX4_rightOf_29 : decode cX4_rightOf 29 = .ok (.iconst 1, 1) := by decide +kernel
theorem dX4_rightOf_30 : decode cX4_rightOf 30 = .ok (.goto 4, 3) := by decide +kernel
theorem dX4_rightOf_33 : decode cX4_rightOf 33 = .ok (.iconst 0, 1) := by decide +kernel
theorem dX4_rightOf_34 : decode cX4_rightOf 34 = .ok (.iadd, 1) := by decide +kernel
theorem dX4_rightOf_35 : decode cX4_rightOf 35 = .ok (.istore_n 2, 1) := by decide +kernel
theorem dX4_rightOf_36 : decode cX4_rightOf 36 = .ok (.iinc 3 1, 3) := by decide +kernel
theorem dX4_rightOf_39 : decode cX4_rightOf 39 = .ok (.goto (-35), 3) := by decide +kernel
theorem dX4_rightOf_42 : decode cX4_rightOf 42 = .ok (.iload_n 2, 1) := by decide +kernel
theorem dX4_rightOf_43 : decode cX4_rightOf 43 = .ok (.ireturn, 1) := by decide +kernel
theorem dX4_copiedOf_0 : decode cX4_copiedOf 0 = .ok (.iconst 0, 1) := by decide +kernel
theorem dX4_copiedOf_1 : decode cX4_copiedOf 1 = .ok (.istore_n 2, 1) := by decide +kernel
theorem dX4_copiedOf_2 : decode cX4_copiedOf 2 = .ok (.iconst 0, 1) := by decide +kernel
theorem dX4_copiedOf_3 : decode cX4_copiedOf 3 = .ok (.istore_n 3, 1) := by decide +kernel
theorem dX4_copiedOf_4 : decode cX4_copiedOf 4 = .ok (.iload_n 3, 1) := by decide +kernel
theorem dX4_copiedOf_5 : decode cX4_copiedOf 5 = .ok (.aload_n 0, 1) := by decide +kernel
theorem dX4_copiedOf_6 : decode cX4_copiedOf 6 = .ok (.iconst 0, 1) := by decide +kernel
theorem dX4_copiedOf_7 : decode cX4_copiedOf 7 = .ok (.iaload, 1) := by decide +kernel
theorem dX4_copiedOf_8 : decode cX4_copiedOf 8 = .ok (.if_icmp .ge 27, 3) := by decide +kernel
theorem dX4_copiedOf_11 : decode cX4_copiedOf 11 = .ok (.iload_n 2, 1) := by decide +kernel
theorem dX4_copiedOf_12 : decode cX4_copiedOf 12 = .ok (.aload_n 0, 1) := by decide +kernel
theorem dX4_copiedOf_13 : decode cX4_copiedOf 13 = .ok (.iload_n 1, 1) := by decide +kernel
theorem dX4_copiedOf_14 : decode cX4_copiedOf 14 = .ok (.iload_n 3, 1) := by decide +kernel
theorem dX4_copiedOf_15 : decode cX4_copiedOf 15 = .ok (.invokestatic 64, 3) := by decide +kernel
theorem dX4_copiedOf_18 : decode cX4_copiedOf 18 = .ok (.iaload, 1) := by decide +kernel
theorem dX4_copiedOf_19 : decode cX4_copiedOf 19 = .ok (.ifCond .lt 7, 3) := by decide +kernel
theorem dX4_copiedOf_22 : decode cX4_copiedOf 22 = .ok (.iconst 1, 1) := by decide +kernel
theorem dX4_copiedOf_23 : decode cX4_copiedOf 23 = .ok (.goto 4, 3) := by decide +kernel
theorem dX4_copiedOf_26 : decode cX4_copiedOf 26 = .ok (.iconst 0, 1) := by decide +kernel
theorem dX4_copiedOf_27 : decode cX4_copiedOf 27 = .ok (.iadd, 1) := by decide +kernel
theorem dX4_copiedOf_28 : decode cX4_copiedOf 28 = .ok (.istore_n 2, 1) := by decide +kernel
theorem dX4_copiedOf_29 : decode cX4_copiedOf 29 = .ok (.iinc 3 1, 3) := by decide +kernel
theorem dX4_copiedOf_32 : decode cX4_copiedOf 32 = .ok (.goto (-28), 3) := by decide +kernel
theorem dX4_copiedOf_35 : decode cX4_copiedOf 35 = .ok (.iload_n 2, 1) := by decide +kernel
theorem dX4_copiedOf_36 : decode cX4_copiedOf 36 = .ok (.ireturn, 1) := by decide +kernel
theorem dX4_rightAll_0 : decode cX4_rightAll 0 = .ok (.iconst 0, 1) := by decide +kernel
theorem dX4_rightAll_1 : decode cX4_rightAll 1 = .ok (.istore_n 1, 1) := by decide +kernel
theorem dX4_rightAll_2 : decode cX4_rightAll 2 = .ok (.iconst 0, 1) := by decide +kernel
theorem dX4_rightAll_3 : decode cX4_rightAll 3 = .ok (.istore_n 2, 1) := by decide +kernel
theorem dX4_rightAll_4 : decode cX4_rightAll 4 = .ok (.iload_n 2, 1) := by decide +kernel
theorem dX4_rightAll_5 : decode cX4_rightAll 5 = .ok (.aload_n 0, 1) := by decide +kernel
theorem dX4_rightAll_6 : decode cX4_rightAll 6 = .ok (.iconst 1, 1) := by decide +kernel
theorem dX4_rightAll_7 : decode cX4_rightAll 7 = .ok (.iaload, 1) := by decide +kernel
theorem dX4_rightAll_8 : decode cX4_rightAll 8 = .ok (.if_icmp .ge 17, 3) := by decide +kernel
theorem dX4_rightAll_11 : decode cX4_rightAll 11 = .ok (.iload_n 1, 1) := by decide +kernel
theorem dX4_rightAll_12 : decode cX4_rightAll 12 = .ok (.aload_n 0, 1) := by decide +kernel
theorem dX4_rightAll_13 : decode cX4_rightAll 13 = .ok (.iload_n 2, 1) := by decide +kernel
theorem dX4_rightAll_14 : decode cX4_rightAll 14 = .ok (.invokestatic 92, 3) := by decide +kernel
theorem dX4_rightAll_17 : decode cX4_rightAll 17 = .ok (.iadd, 1) := by decide +kernel
theorem dX4_rightAll_18 : decode cX4_rightAll 18 = .ok (.istore_n 1, 1) := by decide +kernel
theorem dX4_rightAll_19 : decode cX4_rightAll 19 = .ok (.iinc 2 1, 3) := by decide +kernel
theorem dX4_rightAll_22 : decode cX4_rightAll 22 = .ok (.goto (-18), 3) := by decide +kernel
theorem dX4_rightAll_25 : decode cX4_rightAll 25 = .ok (.iload_n 1, 1) := by decide +kernel
theorem dX4_rightAll_26 : decode cX4_rightAll 26 = .ok (.ireturn, 1) := by decide +kernel
theorem dX4_isDoneIn_0 : decode cX4_isDoneIn 0 = .ok (.aload_n 0, 1) := by decide +kernel
theorem dX4_isDoneIn_1 : decode cX4_isDoneIn 1 = .ok (.iload_n 1, 1) := by decide +kernel
theorem dX4_isDoneIn_2 : decode cX4_isDoneIn 2 = .ok (.invokestatic 95, 3) := by decide +kernel
theorem dX4_isDoneIn_5 : decode cX4_isDoneIn 5 = .ok (.aload_n 0, 1) := by decide +kernel
theorem dX4_isDoneIn_6 : decode cX4_isDoneIn 6 = .ok (.iconst 0, 1) := by decide +kernel
theorem dX4_isDoneIn_7 : decode cX4_isDoneIn 7 = .ok (.iaload, 1) := by decide +kernel
theorem dX4_isDoneIn_8 : decode cX4_isDoneIn 8 = .ok (.if_icmp .ne 7, 3) := by decide +kernel
theorem dX4_isDoneIn_11 : decode cX4_isDoneIn 11 = .ok (.iconst 1, 1) := by decide +kernel
theorem dX4_isDoneIn_12 : decode cX4_isDoneIn 12 = .ok (.goto 4, 3) := by decide +kernel
theorem dX4_isDoneIn_15 : decode cX4_isDoneIn 15 = .ok (.iconst 0, 1) := by decide +kernel
theorem dX4_isDoneIn_16 : decode cX4_isDoneIn 16 = .ok (.ireturn, 1) := by decide +kernel
theorem dX4_areAllDone_0 : decode cX4_areAllDone 0 = .ok (.iconst 0, 1) := by decide +kernel
theorem dX4_areAllDone_1 : decode cX4_areAllDone 1 = .ok (.istore_n 1, 1) := by decide +kernel
theorem dX4_areAllDone_2 : decode cX4_areAllDone 2 = .ok (.iload_n 1, 1) := by decide +kernel
theorem dX4_areAllDone_3 : decode cX4_areAllDone 3 = .ok (.aload_n 0, 1) := by decide +kernel
theorem dX4_areAllDone_4 : decode cX4_areAllDone 4 = .ok (.iconst 1, 1) := by decide +kernel
theorem dX4_areAllDone_5 : decode cX4_areAllDone 5 = .ok (.iaload, 1) := by decide +kernel
theorem dX4_areAllDone_6 : decode cX4_areAllDone 6 = .ok (.if_icmp .ge 19, 3) := by decide +kernel
theorem dX4_areAllDone_9 : decode cX4_areAllDone 9 = .ok (.aload_n 0, 1) := by decide +kernel
theorem dX4_areAllDone_10 : decode cX4_areAllDone 10 = .ok (.iload_n 1, 1) := by decide +kernel
theorem dX4_areAllDone_11 : decode cX4_areAllDone 11 = .ok (.invokestatic 98, 3) := by decide +kernel
theorem dX4_areAllDone_14 : decode cX4_areAllDone 14 = .ok (.ifCond .ne 5, 3) := by decide +kernel
theorem dX4_areAllDone_17 : decode cX4_areAllDone 17 = .ok (.iconst 0, 1) := by decide +kernel
theorem dX4_areAllDone_18 : decode cX4_areAllDone 18 = .ok (.ireturn, 1) := by decide +kernel
theorem dX4_areAllDone_19 : decode cX4_areAllDone 19 = .ok (.iinc 1 1, 3) := by decide +kernel
theorem dX4_areAllDone_22 : decode cX4_areAllDone 22 = .ok (.goto (-20), 3) := by decide +kernel
theorem dX4_areAllDone_25 : decode cX4_areAllDone 25 = .ok (.iconst 1, 1) := by decide +kernel
theorem dX4_areAllDone_26 : decode cX4_areAllDone 26 = .ok (.ireturn, 1) := by decide +kernel
theorem dX4_letter_0 : decode cX4_letter 0 = .ok (.iload_n 1, 1) := by decide +kernel
theorem dX4_letter_1 : decode cX4_letter 1 = .ok (.ifCond .ge 10, 3) := by decide +kernel
theorem dX4_letter_4 : decode cX4_letter 4 = .ok (.aload_n 0, 1) := by decide +kernel
theorem dX4_letter_5 : decode cX4_letter 5 = .ok (.bipush (-4), 2) := by decide +kernel
theorem dX4_letter_7 : decode cX4_letter 7 = .ok (.invokevirtual 38, 3) := by decide +kernel
theorem dX4_letter_10 : decode cX4_letter 10 = .ok (.ireturn, 1) := by decide +kernel
theorem dX4_letter_11 : decode cX4_letter 11 = .ok (.iload_n 1, 1) := by decide +kernel
theorem dX4_letter_12 : decode cX4_letter 12 = .ok (.sipush 255, 3) := by decide +kernel
theorem dX4_letter_15 : decode cX4_letter 15 = .ok (.if_icmp .gt 12, 3) := by decide +kernel
theorem dX4_letter_18 : decode cX4_letter 18 = .ok (.aload_n 0, 1) := by decide +kernel
theorem dX4_letter_19 : decode cX4_letter 19 = .ok (.getfield 102, 3) := by decide +kernel
theorem dX4_letter_22 : decode cX4_letter 22 = .ok (.bipush 96, 2) := by decide +kernel
theorem dX4_letter_24 : decode cX4_letter 24 = .ok (.if_icmp .ne 10, 3) := by decide +kernel
theorem dX4_letter_27 : decode cX4_letter 27 = .ok (.aload_n 0, 1) := by decide +kernel
theorem dX4_letter_28 : decode cX4_letter 28 = .ok (.bipush (-6), 2) := by decide +kernel
theorem dX4_letter_30 : decode cX4_letter 30 = .ok (.invokevirtual 38, 3) := by decide +kernel
theorem dX4_letter_33 : decode cX4_letter 33 = .ok (.ireturn, 1) := by decide +kernel
theorem dX4_letter_34 : decode cX4_letter 34 = .ok (.aload_n 0, 1) := by decide +kernel
theorem dX4_letter_35 : decode cX4_letter 35 = .ok (.getfield 22, 3) := by decide +kernel
theorem dX4_letter_38 : decode cX4_letter 38 = .ok (.aload_n 0, 1) := by decide +kernel
theorem dX4_letter_39 : decode cX4_letter 39 = .ok (.getfield 102, 3) := by decide +kernel
theorem dX4_letter_42 : decode cX4_letter 42 = .ok (.iload_n 1, 1) := by decide +kernel
theorem dX4_letter_43 : decode cX4_letter 43 = .ok (.iastore, 1) := by decide +kernel
theorem dX4_letter_44 : decode cX4_letter 44 = .ok (.aload_n 0, 1) := by decide +kernel
theorem dX4_letter_45 : decode cX4_letter 45 = .ok (.dup, 1) := by decide +kernel
theorem dX4_letter_46 : decode cX4_letter 46 = .ok (.getfield 102, 3) := by decide +kernel
theorem dX4_letter_49 : decode cX4_letter 49 = .ok (.iconst 1, 1) := by decide +kernel
theorem dX4_letter_50 : decode cX4_letter 50 = .ok (.iadd, 1) := by decide +kernel
theorem dX4_letter_51 : decode cX4_letter 51 = .ok (.putfield 102, 3) := by decide +kernel
theorem dX4_letter_54 : decode cX4_letter 54 = .ok (.aload_n 0, 1) := by decide +kernel
theorem dX4_letter_55 : decode cX4_letter 55 = .ok (.getfield 102, 3) := by decide +kernel
theorem dX4_letter_58 : decode cX4_letter 58 = .ok (.ireturn, 1) := by decide +kernel
theorem dX4_here_0 : decode cX4_here 0 = .ok (.aload_n 0, 1) := by decide +kernel
theorem dX4_here_1 : decode cX4_here 1 = .ok (.getfield 106, 3) := by decide +kernel
theorem dX4_here_4 : decode cX4_here 4 = .ok (.aload_n 0, 1) := by decide +kernel
theorem dX4_here_5 : decode cX4_here 5 = .ok (.getfield 102, 3) := by decide +kernel
theorem dX4_here_8 : decode cX4_here 8 = .ok (.if_icmp .ge 15, 3) := by decide +kernel
theorem dX4_here_11 : decode cX4_here 11 = .ok (.aload_n 0, 1) := by decide +kernel
theorem dX4_here_12 : decode cX4_here 12 = .ok (.getfield 22, 3) := by decide +kernel
theorem dX4_here_15 : decode cX4_here 15 = .ok (.aload_n 0, 1) := by decide +kernel
theorem dX4_here_16 : decode cX4_here 16 = .ok (.getfield 106, 3) := by decide +kernel
theorem dX4_here_19 : decode cX4_here 19 = .ok (.iaload, 1) := by decide +kernel
theorem dX4_here_20 : decode cX4_here 20 = .ok (.goto 4, 3) := by decide +kernel
theorem dX4_here_23 : decode cX4_here 23 = .ok (.iconst (-1), 1) := by decide +kernel
theorem dX4_here_24 : decode cX4_here 24 = .ok (.ireturn, 1) := by decide +kernel
theorem dX4_readsDigit_0 : decode cX4_readsDigit 0 = .ok (.aload_n 0, 1) := by decide +kernel
theorem dX4_readsDigit_1 : decode cX4_readsDigit 1 = .ok (.invokevirtual 109, 3) := by decide +kernel
theorem dX4_readsDigit_4 : decode cX4_readsDigit 4 = .ok (.bipush 48, 2) := by decide +kernel
theorem dX4_readsDigit_6 : decode cX4_readsDigit 6 = .ok (.bipush 57, 2) := by decide +kernel
theorem dX4_readsDigit_8 : decode cX4_readsDigit 8 = .ok (.invokestatic 42, 3) := by decide +kernel
theorem dX4_readsDigit_11 : decode cX4_readsDigit 11 = .ok (.ifCond .ne 5, 3) := by decide +kernel
theorem dX4_readsDigit_14 : decode cX4_readsDigit 14 = .ok (.iconst 0, 1) := by decide +kernel
theorem dX4_readsDigit_15 : decode cX4_readsDigit 15 = .ok (.ireturn, 1) := by decide +kernel
theorem dX4_readsDigit_16 : decode cX4_readsDigit 16 = .ok (.aload_n 0, 1) := by decide +kernel
theorem dX4_readsDigit_17 : decode cX4_readsDigit 17 = .ok (.getfield 34, 3) := by decide +kernel
theorem dX4_readsDigit_20 : decode cX4_readsDigit 20 = .ok (.iload_n 1, 1) := by decide +kernel
theorem dX4_readsDigit_21 : decode cX4_readsDigit 21 = .ok (.aload_n 0, 1) := by decide +kernel
theorem dX4_readsDigit_22 : decode cX4_readsDigit 22 = .ok (.invokevirtual 109, 3) := by decide +kernel
theorem dX4_readsDigit_25 : decode cX4_readsDigit 25 = .ok (.bipush 48, 2) := by decide +kernel
theorem dX4_readsDigit_27 : decode cX4_readsDigit 27 = .ok (.isub, 1) := by decide +kernel
theorem dX4_readsDigit_28 : decode cX4_readsDigit 28 = .ok (.iastore, 1) := by decide +kernel
theorem dX4_readsDigit_29 : decode cX4_readsDigit 29 = .ok (.aload_n 0, 1) := by decide +kernel
theorem dX4_readsDigit_30 : decode cX4_readsDigit 30 = .ok (.dup, 1) := by decide +kernel
theorem dX4_readsDigit_31 : decode cX4_readsDigit 31 = .ok (.getfield 106, 3) := by decide +kernel
theorem dX4_readsDigit_34 : decode cX4_readsDigit 34 = .ok (.iconst 1, 1) := by decide +kernel
theorem dX4_readsDigit_35 : decode cX4_readsDigit 35 = .ok (.iadd, 1) := by decide +kernel
theorem dX4_readsDigit_36 : decode cX4_readsDigit 36 = .ok (.putfield 106, 3) := by decide +kernel
theorem dX4_readsDigit_39 : decode cX4_readsDigit 39 = .ok (.iconst 1, 1) := by decide +kernel
theorem dX4_readsDigit_40 : decode cX4_readsDigit 40 = .ok (.ireturn, 1) := by decide +kernel
theorem dX4_kindBy_0 : decode cX4_kindBy 0 = .ok (.iload_n 0, 1) := by decide +kernel
theorem dX4_kindBy_1 : decode cX4_kindBy 1 = .ok (.tableswitch 75 99 110 #[67, 65, 75, 75, 73, 75, 75, 75, 75, 63, 69, 71], 63) := by decide +kernel
theorem dX4_kindBy_64 : decode cX4_kindBy 64 = .ok (.iconst 0, 1) := by decide +kernel
theorem dX4_kindBy_65 : decode cX4_kindBy 65 = .ok (.ireturn, 1) := by decide +kernel
theorem dX4_kindBy_66 : decode cX4_kindBy 66 = .ok (.iconst 1, 1) := by decide +kernel
theorem dX4_kindBy_67 : decode cX4_kindBy 67 = .ok (.ireturn, 1) := by decide +kernel
theorem dX4_kindBy_68 : decode cX4_kindBy 68 = .ok (.iconst 2, 1) := by decide +kernel
theorem dX4_kindBy_69 : decode cX4_kindBy 69 = .ok (.ireturn, 1) := by decide +kernel
theorem dX4_kindBy_70 : decode cX4_kindBy 70 = .ok (.iconst 3, 1) := by decide +kernel
theorem dX4_kindBy_71 : decode cX4_kindBy 71 = .ok (.ireturn, 1) := by decide +kernel
theorem dX4_kindBy_72 : decode cX4_kindBy 72 = .ok (.iconst 4, 1) := by decide +kernel
theorem dX4_kindBy_73 : decode cX4_kindBy 73 = .ok (.ireturn, 1) := by decide +kernel
theorem dX4_kindBy_74 : decode cX4_kindBy 74 = .ok (.iconst 5, 1) := by decide +kernel
theorem dX4_kindBy_75 : decode cX4_kindBy 75 = .ok (.ireturn, 1) := by decide +kernel
theorem dX4_kindBy_76 : decode cX4_kindBy 76 = .ok (.bipush (-9), 2) := by decide +kernel
theorem dX4_kindBy_78 : decode cX4_kindBy 78 = .ok (.ireturn, 1) := by decide +kernel
theorem dX4_readsKind_0 : decode cX4_readsKind 0 = .ok (.aload_n 0, 1) := by decide +kernel
theorem dX4_readsKind_1 : decode cX4_readsKind 1 = .ok (.getfield 34, 3) := by decide +kernel
theorem dX4_readsKind_4 : decode cX4_readsKind 4 = .ok (.iconst 0, 1) := by decide +kernel
theorem dX4_readsKind_5 : decode cX4_readsKind 5 = .ok (.aload_n 0, 1) := by decide +kernel
theorem dX4_readsKind_6 : decode cX4_readsKind 6 = .ok (.invokevirtual 109, 3) := by decide +kernel
theorem dX4_readsKind_9 : decode cX4_readsKind 9 = .ok (.invokestatic 113, 3) := by decide +kernel
theorem dX4_readsKind_12 : decode cX4_readsKind 12 = .ok (.iastore, 1) := by decide +kernel
theorem dX4_readsKind_13 : decode cX4_readsKind 13 = .ok (.aload_n 0, 1) := by decide +kernel
theorem dX4_readsKind_14 : decode cX4_readsKind 14 = .ok (.dup, 1) := by decide +kernel
theorem dX4_readsKind_15 : decode cX4_readsKind 15 = .ok (.getfield 106, 3) := by decide +kernel
theorem dX4_readsKind_18 : decode cX4_readsKind 18 = .ok (.aload_n 0, 1) := by decide +kernel
theorem dX4_readsKind_19 : decode cX4_readsKind 19 = .ok (.getfield 34, 3) := by decide +kernel
theorem dX4_readsKind_22 : decode cX4_readsKind 22 = .ok (.iconst 0, 1) := by decide +kernel
theorem dX4_readsKind_23 : decode cX4_readsKind 23 = .ok (.iaload, 1) := by decide +kernel
theorem dX4_readsKind_24 : decode cX4_readsKind 24 = .ok (.ifCond .ge 7, 3) := by decide +kernel
theorem dX4_readsKind_27 : decode cX4_readsKind 27 = .ok (.iconst 0, 1) := by decide +kernel
theorem dX4_readsKind_28 : decode cX4_readsKind 28 = .ok (.goto 4, 3) := by decide +kernel
theorem dX4_readsKind_31 : decode cX4_readsKind 31 = .ok (.iconst 1, 1) := by decide +kernel
theorem dX4_readsKind_32 : decode cX4_readsKind 32 = .ok (.iadd, 1) := by decide +kernel
theorem dX4_readsKind_33 : decode cX4_readsKind 33 = .ok (.putfield 106, 3) := by decide +kernel
theorem dX4_readsKind_36 : decode cX4_readsKind 36 = .ok (.aload_n 0, 1) := by decide +kernel
theorem dX4_readsKind_37 : decode cX4_readsKind 37 = .ok (.getfield 34, 3) := by decide +kernel
theorem dX4_readsKind_40 : decode cX4_readsKind 40 = .ok (.iconst 0, 1) := by decide +kernel
theorem dX4_readsKind_41 : decode cX4_readsKind 41 = .ok (.iaload, 1) := by decide +kernel
theorem dX4_readsKind_42 : decode cX4_readsKind 42 = .ok (.ifCond .lt 7, 3) := by decide +kernel
theorem dX4_readsKind_45 : decode cX4_readsKind 45 = .ok (.iconst 1, 1) := by decide +kernel
theorem dX4_readsKind_46 : decode cX4_readsKind 46 = .ok (.goto 4, 3) := by decide +kernel
theorem dX4_readsKind_49 : decode cX4_readsKind 49 = .ok (.iconst 0, 1) := by decide +kernel
theorem dX4_readsKind_50 : decode cX4_readsKind 50 = .ok (.ireturn, 1) := by decide +kernel
theorem dX4_readsStatement_0 : decode cX4_readsStatement 0 = .ok (.aload_n 0, 1) := by decide +kernel
theorem dX4_readsStatement_1 : decode cX4_readsStatement 1 = .ok (.invokevirtual 109, 3) := by decide +kernel
theorem dX4_readsStatement_4 : decode cX4_readsStatement 4 = .ok (.istore_n 1, 1) := by decide +kernel
theorem dX4_readsStatement_5 : decode cX4_readsStatement 5 = .ok (.aload_n 0, 1) := by decide +kernel
theorem dX4_readsStatement_6 : decode cX4_readsStatement 6 = .ok (.dup, 1) := by decide +kernel
theorem dX4_readsStatement_7 : decode cX4_readsStatement 7 = .ok (.getfield 106, 3) := by decide +kernel
theorem dX4_readsStatement_10 : decode cX4_readsStatement 10 = .ok (.iconst 1, 1) := by decide +kernel
theorem dX4_readsStatement_11 : decode cX4_readsStatement 11 = .ok (.iadd, 1) := by decide +kernel
theorem dX4_readsStatement_12 : decode cX4_readsStatement 12 = .ok (.putfield 106, 3) := by decide +kernel
theorem dX4_readsStatement_15 : decode cX4_readsStatement 15 = .ok (.iload_n 1, 1) := by decide +kernel
theorem dX4_readsStatement_16 : decode cX4_readsStatement 16 = .ok (.lookupswitch 158 #[(97, 60), (100, 60), (103, 125), (109, 60), (113, 85), (119, 125)], 60) := by decide +kernel
theorem dX4_readsStatement_76 : decode cX4_readsStatement 76 = .ok (.aload_n 0, 1) := by decide +kernel
theorem dX4_readsStatement_77 : decode cX4_readsStatement 77 = .ok (.iconst 0, 1) := by decide +kernel
theorem dX4_readsStatement_78 : decode cX4_readsStatement 78 = .ok (.invokevirtual 116, 3) := by decide +kernel
theorem dX4_readsStatement_81 : decode cX4_readsStatement 81 = .ok (.ifCond .eq 15, 3) := by decide +kernel
theorem dX4_readsStatement_84 : decode cX4_readsStatement 84 = .ok (.aload_n 0, 1) := by decide +kernel
theorem dX4_readsStatement_85 : decode cX4_readsStatement 85 = .ok (.iconst 1, 1) := by decide +kernel
theorem dX4_readsStatement_86 : decode cX4_readsStatement 86 = .ok (.invokevirtual 116, 3) := by decide +kernel
theorem dX4_readsStatement_89 : decode cX4_readsStatement 89 = .ok (.ifCond .eq 7, 3) := by decide +kernel
theorem dX4_readsStatement_92 : decode cX4_readsStatement 92 = .ok (.iconst 1, 1) := by decide +kernel
theorem dX4_readsStatement_93 : decode cX4_readsStatement 93 = .ok (.goto 4, 3) := by decide +kernel
theorem dX4_readsStatement_96 : decode cX4_readsStatement 96 = .ok (.iconst 0, 1) := by decide +kernel
theorem dX4_readsStatement_97 : decode cX4_readsStatement 97 = .ok (.istore_n 2, 1) := by decide +kernel
theorem dX4_readsStatement_98 : decode cX4_readsStatement 98 = .ok (.goto 88, 3) := by decide +kernel
theorem dX4_readsStatement_101 : decode cX4_readsStatement 101 = .ok (.aload_n 0, 1) := by decide +kernel
theorem dX4_readsStatement_102 : decode cX4_readsStatement 102 = .ok (.invokevirtual 120, 3) := by decide +kernel
theorem dX4_readsStatement_105 : decode cX4_readsStatement 105 = .ok (.ifCond .eq 31, 3) := by decide +kernel
theorem dX4_readsStatement_108 : decode cX4_readsStatement 108 = .ok (.aload_n 0, 1) := by decide +kernel
theorem dX4_readsStatement_109 : decode cX4_readsStatement 109 = .ok (.iconst 1, 1) := by decide +kernel
theorem dX4_readsStatement_110 : decode cX4_readsStatement 110 = .ok (.invokevirtual 116, 3) := by decide +kernel
theorem dX4_readsStatement_113 : decode cX4_readsStatement 113 = .ok (.ifCond .eq 23, 3) := by decide +kernel
theorem dX4_readsStatement_116 : decode cX4_readsStatement 116 = .ok (.aload_n 0, 1) := by decide +kernel
theorem dX4_readsStatement_117 : decode cX4_readsStatement 117 = .ok (.iconst 2, 1) := by decide +kernel
theorem dX4_readsStatement_118 : decode cX4_readsStatement 118 = .ok (.invokevirtual 116, 3) := by decide +kernel
theorem dX4_readsStatement_121 : decode cX4_readsStatement 121 = .ok (.ifCond .eq 15, 3) := by decide +kernel
theorem dX4_readsStatement_124 : decode cX4_readsStatement 124 = .ok (.aload_n 0, 1) := by decide +kernel
theorem dX4_readsStatement_125 : decode cX4_readsStatement 125 = .ok (.iconst 3, 1) := by decide +kernel
theorem dX4_readsStatement_126 : decode cX4_readsStatement 126 = .ok (.invokevirtual 116, 3) := by decide +kernel
theorem dX4_readsStatement_129 : decode cX4_readsStatement 129 = .ok (.ifCond .eq 7, 3) := by decide +kernel
theorem dX4_readsStatement_132 : decode cX4_readsStatement 132 = .ok (.iconst 1, 1) := by decide +kernel
theorem dX4_readsStatement_133 : decode cX4_readsStatement 133 = .ok (.goto 4, 3) := by decide +kernel
theorem dX4_readsStatement_136 : decode cX4_readsStatement 136 = .ok (.iconst 0, 1) := by decide +kernel
theorem dX4_readsStatement_137 : decode cX4_readsStatement 137 = .ok (.istore_n 2, 1) := by decide +kernel
theorem dX4_readsStatement_138 : decode cX4_readsStatement 138 = .ok (.goto 48, 3) := by decide +kernel
theorem dX4_readsStatement_141 : decode cX4_readsStatement 141 = .ok (.aload_n 0, 1) := by decide +kernel
theorem dX4_readsStatement_142 : decode cX4_readsStatement 142 = .ok (.iconst 0, 1) := by decide +kernel
theorem dX4_readsStatement_143 : decode cX4_readsStatement 143 = .ok (.invokevirtual 116, 3) := by decide +kernel
theorem dX4_readsStatement_146 : decode cX4_readsStatement 146 = .ok (.ifCond .eq 23, 3) := by decide +kernel
theorem dX4_readsStatement_149 : decode cX4_readsStatement 149 = .ok (.aload_n 0, 1) := by decide +kernel
theorem dX4_readsStatement_150 : decode cX4_readsStatement 150 = .ok (.iconst 1, 1) := by decide +kernel
theorem dX4_readsStatement_151 : decode cX4_readsStatement 151 = .ok (.invokevirtual 116, 3) := by decide +kernel
theorem dX4_readsStatement_154 : decode cX4_readsStatement 154 = .ok (.ifCond .eq 15, 3) := by decide +kernel
theorem dX4_readsStatement_157 : decode cX4_readsStatement 157 = .ok (.aload_n 0, 1) := by decide +kernel
theorem dX4_readsStatement_158 : decode cX4_readsStatement 158 = .ok (.iconst 2, 1) := by decide +kernel
theorem dX4_readsStatement_159 : decode cX4_readsStatement 159 = .ok (.invokevirtual 116, 3) := by decide +kernel
theorem dX4_readsStatement_162 : decode cX4_readsStatement 162 = .ok (.ifCond .eq 7, 3) := by decide +kernel
theorem dX4_readsStatement_165 : decode cX4_readsStatement 165 = .ok (.iconst 1, 1) := by decide +kernel
theorem dX4_readsStatement_166 : decode cX4_readsStatement 166 = .ok (.goto 4, 3) := by decide +kernel
theorem dX4_readsStatement_169 : decode cX4_readsStatement 169 = .ok (.iconst 0, 1) := by decide +kernel
theorem dX4_readsStatement_170 : decode cX4_readsStatement 170 = .ok (.istore_n 2, 1) := by decide +kernel
theorem dX4_readsStatement_171 : decode cX4_readsStatement 171 = .ok (.goto 15, 3) := by decide +kernel
theorem dX4_readsStatement_174 : decode cX4_readsStatement 174 = .ok (.aload_n 0, 1) := by decide +kernel
theorem dX4_readsStatement_175 : decode cX4_readsStatement 175 = .ok (.dup, 1) := by decide +kernel
theorem dX4_readsStatement_176 : decode cX4_readsStatement 176 = .ok (.getfield 106, 3) := by decide +kernel
theorem dX4_readsStatement_179 : decode cX4_readsStatement 179 = .ok (.iconst 1, 1) := by decide +kernel
theorem dX4_readsStatement_180 : decode cX4_readsStatement 180 = .ok (.isub, 1) := by decide +kernel
theorem dX4_readsStatement_181 : decode cX4_readsStatement 181 = .ok (.putfield 106, 3) := by decide +kernel
theorem dX4_readsStatement_184 : decode cX4_readsStatement 184 = .ok (.iconst 0, 1) := by decide +kernel
theorem dX4_readsStatement_185 : decode cX4_readsStatement 185 = .ok (.ireturn, 1) := by decide +kernel
theorem dX4_readsStatement_186 : decode cX4_readsStatement 186 = .ok (.iload_n 2, 1) := by decide +kernel
theorem dX4_readsStatement_187 : decode cX4_readsStatement 187 = .ok (.ifCond .eq 12, 3) := by decide +kernel
theorem dX4_readsStatement_190 : decode cX4_readsStatement 190 = .ok (.aload_n 0, 1) := by decide +kernel
theorem dX4_readsStatement_191 : decode cX4_readsStatement 191 = .ok (.invokevirtual 109, 3) := by decide +kernel
theorem dX4_readsStatement_194 : decode cX4_readsStatement 194 = .ok (.bipush 59, 2) := by decide +kernel
theorem dX4_readsStatement_196 : decode cX4_readsStatement 196 = .ok (.if_icmp .eq 5, 3) := by decide +kernel
theorem dX4_readsStatement_199 : decode cX4_readsStatement 199 = .ok (.iconst 0, 1) := by decide +kernel
theorem dX4_readsStatement_200 : decode cX4_readsStatement 200 = .ok (.ireturn, 1) := by decide +kernel
theorem dX4_readsStatement_201 : decode cX4_readsStatement 201 = .ok (.aload_n 0, 1) := by decide +kernel
theorem dX4_readsStatement_202 : decode cX4_readsStatement 202 = .ok (.dup, 1) := by decide +kernel
theorem dX4_readsStatement_203 : decode cX4_readsStatement 203 = .ok (.getfield 106, 3) := by decide +kernel
theorem dX4_readsStatement_206 : decode cX4_readsStatement 206 = .ok (.iconst 1, 1) := by decide +kernel
theorem dX4_readsStatement_207 : decode cX4_readsStatement 207 = .ok (.iadd, 1) := by decide +kernel
theorem dX4_readsStatement_208 : decode cX4_readsStatement 208 = .ok (.putfield 106, 3) := by decide +kernel
theorem dX4_readsStatement_211 : decode cX4_readsStatement 211 = .ok (.iconst 1, 1) := by decide +kernel
theorem dX4_readsStatement_212 : decode cX4_readsStatement 212 = .ok (.ireturn, 1) := by decide +kernel
theorem dX4_turnsDoor_0 : decode cX4_turnsDoor 0 = .ok (.aload_n 0, 1) := by decide +kernel
theorem dX4_turnsDoor_1 : decode cX4_turnsDoor 1 = .ok (.getfield 9, 3) := by decide +kernel
theorem dX4_turnsDoor_4 : decode cX4_turnsDoor 4 = .ok (.iconst 3, 1) := by decide +kernel
theorem dX4_turnsDoor_5 : decode cX4_turnsDoor 5 = .ok (.iload_n 1, 1) := by decide +kernel
theorem dX4_turnsDoor_6 : decode cX4_turnsDoor 6 = .ok (.iadd, 1) := by decide +kernel
theorem dX4_turnsDoor_7 : decode cX4_turnsDoor 7 = .ok (.dup2, 1) := by decide +kernel
theorem dX4_turnsDoor_8 : decode cX4_turnsDoor 8 = .ok (.iaload, 1) := by decide +kernel
theorem dX4_turnsDoor_9 : decode cX4_turnsDoor 9 = .ok (.iconst 1, 1) := by decide +kernel
theorem dX4_turnsDoor_10 : decode cX4_turnsDoor 10 = .ok (.iload_n 2, 1) := by decide +kernel
theorem dX4_turnsDoor_11 : decode cX4_turnsDoor 11 = .ok (.ishl, 1) := by decide +kernel
theorem dX4_turnsDoor_12 : decode cX4_turnsDoor 12 = .ok (.ixor, 1) := by decide +kernel
theorem dX4_turnsDoor_13 : decode cX4_turnsDoor 13 = .ok (.iastore, 1) := by decide +kernel
theorem dX4_turnsDoor_14 : decode cX4_turnsDoor 14 = .ok (.aload_n 0, 1) := by decide +kernel
theorem dX4_turnsDoor_15 : decode cX4_turnsDoor 15 = .ok (.getfield 9, 3) := by decide +kernel
theorem dX4_turnsDoor_18 : decode cX4_turnsDoor 18 = .ok (.iconst 3, 1) := by decide +kernel
theorem dX4_turnsDoor_19 : decode cX4_turnsDoor 19 = .ok (.iload_n 2, 1) := by decide +kernel
theorem dX4_turnsDoor_20 : decode cX4_turnsDoor 20 = .ok (.iadd, 1) := by decide +kernel
theorem dX4_turnsDoor_21 : decode cX4_turnsDoor 21 = .ok (.dup2, 1) := by decide +kernel
theorem dX4_turnsDoor_22 : decode cX4_turnsDoor 22 = .ok (.iaload, 1) := by decide +kernel
theorem dX4_turnsDoor_23 : decode cX4_turnsDoor 23 = .ok (.iconst 1, 1) := by decide +kernel
theorem dX4_turnsDoor_24 : decode cX4_turnsDoor 24 = .ok (.iload_n 1, 1) := by decide +kernel
theorem dX4_turnsDoor_25 : decode cX4_turnsDoor 25 = .ok (.ishl, 1) := by decide +kernel
theorem dX4_turnsDoor_26 : decode cX4_turnsDoor 26 = .ok (.ixor, 1) := by decide +kernel
theorem dX4_turnsDoor_27 : decode cX4_turnsDoor 27 = .ok (.iastore, 1) := by decide +kernel
theorem dX4_turnsDoor_28 : decode cX4_turnsDoor 28 = .ok (.return_, 1) := by decide +kernel
theorem dX4_isDone_0 : decode cX4_isDone 0 = .ok (.aload_n 0, 1) := by decide +kernel
theorem dX4_isDone_1 : decode cX4_isDone 1 = .ok (.getfield 34, 3) := by decide +kernel
theorem dX4_isDone_4 : decode cX4_isDone 4 = .ok (.iconst 0, 1) := by decide +kernel
theorem dX4_isDone_5 : decode cX4_isDone 5 = .ok (.iaload, 1) := by decide +kernel
theorem dX4_isDone_6 : decode cX4_isDone 6 = .ok (.istore_n 2, 1) := by decide +kernel
theorem dX4_isDone_7 : decode cX4_isDone 7 = .ok (.aload_n 0, 1) := by decide +kernel
theorem dX4_isDone_8 : decode cX4_isDone 8 = .ok (.getfield 34, 3) := by decide +kernel
theorem dX4_isDone_11 : decode cX4_isDone 11 = .ok (.iconst 1, 1) := by decide +kernel
theorem dX4_isDone_12 : decode cX4_isDone 12 = .ok (.iaload, 1) := by decide +kernel
theorem dX4_isDone_13 : decode cX4_isDone 13 = .ok (.istore_n 3, 1) := by decide +kernel
theorem dX4_isDone_14 : decode cX4_isDone 14 = .ok (.iload_n 1, 1) := by decide +kernel
theorem dX4_isDone_15 : decode cX4_isDone 15 = .ok (.lookupswitch 380 #[(97, 303), (100, 49), (103, 186), (113, 78), (119, 344)], 49) := by decide +kernel
theorem dX4_isDone_64 : decode cX4_isDone 64 = .ok (.iload_n 2, 1) := by decide +kernel
theorem dX4_isDone_65 : decode cX4_isDone 65 = .ok (.invokestatic 124, 3) := by decide +kernel
theorem dX4_isDone_68 : decode cX4_isDone 68 = .ok (.ifCond .eq 15, 3) := by decide +kernel
theorem dX4_isDone_71 : decode cX4_isDone 71 = .ok (.iload_n 3, 1) := by decide +kernel
theorem dX4_isDone_72 : decode cX4_isDone 72 = .ok (.invokestatic 124, 3) := by decide +kernel
theorem dX4_isDone_75 : decode cX4_isDone 75 = .ok (.ifCond .eq 8, 3) := by decide +kernel
theorem dX4_isDone_78 : decode cX4_isDone 78 = .ok (.iload_n 2, 1) := by decide +kernel
theorem dX4_isDone_79 : decode cX4_isDone 79 = .ok (.iload_n 3, 1) := by decide +kernel
theorem dX4_isDone_80 : decode cX4_isDone 80 = .ok (.if_icmp .ne 5, 3) := by decide +kernel
theorem dX4_isDone_83 : decode cX4_isDone 83 = .ok (.iconst 0, 1) := by decide +kernel
theorem dX4_isDone_84 : decode cX4_isDone 84 = .ok (.ireturn, 1) := by decide +kernel
theorem dX4_isDone_85 : decode cX4_isDone 85 = .ok (.aload_n 0, 1) := by decide +kernel
theorem dX4_isDone_86 : decode cX4_isDone 86 = .ok (.iload_n 2, 1) := by decide +kernel
theorem dX4_isDone_87 : decode cX4_isDone 87 = .ok (.iload_n 3, 1) := by decide +kernel
theorem dX4_isDone_88 : decode cX4_isDone 88 = .ok (.invokevirtual 127, 3) := by decide +kernel
theorem dX4_isDone_91 : decode cX4_isDone 91 = .ok (.iconst 1, 1) := by decide +kernel
theorem dX4_isDone_92 : decode cX4_isDone 92 = .ok (.ireturn, 1) := by decide +kernel
theorem dX4_isDone_93 : decode cX4_isDone 93 = .ok (.aload_n 0, 1) := by decide +kernel
theorem dX4_isDone_94 : decode cX4_isDone 94 = .ok (.getfield 34, 3) := by decide +kernel
theorem dX4_isDone_97 : decode cX4_isDone 97 = .ok (.iconst 2, 1) := by decide +kernel
theorem dX4_isDone_98 : decode cX4_isDone 98 = .ok (.iaload, 1) := by decide +kernel
theorem dX4_isDone_99 : decode cX4_isDone 99 = .ok (.invokestatic 124, 3) := by decide +kernel
theorem dX4_isDone_102 : decode cX4_isDone 102 = .ok (.ifCond .eq 14, 3) := by decide +kernel
theorem dX4_isDone_105 : decode cX4_isDone 105 = .ok (.aload_n 0, 1) := by decide +kernel
theorem dX4_isDone_106 : decode cX4_isDone 106 = .ok (.getfield 9, 3) := by decide +kernel
theorem dX4_isDone_109 : decode cX4_isDone 109 = .ok (.iconst 0, 1) := by decide +kernel
theorem dX4_isDone_110 : decode cX4_isDone 110 = .ok (.iaload, 1) := by decide +kernel
theorem dX4_isDone_111 : decode cX4_isDone 111 = .ok (.bipush 8, 2) := by decide +kernel
theorem dX4_isDone_113 : decode cX4_isDone 113 = .ok (.if_icmp .ne 5, 3) := by decide +kernel
theorem dX4_isDone_116 : decode cX4_isDone 116 = .ok (.iconst 0, 1) := by decide +kernel
theorem dX4_isDone_117 : decode cX4_isDone 117 = .ok (.ireturn, 1) := by decide +kernel
theorem dX4_isDone_118 : decode cX4_isDone 118 = .ok (.iconst 0, 1) := by decide +kernel
theorem dX4_isDone_119 : decode cX4_isDone 119 = .ok (.istore 4, 2) := by decide +kernel
theorem dX4_isDone_121 : decode cX4_isDone 121 = .ok (.iload 4, 2) := by decide +kernel
theorem dX4_isDone_123 : decode cX4_isDone 123 = .ok (.iconst 4, 1) := by decide +kernel
theorem dX4_isDone_124 : decode cX4_isDone 124 = .ok (.if_icmp .ge 32, 3) := by decide +kernel
theorem dX4_isDone_127 : decode cX4_isDone 127 = .ok (.aload_n 0, 1) := by decide +kernel
theorem dX4_isDone_128 : decode cX4_isDone 128 = .ok (.getfield 9, 3) := by decide +kernel
theorem dX4_isDone_131 : decode cX4_isDone 131 = .ok (.aload_n 0, 1) := by decide +kernel
theorem dX4_isDone_132 : decode cX4_isDone 132 = .ok (.getfield 9, 3) := by decide +kernel
theorem dX4_isDone_135 : decode cX4_isDone 135 = .ok (.iconst 0, 1) := by decide +kernel
theorem dX4_isDone_136 : decode cX4_isDone 136 = .ok (.iaload, 1) := by decide +kernel
theorem dX4_isDone_137 : decode cX4_isDone 137 = .ok (.iload 4, 2) := by decide +kernel
theorem dX4_isDone_139 : decode cX4_isDone 139 = .ok (.invokestatic 50, 3) := by decide +kernel
theorem dX4_isDone_142 : decode cX4_isDone 142 = .ok (.aload_n 0, 1) := by decide +kernel
theorem dX4_isDone_143 : decode cX4_isDone 143 = .ok (.getfield 34, 3) := by decide +kernel
theorem dX4_isDone_146 : decode cX4_isDone 146 = .ok (.iload 4, 2) := by decide +kernel
theorem dX4_isDone_148 : decode cX4_isDone 148 = .ok (.iaload, 1) := by decide +kernel
theorem dX4_isDone_149 : decode cX4_isDone 149 = .ok (.iastore, 1) := by decide +kernel
theorem dX4_isDone_150 : decode cX4_isDone 150 = .ok (.iinc 4 1, 3) := by decide +kernel
theorem dX4_isDone_153 : decode cX4_isDone 153 = .ok (.goto (-32), 3) := by decide +kernel
theorem dX4_isDone_156 : decode cX4_isDone 156 = .ok (.iconst 0, 1) := by decide +kernel
theorem dX4_isDone_157 : decode cX4_isDone 157 = .ok (.istore 4, 2) := by decide +kernel
theorem dX4_isDone_159 : decode cX4_isDone 159 = .ok (.iload 4, 2) := by decide +kernel
theorem dX4_isDone_161 : decode cX4_isDone 161 = .ok (.iconst 5, 1) := by decide +kernel
theorem dX4_isDone_162 : decode cX4_isDone 162 = .ok (.if_icmp .ge 27, 3) := by decide +kernel
theorem dX4_isDone_165 : decode cX4_isDone 165 = .ok (.aload_n 0, 1) := by decide +kernel
theorem dX4_isDone_166 : decode cX4_isDone 166 = .ok (.getfield 9, 3) := by decide +kernel
theorem dX4_isDone_169 : decode cX4_isDone 169 = .ok (.iload 4, 2) := by decide +kernel
theorem dX4_isDone_171 : decode cX4_isDone 171 = .ok (.aload_n 0, 1) := by decide +kernel
theorem dX4_isDone_172 : decode cX4_isDone 172 = .ok (.getfield 9, 3) := by decide +kernel
theorem dX4_isDone_175 : decode cX4_isDone 175 = .ok (.iconst 0, 1) := by decide +kernel
theorem dX4_isDone_176 : decode cX4_isDone 176 = .ok (.iaload, 1) := by decide +kernel
theorem dX4_isDone_177 : decode cX4_isDone 177 = .ok (.invokestatic 57, 3) := by decide +kernel
theorem dX4_isDone_180 : decode cX4_isDone 180 = .ok (.bipush (-9), 2) := by decide +kernel
theorem dX4_isDone_182 : decode cX4_isDone 182 = .ok (.iastore, 1) := by decide +kernel
theorem dX4_isDone_183 : decode cX4_isDone 183 = .ok (.iinc 4 1, 3) := by decide +kernel
theorem dX4_isDone_186 : decode cX4_isDone 186 = .ok (.goto (-27), 3) := by decide +kernel
theorem dX4_isDone_189 : decode cX4_isDone 189 = .ok (.aload_n 0, 1) := by decide +kernel
theorem dX4_isDone_190 : decode cX4_isDone 190 = .ok (.getfield 9, 3) := by decide +kernel
theorem dX4_isDone_193 : decode cX4_isDone 193 = .ok (.iconst 0, 1) := by decide +kernel
theorem dX4_isDone_194 : decode cX4_isDone 194 = .ok (.dup2, 1) := by decide +kernel
theorem dX4_isDone_195 : decode cX4_isDone 195 = .ok (.iaload, 1) := by decide +kernel
theorem dX4_isDone_196 : decode cX4_isDone 196 = .ok (.iconst 1, 1) := by decide +kernel
theorem dX4_isDone_197 : decode cX4_isDone 197 = .ok (.iadd, 1) := by decide +kernel
theorem dX4_isDone_198 : decode cX4_isDone 198 = .ok (.iastore, 1) := by decide +kernel
theorem dX4_isDone_199 : decode cX4_isDone 199 = .ok (.iconst 1, 1) := by decide +kernel
theorem dX4_isDone_200 : decode cX4_isDone 200 = .ok (.ireturn, 1) := by decide +kernel
theorem dX4_isDone_201 : decode cX4_isDone 201 = .ok (.aload_n 0, 1) := by decide +kernel
theorem dX4_isDone_202 : decode cX4_isDone 202 = .ok (.getfield 34, 3) := by decide +kernel
theorem dX4_isDone_205 : decode cX4_isDone 205 = .ok (.iconst 2, 1) := by decide +kernel
theorem dX4_isDone_206 : decode cX4_isDone 206 = .ok (.iaload, 1) := by decide +kernel
theorem dX4_isDone_207 : decode cX4_isDone 207 = .ok (.bipush 7, 2) := by decide +kernel
theorem dX4_isDone_209 : decode cX4_isDone 209 = .ok (.if_icmp .gt 13, 3) := by decide +kernel
theorem dX4_isDone_212 : decode cX4_isDone 212 = .ok (.aload_n 0, 1) := by decide +kernel
theorem dX4_isDone_213 : decode cX4_isDone 213 = .ok (.getfield 9, 3) := by decide +kernel
theorem dX4_isDone_216 : decode cX4_isDone 216 = .ok (.iconst 1, 1) := by decide +kernel
theorem dX4_isDone_217 : decode cX4_isDone 217 = .ok (.iaload, 1) := by decide +kernel
theorem dX4_isDone_218 : decode cX4_isDone 218 = .ok (.iconst 5, 1) := by decide +kernel
theorem dX4_isDone_219 : decode cX4_isDone 219 = .ok (.if_icmp .ne 5, 3) := by decide +kernel
theorem dX4_isDone_222 : decode cX4_isDone 222 = .ok (.iconst 0, 1) := by decide +kernel
theorem dX4_isDone_223 : decode cX4_isDone 223 = .ok (.ireturn, 1) := by decide +kernel
theorem dX4_isDone_224 : decode cX4_isDone 224 = .ok (.iconst 0, 1) := by decide +kernel
theorem dX4_isDone_225 : decode cX4_isDone 225 = .ok (.istore 4, 2) := by decide +kernel
theorem dX4_isDone_227 : decode cX4_isDone 227 = .ok (.iload 4, 2) := by decide +kernel
theorem dX4_isDone_229 : decode cX4_isDone 229 = .ok (.iconst 5, 1) := by decide +kernel
theorem dX4_isDone_230 : decode cX4_isDone 230 = .ok (.if_icmp .ge 42, 3) := by decide +kernel
theorem dX4_isDone_233 : decode cX4_isDone 233 = .ok (.aload_n 0, 1) := by decide +kernel
theorem dX4_isDone_234 : decode cX4_isDone 234 = .ok (.getfield 9, 3) := by decide +kernel
theorem dX4_isDone_237 : decode cX4_isDone 237 = .ok (.aload_n 0, 1) := by decide +kernel
theorem dX4_isDone_238 : decode cX4_isDone 238 = .ok (.getfield 9, 3) := by decide +kernel
theorem dX4_isDone_241 : decode cX4_isDone 241 = .ok (.iconst 1, 1) := by decide +kernel
theorem dX4_isDone_242 : decode cX4_isDone 242 = .ok (.iaload, 1) := by decide +kernel
theorem dX4_isDone_243 : decode cX4_isDone 243 = .ok (.iload 4, 2) := by decide +kernel
theorem dX4_isDone_245 : decode cX4_isDone 245 = .ok (.invokestatic 54, 3) := by decide +kernel
theorem dX4_isDone_248 : decode cX4_isDone 248 = .ok (.iload 4, 2) := by decide +kernel
theorem dX4_isDone_250 : decode cX4_isDone 250 = .ok (.iconst 3, 1) := by decide +kernel
theorem dX4_isDone_251 : decode cX4_isDone 251 = .ok (.if_icmp .ge 13, 3) := by decide +kernel
theorem dX4_isDone_254 : decode cX4_isDone 254 = .ok (.aload_n 0, 1) := by decide +kernel
theorem dX4_isDone_255 : decode cX4_isDone 255 = .ok (.getfield 34, 3) := by decide +kernel
theorem dX4_isDone_258 : decode cX4_isDone 258 = .ok (.iload 4, 2) := by decide +kernel
theorem dX4_isDone_260 : decode cX4_isDone 260 = .ok (.iaload, 1) := by decide +kernel
theorem dX4_isDone_261 : decode cX4_isDone 261 = .ok (.goto 4, 3) := by decide +kernel
theorem dX4_isDone_264 : decode cX4_isDone 264 = .ok (.iconst 0, 1) := by decide +kernel
theorem dX4_isDone_265 : decode cX4_isDone 265 = .ok (.iastore, 1) := by decide +kernel
theorem dX4_isDone_266 : decode cX4_isDone 266 = .ok (.iinc 4 1, 3) := by decide +kernel
theorem dX4_isDone_269 : decode cX4_isDone 269 = .ok (.goto (-42), 3) := by decide +kernel
theorem dX4_isDone_272 : decode cX4_isDone 272 = .ok (.iconst 0, 1) := by decide +kernel
theorem dX4_isDone_273 : decode cX4_isDone 273 = .ok (.istore 4, 2) := by decide +kernel
theorem dX4_isDone_275 : decode cX4_isDone 275 = .ok (.iload 4, 2) := by decide +kernel
theorem dX4_isDone_277 : decode cX4_isDone 277 = .ok (.bipush 8, 2) := by decide +kernel
theorem dX4_isDone_279 : decode cX4_isDone 279 = .ok (.if_icmp .ge 27, 3) := by decide +kernel
theorem dX4_isDone_282 : decode cX4_isDone 282 = .ok (.aload_n 0, 1) := by decide +kernel
theorem dX4_isDone_283 : decode cX4_isDone 283 = .ok (.getfield 9, 3) := by decide +kernel
theorem dX4_isDone_286 : decode cX4_isDone 286 = .ok (.aload_n 0, 1) := by decide +kernel
theorem dX4_isDone_287 : decode cX4_isDone 287 = .ok (.getfield 9, 3) := by decide +kernel
theorem dX4_isDone_290 : decode cX4_isDone 290 = .ok (.iconst 1, 1) := by decide +kernel
theorem dX4_isDone_291 : decode cX4_isDone 291 = .ok (.iaload, 1) := by decide +kernel
theorem dX4_isDone_292 : decode cX4_isDone 292 = .ok (.iload 4, 2) := by decide +kernel
theorem dX4_isDone_294 : decode cX4_isDone 294 = .ok (.invokestatic 57, 3) := by decide +kernel
theorem dX4_isDone_297 : decode cX4_isDone 297 = .ok (.bipush (-9), 2) := by decide +kernel
theorem dX4_isDone_299 : decode cX4_isDone 299 = .ok (.iastore, 1) := by decide +kernel
theorem dX4_isDone_300 : decode cX4_isDone 300 = .ok (.iinc 4 1, 3) := by decide +kernel
theorem dX4_isDone_303 : decode cX4_isDone 303 = .ok (.goto (-28), 3) := by decide +kernel
theorem dX4_isDone_306 : decode cX4_isDone 306 = .ok (.aload_n 0, 1) := by decide +kernel
theorem dX4_isDone_307 : decode cX4_isDone 307 = .ok (.getfield 9, 3) := by decide +kernel
theorem dX4_isDone_310 : decode cX4_isDone 310 = .ok (.iconst 1, 1) := by decide +kernel
theorem dX4_isDone_311 : decode cX4_isDone 311 = .ok (.dup2, 1) := by decide +kernel
theorem dX4_isDone_312 : decode cX4_isDone 312 = .ok (.iaload, 1) := by decide +kernel
theorem dX4_isDone_313 : decode cX4_isDone 313 = .ok (.iconst 1, 1) := by decide +kernel
theorem dX4_isDone_314 : decode cX4_isDone 314 = .ok (.iadd, 1) := by decide +kernel
theorem dX4_isDone_315 : decode cX4_isDone 315 = .ok (.iastore, 1) := by decide +kernel
theorem dX4_isDone_316 : decode cX4_isDone 316 = .ok (.iconst 1, 1) := by decide +kernel
theorem dX4_isDone_317 : decode cX4_isDone 317 = .ok (.ireturn, 1) := by decide +kernel
theorem dX4_isDone_318 : decode cX4_isDone 318 = .ok (.aload_n 0, 1) := by decide +kernel
theorem dX4_isDone_319 : decode cX4_isDone 319 = .ok (.iload_n 2, 1) := by decide +kernel
theorem dX4_isDone_320 : decode cX4_isDone 320 = .ok (.invokevirtual 131, 3) := by decide +kernel
theorem dX4_isDone_323 : decode cX4_isDone 323 = .ok (.ifCond .eq 10, 3) := by decide +kernel
theorem dX4_isDone_326 : decode cX4_isDone 326 = .ok (.iload_n 3, 1) := by decide +kernel
theorem dX4_isDone_327 : decode cX4_isDone 327 = .ok (.invokestatic 124, 3) := by decide +kernel
theorem dX4_isDone_330 : decode cX4_isDone 330 = .ok (.ifCond .ne 5, 3) := by decide +kernel
theorem dX4_isDone_333 : decode cX4_isDone 333 = .ok (.iconst 0, 1) := by decide +kernel
theorem dX4_isDone_334 : decode cX4_isDone 334 = .ok (.ireturn, 1) := by decide +kernel
theorem dX4_isDone_335 : decode cX4_isDone 335 = .ok (.aload_n 0, 1) := by decide +kernel
theorem dX4_isDone_336 : decode cX4_isDone 336 = .ok (.getfield 9, 3) := by decide +kernel
theorem dX4_isDone_339 : decode cX4_isDone 339 = .ok (.iload_n 2, 1) := by decide +kernel
theorem dX4_isDone_340 : decode cX4_isDone 340 = .ok (.iconst 3, 1) := by decide +kernel
theorem dX4_isDone_341 : decode cX4_isDone 341 = .ok (.invokestatic 54, 3) := by decide +kernel
theorem dX4_isDone_344 : decode cX4_isDone 344 = .ok (.iload_n 3, 1) := by decide +kernel
theorem dX4_isDone_345 : decode cX4_isDone 345 = .ok (.iastore, 1) := by decide +kernel
theorem dX4_isDone_346 : decode cX4_isDone 346 = .ok (.aload_n 0, 1) := by decide +kernel
theorem dX4_isDone_347 : decode cX4_isDone 347 = .ok (.getfield 9, 3) := by decide +kernel
theorem dX4_isDone_350 : decode cX4_isDone 350 = .ok (.iload_n 2, 1) := by decide +kernel
theorem dX4_isDone_351 : decode cX4_isDone 351 = .ok (.iconst 4, 1) := by decide +kernel
theorem dX4_isDone_352 : decode cX4_isDone 352 = .ok (.invokestatic 54, 3) := by decide +kernel
theorem dX4_isDone_355 : decode cX4_isDone 355 = .ok (.iconst 0, 1) := by decide +kernel
theorem dX4_isDone_356 : decode cX4_isDone 356 = .ok (.iastore, 1) := by decide +kernel
theorem dX4_isDone_357 : decode cX4_isDone 357 = .ok (.iconst 1, 1) := by decide +kernel
theorem dX4_isDone_358 : decode cX4_isDone 358 = .ok (.ireturn, 1) := by decide +kernel
theorem dX4_isDone_359 : decode cX4_isDone 359 = .ok (.aload_n 0, 1) := by decide +kernel
theorem dX4_isDone_360 : decode cX4_isDone 360 = .ok (.iload_n 2, 1) := by decide +kernel
theorem dX4_isDone_361 : decode cX4_isDone 361 = .ok (.invokevirtual 131, 3) := by decide +kernel
theorem dX4_isDone_364 : decode cX4_isDone 364 = .ok (.ifCond .eq 11, 3) := by decide +kernel
theorem dX4_isDone_367 : decode cX4_isDone 367 = .ok (.aload_n 0, 1) := by decide +kernel
theorem dX4_isDone_368 : decode cX4_isDone 368 = .ok (.iload_n 3, 1) := by decide +kernel
theorem dX4_isDone_369 : decode cX4_isDone 369 = .ok (.invokevirtual 134, 3) := by decide +kernel
theorem dX4_isDone_372 : decode cX4_isDone 372 = .ok (.ifCond .ne 5, 3) := by decide +kernel
theorem dX4_isDone_375 : decode cX4_isDone 375 = .ok (.iconst 0, 1) := by decide +kernel
theorem dX4_isDone_376 : decode cX4_isDone 376 = .ok (.ireturn, 1) := by decide +kernel
theorem dX4_isDone_377 : decode cX4_isDone 377 = .ok (.aload_n 0, 1) := by decide +kernel
theorem dX4_isDone_378 : decode cX4_isDone 378 = .ok (.getfield 9, 3) := by decide +kernel
theorem dX4_isDone_381 : decode cX4_isDone 381 = .ok (.iload_n 2, 1) := by decide +kernel
theorem dX4_isDone_382 : decode cX4_isDone 382 = .ok (.iload_n 3, 1) := by decide +kernel
theorem dX4_isDone_383 : decode cX4_isDone 383 = .ok (.invokestatic 57, 3) := by decide +kernel
theorem dX4_isDone_386 : decode cX4_isDone 386 = .ok (.aload_n 0, 1) := by decide +kernel
theorem dX4_isDone_387 : decode cX4_isDone 387 = .ok (.getfield 34, 3) := by decide +kernel
theorem dX4_isDone_390 : decode cX4_isDone 390 = .ok (.iconst 2, 1) := by decide +kernel
theorem dX4_isDone_391 : decode cX4_isDone 391 = .ok (.iaload, 1) := by decide +kernel
theorem dX4_isDone_392 : decode cX4_isDone 392 = .ok (.iastore, 1) := by decide +kernel
theorem dX4_isDone_393 : decode cX4_isDone 393 = .ok (.iconst 1, 1) := by decide +kernel
theorem dX4_isDone_394 : decode cX4_isDone 394 = .ok (.ireturn, 1) := by decide +kernel
theorem dX4_isDone_395 : decode cX4_isDone 395 = .ok (.bipush 10, 2) := by decide +kernel
theorem dX4_isDone_397 : decode cX4_isDone 397 = .ok (.iload_n 2, 1) := by decide +kernel
theorem dX4_isDone_398 : decode cX4_isDone 398 = .ok (.imul, 1) := by decide +kernel
theorem dX4_isDone_399 : decode cX4_isDone 399 = .ok (.iload_n 3, 1) := by decide +kernel
theorem dX4_isDone_400 : decode cX4_isDone 400 = .ok (.iadd, 1) := by decide +kernel
theorem dX4_isDone_401 : decode cX4_isDone 401 = .ok (.istore 4, 2) := by decide +kernel
theorem dX4_isDone_403 : decode cX4_isDone 403 = .ok (.iload 4, 2) := by decide +kernel
theorem dX4_isDone_405 : decode cX4_isDone 405 = .ok (.iconst 1, 1) := by decide +kernel
theorem dX4_isDone_406 : decode cX4_isDone 406 = .ok (.bipush 60, 2) := by decide +kernel
theorem dX4_isDone_408 : decode cX4_isDone 408 = .ok (.invokestatic 42, 3) := by decide +kernel
theorem dX4_isDone_411 : decode cX4_isDone 411 = .ok (.ifCond .eq 18, 3) := by decide +kernel
theorem dX4_isDone_414 : decode cX4_isDone 414 = .ok (.aload_n 0, 1) := by decide +kernel
theorem dX4_isDone_415 : decode cX4_isDone 415 = .ok (.getfield 9, 3) := by decide +kernel
theorem dX4_isDone_418 : decode cX4_isDone 418 = .ok (.iconst 2, 1) := by decide +kernel
theorem dX4_isDone_419 : decode cX4_isDone 419 = .ok (.iaload, 1) := by decide +kernel
theorem dX4_isDone_420 : decode cX4_isDone 420 = .ok (.iload 4, 2) := by decide +kernel
theorem dX4_isDone_422 : decode cX4_isDone 422 = .ok (.iadd, 1) := by decide +kernel
theorem dX4_isDone_423 : decode cX4_isDone 423 = .ok (.sipush 999, 3) := by decide +kernel
theorem dX4_isDone_426 : decode cX4_isDone 426 = .ok (.if_icmp .le 5, 3) := by decide +kernel
theorem dX4_isDone_429 : decode cX4_isDone 429 = .ok (.iconst 0, 1) := by decide +kernel
theorem dX4_isDone_430 : decode cX4_isDone 430 = .ok (.ireturn, 1) := by decide +kernel
theorem dX4_isDone_431 : decode cX4_isDone 431 = .ok (.aload_n 0, 1) := by decide +kernel
theorem dX4_isDone_432 : decode cX4_isDone 432 = .ok (.aload_n 0, 1) := by decide +kernel
theorem dX4_isDone_433 : decode cX4_isDone 433 = .ok (.getfield 9, 3) := by decide +kernel
theorem dX4_isDone_436 : decode cX4_isDone 436 = .ok (.iload 4, 2) := by decide +kernel
theorem dX4_isDone_438 : decode cX4_isDone 438 = .ok (.invokevirtual 137, 3) := by decide +kernel
theorem dX4_isDone_441 : decode cX4_isDone 441 = .ok (.iconst 1, 1) := by decide +kernel
theorem dX4_isDone_442 : decode cX4_isDone 442 = .ok (.ireturn, 1) := by decide +kernel
theorem dX4_museum_0 : decode cX4_museum 0 = .ok (.aload_n 0, 1) := by decide +kernel
theorem dX4_museum_1 : decode cX4_museum 1 = .ok (.iconst 0, 1) := by decide +kernel
theorem dX4_museum_2 : decode cX4_museum 2 = .ok (.putfield 106, 3) := by decide +kernel
theorem dX4_museum_5 : decode cX4_museum 5 = .ok (.iconst 0, 1) := by decide +kernel
theorem dX4_museum_6 : decode cX4_museum 6 = .ok (.istore_n 1, 1) := by decide +kernel
theorem dX4_museum_7 : decode cX4_museum 7 = .ok (.bipush (-9), 2) := by decide +kernel
theorem dX4_museum_9 : decode cX4_museum 9 = .ok (.istore_n 2, 1) := by decide +kernel
theorem dX4_museum_10 : decode cX4_museum 10 = .ok (.aload_n 0, 1) := by decide +kernel
theorem dX4_museum_11 : decode cX4_museum 11 = .ok (.invokevirtual 140, 3) := by decide +kernel
theorem dX4_museum_14 : decode cX4_museum 14 = .ok (.ifCond .ne 12, 3) := by decide +kernel
theorem dX4_museum_17 : decode cX4_museum 17 = .ok (.sipush (-1000), 3) := by decide +kernel
theorem dX4_museum_20 : decode cX4_museum 20 = .ok (.aload_n 0, 1) := by decide +kernel
theorem dX4_museum_21 : decode cX4_museum 21 = .ok (.getfield 106, 3) := by decide +kernel
theorem dX4_museum_24 : decode cX4_museum 24 = .ok (.isub, 1) := by decide +kernel
theorem dX4_museum_25 : decode cX4_museum 25 = .ok (.istore_n 2, 1) := by decide +kernel
theorem dX4_museum_26 : decode cX4_museum 26 = .ok (.iinc 1 1, 3) := by decide +kernel
theorem dX4_museum_29 : decode cX4_museum 29 = .ok (.iload_n 2, 1) := by decide +kernel
theorem dX4_museum_30 : decode cX4_museum 30 = .ok (.bipush (-9), 2) := by decide +kernel
theorem dX4_museum_32 : decode cX4_museum 32 = .ok (.if_icmp .ne 14, 3) := by decide +kernel
theorem dX4_museum_35 : decode cX4_museum 35 = .ok (.aload_n 0, 1) := by decide +kernel
theorem dX4_museum_36 : decode cX4_museum 36 = .ok (.getfield 106, 3) := by decide +kernel
theorem dX4_museum_39 : decode cX4_museum 39 = .ok (.aload_n 0, 1) := by decide +kernel
theorem dX4_museum_40 : decode cX4_museum 40 = .ok (.getfield 102, 3) := by decide +kernel
theorem dX4_museum_43 : decode cX4_museum 43 = .ok (.if_icmp .lt (-33), 3) := by decide +kernel
theorem dX4_museum_46 : decode cX4_museum 46 = .ok (.aload_n 0, 1) := by decide +kernel
theorem dX4_museum_47 : decode cX4_museum 47 = .ok (.getfield 9, 3) := by decide +kernel
theorem dX4_museum_50 : decode cX4_museum 50 = .ok (.aload_n 0, 1) := by decide +kernel
theorem dX4_museum_51 : decode cX4_museum 51 = .ok (.getfield 19, 3) := by decide +kernel
theorem dX4_museum_54 : decode cX4_museum 54 = .ok (.invokestatic 88, 3) := by decide +kernel
theorem dX4_museum_57 : decode cX4_museum 57 = .ok (.aload_n 0, 1) := by decide +kernel
theorem dX4_museum_58 : decode cX4_museum 58 = .ok (.iconst 0, 1) := by decide +kernel
theorem dX4_museum_59 : decode cX4_museum 59 = .ok (.putfield 106, 3) := by decide +kernel
theorem dX4_museum_62 : decode cX4_museum 62 = .ok (.iload_n 2, 1) := by decide +kernel
theorem dX4_museum_63 : decode cX4_museum 63 = .ok (.bipush (-9), 2) := by decide +kernel
theorem dX4_museum_65 : decode cX4_museum 65 = .ok (.if_icmp .ne 63, 3) := by decide +kernel
theorem dX4_museum_68 : decode cX4_museum 68 = .ok (.aload_n 0, 1) := by decide +kernel
theorem dX4_museum_69 : decode cX4_museum 69 = .ok (.getfield 106, 3) := by decide +kernel
theorem dX4_museum_72 : decode cX4_museum 72 = .ok (.aload_n 0, 1) := by decide +kernel
theorem dX4_museum_73 : decode cX4_museum 73 = .ok (.getfield 102, 3) := by decide +kernel
theorem dX4_museum_76 : decode cX4_museum 76 = .ok (.if_icmp .ge 52, 3) := by decide +kernel
theorem dX4_museum_79 : decode cX4_museum 79 = .ok (.aload_n 0, 1) := by decide +kernel
theorem dX4_museum_80 : decode cX4_museum 80 = .ok (.getfield 106, 3) := by decide +kernel
theorem dX4_museum_83 : decode cX4_museum 83 = .ok (.istore_n 3, 1) := by decide +kernel
theorem dX4_museum_84 : decode cX4_museum 84 = .ok (.aload_n 0, 1) := by decide +kernel
theorem dX4_museum_85 : decode cX4_museum 85 = .ok (.invokevirtual 109, 3) := by decide +kernel
theorem dX4_museum_88 : decode cX4_museum 88 = .ok (.istore 4, 2) := by decide +kernel
theorem dX4_museum_90 : decode cX4_museum 90 = .ok (.aload_n 0, 1) := by decide +kernel
theorem dX4_museum_91 : decode cX4_museum 91 = .ok (.invokevirtual 140, 3) := by decide +kernel
theorem dX4_museum_94 : decode cX4_museum 94 = .ok (.istore 5, 2) := by decide +kernel
theorem dX4_museum_96 : decode cX4_museum 96 = .ok (.aload_n 0, 1) := by decide +kernel
theorem dX4_museum_97 : decode cX4_museum 97 = .ok (.iload 4, 2) := by decide +kernel
theorem dX4_museum_99 : decode cX4_museum 99 = .ok (.invokevirtual 143, 3) := by decide +kernel
theorem dX4_museum_102 : decode cX4_museum 102 = .ok (.ifCond .eq 6, 3) := by decide +kernel
theorem dX4_museum_105 : decode cX4_museum 105 = .ok (.goto (-43), 3) := by decide +kernel
theorem dX4_museum_108 : decode cX4_museum 108 = .ok (.sipush (-2000), 3) := by decide +kernel
theorem dX4_museum_111 : decode cX4_museum 111 = .ok (.iload_n 3, 1) := by decide +kernel
theorem dX4_museum_112 : decode cX4_museum 112 = .ok (.isub, 1) := by decide +kernel
theorem dX4_museum_113 : decode cX4_museum 113 = .ok (.istore_n 2, 1) := by decide +kernel
theorem dX4_museum_114 : decode cX4_museum 114 = .ok (.aload_n 0, 1) := by decide +kernel
theorem dX4_museum_115 : decode cX4_museum 115 = .ok (.getfield 19, 3) := by decide +kernel
theorem dX4_museum_118 : decode cX4_museum 118 = .ok (.aload_n 0, 1) := by decide +kernel
theorem dX4_museum_119 : decode cX4_museum 119 = .ok (.getfield 9, 3) := by decide +kernel
theorem dX4_museum_122 : decode cX4_museum 122 = .ok (.invokestatic 88, 3) := by decide +kernel
theorem dX4_museum_125 : decode cX4_museum 125 = .ok (.goto (-63), 3) := by decide +kernel
theorem dX4_museum_128 : decode cX4_museum 128 = .ok (.aload_n 0, 1) := by decide +kernel
theorem dX4_museum_129 : decode cX4_museum 129 = .ok (.iconst 0, 1) := by decide +kernel
theorem dX4_museum_130 : decode cX4_museum 130 = .ok (.putfield 102, 3) := by decide +kernel
theorem dX4_museum_133 : decode cX4_museum 133 = .ok (.iload_n 2, 1) := by decide +kernel
theorem dX4_museum_134 : decode cX4_museum 134 = .ok (.bipush (-9), 2) := by decide +kernel
theorem dX4_museum_136 : decode cX4_museum 136 = .ok (.if_icmp .ne 7, 3) := by decide +kernel
theorem dX4_museum_139 : decode cX4_museum 139 = .ok (.iload_n 1, 1) := by decide +kernel
theorem dX4_museum_140 : decode cX4_museum 140 = .ok (.goto 4, 3) := by decide +kernel
theorem dX4_museum_143 : decode cX4_museum 143 = .ok (.iload_n 2, 1) := by decide +kernel
theorem dX4_museum_144 : decode cX4_museum 144 = .ok (.ireturn, 1) := by decide +kernel
theorem dX4_door_0 : decode cX4_door 0 = .ok (.iload_n 1, 1) := by decide +kernel
theorem dX4_door_1 : decode cX4_door 1 = .ok (.invokestatic 124, 3) := by decide +kernel
theorem dX4_door_4 : decode cX4_door 4 = .ok (.ifCond .eq 23, 3) := by decide +kernel
theorem dX4_door_7 : decode cX4_door 7 = .ok (.iload_n 2, 1) := by decide +kernel
theorem dX4_door_8 : decode cX4_door 8 = .ok (.invokestatic 124, 3) := by decide +kernel
theorem dX4_door_11 : decode cX4_door 11 = .ok (.ifCond .eq 16, 3) := by decide +kernel
theorem dX4_door_14 : decode cX4_door 14 = .ok (.aload_n 0, 1) := by decide +kernel
theorem dX4_door_15 : decode cX4_door 15 = .ok (.aload_n 0, 1) := by decide +kernel
theorem dX4_door_16 : decode cX4_door 16 = .ok (.getfield 9, 3) := by decide +kernel
theorem dX4_door_19 : decode cX4_door 19 = .ok (.iload_n 1, 1) := by decide +kernel
theorem dX4_door_20 : decode cX4_door 20 = .ok (.iload_n 2, 1) := by decide +kernel
theorem dX4_door_21 : decode cX4_door 21 = .ok (.invokevirtual 146, 3) := by decide +kernel
theorem dX4_door_24 : decode cX4_door 24 = .ok (.goto 8, 3) := by decide +kernel
theorem dX4_door_27 : decode cX4_door 27 = .ok (.aload_n 0, 1) := by decide +kernel
theorem dX4_door_28 : decode cX4_door 28 = .ok (.iconst (-1), 1) := by decide +kernel
theorem dX4_door_29 : decode cX4_door 29 = .ok (.invokevirtual 38, 3) := by decide +kernel
theorem dX4_door_32 : decode cX4_door 32 = .ok (.ireturn, 1) := by decide +kernel
theorem dX4_question_0 : decode cX4_question 0 = .ok (.aload_n 0, 1) := by decide +kernel
theorem dX4_question_1 : decode cX4_question 1 = .ok (.iload_n 1, 1) := by decide +kernel
theorem dX4_question_2 : decode cX4_question 2 = .ok (.invokevirtual 134, 3) := by decide +kernel
theorem dX4_question_5 : decode cX4_question 5 = .ok (.ifCond .ne 9, 3) := by decide +kernel
theorem dX4_question_8 : decode cX4_question 8 = .ok (.aload_n 0, 1) := by decide +kernel
theorem dX4_question_9 : decode cX4_question 9 = .ok (.iconst (-1), 1) := by decide +kernel
theorem dX4_question_10 : decode cX4_question 10 = .ok (.invokevirtual 38, 3) := by decide +kernel
theorem dX4_question_13 : decode cX4_question 13 = .ok (.ireturn, 1) := by decide +kernel
theorem dX4_question_14 : decode cX4_question 14 = .ok (.iload_n 2, 1) := by decide +kernel
theorem dX4_question_15 : decode cX4_question 15 = .ok (.iconst 0, 1) := by decide +kernel
theorem dX4_question_16 : decode cX4_question 16 = .ok (.iconst 3, 1) := by decide +kernel
theorem dX4_question_17 : decode cX4_question 17 = .ok (.invokestatic 42, 3) := by decide +kernel
theorem dX4_question_20 : decode cX4_question 20 = .ok (.ifCond .eq 16, 3) := by decide +kernel
theorem dX4_question_23 : decode cX4_question 23 = .ok (.aload_n 0, 1) := by decide +kernel
theorem dX4_question_24 : decode cX4_question 24 = .ok (.getfield 9, 3) := by decide +kernel
theorem dX4_question_27 : decode cX4_question 27 = .ok (.iload_n 1, 1) := by decide +kernel
theorem dX4_question_28 : decode cX4_question 28 = .ok (.iload_n 2, 1) := by decide +kernel
theorem dX4_question_29 : decode cX4_question 29 = .ok (.invokestatic 50, 3) := by decide +kernel
theorem dX4_question_32 : decode cX4_question 32 = .ok (.iaload, 1) := by decide +kernel
theorem dX4_question_33 : decode cX4_question 33 = .ok (.goto 25, 3) := by decide +kernel
theorem dX4_question_36 : decode cX4_question 36 = .ok (.iload_n 2, 1) := by decide +kernel
theorem dX4_question_37 : decode cX4_question 37 = .ok (.iconst 4, 1) := by decide +kernel
theorem dX4_question_38 : decode cX4_question 38 = .ok (.if_icmp .ne 14, 3) := by decide +kernel
theorem dX4_question_41 : decode cX4_question 41 = .ok (.aload_n 0, 1) := by decide +kernel
theorem dX4_question_42 : decode cX4_question 42 = .ok (.getfield 9, 3) := by decide +kernel
theorem dX4_question_45 : decode cX4_question 45 = .ok (.iload_n 1, 1) := by decide +kernel
theorem dX4_question_46 : decode cX4_question 46 = .ok (.invokestatic 74, 3) := by decide +kernel
theorem dX4_question_49 : decode cX4_question 49 = .ok (.goto 9, 3) := by decide +kernel
theorem dX4_question_52 : decode cX4_question 52 = .ok (.aload_n 0, 1) := by decide +kernel
theorem dX4_question_53 : decode cX4_question 53 = .ok (.bipush (-2), 2) := by decide +kernel
theorem dX4_question_55 : decode cX4_question 55 = .ok (.invokevirtual 38, 3) := by decide +kernel
theorem dX4_question_58 : decode cX4_question 58 = .ok (.ireturn, 1) := by decide +kernel
theorem dX4_group_0 : decode cX4_group 0 = .ok (.aload_n 0, 1) := by decide +kernel
theorem dX4_group_1 : decode cX4_group 1 = .ok (.iload_n 1, 1) := by decide +kernel
theorem dX4_group_2 : decode cX4_group 2 = .ok (.invokevirtual 131, 3) := by decide +kernel
theorem dX4_group_5 : decode cX4_group 5 = .ok (.ifCond .ne 9, 3) := by decide +kernel
theorem dX4_group_8 : decode cX4_group 8 = .ok (.aload_n 0, 1) := by decide +kernel
theorem dX4_group_9 : decode cX4_group 9 = .ok (.iconst (-1), 1) := by decide +kernel
theorem dX4_group_10 : decode cX4_group 10 = .ok (.invokevirtual 38, 3) := by decide +kernel
theorem dX4_group_13 : decode cX4_group 13 = .ok (.ireturn, 1) := by decide +kernel
theorem dX4_group_14 : decode cX4_group 14 = .ok (.iload_n 2, 1) := by decide +kernel
theorem dX4_group_15 : decode cX4_group 15 = .ok (.iconst 0, 1) := by decide +kernel
theorem dX4_group_16 : decode cX4_group 16 = .ok (.iconst 4, 1) := by decide +kernel
theorem dX4_group_17 : decode cX4_group 17 = .ok (.invokestatic 42, 3) := by decide +kernel
theorem dX4_group_20 : decode cX4_group 20 = .ok (.ifCond .eq 16, 3) := by decide +kernel
theorem dX4_group_23 : decode cX4_group 23 = .ok (.aload_n 0, 1) := by decide +kernel
theorem dX4_group_24 : decode cX4_group 24 = .ok (.getfield 9, 3) := by decide +kernel
theorem dX4_group_27 : decode cX4_group 27 = .ok (.iload_n 1, 1) := by decide +kernel
theorem dX4_group_28 : decode cX4_group 28 = .ok (.iload_n 2, 1) := by decide +kernel
theorem dX4_group_29 : decode cX4_group 29 = .ok (.invokestatic 54, 3) := by decide +kernel
theorem dX4_group_32 : decode cX4_group 32 = .ok (.iaload, 1) := by decide +kernel
theorem dX4_group_33 : decode cX4_group 33 = .ok (.goto 25, 3) := by decide +kernel
theorem dX4_group_36 : decode cX4_group 36 = .ok (.iload_n 2, 1) := by decide +kernel
theorem dX4_group_37 : decode cX4_group 37 = .ok (.iconst 5, 1) := by decide +kernel
theorem dX4_group_38 : decode cX4_group 38 = .ok (.if_icmp .ne 14, 3) := by decide +kernel
theorem dX4_group_41 : decode cX4_group 41 = .ok (.aload_n 0, 1) := by decide +kernel
theorem dX4_group_42 : decode cX4_group 42 = .ok (.getfield 9, 3) := by decide +kernel
theorem dX4_group_45 : decode cX4_group 45 = .ok (.iload_n 1, 1) := by decide +kernel
theorem dX4_group_46 : decode cX4_group 46 = .ok (.invokestatic 67, 3) := by decide +kernel
theorem dX4_group_49 : decode cX4_group 49 = .ok (.goto 9, 3) := by decide +kernel
theorem dX4_group_52 : decode cX4_group 52 = .ok (.aload_n 0, 1) := by decide +kernel
theorem dX4_group_53 : decode cX4_group 53 = .ok (.bipush (-2), 2) := by decide +kernel
theorem dX4_group_55 : decode cX4_group 55 = .ok (.invokevirtual 38, 3) := by decide +kernel
theorem dX4_group_58 : decode cX4_group 58 = .ok (.ireturn, 1) := by decide +kernel
theorem dX4_sheet_0 : decode cX4_sheet 0 = .ok (.aload_n 0, 1) := by decide +kernel
theorem dX4_sheet_1 : decode cX4_sheet 1 = .ok (.iload_n 1, 1) := by decide +kernel
theorem dX4_sheet_2 : decode cX4_sheet 2 = .ok (.invokevirtual 131, 3) := by decide +kernel
theorem dX4_sheet_5 : decode cX4_sheet 5 = .ok (.ifCond .eq 24, 3) := by decide +kernel
theorem dX4_sheet_8 : decode cX4_sheet 8 = .ok (.aload_n 0, 1) := by decide +kernel
theorem dX4_sheet_9 : decode cX4_sheet 9 = .ok (.iload_n 2, 1) := by decide +kernel
theorem dX4_sheet_10 : decode cX4_sheet 10 = .ok (.invokevirtual 134, 3) := by decide +kernel
theorem dX4_sheet_13 : decode cX4_sheet 13 = .ok (.ifCond .eq 16, 3) := by decide +kernel
theorem dX4_sheet_16 : decode cX4_sheet 16 = .ok (.aload_n 0, 1) := by decide +kernel
theorem dX4_sheet_17 : decode cX4_sheet 17 = .ok (.getfield 9, 3) := by decide +kernel
theorem dX4_sheet_20 : decode cX4_sheet 20 = .ok (.iload_n 1, 1) := by decide +kernel
theorem dX4_sheet_21 : decode cX4_sheet 21 = .ok (.iload_n 2, 1) := by decide +kernel
theorem dX4_sheet_22 : decode cX4_sheet 22 = .ok (.invokestatic 57, 3) := by decide +kernel
theorem dX4_sheet_25 : decode cX4_sheet 25 = .ok (.iaload, 1) := by decide +kernel
theorem dX4_sheet_26 : decode cX4_sheet 26 = .ok (.goto 8, 3) := by decide +kernel
theorem dX4_sheet_29 : decode cX4_sheet 29 = .ok (.aload_n 0, 1) := by decide +kernel
theorem dX4_sheet_30 : decode cX4_sheet 30 = .ok (.iconst (-1), 1) := by decide +kernel
theorem dX4_sheet_31 : decode cX4_sheet 31 = .ok (.invokevirtual 38, 3) := by decide +kernel
theorem dX4_sheet_34 : decode cX4_sheet 34 = .ok (.ireturn, 1) := by decide +kernel
theorem dX4_opens_0 : decode cX4_opens 0 = .ok (.iload_n 1, 1) := by decide +kernel
theorem dX4_opens_1 : decode cX4_opens 1 = .ok (.invokestatic 124, 3) := by decide +kernel
theorem dX4_opens_4 : decode cX4_opens 4 = .ok (.ifCond .eq 15, 3) := by decide +kernel
theorem dX4_opens_7 : decode cX4_opens 7 = .ok (.iload_n 2, 1) := by decide +kernel
theorem dX4_opens_8 : decode cX4_opens 8 = .ok (.invokestatic 124, 3) := by decide +kernel
theorem dX4_opens_11 : decode cX4_opens 11 = .ok (.ifCond .eq 8, 3) := by decide +kernel
theorem dX4_opens_14 : decode cX4_opens 14 = .ok (.iload_n 1, 1) := by decide +kernel
theorem dX4_opens_15 : decode cX4_opens 15 = .ok (.iload_n 2, 1) := by decide +kernel
theorem dX4_opens_16 : decode cX4_opens 16 = .ok (.if_icmp .ne 9, 3) := by decide +kernel
theorem dX4_opens_19 : decode cX4_opens 19 = .ok (.aload_n 0, 1) := by decide +kernel
theorem dX4_opens_20 : decode cX4_opens 20 = .ok (.iconst (-1), 1) := by decide +kernel
theorem dX4_opens_21 : decode cX4_opens 21 = .ok (.invokevirtual 38, 3) := by decide +kernel
theorem dX4_opens_24 : decode cX4_opens 24 = .ok (.ireturn, 1) := by decide +kernel
theorem dX4_opens_25 : decode cX4_opens 25 = .ok (.aload_n 0, 1) := by decide +kernel
theorem dX4_opens_26 : decode cX4_opens 26 = .ok (.iload_n 1, 1) := by decide +kernel
theorem dX4_opens_27 : decode cX4_opens 27 = .ok (.iload_n 2, 1) := by decide +kernel
theorem dX4_opens_28 : decode cX4_opens 28 = .ok (.invokevirtual 127, 3) := by decide +kernel
theorem dX4_opens_31 : decode cX4_opens 31 = .ok (.aload_n 0, 1) := by decide +kernel
theorem dX4_opens_32 : decode cX4_opens 32 = .ok (.getfield 9, 3) := by decide +kernel
theorem dX4_opens_35 : decode cX4_opens 35 = .ok (.iconst 3, 1) := by decide +kernel
theorem dX4_opens_36 : decode cX4_opens 36 = .ok (.iload_n 1, 1) := by decide +kernel
theorem dX4_opens_37 : decode cX4_opens 37 = .ok (.iadd, 1) := by decide +kernel
theorem dX4_opens_38 : decode cX4_opens 38 = .ok (.iaload, 1) := by decide +kernel
theorem dX4_opens_39 : decode cX4_opens 39 = .ok (.iload_n 2, 1) := by decide +kernel
theorem dX4_opens_40 : decode cX4_opens 40 = .ok (.ishr, 1) := by decide +kernel
theorem dX4_opens_41 : decode cX4_opens 41 = .ok (.iconst 1, 1) := by decide +kernel
theorem dX4_opens_42 : decode cX4_opens 42 = .ok (.iand, 1) := by decide +kernel
theorem dX4_opens_43 : decode cX4_opens 43 = .ok (.ireturn, 1) := by decide +kernel
theorem dX4_put_0 : decode cX4_put 0 = .ok (.aload_n 0, 1) := by decide +kernel
theorem dX4_put_1 : decode cX4_put 1 = .ok (.iload_n 1, 1) := by decide +kernel
theorem dX4_put_2 : decode cX4_put 2 = .ok (.invokevirtual 131, 3) := by decide +kernel
theorem dX4_put_5 : decode cX4_put 5 = .ok (.ifCond .eq 10, 3) := by decide +kernel
theorem dX4_put_8 : decode cX4_put 8 = .ok (.iload_n 2, 1) := by decide +kernel
theorem dX4_put_9 : decode cX4_put 9 = .ok (.invokestatic 124, 3) := by decide +kernel
theorem dX4_put_12 : decode cX4_put 12 = .ok (.ifCond .ne 9, 3) := by decide +kernel
theorem dX4_put_15 : decode cX4_put 15 = .ok (.aload_n 0, 1) := by decide +kernel
theorem dX4_put_16 : decode cX4_put 16 = .ok (.iconst (-1), 1) := by decide +kernel
theorem dX4_put_17 : decode cX4_put 17 = .ok (.invokevirtual 38, 3) := by decide +kernel
theorem dX4_put_20 : decode cX4_put 20 = .ok (.ireturn, 1) := by decide +kernel
theorem dX4_put_21 : decode cX4_put 21 = .ok (.aload_n 0, 1) := by decide +kernel
theorem dX4_put_22 : decode cX4_put 22 = .ok (.getfield 9, 3) := by decide +kernel
theorem dX4_put_25 : decode cX4_put 25 = .ok (.iload_n 1, 1) := by decide +kernel
theorem dX4_put_26 : decode cX4_put 26 = .ok (.iconst 3, 1) := by decide +kernel
theorem dX4_put_27 : decode cX4_put 27 = .ok (.invokestatic 54, 3) := by decide +kernel
theorem dX4_put_30 : decode cX4_put 30 = .ok (.iaload, 1) := by decide +kernel
theorem dX4_put_31 : decode cX4_put 31 = .ok (.istore_n 3, 1) := by decide +kernel
theorem dX4_put_32 : decode cX4_put 32 = .ok (.aload_n 0, 1) := by decide +kernel
theorem dX4_put_33 : decode cX4_put 33 = .ok (.getfield 9, 3) := by decide +kernel
theorem dX4_put_36 : decode cX4_put 36 = .ok (.iload_n 1, 1) := by decide +kernel
theorem dX4_put_37 : decode cX4_put 37 = .ok (.iconst 3, 1) := by decide +kernel
theorem dX4_put_38 : decode cX4_put 38 = .ok (.invokestatic 54, 3) := by decide +kernel
theorem dX4_put_41 : decode cX4_put 41 = .ok (.iload_n 2, 1) := by decide +kernel
theorem dX4_put_42 : decode cX4_put 42 = .ok (.iastore, 1) := by decide +kernel
theorem dX4_put_43 : decode cX4_put 43 = .ok (.aload_n 0, 1) := by decide +kernel
theorem dX4_put_44 : decode cX4_put 44 = .ok (.getfield 9, 3) := by decide +kernel
theorem dX4_put_47 : decode cX4_put 47 = .ok (.iload_n 1, 1) := by decide +kernel
theorem dX4_put_48 : decode cX4_put 48 = .ok (.iconst 4, 1) := by decide +kernel
theorem dX4_put_49 : decode cX4_put 49 = .ok (.invokestatic 54, 3) := by decide +kernel
theorem dX4_put_52 : decode cX4_put 52 = .ok (.iconst 0, 1) := by decide +kernel
theorem dX4_put_53 : decode cX4_put 53 = .ok (.iastore, 1) := by decide +kernel
theorem dX4_put_54 : decode cX4_put 54 = .ok (.iload_n 3, 1) := by decide +kernel
theorem dX4_put_55 : decode cX4_put 55 = .ok (.ireturn, 1) := by decide +kernel
theorem dX4_start_0 : decode cX4_start 0 = .ok (.aload_n 0, 1) := by decide +kernel
theorem dX4_start_1 : decode cX4_start 1 = .ok (.iload_n 1, 1) := by decide +kernel
theorem dX4_start_2 : decode cX4_start 2 = .ok (.invokevirtual 131, 3) := by decide +kernel
theorem dX4_start_5 : decode cX4_start 5 = .ok (.ifCond .ne 9, 3) := by decide +kernel
theorem dX4_start_8 : decode cX4_start 8 = .ok (.aload_n 0, 1) := by decide +kernel
theorem dX4_start_9 : decode cX4_start 9 = .ok (.iconst (-1), 1) := by decide +kernel
theorem dX4_start_10 : decode cX4_start 10 = .ok (.invokevirtual 38, 3) := by decide +kernel
theorem dX4_start_13 : decode cX4_start 13 = .ok (.ireturn, 1) := by decide +kernel
theorem dX4_start_14 : decode cX4_start 14 = .ok (.iload_n 2, 1) := by decide +kernel
theorem dX4_start_15 : decode cX4_start 15 = .ok (.ifCond .ge 10, 3) := by decide +kernel
theorem dX4_start_18 : decode cX4_start 18 = .ok (.aload_n 0, 1) := by decide +kernel
theorem dX4_start_19 : decode cX4_start 19 = .ok (.bipush (-4), 2) := by decide +kernel
theorem dX4_start_21 : decode cX4_start 21 = .ok (.invokevirtual 38, 3) := by decide +kernel
theorem dX4_start_24 : decode cX4_start 24 = .ok (.ireturn, 1) := by decide +kernel
theorem dX4_start_25 : decode cX4_start 25 = .ok (.iload_n 2, 1) := by decide +kernel
theorem dX4_start_26 : decode cX4_start 26 = .ok (.bipush 7, 2) := by decide +kernel
theorem dX4_start_28 : decode cX4_start 28 = .ok (.if_icmp .le 10, 3) := by decide +kernel
theorem dX4_start_31 : decode cX4_start 31 = .ok (.aload_n 0, 1) := by decide +kernel
theorem dX4_start_32 : decode cX4_start 32 = .ok (.bipush (-6), 2) := by decide +kernel
theorem dX4_start_34 : decode cX4_start 34 = .ok (.invokevirtual 38, 3) := by decide +kernel
theorem dX4_start_37 : decode cX4_start 37 = .ok (.ireturn, 1) := by decide +kernel
theorem dX4_start_38 : decode cX4_start 38 = .ok (.aload_n 0, 1) := by decide +kernel
theorem dX4_start_39 : decode cX4_start 39 = .ok (.getfield 9, 3) := by decide +kernel
theorem dX4_start_42 : decode cX4_start 42 = .ok (.iload_n 1, 1) := by decide +kernel
theorem dX4_start_43 : decode cX4_start 43 = .ok (.iconst 2, 1) := by decide +kernel
theorem dX4_start_44 : decode cX4_start 44 = .ok (.invokestatic 54, 3) := by decide +kernel
theorem dX4_start_47 : decode cX4_start 47 = .ok (.iaload, 1) := by decide +kernel
theorem dX4_start_48 : decode cX4_start 48 = .ok (.istore_n 3, 1) := by decide +kernel
theorem dX4_start_49 : decode cX4_start 49 = .ok (.aload_n 0, 1) := by decide +kernel
theorem dX4_start_50 : decode cX4_start 50 = .ok (.getfield 9, 3) := by decide +kernel
theorem dX4_start_53 : decode cX4_start 53 = .ok (.iload_n 1, 1) := by decide +kernel
theorem dX4_start_54 : decode cX4_start 54 = .ok (.iconst 2, 1) := by decide +kernel
theorem dX4_start_55 : decode cX4_start 55 = .ok (.invokestatic 54, 3) := by decide +kernel
theorem dX4_start_58 : decode cX4_start 58 = .ok (.iload_n 2, 1) := by decide +kernel
theorem dX4_start_59 : decode cX4_start 59 = .ok (.iastore, 1) := by decide +kernel
theorem dX4_start_60 : decode cX4_start 60 = .ok (.iload_n 3, 1) := by decide +kernel
theorem dX4_start_61 : decode cX4_start 61 = .ok (.ireturn, 1) := by decide +kernel
theorem dX4_write_0 : decode cX4_write 0 = .ok (.aload_n 0, 1) := by decide +kernel
theorem dX4_write_1 : decode cX4_write 1 = .ok (.iload_n 1, 1) := by decide +kernel
theorem dX4_write_2 : decode cX4_write 2 = .ok (.invokevirtual 131, 3) := by decide +kernel
theorem dX4_write_5 : decode cX4_write 5 = .ok (.ifCond .eq 11, 3) := by decide +kernel
theorem dX4_write_8 : decode cX4_write 8 = .ok (.aload_n 0, 1) := by decide +kernel
theorem dX4_write_9 : decode cX4_write 9 = .ok (.iload_n 2, 1) := by decide +kernel
theorem dX4_write_10 : decode cX4_write 10 = .ok (.invokevirtual 134, 3) := by decide +kernel
theorem dX4_write_13 : decode cX4_write 13 = .ok (.ifCond .ne 9, 3) := by decide +kernel
theorem dX4_write_16 : decode cX4_write 16 = .ok (.aload_n 0, 1) := by decide +kernel
theorem dX4_write_17 : decode cX4_write 17 = .ok (.iconst (-1), 1) := by decide +kernel
theorem dX4_write_18 : decode cX4_write 18 = .ok (.invokevirtual 38, 3) := by decide +kernel
theorem dX4_write_21 : decode cX4_write 21 = .ok (.ireturn, 1) := by decide +kernel
theorem dX4_write_22 : decode cX4_write 22 = .ok (.iload_n 3, 1) := by decide +kernel
theorem dX4_write_23 : decode cX4_write 23 = .ok (.ifCond .ge 10, 3) := by decide +kernel
theorem dX4_write_26 : decode cX4_write 26 = .ok (.aload_n 0, 1) := by decide +kernel
theorem dX4_write_27 : decode cX4_write 27 = .ok (.bipush (-4), 2) := by decide +kernel
theorem dX4_write_29 : decode cX4_write 29 = .ok (.invokevirtual 38, 3) := by decide +kernel
theorem dX4_write_32 : decode cX4_write 32 = .ok (.ireturn, 1) := by decide +kernel
theorem dX4_write_33 : decode cX4_write 33 = .ok (.iload_n 3, 1) := by decide +kernel
theorem dX4_write_34 : decode cX4_write 34 = .ok (.bipush 10, 2) := by decide +kernel
theorem dX4_write_36 : decode cX4_write 36 = .ok (.if_icmp .le 10, 3) := by decide +kernel
theorem dX4_write_39 : decode cX4_write 39 = .ok (.aload_n 0, 1) := by decide +kernel
theorem dX4_write_40 : decode cX4_write 40 = .ok (.bipush (-6), 2) := by decide +kernel
theorem dX4_write_42 : decode cX4_write 42 = .ok (.invokevirtual 38, 3) := by decide +kernel
theorem dX4_write_45 : decode cX4_write 45 = .ok (.ireturn, 1) := by decide +kernel
theorem dX4_write_46 : decode cX4_write 46 = .ok (.aload_n 0, 1) := by decide +kernel
theorem dX4_write_47 : decode cX4_write 47 = .ok (.getfield 9, 3) := by decide +kernel
theorem dX4_write_50 : decode cX4_write 50 = .ok (.iload_n 1, 1) := by decide +kernel
theorem dX4_write_51 : decode cX4_write 51 = .ok (.iload_n 2, 1) := by decide +kernel
theorem dX4_write_52 : decode cX4_write 52 = .ok (.invokestatic 57, 3) := by decide +kernel
theorem dX4_write_55 : decode cX4_write 55 = .ok (.iaload, 1) := by decide +kernel
theorem dX4_write_56 : decode cX4_write 56 = .ok (.istore 4, 2) := by decide +kernel
theorem dX4_write_58 : decode cX4_write 58 = .ok (.aload_n 0, 1) := by decide +kernel
theorem dX4_write_59 : decode cX4_write 59 = .ok (.getfield 9, 3) := by decide +kernel
theorem dX4_write_62 : decode cX4_write 62 = .ok (.iload_n 1, 1) := by decide +kernel
theorem dX4_write_63 : decode cX4_write 63 = .ok (.iload_n 2, 1) := by decide +kernel
theorem dX4_write_64 : decode cX4_write 64 = .ok (.invokestatic 57, 3) := by decide +kernel
theorem dX4_write_67 : decode cX4_write 67 = .ok (.iload_n 3, 1) := by decide +kernel
theorem dX4_write_68 : decode cX4_write 68 = .ok (.bipush 10, 2) := by decide +kernel
theorem dX4_write_70 : decode cX4_write 70 = .ok (.if_icmp .ne 8, 3) := by decide +kernel
theorem dX4_write_73 : decode cX4_write 73 = .ok (.bipush (-9), 2) := by decide +kernel
theorem dX4_write_75 : decode cX4_write 75 = .ok (.goto 4, 3) := by decide +kernel
theorem dX4_write_78 : decode cX4_write 78 = .ok (.iload_n 3, 1) := by decide +kernel
theorem dX4_write_79 : decode cX4_write 79 = .ok (.iastore, 1) := by decide +kernel
theorem dX4_write_80 : decode cX4_write 80 = .ok (.iload 4, 2) := by decide +kernel
theorem dX4_write_82 : decode cX4_write 82 = .ok (.ireturn, 1) := by decide +kernel
theorem dX4_minutes_0 : decode cX4_minutes 0 = .ok (.iload_n 1, 1) := by decide +kernel
theorem dX4_minutes_1 : decode cX4_minutes 1 = .ok (.iconst 1, 1) := by decide +kernel
theorem dX4_minutes_2 : decode cX4_minutes 2 = .ok (.if_icmp .ge 10, 3) := by decide +kernel
theorem dX4_minutes_5 : decode cX4_minutes 5 = .ok (.aload_n 0, 1) := by decide +kernel
theorem dX4_minutes_6 : decode cX4_minutes 6 = .ok (.bipush (-4), 2) := by decide +kernel
theorem dX4_minutes_8 : decode cX4_minutes 8 = .ok (.invokevirtual 38, 3) := by decide +kernel
theorem dX4_minutes_11 : decode cX4_minutes 11 = .ok (.ireturn, 1) := by decide +kernel
theorem dX4_minutes_12 : decode cX4_minutes 12 = .ok (.iload_n 1, 1) := by decide +kernel
theorem dX4_minutes_13 : decode cX4_minutes 13 = .ok (.bipush 60, 2) := by decide +kernel
theorem dX4_minutes_15 : decode cX4_minutes 15 = .ok (.if_icmp .gt 17, 3) := by decide +kernel
theorem dX4_minutes_18 : decode cX4_minutes 18 = .ok (.aload_n 0, 1) := by decide +kernel
theorem dX4_minutes_19 : decode cX4_minutes 19 = .ok (.getfield 9, 3) := by decide +kernel
theorem dX4_minutes_22 : decode cX4_minutes 22 = .ok (.iconst 2, 1) := by decide +kernel
theorem dX4_minutes_23 : decode cX4_minutes 23 = .ok (.iaload, 1) := by decide +kernel
theorem dX4_minutes_24 : decode cX4_minutes 24 = .ok (.iload_n 1, 1) := by decide +kernel
theorem dX4_minutes_25 : decode cX4_minutes 25 = .ok (.iadd, 1) := by decide +kernel
theorem dX4_minutes_26 : decode cX4_minutes 26 = .ok (.sipush 999, 3) := by decide +kernel
theorem dX4_minutes_29 : decode cX4_minutes 29 = .ok (.if_icmp .le 10, 3) := by decide +kernel
theorem dX4_minutes_32 : decode cX4_minutes 32 = .ok (.aload_n 0, 1) := by decide +kernel
theorem dX4_minutes_33 : decode cX4_minutes 33 = .ok (.bipush (-6), 2) := by decide +kernel
theorem dX4_minutes_35 : decode cX4_minutes 35 = .ok (.invokevirtual 38, 3) := by decide +kernel
theorem dX4_minutes_38 : decode cX4_minutes 38 = .ok (.ireturn, 1) := by decide +kernel
theorem dX4_minutes_39 : decode cX4_minutes 39 = .ok (.aload_n 0, 1) := by decide +kernel
theorem dX4_minutes_40 : decode cX4_minutes 40 = .ok (.aload_n 0, 1) := by decide +kernel
theorem dX4_minutes_41 : decode cX4_minutes 41 = .ok (.getfield 9, 3) := by decide +kernel
theorem dX4_minutes_44 : decode cX4_minutes 44 = .ok (.iload_n 1, 1) := by decide +kernel
theorem dX4_minutes_45 : decode cX4_minutes 45 = .ok (.invokevirtual 137, 3) := by decide +kernel
theorem dX4_minutes_48 : decode cX4_minutes 48 = .ok (.aload_n 0, 1) := by decide +kernel
theorem dX4_minutes_49 : decode cX4_minutes 49 = .ok (.getfield 9, 3) := by decide +kernel
theorem dX4_minutes_52 : decode cX4_minutes 52 = .ok (.invokestatic 149, 3) := by decide +kernel
theorem dX4_minutes_55 : decode cX4_minutes 55 = .ok (.ireturn, 1) := by decide +kernel
theorem dX4_wrongMinutes_0 : decode cX4_wrongMinutes 0 = .ok (.iload_n 0, 1) := by decide +kernel
theorem dX4_wrongMinutes_1 : decode cX4_wrongMinutes 1 = .ok (.ifCond .ge 8, 3) := by decide +kernel
theorem dX4_wrongMinutes_4 : decode cX4_wrongMinutes 4 = .ok (.bipush (-4), 2) := by decide +kernel
theorem dX4_wrongMinutes_6 : decode cX4_wrongMinutes 6 = .ok (.goto 15, 3) := by decide +kernel
theorem dX4_wrongMinutes_9 : decode cX4_wrongMinutes 9 = .ok (.iload_n 0, 1) := by decide +kernel
theorem dX4_wrongMinutes_10 : decode cX4_wrongMinutes 10 = .ok (.bipush 99, 2) := by decide +kernel
theorem dX4_wrongMinutes_12 : decode cX4_wrongMinutes 12 = .ok (.if_icmp .le 8, 3) := by decide +kernel
theorem dX4_wrongMinutes_15 : decode cX4_wrongMinutes 15 = .ok (.bipush (-6), 2) := by decide +kernel
theorem dX4_wrongMinutes_17 : decode cX4_wrongMinutes 17 = .ok (.goto 4, 3) := by decide +kernel
theorem dX4_wrongMinutes_20 : decode cX4_wrongMinutes 20 = .ok (.iconst 0, 1) := by decide +kernel
theorem dX4_wrongMinutes_21 : decode cX4_wrongMinutes 21 = .ok (.ireturn, 1) := by decide +kernel
theorem dX4_behind_0 : decode cX4_behind 0 = .ok (.aload_n 0, 1) := by decide +kernel
theorem dX4_behind_1 : decode cX4_behind 1 = .ok (.iload_n 1, 1) := by decide +kernel
theorem dX4_behind_2 : decode cX4_behind 2 = .ok (.invokevirtual 131, 3) := by decide +kernel
theorem dX4_behind_5 : decode cX4_behind 5 = .ok (.ifCond .ne 7, 3) := by decide +kernel
theorem dX4_behind_8 : decode cX4_behind 8 = .ok (.iconst (-1), 1) := by decide +kernel
theorem dX4_behind_9 : decode cX4_behind 9 = .ok (.goto 7, 3) := by decide +kernel
theorem dX4_behind_12 : decode cX4_behind 12 = .ok (.iload_n 2, 1) := by decide +kernel
theorem dX4_behind_13 : decode cX4_behind 13 = .ok (.invokestatic 153, 3) := by decide +kernel
theorem dX4_behind_16 : decode cX4_behind 16 = .ok (.istore 4, 2) := by decide +kernel
theorem dX4_behind_18 : decode cX4_behind 18 = .ok (.iload 4, 2) := by decide +kernel
theorem dX4_behind_20 : decode cX4_behind 20 = .ok (.ifCond .ne 16, 3) := by decide +kernel
theorem dX4_behind_23 : decode cX4_behind 23 = .ok (.iload_n 3, 1) := by decide +kernel
theorem dX4_behind_24 : decode cX4_behind 24 = .ok (.iconst 0, 1) := by decide +kernel
theorem dX4_behind_25 : decode cX4_behind 25 = .ok (.iconst 3, 1) := by decide +kernel
theorem dX4_behind_26 : decode cX4_behind 26 = .ok (.invokestatic 42, 3) := by decide +kernel
theorem dX4_behind_29 : decode cX4_behind 29 = .ok (.ifCond .ne 7, 3) := by decide +kernel
theorem dX4_behind_32 : decode cX4_behind 32 = .ok (.bipush (-2), 2) := by decide +kernel
theorem dX4_behind_34 : decode cX4_behind 34 = .ok (.istore 4, 2) := by decide +kernel
theorem dX4_behind_36 : decode cX4_behind 36 = .ok (.iload 4, 2) := by decide +kernel
theorem dX4_behind_38 : decode cX4_behind 38 = .ok (.ifCond .eq 10, 3) := by decide +kernel
theorem dX4_behind_41 : decode cX4_behind 41 = .ok (.aload_n 0, 1) := by decide +kernel
theorem dX4_behind_42 : decode cX4_behind 42 = .ok (.iload 4, 2) := by decide +kernel
theorem dX4_behind_44 : decode cX4_behind 44 = .ok (.invokevirtual 38, 3) := by decide +kernel
theorem dX4_behind_47 : decode cX4_behind 47 = .ok (.ireturn, 1) := by decide +kernel
theorem dX4_behind_48 : decode cX4_behind 48 = .ok (.aload_n 0, 1) := by decide +kernel
theorem dX4_behind_49 : decode cX4_behind 49 = .ok (.invokevirtual 156, 3) := by decide +kernel
theorem dX4_behind_52 : decode cX4_behind 52 = .ok (.aload_n 0, 1) := by decide +kernel
theorem dX4_behind_53 : decode cX4_behind 53 = .ok (.aload_n 0, 1) := by decide +kernel
theorem dX4_behind_54 : decode cX4_behind 54 = .ok (.getfield 13, 3) := by decide +kernel
theorem dX4_behind_57 : decode cX4_behind 57 = .ok (.iload_n 2, 1) := by decide +kernel
theorem dX4_behind_58 : decode cX4_behind 58 = .ok (.invokevirtual 137, 3) := by decide +kernel
theorem dX4_behind_61 : decode cX4_behind 61 = .ok (.iload_n 3, 1) := by decide +kernel
theorem dX4_behind_62 : decode cX4_behind 62 = .ok (.ifCond .ne 16, 3) := by decide +kernel
theorem dX4_behind_65 : decode cX4_behind 65 = .ok (.aload_n 0, 1) := by decide +kernel
theorem dX4_behind_66 : decode cX4_behind 66 = .ok (.getfield 13, 3) := by decide +kernel
theorem dX4_behind_69 : decode cX4_behind 69 = .ok (.iload_n 1, 1) := by decide +kernel
theorem dX4_behind_70 : decode cX4_behind 70 = .ok (.iconst 3, 1) := by decide +kernel
theorem dX4_behind_71 : decode cX4_behind 71 = .ok (.invokestatic 54, 3) := by decide +kernel
theorem dX4_behind_74 : decode cX4_behind 74 = .ok (.iaload, 1) := by decide +kernel
theorem dX4_behind_75 : decode cX4_behind 75 = .ok (.goto 43, 3) := by decide +kernel
theorem dX4_behind_78 : decode cX4_behind 78 = .ok (.iload_n 3, 1) := by decide +kernel
theorem dX4_behind_79 : decode cX4_behind 79 = .ok (.iconst 1, 1) := by decide +kernel
theorem dX4_behind_80 : decode cX4_behind 80 = .ok (.if_icmp .ne 14, 3) := by decide +kernel
theorem dX4_behind_83 : decode cX4_behind 83 = .ok (.aload_n 0, 1) := by decide +kernel
theorem dX4_behind_84 : decode cX4_behind 84 = .ok (.getfield 13, 3) := by decide +kernel
theorem dX4_behind_87 : decode cX4_behind 87 = .ok (.iload_n 1, 1) := by decide +kernel
theorem dX4_behind_88 : decode cX4_behind 88 = .ok (.invokestatic 95, 3) := by decide +kernel
theorem dX4_behind_91 : decode cX4_behind 91 = .ok (.goto 27, 3) := by decide +kernel
theorem dX4_behind_94 : decode cX4_behind 94 = .ok (.iload_n 3, 1) := by decide +kernel
theorem dX4_behind_95 : decode cX4_behind 95 = .ok (.iconst 2, 1) := by decide +kernel
theorem dX4_behind_96 : decode cX4_behind 96 = .ok (.if_icmp .ne 14, 3) := by decide +kernel
theorem dX4_behind_99 : decode cX4_behind 99 = .ok (.aload_n 0, 1) := by decide +kernel
theorem dX4_behind_100 : decode cX4_behind 100 = .ok (.getfield 13, 3) := by decide +kernel
theorem dX4_behind_103 : decode cX4_behind 103 = .ok (.iload_n 1, 1) := by decide +kernel
theorem dX4_behind_104 : decode cX4_behind 104 = .ok (.invokestatic 92, 3) := by decide +kernel
theorem dX4_behind_107 : decode cX4_behind 107 = .ok (.goto 11, 3) := by decide +kernel
theorem dX4_behind_110 : decode cX4_behind 110 = .ok (.aload_n 0, 1) := by decide +kernel
theorem dX4_behind_111 : decode cX4_behind 111 = .ok (.getfield 13, 3) := by decide +kernel
theorem dX4_behind_114 : decode cX4_behind 114 = .ok (.iload_n 1, 1) := by decide +kernel
theorem dX4_behind_115 : decode cX4_behind 115 = .ok (.invokestatic 159, 3) := by decide +kernel
theorem dX4_behind_118 : decode cX4_behind 118 = .ok (.ireturn, 1) := by decide +kernel
theorem dX4_doneIn_0 : decode cX4_doneIn 0 = .ok (.iconst 0, 1) := by decide +kernel
theorem dX4_doneIn_1 : decode cX4_doneIn 1 = .ok (.istore_n 2, 1) := by decide +kernel
theorem dX4_doneIn_2 : decode cX4_doneIn 2 = .ok (.iload_n 2, 1) := by decide +kernel
theorem dX4_doneIn_3 : decode cX4_doneIn 3 = .ok (.bipush 99, 2) := by decide +kernel
theorem dX4_doneIn_5 : decode cX4_doneIn 5 = .ok (.if_icmp .gt 30, 3) := by decide +kernel
theorem dX4_doneIn_8 : decode cX4_doneIn 8 = .ok (.aload_n 0, 1) := by decide +kernel
theorem dX4_doneIn_9 : decode cX4_doneIn 9 = .ok (.getfield 13, 3) := by decide +kernel
theorem dX4_doneIn_12 : decode cX4_doneIn 12 = .ok (.iload_n 1, 1) := by decide +kernel
theorem dX4_doneIn_13 : decode cX4_doneIn 13 = .ok (.invokestatic 98, 3) := by decide +kernel
theorem dX4_doneIn_16 : decode cX4_doneIn 16 = .ok (.ifCond .eq 5, 3) := by decide +kernel
theorem dX4_doneIn_19 : decode cX4_doneIn 19 = .ok (.iload_n 2, 1) := by decide +kernel
theorem dX4_doneIn_20 : decode cX4_doneIn 20 = .ok (.ireturn, 1) := by decide +kernel
theorem dX4_doneIn_21 : decode cX4_doneIn 21 = .ok (.aload_n 0, 1) := by decide +kernel
theorem dX4_doneIn_22 : decode cX4_doneIn 22 = .ok (.aload_n 0, 1) := by decide +kernel
theorem dX4_doneIn_23 : decode cX4_doneIn 23 = .ok (.getfield 13, 3) := by decide +kernel
theorem dX4_doneIn_26 : decode cX4_doneIn 26 = .ok (.invokevirtual 84, 3) := by decide +kernel
theorem dX4_doneIn_29 : decode cX4_doneIn 29 = .ok (.iinc 2 1, 3) := by decide +kernel
theorem dX4_doneIn_32 : decode cX4_doneIn 32 = .ok (.goto (-30), 3) := by decide +kernel
theorem dX4_doneIn_35 : decode cX4_doneIn 35 = .ok (.bipush (-9), 2) := by decide +kernel
theorem dX4_doneIn_37 : decode cX4_doneIn 37 = .ok (.ireturn, 1) := by decide +kernel
theorem dX4_allDoneIn_0 : decode cX4_allDoneIn 0 = .ok (.iconst 0, 1) := by decide +kernel
theorem dX4_allDoneIn_1 : decode cX4_allDoneIn 1 = .ok (.istore_n 1, 1) := by decide +kernel
theorem dX4_allDoneIn_2 : decode cX4_allDoneIn 2 = .ok (.iload_n 1, 1) := by decide +kernel
theorem dX4_allDoneIn_3 : decode cX4_allDoneIn 3 = .ok (.bipush 99, 2) := by decide +kernel
theorem dX4_allDoneIn_5 : decode cX4_allDoneIn 5 = .ok (.if_icmp .gt 29, 3) := by decide +kernel
theorem dX4_allDoneIn_8 : decode cX4_allDoneIn 8 = .ok (.aload_n 0, 1) := by decide +kernel
theorem dX4_allDoneIn_9 : decode cX4_allDoneIn 9 = .ok (.getfield 13, 3) := by decide +kernel
theorem dX4_allDoneIn_12 : decode cX4_allDoneIn 12 = .ok (.invokestatic 162, 3) := by decide +kernel
theorem dX4_allDoneIn_15 : decode cX4_allDoneIn 15 = .ok (.ifCond .eq 5, 3) := by decide +kernel
theorem dX4_allDoneIn_18 : decode cX4_allDoneIn 18 = .ok (.iload_n 1, 1) := by decide +kernel
theorem dX4_allDoneIn_19 : decode cX4_allDoneIn 19 = .ok (.ireturn, 1) := by decide +kernel
theorem dX4_allDoneIn_20 : decode cX4_allDoneIn 20 = .ok (.aload_n 0, 1) := by decide +kernel
theorem dX4_allDoneIn_21 : decode cX4_allDoneIn 21 = .ok (.aload_n 0, 1) := by decide +kernel
theorem dX4_allDoneIn_22 : decode cX4_allDoneIn 22 = .ok (.getfield 13, 3) := by decide +kernel
theorem dX4_allDoneIn_25 : decode cX4_allDoneIn 25 = .ok (.invokevirtual 84, 3) := by decide +kernel
theorem dX4_allDoneIn_28 : decode cX4_allDoneIn 28 = .ok (.iinc 1 1, 3) := by decide +kernel
theorem dX4_allDoneIn_31 : decode cX4_allDoneIn 31 = .ok (.goto (-29), 3) := by decide +kernel
theorem dX4_allDoneIn_34 : decode cX4_allDoneIn 34 = .ok (.bipush (-9), 2) := by decide +kernel
theorem dX4_allDoneIn_36 : decode cX4_allDoneIn 36 = .ok (.ireturn, 1) := by decide +kernel
theorem dX4_doneNow_0 : decode cX4_doneNow 0 = .ok (.aload_n 0, 1) := by decide +kernel
theorem dX4_doneNow_1 : decode cX4_doneNow 1 = .ok (.getfield 9, 3) := by decide +kernel
theorem dX4_doneNow_4 : decode cX4_doneNow 4 = .ok (.aload_n 0, 1) := by decide +kernel
theorem dX4_doneNow_5 : decode cX4_doneNow 5 = .ok (.getfield 13, 3) := by decide +kernel
theorem dX4_doneNow_8 : decode cX4_doneNow 8 = .ok (.invokestatic 88, 3) := by decide +kernel
theorem dX4_doneNow_11 : decode cX4_doneNow 11 = .ok (.aload_n 0, 1) := by decide +kernel
theorem dX4_doneNow_12 : decode cX4_doneNow 12 = .ok (.iload_n 1, 1) := by decide +kernel
theorem dX4_doneNow_13 : decode cX4_doneNow 13 = .ok (.invokevirtual 166, 3) := by decide +kernel
theorem dX4_doneNow_16 : decode cX4_doneNow 16 = .ok (.ireturn, 1) := by decide +kernel
theorem dX4_done_0 : decode cX4_done 0 = .ok (.aload_n 0, 1) := by decide +kernel
theorem dX4_done_1 : decode cX4_done 1 = .ok (.iload_n 1, 1) := by decide +kernel
theorem dX4_done_2 : decode cX4_done 2 = .ok (.invokevirtual 131, 3) := by decide +kernel
theorem dX4_done_5 : decode cX4_done 5 = .ok (.ifCond .eq 11, 3) := by decide +kernel
theorem dX4_done_8 : decode cX4_done 8 = .ok (.aload_n 0, 1) := by decide +kernel
theorem dX4_done_9 : decode cX4_done 9 = .ok (.iload_n 1, 1) := by decide +kernel
theorem dX4_done_10 : decode cX4_done 10 = .ok (.invokevirtual 169, 3) := by decide +kernel
theorem dX4_done_13 : decode cX4_done 13 = .ok (.goto 8, 3) := by decide +kernel
theorem dX4_done_16 : decode cX4_done 16 = .ok (.aload_n 0, 1) := by decide +kernel
theorem dX4_done_17 : decode cX4_done 17 = .ok (.iconst (-1), 1) := by decide +kernel
theorem dX4_done_18 : decode cX4_done 18 = .ok (.invokevirtual 38, 3) := by decide +kernel
theorem dX4_done_21 : decode cX4_done 21 = .ok (.ireturn, 1) := by decide +kernel
theorem dX4_ended_0 : decode cX4_ended 0 = .ok (.iload_n 1, 1) := by decide +kernel
theorem dX4_ended_1 : decode cX4_ended 1 = .ok (.iconst 0, 1) := by decide +kernel
theorem dX4_ended_2 : decode cX4_ended 2 = .ok (.iconst 1, 1) := by decide +kernel
theorem dX4_ended_3 : decode cX4_ended 3 = .ok (.invokestatic 42, 3) := by decide +kernel
theorem dX4_ended_6 : decode cX4_ended 6 = .ok (.ifCond .ne 10, 3) := by decide +kernel
theorem dX4_ended_9 : decode cX4_ended 9 = .ok (.aload_n 0, 1) := by decide +kernel
theorem dX4_ended_10 : decode cX4_ended 10 = .ok (.bipush (-2), 2) := by decide +kernel
theorem dX4_ended_12 : decode cX4_ended 12 = .ok (.invokevirtual 38, 3) := by decide +kernel
theorem dX4_ended_15 : decode cX4_ended 15 = .ok (.ireturn, 1) := by decide +kernel
theorem dX4_ended_16 : decode cX4_ended 16 = .ok (.iload_n 1, 1) := by decide +kernel
theorem dX4_ended_17 : decode cX4_ended 17 = .ok (.iconst 1, 1) := by decide +kernel
theorem dX4_ended_18 : decode cX4_ended 18 = .ok (.if_icmp .ne 19, 3) := by decide +kernel
theorem dX4_ended_21 : decode cX4_ended 21 = .ok (.aload_n 0, 1) := by decide +kernel
theorem dX4_ended_22 : decode cX4_ended 22 = .ok (.getfield 9, 3) := by decide +kernel
theorem dX4_ended_25 : decode cX4_ended 25 = .ok (.aload_n 0, 1) := by decide +kernel
theorem dX4_ended_26 : decode cX4_ended 26 = .ok (.getfield 13, 3) := by decide +kernel
theorem dX4_ended_29 : decode cX4_ended 29 = .ok (.invokestatic 88, 3) := by decide +kernel
theorem dX4_ended_32 : decode cX4_ended 32 = .ok (.aload_n 0, 1) := by decide +kernel
theorem dX4_ended_33 : decode cX4_ended 33 = .ok (.invokevirtual 172, 3) := by decide +kernel
theorem dX4_ended_36 : decode cX4_ended 36 = .ok (.ireturn, 1) := by decide +kernel
theorem dX4_ended_37 : decode cX4_ended 37 = .ok (.bipush (-9), 2) := by decide +kernel
theorem dX4_ended_39 : decode cX4_ended 39 = .ok (.istore_n 2, 1) := by decide +kernel
theorem dX4_ended_40 : decode cX4_ended 40 = .ok (.ldc 37, 2) := by decide +kernel
theorem dX4_ended_42 : decode cX4_ended 42 = .ok (.istore_n 3, 1) := by decide +kernel
theorem dX4_ended_43 : decode cX4_ended 43 = .ok (.iconst 0, 1) := by decide +kernel
theorem dX4_ended_44 : decode cX4_ended 44 = .ok (.istore 4, 2) := by decide +kernel
theorem dX4_ended_46 : decode cX4_ended 46 = .ok (.iload 4, 2) := by decide +kernel
theorem dX4_ended_48 : decode cX4_ended 48 = .ok (.aload_n 0, 1) := by decide +kernel
theorem dX4_ended_49 : decode cX4_ended 49 = .ok (.getfield 9, 3) := by decide +kernel
theorem dX4_ended_52 : decode cX4_ended 52 = .ok (.iconst 1, 1) := by decide +kernel
theorem dX4_ended_53 : decode cX4_ended 53 = .ok (.iaload, 1) := by decide +kernel
theorem dX4_ended_54 : decode cX4_ended 54 = .ok (.if_icmp .ge 37, 3) := by decide +kernel
theorem dX4_ended_57 : decode cX4_ended 57 = .ok (.aload_n 0, 1) := by decide +kernel
theorem dX4_ended_58 : decode cX4_ended 58 = .ok (.iload 4, 2) := by decide +kernel
theorem dX4_ended_60 : decode cX4_ended 60 = .ok (.invokevirtual 169, 3) := by decide +kernel
theorem dX4_ended_63 : decode cX4_ended 63 = .ok (.istore 5, 2) := by decide +kernel
theorem dX4_ended_65 : decode cX4_ended 65 = .ok (.iload 5, 2) := by decide +kernel
theorem dX4_ended_67 : decode cX4_ended 67 = .ok (.ifCond .lt 18, 3) := by decide +kernel
theorem dX4_ended_70 : decode cX4_ended 70 = .ok (.iload 5, 2) := by decide +kernel
theorem dX4_ended_72 : decode cX4_ended 72 = .ok (.iload_n 3, 1) := by decide +kernel
theorem dX4_ended_73 : decode cX4_ended 73 = .ok (.if_icmp .lt 6, 3) := by decide +kernel
theorem dX4_ended_76 : decode cX4_ended 76 = .ok (.goto 9, 3) := by decide +kernel
theorem dX4_ended_79 : decode cX4_ended 79 = .ok (.iload 4, 2) := by decide +kernel
theorem dX4_ended_81 : decode cX4_ended 81 = .ok (.istore_n 2, 1) := by decide +kernel
theorem dX4_ended_82 : decode cX4_ended 82 = .ok (.iload 5, 2) := by decide +kernel
theorem dX4_ended_84 : decode cX4_ended 84 = .ok (.istore_n 3, 1) := by decide +kernel
theorem dX4_ended_85 : decode cX4_ended 85 = .ok (.iinc 4 1, 3) := by decide +kernel
theorem dX4_ended_88 : decode cX4_ended 88 = .ok (.goto (-42), 3) := by decide +kernel
theorem dX4_ended_91 : decode cX4_ended 91 = .ok (.iload_n 2, 1) := by decide +kernel
theorem dX4_ended_92 : decode cX4_ended 92 = .ok (.ireturn, 1) := by decide +kernel
theorem dX4_answer_0 : decode cX4_answer 0 = .ok (.aload_n 0, 1) := by decide +kernel
theorem dX4_answer_1 : decode cX4_answer 1 = .ok (.iload_n 1, 1) := by decide +kernel
theorem dX4_answer_2 : decode cX4_answer 2 = .ok (.invokevirtual 131, 3) := by decide +kernel
theorem dX4_answer_5 : decode cX4_answer 5 = .ok (.ifCond .eq 11, 3) := by decide +kernel
theorem dX4_answer_8 : decode cX4_answer 8 = .ok (.aload_n 0, 1) := by decide +kernel
theorem dX4_answer_9 : decode cX4_answer 9 = .ok (.iload_n 2, 1) := by decide +kernel
theorem dX4_answer_10 : decode cX4_answer 10 = .ok (.invokevirtual 134, 3) := by decide +kernel
theorem dX4_answer_13 : decode cX4_answer 13 = .ok (.ifCond .ne 9, 3) := by decide +kernel
theorem dX4_answer_16 : decode cX4_answer 16 = .ok (.aload_n 0, 1) := by decide +kernel
theorem dX4_answer_17 : decode cX4_answer 17 = .ok (.iconst (-1), 1) := by decide +kernel
theorem dX4_answer_18 : decode cX4_answer 18 = .ok (.invokevirtual 38, 3) := by decide +kernel
theorem dX4_answer_21 : decode cX4_answer 21 = .ok (.ireturn, 1) := by decide +kernel
theorem dX4_answer_22 : decode cX4_answer 22 = .ok (.iload_n 3, 1) := by decide +kernel
theorem dX4_answer_23 : decode cX4_answer 23 = .ok (.iconst 0, 1) := by decide +kernel
theorem dX4_answer_24 : decode cX4_answer 24 = .ok (.iconst 1, 1) := by decide +kernel
theorem dX4_answer_25 : decode cX4_answer 25 = .ok (.invokestatic 42, 3) := by decide +kernel
theorem dX4_answer_28 : decode cX4_answer 28 = .ok (.ifCond .ne 10, 3) := by decide +kernel
theorem dX4_answer_31 : decode cX4_answer 31 = .ok (.aload_n 0, 1) := by decide +kernel
theorem dX4_answer_32 : decode cX4_answer 32 = .ok (.bipush (-2), 2) := by decide +kernel
theorem dX4_answer_34 : decode cX4_answer 34 = .ok (.invokevirtual 38, 3) := by decide +kernel
theorem dX4_answer_37 : decode cX4_answer 37 = .ok (.ireturn, 1) := by decide +kernel
theorem dX4_answer_38 : decode cX4_answer 38 = .ok (.aload_n 0, 1) := by decide +kernel
theorem dX4_answer_39 : decode cX4_answer 39 = .ok (.invokevirtual 156, 3) := by decide +kernel
theorem dX4_answer_42 : decode cX4_answer 42 = .ok (.aload_n 0, 1) := by decide +kernel
theorem dX4_answer_43 : decode cX4_answer 43 = .ok (.aload_n 0, 1) := by decide +kernel
theorem dX4_answer_44 : decode cX4_answer 44 = .ok (.getfield 13, 3) := by decide +kernel
theorem dX4_answer_47 : decode cX4_answer 47 = .ok (.bipush 99, 2) := by decide +kernel
theorem dX4_answer_49 : decode cX4_answer 49 = .ok (.invokevirtual 137, 3) := by decide +kernel
theorem dX4_answer_52 : decode cX4_answer 52 = .ok (.aload_n 0, 1) := by decide +kernel
theorem dX4_answer_53 : decode cX4_answer 53 = .ok (.getfield 13, 3) := by decide +kernel
theorem dX4_answer_56 : decode cX4_answer 56 = .ok (.iload_n 3, 1) := by decide +kernel
theorem dX4_answer_57 : decode cX4_answer 57 = .ok (.ifCond .ne 11, 3) := by decide +kernel
theorem dX4_answer_60 : decode cX4_answer 60 = .ok (.iload_n 1, 1) := by decide +kernel
theorem dX4_answer_61 : decode cX4_answer 61 = .ok (.iload_n 2, 1) := by decide +kernel
theorem dX4_answer_62 : decode cX4_answer 62 = .ok (.invokestatic 57, 3) := by decide +kernel
theorem dX4_answer_65 : decode cX4_answer 65 = .ok (.goto 8, 3) := by decide +kernel
theorem dX4_answer_68 : decode cX4_answer 68 = .ok (.iload_n 1, 1) := by decide +kernel
theorem dX4_answer_69 : decode cX4_answer 69 = .ok (.iload_n 2, 1) := by decide +kernel
theorem dX4_answer_70 : decode cX4_answer 70 = .ok (.invokestatic 64, 3) := by decide +kernel
theorem dX4_answer_73 : decode cX4_answer 73 = .ok (.iaload, 1) := by decide +kernel
theorem dX4_answer_74 : decode cX4_answer 74 = .ok (.ireturn, 1) := by decide +kernel
theorem dX4_inRoom_0 : decode cX4_inRoom 0 = .ok (.iconst 0, 1) := by decide +kernel
theorem dX4_inRoom_1 : decode cX4_inRoom 1 = .ok (.istore_n 2, 1) := by decide +kernel
theorem dX4_inRoom_2 : decode cX4_inRoom 2 = .ok (.iconst 0, 1) := by decide +kernel
theorem dX4_inRoom_3 : decode cX4_inRoom 3 = .ok (.istore_n 3, 1) := by decide +kernel
theorem dX4_inRoom_4 : decode cX4_inRoom 4 = .ok (.iload_n 3, 1) := by decide +kernel
theorem dX4_inRoom_5 : decode cX4_inRoom 5 = .ok (.aload_n 0, 1) := by decide +kernel
theorem dX4_inRoom_6 : decode cX4_inRoom 6 = .ok (.iconst 1, 1) := by decide +kernel
theorem dX4_inRoom_7 : decode cX4_inRoom 7 = .ok (.iaload, 1) := by decide +kernel
theorem dX4_inRoom_8 : decode cX4_inRoom 8 = .ok (.if_icmp .ge 28, 3) := by decide +kernel
theorem dX4_inRoom_11 : decode cX4_inRoom 11 = .ok (.iload_n 2, 1) := by decide +kernel
theorem dX4_inRoom_12 : decode cX4_inRoom 12 = .ok (.aload_n 0, 1) := by decide +kernel
theorem dX4_inRoom_13 : decode cX4_inRoom 13 = .ok (.iload_n 3, 1) := by decide +kernel
theorem dX4_inRoom_14 : decode cX4_inRoom 14 = .ok (.iconst 3, 1) := by decide +kernel
theorem dX4_inRoom_15 : decode cX4_inRoom 15 = .ok (.invokestatic 54, 3) := by decide +kernel
theorem dX4_inRoom_18 : decode cX4_inRoom 18 = .ok (.iaload, 1) := by decide +kernel
theorem dX4_inRoom_19 : decode cX4_inRoom 19 = .ok (.iload_n 1, 1) := by decide +kernel
theorem dX4_inRoom_20 : decode cX4_inRoom 20 = .ok (.if_icmp .ne 7, 3) := by decide +kernel
theorem dX4_inRoom_23 : decode cX4_inRoom 23 = .ok (.iconst 1, 1) := by decide +kernel
theorem dX4_inRoom_24 : decode cX4_inRoom 24 = .ok (.goto 4, 3) := by decide +kernel
theorem dX4_inRoom_27 : decode cX4_inRoom 27 = .ok (.iconst 0, 1) := by decide +kernel
theorem dX4_inRoom_28 : decode cX4_inRoom 28 = .ok (.iadd, 1) := by decide +kernel
theorem dX4_inRoom_29 : decode cX4_inRoom 29 = .ok (.istore_n 2, 1) := by decide +kernel
theorem dX4_inRoom_30 : decode cX4_inRoom 30 = .ok (.iinc 3 1, 3) := by decide +kernel
theorem dX4_inRoom_33 : decode cX4_inRoom 33 = .ok (.goto (-29), 3) := by decide +kernel
theorem dX4_inRoom_36 : decode cX4_inRoom 36 = .ok (.iload_n 2, 1) := by decide +kernel
theorem dX4_inRoom_37 : decode cX4_inRoom 37 = .ok (.ireturn, 1) := by decide +kernel
theorem dX4_findsFull_0 : decode cX4_findsFull 0 = .ok (.aload_n 0, 1) := by decide +kernel
theorem dX4_findsFull_1 : decode cX4_findsFull 1 = .ok (.iconst 0, 1) := by decide +kernel
theorem dX4_findsFull_2 : decode cX4_findsFull 2 = .ok (.putfield 175, 3) := by decide +kernel
theorem dX4_findsFull_5 : decode cX4_findsFull 5 = .ok (.aload_n 0, 1) := by decide +kernel
theorem dX4_findsFull_6 : decode cX4_findsFull 6 = .ok (.iconst 0, 1) := by decide +kernel
theorem dX4_findsFull_7 : decode cX4_findsFull 7 = .ok (.putfield 178, 3) := by decide +kernel
theorem dX4_findsFull_10 : decode cX4_findsFull 10 = .ok (.aload_n 0, 1) := by decide +kernel
theorem dX4_findsFull_11 : decode cX4_findsFull 11 = .ok (.iconst 0, 1) := by decide +kernel
theorem dX4_findsFull_12 : decode cX4_findsFull 12 = .ok (.putfield 181, 3) := by decide +kernel
theorem dX4_findsFull_15 : decode cX4_findsFull 15 = .ok (.iconst 0, 1) := by decide +kernel
theorem dX4_findsFull_16 : decode cX4_findsFull 16 = .ok (.istore_n 2, 1) := by decide +kernel
theorem dX4_findsFull_17 : decode cX4_findsFull 17 = .ok (.iload_n 2, 1) := by decide +kernel
theorem dX4_findsFull_18 : decode cX4_findsFull 18 = .ok (.iload_n 1, 1) := by decide +kernel
theorem dX4_findsFull_19 : decode cX4_findsFull 19 = .ok (.if_icmp .gt 71, 3) := by decide +kernel
theorem dX4_findsFull_22 : decode cX4_findsFull 22 = .ok (.iconst 0, 1) := by decide +kernel
theorem dX4_findsFull_23 : decode cX4_findsFull 23 = .ok (.istore_n 3, 1) := by decide +kernel
theorem dX4_findsFull_24 : decode cX4_findsFull 24 = .ok (.iload_n 3, 1) := by decide +kernel
theorem dX4_findsFull_25 : decode cX4_findsFull 25 = .ok (.bipush 7, 2) := by decide +kernel
theorem dX4_findsFull_27 : decode cX4_findsFull 27 = .ok (.if_icmp .ge 49, 3) := by decide +kernel
theorem dX4_findsFull_30 : decode cX4_findsFull 30 = .ok (.aload_n 0, 1) := by decide +kernel
theorem dX4_findsFull_31 : decode cX4_findsFull 31 = .ok (.getfield 13, 3) := by decide +kernel
theorem dX4_findsFull_34 : decode cX4_findsFull 34 = .ok (.iload_n 3, 1) := by decide +kernel
theorem dX4_findsFull_35 : decode cX4_findsFull 35 = .ok (.invokestatic 184, 3) := by decide +kernel
theorem dX4_findsFull_38 : decode cX4_findsFull 38 = .ok (.aload_n 0, 1) := by decide +kernel
theorem dX4_findsFull_39 : decode cX4_findsFull 39 = .ok (.getfield 175, 3) := by decide +kernel
theorem dX4_findsFull_42 : decode cX4_findsFull 42 = .ok (.if_icmp .gt 6, 3) := by decide +kernel
theorem dX4_findsFull_45 : decode cX4_findsFull 45 = .ok (.goto 25, 3) := by decide +kernel
theorem dX4_findsFull_48 : decode cX4_findsFull 48 = .ok (.aload_n 0, 1) := by decide +kernel
theorem dX4_findsFull_49 : decode cX4_findsFull 49 = .ok (.aload_n 0, 1) := by decide +kernel
theorem dX4_findsFull_50 : decode cX4_findsFull 50 = .ok (.getfield 13, 3) := by decide +kernel
theorem dX4_findsFull_53 : decode cX4_findsFull 53 = .ok (.iload_n 3, 1) := by decide +kernel
theorem dX4_findsFull_54 : decode cX4_findsFull 54 = .ok (.invokestatic 184, 3) := by decide +kernel
theorem dX4_findsFull_57 : decode cX4_findsFull 57 = .ok (.putfield 175, 3) := by decide +kernel
theorem dX4_findsFull_60 : decode cX4_findsFull 60 = .ok (.aload_n 0, 1) := by decide +kernel
theorem dX4_findsFull_61 : decode cX4_findsFull 61 = .ok (.iload_n 2, 1) := by decide +kernel
theorem dX4_findsFull_62 : decode cX4_findsFull 62 = .ok (.putfield 178, 3) := by decide +kernel
theorem dX4_findsFull_65 : decode cX4_findsFull 65 = .ok (.aload_n 0, 1) := by decide +kernel
theorem dX4_findsFull_66 : decode cX4_findsFull 66 = .ok (.iload_n 3, 1) := by decide +kernel
theorem dX4_findsFull_67 : decode cX4_findsFull 67 = .ok (.putfield 181, 3) := by decide +kernel
theorem dX4_findsFull_70 : decode cX4_findsFull 70 = .ok (.iinc 3 1, 3) := by decide +kernel
theorem dX4_findsFull_73 : decode cX4_findsFull 73 = .ok (.goto (-49), 3) := by decide +kernel
theorem dX4_findsFull_76 : decode cX4_findsFull 76 = .ok (.aload_n 0, 1) := by decide +kernel
theorem dX4_findsFull_77 : decode cX4_findsFull 77 = .ok (.aload_n 0, 1) := by decide +kernel
theorem dX4_findsFull_78 : decode cX4_findsFull 78 = .ok (.getfield 13, 3) := by decide +kernel
theorem dX4_findsFull_81 : decode cX4_findsFull 81 = .ok (.invokevirtual 84, 3) := by decide +kernel
theorem dX4_findsFull_84 : decode cX4_findsFull 84 = .ok (.iinc 2 1, 3) := by decide +kernel
theorem dX4_findsFull_87 : decode cX4_findsFull 87 = .ok (.goto (-70), 3) := by decide +kernel
theorem dX4_findsFull_90 : decode cX4_findsFull 90 = .ok (.return_, 1) := by decide +kernel
theorem dX4_full_0 : decode cX4_full 0 = .ok (.iload_n 1, 1) := by decide +kernel
theorem dX4_full_1 : decode cX4_full 1 = .ok (.invokestatic 153, 3) := by decide +kernel
theorem dX4_full_4 : decode cX4_full 4 = .ok (.istore_n 3, 1) := by decide +kernel
theorem dX4_full_5 : decode cX4_full 5 = .ok (.iload_n 3, 1) := by decide +kernel
theorem dX4_full_6 : decode cX4_full 6 = .ok (.ifCond .ne 15, 3) := by decide +kernel
theorem dX4_full_9 : decode cX4_full 9 = .ok (.iload_n 2, 1) := by decide +kernel
theorem dX4_full_10 : decode cX4_full 10 = .ok (.iconst 0, 1) := by decide +kernel
theorem dX4_full_11 : decode cX4_full 11 = .ok (.iconst 2, 1) := by decide +kernel
theorem dX4_full_12 : decode cX4_full 12 = .ok (.invokestatic 42, 3) := by decide +kernel
theorem dX4_full_15 : decode cX4_full 15 = .ok (.ifCond .ne 6, 3) := by decide +kernel
theorem dX4_full_18 : decode cX4_full 18 = .ok (.bipush (-2), 2) := by decide +kernel
theorem dX4_full_20 : decode cX4_full 20 = .ok (.istore_n 3, 1) := by decide +kernel
theorem dX4_full_21 : decode cX4_full 21 = .ok (.iload_n 3, 1) := by decide +kernel
theorem dX4_full_22 : decode cX4_full 22 = .ok (.ifCond .eq 9, 3) := by decide +kernel
theorem dX4_full_25 : decode cX4_full 25 = .ok (.aload_n 0, 1) := by decide +kernel
theorem dX4_full_26 : decode cX4_full 26 = .ok (.iload_n 3, 1) := by decide +kernel
theorem dX4_full_27 : decode cX4_full 27 = .ok (.invokevirtual 38, 3) := by decide +kernel
theorem dX4_full_30 : decode cX4_full 30 = .ok (.ireturn, 1) := by decide +kernel
theorem dX4_full_31 : decode cX4_full 31 = .ok (.aload_n 0, 1) := by decide +kernel
theorem dX4_full_32 : decode cX4_full 32 = .ok (.getfield 9, 3) := by decide +kernel
theorem dX4_full_35 : decode cX4_full 35 = .ok (.aload_n 0, 1) := by decide +kernel
theorem dX4_full_36 : decode cX4_full 36 = .ok (.getfield 13, 3) := by decide +kernel
theorem dX4_full_39 : decode cX4_full 39 = .ok (.invokestatic 88, 3) := by decide +kernel
theorem dX4_full_42 : decode cX4_full 42 = .ok (.aload_n 0, 1) := by decide +kernel
theorem dX4_full_43 : decode cX4_full 43 = .ok (.iload_n 1, 1) := by decide +kernel
theorem dX4_full_44 : decode cX4_full 44 = .ok (.invokevirtual 187, 3) := by decide +kernel
theorem dX4_full_47 : decode cX4_full 47 = .ok (.iload_n 2, 1) := by decide +kernel
theorem dX4_full_48 : decode cX4_full 48 = .ok (.ifCond .ne 10, 3) := by decide +kernel
theorem dX4_full_51 : decode cX4_full 51 = .ok (.aload_n 0, 1) := by decide +kernel
theorem dX4_full_52 : decode cX4_full 52 = .ok (.getfield 175, 3) := by decide +kernel
theorem dX4_full_55 : decode cX4_full 55 = .ok (.goto 19, 3) := by decide +kernel
theorem dX4_full_58 : decode cX4_full 58 = .ok (.iload_n 2, 1) := by decide +kernel
theorem dX4_full_59 : decode cX4_full 59 = .ok (.iconst 1, 1) := by decide +kernel
theorem dX4_full_60 : decode cX4_full 60 = .ok (.if_icmp .ne 10, 3) := by decide +kernel
theorem dX4_full_63 : decode cX4_full 63 = .ok (.aload_n 0, 1) := by decide +kernel
theorem dX4_full_64 : decode cX4_full 64 = .ok (.getfield 178, 3) := by decide +kernel
theorem dX4_full_67 : decode cX4_full 67 = .ok (.goto 7, 3) := by decide +kernel
theorem dX4_full_70 : decode cX4_full 70 = .ok (.aload_n 0, 1) := by decide +kernel
theorem dX4_full_71 : decode cX4_full 71 = .ok (.getfield 181, 3) := by decide +kernel
theorem dX4_full_74 : decode cX4_full 74 = .ok (.ireturn, 1) := by decide +kernel
theorem dX4_right_0 : decode cX4_right 0 = .ok (.iload_n 1, 1) := by decide +kernel
theorem dX4_right_1 : decode cX4_right 1 = .ok (.invokestatic 153, 3) := by decide +kernel
theorem dX4_right_4 : decode cX4_right 4 = .ok (.istore_n 2, 1) := by decide +kernel
theorem dX4_right_5 : decode cX4_right 5 = .ok (.iload_n 2, 1) := by decide +kernel
theorem dX4_right_6 : decode cX4_right 6 = .ok (.ifCond .eq 9, 3) := by decide +kernel
theorem dX4_right_9 : decode cX4_right 9 = .ok (.aload_n 0, 1) := by decide +kernel
theorem dX4_right_10 : decode cX4_right 10 = .ok (.iload_n 2, 1) := by decide +kernel
theorem dX4_right_11 : decode cX4_right 11 = .ok (.invokevirtual 38, 3) := by decide +kernel
theorem dX4_right_14 : decode cX4_right 14 = .ok (.ireturn, 1) := by decide +kernel
theorem dX4_right_15 : decode cX4_right 15 = .ok (.aload_n 0, 1) := by decide +kernel
theorem dX4_right_16 : decode cX4_right 16 = .ok (.getfield 9, 3) := by decide +kernel
theorem dX4_right_19 : decode cX4_right 19 = .ok (.aload_n 0, 1) := by decide +kernel
theorem dX4_right_20 : decode cX4_right 20 = .ok (.getfield 13, 3) := by decide +kernel
theorem dX4_right_23 : decode cX4_right 23 = .ok (.invokestatic 88, 3) := by decide +kernel
theorem dX4_right_26 : decode cX4_right 26 = .ok (.aload_n 0, 1) := by decide +kernel
theorem dX4_right_27 : decode cX4_right 27 = .ok (.aload_n 0, 1) := by decide +kernel
theorem dX4_right_28 : decode cX4_right 28 = .ok (.getfield 13, 3) := by decide +kernel
theorem dX4_right_31 : decode cX4_right 31 = .ok (.iload_n 1, 1) := by decide +kernel
theorem dX4_right_32 : decode cX4_right 32 = .ok (.invokevirtual 137, 3) := by decide +kernel
theorem dX4_right_35 : decode cX4_right 35 = .ok (.aload_n 0, 1) := by decide +kernel
theorem dX4_right_36 : decode cX4_right 36 = .ok (.getfield 13, 3) := by decide +kernel
theorem dX4_right_39 : decode cX4_right 39 = .ok (.invokestatic 149, 3) := by decide +kernel
theorem dX4_right_42 : decode cX4_right 42 = .ok (.ireturn, 1) := by decide +kernel
theorem dX4_bestFirst_0 : decode cX4_bestFirst 0 = .ok (.aload_n 0, 1) := by decide +kernel
theorem dX4_bestFirst_1 : decode cX4_bestFirst 1 = .ok (.iload_n 1, 1) := by decide +kernel
theorem dX4_bestFirst_2 : decode cX4_bestFirst 2 = .ok (.invokevirtual 131, 3) := by decide +kernel
theorem dX4_bestFirst_5 : decode cX4_bestFirst 5 = .ok (.ifCond .ne 9, 3) := by decide +kernel
theorem dX4_bestFirst_8 : decode cX4_bestFirst 8 = .ok (.aload_n 0, 1) := by decide +kernel
theorem dX4_bestFirst_9 : decode cX4_bestFirst 9 = .ok (.iconst (-1), 1) := by decide +kernel
theorem dX4_bestFirst_10 : decode cX4_bestFirst 10 = .ok (.invokevirtual 38, 3) := by decide +kernel
theorem dX4_bestFirst_13 : decode cX4_bestFirst 13 = .ok (.ireturn, 1) := by decide +kernel
theorem dX4_bestFirst_14 : decode cX4_bestFirst 14 = .ok (.iload_n 2, 1) := by decide +kernel
theorem dX4_bestFirst_15 : decode cX4_bestFirst 15 = .ok (.iconst 0, 1) := by decide +kernel
theorem dX4_bestFirst_16 : decode cX4_bestFirst 16 = .ok (.iconst 1, 1) := by decide +kernel
theorem dX4_bestFirst_17 : decode cX4_bestFirst 17 = .ok (.invokestatic 42, 3) := by decide +kernel
theorem dX4_bestFirst_20 : decode cX4_bestFirst 20 = .ok (.ifCond .ne 10, 3) := by decide +kernel
theorem dX4_bestFirst_23 : decode cX4_bestFirst 23 = .ok (.aload_n 0, 1) := by decide +kernel
theorem dX4_bestFirst_24 : decode cX4_bestFirst 24 = .ok (.bipush (-2), 2) := by decide +kernel
theorem dX4_bestFirst_26 : decode cX4_bestFirst 26 = .ok (.invokevirtual 38, 3) := by decide +kernel
theorem dX4_bestFirst_29 : decode cX4_bestFirst 29 = .ok (.ireturn, 1) := by decide +kernel
theorem dX4_bestFirst_30 : decode cX4_bestFirst 30 = .ok (.bipush (-9), 2) := by decide +kernel
theorem dX4_bestFirst_32 : decode cX4_bestFirst 32 = .ok (.istore_n 3, 1) := by decide +kernel
theorem dX4_bestFirst_33 : decode cX4_bestFirst 33 = .ok (.iload_n 2, 1) := by decide +kernel
theorem dX4_bestFirst_34 : decode cX4_bestFirst 34 = .ok (.ifCond .ne 8, 3) := by decide +kernel
theorem dX4_bestFirst_37 : decode cX4_bestFirst 37 = .ok (.ldc 37, 2) := by decide +kernel
theorem dX4_bestFirst_39 : decode cX4_bestFirst 39 = .ok (.goto 4, 3) := by decide +kernel
theorem dX4_bestFirst_42 : decode cX4_bestFirst 42 = .ok (.iconst (-1), 1) := by decide +kernel
theorem dX4_bestFirst_43 : decode cX4_bestFirst 43 = .ok (.istore 4, 2) := by decide +kernel
theorem dX4_bestFirst_45 : decode cX4_bestFirst 45 = .ok (.iconst 0, 1) := by decide +kernel
theorem dX4_bestFirst_46 : decode cX4_bestFirst 46 = .ok (.istore 5, 2) := by decide +kernel
theorem dX4_bestFirst_48 : decode cX4_bestFirst 48 = .ok (.iload 5, 2) := by decide +kernel
theorem dX4_bestFirst_50 : decode cX4_bestFirst 50 = .ok (.bipush 8, 2) := by decide +kernel
theorem dX4_bestFirst_52 : decode cX4_bestFirst 52 = .ok (.if_icmp .ge 105, 3) := by decide +kernel
theorem dX4_bestFirst_55 : decode cX4_bestFirst 55 = .ok (.aload_n 0, 1) := by decide +kernel
theorem dX4_bestFirst_56 : decode cX4_bestFirst 56 = .ok (.getfield 9, 3) := by decide +kernel
theorem dX4_bestFirst_59 : decode cX4_bestFirst 59 = .ok (.aload_n 0, 1) := by decide +kernel
theorem dX4_bestFirst_60 : decode cX4_bestFirst 60 = .ok (.getfield 13, 3) := by decide +kernel
theorem dX4_bestFirst_63 : decode cX4_bestFirst 63 = .ok (.invokestatic 88, 3) := by decide +kernel
theorem dX4_bestFirst_66 : decode cX4_bestFirst 66 = .ok (.aload_n 0, 1) := by decide +kernel
theorem dX4_bestFirst_67 : decode cX4_bestFirst 67 = .ok (.getfield 13, 3) := by decide +kernel
theorem dX4_bestFirst_70 : decode cX4_bestFirst 70 = .ok (.iload_n 1, 1) := by decide +kernel
theorem dX4_bestFirst_71 : decode cX4_bestFirst 71 = .ok (.iconst 2, 1) := by decide +kernel
theorem dX4_bestFirst_72 : decode cX4_bestFirst 72 = .ok (.invokestatic 54, 3) := by decide +kernel
theorem dX4_bestFirst_75 : decode cX4_bestFirst 75 = .ok (.iload 5, 2) := by decide +kernel
theorem dX4_bestFirst_77 : decode cX4_bestFirst 77 = .ok (.iastore, 1) := by decide +kernel
theorem dX4_bestFirst_78 : decode cX4_bestFirst 78 = .ok (.iload_n 2, 1) := by decide +kernel
theorem dX4_bestFirst_79 : decode cX4_bestFirst 79 = .ok (.iconst 1, 1) := by decide +kernel
theorem dX4_bestFirst_80 : decode cX4_bestFirst 80 = .ok (.if_icmp .ne 13, 3) := by decide +kernel
theorem dX4_bestFirst_83 : decode cX4_bestFirst 83 = .ok (.aload_n 0, 1) := by decide +kernel
theorem dX4_bestFirst_84 : decode cX4_bestFirst 84 = .ok (.aload_n 0, 1) := by decide +kernel
theorem dX4_bestFirst_85 : decode cX4_bestFirst 85 = .ok (.getfield 13, 3) := by decide +kernel
theorem dX4_bestFirst_88 : decode cX4_bestFirst 88 = .ok (.bipush 99, 2) := by decide +kernel
theorem dX4_bestFirst_90 : decode cX4_bestFirst 90 = .ok (.invokevirtual 137, 3) := by decide +kernel
theorem dX4_bestFirst_93 : decode cX4_bestFirst 93 = .ok (.iload_n 2, 1) := by decide +kernel
theorem dX4_bestFirst_94 : decode cX4_bestFirst 94 = .ok (.ifCond .ne 11, 3) := by decide +kernel
theorem dX4_bestFirst_97 : decode cX4_bestFirst 97 = .ok (.aload_n 0, 1) := by decide +kernel
theorem dX4_bestFirst_98 : decode cX4_bestFirst 98 = .ok (.iload_n 1, 1) := by decide +kernel
theorem dX4_bestFirst_99 : decode cX4_bestFirst 99 = .ok (.invokevirtual 166, 3) := by decide +kernel
theorem dX4_bestFirst_102 : decode cX4_bestFirst 102 = .ok (.goto 11, 3) := by decide +kernel
theorem dX4_bestFirst_105 : decode cX4_bestFirst 105 = .ok (.aload_n 0, 1) := by decide +kernel
theorem dX4_bestFirst_106 : decode cX4_bestFirst 106 = .ok (.getfield 13, 3) := by decide +kernel
theorem dX4_bestFirst_109 : decode cX4_bestFirst 109 = .ok (.iload_n 1, 1) := by decide +kernel
theorem dX4_bestFirst_110 : decode cX4_bestFirst 110 = .ok (.invokestatic 92, 3) := by decide +kernel
theorem dX4_bestFirst_113 : decode cX4_bestFirst 113 = .ok (.istore 6, 2) := by decide +kernel
theorem dX4_bestFirst_115 : decode cX4_bestFirst 115 = .ok (.iload 6, 2) := by decide +kernel
theorem dX4_bestFirst_117 : decode cX4_bestFirst 117 = .ok (.ifCond .lt 34, 3) := by decide +kernel
theorem dX4_bestFirst_120 : decode cX4_bestFirst 120 = .ok (.iload_n 2, 1) := by decide +kernel
theorem dX4_bestFirst_121 : decode cX4_bestFirst 121 = .ok (.ifCond .ne 13, 3) := by decide +kernel
theorem dX4_bestFirst_124 : decode cX4_bestFirst 124 = .ok (.iload 6, 2) := by decide +kernel
theorem dX4_bestFirst_126 : decode cX4_bestFirst 126 = .ok (.iload 4, 2) := by decide +kernel
theorem dX4_bestFirst_128 : decode cX4_bestFirst 128 = .ok (.if_icmp .lt 16, 3) := by decide +kernel
theorem dX4_bestFirst_131 : decode cX4_bestFirst 131 = .ok (.goto 20, 3) := by decide +kernel
theorem dX4_bestFirst_134 : decode cX4_bestFirst 134 = .ok (.iload 6, 2) := by decide +kernel
theorem dX4_bestFirst_136 : decode cX4_bestFirst 136 = .ok (.iload 4, 2) := by decide +kernel
theorem dX4_bestFirst_138 : decode cX4_bestFirst 138 = .ok (.if_icmp .gt 6, 3) := by decide +kernel
theorem dX4_bestFirst_141 : decode cX4_bestFirst 141 = .ok (.goto 10, 3) := by decide +kernel
theorem dX4_bestFirst_144 : decode cX4_bestFirst 144 = .ok (.iload 5, 2) := by decide +kernel
theorem dX4_bestFirst_146 : decode cX4_bestFirst 146 = .ok (.istore_n 3, 1) := by decide +kernel
theorem dX4_bestFirst_147 : decode cX4_bestFirst 147 = .ok (.iload 6, 2) := by decide +kernel
theorem dX4_bestFirst_149 : decode cX4_bestFirst 149 = .ok (.istore 4, 2) := by decide +kernel
theorem dX4_bestFirst_151 : decode cX4_bestFirst 151 = .ok (.iinc 5 1, 3) := by decide +kernel
theorem dX4_bestFirst_154 : decode cX4_bestFirst 154 = .ok (.goto (-106), 3) := by decide +kernel
theorem dX4_bestFirst_157 : decode cX4_bestFirst 157 = .ok (.iload_n 3, 1) := by decide +kernel
theorem dX4_bestFirst_158 : decode cX4_bestFirst 158 = .ok (.ireturn, 1) := by decide +kernel
theorem dX4_apart_0 : decode cX4_apart 0 = .ok (.iload_n 1, 1) := by decide +kernel
theorem dX4_apart_1 : decode cX4_apart 1 = .ok (.iconst (-1), 1) := by decide +kernel
theorem dX4_apart_2 : decode cX4_apart 2 = .ok (.if_icmp .ge 10, 3) := by decide +kernel
theorem dX4_apart_5 : decode cX4_apart 5 = .ok (.aload_n 0, 1) := by decide +kernel
theorem dX4_apart_6 : decode cX4_apart 6 = .ok (.bipush (-4), 2) := by decide +kernel
theorem dX4_apart_8 : decode cX4_apart 8 = .ok (.invokevirtual 38, 3) := by decide +kernel
theorem dX4_apart_11 : decode cX4_apart 11 = .ok (.ireturn, 1) := by decide +kernel
theorem dX4_apart_12 : decode cX4_apart 12 = .ok (.iload_n 1, 1) := by decide +kernel
theorem dX4_apart_13 : decode cX4_apart 13 = .ok (.aload_n 0, 1) := by decide +kernel
theorem dX4_apart_14 : decode cX4_apart 14 = .ok (.getfield 9, 3) := by decide +kernel
theorem dX4_apart_17 : decode cX4_apart 17 = .ok (.iconst 1, 1) := by decide +kernel
theorem dX4_apart_18 : decode cX4_apart 18 = .ok (.iaload, 1) := by decide +kernel
theorem dX4_apart_19 : decode cX4_apart 19 = .ok (.if_icmp .lt 9, 3) := by decide +kernel
theorem dX4_apart_22 : decode cX4_apart 22 = .ok (.aload_n 0, 1) := by decide +kernel
theorem dX4_apart_23 : decode cX4_apart 23 = .ok (.iconst (-1), 1) := by decide +kernel
theorem dX4_apart_24 : decode cX4_apart 24 = .ok (.invokevirtual 38, 3) := by decide +kernel
theorem dX4_apart_27 : decode cX4_apart 27 = .ok (.ireturn, 1) := by decide +kernel
theorem dX4_apart_28 : decode cX4_apart 28 = .ok (.aload_n 0, 1) := by decide +kernel
theorem dX4_apart_29 : decode cX4_apart 29 = .ok (.getfield 9, 3) := by decide +kernel
theorem dX4_apart_32 : decode cX4_apart 32 = .ok (.iconst 1, 1) := by decide +kernel
theorem dX4_apart_33 : decode cX4_apart 33 = .ok (.iaload, 1) := by decide +kernel
theorem dX4_apart_34 : decode cX4_apart 34 = .ok (.iconst 3, 1) := by decide +kernel
theorem dX4_apart_35 : decode cX4_apart 35 = .ok (.if_icmp .le 10, 3) := by decide +kernel
theorem dX4_apart_38 : decode cX4_apart 38 = .ok (.aload_n 0, 1) := by decide +kernel
theorem dX4_apart_39 : decode cX4_apart 39 = .ok (.bipush (-3), 2) := by decide +kernel
theorem dX4_apart_41 : decode cX4_apart 41 = .ok (.invokevirtual 38, 3) := by decide +kernel
theorem dX4_apart_44 : decode cX4_apart 44 = .ok (.ireturn, 1) := by decide +kernel
theorem dX4_apart_45 : decode cX4_apart 45 = .ok (.iconst 1, 1) := by decide +kernel
theorem dX4_apart_46 : decode cX4_apart 46 = .ok (.istore_n 2, 1) := by decide +kernel
theorem dX4_apart_47 : decode cX4_apart 47 = .ok (.iconst 0, 1) := by decide +kernel
theorem dX4_apart_48 : decode cX4_apart 48 = .ok (.istore_n 3, 1) := by decide +kernel
theorem dX4_apart_49 : decode cX4_apart 49 = .ok (.iload_n 3, 1) := by decide +kernel
theorem dX4_apart_50 : decode cX4_apart 50 = .ok (.aload_n 0, 1) := by decide +kernel
theorem dX4_apart_51 : decode cX4_apart 51 = .ok (.getfield 9, 3) := by decide +kernel
theorem dX4_apart_54 : decode cX4_apart 54 = .ok (.iconst 1, 1) := by decide +kernel
theorem dX4_apart_55 : decode cX4_apart 55 = .ok (.iaload, 1) := by decide +kernel
theorem dX4_apart_56 : decode cX4_apart 56 = .ok (.if_icmp .ge 14, 3) := by decide +kernel
theorem dX4_apart_59 : decode cX4_apart 59 = .ok (.iload_n 2, 1) := by decide +kernel
theorem dX4_apart_60 : decode cX4_apart 60 = .ok (.bipush 8, 2) := by decide +kernel
theorem dX4_apart_62 : decode cX4_apart 62 = .ok (.imul, 1) := by decide +kernel
theorem dX4_apart_63 : decode cX4_apart 63 = .ok (.istore_n 2, 1) := by decide +kernel
theorem dX4_apart_64 : decode cX4_apart 64 = .ok (.iinc 3 1, 3) := by decide +kernel
theorem dX4_apart_67 : decode cX4_apart 67 = .ok (.goto (-18), 3) := by decide +kernel
theorem dX4_apart_70 : decode cX4_apart 70 = .ok (.iconst 0, 1) := by decide +kernel
theorem dX4_apart_71 : decode cX4_apart 71 = .ok (.istore_n 3, 1) := by decide +kernel
theorem dX4_apart_72 : decode cX4_apart 72 = .ok (.ldc 37, 2) := by decide +kernel
theorem dX4_apart_74 : decode cX4_apart 74 = .ok (.istore 4, 2) := by decide +kernel
theorem dX4_apart_76 : decode cX4_apart 76 = .ok (.iconst 0, 1) := by decide +kernel
theorem dX4_apart_77 : decode cX4_apart 77 = .ok (.istore 5, 2) := by decide +kernel
theorem dX4_apart_79 : decode cX4_apart 79 = .ok (.iload 5, 2) := by decide +kernel
theorem dX4_apart_81 : decode cX4_apart 81 = .ok (.iload_n 2, 1) := by decide +kernel
theorem dX4_apart_82 : decode cX4_apart 82 = .ok (.if_icmp .ge 97, 3) := by decide +kernel
theorem dX4_apart_85 : decode cX4_apart 85 = .ok (.aload_n 0, 1) := by decide +kernel
theorem dX4_apart_86 : decode cX4_apart 86 = .ok (.getfield 9, 3) := by decide +kernel
theorem dX4_apart_89 : decode cX4_apart 89 = .ok (.aload_n 0, 1) := by decide +kernel
theorem dX4_apart_90 : decode cX4_apart 90 = .ok (.getfield 13, 3) := by decide +kernel
theorem dX4_apart_93 : decode cX4_apart 93 = .ok (.invokestatic 88, 3) := by decide +kernel
theorem dX4_apart_96 : decode cX4_apart 96 = .ok (.iconst 0, 1) := by decide +kernel
theorem dX4_apart_97 : decode cX4_apart 97 = .ok (.istore 6, 2) := by decide +kernel
theorem dX4_apart_99 : decode cX4_apart 99 = .ok (.iload 6, 2) := by decide +kernel
theorem dX4_apart_101 : decode cX4_apart 101 = .ok (.aload_n 0, 1) := by decide +kernel
theorem dX4_apart_102 : decode cX4_apart 102 = .ok (.getfield 9, 3) := by decide +kernel
theorem dX4_apart_105 : decode cX4_apart 105 = .ok (.iconst 1, 1) := by decide +kernel
theorem dX4_apart_106 : decode cX4_apart 106 = .ok (.iaload, 1) := by decide +kernel
theorem dX4_apart_107 : decode cX4_apart 107 = .ok (.if_icmp .ge 39, 3) := by decide +kernel
theorem dX4_apart_110 : decode cX4_apart 110 = .ok (.aload_n 0, 1) := by decide +kernel
theorem dX4_apart_111 : decode cX4_apart 111 = .ok (.getfield 13, 3) := by decide +kernel
theorem dX4_apart_114 : decode cX4_apart 114 = .ok (.iload 6, 2) := by decide +kernel
theorem dX4_apart_116 : decode cX4_apart 116 = .ok (.iconst 2, 1) := by decide +kernel
theorem dX4_apart_117 : decode cX4_apart 117 = .ok (.invokestatic 54, 3) := by decide +kernel
theorem dX4_apart_120 : decode cX4_apart 120 = .ok (.iload 5, 2) := by decide +kernel
theorem dX4_apart_122 : decode cX4_apart 122 = .ok (.iconst 3, 1) := by decide +kernel
theorem dX4_apart_123 : decode cX4_apart 123 = .ok (.aload_n 0, 1) := by decide +kernel
theorem dX4_apart_124 : decode cX4_apart 124 = .ok (.getfield 9, 3) := by decide +kernel
theorem dX4_apart_127 : decode cX4_apart 127 = .ok (.iconst 1, 1) := by decide +kernel
theorem dX4_apart_128 : decode cX4_apart 128 = .ok (.iaload, 1) := by decide +kernel
theorem dX4_apart_129 : decode cX4_apart 129 = .ok (.iconst 1, 1) := by decide +kernel
theorem dX4_apart_130 : decode cX4_apart 130 = .ok (.isub, 1) := by decide +kernel
theorem dX4_apart_131 : decode cX4_apart 131 = .ok (.iload 6, 2) := by decide +kernel
theorem dX4_apart_133 : decode cX4_apart 133 = .ok (.isub, 1) := by decide +kernel
theorem dX4_apart_134 : decode cX4_apart 134 = .ok (.imul, 1) := by decide +kernel
theorem dX4_apart_135 : decode cX4_apart 135 = .ok (.ishr, 1) := by decide +kernel
theorem dX4_apart_136 : decode cX4_apart 136 = .ok (.bipush 7, 2) := by decide +kernel
theorem dX4_apart_138 : decode cX4_apart 138 = .ok (.iand, 1) := by decide +kernel
theorem dX4_apart_139 : decode cX4_apart 139 = .ok (.iastore, 1) := by decide +kernel
theorem dX4_apart_140 : decode cX4_apart 140 = .ok (.iinc 6 1, 3) := by decide +kernel
theorem dX4_apart_143 : decode cX4_apart 143 = .ok (.goto (-44), 3) := by decide +kernel
theorem dX4_apart_146 : decode cX4_apart 146 = .ok (.aload_n 0, 1) := by decide +kernel
theorem dX4_apart_147 : decode cX4_apart 147 = .ok (.bipush 30, 2) := by decide +kernel
theorem dX4_apart_149 : decode cX4_apart 149 = .ok (.invokevirtual 187, 3) := by decide +kernel
theorem dX4_apart_152 : decode cX4_apart 152 = .ok (.aload_n 0, 1) := by decide +kernel
theorem dX4_apart_153 : decode cX4_apart 153 = .ok (.getfield 175, 3) := by decide +kernel
theorem dX4_apart_156 : decode cX4_apart 156 = .ok (.iload 4, 2) := by decide +kernel
theorem dX4_apart_158 : decode cX4_apart 158 = .ok (.if_icmp .lt 6, 3) := by decide +kernel
theorem dX4_apart_161 : decode cX4_apart 161 = .ok (.goto 12, 3) := by decide +kernel
theorem dX4_apart_164 : decode cX4_apart 164 = .ok (.iload 5, 2) := by decide +kernel
theorem dX4_apart_166 : decode cX4_apart 166 = .ok (.istore_n 3, 1) := by decide +kernel
theorem dX4_apart_167 : decode cX4_apart 167 = .ok (.aload_n 0, 1) := by decide +kernel
theorem dX4_apart_168 : decode cX4_apart 168 = .ok (.getfield 175, 3) := by decide +kernel
theorem dX4_apart_171 : decode cX4_apart 171 = .ok (.istore 4, 2) := by decide +kernel
theorem dX4_apart_173 : decode cX4_apart 173 = .ok (.iinc 5 1, 3) := by decide +kernel
theorem dX4_apart_176 : decode cX4_apart 176 = .ok (.goto (-97), 3) := by decide +kernel
theorem dX4_apart_179 : decode cX4_apart 179 = .ok (.iload_n 1, 1) := by decide +kernel
theorem dX4_apart_180 : decode cX4_apart 180 = .ok (.ifCond .ge 8, 3) := by decide +kernel
theorem dX4_apart_183 : decode cX4_apart 183 = .ok (.iload 4, 2) := by decide +kernel
theorem dX4_apart_185 : decode cX4_apart 185 = .ok (.goto 20, 3) := by decide +kernel
theorem dX4_apart_188 : decode cX4_apart 188 = .ok (.iload_n 3, 1) := by decide +kernel
theorem dX4_apart_189 : decode cX4_apart 189 = .ok (.iconst 3, 1) := by decide +kernel
theorem dX4_apart_190 : decode cX4_apart 190 = .ok (.aload_n 0, 1) := by decide +kernel
theorem dX4_apart_191 : decode cX4_apart 191 = .ok (.getfield 9, 3) := by decide +kernel
theorem dX4_apart_194 : decode cX4_apart 194 = .ok (.iconst 1, 1) := by decide +kernel
theorem dX4_apart_195 : decode cX4_apart 195 = .ok (.iaload, 1) := by decide +kernel
theorem dX4_apart_196 : decode cX4_apart 196 = .ok (.iconst 1, 1) := by decide +kernel
theorem dX4_apart_197 : decode cX4_apart 197 = .ok (.isub, 1) := by decide +kernel
theorem dX4_apart_198 : decode cX4_apart 198 = .ok (.iload_n 1, 1) := by decide +kernel
theorem dX4_apart_199 : decode cX4_apart 199 = .ok (.isub, 1) := by decide +kernel
theorem dX4_apart_200 : decode cX4_apart 200 = .ok (.imul, 1) := by decide +kernel
theorem dX4_apart_201 : decode cX4_apart 201 = .ok (.ishr, 1) := by decide +kernel
theorem dX4_apart_202 : decode cX4_apart 202 = .ok (.bipush 7, 2) := by decide +kernel
theorem dX4_apart_204 : decode cX4_apart 204 = .ok (.iand, 1) := by decide +kernel
theorem dX4_apart_205 : decode cX4_apart 205 = .ok (.ireturn, 1) := by decide +kernel
theorem dX4_leaves_0 : decode cX4_leaves 0 = .ok (.aload_n 0, 1) := by decide +kernel
theorem dX4_leaves_1 : decode cX4_leaves 1 = .ok (.getfield 9, 3) := by decide +kernel
theorem dX4_leaves_4 : decode cX4_leaves 4 = .ok (.aload_n 0, 1) := by decide +kernel
theorem dX4_leaves_5 : decode cX4_leaves 5 = .ok (.getfield 13, 3) := by decide +kernel
theorem dX4_leaves_8 : decode cX4_leaves 8 = .ok (.invokestatic 88, 3) := by decide +kernel
theorem dX4_leaves_11 : decode cX4_leaves 11 = .ok (.iconst 0, 1) := by decide +kernel
theorem dX4_leaves_12 : decode cX4_leaves 12 = .ok (.istore_n 2, 1) := by decide +kernel
theorem dX4_leaves_13 : decode cX4_leaves 13 = .ok (.iload_n 2, 1) := by decide +kernel
theorem dX4_leaves_14 : decode cX4_leaves 14 = .ok (.aload_n 0, 1) := by decide +kernel
theorem dX4_leaves_15 : decode cX4_leaves 15 = .ok (.getfield 9, 3) := by decide +kernel
theorem dX4_leaves_18 : decode cX4_leaves 18 = .ok (.iconst 1, 1) := by decide +kernel
theorem dX4_leaves_19 : decode cX4_leaves 19 = .ok (.iaload, 1) := by decide +kernel
theorem dX4_leaves_20 : decode cX4_leaves 20 = .ok (.if_icmp .ge 29, 3) := by decide +kernel
theorem dX4_leaves_23 : decode cX4_leaves 23 = .ok (.aload_n 0, 1) := by decide +kernel
theorem dX4_leaves_24 : decode cX4_leaves 24 = .ok (.getfield 13, 3) := by decide +kernel
theorem dX4_leaves_27 : decode cX4_leaves 27 = .ok (.iload_n 2, 1) := by decide +kernel
theorem dX4_leaves_28 : decode cX4_leaves 28 = .ok (.iload_n 1, 1) := by decide +kernel
theorem dX4_leaves_29 : decode cX4_leaves 29 = .ok (.invokestatic 57, 3) := by decide +kernel
theorem dX4_leaves_32 : decode cX4_leaves 32 = .ok (.aload_n 0, 1) := by decide +kernel
theorem dX4_leaves_33 : decode cX4_leaves 33 = .ok (.getfield 9, 3) := by decide +kernel
theorem dX4_leaves_36 : decode cX4_leaves 36 = .ok (.iload_n 1, 1) := by decide +kernel
theorem dX4_leaves_37 : decode cX4_leaves 37 = .ok (.iconst 3, 1) := by decide +kernel
theorem dX4_leaves_38 : decode cX4_leaves 38 = .ok (.invokestatic 50, 3) := by decide +kernel
theorem dX4_leaves_41 : decode cX4_leaves 41 = .ok (.iaload, 1) := by decide +kernel
theorem dX4_leaves_42 : decode cX4_leaves 42 = .ok (.iastore, 1) := by decide +kernel
theorem dX4_leaves_43 : decode cX4_leaves 43 = .ok (.iinc 2 1, 3) := by decide +kernel
theorem dX4_leaves_46 : decode cX4_leaves 46 = .ok (.goto (-33), 3) := by decide +kernel
theorem dX4_leaves_49 : decode cX4_leaves 49 = .ok (.return_, 1) := by decide +kernel
theorem dX4_leave_0 : decode cX4_leave 0 = .ok (.bipush (-9), 2) := by decide +kernel
theorem dX4_leave_2 : decode cX4_leave 2 = .ok (.istore_n 1, 1) := by decide +kernel
theorem dX4_leave_3 : decode cX4_leave 3 = .ok (.ldc 37, 2) := by decide +kernel
theorem dX4_leave_5 : decode cX4_leave 5 = .ok (.istore_n 2, 1) := by decide +kernel
theorem dX4_leave_6 : decode cX4_leave 6 = .ok (.iconst 0, 1) := by decide +kernel
theorem dX4_leave_7 : decode cX4_leave 7 = .ok (.istore_n 3, 1) := by decide +kernel
theorem dX4_leave_8 : decode cX4_leave 8 = .ok (.iload_n 3, 1) := by decide +kernel
theorem dX4_leave_9 : decode cX4_leave 9 = .ok (.aload_n 0, 1) := by decide +kernel
theorem dX4_leave_10 : decode cX4_leave 10 = .ok (.getfield 9, 3) := by decide +kernel
theorem dX4_leave_13 : decode cX4_leave 13 = .ok (.iconst 0, 1) := by decide +kernel
theorem dX4_leave_14 : decode cX4_leave 14 = .ok (.iaload, 1) := by decide +kernel
theorem dX4_leave_15 : decode cX4_leave 15 = .ok (.if_icmp .ge 39, 3) := by decide +kernel
theorem dX4_leave_18 : decode cX4_leave 18 = .ok (.aload_n 0, 1) := by decide +kernel
theorem dX4_leave_19 : decode cX4_leave 19 = .ok (.iload_n 3, 1) := by decide +kernel
theorem dX4_leave_20 : decode cX4_leave 20 = .ok (.invokevirtual 191, 3) := by decide +kernel
theorem dX4_leave_23 : decode cX4_leave 23 = .ok (.aload_n 0, 1) := by decide +kernel
theorem dX4_leave_24 : decode cX4_leave 24 = .ok (.invokevirtual 172, 3) := by decide +kernel
theorem dX4_leave_27 : decode cX4_leave 27 = .ok (.istore 4, 2) := by decide +kernel
theorem dX4_leave_29 : decode cX4_leave 29 = .ok (.iload 4, 2) := by decide +kernel
theorem dX4_leave_31 : decode cX4_leave 31 = .ok (.ifCond .lt 17, 3) := by decide +kernel
theorem dX4_leave_34 : decode cX4_leave 34 = .ok (.iload 4, 2) := by decide +kernel
theorem dX4_leave_36 : decode cX4_leave 36 = .ok (.iload_n 2, 1) := by decide +kernel
theorem dX4_leave_37 : decode cX4_leave 37 = .ok (.if_icmp .lt 6, 3) := by decide +kernel
theorem dX4_leave_40 : decode cX4_leave 40 = .ok (.goto 8, 3) := by decide +kernel
theorem dX4_leave_43 : decode cX4_leave 43 = .ok (.iload_n 3, 1) := by decide +kernel
theorem dX4_leave_44 : decode cX4_leave 44 = .ok (.istore_n 1, 1) := by decide +kernel
theorem dX4_leave_45 : decode cX4_leave 45 = .ok (.iload 4, 2) := by decide +kernel
theorem dX4_leave_47 : decode cX4_leave 47 = .ok (.istore_n 2, 1) := by decide +kernel
theorem dX4_leave_48 : decode cX4_leave 48 = .ok (.iinc 3 1, 3) := by decide +kernel
theorem dX4_leave_51 : decode cX4_leave 51 = .ok (.goto (-43), 3) := by decide +kernel
theorem dX4_leave_54 : decode cX4_leave 54 = .ok (.iload_n 1, 1) := by decide +kernel
theorem dX4_leave_55 : decode cX4_leave 55 = .ok (.ireturn, 1) := by decide +kernel
theorem dX4_tell_0 : decode cX4_tell 0 = .ok (.iload_n 1, 1) := by decide +kernel
theorem dX4_tell_1 : decode cX4_tell 1 = .ok (.invokestatic 153, 3) := by decide +kernel
theorem dX4_tell_4 : decode cX4_tell 4 = .ok (.istore_n 2, 1) := by decide +kernel
theorem dX4_tell_5 : decode cX4_tell 5 = .ok (.iload_n 2, 1) := by decide +kernel
theorem dX4_tell_6 : decode cX4_tell 6 = .ok (.ifCond .eq 9, 3) := by decide +kernel
theorem dX4_tell_9 : decode cX4_tell 9 = .ok (.aload_n 0, 1) := by decide +kernel
theorem dX4_tell_10 : decode cX4_tell 10 = .ok (.iload_n 2, 1) := by decide +kernel
theorem dX4_tell_11 : decode cX4_tell 11 = .ok (.invokevirtual 38, 3) := by decide +kernel
theorem dX4_tell_14 : decode cX4_tell 14 = .ok (.ireturn, 1) := by decide +kernel
theorem dX4_tell_15 : decode cX4_tell 15 = .ok (.aload_n 0, 1) := by decide +kernel
theorem dX4_tell_16 : decode cX4_tell 16 = .ok (.getfield 9, 3) := by decide +kernel
theorem dX4_tell_19 : decode cX4_tell 19 = .ok (.aload_n 0, 1) := by decide +kernel
theorem dX4_tell_20 : decode cX4_tell 20 = .ok (.getfield 13, 3) := by decide +kernel
theorem dX4_tell_23 : decode cX4_tell 23 = .ok (.invokestatic 88, 3) := by decide +kernel
theorem dX4_tell_26 : decode cX4_tell 26 = .ok (.aload_n 0, 1) := by decide +kernel
theorem dX4_tell_27 : decode cX4_tell 27 = .ok (.aload_n 0, 1) := by decide +kernel
theorem dX4_tell_28 : decode cX4_tell 28 = .ok (.getfield 13, 3) := by decide +kernel
theorem dX4_tell_31 : decode cX4_tell 31 = .ok (.iload_n 1, 1) := by decide +kernel
theorem dX4_tell_32 : decode cX4_tell 32 = .ok (.invokevirtual 137, 3) := by decide +kernel
theorem dX4_tell_35 : decode cX4_tell 35 = .ok (.aload_n 0, 1) := by decide +kernel
theorem dX4_tell_36 : decode cX4_tell 36 = .ok (.getfield 13, 3) := by decide +kernel
theorem dX4_tell_39 : decode cX4_tell 39 = .ok (.invokestatic 149, 3) := by decide +kernel
theorem dX4_tell_42 : decode cX4_tell 42 = .ok (.istore_n 3, 1) := by decide +kernel
theorem dX4_tell_43 : decode cX4_tell 43 = .ok (.bipush (-9), 2) := by decide +kernel
theorem dX4_tell_45 : decode cX4_tell 45 = .ok (.istore 4, 2) := by decide +kernel
theorem dX4_tell_47 : decode cX4_tell 47 = .ok (.iconst 0, 1) := by decide +kernel
theorem dX4_tell_48 : decode cX4_tell 48 = .ok (.istore 5, 2) := by decide +kernel
theorem dX4_tell_50 : decode cX4_tell 50 = .ok (.iload 5, 2) := by decide +kernel
theorem dX4_tell_52 : decode cX4_tell 52 = .ok (.aload_n 0, 1) := by decide +kernel
theorem dX4_tell_53 : decode cX4_tell 53 = .ok (.getfield 9, 3) := by decide +kernel
theorem dX4_tell_56 : decode cX4_tell 56 = .ok (.iconst 0, 1) := by decide +kernel
theorem dX4_tell_57 : decode cX4_tell 57 = .ok (.iaload, 1) := by decide +kernel
theorem dX4_tell_58 : decode cX4_tell 58 = .ok (.if_icmp .ge 66, 3) := by decide +kernel
theorem dX4_tell_61 : decode cX4_tell 61 = .ok (.aload_n 0, 1) := by decide +kernel
theorem dX4_tell_62 : decode cX4_tell 62 = .ok (.getfield 9, 3) := by decide +kernel
theorem dX4_tell_65 : decode cX4_tell 65 = .ok (.aload_n 0, 1) := by decide +kernel
theorem dX4_tell_66 : decode cX4_tell 66 = .ok (.getfield 13, 3) := by decide +kernel
theorem dX4_tell_69 : decode cX4_tell 69 = .ok (.invokestatic 88, 3) := by decide +kernel
theorem dX4_tell_72 : decode cX4_tell 72 = .ok (.aload_n 0, 1) := by decide +kernel
theorem dX4_tell_73 : decode cX4_tell 73 = .ok (.getfield 13, 3) := by decide +kernel
theorem dX4_tell_76 : decode cX4_tell 76 = .ok (.iload 5, 2) := by decide +kernel
theorem dX4_tell_78 : decode cX4_tell 78 = .ok (.iconst 0, 1) := by decide +kernel
theorem dX4_tell_79 : decode cX4_tell 79 = .ok (.invokestatic 50, 3) := by decide +kernel
theorem dX4_tell_82 : decode cX4_tell 82 = .ok (.iconst 5, 1) := by decide +kernel
theorem dX4_tell_83 : decode cX4_tell 83 = .ok (.iastore, 1) := by decide +kernel
theorem dX4_tell_84 : decode cX4_tell 84 = .ok (.aload_n 0, 1) := by decide +kernel
theorem dX4_tell_85 : decode cX4_tell 85 = .ok (.aload_n 0, 1) := by decide +kernel
theorem dX4_tell_86 : decode cX4_tell 86 = .ok (.getfield 13, 3) := by decide +kernel
theorem dX4_tell_89 : decode cX4_tell 89 = .ok (.iload_n 1, 1) := by decide +kernel
theorem dX4_tell_90 : decode cX4_tell 90 = .ok (.invokevirtual 137, 3) := by decide +kernel
theorem dX4_tell_93 : decode cX4_tell 93 = .ok (.aload_n 0, 1) := by decide +kernel
theorem dX4_tell_94 : decode cX4_tell 94 = .ok (.getfield 13, 3) := by decide +kernel
theorem dX4_tell_97 : decode cX4_tell 97 = .ok (.invokestatic 149, 3) := by decide +kernel
theorem dX4_tell_100 : decode cX4_tell 100 = .ok (.istore 6, 2) := by decide +kernel
theorem dX4_tell_102 : decode cX4_tell 102 = .ok (.iload 6, 2) := by decide +kernel
theorem dX4_tell_104 : decode cX4_tell 104 = .ok (.iload_n 3, 1) := by decide +kernel
theorem dX4_tell_105 : decode cX4_tell 105 = .ok (.if_icmp .gt 6, 3) := by decide +kernel
theorem dX4_tell_108 : decode cX4_tell 108 = .ok (.goto 10, 3) := by decide +kernel
theorem dX4_tell_111 : decode cX4_tell 111 = .ok (.iload 5, 2) := by decide +kernel
theorem dX4_tell_113 : decode cX4_tell 113 = .ok (.istore 4, 2) := by decide +kernel
theorem dX4_tell_115 : decode cX4_tell 115 = .ok (.iload 6, 2) := by decide +kernel
theorem dX4_tell_117 : decode cX4_tell 117 = .ok (.istore_n 3, 1) := by decide +kernel
theorem dX4_tell_118 : decode cX4_tell 118 = .ok (.iinc 5 1, 3) := by decide +kernel
theorem dX4_tell_121 : decode cX4_tell 121 = .ok (.goto (-71), 3) := by decide +kernel
theorem dX4_tell_124 : decode cX4_tell 124 = .ok (.iload 4, 2) := by decide +kernel
theorem dX4_tell_126 : decode cX4_tell 126 = .ok (.ireturn, 1) := by decide +kernel
theorem dX4_spreads_0 : decode cX4_spreads 0 = .ok (.aload_n 0, 1) := by decide +kernel
theorem dX4_spreads_1 : decode cX4_spreads 1 = .ok (.iload_n 1, 1) := by decide +kernel
theorem dX4_spreads_2 : decode cX4_spreads 2 = .ok (.invokevirtual 131, 3) := by decide +kernel
theorem dX4_spreads_5 : decode cX4_spreads 5 = .ok (.ifCond .eq 11, 3) := by decide +kernel
theorem dX4_spreads_8 : decode cX4_spreads 8 = .ok (.aload_n 0, 1) := by decide +kernel
theorem dX4_spreads_9 : decode cX4_spreads 9 = .ok (.iload_n 2, 1) := by decide +kernel
theorem dX4_spreads_10 : decode cX4_spreads 10 = .ok (.invokevirtual 134, 3) := by decide +kernel
theorem dX4_spreads_13 : decode cX4_spreads 13 = .ok (.ifCond .ne 9, 3) := by decide +kernel
theorem dX4_spreads_16 : decode cX4_spreads 16 = .ok (.aload_n 0, 1) := by decide +kernel
theorem dX4_spreads_17 : decode cX4_spreads 17 = .ok (.iconst (-1), 1) := by decide +kernel
theorem dX4_spreads_18 : decode cX4_spreads 18 = .ok (.invokevirtual 38, 3) := by decide +kernel
theorem dX4_spreads_21 : decode cX4_spreads 21 = .ok (.ireturn, 1) := by decide +kernel
theorem dX4_spreads_22 : decode cX4_spreads 22 = .ok (.aload_n 0, 1) := by decide +kernel
theorem dX4_spreads_23 : decode cX4_spreads 23 = .ok (.getfield 9, 3) := by decide +kernel
theorem dX4_spreads_26 : decode cX4_spreads 26 = .ok (.iload_n 1, 1) := by decide +kernel
theorem dX4_spreads_27 : decode cX4_spreads 27 = .ok (.iload_n 2, 1) := by decide +kernel
theorem dX4_spreads_28 : decode cX4_spreads 28 = .ok (.invokestatic 57, 3) := by decide +kernel
theorem dX4_spreads_31 : decode cX4_spreads 31 = .ok (.iaload, 1) := by decide +kernel
theorem dX4_spreads_32 : decode cX4_spreads 32 = .ok (.ifCond .lt 10, 3) := by decide +kernel
theorem dX4_spreads_35 : decode cX4_spreads 35 = .ok (.aload_n 0, 1) := by decide +kernel
theorem dX4_spreads_36 : decode cX4_spreads 36 = .ok (.bipush (-3), 2) := by decide +kernel
theorem dX4_spreads_38 : decode cX4_spreads 38 = .ok (.invokevirtual 38, 3) := by decide +kernel
theorem dX4_spreads_41 : decode cX4_spreads 41 = .ok (.ireturn, 1) := by decide +kernel
theorem dX4_spreads_42 : decode cX4_spreads 42 = .ok (.aload_n 0, 1) := by decide +kernel
theorem dX4_spreads_43 : decode cX4_spreads 43 = .ok (.getfield 9, 3) := by decide +kernel
theorem dX4_spreads_46 : decode cX4_spreads 46 = .ok (.iload_n 2, 1) := by decide +kernel
theorem dX4_spreads_47 : decode cX4_spreads 47 = .ok (.iconst 3, 1) := by decide +kernel
theorem dX4_spreads_48 : decode cX4_spreads 48 = .ok (.invokestatic 50, 3) := by decide +kernel
theorem dX4_spreads_51 : decode cX4_spreads 51 = .ok (.iaload, 1) := by decide +kernel
theorem dX4_spreads_52 : decode cX4_spreads 52 = .ok (.iconst 1, 1) := by decide +kernel
theorem dX4_spreads_53 : decode cX4_spreads 53 = .ok (.iadd, 1) := by decide +kernel
theorem dX4_spreads_54 : decode cX4_spreads 54 = .ok (.bipush 10, 2) := by decide +kernel
theorem dX4_spreads_56 : decode cX4_spreads 56 = .ok (.irem, 1) := by decide +kernel
theorem dX4_spreads_57 : decode cX4_spreads 57 = .ok (.istore_n 3, 1) := by decide +kernel
theorem dX4_spreads_58 : decode cX4_spreads 58 = .ok (.aload_n 0, 1) := by decide +kernel
theorem dX4_spreads_59 : decode cX4_spreads 59 = .ok (.getfield 9, 3) := by decide +kernel
theorem dX4_spreads_62 : decode cX4_spreads 62 = .ok (.aload_n 0, 1) := by decide +kernel
theorem dX4_spreads_63 : decode cX4_spreads 63 = .ok (.getfield 13, 3) := by decide +kernel
theorem dX4_spreads_66 : decode cX4_spreads 66 = .ok (.invokestatic 88, 3) := by decide +kernel
theorem dX4_spreads_69 : decode cX4_spreads 69 = .ok (.aload_n 0, 1) := by decide +kernel
theorem dX4_spreads_70 : decode cX4_spreads 70 = .ok (.getfield 13, 3) := by decide +kernel
theorem dX4_spreads_73 : decode cX4_spreads 73 = .ok (.iload_n 1, 1) := by decide +kernel
theorem dX4_spreads_74 : decode cX4_spreads 74 = .ok (.iload_n 2, 1) := by decide +kernel
theorem dX4_spreads_75 : decode cX4_spreads 75 = .ok (.invokestatic 57, 3) := by decide +kernel
theorem dX4_spreads_78 : decode cX4_spreads 78 = .ok (.iload_n 3, 1) := by decide +kernel
theorem dX4_spreads_79 : decode cX4_spreads 79 = .ok (.iastore, 1) := by decide +kernel
theorem dX4_spreads_80 : decode cX4_spreads 80 = .ok (.aload_n 0, 1) := by decide +kernel
theorem dX4_spreads_81 : decode cX4_spreads 81 = .ok (.aload_n 0, 1) := by decide +kernel
theorem dX4_spreads_82 : decode cX4_spreads 82 = .ok (.getfield 13, 3) := by decide +kernel
theorem dX4_spreads_85 : decode cX4_spreads 85 = .ok (.bipush 99, 2) := by decide +kernel
theorem dX4_spreads_87 : decode cX4_spreads 87 = .ok (.invokevirtual 137, 3) := by decide +kernel
theorem dX4_spreads_90 : decode cX4_spreads 90 = .ok (.iconst 0, 1) := by decide +kernel
theorem dX4_spreads_91 : decode cX4_spreads 91 = .ok (.istore 4, 2) := by decide +kernel
theorem dX4_spreads_93 : decode cX4_spreads 93 = .ok (.iconst 0, 1) := by decide +kernel
theorem dX4_spreads_94 : decode cX4_spreads 94 = .ok (.istore 5, 2) := by decide +kernel
theorem dX4_spreads_96 : decode cX4_spreads 96 = .ok (.iload 5, 2) := by decide +kernel
theorem dX4_spreads_98 : decode cX4_spreads 98 = .ok (.aload_n 0, 1) := by decide +kernel
theorem dX4_spreads_99 : decode cX4_spreads 99 = .ok (.getfield 9, 3) := by decide +kernel
theorem dX4_spreads_102 : decode cX4_spreads 102 = .ok (.iconst 1, 1) := by decide +kernel
theorem dX4_spreads_103 : decode cX4_spreads 103 = .ok (.iaload, 1) := by decide +kernel
theorem dX4_spreads_104 : decode cX4_spreads 104 = .ok (.if_icmp .ge 34, 3) := by decide +kernel
theorem dX4_spreads_107 : decode cX4_spreads 107 = .ok (.iload 4, 2) := by decide +kernel
theorem dX4_spreads_109 : decode cX4_spreads 109 = .ok (.aload_n 0, 1) := by decide +kernel
theorem dX4_spreads_110 : decode cX4_spreads 110 = .ok (.getfield 13, 3) := by decide +kernel
theorem dX4_spreads_113 : decode cX4_spreads 113 = .ok (.iload 5, 2) := by decide +kernel
theorem dX4_spreads_115 : decode cX4_spreads 115 = .ok (.iload_n 2, 1) := by decide +kernel
theorem dX4_spreads_116 : decode cX4_spreads 116 = .ok (.invokestatic 57, 3) := by decide +kernel
theorem dX4_spreads_119 : decode cX4_spreads 119 = .ok (.iaload, 1) := by decide +kernel
theorem dX4_spreads_120 : decode cX4_spreads 120 = .ok (.iload_n 3, 1) := by decide +kernel
theorem dX4_spreads_121 : decode cX4_spreads 121 = .ok (.if_icmp .ne 7, 3) := by decide +kernel
theorem dX4_spreads_124 : decode cX4_spreads 124 = .ok (.iconst 1, 1) := by decide +kernel
theorem dX4_spreads_125 : decode cX4_spreads 125 = .ok (.goto 4, 3) := by decide +kernel
theorem dX4_spreads_128 : decode cX4_spreads 128 = .ok (.iconst 0, 1) := by decide +kernel
theorem dX4_spreads_129 : decode cX4_spreads 129 = .ok (.iadd, 1) := by decide +kernel
theorem dX4_spreads_130 : decode cX4_spreads 130 = .ok (.istore 4, 2) := by decide +kernel
theorem dX4_spreads_132 : decode cX4_spreads 132 = .ok (.iinc 5 1, 3) := by decide +kernel
theorem dX4_spreads_135 : decode cX4_spreads 135 = .ok (.goto (-39), 3) := by decide +kernel
theorem dX4_spreads_138 : decode cX4_spreads 138 = .ok (.iload 4, 2) := by decide +kernel
theorem dX4_spreads_140 : decode cX4_spreads 140 = .ok (.ireturn, 1) := by decide +kernel
theorem dX4_missing_0 : decode cX4_missing 0 = .ok (.iload_n 1, 1) := by decide +kernel
theorem dX4_missing_1 : decode cX4_missing 1 = .ok (.ifCond .lt 7, 3) := by decide +kernel
theorem dX4_missing_4 : decode cX4_missing 4 = .ok (.iload_n 2, 1) := by decide +kernel
theorem dX4_missing_5 : decode cX4_missing 5 = .ok (.ifCond .ge 10, 3) := by decide +kernel
theorem dX4_missing_8 : decode cX4_missing 8 = .ok (.aload_n 0, 1) := by decide +kernel
theorem dX4_missing_9 : decode cX4_missing 9 = .ok (.bipush (-4), 2) := by decide +kernel
theorem dX4_missing_11 : decode cX4_missing 11 = .ok (.invokevirtual 38, 3) := by decide +kernel
theorem dX4_missing_14 : decode cX4_missing 14 = .ok (.ireturn, 1) := by decide +kernel
theorem dX4_missing_15 : decode cX4_missing 15 = .ok (.iload_n 1, 1) := by decide +kernel
theorem dX4_missing_16 : decode cX4_missing 16 = .ok (.bipush 99, 2) := by decide +kernel
theorem dX4_missing_18 : decode cX4_missing 18 = .ok (.if_icmp .gt 9, 3) := by decide +kernel
theorem dX4_missing_21 : decode cX4_missing 21 = .ok (.iload_n 2, 1) := by decide +kernel
theorem dX4_missing_22 : decode cX4_missing 22 = .ok (.bipush 9, 2) := by decide +kernel
theorem dX4_missing_24 : decode cX4_missing 24 = .ok (.if_icmp .le 10, 3) := by decide +kernel
theorem dX4_missing_27 : decode cX4_missing 27 = .ok (.aload_n 0, 1) := by decide +kernel
theorem dX4_missing_28 : decode cX4_missing 28 = .ok (.bipush (-6), 2) := by decide +kernel
theorem dX4_missing_30 : decode cX4_missing 30 = .ok (.invokevirtual 38, 3) := by decide +kernel
theorem dX4_missing_33 : decode cX4_missing 33 = .ok (.ireturn, 1) := by decide +kernel
theorem dX4_missing_34 : decode cX4_missing 34 = .ok (.aload_n 0, 1) := by decide +kernel
theorem dX4_missing_35 : decode cX4_missing 35 = .ok (.getfield 9, 3) := by decide +kernel
theorem dX4_missing_38 : decode cX4_missing 38 = .ok (.aload_n 0, 1) := by decide +kernel
theorem dX4_missing_39 : decode cX4_missing 39 = .ok (.getfield 13, 3) := by decide +kernel
theorem dX4_missing_42 : decode cX4_missing 42 = .ok (.invokestatic 88, 3) := by decide +kernel
theorem dX4_missing_45 : decode cX4_missing 45 = .ok (.aload_n 0, 1) := by decide +kernel
theorem dX4_missing_46 : decode cX4_missing 46 = .ok (.aload_n 0, 1) := by decide +kernel
theorem dX4_missing_47 : decode cX4_missing 47 = .ok (.getfield 13, 3) := by decide +kernel
theorem dX4_missing_50 : decode cX4_missing 50 = .ok (.iload_n 1, 1) := by decide +kernel
theorem dX4_missing_51 : decode cX4_missing 51 = .ok (.invokevirtual 137, 3) := by decide +kernel
theorem dX4_missing_54 : decode cX4_missing 54 = .ok (.iconst 0, 1) := by decide +kernel
theorem dX4_missing_55 : decode cX4_missing 55 = .ok (.istore_n 3, 1) := by decide +kernel
theorem dX4_missing_56 : decode cX4_missing 56 = .ok (.iconst 0, 1) := by decide +kernel
theorem dX4_missing_57 : decode cX4_missing 57 = .ok (.istore 4, 2) := by decide +kernel
theorem dX4_missing_59 : decode cX4_missing 59 = .ok (.iload 4, 2) := by decide +kernel
theorem dX4_missing_61 : decode cX4_missing 61 = .ok (.aload_n 0, 1) := by decide +kernel
theorem dX4_missing_62 : decode cX4_missing 62 = .ok (.getfield 9, 3) := by decide +kernel
theorem dX4_missing_65 : decode cX4_missing 65 = .ok (.iconst 1, 1) := by decide +kernel
theorem dX4_missing_66 : decode cX4_missing 66 = .ok (.iaload, 1) := by decide +kernel
theorem dX4_missing_67 : decode cX4_missing 67 = .ok (.if_icmp .ge 53, 3) := by decide +kernel
theorem dX4_missing_70 : decode cX4_missing 70 = .ok (.aload_n 0, 1) := by decide +kernel
theorem dX4_missing_71 : decode cX4_missing 71 = .ok (.aload_n 0, 1) := by decide +kernel
theorem dX4_missing_72 : decode cX4_missing 72 = .ok (.getfield 13, 3) := by decide +kernel
theorem dX4_missing_75 : decode cX4_missing 75 = .ok (.aload_n 0, 1) := by decide +kernel
theorem dX4_missing_76 : decode cX4_missing 76 = .ok (.getfield 13, 3) := by decide +kernel
theorem dX4_missing_79 : decode cX4_missing 79 = .ok (.iload 4, 2) := by decide +kernel
theorem dX4_missing_81 : decode cX4_missing 81 = .ok (.iconst 3, 1) := by decide +kernel
theorem dX4_missing_82 : decode cX4_missing 82 = .ok (.invokestatic 54, 3) := by decide +kernel
theorem dX4_missing_85 : decode cX4_missing 85 = .ok (.iaload, 1) := by decide +kernel
theorem dX4_missing_86 : decode cX4_missing 86 = .ok (.iconst 0, 1) := by decide +kernel
theorem dX4_missing_87 : decode cX4_missing 87 = .ok (.invokevirtual 146, 3) := by decide +kernel
theorem dX4_missing_90 : decode cX4_missing 90 = .ok (.istore 5, 2) := by decide +kernel
theorem dX4_missing_92 : decode cX4_missing 92 = .ok (.iload_n 3, 1) := by decide +kernel
theorem dX4_missing_93 : decode cX4_missing 93 = .ok (.iload 5, 2) := by decide +kernel
theorem dX4_missing_95 : decode cX4_missing 95 = .ok (.ifCond .lt 9, 3) := by decide +kernel
theorem dX4_missing_98 : decode cX4_missing 98 = .ok (.iload 5, 2) := by decide +kernel
theorem dX4_missing_100 : decode cX4_missing 100 = .ok (.iload_n 2, 1) := by decide +kernel
theorem dX4_missing_101 : decode cX4_missing 101 = .ok (.if_icmp .le 10, 3) := by decide +kernel
theorem dX4_missing_104 : decode cX4_missing 104 = .ok (.iconst 1, 1) := by decide +kernel
theorem dX4_missing_105 : decode cX4_missing 105 = .ok (.iload 4, 2) := by decide +kernel
theorem dX4_missing_107 : decode cX4_missing 107 = .ok (.ishl, 1) := by decide +kernel
theorem dX4_missing_108 : decode cX4_missing 108 = .ok (.goto 4, 3) := by decide +kernel
theorem dX4_missing_111 : decode cX4_missing 111 = .ok (.iconst 0, 1) := by decide +kernel
theorem dX4_missing_112 : decode cX4_missing 112 = .ok (.ior, 1) := by decide +kernel
theorem dX4_missing_113 : decode cX4_missing 113 = .ok (.istore_n 3, 1) := by decide +kernel
theorem dX4_missing_114 : decode cX4_missing 114 = .ok (.iinc 4 1, 3) := by decide +kernel
theorem dX4_missing_117 : decode cX4_missing 117 = .ok (.goto (-58), 3) := by decide +kernel
theorem dX4_missing_120 : decode cX4_missing 120 = .ok (.iload_n 3, 1) := by decide +kernel
theorem dX4_missing_121 : decode cX4_missing 121 = .ok (.ireturn, 1) := by decide +kernel
theorem dX4_orNever_0 : decode cX4_orNever 0 = .ok (.iload_n 1, 1) := by decide +kernel
theorem dX4_orNever_1 : decode cX4_orNever 1 = .ok (.ifCond .ge 8, 3) := by decide +kernel
theorem dX4_orNever_4 : decode cX4_orNever 4 = .ok (.bipush 100, 2) := by decide +kernel
theorem dX4_orNever_6 : decode cX4_orNever 6 = .ok (.goto 4, 3) := by decide +kernel
theorem dX4_orNever_9 : decode cX4_orNever 9 = .ok (.iload_n 1, 1) := by decide +kernel
theorem dX4_orNever_10 : decode cX4_orNever 10 = .ok (.ireturn, 1) := by decide +kernel
theorem dX4_worth_0 : decode cX4_worth 0 = .ok (.aload_n 0, 1) := by decide +kernel
theorem dX4_worth_1 : decode cX4_worth 1 = .ok (.iload_n 1, 1) := by decide +kernel
theorem dX4_worth_2 : decode cX4_worth 2 = .ok (.invokevirtual 134, 3) := by decide +kernel
theorem dX4_worth_5 : decode cX4_worth 5 = .ok (.ifCond .ne 9, 3) := by decide +kernel
theorem dX4_worth_8 : decode cX4_worth 8 = .ok (.aload_n 0, 1) := by decide +kernel
theorem dX4_worth_9 : decode cX4_worth 9 = .ok (.iconst (-1), 1) := by decide +kernel
theorem dX4_worth_10 : decode cX4_worth 10 = .ok (.invokevirtual 194, 3) := by decide +kernel
theorem dX4_worth_13 : decode cX4_worth 13 = .ok (.ireturn, 1) := by decide +kernel
theorem dX4_worth_14 : decode cX4_worth 14 = .ok (.iconst 0, 1) := by decide +kernel
theorem dX4_worth_15 : decode cX4_worth 15 = .ok (.istore_n 2, 1) := by decide +kernel
theorem dX4_worth_16 : decode cX4_worth 16 = .ok (.iconst 0, 1) := by decide +kernel
theorem dX4_worth_17 : decode cX4_worth 17 = .ok (.istore_n 3, 1) := by decide +kernel
theorem dX4_worth_18 : decode cX4_worth 18 = .ok (.iload_n 3, 1) := by decide +kernel
theorem dX4_worth_19 : decode cX4_worth 19 = .ok (.aload_n 0, 1) := by decide +kernel
theorem dX4_worth_20 : decode cX4_worth 20 = .ok (.getfield 9, 3) := by decide +kernel
theorem dX4_worth_23 : decode cX4_worth 23 = .ok (.iconst 1, 1) := by decide +kernel
theorem dX4_worth_24 : decode cX4_worth 24 = .ok (.iaload, 1) := by decide +kernel
theorem dX4_worth_25 : decode cX4_worth 25 = .ok (.if_icmp .ge 38, 3) := by decide +kernel
theorem dX4_worth_28 : decode cX4_worth 28 = .ok (.iload_n 2, 1) := by decide +kernel
theorem dX4_worth_29 : decode cX4_worth 29 = .ok (.aload_n 0, 1) := by decide +kernel
theorem dX4_worth_30 : decode cX4_worth 30 = .ok (.aload_n 0, 1) := by decide +kernel
theorem dX4_worth_31 : decode cX4_worth 31 = .ok (.iload_n 3, 1) := by decide +kernel
theorem dX4_worth_32 : decode cX4_worth 32 = .ok (.invokevirtual 169, 3) := by decide +kernel
theorem dX4_worth_35 : decode cX4_worth 35 = .ok (.invokevirtual 197, 3) := by decide +kernel
theorem dX4_worth_38 : decode cX4_worth 38 = .ok (.iadd, 1) := by decide +kernel
theorem dX4_worth_39 : decode cX4_worth 39 = .ok (.istore_n 2, 1) := by decide +kernel
theorem dX4_worth_40 : decode cX4_worth 40 = .ok (.aload_n 0, 1) := by decide +kernel
theorem dX4_worth_41 : decode cX4_worth 41 = .ok (.iload_n 1, 1) := by decide +kernel
theorem dX4_worth_42 : decode cX4_worth 42 = .ok (.invokevirtual 191, 3) := by decide +kernel
theorem dX4_worth_45 : decode cX4_worth 45 = .ok (.iload_n 2, 1) := by decide +kernel
theorem dX4_worth_46 : decode cX4_worth 46 = .ok (.aload_n 0, 1) := by decide +kernel
theorem dX4_worth_47 : decode cX4_worth 47 = .ok (.aload_n 0, 1) := by decide +kernel
theorem dX4_worth_48 : decode cX4_worth 48 = .ok (.iload_n 3, 1) := by decide +kernel
theorem dX4_worth_49 : decode cX4_worth 49 = .ok (.invokevirtual 166, 3) := by decide +kernel
theorem dX4_worth_52 : decode cX4_worth 52 = .ok (.invokevirtual 197, 3) := by decide +kernel
theorem dX4_worth_55 : decode cX4_worth 55 = .ok (.isub, 1) := by decide +kernel
theorem dX4_worth_56 : decode cX4_worth 56 = .ok (.istore_n 2, 1) := by decide +kernel
theorem dX4_worth_57 : decode cX4_worth 57 = .ok (.iinc 3 1, 3) := by decide +kernel
theorem dX4_worth_60 : decode cX4_worth 60 = .ok (.goto (-42), 3) := by decide +kernel
theorem dX4_worth_63 : decode cX4_worth 63 = .ok (.iload_n 2, 1) := by decide +kernel
theorem dX4_worth_64 : decode cX4_worth 64 = .ok (.ireturn, 1) := by decide +kernel
theorem dX4_doneBy_0 : decode cX4_doneBy 0 = .ok (.aload_n 0, 1) := by decide +kernel
theorem dX4_doneBy_1 : decode cX4_doneBy 1 = .ok (.getfield 9, 3) := by decide +kernel
theorem dX4_doneBy_4 : decode cX4_doneBy 4 = .ok (.aload_n 0, 1) := by decide +kernel
theorem dX4_doneBy_5 : decode cX4_doneBy 5 = .ok (.getfield 13, 3) := by decide +kernel
theorem dX4_doneBy_8 : decode cX4_doneBy 8 = .ok (.invokestatic 88, 3) := by decide +kernel
theorem dX4_doneBy_11 : decode cX4_doneBy 11 = .ok (.aload_n 0, 1) := by decide +kernel
theorem dX4_doneBy_12 : decode cX4_doneBy 12 = .ok (.getfield 13, 3) := by decide +kernel
theorem dX4_doneBy_15 : decode cX4_doneBy 15 = .ok (.iload_n 2, 1) := by decide +kernel
theorem dX4_doneBy_16 : decode cX4_doneBy 16 = .ok (.iconst 2, 1) := by decide +kernel
theorem dX4_doneBy_17 : decode cX4_doneBy 17 = .ok (.invokestatic 54, 3) := by decide +kernel
theorem dX4_doneBy_20 : decode cX4_doneBy 20 = .ok (.aload_n 0, 1) := by decide +kernel
theorem dX4_doneBy_21 : decode cX4_doneBy 21 = .ok (.getfield 9, 3) := by decide +kernel
theorem dX4_doneBy_24 : decode cX4_doneBy 24 = .ok (.iload_n 2, 1) := by decide +kernel
theorem dX4_doneBy_25 : decode cX4_doneBy 25 = .ok (.iconst 2, 1) := by decide +kernel
theorem dX4_doneBy_26 : decode cX4_doneBy 26 = .ok (.invokestatic 54, 3) := by decide +kernel
theorem dX4_doneBy_29 : decode cX4_doneBy 29 = .ok (.iaload, 1) := by decide +kernel
theorem dX4_doneBy_30 : decode cX4_doneBy 30 = .ok (.iload_n 3, 1) := by decide +kernel
theorem dX4_doneBy_31 : decode cX4_doneBy 31 = .ok (.iadd, 1) := by decide +kernel
theorem dX4_doneBy_32 : decode cX4_doneBy 32 = .ok (.bipush 8, 2) := by decide +kernel
theorem dX4_doneBy_34 : decode cX4_doneBy 34 = .ok (.irem, 1) := by decide +kernel
theorem dX4_doneBy_35 : decode cX4_doneBy 35 = .ok (.iastore, 1) := by decide +kernel
theorem dX4_doneBy_36 : decode cX4_doneBy 36 = .ok (.aload_n 0, 1) := by decide +kernel
theorem dX4_doneBy_37 : decode cX4_doneBy 37 = .ok (.getfield 13, 3) := by decide +kernel
theorem dX4_doneBy_40 : decode cX4_doneBy 40 = .ok (.iload 4, 2) := by decide +kernel
theorem dX4_doneBy_42 : decode cX4_doneBy 42 = .ok (.iconst 2, 1) := by decide +kernel
theorem dX4_doneBy_43 : decode cX4_doneBy 43 = .ok (.invokestatic 54, 3) := by decide +kernel
theorem dX4_doneBy_46 : decode cX4_doneBy 46 = .ok (.aload_n 0, 1) := by decide +kernel
theorem dX4_doneBy_47 : decode cX4_doneBy 47 = .ok (.getfield 9, 3) := by decide +kernel
theorem dX4_doneBy_50 : decode cX4_doneBy 50 = .ok (.iload 4, 2) := by decide +kernel
theorem dX4_doneBy_52 : decode cX4_doneBy 52 = .ok (.iconst 2, 1) := by decide +kernel
theorem dX4_doneBy_53 : decode cX4_doneBy 53 = .ok (.invokestatic 54, 3) := by decide +kernel
theorem dX4_doneBy_56 : decode cX4_doneBy 56 = .ok (.iaload, 1) := by decide +kernel
theorem dX4_doneBy_57 : decode cX4_doneBy 57 = .ok (.iload 5, 2) := by decide +kernel
theorem dX4_doneBy_59 : decode cX4_doneBy 59 = .ok (.iadd, 1) := by decide +kernel
theorem dX4_doneBy_60 : decode cX4_doneBy 60 = .ok (.bipush 8, 2) := by decide +kernel
theorem dX4_doneBy_62 : decode cX4_doneBy 62 = .ok (.irem, 1) := by decide +kernel
theorem dX4_doneBy_63 : decode cX4_doneBy 63 = .ok (.iastore, 1) := by decide +kernel
theorem dX4_doneBy_64 : decode cX4_doneBy 64 = .ok (.aload_n 0, 1) := by decide +kernel
theorem dX4_doneBy_65 : decode cX4_doneBy 65 = .ok (.aload_n 0, 1) := by decide +kernel
theorem dX4_doneBy_66 : decode cX4_doneBy 66 = .ok (.iload_n 1, 1) := by decide +kernel
theorem dX4_doneBy_67 : decode cX4_doneBy 67 = .ok (.invokevirtual 166, 3) := by decide +kernel
theorem dX4_doneBy_70 : decode cX4_doneBy 70 = .ok (.invokevirtual 197, 3) := by decide +kernel
theorem dX4_doneBy_73 : decode cX4_doneBy 73 = .ok (.ireturn, 1) := by decide +kernel
theorem dX4_two_0 : decode cX4_two 0 = .ok (.aload_n 0, 1) := by decide +kernel
theorem dX4_two_1 : decode cX4_two 1 = .ok (.iload_n 1, 1) := by decide +kernel
theorem dX4_two_2 : decode cX4_two 2 = .ok (.invokevirtual 131, 3) := by decide +kernel
theorem dX4_two_5 : decode cX4_two 5 = .ok (.ifCond .eq 16, 3) := by decide +kernel
theorem dX4_two_8 : decode cX4_two 8 = .ok (.aload_n 0, 1) := by decide +kernel
theorem dX4_two_9 : decode cX4_two 9 = .ok (.iload_n 2, 1) := by decide +kernel
theorem dX4_two_10 : decode cX4_two 10 = .ok (.invokevirtual 131, 3) := by decide +kernel
theorem dX4_two_13 : decode cX4_two 13 = .ok (.ifCond .eq 8, 3) := by decide +kernel
theorem dX4_two_16 : decode cX4_two 16 = .ok (.iload_n 1, 1) := by decide +kernel
theorem dX4_two_17 : decode cX4_two 17 = .ok (.iload_n 2, 1) := by decide +kernel
theorem dX4_two_18 : decode cX4_two 18 = .ok (.if_icmp .ne 9, 3) := by decide +kernel
theorem dX4_two_21 : decode cX4_two 21 = .ok (.aload_n 0, 1) := by decide +kernel
theorem dX4_two_22 : decode cX4_two 22 = .ok (.iconst (-1), 1) := by decide +kernel
theorem dX4_two_23 : decode cX4_two 23 = .ok (.invokevirtual 38, 3) := by decide +kernel
theorem dX4_two_26 : decode cX4_two 26 = .ok (.ireturn, 1) := by decide +kernel
theorem dX4_two_27 : decode cX4_two 27 = .ok (.iconst 0, 1) := by decide +kernel
theorem dX4_two_28 : decode cX4_two 28 = .ok (.istore_n 3, 1) := by decide +kernel
theorem dX4_two_29 : decode cX4_two 29 = .ok (.iload_n 3, 1) := by decide +kernel
theorem dX4_two_30 : decode cX4_two 30 = .ok (.iconst 4, 1) := by decide +kernel
theorem dX4_two_31 : decode cX4_two 31 = .ok (.if_icmp .ge 85, 3) := by decide +kernel
theorem dX4_two_34 : decode cX4_two 34 = .ok (.iload_n 3, 1) := by decide +kernel
theorem dX4_two_35 : decode cX4_two 35 = .ok (.iconst 2, 1) := by decide +kernel
theorem dX4_two_36 : decode cX4_two 36 = .ok (.idiv, 1) := by decide +kernel
theorem dX4_two_37 : decode cX4_two 37 = .ok (.istore 4, 2) := by decide +kernel
theorem dX4_two_39 : decode cX4_two 39 = .ok (.iload_n 3, 1) := by decide +kernel
theorem dX4_two_40 : decode cX4_two 40 = .ok (.iconst 2, 1) := by decide +kernel
theorem dX4_two_41 : decode cX4_two 41 = .ok (.irem, 1) := by decide +kernel
theorem dX4_two_42 : decode cX4_two 42 = .ok (.istore 5, 2) := by decide +kernel
theorem dX4_two_44 : decode cX4_two 44 = .ok (.aload_n 0, 1) := by decide +kernel
theorem dX4_two_45 : decode cX4_two 45 = .ok (.iload_n 1, 1) := by decide +kernel
theorem dX4_two_46 : decode cX4_two 46 = .ok (.iload_n 1, 1) := by decide +kernel
theorem dX4_two_47 : decode cX4_two 47 = .ok (.iconst 1, 1) := by decide +kernel
theorem dX4_two_48 : decode cX4_two 48 = .ok (.iload 4, 2) := by decide +kernel
theorem dX4_two_50 : decode cX4_two 50 = .ok (.isub, 1) := by decide +kernel
theorem dX4_two_51 : decode cX4_two 51 = .ok (.iload_n 2, 1) := by decide +kernel
theorem dX4_two_52 : decode cX4_two 52 = .ok (.iload 5, 2) := by decide +kernel
theorem dX4_two_54 : decode cX4_two 54 = .ok (.invokevirtual 200, 3) := by decide +kernel
theorem dX4_two_57 : decode cX4_two 57 = .ok (.aload_n 0, 1) := by decide +kernel
theorem dX4_two_58 : decode cX4_two 58 = .ok (.iload_n 1, 1) := by decide +kernel
theorem dX4_two_59 : decode cX4_two 59 = .ok (.iload_n 1, 1) := by decide +kernel
theorem dX4_two_60 : decode cX4_two 60 = .ok (.iload 4, 2) := by decide +kernel
theorem dX4_two_62 : decode cX4_two 62 = .ok (.iload_n 2, 1) := by decide +kernel
theorem dX4_two_63 : decode cX4_two 63 = .ok (.iload 5, 2) := by decide +kernel
theorem dX4_two_65 : decode cX4_two 65 = .ok (.invokevirtual 200, 3) := by decide +kernel
theorem dX4_two_68 : decode cX4_two 68 = .ok (.if_icmp .ge 6, 3) := by decide +kernel
theorem dX4_two_71 : decode cX4_two 71 = .ok (.goto 39, 3) := by decide +kernel
theorem dX4_two_74 : decode cX4_two 74 = .ok (.aload_n 0, 1) := by decide +kernel
theorem dX4_two_75 : decode cX4_two 75 = .ok (.iload_n 2, 1) := by decide +kernel
theorem dX4_two_76 : decode cX4_two 76 = .ok (.iload_n 1, 1) := by decide +kernel
theorem dX4_two_77 : decode cX4_two 77 = .ok (.iload 4, 2) := by decide +kernel
theorem dX4_two_79 : decode cX4_two 79 = .ok (.iload_n 2, 1) := by decide +kernel
theorem dX4_two_80 : decode cX4_two 80 = .ok (.iconst 1, 1) := by decide +kernel
theorem dX4_two_81 : decode cX4_two 81 = .ok (.iload 5, 2) := by decide +kernel
theorem dX4_two_83 : decode cX4_two 83 = .ok (.isub, 1) := by decide +kernel
theorem dX4_two_84 : decode cX4_two 84 = .ok (.invokevirtual 200, 3) := by decide +kernel
theorem dX4_two_87 : decode cX4_two 87 = .ok (.aload_n 0, 1) := by decide +kernel
theorem dX4_two_88 : decode cX4_two 88 = .ok (.iload_n 2, 1) := by decide +kernel
theorem dX4_two_89 : decode cX4_two 89 = .ok (.iload_n 1, 1) := by decide +kernel
theorem dX4_two_90 : decode cX4_two 90 = .ok (.iload 4, 2) := by decide +kernel
theorem dX4_two_92 : decode cX4_two 92 = .ok (.iload_n 2, 1) := by decide +kernel
theorem dX4_two_93 : decode cX4_two 93 = .ok (.iload 5, 2) := by decide +kernel
theorem dX4_two_95 : decode cX4_two 95 = .ok (.invokevirtual 200, 3) := by decide +kernel
theorem dX4_two_98 : decode cX4_two 98 = .ok (.if_icmp .lt 12, 3) := by decide +kernel
theorem dX4_two_101 : decode cX4_two 101 = .ok (.bipush 10, 2) := by decide +kernel
theorem dX4_two_103 : decode cX4_two 103 = .ok (.iload 4, 2) := by decide +kernel
theorem dX4_two_105 : decode cX4_two 105 = .ok (.imul, 1) := by decide +kernel
theorem dX4_two_106 : decode cX4_two 106 = .ok (.iload 5, 2) := by decide +kernel
theorem dX4_two_108 : decode cX4_two 108 = .ok (.iadd, 1) := by decide +kernel
theorem dX4_two_109 : decode cX4_two 109 = .ok (.ireturn, 1) := by decide +kernel
theorem dX4_two_110 : decode cX4_two 110 = .ok (.iinc 3 1, 3) := by decide +kernel
theorem dX4_two_113 : decode cX4_two 113 = .ok (.goto (-84), 3) := by decide +kernel
theorem dX4_two_116 : decode cX4_two 116 = .ok (.bipush (-9), 2) := by decide +kernel
theorem dX4_two_118 : decode cX4_two 118 = .ok (.ireturn, 1) := by decide +kernel
theorem dX4_newDoor_0 : decode cX4_newDoor 0 = .ok (.aload_n 0, 1) := by decide +kernel
theorem dX4_newDoor_1 : decode cX4_newDoor 1 = .ok (.getfield 9, 3) := by decide +kernel
theorem dX4_newDoor_4 : decode cX4_newDoor 4 = .ok (.aload_n 0, 1) := by decide +kernel
theorem dX4_newDoor_5 : decode cX4_newDoor 5 = .ok (.getfield 13, 3) := by decide +kernel
theorem dX4_newDoor_8 : decode cX4_newDoor 8 = .ok (.invokestatic 88, 3) := by decide +kernel
theorem dX4_newDoor_11 : decode cX4_newDoor 11 = .ok (.aload_n 0, 1) := by decide +kernel
theorem dX4_newDoor_12 : decode cX4_newDoor 12 = .ok (.invokevirtual 172, 3) := by decide +kernel
theorem dX4_newDoor_15 : decode cX4_newDoor 15 = .ok (.istore_n 1, 1) := by decide +kernel
theorem dX4_newDoor_16 : decode cX4_newDoor 16 = .ok (.iload_n 1, 1) := by decide +kernel
theorem dX4_newDoor_17 : decode cX4_newDoor 17 = .ok (.ifCond .ge 8, 3) := by decide +kernel
theorem dX4_newDoor_20 : decode cX4_newDoor 20 = .ok (.ldc 37, 2) := by decide +kernel
theorem dX4_newDoor_22 : decode cX4_newDoor 22 = .ok (.goto 4, 3) := by decide +kernel
theorem dX4_newDoor_25 : decode cX4_newDoor 25 = .ok (.iload_n 1, 1) := by decide +kernel
theorem dX4_newDoor_26 : decode cX4_newDoor 26 = .ok (.istore_n 2, 1) := by decide +kernel
theorem dX4_newDoor_27 : decode cX4_newDoor 27 = .ok (.bipush (-9), 2) := by decide +kernel
theorem dX4_newDoor_29 : decode cX4_newDoor 29 = .ok (.istore_n 3, 1) := by decide +kernel
theorem dX4_newDoor_30 : decode cX4_newDoor 30 = .ok (.iconst 0, 1) := by decide +kernel
theorem dX4_newDoor_31 : decode cX4_newDoor 31 = .ok (.istore 4, 2) := by decide +kernel
theorem dX4_newDoor_33 : decode cX4_newDoor 33 = .ok (.iload 4, 2) := by decide +kernel
theorem dX4_newDoor_35 : decode cX4_newDoor 35 = .ok (.bipush 7, 2) := by decide +kernel
theorem dX4_newDoor_37 : decode cX4_newDoor 37 = .ok (.if_icmp .ge 124, 3) := by decide +kernel
theorem dX4_newDoor_40 : decode cX4_newDoor 40 = .ok (.iload 4, 2) := by decide +kernel
theorem dX4_newDoor_42 : decode cX4_newDoor 42 = .ok (.iconst 1, 1) := by decide +kernel
theorem dX4_newDoor_43 : decode cX4_newDoor 43 = .ok (.iadd, 1) := by decide +kernel
theorem dX4_newDoor_44 : decode cX4_newDoor 44 = .ok (.istore 5, 2) := by decide +kernel
theorem dX4_newDoor_46 : decode cX4_newDoor 46 = .ok (.iload 5, 2) := by decide +kernel
theorem dX4_newDoor_48 : decode cX4_newDoor 48 = .ok (.bipush 7, 2) := by decide +kernel
theorem dX4_newDoor_50 : decode cX4_newDoor 50 = .ok (.if_icmp .ge 105, 3) := by decide +kernel
theorem dX4_newDoor_53 : decode cX4_newDoor 53 = .ok (.aload_n 0, 1) := by decide +kernel
theorem dX4_newDoor_54 : decode cX4_newDoor 54 = .ok (.getfield 9, 3) := by decide +kernel
theorem dX4_newDoor_57 : decode cX4_newDoor 57 = .ok (.iconst 3, 1) := by decide +kernel
theorem dX4_newDoor_58 : decode cX4_newDoor 58 = .ok (.iload 4, 2) := by decide +kernel
theorem dX4_newDoor_60 : decode cX4_newDoor 60 = .ok (.iadd, 1) := by decide +kernel
theorem dX4_newDoor_61 : decode cX4_newDoor 61 = .ok (.iaload, 1) := by decide +kernel
theorem dX4_newDoor_62 : decode cX4_newDoor 62 = .ok (.iload 5, 2) := by decide +kernel
theorem dX4_newDoor_64 : decode cX4_newDoor 64 = .ok (.ishr, 1) := by decide +kernel
theorem dX4_newDoor_65 : decode cX4_newDoor 65 = .ok (.iconst 1, 1) := by decide +kernel
theorem dX4_newDoor_66 : decode cX4_newDoor 66 = .ok (.iand, 1) := by decide +kernel
theorem dX4_newDoor_67 : decode cX4_newDoor 67 = .ok (.iconst 1, 1) := by decide +kernel
theorem dX4_newDoor_68 : decode cX4_newDoor 68 = .ok (.if_icmp .ne 6, 3) := by decide +kernel
theorem dX4_newDoor_71 : decode cX4_newDoor 71 = .ok (.goto 78, 3) := by decide +kernel
theorem dX4_newDoor_74 : decode cX4_newDoor 74 = .ok (.aload_n 0, 1) := by decide +kernel
theorem dX4_newDoor_75 : decode cX4_newDoor 75 = .ok (.getfield 9, 3) := by decide +kernel
theorem dX4_newDoor_78 : decode cX4_newDoor 78 = .ok (.aload_n 0, 1) := by decide +kernel
theorem dX4_newDoor_79 : decode cX4_newDoor 79 = .ok (.getfield 13, 3) := by decide +kernel
theorem dX4_newDoor_82 : decode cX4_newDoor 82 = .ok (.invokestatic 88, 3) := by decide +kernel
theorem dX4_newDoor_85 : decode cX4_newDoor 85 = .ok (.aload_n 0, 1) := by decide +kernel
theorem dX4_newDoor_86 : decode cX4_newDoor 86 = .ok (.getfield 13, 3) := by decide +kernel
theorem dX4_newDoor_89 : decode cX4_newDoor 89 = .ok (.iconst 3, 1) := by decide +kernel
theorem dX4_newDoor_90 : decode cX4_newDoor 90 = .ok (.iload 4, 2) := by decide +kernel
theorem dX4_newDoor_92 : decode cX4_newDoor 92 = .ok (.iadd, 1) := by decide +kernel
theorem dX4_newDoor_93 : decode cX4_newDoor 93 = .ok (.dup2, 1) := by decide +kernel
theorem dX4_newDoor_94 : decode cX4_newDoor 94 = .ok (.iaload, 1) := by decide +kernel
theorem dX4_newDoor_95 : decode cX4_newDoor 95 = .ok (.iconst 1, 1) := by decide +kernel
theorem dX4_newDoor_96 : decode cX4_newDoor 96 = .ok (.iload 5, 2) := by decide +kernel
theorem dX4_newDoor_98 : decode cX4_newDoor 98 = .ok (.ishl, 1) := by decide +kernel
theorem dX4_newDoor_99 : decode cX4_newDoor 99 = .ok (.ior, 1) := by decide +kernel
theorem dX4_newDoor_100 : decode cX4_newDoor 100 = .ok (.iastore, 1) := by decide +kernel
theorem dX4_newDoor_101 : decode cX4_newDoor 101 = .ok (.aload_n 0, 1) := by decide +kernel
theorem dX4_newDoor_102 : decode cX4_newDoor 102 = .ok (.getfield 13, 3) := by decide +kernel
theorem dX4_newDoor_105 : decode cX4_newDoor 105 = .ok (.iconst 3, 1) := by decide +kernel
theorem dX4_newDoor_106 : decode cX4_newDoor 106 = .ok (.iload 5, 2) := by decide +kernel
theorem dX4_newDoor_108 : decode cX4_newDoor 108 = .ok (.iadd, 1) := by decide +kernel
theorem dX4_newDoor_109 : decode cX4_newDoor 109 = .ok (.dup2, 1) := by decide +kernel
theorem dX4_newDoor_110 : decode cX4_newDoor 110 = .ok (.iaload, 1) := by decide +kernel
theorem dX4_newDoor_111 : decode cX4_newDoor 111 = .ok (.iconst 1, 1) := by decide +kernel
theorem dX4_newDoor_112 : decode cX4_newDoor 112 = .ok (.iload 4, 2) := by decide +kernel
theorem dX4_newDoor_114 : decode cX4_newDoor 114 = .ok (.ishl, 1) := by decide +kernel
theorem dX4_newDoor_115 : decode cX4_newDoor 115 = .ok (.ior, 1) := by decide +kernel
theorem dX4_newDoor_116 : decode cX4_newDoor 116 = .ok (.iastore, 1) := by decide +kernel
theorem dX4_newDoor_117 : decode cX4_newDoor 117 = .ok (.aload_n 0, 1) := by decide +kernel
theorem dX4_newDoor_118 : decode cX4_newDoor 118 = .ok (.invokevirtual 172, 3) := by decide +kernel
theorem dX4_newDoor_121 : decode cX4_newDoor 121 = .ok (.istore 6, 2) := by decide +kernel
theorem dX4_newDoor_123 : decode cX4_newDoor 123 = .ok (.iload 6, 2) := by decide +kernel
theorem dX4_newDoor_125 : decode cX4_newDoor 125 = .ok (.ifCond .lt 24, 3) := by decide +kernel
theorem dX4_newDoor_128 : decode cX4_newDoor 128 = .ok (.iload 6, 2) := by decide +kernel
theorem dX4_newDoor_130 : decode cX4_newDoor 130 = .ok (.iload_n 2, 1) := by decide +kernel
theorem dX4_newDoor_131 : decode cX4_newDoor 131 = .ok (.if_icmp .lt 6, 3) := by decide +kernel
theorem dX4_newDoor_134 : decode cX4_newDoor 134 = .ok (.goto 15, 3) := by decide +kernel
theorem dX4_newDoor_137 : decode cX4_newDoor 137 = .ok (.bipush 10, 2) := by decide +kernel
theorem dX4_newDoor_139 : decode cX4_newDoor 139 = .ok (.iload 4, 2) := by decide +kernel
theorem dX4_newDoor_141 : decode cX4_newDoor 141 = .ok (.imul, 1) := by decide +kernel
theorem dX4_newDoor_142 : decode cX4_newDoor 142 = .ok (.iload 5, 2) := by decide +kernel
theorem dX4_newDoor_144 : decode cX4_newDoor 144 = .ok (.iadd, 1) := by decide +kernel
theorem dX4_newDoor_145 : decode cX4_newDoor 145 = .ok (.istore_n 3, 1) := by decide +kernel
theorem dX4_newDoor_146 : decode cX4_newDoor 146 = .ok (.iload 6, 2) := by decide +kernel
theorem dX4_newDoor_148 : decode cX4_newDoor 148 = .ok (.istore_n 2, 1) := by decide +kernel
theorem dX4_newDoor_149 : decode cX4_newDoor 149 = .ok (.iinc 5 1, 3) := by decide +kernel
theorem dX4_newDoor_152 : decode cX4_newDoor 152 = .ok (.goto (-106), 3) := by decide +kernel
theorem dX4_newDoor_155 : decode cX4_newDoor 155 = .ok (.iinc 4 1, 3) := by decide +kernel
theorem dX4_newDoor_158 : decode cX4_newDoor 158 = .ok (.goto (-125), 3) := by decide +kernel
theorem dX4_newDoor_161 : decode cX4_newDoor 161 = .ok (.iload_n 3, 1) := by decide +kernel
theorem dX4_newDoor_162 : decode cX4_newDoor 162 = .ok (.ireturn, 1) := by decide +kernel
theorem dX4_row_0 : decode cX4_row 0 = .ok (.iload_n 1, 1) := by decide +kernel
theorem dX4_row_1 : decode cX4_row 1 = .ok (.ifCond .ge 10, 3) := by decide +kernel
theorem dX4_row_4 : decode cX4_row 4 = .ok (.aload_n 0, 1) := by decide +kernel
theorem dX4_row_5 : decode cX4_row 5 = .ok (.bipush (-4), 2) := by decide +kernel
theorem dX4_row_7 : decode cX4_row 7 = .ok (.invokevirtual 38, 3) := by decide +kernel
theorem dX4_row_10 : decode cX4_row 10 = .ok (.ireturn, 1) := by decide +kernel
theorem dX4_row_11 : decode cX4_row 11 = .ok (.iload_n 1, 1) := by decide +kernel
theorem dX4_row_12 : decode cX4_row 12 = .ok (.bipush 99, 2) := by decide +kernel
theorem dX4_row_14 : decode cX4_row 14 = .ok (.if_icmp .gt 12, 3) := by decide +kernel
theorem dX4_row_17 : decode cX4_row 17 = .ok (.aload_n 0, 1) := by decide +kernel
theorem dX4_row_18 : decode cX4_row 18 = .ok (.getfield 204, 3) := by decide +kernel
theorem dX4_row_21 : decode cX4_row 21 = .ok (.bipush 12, 2) := by decide +kernel
theorem dX4_row_23 : decode cX4_row 23 = .ok (.if_icmp .ne 10, 3) := by decide +kernel
theorem dX4_row_26 : decode cX4_row 26 = .ok (.aload_n 0, 1) := by decide +kernel
theorem dX4_row_27 : decode cX4_row 27 = .ok (.bipush (-6), 2) := by decide +kernel
theorem dX4_row_29 : decode cX4_row 29 = .ok (.invokevirtual 38, 3) := by decide +kernel
theorem dX4_row_32 : decode cX4_row 32 = .ok (.ireturn, 1) := by decide +kernel
theorem dX4_row_33 : decode cX4_row 33 = .ok (.aload_n 0, 1) := by decide +kernel
theorem dX4_row_34 : decode cX4_row 34 = .ok (.getfield 25, 3) := by decide +kernel
theorem dX4_row_37 : decode cX4_row 37 = .ok (.aload_n 0, 1) := by decide +kernel
theorem dX4_row_38 : decode cX4_row 38 = .ok (.getfield 204, 3) := by decide +kernel
theorem dX4_row_41 : decode cX4_row 41 = .ok (.iload_n 1, 1) := by decide +kernel
theorem dX4_row_42 : decode cX4_row 42 = .ok (.iastore, 1) := by decide +kernel
theorem dX4_row_43 : decode cX4_row 43 = .ok (.aload_n 0, 1) := by decide +kernel
theorem dX4_row_44 : decode cX4_row 44 = .ok (.dup, 1) := by decide +kernel
theorem dX4_row_45 : decode cX4_row 45 = .ok (.getfield 204, 3) := by decide +kernel
theorem dX4_row_48 : decode cX4_row 48 = .ok (.iconst 1, 1) := by decide +kernel
theorem dX4_row_49 : decode cX4_row 49 = .ok (.iadd, 1) := by decide +kernel
theorem dX4_row_50 : decode cX4_row 50 = .ok (.putfield 204, 3) := by decide +kernel
theorem dX4_row_53 : decode cX4_row 53 = .ok (.aload_n 0, 1) := by decide +kernel
theorem dX4_row_54 : decode cX4_row 54 = .ok (.getfield 204, 3) := by decide +kernel
theorem dX4_row_57 : decode cX4_row 57 = .ok (.ireturn, 1) := by decide +kernel
theorem dX4_isTold_0 : decode cX4_isTold 0 = .ok (.aload_n 0, 1) := by decide +kernel
theorem dX4_isTold_1 : decode cX4_isTold 1 = .ok (.aload_n 0, 1) := by decide +kernel
theorem dX4_isTold_2 : decode cX4_isTold 2 = .ok (.getfield 13, 3) := by decide +kernel
theorem dX4_isTold_5 : decode cX4_isTold 5 = .ok (.bipush 99, 2) := by decide +kernel
theorem dX4_isTold_7 : decode cX4_isTold 7 = .ok (.invokevirtual 137, 3) := by decide +kernel
theorem dX4_isTold_10 : decode cX4_isTold 10 = .ok (.iconst 0, 1) := by decide +kernel
theorem dX4_isTold_11 : decode cX4_isTold 11 = .ok (.istore_n 2, 1) := by decide +kernel
theorem dX4_isTold_12 : decode cX4_isTold 12 = .ok (.iload_n 2, 1) := by decide +kernel
theorem dX4_isTold_13 : decode cX4_isTold 13 = .ok (.aload_n 0, 1) := by decide +kernel
theorem dX4_isTold_14 : decode cX4_isTold 14 = .ok (.getfield 9, 3) := by decide +kernel
theorem dX4_isTold_17 : decode cX4_isTold 17 = .ok (.iconst 0, 1) := by decide +kernel
theorem dX4_isTold_18 : decode cX4_isTold 18 = .ok (.iaload, 1) := by decide +kernel
theorem dX4_isTold_19 : decode cX4_isTold 19 = .ok (.if_icmp .ge 41, 3) := by decide +kernel
theorem dX4_isTold_22 : decode cX4_isTold 22 = .ok (.aload_n 0, 1) := by decide +kernel
theorem dX4_isTold_23 : decode cX4_isTold 23 = .ok (.getfield 13, 3) := by decide +kernel
theorem dX4_isTold_26 : decode cX4_isTold 26 = .ok (.iload_n 1, 1) := by decide +kernel
theorem dX4_isTold_27 : decode cX4_isTold 27 = .ok (.iload_n 2, 1) := by decide +kernel
theorem dX4_isTold_28 : decode cX4_isTold 28 = .ok (.invokestatic 57, 3) := by decide +kernel
theorem dX4_isTold_31 : decode cX4_isTold 31 = .ok (.iaload, 1) := by decide +kernel
theorem dX4_isTold_32 : decode cX4_isTold 32 = .ok (.istore_n 3, 1) := by decide +kernel
theorem dX4_isTold_33 : decode cX4_isTold 33 = .ok (.iload_n 3, 1) := by decide +kernel
theorem dX4_isTold_34 : decode cX4_isTold 34 = .ok (.ifCond .ge 8, 3) := by decide +kernel
theorem dX4_isTold_37 : decode cX4_isTold 37 = .ok (.bipush 10, 2) := by decide +kernel
theorem dX4_isTold_39 : decode cX4_isTold 39 = .ok (.goto 4, 3) := by decide +kernel
theorem dX4_isTold_42 : decode cX4_isTold 42 = .ok (.iload_n 3, 1) := by decide +kernel
theorem dX4_isTold_43 : decode cX4_isTold 43 = .ok (.aload_n 0, 1) := by decide +kernel
theorem dX4_isTold_44 : decode cX4_isTold 44 = .ok (.getfield 25, 3) := by decide +kernel
theorem dX4_isTold_47 : decode cX4_isTold 47 = .ok (.iload_n 2, 1) := by decide +kernel
theorem dX4_isTold_48 : decode cX4_isTold 48 = .ok (.iaload, 1) := by decide +kernel
theorem dX4_isTold_49 : decode cX4_isTold 49 = .ok (.if_icmp .eq 5, 3) := by decide +kernel
theorem dX4_isTold_52 : decode cX4_isTold 52 = .ok (.iconst 0, 1) := by decide +kernel
theorem dX4_isTold_53 : decode cX4_isTold 53 = .ok (.ireturn, 1) := by decide +kernel
theorem dX4_isTold_54 : decode cX4_isTold 54 = .ok (.iinc 2 1, 3) := by decide +kernel
theorem dX4_isTold_57 : decode cX4_isTold 57 = .ok (.goto (-45), 3) := by decide +kernel
theorem dX4_isTold_60 : decode cX4_isTold 60 = .ok (.iconst 1, 1) := by decide +kernel
theorem dX4_isTold_61 : decode cX4_isTold 61 = .ok (.ireturn, 1) := by decide +kernel
theorem dX4_which_0 : decode cX4_which 0 = .ok (.aload_n 0, 1) := by decide +kernel
theorem dX4_which_1 : decode cX4_which 1 = .ok (.iload_n 1, 1) := by decide +kernel
theorem dX4_which_2 : decode cX4_which 2 = .ok (.invokevirtual 131, 3) := by decide +kernel
theorem dX4_which_5 : decode cX4_which 5 = .ok (.ifCond .eq 11, 3) := by decide +kernel
theorem dX4_which_8 : decode cX4_which 8 = .ok (.aload_n 0, 1) := by decide +kernel
theorem dX4_which_9 : decode cX4_which 9 = .ok (.iload_n 2, 1) := by decide +kernel
theorem dX4_which_10 : decode cX4_which 10 = .ok (.invokevirtual 134, 3) := by decide +kernel
theorem dX4_which_13 : decode cX4_which 13 = .ok (.ifCond .ne 9, 3) := by decide +kernel
theorem dX4_which_16 : decode cX4_which 16 = .ok (.aload_n 0, 1) := by decide +kernel
theorem dX4_which_17 : decode cX4_which 17 = .ok (.iconst (-1), 1) := by decide +kernel
theorem dX4_which_18 : decode cX4_which 18 = .ok (.invokevirtual 38, 3) := by decide +kernel
theorem dX4_which_21 : decode cX4_which 21 = .ok (.ireturn, 1) := by decide +kernel
theorem dX4_which_22 : decode cX4_which 22 = .ok (.iload_n 3, 1) := by decide +kernel
theorem dX4_which_23 : decode cX4_which 23 = .ok (.iconst 0, 1) := by decide +kernel
theorem dX4_which_24 : decode cX4_which 24 = .ok (.iconst 1, 1) := by decide +kernel
theorem dX4_which_25 : decode cX4_which 25 = .ok (.invokestatic 42, 3) := by decide +kernel
theorem dX4_which_28 : decode cX4_which 28 = .ok (.ifCond .ne 10, 3) := by decide +kernel
theorem dX4_which_31 : decode cX4_which 31 = .ok (.aload_n 0, 1) := by decide +kernel
theorem dX4_which_32 : decode cX4_which 32 = .ok (.bipush (-2), 2) := by decide +kernel
theorem dX4_which_34 : decode cX4_which 34 = .ok (.invokevirtual 38, 3) := by decide +kernel
theorem dX4_which_37 : decode cX4_which 37 = .ok (.ireturn, 1) := by decide +kernel
theorem dX4_which_38 : decode cX4_which 38 = .ok (.aload_n 0, 1) := by decide +kernel
theorem dX4_which_39 : decode cX4_which 39 = .ok (.getfield 204, 3) := by decide +kernel
theorem dX4_which_42 : decode cX4_which 42 = .ok (.aload_n 0, 1) := by decide +kernel
theorem dX4_which_43 : decode cX4_which 43 = .ok (.getfield 9, 3) := by decide +kernel
theorem dX4_which_46 : decode cX4_which 46 = .ok (.iconst 0, 1) := by decide +kernel
theorem dX4_which_47 : decode cX4_which 47 = .ok (.iaload, 1) := by decide +kernel
theorem dX4_which_48 : decode cX4_which 48 = .ok (.if_icmp .eq 10, 3) := by decide +kernel
theorem dX4_which_51 : decode cX4_which 51 = .ok (.aload_n 0, 1) := by decide +kernel
theorem dX4_which_52 : decode cX4_which 52 = .ok (.bipush (-3), 2) := by decide +kernel
theorem dX4_which_54 : decode cX4_which 54 = .ok (.invokevirtual 38, 3) := by decide +kernel
theorem dX4_which_57 : decode cX4_which 57 = .ok (.ireturn, 1) := by decide +kernel
theorem dX4_which_58 : decode cX4_which 58 = .ok (.iconst 0, 1) := by decide +kernel
theorem dX4_which_59 : decode cX4_which 59 = .ok (.istore 4, 2) := by decide +kernel
theorem dX4_which_61 : decode cX4_which 61 = .ok (.iconst 0, 1) := by decide +kernel
theorem dX4_which_62 : decode cX4_which 62 = .ok (.istore 5, 2) := by decide +kernel
theorem dX4_which_64 : decode cX4_which 64 = .ok (.iload 5, 2) := by decide +kernel
theorem dX4_which_66 : decode cX4_which 66 = .ok (.iload_n 3, 1) := by decide +kernel
theorem dX4_which_67 : decode cX4_which 67 = .ok (.ifCond .ne 8, 3) := by decide +kernel
theorem dX4_which_70 : decode cX4_which 70 = .ok (.bipush 6, 2) := by decide +kernel
theorem dX4_which_72 : decode cX4_which 72 = .ok (.goto 5, 3) := by decide +kernel
theorem dX4_which_75 : decode cX4_which 75 = .ok (.bipush 10, 2) := by decide +kernel
theorem dX4_which_77 : decode cX4_which 77 = .ok (.if_icmp .ge 65, 3) := by decide +kernel
theorem dX4_which_80 : decode cX4_which 80 = .ok (.aload_n 0, 1) := by decide +kernel
theorem dX4_which_81 : decode cX4_which 81 = .ok (.getfield 9, 3) := by decide +kernel
theorem dX4_which_84 : decode cX4_which 84 = .ok (.aload_n 0, 1) := by decide +kernel
theorem dX4_which_85 : decode cX4_which 85 = .ok (.getfield 13, 3) := by decide +kernel
theorem dX4_which_88 : decode cX4_which 88 = .ok (.invokestatic 88, 3) := by decide +kernel
theorem dX4_which_91 : decode cX4_which 91 = .ok (.aload_n 0, 1) := by decide +kernel
theorem dX4_which_92 : decode cX4_which 92 = .ok (.getfield 13, 3) := by decide +kernel
theorem dX4_which_95 : decode cX4_which 95 = .ok (.iload_n 3, 1) := by decide +kernel
theorem dX4_which_96 : decode cX4_which 96 = .ok (.ifCond .ne 11, 3) := by decide +kernel
theorem dX4_which_99 : decode cX4_which 99 = .ok (.iload_n 2, 1) := by decide +kernel
theorem dX4_which_100 : decode cX4_which 100 = .ok (.iconst 0, 1) := by decide +kernel
theorem dX4_which_101 : decode cX4_which 101 = .ok (.invokestatic 50, 3) := by decide +kernel
theorem dX4_which_104 : decode cX4_which 104 = .ok (.goto 8, 3) := by decide +kernel
theorem dX4_which_107 : decode cX4_which 107 = .ok (.iload_n 1, 1) := by decide +kernel
theorem dX4_which_108 : decode cX4_which 108 = .ok (.iconst 1, 1) := by decide +kernel
theorem dX4_which_109 : decode cX4_which 109 = .ok (.invokestatic 54, 3) := by decide +kernel
theorem dX4_which_112 : decode cX4_which 112 = .ok (.iload 5, 2) := by decide +kernel
theorem dX4_which_114 : decode cX4_which 114 = .ok (.iastore, 1) := by decide +kernel
theorem dX4_which_115 : decode cX4_which 115 = .ok (.iload 4, 2) := by decide +kernel
theorem dX4_which_117 : decode cX4_which 117 = .ok (.aload_n 0, 1) := by decide +kernel
theorem dX4_which_118 : decode cX4_which 118 = .ok (.iload_n 1, 1) := by decide +kernel
theorem dX4_which_119 : decode cX4_which 119 = .ok (.invokevirtual 207, 3) := by decide +kernel
theorem dX4_which_122 : decode cX4_which 122 = .ok (.ifCond .eq 10, 3) := by decide +kernel
theorem dX4_which_125 : decode cX4_which 125 = .ok (.iconst 1, 1) := by decide +kernel
theorem dX4_which_126 : decode cX4_which 126 = .ok (.iload 5, 2) := by decide +kernel
theorem dX4_which_128 : decode cX4_which 128 = .ok (.ishl, 1) := by decide +kernel
theorem dX4_which_129 : decode cX4_which 129 = .ok (.goto 4, 3) := by decide +kernel
theorem dX4_which_132 : decode cX4_which 132 = .ok (.iconst 0, 1) := by decide +kernel
theorem dX4_which_133 : decode cX4_which 133 = .ok (.ior, 1) := by decide +kernel
theorem dX4_which_134 : decode cX4_which 134 = .ok (.istore 4, 2) := by decide +kernel
theorem dX4_which_136 : decode cX4_which 136 = .ok (.iinc 5 1, 3) := by decide +kernel
theorem dX4_which_139 : decode cX4_which 139 = .ok (.goto (-75), 3) := by decide +kernel
theorem dX4_which_142 : decode cX4_which 142 = .ok (.iload 4, 2) := by decide +kernel
theorem dX4_which_144 : decode cX4_which 144 = .ok (.ireturn, 1) := by decide +kernel
theorem dX4_judge_0 : decode cX4_judge 0 = .ok (.aload_n 0, 1) := by decide +kernel
theorem dX4_judge_1 : decode cX4_judge 1 = .ok (.iload_n 1, 1) := by decide +kernel
theorem dX4_judge_2 : decode cX4_judge 2 = .ok (.invokevirtual 131, 3) := by decide +kernel
theorem dX4_judge_5 : decode cX4_judge 5 = .ok (.ifCond .ne 9, 3) := by decide +kernel
theorem dX4_judge_8 : decode cX4_judge 8 = .ok (.aload_n 0, 1) := by decide +kernel
theorem dX4_judge_9 : decode cX4_judge 9 = .ok (.iconst (-1), 1) := by decide +kernel
theorem dX4_judge_10 : decode cX4_judge 10 = .ok (.invokevirtual 38, 3) := by decide +kernel
theorem dX4_judge_13 : decode cX4_judge 13 = .ok (.ireturn, 1) := by decide +kernel
theorem dX4_judge_14 : decode cX4_judge 14 = .ok (.aload_n 0, 1) := by decide +kernel
theorem dX4_judge_15 : decode cX4_judge 15 = .ok (.getfield 204, 3) := by decide +kernel
theorem dX4_judge_18 : decode cX4_judge 18 = .ok (.istore_n 2, 1) := by decide +kernel
theorem dX4_judge_19 : decode cX4_judge 19 = .ok (.aload_n 0, 1) := by decide +kernel
theorem dX4_judge_20 : decode cX4_judge 20 = .ok (.iconst 0, 1) := by decide +kernel
theorem dX4_judge_21 : decode cX4_judge 21 = .ok (.putfield 204, 3) := by decide +kernel
theorem dX4_judge_24 : decode cX4_judge 24 = .ok (.aload_n 0, 1) := by decide +kernel
theorem dX4_judge_25 : decode cX4_judge 25 = .ok (.getfield 9, 3) := by decide +kernel
theorem dX4_judge_28 : decode cX4_judge 28 = .ok (.aload_n 0, 1) := by decide +kernel
theorem dX4_judge_29 : decode cX4_judge 29 = .ok (.getfield 13, 3) := by decide +kernel
theorem dX4_judge_32 : decode cX4_judge 32 = .ok (.invokestatic 88, 3) := by decide +kernel
theorem dX4_judge_35 : decode cX4_judge 35 = .ok (.iconst 0, 1) := by decide +kernel
theorem dX4_judge_36 : decode cX4_judge 36 = .ok (.istore_n 3, 1) := by decide +kernel
theorem dX4_judge_37 : decode cX4_judge 37 = .ok (.iload_n 3, 1) := by decide +kernel
theorem dX4_judge_38 : decode cX4_judge 38 = .ok (.iload_n 2, 1) := by decide +kernel
theorem dX4_judge_39 : decode cX4_judge 39 = .ok (.if_icmp .ge 36, 3) := by decide +kernel
theorem dX4_judge_42 : decode cX4_judge 42 = .ok (.aload_n 0, 1) := by decide +kernel
theorem dX4_judge_43 : decode cX4_judge 43 = .ok (.getfield 13, 3) := by decide +kernel
theorem dX4_judge_46 : decode cX4_judge 46 = .ok (.iload_n 1, 1) := by decide +kernel
theorem dX4_judge_47 : decode cX4_judge 47 = .ok (.invokestatic 95, 3) := by decide +kernel
theorem dX4_judge_50 : decode cX4_judge 50 = .ok (.aload_n 0, 1) := by decide +kernel
theorem dX4_judge_51 : decode cX4_judge 51 = .ok (.getfield 25, 3) := by decide +kernel
theorem dX4_judge_54 : decode cX4_judge 54 = .ok (.iload_n 3, 1) := by decide +kernel
theorem dX4_judge_55 : decode cX4_judge 55 = .ok (.iaload, 1) := by decide +kernel
theorem dX4_judge_56 : decode cX4_judge 56 = .ok (.if_icmp .eq 5, 3) := by decide +kernel
theorem dX4_judge_59 : decode cX4_judge 59 = .ok (.iload_n 3, 1) := by decide +kernel
theorem dX4_judge_60 : decode cX4_judge 60 = .ok (.ireturn, 1) := by decide +kernel
theorem dX4_judge_61 : decode cX4_judge 61 = .ok (.aload_n 0, 1) := by decide +kernel
theorem dX4_judge_62 : decode cX4_judge 62 = .ok (.aload_n 0, 1) := by decide +kernel
theorem dX4_judge_63 : decode cX4_judge 63 = .ok (.getfield 13, 3) := by decide +kernel
theorem dX4_judge_66 : decode cX4_judge 66 = .ok (.invokevirtual 84, 3) := by decide +kernel
theorem dX4_judge_69 : decode cX4_judge 69 = .ok (.iinc 3 1, 3) := by decide +kernel
theorem dX4_judge_72 : decode cX4_judge 72 = .ok (.goto (-35), 3) := by decide +kernel
theorem dX4_judge_75 : decode cX4_judge 75 = .ok (.bipush (-9), 2) := by decide +kernel
theorem dX4_judge_77 : decode cX4_judge 77 = .ok (.ireturn, 1) := by decide +kernel
theorem dX4_clear_0 : decode cX4_clear 0 = .ok (.aload_n 0, 1) := by decide +kernel
theorem dX4_clear_1 : decode cX4_clear 1 = .ok (.getfield 204, 3) := by decide +kernel
theorem dX4_clear_4 : decode cX4_clear 4 = .ok (.istore_n 1, 1) := by decide +kernel
theorem dX4_clear_5 : decode cX4_clear 5 = .ok (.aload_n 0, 1) := by decide +kernel
theorem dX4_clear_6 : decode cX4_clear 6 = .ok (.iconst 0, 1) := by decide +kernel
theorem dX4_clear_7 : decode cX4_clear 7 = .ok (.putfield 204, 3) := by decide +kernel
theorem dX4_clear_10 : decode cX4_clear 10 = .ok (.iload_n 1, 1) := by decide +kernel
theorem dX4_clear_11 : decode cX4_clear 11 = .ok (.ireturn, 1) := by decide +kernel
theorem dX4_drawn_0 : decode cX4_drawn 0 = .ok (.aload_n 0, 1) := by decide +kernel
theorem dX4_drawn_1 : decode cX4_drawn 1 = .ok (.aload_n 0, 1) := by decide +kernel
theorem dX4_drawn_2 : decode cX4_drawn 2 = .ok (.getfield 210, 3) := by decide +kernel
theorem dX4_drawn_5 : decode cX4_drawn 5 = .ok (.ldc 213, 2) := by decide +kernel
theorem dX4_drawn_7 : decode cX4_drawn 7 = .ok (.imul, 1) := by decide +kernel
theorem dX4_drawn_8 : decode cX4_drawn 8 = .ok (.ldc 214, 2) := by decide +kernel
theorem dX4_drawn_10 : decode cX4_drawn 10 = .ok (.iadd, 1) := by decide +kernel
theorem dX4_drawn_11 : decode cX4_drawn 11 = .ok (.putfield 210, 3) := by decide +kernel
theorem dX4_drawn_14 : decode cX4_drawn 14 = .ok (.aload_n 0, 1) := by decide +kernel
theorem dX4_drawn_15 : decode cX4_drawn 15 = .ok (.getfield 210, 3) := by decide +kernel
theorem dX4_drawn_18 : decode cX4_drawn 18 = .ok (.ldc 215, 2) := by decide +kernel
theorem dX4_drawn_20 : decode cX4_drawn 20 = .ok (.iand, 1) := by decide +kernel
theorem dX4_drawn_21 : decode cX4_drawn 21 = .ok (.sipush 256, 3) := by decide +kernel
theorem dX4_drawn_24 : decode cX4_drawn 24 = .ok (.idiv, 1) := by decide +kernel
theorem dX4_drawn_25 : decode cX4_drawn 25 = .ok (.iload_n 1, 1) := by decide +kernel
theorem dX4_drawn_26 : decode cX4_drawn 26 = .ok (.irem, 1) := by decide +kernel
theorem dX4_drawn_27 : decode cX4_drawn 27 = .ok (.ireturn, 1) := by decide +kernel
theorem dX4_lots_0 : decode cX4_lots 0 = .ok (.iload_n 1, 1) := by decide +kernel
theorem dX4_lots_1 : decode cX4_lots 1 = .ok (.iconst 1, 1) := by decide +kernel
theorem dX4_lots_2 : decode cX4_lots 2 = .ok (.if_icmp .ge 10, 3) := by decide +kernel
theorem dX4_lots_5 : decode cX4_lots 5 = .ok (.aload_n 0, 1) := by decide +kernel
theorem dX4_lots_6 : decode cX4_lots 6 = .ok (.bipush (-4), 2) := by decide +kernel
theorem dX4_lots_8 : decode cX4_lots 8 = .ok (.invokevirtual 38, 3) := by decide +kernel
theorem dX4_lots_11 : decode cX4_lots 11 = .ok (.ireturn, 1) := by decide +kernel
theorem dX4_lots_12 : decode cX4_lots 12 = .ok (.iload_n 1, 1) := by decide +kernel
theorem dX4_lots_13 : decode cX4_lots 13 = .ok (.bipush 20, 2) := by decide +kernel
theorem dX4_lots_15 : decode cX4_lots 15 = .ok (.if_icmp .le 10, 3) := by decide +kernel
theorem dX4_lots_18 : decode cX4_lots 18 = .ok (.aload_n 0, 1) := by decide +kernel
theorem dX4_lots_19 : decode cX4_lots 19 = .ok (.bipush (-6), 2) := by decide +kernel
theorem dX4_lots_21 : decode cX4_lots 21 = .ok (.invokevirtual 38, 3) := by decide +kernel
theorem dX4_lots_24 : decode cX4_lots 24 = .ok (.ireturn, 1) := by decide +kernel
theorem dX4_lots_25 : decode cX4_lots 25 = .ok (.iload_n 3, 1) := by decide +kernel
theorem dX4_lots_26 : decode cX4_lots 26 = .ok (.iconst 0, 1) := by decide +kernel
theorem dX4_lots_27 : decode cX4_lots 27 = .ok (.iconst 1, 1) := by decide +kernel
theorem dX4_lots_28 : decode cX4_lots 28 = .ok (.invokestatic 42, 3) := by decide +kernel
theorem dX4_lots_31 : decode cX4_lots 31 = .ok (.ifCond .ne 10, 3) := by decide +kernel
theorem dX4_lots_34 : decode cX4_lots 34 = .ok (.aload_n 0, 1) := by decide +kernel
theorem dX4_lots_35 : decode cX4_lots 35 = .ok (.bipush (-2), 2) := by decide +kernel
theorem dX4_lots_37 : decode cX4_lots 37 = .ok (.invokevirtual 38, 3) := by decide +kernel
theorem dX4_lots_40 : decode cX4_lots 40 = .ok (.ireturn, 1) := by decide +kernel
theorem dX4_lots_41 : decode cX4_lots 41 = .ok (.aload_n 0, 1) := by decide +kernel
theorem dX4_lots_42 : decode cX4_lots 42 = .ok (.iload_n 2, 1) := by decide +kernel
theorem dX4_lots_43 : decode cX4_lots 43 = .ok (.putfield 210, 3) := by decide +kernel
theorem dX4_lots_46 : decode cX4_lots 46 = .ok (.iconst 0, 1) := by decide +kernel
theorem dX4_lots_47 : decode cX4_lots 47 = .ok (.istore 4, 2) := by decide +kernel
theorem dX4_lots_49 : decode cX4_lots 49 = .ok (.iconst 0, 1) := by decide +kernel
theorem dX4_lots_50 : decode cX4_lots 50 = .ok (.istore 5, 2) := by decide +kernel
theorem dX4_lots_52 : decode cX4_lots 52 = .ok (.iload 5, 2) := by decide +kernel
theorem dX4_lots_54 : decode cX4_lots 54 = .ok (.iload_n 1, 1) := by decide +kernel
theorem dX4_lots_55 : decode cX4_lots 55 = .ok (.if_icmp .ge 136, 3) := by decide +kernel
theorem dX4_lots_58 : decode cX4_lots 58 = .ok (.aload_n 0, 1) := by decide +kernel
theorem dX4_lots_59 : decode cX4_lots 59 = .ok (.invokevirtual 156, 3) := by decide +kernel
theorem dX4_lots_62 : decode cX4_lots 62 = .ok (.iconst 0, 1) := by decide +kernel
theorem dX4_lots_63 : decode cX4_lots 63 = .ok (.istore 6, 2) := by decide +kernel
theorem dX4_lots_65 : decode cX4_lots 65 = .ok (.iload 6, 2) := by decide +kernel
theorem dX4_lots_67 : decode cX4_lots 67 = .ok (.aload_n 0, 1) := by decide +kernel
theorem dX4_lots_68 : decode cX4_lots 68 = .ok (.getfield 13, 3) := by decide +kernel
theorem dX4_lots_71 : decode cX4_lots 71 = .ok (.iconst 1, 1) := by decide +kernel
theorem dX4_lots_72 : decode cX4_lots 72 = .ok (.iaload, 1) := by decide +kernel
theorem dX4_lots_73 : decode cX4_lots 73 = .ok (.if_icmp .ge 43, 3) := by decide +kernel
theorem dX4_lots_76 : decode cX4_lots 76 = .ok (.aload_n 0, 1) := by decide +kernel
theorem dX4_lots_77 : decode cX4_lots 77 = .ok (.getfield 13, 3) := by decide +kernel
theorem dX4_lots_80 : decode cX4_lots 80 = .ok (.iload 6, 2) := by decide +kernel
theorem dX4_lots_82 : decode cX4_lots 82 = .ok (.iconst 3, 1) := by decide +kernel
theorem dX4_lots_83 : decode cX4_lots 83 = .ok (.invokestatic 54, 3) := by decide +kernel
theorem dX4_lots_86 : decode cX4_lots 86 = .ok (.aload_n 0, 1) := by decide +kernel
theorem dX4_lots_87 : decode cX4_lots 87 = .ok (.bipush 7, 2) := by decide +kernel
theorem dX4_lots_89 : decode cX4_lots 89 = .ok (.invokevirtual 216, 3) := by decide +kernel
theorem dX4_lots_92 : decode cX4_lots 92 = .ok (.iastore, 1) := by decide +kernel
theorem dX4_lots_93 : decode cX4_lots 93 = .ok (.aload_n 0, 1) := by decide +kernel
theorem dX4_lots_94 : decode cX4_lots 94 = .ok (.getfield 13, 3) := by decide +kernel
theorem dX4_lots_97 : decode cX4_lots 97 = .ok (.iload 6, 2) := by decide +kernel
theorem dX4_lots_99 : decode cX4_lots 99 = .ok (.iconst 2, 1) := by decide +kernel
theorem dX4_lots_100 : decode cX4_lots 100 = .ok (.invokestatic 54, 3) := by decide +kernel
theorem dX4_lots_103 : decode cX4_lots 103 = .ok (.aload_n 0, 1) := by decide +kernel
theorem dX4_lots_104 : decode cX4_lots 104 = .ok (.bipush 8, 2) := by decide +kernel
theorem dX4_lots_106 : decode cX4_lots 106 = .ok (.invokevirtual 216, 3) := by decide +kernel
theorem dX4_lots_109 : decode cX4_lots 109 = .ok (.iastore, 1) := by decide +kernel
theorem dX4_lots_110 : decode cX4_lots 110 = .ok (.iinc 6 1, 3) := by decide +kernel
theorem dX4_lots_113 : decode cX4_lots 113 = .ok (.goto (-48), 3) := by decide +kernel
theorem dX4_lots_116 : decode cX4_lots 116 = .ok (.aload_n 0, 1) := by decide +kernel
theorem dX4_lots_117 : decode cX4_lots 117 = .ok (.aload_n 0, 1) := by decide +kernel
theorem dX4_lots_118 : decode cX4_lots 118 = .ok (.getfield 13, 3) := by decide +kernel
theorem dX4_lots_121 : decode cX4_lots 121 = .ok (.bipush 30, 2) := by decide +kernel
theorem dX4_lots_123 : decode cX4_lots 123 = .ok (.invokevirtual 137, 3) := by decide +kernel
theorem dX4_lots_126 : decode cX4_lots 126 = .ok (.iload 4, 2) := by decide +kernel
theorem dX4_lots_128 : decode cX4_lots 128 = .ok (.iload_n 3, 1) := by decide +kernel
theorem dX4_lots_129 : decode cX4_lots 129 = .ok (.ifCond .ne 13, 3) := by decide +kernel
theorem dX4_lots_132 : decode cX4_lots 132 = .ok (.aload_n 0, 1) := by decide +kernel
theorem dX4_lots_133 : decode cX4_lots 133 = .ok (.getfield 13, 3) := by decide +kernel
theorem dX4_lots_136 : decode cX4_lots 136 = .ok (.invokestatic 149, 3) := by decide +kernel
theorem dX4_lots_139 : decode cX4_lots 139 = .ok (.goto 4, 3) := by decide +kernel
theorem dX4_lots_142 : decode cX4_lots 142 = .ok (.iconst 0, 1) := by decide +kernel
theorem dX4_lots_143 : decode cX4_lots 143 = .ok (.iadd, 1) := by decide +kernel
theorem dX4_lots_144 : decode cX4_lots 144 = .ok (.istore 4, 2) := by decide +kernel
theorem dX4_lots_146 : decode cX4_lots 146 = .ok (.iconst 0, 1) := by decide +kernel
theorem dX4_lots_147 : decode cX4_lots 147 = .ok (.istore 6, 2) := by decide +kernel
theorem dX4_lots_149 : decode cX4_lots 149 = .ok (.iload 6, 2) := by decide +kernel
theorem dX4_lots_151 : decode cX4_lots 151 = .ok (.aload_n 0, 1) := by decide +kernel
theorem dX4_lots_152 : decode cX4_lots 152 = .ok (.getfield 13, 3) := by decide +kernel
theorem dX4_lots_155 : decode cX4_lots 155 = .ok (.iconst 1, 1) := by decide +kernel
theorem dX4_lots_156 : decode cX4_lots 156 = .ok (.iaload, 1) := by decide +kernel
theorem dX4_lots_157 : decode cX4_lots 157 = .ok (.if_icmp .ge 28, 3) := by decide +kernel
theorem dX4_lots_160 : decode cX4_lots 160 = .ok (.iload_n 3, 1) := by decide +kernel
theorem dX4_lots_161 : decode cX4_lots 161 = .ok (.iconst 1, 1) := by decide +kernel
theorem dX4_lots_162 : decode cX4_lots 162 = .ok (.if_icmp .ne 23, 3) := by decide +kernel
theorem dX4_lots_165 : decode cX4_lots 165 = .ok (.iload 4, 2) := by decide +kernel
theorem dX4_lots_167 : decode cX4_lots 167 = .ok (.aload_n 0, 1) := by decide +kernel
theorem dX4_lots_168 : decode cX4_lots 168 = .ok (.getfield 13, 3) := by decide +kernel
theorem dX4_lots_171 : decode cX4_lots 171 = .ok (.iload 6, 2) := by decide +kernel
theorem dX4_lots_173 : decode cX4_lots 173 = .ok (.invokestatic 159, 3) := by decide +kernel
theorem dX4_lots_176 : decode cX4_lots 176 = .ok (.iadd, 1) := by decide +kernel
theorem dX4_lots_177 : decode cX4_lots 177 = .ok (.istore 4, 2) := by decide +kernel
theorem dX4_lots_179 : decode cX4_lots 179 = .ok (.iinc 6 1, 3) := by decide +kernel
theorem dX4_lots_182 : decode cX4_lots 182 = .ok (.goto (-33), 3) := by decide +kernel
theorem dX4_lots_185 : decode cX4_lots 185 = .ok (.iinc 5 1, 3) := by decide +kernel
theorem dX4_lots_188 : decode cX4_lots 188 = .ok (.goto (-136), 3) := by decide +kernel
theorem dX4_lots_191 : decode cX4_lots 191 = .ok (.iload 4, 2) := by decide +kernel
theorem dX4_lots_193 : decode cX4_lots 193 = .ok (.ireturn, 1) := by decide +kernel
theorem dX4_image_0 : decode cX4_image 0 = .ok (.aload_n 0, 1) := by decide +kernel
theorem dX4_image_1 : decode cX4_image 1 = .ok (.getfield 9, 3) := by decide +kernel
theorem dX4_image_4 : decode cX4_image 4 = .ok (.aload_n 0, 1) := by decide +kernel
theorem dX4_image_5 : decode cX4_image 5 = .ok (.getfield 16, 3) := by decide +kernel
theorem dX4_image_8 : decode cX4_image 8 = .ok (.invokestatic 88, 3) := by decide +kernel
theorem dX4_image_11 : decode cX4_image 11 = .ok (.aload_n 0, 1) := by decide +kernel
theorem dX4_image_12 : decode cX4_image 12 = .ok (.iconst 1, 1) := by decide +kernel
theorem dX4_image_13 : decode cX4_image 13 = .ok (.putfield 219, 3) := by decide +kernel
theorem dX4_image_16 : decode cX4_image 16 = .ok (.aload_n 0, 1) := by decide +kernel
theorem dX4_image_17 : decode cX4_image 17 = .ok (.getfield 9, 3) := by decide +kernel
theorem dX4_image_20 : decode cX4_image 20 = .ok (.iconst 2, 1) := by decide +kernel
theorem dX4_image_21 : decode cX4_image 21 = .ok (.iaload, 1) := by decide +kernel
theorem dX4_image_22 : decode cX4_image 22 = .ok (.ireturn, 1) := by decide +kernel
theorem dX4_on_0 : decode cX4_on 0 = .ok (.aload_n 0, 1) := by decide +kernel
theorem dX4_on_1 : decode cX4_on 1 = .ok (.getfield 219, 3) := by decide +kernel
theorem dX4_on_4 : decode cX4_on 4 = .ok (.ifCond .ne 10, 3) := by decide +kernel
theorem dX4_on_7 : decode cX4_on 7 = .ok (.aload_n 0, 1) := by decide +kernel
theorem dX4_on_8 : decode cX4_on 8 = .ok (.bipush (-3), 2) := by decide +kernel
theorem dX4_on_10 : decode cX4_on 10 = .ok (.invokevirtual 38, 3) := by decide +kernel
theorem dX4_on_13 : decode cX4_on 13 = .ok (.ireturn, 1) := by decide +kernel
theorem dX4_on_14 : decode cX4_on 14 = .ok (.aload_n 0, 1) := by decide +kernel
theorem dX4_on_15 : decode cX4_on 15 = .ok (.getfield 16, 3) := by decide +kernel
theorem dX4_on_18 : decode cX4_on 18 = .ok (.aload_n 0, 1) := by decide +kernel
theorem dX4_on_19 : decode cX4_on 19 = .ok (.getfield 9, 3) := by decide +kernel
theorem dX4_on_22 : decode cX4_on 22 = .ok (.invokestatic 88, 3) := by decide +kernel
theorem dX4_on_25 : decode cX4_on 25 = .ok (.aload_n 0, 1) := by decide +kernel
theorem dX4_on_26 : decode cX4_on 26 = .ok (.getfield 9, 3) := by decide +kernel
theorem dX4_on_29 : decode cX4_on 29 = .ok (.iconst 2, 1) := by decide +kernel
theorem dX4_on_30 : decode cX4_on 30 = .ok (.iaload, 1) := by decide +kernel
theorem dX4_on_31 : decode cX4_on 31 = .ok (.ireturn, 1) := by decide +kernel
theorem dX4_count_0 : decode cX4_count 0 = .ok (.iload_n 1, 1) := by decide +kernel
theorem dX4_count_1 : decode cX4_count 1 = .ok (.bipush 11, 2) := by decide +kernel
theorem dX4_count_3 : decode cX4_count 3 = .ok (.bipush 16, 2) := by decide +kernel
theorem dX4_count_5 : decode cX4_count 5 = .ok (.invokestatic 42, 3) := by decide +kernel
theorem dX4_count_8 : decode cX4_count 8 = .ok (.ifCond .eq 13, 3) := by decide +kernel
theorem dX4_count_11 : decode cX4_count 11 = .ok (.aload_n 0, 1) := by decide +kernel
theorem dX4_count_12 : decode cX4_count 12 = .ok (.getfield 28, 3) := by decide +kernel
theorem dX4_count_15 : decode cX4_count 15 = .ok (.iload_n 1, 1) := by decide +kernel
theorem dX4_count_16 : decode cX4_count 16 = .ok (.bipush 10, 2) := by decide +kernel
theorem dX4_count_18 : decode cX4_count 18 = .ok (.isub, 1) := by decide +kernel
theorem dX4_count_19 : decode cX4_count 19 = .ok (.iaload, 1) := by decide +kernel
theorem dX4_count_20 : decode cX4_count 20 = .ok (.ireturn, 1) := by decide +kernel
theorem dX4_count_21 : decode cX4_count 21 = .ok (.iconst 0, 1) := by decide +kernel
theorem dX4_count_22 : decode cX4_count 22 = .ok (.istore_n 2, 1) := by decide +kernel
theorem dX4_count_23 : decode cX4_count 23 = .ok (.iload_n 1, 1) := by decide +kernel
theorem dX4_count_24 : decode cX4_count 24 = .ok (.tableswitch 168 0 7 #[48, 55, 62, 112, 119, 150, 158, 163], 48) := by decide +kernel
theorem dX4_count_72 : decode cX4_count 72 = .ok (.aload_n 0, 1) := by decide +kernel
theorem dX4_count_73 : decode cX4_count 73 = .ok (.getfield 9, 3) := by decide +kernel
theorem dX4_count_76 : decode cX4_count 76 = .ok (.iconst 0, 1) := by decide +kernel
theorem dX4_count_77 : decode cX4_count 77 = .ok (.iaload, 1) := by decide +kernel
theorem dX4_count_78 : decode cX4_count 78 = .ok (.ireturn, 1) := by decide +kernel
theorem dX4_count_79 : decode cX4_count 79 = .ok (.aload_n 0, 1) := by decide +kernel
theorem dX4_count_80 : decode cX4_count 80 = .ok (.getfield 9, 3) := by decide +kernel
theorem dX4_count_83 : decode cX4_count 83 = .ok (.iconst 1, 1) := by decide +kernel
theorem dX4_count_84 : decode cX4_count 84 = .ok (.iaload, 1) := by decide +kernel
theorem dX4_count_85 : decode cX4_count 85 = .ok (.ireturn, 1) := by decide +kernel
theorem dX4_count_86 : decode cX4_count 86 = .ok (.iconst 0, 1) := by decide +kernel
theorem dX4_count_87 : decode cX4_count 87 = .ok (.istore_n 3, 1) := by decide +kernel
theorem dX4_count_88 : decode cX4_count 88 = .ok (.iload_n 3, 1) := by decide +kernel
theorem dX4_count_89 : decode cX4_count 89 = .ok (.bipush 7, 2) := by decide +kernel
theorem dX4_count_91 : decode cX4_count 91 = .ok (.if_icmp .ge 43, 3) := by decide +kernel
theorem dX4_count_94 : decode cX4_count 94 = .ok (.iload_n 3, 1) := by decide +kernel
theorem dX4_count_95 : decode cX4_count 95 = .ok (.iconst 1, 1) := by decide +kernel
theorem dX4_count_96 : decode cX4_count 96 = .ok (.iadd, 1) := by decide +kernel
theorem dX4_count_97 : decode cX4_count 97 = .ok (.istore 4, 2) := by decide +kernel
theorem dX4_count_99 : decode cX4_count 99 = .ok (.iload 4, 2) := by decide +kernel
theorem dX4_count_101 : decode cX4_count 101 = .ok (.bipush 7, 2) := by decide +kernel
theorem dX4_count_103 : decode cX4_count 103 = .ok (.if_icmp .ge 25, 3) := by decide +kernel
theorem dX4_count_106 : decode cX4_count 106 = .ok (.iload_n 2, 1) := by decide +kernel
theorem dX4_count_107 : decode cX4_count 107 = .ok (.aload_n 0, 1) := by decide +kernel
theorem dX4_count_108 : decode cX4_count 108 = .ok (.getfield 9, 3) := by decide +kernel
theorem dX4_count_111 : decode cX4_count 111 = .ok (.iconst 3, 1) := by decide +kernel
theorem dX4_count_112 : decode cX4_count 112 = .ok (.iload_n 3, 1) := by decide +kernel
theorem dX4_count_113 : decode cX4_count 113 = .ok (.iadd, 1) := by decide +kernel
theorem dX4_count_114 : decode cX4_count 114 = .ok (.iaload, 1) := by decide +kernel
theorem dX4_count_115 : decode cX4_count 115 = .ok (.iload 4, 2) := by decide +kernel
theorem dX4_count_117 : decode cX4_count 117 = .ok (.ishr, 1) := by decide +kernel
theorem dX4_count_118 : decode cX4_count 118 = .ok (.iconst 1, 1) := by decide +kernel
theorem dX4_count_119 : decode cX4_count 119 = .ok (.iand, 1) := by decide +kernel
theorem dX4_count_120 : decode cX4_count 120 = .ok (.iadd, 1) := by decide +kernel
theorem dX4_count_121 : decode cX4_count 121 = .ok (.istore_n 2, 1) := by decide +kernel
theorem dX4_count_122 : decode cX4_count 122 = .ok (.iinc 4 1, 3) := by decide +kernel
theorem dX4_count_125 : decode cX4_count 125 = .ok (.goto (-26), 3) := by decide +kernel
theorem dX4_count_128 : decode cX4_count 128 = .ok (.iinc 3 1, 3) := by decide +kernel
theorem dX4_count_131 : decode cX4_count 131 = .ok (.goto (-43), 3) := by decide +kernel
theorem dX4_count_134 : decode cX4_count 134 = .ok (.iload_n 2, 1) := by decide +kernel
theorem dX4_count_135 : decode cX4_count 135 = .ok (.ireturn, 1) := by decide +kernel
theorem dX4_count_136 : decode cX4_count 136 = .ok (.aload_n 0, 1) := by decide +kernel
theorem dX4_count_137 : decode cX4_count 137 = .ok (.getfield 9, 3) := by decide +kernel
theorem dX4_count_140 : decode cX4_count 140 = .ok (.iconst 2, 1) := by decide +kernel
theorem dX4_count_141 : decode cX4_count 141 = .ok (.iaload, 1) := by decide +kernel
theorem dX4_count_142 : decode cX4_count 142 = .ok (.ireturn, 1) := by decide +kernel
theorem dX4_count_143 : decode cX4_count 143 = .ok (.iconst 0, 1) := by decide +kernel
theorem dX4_count_144 : decode cX4_count 144 = .ok (.istore_n 3, 1) := by decide +kernel
theorem dX4_count_145 : decode cX4_count 145 = .ok (.iload_n 3, 1) := by decide +kernel
theorem dX4_count_146 : decode cX4_count 146 = .ok (.aload_n 0, 1) := by decide +kernel
theorem dX4_count_147 : decode cX4_count 147 = .ok (.getfield 9, 3) := by decide +kernel
theorem dX4_count_150 : decode cX4_count 150 = .ok (.iconst 1, 1) := by decide +kernel
theorem dX4_count_151 : decode cX4_count 151 = .ok (.iaload, 1) := by decide +kernel
theorem dX4_count_152 : decode cX4_count 152 = .ok (.if_icmp .ge 20, 3) := by decide +kernel
theorem dX4_count_155 : decode cX4_count 155 = .ok (.iload_n 2, 1) := by decide +kernel
theorem dX4_count_156 : decode cX4_count 156 = .ok (.aload_n 0, 1) := by decide +kernel
theorem dX4_count_157 : decode cX4_count 157 = .ok (.getfield 9, 3) := by decide +kernel
theorem dX4_count_160 : decode cX4_count 160 = .ok (.iload_n 3, 1) := by decide +kernel
theorem dX4_count_161 : decode cX4_count 161 = .ok (.invokestatic 95, 3) := by decide +kernel
theorem dX4_count_164 : decode cX4_count 164 = .ok (.iadd, 1) := by decide +kernel
theorem dX4_count_165 : decode cX4_count 165 = .ok (.istore_n 2, 1) := by decide +kernel
theorem dX4_count_166 : decode cX4_count 166 = .ok (.iinc 3 1, 3) := by decide +kernel
theorem dX4_count_169 : decode cX4_count 169 = .ok (.goto (-24), 3) := by decide +kernel
theorem dX4_count_172 : decode cX4_count 172 = .ok (.iload_n 2, 1) := by decide +kernel
theorem dX4_count_173 : decode cX4_count 173 = .ok (.ireturn, 1) := by decide +kernel
theorem dX4_count_174 : decode cX4_count 174 = .ok (.aload_n 0, 1) := by decide +kernel
theorem dX4_count_175 : decode cX4_count 175 = .ok (.getfield 9, 3) := by decide +kernel
theorem dX4_count_178 : decode cX4_count 178 = .ok (.invokestatic 149, 3) := by decide +kernel
theorem dX4_count_181 : decode cX4_count 181 = .ok (.ireturn, 1) := by decide +kernel
theorem dX4_count_182 : decode cX4_count 182 = .ok (.aload_n 0, 1) := by decide +kernel
theorem dX4_count_183 : decode cX4_count 183 = .ok (.getfield 204, 3) := by decide +kernel
theorem dX4_count_186 : decode cX4_count 186 = .ok (.ireturn, 1) := by decide +kernel
theorem dX4_count_187 : decode cX4_count 187 = .ok (.aload_n 0, 1) := by decide +kernel
theorem dX4_count_188 : decode cX4_count 188 = .ok (.getfield 102, 3) := by decide +kernel
theorem dX4_count_191 : decode cX4_count 191 = .ok (.ireturn, 1) := by decide +kernel
theorem dX4_count_192 : decode cX4_count 192 = .ok (.bipush (-9), 2) := by decide +kernel
theorem dX4_count_194 : decode cX4_count 194 = .ok (.ireturn, 1) := by decide +kernel
end
section
theorem dL_law_0 : decode cL_law 0 = .ok (.new 7, 3) := by decide +kernel
theorem dL_law_3 : decode cL_law 3 = .ok (.dup, 1) := by decide +kernel
theorem dL_law_4 : decode cL_law 4 = .ok (.invokespecial 9, 3) := by decide +kernel
theorem dL_law_7 : decode cL_law 7 = .ok (.astore_n 1, 1) := by decide +kernel
theorem dL_law_8 : decode cL_law 8 = .ok (.new 10, 3) := by decide +kernel
theorem dL_law_11 : decode cL_law 11 = .ok (.dup, 1) := by decide +kernel
theorem dL_law_12 : decode cL_law 12 = .ok (.invokespecial 12, 3) := by decide +kernel
theorem dL_law_15 : decode cL_law 15 = .ok (.astore_n 2, 1) := by decide +kernel
theorem dL_law_16 : decode cL_law 16 = .ok (.iconst 0, 1) := by decide +kernel
theorem dL_law_17 : decode cL_law 17 = .ok (.istore_n 3, 1) := by decide +kernel
theorem dL_law_18 : decode cL_law 18 = .ok (.iload_n 3, 1) := by decide +kernel
theorem dL_law_19 : decode cL_law 19 = .ok (.aload_n 0, 1) := by decide +kernel
theorem dL_law_20 : decode cL_law 20 = .ok (.arraylength, 1) := by decide +kernel
theorem dL_law_21 : decode cL_law 21 = .ok (.iconst 4, 1) := by decide +kernel
theorem dL_law_22 : decode cL_law 22 = .ok (.isub, 1) := by decide +kernel
theorem dL_law_23 : decode cL_law 23 = .ok (.if_icmp .gt 1109, 3) := by decide +kernel
theorem dL_law_26 : decode cL_law 26 = .ok (.aload_n 0, 1) := by decide +kernel
theorem dL_law_27 : decode cL_law 27 = .ok (.iload_n 3, 1) := by decide +kernel
theorem dL_law_28 : decode cL_law 28 = .ok (.iaload, 1) := by decide +kernel
theorem dL_law_29 : decode cL_law 29 = .ok (.bipush 63, 2) := by decide +kernel
theorem dL_law_31 : decode cL_law 31 = .ok (.iand, 1) := by decide +kernel
theorem dL_law_32 : decode cL_law 32 = .ok (.tableswitch 1094 0 33 #[152, 175, 188, 221, 254, 287, 320, 353, 386, 419, 462, 485, 528, 551, 574, 617, 650, 673, 706, 729, 742, 765, 798, 831, 854, 887, 900, 943, 966, 989, 1002, 1045, 1058, 1071], 152) := by decide +kernel
theorem dL_law_184 : decode cL_law 184 = .ok (.aload_n 1, 1) := by decide +kernel
theorem dL_law_185 : decode cL_law 185 = .ok (.aload_n 0, 1) := by decide +kernel
theorem dL_law_186 : decode cL_law 186 = .ok (.iload_n 3, 1) := by decide +kernel
theorem dL_law_187 : decode cL_law 187 = .ok (.iconst 1, 1) := by decide +kernel
theorem dL_law_188 : decode cL_law 188 = .ok (.iadd, 1) := by decide +kernel
theorem dL_law_189 : decode cL_law 189 = .ok (.iaload, 1) := by decide +kernel
theorem dL_law_190 : decode cL_law 190 = .ok (.invokevirtual 13, 3) := by decide +kernel
theorem dL_law_193 : decode cL_law 193 = .ok (.aload_n 2, 1) := by decide +kernel
theorem dL_law_194 : decode cL_law 194 = .ok (.aload_n 0, 1) := by decide +kernel
theorem dL_law_195 : decode cL_law 195 = .ok (.iload_n 3, 1) := by decide +kernel
theorem dL_law_196 : decode cL_law 196 = .ok (.iconst 1, 1) := by decide +kernel
theorem dL_law_197 : decode cL_law 197 = .ok (.iadd, 1) := by decide +kernel
theorem dL_law_198 : decode cL_law 198 = .ok (.iaload, 1) := by decide +kernel
theorem dL_law_199 : decode cL_law 199 = .ok (.invokevirtual 17, 3) := by decide +kernel
theorem dL_law_202 : decode cL_law 202 = .ok (.if_icmp .eq 924, 3) := by decide +kernel
theorem dL_law_205 : decode cL_law 205 = .ok (.iconst 0, 1) := by decide +kernel
theorem dL_law_206 : decode cL_law 206 = .ok (.ireturn, 1) := by decide +kernel
theorem dL_law_207 : decode cL_law 207 = .ok (.aload_n 1, 1) := by decide +kernel
theorem dL_law_208 : decode cL_law 208 = .ok (.invokevirtual 18, 3) := by decide +kernel
theorem dL_law_211 : decode cL_law 211 = .ok (.aload_n 2, 1) := by decide +kernel
theorem dL_law_212 : decode cL_law 212 = .ok (.invokevirtual 22, 3) := by decide +kernel
theorem dL_law_215 : decode cL_law 215 = .ok (.if_icmp .eq 911, 3) := by decide +kernel
theorem dL_law_218 : decode cL_law 218 = .ok (.iconst 0, 1) := by decide +kernel
theorem dL_law_219 : decode cL_law 219 = .ok (.ireturn, 1) := by decide +kernel
theorem dL_law_220 : decode cL_law 220 = .ok (.aload_n 1, 1) := by decide +kernel
theorem dL_law_221 : decode cL_law 221 = .ok (.aload_n 0, 1) := by decide +kernel
theorem dL_law_222 : decode cL_law 222 = .ok (.iload_n 3, 1) := by decide +kernel
theorem dL_law_223 : decode cL_law 223 = .ok (.iconst 1, 1) := by decide +kernel
theorem dL_law_224 : decode cL_law 224 = .ok (.iadd, 1) := by decide +kernel
theorem dL_law_225 : decode cL_law 225 = .ok (.iaload, 1) := by decide +kernel
theorem dL_law_226 : decode cL_law 226 = .ok (.aload_n 0, 1) := by decide +kernel
theorem dL_law_227 : decode cL_law 227 = .ok (.iload_n 3, 1) := by decide +kernel
theorem dL_law_228 : decode cL_law 228 = .ok (.iconst 2, 1) := by decide +kernel
theorem dL_law_229 : decode cL_law 229 = .ok (.iadd, 1) := by decide +kernel
theorem dL_law_230 : decode cL_law 230 = .ok (.iaload, 1) := by decide +kernel
theorem dL_law_231 : decode cL_law 231 = .ok (.invokevirtual 23, 3) := by decide +kernel
theorem dL_law_234 : decode cL_law 234 = .ok (.aload_n 2, 1) := by decide +kernel
theorem dL_law_235 : decode cL_law 235 = .ok (.aload_n 0, 1) := by decide +kernel
theorem dL_law_236 : decode cL_law 236 = .ok (.iload_n 3, 1) := by decide +kernel
theorem dL_law_237 : decode cL_law 237 = .ok (.iconst 1, 1) := by decide +kernel
theorem dL_law_238 : decode cL_law 238 = .ok (.iadd, 1) := by decide +kernel
theorem dL_law_239 : decode cL_law 239 = .ok (.iaload, 1) := by decide +kernel
theorem dL_law_240 : decode cL_law 240 = .ok (.aload_n 0, 1) := by decide +kernel
theorem dL_law_241 : decode cL_law 241 = .ok (.iload_n 3, 1) := by decide +kernel
theorem dL_law_242 : decode cL_law 242 = .ok (.iconst 2, 1) := by decide +kernel
theorem dL_law_243 : decode cL_law 243 = .ok (.iadd, 1) := by decide +kernel
theorem dL_law_244 : decode cL_law 244 = .ok (.iaload, 1) := by decide +kernel
theorem dL_law_245 : decode cL_law 245 = .ok (.invokevirtual 27, 3) := by decide +kernel
theorem dL_law_248 : decode cL_law 248 = .ok (.if_icmp .eq 878, 3) := by decide +kernel
theorem dL_law_251 : decode cL_law 251 = .ok (.iconst 0, 1) := by decide +kernel
theorem dL_law_252 : decode cL_law 252 = .ok (.ireturn, 1) := by decide +kernel
theorem dL_law_253 : decode cL_law 253 = .ok (.aload_n 1, 1) := by decide +kernel
theorem dL_law_254 : decode cL_law 254 = .ok (.aload_n 0, 1) := by decide +kernel
theorem dL_law_255 : decode cL_law 255 = .ok (.iload_n 3, 1) := by decide +kernel
theorem dL_law_256 : decode cL_law 256 = .ok (.iconst 1, 1) := by decide +kernel
theorem dL_law_257 : decode cL_law 257 = .ok (.iadd, 1) := by decide +kernel
theorem dL_law_258 : decode cL_law 258 = .ok (.iaload, 1) := by decide +kernel
theorem dL_law_259 : decode cL_law 259 = .ok (.aload_n 0, 1) := by decide +kernel
theorem dL_law_260 : decode cL_law 260 = .ok (.iload_n 3, 1) := by decide +kernel
theorem dL_law_261 : decode cL_law 261 = .ok (.iconst 2, 1) := by decide +kernel
theorem dL_law_262 : decode cL_law 262 = .ok (.iadd, 1) := by decide +kernel
theorem dL_law_263 : decode cL_law 263 = .ok (.iaload, 1) := by decide +kernel
theorem dL_law_264 : decode cL_law 264 = .ok (.invokevirtual 28, 3) := by decide +kernel
theorem dL_law_267 : decode cL_law 267 = .ok (.aload_n 2, 1) := by decide +kernel
theorem dL_law_268 : decode cL_law 268 = .ok (.aload_n 0, 1) := by decide +kernel
theorem dL_law_269 : decode cL_law 269 = .ok (.iload_n 3, 1) := by decide +kernel
theorem dL_law_270 : decode cL_law 270 = .ok (.iconst 1, 1) := by decide +kernel
theorem dL_law_271 : decode cL_law 271 = .ok (.iadd, 1) := by decide +kernel
theorem dL_law_272 : decode cL_law 272 = .ok (.iaload, 1) := by decide +kernel
theorem dL_law_273 : decode cL_law 273 = .ok (.aload_n 0, 1) := by decide +kernel
theorem dL_law_274 : decode cL_law 274 = .ok (.iload_n 3, 1) := by decide +kernel
theorem dL_law_275 : decode cL_law 275 = .ok (.iconst 2, 1) := by decide +kernel
theorem dL_law_276 : decode cL_law 276 = .ok (.iadd, 1) := by decide +kernel
theorem dL_law_277 : decode cL_law 277 = .ok (.iaload, 1) := by decide +kernel
theorem dL_law_278 : decode cL_law 278 = .ok (.invokevirtual 31, 3) := by decide +kernel
theorem dL_law_281 : decode cL_law 281 = .ok (.if_icmp .eq 845, 3) := by decide +kernel
theorem dL_law_284 : decode cL_law 284 = .ok (.iconst 0, 1) := by decide +kernel
theorem dL_law_285 : decode cL_law 285 = .ok (.ireturn, 1) := by decide +kernel
theorem dL_law_286 : decode cL_law 286 = .ok (.aload_n 1, 1) := by decide +kernel
theorem dL_law_287 : decode cL_law 287 = .ok (.aload_n 0, 1) := by decide +kernel
theorem dL_law_288 : decode cL_law 288 = .ok (.iload_n 3, 1) := by decide +kernel
theorem dL_law_289 : decode cL_law 289 = .ok (.iconst 1, 1) := by decide +kernel
theorem dL_law_290 : decode cL_law 290 = .ok (.iadd, 1) := by decide +kernel
theorem dL_law_291 : decode cL_law 291 = .ok (.iaload, 1) := by decide +kernel
theorem dL_law_292 : decode cL_law 292 = .ok (.aload_n 0, 1) := by decide +kernel
theorem dL_law_293 : decode cL_law 293 = .ok (.iload_n 3, 1) := by decide +kernel
theorem dL_law_294 : decode cL_law 294 = .ok (.iconst 2, 1) := by decide +kernel
theorem dL_law_295 : decode cL_law 295 = .ok (.iadd, 1) := by decide +kernel
theorem dL_law_296 : decode cL_law 296 = .ok (.iaload, 1) := by decide +kernel
theorem dL_law_297 : decode cL_law 297 = .ok (.invokevirtual 32, 3) := by decide +kernel
theorem dL_law_300 : decode cL_law 300 = .ok (.aload_n 2, 1) := by decide +kernel
theorem dL_law_301 : decode cL_law 301 = .ok (.aload_n 0, 1) := by decide +kernel
theorem dL_law_302 : decode cL_law 302 = .ok (.iload_n 3, 1) := by decide +kernel
theorem dL_law_303 : decode cL_law 303 = .ok (.iconst 1, 1) := by decide +kernel
theorem dL_law_304 : decode cL_law 304 = .ok (.iadd, 1) := by decide +kernel
theorem dL_law_305 : decode cL_law 305 = .ok (.iaload, 1) := by decide +kernel
theorem dL_law_306 : decode cL_law 306 = .ok (.aload_n 0, 1) := by decide +kernel
theorem dL_law_307 : decode cL_law 307 = .ok (.iload_n 3, 1) := by decide +kernel
theorem dL_law_308 : decode cL_law 308 = .ok (.iconst 2, 1) := by decide +kernel
theorem dL_law_309 : decode cL_law 309 = .ok (.iadd, 1) := by decide +kernel
theorem dL_law_310 : decode cL_law 310 = .ok (.iaload, 1) := by decide +kernel
theorem dL_law_311 : decode cL_law 311 = .ok (.invokevirtual 35, 3) := by decide +kernel
theorem dL_law_314 : decode cL_law 314 = .ok (.if_icmp .eq 812, 3) := by decide +kernel
theorem dL_law_317 : decode cL_law 317 = .ok (.iconst 0, 1) := by decide +kernel
theorem dL_law_318 : decode cL_law 318 = .ok (.ireturn, 1) := by decide +kernel
theorem dL_law_319 : decode cL_law 319 = .ok (.aload_n 1, 1) := by decide +kernel
theorem dL_law_320 : decode cL_law 320 = .ok (.aload_n 0, 1) := by decide +kernel
theorem dL_law_321 : decode cL_law 321 = .ok (.iload_n 3, 1) := by decide +kernel
theorem dL_law_322 : decode cL_law 322 = .ok (.iconst 1, 1) := by decide +kernel
theorem dL_law_323 : decode cL_law 323 = .ok (.iadd, 1) := by decide +kernel
theorem dL_law_324 : decode cL_law 324 = .ok (.iaload, 1) := by decide +kernel
theorem dL_law_325 : decode cL_law 325 = .ok (.aload_n 0, 1) := by decide +kernel
theorem dL_law_326 : decode cL_law 326 = .ok (.iload_n 3, 1) := by decide +kernel
theorem dL_law_327 : decode cL_law 327 = .ok (.iconst 2, 1) := by decide +kernel
theorem dL_law_328 : decode cL_law 328 = .ok (.iadd, 1) := by decide +kernel
theorem dL_law_329 : decode cL_law 329 = .ok (.iaload, 1) := by decide +kernel
theorem dL_law_330 : decode cL_law 330 = .ok (.invokevirtual 36, 3) := by decide +kernel
theorem dL_law_333 : decode cL_law 333 = .ok (.aload_n 2, 1) := by decide +kernel
theorem dL_law_334 : decode cL_law 334 = .ok (.aload_n 0, 1) := by decide +kernel
theorem dL_law_335 : decode cL_law 335 = .ok (.iload_n 3, 1) := by decide +kernel
theorem dL_law_336 : decode cL_law 336 = .ok (.iconst 1, 1) := by decide +kernel
theorem dL_law_337 : decode cL_law 337 = .ok (.iadd, 1) := by decide +kernel
theorem dL_law_338 : decode cL_law 338 = .ok (.iaload, 1) := by decide +kernel
theorem dL_law_339 : decode cL_law 339 = .ok (.aload_n 0, 1) := by decide +kernel
theorem dL_law_340 : decode cL_law 340 = .ok (.iload_n 3, 1) := by decide +kernel
theorem dL_law_341 : decode cL_law 341 = .ok (.iconst 2, 1) := by decide +kernel
theorem dL_law_342 : decode cL_law 342 = .ok (.iadd, 1) := by decide +kernel
theorem dL_law_343 : decode cL_law 343 = .ok (.iaload, 1) := by decide +kernel
theorem dL_law_344 : decode cL_law 344 = .ok (.invokevirtual 39, 3) := by decide +kernel
theorem dL_law_347 : decode cL_law 347 = .ok (.if_icmp .eq 779, 3) := by decide +kernel
theorem dL_law_350 : decode cL_law 350 = .ok (.iconst 0, 1) := by decide +kernel
theorem dL_law_351 : decode cL_law 351 = .ok (.ireturn, 1) := by decide +kernel
theorem dL_law_352 : decode cL_law 352 = .ok (.aload_n 1, 1) := by decide +kernel
theorem dL_law_353 : decode cL_law 353 = .ok (.aload_n 0, 1) := by decide +kernel
theorem dL_law_354 : decode cL_law 354 = .ok (.iload_n 3, 1) := by decide +kernel
theorem dL_law_355 : decode cL_law 355 = .ok (.iconst 1, 1) := by decide +kernel
theorem dL_law_356 : decode cL_law 356 = .ok (.iadd, 1) := by decide +kernel
theorem dL_law_357 : decode cL_law 357 = .ok (.iaload, 1) := by decide +kernel
theorem dL_law_358 : decode cL_law 358 = .ok (.aload_n 0, 1) := by decide +kernel
theorem dL_law_359 : decode cL_law 359 = .ok (.iload_n 3, 1) := by decide +kernel
theorem dL_law_360 : decode cL_law 360 = .ok (.iconst 2, 1) := by decide +kernel
theorem dL_law_361 : decode cL_law 361 = .ok (.iadd, 1) := by decide +kernel
theorem dL_law_362 : decode cL_law 362 = .ok (.iaload, 1) := by decide +kernel
theorem dL_law_363 : decode cL_law 363 = .ok (.invokevirtual 40, 3) := by decide +kernel
theorem dL_law_366 : decode cL_law 366 = .ok (.aload_n 2, 1) := by decide +kernel
theorem dL_law_367 : decode cL_law 367 = .ok (.aload_n 0, 1) := by decide +kernel
theorem dL_law_368 : decode cL_law 368 = .ok (.iload_n 3, 1) := by decide +kernel
theorem dL_law_369 : decode cL_law 369 = .ok (.iconst 1, 1) := by decide +kernel
theorem dL_law_370 : decode cL_law 370 = .ok (.iadd, 1) := by decide +kernel
theorem dL_law_371 : decode cL_law 371 = .ok (.iaload, 1) := by decide +kernel
theorem dL_law_372 : decode cL_law 372 = .ok (.aload_n 0, 1) := by decide +kernel
theorem dL_law_373 : decode cL_law 373 = .ok (.iload_n 3, 1) := by decide +kernel
theorem dL_law_374 : decode cL_law 374 = .ok (.iconst 2, 1) := by decide +kernel
theorem dL_law_375 : decode cL_law 375 = .ok (.iadd, 1) := by decide +kernel
theorem dL_law_376 : decode cL_law 376 = .ok (.iaload, 1) := by decide +kernel
theorem dL_law_377 : decode cL_law 377 = .ok (.invokevirtual 43, 3) := by decide +kernel
theorem dL_law_380 : decode cL_law 380 = .ok (.if_icmp .eq 746, 3) := by decide +kernel
theorem dL_law_383 : decode cL_law 383 = .ok (.iconst 0, 1) := by decide +kernel
theorem dL_law_384 : decode cL_law 384 = .ok (.ireturn, 1) := by decide +kernel
theorem dL_law_385 : decode cL_law 385 = .ok (.aload_n 1, 1) := by decide +kernel
theorem dL_law_386 : decode cL_law 386 = .ok (.aload_n 0, 1) := by decide +kernel
theorem dL_law_387 : decode cL_law 387 = .ok (.iload_n 3, 1) := by decide +kernel
theorem dL_law_388 : decode cL_law 388 = .ok (.iconst 1, 1) := by decide +kernel
theorem dL_law_389 : decode cL_law 389 = .ok (.iadd, 1) := by decide +kernel
theorem dL_law_390 : decode cL_law 390 = .ok (.iaload, 1) := by decide +kernel
theorem dL_law_391 : decode cL_law 391 = .ok (.aload_n 0, 1) := by decide +kernel
theorem dL_law_392 : decode cL_law 392 = .ok (.iload_n 3, 1) := by decide +kernel
theorem dL_law_393 : decode cL_law 393 = .ok (.iconst 2, 1) := by decide +kernel
theorem dL_law_394 : decode cL_law 394 = .ok (.iadd, 1) := by decide +kernel
theorem dL_law_395 : decode cL_law 395 = .ok (.iaload, 1) := by decide +kernel
theorem dL_law_396 : decode cL_law 396 = .ok (.invokevirtual 44, 3) := by decide +kernel
theorem dL_law_399 : decode cL_law 399 = .ok (.aload_n 2, 1) := by decide +kernel
theorem dL_law_400 : decode cL_law 400 = .ok (.aload_n 0, 1) := by decide +kernel
theorem dL_law_401 : decode cL_law 401 = .ok (.iload_n 3, 1) := by decide +kernel
theorem dL_law_402 : decode cL_law 402 = .ok (.iconst 1, 1) := by decide +kernel
theorem dL_law_403 : decode cL_law 403 = .ok (.iadd, 1) := by decide +kernel
theorem dL_law_404 : decode cL_law 404 = .ok (.iaload, 1) := by decide +kernel
theorem dL_law_405 : decode cL_law 405 = .ok (.aload_n 0, 1) := by decide +kernel
theorem dL_law_406 : decode cL_law 406 = .ok (.iload_n 3, 1) := by decide +kernel
theorem dL_law_407 : decode cL_law 407 = .ok (.iconst 2, 1) := by decide +kernel
theorem dL_law_408 : decode cL_law 408 = .ok (.iadd, 1) := by decide +kernel
theorem dL_law_409 : decode cL_law 409 = .ok (.iaload, 1) := by decide +kernel
theorem dL_law_410 : decode cL_law 410 = .ok (.invokevirtual 47, 3) := by decide +kernel
theorem dL_law_413 : decode cL_law 413 = .ok (.if_icmp .eq 713, 3) := by decide +kernel
theorem dL_law_416 : decode cL_law 416 = .ok (.iconst 0, 1) := by decide +kernel
theorem dL_law_417 : decode cL_law 417 = .ok (.ireturn, 1) := by decide +kernel
theorem dL_law_418 : decode cL_law 418 = .ok (.aload_n 1, 1) := by decide +kernel
theorem dL_law_419 : decode cL_law 419 = .ok (.aload_n 0, 1) := by decide +kernel
theorem dL_law_420 : decode cL_law 420 = .ok (.iload_n 3, 1) := by decide +kernel
theorem dL_law_421 : decode cL_law 421 = .ok (.iconst 1, 1) := by decide +kernel
theorem dL_law_422 : decode cL_law 422 = .ok (.iadd, 1) := by decide +kernel
theorem dL_law_423 : decode cL_law 423 = .ok (.iaload, 1) := by decide +kernel
theorem dL_law_424 : decode cL_law 424 = .ok (.aload_n 0, 1) := by decide +kernel
theorem dL_law_425 : decode cL_law 425 = .ok (.iload_n 3, 1) := by decide +kernel
theorem dL_law_426 : decode cL_law 426 = .ok (.iconst 2, 1) := by decide +kernel
theorem dL_law_427 : decode cL_law 427 = .ok (.iadd, 1) := by decide +kernel
theorem dL_law_428 : decode cL_law 428 = .ok (.iaload, 1) := by decide +kernel
theorem dL_law_429 : decode cL_law 429 = .ok (.invokevirtual 48, 3) := by decide +kernel
theorem dL_law_432 : decode cL_law 432 = .ok (.aload_n 2, 1) := by decide +kernel
theorem dL_law_433 : decode cL_law 433 = .ok (.aload_n 0, 1) := by decide +kernel
theorem dL_law_434 : decode cL_law 434 = .ok (.iload_n 3, 1) := by decide +kernel
theorem dL_law_435 : decode cL_law 435 = .ok (.iconst 1, 1) := by decide +kernel
theorem dL_law_436 : decode cL_law 436 = .ok (.iadd, 1) := by decide +kernel
theorem dL_law_437 : decode cL_law 437 = .ok (.iaload, 1) := by decide +kernel
theorem dL_law_438 : decode cL_law 438 = .ok (.aload_n 0, 1) := by decide +kernel
theorem dL_law_439 : decode cL_law 439 = .ok (.iload_n 3, 1) := by decide +kernel
theorem dL_law_440 : decode cL_law 440 = .ok (.iconst 2, 1) := by decide +kernel
theorem dL_law_441 : decode cL_law 441 = .ok (.iadd, 1) := by decide +kernel
theorem dL_law_442 : decode cL_law 442 = .ok (.iaload, 1) := by decide +kernel
theorem dL_law_443 : decode cL_law 443 = .ok (.invokevirtual 51, 3) := by decide +kernel
theorem dL_law_446 : decode cL_law 446 = .ok (.if_icmp .eq 680, 3) := by decide +kernel
theorem dL_law_449 : decode cL_law 449 = .ok (.iconst 0, 1) := by decide +kernel
theorem dL_law_450 : decode cL_law 450 = .ok (.ireturn, 1) := by decide +kernel
theorem dL_law_451 : decode cL_law 451 = .ok (.aload_n 1, 1) := by decide +kernel
theorem dL_law_452 : decode cL_law 452 = .ok (.aload_n 0, 1) := by decide +kernel
theorem dL_law_453 : decode cL_law 453 = .ok (.iload_n 3, 1) := by decide +kernel
theorem dL_law_454 : decode cL_law 454 = .ok (.iconst 1, 1) := by decide +kernel
theorem dL_law_455 : decode cL_law 455 = .ok (.iadd, 1) := by decide +kernel
theorem dL_law_456 : decode cL_law 456 = .ok (.iaload, 1) := by decide +kernel
theorem dL_law_457 : decode cL_law 457 = .ok (.aload_n 0, 1) := by decide +kernel
theorem dL_law_458 : decode cL_law 458 = .ok (.iload_n 3, 1) := by decide +kernel
theorem dL_law_459 : decode cL_law 459 = .ok (.iconst 2, 1) := by decide +kernel
theorem dL_law_460 : decode cL_law 460 = .ok (.iadd, 1) := by decide +kernel
theorem dL_law_461 : decode cL_law 461 = .ok (.iaload, 1) := by decide +kernel
theorem dL_law_462 : decode cL_law 462 = .ok (.aload_n 0, 1) := by decide +kernel
theorem dL_law_463 : decode cL_law 463 = .ok (.iload_n 3, 1) := by decide +kernel
theorem dL_law_464 : decode cL_law 464 = .ok (.iconst 3, 1) := by decide +kernel
theorem dL_law_465 : decode cL_law 465 = .ok (.iadd, 1) := by decide +kernel
theorem dL_law_466 : decode cL_law 466 = .ok (.iaload, 1) := by decide +kernel
theorem dL_law_467 : decode cL_law 467 = .ok (.invokevirtual 52, 3) := by decide +kernel
theorem dL_law_470 : decode cL_law 470 = .ok (.aload_n 2, 1) := by decide +kernel
theorem dL_law_471 : decode cL_law 471 = .ok (.aload_n 0, 1) := by decide +kernel
theorem dL_law_472 : decode cL_law 472 = .ok (.iload_n 3, 1) := by decide +kernel
theorem dL_law_473 : decode cL_law 473 = .ok (.iconst 1, 1) := by decide +kernel
theorem dL_law_474 : decode cL_law 474 = .ok (.iadd, 1) := by decide +kernel
theorem dL_law_475 : decode cL_law 475 = .ok (.iaload, 1) := by decide +kernel
theorem dL_law_476 : decode cL_law 476 = .ok (.aload_n 0, 1) := by decide +kernel
theorem dL_law_477 : decode cL_law 477 = .ok (.iload_n 3, 1) := by decide +kernel
theorem dL_law_478 : decode cL_law 478 = .ok (.iconst 2, 1) := by decide +kernel
theorem dL_law_479 : decode cL_law 479 = .ok (.iadd, 1) := by decide +kernel
theorem dL_law_480 : decode cL_law 480 = .ok (.iaload, 1) := by decide +kernel
theorem dL_law_481 : decode cL_law 481 = .ok (.aload_n 0, 1) := by decide +kernel
theorem dL_law_482 : decode cL_law 482 = .ok (.iload_n 3, 1) := by decide +kernel
theorem dL_law_483 : decode cL_law 483 = .ok (.iconst 3, 1) := by decide +kernel
theorem dL_law_484 : decode cL_law 484 = .ok (.iadd, 1) := by decide +kernel
theorem dL_law_485 : decode cL_law 485 = .ok (.iaload, 1) := by decide +kernel
theorem dL_law_486 : decode cL_law 486 = .ok (.invokevirtual 56, 3) := by decide +kernel
theorem dL_law_489 : decode cL_law 489 = .ok (.if_icmp .eq 637, 3) := by decide +kernel
theorem dL_law_492 : decode cL_law 492 = .ok (.iconst 0, 1) := by decide +kernel
theorem dL_law_493 : decode cL_law 493 = .ok (.ireturn, 1) := by decide +kernel
theorem dL_law_494 : decode cL_law 494 = .ok (.aload_n 1, 1) := by decide +kernel
theorem dL_law_495 : decode cL_law 495 = .ok (.aload_n 0, 1) := by decide +kernel
theorem dL_law_496 : decode cL_law 496 = .ok (.iload_n 3, 1) := by decide +kernel
theorem dL_law_497 : decode cL_law 497 = .ok (.iconst 1, 1) := by decide +kernel
theorem dL_law_498 : decode cL_law 498 = .ok (.iadd, 1) := by decide +kernel
theorem dL_law_499 : decode cL_law 499 = .ok (.iaload, 1) := by decide +kernel
theorem dL_law_500 : decode cL_law 500 = .ok (.invokevirtual 57, 3) := by decide +kernel
theorem dL_law_503 : decode cL_law 503 = .ok (.aload_n 2, 1) := by decide +kernel
theorem dL_law_504 : decode cL_law 504 = .ok (.aload_n 0, 1) := by decide +kernel
theorem dL_law_505 : decode cL_law 505 = .ok (.iload_n 3, 1) := by decide +kernel
theorem dL_law_506 : decode cL_law 506 = .ok (.iconst 1, 1) := by decide +kernel
theorem dL_law_507 : decode cL_law 507 = .ok (.iadd, 1) := by decide +kernel
theorem dL_law_508 : decode cL_law 508 = .ok (.iaload, 1) := by decide +kernel
theorem dL_law_509 : decode cL_law 509 = .ok (.invokevirtual 60, 3) := by decide +kernel
theorem dL_law_512 : decode cL_law 512 = .ok (.if_icmp .eq 614, 3) := by decide +kernel
theorem dL_law_515 : decode cL_law 515 = .ok (.iconst 0, 1) := by decide +kernel
theorem dL_law_516 : decode cL_law 516 = .ok (.ireturn, 1) := by decide +kernel
theorem dL_law_517 : decode cL_law 517 = .ok (.aload_n 1, 1) := by decide +kernel
theorem dL_law_518 : decode cL_law 518 = .ok (.aload_n 0, 1) := by decide +kernel
theorem dL_law_519 : decode cL_law 519 = .ok (.iload_n 3, 1) := by decide +kernel
theorem dL_law_520 : decode cL_law 520 = .ok (.iconst 1, 1) := by decide +kernel
theorem dL_law_521 : decode cL_law 521 = .ok (.iadd, 1) := by decide +kernel
theorem dL_law_522 : decode cL_law 522 = .ok (.iaload, 1) := by decide +kernel
theorem dL_law_523 : decode cL_law 523 = .ok (.aload_n 0, 1) := by decide +kernel
theorem dL_law_524 : decode cL_law 524 = .ok (.iload_n 3, 1) := by decide +kernel
theorem dL_law_525 : decode cL_law 525 = .ok (.iconst 2, 1) := by decide +kernel
theorem dL_law_526 : decode cL_law 526 = .ok (.iadd, 1) := by decide +kernel
theorem dL_law_527 : decode cL_law 527 = .ok (.iaload, 1) := by decide +kernel
theorem dL_law_528 : decode cL_law 528 = .ok (.aload_n 0, 1) := by decide +kernel
theorem dL_law_529 : decode cL_law 529 = .ok (.iload_n 3, 1) := by decide +kernel
theorem dL_law_530 : decode cL_law 530 = .ok (.iconst 3, 1) := by decide +kernel
theorem dL_law_531 : decode cL_law 531 = .ok (.iadd, 1) := by decide +kernel
theorem dL_law_532 : decode cL_law 532 = .ok (.iaload, 1) := by decide +kernel
theorem dL_law_533 : decode cL_law 533 = .ok (.invokevirtual 61, 3) := by decide +kernel
theorem dL_law_536 : decode cL_law 536 = .ok (.aload_n 2, 1) := by decide +kernel
theorem dL_law_537 : decode cL_law 537 = .ok (.aload_n 0, 1) := by decide +kernel
theorem dL_law_538 : decode cL_law 538 = .ok (.iload_n 3, 1) := by decide +kernel
theorem dL_law_539 : decode cL_law 539 = .ok (.iconst 1, 1) := by decide +kernel
theorem dL_law_540 : decode cL_law 540 = .ok (.iadd, 1) := by decide +kernel
theorem dL_law_541 : decode cL_law 541 = .ok (.iaload, 1) := by decide +kernel
theorem dL_law_542 : decode cL_law 542 = .ok (.aload_n 0, 1) := by decide +kernel
theorem dL_law_543 : decode cL_law 543 = .ok (.iload_n 3, 1) := by decide +kernel
theorem dL_law_544 : decode cL_law 544 = .ok (.iconst 2, 1) := by decide +kernel
theorem dL_law_545 : decode cL_law 545 = .ok (.iadd, 1) := by decide +kernel
theorem dL_law_546 : decode cL_law 546 = .ok (.iaload, 1) := by decide +kernel
theorem dL_law_547 : decode cL_law 547 = .ok (.aload_n 0, 1) := by decide +kernel
theorem dL_law_548 : decode cL_law 548 = .ok (.iload_n 3, 1) := by decide +kernel
theorem dL_law_549 : decode cL_law 549 = .ok (.iconst 3, 1) := by decide +kernel
theorem dL_law_550 : decode cL_law 550 = .ok (.iadd, 1) := by decide +kernel
theorem dL_law_551 : decode cL_law 551 = .ok (.iaload, 1) := by decide +kernel
theorem dL_law_552 : decode cL_law 552 = .ok (.invokevirtual 64, 3) := by decide +kernel
theorem dL_law_555 : decode cL_law 555 = .ok (.if_icmp .eq 571, 3) := by decide +kernel
theorem dL_law_558 : decode cL_law 558 = .ok (.iconst 0, 1) := by decide +kernel
theorem dL_law_559 : decode cL_law 559 = .ok (.ireturn, 1) := by decide +kernel
theorem dL_law_560 : decode cL_law 560 = .ok (.aload_n 1, 1) := by decide +kernel
theorem dL_law_561 : decode cL_law 561 = .ok (.aload_n 0, 1) := by decide +kernel
theorem dL_law_562 : decode cL_law 562 = .ok (.iload_n 3, 1) := by decide +kernel
theorem dL_law_563 : decode cL_law 563 = .ok (.iconst 1, 1) := by decide +kernel
theorem dL_law_564 : decode cL_law 564 = .ok (.iadd, 1) := by decide +kernel
theorem dL_law_565 : decode cL_law 565 = .ok (.iaload, 1) := by decide +kernel
theorem dL_law_566 : decode cL_law 566 = .ok (.invokevirtual 65, 3) := by decide +kernel
theorem dL_law_569 : decode cL_law 569 = .ok (.aload_n 2, 1) := by decide +kernel
theorem dL_law_570 : decode cL_law 570 = .ok (.aload_n 0, 1) := by decide +kernel
theorem dL_law_571 : decode cL_law 571 = .ok (.iload_n 3, 1) := by decide +kernel
theorem dL_law_572 : decode cL_law 572 = .ok (.iconst 1, 1) := by decide +kernel
theorem dL_law_573 : decode cL_law 573 = .ok (.iadd, 1) := by decide +kernel
theorem dL_law_574 : decode cL_law 574 = .ok (.iaload, 1) := by decide +kernel
theorem dL_law_575 : decode cL_law 575 = .ok (.invokevirtual 68, 3) := by decide +kernel
theorem dL_law_578 : decode cL_law 578 = .ok (.if_icmp .eq 548, 3) := by decide +kernel
theorem dL_law_581 : decode cL_law 581 = .ok (.iconst 0, 1) := by decide +kernel
theorem dL_law_582 : decode cL_law 582 = .ok (.ireturn, 1) := by decide +kernel
theorem dL_law_583 : decode cL_law 583 = .ok (.aload_n 1, 1) := by decide +kernel
theorem dL_law_584 : decode cL_law 584 = .ok (.aload_n 0, 1) := by decide +kernel
theorem dL_law_585 : decode cL_law 585 = .ok (.iload_n 3, 1) := by decide +kernel
theorem dL_law_586 : decode cL_law 586 = .ok (.iconst 1, 1) := by decide +kernel
theorem dL_law_587 : decode cL_law 587 = .ok (.iadd, 1) := by decide +kernel
theorem dL_law_588 : decode cL_law 588 = .ok (.iaload, 1) := by decide +kernel
theorem dL_law_589 : decode cL_law 589 = .ok (.invokevirtual 69, 3) := by decide +kernel
theorem dL_law_592 : decode cL_law 592 = .ok (.aload_n 2, 1) := by decide +kernel
theorem dL_law_593 : decode cL_law 593 = .ok (.aload_n 0, 1) := by decide +kernel
theorem dL_law_594 : decode cL_law 594 = .ok (.iload_n 3, 1) := by decide +kernel
theorem dL_law_595 : decode cL_law 595 = .ok (.iconst 1, 1) := by decide +kernel
theorem dL_law_596 : decode cL_law 596 = .ok (.iadd, 1) := by decide +kernel
theorem dL_law_597 : decode cL_law 597 = .ok (.iaload, 1) := by decide +kernel
theorem dL_law_598 : decode cL_law 598 = .ok (.invokevirtual 72, 3) := by decide +kernel
theorem dL_law_601 : decode cL_law 601 = .ok (.if_icmp .eq 525, 3) := by decide +kernel
theorem dL_law_604 : decode cL_law 604 = .ok (.iconst 0, 1) := by decide +kernel
theorem dL_law_605 : decode cL_law 605 = .ok (.ireturn, 1) := by decide +kernel
theorem dL_law_606 : decode cL_law 606 = .ok (.aload_n 1, 1) := by decide +kernel
theorem dL_law_607 : decode cL_law 607 = .ok (.aload_n 0, 1) := by decide +kernel
theorem dL_law_608 : decode cL_law 608 = .ok (.iload_n 3, 1) := by decide +kernel
theorem dL_law_609 : decode cL_law 609 = .ok (.iconst 1, 1) := by decide +kernel
theorem dL_law_610 : decode cL_law 610 = .ok (.iadd, 1) := by decide +kernel
theorem dL_law_611 : decode cL_law 611 = .ok (.iaload, 1) := by decide +kernel
theorem dL_law_612 : decode cL_law 612 = .ok (.aload_n 0, 1) := by decide +kernel
theorem dL_law_613 : decode cL_law 613 = .ok (.iload_n 3, 1) := by decide +kernel
theorem dL_law_614 : decode cL_law 614 = .ok (.iconst 2, 1) := by decide +kernel
theorem dL_law_615 : decode cL_law 615 = .ok (.iadd, 1) := by decide +kernel
theorem dL_law_616 : decode cL_law 616 = .ok (.iaload, 1) := by decide +kernel
theorem dL_law_617 : decode cL_law 617 = .ok (.aload_n 0, 1) := by decide +kernel
theorem dL_law_618 : decode cL_law 618 = .ok (.iload_n 3, 1) := by decide +kernel
theorem dL_law_619 : decode cL_law 619 = .ok (.iconst 3, 1) := by decide +kernel
theorem dL_law_620 : decode cL_law 620 = .ok (.iadd, 1) := by decide +kernel
theorem dL_law_621 : decode cL_law 621 = .ok (.iaload, 1) := by decide +kernel
theorem dL_law_622 : decode cL_law 622 = .ok (.invokevirtual 73, 3) := by decide +kernel
theorem dL_law_625 : decode cL_law 625 = .ok (.aload_n 2, 1) := by decide +kernel
theorem dL_law_626 : decode cL_law 626 = .ok (.aload_n 0, 1) := by decide +kernel
theorem dL_law_627 : decode cL_law 627 = .ok (.iload_n 3, 1) := by decide +kernel
theorem dL_law_628 : decode cL_law 628 = .ok (.iconst 1, 1) := by decide +kernel
theorem dL_law_629 : decode cL_law 629 = .ok (.iadd, 1) := by decide +kernel
theorem dL_law_630 : decode cL_law 630 = .ok (.iaload, 1) := by decide +kernel
theorem dL_law_631 : decode cL_law 631 = .ok (.aload_n 0, 1) := by decide +kernel
theorem dL_law_632 : decode cL_law 632 = .ok (.iload_n 3, 1) := by decide +kernel
theorem dL_law_633 : decode cL_law 633 = .ok (.iconst 2, 1) := by decide +kernel
theorem dL_law_634 : decode cL_law 634 = .ok (.iadd, 1) := by decide +kernel
theorem dL_law_635 : decode cL_law 635 = .ok (.iaload, 1) := by decide +kernel
theorem dL_law_636 : decode cL_law 636 = .ok (.aload_n 0, 1) := by decide +kernel
theorem dL_law_637 : decode cL_law 637 = .ok (.iload_n 3, 1) := by decide +kernel
theorem dL_law_638 : decode cL_law 638 = .ok (.iconst 3, 1) := by decide +kernel
theorem dL_law_639 : decode cL_law 639 = .ok (.iadd, 1) := by decide +kernel
theorem dL_law_640 : decode cL_law 640 = .ok (.iaload, 1) := by decide +kernel
theorem dL_law_641 : decode cL_law 641 = .ok (.invokevirtual 76, 3) := by decide +kernel
theorem dL_law_644 : decode cL_law 644 = .ok (.if_icmp .eq 482, 3) := by decide +kernel
theorem dL_law_647 : decode cL_law 647 = .ok (.iconst 0, 1) := by decide +kernel
theorem dL_law_648 : decode cL_law 648 = .ok (.ireturn, 1) := by decide +kernel
theorem dL_law_649 : decode cL_law 649 = .ok (.aload_n 1, 1) := by decide +kernel
theorem dL_law_650 : decode cL_law 650 = .ok (.aload_n 0, 1) := by decide +kernel
theorem dL_law_651 : decode cL_law 651 = .ok (.iload_n 3, 1) := by decide +kernel
theorem dL_law_652 : decode cL_law 652 = .ok (.iconst 1, 1) := by decide +kernel
theorem dL_law_653 : decode cL_law 653 = .ok (.iadd, 1) := by decide +kernel
theorem dL_law_654 : decode cL_law 654 = .ok (.iaload, 1) := by decide +kernel
theorem dL_law_655 : decode cL_law 655 = .ok (.aload_n 0, 1) := by decide +kernel
theorem dL_law_656 : decode cL_law 656 = .ok (.iload_n 3, 1) := by decide +kernel
theorem dL_law_657 : decode cL_law 657 = .ok (.iconst 2, 1) := by decide +kernel
theorem dL_law_658 : decode cL_law 658 = .ok (.iadd, 1) := by decide +kernel
theorem dL_law_659 : decode cL_law 659 = .ok (.iaload, 1) := by decide +kernel
theorem dL_law_660 : decode cL_law 660 = .ok (.invokevirtual 77, 3) := by decide +kernel
theorem dL_law_663 : decode cL_law 663 = .ok (.aload_n 2, 1) := by decide +kernel
theorem dL_law_664 : decode cL_law 664 = .ok (.aload_n 0, 1) := by decide +kernel
theorem dL_law_665 : decode cL_law 665 = .ok (.iload_n 3, 1) := by decide +kernel
theorem dL_law_666 : decode cL_law 666 = .ok (.iconst 1, 1) := by decide +kernel
theorem dL_law_667 : decode cL_law 667 = .ok (.iadd, 1) := by decide +kernel
theorem dL_law_668 : decode cL_law 668 = .ok (.iaload, 1) := by decide +kernel
theorem dL_law_669 : decode cL_law 669 = .ok (.aload_n 0, 1) := by decide +kernel
theorem dL_law_670 : decode cL_law 670 = .ok (.iload_n 3, 1) := by decide +kernel
theorem dL_law_671 : decode cL_law 671 = .ok (.iconst 2, 1) := by decide +kernel
theorem dL_law_672 : decode cL_law 672 = .ok (.iadd, 1) := by decide +kernel
theorem dL_law_673 : decode cL_law 673 = .ok (.iaload, 1) := by decide +kernel
theorem dL_law_674 : decode cL_law 674 = .ok (.invokevirtual 80, 3) := by decide +kernel
theorem dL_law_677 : decode cL_law 677 = .ok (.if_icmp .eq 449, 3) := by decide +kernel
theorem dL_law_680 : decode cL_law 680 = .ok (.iconst 0, 1) := by decide +kernel
theorem dL_law_681 : decode cL_law 681 = .ok (.ireturn, 1) := by decide +kernel
theorem dL_law_682 : decode cL_law 682 = .ok (.aload_n 1, 1) := by decide +kernel
theorem dL_law_683 : decode cL_law 683 = .ok (.aload_n 0, 1) := by decide +kernel
theorem dL_law_684 : decode cL_law 684 = .ok (.iload_n 3, 1) := by decide +kernel
theorem dL_law_685 : decode cL_law 685 = .ok (.iconst 1, 1) := by decide +kernel
theorem dL_law_686 : decode cL_law 686 = .ok (.iadd, 1) := by decide +kernel
theorem dL_law_687 : decode cL_law 687 = .ok (.iaload, 1) := by decide +kernel
theorem dL_law_688 : decode cL_law 688 = .ok (.invokevirtual 81, 3) := by decide +kernel
theorem dL_law_691 : decode cL_law 691 = .ok (.aload_n 2, 1) := by decide +kernel
theorem dL_law_692 : decode cL_law 692 = .ok (.aload_n 0, 1) := by decide +kernel
theorem dL_law_693 : decode cL_law 693 = .ok (.iload_n 3, 1) := by decide +kernel
theorem dL_law_694 : decode cL_law 694 = .ok (.iconst 1, 1) := by decide +kernel
theorem dL_law_695 : decode cL_law 695 = .ok (.iadd, 1) := by decide +kernel
theorem dL_law_696 : decode cL_law 696 = .ok (.iaload, 1) := by decide +kernel
theorem dL_law_697 : decode cL_law 697 = .ok (.invokevirtual 84, 3) := by decide +kernel
theorem dL_law_700 : decode cL_law 700 = .ok (.if_icmp .eq 426, 3) := by decide +kernel
theorem dL_law_703 : decode cL_law 703 = .ok (.iconst 0, 1) := by decide +kernel
theorem dL_law_704 : decode cL_law 704 = .ok (.ireturn, 1) := by decide +kernel
theorem dL_law_705 : decode cL_law 705 = .ok (.aload_n 1, 1) := by decide +kernel
theorem dL_law_706 : decode cL_law 706 = .ok (.aload_n 0, 1) := by decide +kernel
theorem dL_law_707 : decode cL_law 707 = .ok (.iload_n 3, 1) := by decide +kernel
theorem dL_law_708 : decode cL_law 708 = .ok (.iconst 1, 1) := by decide +kernel
theorem dL_law_709 : decode cL_law 709 = .ok (.iadd, 1) := by decide +kernel
theorem dL_law_710 : decode cL_law 710 = .ok (.iaload, 1) := by decide +kernel
theorem dL_law_711 : decode cL_law 711 = .ok (.aload_n 0, 1) := by decide +kernel
theorem dL_law_712 : decode cL_law 712 = .ok (.iload_n 3, 1) := by decide +kernel
theorem dL_law_713 : decode cL_law 713 = .ok (.iconst 2, 1) := by decide +kernel
theorem dL_law_714 : decode cL_law 714 = .ok (.iadd, 1) := by decide +kernel
theorem dL_law_715 : decode cL_law 715 = .ok (.iaload, 1) := by decide +kernel
theorem dL_law_716 : decode cL_law 716 = .ok (.invokevirtual 85, 3) := by decide +kernel
theorem dL_law_719 : decode cL_law 719 = .ok (.aload_n 2, 1) := by decide +kernel
theorem dL_law_720 : decode cL_law 720 = .ok (.aload_n 0, 1) := by decide +kernel
theorem dL_law_721 : decode cL_law 721 = .ok (.iload_n 3, 1) := by decide +kernel
theorem dL_law_722 : decode cL_law 722 = .ok (.iconst 1, 1) := by decide +kernel
theorem dL_law_723 : decode cL_law 723 = .ok (.iadd, 1) := by decide +kernel
theorem dL_law_724 : decode cL_law 724 = .ok (.iaload, 1) := by decide +kernel
theorem dL_law_725 : decode cL_law 725 = .ok (.aload_n 0, 1) := by decide +kernel
theorem dL_law_726 : decode cL_law 726 = .ok (.iload_n 3, 1) := by decide +kernel
theorem dL_law_727 : decode cL_law 727 = .ok (.iconst 2, 1) := by decide +kernel
theorem dL_law_728 : decode cL_law 728 = .ok (.iadd, 1) := by decide +kernel
theorem dL_law_729 : decode cL_law 729 = .ok (.iaload, 1) := by decide +kernel
theorem dL_law_730 : decode cL_law 730 = .ok (.invokevirtual 88, 3) := by decide +kernel
theorem dL_law_733 : decode cL_law 733 = .ok (.if_icmp .eq 393, 3) := by decide +kernel
theorem dL_law_736 : decode cL_law 736 = .ok (.iconst 0, 1) := by decide +kernel
theorem dL_law_737 : decode cL_law 737 = .ok (.ireturn, 1) := by decide +kernel
theorem dL_law_738 : decode cL_law 738 = .ok (.aload_n 1, 1) := by decide +kernel
theorem dL_law_739 : decode cL_law 739 = .ok (.aload_n 0, 1) := by decide +kernel
theorem dL_law_740 : decode cL_law 740 = .ok (.iload_n 3, 1) := by decide +kernel
theorem dL_law_741 : decode cL_law 741 = .ok (.iconst 1, 1) := by decide +kernel
theorem dL_law_742 : decode cL_law 742 = .ok (.iadd, 1) := by decide +kernel
theorem dL_law_743 : decode cL_law 743 = .ok (.iaload, 1) := by decide +kernel
theorem dL_law_744 : decode cL_law 744 = .ok (.invokevirtual 89, 3) := by decide +kernel
theorem dL_law_747 : decode cL_law 747 = .ok (.aload_n 2, 1) := by decide +kernel
theorem dL_law_748 : decode cL_law 748 = .ok (.aload_n 0, 1) := by decide +kernel
theorem dL_law_749 : decode cL_law 749 = .ok (.iload_n 3, 1) := by decide +kernel
theorem dL_law_750 : decode cL_law 750 = .ok (.iconst 1, 1) := by decide +kernel
theorem dL_law_751 : decode cL_law 751 = .ok (.iadd, 1) := by decide +kernel
theorem dL_law_752 : decode cL_law 752 = .ok (.iaload, 1) := by decide +kernel
theorem dL_law_753 : decode cL_law 753 = .ok (.invokevirtual 92, 3) := by decide +kernel
theorem dL_law_756 : decode cL_law 756 = .ok (.if_icmp .eq 370, 3) := by decide +kernel
theorem dL_law_759 : decode cL_law 759 = .ok (.iconst 0, 1) := by decide +kernel
theorem dL_law_760 : decode cL_law 760 = .ok (.ireturn, 1) := by decide +kernel
theorem dL_law_761 : decode cL_law 761 = .ok (.aload_n 1, 1) := by decide +kernel
theorem dL_law_762 : decode cL_law 762 = .ok (.invokevirtual 93, 3) := by decide +kernel
theorem dL_law_765 : decode cL_law 765 = .ok (.aload_n 2, 1) := by decide +kernel
theorem dL_law_766 : decode cL_law 766 = .ok (.invokevirtual 96, 3) := by decide +kernel
theorem dL_law_769 : decode cL_law 769 = .ok (.if_icmp .eq 357, 3) := by decide +kernel
theorem dL_law_772 : decode cL_law 772 = .ok (.iconst 0, 1) := by decide +kernel
theorem dL_law_773 : decode cL_law 773 = .ok (.ireturn, 1) := by decide +kernel
theorem dL_law_774 : decode cL_law 774 = .ok (.aload_n 1, 1) := by decide +kernel
theorem dL_law_775 : decode cL_law 775 = .ok (.aload_n 0, 1) := by decide +kernel
theorem dL_law_776 : decode cL_law 776 = .ok (.iload_n 3, 1) := by decide +kernel
theorem dL_law_777 : decode cL_law 777 = .ok (.iconst 1, 1) := by decide +kernel
theorem dL_law_778 : decode cL_law 778 = .ok (.iadd, 1) := by decide +kernel
theorem dL_law_779 : decode cL_law 779 = .ok (.iaload, 1) := by decide +kernel
theorem dL_law_780 : decode cL_law 780 = .ok (.invokevirtual 97, 3) := by decide +kernel
theorem dL_law_783 : decode cL_law 783 = .ok (.aload_n 2, 1) := by decide +kernel
theorem dL_law_784 : decode cL_law 784 = .ok (.aload_n 0, 1) := by decide +kernel
theorem dL_law_785 : decode cL_law 785 = .ok (.iload_n 3, 1) := by decide +kernel
theorem dL_law_786 : decode cL_law 786 = .ok (.iconst 1, 1) := by decide +kernel
theorem dL_law_787 : decode cL_law 787 = .ok (.iadd, 1) := by decide +kernel
theorem dL_law_788 : decode cL_law 788 = .ok (.iaload, 1) := by decide +kernel
theorem dL_law_789 : decode cL_law 789 = .ok (.invokevirtual 100, 3) := by decide +kernel
theorem dL_law_792 : decode cL_law 792 = .ok (.if_icmp .eq 334, 3) := by decide +kernel
theorem dL_law_795 : decode cL_law 795 = .ok (.iconst 0, 1) := by decide +kernel
theorem dL_law_796 : decode cL_law 796 = .ok (.ireturn, 1) := by decide +kernel
theorem dL_law_797 : decode cL_law 797 = .ok (.aload_n 1, 1) := by decide +kernel
theorem dL_law_798 : decode cL_law 798 = .ok (.aload_n 0, 1) := by decide +kernel
theorem dL_law_799 : decode cL_law 799 = .ok (.iload_n 3, 1) := by decide +kernel
theorem dL_law_800 : decode cL_law 800 = .ok (.iconst 1, 1) := by decide +kernel
theorem dL_law_801 : decode cL_law 801 = .ok (.iadd, 1) := by decide +kernel
theorem dL_law_802 : decode cL_law 802 = .ok (.iaload, 1) := by decide +kernel
theorem dL_law_803 : decode cL_law 803 = .ok (.aload_n 0, 1) := by decide +kernel
theorem dL_law_804 : decode cL_law 804 = .ok (.iload_n 3, 1) := by decide +kernel
theorem dL_law_805 : decode cL_law 805 = .ok (.iconst 2, 1) := by decide +kernel
theorem dL_law_806 : decode cL_law 806 = .ok (.iadd, 1) := by decide +kernel
theorem dL_law_807 : decode cL_law 807 = .ok (.iaload, 1) := by decide +kernel
theorem dL_law_808 : decode cL_law 808 = .ok (.invokevirtual 101, 3) := by decide +kernel
theorem dL_law_811 : decode cL_law 811 = .ok (.aload_n 2, 1) := by decide +kernel
theorem dL_law_812 : decode cL_law 812 = .ok (.aload_n 0, 1) := by decide +kernel
theorem dL_law_813 : decode cL_law 813 = .ok (.iload_n 3, 1) := by decide +kernel
theorem dL_law_814 : decode cL_law 814 = .ok (.iconst 1, 1) := by decide +kernel
theorem dL_law_815 : decode cL_law 815 = .ok (.iadd, 1) := by decide +kernel
theorem dL_law_816 : decode cL_law 816 = .ok (.iaload, 1) := by decide +kernel
theorem dL_law_817 : decode cL_law 817 = .ok (.aload_n 0, 1) := by decide +kernel
theorem dL_law_818 : decode cL_law 818 = .ok (.iload_n 3, 1) := by decide +kernel
theorem dL_law_819 : decode cL_law 819 = .ok (.iconst 2, 1) := by decide +kernel
theorem dL_law_820 : decode cL_law 820 = .ok (.iadd, 1) := by decide +kernel
theorem dL_law_821 : decode cL_law 821 = .ok (.iaload, 1) := by decide +kernel
theorem dL_law_822 : decode cL_law 822 = .ok (.invokevirtual 104, 3) := by decide +kernel
theorem dL_law_825 : decode cL_law 825 = .ok (.if_icmp .eq 301, 3) := by decide +kernel
theorem dL_law_828 : decode cL_law 828 = .ok (.iconst 0, 1) := by decide +kernel
theorem dL_law_829 : decode cL_law 829 = .ok (.ireturn, 1) := by decide +kernel
theorem dL_law_830 : decode cL_law 830 = .ok (.aload_n 1, 1) := by decide +kernel
theorem dL_law_831 : decode cL_law 831 = .ok (.aload_n 0, 1) := by decide +kernel
theorem dL_law_832 : decode cL_law 832 = .ok (.iload_n 3, 1) := by decide +kernel
theorem dL_law_833 : decode cL_law 833 = .ok (.iconst 1, 1) := by decide +kernel
theorem dL_law_834 : decode cL_law 834 = .ok (.iadd, 1) := by decide +kernel
theorem dL_law_835 : decode cL_law 835 = .ok (.iaload, 1) := by decide +kernel
theorem dL_law_836 : decode cL_law 836 = .ok (.aload_n 0, 1) := by decide +kernel
theorem dL_law_837 : decode cL_law 837 = .ok (.iload_n 3, 1) := by decide +kernel
theorem dL_law_838 : decode cL_law 838 = .ok (.iconst 2, 1) := by decide +kernel
theorem dL_law_839 : decode cL_law 839 = .ok (.iadd, 1) := by decide +kernel
theorem dL_law_840 : decode cL_law 840 = .ok (.iaload, 1) := by decide +kernel
theorem dL_law_841 : decode cL_law 841 = .ok (.invokevirtual 105, 3) := by decide +kernel
theorem dL_law_844 : decode cL_law 844 = .ok (.aload_n 2, 1) := by decide +kernel
theorem dL_law_845 : decode cL_law 845 = .ok (.aload_n 0, 1) := by decide +kernel
theorem dL_law_846 : decode cL_law 846 = .ok (.iload_n 3, 1) := by decide +kernel
theorem dL_law_847 : decode cL_law 847 = .ok (.iconst 1, 1) := by decide +kernel
theorem dL_law_848 : decode cL_law 848 = .ok (.iadd, 1) := by decide +kernel
theorem dL_law_849 : decode cL_law 849 = .ok (.iaload, 1) := by decide +kernel
theorem dL_law_850 : decode cL_law 850 = .ok (.aload_n 0, 1) := by decide +kernel
theorem dL_law_851 : decode cL_law 851 = .ok (.iload_n 3, 1) := by decide +kernel
theorem dL_law_852 : decode cL_law 852 = .ok (.iconst 2, 1) := by decide +kernel
theorem dL_law_853 : decode cL_law 853 = .ok (.iadd, 1) := by decide +kernel
theorem dL_law_854 : decode cL_law 854 = .ok (.iaload, 1) := by decide +kernel
theorem dL_law_855 : decode cL_law 855 = .ok (.invokevirtual 108, 3) := by decide +kernel
theorem dL_law_858 : decode cL_law 858 = .ok (.if_icmp .eq 268, 3) := by decide +kernel
theorem dL_law_861 : decode cL_law 861 = .ok (.iconst 0, 1) := by decide +kernel
theorem dL_law_862 : decode cL_law 862 = .ok (.ireturn, 1) := by decide +kernel
theorem dL_law_863 : decode cL_law 863 = .ok (.aload_n 1, 1) := by decide +kernel
theorem dL_law_864 : decode cL_law 864 = .ok (.aload_n 0, 1) := by decide +kernel
theorem dL_law_865 : decode cL_law 865 = .ok (.iload_n 3, 1) := by decide +kernel
theorem dL_law_866 : decode cL_law 866 = .ok (.iconst 1, 1) := by decide +kernel
theorem dL_law_867 : decode cL_law 867 = .ok (.iadd, 1) := by decide +kernel
theorem dL_law_868 : decode cL_law 868 = .ok (.iaload, 1) := by decide +kernel
theorem dL_law_869 : decode cL_law 869 = .ok (.invokevirtual 109, 3) := by decide +kernel
theorem dL_law_872 : decode cL_law 872 = .ok (.aload_n 2, 1) := by decide +kernel
theorem dL_law_873 : decode cL_law 873 = .ok (.aload_n 0, 1) := by decide +kernel
theorem dL_law_874 : decode cL_law 874 = .ok (.iload_n 3, 1) := by decide +kernel
theorem dL_law_875 : decode cL_law 875 = .ok (.iconst 1, 1) := by decide +kernel
theorem dL_law_876 : decode cL_law 876 = .ok (.iadd, 1) := by decide +kernel
theorem dL_law_877 : decode cL_law 877 = .ok (.iaload, 1) := by decide +kernel
theorem dL_law_878 : decode cL_law 878 = .ok (.invokevirtual 112, 3) := by decide +kernel
theorem dL_law_881 : decode cL_law 881 = .ok (.if_icmp .eq 245, 3) := by decide +kernel
theorem dL_law_884 : decode cL_law 884 = .ok (.iconst 0, 1) := by decide +kernel
theorem dL_law_885 : decode cL_law 885 = .ok (.ireturn, 1) := by decide +kernel
theorem dL_law_886 : decode cL_law 886 = .ok (.aload_n 1, 1) := by decide +kernel
theorem dL_law_887 : decode cL_law 887 = .ok (.aload_n 0, 1) := by decide +kernel
theorem dL_law_888 : decode cL_law 888 = .ok (.iload_n 3, 1) := by decide +kernel
theorem dL_law_889 : decode cL_law 889 = .ok (.iconst 1, 1) := by decide +kernel
theorem dL_law_890 : decode cL_law 890 = .ok (.iadd, 1) := by decide +kernel
theorem dL_law_891 : decode cL_law 891 = .ok (.iaload, 1) := by decide +kernel
theorem dL_law_892 : decode cL_law 892 = .ok (.aload_n 0, 1) := by decide +kernel
theorem dL_law_893 : decode cL_law 893 = .ok (.iload_n 3, 1) := by decide +kernel
theorem dL_law_894 : decode cL_law 894 = .ok (.iconst 2, 1) := by decide +kernel
theorem dL_law_895 : decode cL_law 895 = .ok (.iadd, 1) := by decide +kernel
theorem dL_law_896 : decode cL_law 896 = .ok (.iaload, 1) := by decide +kernel
theorem dL_law_897 : decode cL_law 897 = .ok (.invokevirtual 113, 3) := by decide +kernel
theorem dL_law_900 : decode cL_law 900 = .ok (.aload_n 2, 1) := by decide +kernel
theorem dL_law_901 : decode cL_law 901 = .ok (.aload_n 0, 1) := by decide +kernel
theorem dL_law_902 : decode cL_law 902 = .ok (.iload_n 3, 1) := by decide +kernel
theorem dL_law_903 : decode cL_law 903 = .ok (.iconst 1, 1) := by decide +kernel
theorem dL_law_904 : decode cL_law 904 = .ok (.iadd, 1) := by decide +kernel
theorem dL_law_905 : decode cL_law 905 = .ok (.iaload, 1) := by decide +kernel
theorem dL_law_906 : decode cL_law 906 = .ok (.aload_n 0, 1) := by decide +kernel
theorem dL_law_907 : decode cL_law 907 = .ok (.iload_n 3, 1) := by decide +kernel
theorem dL_law_908 : decode cL_law 908 = .ok (.iconst 2, 1) := by decide +kernel
theorem dL_law_909 : decode cL_law 909 = .ok (.iadd, 1) := by decide +kernel
theorem dL_law_910 : decode cL_law 910 = .ok (.iaload, 1) := by decide +kernel
theorem dL_law_911 : decode cL_law 911 = .ok (.invokevirtual 116, 3) := by decide +kernel
theorem dL_law_914 : decode cL_law 914 = .ok (.if_icmp .eq 212, 3) := by decide +kernel
theorem dL_law_917 : decode cL_law 917 = .ok (.iconst 0, 1) := by decide +kernel
theorem dL_law_918 : decode cL_law 918 = .ok (.ireturn, 1) := by decide +kernel
theorem dL_law_919 : decode cL_law 919 = .ok (.aload_n 1, 1) := by decide +kernel
theorem dL_law_920 : decode cL_law 920 = .ok (.invokevirtual 117, 3) := by decide +kernel
theorem dL_law_923 : decode cL_law 923 = .ok (.aload_n 2, 1) := by decide +kernel
theorem dL_law_924 : decode cL_law 924 = .ok (.invokevirtual 120, 3) := by decide +kernel
theorem dL_law_927 : decode cL_law 927 = .ok (.if_icmp .eq 199, 3) := by decide +kernel
theorem dL_law_930 : decode cL_law 930 = .ok (.iconst 0, 1) := by decide +kernel
theorem dL_law_931 : decode cL_law 931 = .ok (.ireturn, 1) := by decide +kernel
theorem dL_law_932 : decode cL_law 932 = .ok (.aload_n 1, 1) := by decide +kernel
theorem dL_law_933 : decode cL_law 933 = .ok (.aload_n 0, 1) := by decide +kernel
theorem dL_law_934 : decode cL_law 934 = .ok (.iload_n 3, 1) := by decide +kernel
theorem dL_law_935 : decode cL_law 935 = .ok (.iconst 1, 1) := by decide +kernel
theorem dL_law_936 : decode cL_law 936 = .ok (.iadd, 1) := by decide +kernel
theorem dL_law_937 : decode cL_law 937 = .ok (.iaload, 1) := by decide +kernel
theorem dL_law_938 : decode cL_law 938 = .ok (.aload_n 0, 1) := by decide +kernel
theorem dL_law_939 : decode cL_law 939 = .ok (.iload_n 3, 1) := by decide +kernel
theorem dL_law_940 : decode cL_law 940 = .ok (.iconst 2, 1) := by decide +kernel
theorem dL_law_941 : decode cL_law 941 = .ok (.iadd, 1) := by decide +kernel
theorem dL_law_942 : decode cL_law 942 = .ok (.iaload, 1) := by decide +kernel
theorem dL_law_943 : decode cL_law 943 = .ok (.aload_n 0, 1) := by decide +kernel
theorem dL_law_944 : decode cL_law 944 = .ok (.iload_n 3, 1) := by decide +kernel
theorem dL_law_945 : decode cL_law 945 = .ok (.iconst 3, 1) := by decide +kernel
theorem dL_law_946 : decode cL_law 946 = .ok (.iadd, 1) := by decide +kernel
theorem dL_law_947 : decode cL_law 947 = .ok (.iaload, 1) := by decide +kernel
theorem dL_law_948 : decode cL_law 948 = .ok (.invokevirtual 121, 3) := by decide +kernel
theorem dL_law_951 : decode cL_law 951 = .ok (.aload_n 2, 1) := by decide +kernel
theorem dL_law_952 : decode cL_law 952 = .ok (.aload_n 0, 1) := by decide +kernel
theorem dL_law_953 : decode cL_law 953 = .ok (.iload_n 3, 1) := by decide +kernel
theorem dL_law_954 : decode cL_law 954 = .ok (.iconst 1, 1) := by decide +kernel
theorem dL_law_955 : decode cL_law 955 = .ok (.iadd, 1) := by decide +kernel
theorem dL_law_956 : decode cL_law 956 = .ok (.iaload, 1) := by decide +kernel
theorem dL_law_957 : decode cL_law 957 = .ok (.aload_n 0, 1) := by decide +kernel
theorem dL_law_958 : decode cL_law 958 = .ok (.iload_n 3, 1) := by decide +kernel
theorem dL_law_959 : decode cL_law 959 = .ok (.iconst 2, 1) := by decide +kernel
theorem dL_law_960 : decode cL_law 960 = .ok (.iadd, 1) := by decide +kernel
theorem dL_law_961 : decode cL_law 961 = .ok (.iaload, 1) := by decide +kernel
theorem dL_law_962 : decode cL_law 962 = .ok (.aload_n 0, 1) := by decide +kernel
theorem dL_law_963 : decode cL_law 963 = .ok (.iload_n 3, 1) := by decide +kernel
theorem dL_law_964 : decode cL_law 964 = .ok (.iconst 3, 1) := by decide +kernel
theorem dL_law_965 : decode cL_law 965 = .ok (.iadd, 1) := by decide +kernel
theorem dL_law_966 : decode cL_law 966 = .ok (.iaload, 1) := by decide +kernel
theorem dL_law_967 : decode cL_law 967 = .ok (.invokevirtual 124, 3) := by decide +kernel
theorem dL_law_970 : decode cL_law 970 = .ok (.if_icmp .eq 156, 3) := by decide +kernel
theorem dL_law_973 : decode cL_law 973 = .ok (.iconst 0, 1) := by decide +kernel
theorem dL_law_974 : decode cL_law 974 = .ok (.ireturn, 1) := by decide +kernel
theorem dL_law_975 : decode cL_law 975 = .ok (.aload_n 1, 1) := by decide +kernel
theorem dL_law_976 : decode cL_law 976 = .ok (.aload_n 0, 1) := by decide +kernel
theorem dL_law_977 : decode cL_law 977 = .ok (.iload_n 3, 1) := by decide +kernel
theorem dL_law_978 : decode cL_law 978 = .ok (.iconst 1, 1) := by decide +kernel
theorem dL_law_979 : decode cL_law 979 = .ok (.iadd, 1) := by decide +kernel
theorem dL_law_980 : decode cL_law 980 = .ok (.iaload, 1) := by decide +kernel
theorem dL_law_981 : decode cL_law 981 = .ok (.invokevirtual 125, 3) := by decide +kernel
theorem dL_law_984 : decode cL_law 984 = .ok (.aload_n 2, 1) := by decide +kernel
theorem dL_law_985 : decode cL_law 985 = .ok (.aload_n 0, 1) := by decide +kernel
theorem dL_law_986 : decode cL_law 986 = .ok (.iload_n 3, 1) := by decide +kernel
theorem dL_law_987 : decode cL_law 987 = .ok (.iconst 1, 1) := by decide +kernel
theorem dL_law_988 : decode cL_law 988 = .ok (.iadd, 1) := by decide +kernel
theorem dL_law_989 : decode cL_law 989 = .ok (.iaload, 1) := by decide +kernel
theorem dL_law_990 : decode cL_law 990 = .ok (.invokevirtual 128, 3) := by decide +kernel
theorem dL_law_993 : decode cL_law 993 = .ok (.if_icmp .eq 133, 3) := by decide +kernel
theorem dL_law_996 : decode cL_law 996 = .ok (.iconst 0, 1) := by decide +kernel
theorem dL_law_997 : decode cL_law 997 = .ok (.ireturn, 1) := by decide +kernel
theorem dL_law_998 : decode cL_law 998 = .ok (.aload_n 1, 1) := by decide +kernel
theorem dL_law_999 : decode cL_law 999 = .ok (.aload_n 0, 1) := by decide +kernel
theorem dL_law_1000 : decode cL_law 1000 = .ok (.iload_n 3, 1) := by decide +kernel
theorem dL_law_1001 : decode cL_law 1001 = .ok (.iconst 1, 1) := by decide +kernel
theorem dL_law_1002 : decode cL_law 1002 = .ok (.iadd, 1) := by decide +kernel
theorem dL_law_1003 : decode cL_law 1003 = .ok (.iaload, 1) := by decide +kernel
theorem dL_law_1004 : decode cL_law 1004 = .ok (.invokevirtual 129, 3) := by decide +kernel
theorem dL_law_1007 : decode cL_law 1007 = .ok (.aload_n 2, 1) := by decide +kernel
theorem dL_law_1008 : decode cL_law 1008 = .ok (.aload_n 0, 1) := by decide +kernel
theorem dL_law_1009 : decode cL_law 1009 = .ok (.iload_n 3, 1) := by decide +kernel
theorem dL_law_1010 : decode cL_law 1010 = .ok (.iconst 1, 1) := by decide +kernel
theorem dL_law_1011 : decode cL_law 1011 = .ok (.iadd, 1) := by decide +kernel
theorem dL_law_1012 : decode cL_law 1012 = .ok (.iaload, 1) := by decide +kernel
theorem dL_law_1013 : decode cL_law 1013 = .ok (.invokevirtual 132, 3) := by decide +kernel
theorem dL_law_1016 : decode cL_law 1016 = .ok (.if_icmp .eq 110, 3) := by decide +kernel
theorem dL_law_1019 : decode cL_law 1019 = .ok (.iconst 0, 1) := by decide +kernel
theorem dL_law_1020 : decode cL_law 1020 = .ok (.ireturn, 1) := by decide +kernel
theorem dL_law_1021 : decode cL_law 1021 = .ok (.aload_n 1, 1) := by decide +kernel
theorem dL_law_1022 : decode cL_law 1022 = .ok (.invokevirtual 133, 3) := by decide +kernel
theorem dL_law_1025 : decode cL_law 1025 = .ok (.aload_n 2, 1) := by decide +kernel
theorem dL_law_1026 : decode cL_law 1026 = .ok (.invokevirtual 136, 3) := by decide +kernel
theorem dL_law_1029 : decode cL_law 1029 = .ok (.if_icmp .eq 97, 3) := by decide +kernel
theorem dL_law_1032 : decode cL_law 1032 = .ok (.iconst 0, 1) := by decide +kernel
theorem dL_law_1033 : decode cL_law 1033 = .ok (.ireturn, 1) := by decide +kernel
theorem dL_law_1034 : decode cL_law 1034 = .ok (.aload_n 1, 1) := by decide +kernel
theorem dL_law_1035 : decode cL_law 1035 = .ok (.aload_n 0, 1) := by decide +kernel
theorem dL_law_1036 : decode cL_law 1036 = .ok (.iload_n 3, 1) := by decide +kernel
theorem dL_law_1037 : decode cL_law 1037 = .ok (.iconst 1, 1) := by decide +kernel
theorem dL_law_1038 : decode cL_law 1038 = .ok (.iadd, 1) := by decide +kernel
theorem dL_law_1039 : decode cL_law 1039 = .ok (.iaload, 1) := by decide +kernel
theorem dL_law_1040 : decode cL_law 1040 = .ok (.aload_n 0, 1) := by decide +kernel
theorem dL_law_1041 : decode cL_law 1041 = .ok (.iload_n 3, 1) := by decide +kernel
theorem dL_law_1042 : decode cL_law 1042 = .ok (.iconst 2, 1) := by decide +kernel
theorem dL_law_1043 : decode cL_law 1043 = .ok (.iadd, 1) := by decide +kernel
theorem dL_law_1044 : decode cL_law 1044 = .ok (.iaload, 1) := by decide +kernel
theorem dL_law_1045 : decode cL_law 1045 = .ok (.aload_n 0, 1) := by decide +kernel
theorem dL_law_1046 : decode cL_law 1046 = .ok (.iload_n 3, 1) := by decide +kernel
theorem dL_law_1047 : decode cL_law 1047 = .ok (.iconst 3, 1) := by decide +kernel
theorem dL_law_1048 : decode cL_law 1048 = .ok (.iadd, 1) := by decide +kernel
theorem dL_law_1049 : decode cL_law 1049 = .ok (.iaload, 1) := by decide +kernel
theorem dL_law_1050 : decode cL_law 1050 = .ok (.invokevirtual 137, 3) := by decide +kernel
theorem dL_law_1053 : decode cL_law 1053 = .ok (.aload_n 2, 1) := by decide +kernel
theorem dL_law_1054 : decode cL_law 1054 = .ok (.aload_n 0, 1) := by decide +kernel
theorem dL_law_1055 : decode cL_law 1055 = .ok (.iload_n 3, 1) := by decide +kernel
theorem dL_law_1056 : decode cL_law 1056 = .ok (.iconst 1, 1) := by decide +kernel
theorem dL_law_1057 : decode cL_law 1057 = .ok (.iadd, 1) := by decide +kernel
theorem dL_law_1058 : decode cL_law 1058 = .ok (.iaload, 1) := by decide +kernel
theorem dL_law_1059 : decode cL_law 1059 = .ok (.aload_n 0, 1) := by decide +kernel
theorem dL_law_1060 : decode cL_law 1060 = .ok (.iload_n 3, 1) := by decide +kernel
theorem dL_law_1061 : decode cL_law 1061 = .ok (.iconst 2, 1) := by decide +kernel
theorem dL_law_1062 : decode cL_law 1062 = .ok (.iadd, 1) := by decide +kernel
theorem dL_law_1063 : decode cL_law 1063 = .ok (.iaload, 1) := by decide +kernel
theorem dL_law_1064 : decode cL_law 1064 = .ok (.aload_n 0, 1) := by decide +kernel
theorem dL_law_1065 : decode cL_law 1065 = .ok (.iload_n 3, 1) := by decide +kernel
theorem dL_law_1066 : decode cL_law 1066 = .ok (.iconst 3, 1) := by decide +kernel
theorem dL_law_1067 : decode cL_law 1067 = .ok (.iadd, 1) := by decide +kernel
theorem dL_law_1068 : decode cL_law 1068 = .ok (.iaload, 1) := by decide +kernel
theorem dL_law_1069 : decode cL_law 1069 = .ok (.invokevirtual 140, 3) := by decide +kernel
theorem dL_law_1072 : decode cL_law 1072 = .ok (.if_icmp .eq 54, 3) := by decide +kernel
theorem dL_law_1075 : decode cL_law 1075 = .ok (.iconst 0, 1) := by decide +kernel
theorem dL_law_1076 : decode cL_law 1076 = .ok (.ireturn, 1) := by decide +kernel
theorem dL_law_1077 : decode cL_law 1077 = .ok (.aload_n 1, 1) := by decide +kernel
theorem dL_law_1078 : decode cL_law 1078 = .ok (.invokevirtual 141, 3) := by decide +kernel
theorem dL_law_1081 : decode cL_law 1081 = .ok (.aload_n 2, 1) := by decide +kernel
theorem dL_law_1082 : decode cL_law 1082 = .ok (.invokevirtual 144, 3) := by decide +kernel
theorem dL_law_1085 : decode cL_law 1085 = .ok (.if_icmp .eq 41, 3) := by decide +kernel
theorem dL_law_1088 : decode cL_law 1088 = .ok (.iconst 0, 1) := by decide +kernel
theorem dL_law_1089 : decode cL_law 1089 = .ok (.ireturn, 1) := by decide +kernel
theorem dL_law_1090 : decode cL_law 1090 = .ok (.aload_n 1, 1) := by decide +kernel
theorem dL_law_1091 : decode cL_law 1091 = .ok (.invokevirtual 145, 3) := by decide +kernel
theorem dL_law_1094 : decode cL_law 1094 = .ok (.aload_n 2, 1) := by decide +kernel
theorem dL_law_1095 : decode cL_law 1095 = .ok (.invokevirtual 148, 3) := by decide +kernel
theorem dL_law_1098 : decode cL_law 1098 = .ok (.if_icmp .eq 28, 3) := by decide +kernel
theorem dL_law_1101 : decode cL_law 1101 = .ok (.iconst 0, 1) := by decide +kernel
theorem dL_law_1102 : decode cL_law 1102 = .ok (.ireturn, 1) := by decide +kernel
theorem dL_law_1103 : decode cL_law 1103 = .ok (.aload_n 1, 1) := by decide +kernel
theorem dL_law_1104 : decode cL_law 1104 = .ok (.aload_n 0, 1) := by decide +kernel
theorem dL_law_1105 : decode cL_law 1105 = .ok (.iload_n 3, 1) := by decide +kernel
theorem dL_law_1106 : decode cL_law 1106 = .ok (.iconst 1, 1) := by decide +kernel
theorem dL_law_1107 : decode cL_law 1107 = .ok (.iadd, 1) := by decide +kernel
theorem dL_law_1108 : decode cL_law 1108 = .ok (.iaload, 1) := by decide +kernel
theorem dL_law_1109 : decode cL_law 1109 = .ok (.invokevirtual 149, 3) := by decide +kernel
theorem dL_law_1112 : decode cL_law 1112 = .ok (.aload_n 2, 1) := by decide +kernel
theorem dL_law_1113 : decode cL_law 1113 = .ok (.aload_n 0, 1) := by decide +kernel
theorem dL_law_1114 : decode cL_law 1114 = .ok (.iload_n 3, 1) := by decide +kernel
theorem dL_law_1115 : decode cL_law 1115 = .ok (.iconst 1, 1) := by decide +kernel
theorem dL_law_1116 : decode cL_law 1116 = .ok (.iadd, 1) := by decide +kernel
theorem dL_law_1117 : decode cL_law 1117 = .ok (.iaload, 1) := by decide +kernel
theorem dL_law_1118 : decode cL_law 1118 = .ok (.invokevirtual 152, 3) := by decide +kernel
theorem dL_law_1121 : decode cL_law 1121 = .ok (.if_icmp .eq 5, 3) := by decide +kernel
theorem dL_law_1124 : decode cL_law 1124 = .ok (.iconst 0, 1) := by decide +kernel
theorem dL_law_1125 : decode cL_law 1125 = .ok (.ireturn, 1) := by decide +kernel
theorem dL_law_1126 : decode cL_law 1126 = .ok (.iinc 3 4, 3) := by decide +kernel
theorem dL_law_1129 : decode cL_law 1129 = .ok (.goto (-1111), 3) := by decide +kernel
theorem dL_law_1132 : decode cL_law 1132 = .ok (.iconst 1, 1) := by decide +kernel
theorem dL_law_1133 : decode cL_law 1133 = .ok (.ireturn, 1) := by decide +kernel
end
section
def gT : List Cond := lw_tbl.filter goodWord
theorem gT_good : ∀ w ∈ gT, goodWord w = true := fun w h => (List.mem_filter.mp h).2
theorem gT_of {args : Array Value} {s : State} (h : ∀ w ∈ lw_tbl, w.before args s = true) : ∀ w ∈ gT, w.before args s = true := fun w hw => h w (List.mem_filter.mp hw).1
theorem gk0 (i : Nat) (q : MethodName × Nat) (h0 : lw_privs[i]? = some q) (hg : goodWord (Cond.selects q.1.cls q.1 q.1) = true) : Cond.selects q.1.cls q.1 q.1 ∈ gT := List.mem_filter.mpr ⟨List.mem_append_left _ (List.mem_map.mpr ⟨q, List.mem_of_getElem? h0, rfl⟩), hg⟩
theorem gk1 (i : Nat) {w : Cond} (h0 : tables_1_1[i]? = some w) (hg : goodWord w = true) : w ∈ gT := by
  have h := List.mem_of_getElem? h0
  exact List.mem_filter.mpr ⟨List.mem_append_right _ (List.mem_append_left _ h), hg⟩
theorem gk2 (i : Nat) {w : Cond} (h0 : tables_1_2[i]? = some w) (hg : goodWord w = true) : w ∈ gT := by
  have h := List.mem_of_getElem? h0
  exact List.mem_filter.mpr ⟨List.mem_append_right _ (List.mem_append_right _ (List.mem_append_left _ h)), hg⟩
theorem gk3 (i : Nat) {w : Cond} (h0 : tables_1_3[i]? = some w) (hg : goodWord w = true) : w ∈ gT := by
  have h := List.mem_of_getElem? h0
  exact List.mem_filter.mpr ⟨List.mem_append_right _ (List.mem_append_right _ (List.mem_append_right _ (List.mem_append_left _ h))), hg⟩
theorem gk4 (i : Nat) {w : Cond} (h0 : tables_1_4[i]? = some w) (hg : goodWord w = true) : w ∈ gT := by
  have h := List.mem_of_getElem? h0
  exact List.mem_filter.mpr ⟨List.mem_append_right _ (List.mem_append_right _ (List.mem_append_right _ (List.mem_append_right _ (List.mem_append_left _ h)))), hg⟩
theorem gk5 (i : Nat) {w : Cond} (h0 : tables_1_5[i]? = some w) (hg : goodWord w = true) : w ∈ gT := by
  have h := List.mem_of_getElem? h0
  exact List.mem_filter.mpr ⟨List.mem_append_right _ (List.mem_append_right _ (List.mem_append_right _ (List.mem_append_right _ (List.mem_append_right _ h)))), hg⟩
theorem k0 : (Cond.selects "GreenHorseUpstairs$Rooms" (⟨"GreenHorseUpstairs$Rooms", "measure", "()V"⟩ : MethodName) (⟨"GreenHorseUpstairs$Rooms", "measure", "()V"⟩ : MethodName)) ∈ gT := gk0 0 ((⟨"GreenHorseUpstairs$Rooms", "measure", "()V"⟩ : MethodName), 2) rfl rfl
theorem k1 : (Cond.selects "GreenHorseUpstairs$Rooms" (⟨"GreenHorseUpstairs$Rooms", "shortenBy", "(I)V"⟩ : MethodName) (⟨"GreenHorseUpstairs$Rooms", "shortenBy", "(I)V"⟩ : MethodName)) ∈ gT := gk0 1 ((⟨"GreenHorseUpstairs$Rooms", "shortenBy", "(I)V"⟩ : MethodName), 2) rfl rfl
theorem k2 : (Cond.selects "GreenHorseUpstairs" (⟨"GreenHorseUpstairs", "refuse", "(I)I"⟩ : MethodName) (⟨"GreenHorseUpstairs", "refuse", "(I)I"⟩ : MethodName)) ∈ gT := gk0 2 ((⟨"GreenHorseUpstairs", "refuse", "(I)I"⟩ : MethodName), 9) rfl rfl
theorem k3 : (Cond.selects "GreenHorseUpstairs$Letters" (⟨"GreenHorseUpstairs$Letters", "faultOfStatement", "(I)I"⟩ : MethodName) (⟨"GreenHorseUpstairs$Letters", "faultOfStatement", "(I)I"⟩ : MethodName)) ∈ gT := gk0 3 ((⟨"GreenHorseUpstairs$Letters", "faultOfStatement", "(I)I"⟩ : MethodName), 2) rfl rfl
theorem k4 : (Cond.selects "GreenHorseUpstairs" (⟨"GreenHorseUpstairs", "performAll", "()I"⟩ : MethodName) (⟨"GreenHorseUpstairs", "performAll", "()I"⟩ : MethodName)) ∈ gT := gk0 4 ((⟨"GreenHorseUpstairs", "performAll", "()I"⟩ : MethodName), 9) rfl rfl
theorem k5 : (Cond.selects "GreenHorseUpstairs" (⟨"GreenHorseUpstairs", "perform", "(I)Z"⟩ : MethodName) (⟨"GreenHorseUpstairs", "perform", "(I)Z"⟩ : MethodName)) ∈ gT := gk0 5 ((⟨"GreenHorseUpstairs", "perform", "(I)Z"⟩ : MethodName), 9) rfl rfl
theorem k6 : (Cond.selects "GreenHorseUpstairs" (⟨"GreenHorseUpstairs", "performDoor", "(II)Z"⟩ : MethodName) (⟨"GreenHorseUpstairs", "performDoor", "(II)Z"⟩ : MethodName)) ∈ gT := gk0 6 ((⟨"GreenHorseUpstairs", "performDoor", "(II)Z"⟩ : MethodName), 9) rfl rfl
theorem k7 : (Cond.selects "GreenHorseUpstairs" (⟨"GreenHorseUpstairs", "performQuestion", "(IIII)Z"⟩ : MethodName) (⟨"GreenHorseUpstairs", "performQuestion", "(IIII)Z"⟩ : MethodName)) ∈ gT := gk0 7 ((⟨"GreenHorseUpstairs", "performQuestion", "(IIII)Z"⟩ : MethodName), 9) rfl rfl
theorem k8 : (Cond.selects "GreenHorseUpstairs" (⟨"GreenHorseUpstairs", "performGroup", "(III)Z"⟩ : MethodName) (⟨"GreenHorseUpstairs", "performGroup", "(III)Z"⟩ : MethodName)) ∈ gT := gk0 8 ((⟨"GreenHorseUpstairs", "performGroup", "(III)Z"⟩ : MethodName), 9) rfl rfl
theorem k9 : (Cond.selects "GreenHorseUpstairs" (⟨"GreenHorseUpstairs", "performPlace", "(II)Z"⟩ : MethodName) (⟨"GreenHorseUpstairs", "performPlace", "(II)Z"⟩ : MethodName)) ∈ gT := gk0 9 ((⟨"GreenHorseUpstairs", "performPlace", "(II)Z"⟩ : MethodName), 9) rfl rfl
theorem k10 : (Cond.selects "GreenHorseUpstairs" (⟨"GreenHorseUpstairs", "noGroup", "(I)Z"⟩ : MethodName) (⟨"GreenHorseUpstairs", "noGroup", "(I)Z"⟩ : MethodName)) ∈ gT := gk0 10 ((⟨"GreenHorseUpstairs", "noGroup", "(I)Z"⟩ : MethodName), 9) rfl rfl
theorem k11 : (Cond.selects "GreenHorseUpstairs" (⟨"GreenHorseUpstairs", "performAnswer", "(III)Z"⟩ : MethodName) (⟨"GreenHorseUpstairs", "performAnswer", "(III)Z"⟩ : MethodName)) ∈ gT := gk0 11 ((⟨"GreenHorseUpstairs", "performAnswer", "(III)Z"⟩ : MethodName), 9) rfl rfl
theorem k12 : (Cond.selects "GreenHorseUpstairs" (⟨"GreenHorseUpstairs", "noQuestion", "(I)Z"⟩ : MethodName) (⟨"GreenHorseUpstairs", "noQuestion", "(I)Z"⟩ : MethodName)) ∈ gT := gk0 12 ((⟨"GreenHorseUpstairs", "noQuestion", "(I)Z"⟩ : MethodName), 9) rfl rfl
theorem k13 : (Cond.selects "GreenHorseUpstairs" (⟨"GreenHorseUpstairs", "performMinutes", "(I)Z"⟩ : MethodName) (⟨"GreenHorseUpstairs", "performMinutes", "(I)Z"⟩ : MethodName)) ∈ gT := gk0 13 ((⟨"GreenHorseUpstairs", "performMinutes", "(I)Z"⟩ : MethodName), 9) rfl rfl
theorem k14 : (Cond.selects "GreenHorseUpstairs$Museum" (⟨"GreenHorseUpstairs$Museum", "goOnWith", "(II)V"⟩ : MethodName) (⟨"GreenHorseUpstairs$Museum", "goOnWith", "(II)V"⟩ : MethodName)) ∈ gT := gk0 14 ((⟨"GreenHorseUpstairs$Museum", "goOnWith", "(II)V"⟩ : MethodName), 15) rfl rfl
theorem k15 : (Cond.selects "GreenHorseUpstairs$Museum" (⟨"GreenHorseUpstairs$Museum", "wouldCopy", "(II)Z"⟩ : MethodName) (⟨"GreenHorseUpstairs$Museum", "wouldCopy", "(II)Z"⟩ : MethodName)) ∈ gT := gk0 15 ((⟨"GreenHorseUpstairs$Museum", "wouldCopy", "(II)Z"⟩ : MethodName), 15) rfl rfl
theorem k16 : (Cond.selects "GreenHorseUpstairs$Museum" (⟨"GreenHorseUpstairs$Museum", "sourceFor", "(II)I"⟩ : MethodName) (⟨"GreenHorseUpstairs$Museum", "sourceFor", "(II)I"⟩ : MethodName)) ∈ gT := gk0 16 ((⟨"GreenHorseUpstairs$Museum", "sourceFor", "(II)I"⟩ : MethodName), 15) rfl rfl
theorem k17 : (Cond.selects "GreenHorseUpstairs$Museum" (⟨"GreenHorseUpstairs$Museum", "ownAnswer", "(II)I"⟩ : MethodName) (⟨"GreenHorseUpstairs$Museum", "ownAnswer", "(II)I"⟩ : MethodName)) ∈ gT := gk0 17 ((⟨"GreenHorseUpstairs$Museum", "ownAnswer", "(II)I"⟩ : MethodName), 15) rfl rfl
theorem k18 : (Cond.selects "GreenHorseUpstairs" (⟨"GreenHorseUpstairs", "thinkAhead", "(I)V"⟩ : MethodName) (⟨"GreenHorseUpstairs", "thinkAhead", "(I)V"⟩ : MethodName)) ∈ gT := gk0 18 ((⟨"GreenHorseUpstairs", "thinkAhead", "(I)V"⟩ : MethodName), 9) rfl rfl
theorem k19 : (Cond.selects "GreenHorseUpstairs" (⟨"GreenHorseUpstairs", "think", "()V"⟩ : MethodName) (⟨"GreenHorseUpstairs", "think", "()V"⟩ : MethodName)) ∈ gT := gk0 19 ((⟨"GreenHorseUpstairs", "think", "()V"⟩ : MethodName), 9) rfl rfl
theorem k20 : (Cond.selects "GreenHorseUpstairs" (⟨"GreenHorseUpstairs", "minutesTillDone", "(I)I"⟩ : MethodName) (⟨"GreenHorseUpstairs", "minutesTillDone", "(I)I"⟩ : MethodName)) ∈ gT := gk0 20 ((⟨"GreenHorseUpstairs", "minutesTillDone", "(I)I"⟩ : MethodName), 9) rfl rfl
theorem k21 : (Cond.selects "GreenHorseUpstairs" (⟨"GreenHorseUpstairs", "firstDone", "()I"⟩ : MethodName) (⟨"GreenHorseUpstairs", "firstDone", "()I"⟩ : MethodName)) ∈ gT := gk0 21 ((⟨"GreenHorseUpstairs", "firstDone", "()I"⟩ : MethodName), 9) rfl rfl
theorem k22 : (Cond.selects "GreenHorseUpstairs" (⟨"GreenHorseUpstairs", "minutesTillAllDone", "()I"⟩ : MethodName) (⟨"GreenHorseUpstairs", "minutesTillAllDone", "()I"⟩ : MethodName)) ∈ gT := gk0 22 ((⟨"GreenHorseUpstairs", "minutesTillAllDone", "()I"⟩ : MethodName), 9) rfl rfl
theorem k23 : (Cond.selects "GreenHorseUpstairs" (⟨"GreenHorseUpstairs", "fullest", "(II)I"⟩ : MethodName) (⟨"GreenHorseUpstairs", "fullest", "(II)I"⟩ : MethodName)) ∈ gT := gk0 23 ((⟨"GreenHorseUpstairs", "fullest", "(II)I"⟩ : MethodName), 9) rfl rfl
theorem k24 : (Cond.selects "GreenHorseUpstairs" (⟨"GreenHorseUpstairs", "soonestFirst", "(I)I"⟩ : MethodName) (⟨"GreenHorseUpstairs", "soonestFirst", "(I)I"⟩ : MethodName)) ∈ gT := gk0 24 ((⟨"GreenHorseUpstairs", "soonestFirst", "(I)I"⟩ : MethodName), 9) rfl rfl
theorem k25 : (Cond.selects "GreenHorseUpstairs" (⟨"GreenHorseUpstairs", "truestFirst", "(I)I"⟩ : MethodName) (⟨"GreenHorseUpstairs", "truestFirst", "(I)I"⟩ : MethodName)) ∈ gT := gk0 25 ((⟨"GreenHorseUpstairs", "truestFirst", "(I)I"⟩ : MethodName), 9) rfl rfl
theorem k26 : (Cond.selects "GreenHorseUpstairs" (⟨"GreenHorseUpstairs", "firstsApart", "()I"⟩ : MethodName) (⟨"GreenHorseUpstairs", "firstsApart", "()I"⟩ : MethodName)) ∈ gT := gk0 26 ((⟨"GreenHorseUpstairs", "firstsApart", "()I"⟩ : MethodName), 9) rfl rfl
theorem k27 : (Cond.selects "GreenHorseUpstairs" (⟨"GreenHorseUpstairs", "fullestWith", "(I)I"⟩ : MethodName) (⟨"GreenHorseUpstairs", "fullestWith", "(I)I"⟩ : MethodName)) ∈ gT := gk0 27 ((⟨"GreenHorseUpstairs", "fullestWith", "(I)I"⟩ : MethodName), 9) rfl rfl
theorem k28 : (Cond.selects "GreenHorseUpstairs" (⟨"GreenHorseUpstairs", "firstIn", "(II)I"⟩ : MethodName) (⟨"GreenHorseUpstairs", "firstIn", "(II)I"⟩ : MethodName)) ∈ gT := gk0 28 ((⟨"GreenHorseUpstairs", "firstIn", "(II)I"⟩ : MethodName), 9) rfl rfl
theorem k29 : (Cond.selects "GreenHorseUpstairs" (⟨"GreenHorseUpstairs", "minutesOfAllTogether", "()I"⟩ : MethodName) (⟨"GreenHorseUpstairs", "minutesOfAllTogether", "()I"⟩ : MethodName)) ∈ gT := gk0 29 ((⟨"GreenHorseUpstairs", "minutesOfAllTogether", "()I"⟩ : MethodName), 9) rfl rfl
theorem k30 : (Cond.selects "GreenHorseUpstairs" (⟨"GreenHorseUpstairs", "isContent", "(IIII)Z"⟩ : MethodName) (⟨"GreenHorseUpstairs", "isContent", "(IIII)Z"⟩ : MethodName)) ∈ gT := gk0 30 ((⟨"GreenHorseUpstairs", "isContent", "(IIII)Z"⟩ : MethodName), 9) rfl rfl
theorem k31 : (Cond.selects "GreenHorseUpstairs" (⟨"GreenHorseUpstairs", "minutesByChoice", "(IIII)I"⟩ : MethodName) (⟨"GreenHorseUpstairs", "minutesByChoice", "(IIII)I"⟩ : MethodName)) ∈ gT := gk0 31 ((⟨"GreenHorseUpstairs", "minutesByChoice", "(IIII)I"⟩ : MethodName), 9) rfl rfl
theorem k32 : (Cond.selects "GreenHorseUpstairs" (⟨"GreenHorseUpstairs", "firstChosen", "(II)I"⟩ : MethodName) (⟨"GreenHorseUpstairs", "firstChosen", "(II)I"⟩ : MethodName)) ∈ gT := gk0 32 ((⟨"GreenHorseUpstairs", "firstChosen", "(II)I"⟩ : MethodName), 9) rfl rfl
theorem k33 : (Cond.selects "GreenHorseUpstairs" (⟨"GreenHorseUpstairs", "rowTellsSheetOf", "(I)Z"⟩ : MethodName) (⟨"GreenHorseUpstairs", "rowTellsSheetOf", "(I)Z"⟩ : MethodName)) ∈ gT := gk0 33 ((⟨"GreenHorseUpstairs", "rowTellsSheetOf", "(I)Z"⟩ : MethodName), 9) rfl rfl
theorem k34 : (Cond.selects "GreenHorseUpstairsModel" (⟨"GreenHorseUpstairsModel", "no", "(I)I"⟩ : MethodName) (⟨"GreenHorseUpstairsModel", "no", "(I)I"⟩ : MethodName)) ∈ gT := gk0 34 ((⟨"GreenHorseUpstairsModel", "no", "(I)I"⟩ : MethodName), 17) rfl rfl
theorem k35 : (Cond.selects "GreenHorseUpstairsModel" (⟨"GreenHorseUpstairsModel", "readsStatement", "()Z"⟩ : MethodName) (⟨"GreenHorseUpstairsModel", "readsStatement", "()Z"⟩ : MethodName)) ∈ gT := gk0 35 ((⟨"GreenHorseUpstairsModel", "readsStatement", "()Z"⟩ : MethodName), 17) rfl rfl
theorem k36 : (Cond.selects "GreenHorseUpstairsModel" (⟨"GreenHorseUpstairsModel", "here", "()I"⟩ : MethodName) (⟨"GreenHorseUpstairsModel", "here", "()I"⟩ : MethodName)) ∈ gT := gk0 36 ((⟨"GreenHorseUpstairsModel", "here", "()I"⟩ : MethodName), 17) rfl rfl
theorem k37 : (Cond.selects "GreenHorseUpstairsModel" (⟨"GreenHorseUpstairsModel", "readsDigit", "(I)Z"⟩ : MethodName) (⟨"GreenHorseUpstairsModel", "readsDigit", "(I)Z"⟩ : MethodName)) ∈ gT := gk0 37 ((⟨"GreenHorseUpstairsModel", "readsDigit", "(I)Z"⟩ : MethodName), 17) rfl rfl
theorem k38 : (Cond.selects "GreenHorseUpstairsModel" (⟨"GreenHorseUpstairsModel", "readsKind", "()Z"⟩ : MethodName) (⟨"GreenHorseUpstairsModel", "readsKind", "()Z"⟩ : MethodName)) ∈ gT := gk0 38 ((⟨"GreenHorseUpstairsModel", "readsKind", "()Z"⟩ : MethodName), 17) rfl rfl
theorem k39 : (Cond.selects "GreenHorseUpstairsModel" (⟨"GreenHorseUpstairsModel", "isDone", "(I)Z"⟩ : MethodName) (⟨"GreenHorseUpstairsModel", "isDone", "(I)Z"⟩ : MethodName)) ∈ gT := gk0 39 ((⟨"GreenHorseUpstairsModel", "isDone", "(I)Z"⟩ : MethodName), 17) rfl rfl
theorem k40 : (Cond.selects "GreenHorseUpstairsModel" (⟨"GreenHorseUpstairsModel", "turnsDoor", "(II)V"⟩ : MethodName) (⟨"GreenHorseUpstairsModel", "turnsDoor", "(II)V"⟩ : MethodName)) ∈ gT := gk0 40 ((⟨"GreenHorseUpstairsModel", "turnsDoor", "(II)V"⟩ : MethodName), 17) rfl rfl
theorem k41 : (Cond.selects "GreenHorseUpstairsModel" (⟨"GreenHorseUpstairsModel", "isGroup", "(I)Z"⟩ : MethodName) (⟨"GreenHorseUpstairsModel", "isGroup", "(I)Z"⟩ : MethodName)) ∈ gT := gk0 41 ((⟨"GreenHorseUpstairsModel", "isGroup", "(I)Z"⟩ : MethodName), 17) rfl rfl
theorem k42 : (Cond.selects "GreenHorseUpstairsModel" (⟨"GreenHorseUpstairsModel", "isQuestion", "(I)Z"⟩ : MethodName) (⟨"GreenHorseUpstairsModel", "isQuestion", "(I)Z"⟩ : MethodName)) ∈ gT := gk0 42 ((⟨"GreenHorseUpstairsModel", "isQuestion", "(I)Z"⟩ : MethodName), 17) rfl rfl
theorem k43 : (Cond.selects "GreenHorseUpstairsModel" (⟨"GreenHorseUpstairsModel", "minutesOn", "([II)V"⟩ : MethodName) (⟨"GreenHorseUpstairsModel", "minutesOn", "([II)V"⟩ : MethodName)) ∈ gT := gk0 43 ((⟨"GreenHorseUpstairsModel", "minutesOn", "([II)V"⟩ : MethodName), 17) rfl rfl
theorem k44 : (Cond.selects "GreenHorseUpstairsModel" (⟨"GreenHorseUpstairsModel", "minute", "([I)V"⟩ : MethodName) (⟨"GreenHorseUpstairsModel", "minute", "([I)V"⟩ : MethodName)) ∈ gT := gk0 44 ((⟨"GreenHorseUpstairsModel", "minute", "([I)V"⟩ : MethodName), 17) rfl rfl
theorem k45 : (Cond.selects "GreenHorseUpstairsModel" (⟨"GreenHorseUpstairsModel", "goes", "([II)V"⟩ : MethodName) (⟨"GreenHorseUpstairsModel", "goes", "([II)V"⟩ : MethodName)) ∈ gT := gk0 45 ((⟨"GreenHorseUpstairsModel", "goes", "([II)V"⟩ : MethodName), 17) rfl rfl
theorem k46 : (Cond.selects "GreenHorseUpstairsModel" (⟨"GreenHorseUpstairsModel", "onward", "([III)I"⟩ : MethodName) (⟨"GreenHorseUpstairsModel", "onward", "([III)I"⟩ : MethodName)) ∈ gT := gk0 46 ((⟨"GreenHorseUpstairsModel", "onward", "([III)I"⟩ : MethodName), 17) rfl rfl
theorem k47 : (Cond.selects "GreenHorseUpstairsModel" (⟨"GreenHorseUpstairsModel", "doorsTo", "([II)V"⟩ : MethodName) (⟨"GreenHorseUpstairsModel", "doorsTo", "([II)V"⟩ : MethodName)) ∈ gT := gk0 47 ((⟨"GreenHorseUpstairsModel", "doorsTo", "([II)V"⟩ : MethodName), 17) rfl rfl
theorem k48 : (Cond.selects "GreenHorseUpstairsModel" (⟨"GreenHorseUpstairsModel", "doors", "([III)I"⟩ : MethodName) (⟨"GreenHorseUpstairsModel", "doors", "([III)I"⟩ : MethodName)) ∈ gT := gk0 48 ((⟨"GreenHorseUpstairsModel", "doors", "([III)I"⟩ : MethodName), 17) rfl rfl
theorem k49 : (Cond.selects "GreenHorseUpstairsModel" (⟨"GreenHorseUpstairsModel", "begins", "()V"⟩ : MethodName) (⟨"GreenHorseUpstairsModel", "begins", "()V"⟩ : MethodName)) ∈ gT := gk0 49 ((⟨"GreenHorseUpstairsModel", "begins", "()V"⟩ : MethodName), 17) rfl rfl
theorem k50 : (Cond.selects "GreenHorseUpstairsModel" (⟨"GreenHorseUpstairsModel", "doneNow", "(I)I"⟩ : MethodName) (⟨"GreenHorseUpstairsModel", "doneNow", "(I)I"⟩ : MethodName)) ∈ gT := gk0 50 ((⟨"GreenHorseUpstairsModel", "doneNow", "(I)I"⟩ : MethodName), 17) rfl rfl
theorem k51 : (Cond.selects "GreenHorseUpstairsModel" (⟨"GreenHorseUpstairsModel", "doneIn", "(I)I"⟩ : MethodName) (⟨"GreenHorseUpstairsModel", "doneIn", "(I)I"⟩ : MethodName)) ∈ gT := gk0 51 ((⟨"GreenHorseUpstairsModel", "doneIn", "(I)I"⟩ : MethodName), 17) rfl rfl
theorem k52 : (Cond.selects "GreenHorseUpstairsModel" (⟨"GreenHorseUpstairsModel", "allDoneIn", "()I"⟩ : MethodName) (⟨"GreenHorseUpstairsModel", "allDoneIn", "()I"⟩ : MethodName)) ∈ gT := gk0 52 ((⟨"GreenHorseUpstairsModel", "allDoneIn", "()I"⟩ : MethodName), 17) rfl rfl
theorem k53 : (Cond.selects "GreenHorseUpstairsModel" (⟨"GreenHorseUpstairsModel", "findsFull", "(I)V"⟩ : MethodName) (⟨"GreenHorseUpstairsModel", "findsFull", "(I)V"⟩ : MethodName)) ∈ gT := gk0 53 ((⟨"GreenHorseUpstairsModel", "findsFull", "(I)V"⟩ : MethodName), 17) rfl rfl
theorem k54 : (Cond.selects "GreenHorseUpstairsModel" (⟨"GreenHorseUpstairsModel", "leaves", "(I)V"⟩ : MethodName) (⟨"GreenHorseUpstairsModel", "leaves", "(I)V"⟩ : MethodName)) ∈ gT := gk0 54 ((⟨"GreenHorseUpstairsModel", "leaves", "(I)V"⟩ : MethodName), 17) rfl rfl
theorem k55 : (Cond.selects "GreenHorseUpstairsModel" (⟨"GreenHorseUpstairsModel", "noFar", "(I)I"⟩ : MethodName) (⟨"GreenHorseUpstairsModel", "noFar", "(I)I"⟩ : MethodName)) ∈ gT := gk0 55 ((⟨"GreenHorseUpstairsModel", "noFar", "(I)I"⟩ : MethodName), 17) rfl rfl
theorem k56 : (Cond.selects "GreenHorseUpstairsModel" (⟨"GreenHorseUpstairsModel", "orNever", "(I)I"⟩ : MethodName) (⟨"GreenHorseUpstairsModel", "orNever", "(I)I"⟩ : MethodName)) ∈ gT := gk0 56 ((⟨"GreenHorseUpstairsModel", "orNever", "(I)I"⟩ : MethodName), 17) rfl rfl
theorem k57 : (Cond.selects "GreenHorseUpstairsModel" (⟨"GreenHorseUpstairsModel", "doneBy", "(IIIII)I"⟩ : MethodName) (⟨"GreenHorseUpstairsModel", "doneBy", "(IIIII)I"⟩ : MethodName)) ∈ gT := gk0 57 ((⟨"GreenHorseUpstairsModel", "doneBy", "(IIIII)I"⟩ : MethodName), 17) rfl rfl
theorem k58 : (Cond.selects "GreenHorseUpstairsModel" (⟨"GreenHorseUpstairsModel", "isTold", "(I)Z"⟩ : MethodName) (⟨"GreenHorseUpstairsModel", "isTold", "(I)Z"⟩ : MethodName)) ∈ gT := gk0 58 ((⟨"GreenHorseUpstairsModel", "isTold", "(I)Z"⟩ : MethodName), 17) rfl rfl
theorem k59 : (Cond.selects "GreenHorseUpstairsModel" (⟨"GreenHorseUpstairsModel", "drawn", "(I)I"⟩ : MethodName) (⟨"GreenHorseUpstairsModel", "drawn", "(I)I"⟩ : MethodName)) ∈ gT := gk0 59 ((⟨"GreenHorseUpstairsModel", "drawn", "(I)I"⟩ : MethodName), 17) rfl rfl
theorem k60 : (Cond.initialized "GreenHorseUpstairsLaw") ∈ gT := gk1 0 rfl rfl
theorem k61 : (Cond.initialized "GreenHorseUpstairs") ∈ gT := gk1 1 rfl rfl
theorem k62 : (Cond.initialized "GreenHorseUpstairs$Museum") ∈ gT := gk1 2 rfl rfl
theorem k63 : (Cond.initialized "GreenHorseUpstairs$Rooms") ∈ gT := gk1 3 rfl rfl
theorem k64 : (Cond.initialized "java/lang/Math") ∈ gT := gk1 4 rfl rfl
theorem k65 : (Cond.initialized "java/util/Arrays") ∈ gT := gk1 5 rfl rfl
theorem k66 : (Cond.initialized "GreenHorseUpstairs$Letters") ∈ gT := gk1 6 rfl rfl
theorem k67 : (Cond.initialized "GreenHorseUpstairsModel") ∈ gT := gk1 7 rfl rfl
theorem k68 : (Cond.initialized "java/lang/String") ∈ gT := gk1 8 rfl rfl
theorem k69 : (Cond.initialized "java/lang/StringLatin1") ∈ gT := gk1 9 rfl rfl
theorem k70 : (Cond.initialized "java/lang/StringUTF16") ∈ gT := gk1 10 rfl rfl
theorem k71 : (Cond.initialized "jdk/internal/util/Preconditions") ∈ gT := gk1 11 rfl rfl
theorem k72 : (Cond.initialized "java/lang/Character") ∈ gT := gk1 12 rfl rfl
theorem k73 : (Cond.initialized "java/lang/System") ∈ gT := gk1 13 rfl rfl
theorem k74 : (Cond.classLink "GreenHorseUpstairsLaw" 7 "GreenHorseUpstairs") ∈ gT := gk1 14 rfl rfl
theorem k75 : (Cond.instantiable "GreenHorseUpstairs" 9) ∈ gT := gk1 15 rfl rfl
theorem k76 : (Cond.methodLink "GreenHorseUpstairsLaw" 9 (⟨"GreenHorseUpstairs", "<init>", "()V"⟩ : MethodName)) ∈ gT := gk1 16 rfl rfl
theorem k77 : (Cond.instanceMethod (⟨"GreenHorseUpstairs", "<init>", "()V"⟩ : MethodName)) ∈ gT := gk1 17 rfl rfl
theorem k78 : (Cond.code (⟨"GreenHorseUpstairs", "<init>", "()V"⟩ : MethodName) prog_1_method_1_code 1 (Option.none : Option FieldType)) ∈ gT := gk1 18 rfl rfl
theorem k79 : (Cond.methodLink "GreenHorseUpstairs" 1 (⟨"java/lang/Object", "<init>", "()V"⟩ : MethodName)) ∈ gT := gk1 19 rfl rfl
theorem k80 : (Cond.instanceMethod (⟨"java/lang/Object", "<init>", "()V"⟩ : MethodName)) ∈ gT := gk1 20 rfl rfl
theorem k81 : (Cond.code (⟨"java/lang/Object", "<init>", "()V"⟩ : MethodName) object_method_1_code 1 (Option.none : Option FieldType)) ∈ gT := gk1 21 rfl rfl
theorem k82 : (Cond.classLink "GreenHorseUpstairs" 7 "GreenHorseUpstairs$Museum") ∈ gT := gk1 22 rfl rfl
theorem k83 : (Cond.instantiable "GreenHorseUpstairs$Museum" 15) ∈ gT := gk1 23 rfl rfl
theorem k84 : (Cond.methodLink "GreenHorseUpstairs" 9 (⟨"GreenHorseUpstairs$Museum", "<init>", "()V"⟩ : MethodName)) ∈ gT := gk1 24 rfl rfl
theorem k85 : (Cond.instanceMethod (⟨"GreenHorseUpstairs$Museum", "<init>", "()V"⟩ : MethodName)) ∈ gT := gk1 25 rfl rfl
theorem k86 : (Cond.code (⟨"GreenHorseUpstairs$Museum", "<init>", "()V"⟩ : MethodName) prog_3_method_1_code 1 (Option.none : Option FieldType)) ∈ gT := gk1 26 rfl rfl
theorem k87 : (Cond.methodLink "GreenHorseUpstairs$Museum" 3 (⟨"java/lang/Object", "<init>", "()V"⟩ : MethodName)) ∈ gT := gk1 27 rfl rfl
theorem k88 : (Cond.classLink "GreenHorseUpstairs$Museum" 9 "GreenHorseUpstairs$Rooms") ∈ gT := gk1 28 rfl rfl
theorem k89 : (Cond.instantiable "GreenHorseUpstairs$Rooms" 2) ∈ gT := gk1 29 rfl rfl
theorem k90 : (Cond.methodLink "GreenHorseUpstairs$Museum" 11 (⟨"GreenHorseUpstairs$Rooms", "<init>", "()V"⟩ : MethodName)) ∈ gT := gk1 30 rfl rfl
theorem k91 : (Cond.instanceMethod (⟨"GreenHorseUpstairs$Rooms", "<init>", "()V"⟩ : MethodName)) ∈ gT := gk1 31 rfl rfl
theorem k92 : (Cond.code (⟨"GreenHorseUpstairs$Rooms", "<init>", "()V"⟩ : MethodName) prog_4_method_1_code 1 (Option.none : Option FieldType)) ∈ gT := gk1 32 rfl rfl
theorem k93 : (Cond.methodLink "GreenHorseUpstairs$Rooms" 3 (⟨"java/lang/Object", "<init>", "()V"⟩ : MethodName)) ∈ gT := gk1 33 rfl rfl
theorem k94 : (Cond.methodLink "GreenHorseUpstairs$Rooms" 18 (⟨"GreenHorseUpstairs$Rooms", "measure", "()V"⟩ : MethodName)) ∈ gT := gk1 34 rfl rfl
theorem k96 : (Cond.instanceMethod (⟨"GreenHorseUpstairs$Rooms", "measure", "()V"⟩ : MethodName)) ∈ gT := gk1 36 rfl rfl
theorem k97 : (Cond.code (⟨"GreenHorseUpstairs$Rooms", "measure", "()V"⟩ : MethodName) prog_4_method_8_code 2 (Option.none : Option FieldType)) ∈ gT := gk1 37 rfl rfl
theorem k98 : (Cond.methodLink "GreenHorseUpstairs$Rooms" 31 (⟨"GreenHorseUpstairs$Rooms", "shortenBy", "(I)V"⟩ : MethodName)) ∈ gT := gk1 38 rfl rfl
theorem k100 : (Cond.instanceMethod (⟨"GreenHorseUpstairs$Rooms", "shortenBy", "(I)V"⟩ : MethodName)) ∈ gT := gk1 40 rfl rfl
theorem k101 : (Cond.code (⟨"GreenHorseUpstairs$Rooms", "shortenBy", "(I)V"⟩ : MethodName) prog_4_method_9_code 5 (Option.none : Option FieldType)) ∈ gT := gk1 41 rfl rfl
theorem k102 : (Cond.methodLink "GreenHorseUpstairs$Rooms" 35 (⟨"java/lang/Math", "min", "(II)I"⟩ : MethodName)) ∈ gT := gk1 42 rfl rfl
theorem k103 : (Cond.static (⟨"java/lang/Math", "min", "(II)I"⟩ : MethodName)) ∈ gT := gk1 43 rfl rfl
theorem k104 : (Cond.code (⟨"java/lang/Math", "min", "(II)I"⟩ : MethodName) prog_8_method_69_code 2 (Option.some FieldType.int)) ∈ gT := gk1 44 rfl rfl
theorem k105 : (Cond.fieldLink "GreenHorseUpstairs$Rooms" 11 "GreenHorseUpstairs$Rooms" "open" "[I") ∈ gT := gk1 45 rfl rfl
theorem k106 : (Cond.fieldLink "GreenHorseUpstairs$Rooms" 15 "GreenHorseUpstairs$Rooms" "far" "[I") ∈ gT := gk1 46 rfl rfl
theorem k107 : (Cond.laysFinal "GreenHorseUpstairs$Rooms" "GreenHorseUpstairs$Rooms" "open" "[I") ∈ gT := gk1 47 rfl rfl
theorem k109 : (Cond.laysFinal "GreenHorseUpstairs$Rooms" "GreenHorseUpstairs$Rooms" "far" "[I") ∈ gT := gk1 49 rfl rfl
theorem k112 : (Cond.arrayClass FieldType.int) ∈ gT := gk1 52 rfl rfl
theorem k113 : (Cond.methodLink "GreenHorseUpstairs$Museum" 62 (⟨"java/util/Arrays", "fill", "([II)V"⟩ : MethodName)) ∈ gT := gk1 53 rfl rfl
theorem k114 : (Cond.static (⟨"java/util/Arrays", "fill", "([II)V"⟩ : MethodName)) ∈ gT := gk1 54 rfl rfl
theorem k115 : (Cond.code (⟨"java/util/Arrays", "fill", "([II)V"⟩ : MethodName) prog_13_method_103_code 4 (Option.none : Option FieldType)) ∈ gT := gk1 55 rfl rfl
theorem k116 : (Cond.fieldLink "GreenHorseUpstairs$Museum" 12 "GreenHorseUpstairs$Museum" "rooms" "LGreenHorseUpstairs$Rooms;") ∈ gT := gk1 56 rfl rfl
theorem k117 : (Cond.fieldLink "GreenHorseUpstairs" 72 "GreenHorseUpstairs$Museum" "rooms" "LGreenHorseUpstairs$Rooms;") ∈ gT := gk1 57 rfl rfl
theorem k118 : (Cond.fieldLink "GreenHorseUpstairs$Museum" 18 "GreenHorseUpstairs$Museum" "minute" "I") ∈ gT := gk1 58 rfl rfl
theorem k119 : (Cond.fieldLink "GreenHorseUpstairs" 139 "GreenHorseUpstairs$Museum" "minute" "I") ∈ gT := gk1 59 rfl rfl
theorem k120 : (Cond.fieldLink "GreenHorseUpstairs$Museum" 22 "GreenHorseUpstairs$Museum" "questions" "I") ∈ gT := gk1 60 rfl rfl
theorem k121 : (Cond.fieldLink "GreenHorseUpstairs" 200 "GreenHorseUpstairs$Museum" "questions" "I") ∈ gT := gk1 61 rfl rfl
theorem k122 : (Cond.fieldLink "GreenHorseUpstairs$Museum" 25 "GreenHorseUpstairs$Museum" "kind" "[I") ∈ gT := gk1 62 rfl rfl
theorem k123 : (Cond.fieldLink "GreenHorseUpstairs" 85 "GreenHorseUpstairs$Museum" "kind" "[I") ∈ gT := gk1 63 rfl rfl
theorem k124 : (Cond.fieldLink "GreenHorseUpstairs$Museum" 29 "GreenHorseUpstairs$Museum" "figure" "[I") ∈ gT := gk1 64 rfl rfl
theorem k125 : (Cond.fieldLink "GreenHorseUpstairs" 88 "GreenHorseUpstairs$Museum" "figure" "[I") ∈ gT := gk1 65 rfl rfl
theorem k126 : (Cond.fieldLink "GreenHorseUpstairs$Museum" 32 "GreenHorseUpstairs$Museum" "room" "[I") ∈ gT := gk1 66 rfl rfl
theorem k127 : (Cond.fieldLink "GreenHorseUpstairs" 91 "GreenHorseUpstairs$Museum" "room" "[I") ∈ gT := gk1 67 rfl rfl
theorem k128 : (Cond.fieldLink "GreenHorseUpstairs$Museum" 35 "GreenHorseUpstairs$Museum" "truth" "[I") ∈ gT := gk1 68 rfl rfl
theorem k129 : (Cond.fieldLink "GreenHorseUpstairs" 94 "GreenHorseUpstairs$Museum" "truth" "[I") ∈ gT := gk1 69 rfl rfl
theorem k130 : (Cond.fieldLink "GreenHorseUpstairs$Museum" 38 "GreenHorseUpstairs$Museum" "groups" "I") ∈ gT := gk1 70 rfl rfl
theorem k131 : (Cond.fieldLink "GreenHorseUpstairs" 188 "GreenHorseUpstairs$Museum" "groups" "I") ∈ gT := gk1 71 rfl rfl
theorem k132 : (Cond.fieldLink "GreenHorseUpstairs$Museum" 41 "GreenHorseUpstairs$Museum" "tall" "[I") ∈ gT := gk1 72 rfl rfl
theorem k133 : (Cond.fieldLink "GreenHorseUpstairs" 103 "GreenHorseUpstairs$Museum" "tall" "[I") ∈ gT := gk1 73 rfl rfl
theorem k134 : (Cond.fieldLink "GreenHorseUpstairs$Museum" 44 "GreenHorseUpstairs$Museum" "wit" "[I") ∈ gT := gk1 74 rfl rfl
theorem k135 : (Cond.fieldLink "GreenHorseUpstairs" 106 "GreenHorseUpstairs$Museum" "wit" "[I") ∈ gT := gk1 75 rfl rfl
theorem k136 : (Cond.fieldLink "GreenHorseUpstairs$Museum" 47 "GreenHorseUpstairs$Museum" "first" "[I") ∈ gT := gk1 76 rfl rfl
theorem k137 : (Cond.fieldLink "GreenHorseUpstairs" 109 "GreenHorseUpstairs$Museum" "first" "[I") ∈ gT := gk1 77 rfl rfl
theorem k138 : (Cond.fieldLink "GreenHorseUpstairs$Museum" 50 "GreenHorseUpstairs$Museum" "at" "[I") ∈ gT := gk1 78 rfl rfl
theorem k139 : (Cond.fieldLink "GreenHorseUpstairs" 112 "GreenHorseUpstairs$Museum" "at" "[I") ∈ gT := gk1 79 rfl rfl
theorem k140 : (Cond.fieldLink "GreenHorseUpstairs$Museum" 53 "GreenHorseUpstairs$Museum" "looked" "[I") ∈ gT := gk1 80 rfl rfl
theorem k141 : (Cond.fieldLink "GreenHorseUpstairs" 115 "GreenHorseUpstairs$Museum" "looked" "[I") ∈ gT := gk1 81 rfl rfl
theorem k142 : (Cond.fieldLink "GreenHorseUpstairs$Museum" 56 "GreenHorseUpstairs$Museum" "sheets" "[I") ∈ gT := gk1 82 rfl rfl
theorem k143 : (Cond.fieldLink "GreenHorseUpstairs$Museum" 59 "GreenHorseUpstairs$Museum" "sources" "[I") ∈ gT := gk1 83 rfl rfl
theorem k144 : (Cond.laysFinal "GreenHorseUpstairs$Museum" "GreenHorseUpstairs$Museum" "rooms" "LGreenHorseUpstairs$Rooms;") ∈ gT := gk1 84 rfl rfl
theorem k146 : (Cond.lays "GreenHorseUpstairs$Museum" "GreenHorseUpstairs$Museum" "minute" "I") ∈ gT := gk1 86 rfl rfl
theorem k148 : (Cond.lays "GreenHorseUpstairs$Museum" "GreenHorseUpstairs$Museum" "questions" "I") ∈ gT := gk1 88 rfl rfl
theorem k150 : (Cond.laysFinal "GreenHorseUpstairs$Museum" "GreenHorseUpstairs$Museum" "kind" "[I") ∈ gT := gk1 90 rfl rfl
theorem k152 : (Cond.laysFinal "GreenHorseUpstairs$Museum" "GreenHorseUpstairs$Museum" "figure" "[I") ∈ gT := gk1 92 rfl rfl
theorem k154 : (Cond.laysFinal "GreenHorseUpstairs$Museum" "GreenHorseUpstairs$Museum" "room" "[I") ∈ gT := gk1 94 rfl rfl
theorem k156 : (Cond.laysFinal "GreenHorseUpstairs$Museum" "GreenHorseUpstairs$Museum" "truth" "[I") ∈ gT := gk1 96 rfl rfl
theorem k158 : (Cond.lays "GreenHorseUpstairs$Museum" "GreenHorseUpstairs$Museum" "groups" "I") ∈ gT := gk1 98 rfl rfl
theorem k160 : (Cond.laysFinal "GreenHorseUpstairs$Museum" "GreenHorseUpstairs$Museum" "tall" "[I") ∈ gT := gk1 100 rfl rfl
theorem k162 : (Cond.laysFinal "GreenHorseUpstairs$Museum" "GreenHorseUpstairs$Museum" "wit" "[I") ∈ gT := gk1 102 rfl rfl
theorem k164 : (Cond.laysFinal "GreenHorseUpstairs$Museum" "GreenHorseUpstairs$Museum" "first" "[I") ∈ gT := gk1 104 rfl rfl
theorem k166 : (Cond.laysFinal "GreenHorseUpstairs$Museum" "GreenHorseUpstairs$Museum" "at" "[I") ∈ gT := gk1 106 rfl rfl
theorem k168 : (Cond.laysFinal "GreenHorseUpstairs$Museum" "GreenHorseUpstairs$Museum" "looked" "[I") ∈ gT := gk1 108 rfl rfl
theorem k170 : (Cond.laysFinal "GreenHorseUpstairs$Museum" "GreenHorseUpstairs$Museum" "sheets" "[I") ∈ gT := gk1 110 rfl rfl
theorem k172 : (Cond.laysFinal "GreenHorseUpstairs$Museum" "GreenHorseUpstairs$Museum" "sources" "[I") ∈ gT := gk1 112 rfl rfl
theorem k175 : (Cond.classLink "GreenHorseUpstairs" 29 "GreenHorseUpstairs$Letters") ∈ gT := gk1 115 rfl rfl
theorem k176 : (Cond.instantiable "GreenHorseUpstairs$Letters" 2) ∈ gT := gk1 116 rfl rfl
theorem k178 : (Cond.instanceMethod (⟨"GreenHorseUpstairs$Letters", "<init>", "()V"⟩ : MethodName)) ∈ gT := gk1 118 rfl rfl
theorem k179 : (Cond.code (⟨"GreenHorseUpstairs$Letters", "<init>", "()V"⟩ : MethodName) prog_2_method_1_code 1 (Option.none : Option FieldType)) ∈ gT := gk1 119 rfl rfl
theorem k180 : (Cond.methodLink "GreenHorseUpstairs$Letters" 3 (⟨"java/lang/Object", "<init>", "()V"⟩ : MethodName)) ∈ gT := gk1 120 rfl rfl
theorem k181 : (Cond.fieldLink "GreenHorseUpstairs$Letters" 11 "GreenHorseUpstairs$Letters" "signs" "[I") ∈ gT := gk1 121 rfl rfl
theorem k182 : (Cond.fieldLink "GreenHorseUpstairs$Letters" 15 "GreenHorseUpstairs$Letters" "length" "I") ∈ gT := gk1 122 rfl rfl
theorem k183 : (Cond.laysFinal "GreenHorseUpstairs$Letters" "GreenHorseUpstairs$Letters" "signs" "[I") ∈ gT := gk1 123 rfl rfl
theorem k185 : (Cond.lays "GreenHorseUpstairs$Letters" "GreenHorseUpstairs$Letters" "length" "I") ∈ gT := gk1 125 rfl rfl
theorem k188 : (Cond.fieldLink "GreenHorseUpstairs" 10 "GreenHorseUpstairs" "now" "LGreenHorseUpstairs$Museum;") ∈ gT := gk1 128 rfl rfl
theorem k189 : (Cond.fieldLink "GreenHorseUpstairs" 16 "GreenHorseUpstairs" "thought" "LGreenHorseUpstairs$Museum;") ∈ gT := gk1 129 rfl rfl
theorem k190 : (Cond.fieldLink "GreenHorseUpstairs" 19 "GreenHorseUpstairs" "kept" "LGreenHorseUpstairs$Museum;") ∈ gT := gk1 130 rfl rfl
theorem k191 : (Cond.fieldLink "GreenHorseUpstairs" 22 "GreenHorseUpstairs" "image" "LGreenHorseUpstairs$Museum;") ∈ gT := gk1 131 rfl rfl
theorem k192 : (Cond.fieldLink "GreenHorseUpstairs" 25 "GreenHorseUpstairs" "imageTaken" "Z") ∈ gT := gk1 132 rfl rfl
theorem k193 : (Cond.fieldLink "GreenHorseUpstairs" 32 "GreenHorseUpstairs" "letters" "LGreenHorseUpstairs$Letters;") ∈ gT := gk1 133 rfl rfl
theorem k194 : (Cond.fieldLink "GreenHorseUpstairs" 36 "GreenHorseUpstairs" "row" "[I") ∈ gT := gk1 134 rfl rfl
theorem k195 : (Cond.fieldLink "GreenHorseUpstairs" 40 "GreenHorseUpstairs" "rowLength" "I") ∈ gT := gk1 135 rfl rfl
theorem k196 : (Cond.fieldLink "GreenHorseUpstairs" 44 "GreenHorseUpstairs" "refusals" "[I") ∈ gT := gk1 136 rfl rfl
theorem k197 : (Cond.laysFinal "GreenHorseUpstairs" "GreenHorseUpstairs" "now" "LGreenHorseUpstairs$Museum;") ∈ gT := gk1 137 rfl rfl
theorem k199 : (Cond.laysFinal "GreenHorseUpstairs" "GreenHorseUpstairs" "thought" "LGreenHorseUpstairs$Museum;") ∈ gT := gk1 139 rfl rfl
theorem k201 : (Cond.laysFinal "GreenHorseUpstairs" "GreenHorseUpstairs" "kept" "LGreenHorseUpstairs$Museum;") ∈ gT := gk1 141 rfl rfl
theorem k203 : (Cond.laysFinal "GreenHorseUpstairs" "GreenHorseUpstairs" "image" "LGreenHorseUpstairs$Museum;") ∈ gT := gk1 143 rfl rfl
theorem k205 : (Cond.lays "GreenHorseUpstairs" "GreenHorseUpstairs" "imageTaken" "Z") ∈ gT := gk1 145 rfl rfl
theorem k207 : (Cond.laysFinal "GreenHorseUpstairs" "GreenHorseUpstairs" "letters" "LGreenHorseUpstairs$Letters;") ∈ gT := gk1 147 rfl rfl
theorem k209 : (Cond.laysFinal "GreenHorseUpstairs" "GreenHorseUpstairs" "row" "[I") ∈ gT := gk1 149 rfl rfl
theorem k211 : (Cond.lays "GreenHorseUpstairs" "GreenHorseUpstairs" "rowLength" "I") ∈ gT := gk1 151 rfl rfl
theorem k213 : (Cond.laysFinal "GreenHorseUpstairs" "GreenHorseUpstairs" "refusals" "[I") ∈ gT := gk1 153 rfl rfl
theorem k216 : (Cond.methodLink "GreenHorseUpstairsLaw" 13 (⟨"GreenHorseUpstairs", "letter", "(I)I"⟩ : MethodName)) ∈ gT := gk1 156 rfl rfl
theorem k217 : (Cond.instanceMethod (⟨"GreenHorseUpstairs", "letter", "(I)I"⟩ : MethodName)) ∈ gT := gk1 157 rfl rfl
theorem k218 : (Cond.selects "GreenHorseUpstairs" (⟨"GreenHorseUpstairs", "letter", "(I)I"⟩ : MethodName) (⟨"GreenHorseUpstairs", "letter", "(I)I"⟩ : MethodName)) ∈ gT := gk1 158 rfl rfl
theorem k219 : (Cond.code (⟨"GreenHorseUpstairs", "letter", "(I)I"⟩ : MethodName) prog_1_method_2_code 2 (Option.some FieldType.int)) ∈ gT := gk1 159 rfl rfl
theorem k220 : (Cond.methodLink "GreenHorseUpstairs" 47 (⟨"GreenHorseUpstairs", "refuse", "(I)I"⟩ : MethodName)) ∈ gT := gk1 160 rfl rfl
theorem k222 : (Cond.instanceMethod (⟨"GreenHorseUpstairs", "refuse", "(I)I"⟩ : MethodName)) ∈ gT := gk1 162 rfl rfl
theorem k223 : (Cond.code (⟨"GreenHorseUpstairs", "refuse", "(I)I"⟩ : MethodName) prog_1_method_36_code 2 (Option.some FieldType.int)) ∈ gT := gk1 163 rfl rfl
theorem k224 : (Cond.methodLink "GreenHorseUpstairs" 51 (⟨"GreenHorseUpstairs$Letters", "isFull", "()Z"⟩ : MethodName)) ∈ gT := gk1 164 rfl rfl
theorem k225 : (Cond.instanceMethod (⟨"GreenHorseUpstairs$Letters", "isFull", "()Z"⟩ : MethodName)) ∈ gT := gk1 165 rfl rfl
theorem k226 : (Cond.selects "GreenHorseUpstairs$Letters" (⟨"GreenHorseUpstairs$Letters", "isFull", "()Z"⟩ : MethodName) (⟨"GreenHorseUpstairs$Letters", "isFull", "()Z"⟩ : MethodName)) ∈ gT := gk1 166 rfl rfl
theorem k227 : (Cond.code (⟨"GreenHorseUpstairs$Letters", "isFull", "()Z"⟩ : MethodName) prog_2_method_3_code 1 (Option.some FieldType.boolean)) ∈ gT := gk1 167 rfl rfl
theorem k228 : (Cond.methodLink "GreenHorseUpstairs" 55 (⟨"GreenHorseUpstairs$Letters", "append", "(I)I"⟩ : MethodName)) ∈ gT := gk1 168 rfl rfl
theorem k229 : (Cond.instanceMethod (⟨"GreenHorseUpstairs$Letters", "append", "(I)I"⟩ : MethodName)) ∈ gT := gk1 169 rfl rfl
theorem k230 : (Cond.selects "GreenHorseUpstairs$Letters" (⟨"GreenHorseUpstairs$Letters", "append", "(I)I"⟩ : MethodName) (⟨"GreenHorseUpstairs$Letters", "append", "(I)I"⟩ : MethodName)) ∈ gT := gk1 170 rfl rfl
theorem k231 : (Cond.code (⟨"GreenHorseUpstairs$Letters", "append", "(I)I"⟩ : MethodName) prog_2_method_4_code 2 (Option.some FieldType.int)) ∈ gT := gk1 171 rfl rfl
theorem k232 : (Cond.methodLink "GreenHorseUpstairsLaw" 18 (⟨"GreenHorseUpstairs", "museum", "()I"⟩ : MethodName)) ∈ gT := gk1 172 rfl rfl
theorem k233 : (Cond.instanceMethod (⟨"GreenHorseUpstairs", "museum", "()I"⟩ : MethodName)) ∈ gT := gk1 173 rfl rfl
theorem k234 : (Cond.selects "GreenHorseUpstairs" (⟨"GreenHorseUpstairs", "museum", "()I"⟩ : MethodName) (⟨"GreenHorseUpstairs", "museum", "()I"⟩ : MethodName)) ∈ gT := gk1 174 rfl rfl
theorem k235 : (Cond.code (⟨"GreenHorseUpstairs", "museum", "()I"⟩ : MethodName) prog_1_method_3_code 3 (Option.some FieldType.int)) ∈ gT := gk1 175 rfl rfl
theorem k236 : (Cond.methodLink "GreenHorseUpstairs" 58 (⟨"GreenHorseUpstairs$Letters", "faultOfForm", "()I"⟩ : MethodName)) ∈ gT := gk1 176 rfl rfl
theorem k237 : (Cond.instanceMethod (⟨"GreenHorseUpstairs$Letters", "faultOfForm", "()I"⟩ : MethodName)) ∈ gT := gk1 177 rfl rfl
theorem k238 : (Cond.selects "GreenHorseUpstairs$Letters" (⟨"GreenHorseUpstairs$Letters", "faultOfForm", "()I"⟩ : MethodName) (⟨"GreenHorseUpstairs$Letters", "faultOfForm", "()I"⟩ : MethodName)) ∈ gT := gk1 178 rfl rfl
theorem k239 : (Cond.code (⟨"GreenHorseUpstairs$Letters", "faultOfForm", "()I"⟩ : MethodName) prog_2_method_10_code 3 (Option.some FieldType.int)) ∈ gT := gk1 179 rfl rfl
theorem k240 : (Cond.methodLink "GreenHorseUpstairs$Letters" 30 (⟨"GreenHorseUpstairs$Letters", "faultOfStatement", "(I)I"⟩ : MethodName)) ∈ gT := gk1 180 rfl rfl
theorem k242 : (Cond.instanceMethod (⟨"GreenHorseUpstairs$Letters", "faultOfStatement", "(I)I"⟩ : MethodName)) ∈ gT := gk1 182 rfl rfl
theorem k243 : (Cond.code (⟨"GreenHorseUpstairs$Letters", "faultOfStatement", "(I)I"⟩ : MethodName) prog_2_method_11_code 5 (Option.some FieldType.int)) ∈ gT := gk1 183 rfl rfl
theorem k244 : (Cond.methodLink "GreenHorseUpstairs$Letters" 19 (⟨"GreenHorseUpstairs$Letters", "at", "(I)I"⟩ : MethodName)) ∈ gT := gk1 184 rfl rfl
theorem k245 : (Cond.instanceMethod (⟨"GreenHorseUpstairs$Letters", "at", "(I)I"⟩ : MethodName)) ∈ gT := gk1 185 rfl rfl
theorem k246 : (Cond.selects "GreenHorseUpstairs$Letters" (⟨"GreenHorseUpstairs$Letters", "at", "(I)I"⟩ : MethodName) (⟨"GreenHorseUpstairs$Letters", "at", "(I)I"⟩ : MethodName)) ∈ gT := gk1 186 rfl rfl
theorem k247 : (Cond.code (⟨"GreenHorseUpstairs$Letters", "at", "(I)I"⟩ : MethodName) prog_2_method_6_code 2 (Option.some FieldType.int)) ∈ gT := gk1 187 rfl rfl
theorem k248 : (Cond.methodLink "GreenHorseUpstairs$Letters" 33 (⟨"GreenHorseUpstairs$Letters", "signsBehind", "(I)I"⟩ : MethodName)) ∈ gT := gk1 188 rfl rfl
theorem k249 : (Cond.static (⟨"GreenHorseUpstairs$Letters", "signsBehind", "(I)I"⟩ : MethodName)) ∈ gT := gk1 189 rfl rfl
theorem k250 : (Cond.code (⟨"GreenHorseUpstairs$Letters", "signsBehind", "(I)I"⟩ : MethodName) prog_2_method_9_code 1 (Option.some FieldType.int)) ∈ gT := gk1 190 rfl rfl
theorem k251 : (Cond.methodLink "GreenHorseUpstairs$Letters" 36 (⟨"GreenHorseUpstairs$Letters", "fits", "(IIII)Z"⟩ : MethodName)) ∈ gT := gk1 191 rfl rfl
theorem k252 : (Cond.static (⟨"GreenHorseUpstairs$Letters", "fits", "(IIII)Z"⟩ : MethodName)) ∈ gT := gk1 192 rfl rfl
theorem k253 : (Cond.code (⟨"GreenHorseUpstairs$Letters", "fits", "(IIII)Z"⟩ : MethodName) prog_2_method_12_code 4 (Option.some FieldType.boolean)) ∈ gT := gk1 193 rfl rfl
theorem k254 : (Cond.methodLink "GreenHorseUpstairs$Letters" 40 (⟨"GreenHorseUpstairs$Letters", "kindOf", "(I)I"⟩ : MethodName)) ∈ gT := gk1 194 rfl rfl
theorem k255 : (Cond.static (⟨"GreenHorseUpstairs$Letters", "kindOf", "(I)I"⟩ : MethodName)) ∈ gT := gk1 195 rfl rfl
theorem k256 : (Cond.code (⟨"GreenHorseUpstairs$Letters", "kindOf", "(I)I"⟩ : MethodName) prog_2_method_8_code 1 (Option.some FieldType.int)) ∈ gT := gk1 196 rfl rfl
theorem k258 : (Cond.methodLink "GreenHorseUpstairs$Letters" 25 (⟨"java/lang/String", "indexOf", "(I)I"⟩ : MethodName)) ∈ gT := gk1 198 rfl rfl
theorem k259 : (Cond.instanceMethod (⟨"java/lang/String", "indexOf", "(I)I"⟩ : MethodName)) ∈ gT := gk1 199 rfl rfl
theorem k260 : (Cond.selects "java/lang/String" (⟨"java/lang/String", "indexOf", "(I)I"⟩ : MethodName) (⟨"java/lang/String", "indexOf", "(I)I"⟩ : MethodName)) ∈ gT := gk1 200 rfl rfl
theorem k261 : (Cond.code (⟨"java/lang/String", "indexOf", "(I)I"⟩ : MethodName) prog_9_method_79_code 2 (Option.some FieldType.int)) ∈ gT := gk1 201 rfl rfl
theorem k262 : (Cond.methodLink "java/lang/String" 633 (⟨"java/lang/String", "indexOf", "(II)I"⟩ : MethodName)) ∈ gT := gk1 202 rfl rfl
theorem k263 : (Cond.instanceMethod (⟨"java/lang/String", "indexOf", "(II)I"⟩ : MethodName)) ∈ gT := gk1 203 rfl rfl
theorem k264 : (Cond.selects "java/lang/String" (⟨"java/lang/String", "indexOf", "(II)I"⟩ : MethodName) (⟨"java/lang/String", "indexOf", "(II)I"⟩ : MethodName)) ∈ gT := gk1 204 rfl rfl
theorem k265 : (Cond.code (⟨"java/lang/String", "indexOf", "(II)I"⟩ : MethodName) prog_9_method_80_code 3 (Option.some FieldType.int)) ∈ gT := gk1 205 rfl rfl
theorem k266 : (Cond.methodLink "java/lang/String" 492 (⟨"java/lang/String", "isLatin1", "()Z"⟩ : MethodName)) ∈ gT := gk1 206 rfl rfl
theorem k267 : (Cond.instanceMethod (⟨"java/lang/String", "isLatin1", "()Z"⟩ : MethodName)) ∈ gT := gk1 207 rfl rfl
theorem k268 : (Cond.selects "java/lang/String" (⟨"java/lang/String", "isLatin1", "()Z"⟩ : MethodName) (⟨"java/lang/String", "isLatin1", "()Z"⟩ : MethodName)) ∈ gT := gk1 208 rfl rfl
theorem k269 : (Cond.code (⟨"java/lang/String", "isLatin1", "()Z"⟩ : MethodName) prog_9_method_154_code 1 (Option.some FieldType.boolean)) ∈ gT := gk1 209 rfl rfl
theorem k270 : (Cond.fieldLink "java/lang/String" 38 "java/lang/String" "COMPACT_STRINGS" "Z") ∈ gT := gk1 210 rfl rfl
theorem k272 : (Cond.methodLink "java/lang/String" 505 (⟨"java/lang/String", "length", "()I"⟩ : MethodName)) ∈ gT := gk1 212 rfl rfl
theorem k273 : (Cond.instanceMethod (⟨"java/lang/String", "length", "()I"⟩ : MethodName)) ∈ gT := gk1 213 rfl rfl
theorem k274 : (Cond.selects "java/lang/String" (⟨"java/lang/String", "length", "()I"⟩ : MethodName) (⟨"java/lang/String", "length", "()I"⟩ : MethodName)) ∈ gT := gk1 214 rfl rfl
theorem k275 : (Cond.code (⟨"java/lang/String", "length", "()I"⟩ : MethodName) prog_9_method_54_code 1 (Option.some FieldType.int)) ∈ gT := gk1 215 rfl rfl
theorem k276 : (Cond.methodLink "java/lang/String" 335 (⟨"java/lang/String", "coder", "()B"⟩ : MethodName)) ∈ gT := gk1 216 rfl rfl
theorem k277 : (Cond.instanceMethod (⟨"java/lang/String", "coder", "()B"⟩ : MethodName)) ∈ gT := gk1 217 rfl rfl
theorem k278 : (Cond.selects "java/lang/String" (⟨"java/lang/String", "coder", "()B"⟩ : MethodName) (⟨"java/lang/String", "coder", "()B"⟩ : MethodName)) ∈ gT := gk1 218 rfl rfl
theorem k279 : (Cond.code (⟨"java/lang/String", "coder", "()B"⟩ : MethodName) prog_9_method_152_code 1 (Option.some FieldType.byte)) ∈ gT := gk1 219 rfl rfl
theorem k280 : (Cond.methodLink "java/lang/String" 637 (⟨"java/lang/StringLatin1", "indexOf", "([BIII)I"⟩ : MethodName)) ∈ gT := gk1 220 rfl rfl
theorem k281 : (Cond.static (⟨"java/lang/StringLatin1", "indexOf", "([BIII)I"⟩ : MethodName)) ∈ gT := gk1 221 rfl rfl
theorem k282 : (Cond.code (⟨"java/lang/StringLatin1", "indexOf", "([BIII)I"⟩ : MethodName) prog_10_method_22_code 4 (Option.some FieldType.int)) ∈ gT := gk1 222 rfl rfl
theorem k283 : (Cond.methodLink "java/lang/StringLatin1" 88 (⟨"java/lang/StringLatin1", "canEncode", "(I)Z"⟩ : MethodName)) ∈ gT := gk1 223 rfl rfl
theorem k284 : (Cond.static (⟨"java/lang/StringLatin1", "canEncode", "(I)Z"⟩ : MethodName)) ∈ gT := gk1 224 rfl rfl
theorem k285 : (Cond.code (⟨"java/lang/StringLatin1", "canEncode", "(I)Z"⟩ : MethodName) prog_10_method_4_code 1 (Option.some FieldType.boolean)) ∈ gT := gk1 225 rfl rfl
theorem k286 : (Cond.methodLink "java/lang/StringLatin1" 92 (⟨"java/lang/Math", "max", "(II)I"⟩ : MethodName)) ∈ gT := gk1 226 rfl rfl
theorem k287 : (Cond.static (⟨"java/lang/Math", "max", "(II)I"⟩ : MethodName)) ∈ gT := gk1 227 rfl rfl
theorem k288 : (Cond.code (⟨"java/lang/Math", "max", "(II)I"⟩ : MethodName) prog_8_method_65_code 2 (Option.some FieldType.int)) ∈ gT := gk1 228 rfl rfl
theorem k289 : (Cond.methodLink "java/lang/StringLatin1" 38 (⟨"java/lang/Math", "min", "(II)I"⟩ : MethodName)) ∈ gT := gk1 229 rfl rfl
theorem k290 : (Cond.methodLink "java/lang/StringLatin1" 95 (⟨"java/lang/StringLatin1", "indexOfChar", "([BIII)I"⟩ : MethodName)) ∈ gT := gk1 230 rfl rfl
theorem k291 : (Cond.static (⟨"java/lang/StringLatin1", "indexOfChar", "([BIII)I"⟩ : MethodName)) ∈ gT := gk1 231 rfl rfl
theorem k292 : (Cond.code (⟨"java/lang/StringLatin1", "indexOfChar", "([BIII)I"⟩ : MethodName) prog_10_method_23_code 6 (Option.some FieldType.int)) ∈ gT := gk1 232 rfl rfl
theorem k293 : (Cond.methodLink "java/lang/String" 640 (⟨"java/lang/StringUTF16", "indexOf", "([BIII)I"⟩ : MethodName)) ∈ gT := gk1 233 rfl rfl
theorem k294 : (Cond.static (⟨"java/lang/StringUTF16", "indexOf", "([BIII)I"⟩ : MethodName)) ∈ gT := gk1 234 rfl rfl
theorem k295 : (Cond.code (⟨"java/lang/StringUTF16", "indexOf", "([BIII)I"⟩ : MethodName) prog_11_method_40_code 4 (Option.some FieldType.int)) ∈ gT := gk1 235 rfl rfl
theorem k296 : (Cond.methodLink "java/lang/StringUTF16" 224 (⟨"java/lang/Math", "max", "(II)I"⟩ : MethodName)) ∈ gT := gk1 236 rfl rfl
theorem k297 : (Cond.methodLink "java/lang/StringUTF16" 183 (⟨"java/lang/Math", "min", "(II)I"⟩ : MethodName)) ∈ gT := gk1 237 rfl rfl
theorem k298 : (Cond.constant "java/lang/StringUTF16" 227 (65536 : Int32)) ∈ gT := gk1 238 rfl rfl
theorem k299 : (Cond.methodLink "java/lang/StringUTF16" 228 (⟨"java/lang/StringUTF16", "indexOfChar", "([BIII)I"⟩ : MethodName)) ∈ gT := gk1 239 rfl rfl
theorem k300 : (Cond.static (⟨"java/lang/StringUTF16", "indexOfChar", "([BIII)I"⟩ : MethodName)) ∈ gT := gk2 0 rfl rfl
theorem k301 : (Cond.code (⟨"java/lang/StringUTF16", "indexOfChar", "([BIII)I"⟩ : MethodName) prog_11_method_47_code 4 (Option.some FieldType.int)) ∈ gT := gk2 1 rfl rfl
theorem k302 : (Cond.methodLink "java/lang/StringUTF16" 96 (⟨"java/lang/StringUTF16", "checkBoundsBeginEnd", "(II[B)V"⟩ : MethodName)) ∈ gT := gk2 2 rfl rfl
theorem k303 : (Cond.static (⟨"java/lang/StringUTF16", "checkBoundsBeginEnd", "(II[B)V"⟩ : MethodName)) ∈ gT := gk2 3 rfl rfl
theorem k304 : (Cond.code (⟨"java/lang/StringUTF16", "checkBoundsBeginEnd", "(II[B)V"⟩ : MethodName) prog_11_method_93_code 3 (Option.none : Option FieldType)) ∈ gT := gk2 4 rfl rfl
theorem k305 : (Cond.methodLink "java/lang/StringUTF16" 48 (⟨"java/lang/StringUTF16", "length", "([B)I"⟩ : MethodName)) ∈ gT := gk2 5 rfl rfl
theorem k306 : (Cond.static (⟨"java/lang/StringUTF16", "length", "([B)I"⟩ : MethodName)) ∈ gT := gk2 6 rfl rfl
theorem k307 : (Cond.code (⟨"java/lang/StringUTF16", "length", "([B)I"⟩ : MethodName) prog_11_method_6_code 1 (Option.some FieldType.int)) ∈ gT := gk2 7 rfl rfl
theorem k308 : (Cond.methodLink "java/lang/StringUTF16" 241 (⟨"java/lang/String", "checkBoundsBeginEnd", "(III)V"⟩ : MethodName)) ∈ gT := gk2 8 rfl rfl
theorem k309 : (Cond.static (⟨"java/lang/String", "checkBoundsBeginEnd", "(III)V"⟩ : MethodName)) ∈ gT := gk2 9 rfl rfl
theorem k310 : (Cond.code (⟨"java/lang/String", "checkBoundsBeginEnd", "(III)V"⟩ : MethodName) prog_9_method_158_code 3 (Option.none : Option FieldType)) ∈ gT := gk2 10 rfl rfl
theorem k311 : (Cond.fieldLink "java/lang/String" 1053 "jdk/internal/util/Preconditions" "SIOOBE_FORMATTER" "Ljava/util/function/BiFunction;") ∈ gT := gk2 11 rfl rfl
theorem k313 : (Cond.methodLink "java/lang/String" 1062 (⟨"jdk/internal/util/Preconditions", "checkFromToIndex", "(IIILjava/util/function/BiFunction;)I"⟩ : MethodName)) ∈ gT := gk2 13 rfl rfl
theorem k314 : (Cond.static (⟨"jdk/internal/util/Preconditions", "checkFromToIndex", "(IIILjava/util/function/BiFunction;)I"⟩ : MethodName)) ∈ gT := gk2 14 rfl rfl
theorem k315 : (Cond.code (⟨"jdk/internal/util/Preconditions", "checkFromToIndex", "(IIILjava/util/function/BiFunction;)I"⟩ : MethodName) prog_14_method_12_code 4 (Option.some FieldType.int)) ∈ gT := gk2 15 rfl rfl
theorem k316 : (Cond.methodLink "java/lang/StringUTF16" 244 (⟨"java/lang/StringUTF16", "indexOfCharUnsafe", "([BIII)I"⟩ : MethodName)) ∈ gT := gk2 16 rfl rfl
theorem k317 : (Cond.static (⟨"java/lang/StringUTF16", "indexOfCharUnsafe", "([BIII)I"⟩ : MethodName)) ∈ gT := gk2 17 rfl rfl
theorem k318 : (Cond.code (⟨"java/lang/StringUTF16", "indexOfCharUnsafe", "([BIII)I"⟩ : MethodName) prog_11_method_48_code 5 (Option.some FieldType.int)) ∈ gT := gk2 18 rfl rfl
theorem k319 : (Cond.methodLink "java/lang/StringUTF16" 71 (⟨"java/lang/StringUTF16", "getChar", "([BI)C"⟩ : MethodName)) ∈ gT := gk2 19 rfl rfl
theorem k320 : (Cond.static (⟨"java/lang/StringUTF16", "getChar", "([BI)C"⟩ : MethodName)) ∈ gT := gk2 20 rfl rfl
theorem k321 : (Cond.code (⟨"java/lang/StringUTF16", "getChar", "([BI)C"⟩ : MethodName) prog_11_method_5_code 2 (Option.some FieldType.char)) ∈ gT := gk2 21 rfl rfl
theorem k322 : (Cond.fieldLink "java/lang/StringUTF16" 44 "java/lang/StringUTF16" "$assertionsDisabled" "Z") ∈ gT := gk2 22 rfl rfl
theorem k324 : (Cond.fieldLink "java/lang/StringUTF16" 59 "java/lang/StringUTF16" "HI_BYTE_SHIFT" "I") ∈ gT := gk2 24 rfl rfl
theorem k326 : (Cond.fieldLink "java/lang/StringUTF16" 63 "java/lang/StringUTF16" "LO_BYTE_SHIFT" "I") ∈ gT := gk2 26 rfl rfl
theorem k328 : (Cond.methodLink "java/lang/StringUTF16" 232 (⟨"java/lang/StringUTF16", "indexOfSupplementary", "([BIII)I"⟩ : MethodName)) ∈ gT := gk2 28 rfl rfl
theorem k329 : (Cond.static (⟨"java/lang/StringUTF16", "indexOfSupplementary", "([BIII)I"⟩ : MethodName)) ∈ gT := gk2 29 rfl rfl
theorem k330 : (Cond.code (⟨"java/lang/StringUTF16", "indexOfSupplementary", "([BIII)I"⟩ : MethodName) prog_11_method_49_code 7 (Option.some FieldType.int)) ∈ gT := gk2 30 rfl rfl
theorem k331 : (Cond.methodLink "java/lang/StringUTF16" 164 (⟨"java/lang/Character", "isValidCodePoint", "(I)Z"⟩ : MethodName)) ∈ gT := gk2 31 rfl rfl
theorem k332 : (Cond.static (⟨"java/lang/Character", "isValidCodePoint", "(I)Z"⟩ : MethodName)) ∈ gT := gk2 32 rfl rfl
theorem k333 : (Cond.code (⟨"java/lang/Character", "isValidCodePoint", "(I)Z"⟩ : MethodName) prog_7_method_11_code 2 (Option.some FieldType.boolean)) ∈ gT := gk2 33 rfl rfl
theorem k334 : (Cond.methodLink "java/lang/StringUTF16" 157 (⟨"java/lang/Character", "highSurrogate", "(I)C"⟩ : MethodName)) ∈ gT := gk2 34 rfl rfl
theorem k335 : (Cond.static (⟨"java/lang/Character", "highSurrogate", "(I)C"⟩ : MethodName)) ∈ gT := gk2 35 rfl rfl
theorem k336 : (Cond.code (⟨"java/lang/Character", "highSurrogate", "(I)C"⟩ : MethodName) prog_7_method_28_code 1 (Option.some FieldType.char)) ∈ gT := gk2 36 rfl rfl
theorem k337 : (Cond.constant "java/lang/Character" 110 (55232 : Int32)) ∈ gT := gk2 37 rfl rfl
theorem k338 : (Cond.methodLink "java/lang/StringUTF16" 161 (⟨"java/lang/Character", "lowSurrogate", "(I)C"⟩ : MethodName)) ∈ gT := gk2 38 rfl rfl
theorem k339 : (Cond.static (⟨"java/lang/Character", "lowSurrogate", "(I)C"⟩ : MethodName)) ∈ gT := gk2 39 rfl rfl
theorem k340 : (Cond.code (⟨"java/lang/Character", "lowSurrogate", "(I)C"⟩ : MethodName) prog_7_method_29_code 1 (Option.some FieldType.char)) ∈ gT := gk2 40 rfl rfl
theorem k341 : (Cond.constant "java/lang/Character" 76 (56320 : Int32)) ∈ gT := gk2 41 rfl rfl
theorem k342 : (Cond.methodLink "GreenHorseUpstairs" 62 (⟨"GreenHorseUpstairs", "performAll", "()I"⟩ : MethodName)) ∈ gT := gk2 42 rfl rfl
theorem k344 : (Cond.instanceMethod (⟨"GreenHorseUpstairs", "performAll", "()I"⟩ : MethodName)) ∈ gT := gk2 44 rfl rfl
theorem k345 : (Cond.code (⟨"GreenHorseUpstairs", "performAll", "()I"⟩ : MethodName) prog_1_method_59_code 3 (Option.some FieldType.int)) ∈ gT := gk2 45 rfl rfl
theorem k346 : (Cond.methodLink "GreenHorseUpstairs" 229 (⟨"GreenHorseUpstairs$Museum", "become", "(LGreenHorseUpstairs$Museum;)V"⟩ : MethodName)) ∈ gT := gk2 46 rfl rfl
theorem k347 : (Cond.instanceMethod (⟨"GreenHorseUpstairs$Museum", "become", "(LGreenHorseUpstairs$Museum;)V"⟩ : MethodName)) ∈ gT := gk2 47 rfl rfl
theorem k348 : (Cond.selects "GreenHorseUpstairs$Museum" (⟨"GreenHorseUpstairs$Museum", "become", "(LGreenHorseUpstairs$Museum;)V"⟩ : MethodName) (⟨"GreenHorseUpstairs$Museum", "become", "(LGreenHorseUpstairs$Museum;)V"⟩ : MethodName)) ∈ gT := gk2 48 rfl rfl
theorem k349 : (Cond.code (⟨"GreenHorseUpstairs$Museum", "become", "(LGreenHorseUpstairs$Museum;)V"⟩ : MethodName) prog_3_method_2_code 2 (Option.none : Option FieldType)) ∈ gT := gk2 49 rfl rfl
theorem k350 : (Cond.methodLink "GreenHorseUpstairs$Museum" 68 (⟨"GreenHorseUpstairs$Rooms", "become", "(LGreenHorseUpstairs$Rooms;)V"⟩ : MethodName)) ∈ gT := gk2 50 rfl rfl
theorem k351 : (Cond.instanceMethod (⟨"GreenHorseUpstairs$Rooms", "become", "(LGreenHorseUpstairs$Rooms;)V"⟩ : MethodName)) ∈ gT := gk2 51 rfl rfl
theorem k352 : (Cond.selects "GreenHorseUpstairs$Rooms" (⟨"GreenHorseUpstairs$Rooms", "become", "(LGreenHorseUpstairs$Rooms;)V"⟩ : MethodName) (⟨"GreenHorseUpstairs$Rooms", "become", "(LGreenHorseUpstairs$Rooms;)V"⟩ : MethodName)) ∈ gT := gk2 52 rfl rfl
theorem k353 : (Cond.code (⟨"GreenHorseUpstairs$Rooms", "become", "(LGreenHorseUpstairs$Rooms;)V"⟩ : MethodName) prog_4_method_2_code 2 (Option.none : Option FieldType)) ∈ gT := gk2 53 rfl rfl
theorem k354 : (Cond.methodLink "GreenHorseUpstairs$Rooms" 21 (⟨"java/lang/System", "arraycopy", "(Ljava/lang/Object;ILjava/lang/Object;II)V"⟩ : MethodName)) ∈ gT := gk2 54 rfl rfl
theorem k355 : (Cond.static (⟨"java/lang/System", "arraycopy", "(Ljava/lang/Object;ILjava/lang/Object;II)V"⟩ : MethodName)) ∈ gT := gk2 55 rfl rfl
theorem k356 : (Cond.native (⟨"java/lang/System", "arraycopy", "(Ljava/lang/Object;ILjava/lang/Object;II)V"⟩ : MethodName)) ∈ gT := gk2 56 rfl rfl
theorem k357 : (Cond.methodLink "GreenHorseUpstairs$Museum" 72 (⟨"java/lang/System", "arraycopy", "(Ljava/lang/Object;ILjava/lang/Object;II)V"⟩ : MethodName)) ∈ gT := gk2 57 rfl rfl
theorem k358 : (Cond.methodLink "GreenHorseUpstairs" 239 (⟨"GreenHorseUpstairs$Letters", "length", "()I"⟩ : MethodName)) ∈ gT := gk2 58 rfl rfl
theorem k359 : (Cond.instanceMethod (⟨"GreenHorseUpstairs$Letters", "length", "()I"⟩ : MethodName)) ∈ gT := gk2 59 rfl rfl
theorem k360 : (Cond.selects "GreenHorseUpstairs$Letters" (⟨"GreenHorseUpstairs$Letters", "length", "()I"⟩ : MethodName) (⟨"GreenHorseUpstairs$Letters", "length", "()I"⟩ : MethodName)) ∈ gT := gk2 60 rfl rfl
theorem k361 : (Cond.code (⟨"GreenHorseUpstairs$Letters", "length", "()I"⟩ : MethodName) prog_2_method_2_code 1 (Option.some FieldType.int)) ∈ gT := gk2 61 rfl rfl
theorem k362 : (Cond.methodLink "GreenHorseUpstairs" 264 (⟨"GreenHorseUpstairs", "perform", "(I)Z"⟩ : MethodName)) ∈ gT := gk2 62 rfl rfl
theorem k364 : (Cond.instanceMethod (⟨"GreenHorseUpstairs", "perform", "(I)Z"⟩ : MethodName)) ∈ gT := gk2 64 rfl rfl
theorem k365 : (Cond.code (⟨"GreenHorseUpstairs", "perform", "(I)Z"⟩ : MethodName) prog_1_method_60_code 5 (Option.some FieldType.boolean)) ∈ gT := gk2 65 rfl rfl
theorem k366 : (Cond.methodLink "GreenHorseUpstairs" 272 (⟨"GreenHorseUpstairs$Letters", "digit", "(I)I"⟩ : MethodName)) ∈ gT := gk2 66 rfl rfl
theorem k367 : (Cond.instanceMethod (⟨"GreenHorseUpstairs$Letters", "digit", "(I)I"⟩ : MethodName)) ∈ gT := gk2 67 rfl rfl
theorem k368 : (Cond.selects "GreenHorseUpstairs$Letters" (⟨"GreenHorseUpstairs$Letters", "digit", "(I)I"⟩ : MethodName) (⟨"GreenHorseUpstairs$Letters", "digit", "(I)I"⟩ : MethodName)) ∈ gT := gk2 68 rfl rfl
theorem k369 : (Cond.code (⟨"GreenHorseUpstairs$Letters", "digit", "(I)I"⟩ : MethodName) prog_2_method_7_code 2 (Option.some FieldType.int)) ∈ gT := gk2 69 rfl rfl
theorem k370 : (Cond.methodLink "GreenHorseUpstairs" 267 (⟨"GreenHorseUpstairs$Letters", "at", "(I)I"⟩ : MethodName)) ∈ gT := gk2 70 rfl rfl
theorem k371 : (Cond.methodLink "GreenHorseUpstairs" 275 (⟨"GreenHorseUpstairs", "performDoor", "(II)Z"⟩ : MethodName)) ∈ gT := gk2 71 rfl rfl
theorem k373 : (Cond.instanceMethod (⟨"GreenHorseUpstairs", "performDoor", "(II)Z"⟩ : MethodName)) ∈ gT := gk2 73 rfl rfl
theorem k374 : (Cond.code (⟨"GreenHorseUpstairs", "performDoor", "(II)Z"⟩ : MethodName) prog_1_method_61_code 3 (Option.some FieldType.boolean)) ∈ gT := gk2 74 rfl rfl
theorem k375 : (Cond.methodLink "GreenHorseUpstairs" 68 (⟨"GreenHorseUpstairs", "noRoom", "(I)Z"⟩ : MethodName)) ∈ gT := gk2 75 rfl rfl
theorem k376 : (Cond.static (⟨"GreenHorseUpstairs", "noRoom", "(I)Z"⟩ : MethodName)) ∈ gT := gk2 76 rfl rfl
theorem k377 : (Cond.code (⟨"GreenHorseUpstairs", "noRoom", "(I)Z"⟩ : MethodName) prog_1_method_37_code 1 (Option.some FieldType.boolean)) ∈ gT := gk2 77 rfl rfl
theorem k378 : (Cond.methodLink "GreenHorseUpstairs" 124 (⟨"GreenHorseUpstairs$Rooms", "turn", "(II)V"⟩ : MethodName)) ∈ gT := gk2 78 rfl rfl
theorem k379 : (Cond.instanceMethod (⟨"GreenHorseUpstairs$Rooms", "turn", "(II)V"⟩ : MethodName)) ∈ gT := gk2 79 rfl rfl
theorem k380 : (Cond.selects "GreenHorseUpstairs$Rooms" (⟨"GreenHorseUpstairs$Rooms", "turn", "(II)V"⟩ : MethodName) (⟨"GreenHorseUpstairs$Rooms", "turn", "(II)V"⟩ : MethodName)) ∈ gT := gk2 80 rfl rfl
theorem k381 : (Cond.code (⟨"GreenHorseUpstairs$Rooms", "turn", "(II)V"⟩ : MethodName) prog_4_method_4_code 4 (Option.none : Option FieldType)) ∈ gT := gk2 81 rfl rfl
theorem k382 : (Cond.methodLink "GreenHorseUpstairs$Rooms" 27 (⟨"GreenHorseUpstairs$Rooms", "isOpen", "(II)Z"⟩ : MethodName)) ∈ gT := gk2 82 rfl rfl
theorem k383 : (Cond.instanceMethod (⟨"GreenHorseUpstairs$Rooms", "isOpen", "(II)Z"⟩ : MethodName)) ∈ gT := gk2 83 rfl rfl
theorem k384 : (Cond.selects "GreenHorseUpstairs$Rooms" (⟨"GreenHorseUpstairs$Rooms", "isOpen", "(II)Z"⟩ : MethodName) (⟨"GreenHorseUpstairs$Rooms", "isOpen", "(II)Z"⟩ : MethodName)) ∈ gT := gk2 84 rfl rfl
theorem k385 : (Cond.code (⟨"GreenHorseUpstairs$Rooms", "isOpen", "(II)Z"⟩ : MethodName) prog_4_method_3_code 3 (Option.some FieldType.boolean)) ∈ gT := gk2 85 rfl rfl
theorem k386 : (Cond.methodLink "GreenHorseUpstairs" 278 (⟨"GreenHorseUpstairs$Letters", "kindOf", "(I)I"⟩ : MethodName)) ∈ gT := gk2 86 rfl rfl
theorem k387 : (Cond.methodLink "GreenHorseUpstairs" 281 (⟨"GreenHorseUpstairs", "performQuestion", "(IIII)Z"⟩ : MethodName)) ∈ gT := gk2 87 rfl rfl
theorem k389 : (Cond.instanceMethod (⟨"GreenHorseUpstairs", "performQuestion", "(IIII)Z"⟩ : MethodName)) ∈ gT := gk2 89 rfl rfl
theorem k390 : (Cond.code (⟨"GreenHorseUpstairs", "performQuestion", "(IIII)Z"⟩ : MethodName) prog_1_method_62_code 5 (Option.some FieldType.boolean)) ∈ gT := gk2 90 rfl rfl
theorem k391 : (Cond.methodLink "GreenHorseUpstairs" 297 (⟨"GreenHorseUpstairs$Museum", "addQuestion", "(IIII)V"⟩ : MethodName)) ∈ gT := gk2 91 rfl rfl
theorem k392 : (Cond.instanceMethod (⟨"GreenHorseUpstairs$Museum", "addQuestion", "(IIII)V"⟩ : MethodName)) ∈ gT := gk2 92 rfl rfl
theorem k393 : (Cond.selects "GreenHorseUpstairs$Museum" (⟨"GreenHorseUpstairs$Museum", "addQuestion", "(IIII)V"⟩ : MethodName) (⟨"GreenHorseUpstairs$Museum", "addQuestion", "(IIII)V"⟩ : MethodName)) ∈ gT := gk2 93 rfl rfl
theorem k394 : (Cond.code (⟨"GreenHorseUpstairs$Museum", "addQuestion", "(IIII)V"⟩ : MethodName) prog_3_method_4_code 5 (Option.none : Option FieldType)) ∈ gT := gk2 94 rfl rfl
theorem k395 : (Cond.methodLink "GreenHorseUpstairs" 284 (⟨"GreenHorseUpstairs", "performGroup", "(III)Z"⟩ : MethodName)) ∈ gT := gk2 95 rfl rfl
theorem k397 : (Cond.instanceMethod (⟨"GreenHorseUpstairs", "performGroup", "(III)Z"⟩ : MethodName)) ∈ gT := gk2 97 rfl rfl
theorem k398 : (Cond.code (⟨"GreenHorseUpstairs", "performGroup", "(III)Z"⟩ : MethodName) prog_1_method_63_code 4 (Option.some FieldType.boolean)) ∈ gT := gk2 98 rfl rfl
theorem k399 : (Cond.methodLink "GreenHorseUpstairs" 301 (⟨"GreenHorseUpstairs$Museum", "addGroup", "(III)V"⟩ : MethodName)) ∈ gT := gk2 99 rfl rfl
theorem k400 : (Cond.instanceMethod (⟨"GreenHorseUpstairs$Museum", "addGroup", "(III)V"⟩ : MethodName)) ∈ gT := gk2 100 rfl rfl
theorem k401 : (Cond.selects "GreenHorseUpstairs$Museum" (⟨"GreenHorseUpstairs$Museum", "addGroup", "(III)V"⟩ : MethodName) (⟨"GreenHorseUpstairs$Museum", "addGroup", "(III)V"⟩ : MethodName)) ∈ gT := gk2 101 rfl rfl
theorem k402 : (Cond.code (⟨"GreenHorseUpstairs$Museum", "addGroup", "(III)V"⟩ : MethodName) prog_3_method_5_code 4 (Option.none : Option FieldType)) ∈ gT := gk2 102 rfl rfl
theorem k403 : (Cond.methodLink "GreenHorseUpstairs" 288 (⟨"GreenHorseUpstairs", "performPlace", "(II)Z"⟩ : MethodName)) ∈ gT := gk2 103 rfl rfl
theorem k405 : (Cond.instanceMethod (⟨"GreenHorseUpstairs", "performPlace", "(II)Z"⟩ : MethodName)) ∈ gT := gk2 105 rfl rfl
theorem k406 : (Cond.code (⟨"GreenHorseUpstairs", "performPlace", "(II)Z"⟩ : MethodName) prog_1_method_64_code 3 (Option.some FieldType.boolean)) ∈ gT := gk2 106 rfl rfl
theorem k407 : (Cond.methodLink "GreenHorseUpstairs" 100 (⟨"GreenHorseUpstairs", "noGroup", "(I)Z"⟩ : MethodName)) ∈ gT := gk2 107 rfl rfl
theorem k409 : (Cond.instanceMethod (⟨"GreenHorseUpstairs", "noGroup", "(I)Z"⟩ : MethodName)) ∈ gT := gk2 109 rfl rfl
theorem k410 : (Cond.code (⟨"GreenHorseUpstairs", "noGroup", "(I)Z"⟩ : MethodName) prog_1_method_39_code 2 (Option.some FieldType.boolean)) ∈ gT := gk2 110 rfl rfl
theorem k411 : (Cond.methodLink "GreenHorseUpstairs" 132 (⟨"GreenHorseUpstairs$Museum", "place", "(II)V"⟩ : MethodName)) ∈ gT := gk2 111 rfl rfl
theorem k412 : (Cond.instanceMethod (⟨"GreenHorseUpstairs$Museum", "place", "(II)V"⟩ : MethodName)) ∈ gT := gk2 112 rfl rfl
theorem k413 : (Cond.selects "GreenHorseUpstairs$Museum" (⟨"GreenHorseUpstairs$Museum", "place", "(II)V"⟩ : MethodName) (⟨"GreenHorseUpstairs$Museum", "place", "(II)V"⟩ : MethodName)) ∈ gT := gk2 113 rfl rfl
theorem k414 : (Cond.code (⟨"GreenHorseUpstairs$Museum", "place", "(II)V"⟩ : MethodName) prog_3_method_6_code 3 (Option.none : Option FieldType)) ∈ gT := gk2 114 rfl rfl
theorem k415 : (Cond.methodLink "GreenHorseUpstairs" 291 (⟨"GreenHorseUpstairs", "performAnswer", "(III)Z"⟩ : MethodName)) ∈ gT := gk2 115 rfl rfl
theorem k417 : (Cond.instanceMethod (⟨"GreenHorseUpstairs", "performAnswer", "(III)Z"⟩ : MethodName)) ∈ gT := gk2 117 rfl rfl
theorem k418 : (Cond.code (⟨"GreenHorseUpstairs", "performAnswer", "(III)Z"⟩ : MethodName) prog_1_method_65_code 4 (Option.some FieldType.boolean)) ∈ gT := gk2 118 rfl rfl
theorem k419 : (Cond.methodLink "GreenHorseUpstairs" 82 (⟨"GreenHorseUpstairs", "noQuestion", "(I)Z"⟩ : MethodName)) ∈ gT := gk2 119 rfl rfl
theorem k421 : (Cond.instanceMethod (⟨"GreenHorseUpstairs", "noQuestion", "(I)Z"⟩ : MethodName)) ∈ gT := gk2 121 rfl rfl
theorem k422 : (Cond.code (⟨"GreenHorseUpstairs", "noQuestion", "(I)Z"⟩ : MethodName) prog_1_method_38_code 2 (Option.some FieldType.boolean)) ∈ gT := gk2 122 rfl rfl
theorem k423 : (Cond.methodLink "GreenHorseUpstairs" 135 (⟨"GreenHorseUpstairs$Museum", "fill", "(III)V"⟩ : MethodName)) ∈ gT := gk2 123 rfl rfl
theorem k424 : (Cond.instanceMethod (⟨"GreenHorseUpstairs$Museum", "fill", "(III)V"⟩ : MethodName)) ∈ gT := gk2 124 rfl rfl
theorem k425 : (Cond.selects "GreenHorseUpstairs$Museum" (⟨"GreenHorseUpstairs$Museum", "fill", "(III)V"⟩ : MethodName) (⟨"GreenHorseUpstairs$Museum", "fill", "(III)V"⟩ : MethodName)) ∈ gT := gk2 125 rfl rfl
theorem k426 : (Cond.code (⟨"GreenHorseUpstairs$Museum", "fill", "(III)V"⟩ : MethodName) prog_3_method_8_code 4 (Option.none : Option FieldType)) ∈ gT := gk2 126 rfl rfl
theorem k427 : (Cond.methodLink "GreenHorseUpstairs" 294 (⟨"GreenHorseUpstairs", "performMinutes", "(I)Z"⟩ : MethodName)) ∈ gT := gk2 127 rfl rfl
theorem k429 : (Cond.instanceMethod (⟨"GreenHorseUpstairs", "performMinutes", "(I)Z"⟩ : MethodName)) ∈ gT := gk2 129 rfl rfl
theorem k430 : (Cond.code (⟨"GreenHorseUpstairs", "performMinutes", "(I)Z"⟩ : MethodName) prog_1_method_66_code 2 (Option.some FieldType.boolean)) ∈ gT := gk2 130 rfl rfl
theorem k431 : (Cond.methodLink "GreenHorseUpstairs" 142 (⟨"GreenHorseUpstairs$Museum", "passMinutes", "(I)V"⟩ : MethodName)) ∈ gT := gk2 131 rfl rfl
theorem k432 : (Cond.instanceMethod (⟨"GreenHorseUpstairs$Museum", "passMinutes", "(I)V"⟩ : MethodName)) ∈ gT := gk2 132 rfl rfl
theorem k433 : (Cond.selects "GreenHorseUpstairs$Museum" (⟨"GreenHorseUpstairs$Museum", "passMinutes", "(I)V"⟩ : MethodName) (⟨"GreenHorseUpstairs$Museum", "passMinutes", "(I)V"⟩ : MethodName)) ∈ gT := gk2 133 rfl rfl
theorem k434 : (Cond.code (⟨"GreenHorseUpstairs$Museum", "passMinutes", "(I)V"⟩ : MethodName) prog_3_method_15_code 3 (Option.none : Option FieldType)) ∈ gT := gk2 134 rfl rfl
theorem k435 : (Cond.methodLink "GreenHorseUpstairs$Museum" 89 (⟨"GreenHorseUpstairs$Museum", "passMinute", "()V"⟩ : MethodName)) ∈ gT := gk2 135 rfl rfl
theorem k436 : (Cond.instanceMethod (⟨"GreenHorseUpstairs$Museum", "passMinute", "()V"⟩ : MethodName)) ∈ gT := gk2 136 rfl rfl
theorem k437 : (Cond.selects "GreenHorseUpstairs$Museum" (⟨"GreenHorseUpstairs$Museum", "passMinute", "()V"⟩ : MethodName) (⟨"GreenHorseUpstairs$Museum", "passMinute", "()V"⟩ : MethodName)) ∈ gT := gk2 137 rfl rfl
theorem k438 : (Cond.code (⟨"GreenHorseUpstairs$Museum", "passMinute", "()V"⟩ : MethodName) prog_3_method_16_code 3 (Option.none : Option FieldType)) ∈ gT := gk2 138 rfl rfl
theorem k439 : (Cond.methodLink "GreenHorseUpstairs$Museum" 81 (⟨"GreenHorseUpstairs$Museum", "nextQuestion", "(I)I"⟩ : MethodName)) ∈ gT := gk2 139 rfl rfl
theorem k440 : (Cond.instanceMethod (⟨"GreenHorseUpstairs$Museum", "nextQuestion", "(I)I"⟩ : MethodName)) ∈ gT := gk2 140 rfl rfl
theorem k441 : (Cond.selects "GreenHorseUpstairs$Museum" (⟨"GreenHorseUpstairs$Museum", "nextQuestion", "(I)I"⟩ : MethodName) (⟨"GreenHorseUpstairs$Museum", "nextQuestion", "(I)I"⟩ : MethodName)) ∈ gT := gk2 141 rfl rfl
theorem k442 : (Cond.code (⟨"GreenHorseUpstairs$Museum", "nextQuestion", "(I)I"⟩ : MethodName) prog_3_method_11_code 4 (Option.some FieldType.int)) ∈ gT := gk2 142 rfl rfl
theorem k443 : (Cond.methodLink "GreenHorseUpstairs$Museum" 92 (⟨"GreenHorseUpstairs$Museum", "goOnWith", "(II)V"⟩ : MethodName)) ∈ gT := gk2 143 rfl rfl
theorem k445 : (Cond.instanceMethod (⟨"GreenHorseUpstairs$Museum", "goOnWith", "(II)V"⟩ : MethodName)) ∈ gT := gk2 145 rfl rfl
theorem k446 : (Cond.code (⟨"GreenHorseUpstairs$Museum", "goOnWith", "(II)V"⟩ : MethodName) prog_3_method_17_code 4 (Option.none : Option FieldType)) ∈ gT := gk2 146 rfl rfl
theorem k447 : (Cond.methodLink "GreenHorseUpstairs$Museum" 96 (⟨"GreenHorseUpstairs$Rooms", "towards", "(II)I"⟩ : MethodName)) ∈ gT := gk2 147 rfl rfl
theorem k448 : (Cond.instanceMethod (⟨"GreenHorseUpstairs$Rooms", "towards", "(II)I"⟩ : MethodName)) ∈ gT := gk2 148 rfl rfl
theorem k449 : (Cond.selects "GreenHorseUpstairs$Rooms" (⟨"GreenHorseUpstairs$Rooms", "towards", "(II)I"⟩ : MethodName) (⟨"GreenHorseUpstairs$Rooms", "towards", "(II)I"⟩ : MethodName)) ∈ gT := gk2 149 rfl rfl
theorem k450 : (Cond.code (⟨"GreenHorseUpstairs$Rooms", "towards", "(II)I"⟩ : MethodName) prog_4_method_7_code 5 (Option.some FieldType.int)) ∈ gT := gk2 150 rfl rfl
theorem k451 : (Cond.methodLink "GreenHorseUpstairs$Museum" 100 (⟨"GreenHorseUpstairs$Museum", "place", "(II)V"⟩ : MethodName)) ∈ gT := gk2 151 rfl rfl
theorem k452 : (Cond.methodLink "GreenHorseUpstairs$Museum" 103 (⟨"GreenHorseUpstairs$Museum", "minutesFor", "(I)I"⟩ : MethodName)) ∈ gT := gk2 152 rfl rfl
theorem k453 : (Cond.instanceMethod (⟨"GreenHorseUpstairs$Museum", "minutesFor", "(I)I"⟩ : MethodName)) ∈ gT := gk2 153 rfl rfl
theorem k454 : (Cond.selects "GreenHorseUpstairs$Museum" (⟨"GreenHorseUpstairs$Museum", "minutesFor", "(I)I"⟩ : MethodName) (⟨"GreenHorseUpstairs$Museum", "minutesFor", "(I)I"⟩ : MethodName)) ∈ gT := gk2 154 rfl rfl
theorem k455 : (Cond.code (⟨"GreenHorseUpstairs$Museum", "minutesFor", "(I)I"⟩ : MethodName) prog_3_method_14_code 2 (Option.some FieldType.int)) ∈ gT := gk2 155 rfl rfl
theorem k456 : (Cond.methodLink "GreenHorseUpstairs$Museum" 106 (⟨"GreenHorseUpstairs$Museum", "wouldCopy", "(II)Z"⟩ : MethodName)) ∈ gT := gk2 156 rfl rfl
theorem k458 : (Cond.instanceMethod (⟨"GreenHorseUpstairs$Museum", "wouldCopy", "(II)Z"⟩ : MethodName)) ∈ gT := gk2 158 rfl rfl
theorem k459 : (Cond.code (⟨"GreenHorseUpstairs$Museum", "wouldCopy", "(II)Z"⟩ : MethodName) prog_3_method_18_code 3 (Option.some FieldType.boolean)) ∈ gT := gk2 159 rfl rfl
theorem k460 : (Cond.methodLink "GreenHorseUpstairs$Museum" 110 (⟨"GreenHorseUpstairs$Museum", "sourceFor", "(II)I"⟩ : MethodName)) ∈ gT := gk2 160 rfl rfl
theorem k462 : (Cond.instanceMethod (⟨"GreenHorseUpstairs$Museum", "sourceFor", "(II)I"⟩ : MethodName)) ∈ gT := gk2 162 rfl rfl
theorem k463 : (Cond.code (⟨"GreenHorseUpstairs$Museum", "sourceFor", "(II)I"⟩ : MethodName) prog_3_method_19_code 5 (Option.some FieldType.int)) ∈ gT := gk2 163 rfl rfl
theorem k464 : (Cond.methodLink "GreenHorseUpstairs$Museum" 113 (⟨"GreenHorseUpstairs$Museum", "ownAnswer", "(II)I"⟩ : MethodName)) ∈ gT := gk2 164 rfl rfl
theorem k466 : (Cond.instanceMethod (⟨"GreenHorseUpstairs$Museum", "ownAnswer", "(II)I"⟩ : MethodName)) ∈ gT := gk2 166 rfl rfl
theorem k467 : (Cond.code (⟨"GreenHorseUpstairs$Museum", "ownAnswer", "(II)I"⟩ : MethodName) prog_3_method_20_code 4 (Option.some FieldType.int)) ∈ gT := gk2 167 rfl rfl
theorem k468 : (Cond.methodLink "GreenHorseUpstairs$Museum" 116 (⟨"GreenHorseUpstairs$Museum", "answerOf", "(II)I"⟩ : MethodName)) ∈ gT := gk2 168 rfl rfl
theorem k469 : (Cond.instanceMethod (⟨"GreenHorseUpstairs$Museum", "answerOf", "(II)I"⟩ : MethodName)) ∈ gT := gk2 169 rfl rfl
theorem k470 : (Cond.selects "GreenHorseUpstairs$Museum" (⟨"GreenHorseUpstairs$Museum", "answerOf", "(II)I"⟩ : MethodName) (⟨"GreenHorseUpstairs$Museum", "answerOf", "(II)I"⟩ : MethodName)) ∈ gT := gk2 170 rfl rfl
theorem k471 : (Cond.code (⟨"GreenHorseUpstairs$Museum", "answerOf", "(II)I"⟩ : MethodName) prog_3_method_7_code 3 (Option.some FieldType.int)) ∈ gT := gk2 171 rfl rfl
theorem k472 : (Cond.methodLink "GreenHorseUpstairs$Museum" 78 (⟨"GreenHorseUpstairs$Museum", "fill", "(III)V"⟩ : MethodName)) ∈ gT := gk2 172 rfl rfl
theorem k473 : (Cond.methodLink "GreenHorseUpstairs" 269 (⟨"GreenHorseUpstairs$Letters", "signsBehind", "(I)I"⟩ : MethodName)) ∈ gT := gk2 173 rfl rfl
theorem k474 : (Cond.methodLink "GreenHorseUpstairs" 65 (⟨"GreenHorseUpstairs$Letters", "forget", "()V"⟩ : MethodName)) ∈ gT := gk2 174 rfl rfl
theorem k475 : (Cond.instanceMethod (⟨"GreenHorseUpstairs$Letters", "forget", "()V"⟩ : MethodName)) ∈ gT := gk2 175 rfl rfl
theorem k476 : (Cond.selects "GreenHorseUpstairs$Letters" (⟨"GreenHorseUpstairs$Letters", "forget", "()V"⟩ : MethodName) (⟨"GreenHorseUpstairs$Letters", "forget", "()V"⟩ : MethodName)) ∈ gT := gk2 176 rfl rfl
theorem k477 : (Cond.code (⟨"GreenHorseUpstairs$Letters", "forget", "()V"⟩ : MethodName) prog_2_method_5_code 1 (Option.none : Option FieldType)) ∈ gT := gk2 177 rfl rfl
theorem k478 : (Cond.arrayClass FieldType.byte) ∈ gT := gk2 178 rfl rfl
theorem k479 : (Cond.methodLink "GreenHorseUpstairsLaw" 23 (⟨"GreenHorseUpstairs", "door", "(II)I"⟩ : MethodName)) ∈ gT := gk2 179 rfl rfl
theorem k480 : (Cond.instanceMethod (⟨"GreenHorseUpstairs", "door", "(II)I"⟩ : MethodName)) ∈ gT := gk2 180 rfl rfl
theorem k481 : (Cond.selects "GreenHorseUpstairs" (⟨"GreenHorseUpstairs", "door", "(II)I"⟩ : MethodName) (⟨"GreenHorseUpstairs", "door", "(II)I"⟩ : MethodName)) ∈ gT := gk2 181 rfl rfl
theorem k482 : (Cond.code (⟨"GreenHorseUpstairs", "door", "(II)I"⟩ : MethodName) prog_1_method_4_code 3 (Option.some FieldType.int)) ∈ gT := gk2 182 rfl rfl
theorem k483 : (Cond.methodLink "GreenHorseUpstairs" 76 (⟨"GreenHorseUpstairs$Rooms", "distance", "(II)I"⟩ : MethodName)) ∈ gT := gk2 183 rfl rfl
theorem k484 : (Cond.instanceMethod (⟨"GreenHorseUpstairs$Rooms", "distance", "(II)I"⟩ : MethodName)) ∈ gT := gk2 184 rfl rfl
theorem k485 : (Cond.selects "GreenHorseUpstairs$Rooms" (⟨"GreenHorseUpstairs$Rooms", "distance", "(II)I"⟩ : MethodName) (⟨"GreenHorseUpstairs$Rooms", "distance", "(II)I"⟩ : MethodName)) ∈ gT := gk2 185 rfl rfl
theorem k486 : (Cond.code (⟨"GreenHorseUpstairs$Rooms", "distance", "(II)I"⟩ : MethodName) prog_4_method_6_code 4 (Option.some FieldType.int)) ∈ gT := gk2 186 rfl rfl
theorem k487 : (Cond.methodLink "GreenHorseUpstairsLaw" 28 (⟨"GreenHorseUpstairs", "question", "(II)I"⟩ : MethodName)) ∈ gT := gk2 187 rfl rfl
theorem k488 : (Cond.instanceMethod (⟨"GreenHorseUpstairs", "question", "(II)I"⟩ : MethodName)) ∈ gT := gk2 188 rfl rfl
theorem k489 : (Cond.selects "GreenHorseUpstairs" (⟨"GreenHorseUpstairs", "question", "(II)I"⟩ : MethodName) (⟨"GreenHorseUpstairs", "question", "(II)I"⟩ : MethodName)) ∈ gT := gk2 189 rfl rfl
theorem k490 : (Cond.code (⟨"GreenHorseUpstairs", "question", "(II)I"⟩ : MethodName) prog_1_method_5_code 3 (Option.some FieldType.int)) ∈ gT := gk2 190 rfl rfl
theorem k491 : (Cond.methodLink "GreenHorseUpstairs" 97 (⟨"GreenHorseUpstairs$Museum", "minutesFor", "(I)I"⟩ : MethodName)) ∈ gT := gk2 191 rfl rfl
theorem k492 : (Cond.methodLink "GreenHorseUpstairsLaw" 32 (⟨"GreenHorseUpstairs", "group", "(II)I"⟩ : MethodName)) ∈ gT := gk2 192 rfl rfl
theorem k493 : (Cond.instanceMethod (⟨"GreenHorseUpstairs", "group", "(II)I"⟩ : MethodName)) ∈ gT := gk2 193 rfl rfl
theorem k494 : (Cond.selects "GreenHorseUpstairs" (⟨"GreenHorseUpstairs", "group", "(II)I"⟩ : MethodName) (⟨"GreenHorseUpstairs", "group", "(II)I"⟩ : MethodName)) ∈ gT := gk2 194 rfl rfl
theorem k495 : (Cond.code (⟨"GreenHorseUpstairs", "group", "(II)I"⟩ : MethodName) prog_1_method_6_code 3 (Option.some FieldType.int)) ∈ gT := gk2 195 rfl rfl
theorem k496 : (Cond.methodLink "GreenHorseUpstairs" 118 (⟨"GreenHorseUpstairs$Museum", "nextQuestion", "(I)I"⟩ : MethodName)) ∈ gT := gk2 196 rfl rfl
theorem k497 : (Cond.methodLink "GreenHorseUpstairsLaw" 36 (⟨"GreenHorseUpstairs", "sheet", "(II)I"⟩ : MethodName)) ∈ gT := gk2 197 rfl rfl
theorem k498 : (Cond.instanceMethod (⟨"GreenHorseUpstairs", "sheet", "(II)I"⟩ : MethodName)) ∈ gT := gk2 198 rfl rfl
theorem k499 : (Cond.selects "GreenHorseUpstairs" (⟨"GreenHorseUpstairs", "sheet", "(II)I"⟩ : MethodName) (⟨"GreenHorseUpstairs", "sheet", "(II)I"⟩ : MethodName)) ∈ gT := gk2 199 rfl rfl
theorem k500 : (Cond.code (⟨"GreenHorseUpstairs", "sheet", "(II)I"⟩ : MethodName) prog_1_method_7_code 3 (Option.some FieldType.int)) ∈ gT := gk2 200 rfl rfl
theorem k501 : (Cond.methodLink "GreenHorseUpstairs" 121 (⟨"GreenHorseUpstairs$Museum", "answerOf", "(II)I"⟩ : MethodName)) ∈ gT := gk2 201 rfl rfl
theorem k502 : (Cond.methodLink "GreenHorseUpstairsLaw" 40 (⟨"GreenHorseUpstairs", "opens", "(II)I"⟩ : MethodName)) ∈ gT := gk2 202 rfl rfl
theorem k503 : (Cond.instanceMethod (⟨"GreenHorseUpstairs", "opens", "(II)I"⟩ : MethodName)) ∈ gT := gk2 203 rfl rfl
theorem k504 : (Cond.selects "GreenHorseUpstairs" (⟨"GreenHorseUpstairs", "opens", "(II)I"⟩ : MethodName) (⟨"GreenHorseUpstairs", "opens", "(II)I"⟩ : MethodName)) ∈ gT := gk2 204 rfl rfl
theorem k505 : (Cond.code (⟨"GreenHorseUpstairs", "opens", "(II)I"⟩ : MethodName) prog_1_method_8_code 3 (Option.some FieldType.int)) ∈ gT := gk2 205 rfl rfl
theorem k506 : (Cond.methodLink "GreenHorseUpstairs" 128 (⟨"GreenHorseUpstairs$Rooms", "isOpen", "(II)Z"⟩ : MethodName)) ∈ gT := gk2 206 rfl rfl
theorem k507 : (Cond.methodLink "GreenHorseUpstairsLaw" 44 (⟨"GreenHorseUpstairs", "put", "(II)I"⟩ : MethodName)) ∈ gT := gk2 207 rfl rfl
theorem k508 : (Cond.instanceMethod (⟨"GreenHorseUpstairs", "put", "(II)I"⟩ : MethodName)) ∈ gT := gk2 208 rfl rfl
theorem k509 : (Cond.selects "GreenHorseUpstairs" (⟨"GreenHorseUpstairs", "put", "(II)I"⟩ : MethodName) (⟨"GreenHorseUpstairs", "put", "(II)I"⟩ : MethodName)) ∈ gT := gk2 209 rfl rfl
theorem k510 : (Cond.code (⟨"GreenHorseUpstairs", "put", "(II)I"⟩ : MethodName) prog_1_method_9_code 4 (Option.some FieldType.int)) ∈ gT := gk2 210 rfl rfl
theorem k511 : (Cond.methodLink "GreenHorseUpstairsLaw" 48 (⟨"GreenHorseUpstairs", "start", "(II)I"⟩ : MethodName)) ∈ gT := gk2 211 rfl rfl
theorem k512 : (Cond.instanceMethod (⟨"GreenHorseUpstairs", "start", "(II)I"⟩ : MethodName)) ∈ gT := gk2 212 rfl rfl
theorem k513 : (Cond.selects "GreenHorseUpstairs" (⟨"GreenHorseUpstairs", "start", "(II)I"⟩ : MethodName) (⟨"GreenHorseUpstairs", "start", "(II)I"⟩ : MethodName)) ∈ gT := gk2 213 rfl rfl
theorem k514 : (Cond.code (⟨"GreenHorseUpstairs", "start", "(II)I"⟩ : MethodName) prog_1_method_10_code 4 (Option.some FieldType.int)) ∈ gT := gk2 214 rfl rfl
theorem k515 : (Cond.methodLink "GreenHorseUpstairsLaw" 52 (⟨"GreenHorseUpstairs", "write", "(III)I"⟩ : MethodName)) ∈ gT := gk2 215 rfl rfl
theorem k516 : (Cond.instanceMethod (⟨"GreenHorseUpstairs", "write", "(III)I"⟩ : MethodName)) ∈ gT := gk2 216 rfl rfl
theorem k517 : (Cond.selects "GreenHorseUpstairs" (⟨"GreenHorseUpstairs", "write", "(III)I"⟩ : MethodName) (⟨"GreenHorseUpstairs", "write", "(III)I"⟩ : MethodName)) ∈ gT := gk2 217 rfl rfl
theorem k518 : (Cond.code (⟨"GreenHorseUpstairs", "write", "(III)I"⟩ : MethodName) prog_1_method_11_code 5 (Option.some FieldType.int)) ∈ gT := gk2 218 rfl rfl
theorem k519 : (Cond.methodLink "GreenHorseUpstairsLaw" 57 (⟨"GreenHorseUpstairs", "minutes", "(I)I"⟩ : MethodName)) ∈ gT := gk2 219 rfl rfl
theorem k520 : (Cond.instanceMethod (⟨"GreenHorseUpstairs", "minutes", "(I)I"⟩ : MethodName)) ∈ gT := gk2 220 rfl rfl
theorem k521 : (Cond.selects "GreenHorseUpstairs" (⟨"GreenHorseUpstairs", "minutes", "(I)I"⟩ : MethodName) (⟨"GreenHorseUpstairs", "minutes", "(I)I"⟩ : MethodName)) ∈ gT := gk2 221 rfl rfl
theorem k522 : (Cond.code (⟨"GreenHorseUpstairs", "minutes", "(I)I"⟩ : MethodName) prog_1_method_12_code 2 (Option.some FieldType.int)) ∈ gT := gk2 222 rfl rfl
theorem k523 : (Cond.methodLink "GreenHorseUpstairs" 146 (⟨"GreenHorseUpstairs$Museum", "rightOfAll", "()I"⟩ : MethodName)) ∈ gT := gk2 223 rfl rfl
theorem k524 : (Cond.instanceMethod (⟨"GreenHorseUpstairs$Museum", "rightOfAll", "()I"⟩ : MethodName)) ∈ gT := gk2 224 rfl rfl
theorem k525 : (Cond.selects "GreenHorseUpstairs$Museum" (⟨"GreenHorseUpstairs$Museum", "rightOfAll", "()I"⟩ : MethodName) (⟨"GreenHorseUpstairs$Museum", "rightOfAll", "()I"⟩ : MethodName)) ∈ gT := gk2 225 rfl rfl
theorem k526 : (Cond.code (⟨"GreenHorseUpstairs$Museum", "rightOfAll", "()I"⟩ : MethodName) prog_3_method_25_code 3 (Option.some FieldType.int)) ∈ gT := gk2 226 rfl rfl
theorem k527 : (Cond.methodLink "GreenHorseUpstairs$Museum" 125 (⟨"GreenHorseUpstairs$Museum", "rightOf", "(I)I"⟩ : MethodName)) ∈ gT := gk2 227 rfl rfl
theorem k528 : (Cond.instanceMethod (⟨"GreenHorseUpstairs$Museum", "rightOf", "(I)I"⟩ : MethodName)) ∈ gT := gk2 228 rfl rfl
theorem k529 : (Cond.selects "GreenHorseUpstairs$Museum" (⟨"GreenHorseUpstairs$Museum", "rightOf", "(I)I"⟩ : MethodName) (⟨"GreenHorseUpstairs$Museum", "rightOf", "(I)I"⟩ : MethodName)) ∈ gT := gk2 229 rfl rfl
theorem k530 : (Cond.code (⟨"GreenHorseUpstairs$Museum", "rightOf", "(I)I"⟩ : MethodName) prog_3_method_22_code 4 (Option.some FieldType.int)) ∈ gT := gk2 230 rfl rfl
theorem k531 : (Cond.methodLink "GreenHorseUpstairsLaw" 61 (⟨"GreenHorseUpstairs", "behind", "(III)I"⟩ : MethodName)) ∈ gT := gk2 231 rfl rfl
theorem k532 : (Cond.instanceMethod (⟨"GreenHorseUpstairs", "behind", "(III)I"⟩ : MethodName)) ∈ gT := gk2 232 rfl rfl
theorem k533 : (Cond.selects "GreenHorseUpstairs" (⟨"GreenHorseUpstairs", "behind", "(III)I"⟩ : MethodName) (⟨"GreenHorseUpstairs", "behind", "(III)I"⟩ : MethodName)) ∈ gT := gk2 233 rfl rfl
theorem k534 : (Cond.code (⟨"GreenHorseUpstairs", "behind", "(III)I"⟩ : MethodName) prog_1_method_13_code 4 (Option.some FieldType.int)) ∈ gT := gk2 234 rfl rfl
theorem k535 : (Cond.methodLink "GreenHorseUpstairs" 149 (⟨"GreenHorseUpstairs", "thinkAhead", "(I)V"⟩ : MethodName)) ∈ gT := gk2 235 rfl rfl
theorem k537 : (Cond.instanceMethod (⟨"GreenHorseUpstairs", "thinkAhead", "(I)V"⟩ : MethodName)) ∈ gT := gk2 237 rfl rfl
theorem k538 : (Cond.code (⟨"GreenHorseUpstairs", "thinkAhead", "(I)V"⟩ : MethodName) prog_1_method_41_code 2 (Option.none : Option FieldType)) ∈ gT := gk2 238 rfl rfl
theorem k539 : (Cond.methodLink "GreenHorseUpstairs" 161 (⟨"GreenHorseUpstairs", "think", "()V"⟩ : MethodName)) ∈ gT := gk2 239 rfl rfl
theorem k541 : (Cond.instanceMethod (⟨"GreenHorseUpstairs", "think", "()V"⟩ : MethodName)) ∈ gT := gk3 1 rfl rfl
theorem k542 : (Cond.code (⟨"GreenHorseUpstairs", "think", "()V"⟩ : MethodName) prog_1_method_40_code 1 (Option.none : Option FieldType)) ∈ gT := gk3 2 rfl rfl
theorem k543 : (Cond.methodLink "GreenHorseUpstairs" 242 (⟨"GreenHorseUpstairs$Museum", "forgetCopies", "()V"⟩ : MethodName)) ∈ gT := gk3 3 rfl rfl
theorem k544 : (Cond.instanceMethod (⟨"GreenHorseUpstairs$Museum", "forgetCopies", "()V"⟩ : MethodName)) ∈ gT := gk3 4 rfl rfl
theorem k545 : (Cond.selects "GreenHorseUpstairs$Museum" (⟨"GreenHorseUpstairs$Museum", "forgetCopies", "()V"⟩ : MethodName) (⟨"GreenHorseUpstairs$Museum", "forgetCopies", "()V"⟩ : MethodName)) ∈ gT := gk3 5 rfl rfl
theorem k546 : (Cond.code (⟨"GreenHorseUpstairs$Museum", "forgetCopies", "()V"⟩ : MethodName) prog_3_method_3_code 1 (Option.none : Option FieldType)) ∈ gT := gk3 6 rfl rfl
theorem k547 : (Cond.methodLink "GreenHorseUpstairs" 152 (⟨"GreenHorseUpstairs$Museum", "answersOf", "(I)I"⟩ : MethodName)) ∈ gT := gk3 7 rfl rfl
theorem k548 : (Cond.instanceMethod (⟨"GreenHorseUpstairs$Museum", "answersOf", "(I)I"⟩ : MethodName)) ∈ gT := gk3 8 rfl rfl
theorem k549 : (Cond.selects "GreenHorseUpstairs$Museum" (⟨"GreenHorseUpstairs$Museum", "answersOf", "(I)I"⟩ : MethodName) (⟨"GreenHorseUpstairs$Museum", "answersOf", "(I)I"⟩ : MethodName)) ∈ gT := gk3 9 rfl rfl
theorem k550 : (Cond.code (⟨"GreenHorseUpstairs$Museum", "answersOf", "(I)I"⟩ : MethodName) prog_3_method_21_code 4 (Option.some FieldType.int)) ∈ gT := gk3 10 rfl rfl
theorem k551 : (Cond.methodLink "GreenHorseUpstairs" 155 (⟨"GreenHorseUpstairs$Museum", "rightOf", "(I)I"⟩ : MethodName)) ∈ gT := gk3 11 rfl rfl
theorem k552 : (Cond.methodLink "GreenHorseUpstairs" 158 (⟨"GreenHorseUpstairs$Museum", "copiedBy", "(I)I"⟩ : MethodName)) ∈ gT := gk3 12 rfl rfl
theorem k553 : (Cond.instanceMethod (⟨"GreenHorseUpstairs$Museum", "copiedBy", "(I)I"⟩ : MethodName)) ∈ gT := gk3 13 rfl rfl
theorem k554 : (Cond.selects "GreenHorseUpstairs$Museum" (⟨"GreenHorseUpstairs$Museum", "copiedBy", "(I)I"⟩ : MethodName) (⟨"GreenHorseUpstairs$Museum", "copiedBy", "(I)I"⟩ : MethodName)) ∈ gT := gk3 14 rfl rfl
theorem k555 : (Cond.code (⟨"GreenHorseUpstairs$Museum", "copiedBy", "(I)I"⟩ : MethodName) prog_3_method_23_code 4 (Option.some FieldType.int)) ∈ gT := gk3 15 rfl rfl
theorem k556 : (Cond.methodLink "GreenHorseUpstairs$Museum" 119 (⟨"GreenHorseUpstairs$Museum", "sourceOf", "(II)I"⟩ : MethodName)) ∈ gT := gk3 16 rfl rfl
theorem k557 : (Cond.instanceMethod (⟨"GreenHorseUpstairs$Museum", "sourceOf", "(II)I"⟩ : MethodName)) ∈ gT := gk3 17 rfl rfl
theorem k558 : (Cond.selects "GreenHorseUpstairs$Museum" (⟨"GreenHorseUpstairs$Museum", "sourceOf", "(II)I"⟩ : MethodName) (⟨"GreenHorseUpstairs$Museum", "sourceOf", "(II)I"⟩ : MethodName)) ∈ gT := gk3 18 rfl rfl
theorem k559 : (Cond.code (⟨"GreenHorseUpstairs$Museum", "sourceOf", "(II)I"⟩ : MethodName) prog_3_method_10_code 3 (Option.some FieldType.int)) ∈ gT := gk3 19 rfl rfl
theorem k560 : (Cond.methodLink "GreenHorseUpstairsLaw" 65 (⟨"GreenHorseUpstairs", "done", "(I)I"⟩ : MethodName)) ∈ gT := gk3 20 rfl rfl
theorem k561 : (Cond.instanceMethod (⟨"GreenHorseUpstairs", "done", "(I)I"⟩ : MethodName)) ∈ gT := gk3 21 rfl rfl
theorem k562 : (Cond.selects "GreenHorseUpstairs" (⟨"GreenHorseUpstairs", "done", "(I)I"⟩ : MethodName) (⟨"GreenHorseUpstairs", "done", "(I)I"⟩ : MethodName)) ∈ gT := gk3 22 rfl rfl
theorem k563 : (Cond.code (⟨"GreenHorseUpstairs", "done", "(I)I"⟩ : MethodName) prog_1_method_14_code 2 (Option.some FieldType.int)) ∈ gT := gk3 23 rfl rfl
theorem k564 : (Cond.methodLink "GreenHorseUpstairs" 164 (⟨"GreenHorseUpstairs", "minutesTillDone", "(I)I"⟩ : MethodName)) ∈ gT := gk3 24 rfl rfl
theorem k566 : (Cond.instanceMethod (⟨"GreenHorseUpstairs", "minutesTillDone", "(I)I"⟩ : MethodName)) ∈ gT := gk3 26 rfl rfl
theorem k567 : (Cond.code (⟨"GreenHorseUpstairs", "minutesTillDone", "(I)I"⟩ : MethodName) prog_1_method_43_code 3 (Option.some FieldType.int)) ∈ gT := gk3 27 rfl rfl
theorem k568 : (Cond.methodLink "GreenHorseUpstairs" 245 (⟨"GreenHorseUpstairs$Museum", "isDone", "(I)Z"⟩ : MethodName)) ∈ gT := gk3 28 rfl rfl
theorem k569 : (Cond.instanceMethod (⟨"GreenHorseUpstairs$Museum", "isDone", "(I)Z"⟩ : MethodName)) ∈ gT := gk3 29 rfl rfl
theorem k570 : (Cond.selects "GreenHorseUpstairs$Museum" (⟨"GreenHorseUpstairs$Museum", "isDone", "(I)Z"⟩ : MethodName) (⟨"GreenHorseUpstairs$Museum", "isDone", "(I)Z"⟩ : MethodName)) ∈ gT := gk3 30 rfl rfl
theorem k571 : (Cond.code (⟨"GreenHorseUpstairs$Museum", "isDone", "(I)Z"⟩ : MethodName) prog_3_method_12_code 2 (Option.some FieldType.boolean)) ∈ gT := gk3 31 rfl rfl
theorem k572 : (Cond.methodLink "GreenHorseUpstairs" 217 (⟨"GreenHorseUpstairs$Museum", "passMinute", "()V"⟩ : MethodName)) ∈ gT := gk3 32 rfl rfl
theorem k573 : (Cond.methodLink "GreenHorseUpstairs" 167 (⟨"GreenHorseUpstairs", "noneIfNever", "(I)I"⟩ : MethodName)) ∈ gT := gk3 33 rfl rfl
theorem k574 : (Cond.static (⟨"GreenHorseUpstairs", "noneIfNever", "(I)I"⟩ : MethodName)) ∈ gT := gk3 34 rfl rfl
theorem k575 : (Cond.code (⟨"GreenHorseUpstairs", "noneIfNever", "(I)I"⟩ : MethodName) prog_1_method_42_code 1 (Option.some FieldType.int)) ∈ gT := gk3 35 rfl rfl
theorem k576 : (Cond.methodLink "GreenHorseUpstairsLaw" 69 (⟨"GreenHorseUpstairs", "ended", "(I)I"⟩ : MethodName)) ∈ gT := gk3 36 rfl rfl
theorem k577 : (Cond.instanceMethod (⟨"GreenHorseUpstairs", "ended", "(I)I"⟩ : MethodName)) ∈ gT := gk3 37 rfl rfl
theorem k578 : (Cond.selects "GreenHorseUpstairs" (⟨"GreenHorseUpstairs", "ended", "(I)I"⟩ : MethodName) (⟨"GreenHorseUpstairs", "ended", "(I)I"⟩ : MethodName)) ∈ gT := gk3 38 rfl rfl
theorem k579 : (Cond.code (⟨"GreenHorseUpstairs", "ended", "(I)I"⟩ : MethodName) prog_1_method_15_code 2 (Option.some FieldType.int)) ∈ gT := gk3 39 rfl rfl
theorem k580 : (Cond.methodLink "GreenHorseUpstairs" 170 (⟨"GreenHorseUpstairs", "firstDone", "()I"⟩ : MethodName)) ∈ gT := gk3 40 rfl rfl
theorem k582 : (Cond.instanceMethod (⟨"GreenHorseUpstairs", "firstDone", "()I"⟩ : MethodName)) ∈ gT := gk3 42 rfl rfl
theorem k583 : (Cond.code (⟨"GreenHorseUpstairs", "firstDone", "()I"⟩ : MethodName) prog_1_method_46_code 3 (Option.some FieldType.int)) ∈ gT := gk3 43 rfl rfl
theorem k584 : (Cond.methodLink "GreenHorseUpstairs" 173 (⟨"GreenHorseUpstairs", "minutesTillAllDone", "()I"⟩ : MethodName)) ∈ gT := gk3 44 rfl rfl
theorem k586 : (Cond.instanceMethod (⟨"GreenHorseUpstairs", "minutesTillAllDone", "()I"⟩ : MethodName)) ∈ gT := gk3 46 rfl rfl
theorem k587 : (Cond.code (⟨"GreenHorseUpstairs", "minutesTillAllDone", "()I"⟩ : MethodName) prog_1_method_44_code 2 (Option.some FieldType.int)) ∈ gT := gk3 47 rfl rfl
theorem k588 : (Cond.methodLink "GreenHorseUpstairs" 248 (⟨"GreenHorseUpstairs$Museum", "undone", "()I"⟩ : MethodName)) ∈ gT := gk3 48 rfl rfl
theorem k589 : (Cond.instanceMethod (⟨"GreenHorseUpstairs$Museum", "undone", "()I"⟩ : MethodName)) ∈ gT := gk3 49 rfl rfl
theorem k590 : (Cond.selects "GreenHorseUpstairs$Museum" (⟨"GreenHorseUpstairs$Museum", "undone", "()I"⟩ : MethodName) (⟨"GreenHorseUpstairs$Museum", "undone", "()I"⟩ : MethodName)) ∈ gT := gk3 50 rfl rfl
theorem k591 : (Cond.code (⟨"GreenHorseUpstairs$Museum", "undone", "()I"⟩ : MethodName) prog_3_method_13_code 3 (Option.some FieldType.int)) ∈ gT := gk3 51 rfl rfl
theorem k592 : (Cond.methodLink "GreenHorseUpstairs$Museum" 85 (⟨"GreenHorseUpstairs$Museum", "isDone", "(I)Z"⟩ : MethodName)) ∈ gT := gk3 52 rfl rfl
theorem k593 : (Cond.methodLink "GreenHorseUpstairsLaw" 73 (⟨"GreenHorseUpstairs", "answer", "(III)I"⟩ : MethodName)) ∈ gT := gk3 53 rfl rfl
theorem k594 : (Cond.instanceMethod (⟨"GreenHorseUpstairs", "answer", "(III)I"⟩ : MethodName)) ∈ gT := gk3 54 rfl rfl
theorem k595 : (Cond.selects "GreenHorseUpstairs" (⟨"GreenHorseUpstairs", "answer", "(III)I"⟩ : MethodName) (⟨"GreenHorseUpstairs", "answer", "(III)I"⟩ : MethodName)) ∈ gT := gk3 55 rfl rfl
theorem k596 : (Cond.code (⟨"GreenHorseUpstairs", "answer", "(III)I"⟩ : MethodName) prog_1_method_16_code 4 (Option.some FieldType.int)) ∈ gT := gk3 56 rfl rfl
theorem k597 : (Cond.methodLink "GreenHorseUpstairs" 176 (⟨"GreenHorseUpstairs$Museum", "sourceOf", "(II)I"⟩ : MethodName)) ∈ gT := gk3 57 rfl rfl
theorem k598 : (Cond.methodLink "GreenHorseUpstairsLaw" 77 (⟨"GreenHorseUpstairs", "full", "(II)I"⟩ : MethodName)) ∈ gT := gk3 58 rfl rfl
theorem k599 : (Cond.instanceMethod (⟨"GreenHorseUpstairs", "full", "(II)I"⟩ : MethodName)) ∈ gT := gk3 59 rfl rfl
theorem k600 : (Cond.selects "GreenHorseUpstairs" (⟨"GreenHorseUpstairs", "full", "(II)I"⟩ : MethodName) (⟨"GreenHorseUpstairs", "full", "(II)I"⟩ : MethodName)) ∈ gT := gk3 60 rfl rfl
theorem k601 : (Cond.code (⟨"GreenHorseUpstairs", "full", "(II)I"⟩ : MethodName) prog_1_method_17_code 3 (Option.some FieldType.int)) ∈ gT := gk3 61 rfl rfl
theorem k602 : (Cond.methodLink "GreenHorseUpstairs" 179 (⟨"GreenHorseUpstairs", "fullest", "(II)I"⟩ : MethodName)) ∈ gT := gk3 62 rfl rfl
theorem k604 : (Cond.instanceMethod (⟨"GreenHorseUpstairs", "fullest", "(II)I"⟩ : MethodName)) ∈ gT := gk3 64 rfl rfl
theorem k605 : (Cond.code (⟨"GreenHorseUpstairs", "fullest", "(II)I"⟩ : MethodName) prog_1_method_47_code 9 (Option.some FieldType.int)) ∈ gT := gk3 65 rfl rfl
theorem k606 : (Cond.methodLink "GreenHorseUpstairs" 251 (⟨"GreenHorseUpstairs$Museum", "groupsAt", "(I)I"⟩ : MethodName)) ∈ gT := gk3 66 rfl rfl
theorem k607 : (Cond.instanceMethod (⟨"GreenHorseUpstairs$Museum", "groupsAt", "(I)I"⟩ : MethodName)) ∈ gT := gk3 67 rfl rfl
theorem k608 : (Cond.selects "GreenHorseUpstairs$Museum" (⟨"GreenHorseUpstairs$Museum", "groupsAt", "(I)I"⟩ : MethodName) (⟨"GreenHorseUpstairs$Museum", "groupsAt", "(I)I"⟩ : MethodName)) ∈ gT := gk3 68 rfl rfl
theorem k609 : (Cond.code (⟨"GreenHorseUpstairs$Museum", "groupsAt", "(I)I"⟩ : MethodName) prog_3_method_27_code 4 (Option.some FieldType.int)) ∈ gT := gk3 69 rfl rfl
theorem k610 : (Cond.methodLink "GreenHorseUpstairsLaw" 81 (⟨"GreenHorseUpstairs", "right", "(I)I"⟩ : MethodName)) ∈ gT := gk3 70 rfl rfl
theorem k611 : (Cond.instanceMethod (⟨"GreenHorseUpstairs", "right", "(I)I"⟩ : MethodName)) ∈ gT := gk3 71 rfl rfl
theorem k612 : (Cond.selects "GreenHorseUpstairs" (⟨"GreenHorseUpstairs", "right", "(I)I"⟩ : MethodName) (⟨"GreenHorseUpstairs", "right", "(I)I"⟩ : MethodName)) ∈ gT := gk3 72 rfl rfl
theorem k613 : (Cond.code (⟨"GreenHorseUpstairs", "right", "(I)I"⟩ : MethodName) prog_1_method_18_code 2 (Option.some FieldType.int)) ∈ gT := gk3 73 rfl rfl
theorem k614 : (Cond.methodLink "GreenHorseUpstairsLaw" 85 (⟨"GreenHorseUpstairs", "bestFirst", "(II)I"⟩ : MethodName)) ∈ gT := gk3 74 rfl rfl
theorem k615 : (Cond.instanceMethod (⟨"GreenHorseUpstairs", "bestFirst", "(II)I"⟩ : MethodName)) ∈ gT := gk3 75 rfl rfl
theorem k616 : (Cond.selects "GreenHorseUpstairs" (⟨"GreenHorseUpstairs", "bestFirst", "(II)I"⟩ : MethodName) (⟨"GreenHorseUpstairs", "bestFirst", "(II)I"⟩ : MethodName)) ∈ gT := gk3 76 rfl rfl
theorem k617 : (Cond.code (⟨"GreenHorseUpstairs", "bestFirst", "(II)I"⟩ : MethodName) prog_1_method_19_code 3 (Option.some FieldType.int)) ∈ gT := gk3 77 rfl rfl
theorem k618 : (Cond.methodLink "GreenHorseUpstairs" 182 (⟨"GreenHorseUpstairs", "soonestFirst", "(I)I"⟩ : MethodName)) ∈ gT := gk3 78 rfl rfl
theorem k620 : (Cond.instanceMethod (⟨"GreenHorseUpstairs", "soonestFirst", "(I)I"⟩ : MethodName)) ∈ gT := gk3 80 rfl rfl
theorem k621 : (Cond.code (⟨"GreenHorseUpstairs", "soonestFirst", "(I)I"⟩ : MethodName) prog_1_method_48_code 6 (Option.some FieldType.int)) ∈ gT := gk3 81 rfl rfl
theorem k622 : (Cond.methodLink "GreenHorseUpstairs" 185 (⟨"GreenHorseUpstairs", "truestFirst", "(I)I"⟩ : MethodName)) ∈ gT := gk3 82 rfl rfl
theorem k624 : (Cond.instanceMethod (⟨"GreenHorseUpstairs", "truestFirst", "(I)I"⟩ : MethodName)) ∈ gT := gk3 84 rfl rfl
theorem k625 : (Cond.code (⟨"GreenHorseUpstairs", "truestFirst", "(I)I"⟩ : MethodName) prog_1_method_49_code 6 (Option.some FieldType.int)) ∈ gT := gk3 85 rfl rfl
theorem k626 : (Cond.methodLink "GreenHorseUpstairsLaw" 89 (⟨"GreenHorseUpstairs", "apart", "(I)I"⟩ : MethodName)) ∈ gT := gk3 86 rfl rfl
theorem k627 : (Cond.instanceMethod (⟨"GreenHorseUpstairs", "apart", "(I)I"⟩ : MethodName)) ∈ gT := gk3 87 rfl rfl
theorem k628 : (Cond.selects "GreenHorseUpstairs" (⟨"GreenHorseUpstairs", "apart", "(I)I"⟩ : MethodName) (⟨"GreenHorseUpstairs", "apart", "(I)I"⟩ : MethodName)) ∈ gT := gk3 88 rfl rfl
theorem k629 : (Cond.code (⟨"GreenHorseUpstairs", "apart", "(I)I"⟩ : MethodName) prog_1_method_20_code 3 (Option.some FieldType.int)) ∈ gT := gk3 89 rfl rfl
theorem k630 : (Cond.methodLink "GreenHorseUpstairs" 191 (⟨"GreenHorseUpstairs", "firstsApart", "()I"⟩ : MethodName)) ∈ gT := gk3 90 rfl rfl
theorem k632 : (Cond.instanceMethod (⟨"GreenHorseUpstairs", "firstsApart", "()I"⟩ : MethodName)) ∈ gT := gk3 92 rfl rfl
theorem k633 : (Cond.code (⟨"GreenHorseUpstairs", "firstsApart", "()I"⟩ : MethodName) prog_1_method_50_code 7 (Option.some FieldType.int)) ∈ gT := gk3 93 rfl rfl
theorem k634 : (Cond.methodLink "GreenHorseUpstairs" 197 (⟨"GreenHorseUpstairs", "fullestWith", "(I)I"⟩ : MethodName)) ∈ gT := gk3 94 rfl rfl
theorem k636 : (Cond.instanceMethod (⟨"GreenHorseUpstairs", "fullestWith", "(I)I"⟩ : MethodName)) ∈ gT := gk3 96 rfl rfl
theorem k637 : (Cond.code (⟨"GreenHorseUpstairs", "fullestWith", "(I)I"⟩ : MethodName) prog_1_method_52_code 3 (Option.some FieldType.int)) ∈ gT := gk3 97 rfl rfl
theorem k638 : (Cond.methodLink "GreenHorseUpstairs" 194 (⟨"GreenHorseUpstairs", "firstIn", "(II)I"⟩ : MethodName)) ∈ gT := gk3 98 rfl rfl
theorem k640 : (Cond.instanceMethod (⟨"GreenHorseUpstairs", "firstIn", "(II)I"⟩ : MethodName)) ∈ gT := gk3 100 rfl rfl
theorem k641 : (Cond.code (⟨"GreenHorseUpstairs", "firstIn", "(II)I"⟩ : MethodName) prog_1_method_51_code 3 (Option.some FieldType.int)) ∈ gT := gk3 101 rfl rfl
theorem k642 : (Cond.methodLink "GreenHorseUpstairsLaw" 93 (⟨"GreenHorseUpstairs", "leave", "()I"⟩ : MethodName)) ∈ gT := gk3 102 rfl rfl
theorem k643 : (Cond.instanceMethod (⟨"GreenHorseUpstairs", "leave", "()I"⟩ : MethodName)) ∈ gT := gk3 103 rfl rfl
theorem k644 : (Cond.selects "GreenHorseUpstairs" (⟨"GreenHorseUpstairs", "leave", "()I"⟩ : MethodName) (⟨"GreenHorseUpstairs", "leave", "()I"⟩ : MethodName)) ∈ gT := gk3 104 rfl rfl
theorem k645 : (Cond.code (⟨"GreenHorseUpstairs", "leave", "()I"⟩ : MethodName) prog_1_method_21_code 5 (Option.some FieldType.int)) ∈ gT := gk3 105 rfl rfl
theorem k646 : (Cond.methodLink "GreenHorseUpstairs" 203 (⟨"GreenHorseUpstairs$Museum", "fillTruth", "(I)V"⟩ : MethodName)) ∈ gT := gk3 106 rfl rfl
theorem k647 : (Cond.instanceMethod (⟨"GreenHorseUpstairs$Museum", "fillTruth", "(I)V"⟩ : MethodName)) ∈ gT := gk3 107 rfl rfl
theorem k648 : (Cond.selects "GreenHorseUpstairs$Museum" (⟨"GreenHorseUpstairs$Museum", "fillTruth", "(I)V"⟩ : MethodName) (⟨"GreenHorseUpstairs$Museum", "fillTruth", "(I)V"⟩ : MethodName)) ∈ gT := gk3 108 rfl rfl
theorem k649 : (Cond.code (⟨"GreenHorseUpstairs$Museum", "fillTruth", "(I)V"⟩ : MethodName) prog_3_method_9_code 3 (Option.none : Option FieldType)) ∈ gT := gk3 109 rfl rfl
theorem k650 : (Cond.methodLink "GreenHorseUpstairsLaw" 97 (⟨"GreenHorseUpstairs", "tell", "(I)I"⟩ : MethodName)) ∈ gT := gk3 110 rfl rfl
theorem k651 : (Cond.instanceMethod (⟨"GreenHorseUpstairs", "tell", "(I)I"⟩ : MethodName)) ∈ gT := gk3 111 rfl rfl
theorem k652 : (Cond.selects "GreenHorseUpstairs" (⟨"GreenHorseUpstairs", "tell", "(I)I"⟩ : MethodName) (⟨"GreenHorseUpstairs", "tell", "(I)I"⟩ : MethodName)) ∈ gT := gk3 112 rfl rfl
theorem k653 : (Cond.code (⟨"GreenHorseUpstairs", "tell", "(I)I"⟩ : MethodName) prog_1_method_22_code 5 (Option.some FieldType.int)) ∈ gT := gk3 113 rfl rfl
theorem k654 : (Cond.methodLink "GreenHorseUpstairsLaw" 101 (⟨"GreenHorseUpstairs", "spreads", "(II)I"⟩ : MethodName)) ∈ gT := gk3 114 rfl rfl
theorem k655 : (Cond.instanceMethod (⟨"GreenHorseUpstairs", "spreads", "(II)I"⟩ : MethodName)) ∈ gT := gk3 115 rfl rfl
theorem k656 : (Cond.selects "GreenHorseUpstairs" (⟨"GreenHorseUpstairs", "spreads", "(II)I"⟩ : MethodName) (⟨"GreenHorseUpstairs", "spreads", "(II)I"⟩ : MethodName)) ∈ gT := gk3 116 rfl rfl
theorem k657 : (Cond.code (⟨"GreenHorseUpstairs", "spreads", "(II)I"⟩ : MethodName) prog_1_method_23_code 6 (Option.some FieldType.int)) ∈ gT := gk3 117 rfl rfl
theorem k658 : (Cond.methodLink "GreenHorseUpstairsLaw" 105 (⟨"GreenHorseUpstairs", "missing", "(II)I"⟩ : MethodName)) ∈ gT := gk3 118 rfl rfl
theorem k659 : (Cond.instanceMethod (⟨"GreenHorseUpstairs", "missing", "(II)I"⟩ : MethodName)) ∈ gT := gk3 119 rfl rfl
theorem k660 : (Cond.selects "GreenHorseUpstairs" (⟨"GreenHorseUpstairs", "missing", "(II)I"⟩ : MethodName) (⟨"GreenHorseUpstairs", "missing", "(II)I"⟩ : MethodName)) ∈ gT := gk3 120 rfl rfl
theorem k661 : (Cond.code (⟨"GreenHorseUpstairs", "missing", "(II)I"⟩ : MethodName) prog_1_method_24_code 6 (Option.some FieldType.int)) ∈ gT := gk3 121 rfl rfl
theorem k662 : (Cond.methodLink "GreenHorseUpstairsLaw" 109 (⟨"GreenHorseUpstairs", "worth", "(I)I"⟩ : MethodName)) ∈ gT := gk3 122 rfl rfl
theorem k663 : (Cond.instanceMethod (⟨"GreenHorseUpstairs", "worth", "(I)I"⟩ : MethodName)) ∈ gT := gk3 123 rfl rfl
theorem k664 : (Cond.selects "GreenHorseUpstairs" (⟨"GreenHorseUpstairs", "worth", "(I)I"⟩ : MethodName) (⟨"GreenHorseUpstairs", "worth", "(I)I"⟩ : MethodName)) ∈ gT := gk3 124 rfl rfl
theorem k665 : (Cond.code (⟨"GreenHorseUpstairs", "worth", "(I)I"⟩ : MethodName) prog_1_method_25_code 3 (Option.some FieldType.int)) ∈ gT := gk3 125 rfl rfl
theorem k666 : (Cond.constant "GreenHorseUpstairs" 206 (1000000000 : Int32)) ∈ gT := gk3 126 rfl rfl
theorem k667 : (Cond.methodLink "GreenHorseUpstairs" 207 (⟨"GreenHorseUpstairs", "minutesOfAllTogether", "()I"⟩ : MethodName)) ∈ gT := gk3 127 rfl rfl
theorem k669 : (Cond.instanceMethod (⟨"GreenHorseUpstairs", "minutesOfAllTogether", "()I"⟩ : MethodName)) ∈ gT := gk3 129 rfl rfl
theorem k670 : (Cond.code (⟨"GreenHorseUpstairs", "minutesOfAllTogether", "()I"⟩ : MethodName) prog_1_method_45_code 3 (Option.some FieldType.int)) ∈ gT := gk3 130 rfl rfl
theorem k671 : (Cond.methodLink "GreenHorseUpstairsLaw" 113 (⟨"GreenHorseUpstairs", "two", "(II)I"⟩ : MethodName)) ∈ gT := gk3 131 rfl rfl
theorem k672 : (Cond.instanceMethod (⟨"GreenHorseUpstairs", "two", "(II)I"⟩ : MethodName)) ∈ gT := gk3 132 rfl rfl
theorem k673 : (Cond.selects "GreenHorseUpstairs" (⟨"GreenHorseUpstairs", "two", "(II)I"⟩ : MethodName) (⟨"GreenHorseUpstairs", "two", "(II)I"⟩ : MethodName)) ∈ gT := gk3 133 rfl rfl
theorem k674 : (Cond.code (⟨"GreenHorseUpstairs", "two", "(II)I"⟩ : MethodName) prog_1_method_26_code 5 (Option.some FieldType.int)) ∈ gT := gk3 134 rfl rfl
theorem k675 : (Cond.methodLink "GreenHorseUpstairs" 210 (⟨"GreenHorseUpstairs", "isContent", "(IIII)Z"⟩ : MethodName)) ∈ gT := gk3 135 rfl rfl
theorem k677 : (Cond.instanceMethod (⟨"GreenHorseUpstairs", "isContent", "(IIII)Z"⟩ : MethodName)) ∈ gT := gk3 137 rfl rfl
theorem k678 : (Cond.code (⟨"GreenHorseUpstairs", "isContent", "(IIII)Z"⟩ : MethodName) prog_1_method_53_code 5 (Option.some FieldType.boolean)) ∈ gT := gk3 138 rfl rfl
theorem k679 : (Cond.methodLink "GreenHorseUpstairs" 254 (⟨"GreenHorseUpstairs", "minutesByChoice", "(IIII)I"⟩ : MethodName)) ∈ gT := gk3 139 rfl rfl
theorem k681 : (Cond.instanceMethod (⟨"GreenHorseUpstairs", "minutesByChoice", "(IIII)I"⟩ : MethodName)) ∈ gT := gk3 141 rfl rfl
theorem k682 : (Cond.code (⟨"GreenHorseUpstairs", "minutesByChoice", "(IIII)I"⟩ : MethodName) prog_1_method_54_code 5 (Option.some FieldType.int)) ∈ gT := gk3 142 rfl rfl
theorem k683 : (Cond.methodLink "GreenHorseUpstairs" 258 (⟨"GreenHorseUpstairs", "firstChosen", "(II)I"⟩ : MethodName)) ∈ gT := gk3 143 rfl rfl
theorem k685 : (Cond.instanceMethod (⟨"GreenHorseUpstairs", "firstChosen", "(II)I"⟩ : MethodName)) ∈ gT := gk3 145 rfl rfl
theorem k686 : (Cond.code (⟨"GreenHorseUpstairs", "firstChosen", "(II)I"⟩ : MethodName) prog_1_method_55_code 3 (Option.some FieldType.int)) ∈ gT := gk3 146 rfl rfl
theorem k687 : (Cond.methodLink "GreenHorseUpstairsLaw" 117 (⟨"GreenHorseUpstairs", "newDoor", "()I"⟩ : MethodName)) ∈ gT := gk3 147 rfl rfl
theorem k688 : (Cond.instanceMethod (⟨"GreenHorseUpstairs", "newDoor", "()I"⟩ : MethodName)) ∈ gT := gk3 148 rfl rfl
theorem k689 : (Cond.selects "GreenHorseUpstairs" (⟨"GreenHorseUpstairs", "newDoor", "()I"⟩ : MethodName) (⟨"GreenHorseUpstairs", "newDoor", "()I"⟩ : MethodName)) ∈ gT := gk3 149 rfl rfl
theorem k690 : (Cond.code (⟨"GreenHorseUpstairs", "newDoor", "()I"⟩ : MethodName) prog_1_method_27_code 6 (Option.some FieldType.int)) ∈ gT := gk3 150 rfl rfl
theorem k691 : (Cond.methodLink "GreenHorseUpstairsLaw" 121 (⟨"GreenHorseUpstairs", "which", "(III)I"⟩ : MethodName)) ∈ gT := gk3 151 rfl rfl
theorem k692 : (Cond.instanceMethod (⟨"GreenHorseUpstairs", "which", "(III)I"⟩ : MethodName)) ∈ gT := gk3 152 rfl rfl
theorem k693 : (Cond.selects "GreenHorseUpstairs" (⟨"GreenHorseUpstairs", "which", "(III)I"⟩ : MethodName) (⟨"GreenHorseUpstairs", "which", "(III)I"⟩ : MethodName)) ∈ gT := gk3 153 rfl rfl
theorem k694 : (Cond.code (⟨"GreenHorseUpstairs", "which", "(III)I"⟩ : MethodName) prog_1_method_28_code 7 (Option.some FieldType.int)) ∈ gT := gk3 154 rfl rfl
theorem k695 : (Cond.methodLink "GreenHorseUpstairs" 214 (⟨"GreenHorseUpstairs", "rowTellsSheetOf", "(I)Z"⟩ : MethodName)) ∈ gT := gk3 155 rfl rfl
theorem k697 : (Cond.instanceMethod (⟨"GreenHorseUpstairs", "rowTellsSheetOf", "(I)Z"⟩ : MethodName)) ∈ gT := gk3 157 rfl rfl
theorem k698 : (Cond.code (⟨"GreenHorseUpstairs", "rowTellsSheetOf", "(I)Z"⟩ : MethodName) prog_1_method_56_code 4 (Option.some FieldType.boolean)) ∈ gT := gk3 158 rfl rfl
theorem k699 : (Cond.methodLink "GreenHorseUpstairsLaw" 125 (⟨"GreenHorseUpstairs", "row", "(I)I"⟩ : MethodName)) ∈ gT := gk3 159 rfl rfl
theorem k700 : (Cond.instanceMethod (⟨"GreenHorseUpstairs", "row", "(I)I"⟩ : MethodName)) ∈ gT := gk3 160 rfl rfl
theorem k701 : (Cond.selects "GreenHorseUpstairs" (⟨"GreenHorseUpstairs", "row", "(I)I"⟩ : MethodName) (⟨"GreenHorseUpstairs", "row", "(I)I"⟩ : MethodName)) ∈ gT := gk3 161 rfl rfl
theorem k702 : (Cond.code (⟨"GreenHorseUpstairs", "row", "(I)I"⟩ : MethodName) prog_1_method_29_code 2 (Option.some FieldType.int)) ∈ gT := gk3 162 rfl rfl
theorem k703 : (Cond.methodLink "GreenHorseUpstairsLaw" 129 (⟨"GreenHorseUpstairs", "judge", "(I)I"⟩ : MethodName)) ∈ gT := gk3 163 rfl rfl
theorem k704 : (Cond.instanceMethod (⟨"GreenHorseUpstairs", "judge", "(I)I"⟩ : MethodName)) ∈ gT := gk3 164 rfl rfl
theorem k705 : (Cond.selects "GreenHorseUpstairs" (⟨"GreenHorseUpstairs", "judge", "(I)I"⟩ : MethodName) (⟨"GreenHorseUpstairs", "judge", "(I)I"⟩ : MethodName)) ∈ gT := gk3 165 rfl rfl
theorem k706 : (Cond.code (⟨"GreenHorseUpstairs", "judge", "(I)I"⟩ : MethodName) prog_1_method_30_code 4 (Option.some FieldType.int)) ∈ gT := gk3 166 rfl rfl
theorem k707 : (Cond.methodLink "GreenHorseUpstairsLaw" 133 (⟨"GreenHorseUpstairs", "clear", "()I"⟩ : MethodName)) ∈ gT := gk3 167 rfl rfl
theorem k708 : (Cond.instanceMethod (⟨"GreenHorseUpstairs", "clear", "()I"⟩ : MethodName)) ∈ gT := gk3 168 rfl rfl
theorem k709 : (Cond.selects "GreenHorseUpstairs" (⟨"GreenHorseUpstairs", "clear", "()I"⟩ : MethodName) (⟨"GreenHorseUpstairs", "clear", "()I"⟩ : MethodName)) ∈ gT := gk3 169 rfl rfl
theorem k710 : (Cond.code (⟨"GreenHorseUpstairs", "clear", "()I"⟩ : MethodName) prog_1_method_31_code 2 (Option.some FieldType.int)) ∈ gT := gk3 170 rfl rfl
theorem k711 : (Cond.methodLink "GreenHorseUpstairsLaw" 137 (⟨"GreenHorseUpstairs", "lots", "(III)I"⟩ : MethodName)) ∈ gT := gk3 171 rfl rfl
theorem k712 : (Cond.instanceMethod (⟨"GreenHorseUpstairs", "lots", "(III)I"⟩ : MethodName)) ∈ gT := gk3 172 rfl rfl
theorem k713 : (Cond.selects "GreenHorseUpstairs" (⟨"GreenHorseUpstairs", "lots", "(III)I"⟩ : MethodName) (⟨"GreenHorseUpstairs", "lots", "(III)I"⟩ : MethodName)) ∈ gT := gk3 173 rfl rfl
theorem k714 : (Cond.code (⟨"GreenHorseUpstairs", "lots", "(III)I"⟩ : MethodName) prog_1_method_32_code 8 (Option.some FieldType.int)) ∈ gT := gk3 174 rfl rfl
theorem k715 : (Cond.methodLink "GreenHorseUpstairs" 220 (⟨"GreenHorseUpstairs", "nextSeed", "(I)I"⟩ : MethodName)) ∈ gT := gk3 175 rfl rfl
theorem k716 : (Cond.static (⟨"GreenHorseUpstairs", "nextSeed", "(I)I"⟩ : MethodName)) ∈ gT := gk3 176 rfl rfl
theorem k717 : (Cond.code (⟨"GreenHorseUpstairs", "nextSeed", "(I)I"⟩ : MethodName) prog_1_method_57_code 1 (Option.some FieldType.int)) ∈ gT := gk3 177 rfl rfl
theorem k718 : (Cond.constant "GreenHorseUpstairs" 261 (1664525 : Int32)) ∈ gT := gk3 178 rfl rfl
theorem k719 : (Cond.constant "GreenHorseUpstairs" 262 (1013904223 : Int32)) ∈ gT := gk3 179 rfl rfl
theorem k720 : (Cond.methodLink "GreenHorseUpstairs" 223 (⟨"GreenHorseUpstairs", "drawn", "(I)I"⟩ : MethodName)) ∈ gT := gk3 180 rfl rfl
theorem k721 : (Cond.static (⟨"GreenHorseUpstairs", "drawn", "(I)I"⟩ : MethodName)) ∈ gT := gk3 181 rfl rfl
theorem k722 : (Cond.code (⟨"GreenHorseUpstairs", "drawn", "(I)I"⟩ : MethodName) prog_1_method_58_code 1 (Option.some FieldType.int)) ∈ gT := gk3 182 rfl rfl
theorem k723 : (Cond.constant "GreenHorseUpstairs" 263 (2147483647 : Int32)) ∈ gT := gk3 183 rfl rfl
theorem k724 : (Cond.methodLink "GreenHorseUpstairs" 226 (⟨"GreenHorseUpstairs$Museum", "copiedByAll", "()I"⟩ : MethodName)) ∈ gT := gk3 184 rfl rfl
theorem k725 : (Cond.instanceMethod (⟨"GreenHorseUpstairs$Museum", "copiedByAll", "()I"⟩ : MethodName)) ∈ gT := gk3 185 rfl rfl
theorem k726 : (Cond.selects "GreenHorseUpstairs$Museum" (⟨"GreenHorseUpstairs$Museum", "copiedByAll", "()I"⟩ : MethodName) (⟨"GreenHorseUpstairs$Museum", "copiedByAll", "()I"⟩ : MethodName)) ∈ gT := gk3 186 rfl rfl
theorem k727 : (Cond.code (⟨"GreenHorseUpstairs$Museum", "copiedByAll", "()I"⟩ : MethodName) prog_3_method_26_code 3 (Option.some FieldType.int)) ∈ gT := gk3 187 rfl rfl
theorem k728 : (Cond.methodLink "GreenHorseUpstairs$Museum" 128 (⟨"GreenHorseUpstairs$Museum", "copiedBy", "(I)I"⟩ : MethodName)) ∈ gT := gk3 188 rfl rfl
theorem k729 : (Cond.methodLink "GreenHorseUpstairsLaw" 141 (⟨"GreenHorseUpstairs", "image", "()I"⟩ : MethodName)) ∈ gT := gk3 189 rfl rfl
theorem k730 : (Cond.instanceMethod (⟨"GreenHorseUpstairs", "image", "()I"⟩ : MethodName)) ∈ gT := gk3 190 rfl rfl
theorem k731 : (Cond.selects "GreenHorseUpstairs" (⟨"GreenHorseUpstairs", "image", "()I"⟩ : MethodName) (⟨"GreenHorseUpstairs", "image", "()I"⟩ : MethodName)) ∈ gT := gk3 191 rfl rfl
theorem k732 : (Cond.code (⟨"GreenHorseUpstairs", "image", "()I"⟩ : MethodName) prog_1_method_33_code 1 (Option.some FieldType.int)) ∈ gT := gk3 192 rfl rfl
theorem k733 : (Cond.methodLink "GreenHorseUpstairsLaw" 145 (⟨"GreenHorseUpstairs", "on", "()I"⟩ : MethodName)) ∈ gT := gk3 193 rfl rfl
theorem k734 : (Cond.instanceMethod (⟨"GreenHorseUpstairs", "on", "()I"⟩ : MethodName)) ∈ gT := gk3 194 rfl rfl
theorem k735 : (Cond.selects "GreenHorseUpstairs" (⟨"GreenHorseUpstairs", "on", "()I"⟩ : MethodName) (⟨"GreenHorseUpstairs", "on", "()I"⟩ : MethodName)) ∈ gT := gk3 195 rfl rfl
theorem k736 : (Cond.code (⟨"GreenHorseUpstairs", "on", "()I"⟩ : MethodName) prog_1_method_34_code 1 (Option.some FieldType.int)) ∈ gT := gk3 196 rfl rfl
theorem k737 : (Cond.methodLink "GreenHorseUpstairsLaw" 149 (⟨"GreenHorseUpstairs", "count", "(I)I"⟩ : MethodName)) ∈ gT := gk3 197 rfl rfl
theorem k738 : (Cond.instanceMethod (⟨"GreenHorseUpstairs", "count", "(I)I"⟩ : MethodName)) ∈ gT := gk3 198 rfl rfl
theorem k739 : (Cond.selects "GreenHorseUpstairs" (⟨"GreenHorseUpstairs", "count", "(I)I"⟩ : MethodName) (⟨"GreenHorseUpstairs", "count", "(I)I"⟩ : MethodName)) ∈ gT := gk3 199 rfl rfl
theorem k740 : (Cond.code (⟨"GreenHorseUpstairs", "count", "(I)I"⟩ : MethodName) prog_1_method_35_code 2 (Option.some FieldType.int)) ∈ gT := gk3 200 rfl rfl
theorem k741 : (Cond.methodLink "GreenHorseUpstairs" 233 (⟨"GreenHorseUpstairs$Rooms", "doors", "()I"⟩ : MethodName)) ∈ gT := gk3 201 rfl rfl
theorem k742 : (Cond.instanceMethod (⟨"GreenHorseUpstairs$Rooms", "doors", "()I"⟩ : MethodName)) ∈ gT := gk3 202 rfl rfl
theorem k743 : (Cond.selects "GreenHorseUpstairs$Rooms" (⟨"GreenHorseUpstairs$Rooms", "doors", "()I"⟩ : MethodName) (⟨"GreenHorseUpstairs$Rooms", "doors", "()I"⟩ : MethodName)) ∈ gT := gk3 203 rfl rfl
theorem k744 : (Cond.code (⟨"GreenHorseUpstairs$Rooms", "doors", "()I"⟩ : MethodName) prog_4_method_5_code 3 (Option.some FieldType.int)) ∈ gT := gk3 204 rfl rfl
theorem k745 : (Cond.methodLink "GreenHorseUpstairs" 236 (⟨"GreenHorseUpstairs$Museum", "answersOfAll", "()I"⟩ : MethodName)) ∈ gT := gk3 205 rfl rfl
theorem k746 : (Cond.instanceMethod (⟨"GreenHorseUpstairs$Museum", "answersOfAll", "()I"⟩ : MethodName)) ∈ gT := gk3 206 rfl rfl
theorem k747 : (Cond.selects "GreenHorseUpstairs$Museum" (⟨"GreenHorseUpstairs$Museum", "answersOfAll", "()I"⟩ : MethodName) (⟨"GreenHorseUpstairs$Museum", "answersOfAll", "()I"⟩ : MethodName)) ∈ gT := gk3 207 rfl rfl
theorem k748 : (Cond.code (⟨"GreenHorseUpstairs$Museum", "answersOfAll", "()I"⟩ : MethodName) prog_3_method_24_code 3 (Option.some FieldType.int)) ∈ gT := gk3 208 rfl rfl
theorem k749 : (Cond.methodLink "GreenHorseUpstairs$Museum" 122 (⟨"GreenHorseUpstairs$Museum", "answersOf", "(I)I"⟩ : MethodName)) ∈ gT := gk3 209 rfl rfl
theorem k750 : (Cond.classLink "GreenHorseUpstairsLaw" 10 "GreenHorseUpstairsModel") ∈ gT := gk3 210 rfl rfl
theorem k751 : (Cond.instantiable "GreenHorseUpstairsModel" 17) ∈ gT := gk3 211 rfl rfl
theorem k752 : (Cond.methodLink "GreenHorseUpstairsLaw" 12 (⟨"GreenHorseUpstairsModel", "<init>", "()V"⟩ : MethodName)) ∈ gT := gk3 212 rfl rfl
theorem k753 : (Cond.instanceMethod (⟨"GreenHorseUpstairsModel", "<init>", "()V"⟩ : MethodName)) ∈ gT := gk3 213 rfl rfl
theorem k754 : (Cond.code (⟨"GreenHorseUpstairsModel", "<init>", "()V"⟩ : MethodName) prog_6_method_1_code 1 (Option.none : Option FieldType)) ∈ gT := gk3 214 rfl rfl
theorem k755 : (Cond.methodLink "GreenHorseUpstairsModel" 1 (⟨"java/lang/Object", "<init>", "()V"⟩ : MethodName)) ∈ gT := gk3 215 rfl rfl
theorem k756 : (Cond.fieldLink "GreenHorseUpstairsModel" 9 "GreenHorseUpstairsModel" "s" "[I") ∈ gT := gk3 216 rfl rfl
theorem k757 : (Cond.fieldLink "GreenHorseUpstairsModel" 13 "GreenHorseUpstairsModel" "m" "[I") ∈ gT := gk3 217 rfl rfl
theorem k758 : (Cond.fieldLink "GreenHorseUpstairsModel" 16 "GreenHorseUpstairsModel" "image" "[I") ∈ gT := gk3 218 rfl rfl
theorem k759 : (Cond.fieldLink "GreenHorseUpstairsModel" 19 "GreenHorseUpstairsModel" "was" "[I") ∈ gT := gk3 219 rfl rfl
theorem k760 : (Cond.fieldLink "GreenHorseUpstairsModel" 219 "GreenHorseUpstairsModel" "hasImage" "Z") ∈ gT := gk3 220 rfl rfl
theorem k761 : (Cond.fieldLink "GreenHorseUpstairsModel" 22 "GreenHorseUpstairsModel" "letters" "[I") ∈ gT := gk3 221 rfl rfl
theorem k762 : (Cond.fieldLink "GreenHorseUpstairsModel" 25 "GreenHorseUpstairsModel" "row" "[I") ∈ gT := gk3 222 rfl rfl
theorem k763 : (Cond.fieldLink "GreenHorseUpstairsModel" 28 "GreenHorseUpstairsModel" "refused" "[I") ∈ gT := gk3 223 rfl rfl
theorem k764 : (Cond.fieldLink "GreenHorseUpstairsModel" 102 "GreenHorseUpstairsModel" "letterMany" "I") ∈ gT := gk3 224 rfl rfl
theorem k765 : (Cond.fieldLink "GreenHorseUpstairsModel" 204 "GreenHorseUpstairsModel" "rowMany" "I") ∈ gT := gk3 225 rfl rfl
theorem k766 : (Cond.fieldLink "GreenHorseUpstairsModel" 31 "GreenHorseUpstairsModel" "far" "[I") ∈ gT := gk3 226 rfl rfl
theorem k767 : (Cond.fieldLink "GreenHorseUpstairsModel" 106 "GreenHorseUpstairsModel" "place" "I") ∈ gT := gk3 227 rfl rfl
theorem k768 : (Cond.fieldLink "GreenHorseUpstairsModel" 34 "GreenHorseUpstairsModel" "numbers" "[I") ∈ gT := gk3 228 rfl rfl
theorem k769 : (Cond.fieldLink "GreenHorseUpstairsModel" 175 "GreenHorseUpstairsModel" "fullMost" "I") ∈ gT := gk3 229 rfl rfl
theorem k770 : (Cond.fieldLink "GreenHorseUpstairsModel" 178 "GreenHorseUpstairsModel" "fullWhen" "I") ∈ gT := gk3 230 rfl rfl
theorem k771 : (Cond.fieldLink "GreenHorseUpstairsModel" 181 "GreenHorseUpstairsModel" "fullWhere" "I") ∈ gT := gk3 231 rfl rfl
theorem k772 : (Cond.fieldLink "GreenHorseUpstairsModel" 210 "GreenHorseUpstairsModel" "seed" "I") ∈ gT := gk3 232 rfl rfl
theorem k773 : (Cond.laysFinal "GreenHorseUpstairsModel" "GreenHorseUpstairsModel" "s" "[I") ∈ gT := gk3 233 rfl rfl
theorem k775 : (Cond.laysFinal "GreenHorseUpstairsModel" "GreenHorseUpstairsModel" "m" "[I") ∈ gT := gk3 235 rfl rfl
theorem k777 : (Cond.laysFinal "GreenHorseUpstairsModel" "GreenHorseUpstairsModel" "image" "[I") ∈ gT := gk3 237 rfl rfl
theorem k779 : (Cond.laysFinal "GreenHorseUpstairsModel" "GreenHorseUpstairsModel" "was" "[I") ∈ gT := gk3 239 rfl rfl
theorem k781 : (Cond.lays "GreenHorseUpstairsModel" "GreenHorseUpstairsModel" "hasImage" "Z") ∈ gT := gk4 1 rfl rfl
theorem k783 : (Cond.laysFinal "GreenHorseUpstairsModel" "GreenHorseUpstairsModel" "letters" "[I") ∈ gT := gk4 3 rfl rfl
theorem k785 : (Cond.laysFinal "GreenHorseUpstairsModel" "GreenHorseUpstairsModel" "row" "[I") ∈ gT := gk4 5 rfl rfl
theorem k787 : (Cond.laysFinal "GreenHorseUpstairsModel" "GreenHorseUpstairsModel" "refused" "[I") ∈ gT := gk4 7 rfl rfl
theorem k789 : (Cond.lays "GreenHorseUpstairsModel" "GreenHorseUpstairsModel" "letterMany" "I") ∈ gT := gk4 9 rfl rfl
theorem k791 : (Cond.lays "GreenHorseUpstairsModel" "GreenHorseUpstairsModel" "rowMany" "I") ∈ gT := gk4 11 rfl rfl
theorem k793 : (Cond.laysFinal "GreenHorseUpstairsModel" "GreenHorseUpstairsModel" "far" "[I") ∈ gT := gk4 13 rfl rfl
theorem k795 : (Cond.lays "GreenHorseUpstairsModel" "GreenHorseUpstairsModel" "place" "I") ∈ gT := gk4 15 rfl rfl
theorem k797 : (Cond.laysFinal "GreenHorseUpstairsModel" "GreenHorseUpstairsModel" "numbers" "[I") ∈ gT := gk4 17 rfl rfl
theorem k799 : (Cond.lays "GreenHorseUpstairsModel" "GreenHorseUpstairsModel" "fullMost" "I") ∈ gT := gk4 19 rfl rfl
theorem k801 : (Cond.lays "GreenHorseUpstairsModel" "GreenHorseUpstairsModel" "fullWhen" "I") ∈ gT := gk4 21 rfl rfl
theorem k803 : (Cond.lays "GreenHorseUpstairsModel" "GreenHorseUpstairsModel" "fullWhere" "I") ∈ gT := gk4 23 rfl rfl
theorem k805 : (Cond.lays "GreenHorseUpstairsModel" "GreenHorseUpstairsModel" "seed" "I") ∈ gT := gk4 25 rfl rfl
theorem k808 : (Cond.methodLink "GreenHorseUpstairsLaw" 17 (⟨"GreenHorseUpstairsModel", "letter", "(I)I"⟩ : MethodName)) ∈ gT := gk4 28 rfl rfl
theorem k809 : (Cond.instanceMethod (⟨"GreenHorseUpstairsModel", "letter", "(I)I"⟩ : MethodName)) ∈ gT := gk4 29 rfl rfl
theorem k810 : (Cond.selects "GreenHorseUpstairsModel" (⟨"GreenHorseUpstairsModel", "letter", "(I)I"⟩ : MethodName) (⟨"GreenHorseUpstairsModel", "letter", "(I)I"⟩ : MethodName)) ∈ gT := gk4 30 rfl rfl
theorem k811 : (Cond.code (⟨"GreenHorseUpstairsModel", "letter", "(I)I"⟩ : MethodName) prog_6_method_30_code 2 (Option.some FieldType.int)) ∈ gT := gk4 31 rfl rfl
theorem k812 : (Cond.methodLink "GreenHorseUpstairsModel" 38 (⟨"GreenHorseUpstairsModel", "no", "(I)I"⟩ : MethodName)) ∈ gT := gk4 32 rfl rfl
theorem k814 : (Cond.instanceMethod (⟨"GreenHorseUpstairsModel", "no", "(I)I"⟩ : MethodName)) ∈ gT := gk4 34 rfl rfl
theorem k815 : (Cond.code (⟨"GreenHorseUpstairsModel", "no", "(I)I"⟩ : MethodName) prog_6_method_4_code 2 (Option.some FieldType.int)) ∈ gT := gk4 35 rfl rfl
theorem k816 : (Cond.methodLink "GreenHorseUpstairsLaw" 22 (⟨"GreenHorseUpstairsModel", "museum", "()I"⟩ : MethodName)) ∈ gT := gk4 36 rfl rfl
theorem k817 : (Cond.instanceMethod (⟨"GreenHorseUpstairsModel", "museum", "()I"⟩ : MethodName)) ∈ gT := gk4 37 rfl rfl
theorem k818 : (Cond.selects "GreenHorseUpstairsModel" (⟨"GreenHorseUpstairsModel", "museum", "()I"⟩ : MethodName) (⟨"GreenHorseUpstairsModel", "museum", "()I"⟩ : MethodName)) ∈ gT := gk4 38 rfl rfl
theorem k819 : (Cond.code (⟨"GreenHorseUpstairsModel", "museum", "()I"⟩ : MethodName) prog_6_method_38_code 6 (Option.some FieldType.int)) ∈ gT := gk4 39 rfl rfl
theorem k820 : (Cond.methodLink "GreenHorseUpstairsModel" 140 (⟨"GreenHorseUpstairsModel", "readsStatement", "()Z"⟩ : MethodName)) ∈ gT := gk4 40 rfl rfl
theorem k822 : (Cond.instanceMethod (⟨"GreenHorseUpstairsModel", "readsStatement", "()Z"⟩ : MethodName)) ∈ gT := gk4 42 rfl rfl
theorem k823 : (Cond.code (⟨"GreenHorseUpstairsModel", "readsStatement", "()Z"⟩ : MethodName) prog_6_method_35_code 3 (Option.some FieldType.boolean)) ∈ gT := gk4 43 rfl rfl
theorem k824 : (Cond.methodLink "GreenHorseUpstairsModel" 109 (⟨"GreenHorseUpstairsModel", "here", "()I"⟩ : MethodName)) ∈ gT := gk4 44 rfl rfl
theorem k826 : (Cond.instanceMethod (⟨"GreenHorseUpstairsModel", "here", "()I"⟩ : MethodName)) ∈ gT := gk4 46 rfl rfl
theorem k827 : (Cond.code (⟨"GreenHorseUpstairsModel", "here", "()I"⟩ : MethodName) prog_6_method_31_code 1 (Option.some FieldType.int)) ∈ gT := gk4 47 rfl rfl
theorem k828 : (Cond.methodLink "GreenHorseUpstairsModel" 116 (⟨"GreenHorseUpstairsModel", "readsDigit", "(I)Z"⟩ : MethodName)) ∈ gT := gk4 48 rfl rfl
theorem k830 : (Cond.instanceMethod (⟨"GreenHorseUpstairsModel", "readsDigit", "(I)Z"⟩ : MethodName)) ∈ gT := gk4 50 rfl rfl
theorem k831 : (Cond.code (⟨"GreenHorseUpstairsModel", "readsDigit", "(I)Z"⟩ : MethodName) prog_6_method_32_code 2 (Option.some FieldType.boolean)) ∈ gT := gk4 51 rfl rfl
theorem k832 : (Cond.methodLink "GreenHorseUpstairsModel" 42 (⟨"GreenHorseUpstairsModel", "isIn", "(III)Z"⟩ : MethodName)) ∈ gT := gk4 52 rfl rfl
theorem k833 : (Cond.static (⟨"GreenHorseUpstairsModel", "isIn", "(III)Z"⟩ : MethodName)) ∈ gT := gk4 53 rfl rfl
theorem k834 : (Cond.code (⟨"GreenHorseUpstairsModel", "isIn", "(III)Z"⟩ : MethodName) prog_6_method_2_code 3 (Option.some FieldType.boolean)) ∈ gT := gk4 54 rfl rfl
theorem k835 : (Cond.methodLink "GreenHorseUpstairsModel" 120 (⟨"GreenHorseUpstairsModel", "readsKind", "()Z"⟩ : MethodName)) ∈ gT := gk4 55 rfl rfl
theorem k837 : (Cond.instanceMethod (⟨"GreenHorseUpstairsModel", "readsKind", "()Z"⟩ : MethodName)) ∈ gT := gk4 57 rfl rfl
theorem k838 : (Cond.code (⟨"GreenHorseUpstairsModel", "readsKind", "()Z"⟩ : MethodName) prog_6_method_34_code 1 (Option.some FieldType.boolean)) ∈ gT := gk4 58 rfl rfl
theorem k839 : (Cond.methodLink "GreenHorseUpstairsModel" 113 (⟨"GreenHorseUpstairsModel", "kindBy", "(I)I"⟩ : MethodName)) ∈ gT := gk4 59 rfl rfl
theorem k840 : (Cond.static (⟨"GreenHorseUpstairsModel", "kindBy", "(I)I"⟩ : MethodName)) ∈ gT := gk4 60 rfl rfl
theorem k841 : (Cond.code (⟨"GreenHorseUpstairsModel", "kindBy", "(I)I"⟩ : MethodName) prog_6_method_33_code 1 (Option.some FieldType.int)) ∈ gT := gk4 61 rfl rfl
theorem k842 : (Cond.methodLink "GreenHorseUpstairsModel" 88 (⟨"GreenHorseUpstairsModel", "lays", "([I[I)V"⟩ : MethodName)) ∈ gT := gk4 62 rfl rfl
theorem k843 : (Cond.static (⟨"GreenHorseUpstairsModel", "lays", "([I[I)V"⟩ : MethodName)) ∈ gT := gk4 63 rfl rfl
theorem k844 : (Cond.code (⟨"GreenHorseUpstairsModel", "lays", "([I[I)V"⟩ : MethodName) prog_6_method_3_code 3 (Option.none : Option FieldType)) ∈ gT := gk4 64 rfl rfl
theorem k845 : (Cond.methodLink "GreenHorseUpstairsModel" 143 (⟨"GreenHorseUpstairsModel", "isDone", "(I)Z"⟩ : MethodName)) ∈ gT := gk4 65 rfl rfl
theorem k847 : (Cond.instanceMethod (⟨"GreenHorseUpstairsModel", "isDone", "(I)Z"⟩ : MethodName)) ∈ gT := gk4 67 rfl rfl
theorem k848 : (Cond.code (⟨"GreenHorseUpstairsModel", "isDone", "(I)Z"⟩ : MethodName) prog_6_method_37_code 5 (Option.some FieldType.boolean)) ∈ gT := gk4 68 rfl rfl
theorem k849 : (Cond.methodLink "GreenHorseUpstairsModel" 124 (⟨"GreenHorseUpstairsModel", "isRoom", "(I)Z"⟩ : MethodName)) ∈ gT := gk4 69 rfl rfl
theorem k850 : (Cond.static (⟨"GreenHorseUpstairsModel", "isRoom", "(I)Z"⟩ : MethodName)) ∈ gT := gk4 70 rfl rfl
theorem k851 : (Cond.code (⟨"GreenHorseUpstairsModel", "isRoom", "(I)Z"⟩ : MethodName) prog_6_method_10_code 1 (Option.some FieldType.boolean)) ∈ gT := gk4 71 rfl rfl
theorem k852 : (Cond.methodLink "GreenHorseUpstairsModel" 127 (⟨"GreenHorseUpstairsModel", "turnsDoor", "(II)V"⟩ : MethodName)) ∈ gT := gk4 72 rfl rfl
theorem k854 : (Cond.instanceMethod (⟨"GreenHorseUpstairsModel", "turnsDoor", "(II)V"⟩ : MethodName)) ∈ gT := gk4 74 rfl rfl
theorem k855 : (Cond.code (⟨"GreenHorseUpstairsModel", "turnsDoor", "(II)V"⟩ : MethodName) prog_6_method_36_code 3 (Option.none : Option FieldType)) ∈ gT := gk4 75 rfl rfl
theorem k856 : (Cond.methodLink "GreenHorseUpstairsModel" 50 (⟨"GreenHorseUpstairsModel", "ask", "(II)I"⟩ : MethodName)) ∈ gT := gk4 76 rfl rfl
theorem k857 : (Cond.static (⟨"GreenHorseUpstairsModel", "ask", "(II)I"⟩ : MethodName)) ∈ gT := gk4 77 rfl rfl
theorem k858 : (Cond.code (⟨"GreenHorseUpstairsModel", "ask", "(II)I"⟩ : MethodName) prog_6_method_6_code 2 (Option.some FieldType.int)) ∈ gT := gk4 78 rfl rfl
theorem k859 : (Cond.methodLink "GreenHorseUpstairsModel" 57 (⟨"GreenHorseUpstairsModel", "sheetOf", "(II)I"⟩ : MethodName)) ∈ gT := gk4 79 rfl rfl
theorem k860 : (Cond.static (⟨"GreenHorseUpstairsModel", "sheetOf", "(II)I"⟩ : MethodName)) ∈ gT := gk4 80 rfl rfl
theorem k861 : (Cond.code (⟨"GreenHorseUpstairsModel", "sheetOf", "(II)I"⟩ : MethodName) prog_6_method_8_code 2 (Option.some FieldType.int)) ∈ gT := gk4 81 rfl rfl
theorem k862 : (Cond.methodLink "GreenHorseUpstairsModel" 54 (⟨"GreenHorseUpstairsModel", "of", "(II)I"⟩ : MethodName)) ∈ gT := gk4 82 rfl rfl
theorem k863 : (Cond.static (⟨"GreenHorseUpstairsModel", "of", "(II)I"⟩ : MethodName)) ∈ gT := gk4 83 rfl rfl
theorem k864 : (Cond.code (⟨"GreenHorseUpstairsModel", "of", "(II)I"⟩ : MethodName) prog_6_method_7_code 2 (Option.some FieldType.int)) ∈ gT := gk4 84 rfl rfl
theorem k865 : (Cond.methodLink "GreenHorseUpstairsModel" 131 (⟨"GreenHorseUpstairsModel", "isGroup", "(I)Z"⟩ : MethodName)) ∈ gT := gk4 85 rfl rfl
theorem k867 : (Cond.instanceMethod (⟨"GreenHorseUpstairsModel", "isGroup", "(I)Z"⟩ : MethodName)) ∈ gT := gk4 87 rfl rfl
theorem k868 : (Cond.code (⟨"GreenHorseUpstairsModel", "isGroup", "(I)Z"⟩ : MethodName) prog_6_method_12_code 2 (Option.some FieldType.boolean)) ∈ gT := gk4 88 rfl rfl
theorem k869 : (Cond.methodLink "GreenHorseUpstairsModel" 134 (⟨"GreenHorseUpstairsModel", "isQuestion", "(I)Z"⟩ : MethodName)) ∈ gT := gk4 89 rfl rfl
theorem k871 : (Cond.instanceMethod (⟨"GreenHorseUpstairsModel", "isQuestion", "(I)Z"⟩ : MethodName)) ∈ gT := gk4 91 rfl rfl
theorem k872 : (Cond.code (⟨"GreenHorseUpstairsModel", "isQuestion", "(I)Z"⟩ : MethodName) prog_6_method_11_code 2 (Option.some FieldType.boolean)) ∈ gT := gk4 92 rfl rfl
theorem k873 : (Cond.methodLink "GreenHorseUpstairsModel" 137 (⟨"GreenHorseUpstairsModel", "minutesOn", "([II)V"⟩ : MethodName)) ∈ gT := gk4 93 rfl rfl
theorem k875 : (Cond.instanceMethod (⟨"GreenHorseUpstairsModel", "minutesOn", "([II)V"⟩ : MethodName)) ∈ gT := gk4 95 rfl rfl
theorem k876 : (Cond.code (⟨"GreenHorseUpstairsModel", "minutesOn", "([II)V"⟩ : MethodName) prog_6_method_22_code 4 (Option.none : Option FieldType)) ∈ gT := gk4 96 rfl rfl
theorem k877 : (Cond.methodLink "GreenHorseUpstairsModel" 84 (⟨"GreenHorseUpstairsModel", "minute", "([I)V"⟩ : MethodName)) ∈ gT := gk4 97 rfl rfl
theorem k879 : (Cond.instanceMethod (⟨"GreenHorseUpstairsModel", "minute", "([I)V"⟩ : MethodName)) ∈ gT := gk4 99 rfl rfl
theorem k880 : (Cond.code (⟨"GreenHorseUpstairsModel", "minute", "([I)V"⟩ : MethodName) prog_6_method_21_code 3 (Option.none : Option FieldType)) ∈ gT := gk4 100 rfl rfl
theorem k881 : (Cond.methodLink "GreenHorseUpstairsModel" 81 (⟨"GreenHorseUpstairsModel", "goes", "([II)V"⟩ : MethodName)) ∈ gT := gk4 101 rfl rfl
theorem k883 : (Cond.instanceMethod (⟨"GreenHorseUpstairsModel", "goes", "([II)V"⟩ : MethodName)) ∈ gT := gk4 103 rfl rfl
theorem k884 : (Cond.code (⟨"GreenHorseUpstairsModel", "goes", "([II)V"⟩ : MethodName) prog_6_method_20_code 4 (Option.none : Option FieldType)) ∈ gT := gk4 104 rfl rfl
theorem k885 : (Cond.methodLink "GreenHorseUpstairsModel" 67 (⟨"GreenHorseUpstairsModel", "nextOf", "([II)I"⟩ : MethodName)) ∈ gT := gk4 105 rfl rfl
theorem k886 : (Cond.static (⟨"GreenHorseUpstairsModel", "nextOf", "([II)I"⟩ : MethodName)) ∈ gT := gk4 106 rfl rfl
theorem k887 : (Cond.code (⟨"GreenHorseUpstairsModel", "nextOf", "([II)I"⟩ : MethodName) prog_6_method_17_code 4 (Option.some FieldType.int)) ∈ gT := gk4 107 rfl rfl
theorem k888 : (Cond.methodLink "GreenHorseUpstairsModel" 71 (⟨"GreenHorseUpstairsModel", "onward", "([III)I"⟩ : MethodName)) ∈ gT := gk4 108 rfl rfl
theorem k890 : (Cond.instanceMethod (⟨"GreenHorseUpstairsModel", "onward", "([III)I"⟩ : MethodName)) ∈ gT := gk4 110 rfl rfl
theorem k891 : (Cond.code (⟨"GreenHorseUpstairsModel", "onward", "([III)I"⟩ : MethodName) prog_6_method_14_code 5 (Option.some FieldType.int)) ∈ gT := gk4 111 rfl rfl
theorem k892 : (Cond.methodLink "GreenHorseUpstairsModel" 46 (⟨"GreenHorseUpstairsModel", "doorsTo", "([II)V"⟩ : MethodName)) ∈ gT := gk4 112 rfl rfl
theorem k894 : (Cond.instanceMethod (⟨"GreenHorseUpstairsModel", "doorsTo", "([II)V"⟩ : MethodName)) ∈ gT := gk4 114 rfl rfl
theorem k895 : (Cond.code (⟨"GreenHorseUpstairsModel", "doorsTo", "([II)V"⟩ : MethodName) prog_6_method_13_code 6 (Option.none : Option FieldType)) ∈ gT := gk4 115 rfl rfl
theorem k896 : (Cond.constant "GreenHorseUpstairsModel" 37 (1000000000 : Int32)) ∈ gT := gk4 116 rfl rfl
theorem k897 : (Cond.methodLink "GreenHorseUpstairsModel" 74 (⟨"GreenHorseUpstairsModel", "minutesOf", "([II)I"⟩ : MethodName)) ∈ gT := gk4 117 rfl rfl
theorem k898 : (Cond.static (⟨"GreenHorseUpstairsModel", "minutesOf", "([II)I"⟩ : MethodName)) ∈ gT := gk4 118 rfl rfl
theorem k899 : (Cond.code (⟨"GreenHorseUpstairsModel", "minutesOf", "([II)I"⟩ : MethodName) prog_6_method_16_code 2 (Option.some FieldType.int)) ∈ gT := gk4 119 rfl rfl
theorem k900 : (Cond.methodLink "GreenHorseUpstairsModel" 77 (⟨"GreenHorseUpstairsModel", "writes", "([III)V"⟩ : MethodName)) ∈ gT := gk4 120 rfl rfl
theorem k901 : (Cond.static (⟨"GreenHorseUpstairsModel", "writes", "([III)V"⟩ : MethodName)) ∈ gT := gk4 121 rfl rfl
theorem k902 : (Cond.code (⟨"GreenHorseUpstairsModel", "writes", "([III)V"⟩ : MethodName) prog_6_method_19_code 10 (Option.none : Option FieldType)) ∈ gT := gk4 122 rfl rfl
theorem k903 : (Cond.methodLink "GreenHorseUpstairsModel" 60 (⟨"GreenHorseUpstairsModel", "other", "([III)I"⟩ : MethodName)) ∈ gT := gk4 123 rfl rfl
theorem k904 : (Cond.static (⟨"GreenHorseUpstairsModel", "other", "([III)I"⟩ : MethodName)) ∈ gT := gk4 124 rfl rfl
theorem k905 : (Cond.code (⟨"GreenHorseUpstairsModel", "other", "([III)I"⟩ : MethodName) prog_6_method_18_code 4 (Option.some FieldType.int)) ∈ gT := gk4 125 rfl rfl
theorem k906 : (Cond.methodLink "GreenHorseUpstairsModel" 64 (⟨"GreenHorseUpstairsModel", "fromOf", "(II)I"⟩ : MethodName)) ∈ gT := gk4 126 rfl rfl
theorem k907 : (Cond.static (⟨"GreenHorseUpstairsModel", "fromOf", "(II)I"⟩ : MethodName)) ∈ gT := gk4 127 rfl rfl
theorem k908 : (Cond.code (⟨"GreenHorseUpstairsModel", "fromOf", "(II)I"⟩ : MethodName) prog_6_method_9_code 2 (Option.some FieldType.int)) ∈ gT := gk4 128 rfl rfl
theorem k909 : (Cond.methodLink "GreenHorseUpstairsLaw" 27 (⟨"GreenHorseUpstairsModel", "door", "(II)I"⟩ : MethodName)) ∈ gT := gk4 129 rfl rfl
theorem k910 : (Cond.instanceMethod (⟨"GreenHorseUpstairsModel", "door", "(II)I"⟩ : MethodName)) ∈ gT := gk4 130 rfl rfl
theorem k911 : (Cond.selects "GreenHorseUpstairsModel" (⟨"GreenHorseUpstairsModel", "door", "(II)I"⟩ : MethodName) (⟨"GreenHorseUpstairsModel", "door", "(II)I"⟩ : MethodName)) ∈ gT := gk4 131 rfl rfl
theorem k912 : (Cond.code (⟨"GreenHorseUpstairsModel", "door", "(II)I"⟩ : MethodName) prog_6_method_39_code 3 (Option.some FieldType.int)) ∈ gT := gk4 132 rfl rfl
theorem k913 : (Cond.methodLink "GreenHorseUpstairsModel" 146 (⟨"GreenHorseUpstairsModel", "doors", "([III)I"⟩ : MethodName)) ∈ gT := gk4 133 rfl rfl
theorem k915 : (Cond.instanceMethod (⟨"GreenHorseUpstairsModel", "doors", "([III)I"⟩ : MethodName)) ∈ gT := gk4 135 rfl rfl
theorem k916 : (Cond.code (⟨"GreenHorseUpstairsModel", "doors", "([III)I"⟩ : MethodName) prog_6_method_15_code 4 (Option.some FieldType.int)) ∈ gT := gk4 136 rfl rfl
theorem k917 : (Cond.methodLink "GreenHorseUpstairsLaw" 31 (⟨"GreenHorseUpstairsModel", "question", "(II)I"⟩ : MethodName)) ∈ gT := gk4 137 rfl rfl
theorem k918 : (Cond.instanceMethod (⟨"GreenHorseUpstairsModel", "question", "(II)I"⟩ : MethodName)) ∈ gT := gk4 138 rfl rfl
theorem k919 : (Cond.selects "GreenHorseUpstairsModel" (⟨"GreenHorseUpstairsModel", "question", "(II)I"⟩ : MethodName) (⟨"GreenHorseUpstairsModel", "question", "(II)I"⟩ : MethodName)) ∈ gT := gk4 139 rfl rfl
theorem k920 : (Cond.code (⟨"GreenHorseUpstairsModel", "question", "(II)I"⟩ : MethodName) prog_6_method_40_code 3 (Option.some FieldType.int)) ∈ gT := gk4 140 rfl rfl
theorem k921 : (Cond.methodLink "GreenHorseUpstairsLaw" 35 (⟨"GreenHorseUpstairsModel", "group", "(II)I"⟩ : MethodName)) ∈ gT := gk4 141 rfl rfl
theorem k922 : (Cond.instanceMethod (⟨"GreenHorseUpstairsModel", "group", "(II)I"⟩ : MethodName)) ∈ gT := gk4 142 rfl rfl
theorem k923 : (Cond.selects "GreenHorseUpstairsModel" (⟨"GreenHorseUpstairsModel", "group", "(II)I"⟩ : MethodName) (⟨"GreenHorseUpstairsModel", "group", "(II)I"⟩ : MethodName)) ∈ gT := gk4 143 rfl rfl
theorem k924 : (Cond.code (⟨"GreenHorseUpstairsModel", "group", "(II)I"⟩ : MethodName) prog_6_method_41_code 3 (Option.some FieldType.int)) ∈ gT := gk4 144 rfl rfl
theorem k925 : (Cond.methodLink "GreenHorseUpstairsLaw" 39 (⟨"GreenHorseUpstairsModel", "sheet", "(II)I"⟩ : MethodName)) ∈ gT := gk4 145 rfl rfl
theorem k926 : (Cond.instanceMethod (⟨"GreenHorseUpstairsModel", "sheet", "(II)I"⟩ : MethodName)) ∈ gT := gk4 146 rfl rfl
theorem k927 : (Cond.selects "GreenHorseUpstairsModel" (⟨"GreenHorseUpstairsModel", "sheet", "(II)I"⟩ : MethodName) (⟨"GreenHorseUpstairsModel", "sheet", "(II)I"⟩ : MethodName)) ∈ gT := gk4 147 rfl rfl
theorem k928 : (Cond.code (⟨"GreenHorseUpstairsModel", "sheet", "(II)I"⟩ : MethodName) prog_6_method_42_code 3 (Option.some FieldType.int)) ∈ gT := gk4 148 rfl rfl
theorem k929 : (Cond.methodLink "GreenHorseUpstairsLaw" 43 (⟨"GreenHorseUpstairsModel", "opens", "(II)I"⟩ : MethodName)) ∈ gT := gk4 149 rfl rfl
theorem k930 : (Cond.instanceMethod (⟨"GreenHorseUpstairsModel", "opens", "(II)I"⟩ : MethodName)) ∈ gT := gk4 150 rfl rfl
theorem k931 : (Cond.selects "GreenHorseUpstairsModel" (⟨"GreenHorseUpstairsModel", "opens", "(II)I"⟩ : MethodName) (⟨"GreenHorseUpstairsModel", "opens", "(II)I"⟩ : MethodName)) ∈ gT := gk4 151 rfl rfl
theorem k932 : (Cond.code (⟨"GreenHorseUpstairsModel", "opens", "(II)I"⟩ : MethodName) prog_6_method_43_code 3 (Option.some FieldType.int)) ∈ gT := gk4 152 rfl rfl
theorem k933 : (Cond.methodLink "GreenHorseUpstairsLaw" 47 (⟨"GreenHorseUpstairsModel", "put", "(II)I"⟩ : MethodName)) ∈ gT := gk4 153 rfl rfl
theorem k934 : (Cond.instanceMethod (⟨"GreenHorseUpstairsModel", "put", "(II)I"⟩ : MethodName)) ∈ gT := gk4 154 rfl rfl
theorem k935 : (Cond.selects "GreenHorseUpstairsModel" (⟨"GreenHorseUpstairsModel", "put", "(II)I"⟩ : MethodName) (⟨"GreenHorseUpstairsModel", "put", "(II)I"⟩ : MethodName)) ∈ gT := gk4 155 rfl rfl
theorem k936 : (Cond.code (⟨"GreenHorseUpstairsModel", "put", "(II)I"⟩ : MethodName) prog_6_method_44_code 4 (Option.some FieldType.int)) ∈ gT := gk4 156 rfl rfl
theorem k937 : (Cond.methodLink "GreenHorseUpstairsLaw" 51 (⟨"GreenHorseUpstairsModel", "start", "(II)I"⟩ : MethodName)) ∈ gT := gk4 157 rfl rfl
theorem k938 : (Cond.instanceMethod (⟨"GreenHorseUpstairsModel", "start", "(II)I"⟩ : MethodName)) ∈ gT := gk4 158 rfl rfl
theorem k939 : (Cond.selects "GreenHorseUpstairsModel" (⟨"GreenHorseUpstairsModel", "start", "(II)I"⟩ : MethodName) (⟨"GreenHorseUpstairsModel", "start", "(II)I"⟩ : MethodName)) ∈ gT := gk4 159 rfl rfl
theorem k940 : (Cond.code (⟨"GreenHorseUpstairsModel", "start", "(II)I"⟩ : MethodName) prog_6_method_45_code 4 (Option.some FieldType.int)) ∈ gT := gk4 160 rfl rfl
theorem k941 : (Cond.methodLink "GreenHorseUpstairsLaw" 56 (⟨"GreenHorseUpstairsModel", "write", "(III)I"⟩ : MethodName)) ∈ gT := gk4 161 rfl rfl
theorem k942 : (Cond.instanceMethod (⟨"GreenHorseUpstairsModel", "write", "(III)I"⟩ : MethodName)) ∈ gT := gk4 162 rfl rfl
theorem k943 : (Cond.selects "GreenHorseUpstairsModel" (⟨"GreenHorseUpstairsModel", "write", "(III)I"⟩ : MethodName) (⟨"GreenHorseUpstairsModel", "write", "(III)I"⟩ : MethodName)) ∈ gT := gk4 163 rfl rfl
theorem k944 : (Cond.code (⟨"GreenHorseUpstairsModel", "write", "(III)I"⟩ : MethodName) prog_6_method_46_code 5 (Option.some FieldType.int)) ∈ gT := gk4 164 rfl rfl
theorem k945 : (Cond.methodLink "GreenHorseUpstairsLaw" 60 (⟨"GreenHorseUpstairsModel", "minutes", "(I)I"⟩ : MethodName)) ∈ gT := gk4 165 rfl rfl
theorem k946 : (Cond.instanceMethod (⟨"GreenHorseUpstairsModel", "minutes", "(I)I"⟩ : MethodName)) ∈ gT := gk4 166 rfl rfl
theorem k947 : (Cond.selects "GreenHorseUpstairsModel" (⟨"GreenHorseUpstairsModel", "minutes", "(I)I"⟩ : MethodName) (⟨"GreenHorseUpstairsModel", "minutes", "(I)I"⟩ : MethodName)) ∈ gT := gk4 167 rfl rfl
theorem k948 : (Cond.code (⟨"GreenHorseUpstairsModel", "minutes", "(I)I"⟩ : MethodName) prog_6_method_47_code 2 (Option.some FieldType.int)) ∈ gT := gk4 168 rfl rfl
theorem k949 : (Cond.methodLink "GreenHorseUpstairsModel" 149 (⟨"GreenHorseUpstairsModel", "rightAll", "([I)I"⟩ : MethodName)) ∈ gT := gk4 169 rfl rfl
theorem k950 : (Cond.static (⟨"GreenHorseUpstairsModel", "rightAll", "([I)I"⟩ : MethodName)) ∈ gT := gk4 170 rfl rfl
theorem k951 : (Cond.code (⟨"GreenHorseUpstairsModel", "rightAll", "([I)I"⟩ : MethodName) prog_6_method_27_code 3 (Option.some FieldType.int)) ∈ gT := gk4 171 rfl rfl
theorem k952 : (Cond.methodLink "GreenHorseUpstairsModel" 92 (⟨"GreenHorseUpstairsModel", "rightOf", "([II)I"⟩ : MethodName)) ∈ gT := gk4 172 rfl rfl
theorem k953 : (Cond.static (⟨"GreenHorseUpstairsModel", "rightOf", "([II)I"⟩ : MethodName)) ∈ gT := gk4 173 rfl rfl
theorem k954 : (Cond.code (⟨"GreenHorseUpstairsModel", "rightOf", "([II)I"⟩ : MethodName) prog_6_method_25_code 4 (Option.some FieldType.int)) ∈ gT := gk4 174 rfl rfl
theorem k955 : (Cond.methodLink "GreenHorseUpstairsLaw" 64 (⟨"GreenHorseUpstairsModel", "behind", "(III)I"⟩ : MethodName)) ∈ gT := gk4 175 rfl rfl
theorem k956 : (Cond.instanceMethod (⟨"GreenHorseUpstairsModel", "behind", "(III)I"⟩ : MethodName)) ∈ gT := gk4 176 rfl rfl
theorem k957 : (Cond.selects "GreenHorseUpstairsModel" (⟨"GreenHorseUpstairsModel", "behind", "(III)I"⟩ : MethodName) (⟨"GreenHorseUpstairsModel", "behind", "(III)I"⟩ : MethodName)) ∈ gT := gk4 177 rfl rfl
theorem k958 : (Cond.code (⟨"GreenHorseUpstairsModel", "behind", "(III)I"⟩ : MethodName) prog_6_method_49_code 5 (Option.some FieldType.int)) ∈ gT := gk4 178 rfl rfl
theorem k959 : (Cond.methodLink "GreenHorseUpstairsModel" 153 (⟨"GreenHorseUpstairsModel", "wrongMinutes", "(I)I"⟩ : MethodName)) ∈ gT := gk4 179 rfl rfl
theorem k960 : (Cond.static (⟨"GreenHorseUpstairsModel", "wrongMinutes", "(I)I"⟩ : MethodName)) ∈ gT := gk4 180 rfl rfl
theorem k961 : (Cond.code (⟨"GreenHorseUpstairsModel", "wrongMinutes", "(I)I"⟩ : MethodName) prog_6_method_48_code 1 (Option.some FieldType.int)) ∈ gT := gk4 181 rfl rfl
theorem k962 : (Cond.methodLink "GreenHorseUpstairsModel" 156 (⟨"GreenHorseUpstairsModel", "begins", "()V"⟩ : MethodName)) ∈ gT := gk4 182 rfl rfl
theorem k964 : (Cond.instanceMethod (⟨"GreenHorseUpstairsModel", "begins", "()V"⟩ : MethodName)) ∈ gT := gk4 184 rfl rfl
theorem k965 : (Cond.code (⟨"GreenHorseUpstairsModel", "begins", "()V"⟩ : MethodName) prog_6_method_23_code 2 (Option.none : Option FieldType)) ∈ gT := gk4 185 rfl rfl
theorem k966 : (Cond.methodLink "GreenHorseUpstairsModel" 95 (⟨"GreenHorseUpstairsModel", "answersOf", "([II)I"⟩ : MethodName)) ∈ gT := gk4 186 rfl rfl
theorem k967 : (Cond.static (⟨"GreenHorseUpstairsModel", "answersOf", "([II)I"⟩ : MethodName)) ∈ gT := gk4 187 rfl rfl
theorem k968 : (Cond.code (⟨"GreenHorseUpstairsModel", "answersOf", "([II)I"⟩ : MethodName) prog_6_method_24_code 4 (Option.some FieldType.int)) ∈ gT := gk4 188 rfl rfl
theorem k969 : (Cond.methodLink "GreenHorseUpstairsModel" 159 (⟨"GreenHorseUpstairsModel", "copiedOf", "([II)I"⟩ : MethodName)) ∈ gT := gk4 189 rfl rfl
theorem k970 : (Cond.static (⟨"GreenHorseUpstairsModel", "copiedOf", "([II)I"⟩ : MethodName)) ∈ gT := gk4 190 rfl rfl
theorem k971 : (Cond.code (⟨"GreenHorseUpstairsModel", "copiedOf", "([II)I"⟩ : MethodName) prog_6_method_26_code 4 (Option.some FieldType.int)) ∈ gT := gk4 191 rfl rfl
theorem k972 : (Cond.methodLink "GreenHorseUpstairsLaw" 68 (⟨"GreenHorseUpstairsModel", "done", "(I)I"⟩ : MethodName)) ∈ gT := gk4 192 rfl rfl
theorem k973 : (Cond.instanceMethod (⟨"GreenHorseUpstairsModel", "done", "(I)I"⟩ : MethodName)) ∈ gT := gk4 193 rfl rfl
theorem k974 : (Cond.selects "GreenHorseUpstairsModel" (⟨"GreenHorseUpstairsModel", "done", "(I)I"⟩ : MethodName) (⟨"GreenHorseUpstairsModel", "done", "(I)I"⟩ : MethodName)) ∈ gT := gk4 194 rfl rfl
theorem k975 : (Cond.code (⟨"GreenHorseUpstairsModel", "done", "(I)I"⟩ : MethodName) prog_6_method_53_code 2 (Option.some FieldType.int)) ∈ gT := gk4 195 rfl rfl
theorem k976 : (Cond.methodLink "GreenHorseUpstairsModel" 169 (⟨"GreenHorseUpstairsModel", "doneNow", "(I)I"⟩ : MethodName)) ∈ gT := gk4 196 rfl rfl
theorem k978 : (Cond.instanceMethod (⟨"GreenHorseUpstairsModel", "doneNow", "(I)I"⟩ : MethodName)) ∈ gT := gk4 198 rfl rfl
theorem k979 : (Cond.code (⟨"GreenHorseUpstairsModel", "doneNow", "(I)I"⟩ : MethodName) prog_6_method_52_code 2 (Option.some FieldType.int)) ∈ gT := gk4 199 rfl rfl
theorem k980 : (Cond.methodLink "GreenHorseUpstairsModel" 166 (⟨"GreenHorseUpstairsModel", "doneIn", "(I)I"⟩ : MethodName)) ∈ gT := gk4 200 rfl rfl
theorem k982 : (Cond.instanceMethod (⟨"GreenHorseUpstairsModel", "doneIn", "(I)I"⟩ : MethodName)) ∈ gT := gk4 202 rfl rfl
theorem k983 : (Cond.code (⟨"GreenHorseUpstairsModel", "doneIn", "(I)I"⟩ : MethodName) prog_6_method_50_code 3 (Option.some FieldType.int)) ∈ gT := gk4 203 rfl rfl
theorem k984 : (Cond.methodLink "GreenHorseUpstairsModel" 98 (⟨"GreenHorseUpstairsModel", "isDoneIn", "([II)Z"⟩ : MethodName)) ∈ gT := gk4 204 rfl rfl
theorem k985 : (Cond.static (⟨"GreenHorseUpstairsModel", "isDoneIn", "([II)Z"⟩ : MethodName)) ∈ gT := gk4 205 rfl rfl
theorem k986 : (Cond.code (⟨"GreenHorseUpstairsModel", "isDoneIn", "([II)Z"⟩ : MethodName) prog_6_method_28_code 2 (Option.some FieldType.boolean)) ∈ gT := gk4 206 rfl rfl
theorem k987 : (Cond.methodLink "GreenHorseUpstairsLaw" 72 (⟨"GreenHorseUpstairsModel", "ended", "(I)I"⟩ : MethodName)) ∈ gT := gk4 207 rfl rfl
theorem k988 : (Cond.instanceMethod (⟨"GreenHorseUpstairsModel", "ended", "(I)I"⟩ : MethodName)) ∈ gT := gk4 208 rfl rfl
theorem k989 : (Cond.selects "GreenHorseUpstairsModel" (⟨"GreenHorseUpstairsModel", "ended", "(I)I"⟩ : MethodName) (⟨"GreenHorseUpstairsModel", "ended", "(I)I"⟩ : MethodName)) ∈ gT := gk4 209 rfl rfl
theorem k990 : (Cond.code (⟨"GreenHorseUpstairsModel", "ended", "(I)I"⟩ : MethodName) prog_6_method_54_code 6 (Option.some FieldType.int)) ∈ gT := gk4 210 rfl rfl
theorem k991 : (Cond.methodLink "GreenHorseUpstairsModel" 172 (⟨"GreenHorseUpstairsModel", "allDoneIn", "()I"⟩ : MethodName)) ∈ gT := gk4 211 rfl rfl
theorem k993 : (Cond.instanceMethod (⟨"GreenHorseUpstairsModel", "allDoneIn", "()I"⟩ : MethodName)) ∈ gT := gk4 213 rfl rfl
theorem k994 : (Cond.code (⟨"GreenHorseUpstairsModel", "allDoneIn", "()I"⟩ : MethodName) prog_6_method_51_code 2 (Option.some FieldType.int)) ∈ gT := gk4 214 rfl rfl
theorem k995 : (Cond.methodLink "GreenHorseUpstairsModel" 162 (⟨"GreenHorseUpstairsModel", "areAllDone", "([I)Z"⟩ : MethodName)) ∈ gT := gk4 215 rfl rfl
theorem k996 : (Cond.static (⟨"GreenHorseUpstairsModel", "areAllDone", "([I)Z"⟩ : MethodName)) ∈ gT := gk4 216 rfl rfl
theorem k997 : (Cond.code (⟨"GreenHorseUpstairsModel", "areAllDone", "([I)Z"⟩ : MethodName) prog_6_method_29_code 2 (Option.some FieldType.boolean)) ∈ gT := gk4 217 rfl rfl
theorem k998 : (Cond.methodLink "GreenHorseUpstairsLaw" 76 (⟨"GreenHorseUpstairsModel", "answer", "(III)I"⟩ : MethodName)) ∈ gT := gk4 218 rfl rfl
theorem k999 : (Cond.instanceMethod (⟨"GreenHorseUpstairsModel", "answer", "(III)I"⟩ : MethodName)) ∈ gT := gk4 219 rfl rfl
theorem k1000 : (Cond.selects "GreenHorseUpstairsModel" (⟨"GreenHorseUpstairsModel", "answer", "(III)I"⟩ : MethodName) (⟨"GreenHorseUpstairsModel", "answer", "(III)I"⟩ : MethodName)) ∈ gT := gk4 220 rfl rfl
theorem k1001 : (Cond.code (⟨"GreenHorseUpstairsModel", "answer", "(III)I"⟩ : MethodName) prog_6_method_55_code 4 (Option.some FieldType.int)) ∈ gT := gk4 221 rfl rfl
theorem k1002 : (Cond.methodLink "GreenHorseUpstairsLaw" 80 (⟨"GreenHorseUpstairsModel", "full", "(II)I"⟩ : MethodName)) ∈ gT := gk4 222 rfl rfl
theorem k1003 : (Cond.instanceMethod (⟨"GreenHorseUpstairsModel", "full", "(II)I"⟩ : MethodName)) ∈ gT := gk4 223 rfl rfl
theorem k1004 : (Cond.selects "GreenHorseUpstairsModel" (⟨"GreenHorseUpstairsModel", "full", "(II)I"⟩ : MethodName) (⟨"GreenHorseUpstairsModel", "full", "(II)I"⟩ : MethodName)) ∈ gT := gk4 224 rfl rfl
theorem k1005 : (Cond.code (⟨"GreenHorseUpstairsModel", "full", "(II)I"⟩ : MethodName) prog_6_method_58_code 4 (Option.some FieldType.int)) ∈ gT := gk4 225 rfl rfl
theorem k1006 : (Cond.methodLink "GreenHorseUpstairsModel" 187 (⟨"GreenHorseUpstairsModel", "findsFull", "(I)V"⟩ : MethodName)) ∈ gT := gk4 226 rfl rfl
theorem k1008 : (Cond.instanceMethod (⟨"GreenHorseUpstairsModel", "findsFull", "(I)V"⟩ : MethodName)) ∈ gT := gk4 228 rfl rfl
theorem k1009 : (Cond.code (⟨"GreenHorseUpstairsModel", "findsFull", "(I)V"⟩ : MethodName) prog_6_method_57_code 4 (Option.none : Option FieldType)) ∈ gT := gk4 229 rfl rfl
theorem k1010 : (Cond.methodLink "GreenHorseUpstairsModel" 184 (⟨"GreenHorseUpstairsModel", "inRoom", "([II)I"⟩ : MethodName)) ∈ gT := gk4 230 rfl rfl
theorem k1011 : (Cond.static (⟨"GreenHorseUpstairsModel", "inRoom", "([II)I"⟩ : MethodName)) ∈ gT := gk4 231 rfl rfl
theorem k1012 : (Cond.code (⟨"GreenHorseUpstairsModel", "inRoom", "([II)I"⟩ : MethodName) prog_6_method_56_code 4 (Option.some FieldType.int)) ∈ gT := gk4 232 rfl rfl
theorem k1013 : (Cond.methodLink "GreenHorseUpstairsLaw" 84 (⟨"GreenHorseUpstairsModel", "right", "(I)I"⟩ : MethodName)) ∈ gT := gk4 233 rfl rfl
theorem k1014 : (Cond.instanceMethod (⟨"GreenHorseUpstairsModel", "right", "(I)I"⟩ : MethodName)) ∈ gT := gk4 234 rfl rfl
theorem k1015 : (Cond.selects "GreenHorseUpstairsModel" (⟨"GreenHorseUpstairsModel", "right", "(I)I"⟩ : MethodName) (⟨"GreenHorseUpstairsModel", "right", "(I)I"⟩ : MethodName)) ∈ gT := gk4 235 rfl rfl
theorem k1016 : (Cond.code (⟨"GreenHorseUpstairsModel", "right", "(I)I"⟩ : MethodName) prog_6_method_59_code 3 (Option.some FieldType.int)) ∈ gT := gk4 236 rfl rfl
theorem k1017 : (Cond.methodLink "GreenHorseUpstairsLaw" 88 (⟨"GreenHorseUpstairsModel", "bestFirst", "(II)I"⟩ : MethodName)) ∈ gT := gk4 237 rfl rfl
theorem k1018 : (Cond.instanceMethod (⟨"GreenHorseUpstairsModel", "bestFirst", "(II)I"⟩ : MethodName)) ∈ gT := gk4 238 rfl rfl
theorem k1019 : (Cond.selects "GreenHorseUpstairsModel" (⟨"GreenHorseUpstairsModel", "bestFirst", "(II)I"⟩ : MethodName) (⟨"GreenHorseUpstairsModel", "bestFirst", "(II)I"⟩ : MethodName)) ∈ gT := gk4 239 rfl rfl
theorem k1020 : (Cond.code (⟨"GreenHorseUpstairsModel", "bestFirst", "(II)I"⟩ : MethodName) prog_6_method_60_code 7 (Option.some FieldType.int)) ∈ gT := gk5 0 rfl rfl
theorem k1021 : (Cond.methodLink "GreenHorseUpstairsLaw" 92 (⟨"GreenHorseUpstairsModel", "apart", "(I)I"⟩ : MethodName)) ∈ gT := gk5 1 rfl rfl
theorem k1022 : (Cond.instanceMethod (⟨"GreenHorseUpstairsModel", "apart", "(I)I"⟩ : MethodName)) ∈ gT := gk5 2 rfl rfl
theorem k1023 : (Cond.selects "GreenHorseUpstairsModel" (⟨"GreenHorseUpstairsModel", "apart", "(I)I"⟩ : MethodName) (⟨"GreenHorseUpstairsModel", "apart", "(I)I"⟩ : MethodName)) ∈ gT := gk5 3 rfl rfl
theorem k1024 : (Cond.code (⟨"GreenHorseUpstairsModel", "apart", "(I)I"⟩ : MethodName) prog_6_method_61_code 7 (Option.some FieldType.int)) ∈ gT := gk5 4 rfl rfl
theorem k1025 : (Cond.methodLink "GreenHorseUpstairsLaw" 96 (⟨"GreenHorseUpstairsModel", "leave", "()I"⟩ : MethodName)) ∈ gT := gk5 5 rfl rfl
theorem k1026 : (Cond.instanceMethod (⟨"GreenHorseUpstairsModel", "leave", "()I"⟩ : MethodName)) ∈ gT := gk5 6 rfl rfl
theorem k1027 : (Cond.selects "GreenHorseUpstairsModel" (⟨"GreenHorseUpstairsModel", "leave", "()I"⟩ : MethodName) (⟨"GreenHorseUpstairsModel", "leave", "()I"⟩ : MethodName)) ∈ gT := gk5 7 rfl rfl
theorem k1028 : (Cond.code (⟨"GreenHorseUpstairsModel", "leave", "()I"⟩ : MethodName) prog_6_method_63_code 5 (Option.some FieldType.int)) ∈ gT := gk5 8 rfl rfl
theorem k1029 : (Cond.methodLink "GreenHorseUpstairsModel" 191 (⟨"GreenHorseUpstairsModel", "leaves", "(I)V"⟩ : MethodName)) ∈ gT := gk5 9 rfl rfl
theorem k1031 : (Cond.instanceMethod (⟨"GreenHorseUpstairsModel", "leaves", "(I)V"⟩ : MethodName)) ∈ gT := gk5 11 rfl rfl
theorem k1032 : (Cond.code (⟨"GreenHorseUpstairsModel", "leaves", "(I)V"⟩ : MethodName) prog_6_method_62_code 3 (Option.none : Option FieldType)) ∈ gT := gk5 12 rfl rfl
theorem k1033 : (Cond.methodLink "GreenHorseUpstairsLaw" 100 (⟨"GreenHorseUpstairsModel", "tell", "(I)I"⟩ : MethodName)) ∈ gT := gk5 13 rfl rfl
theorem k1034 : (Cond.instanceMethod (⟨"GreenHorseUpstairsModel", "tell", "(I)I"⟩ : MethodName)) ∈ gT := gk5 14 rfl rfl
theorem k1035 : (Cond.selects "GreenHorseUpstairsModel" (⟨"GreenHorseUpstairsModel", "tell", "(I)I"⟩ : MethodName) (⟨"GreenHorseUpstairsModel", "tell", "(I)I"⟩ : MethodName)) ∈ gT := gk5 15 rfl rfl
theorem k1036 : (Cond.code (⟨"GreenHorseUpstairsModel", "tell", "(I)I"⟩ : MethodName) prog_6_method_64_code 7 (Option.some FieldType.int)) ∈ gT := gk5 16 rfl rfl
theorem k1037 : (Cond.methodLink "GreenHorseUpstairsLaw" 104 (⟨"GreenHorseUpstairsModel", "spreads", "(II)I"⟩ : MethodName)) ∈ gT := gk5 17 rfl rfl
theorem k1038 : (Cond.instanceMethod (⟨"GreenHorseUpstairsModel", "spreads", "(II)I"⟩ : MethodName)) ∈ gT := gk5 18 rfl rfl
theorem k1039 : (Cond.selects "GreenHorseUpstairsModel" (⟨"GreenHorseUpstairsModel", "spreads", "(II)I"⟩ : MethodName) (⟨"GreenHorseUpstairsModel", "spreads", "(II)I"⟩ : MethodName)) ∈ gT := gk5 19 rfl rfl
theorem k1040 : (Cond.code (⟨"GreenHorseUpstairsModel", "spreads", "(II)I"⟩ : MethodName) prog_6_method_65_code 6 (Option.some FieldType.int)) ∈ gT := gk5 20 rfl rfl
theorem k1041 : (Cond.methodLink "GreenHorseUpstairsLaw" 108 (⟨"GreenHorseUpstairsModel", "missing", "(II)I"⟩ : MethodName)) ∈ gT := gk5 21 rfl rfl
theorem k1042 : (Cond.instanceMethod (⟨"GreenHorseUpstairsModel", "missing", "(II)I"⟩ : MethodName)) ∈ gT := gk5 22 rfl rfl
theorem k1043 : (Cond.selects "GreenHorseUpstairsModel" (⟨"GreenHorseUpstairsModel", "missing", "(II)I"⟩ : MethodName) (⟨"GreenHorseUpstairsModel", "missing", "(II)I"⟩ : MethodName)) ∈ gT := gk5 23 rfl rfl
theorem k1044 : (Cond.code (⟨"GreenHorseUpstairsModel", "missing", "(II)I"⟩ : MethodName) prog_6_method_66_code 6 (Option.some FieldType.int)) ∈ gT := gk5 24 rfl rfl
theorem k1045 : (Cond.methodLink "GreenHorseUpstairsLaw" 112 (⟨"GreenHorseUpstairsModel", "worth", "(I)I"⟩ : MethodName)) ∈ gT := gk5 25 rfl rfl
theorem k1046 : (Cond.instanceMethod (⟨"GreenHorseUpstairsModel", "worth", "(I)I"⟩ : MethodName)) ∈ gT := gk5 26 rfl rfl
theorem k1047 : (Cond.selects "GreenHorseUpstairsModel" (⟨"GreenHorseUpstairsModel", "worth", "(I)I"⟩ : MethodName) (⟨"GreenHorseUpstairsModel", "worth", "(I)I"⟩ : MethodName)) ∈ gT := gk5 27 rfl rfl
theorem k1048 : (Cond.code (⟨"GreenHorseUpstairsModel", "worth", "(I)I"⟩ : MethodName) prog_6_method_68_code 4 (Option.some FieldType.int)) ∈ gT := gk5 28 rfl rfl
theorem k1049 : (Cond.methodLink "GreenHorseUpstairsModel" 194 (⟨"GreenHorseUpstairsModel", "noFar", "(I)I"⟩ : MethodName)) ∈ gT := gk5 29 rfl rfl
theorem k1051 : (Cond.instanceMethod (⟨"GreenHorseUpstairsModel", "noFar", "(I)I"⟩ : MethodName)) ∈ gT := gk5 31 rfl rfl
theorem k1052 : (Cond.code (⟨"GreenHorseUpstairsModel", "noFar", "(I)I"⟩ : MethodName) prog_6_method_5_code 2 (Option.some FieldType.int)) ∈ gT := gk5 32 rfl rfl
theorem k1053 : (Cond.methodLink "GreenHorseUpstairsModel" 197 (⟨"GreenHorseUpstairsModel", "orNever", "(I)I"⟩ : MethodName)) ∈ gT := gk5 33 rfl rfl
theorem k1055 : (Cond.instanceMethod (⟨"GreenHorseUpstairsModel", "orNever", "(I)I"⟩ : MethodName)) ∈ gT := gk5 35 rfl rfl
theorem k1056 : (Cond.code (⟨"GreenHorseUpstairsModel", "orNever", "(I)I"⟩ : MethodName) prog_6_method_67_code 2 (Option.some FieldType.int)) ∈ gT := gk5 36 rfl rfl
theorem k1057 : (Cond.methodLink "GreenHorseUpstairsLaw" 116 (⟨"GreenHorseUpstairsModel", "two", "(II)I"⟩ : MethodName)) ∈ gT := gk5 37 rfl rfl
theorem k1058 : (Cond.instanceMethod (⟨"GreenHorseUpstairsModel", "two", "(II)I"⟩ : MethodName)) ∈ gT := gk5 38 rfl rfl
theorem k1059 : (Cond.selects "GreenHorseUpstairsModel" (⟨"GreenHorseUpstairsModel", "two", "(II)I"⟩ : MethodName) (⟨"GreenHorseUpstairsModel", "two", "(II)I"⟩ : MethodName)) ∈ gT := gk5 39 rfl rfl
theorem k1060 : (Cond.code (⟨"GreenHorseUpstairsModel", "two", "(II)I"⟩ : MethodName) prog_6_method_70_code 6 (Option.some FieldType.int)) ∈ gT := gk5 40 rfl rfl
theorem k1061 : (Cond.methodLink "GreenHorseUpstairsModel" 200 (⟨"GreenHorseUpstairsModel", "doneBy", "(IIIII)I"⟩ : MethodName)) ∈ gT := gk5 41 rfl rfl
theorem k1063 : (Cond.instanceMethod (⟨"GreenHorseUpstairsModel", "doneBy", "(IIIII)I"⟩ : MethodName)) ∈ gT := gk5 43 rfl rfl
theorem k1064 : (Cond.code (⟨"GreenHorseUpstairsModel", "doneBy", "(IIIII)I"⟩ : MethodName) prog_6_method_69_code 6 (Option.some FieldType.int)) ∈ gT := gk5 44 rfl rfl
theorem k1065 : (Cond.methodLink "GreenHorseUpstairsLaw" 120 (⟨"GreenHorseUpstairsModel", "newDoor", "()I"⟩ : MethodName)) ∈ gT := gk5 45 rfl rfl
theorem k1066 : (Cond.instanceMethod (⟨"GreenHorseUpstairsModel", "newDoor", "()I"⟩ : MethodName)) ∈ gT := gk5 46 rfl rfl
theorem k1067 : (Cond.selects "GreenHorseUpstairsModel" (⟨"GreenHorseUpstairsModel", "newDoor", "()I"⟩ : MethodName) (⟨"GreenHorseUpstairsModel", "newDoor", "()I"⟩ : MethodName)) ∈ gT := gk5 47 rfl rfl
theorem k1068 : (Cond.code (⟨"GreenHorseUpstairsModel", "newDoor", "()I"⟩ : MethodName) prog_6_method_71_code 7 (Option.some FieldType.int)) ∈ gT := gk5 48 rfl rfl
theorem k1069 : (Cond.methodLink "GreenHorseUpstairsLaw" 128 (⟨"GreenHorseUpstairsModel", "row", "(I)I"⟩ : MethodName)) ∈ gT := gk5 49 rfl rfl
theorem k1070 : (Cond.instanceMethod (⟨"GreenHorseUpstairsModel", "row", "(I)I"⟩ : MethodName)) ∈ gT := gk5 50 rfl rfl
theorem k1071 : (Cond.selects "GreenHorseUpstairsModel" (⟨"GreenHorseUpstairsModel", "row", "(I)I"⟩ : MethodName) (⟨"GreenHorseUpstairsModel", "row", "(I)I"⟩ : MethodName)) ∈ gT := gk5 51 rfl rfl
theorem k1072 : (Cond.code (⟨"GreenHorseUpstairsModel", "row", "(I)I"⟩ : MethodName) prog_6_method_72_code 2 (Option.some FieldType.int)) ∈ gT := gk5 52 rfl rfl
theorem k1073 : (Cond.methodLink "GreenHorseUpstairsLaw" 124 (⟨"GreenHorseUpstairsModel", "which", "(III)I"⟩ : MethodName)) ∈ gT := gk5 53 rfl rfl
theorem k1074 : (Cond.instanceMethod (⟨"GreenHorseUpstairsModel", "which", "(III)I"⟩ : MethodName)) ∈ gT := gk5 54 rfl rfl
theorem k1075 : (Cond.selects "GreenHorseUpstairsModel" (⟨"GreenHorseUpstairsModel", "which", "(III)I"⟩ : MethodName) (⟨"GreenHorseUpstairsModel", "which", "(III)I"⟩ : MethodName)) ∈ gT := gk5 55 rfl rfl
theorem k1076 : (Cond.code (⟨"GreenHorseUpstairsModel", "which", "(III)I"⟩ : MethodName) prog_6_method_74_code 6 (Option.some FieldType.int)) ∈ gT := gk5 56 rfl rfl
theorem k1077 : (Cond.methodLink "GreenHorseUpstairsModel" 207 (⟨"GreenHorseUpstairsModel", "isTold", "(I)Z"⟩ : MethodName)) ∈ gT := gk5 57 rfl rfl
theorem k1079 : (Cond.instanceMethod (⟨"GreenHorseUpstairsModel", "isTold", "(I)Z"⟩ : MethodName)) ∈ gT := gk5 59 rfl rfl
theorem k1080 : (Cond.code (⟨"GreenHorseUpstairsModel", "isTold", "(I)Z"⟩ : MethodName) prog_6_method_73_code 4 (Option.some FieldType.boolean)) ∈ gT := gk5 60 rfl rfl
theorem k1081 : (Cond.methodLink "GreenHorseUpstairsLaw" 132 (⟨"GreenHorseUpstairsModel", "judge", "(I)I"⟩ : MethodName)) ∈ gT := gk5 61 rfl rfl
theorem k1082 : (Cond.instanceMethod (⟨"GreenHorseUpstairsModel", "judge", "(I)I"⟩ : MethodName)) ∈ gT := gk5 62 rfl rfl
theorem k1083 : (Cond.selects "GreenHorseUpstairsModel" (⟨"GreenHorseUpstairsModel", "judge", "(I)I"⟩ : MethodName) (⟨"GreenHorseUpstairsModel", "judge", "(I)I"⟩ : MethodName)) ∈ gT := gk5 63 rfl rfl
theorem k1084 : (Cond.code (⟨"GreenHorseUpstairsModel", "judge", "(I)I"⟩ : MethodName) prog_6_method_75_code 4 (Option.some FieldType.int)) ∈ gT := gk5 64 rfl rfl
theorem k1085 : (Cond.methodLink "GreenHorseUpstairsLaw" 136 (⟨"GreenHorseUpstairsModel", "clear", "()I"⟩ : MethodName)) ∈ gT := gk5 65 rfl rfl
theorem k1086 : (Cond.instanceMethod (⟨"GreenHorseUpstairsModel", "clear", "()I"⟩ : MethodName)) ∈ gT := gk5 66 rfl rfl
theorem k1087 : (Cond.selects "GreenHorseUpstairsModel" (⟨"GreenHorseUpstairsModel", "clear", "()I"⟩ : MethodName) (⟨"GreenHorseUpstairsModel", "clear", "()I"⟩ : MethodName)) ∈ gT := gk5 67 rfl rfl
theorem k1088 : (Cond.code (⟨"GreenHorseUpstairsModel", "clear", "()I"⟩ : MethodName) prog_6_method_76_code 2 (Option.some FieldType.int)) ∈ gT := gk5 68 rfl rfl
theorem k1089 : (Cond.methodLink "GreenHorseUpstairsLaw" 140 (⟨"GreenHorseUpstairsModel", "lots", "(III)I"⟩ : MethodName)) ∈ gT := gk5 69 rfl rfl
theorem k1090 : (Cond.instanceMethod (⟨"GreenHorseUpstairsModel", "lots", "(III)I"⟩ : MethodName)) ∈ gT := gk5 70 rfl rfl
theorem k1091 : (Cond.selects "GreenHorseUpstairsModel" (⟨"GreenHorseUpstairsModel", "lots", "(III)I"⟩ : MethodName) (⟨"GreenHorseUpstairsModel", "lots", "(III)I"⟩ : MethodName)) ∈ gT := gk5 71 rfl rfl
theorem k1092 : (Cond.code (⟨"GreenHorseUpstairsModel", "lots", "(III)I"⟩ : MethodName) prog_6_method_78_code 7 (Option.some FieldType.int)) ∈ gT := gk5 72 rfl rfl
theorem k1093 : (Cond.methodLink "GreenHorseUpstairsModel" 216 (⟨"GreenHorseUpstairsModel", "drawn", "(I)I"⟩ : MethodName)) ∈ gT := gk5 73 rfl rfl
theorem k1095 : (Cond.instanceMethod (⟨"GreenHorseUpstairsModel", "drawn", "(I)I"⟩ : MethodName)) ∈ gT := gk5 75 rfl rfl
theorem k1096 : (Cond.code (⟨"GreenHorseUpstairsModel", "drawn", "(I)I"⟩ : MethodName) prog_6_method_77_code 2 (Option.some FieldType.int)) ∈ gT := gk5 76 rfl rfl
theorem k1097 : (Cond.constant "GreenHorseUpstairsModel" 213 (1664525 : Int32)) ∈ gT := gk5 77 rfl rfl
theorem k1098 : (Cond.constant "GreenHorseUpstairsModel" 214 (1013904223 : Int32)) ∈ gT := gk5 78 rfl rfl
theorem k1099 : (Cond.constant "GreenHorseUpstairsModel" 215 (2147483647 : Int32)) ∈ gT := gk5 79 rfl rfl
theorem k1100 : (Cond.methodLink "GreenHorseUpstairsLaw" 144 (⟨"GreenHorseUpstairsModel", "image", "()I"⟩ : MethodName)) ∈ gT := gk5 80 rfl rfl
theorem k1101 : (Cond.instanceMethod (⟨"GreenHorseUpstairsModel", "image", "()I"⟩ : MethodName)) ∈ gT := gk5 81 rfl rfl
theorem k1102 : (Cond.selects "GreenHorseUpstairsModel" (⟨"GreenHorseUpstairsModel", "image", "()I"⟩ : MethodName) (⟨"GreenHorseUpstairsModel", "image", "()I"⟩ : MethodName)) ∈ gT := gk5 82 rfl rfl
theorem k1103 : (Cond.code (⟨"GreenHorseUpstairsModel", "image", "()I"⟩ : MethodName) prog_6_method_79_code 1 (Option.some FieldType.int)) ∈ gT := gk5 83 rfl rfl
theorem k1104 : (Cond.methodLink "GreenHorseUpstairsLaw" 148 (⟨"GreenHorseUpstairsModel", "on", "()I"⟩ : MethodName)) ∈ gT := gk5 84 rfl rfl
theorem k1105 : (Cond.instanceMethod (⟨"GreenHorseUpstairsModel", "on", "()I"⟩ : MethodName)) ∈ gT := gk5 85 rfl rfl
theorem k1106 : (Cond.selects "GreenHorseUpstairsModel" (⟨"GreenHorseUpstairsModel", "on", "()I"⟩ : MethodName) (⟨"GreenHorseUpstairsModel", "on", "()I"⟩ : MethodName)) ∈ gT := gk5 86 rfl rfl
theorem k1107 : (Cond.code (⟨"GreenHorseUpstairsModel", "on", "()I"⟩ : MethodName) prog_6_method_80_code 1 (Option.some FieldType.int)) ∈ gT := gk5 87 rfl rfl
theorem k1108 : (Cond.methodLink "GreenHorseUpstairsLaw" 152 (⟨"GreenHorseUpstairsModel", "count", "(I)I"⟩ : MethodName)) ∈ gT := gk5 88 rfl rfl
theorem k1109 : (Cond.instanceMethod (⟨"GreenHorseUpstairsModel", "count", "(I)I"⟩ : MethodName)) ∈ gT := gk5 89 rfl rfl
theorem k1110 : (Cond.selects "GreenHorseUpstairsModel" (⟨"GreenHorseUpstairsModel", "count", "(I)I"⟩ : MethodName) (⟨"GreenHorseUpstairsModel", "count", "(I)I"⟩ : MethodName)) ∈ gT := gk5 90 rfl rfl
theorem k1111 : (Cond.code (⟨"GreenHorseUpstairsModel", "count", "(I)I"⟩ : MethodName) prog_6_method_81_code 5 (Option.some FieldType.int)) ∈ gT := gk5 91 rfl rfl
theorem k1112 : (Cond.fieldLink "java/lang/String" 15 "java/lang/String" "coder" "B") ∈ gT := gk5 92 rfl rfl
theorem k1113 : (Cond.fieldLink "java/lang/String" 9 "java/lang/String" "value" "[B") ∈ gT := gk5 93 rfl rfl
end
section
/-! my rows: the machine's ints as whole numbers, a row an instruction, contracts of three kinds -/
def iI (z : Int) : Int32 := Int32.ofInt z
abbrev gR (z : Int) : Prop := -2147483648 ≤ z ∧ z ≤ 2147483647
theorem iI_of (x : Int32) : iI x.toInt = x := Int32.ofInt_toInt x
theorem gR_toInt (x : Int32) : gR x.toInt := ⟨Int32.le_toInt x, Int.le_of_lt_add_one (Int32.toInt_lt x)⟩
theorem iI_toInt {z : Int} (h : gR z) : (iI z).toInt = z := Int32.toInt_ofInt_of_le h.1 (Int.lt_of_le_of_lt h.2 (by decide))
theorem iI_add (a b : Int) : iI a + iI b = iI (a + b) := (Int32.ofInt_add a b).symm
theorem iI_sub (a b : Int) : iI a - iI b = iI (a - b) := (Int32.ofInt_sub a b).symm
theorem iI_mul (a b : Int) : iI a * iI b = iI (a * b) := (Int32.ofInt_mul a b).symm
theorem iI_neg (a : Int) : - iI a = iI (-a) := (Int32.ofInt_neg a).symm
theorem iI_lt {a b : Int} (ha : gR a) (hb : gR b) : iI a < iI b ↔ a < b := by rw [Int32.lt_iff_toInt_lt, iI_toInt ha, iI_toInt hb]
theorem iI_le {a b : Int} (ha : gR a) (hb : gR b) : iI a ≤ iI b ↔ a ≤ b := by rw [Int32.le_iff_toInt_le, iI_toInt ha, iI_toInt hb]
theorem iI_eq {a b : Int} (ha : gR a) (hb : gR b) : iI a = iI b ↔ a = b := ⟨fun h => by have := congrArg Int32.toInt h; rwa [iI_toInt ha, iI_toInt hb] at this, fun h => by rw [h]⟩
theorem iI_clamp {a : Int} (h0 : 0 ≤ a) (h1 : a ≤ 2147483647) : (iI a).toNatClampNeg = a.toNat := by
  show (iI a).toInt.toNat = _
  rw [iI_toInt ⟨by omega, h1⟩]
theorem iI_nat (n : Nat) : Int32.ofNat n = iI (n : Int) := (Int32.ofInt_eq_ofNat).symm
theorem gR_0 : gR 0 := ⟨by decide, by decide⟩
theorem iI_in {a : Int} {n : Nat} (h : 0 ≤ a ∧ a < n) (hn : n < 2 ^ 31) : vp_in (iI a) n := by
  have hr : gR a := ⟨by omega, by omega⟩
  rintro (q | q)
  · rw [show (0 : Int32) = iI 0 from rfl, iI_lt hr gR_0] at q
    omega
  · rw [iI_clamp h.1 (by omega)] at q
    omega
theorem iI_div {a b : Int} (ha : 0 ≤ a ∧ a ≤ 2147483647) (hb : 0 < b ∧ b ≤ 2147483647) : iI a / iI b = iI (a / b) := by
  have h1 : iI (a.tdiv b) = iI a / iI b := Int32.ofInt_tdiv (by show (-2147483648 : Int) ≤ a; omega) (by show a ≤ (2147483647 : Int); omega) (by show (-2147483648 : Int) ≤ b; omega) (by show b ≤ (2147483647 : Int); omega)
  rw [← h1, Int.tdiv_eq_ediv_of_nonneg ha.1]
theorem iI_rem {a b : Int} (ha : 0 ≤ a ∧ a ≤ 2147483647) (hb : 0 < b ∧ b ≤ 2147483647) : iI a - iI a / iI b * iI b = iI (a % b) := by
  rw [iI_div ha hb, iI_mul, iI_sub]
  congr 1
  have := Int.emod_add_ediv_mul a b
  omega
theorem iI_ne0 {b : Int} (hb : 0 < b ∧ b ≤ 2147483647) : ¬ iI b = 0 := by
  rw [show (0 : Int32) = iI 0 from rfl, iI_eq ⟨by omega, hb.2⟩ gR_0]
  omega
def su (f : Int → Int) (i v : Int) : Int → Int := fun j => if j = i then v else f j
theorem su_upd {f : Int → Int} {i v : Int} (h : 0 ≤ i) (h2 : i ≤ 2147483647) : upd (fun j : Nat => iI (f (j : Int))) (iI i).toNatClampNeg (iI v) = fun j : Nat => iI (su f i v (j : Int)) := by
  rw [iI_clamp h h2]
  funext j
  show (if j = i.toNat then iI v else iI (f j)) = iI (if (j : Int) = i then v else f j)
  by_cases q : j = i.toNat
  · rw [if_pos q, if_pos (by omega)]
  · rw [if_neg q, if_neg (by omega)]
theorem iI_mask (a : Int) (n : Nat) (hn : n = 1 ∨ n = 3 ∨ n = 5 ∨ n = 6 ∨ n = 31) : iI a &&& iI (2 ^ n - 1) = iI (a % 2 ^ n) := by
  refine Int32.toBitVec.inj ?_
  show (BitVec.ofInt 32 a &&& BitVec.ofInt 32 (2 ^ n - 1)) = BitVec.ofInt 32 (a % 2 ^ n)
  refine BitVec.eq_of_toNat_eq ?_
  rw [BitVec.toNat_and, BitVec.toNat_ofInt, BitVec.toNat_ofInt, BitVec.toNat_ofInt]
  have h := Nat.and_two_pow_sub_one_eq_mod (a % ((2 ^ 32 : Nat) : Int)).toNat n
  have h2 : (((2 : Int) ^ n - 1) % ((2 ^ 32 : Nat) : Int)).toNat = 2 ^ n - 1 := by rcases hn with rfl | rfl | rfl | rfl | rfl <;> rfl
  rw [h2, h]
  rcases hn with rfl | rfl | rfl | rfl | rfl <;> omega
theorem iI_sh31 {k : Int} (hk : 0 ≤ k ∧ k ≤ 31) : ((iI k &&& 31).toBitVec.smod 32).toNat = k.toNat := by
  have h := iI_mask k 5 (by omega)
  rw [show iI (2 ^ 5 - 1) = (31 : Int32) from rfl] at h
  rw [h, show k % 2 ^ 5 = k by omega]
  obtain ⟨n, rfl⟩ := Int.eq_ofNat_of_zero_le hk.1
  have key : ∀ n : Nat, n < 32 → ((iI (n : Int)).toBitVec.smod 32).toNat = n := by decide +kernel
  exact key n (by omega)
theorem iI_shl {a k : Int} (hk : 0 ≤ k ∧ k ≤ 31) : iI a <<< (iI k &&& 31) = iI (a * 2 ^ k.toNat) := by
  refine Int32.toBitVec.inj ?_
  rw [Int32.toBitVec_shiftLeft, BitVec.shiftLeft_eq', iI_sh31 hk]
  show BitVec.ofInt 32 a <<< k.toNat = BitVec.ofInt 32 (a * 2 ^ k.toNat)
  refine BitVec.eq_of_toNat_eq ?_
  rw [BitVec.toNat_shiftLeft, BitVec.toNat_ofInt, BitVec.toNat_ofInt, Nat.shiftLeft_eq]
  refine Int.ofNat.inj ?_
  show (((a % ((2 ^ 32 : Nat) : Int)).toNat * 2 ^ k.toNat % 2 ^ 32 : Nat) : Int) = (((a * 2 ^ k.toNat) % ((2 ^ 32 : Nat) : Int)).toNat : Int)
  rw [Int.natCast_emod, Int.natCast_mul, Int.toNat_of_nonneg (Int.emod_nonneg _ (by decide)), Int.toNat_of_nonneg (Int.emod_nonneg _ (by decide)), Int.natCast_pow, Int.mul_emod, Int.emod_emod, ← Int.mul_emod]
  rfl
theorem iI_shr {a k : Int} (ha : gR a) (hk : 0 ≤ k ∧ k ≤ 31) : iI a >>> (iI k &&& 31) = iI (a / 2 ^ k.toNat) := by
  refine Int32.toInt_inj.mp ?_
  have hp : (0 : Int) < 2 ^ k.toNat := Int.pow_pos (by decide)
  have hb : gR (a / 2 ^ k.toNat) := by
    unfold gR at ha ⊢
    refine ⟨?_, ?_⟩
    · by_cases h : 0 ≤ a
      · have := Int.ediv_nonneg h (Int.le_of_lt hp)
        omega
      · have := Int.le_ediv_of_mul_le (a := -2147483648) (b := a) hp (by
          have : (-2147483648 : Int) * 2 ^ k.toNat ≤ -2147483648 * 1 := Int.mul_le_mul_of_nonpos_left (by decide) (by omega)
          omega)
        omega
    · by_cases h : 0 ≤ a
      · have := Int.ediv_le_self (2 ^ k.toNat) h
        omega
      · have := Int.ediv_neg_of_neg_of_pos (by omega : a < 0) hp
        omega
  rw [iI_toInt hb, ← Int32.toInt_toBitVec, Int32.toBitVec_shiftRight, BitVec.sshiftRight_eq', iI_sh31 hk, BitVec.toInt_sshiftRight, Int32.toInt_toBitVec, iI_toInt ha, Int.shiftRight_eq_div_pow]
  rw [Int.natCast_pow]
  rfl
def gor (a b : Int) : Int := ((a.toNat ||| b.toNat : Nat) : Int)
def gxor (a b : Int) : Int := ((a.toNat ^^^ b.toNat : Nat) : Int)
theorem iI_or {a b : Int} (ha : 0 ≤ a ∧ a ≤ 2147483647) (hb : 0 ≤ b ∧ b ≤ 2147483647) : iI a ||| iI b = iI (gor a b) := by
  refine Int32.toBitVec.inj ?_
  show (BitVec.ofInt 32 a ||| BitVec.ofInt 32 b) = BitVec.ofInt 32 (gor a b)
  refine BitVec.eq_of_toNat_eq ?_
  rw [BitVec.toNat_or, BitVec.toNat_ofInt, BitVec.toNat_ofInt, BitVec.toNat_ofInt]
  have h1 : (a % ((2 ^ 32 : Nat) : Int)).toNat = a.toNat := by omega
  have h2 : (b % ((2 ^ 32 : Nat) : Int)).toNat = b.toNat := by omega
  have h3 : a.toNat ||| b.toNat < 2 ^ 31 := Nat.or_lt_two_pow (by omega) (by omega)
  rw [h1, h2]
  unfold gor
  omega
theorem iI_xor {a b : Int} (ha : 0 ≤ a ∧ a ≤ 2147483647) (hb : 0 ≤ b ∧ b ≤ 2147483647) : iI a ^^^ iI b = iI (gxor a b) := by
  refine Int32.toBitVec.inj ?_
  show (BitVec.ofInt 32 a ^^^ BitVec.ofInt 32 b) = BitVec.ofInt 32 (gxor a b)
  refine BitVec.eq_of_toNat_eq ?_
  rw [BitVec.toNat_xor, BitVec.toNat_ofInt, BitVec.toNat_ofInt, BitVec.toNat_ofInt]
  have h1 : (a % ((2 ^ 32 : Nat) : Int)).toNat = a.toNat := by omega
  have h2 : (b % ((2 ^ 32 : Nat) : Int)).toNat = b.toNat := by omega
  have h3 : a.toNat ^^^ b.toNat < 2 ^ 31 := Nat.xor_lt_two_pow (by omega) (by omega)
  rw [h1, h2]
  unfold gxor
  omega
/-! worlds -/
def gA (cy : ClassId) (n : Nat) (f : Int → Int) : va_E := .inl (cy, n, .inl (fun j : Nat => iI (f (j : Int))))
def wT (y : MethodName) (cc : ByteArray) (n : Nat) (r : Option FieldType) : List Cond := .code y cc n r :: gT
def gPre (D : va_G) (cy : ClassId) (sz : Nat) (B : va_W) (U : State) : Prop := U.heap.size = sz ∧ va_P D vwCl B U.heap ∧ va_K D vwCl [(cy, .int)] U ∧ va_D (fun _ => True) B
def gPreR (D : va_G) (cy : ClassId) (sz : Nat) (B : va_W) (U : State) : Prop := U.heap.size = sz ∧ va_P D vwCl B U.heap ∧ va_K D vwCl [(cy, .int)] U
def gPo (D : va_G) (A : Nat → Prop) (B : va_W) (t : State) : Prop := va_P D vwCl B t.heap ∧ va_D A B
def MetR (l : Launch) (y : MethodName) (ws : List Cond) (rm : Room) (D : va_G) (cy : ClassId) (av : List Value) (B : va_W) (Q : Int → Prop) : Prop :=
  ∀ sz : Nat, Met l y ws rm (va_Pc av (gPreR D cy sz B)) (va_Qi (fun r (u : Int) => r = iI u ∧ Q u) (fun _ _ => True) (va_A [] sz)) 0 0 (va_A [] sz)
def MetV {S : Type} (l : Launch) (y : MethodName) (ws : List Cond) (rm : Room) (D : va_G) (cy : ClassId) (av : List Value) (B : va_W) (B' : S → va_W) (Q : S → Prop) : Prop :=
  ∀ sz : Nat, Met l y ws rm (va_Pc av (gPre D cy sz B)) (va_Qv Q (fun u t => gPo D (va_A B sz) (B' u) t) (va_A B sz)) 0 0 (va_A B sz)
def MetI {S : Type} (l : Launch) (y : MethodName) (ws : List Cond) (rm : Room) (D : va_G) (cy : ClassId) (av : List Value) (B : va_W) (B' : S → va_W) (Q : Int → S → Prop) : Prop :=
  ∀ sz : Nat, Met l y ws rm (va_Pc av (gPre D cy sz B)) (va_Qi (fun r (u : Int × S) => r = iI u.1 ∧ Q u.1 u.2) (fun u t => gPo D (va_A B sz) (B' u.2) t) (va_A B sz)) 0 0 (va_A B sz)
theorem gPre_blind {D : va_G} {cy : ClassId} {sz : Nat} {B : va_W} {av : List Value} : FrameBlind (va_Pc av (gPre D cy sz B)) := fun a U g mk q => by
  obtain ⟨q0, q1, qP, qK, qD⟩ := q
  exact ⟨q0, q1, qP, va_K.moved (u := U) (U := U.calling g mk a) (Vm.Alike.refl U.vm) qK, qD⟩
theorem gPreR_blind {D : va_G} {cy : ClassId} {sz : Nat} {B : va_W} {av : List Value} : FrameBlind (va_Pc av (gPreR D cy sz B)) := fun a U g mk q => by
  obtain ⟨q0, q1, qP, qK⟩ := q
  exact ⟨q0, q1, qP, va_K.moved (u := U) (U := U.calling g mk a) (Vm.Alike.refl U.vm) qK⟩
set_option maxHeartbeats 1000000 in
theorem gI_R {l : Launch} {y : MethodName} {D : va_G} {cy : ClassId} {av : List Value} {B : va_W} {cc : ByteArray} {maxL : Nat} {rt : FieldType} {rm : Room} {Q : Int → Prop} (hy : plainName y.cls = true) (hlen : (lg_sl av).length ≤ maxL)
    (body : ∀ (p : Program) (e : Env) (s : State) (m : MethodId) (args : Array Value) (below : List Frame) (meth : Method) (c : Code) (A : Nat → Prop) (Qg : State → Prop), CallFix p m c cc maxL s args gT y.cls → va_K D vwCl [(cy, .int)] s → (∀ q : Nat, s.heap.size ≤ q → A q) →
      (∀ (u : Int) (H : Heap) (locs : List Loc) (pc : Nat) (ls : Array Slot), Q u → narrow rt (.int (iI u)) = .int (iI u) → va_S A s.heap H locs → decode cc pc = .ok (.ireturn, 1) → W p l e rm s m args below meth c H locs 0 0 Qg (F0 m pc ls [.int (iI u)])) →
      ∀ (H : Heap) (locs : List Loc) (ls : Array Slot), lv_has ls maxL (lv_args 0 av) → va_P D vwCl B H → va_S A s.heap H locs → W p l e rm s m args below meth c H locs 0 0 Qg (F0 m 0 ls [])) : MetR l y (wT y cc maxL (some rt)) rm D cy av B Q := by
  intro sz
  refine Met.ofW (cc := cc) (maxL := maxL) (ret := some rt) hy rfl ?_
  intro p e s m args below meth c s₁ X hml hv
  obtain ⟨rfl, hsz, hP, hK⟩ := hv
  subst hsz
  have F : CallFix p m c cc maxL s av.toArray gT y.cls := ⟨X.exec, X.bytes, hml, findClass_of_methodNamed X.named, fun w hw => atoms_spec (ws := wT y cc maxL (some rt)) X.pre w (List.mem_cons_of_mem _ hw)⟩
  have hr := X.returns
  have hlocks := X.notSynchronized
  rw [lg_entry_eq]
  refine body p e s m av.toArray below meth c (va_A [] s.heap.size) _ F hK (fun q h => Or.inr h) ?_ s.heap [] _ (lv_entry av hlen) hP va_S.rf
  intro u H locs pc ls hu hn hS hdg
  exact W.zret F.1 F.2.1 hr hn (fun t ht hW => ⟨⟨iI u, u, rfl, ⟨rfl, hu⟩, trivial⟩, hS.F ht⟩) hS.2.2 hdg
set_option maxHeartbeats 1000000 in
theorem gI_V {S : Type} {l : Launch} {y : MethodName} {D : va_G} {cy : ClassId} {av : List Value} {B : va_W} {B' : S → va_W} {cc : ByteArray} {maxL : Nat} {rm : Room} {Q : S → Prop} (hy : plainName y.cls = true) (hlen : (lg_sl av).length ≤ maxL)
    (body : ∀ (p : Program) (e : Env) (s : State) (m : MethodId) (args : Array Value) (below : List Frame) (meth : Method) (c : Code) (A : Nat → Prop) (Qg : State → Prop), CallFix p m c cc maxL s args gT y.cls → va_K D vwCl [(cy, .int)] s → (∀ q : Nat, s.heap.size ≤ q → A q) →
      (∀ (u : S) (H : Heap) (locs : List Loc) (pc : Nat) (ls : Array Slot), Q u → va_P D vwCl (B' u) H → va_D A (B' u) → va_S A s.heap H locs → decode cc pc = .ok (.return_, 1) → W p l e rm s m args below meth c H locs 0 0 Qg (F0 m pc ls [])) →
      ∀ (H : Heap) (locs : List Loc) (ls : Array Slot), lv_has ls maxL (lv_args 0 av) → va_P D vwCl B H → va_D A B → va_S A s.heap H locs → W p l e rm s m args below meth c H locs 0 0 Qg (F0 m 0 ls [])) : MetV l y (wT y cc maxL none) rm D cy av B B' Q := by
  intro sz
  refine Met.ofW (cc := cc) (maxL := maxL) (ret := none) hy rfl ?_
  intro p e s m args below meth c s₁ X hml hv
  obtain ⟨rfl, hsz, hP, hK, hD0⟩ := hv
  subst hsz
  have F : CallFix p m c cc maxL s av.toArray gT y.cls := ⟨X.exec, X.bytes, hml, findClass_of_methodNamed X.named, fun w hw => atoms_spec (ws := wT y cc maxL none) X.pre w (List.mem_cons_of_mem _ hw)⟩
  have hr := X.returns
  have hlocks := X.notSynchronized
  rw [lg_entry_eq]
  refine body p e s m av.toArray below meth c (va_A B s.heap.size) _ F hK (fun q h => Or.inr h) ?_ s.heap [] _ (lv_entry av hlen) hP hD0.self va_S.rf
  intro u H locs pc ls hu hP1 hD1 hS hdg
  exact W.vret F.1 F.2.1 hr (fun t ht hW => ⟨⟨u, rfl, hu, by refine ⟨?_, hD1⟩; rw [ht]; exact hP1⟩, hS.F ht⟩) hS.2.2 hdg
set_option maxHeartbeats 1000000 in
theorem gI_I {S : Type} {l : Launch} {y : MethodName} {D : va_G} {cy : ClassId} {av : List Value} {B : va_W} {B' : S → va_W} {cc : ByteArray} {maxL : Nat} {rt : FieldType} {rm : Room} {Q : Int → S → Prop} (hy : plainName y.cls = true) (hlen : (lg_sl av).length ≤ maxL)
    (body : ∀ (p : Program) (e : Env) (s : State) (m : MethodId) (args : Array Value) (below : List Frame) (meth : Method) (c : Code) (A : Nat → Prop) (Qg : State → Prop), CallFix p m c cc maxL s args gT y.cls → va_K D vwCl [(cy, .int)] s → (∀ q : Nat, s.heap.size ≤ q → A q) →
      (∀ (r : Int) (u : S) (H : Heap) (locs : List Loc) (pc : Nat) (ls : Array Slot), Q r u → narrow rt (.int (iI r)) = .int (iI r) → va_P D vwCl (B' u) H → va_D A (B' u) → va_S A s.heap H locs → decode cc pc = .ok (.ireturn, 1) → W p l e rm s m args below meth c H locs 0 0 Qg (F0 m pc ls [.int (iI r)])) →
      ∀ (H : Heap) (locs : List Loc) (ls : Array Slot), lv_has ls maxL (lv_args 0 av) → va_P D vwCl B H → va_D A B → va_S A s.heap H locs → W p l e rm s m args below meth c H locs 0 0 Qg (F0 m 0 ls [])) : MetI l y (wT y cc maxL (some rt)) rm D cy av B B' Q := by
  intro sz
  refine Met.ofW (cc := cc) (maxL := maxL) (ret := some rt) hy rfl ?_
  intro p e s m args below meth c s₁ X hml hv
  obtain ⟨rfl, hsz, hP, hK, hD0⟩ := hv
  subst hsz
  have F : CallFix p m c cc maxL s av.toArray gT y.cls := ⟨X.exec, X.bytes, hml, findClass_of_methodNamed X.named, fun w hw => atoms_spec (ws := wT y cc maxL (some rt)) X.pre w (List.mem_cons_of_mem _ hw)⟩
  have hr := X.returns
  have hlocks := X.notSynchronized
  rw [lg_entry_eq]
  refine body p e s m av.toArray below meth c (va_A B s.heap.size) _ F hK (fun q h => Or.inr h) ?_ s.heap [] _ (lv_entry av hlen) hP hD0.self va_S.rf
  intro r u H locs pc ls hu hn hP1 hD1 hS hdg
  exact W.zret F.1 F.2.1 hr hn (fun t ht hW => ⟨⟨iI r, (r, u), rfl, ⟨rfl, hu⟩, by refine ⟨?_, hD1⟩; rw [ht]; exact hP1⟩, hS.F ht⟩) hS.2.2 hdg
section GV
variable {p : Program} {l : Launch} {e : Env} {R : Room} {s : State} {m : MethodId} {args : Array Value} {below : List Frame} {meth : Method} {c : Code} {H : Heap} {locs : List Loc} {cells slots : Nat} {Q : State → Prop}
variable {cc : ByteArray} {nL : Nat} {own : String} {pc : Nat} {ls : Array Slot} {rest : List Value} {D : va_G} {cy : ClassId} {A : Nat → Prop} {H0 : Heap} {ws : va_W}
theorem gv_name {a : Int} (k : ∀ x : Int, x = a → W p l e R s m args below meth c H locs cells slots Q (F0 m pc ls (.int (iI x) :: rest))) : W p l e R s m args below meth c H locs cells slots Q (F0 m pc ls (.int (iI a) :: rest)) := k a rfl
theorem gv_iconst (F : CallFix p m c cc nL s args gT own) {n : Int} (hdg : decode cc pc = .ok (.iconst n, 1)) (k : W p l e R s m args below meth c H locs cells slots Q (F0 m (pc + 1) ls (.int (iI n) :: rest))) : W p l e R s m args below meth c H locs cells slots Q (F0 m pc ls rest) := lv_iconst F.1 F.2.1 hdg rfl k
theorem gv_bipush (F : CallFix p m c cc nL s args gT own) {n : Int} (hn : -128 ≤ n ∧ n ≤ 127) (hdg : decode cc pc = .ok (.bipush n, 2)) (k : W p l e R s m args below meth c H locs cells slots Q (F0 m (pc + 2) ls (.int (iI n) :: rest))) : W p l e R s m args below meth c H locs cells slots Q (F0 m pc ls rest) := lv_bipush F.1 F.2.1 hdg (by rw [← Int32.ofInt_int8ToInt, Int8.toInt_ofInt_of_le (by omega) (by omega)]; rfl) k
theorem gv_sipush (F : CallFix p m c cc nL s args gT own) {n : Int} (hn : -32768 ≤ n ∧ n ≤ 32767) (hdg : decode cc pc = .ok (.sipush n, 3)) (k : W p l e R s m args below meth c H locs cells slots Q (F0 m (pc + 3) ls (.int (iI n) :: rest))) : W p l e R s m args below meth c H locs cells slots Q (F0 m pc ls rest) := lv_sipush F.1 F.2.1 hdg (by rw [← Int32.ofInt_int16ToInt, Int16.toInt_ofInt_of_le (by omega) (by omega)]; rfl) k
theorem gv_ldc (F : CallFix p m c cc nL s args gT own) {n : Int} {v : Int32} {idx : Nat} (hw : Cond.constant own idx v ∈ gT) (hv : v = iI n) (hdg : decode cc pc = .ok (.ldc idx, 2)) (k : W p l e R s m args below meth c H locs cells slots Q (F0 m (pc + 2) ls (.int (iI n) :: rest))) : W p l e R s m args below meth c H locs cells slots Q (F0 m pc ls rest) := lv_ldc F.1 F.2.1 F.2.2.2.1 (F.2.2.2.2 _ hw) hdg (by rw [hv]; exact k)
theorem gv_ldcw (F : CallFix p m c cc nL s args gT own) {n : Int} {v : Int32} {idx : Nat} (hw : Cond.constant own idx v ∈ gT) (hv : v = iI n) (hdg : decode cc pc = .ok (.ldc_w idx, 3)) (k : W p l e R s m args below meth c H locs cells slots Q (F0 m (pc + 3) ls (.int (iI n) :: rest))) : W p l e R s m args below meth c H locs cells slots Q (F0 m pc ls rest) := lv_ldcw F.1 F.2.1 F.2.2.2.1 (F.2.2.2.2 _ hw) hdg (by rw [hv]; exact k)
theorem gv_iadd (F : CallFix p m c cc nL s args gT own) {a b : Int} (hdg : decode cc pc = .ok (.iadd, 1)) (k : W p l e R s m args below meth c H locs cells slots Q (F0 m (pc + 1) ls (.int (iI (a + b)) :: rest))) : W p l e R s m args below meth c H locs cells slots Q (F0 m pc ls (.int (iI b) :: .int (iI a) :: rest)) := lv_iadd F.1 F.2.1 hdg (by rw [iI_add a b]; exact k)
theorem gv_isub (F : CallFix p m c cc nL s args gT own) {a b : Int} (hdg : decode cc pc = .ok (.isub, 1)) (k : W p l e R s m args below meth c H locs cells slots Q (F0 m (pc + 1) ls (.int (iI (a - b)) :: rest))) : W p l e R s m args below meth c H locs cells slots Q (F0 m pc ls (.int (iI b) :: .int (iI a) :: rest)) := lv_isub F.1 F.2.1 hdg (by rw [iI_sub a b]; exact k)
theorem gv_imul (F : CallFix p m c cc nL s args gT own) {a b : Int} (hdg : decode cc pc = .ok (.imul, 1)) (k : W p l e R s m args below meth c H locs cells slots Q (F0 m (pc + 1) ls (.int (iI (a * b)) :: rest))) : W p l e R s m args below meth c H locs cells slots Q (F0 m pc ls (.int (iI b) :: .int (iI a) :: rest)) := lv_imul F.1 F.2.1 hdg (by rw [iI_mul a b]; exact k)
theorem gv_ineg (F : CallFix p m c cc nL s args gT own) {a : Int} (hdg : decode cc pc = .ok (.ineg, 1)) (k : W p l e R s m args below meth c H locs cells slots Q (F0 m (pc + 1) ls (.int (iI (-a)) :: rest))) : W p l e R s m args below meth c H locs cells slots Q (F0 m pc ls (.int (iI a) :: rest)) := lv_ineg F.1 F.2.1 hdg (by rw [iI_neg]; exact k)
theorem gv_idiv (F : CallFix p m c cc nL s args gT own) {a b : Int} (hc : (0 ≤ a ∧ a ≤ 2147483647) ∧ 0 < b ∧ b ≤ 2147483647) (hdg : decode cc pc = .ok (.idiv, 1)) (k : W p l e R s m args below meth c H locs cells slots Q (F0 m (pc + 1) ls (.int (iI (a / b)) :: rest))) : W p l e R s m args below meth c H locs cells slots Q (F0 m pc ls (.int (iI b) :: .int (iI a) :: rest)) := lv_idiv F.1 F.2.1 hdg (iI_ne0 hc.2) (by rw [iI_div hc.1 hc.2]; exact k)
theorem gv_irem (F : CallFix p m c cc nL s args gT own) {a b : Int} (hc : (0 ≤ a ∧ a ≤ 2147483647) ∧ 0 < b ∧ b ≤ 2147483647) (hdg : decode cc pc = .ok (.irem, 1)) (k : W p l e R s m args below meth c H locs cells slots Q (F0 m (pc + 1) ls (.int (iI (a % b)) :: rest))) : W p l e R s m args below meth c H locs cells slots Q (F0 m pc ls (.int (iI b) :: .int (iI a) :: rest)) := lv_irem F.1 F.2.1 hdg (iI_ne0 hc.2) (by rw [iI_rem hc.1 hc.2]; exact k)
theorem gv_ishl (F : CallFix p m c cc nL s args gT own) {a b : Int} (hc : 0 ≤ b ∧ b ≤ 31) (hdg : decode cc pc = .ok (.ishl, 1)) (k : W p l e R s m args below meth c H locs cells slots Q (F0 m (pc + 1) ls (.int (iI (a * 2 ^ b.toNat)) :: rest))) : W p l e R s m args below meth c H locs cells slots Q (F0 m pc ls (.int (iI b) :: .int (iI a) :: rest)) := lv_ishl F.1 F.2.1 hdg (by rw [iI_shl hc]; exact k)
theorem gv_ishr (F : CallFix p m c cc nL s args gT own) {a b : Int} (ha : gR a) (hc : 0 ≤ b ∧ b ≤ 31) (hdg : decode cc pc = .ok (.ishr, 1)) (k : W p l e R s m args below meth c H locs cells slots Q (F0 m (pc + 1) ls (.int (iI (a / 2 ^ b.toNat)) :: rest))) : W p l e R s m args below meth c H locs cells slots Q (F0 m pc ls (.int (iI b) :: .int (iI a) :: rest)) := lv_ishr F.1 F.2.1 hdg (by rw [iI_shr ha hc]; exact k)
theorem gv_iand (F : CallFix p m c cc nL s args gT own) {a b : Int} (n : Nat) (hn : n = 1 ∨ n = 3 ∨ n = 5 ∨ n = 6 ∨ n = 31) (hb : b = 2 ^ n - 1) (hdg : decode cc pc = .ok (.iand, 1)) (k : W p l e R s m args below meth c H locs cells slots Q (F0 m (pc + 1) ls (.int (iI (a % (b + 1))) :: rest))) : W p l e R s m args below meth c H locs cells slots Q (F0 m pc ls (.int (iI b) :: .int (iI a) :: rest)) := lv_iand F.1 F.2.1 hdg (by subst hb; rw [iI_mask a n hn]; rw [Int.sub_add_cancel] at k; exact k)
theorem gv_ior (F : CallFix p m c cc nL s args gT own) {a b : Int} (hc : (0 ≤ a ∧ a ≤ 2147483647) ∧ 0 ≤ b ∧ b ≤ 2147483647) (hdg : decode cc pc = .ok (.ior, 1)) (k : W p l e R s m args below meth c H locs cells slots Q (F0 m (pc + 1) ls (.int (iI (gor a b)) :: rest))) : W p l e R s m args below meth c H locs cells slots Q (F0 m pc ls (.int (iI b) :: .int (iI a) :: rest)) := lv_ior F.1 F.2.1 hdg (by rw [iI_or hc.1 hc.2]; exact k)
theorem gv_ixor (F : CallFix p m c cc nL s args gT own) {a b : Int} (hc : (0 ≤ a ∧ a ≤ 2147483647) ∧ 0 ≤ b ∧ b ≤ 2147483647) (hdg : decode cc pc = .ok (.ixor, 1)) (k : W p l e R s m args below meth c H locs cells slots Q (F0 m (pc + 1) ls (.int (iI (gxor a b)) :: rest))) : W p l e R s m args below meth c H locs cells slots Q (F0 m pc ls (.int (iI b) :: .int (iI a) :: rest)) := lv_ixor F.1 F.2.1 hdg (by rw [iI_xor hc.1 hc.2]; exact k)
theorem gv_iinc (F : CallFix p m c cc nL s args gT own) {i k : Nat} {n a x : Int} {lv lv' : List (Nat × Value)} (hdg : decode cc pc = .ok (.iinc i n, 3)) (h : lv_has ls nL lv) (hk : lv[k]? = some (i, .int (iI a))) (hx : x = a + n) (hn : i < nL) (hl : (i, Value.int (iI x)) :: lv.filter (fun q => !(q.1 == i) && !(q.1 + 1 == i && q.2.category == 2)) = lv')
    (kk : ∀ ls' : Array Slot, lv_has ls' nL lv' → W p l e R s m args below meth c H locs cells slots Q (F0 m (pc + 3) ls' rest)) : W p l e R s m args below meth c H locs cells slots Q (F0 m pc ls rest) := lv_iinc F.1 F.2.1 hdg h hk (by rw [hx]; exact iI_add a n) hn hl kk
theorem gv_icmp_eq (F : CallFix p m c cc nL s args gT own) {a b : Int} (ha : gR a) (hb : gR b) {off : Int} {tgt : Nat} (hdg : decode cc pc = .ok (.if_icmp .eq off, 3)) (ht : (pc : Int) + off = (tgt : Int))
    (kt : a = b → W p l e R s m args below meth c H locs cells slots Q (F0 m tgt ls rest)) (kf : ¬ a = b → W p l e R s m args below meth c H locs cells slots Q (F0 m (pc + 3) ls rest)) : W p l e R s m args below meth c H locs cells slots Q (F0 m pc ls (.int (iI b) :: .int (iI a) :: rest)) := lv_icmp_eq F.1 F.2.1 hdg ht (fun h => kt ((iI_eq ha hb).mp h)) (fun h => kf ((not_congr (iI_eq ha hb)).mp h))
theorem gv_icmp_ne (F : CallFix p m c cc nL s args gT own) {a b : Int} (ha : gR a) (hb : gR b) {off : Int} {tgt : Nat} (hdg : decode cc pc = .ok (.if_icmp .ne off, 3)) (ht : (pc : Int) + off = (tgt : Int))
    (kt : ¬ a = b → W p l e R s m args below meth c H locs cells slots Q (F0 m tgt ls rest)) (kf : a = b → W p l e R s m args below meth c H locs cells slots Q (F0 m (pc + 3) ls rest)) : W p l e R s m args below meth c H locs cells slots Q (F0 m pc ls (.int (iI b) :: .int (iI a) :: rest)) := lv_icmp_ne F.1 F.2.1 hdg ht (fun h => kt ((not_congr (iI_eq ha hb)).mp h)) (fun h => kf ((iI_eq ha hb).mp h))
theorem gv_icmp_lt (F : CallFix p m c cc nL s args gT own) {a b : Int} (ha : gR a) (hb : gR b) {off : Int} {tgt : Nat} (hdg : decode cc pc = .ok (.if_icmp .lt off, 3)) (ht : (pc : Int) + off = (tgt : Int))
    (kt : a < b → W p l e R s m args below meth c H locs cells slots Q (F0 m tgt ls rest)) (kf : ¬ a < b → W p l e R s m args below meth c H locs cells slots Q (F0 m (pc + 3) ls rest)) : W p l e R s m args below meth c H locs cells slots Q (F0 m pc ls (.int (iI b) :: .int (iI a) :: rest)) := lv_icmp_lt F.1 F.2.1 hdg ht (fun h => kt ((iI_lt ha hb).mp h)) (fun h => kf ((not_congr (iI_lt ha hb)).mp h))
theorem gv_icmp_ge (F : CallFix p m c cc nL s args gT own) {a b : Int} (ha : gR a) (hb : gR b) {off : Int} {tgt : Nat} (hdg : decode cc pc = .ok (.if_icmp .ge off, 3)) (ht : (pc : Int) + off = (tgt : Int))
    (kt : b ≤ a → W p l e R s m args below meth c H locs cells slots Q (F0 m tgt ls rest)) (kf : ¬ b ≤ a → W p l e R s m args below meth c H locs cells slots Q (F0 m (pc + 3) ls rest)) : W p l e R s m args below meth c H locs cells slots Q (F0 m pc ls (.int (iI b) :: .int (iI a) :: rest)) := lv_icmp_ge F.1 F.2.1 hdg ht (fun h => kt ((iI_le hb ha).mp h)) (fun h => kf ((not_congr (iI_le hb ha)).mp h))
theorem gv_icmp_gt (F : CallFix p m c cc nL s args gT own) {a b : Int} (ha : gR a) (hb : gR b) {off : Int} {tgt : Nat} (hdg : decode cc pc = .ok (.if_icmp .gt off, 3)) (ht : (pc : Int) + off = (tgt : Int))
    (kt : b < a → W p l e R s m args below meth c H locs cells slots Q (F0 m tgt ls rest)) (kf : ¬ b < a → W p l e R s m args below meth c H locs cells slots Q (F0 m (pc + 3) ls rest)) : W p l e R s m args below meth c H locs cells slots Q (F0 m pc ls (.int (iI b) :: .int (iI a) :: rest)) := lv_icmp_gt F.1 F.2.1 hdg ht (fun h => kt ((iI_lt hb ha).mp h)) (fun h => kf ((not_congr (iI_lt hb ha)).mp h))
theorem gv_icmp_le (F : CallFix p m c cc nL s args gT own) {a b : Int} (ha : gR a) (hb : gR b) {off : Int} {tgt : Nat} (hdg : decode cc pc = .ok (.if_icmp .le off, 3)) (ht : (pc : Int) + off = (tgt : Int))
    (kt : a ≤ b → W p l e R s m args below meth c H locs cells slots Q (F0 m tgt ls rest)) (kf : ¬ a ≤ b → W p l e R s m args below meth c H locs cells slots Q (F0 m (pc + 3) ls rest)) : W p l e R s m args below meth c H locs cells slots Q (F0 m pc ls (.int (iI b) :: .int (iI a) :: rest)) := lv_icmp_le F.1 F.2.1 hdg ht (fun h => kt ((iI_le ha hb).mp h)) (fun h => kf ((not_congr (iI_le ha hb)).mp h))
theorem gv_if_eq (F : CallFix p m c cc nL s args gT own) {a : Int} (ha : gR a) {off : Int} {tgt : Nat} (hdg : decode cc pc = .ok (.ifCond .eq off, 3)) (ht : (pc : Int) + off = (tgt : Int))
    (kt : a = 0 → W p l e R s m args below meth c H locs cells slots Q (F0 m tgt ls rest)) (kf : ¬ a = 0 → W p l e R s m args below meth c H locs cells slots Q (F0 m (pc + 3) ls rest)) : W p l e R s m args below meth c H locs cells slots Q (F0 m pc ls (.int (iI a) :: rest)) := lv_if_eq F.1 F.2.1 hdg ht (fun h => kt ((iI_eq ha gR_0).mp h)) (fun h => kf ((not_congr (iI_eq ha gR_0)).mp h))
theorem gv_if_ne (F : CallFix p m c cc nL s args gT own) {a : Int} (ha : gR a) {off : Int} {tgt : Nat} (hdg : decode cc pc = .ok (.ifCond .ne off, 3)) (ht : (pc : Int) + off = (tgt : Int))
    (kt : ¬ a = 0 → W p l e R s m args below meth c H locs cells slots Q (F0 m tgt ls rest)) (kf : a = 0 → W p l e R s m args below meth c H locs cells slots Q (F0 m (pc + 3) ls rest)) : W p l e R s m args below meth c H locs cells slots Q (F0 m pc ls (.int (iI a) :: rest)) := lv_if_ne F.1 F.2.1 hdg ht (fun h => kt ((not_congr (iI_eq ha gR_0)).mp h)) (fun h => kf ((iI_eq ha gR_0).mp h))
theorem gv_if_lt (F : CallFix p m c cc nL s args gT own) {a : Int} (ha : gR a) {off : Int} {tgt : Nat} (hdg : decode cc pc = .ok (.ifCond .lt off, 3)) (ht : (pc : Int) + off = (tgt : Int))
    (kt : a < 0 → W p l e R s m args below meth c H locs cells slots Q (F0 m tgt ls rest)) (kf : ¬ a < 0 → W p l e R s m args below meth c H locs cells slots Q (F0 m (pc + 3) ls rest)) : W p l e R s m args below meth c H locs cells slots Q (F0 m pc ls (.int (iI a) :: rest)) := lv_if_lt F.1 F.2.1 hdg ht (fun h => kt ((iI_lt ha gR_0).mp h)) (fun h => kf ((not_congr (iI_lt ha gR_0)).mp h))
theorem gv_if_ge (F : CallFix p m c cc nL s args gT own) {a : Int} (ha : gR a) {off : Int} {tgt : Nat} (hdg : decode cc pc = .ok (.ifCond .ge off, 3)) (ht : (pc : Int) + off = (tgt : Int))
    (kt : 0 ≤ a → W p l e R s m args below meth c H locs cells slots Q (F0 m tgt ls rest)) (kf : ¬ 0 ≤ a → W p l e R s m args below meth c H locs cells slots Q (F0 m (pc + 3) ls rest)) : W p l e R s m args below meth c H locs cells slots Q (F0 m pc ls (.int (iI a) :: rest)) := lv_if_ge F.1 F.2.1 hdg ht (fun h => kt ((iI_le gR_0 ha).mp h)) (fun h => kf ((not_congr (iI_le gR_0 ha)).mp h))
theorem gv_if_gt (F : CallFix p m c cc nL s args gT own) {a : Int} (ha : gR a) {off : Int} {tgt : Nat} (hdg : decode cc pc = .ok (.ifCond .gt off, 3)) (ht : (pc : Int) + off = (tgt : Int))
    (kt : 0 < a → W p l e R s m args below meth c H locs cells slots Q (F0 m tgt ls rest)) (kf : ¬ 0 < a → W p l e R s m args below meth c H locs cells slots Q (F0 m (pc + 3) ls rest)) : W p l e R s m args below meth c H locs cells slots Q (F0 m pc ls (.int (iI a) :: rest)) := lv_if_gt F.1 F.2.1 hdg ht (fun h => kt ((iI_lt gR_0 ha).mp h)) (fun h => kf ((not_congr (iI_lt gR_0 ha)).mp h))
theorem gv_if_le (F : CallFix p m c cc nL s args gT own) {a : Int} (ha : gR a) {off : Int} {tgt : Nat} (hdg : decode cc pc = .ok (.ifCond .le off, 3)) (ht : (pc : Int) + off = (tgt : Int))
    (kt : a ≤ 0 → W p l e R s m args below meth c H locs cells slots Q (F0 m tgt ls rest)) (kf : ¬ a ≤ 0 → W p l e R s m args below meth c H locs cells slots Q (F0 m (pc + 3) ls rest)) : W p l e R s m args below meth c H locs cells slots Q (F0 m pc ls (.int (iI a) :: rest)) := lv_if_le F.1 F.2.1 hdg ht (fun h => kt ((iI_le ha gR_0).mp h)) (fun h => kf ((not_congr (iI_le ha gR_0)).mp h))
theorem gv_iald (F : CallFix p m c cc nL s args gT own) (hK : va_K D vwCl [(cy, .int)] s) (hP : va_P D vwCl ws H) (q0 : Nat) {a : Nat} {n : Nat} {g : Int → Int} {i N : Int} (ha : ws[q0]? = some (a, gA cy n g)) (hN : (n : Int) = N) (hn : n < 2 ^ 31) (hi : 0 ≤ i ∧ i < N) (hdg : decode cc pc = .ok (.iaload, 1))
    (k : W p l e R s m args below meth c H locs cells slots Q (F0 m (pc + 1) ls (.int (iI (g i)) :: rest))) : W p l e R s m args below meth c H locs cells slots Q (F0 m pc ls (.int (iI i) :: .ref a :: rest)) := by
  refine va_iald F.1 F.2.1 hK hP q0 0 (f := fun j : Nat => iI (g (j : Int))) ha rfl (iI_in (n := n) (by omega) hn) hdg ?_
  rw [iI_clamp hi.1 (by omega)]
  show W p l e R s m args below meth c H locs cells slots Q (F0 m (pc + 1) ls (.int (iI (g ((i.toNat : Nat) : Int))) :: rest))
  rw [Int.toNat_of_nonneg hi.1]
  exact k
theorem gv_iast (F : CallFix p m c cc nL s args gT own) (hK : va_K D vwCl [(cy, .int)] s) (hP : va_P D vwCl ws H) (hD : va_D A ws) (hS : va_S A H0 H locs) (q0 : Nat) {a : Nat} {n : Nat} {g : Int → Int} {i v N : Int} {ws' : va_W} (ha : ws[q0]? = some (a, gA cy n g)) (hN : (n : Int) = N) (hn : n < 2 ^ 31) (hi : 0 ≤ i ∧ i < N) (heq : ws.set q0 (a, gA cy n (su g i v)) = ws') (hdg : decode cc pc = .ok (.iastore, 1))
    (k : ∀ (H : Heap) (locs : List Loc), va_P D vwCl ws' H → va_D A ws' → va_S A H0 H locs → W p l e R s m args below meth c H locs cells slots Q (F0 m (pc + 1) ls rest)) : W p l e R s m args below meth c H locs cells slots Q (F0 m pc ls (.int (iI v) :: .int (iI i) :: .ref a :: rest)) := by
  refine va_iast F.1 F.2.1 hK hP hD hS q0 0 (f := fun j : Nat => iI (g (j : Int))) ha rfl (iI_in (n := n) (by omega) hn) hdg (fun H1 locs1 hP1 hD1 hS1 => ?_)
  rw [su_upd hi.1 (by omega)] at hP1 hD1
  subst heq
  exact k H1 locs1 hP1 hD1 hS1
theorem gv_alen (F : CallFix p m c cc nL s args gT own) (hK : va_K D vwCl [(cy, .int)] s) (hP : va_P D vwCl ws H) (q0 : Nat) {a : Nat} {n : Nat} {g : Int → Int} {N : Int} (ha : ws[q0]? = some (a, gA cy n g)) (hN : (n : Int) = N) (hdg : decode cc pc = .ok (.arraylength, 1))
    (k : W p l e R s m args below meth c H locs cells slots Q (F0 m (pc + 1) ls (.int (iI N) :: rest))) : W p l e R s m args below meth c H locs cells slots Q (F0 m pc ls (.ref a :: rest)) := va_alen F.1 F.2.1 hK hP q0 0 (ty := .int) ha rfl (by rw [← hN]; exact iI_nat n) hdg k
theorem gv_get (F : CallFix p m c cc nL s args gT own) {C : String} {T : u_T} {N ci idx : Nat} {tys : List (ClassId × FieldType)} (hin : ∀ w ∈ u_ws C T N, w ∈ gT) (hK : va_K D vwCl tys s) (hP : va_P D vwCl ws H) (q0 : Nat) {a : Nat} {fs : List Value} {v : Value} (he : ws[q0]? = some (a, .inr (ci, fs))) (hc : vwCl[ci]? = some (C, T, N)) (k : Nat) (hk : k < N) (hlink : Cond.fieldLink own idx (T k).1 (T k).2.1 (T k).2.2.1 ∈ gT) (hv : fs[k]? = some v) (hdg : decode cc pc = .ok (.getfield idx, 3))
    (kk : W p l e R s m args below meth c H locs cells slots Q (F0 m (pc + 3) ls (v :: rest))) : W p l e R s m args below meth c H locs cells slots Q (F0 m pc ls (.ref a :: rest)) := va_get F.1 F.2.1 F.2.2.2.2 hin F.2.2.2.1 hK hP q0 he hc k hk (F.2.2.2.2 _ hlink) (fun _ h => h) hv hdg kk
theorem gv_put (F : CallFix p m c cc nL s args gT own) {C : String} {T : u_T} {N ci idx : Nat} {tys : List (ClassId × FieldType)} (hin : ∀ w ∈ u_ws C T N, w ∈ gT) (ty0 : Nat → FieldType) (hty : ∀ k, k < N → parseFieldDescriptor (T k).2.2.1 = some (ty0 k)) (hnm : ∀ a, a < N → ∀ b, b < N → a ≠ b → (T a).2.1 ≠ (T b).2.1) (hK : va_K D vwCl tys s) (hP : va_P D vwCl ws H) (hD : va_D A ws) (hS : va_S A H0 H locs) (q0 : Nat) {a : Nat} {fs : List Value} {v : Value} {ws' : va_W} (he : ws[q0]? = some (a, .inr (ci, fs))) (hc : vwCl[ci]? = some (C, T, N)) (k : Nat) (hk : k < N) (hlink : Cond.fieldLink own idx (T k).1 (T k).2.1 (T k).2.2.1 ∈ gT) (hfin : (T k).2.2.2 = false) {ty : FieldType} (hd : parseFieldDescriptor (T k).2.2.1 = some ty) (hn : narrow ty v = v) (hfit : fits ty v = true) (hl : k < fs.length) (heq : ws.set q0 (a, .inr (ci, fs.set k v)) = ws') (hdg : decode cc pc = .ok (.putfield idx, 3))
    (kk : ∀ (H : Heap) (locs : List Loc), va_P D vwCl ws' H → va_D A ws' → va_S A H0 H locs → W p l e R s m args below meth c H locs cells slots Q (F0 m (pc + 3) ls rest)) : W p l e R s m args below meth c H locs cells slots Q (F0 m pc ls (v :: .ref a :: rest)) := va_put F.1 F.2.1 F.2.2.2.2 hin ty0 hty hnm F.2.2.2.1 hK hP hD hS q0 he hc k hk (F.2.2.2.2 _ hlink) (fun _ h => h) hfin hd hn hfit hl hdg (fun H1 locs1 h1 h2 h3 => by subst heq; exact kk H1 locs1 h1 h2 h3)
set_option maxHeartbeats 1000000 in
theorem gc_VR (F : CallFix p m c cc nL s args gT own) {y : MethodName} {bytes : ByteArray} {maxL n idx : Nat} {ret : Option FieldType} {wy : List Cond} {rm : Room} {B : va_W} {As : List Value} {st0 : List Value} {Qc : Int → Prop} {C : String} {T0 : u_T} {N0 ci b : Nat} {fs : List Value} (hK : va_K D vwCl [(cy, .int)] s) (hA : ∀ q : Nat, H0.size ≤ q → A q) (hP : va_P D vwCl ws H) (hS : va_S A H0 H locs) (hPB : va_P D vwCl B H) (hM : MetR l y wy rm D cy (.ref b :: As) B Qc) (cw : CallW R s args own C idx y bytes maxL ret wy rm 0 0 n) (hb : B[0]? = some (b, .inr (ci, fs))) (hci : vwCl[ci]? = some (C, T0, N0)) (hdg : decode cc pc = .ok (.invokevirtual idx, 3)) (hst : st0 = As.reverse ++ .ref b :: rest) (hn : As.length = n) (hl : ls.size = nL) (hroom : (rest.map fun v => v.category).sum ≤ 8) (hc : cells ≤ R.cells ∧ slots ≤ R.slots)
    (k : ∀ (u : Int) (H : Heap) (locs : List Loc), Qc u → va_P D vwCl ws H → va_S A H0 H locs → W p l e R s m args below meth c H locs cells slots Q (F0 m (pc + 3) ls (.int (iI u) :: rest))) : W p l e R s m args below meth c H locs cells slots Q (F0 m pc ls st0) := by
  have hF : ∀ q : Nat, va_A [] H.size q → A q := fun q h => by
    rcases h with ⟨k2, x, h⟩ | h
    · simp at h
    · exact hA q (Nat.le_trans hS.1 h)
  refine va_calli (va_runV (As := As) (rest := rest) F (hM H.size) cw ⟨gPreR_blind, va_recv hK hPB hci hb, fun U hU hW => ⟨rfl, by rw [hU], by rw [hU]; exact hPB, va_K.moved hW.alike hK⟩⟩ rfl hn hl hst (lv_room hroom) hdg ⟨hc.1, hc.2⟩) hS (fun q _ h => hF q h) hF (fun r u t H1 locs1 ht hvm hp _ hz hk hS1 => ?_)
  obtain ⟨rfl, hq⟩ := hp
  exact k u H1 locs1 hq (hP.kept (fun i q hi => hk q.1 (hP i q hi).lt (fun h => by
    rcases h with ⟨k2, x, h⟩ | h
    · simp at h
    · exact absurd (hP i q hi).lt (Nat.not_lt.mpr h)))) hS1
set_option maxHeartbeats 1000000 in
theorem gc_VV (F : CallFix p m c cc nL s args gT own) {S : Type} {y : MethodName} {bytes : ByteArray} {maxL n idx : Nat} {ret : Option FieldType} {wy : List Cond} {rm : Room} {B : va_W} {As : List Value} {st0 : List Value} {B1 : S → va_W} {Qc : S → Prop} {wn : S → va_W} {C : String} {T0 : u_T} {N0 ci b : Nat} {fs : List Value} (hK : va_K D vwCl [(cy, .int)] s) (hA : ∀ q : Nat, H0.size ≤ q → A q) (hP : va_P D vwCl ws H) (hD : va_D A ws) (hS : va_S A H0 H locs) (hPB : va_P D vwCl B H) (hDB : va_D A B) (hJ : ∀ (u : S) (H1 : Heap), (∀ q : Nat, q < H.size → ¬ va_A B H.size q → H1[q]? = H[q]?) → va_P D vwCl (B1 u) H1 → va_D A (B1 u) → va_P D vwCl (wn u) H1 ∧ va_D A (wn u)) (hM : MetV l y wy rm D cy (.ref b :: As) B B1 Qc) (cw : CallW R s args own C idx y bytes maxL ret wy rm 0 0 n) (hb : B[0]? = some (b, .inr (ci, fs))) (hci : vwCl[ci]? = some (C, T0, N0)) (hdg : decode cc pc = .ok (.invokevirtual idx, 3)) (hst : st0 = As.reverse ++ .ref b :: rest) (hn : As.length = n) (hl : ls.size = nL) (hroom : (rest.map fun v => v.category).sum ≤ 8) (hc : cells ≤ R.cells ∧ slots ≤ R.slots)
    (k : ∀ (u : S) (H : Heap) (locs : List Loc), Qc u → va_P D vwCl (wn u) H → va_D A (wn u) → va_S A H0 H locs → W p l e R s m args below meth c H locs cells slots Q (F0 m (pc + 3) ls rest)) : W p l e R s m args below meth c H locs cells slots Q (F0 m pc ls st0) := by
  have hF : ∀ q : Nat, va_A B H.size q → A q := fun q h => by
    rcases h with ⟨k2, x, h⟩ | h
    · exact hDB.2 k2 _ h
    · exact hA q (Nat.le_trans hS.1 h)
  refine va_callv (va_runV (As := As) (rest := rest) F (hM H.size) cw ⟨gPre_blind, va_recv hK hPB hci hb, fun U hU hW => ⟨rfl, by rw [hU], by rw [hU]; exact hPB, va_K.moved hW.alike hK, hDB.weaken (fun _ _ _ _ => trivial)⟩⟩ rfl hn hl hst (lv_room hroom) hdg ⟨hc.1, hc.2⟩) hS (fun q _ h => hF q h) hF (fun u t H1 locs1 ht hvm hp hb2 hz hk hS1 => ?_)
  obtain ⟨hP1, hD1⟩ := hb2
  rw [ht] at hP1
  obtain ⟨hP2, hD2⟩ := hJ u H1 hk hP1 (hD1.weaken (fun _ q _ h => hF q.1 h))
  exact k u H1 locs1 hp hP2 hD2 hS1
set_option maxHeartbeats 1000000 in
theorem gc_VI (F : CallFix p m c cc nL s args gT own) {S : Type} {y : MethodName} {bytes : ByteArray} {maxL n idx : Nat} {ret : Option FieldType} {wy : List Cond} {rm : Room} {B : va_W} {As : List Value} {st0 : List Value} {B1 : S → va_W} {Qc : Int → S → Prop} {wn : S → va_W} {C : String} {T0 : u_T} {N0 ci b : Nat} {fs : List Value} (hK : va_K D vwCl [(cy, .int)] s) (hA : ∀ q : Nat, H0.size ≤ q → A q) (hP : va_P D vwCl ws H) (hD : va_D A ws) (hS : va_S A H0 H locs) (hPB : va_P D vwCl B H) (hDB : va_D A B) (hJ : ∀ (u : S) (H1 : Heap), (∀ q : Nat, q < H.size → ¬ va_A B H.size q → H1[q]? = H[q]?) → va_P D vwCl (B1 u) H1 → va_D A (B1 u) → va_P D vwCl (wn u) H1 ∧ va_D A (wn u)) (hM : MetI l y wy rm D cy (.ref b :: As) B B1 Qc) (cw : CallW R s args own C idx y bytes maxL ret wy rm 0 0 n) (hb : B[0]? = some (b, .inr (ci, fs))) (hci : vwCl[ci]? = some (C, T0, N0)) (hdg : decode cc pc = .ok (.invokevirtual idx, 3)) (hst : st0 = As.reverse ++ .ref b :: rest) (hn : As.length = n) (hl : ls.size = nL) (hroom : (rest.map fun v => v.category).sum ≤ 8) (hc : cells ≤ R.cells ∧ slots ≤ R.slots)
    (k : ∀ (r : Int) (u : S) (H : Heap) (locs : List Loc), Qc r u → va_P D vwCl (wn u) H → va_D A (wn u) → va_S A H0 H locs → W p l e R s m args below meth c H locs cells slots Q (F0 m (pc + 3) ls (.int (iI r) :: rest))) : W p l e R s m args below meth c H locs cells slots Q (F0 m pc ls st0) := by
  have hF : ∀ q : Nat, va_A B H.size q → A q := fun q h => by
    rcases h with ⟨k2, x, h⟩ | h
    · exact hDB.2 k2 _ h
    · exact hA q (Nat.le_trans hS.1 h)
  refine va_calli (va_runV (As := As) (rest := rest) F (hM H.size) cw ⟨gPre_blind, va_recv hK hPB hci hb, fun U hU hW => ⟨rfl, by rw [hU], by rw [hU]; exact hPB, va_K.moved hW.alike hK, hDB.weaken (fun _ _ _ _ => trivial)⟩⟩ rfl hn hl hst (lv_room hroom) hdg ⟨hc.1, hc.2⟩) hS (fun q _ h => hF q h) hF (fun r u t H1 locs1 ht hvm hp hb2 hz hk hS1 => ?_)
  obtain ⟨hP1, hD1⟩ := hb2
  rw [ht] at hP1
  obtain ⟨hP2, hD2⟩ := hJ u.2 H1 hk hP1 (hD1.weaken (fun _ q _ h => hF q.1 h))
  obtain ⟨rfl, hq⟩ := hp
  exact k u.1 u.2 H1 locs1 hq hP2 hD2 hS1
set_option maxHeartbeats 1000000 in
theorem gc_SR (F : CallFix p m c cc nL s args gT own) {y : MethodName} {bytes : ByteArray} {maxL n idx : Nat} {ret : Option FieldType} {wy : List Cond} {rm : Room} {B : va_W} {As : List Value} {st0 : List Value} {Qc : Int → Prop}  (hK : va_K D vwCl [(cy, .int)] s) (hA : ∀ q : Nat, H0.size ≤ q → A q) (hP : va_P D vwCl ws H) (hS : va_S A H0 H locs) (hPB : va_P D vwCl B H) (hM : MetR l y wy rm D cy As B Qc) (cw : CallB R s args own idx y bytes maxL ret wy rm 0 0 n ∧ (Cond.static y).before args s = true) (hdg : decode cc pc = .ok (.invokestatic idx, 3)) (hst : st0 = As.reverse ++ rest) (hn : As.length = n) (hl : ls.size = nL) (hroom : (rest.map fun v => v.category).sum ≤ 8) (hc : cells ≤ R.cells ∧ slots ≤ R.slots)
    (k : ∀ (u : Int) (H : Heap) (locs : List Loc), Qc u → va_P D vwCl ws H → va_S A H0 H locs → W p l e R s m args below meth c H locs cells slots Q (F0 m (pc + 3) ls (.int (iI u) :: rest))) : W p l e R s m args below meth c H locs cells slots Q (F0 m pc ls st0) := by
  have hF : ∀ q : Nat, va_A [] H.size q → A q := fun q h => by
    rcases h with ⟨k2, x, h⟩ | h
    · simp at h
    · exact hA q (Nat.le_trans hS.1 h)
  refine va_calli (va_runS (As := As) (rest := rest) F (hM H.size) cw ⟨gPreR_blind, fun U hU hW => ⟨rfl, by rw [hU], by rw [hU]; exact hPB, va_K.moved hW.alike hK⟩⟩ rfl hn hl hst (lv_room hroom) hdg ⟨hc.1, hc.2⟩) hS (fun q _ h => hF q h) hF (fun r u t H1 locs1 ht hvm hp _ hz hk hS1 => ?_)
  obtain ⟨rfl, hq⟩ := hp
  exact k u H1 locs1 hq (hP.kept (fun i q hi => hk q.1 (hP i q hi).lt (fun h => by
    rcases h with ⟨k2, x, h⟩ | h
    · simp at h
    · exact absurd (hP i q hi).lt (Nat.not_lt.mpr h)))) hS1
set_option maxHeartbeats 1000000 in
theorem gc_SV (F : CallFix p m c cc nL s args gT own) {S : Type} {y : MethodName} {bytes : ByteArray} {maxL n idx : Nat} {ret : Option FieldType} {wy : List Cond} {rm : Room} {B : va_W} {As : List Value} {st0 : List Value} {B1 : S → va_W} {Qc : S → Prop} {wn : S → va_W}  (hK : va_K D vwCl [(cy, .int)] s) (hA : ∀ q : Nat, H0.size ≤ q → A q) (hP : va_P D vwCl ws H) (hD : va_D A ws) (hS : va_S A H0 H locs) (hPB : va_P D vwCl B H) (hDB : va_D A B) (hJ : ∀ (u : S) (H1 : Heap), (∀ q : Nat, q < H.size → ¬ va_A B H.size q → H1[q]? = H[q]?) → va_P D vwCl (B1 u) H1 → va_D A (B1 u) → va_P D vwCl (wn u) H1 ∧ va_D A (wn u)) (hM : MetV l y wy rm D cy As B B1 Qc) (cw : CallB R s args own idx y bytes maxL ret wy rm 0 0 n ∧ (Cond.static y).before args s = true) (hdg : decode cc pc = .ok (.invokestatic idx, 3)) (hst : st0 = As.reverse ++ rest) (hn : As.length = n) (hl : ls.size = nL) (hroom : (rest.map fun v => v.category).sum ≤ 8) (hc : cells ≤ R.cells ∧ slots ≤ R.slots)
    (k : ∀ (u : S) (H : Heap) (locs : List Loc), Qc u → va_P D vwCl (wn u) H → va_D A (wn u) → va_S A H0 H locs → W p l e R s m args below meth c H locs cells slots Q (F0 m (pc + 3) ls rest)) : W p l e R s m args below meth c H locs cells slots Q (F0 m pc ls st0) := by
  have hF : ∀ q : Nat, va_A B H.size q → A q := fun q h => by
    rcases h with ⟨k2, x, h⟩ | h
    · exact hDB.2 k2 _ h
    · exact hA q (Nat.le_trans hS.1 h)
  refine va_callv (va_runS (As := As) (rest := rest) F (hM H.size) cw ⟨gPre_blind, fun U hU hW => ⟨rfl, by rw [hU], by rw [hU]; exact hPB, va_K.moved hW.alike hK, hDB.weaken (fun _ _ _ _ => trivial)⟩⟩ rfl hn hl hst (lv_room hroom) hdg ⟨hc.1, hc.2⟩) hS (fun q _ h => hF q h) hF (fun u t H1 locs1 ht hvm hp hb2 hz hk hS1 => ?_)
  obtain ⟨hP1, hD1⟩ := hb2
  rw [ht] at hP1
  obtain ⟨hP2, hD2⟩ := hJ u H1 hk hP1 (hD1.weaken (fun _ q _ h => hF q.1 h))
  exact k u H1 locs1 hp hP2 hD2 hS1
set_option maxHeartbeats 1000000 in
theorem gc_SI (F : CallFix p m c cc nL s args gT own) {S : Type} {y : MethodName} {bytes : ByteArray} {maxL n idx : Nat} {ret : Option FieldType} {wy : List Cond} {rm : Room} {B : va_W} {As : List Value} {st0 : List Value} {B1 : S → va_W} {Qc : Int → S → Prop} {wn : S → va_W}  (hK : va_K D vwCl [(cy, .int)] s) (hA : ∀ q : Nat, H0.size ≤ q → A q) (hP : va_P D vwCl ws H) (hD : va_D A ws) (hS : va_S A H0 H locs) (hPB : va_P D vwCl B H) (hDB : va_D A B) (hJ : ∀ (u : S) (H1 : Heap), (∀ q : Nat, q < H.size → ¬ va_A B H.size q → H1[q]? = H[q]?) → va_P D vwCl (B1 u) H1 → va_D A (B1 u) → va_P D vwCl (wn u) H1 ∧ va_D A (wn u)) (hM : MetI l y wy rm D cy As B B1 Qc) (cw : CallB R s args own idx y bytes maxL ret wy rm 0 0 n ∧ (Cond.static y).before args s = true) (hdg : decode cc pc = .ok (.invokestatic idx, 3)) (hst : st0 = As.reverse ++ rest) (hn : As.length = n) (hl : ls.size = nL) (hroom : (rest.map fun v => v.category).sum ≤ 8) (hc : cells ≤ R.cells ∧ slots ≤ R.slots)
    (k : ∀ (r : Int) (u : S) (H : Heap) (locs : List Loc), Qc r u → va_P D vwCl (wn u) H → va_D A (wn u) → va_S A H0 H locs → W p l e R s m args below meth c H locs cells slots Q (F0 m (pc + 3) ls (.int (iI r) :: rest))) : W p l e R s m args below meth c H locs cells slots Q (F0 m pc ls st0) := by
  have hF : ∀ q : Nat, va_A B H.size q → A q := fun q h => by
    rcases h with ⟨k2, x, h⟩ | h
    · exact hDB.2 k2 _ h
    · exact hA q (Nat.le_trans hS.1 h)
  refine va_calli (va_runS (As := As) (rest := rest) F (hM H.size) cw ⟨gPre_blind, fun U hU hW => ⟨rfl, by rw [hU], by rw [hU]; exact hPB, va_K.moved hW.alike hK, hDB.weaken (fun _ _ _ _ => trivial)⟩⟩ rfl hn hl hst (lv_room hroom) hdg ⟨hc.1, hc.2⟩) hS (fun q _ h => hF q h) hF (fun r u t H1 locs1 ht hvm hp hb2 hz hk hS1 => ?_)
  obtain ⟨hP1, hD1⟩ := hb2
  rw [ht] at hP1
  obtain ⟨hP2, hD2⟩ := hJ u.2 H1 hk hP1 (hD1.weaken (fun _ q _ h => hF q.1 h))
  obtain ⟨rfl, hq⟩ := hp
  exact k u.1 u.2 H1 locs1 hq hP2 hD2 hS1
end GV
/-! words of a call -/
theorem gG_V {own : String} {idx : Nat} {C : String} {y : MethodName} {cc : ByteArray} {n : Nat} {r : Option FieldType} (h1 : Cond.methodLink own idx y ∈ gT) (h2 : Cond.instanceMethod y ∈ gT) (h3 : Cond.selects C y y ∈ gT) (h4 : Cond.initialized C ∈ gT) (h5 : Cond.code y cc n r ∈ gT) : GoodIn gT (wsV own idx C y (wT y cc n r)) := by
  have key : ∀ w ∈ gT, w ∈ gT ∧ ((w.onTables && w.keeps) = true ∨ ∃ ty, w = .arrayClass ty) := fun w h => ⟨h, good_of_word (gT_good w h)⟩
  intro w hw
  refine key w ?_
  simp only [wsV, wT, List.mem_append, List.mem_cons, List.not_mem_nil, or_false] at hw
  rcases hw with (rfl | rfl | rfl | rfl) | rfl | h <;> assumption
theorem gG_S {own : String} {idx : Nat} {y : MethodName} {cc : ByteArray} {n : Nat} {r : Option FieldType} (h1 : Cond.methodLink own idx y ∈ gT) (h2 : Cond.static y ∈ gT) (h4 : Cond.initialized own ∈ gT) (h5 : Cond.code y cc n r ∈ gT) : GoodIn gT (wsS own idx y (wT y cc n r)) := by
  have key : ∀ w ∈ gT, w ∈ gT ∧ ((w.onTables && w.keeps) = true ∨ ∃ ty, w = .arrayClass ty) := fun w h => ⟨h, good_of_word (gT_good w h)⟩
  intro w hw
  refine key w ?_
  simp only [wsS, wT, List.mem_append, List.mem_cons, List.not_mem_nil, or_false] at hw
  rcases hw with (rfl | rfl | rfl) | rfl | h <;> assumption
theorem gG_T {own : String} {idx : Nat} {y : MethodName} {cc : ByteArray} {n : Nat} {r : Option FieldType} (h1 : Cond.methodLink own idx y ∈ gT) (h2 : Cond.static y ∈ gT) (h4 : Cond.initialized y.cls ∈ gT) (h5 : Cond.code y cc n r ∈ gT) : GoodIn gT (va_wsS own idx y (wT y cc n r)) := by
  have key : ∀ w ∈ gT, w ∈ gT ∧ ((w.onTables && w.keeps) = true ∨ ∃ ty, w = .arrayClass ty) := fun w h => ⟨h, good_of_word (gT_good w h)⟩
  intro w hw
  refine key w ?_
  simp only [va_wsS, wT, List.mem_append, List.mem_cons, List.not_mem_nil, or_false] at hw
  rcases hw with (rfl | rfl | rfl) | rfl | h <;> assumption
/-! cutting a callee's cells out of a world, and putting them back -/
def gPut (ws : va_W) (is : List Nat) (w1 : va_W) : va_W := (is.zip w1).foldl (fun w q => w.set q.1 q.2) ws
theorem va_D.adr {A : Nat → Prop} {ws ws' : va_W} (hD : va_D A ws) (h : ws'.map Prod.fst = ws.map Prod.fst) : va_D A ws' := by
  have key : ∀ (k : Nat) (q : Nat × va_E), ws'[k]? = some q → ∃ q0, ws[k]? = some q0 ∧ q0.1 = q.1 := by
    intro k q hk
    have h1 : (ws'.map Prod.fst)[k]? = some q.1 := by rw [List.getElem?_map, hk]; rfl
    rw [h, List.getElem?_map] at h1
    cases hw : ws[k]? with
    | none => rw [hw] at h1; cases h1
    | some q0 => rw [hw] at h1; exact ⟨q0, rfl, Option.some.inj h1⟩
  refine ⟨fun i j x y hi hj hxy => ?_, fun k q hk => ?_⟩
  · obtain ⟨x0, h1, h2⟩ := key i x hi
    obtain ⟨y0, h3, h4⟩ := key j y hj
    exact hD.1 i j x0 y0 h1 h3 (h2.trans (hxy.trans h4.symm))
  · obtain ⟨q0, h1, h2⟩ := key k q hk
    rw [← h2]
    exact hD.2 k q0 h1
/-- a world after a call: each of its cells is one of the callee's new ones, or a cell of the old world that none of the callee's is -/
theorem gJoin {A0 : Nat → Prop} {D : va_G} {cl : List vw_C} {ws wc w1 ws' : va_W} {H H1 : Heap} (hP : va_P D cl ws H) (hD : va_D A0 ws) (is : List Nat) (hC : is.map (fun i => ws[i]?) = wc.map some) (hk : ∀ q : Nat, q < H.size → ¬ va_A wc H.size q → H1[q]? = H[q]?) (hP1 : va_P D cl w1 H1)
    (hadr : ws'.map Prod.fst = ws.map Prod.fst) (hnew : is.map (fun i => ws'[i]?) = w1.map some) (hold : ∀ i : Nat, i < ws.length → i ∉ is → ws'[i]? = ws[i]?) : va_P D cl ws' H1 ∧ va_D A0 ws' := by
  refine ⟨fun k q hq => ?_, hD.adr hadr⟩
  have hl : ws'.length = ws.length := by simpa using congrArg List.length hadr
  have hkl : k < ws.length := by rw [← hl]; exact (List.getElem?_eq_some_iff.mp hq).1
  by_cases hi : k ∈ is
  · have h1 : some q ∈ is.map (fun i => ws'[i]?) := List.mem_map.mpr ⟨k, hi, hq⟩
    rw [hnew] at h1
    obtain ⟨q', h2, h3⟩ := List.mem_map.mp h1
    cases h3
    obtain ⟨j, hj⟩ := List.getElem?_of_mem h2
    exact hP1 j q hj
  · have h1 : ws[k]? = some q := by rw [← hold k hkl hi]; exact hq
    have hlt := (hP k q h1).lt
    refine (hP k q h1).kept (hk q.1 hlt (fun h => ?_))
    rcases h with ⟨k2, x, h⟩ | h
    · have h2 : some (q.1, x) ∈ wc.map some := List.mem_map.mpr ⟨_, List.mem_of_getElem? h, rfl⟩
      rw [← hC] at h2
      obtain ⟨i, h3, h4⟩ := List.mem_map.mp h2
      have := hD.1 k i q (q.1, x) h1 h4 rfl
      subst this
      exact hi h3
    · omega
theorem gHold {α : Type} {ws ws' : List α} (is : List Nat) (n : Nat) (hl : ws.length = n) (h : ∀ i ∈ List.range n, i ∉ is → ws'[i]? = ws[i]?) : ∀ i : Nat, i < ws.length → i ∉ is → ws'[i]? = ws[i]? := fun i hi => h i (List.mem_range.mpr (by omega))
end
section
/-! the worlds: a museum, its rooms, the letters, the whole object; the reference's object, its rows -/
abbrev MS : Type := Nat → Int → Int
abbrev AR : Type := Int → Int
def uc (M : MS) (c : Nat) (f : AR) : MS := fun c' => if c' = c then f else M c'
def st (M : MS) (c : Nat) (i v : Int) : MS := uc M c (su (M c) i v)
def eMu (ad : Nat → Nat) (M : MS) : va_E := .inr (1, [.ref (ad 1), .int (iI (M 0 1)), .int (iI (M 0 2)), .ref (ad 4), .ref (ad 5), .ref (ad 6), .ref (ad 7), .int (iI (M 0 7)), .ref (ad 8), .ref (ad 9), .ref (ad 10), .ref (ad 11), .ref (ad 12), .ref (ad 13), .ref (ad 14)])
def wMu (cy : ClassId) (ad : Nat → Nat) (M : MS) : va_W := [(ad 0, eMu ad M), (ad 1, .inr (2, [.ref (ad 2), .ref (ad 3)])), (ad 2, gA cy 49 (M 2)), (ad 3, gA cy 49 (M 3)), (ad 4, gA cy 8 (M 4)), (ad 5, gA cy 8 (M 5)), (ad 6, gA cy 8 (M 6)), (ad 7, gA cy 8 (M 7)), (ad 8, gA cy 5 (M 8)), (ad 9, gA cy 5 (M 9)), (ad 10, gA cy 5 (M 10)), (ad 11, gA cy 5 (M 11)), (ad 12, gA cy 5 (M 12)), (ad 13, gA cy 40 (M 13)), (ad 14, gA cy 40 (M 14))]
def wRo (cy : ClassId) (ad : Nat → Nat) (op fa : AR) : va_W := [(ad 0, .inr (2, [.ref (ad 1), .ref (ad 2)])), (ad 1, gA cy 49 op), (ad 2, gA cy 49 fa)]
def eLe (ad : Nat → Nat) (lg : AR) : va_E := .inr (0, [.ref (ad 1), .int (iI (lg 1))])
def wLe (cy : ClassId) (ad : Nat → Nat) (lg sg : AR) : va_W := [(ad 0, eLe ad lg), (ad 1, gA cy 96 sg)]
def eGh (aO aL aN aT aK aI : Nat → Nat) (o : AR) : va_E := .inr (3, [.ref (aN 0), .ref (aT 0), .ref (aK 0), .ref (aI 0), .int (iI (o 4)), .ref (aL 0), .ref (aO 1), .int (iI (o 7)), .ref (aO 2)])
def wGh (cy : ClassId) (aO aL aN aT aK aI : Nat → Nat) (o rw rf lg sg : AR) (N T K I : MS) : va_W := (aO 0, eGh aO aL aN aT aK aI o) :: (aO 1, gA cy 12 rw) :: (aO 2, gA cy 7 rf) :: (wLe cy aL lg sg ++ (wMu cy aN N ++ (wMu cy aT T ++ (wMu cy aK K ++ wMu cy aI I))))
def eMd (ad : Nat → Nat) (o : AR) : va_E := .inr (4, [.ref (ad 1), .ref (ad 2), .ref (ad 3), .ref (ad 4), .int (iI (o 4)), .ref (ad 5), .ref (ad 6), .ref (ad 7), .int (iI (o 8)), .int (iI (o 9)), .ref (ad 8), .int (iI (o 11)), .ref (ad 9), .int (iI (o 13)), .int (iI (o 14)), .int (iI (o 15)), .int (iI (o 16))])
def wMd (cy : ClassId) (ad : Nat → Nat) (o s m im wa le ro re fa nu : AR) : va_W := [(ad 0, eMd ad o), (ad 1, gA cy 147 s), (ad 2, gA cy 147 m), (ad 3, gA cy 147 im), (ad 4, gA cy 147 wa), (ad 5, gA cy 96 le), (ad 6, gA cy 12 ro), (ad 7, gA cy 7 re), (ad 8, gA cy 7 fa), (ad 9, gA cy 4 nu)]
def wMf (cy : ClassId) (ad : Nat → Nat) (b : Nat) (o fa r : AR) : va_W := [(ad 0, eMd ad o), (ad 8, gA cy 7 fa), (b, gA cy 147 r)]
def wAr (cy : ClassId) (a n : Nat) (f : AR) : va_W := [(a, gA cy n f)]
def wA2 (cy : ClassId) (a b n : Nat) (f g : AR) : va_W := [(a, gA cy n f), (b, gA cy n g)]
theorem gPnil {D : va_G} {cl : List vw_C} {H : Heap} : va_P D cl [] H := fun k q h => by simp at h
theorem gDnil {A : Nat → Prop} : va_D A [] := ⟨fun i j p q h => by simp at h, fun k q h => by simp at h⟩
theorem gRx {i N : Int} (h : 0 ≤ i ∧ i < N) (hN : N ≤ 2147483647) : gR i := ⟨by omega, by omega⟩
theorem gRb {u : Int} (h : u = 0 ∨ u = 1) : gR u := ⟨by omega, by omega⟩
theorem gNb {u : Int} (h : u = 0 ∨ u = 1) : narrow .boolean (.int (iI u)) = .int (iI u) := by rcases h with rfl | rfl <;> rfl
theorem gJoin2 {A0 : Nat → Prop} {D : va_G} {cl : List vw_C} {ws wc w1 ws' : va_W} {H H1 : Heap} (hP : va_P D cl ws H) (hD : va_D A0 ws) (is isR : List Nat) (n : Nat) (hlen : ws.length = n) (hall : (List.range n).all (fun i => decide (i ∈ is) || decide (i ∈ isR)) = true) (hC : is.map (fun i => ws[i]?) = wc.map some) (hk : ∀ q : Nat, q < H.size → ¬ va_A wc H.size q → H1[q]? = H[q]?) (hP1 : va_P D cl w1 H1)
    (hadr : ws'.map Prod.fst = ws.map Prod.fst) (hnew : is.map (fun i => ws'[i]?) = w1.map some) (hold : isR.map (fun i => ws'[i]?) = isR.map (fun i => ws[i]?)) : va_P D cl ws' H1 ∧ va_D A0 ws' := by
  refine gJoin hP hD is hC hk hP1 hadr hnew (fun i hi hn => ?_)
  have h1 := List.all_eq_true.mp hall i (List.mem_range.mpr (by omega))
  simp only [Bool.or_eq_true, decide_eq_true_eq] at h1
  rcases h1 with h1 | h1
  · exact absurd h1 hn
  · exact (List.map_inj_left.mp hold) i h1
set_option maxRecDepth 20000 in
theorem cp_md_fs {cy : ClassId} {ad : Nat → Nat} {o s m im wa le ro re fa nu : AR} {D : va_G} {cl : List vw_C} {H : Heap} (hP : va_P D cl (wMd cy ad o s m im wa le ro re fa nu) H) : va_P D cl (wMf cy ad (ad 1) o fa s) H := hP.sub [0, 8, 1] rfl
set_option maxRecDepth 20000 in
theorem cd_md_fs {cy : ClassId} {ad : Nat → Nat} {o s m im wa le ro re fa nu : AR} {A : Nat → Prop} (hD : va_D A (wMd cy ad o s m im wa le ro re fa nu)) : va_D A (wMf cy ad (ad 1) o fa s) := hD.sub [0, 8, 1] rfl rfl
set_option maxRecDepth 20000 in
theorem cj_md_fs {cy : ClassId} {ad : Nat → Nat} {o s m im wa le ro re fa nu : AR} {D : va_G} {cl : List vw_C} {H : Heap} {A : Nat → Prop} (hP : va_P D cl (wMd cy ad o s m im wa le ro re fa nu) H) (hD : va_D A (wMd cy ad o s m im wa le ro re fa nu)) (X Y : AR) (H1 : Heap) (hk : ∀ q : Nat, q < H.size → ¬ va_A (wMf cy ad (ad 1) o fa s) H.size q → H1[q]? = H[q]?) (hP1 : va_P D cl (wMf cy ad (ad 1) o X Y) H1) : va_P D cl (wMd cy ad o Y m im wa le ro re X nu) H1 ∧ va_D A (wMd cy ad o Y m im wa le ro re X nu) := gJoin2 hP hD [0, 8, 1] [2, 3, 4, 5, 6, 7, 9] 10 rfl rfl rfl hk hP1 rfl rfl rfl
set_option maxRecDepth 20000 in
theorem cp_md_s {cy : ClassId} {ad : Nat → Nat} {o s m im wa le ro re fa nu : AR} {D : va_G} {cl : List vw_C} {H : Heap} (hP : va_P D cl (wMd cy ad o s m im wa le ro re fa nu) H) : va_P D cl (wAr cy (ad 1) 147 s) H := hP.sub [1] rfl
set_option maxRecDepth 20000 in
theorem cd_md_s {cy : ClassId} {ad : Nat → Nat} {o s m im wa le ro re fa nu : AR} {A : Nat → Prop} (hD : va_D A (wMd cy ad o s m im wa le ro re fa nu)) : va_D A (wAr cy (ad 1) 147 s) := hD.sub [1] rfl rfl
set_option maxRecDepth 20000 in
theorem cj_md_s {cy : ClassId} {ad : Nat → Nat} {o s m im wa le ro re fa nu : AR} {D : va_G} {cl : List vw_C} {H : Heap} {A : Nat → Prop} (hP : va_P D cl (wMd cy ad o s m im wa le ro re fa nu) H) (hD : va_D A (wMd cy ad o s m im wa le ro re fa nu)) (X : AR) (H1 : Heap) (hk : ∀ q : Nat, q < H.size → ¬ va_A (wAr cy (ad 1) 147 s) H.size q → H1[q]? = H[q]?) (hP1 : va_P D cl (wAr cy (ad 1) 147 X) H1) : va_P D cl (wMd cy ad o X m im wa le ro re fa nu) H1 ∧ va_D A (wMd cy ad o X m im wa le ro re fa nu) := gJoin2 hP hD [1] [0, 2, 3, 4, 5, 6, 7, 8, 9] 10 rfl rfl rfl hk hP1 rfl rfl rfl
set_option maxRecDepth 20000 in
theorem cp_md_fm {cy : ClassId} {ad : Nat → Nat} {o s m im wa le ro re fa nu : AR} {D : va_G} {cl : List vw_C} {H : Heap} (hP : va_P D cl (wMd cy ad o s m im wa le ro re fa nu) H) : va_P D cl (wMf cy ad (ad 2) o fa m) H := hP.sub [0, 8, 2] rfl
set_option maxRecDepth 20000 in
theorem cd_md_fm {cy : ClassId} {ad : Nat → Nat} {o s m im wa le ro re fa nu : AR} {A : Nat → Prop} (hD : va_D A (wMd cy ad o s m im wa le ro re fa nu)) : va_D A (wMf cy ad (ad 2) o fa m) := hD.sub [0, 8, 2] rfl rfl
set_option maxRecDepth 20000 in
theorem cj_md_fm {cy : ClassId} {ad : Nat → Nat} {o s m im wa le ro re fa nu : AR} {D : va_G} {cl : List vw_C} {H : Heap} {A : Nat → Prop} (hP : va_P D cl (wMd cy ad o s m im wa le ro re fa nu) H) (hD : va_D A (wMd cy ad o s m im wa le ro re fa nu)) (X Y : AR) (H1 : Heap) (hk : ∀ q : Nat, q < H.size → ¬ va_A (wMf cy ad (ad 2) o fa m) H.size q → H1[q]? = H[q]?) (hP1 : va_P D cl (wMf cy ad (ad 2) o X Y) H1) : va_P D cl (wMd cy ad o s Y im wa le ro re X nu) H1 ∧ va_D A (wMd cy ad o s Y im wa le ro re X nu) := gJoin2 hP hD [0, 8, 2] [1, 3, 4, 5, 6, 7, 9] 10 rfl rfl rfl hk hP1 rfl rfl rfl
set_option maxRecDepth 20000 in
theorem cp_md_m {cy : ClassId} {ad : Nat → Nat} {o s m im wa le ro re fa nu : AR} {D : va_G} {cl : List vw_C} {H : Heap} (hP : va_P D cl (wMd cy ad o s m im wa le ro re fa nu) H) : va_P D cl (wAr cy (ad 2) 147 m) H := hP.sub [2] rfl
set_option maxRecDepth 20000 in
theorem cd_md_m {cy : ClassId} {ad : Nat → Nat} {o s m im wa le ro re fa nu : AR} {A : Nat → Prop} (hD : va_D A (wMd cy ad o s m im wa le ro re fa nu)) : va_D A (wAr cy (ad 2) 147 m) := hD.sub [2] rfl rfl
set_option maxRecDepth 20000 in
theorem cj_md_m {cy : ClassId} {ad : Nat → Nat} {o s m im wa le ro re fa nu : AR} {D : va_G} {cl : List vw_C} {H : Heap} {A : Nat → Prop} (hP : va_P D cl (wMd cy ad o s m im wa le ro re fa nu) H) (hD : va_D A (wMd cy ad o s m im wa le ro re fa nu)) (X : AR) (H1 : Heap) (hk : ∀ q : Nat, q < H.size → ¬ va_A (wAr cy (ad 2) 147 m) H.size q → H1[q]? = H[q]?) (hP1 : va_P D cl (wAr cy (ad 2) 147 X) H1) : va_P D cl (wMd cy ad o s X im wa le ro re fa nu) H1 ∧ va_D A (wMd cy ad o s X im wa le ro re fa nu) := gJoin2 hP hD [2] [0, 1, 3, 4, 5, 6, 7, 8, 9] 10 rfl rfl rfl hk hP1 rfl rfl rfl
set_option maxRecDepth 20000 in
theorem cp_md_s_m {cy : ClassId} {ad : Nat → Nat} {o s m im wa le ro re fa nu : AR} {D : va_G} {cl : List vw_C} {H : Heap} (hP : va_P D cl (wMd cy ad o s m im wa le ro re fa nu) H) : va_P D cl (wA2 cy (ad 1) (ad 2) 147 s m) H := hP.sub [1, 2] rfl
set_option maxRecDepth 20000 in
theorem cd_md_s_m {cy : ClassId} {ad : Nat → Nat} {o s m im wa le ro re fa nu : AR} {A : Nat → Prop} (hD : va_D A (wMd cy ad o s m im wa le ro re fa nu)) : va_D A (wA2 cy (ad 1) (ad 2) 147 s m) := hD.sub [1, 2] rfl rfl
set_option maxRecDepth 20000 in
theorem cj_md_s_m {cy : ClassId} {ad : Nat → Nat} {o s m im wa le ro re fa nu : AR} {D : va_G} {cl : List vw_C} {H : Heap} {A : Nat → Prop} (hP : va_P D cl (wMd cy ad o s m im wa le ro re fa nu) H) (hD : va_D A (wMd cy ad o s m im wa le ro re fa nu)) (X : AR) (H1 : Heap) (hk : ∀ q : Nat, q < H.size → ¬ va_A (wA2 cy (ad 1) (ad 2) 147 s m) H.size q → H1[q]? = H[q]?) (hP1 : va_P D cl (wA2 cy (ad 1) (ad 2) 147 s X) H1) : va_P D cl (wMd cy ad o s X im wa le ro re fa nu) H1 ∧ va_D A (wMd cy ad o s X im wa le ro re fa nu) := gJoin2 hP hD [1, 2] [0, 3, 4, 5, 6, 7, 8, 9] 10 rfl rfl rfl hk hP1 rfl rfl rfl
set_option maxRecDepth 20000 in
theorem cp_md_s_wa {cy : ClassId} {ad : Nat → Nat} {o s m im wa le ro re fa nu : AR} {D : va_G} {cl : List vw_C} {H : Heap} (hP : va_P D cl (wMd cy ad o s m im wa le ro re fa nu) H) : va_P D cl (wA2 cy (ad 1) (ad 4) 147 s wa) H := hP.sub [1, 4] rfl
set_option maxRecDepth 20000 in
theorem cd_md_s_wa {cy : ClassId} {ad : Nat → Nat} {o s m im wa le ro re fa nu : AR} {A : Nat → Prop} (hD : va_D A (wMd cy ad o s m im wa le ro re fa nu)) : va_D A (wA2 cy (ad 1) (ad 4) 147 s wa) := hD.sub [1, 4] rfl rfl
set_option maxRecDepth 20000 in
theorem cj_md_s_wa {cy : ClassId} {ad : Nat → Nat} {o s m im wa le ro re fa nu : AR} {D : va_G} {cl : List vw_C} {H : Heap} {A : Nat → Prop} (hP : va_P D cl (wMd cy ad o s m im wa le ro re fa nu) H) (hD : va_D A (wMd cy ad o s m im wa le ro re fa nu)) (X : AR) (H1 : Heap) (hk : ∀ q : Nat, q < H.size → ¬ va_A (wA2 cy (ad 1) (ad 4) 147 s wa) H.size q → H1[q]? = H[q]?) (hP1 : va_P D cl (wA2 cy (ad 1) (ad 4) 147 s X) H1) : va_P D cl (wMd cy ad o s m im X le ro re fa nu) H1 ∧ va_D A (wMd cy ad o s m im X le ro re fa nu) := gJoin2 hP hD [1, 4] [0, 2, 3, 5, 6, 7, 8, 9] 10 rfl rfl rfl hk hP1 rfl rfl rfl
set_option maxRecDepth 20000 in
theorem cp_md_wa_s {cy : ClassId} {ad : Nat → Nat} {o s m im wa le ro re fa nu : AR} {D : va_G} {cl : List vw_C} {H : Heap} (hP : va_P D cl (wMd cy ad o s m im wa le ro re fa nu) H) : va_P D cl (wA2 cy (ad 4) (ad 1) 147 wa s) H := hP.sub [4, 1] rfl
set_option maxRecDepth 20000 in
theorem cd_md_wa_s {cy : ClassId} {ad : Nat → Nat} {o s m im wa le ro re fa nu : AR} {A : Nat → Prop} (hD : va_D A (wMd cy ad o s m im wa le ro re fa nu)) : va_D A (wA2 cy (ad 4) (ad 1) 147 wa s) := hD.sub [4, 1] rfl rfl
set_option maxRecDepth 20000 in
theorem cj_md_wa_s {cy : ClassId} {ad : Nat → Nat} {o s m im wa le ro re fa nu : AR} {D : va_G} {cl : List vw_C} {H : Heap} {A : Nat → Prop} (hP : va_P D cl (wMd cy ad o s m im wa le ro re fa nu) H) (hD : va_D A (wMd cy ad o s m im wa le ro re fa nu)) (X : AR) (H1 : Heap) (hk : ∀ q : Nat, q < H.size → ¬ va_A (wA2 cy (ad 4) (ad 1) 147 wa s) H.size q → H1[q]? = H[q]?) (hP1 : va_P D cl (wA2 cy (ad 4) (ad 1) 147 wa X) H1) : va_P D cl (wMd cy ad o X m im wa le ro re fa nu) H1 ∧ va_D A (wMd cy ad o X m im wa le ro re fa nu) := gJoin2 hP hD [4, 1] [0, 2, 3, 5, 6, 7, 8, 9] 10 rfl rfl rfl hk hP1 rfl rfl rfl
set_option maxRecDepth 20000 in
theorem cp_md_s_im {cy : ClassId} {ad : Nat → Nat} {o s m im wa le ro re fa nu : AR} {D : va_G} {cl : List vw_C} {H : Heap} (hP : va_P D cl (wMd cy ad o s m im wa le ro re fa nu) H) : va_P D cl (wA2 cy (ad 1) (ad 3) 147 s im) H := hP.sub [1, 3] rfl
set_option maxRecDepth 20000 in
theorem cd_md_s_im {cy : ClassId} {ad : Nat → Nat} {o s m im wa le ro re fa nu : AR} {A : Nat → Prop} (hD : va_D A (wMd cy ad o s m im wa le ro re fa nu)) : va_D A (wA2 cy (ad 1) (ad 3) 147 s im) := hD.sub [1, 3] rfl rfl
set_option maxRecDepth 20000 in
theorem cj_md_s_im {cy : ClassId} {ad : Nat → Nat} {o s m im wa le ro re fa nu : AR} {D : va_G} {cl : List vw_C} {H : Heap} {A : Nat → Prop} (hP : va_P D cl (wMd cy ad o s m im wa le ro re fa nu) H) (hD : va_D A (wMd cy ad o s m im wa le ro re fa nu)) (X : AR) (H1 : Heap) (hk : ∀ q : Nat, q < H.size → ¬ va_A (wA2 cy (ad 1) (ad 3) 147 s im) H.size q → H1[q]? = H[q]?) (hP1 : va_P D cl (wA2 cy (ad 1) (ad 3) 147 s X) H1) : va_P D cl (wMd cy ad o s m X wa le ro re fa nu) H1 ∧ va_D A (wMd cy ad o s m X wa le ro re fa nu) := gJoin2 hP hD [1, 3] [0, 2, 4, 5, 6, 7, 8, 9] 10 rfl rfl rfl hk hP1 rfl rfl rfl
set_option maxRecDepth 20000 in
theorem cp_md_im_s {cy : ClassId} {ad : Nat → Nat} {o s m im wa le ro re fa nu : AR} {D : va_G} {cl : List vw_C} {H : Heap} (hP : va_P D cl (wMd cy ad o s m im wa le ro re fa nu) H) : va_P D cl (wA2 cy (ad 3) (ad 1) 147 im s) H := hP.sub [3, 1] rfl
set_option maxRecDepth 20000 in
theorem cd_md_im_s {cy : ClassId} {ad : Nat → Nat} {o s m im wa le ro re fa nu : AR} {A : Nat → Prop} (hD : va_D A (wMd cy ad o s m im wa le ro re fa nu)) : va_D A (wA2 cy (ad 3) (ad 1) 147 im s) := hD.sub [3, 1] rfl rfl
set_option maxRecDepth 20000 in
theorem cj_md_im_s {cy : ClassId} {ad : Nat → Nat} {o s m im wa le ro re fa nu : AR} {D : va_G} {cl : List vw_C} {H : Heap} {A : Nat → Prop} (hP : va_P D cl (wMd cy ad o s m im wa le ro re fa nu) H) (hD : va_D A (wMd cy ad o s m im wa le ro re fa nu)) (X : AR) (H1 : Heap) (hk : ∀ q : Nat, q < H.size → ¬ va_A (wA2 cy (ad 3) (ad 1) 147 im s) H.size q → H1[q]? = H[q]?) (hP1 : va_P D cl (wA2 cy (ad 3) (ad 1) 147 im X) H1) : va_P D cl (wMd cy ad o X m im wa le ro re fa nu) H1 ∧ va_D A (wMd cy ad o X m im wa le ro re fa nu) := gJoin2 hP hD [3, 1] [0, 2, 4, 5, 6, 7, 8, 9] 10 rfl rfl rfl hk hP1 rfl rfl rfl
set_option maxRecDepth 20000 in
theorem cp_mf_r {cy : ClassId} {ad : Nat → Nat} {b : Nat} {o fa r : AR} {D : va_G} {cl : List vw_C} {H : Heap} (hP : va_P D cl (wMf cy ad b o fa r) H) : va_P D cl (wAr cy b 147 r) H := hP.sub [2] rfl
set_option maxRecDepth 20000 in
theorem cd_mf_r {cy : ClassId} {ad : Nat → Nat} {b : Nat} {o fa r : AR} {A : Nat → Prop} (hD : va_D A (wMf cy ad b o fa r)) : va_D A (wAr cy b 147 r) := hD.sub [2] rfl rfl
set_option maxRecDepth 20000 in
theorem cj_mf_r {cy : ClassId} {ad : Nat → Nat} {b : Nat} {o fa r : AR} {D : va_G} {cl : List vw_C} {H : Heap} {A : Nat → Prop} (hP : va_P D cl (wMf cy ad b o fa r) H) (hD : va_D A (wMf cy ad b o fa r)) (X : AR) (H1 : Heap) (hk : ∀ q : Nat, q < H.size → ¬ va_A (wAr cy b 147 r) H.size q → H1[q]? = H[q]?) (hP1 : va_P D cl (wAr cy b 147 X) H1) : va_P D cl (wMf cy ad b o fa X) H1 ∧ va_D A (wMf cy ad b o fa X) := gJoin2 hP hD [2] [0, 1] 3 rfl rfl rfl hk hP1 rfl rfl rfl
theorem gP_mid {D : va_G} {cl : List vw_C} {pre B post : va_W} {H : Heap} (h : va_P D cl (pre ++ (B ++ post)) H) : va_P D cl B H := fun k q hk => by
  refine h (pre.length + k) q ?_
  rw [List.getElem?_append_right (by omega), Nat.add_sub_cancel_left, List.getElem?_append_left (List.getElem?_eq_some_iff.mp hk).1]
  exact hk
theorem gD_mid {A : Nat → Prop} {pre B post : va_W} (h : va_D A (pre ++ (B ++ post))) : va_D A B := by
  have key : ∀ (k : Nat) (q : Nat × va_E), B[k]? = some q → (pre ++ (B ++ post))[pre.length + k]? = some q := fun k q hk => by
    rw [List.getElem?_append_right (by omega), Nat.add_sub_cancel_left, List.getElem?_append_left (List.getElem?_eq_some_iff.mp hk).1]
    exact hk
  refine ⟨fun i j x y hi hj hxy => ?_, fun k q hk => h.2 _ q (key k q hk)⟩
  have := h.1 _ _ x y (key i x hi) (key j y hj) hxy
  omega
theorem gJ_mid {A : Nat → Prop} {D : va_G} {cl : List vw_C} {pre B B1 post : va_W} {H H1 : Heap} (hP : va_P D cl (pre ++ (B ++ post)) H) (hD : va_D A (pre ++ (B ++ post))) (hk : ∀ q : Nat, q < H.size → ¬ va_A B H.size q → H1[q]? = H[q]?) (hP1 : va_P D cl B1 H1) (hadr : B1.map Prod.fst = B.map Prod.fst) : va_P D cl (pre ++ (B1 ++ post)) H1 ∧ va_D A (pre ++ (B1 ++ post)) := by
  have hlen : B1.length = B.length := by simpa using congrArg List.length hadr
  have key : ∀ (k : Nat) (q : Nat × va_E), B[k]? = some q → (pre ++ (B ++ post))[pre.length + k]? = some q := fun k q hk => by
    rw [List.getElem?_append_right (by omega), Nat.add_sub_cancel_left, List.getElem?_append_left (List.getElem?_eq_some_iff.mp hk).1]
    exact hk
  have out : ∀ (k : Nat) (q : Nat × va_E), (pre ++ (B ++ post))[k]? = some q → (k < pre.length ∨ pre.length + B.length ≤ k) → H1[q.1]? = H[q.1]? := fun k q hq hr => by
    have hlt := (hP k q hq).lt
    refine hk q.1 hlt (fun h => ?_)
    rcases h with ⟨k2, x, h⟩ | h
    · have h2 := (List.getElem?_eq_some_iff.mp h).1
      have := hD.1 k _ q (q.1, x) hq (key k2 _ h) rfl
      omega
    · omega
  refine ⟨fun k q hq => ?_, hD.adr (by simp only [List.map_append, hadr])⟩
  by_cases h1 : k < pre.length
  · rw [List.getElem?_append_left h1] at hq
    have h2 : (pre ++ (B ++ post))[k]? = some q := by rw [List.getElem?_append_left h1]; exact hq
    exact (hP k q h2).kept (out k q h2 (Or.inl h1))
  · rw [List.getElem?_append_right (by omega)] at hq
    by_cases h3 : k - pre.length < B.length
    · rw [List.getElem?_append_left (by omega)] at hq
      exact hP1 _ q hq
    · rw [List.getElem?_append_right (by omega), hlen] at hq
      have h2 : (pre ++ (B ++ post))[k]? = some q := by
        rw [List.getElem?_append_right (by omega), List.getElem?_append_right (by omega)]
        exact hq
      exact (hP k q h2).kept (out k q h2 (Or.inr (by omega)))
theorem gA_sub {ws wc : va_W} {sz : Nat} (is : List Nat) (hC : is.map (fun i => ws[i]?) = wc.map some) : ∀ q : Nat, va_A wc sz q → va_A ws sz q := by
  intro q h
  rcases h with ⟨k2, x, h⟩ | h
  · have h2 : some (q, x) ∈ wc.map some := List.mem_map.mpr ⟨_, List.mem_of_getElem? h, rfl⟩
    rw [← hC] at h2
    obtain ⟨i, h3, h4⟩ := List.mem_map.mp h2
    exact Or.inl ⟨i, x, h4⟩
  · exact Or.inr h
theorem wMu_r {cy : ClassId} {ad : Nat → Nat} {M : MS} : wMu cy ad M = [(ad 0, eMu ad M)] ++ (wRo cy (fun k => ad (k + 1)) (M 2) (M 3) ++ [(ad 4, gA cy 8 (M 4)), (ad 5, gA cy 8 (M 5)), (ad 6, gA cy 8 (M 6)), (ad 7, gA cy 8 (M 7)), (ad 8, gA cy 5 (M 8)), (ad 9, gA cy 5 (M 9)), (ad 10, gA cy 5 (M 10)), (ad 11, gA cy 5 (M 11)), (ad 12, gA cy 5 (M 12)), (ad 13, gA cy 40 (M 13)), (ad 14, gA cy 40 (M 14))]) := rfl
theorem wMu_r2 {cy : ClassId} {ad : Nat → Nat} {M : MS} {X Y : AR} : wMu cy ad (uc (uc M 2 X) 3 Y) = [(ad 0, eMu ad M)] ++ (wRo cy (fun k => ad (k + 1)) X Y ++ [(ad 4, gA cy 8 (M 4)), (ad 5, gA cy 8 (M 5)), (ad 6, gA cy 8 (M 6)), (ad 7, gA cy 8 (M 7)), (ad 8, gA cy 5 (M 8)), (ad 9, gA cy 5 (M 9)), (ad 10, gA cy 5 (M 10)), (ad 11, gA cy 5 (M 11)), (ad 12, gA cy 5 (M 12)), (ad 13, gA cy 40 (M 13)), (ad 14, gA cy 40 (M 14))]) := by
  simp [wMu, wRo, eMu, uc]
theorem wMu_14 {cy : ClassId} {ad : Nat → Nat} {M : MS} : wMu cy ad M = [(ad 0, eMu ad M), (ad 1, .inr (2, [.ref (ad 2), .ref (ad 3)])), (ad 2, gA cy 49 (M 2)), (ad 3, gA cy 49 (M 3)), (ad 4, gA cy 8 (M 4)), (ad 5, gA cy 8 (M 5)), (ad 6, gA cy 8 (M 6)), (ad 7, gA cy 8 (M 7)), (ad 8, gA cy 5 (M 8)), (ad 9, gA cy 5 (M 9)), (ad 10, gA cy 5 (M 10)), (ad 11, gA cy 5 (M 11)), (ad 12, gA cy 5 (M 12)), (ad 13, gA cy 40 (M 13))] ++ (wAr cy (ad 14) 40 (M 14) ++ []) := rfl
theorem wMu_142 {cy : ClassId} {ad : Nat → Nat} {M : MS} {X : AR} : wMu cy ad (uc M 14 X) = [(ad 0, eMu ad M), (ad 1, .inr (2, [.ref (ad 2), .ref (ad 3)])), (ad 2, gA cy 49 (M 2)), (ad 3, gA cy 49 (M 3)), (ad 4, gA cy 8 (M 4)), (ad 5, gA cy 8 (M 5)), (ad 6, gA cy 8 (M 6)), (ad 7, gA cy 8 (M 7)), (ad 8, gA cy 5 (M 8)), (ad 9, gA cy 5 (M 9)), (ad 10, gA cy 5 (M 10)), (ad 11, gA cy 5 (M 11)), (ad 12, gA cy 5 (M 12)), (ad 13, gA cy 40 (M 13))] ++ (wAr cy (ad 14) 40 X ++ []) := by
  simp [wMu, wAr, eMu, uc]
theorem cp_mu_r {cy : ClassId} {ad : Nat → Nat} {M : MS} {D : va_G} {cl : List vw_C} {H : Heap} (hP : va_P D cl (wMu cy ad M) H) : va_P D cl (wRo cy (fun k => ad (k + 1)) (M 2) (M 3)) H := gP_mid (wMu_r ▸ hP)
theorem cd_mu_r {cy : ClassId} {ad : Nat → Nat} {M : MS} {A : Nat → Prop} (hD : va_D A (wMu cy ad M)) : va_D A (wRo cy (fun k => ad (k + 1)) (M 2) (M 3)) := gD_mid (wMu_r ▸ hD)
theorem cj_mu_r {cy : ClassId} {ad : Nat → Nat} {M : MS} {D : va_G} {cl : List vw_C} {H : Heap} {A : Nat → Prop} (hP : va_P D cl (wMu cy ad M) H) (hD : va_D A (wMu cy ad M)) (X Y : AR) (H1 : Heap) (hk : ∀ q : Nat, q < H.size → ¬ va_A (wRo cy (fun k => ad (k + 1)) (M 2) (M 3)) H.size q → H1[q]? = H[q]?) (hP1 : va_P D cl (wRo cy (fun k => ad (k + 1)) X Y) H1) : va_P D cl (wMu cy ad (uc (uc M 2 X) 3 Y)) H1 ∧ va_D A (wMu cy ad (uc (uc M 2 X) 3 Y)) := by
  rw [wMu_r] at hP hD
  rw [wMu_r2]
  exact gJ_mid hP hD hk hP1 rfl
theorem cp_mu_14 {cy : ClassId} {ad : Nat → Nat} {M : MS} {D : va_G} {cl : List vw_C} {H : Heap} (hP : va_P D cl (wMu cy ad M) H) : va_P D cl (wAr cy (ad 14) 40 (M 14)) H := gP_mid (wMu_14 ▸ hP)
theorem cd_mu_14 {cy : ClassId} {ad : Nat → Nat} {M : MS} {A : Nat → Prop} (hD : va_D A (wMu cy ad M)) : va_D A (wAr cy (ad 14) 40 (M 14)) := gD_mid (wMu_14 ▸ hD)
theorem cj_mu_14 {cy : ClassId} {ad : Nat → Nat} {M : MS} {D : va_G} {cl : List vw_C} {H : Heap} {A : Nat → Prop} (hP : va_P D cl (wMu cy ad M) H) (hD : va_D A (wMu cy ad M)) (X : AR) (H1 : Heap) (hk : ∀ q : Nat, q < H.size → ¬ va_A (wAr cy (ad 14) 40 (M 14)) H.size q → H1[q]? = H[q]?) (hP1 : va_P D cl (wAr cy (ad 14) 40 X) H1) : va_P D cl (wMu cy ad (uc M 14 X)) H1 ∧ va_D A (wMu cy ad (uc M 14 X)) := by
  rw [wMu_14] at hP hD
  rw [wMu_142]
  exact gJ_mid hP hD hk hP1 rfl
theorem wMu_st {cy : ClassId} {ad : Nat → Nat} {M : MS} (c : Nat) (hc : 2 ≤ c ∧ c ≤ 14) (n : Nat) (hn : n = if c ≤ 3 then 49 else if c ≤ 7 then 8 else if c ≤ 12 then 5 else 40) (i v : Int) : (wMu cy ad M).set c (ad c, gA cy n (su (M c) i v)) = wMu cy ad (st M c i v) := by
  subst hn
  rcases (show c = 2 ∨ c = 3 ∨ c = 4 ∨ c = 5 ∨ c = 6 ∨ c = 7 ∨ c = 8 ∨ c = 9 ∨ c = 10 ∨ c = 11 ∨ c = 12 ∨ c = 13 ∨ c = 14 by omega) with rfl | rfl | rfl | rfl | rfl | rfl | rfl | rfl | rfl | rfl | rfl | rfl | rfl <;> simp [wMu, eMu, st, uc]
theorem wGh_L {cy : ClassId} {aO aL aN aT aK aI : Nat → Nat} {o rw rf lg sg : AR} {N T K I : MS} : wGh cy aO aL aN aT aK aI o rw rf lg sg N T K I = ((aO 0, eGh aO aL aN aT aK aI o) :: (aO 1, gA cy 12 rw) :: (aO 2, gA cy 7 rf) :: []) ++ (wLe cy aL lg sg ++ (wMu cy aN N ++ (wMu cy aT T ++ (wMu cy aK K ++ (wMu cy aI I))))) := by
  simp only [wGh, List.cons_append, List.nil_append, List.append_assoc, List.append_nil]
theorem cp_gh_L {cy : ClassId} {aO aL aN aT aK aI : Nat → Nat} {o rw rf lg sg : AR} {N T K I : MS} {D : va_G} {cl : List vw_C} {H : Heap} (hP : va_P D cl (wGh cy aO aL aN aT aK aI o rw rf lg sg N T K I) H) : va_P D cl (wLe cy aL lg sg) H := gP_mid (wGh_L ▸ hP)
theorem cd_gh_L {cy : ClassId} {aO aL aN aT aK aI : Nat → Nat} {o rw rf lg sg : AR} {N T K I : MS} {A : Nat → Prop} (hD : va_D A (wGh cy aO aL aN aT aK aI o rw rf lg sg N T K I)) : va_D A (wLe cy aL lg sg) := gD_mid (wGh_L ▸ hD)
theorem cj_gh_L {cy : ClassId} {aO aL aN aT aK aI : Nat → Nat} {o rw rf lg sg : AR} {N T K I : MS} {D : va_G} {cl : List vw_C} {H : Heap} {A : Nat → Prop} (hP : va_P D cl (wGh cy aO aL aN aT aK aI o rw rf lg sg N T K I) H) (hD : va_D A (wGh cy aO aL aN aT aK aI o rw rf lg sg N T K I)) (X Y : AR) (H1 : Heap) (hk : ∀ q : Nat, q < H.size → ¬ va_A (wLe cy aL lg sg) H.size q → H1[q]? = H[q]?) (hP1 : va_P D cl (wLe cy aL X Y) H1) : va_P D cl (wGh cy aO aL aN aT aK aI o rw rf X Y N T K I) H1 ∧ va_D A (wGh cy aO aL aN aT aK aI o rw rf X Y N T K I) := by
  rw [wGh_L] at hP hD ⊢
  exact gJ_mid hP hD hk hP1 rfl
theorem wGh_N {cy : ClassId} {aO aL aN aT aK aI : Nat → Nat} {o rw rf lg sg : AR} {N T K I : MS} : wGh cy aO aL aN aT aK aI o rw rf lg sg N T K I = ((aO 0, eGh aO aL aN aT aK aI o) :: (aO 1, gA cy 12 rw) :: (aO 2, gA cy 7 rf) :: (wLe cy aL lg sg)) ++ (wMu cy aN N ++ (wMu cy aT T ++ (wMu cy aK K ++ (wMu cy aI I)))) := by
  simp only [wGh, List.cons_append, List.nil_append, List.append_assoc, List.append_nil]
theorem cp_gh_N {cy : ClassId} {aO aL aN aT aK aI : Nat → Nat} {o rw rf lg sg : AR} {N T K I : MS} {D : va_G} {cl : List vw_C} {H : Heap} (hP : va_P D cl (wGh cy aO aL aN aT aK aI o rw rf lg sg N T K I) H) : va_P D cl (wMu cy aN N) H := gP_mid (wGh_N ▸ hP)
theorem cd_gh_N {cy : ClassId} {aO aL aN aT aK aI : Nat → Nat} {o rw rf lg sg : AR} {N T K I : MS} {A : Nat → Prop} (hD : va_D A (wGh cy aO aL aN aT aK aI o rw rf lg sg N T K I)) : va_D A (wMu cy aN N) := gD_mid (wGh_N ▸ hD)
theorem cj_gh_N {cy : ClassId} {aO aL aN aT aK aI : Nat → Nat} {o rw rf lg sg : AR} {N T K I : MS} {D : va_G} {cl : List vw_C} {H : Heap} {A : Nat → Prop} (hP : va_P D cl (wGh cy aO aL aN aT aK aI o rw rf lg sg N T K I) H) (hD : va_D A (wGh cy aO aL aN aT aK aI o rw rf lg sg N T K I)) (X : MS) (H1 : Heap) (hk : ∀ q : Nat, q < H.size → ¬ va_A (wMu cy aN N) H.size q → H1[q]? = H[q]?) (hP1 : va_P D cl (wMu cy aN X) H1) : va_P D cl (wGh cy aO aL aN aT aK aI o rw rf lg sg X T K I) H1 ∧ va_D A (wGh cy aO aL aN aT aK aI o rw rf lg sg X T K I) := by
  rw [wGh_N] at hP hD ⊢
  exact gJ_mid hP hD hk hP1 rfl
theorem cp_gh_Nr {cy : ClassId} {aO aL aN aT aK aI : Nat → Nat} {o rw rf lg sg : AR} {N T K I : MS} {D : va_G} {cl : List vw_C} {H : Heap} (hP : va_P D cl (wGh cy aO aL aN aT aK aI o rw rf lg sg N T K I) H) : va_P D cl (wRo cy (fun k => aN (k + 1)) (N 2) (N 3)) H := cp_mu_r (cp_gh_N hP)
theorem cd_gh_Nr {cy : ClassId} {aO aL aN aT aK aI : Nat → Nat} {o rw rf lg sg : AR} {N T K I : MS} {A : Nat → Prop} (hD : va_D A (wGh cy aO aL aN aT aK aI o rw rf lg sg N T K I)) : va_D A (wRo cy (fun k => aN (k + 1)) (N 2) (N 3)) := cd_mu_r (cd_gh_N hD)
theorem cj_gh_Nr {cy : ClassId} {aO aL aN aT aK aI : Nat → Nat} {o rw rf lg sg : AR} {N T K I : MS} {D : va_G} {cl : List vw_C} {H : Heap} {A : Nat → Prop} (hP : va_P D cl (wGh cy aO aL aN aT aK aI o rw rf lg sg N T K I) H) (hD : va_D A (wGh cy aO aL aN aT aK aI o rw rf lg sg N T K I)) (X Y : AR) (H1 : Heap) (hk : ∀ q : Nat, q < H.size → ¬ va_A (wRo cy (fun k => aN (k + 1)) (N 2) (N 3)) H.size q → H1[q]? = H[q]?) (hP1 : va_P D cl (wRo cy (fun k => aN (k + 1)) X Y) H1) : va_P D cl (wGh cy aO aL aN aT aK aI o rw rf lg sg (uc (uc N 2 X) 3 Y) T K I) H1 ∧ va_D A (wGh cy aO aL aN aT aK aI o rw rf lg sg (uc (uc N 2 X) 3 Y) T K I) :=
  cj_gh_N hP hD _ H1 (fun q h1 h2 => hk q h1 (fun h => h2 (gA_sub (ws := wMu cy aN N) [1, 2, 3] rfl q h))) (cj_mu_r (cp_gh_N hP) (cd_gh_N hD) X Y H1 hk hP1).1
theorem wGh_T {cy : ClassId} {aO aL aN aT aK aI : Nat → Nat} {o rw rf lg sg : AR} {N T K I : MS} : wGh cy aO aL aN aT aK aI o rw rf lg sg N T K I = ((aO 0, eGh aO aL aN aT aK aI o) :: (aO 1, gA cy 12 rw) :: (aO 2, gA cy 7 rf) :: (wLe cy aL lg sg ++ (wMu cy aN N))) ++ (wMu cy aT T ++ (wMu cy aK K ++ (wMu cy aI I))) := by
  simp only [wGh, List.cons_append, List.nil_append, List.append_assoc, List.append_nil]
theorem cp_gh_T {cy : ClassId} {aO aL aN aT aK aI : Nat → Nat} {o rw rf lg sg : AR} {N T K I : MS} {D : va_G} {cl : List vw_C} {H : Heap} (hP : va_P D cl (wGh cy aO aL aN aT aK aI o rw rf lg sg N T K I) H) : va_P D cl (wMu cy aT T) H := gP_mid (wGh_T ▸ hP)
theorem cd_gh_T {cy : ClassId} {aO aL aN aT aK aI : Nat → Nat} {o rw rf lg sg : AR} {N T K I : MS} {A : Nat → Prop} (hD : va_D A (wGh cy aO aL aN aT aK aI o rw rf lg sg N T K I)) : va_D A (wMu cy aT T) := gD_mid (wGh_T ▸ hD)
theorem cj_gh_T {cy : ClassId} {aO aL aN aT aK aI : Nat → Nat} {o rw rf lg sg : AR} {N T K I : MS} {D : va_G} {cl : List vw_C} {H : Heap} {A : Nat → Prop} (hP : va_P D cl (wGh cy aO aL aN aT aK aI o rw rf lg sg N T K I) H) (hD : va_D A (wGh cy aO aL aN aT aK aI o rw rf lg sg N T K I)) (X : MS) (H1 : Heap) (hk : ∀ q : Nat, q < H.size → ¬ va_A (wMu cy aT T) H.size q → H1[q]? = H[q]?) (hP1 : va_P D cl (wMu cy aT X) H1) : va_P D cl (wGh cy aO aL aN aT aK aI o rw rf lg sg N X K I) H1 ∧ va_D A (wGh cy aO aL aN aT aK aI o rw rf lg sg N X K I) := by
  rw [wGh_T] at hP hD ⊢
  exact gJ_mid hP hD hk hP1 rfl
theorem cp_gh_Tr {cy : ClassId} {aO aL aN aT aK aI : Nat → Nat} {o rw rf lg sg : AR} {N T K I : MS} {D : va_G} {cl : List vw_C} {H : Heap} (hP : va_P D cl (wGh cy aO aL aN aT aK aI o rw rf lg sg N T K I) H) : va_P D cl (wRo cy (fun k => aT (k + 1)) (T 2) (T 3)) H := cp_mu_r (cp_gh_T hP)
theorem cd_gh_Tr {cy : ClassId} {aO aL aN aT aK aI : Nat → Nat} {o rw rf lg sg : AR} {N T K I : MS} {A : Nat → Prop} (hD : va_D A (wGh cy aO aL aN aT aK aI o rw rf lg sg N T K I)) : va_D A (wRo cy (fun k => aT (k + 1)) (T 2) (T 3)) := cd_mu_r (cd_gh_T hD)
theorem cj_gh_Tr {cy : ClassId} {aO aL aN aT aK aI : Nat → Nat} {o rw rf lg sg : AR} {N T K I : MS} {D : va_G} {cl : List vw_C} {H : Heap} {A : Nat → Prop} (hP : va_P D cl (wGh cy aO aL aN aT aK aI o rw rf lg sg N T K I) H) (hD : va_D A (wGh cy aO aL aN aT aK aI o rw rf lg sg N T K I)) (X Y : AR) (H1 : Heap) (hk : ∀ q : Nat, q < H.size → ¬ va_A (wRo cy (fun k => aT (k + 1)) (T 2) (T 3)) H.size q → H1[q]? = H[q]?) (hP1 : va_P D cl (wRo cy (fun k => aT (k + 1)) X Y) H1) : va_P D cl (wGh cy aO aL aN aT aK aI o rw rf lg sg N (uc (uc T 2 X) 3 Y) K I) H1 ∧ va_D A (wGh cy aO aL aN aT aK aI o rw rf lg sg N (uc (uc T 2 X) 3 Y) K I) :=
  cj_gh_T hP hD _ H1 (fun q h1 h2 => hk q h1 (fun h => h2 (gA_sub (ws := wMu cy aT T) [1, 2, 3] rfl q h))) (cj_mu_r (cp_gh_T hP) (cd_gh_T hD) X Y H1 hk hP1).1
theorem wGh_K {cy : ClassId} {aO aL aN aT aK aI : Nat → Nat} {o rw rf lg sg : AR} {N T K I : MS} : wGh cy aO aL aN aT aK aI o rw rf lg sg N T K I = ((aO 0, eGh aO aL aN aT aK aI o) :: (aO 1, gA cy 12 rw) :: (aO 2, gA cy 7 rf) :: (wLe cy aL lg sg ++ (wMu cy aN N ++ (wMu cy aT T)))) ++ (wMu cy aK K ++ (wMu cy aI I)) := by
  simp only [wGh, List.cons_append, List.nil_append, List.append_assoc, List.append_nil]
theorem cp_gh_K {cy : ClassId} {aO aL aN aT aK aI : Nat → Nat} {o rw rf lg sg : AR} {N T K I : MS} {D : va_G} {cl : List vw_C} {H : Heap} (hP : va_P D cl (wGh cy aO aL aN aT aK aI o rw rf lg sg N T K I) H) : va_P D cl (wMu cy aK K) H := gP_mid (wGh_K ▸ hP)
theorem cd_gh_K {cy : ClassId} {aO aL aN aT aK aI : Nat → Nat} {o rw rf lg sg : AR} {N T K I : MS} {A : Nat → Prop} (hD : va_D A (wGh cy aO aL aN aT aK aI o rw rf lg sg N T K I)) : va_D A (wMu cy aK K) := gD_mid (wGh_K ▸ hD)
theorem cj_gh_K {cy : ClassId} {aO aL aN aT aK aI : Nat → Nat} {o rw rf lg sg : AR} {N T K I : MS} {D : va_G} {cl : List vw_C} {H : Heap} {A : Nat → Prop} (hP : va_P D cl (wGh cy aO aL aN aT aK aI o rw rf lg sg N T K I) H) (hD : va_D A (wGh cy aO aL aN aT aK aI o rw rf lg sg N T K I)) (X : MS) (H1 : Heap) (hk : ∀ q : Nat, q < H.size → ¬ va_A (wMu cy aK K) H.size q → H1[q]? = H[q]?) (hP1 : va_P D cl (wMu cy aK X) H1) : va_P D cl (wGh cy aO aL aN aT aK aI o rw rf lg sg N T X I) H1 ∧ va_D A (wGh cy aO aL aN aT aK aI o rw rf lg sg N T X I) := by
  rw [wGh_K] at hP hD ⊢
  exact gJ_mid hP hD hk hP1 rfl
theorem wGh_I {cy : ClassId} {aO aL aN aT aK aI : Nat → Nat} {o rw rf lg sg : AR} {N T K I : MS} : wGh cy aO aL aN aT aK aI o rw rf lg sg N T K I = ((aO 0, eGh aO aL aN aT aK aI o) :: (aO 1, gA cy 12 rw) :: (aO 2, gA cy 7 rf) :: (wLe cy aL lg sg ++ (wMu cy aN N ++ (wMu cy aT T ++ (wMu cy aK K))))) ++ (wMu cy aI I ++ ([])) := by
  simp only [wGh, List.cons_append, List.nil_append, List.append_assoc, List.append_nil]
theorem cp_gh_I {cy : ClassId} {aO aL aN aT aK aI : Nat → Nat} {o rw rf lg sg : AR} {N T K I : MS} {D : va_G} {cl : List vw_C} {H : Heap} (hP : va_P D cl (wGh cy aO aL aN aT aK aI o rw rf lg sg N T K I) H) : va_P D cl (wMu cy aI I) H := gP_mid (wGh_I ▸ hP)
theorem cd_gh_I {cy : ClassId} {aO aL aN aT aK aI : Nat → Nat} {o rw rf lg sg : AR} {N T K I : MS} {A : Nat → Prop} (hD : va_D A (wGh cy aO aL aN aT aK aI o rw rf lg sg N T K I)) : va_D A (wMu cy aI I) := gD_mid (wGh_I ▸ hD)
theorem cj_gh_I {cy : ClassId} {aO aL aN aT aK aI : Nat → Nat} {o rw rf lg sg : AR} {N T K I : MS} {D : va_G} {cl : List vw_C} {H : Heap} {A : Nat → Prop} (hP : va_P D cl (wGh cy aO aL aN aT aK aI o rw rf lg sg N T K I) H) (hD : va_D A (wGh cy aO aL aN aT aK aI o rw rf lg sg N T K I)) (X : MS) (H1 : Heap) (hk : ∀ q : Nat, q < H.size → ¬ va_A (wMu cy aI I) H.size q → H1[q]? = H[q]?) (hP1 : va_P D cl (wMu cy aI X) H1) : va_P D cl (wGh cy aO aL aN aT aK aI o rw rf lg sg N T K X) H1 ∧ va_D A (wGh cy aO aL aN aT aK aI o rw rf lg sg N T K X) := by
  rw [wGh_I] at hP hD ⊢
  exact gJ_mid hP hD hk hP1 rfl
theorem hin0 : ∀ w ∈ u_ws RX0 TX0 2, w ∈ gT := fun w hw => by
  obtain ⟨k, hk, rfl⟩ := List.mem_map.mp hw
  have hk := List.mem_range.mp hk
  rcases (show k = 0 ∨ k = 1 by omega) with rfl | rfl
  · exact k183
  · exact k185
theorem hin1 : ∀ w ∈ u_ws RX1 TX1 15, w ∈ gT := fun w hw => by
  obtain ⟨k, hk, rfl⟩ := List.mem_map.mp hw
  have hk := List.mem_range.mp hk
  rcases (show k = 0 ∨ k = 1 ∨ k = 2 ∨ k = 3 ∨ k = 4 ∨ k = 5 ∨ k = 6 ∨ k = 7 ∨ k = 8 ∨ k = 9 ∨ k = 10 ∨ k = 11 ∨ k = 12 ∨ k = 13 ∨ k = 14 by omega) with rfl | rfl | rfl | rfl | rfl | rfl | rfl | rfl | rfl | rfl | rfl | rfl | rfl | rfl | rfl
  · exact k144
  · exact k146
  · exact k148
  · exact k150
  · exact k152
  · exact k154
  · exact k156
  · exact k158
  · exact k160
  · exact k162
  · exact k164
  · exact k166
  · exact k168
  · exact k170
  · exact k172
theorem hin2 : ∀ w ∈ u_ws RX2 TX2 2, w ∈ gT := fun w hw => by
  obtain ⟨k, hk, rfl⟩ := List.mem_map.mp hw
  have hk := List.mem_range.mp hk
  rcases (show k = 0 ∨ k = 1 by omega) with rfl | rfl
  · exact k107
  · exact k109
theorem hin3 : ∀ w ∈ u_ws RX3 TX3 9, w ∈ gT := fun w hw => by
  obtain ⟨k, hk, rfl⟩ := List.mem_map.mp hw
  have hk := List.mem_range.mp hk
  rcases (show k = 0 ∨ k = 1 ∨ k = 2 ∨ k = 3 ∨ k = 4 ∨ k = 5 ∨ k = 6 ∨ k = 7 ∨ k = 8 by omega) with rfl | rfl | rfl | rfl | rfl | rfl | rfl | rfl | rfl
  · exact k197
  · exact k199
  · exact k201
  · exact k203
  · exact k205
  · exact k207
  · exact k209
  · exact k211
  · exact k213
theorem hin4 : ∀ w ∈ u_ws RX4 TX4 17, w ∈ gT := fun w hw => by
  obtain ⟨k, hk, rfl⟩ := List.mem_map.mp hw
  have hk := List.mem_range.mp hk
  rcases (show k = 0 ∨ k = 1 ∨ k = 2 ∨ k = 3 ∨ k = 4 ∨ k = 5 ∨ k = 6 ∨ k = 7 ∨ k = 8 ∨ k = 9 ∨ k = 10 ∨ k = 11 ∨ k = 12 ∨ k = 13 ∨ k = 14 ∨ k = 15 ∨ k = 16 by omega) with rfl | rfl | rfl | rfl | rfl | rfl | rfl | rfl | rfl | rfl | rfl | rfl | rfl | rfl | rfl | rfl | rfl
  · exact k773
  · exact k775
  · exact k777
  · exact k779
  · exact k781
  · exact k783
  · exact k785
  · exact k787
  · exact k789
  · exact k791
  · exact k793
  · exact k795
  · exact k797
  · exact k799
  · exact k801
  · exact k803
  · exact k805
end
section
section GV2
theorem gArrV {cA : ClassId} {n : Nat} {f g : Nat → Value} (h : ∀ j : Nat, j < n → f j = g j) : arrV cA n f = arrV cA n g := by
  unfold arrV
  have e : (fun j : Fin n => f j.val) = (fun j : Fin n => g j.val) := funext fun j => h j.1 j.2
  rw [e]
variable {p : Program} {l : Launch} {e : Env} {R : Room} {s : State} {m : MethodId} {args : Array Value} {below : List Frame} {meth : Method} {c : Code} {H : Heap} {locs : List Loc} {cells slots : Nat} {Q : State → Prop}
variable {cc : ByteArray} {nL : Nat} {own : String} {pc : Nat} {ls : Array Slot} {rest : List Value} {D : va_G} {cy : ClassId} {A : Nat → Prop} {H0 : Heap} {ws : va_W}
theorem gv_tableIn (F : CallFix p m c cc nL s args gT own) {dflt lo hi : Int} {offs : Array Int} {len : Nat} {a v off : Int} {tgt : Nat} (hg : gR a) (hv : a = v) (h1 : lo ≤ v) (h2 : v ≤ hi) (hdg : decode cc pc = .ok (.tableswitch dflt lo hi offs, len)) (ho : offs[(v - lo).toNat]? = some off) (ht : (pc : Int) + off = (tgt : Int))
    (k : W p l e R s m args below meth c H locs cells slots Q (F0 m tgt ls rest)) : W p l e R s m args below meth c H locs cells slots Q (F0 m pc ls (.int (iI a) :: rest)) := by
  subst hv
  refine lv_tableIn F.1 F.2.1 hdg ?_ ?_ (off := off) ?_ ht k
  · rw [iI_toInt hg]; omega
  · rw [iI_toInt hg]; omega
  · rw [iI_toInt hg]; exact ho
theorem gv_tableOut (F : CallFix p m c cc nL s args gT own) {dflt lo hi : Int} {offs : Array Int} {len : Nat} {a : Int} {tgt : Nat} (hg : gR a) (h : a < lo ∨ hi < a) (hdg : decode cc pc = .ok (.tableswitch dflt lo hi offs, len)) (ht : (pc : Int) + dflt = (tgt : Int))
    (k : W p l e R s m args below meth c H locs cells slots Q (F0 m tgt ls rest)) : W p l e R s m args below meth c H locs cells slots Q (F0 m pc ls (.int (iI a) :: rest)) := lv_tableOut F.1 F.2.1 hdg (by rw [iI_toInt hg]; exact h) ht k
theorem gv_lookup (F : CallFix p m c cc nL s args gT own) {dflt : Int} {ps : Array (Int × Int)} {len : Nat} {a off : Int} {tgt : Nat} (hg : gR a) (hdg : decode cc pc = .ok (.lookupswitch dflt ps, len)) (hp : (ps.toList.zip (ps.toList.drop 1)).all (fun (a, next) => a.1 < next.1) = true) (ho : Op.lookupswitch.offset ps.toList dflt a = off) (ht : (pc : Int) + off = (tgt : Int))
    (k : W p l e R s m args below meth c H locs cells slots Q (F0 m tgt ls rest)) : W p l e R s m args below meth c H locs cells slots Q (F0 m pc ls (.int (iI a) :: rest)) := lv_lookup F.1 F.2.1 hdg hp (by rw [iI_toInt hg]; exact ho) ht k
theorem gv_mmin (F : CallFix p m c cc nL s args gT own) {idx : Nat} (hlk : Cond.methodLink own idx Lib.Math.min.name ∈ gT) {a b : Int} (ha : gR a) (hb : gR b) (hl : ls.size = nL) (hfr : 1 ≤ R.frames) (hlo : (rest.map fun v => v.category).sum + 13 ≤ R.locals) (hc : cells ≤ R.cells ∧ slots ≤ R.slots) (hdg : decode cc pc = .ok (.invokestatic idx, 3)) (h1 : Cond.static Lib.Math.min.name ∈ gT) (h2 : Cond.initialized "java/lang/Math" ∈ gT) (h3 : Cond.code Lib.Math.min.name Lib.Math.min.code 2 (some .int) ∈ gT)
    (k : W p l e R s m args below meth c H locs cells slots Q (F0 m (pc + 3) ls (.int (iI (min a b)) :: rest))) : W p l e R s m args below meth c H locs cells slots Q (F0 m pc ls (.int (iI b) :: .int (iI a) :: rest)) := by
  refine va_mmin F.1 F.2.1 (F.2.2.1.trans hl.symm) F.2.2.2.1 (F.2.2.2.2 _ hlk) (F.2.2.2.2 _ h1) (F.2.2.2.2 _ h2) (F.2.2.2.2 _ h3) hfr hlo hc.1 hc.2 hdg ?_
  rw [show (if iI b < iI a then iI b else iI a) = iI (min a b) from by
    by_cases q : b < a
    · rw [if_pos ((iI_lt hb ha).mpr q), show min a b = b by omega]
    · rw [if_neg (fun z => q ((iI_lt hb ha).mp z)), show min a b = a by omega]]
  exact k
/-- a whole row copied over another of the same length -/
theorem gv_acopy (F : CallFix p m c cc nL s args gT own) {idx : Nat} (hlk : Cond.methodLink own idx arraycopyName ∈ gT) (h1 : Cond.native arraycopyName ∈ gT) (h2 : Cond.static arraycopyName ∈ gT) (h3 : Cond.initialized "java/lang/System" ∈ gT) (hK : va_K D vwCl [(cy, .int)] s) (hP : va_P D vwCl ws H) (hD : va_D A ws) (hS : va_S A H0 H locs) (q0 q1 : Nat) {a0 a : Nat} {n : Nat} {f g : AR} {N : Int} {ws' : va_W} (ha0 : ws[q0]? = some (a0, gA cy n f)) (ha1 : ws[q1]? = some (a, gA cy n g)) (hN : (n : Int) = N) (hn : n < 2 ^ 31) (heq : ws.set q1 (a, gA cy n f) = ws') (hl : ls.size = nL) (hfr : 1 ≤ R.frames) (hlo : (rest.map fun v => v.category).sum + (nativeFrameWords "java/lang/System" "arraycopy" 5 + 11) ≤ R.locals) (hdg : decode cc pc = .ok (.invokestatic idx, 3))
    (k : ∀ (H : Heap) (locs : List Loc), va_P D vwCl ws' H → va_D A ws' → va_S A H0 H locs → W p l e R s m args below meth c H locs cells slots Q (F0 m (pc + 3) ls rest)) : W p l e R s m args below meth c H locs cells slots Q (F0 m pc ls (.int (iI N) :: .int (iI 0) :: .ref a :: .int (iI 0) :: .ref a0 :: rest)) := by
  have hNR : gR N := ⟨by omega, by omega⟩
  have e0 : (iI 0).toNatClampNeg = 0 := rfl
  have eN : (iI N).toNatClampNeg = n := by rw [iI_clamp (by omega) (by omega)]; omega
  have z0 : ¬ iI 0 < 0 := by decide
  have zN : ¬ iI N < 0 := by rw [show (0 : Int32) = iI 0 from rfl, iI_lt hNR gR_0]; omega
  refine va_copyi F.1 F.2.1 (F.2.2.1.trans hl.symm) F.2.2.2.1 (F.2.2.2.2 _ hlk) (F.2.2.2.2 _ h1) (F.2.2.2.2 _ h2) (F.2.2.2.2 _ h3) hK hP hD hS q0 q1 0 0 (n0 := n) (n1 := n) (f := fun j : Nat => iI (f (j : Int))) (g := fun j : Nat => iI (g (j : Int))) ha0 ha1 rfl rfl rfl z0 z0 zN (by rw [e0, eN]; omega) (by rw [e0, eN]; omega) (fun i _ => rfl) hfr hlo hdg (fun H1 locs1 hP1 hD1 hS1 => ?_)
  subst heq
  refine k H1 locs1 ?_ (hD.adr ?_) hS1
  · intro i q hi
    by_cases hq : i = q1
    · subst hq
      have hlen := (List.getElem?_eq_some_iff.mp ha1).1
      rw [List.getElem?_set_self hlen] at hi
      cases hi
      have h9 := hP1 i _ (List.getElem?_set_self hlen)
      rw [e0, eN] at h9
      have h10 : H1[a]? = some (vp_cell cy (n, .inl (va_cpy (fun j : Nat => iI (f (j : Int))) (fun j : Nat => iI (g (j : Int))) 0 0 n))) := h9
      show H1[a]? = some (vp_cell cy (n, .inl (fun j : Nat => iI (f (j : Int)))))
      rw [h10]
      congr 1
      rw [vp_cell_i, vp_cell_i]
      exact gArrV (fun j hj => by
        show Value.int (va_cpy _ _ 0 0 n j) = _
        rw [show va_cpy (fun j : Nat => iI (f (j : Int))) (fun j : Nat => iI (g (j : Int))) 0 0 n j = iI (f (j : Int)) from by
          unfold va_cpy
          rw [if_pos ⟨by omega, by omega⟩]
          simp])
    · rw [List.getElem?_set_ne (Ne.symm hq)] at hi
      exact hP1 i q (by rw [List.getElem?_set_ne (Ne.symm hq)]; exact hi)
  · rw [List.map_set]
    refine List.ext_getElem? (fun i => ?_)
    by_cases hq : q1 = i
    · subst hq
      have hlen := (List.getElem?_eq_some_iff.mp ha1).1
      rw [List.getElem?_set_self (by simpa using hlen), List.getElem?_map, ha1]
      rfl
    · rw [List.getElem?_set_ne hq]
end GV2
theorem wGh_stN {cy : ClassId} {aO aL aN aT aK aI : Nat → Nat} {o rw rf lg sg : AR} {N T K I : MS} (c : Nat) (hc : 2 ≤ c ∧ c ≤ 14) (n : Nat) (hn : n = if c ≤ 3 then 49 else if c ≤ 7 then 8 else if c ≤ 12 then 5 else 40) (i v : Int) : (wGh cy aO aL aN aT aK aI o rw rf lg sg N T K I).set (5 + c) (aN c, gA cy n (su (N c) i v)) = wGh cy aO aL aN aT aK aI o rw rf lg sg (st N c i v) T K I := by
  rw [wGh_N, wGh_N, ← wMu_st c hc n hn i v]
  have hl : (wMu cy aN N).length = 15 := rfl
  rw [List.set_append_right _ _ (by simp [wLe, wMu]; try omega), List.set_append_left _ _ (by simp [wLe, wMu]; try omega)]
  congr 3
  simp [wLe, wMu]; try omega
theorem wGh_stT {cy : ClassId} {aO aL aN aT aK aI : Nat → Nat} {o rw rf lg sg : AR} {N T K I : MS} (c : Nat) (hc : 2 ≤ c ∧ c ≤ 14) (n : Nat) (hn : n = if c ≤ 3 then 49 else if c ≤ 7 then 8 else if c ≤ 12 then 5 else 40) (i v : Int) : (wGh cy aO aL aN aT aK aI o rw rf lg sg N T K I).set (20 + c) (aT c, gA cy n (su (T c) i v)) = wGh cy aO aL aN aT aK aI o rw rf lg sg N (st T c i v) K I := by
  rw [wGh_T, wGh_T, ← wMu_st c hc n hn i v]
  have hl : (wMu cy aT T).length = 15 := rfl
  rw [List.set_append_right _ _ (by simp [wLe, wMu]; try omega), List.set_append_left _ _ (by simp [wLe, wMu]; try omega)]
  congr 3
  simp [wLe, wMu]; try omega
theorem wGh_o4 {cy : ClassId} {aO aL aN aT aK aI : Nat → Nat} {o rw rf lg sg : AR} {N T K I : MS} {v : Int} {fs : List Value} (hf : fs = [.ref (aN 0), .ref (aT 0), .ref (aK 0), .ref (aI 0), .int (iI (o 4)), .ref (aL 0), .ref (aO 1), .int (iI (o 7)), .ref (aO 2)]) : (wGh cy aO aL aN aT aK aI o rw rf lg sg N T K I).set 0 (aO 0, .inr (3, fs.set 4 (.int (iI v)))) = wGh cy aO aL aN aT aK aI (su o 4 v) rw rf lg sg N T K I := by
  subst hf
  simp [wGh, eGh, su]
theorem wGh_o7 {cy : ClassId} {aO aL aN aT aK aI : Nat → Nat} {o rw rf lg sg : AR} {N T K I : MS} {v : Int} {fs : List Value} (hf : fs = [.ref (aN 0), .ref (aT 0), .ref (aK 0), .ref (aI 0), .int (iI (o 4)), .ref (aL 0), .ref (aO 1), .int (iI (o 7)), .ref (aO 2)]) : (wGh cy aO aL aN aT aK aI o rw rf lg sg N T K I).set 0 (aO 0, .inr (3, fs.set 7 (.int (iI v)))) = wGh cy aO aL aN aT aK aI (su o 7 v) rw rf lg sg N T K I := by
  subst hf
  simp [wGh, eGh, su]
theorem wMu_o1 {cy : ClassId} {ad : Nat → Nat} {M : MS} {v : Int} {fs : List Value} (hf : eMu ad M = .inr (1, fs)) : (wMu cy ad M).set 0 (ad 0, .inr (1, fs.set 1 (.int (iI v)))) = wMu cy ad (st M 0 1 v) := by
  cases hf
  simp [wMu, eMu, su, st, uc]
theorem wMu_o2 {cy : ClassId} {ad : Nat → Nat} {M : MS} {v : Int} {fs : List Value} (hf : eMu ad M = .inr (1, fs)) : (wMu cy ad M).set 0 (ad 0, .inr (1, fs.set 2 (.int (iI v)))) = wMu cy ad (st M 0 2 v) := by
  cases hf
  simp [wMu, eMu, su, st, uc]
theorem wMu_o7 {cy : ClassId} {ad : Nat → Nat} {M : MS} {v : Int} {fs : List Value} (hf : eMu ad M = .inr (1, fs)) : (wMu cy ad M).set 0 (ad 0, .inr (1, fs.set 7 (.int (iI v)))) = wMu cy ad (st M 0 7 v) := by
  cases hf
  simp [wMu, eMu, su, st, uc]
theorem wLe_o1 {cy : ClassId} {ad : Nat → Nat} {lg sg : AR} {v : Int} {fs : List Value} (hf : eLe ad lg = .inr (0, fs)) : (wLe cy ad lg sg).set 0 (ad 0, .inr (0, fs.set 1 (.int (iI v)))) = wLe cy ad (su lg 1 v) sg := by
  cases hf
  simp [wLe, eLe, su]
theorem wMd_o4 {cy : ClassId} {ad : Nat → Nat} {o s m im wa le ro re fa nu : AR} {v : Int} {fs : List Value} (hf : eMd ad o = .inr (4, fs)) : (wMd cy ad o s m im wa le ro re fa nu).set 0 (ad 0, .inr (4, fs.set 4 (.int (iI v)))) = wMd cy ad (su o 4 v) s m im wa le ro re fa nu := by
  cases hf
  simp [wMd, eMd, su]
theorem wMd_o8 {cy : ClassId} {ad : Nat → Nat} {o s m im wa le ro re fa nu : AR} {v : Int} {fs : List Value} (hf : eMd ad o = .inr (4, fs)) : (wMd cy ad o s m im wa le ro re fa nu).set 0 (ad 0, .inr (4, fs.set 8 (.int (iI v)))) = wMd cy ad (su o 8 v) s m im wa le ro re fa nu := by
  cases hf
  simp [wMd, eMd, su]
theorem wMd_o9 {cy : ClassId} {ad : Nat → Nat} {o s m im wa le ro re fa nu : AR} {v : Int} {fs : List Value} (hf : eMd ad o = .inr (4, fs)) : (wMd cy ad o s m im wa le ro re fa nu).set 0 (ad 0, .inr (4, fs.set 9 (.int (iI v)))) = wMd cy ad (su o 9 v) s m im wa le ro re fa nu := by
  cases hf
  simp [wMd, eMd, su]
theorem wMd_o11 {cy : ClassId} {ad : Nat → Nat} {o s m im wa le ro re fa nu : AR} {v : Int} {fs : List Value} (hf : eMd ad o = .inr (4, fs)) : (wMd cy ad o s m im wa le ro re fa nu).set 0 (ad 0, .inr (4, fs.set 11 (.int (iI v)))) = wMd cy ad (su o 11 v) s m im wa le ro re fa nu := by
  cases hf
  simp [wMd, eMd, su]
theorem wMd_o13 {cy : ClassId} {ad : Nat → Nat} {o s m im wa le ro re fa nu : AR} {v : Int} {fs : List Value} (hf : eMd ad o = .inr (4, fs)) : (wMd cy ad o s m im wa le ro re fa nu).set 0 (ad 0, .inr (4, fs.set 13 (.int (iI v)))) = wMd cy ad (su o 13 v) s m im wa le ro re fa nu := by
  cases hf
  simp [wMd, eMd, su]
theorem wMd_o14 {cy : ClassId} {ad : Nat → Nat} {o s m im wa le ro re fa nu : AR} {v : Int} {fs : List Value} (hf : eMd ad o = .inr (4, fs)) : (wMd cy ad o s m im wa le ro re fa nu).set 0 (ad 0, .inr (4, fs.set 14 (.int (iI v)))) = wMd cy ad (su o 14 v) s m im wa le ro re fa nu := by
  cases hf
  simp [wMd, eMd, su]
theorem wMd_o15 {cy : ClassId} {ad : Nat → Nat} {o s m im wa le ro re fa nu : AR} {v : Int} {fs : List Value} (hf : eMd ad o = .inr (4, fs)) : (wMd cy ad o s m im wa le ro re fa nu).set 0 (ad 0, .inr (4, fs.set 15 (.int (iI v)))) = wMd cy ad (su o 15 v) s m im wa le ro re fa nu := by
  cases hf
  simp [wMd, eMd, su]
theorem wMd_o16 {cy : ClassId} {ad : Nat → Nat} {o s m im wa le ro re fa nu : AR} {v : Int} {fs : List Value} (hf : eMd ad o = .inr (4, fs)) : (wMd cy ad o s m im wa le ro re fa nu).set 0 (ad 0, .inr (4, fs.set 16 (.int (iI v)))) = wMd cy ad (su o 16 v) s m im wa le ro re fa nu := by
  cases hf
  simp [wMd, eMd, su]
end
