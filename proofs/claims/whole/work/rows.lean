section
-- ===== PART A: goes FIRST, ahead of the names: the tables' words, and 'selects' of the private methods out of them =====
/-- a private method of a class that the tables say can be made, by its rows of tables_1 -/
def lw_okq (q : MethodName × Nat) : Prop := (q.1.cls ≠ "java/lang/invoke/MethodHandle" ∧ q.1.cls ≠ "java/lang/invoke/VarHandle") ∧ Cond.instantiable q.1.cls q.2 ∈ tables_1 ∧ Cond.privateMethod q.1 ∈ tables_1 ∧ Cond.instanceMethod q.1 ∈ tables_1
theorem lw_p0 : lw_okq (⟨"ToastGaol", "learn", "(I)V"⟩, 11) := ⟨⟨by decide +kernel, by decide +kernel⟩, List.mem_of_getElem? (i := 16) (by decide +kernel), List.mem_of_getElem? (i := 407) (by decide +kernel), List.mem_of_getElem? (i := 408) (by decide +kernel)⟩
theorem lw_p1 : lw_okq (⟨"ToastGaol$Setting", "takeRack", "(LToastGaol$Text;)V"⟩, 12) := ⟨⟨by decide +kernel, by decide +kernel⟩, List.mem_of_getElem? (i := 26) (by decide +kernel), List.mem_of_getElem? (i := 411) (by decide +kernel), List.mem_of_getElem? (i := 412) (by decide +kernel)⟩
theorem lw_p2 : lw_okq (⟨"ToastGaol$Text", "faultAsRack", "()I"⟩, 2) := ⟨⟨by decide +kernel, by decide +kernel⟩, List.mem_of_getElem? (i := 325) (by decide +kernel), List.mem_of_getElem? (i := 415) (by decide +kernel), List.mem_of_getElem? (i := 416) (by decide +kernel)⟩
theorem lw_p3 : lw_okq (⟨"ToastGaol$Setting", "takeSlices", "(LToastGaol$Text;)V"⟩, 12) := ⟨⟨by decide +kernel, by decide +kernel⟩, List.mem_of_getElem? (i := 26) (by decide +kernel), List.mem_of_getElem? (i := 425) (by decide +kernel), List.mem_of_getElem? (i := 426) (by decide +kernel)⟩
theorem lw_p4 : lw_okq (⟨"ToastGaol$Text", "faultAsSlices", "()I"⟩, 2) := ⟨⟨by decide +kernel, by decide +kernel⟩, List.mem_of_getElem? (i := 325) (by decide +kernel), List.mem_of_getElem? (i := 429) (by decide +kernel), List.mem_of_getElem? (i := 430) (by decide +kernel)⟩
theorem lw_p5 : lw_okq (⟨"ToastGaol", "isSlice", "(I)Z"⟩, 11) := ⟨⟨by decide +kernel, by decide +kernel⟩, List.mem_of_getElem? (i := 16) (by decide +kernel), List.mem_of_getElem? (i := 462) (by decide +kernel), List.mem_of_getElem? (i := 463) (by decide +kernel)⟩
theorem lw_p6 : lw_okq (⟨"ToastGaol$Sheet", "isLost", "()Z"⟩, 3) := ⟨⟨by decide +kernel, by decide +kernel⟩, List.mem_of_getElem? (i := 344) (by decide +kernel), List.mem_of_getElem? (i := 494) (by decide +kernel), List.mem_of_getElem? (i := 495) (by decide +kernel)⟩
theorem lw_p7 : lw_okq (⟨"ToastGaol", "found", "(I)I"⟩, 11) := ⟨⟨by decide +kernel, by decide +kernel⟩, List.mem_of_getElem? (i := 16) (by decide +kernel), List.mem_of_getElem? (i := 498) (by decide +kernel), List.mem_of_getElem? (i := 499) (by decide +kernel)⟩
theorem lw_p8 : lw_okq (⟨"ToastGaol$Log", "bringUpToDate", "()V"⟩, 6) := ⟨⟨by decide +kernel, by decide +kernel⟩, List.mem_of_getElem? (i := 104) (by decide +kernel), List.mem_of_getElem? (i := 507) (by decide +kernel), List.mem_of_getElem? (i := 508) (by decide +kernel)⟩
theorem lw_p9 : lw_okq (⟨"ToastGaol$Course", "begin", "()V"⟩, 9) := ⟨⟨by decide +kernel, by decide +kernel⟩, List.mem_of_getElem? (i := 110) (by decide +kernel), List.mem_of_getElem? (i := 511) (by decide +kernel), List.mem_of_getElem? (i := 512) (by decide +kernel)⟩
theorem lw_p10 : lw_okq (⟨"ToastGaol$Course", "untilButters", "(I)V"⟩, 9) := ⟨⟨by decide +kernel, by decide +kernel⟩, List.mem_of_getElem? (i := 110) (by decide +kernel), List.mem_of_getElem? (i := 515) (by decide +kernel), List.mem_of_getElem? (i := 516) (by decide +kernel)⟩
theorem lw_p11 : lw_okq (⟨"ToastGaol$Course", "comeAgain", "(I)V"⟩, 9) := ⟨⟨by decide +kernel, by decide +kernel⟩, List.mem_of_getElem? (i := 110) (by decide +kernel), List.mem_of_getElem? (i := 519) (by decide +kernel), List.mem_of_getElem? (i := 520) (by decide +kernel)⟩
theorem lw_p12 : lw_okq (⟨"ToastGaol$Course", "takePlaces", "()V"⟩, 9) := ⟨⟨by decide +kernel, by decide +kernel⟩, List.mem_of_getElem? (i := 110) (by decide +kernel), List.mem_of_getElem? (i := 523) (by decide +kernel), List.mem_of_getElem? (i := 524) (by decide +kernel)⟩
theorem lw_p13 : lw_okq (⟨"ToastGaol$Setting", "firesIn", "(I)I"⟩, 12) := ⟨⟨by decide +kernel, by decide +kernel⟩, List.mem_of_getElem? (i := 26) (by decide +kernel), List.mem_of_getElem? (i := 527) (by decide +kernel), List.mem_of_getElem? (i := 528) (by decide +kernel)⟩
theorem lw_p14 : lw_okq (⟨"ToastGaol$Course", "warm", "(I)V"⟩, 9) := ⟨⟨by decide +kernel, by decide +kernel⟩, List.mem_of_getElem? (i := 110) (by decide +kernel), List.mem_of_getElem? (i := 531) (by decide +kernel), List.mem_of_getElem? (i := 532) (by decide +kernel)⟩
theorem lw_p15 : lw_okq (⟨"ToastGaol$Course", "fromButters", "(II)V"⟩, 9) := ⟨⟨by decide +kernel, by decide +kernel⟩, List.mem_of_getElem? (i := 110) (by decide +kernel), List.mem_of_getElem? (i := 536) (by decide +kernel), List.mem_of_getElem? (i := 537) (by decide +kernel)⟩
def lw_privs_1 : List (MethodName × Nat) := [(⟨"ToastGaol", "learn", "(I)V"⟩, 11), (⟨"ToastGaol$Setting", "takeRack", "(LToastGaol$Text;)V"⟩, 12), (⟨"ToastGaol$Text", "faultAsRack", "()I"⟩, 2), (⟨"ToastGaol$Setting", "takeSlices", "(LToastGaol$Text;)V"⟩, 12), (⟨"ToastGaol$Text", "faultAsSlices", "()I"⟩, 2), (⟨"ToastGaol", "isSlice", "(I)Z"⟩, 11), (⟨"ToastGaol$Sheet", "isLost", "()Z"⟩, 3), (⟨"ToastGaol", "found", "(I)I"⟩, 11), (⟨"ToastGaol$Log", "bringUpToDate", "()V"⟩, 6), (⟨"ToastGaol$Course", "begin", "()V"⟩, 9), (⟨"ToastGaol$Course", "untilButters", "(I)V"⟩, 9), (⟨"ToastGaol$Course", "comeAgain", "(I)V"⟩, 9), (⟨"ToastGaol$Course", "takePlaces", "()V"⟩, 9), (⟨"ToastGaol$Setting", "firesIn", "(I)I"⟩, 12), (⟨"ToastGaol$Course", "warm", "(I)V"⟩, 9), (⟨"ToastGaol$Course", "fromButters", "(II)V"⟩, 9)]
theorem lw_r1 : ∀ q ∈ lw_privs_1, lw_okq q := List.forall_mem_cons.mpr ⟨lw_p0, List.forall_mem_cons.mpr ⟨lw_p1, List.forall_mem_cons.mpr ⟨lw_p2, List.forall_mem_cons.mpr ⟨lw_p3, List.forall_mem_cons.mpr ⟨lw_p4, List.forall_mem_cons.mpr ⟨lw_p5, List.forall_mem_cons.mpr ⟨lw_p6, List.forall_mem_cons.mpr ⟨lw_p7, List.forall_mem_cons.mpr ⟨lw_p8, List.forall_mem_cons.mpr ⟨lw_p9, List.forall_mem_cons.mpr ⟨lw_p10, List.forall_mem_cons.mpr ⟨lw_p11, List.forall_mem_cons.mpr ⟨lw_p12, List.forall_mem_cons.mpr ⟨lw_p13, List.forall_mem_cons.mpr ⟨lw_p14, List.forall_mem_cons.mpr ⟨lw_p15, fun _ h => absurd h List.not_mem_nil⟩⟩⟩⟩⟩⟩⟩⟩⟩⟩⟩⟩⟩⟩⟩⟩
theorem lw_p16 : lw_okq (⟨"ToastGaol$Course", "spread", "(I)V"⟩, 9) := ⟨⟨by decide +kernel, by decide +kernel⟩, List.mem_of_getElem? (i := 110) (by decide +kernel), List.mem_of_getElem? (i := 540) (by decide +kernel), List.mem_of_getElem? (i := 541) (by decide +kernel)⟩
theorem lw_p17 : lw_okq (⟨"ToastGaol$Course", "isIn", "(I)Z"⟩, 9) := ⟨⟨by decide +kernel, by decide +kernel⟩, List.mem_of_getElem? (i := 110) (by decide +kernel), List.mem_of_getElem? (i := 544) (by decide +kernel), List.mem_of_getElem? (i := 545) (by decide +kernel)⟩
theorem lw_p18 : lw_okq (⟨"ToastGaol$Course", "leave", "(II)V"⟩, 9) := ⟨⟨by decide +kernel, by decide +kernel⟩, List.mem_of_getElem? (i := 110) (by decide +kernel), List.mem_of_getElem? (i := 548) (by decide +kernel), List.mem_of_getElem? (i := 549) (by decide +kernel)⟩
theorem lw_p19 : lw_okq (⟨"ToastGaol$Course", "feelWarmth", "()V"⟩, 9) := ⟨⟨by decide +kernel, by decide +kernel⟩, List.mem_of_getElem? (i := 110) (by decide +kernel), List.mem_of_getElem? (i := 552) (by decide +kernel), List.mem_of_getElem? (i := 553) (by decide +kernel)⟩
theorem lw_p20 : lw_okq (⟨"ToastGaol$Course", "cooling", "(II)I"⟩, 9) := ⟨⟨by decide +kernel, by decide +kernel⟩, List.mem_of_getElem? (i := 110) (by decide +kernel), List.mem_of_getElem? (i := 556) (by decide +kernel), List.mem_of_getElem? (i := 557) (by decide +kernel)⟩
theorem lw_p21 : lw_okq (⟨"ToastGaol$Course", "letGo", "(II)V"⟩, 9) := ⟨⟨by decide +kernel, by decide +kernel⟩, List.mem_of_getElem? (i := 110) (by decide +kernel), List.mem_of_getElem? (i := 561) (by decide +kernel), List.mem_of_getElem? (i := 562) (by decide +kernel)⟩
theorem lw_p22 : lw_okq (⟨"ToastGaol$Log", "leastLeaning", "(I)I"⟩, 6) := ⟨⟨by decide +kernel, by decide +kernel⟩, List.mem_of_getElem? (i := 104) (by decide +kernel), List.mem_of_getElem? (i := 588) (by decide +kernel), List.mem_of_getElem? (i := 589) (by decide +kernel)⟩
theorem lw_p23 : lw_okq (⟨"ToastGaol$Plans", "findMove", "(I)V"⟩, 7) := ⟨⟨by decide +kernel, by decide +kernel⟩, List.mem_of_getElem? (i := 183) (by decide +kernel), List.mem_of_getElem? (i := 600) (by decide +kernel), List.mem_of_getElem? (i := 601) (by decide +kernel)⟩
theorem lw_p24 : lw_okq (⟨"ToastGaol$Plans", "letGoBefore", "(II)I"⟩, 7) := ⟨⟨by decide +kernel, by decide +kernel⟩, List.mem_of_getElem? (i := 183) (by decide +kernel), List.mem_of_getElem? (i := 604) (by decide +kernel), List.mem_of_getElem? (i := 605) (by decide +kernel)⟩
theorem lw_p25 : lw_okq (⟨"ToastGaol$Plans", "findSwap", "()V"⟩, 7) := ⟨⟨by decide +kernel, by decide +kernel⟩, List.mem_of_getElem? (i := 183) (by decide +kernel), List.mem_of_getElem? (i := 615) (by decide +kernel), List.mem_of_getElem? (i := 616) (by decide +kernel)⟩
theorem lw_p26 : lw_okq (⟨"ToastGaol$Plans", "stayOfAll", "()I"⟩, 7) := ⟨⟨by decide +kernel, by decide +kernel⟩, List.mem_of_getElem? (i := 183) (by decide +kernel), List.mem_of_getElem? (i := 619) (by decide +kernel), List.mem_of_getElem? (i := 620) (by decide +kernel)⟩
theorem lw_p27 : lw_okq (⟨"ToastGaol$Course", "howManyIn", "()I"⟩, 9) := ⟨⟨by decide +kernel, by decide +kernel⟩, List.mem_of_getElem? (i := 110) (by decide +kernel), List.mem_of_getElem? (i := 623) (by decide +kernel), List.mem_of_getElem? (i := 624) (by decide +kernel)⟩
theorem lw_p28 : lw_okq (⟨"ToastGaol$Plans", "stayIfSwapped", "(II)I"⟩, 7) := ⟨⟨by decide +kernel, by decide +kernel⟩, List.mem_of_getElem? (i := 183) (by decide +kernel), List.mem_of_getElem? (i := 627) (by decide +kernel), List.mem_of_getElem? (i := 628) (by decide +kernel)⟩
theorem lw_p29 : lw_okq (⟨"ToastGaol$Plans", "changeSlots", "(II)V"⟩, 7) := ⟨⟨by decide +kernel, by decide +kernel⟩, List.mem_of_getElem? (i := 183) (by decide +kernel), List.mem_of_getElem? (i := 631) (by decide +kernel), List.mem_of_getElem? (i := 632) (by decide +kernel)⟩
theorem lw_p30 : lw_okq (⟨"ToastGaol$Plans", "firstButterHour", "(I)I"⟩, 7) := ⟨⟨by decide +kernel, by decide +kernel⟩, List.mem_of_getElem? (i := 183) (by decide +kernel), List.mem_of_getElem? (i := 639) (by decide +kernel), List.mem_of_getElem? (i := 640) (by decide +kernel)⟩
theorem lw_p31 : lw_okq (⟨"ToastGaol$Plans", "greatestSummer", "()I"⟩, 7) := ⟨⟨by decide +kernel, by decide +kernel⟩, List.mem_of_getElem? (i := 183) (by decide +kernel), List.mem_of_getElem? (i := 648) (by decide +kernel), List.mem_of_getElem? (i := 649) (by decide +kernel)⟩
def lw_privs_2 : List (MethodName × Nat) := [(⟨"ToastGaol$Course", "spread", "(I)V"⟩, 9), (⟨"ToastGaol$Course", "isIn", "(I)Z"⟩, 9), (⟨"ToastGaol$Course", "leave", "(II)V"⟩, 9), (⟨"ToastGaol$Course", "feelWarmth", "()V"⟩, 9), (⟨"ToastGaol$Course", "cooling", "(II)I"⟩, 9), (⟨"ToastGaol$Course", "letGo", "(II)V"⟩, 9), (⟨"ToastGaol$Log", "leastLeaning", "(I)I"⟩, 6), (⟨"ToastGaol$Plans", "findMove", "(I)V"⟩, 7), (⟨"ToastGaol$Plans", "letGoBefore", "(II)I"⟩, 7), (⟨"ToastGaol$Plans", "findSwap", "()V"⟩, 7), (⟨"ToastGaol$Plans", "stayOfAll", "()I"⟩, 7), (⟨"ToastGaol$Course", "howManyIn", "()I"⟩, 9), (⟨"ToastGaol$Plans", "stayIfSwapped", "(II)I"⟩, 7), (⟨"ToastGaol$Plans", "changeSlots", "(II)V"⟩, 7), (⟨"ToastGaol$Plans", "firstButterHour", "(I)I"⟩, 7), (⟨"ToastGaol$Plans", "greatestSummer", "()I"⟩, 7)]
theorem lw_r2 : ∀ q ∈ lw_privs_2, lw_okq q := List.forall_mem_cons.mpr ⟨lw_p16, List.forall_mem_cons.mpr ⟨lw_p17, List.forall_mem_cons.mpr ⟨lw_p18, List.forall_mem_cons.mpr ⟨lw_p19, List.forall_mem_cons.mpr ⟨lw_p20, List.forall_mem_cons.mpr ⟨lw_p21, List.forall_mem_cons.mpr ⟨lw_p22, List.forall_mem_cons.mpr ⟨lw_p23, List.forall_mem_cons.mpr ⟨lw_p24, List.forall_mem_cons.mpr ⟨lw_p25, List.forall_mem_cons.mpr ⟨lw_p26, List.forall_mem_cons.mpr ⟨lw_p27, List.forall_mem_cons.mpr ⟨lw_p28, List.forall_mem_cons.mpr ⟨lw_p29, List.forall_mem_cons.mpr ⟨lw_p30, List.forall_mem_cons.mpr ⟨lw_p31, fun _ h => absurd h List.not_mem_nil⟩⟩⟩⟩⟩⟩⟩⟩⟩⟩⟩⟩⟩⟩⟩⟩
theorem lw_p32 : lw_okq (⟨"ToastGaol$Course", "goThrough", "()V"⟩, 9) := ⟨⟨by decide +kernel, by decide +kernel⟩, List.mem_of_getElem? (i := 110) (by decide +kernel), List.mem_of_getElem? (i := 652) (by decide +kernel), List.mem_of_getElem? (i := 653) (by decide +kernel)⟩
theorem lw_p33 : lw_okq (⟨"ToastGaol$Sightings", "add", "(III)V"⟩, 5) := ⟨⟨by decide +kernel, by decide +kernel⟩, List.mem_of_getElem? (i := 216) (by decide +kernel), List.mem_of_getElem? (i := 663) (by decide +kernel), List.mem_of_getElem? (i := 664) (by decide +kernel)⟩
theorem lw_p34 : lw_okq (⟨"ToastGaol$Guesses", "findHeats", "(I)V"⟩, 7) := ⟨⟨by decide +kernel, by decide +kernel⟩, List.mem_of_getElem? (i := 239) (by decide +kernel), List.mem_of_getElem? (i := 675) (by decide +kernel), List.mem_of_getElem? (i := 676) (by decide +kernel)⟩
theorem lw_p35 : lw_okq (⟨"ToastGaol$Guesses", "allComesOut", "(I)Z"⟩, 7) := ⟨⟨by decide +kernel, by decide +kernel⟩, List.mem_of_getElem? (i := 239) (by decide +kernel), List.mem_of_getElem? (i := 679) (by decide +kernel), List.mem_of_getElem? (i := 680) (by decide +kernel)⟩
theorem lw_p36 : lw_okq (⟨"ToastGaol$Sightings", "lastHour", "()I"⟩, 5) := ⟨⟨by decide +kernel, by decide +kernel⟩, List.mem_of_getElem? (i := 216) (by decide +kernel), List.mem_of_getElem? (i := 683) (by decide +kernel), List.mem_of_getElem? (i := 684) (by decide +kernel)⟩
theorem lw_p37 : lw_okq (⟨"ToastGaol$Sightings", "agreeWith", "(LToastGaol$Course;I)Z"⟩, 5) := ⟨⟨by decide +kernel, by decide +kernel⟩, List.mem_of_getElem? (i := 216) (by decide +kernel), List.mem_of_getElem? (i := 692) (by decide +kernel), List.mem_of_getElem? (i := 693) (by decide +kernel)⟩
theorem lw_p38 : lw_okq (⟨"ToastGaol$Guesses", "heatAt", "(I)I"⟩, 7) := ⟨⟨by decide +kernel, by decide +kernel⟩, List.mem_of_getElem? (i := 239) (by decide +kernel), List.mem_of_getElem? (i := 697) (by decide +kernel), List.mem_of_getElem? (i := 698) (by decide +kernel)⟩
theorem lw_p39 : lw_okq (⟨"ToastGaol$Guesses", "slotsOf", "(I)I"⟩, 7) := ⟨⟨by decide +kernel, by decide +kernel⟩, List.mem_of_getElem? (i := 239) (by decide +kernel), List.mem_of_getElem? (i := 705) (by decide +kernel), List.mem_of_getElem? (i := 706) (by decide +kernel)⟩
theorem lw_p40 : lw_okq (⟨"ToastGaol$Guesses", "nextToTouch", "(I)I"⟩, 7) := ⟨⟨by decide +kernel, by decide +kernel⟩, List.mem_of_getElem? (i := 239) (by decide +kernel), List.mem_of_getElem? (i := 713) (by decide +kernel), List.mem_of_getElem? (i := 714) (by decide +kernel)⟩
theorem lw_p41 : lw_okq (⟨"ToastGaol$Guesses", "tallyNoted", "()V"⟩, 7) := ⟨⟨by decide +kernel, by decide +kernel⟩, List.mem_of_getElem? (i := 239) (by decide +kernel), List.mem_of_getElem? (i := 717) (by decide +kernel), List.mem_of_getElem? (i := 718) (by decide +kernel)⟩
theorem lw_p42 : lw_okq (⟨"ToastGaol$Guesses", "leastOfTheGreatest", "()I"⟩, 7) := ⟨⟨by decide +kernel, by decide +kernel⟩, List.mem_of_getElem? (i := 239) (by decide +kernel), List.mem_of_getElem? (i := 721) (by decide +kernel), List.mem_of_getElem? (i := 722) (by decide +kernel)⟩
theorem lw_p43 : lw_okq (⟨"ToastGaol$Window", "weigh", "(IIII)V"⟩, 7) := ⟨⟨by decide +kernel, by decide +kernel⟩, List.mem_of_getElem? (i := 267) (by decide +kernel), List.mem_of_getElem? (i := 730) (by decide +kernel), List.mem_of_getElem? (i := 731) (by decide +kernel)⟩
theorem lw_p44 : lw_okq (⟨"ToastGaol$Window", "isLetGoFrom", "(I)Z"⟩, 7) := ⟨⟨by decide +kernel, by decide +kernel⟩, List.mem_of_getElem? (i := 267) (by decide +kernel), List.mem_of_getElem? (i := 739) (by decide +kernel), List.mem_of_getElem? (i := 740) (by decide +kernel)⟩
theorem lw_p45 : lw_okq (⟨"ToastGaol$Course", "follow", "(LToastGaol$Course;II)V"⟩, 9) := ⟨⟨by decide +kernel, by decide +kernel⟩, List.mem_of_getElem? (i := 110) (by decide +kernel), List.mem_of_getElem? (i := 745) (by decide +kernel), List.mem_of_getElem? (i := 746) (by decide +kernel)⟩
theorem lw_p46 : lw_okq (⟨"ToastGaol$Others", "draw", "(I)V"⟩, 5) := ⟨⟨by decide +kernel, by decide +kernel⟩, List.mem_of_getElem? (i := 300) (by decide +kernel), List.mem_of_getElem? (i := 754) (by decide +kernel), List.mem_of_getElem? (i := 755) (by decide +kernel)⟩
theorem lw_p47 : lw_okq (⟨"ToastGaol$Others", "howManyAre", "(I)I"⟩, 5) := ⟨⟨by decide +kernel, by decide +kernel⟩, List.mem_of_getElem? (i := 300) (by decide +kernel), List.mem_of_getElem? (i := 761) (by decide +kernel), List.mem_of_getElem? (i := 762) (by decide +kernel)⟩
def lw_privs_3 : List (MethodName × Nat) := [(⟨"ToastGaol$Course", "goThrough", "()V"⟩, 9), (⟨"ToastGaol$Sightings", "add", "(III)V"⟩, 5), (⟨"ToastGaol$Guesses", "findHeats", "(I)V"⟩, 7), (⟨"ToastGaol$Guesses", "allComesOut", "(I)Z"⟩, 7), (⟨"ToastGaol$Sightings", "lastHour", "()I"⟩, 5), (⟨"ToastGaol$Sightings", "agreeWith", "(LToastGaol$Course;I)Z"⟩, 5), (⟨"ToastGaol$Guesses", "heatAt", "(I)I"⟩, 7), (⟨"ToastGaol$Guesses", "slotsOf", "(I)I"⟩, 7), (⟨"ToastGaol$Guesses", "nextToTouch", "(I)I"⟩, 7), (⟨"ToastGaol$Guesses", "tallyNoted", "()V"⟩, 7), (⟨"ToastGaol$Guesses", "leastOfTheGreatest", "()I"⟩, 7), (⟨"ToastGaol$Window", "weigh", "(IIII)V"⟩, 7), (⟨"ToastGaol$Window", "isLetGoFrom", "(I)Z"⟩, 7), (⟨"ToastGaol$Course", "follow", "(LToastGaol$Course;II)V"⟩, 9), (⟨"ToastGaol$Others", "draw", "(I)V"⟩, 5), (⟨"ToastGaol$Others", "howManyAre", "(I)I"⟩, 5)]
theorem lw_r3 : ∀ q ∈ lw_privs_3, lw_okq q := List.forall_mem_cons.mpr ⟨lw_p32, List.forall_mem_cons.mpr ⟨lw_p33, List.forall_mem_cons.mpr ⟨lw_p34, List.forall_mem_cons.mpr ⟨lw_p35, List.forall_mem_cons.mpr ⟨lw_p36, List.forall_mem_cons.mpr ⟨lw_p37, List.forall_mem_cons.mpr ⟨lw_p38, List.forall_mem_cons.mpr ⟨lw_p39, List.forall_mem_cons.mpr ⟨lw_p40, List.forall_mem_cons.mpr ⟨lw_p41, List.forall_mem_cons.mpr ⟨lw_p42, List.forall_mem_cons.mpr ⟨lw_p43, List.forall_mem_cons.mpr ⟨lw_p44, List.forall_mem_cons.mpr ⟨lw_p45, List.forall_mem_cons.mpr ⟨lw_p46, List.forall_mem_cons.mpr ⟨lw_p47, fun _ h => absurd h List.not_mem_nil⟩⟩⟩⟩⟩⟩⟩⟩⟩⟩⟩⟩⟩⟩⟩⟩
theorem lw_p48 : lw_okq (⟨"ToastGaol$Sheet", "renew", "(II)V"⟩, 3) := ⟨⟨by decide +kernel, by decide +kernel⟩, List.mem_of_getElem? (i := 344) (by decide +kernel), List.mem_of_getElem? (i := 772) (by decide +kernel), List.mem_of_getElem? (i := 773) (by decide +kernel)⟩
theorem lw_p49 : lw_okq (⟨"ToastGaol", "findingAt", "(III)I"⟩, 11) := ⟨⟨by decide +kernel, by decide +kernel⟩, List.mem_of_getElem? (i := 16) (by decide +kernel), List.mem_of_getElem? (i := 784) (by decide +kernel), List.mem_of_getElem? (i := 785) (by decide +kernel)⟩
theorem lw_p50 : lw_okq (⟨"ToastGaol$Sheet", "put", "(II)V"⟩, 3) := ⟨⟨by decide +kernel, by decide +kernel⟩, List.mem_of_getElem? (i := 344) (by decide +kernel), List.mem_of_getElem? (i := 788) (by decide +kernel), List.mem_of_getElem? (i := 789) (by decide +kernel)⟩
theorem lw_p51 : lw_okq (⟨"ToastGaol$Sheet", "hasRun", "(II)Z"⟩, 3) := ⟨⟨by decide +kernel, by decide +kernel⟩, List.mem_of_getElem? (i := 344) (by decide +kernel), List.mem_of_getElem? (i := 801) (by decide +kernel), List.mem_of_getElem? (i := 802) (by decide +kernel)⟩
theorem lw_p52 : lw_okq (⟨"ToastGaol", "timesLetGo", "()I"⟩, 11) := ⟨⟨by decide +kernel, by decide +kernel⟩, List.mem_of_getElem? (i := 16) (by decide +kernel), List.mem_of_getElem? (i := 815) (by decide +kernel), List.mem_of_getElem? (i := 816) (by decide +kernel)⟩
theorem lw_p53 : lw_okq (⟨"ToastGaol", "mixTold", "(JI)J"⟩, 11) := ⟨⟨by decide +kernel, by decide +kernel⟩, List.mem_of_getElem? (i := 16) (by decide +kernel), List.mem_of_getElem? (i := 830) (by decide +kernel), List.mem_of_getElem? (i := 831) (by decide +kernel)⟩
theorem lw_p54 : lw_okq (⟨"ToastGaol", "mixFound", "(JI)J"⟩, 11) := ⟨⟨by decide +kernel, by decide +kernel⟩, List.mem_of_getElem? (i := 16) (by decide +kernel), List.mem_of_getElem? (i := 840) (by decide +kernel), List.mem_of_getElem? (i := 841) (by decide +kernel)⟩
theorem lw_p55 : lw_okq (⟨"ToastGaolModel", "finds", "(I)I"⟩, 31) := ⟨⟨by decide +kernel, by decide +kernel⟩, List.mem_of_getElem? (i := 850) (by decide +kernel), List.mem_of_getElem? (i := 962) (by decide +kernel), List.mem_of_getElem? (i := 963) (by decide +kernel)⟩
theorem lw_p56 : lw_okq (⟨"ToastGaolModel", "lacks", "(III)I"⟩, 31) := ⟨⟨by decide +kernel, by decide +kernel⟩, List.mem_of_getElem? (i := 850) (by decide +kernel), List.mem_of_getElem? (i := 974) (by decide +kernel), List.mem_of_getElem? (i := 975) (by decide +kernel)⟩
theorem lw_p57 : lw_okq (⟨"ToastGaolModel", "readsRack", "()I"⟩, 31) := ⟨⟨by decide +kernel, by decide +kernel⟩, List.mem_of_getElem? (i := 850) (by decide +kernel), List.mem_of_getElem? (i := 1010) (by decide +kernel), List.mem_of_getElem? (i := 1011) (by decide +kernel)⟩
theorem lw_p58 : lw_okq (⟨"ToastGaolModel", "readsSlices", "()I"⟩, 31) := ⟨⟨by decide +kernel, by decide +kernel⟩, List.mem_of_getElem? (i := 850) (by decide +kernel), List.mem_of_getElem? (i := 1019) (by decide +kernel), List.mem_of_getElem? (i := 1020) (by decide +kernel)⟩
theorem lw_p59 : lw_okq (⟨"ToastGaolModel", "isSlice", "(I)Z"⟩, 31) := ⟨⟨by decide +kernel, by decide +kernel⟩, List.mem_of_getElem? (i := 850) (by decide +kernel), List.mem_of_getElem? (i := 1034) (by decide +kernel), List.mem_of_getElem? (i := 1035) (by decide +kernel)⟩
theorem lw_p60 : lw_okq (⟨"ToastGaolModel", "find", "()V"⟩, 31) := ⟨⟨by decide +kernel, by decide +kernel⟩, List.mem_of_getElem? (i := 850) (by decide +kernel), List.mem_of_getElem? (i := 1071) (by decide +kernel), List.mem_of_getElem? (i := 1072) (by decide +kernel)⟩
theorem lw_p61 : lw_okq (⟨"ToastGaolModel", "lives", "()V"⟩, 31) := ⟨⟨by decide +kernel, by decide +kernel⟩, List.mem_of_getElem? (i := 850) (by decide +kernel), List.mem_of_getElem? (i := 1075) (by decide +kernel), List.mem_of_getElem? (i := 1076) (by decide +kernel)⟩
theorem lw_p62 : lw_okq (⟨"ToastGaolModel", "comesAgain", "(II)V"⟩, 31) := ⟨⟨by decide +kernel, by decide +kernel⟩, List.mem_of_getElem? (i := 850) (by decide +kernel), List.mem_of_getElem? (i := 1079) (by decide +kernel), List.mem_of_getElem? (i := 1080) (by decide +kernel)⟩
theorem lw_p63 : lw_okq (⟨"ToastGaolModel", "standingIn", "(I)I"⟩, 31) := ⟨⟨by decide +kernel, by decide +kernel⟩, List.mem_of_getElem? (i := 850) (by decide +kernel), List.mem_of_getElem? (i := 1083) (by decide +kernel), List.mem_of_getElem? (i := 1084) (by decide +kernel)⟩
def lw_privs_4 : List (MethodName × Nat) := [(⟨"ToastGaol$Sheet", "renew", "(II)V"⟩, 3), (⟨"ToastGaol", "findingAt", "(III)I"⟩, 11), (⟨"ToastGaol$Sheet", "put", "(II)V"⟩, 3), (⟨"ToastGaol$Sheet", "hasRun", "(II)Z"⟩, 3), (⟨"ToastGaol", "timesLetGo", "()I"⟩, 11), (⟨"ToastGaol", "mixTold", "(JI)J"⟩, 11), (⟨"ToastGaol", "mixFound", "(JI)J"⟩, 11), (⟨"ToastGaolModel", "finds", "(I)I"⟩, 31), (⟨"ToastGaolModel", "lacks", "(III)I"⟩, 31), (⟨"ToastGaolModel", "readsRack", "()I"⟩, 31), (⟨"ToastGaolModel", "readsSlices", "()I"⟩, 31), (⟨"ToastGaolModel", "isSlice", "(I)Z"⟩, 31), (⟨"ToastGaolModel", "find", "()V"⟩, 31), (⟨"ToastGaolModel", "lives", "()V"⟩, 31), (⟨"ToastGaolModel", "comesAgain", "(II)V"⟩, 31), (⟨"ToastGaolModel", "standingIn", "(I)I"⟩, 31)]
theorem lw_r4 : ∀ q ∈ lw_privs_4, lw_okq q := List.forall_mem_cons.mpr ⟨lw_p48, List.forall_mem_cons.mpr ⟨lw_p49, List.forall_mem_cons.mpr ⟨lw_p50, List.forall_mem_cons.mpr ⟨lw_p51, List.forall_mem_cons.mpr ⟨lw_p52, List.forall_mem_cons.mpr ⟨lw_p53, List.forall_mem_cons.mpr ⟨lw_p54, List.forall_mem_cons.mpr ⟨lw_p55, List.forall_mem_cons.mpr ⟨lw_p56, List.forall_mem_cons.mpr ⟨lw_p57, List.forall_mem_cons.mpr ⟨lw_p58, List.forall_mem_cons.mpr ⟨lw_p59, List.forall_mem_cons.mpr ⟨lw_p60, List.forall_mem_cons.mpr ⟨lw_p61, List.forall_mem_cons.mpr ⟨lw_p62, List.forall_mem_cons.mpr ⟨lw_p63, fun _ h => absurd h List.not_mem_nil⟩⟩⟩⟩⟩⟩⟩⟩⟩⟩⟩⟩⟩⟩⟩⟩
theorem lw_p64 : lw_okq (⟨"ToastGaolModel", "burns", "(I)V"⟩, 31) := ⟨⟨by decide +kernel, by decide +kernel⟩, List.mem_of_getElem? (i := 850) (by decide +kernel), List.mem_of_getElem? (i := 1087) (by decide +kernel), List.mem_of_getElem? (i := 1088) (by decide +kernel)⟩
theorem lw_p65 : lw_okq (⟨"ToastGaolModel", "spreads", "(I)V"⟩, 31) := ⟨⟨by decide +kernel, by decide +kernel⟩, List.mem_of_getElem? (i := 850) (by decide +kernel), List.mem_of_getElem? (i := 1094) (by decide +kernel), List.mem_of_getElem? (i := 1095) (by decide +kernel)⟩
theorem lw_p66 : lw_okq (⟨"ToastGaolModel", "isHere", "(I)Z"⟩, 31) := ⟨⟨by decide +kernel, by decide +kernel⟩, List.mem_of_getElem? (i := 850) (by decide +kernel), List.mem_of_getElem? (i := 1098) (by decide +kernel), List.mem_of_getElem? (i := 1099) (by decide +kernel)⟩
theorem lw_p67 : lw_okq (⟨"ToastGaolModel", "cool", "(I)V"⟩, 31) := ⟨⟨by decide +kernel, by decide +kernel⟩, List.mem_of_getElem? (i := 850) (by decide +kernel), List.mem_of_getElem? (i := 1102) (by decide +kernel), List.mem_of_getElem? (i := 1103) (by decide +kernel)⟩
theorem lw_p68 : lw_okq (⟨"ToastGaolModel", "coolsBy", "(II)I"⟩, 31) := ⟨⟨by decide +kernel, by decide +kernel⟩, List.mem_of_getElem? (i := 850) (by decide +kernel), List.mem_of_getElem? (i := 1106) (by decide +kernel), List.mem_of_getElem? (i := 1107) (by decide +kernel)⟩
theorem lw_p69 : lw_okq (⟨"ToastGaolModel", "hotter", "(II)I"⟩, 31) := ⟨⟨by decide +kernel, by decide +kernel⟩, List.mem_of_getElem? (i := 850) (by decide +kernel), List.mem_of_getElem? (i := 1113) (by decide +kernel), List.mem_of_getElem? (i := 1114) (by decide +kernel)⟩
theorem lw_p70 : lw_okq (⟨"ToastGaolModel", "heldBy", "(I)I"⟩, 31) := ⟨⟨by decide +kernel, by decide +kernel⟩, List.mem_of_getElem? (i := 850) (by decide +kernel), List.mem_of_getElem? (i := 1128) (by decide +kernel), List.mem_of_getElem? (i := 1129) (by decide +kernel)⟩
theorem lw_p71 : lw_okq (⟨"ToastGaolModel", "freedBy", "(II)I"⟩, 31) := ⟨⟨by decide +kernel, by decide +kernel⟩, List.mem_of_getElem? (i := 850) (by decide +kernel), List.mem_of_getElem? (i := 1136) (by decide +kernel), List.mem_of_getElem? (i := 1137) (by decide +kernel)⟩
theorem lw_p72 : lw_okq (⟨"ToastGaolModel", "spoiltNow", "()I"⟩, 31) := ⟨⟨by decide +kernel, by decide +kernel⟩, List.mem_of_getElem? (i := 850) (by decide +kernel), List.mem_of_getElem? (i := 1144) (by decide +kernel), List.mem_of_getElem? (i := 1145) (by decide +kernel)⟩
theorem lw_p73 : lw_okq (⟨"ToastGaolModel", "quietNow", "()I"⟩, 31) := ⟨⟨by decide +kernel, by decide +kernel⟩, List.mem_of_getElem? (i := 850) (by decide +kernel), List.mem_of_getElem? (i := 1152) (by decide +kernel), List.mem_of_getElem? (i := 1153) (by decide +kernel)⟩
theorem lw_p74 : lw_okq (⟨"ToastGaolModel", "here", "(I)I"⟩, 31) := ⟨⟨by decide +kernel, by decide +kernel⟩, List.mem_of_getElem? (i := 850) (by decide +kernel), List.mem_of_getElem? (i := 1156) (by decide +kernel), List.mem_of_getElem? (i := 1157) (by decide +kernel)⟩
theorem lw_p75 : lw_okq (⟨"ToastGaolModel", "crowdBy", "(I)I"⟩, 31) := ⟨⟨by decide +kernel, by decide +kernel⟩, List.mem_of_getElem? (i := 850) (by decide +kernel), List.mem_of_getElem? (i := 1164) (by decide +kernel), List.mem_of_getElem? (i := 1165) (by decide +kernel)⟩
theorem lw_p76 : lw_okq (⟨"ToastGaolModel", "moveOf", "(II)I"⟩, 31) := ⟨⟨by decide +kernel, by decide +kernel⟩, List.mem_of_getElem? (i := 850) (by decide +kernel), List.mem_of_getElem? (i := 1172) (by decide +kernel), List.mem_of_getElem? (i := 1173) (by decide +kernel)⟩
theorem lw_p77 : lw_okq (⟨"ToastGaolModel", "swapBy", "(I)I"⟩, 31) := ⟨⟨by decide +kernel, by decide +kernel⟩, List.mem_of_getElem? (i := 850) (by decide +kernel), List.mem_of_getElem? (i := 1180) (by decide +kernel), List.mem_of_getElem? (i := 1181) (by decide +kernel)⟩
theorem lw_p78 : lw_okq (⟨"ToastGaolModel", "allHere", "()I"⟩, 31) := ⟨⟨by decide +kernel, by decide +kernel⟩, List.mem_of_getElem? (i := 850) (by decide +kernel), List.mem_of_getElem? (i := 1184) (by decide +kernel), List.mem_of_getElem? (i := 1185) (by decide +kernel)⟩
theorem lw_p79 : lw_okq (⟨"ToastGaolModel", "changes", "(II)V"⟩, 31) := ⟨⟨by decide +kernel, by decide +kernel⟩, List.mem_of_getElem? (i := 850) (by decide +kernel), List.mem_of_getElem? (i := 1188) (by decide +kernel), List.mem_of_getElem? (i := 1189) (by decide +kernel)⟩
def lw_privs_5 : List (MethodName × Nat) := [(⟨"ToastGaolModel", "burns", "(I)V"⟩, 31), (⟨"ToastGaolModel", "spreads", "(I)V"⟩, 31), (⟨"ToastGaolModel", "isHere", "(I)Z"⟩, 31), (⟨"ToastGaolModel", "cool", "(I)V"⟩, 31), (⟨"ToastGaolModel", "coolsBy", "(II)I"⟩, 31), (⟨"ToastGaolModel", "hotter", "(II)I"⟩, 31), (⟨"ToastGaolModel", "heldBy", "(I)I"⟩, 31), (⟨"ToastGaolModel", "freedBy", "(II)I"⟩, 31), (⟨"ToastGaolModel", "spoiltNow", "()I"⟩, 31), (⟨"ToastGaolModel", "quietNow", "()I"⟩, 31), (⟨"ToastGaolModel", "here", "(I)I"⟩, 31), (⟨"ToastGaolModel", "crowdBy", "(I)I"⟩, 31), (⟨"ToastGaolModel", "moveOf", "(II)I"⟩, 31), (⟨"ToastGaolModel", "swapBy", "(I)I"⟩, 31), (⟨"ToastGaolModel", "allHere", "()I"⟩, 31), (⟨"ToastGaolModel", "changes", "(II)V"⟩, 31)]
theorem lw_r5 : ∀ q ∈ lw_privs_5, lw_okq q := List.forall_mem_cons.mpr ⟨lw_p64, List.forall_mem_cons.mpr ⟨lw_p65, List.forall_mem_cons.mpr ⟨lw_p66, List.forall_mem_cons.mpr ⟨lw_p67, List.forall_mem_cons.mpr ⟨lw_p68, List.forall_mem_cons.mpr ⟨lw_p69, List.forall_mem_cons.mpr ⟨lw_p70, List.forall_mem_cons.mpr ⟨lw_p71, List.forall_mem_cons.mpr ⟨lw_p72, List.forall_mem_cons.mpr ⟨lw_p73, List.forall_mem_cons.mpr ⟨lw_p74, List.forall_mem_cons.mpr ⟨lw_p75, List.forall_mem_cons.mpr ⟨lw_p76, List.forall_mem_cons.mpr ⟨lw_p77, List.forall_mem_cons.mpr ⟨lw_p78, List.forall_mem_cons.mpr ⟨lw_p79, fun _ h => absurd h List.not_mem_nil⟩⟩⟩⟩⟩⟩⟩⟩⟩⟩⟩⟩⟩⟩⟩⟩
theorem lw_p80 : lw_okq (⟨"ToastGaolModel", "bearNow", "()I"⟩, 31) := ⟨⟨by decide +kernel, by decide +kernel⟩, List.mem_of_getElem? (i := 850) (by decide +kernel), List.mem_of_getElem? (i := 1200) (by decide +kernel), List.mem_of_getElem? (i := 1201) (by decide +kernel)⟩
theorem lw_p81 : lw_okq (⟨"ToastGaolModel", "heatsOf", "(II)I"⟩, 31) := ⟨⟨by decide +kernel, by decide +kernel⟩, List.mem_of_getElem? (i := 850) (by decide +kernel), List.mem_of_getElem? (i := 1217) (by decide +kernel), List.mem_of_getElem? (i := 1218) (by decide +kernel)⟩
theorem lw_p82 : lw_okq (⟨"ToastGaolModel", "isSeen", "()Z"⟩, 31) := ⟨⟨by decide +kernel, by decide +kernel⟩, List.mem_of_getElem? (i := 850) (by decide +kernel), List.mem_of_getElem? (i := 1221) (by decide +kernel), List.mem_of_getElem? (i := 1222) (by decide +kernel)⟩
theorem lw_p83 : lw_okq (⟨"ToastGaolModel", "slotsOf", "(I)I"⟩, 31) := ⟨⟨by decide +kernel, by decide +kernel⟩, List.mem_of_getElem? (i := 850) (by decide +kernel), List.mem_of_getElem? (i := 1229) (by decide +kernel), List.mem_of_getElem? (i := 1230) (by decide +kernel)⟩
theorem lw_p84 : lw_okq (⟨"ToastGaolModel", "askOf", "(I)I"⟩, 31) := ⟨⟨by decide +kernel, by decide +kernel⟩, List.mem_of_getElem? (i := 850) (by decide +kernel), List.mem_of_getElem? (i := 1237) (by decide +kernel), List.mem_of_getElem? (i := 1238) (by decide +kernel)⟩
theorem lw_p85 : lw_okq (⟨"ToastGaolModel", "windowOf", "(IIIII)J"⟩, 31) := ⟨⟨by decide +kernel, by decide +kernel⟩, List.mem_of_getElem? (i := 850) (by decide +kernel), List.mem_of_getElem? (i := 1246) (by decide +kernel), List.mem_of_getElem? (i := 1247) (by decide +kernel)⟩
theorem lw_p86 : lw_okq (⟨"ToastGaolModel", "othersOf", "(II)I"⟩, 31) := ⟨⟨by decide +kernel, by decide +kernel⟩, List.mem_of_getElem? (i := 850) (by decide +kernel), List.mem_of_getElem? (i := 1261) (by decide +kernel), List.mem_of_getElem? (i := 1262) (by decide +kernel)⟩
theorem lw_p87 : lw_okq (⟨"ToastGaolModel", "lot", "(I)I"⟩, 31) := ⟨⟨by decide +kernel, by decide +kernel⟩, List.mem_of_getElem? (i := 850) (by decide +kernel), List.mem_of_getElem? (i := 1265) (by decide +kernel), List.mem_of_getElem? (i := 1266) (by decide +kernel)⟩
theorem lw_p88 : lw_okq (⟨"ToastGaolModel", "allFreed", "()I"⟩, 31) := ⟨⟨by decide +kernel, by decide +kernel⟩, List.mem_of_getElem? (i := 850) (by decide +kernel), List.mem_of_getElem? (i := 1278) (by decide +kernel), List.mem_of_getElem? (i := 1279) (by decide +kernel)⟩
theorem lw_p89 : lw_okq (⟨"ToastGaolModel", "tellsSlice", "(JI)J"⟩, 31) := ⟨⟨by decide +kernel, by decide +kernel⟩, List.mem_of_getElem? (i := 850) (by decide +kernel), List.mem_of_getElem? (i := 1289) (by decide +kernel), List.mem_of_getElem? (i := 1290) (by decide +kernel)⟩
def lw_privs_6 : List (MethodName × Nat) := [(⟨"ToastGaolModel", "bearNow", "()I"⟩, 31), (⟨"ToastGaolModel", "heatsOf", "(II)I"⟩, 31), (⟨"ToastGaolModel", "isSeen", "()Z"⟩, 31), (⟨"ToastGaolModel", "slotsOf", "(I)I"⟩, 31), (⟨"ToastGaolModel", "askOf", "(I)I"⟩, 31), (⟨"ToastGaolModel", "windowOf", "(IIIII)J"⟩, 31), (⟨"ToastGaolModel", "othersOf", "(II)I"⟩, 31), (⟨"ToastGaolModel", "lot", "(I)I"⟩, 31), (⟨"ToastGaolModel", "allFreed", "()I"⟩, 31), (⟨"ToastGaolModel", "tellsSlice", "(JI)J"⟩, 31)]
theorem lw_r6 : ∀ q ∈ lw_privs_6, lw_okq q := List.forall_mem_cons.mpr ⟨lw_p80, List.forall_mem_cons.mpr ⟨lw_p81, List.forall_mem_cons.mpr ⟨lw_p82, List.forall_mem_cons.mpr ⟨lw_p83, List.forall_mem_cons.mpr ⟨lw_p84, List.forall_mem_cons.mpr ⟨lw_p85, List.forall_mem_cons.mpr ⟨lw_p86, List.forall_mem_cons.mpr ⟨lw_p87, List.forall_mem_cons.mpr ⟨lw_p88, List.forall_mem_cons.mpr ⟨lw_p89, fun _ h => absurd h List.not_mem_nil⟩⟩⟩⟩⟩⟩⟩⟩⟩⟩
def lw_privs : List (MethodName × Nat) := lw_privs_1 ++ (lw_privs_2 ++ (lw_privs_3 ++ (lw_privs_4 ++ (lw_privs_5 ++ (lw_privs_6)))))
def lw_tbl : List Cond := k2_sels lw_privs ++ tables_1
theorem lw_privs_ok : ∀ q ∈ lw_privs, lw_okq q := by
  show ∀ q ∈ lw_privs_1 ++ (lw_privs_2 ++ (lw_privs_3 ++ (lw_privs_4 ++ (lw_privs_5 ++ (lw_privs_6))))), lw_okq q
  exact List.forall_mem_append.mpr ⟨lw_r1, List.forall_mem_append.mpr ⟨lw_r2, List.forall_mem_append.mpr ⟨lw_r3, List.forall_mem_append.mpr ⟨lw_r4, List.forall_mem_append.mpr ⟨lw_r5, lw_r6⟩⟩⟩⟩⟩
end
section
/-! ===== BEGIN words of one list among another's, by their places ===== -/
theorem goodIn_r {big : List Cond} (ws : List Cond) (ps : List Nat) (hp : ws = ps.filterMap (fun i => big[i]?)) (h : ws.all goodWord = true) : GoodIn big ws := by
  intro w hw
  have h1 := List.all_eq_true.mp h w hw
  rw [hp] at hw
  obtain ⟨i, -, hi⟩ := List.mem_filterMap.mp hw
  have hm : w ∈ big := by first | exact List.mem_of_getElem? hi | exact List.getElem?_mem hi
  exact ⟨hm, good_of_word h1⟩
theorem goodIn_app {big a b : List Cond} (ha : GoodIn big a) (hb : GoodIn big b) : GoodIn big (a ++ b) := fun w h => (List.mem_append.mp h).elim (ha w) (hb w)
theorem goodIn_ca {big a b : List Cond} {c : Cond} (ha : GoodIn big (c :: a)) (hb : GoodIn big b) : GoodIn big (c :: (a ++ b)) := fun w h => (List.mem_cons.mp h).elim (fun e => ha w (List.mem_cons.mpr (Or.inl e))) (fun h => (List.mem_append.mp h).elim (fun h => ha w (List.mem_cons.mpr (Or.inr h))) (hb w))
theorem goodIn_sub {big ws : List Cond} (hm : ∀ w ∈ ws, w ∈ big) (h : ws.all goodWord = true) : GoodIn big ws := fun w hw => ⟨hm w hw, good_of_word (List.all_eq_true.mp h w hw)⟩
/-! ===== END ===== -/
def RX0 : String := "ToastGaol$Course"
def TX0 : u_T := fun k => match k with
  | 0 => ("ToastGaol$Course", "setting", "LToastGaol$Setting;", true)
  | 1 => ("ToastGaol$Course", "heat", "[I", true)
  | 2 => ("ToastGaol$Course", "is", "[I", true)
  | 3 => ("ToastGaol$Course", "came", "[I", true)
  | 4 => ("ToastGaol$Course", "left", "[I", true)
  | 5 => ("ToastGaol$Course", "first", "[I", true)
  | 6 => ("ToastGaol$Course", "times", "[I", true)
  | 7 => ("ToastGaol$Course", "warmth", "[I", true)
  | _ => ("ToastGaol$Course", "held", "I", false)
def tyX0 : Nat → FieldType := fun k => match k with
  | 0 => .object "ToastGaol$Setting"
  | 1 => .array .int
  | 2 => .array .int
  | 3 => .array .int
  | 4 => .array .int
  | 5 => .array .int
  | 6 => .array .int
  | 7 => .array .int
  | _ => .int
abbrev wsX00 : List Cond := u_ws RX0 TX0 9
theorem nmX0 : ∀ a, a < 9 → ∀ b, b < 9 → a ≠ b → (TX0 a).2.1 ≠ (TX0 b).2.1 := by decide +kernel
theorem tyX0_ok : ∀ k, k < 9 → parseFieldDescriptor (TX0 k).2.2.1 = some (tyX0 k) := by decide +kernel
abbrev cX0_init : ByteArray := prog_2_method_1_code
def yX0_init : MethodName := ⟨RX0, "<init>", "(LToastGaol$Setting;)V"⟩
abbrev cX0_begin : ByteArray := prog_2_method_2_code
def yX0_begin : MethodName := ⟨RX0, "begin", "()V"⟩
abbrev cX0_goThrough : ByteArray := prog_2_method_3_code
def yX0_goThrough : MethodName := ⟨RX0, "goThrough", "()V"⟩
abbrev cX0_follow : ByteArray := prog_2_method_4_code
def yX0_follow : MethodName := ⟨RX0, "follow", "(LToastGaol$Course;II)V"⟩
abbrev cX0_untilButters : ByteArray := prog_2_method_5_code
def yX0_untilButters : MethodName := ⟨RX0, "untilButters", "(I)V"⟩
abbrev cX0_fromButters : ByteArray := prog_2_method_6_code
def yX0_fromButters : MethodName := ⟨RX0, "fromButters", "(II)V"⟩
abbrev cX0_isIn : ByteArray := prog_2_method_7_code
def yX0_isIn : MethodName := ⟨RX0, "isIn", "(I)Z"⟩
abbrev cX0_howManyIn : ByteArray := prog_2_method_8_code
def yX0_howManyIn : MethodName := ⟨RX0, "howManyIn", "()I"⟩
abbrev cX0_comeAgain : ByteArray := prog_2_method_9_code
def yX0_comeAgain : MethodName := ⟨RX0, "comeAgain", "(I)V"⟩
abbrev cX0_takePlaces : ByteArray := prog_2_method_10_code
def yX0_takePlaces : MethodName := ⟨RX0, "takePlaces", "()V"⟩
abbrev cX0_warm : ByteArray := prog_2_method_11_code
def yX0_warm : MethodName := ⟨RX0, "warm", "(I)V"⟩
abbrev cX0_spread : ByteArray := prog_2_method_12_code
def yX0_spread : MethodName := ⟨RX0, "spread", "(I)V"⟩
abbrev cX0_leave : ByteArray := prog_2_method_13_code
def yX0_leave : MethodName := ⟨RX0, "leave", "(II)V"⟩
abbrev cX0_feelWarmth : ByteArray := prog_2_method_14_code
def yX0_feelWarmth : MethodName := ⟨RX0, "feelWarmth", "()V"⟩
abbrev cX0_cooling : ByteArray := prog_2_method_15_code
def yX0_cooling : MethodName := ⟨RX0, "cooling", "(II)I"⟩
abbrev cX0_letGo : ByteArray := prog_2_method_16_code
def yX0_letGo : MethodName := ⟨RX0, "letGo", "(II)V"⟩
def RX1 : String := "ToastGaol$Guesses"
def TX1 : u_T := fun k => match k with
  | 0 => ("ToastGaol$Guesses", "setting", "LToastGaol$Setting;", true)
  | 1 => ("ToastGaol$Guesses", "sightings", "LToastGaol$Sightings;", true)
  | 2 => ("ToastGaol$Guesses", "course", "LToastGaol$Course;", true)
  | 3 => ("ToastGaol$Guesses", "heats", "[I", true)
  | 4 => ("ToastGaol$Guesses", "heatsFound", "I", false)
  | 5 => ("ToastGaol$Guesses", "noted", "[I", true)
  | _ => ("ToastGaol$Guesses", "tally", "[I", true)
def tyX1 : Nat → FieldType := fun k => match k with
  | 0 => .object "ToastGaol$Setting"
  | 1 => .object "ToastGaol$Sightings"
  | 2 => .object "ToastGaol$Course"
  | 3 => .array .int
  | 4 => .int
  | 5 => .array .int
  | _ => .array .int
abbrev wsX10 : List Cond := u_ws RX1 TX1 7
theorem nmX1 : ∀ a, a < 7 → ∀ b, b < 7 → a ≠ b → (TX1 a).2.1 ≠ (TX1 b).2.1 := by decide +kernel
theorem tyX1_ok : ∀ k, k < 7 → parseFieldDescriptor (TX1 k).2.2.1 = some (tyX1 k) := by decide +kernel
abbrev cX1_init : ByteArray := prog_3_method_1_code
def yX1_init : MethodName := ⟨RX1, "<init>", "(LToastGaol$Setting;LToastGaol$Sightings;LToastGaol$Course;)V"⟩
abbrev cX1_findHeats : ByteArray := prog_3_method_2_code
def yX1_findHeats : MethodName := ⟨RX1, "findHeats", "(I)V"⟩
abbrev cX1_heatAt : ByteArray := prog_3_method_3_code
def yX1_heatAt : MethodName := ⟨RX1, "heatAt", "(I)I"⟩
abbrev cX1_slotsOf : ByteArray := prog_3_method_4_code
def yX1_slotsOf : MethodName := ⟨RX1, "slotsOf", "(I)I"⟩
abbrev cX1_nextToTouch : ByteArray := prog_3_method_5_code
def yX1_nextToTouch : MethodName := ⟨RX1, "nextToTouch", "(I)I"⟩
abbrev cX1_tallyNoted : ByteArray := prog_3_method_6_code
def yX1_tallyNoted : MethodName := ⟨RX1, "tallyNoted", "()V"⟩
abbrev cX1_leastOfTheGreatest : ByteArray := prog_3_method_7_code
def yX1_leastOfTheGreatest : MethodName := ⟨RX1, "leastOfTheGreatest", "()I"⟩
abbrev cX1_allComesOut : ByteArray := prog_3_method_8_code
def yX1_allComesOut : MethodName := ⟨RX1, "allComesOut", "(I)Z"⟩
def RX2 : String := "ToastGaol$Log"
def TX2 : u_T := fun k => match k with
  | 0 => ("ToastGaol$Log", "setting", "LToastGaol$Setting;", true)
  | 1 => ("ToastGaol$Log", "course", "LToastGaol$Course;", true)
  | 2 => ("ToastGaol$Log", "heat", "[I", true)
  | 3 => ("ToastGaol$Log", "is", "[I", true)
  | 4 => ("ToastGaol$Log", "held", "[I", true)
  | _ => ("ToastGaol$Log", "fresh", "Z", false)
def tyX2 : Nat → FieldType := fun k => match k with
  | 0 => .object "ToastGaol$Setting"
  | 1 => .object "ToastGaol$Course"
  | 2 => .array .int
  | 3 => .array .int
  | 4 => .array .int
  | _ => .boolean
abbrev wsX20 : List Cond := u_ws RX2 TX2 6
theorem nmX2 : ∀ a, a < 6 → ∀ b, b < 6 → a ≠ b → (TX2 a).2.1 ≠ (TX2 b).2.1 := by decide +kernel
theorem tyX2_ok : ∀ k, k < 6 → parseFieldDescriptor (TX2 k).2.2.1 = some (tyX2 k) := by decide +kernel
abbrev cX2_init : ByteArray := prog_4_method_1_code
def yX2_init : MethodName := ⟨RX2, "<init>", "(LToastGaol$Setting;)V"⟩
abbrev cX2_bringUpToDate : ByteArray := prog_4_method_2_code
def yX2_bringUpToDate : MethodName := ⟨RX2, "bringUpToDate", "()V"⟩
abbrev cX2_leastLeaning : ByteArray := prog_4_method_3_code
def yX2_leastLeaning : MethodName := ⟨RX2, "leastLeaning", "(I)I"⟩
def RX3 : String := "ToastGaol$Others"
def TX3 : u_T := fun k => match k with
  | 0 => ("ToastGaol$Others", "setting", "LToastGaol$Setting;", true)
  | 1 => ("ToastGaol$Others", "course", "LToastGaol$Course;", true)
  | 2 => ("ToastGaol$Others", "own", "[I", true)
  | 3 => ("ToastGaol$Others", "free", "I", false)
  | _ => ("ToastGaol$Others", "soft", "I", false)
def tyX3 : Nat → FieldType := fun k => match k with
  | 0 => .object "ToastGaol$Setting"
  | 1 => .object "ToastGaol$Course"
  | 2 => .array .int
  | 3 => .int
  | _ => .int
abbrev wsX30 : List Cond := u_ws RX3 TX3 5
theorem nmX3 : ∀ a, a < 5 → ∀ b, b < 5 → a ≠ b → (TX3 a).2.1 ≠ (TX3 b).2.1 := by decide +kernel
theorem tyX3_ok : ∀ k, k < 5 → parseFieldDescriptor (TX3 k).2.2.1 = some (tyX3 k) := by decide +kernel
abbrev cX3_init : ByteArray := prog_5_method_1_code
def yX3_init : MethodName := ⟨RX3, "<init>", "(LToastGaol$Setting;LToastGaol$Course;)V"⟩
abbrev cX3_draw : ByteArray := prog_5_method_2_code
def yX3_draw : MethodName := ⟨RX3, "draw", "(I)V"⟩
abbrev cX3_howManyAre : ByteArray := prog_5_method_3_code
def yX3_howManyAre : MethodName := ⟨RX3, "howManyAre", "(I)I"⟩
def RX4 : String := "ToastGaol$Plans"
def TX4 : u_T := fun k => match k with
  | 0 => ("ToastGaol$Plans", "setting", "LToastGaol$Setting;", true)
  | 1 => ("ToastGaol$Plans", "course", "LToastGaol$Course;", true)
  | 2 => ("ToastGaol$Plans", "moveSlot", "I", false)
  | 3 => ("ToastGaol$Plans", "moveHour", "I", false)
  | 4 => ("ToastGaol$Plans", "swapFirst", "I", false)
  | 5 => ("ToastGaol$Plans", "swapOther", "I", false)
  | _ => ("ToastGaol$Plans", "swapStay", "I", false)
def tyX4 : Nat → FieldType := fun k => match k with
  | 0 => .object "ToastGaol$Setting"
  | 1 => .object "ToastGaol$Course"
  | 2 => .int
  | 3 => .int
  | 4 => .int
  | 5 => .int
  | _ => .int
abbrev wsX40 : List Cond := u_ws RX4 TX4 7
theorem nmX4 : ∀ a, a < 7 → ∀ b, b < 7 → a ≠ b → (TX4 a).2.1 ≠ (TX4 b).2.1 := by decide +kernel
theorem tyX4_ok : ∀ k, k < 7 → parseFieldDescriptor (TX4 k).2.2.1 = some (tyX4 k) := by decide +kernel
abbrev cX4_init : ByteArray := prog_6_method_1_code
def yX4_init : MethodName := ⟨RX4, "<init>", "(LToastGaol$Setting;LToastGaol$Course;)V"⟩
abbrev cX4_findMove : ByteArray := prog_6_method_2_code
def yX4_findMove : MethodName := ⟨RX4, "findMove", "(I)V"⟩
abbrev cX4_letGoBefore : ByteArray := prog_6_method_3_code
def yX4_letGoBefore : MethodName := ⟨RX4, "letGoBefore", "(II)I"⟩
abbrev cX4_findSwap : ByteArray := prog_6_method_4_code
def yX4_findSwap : MethodName := ⟨RX4, "findSwap", "()V"⟩
abbrev cX4_stayIfSwapped : ByteArray := prog_6_method_5_code
def yX4_stayIfSwapped : MethodName := ⟨RX4, "stayIfSwapped", "(II)I"⟩
abbrev cX4_changeSlots : ByteArray := prog_6_method_6_code
def yX4_changeSlots : MethodName := ⟨RX4, "changeSlots", "(II)V"⟩
abbrev cX4_stayOfAll : ByteArray := prog_6_method_7_code
def yX4_stayOfAll : MethodName := ⟨RX4, "stayOfAll", "()I"⟩
abbrev cX4_firstButterHour : ByteArray := prog_6_method_8_code
def yX4_firstButterHour : MethodName := ⟨RX4, "firstButterHour", "(I)I"⟩
abbrev cX4_greatestSummer : ByteArray := prog_6_method_9_code
def yX4_greatestSummer : MethodName := ⟨RX4, "greatestSummer", "()I"⟩
def RX5 : String := "ToastGaol$Setting"
def TX5 : u_T := fun k => match k with
  | 0 => ("ToastGaol$Setting", "slots", "I", false)
  | 1 => ("ToastGaol$Setting", "draws", "[I", true)
  | 2 => ("ToastGaol$Setting", "slices", "I", false)
  | 3 => ("ToastGaol$Setting", "kind", "[I", true)
  | 4 => ("ToastGaol$Setting", "heat", "[I", true)
  | 5 => ("ToastGaol$Setting", "slot", "[I", true)
  | 6 => ("ToastGaol$Setting", "rule", "[I", true)
  | 7 => ("ToastGaol$Setting", "butters", "I", false)
  | 8 => ("ToastGaol$Setting", "butterHour", "[I", true)
  | 9 => ("ToastGaol$Setting", "butterSlice", "[I", true)
  | 10 => ("ToastGaol$Setting", "fires", "I", false)
  | _ => ("ToastGaol$Setting", "fireHour", "[I", true)
def tyX5 : Nat → FieldType := fun k => match k with
  | 0 => .int
  | 1 => .array .int
  | 2 => .int
  | 3 => .array .int
  | 4 => .array .int
  | 5 => .array .int
  | 6 => .array .int
  | 7 => .int
  | 8 => .array .int
  | 9 => .array .int
  | 10 => .int
  | _ => .array .int
abbrev wsX50 : List Cond := u_ws RX5 TX5 12
theorem nmX5 : ∀ a, a < 12 → ∀ b, b < 12 → a ≠ b → (TX5 a).2.1 ≠ (TX5 b).2.1 := by decide +kernel
theorem tyX5_ok : ∀ k, k < 12 → parseFieldDescriptor (TX5 k).2.2.1 = some (tyX5 k) := by decide +kernel
abbrev cX5_init : ByteArray := prog_7_method_1_code
def yX5_init : MethodName := ⟨RX5, "<init>", "()V"⟩
abbrev cX5_takeRack : ByteArray := prog_7_method_2_code
def yX5_takeRack : MethodName := ⟨RX5, "takeRack", "(LToastGaol$Text;)V"⟩
abbrev cX5_takeSlices : ByteArray := prog_7_method_3_code
def yX5_takeSlices : MethodName := ⟨RX5, "takeSlices", "(LToastGaol$Text;)V"⟩
abbrev cX5_firesIn : ByteArray := prog_7_method_4_code
def yX5_firesIn : MethodName := ⟨RX5, "firesIn", "(I)I"⟩
def RX6 : String := "ToastGaol$Sheet"
def TX6 : u_T := fun k => match k with
  | 0 => ("ToastGaol$Sheet", "form", "I", false)
  | 1 => ("ToastGaol$Sheet", "size", "I", false)
  | _ => ("ToastGaol$Sheet", "items", "[I", true)
def tyX6 : Nat → FieldType := fun k => match k with
  | 0 => .int
  | 1 => .int
  | _ => .array .int
abbrev wsX60 : List Cond := u_ws RX6 TX6 3
theorem nmX6 : ∀ a, a < 3 → ∀ b, b < 3 → a ≠ b → (TX6 a).2.1 ≠ (TX6 b).2.1 := by decide +kernel
theorem tyX6_ok : ∀ k, k < 3 → parseFieldDescriptor (TX6 k).2.2.1 = some (tyX6 k) := by decide +kernel
abbrev cX6_init : ByteArray := prog_8_method_1_code
def yX6_init : MethodName := ⟨RX6, "<init>", "()V"⟩
abbrev cX6_isLost : ByteArray := prog_8_method_2_code
def yX6_isLost : MethodName := ⟨RX6, "isLost", "()Z"⟩
abbrev cX6_renew : ByteArray := prog_8_method_3_code
def yX6_renew : MethodName := ⟨RX6, "renew", "(II)V"⟩
abbrev cX6_put : ByteArray := prog_8_method_4_code
def yX6_put : MethodName := ⟨RX6, "put", "(II)V"⟩
abbrev cX6_hasRun : ByteArray := prog_8_method_5_code
def yX6_hasRun : MethodName := ⟨RX6, "hasRun", "(II)Z"⟩
def RX7 : String := "ToastGaol$Sightings"
def TX7 : u_T := fun k => match k with
  | 0 => ("ToastGaol$Sightings", "setting", "LToastGaol$Setting;", true)
  | 1 => ("ToastGaol$Sightings", "hours", "[I", true)
  | 2 => ("ToastGaol$Sightings", "slices", "[I", true)
  | 3 => ("ToastGaol$Sightings", "states", "[I", true)
  | _ => ("ToastGaol$Sightings", "size", "I", false)
def tyX7 : Nat → FieldType := fun k => match k with
  | 0 => .object "ToastGaol$Setting"
  | 1 => .array .int
  | 2 => .array .int
  | 3 => .array .int
  | _ => .int
abbrev wsX70 : List Cond := u_ws RX7 TX7 5
theorem nmX7 : ∀ a, a < 5 → ∀ b, b < 5 → a ≠ b → (TX7 a).2.1 ≠ (TX7 b).2.1 := by decide +kernel
theorem tyX7_ok : ∀ k, k < 5 → parseFieldDescriptor (TX7 k).2.2.1 = some (tyX7 k) := by decide +kernel
abbrev cX7_init : ByteArray := prog_9_method_1_code
def yX7_init : MethodName := ⟨RX7, "<init>", "(LToastGaol$Setting;)V"⟩
abbrev cX7_add : ByteArray := prog_9_method_2_code
def yX7_add : MethodName := ⟨RX7, "add", "(III)V"⟩
abbrev cX7_lastHour : ByteArray := prog_9_method_3_code
def yX7_lastHour : MethodName := ⟨RX7, "lastHour", "()I"⟩
abbrev cX7_agreeWith : ByteArray := prog_9_method_4_code
def yX7_agreeWith : MethodName := ⟨RX7, "agreeWith", "(LToastGaol$Course;I)Z"⟩
def RX8 : String := "ToastGaol$Text"
def TX8 : u_T := fun k => match k with
  | 0 => ("ToastGaol$Text", "bytes", "[I", true)
  | _ => ("ToastGaol$Text", "size", "I", false)
def tyX8 : Nat → FieldType := fun k => match k with
  | 0 => .array .int
  | _ => .int
abbrev wsX80 : List Cond := u_ws RX8 TX8 2
theorem nmX8 : ∀ a, a < 2 → ∀ b, b < 2 → a ≠ b → (TX8 a).2.1 ≠ (TX8 b).2.1 := by decide +kernel
theorem tyX8_ok : ∀ k, k < 2 → parseFieldDescriptor (TX8 k).2.2.1 = some (tyX8 k) := by decide +kernel
abbrev cX8_init : ByteArray := prog_10_method_1_code
def yX8_init : MethodName := ⟨RX8, "<init>", "(I)V"⟩
abbrev cX8_faultAsRack : ByteArray := prog_10_method_2_code
def yX8_faultAsRack : MethodName := ⟨RX8, "faultAsRack", "()I"⟩
abbrev cX8_faultAsSlices : ByteArray := prog_10_method_3_code
def yX8_faultAsSlices : MethodName := ⟨RX8, "faultAsSlices", "()I"⟩
abbrev cX8_goesOn : ByteArray := prog_10_method_4_code
def yX8_goesOn : MethodName := ⟨RX8, "goesOn", "(II)Z"⟩
abbrev cX8_kindOf : ByteArray := prog_10_method_5_code
def yX8_kindOf : MethodName := ⟨RX8, "kindOf", "(I)I"⟩
def RX9 : String := "ToastGaol$Window"
def TX9 : u_T := fun k => match k with
  | 0 => ("ToastGaol$Window", "courses", "[LToastGaol$Course;", true)
  | 1 => ("ToastGaol$Window", "open", "I", false)
  | 2 => ("ToastGaol$Window", "hours", "I", false)
  | 3 => ("ToastGaol$Window", "slice", "I", false)
  | 4 => ("ToastGaol$Window", "until", "I", false)
  | 5 => ("ToastGaol$Window", "above", "J", false)
  | _ => ("ToastGaol$Window", "below", "J", false)
def tyX9 : Nat → FieldType := fun k => match k with
  | 0 => .array (.object "ToastGaol$Course")
  | 1 => .int
  | 2 => .int
  | 3 => .int
  | 4 => .int
  | 5 => .long
  | _ => .long
abbrev wsX90 : List Cond := u_ws RX9 TX9 7
theorem nmX9 : ∀ a, a < 7 → ∀ b, b < 7 → a ≠ b → (TX9 a).2.1 ≠ (TX9 b).2.1 := by decide +kernel
theorem tyX9_ok : ∀ k, k < 7 → parseFieldDescriptor (TX9 k).2.2.1 = some (tyX9 k) := by decide +kernel
abbrev cX9_init : ByteArray := prog_11_method_1_code
def yX9_init : MethodName := ⟨RX9, "<init>", "(LToastGaol$Setting;)V"⟩
abbrev cX9_weigh : ByteArray := prog_11_method_2_code
def yX9_weigh : MethodName := ⟨RX9, "weigh", "(IIII)V"⟩
abbrev cX9_ways : ByteArray := prog_11_method_3_code
def yX9_ways : MethodName := ⟨RX9, "ways", "(LToastGaol$Window;I)J"⟩
abbrev cX9_isLetGoFrom : ByteArray := prog_11_method_4_code
def yX9_isLetGoFrom : MethodName := ⟨RX9, "isLetGoFrom", "(I)Z"⟩
def RX10 : String := "ToastGaol"
def TX10 : u_T := fun k => match k with
  | 0 => ("ToastGaol", "texts", "[LToastGaol$Text;", true)
  | 1 => ("ToastGaol", "setting", "LToastGaol$Setting;", true)
  | 2 => ("ToastGaol", "log", "LToastGaol$Log;", true)
  | 3 => ("ToastGaol", "trial", "LToastGaol$Course;", true)
  | 4 => ("ToastGaol", "plans", "LToastGaol$Plans;", true)
  | 5 => ("ToastGaol", "sightings", "LToastGaol$Sightings;", true)
  | 6 => ("ToastGaol", "guesses", "LToastGaol$Guesses;", true)
  | 7 => ("ToastGaol", "window", "LToastGaol$Window;", true)
  | 8 => ("ToastGaol", "others", "LToastGaol$Others;", true)
  | 9 => ("ToastGaol", "sheets", "[LToastGaol$Sheet;", true)
  | _ => ("ToastGaol", "finding", "I", false)
def tyX10 : Nat → FieldType := fun k => match k with
  | 0 => .array (.object "ToastGaol$Text")
  | 1 => .object "ToastGaol$Setting"
  | 2 => .object "ToastGaol$Log"
  | 3 => .object "ToastGaol$Course"
  | 4 => .object "ToastGaol$Plans"
  | 5 => .object "ToastGaol$Sightings"
  | 6 => .object "ToastGaol$Guesses"
  | 7 => .object "ToastGaol$Window"
  | 8 => .object "ToastGaol$Others"
  | 9 => .array (.object "ToastGaol$Sheet")
  | _ => .int
abbrev wsX100 : List Cond := u_ws RX10 TX10 11
theorem nmX10 : ∀ a, a < 11 → ∀ b, b < 11 → a ≠ b → (TX10 a).2.1 ≠ (TX10 b).2.1 := by decide +kernel
theorem tyX10_ok : ∀ k, k < 11 → parseFieldDescriptor (TX10 k).2.2.1 = some (tyX10 k) := by decide +kernel
abbrev cX10_init : ByteArray := prog_1_method_1_code
def yX10_init : MethodName := ⟨RX10, "<init>", "()V"⟩
abbrev cX10_type : ByteArray := prog_1_method_2_code
def yX10_type : MethodName := ⟨RX10, "type", "(II)I"⟩
abbrev cX10_wipe : ByteArray := prog_1_method_3_code
def yX10_wipe : MethodName := ⟨RX10, "wipe", "(I)I"⟩
abbrev cX10_undo : ByteArray := prog_1_method_4_code
def yX10_undo : MethodName := ⟨RX10, "undo", "(I)I"⟩
abbrev cX10_fault : ByteArray := prog_1_method_5_code
def yX10_fault : MethodName := ⟨RX10, "fault", "(I)I"⟩
abbrev cX10_draws : ByteArray := prog_1_method_6_code
def yX10_draws : MethodName := ⟨RX10, "draws", "(I)I"⟩
abbrev cX10_slice : ByteArray := prog_1_method_7_code
def yX10_slice : MethodName := ⟨RX10, "slice", "(II)I"⟩
abbrev cX10_set : ByteArray := prog_1_method_8_code
def yX10_set : MethodName := ⟨RX10, "set", "(II)I"⟩
abbrev cX10_butter : ByteArray := prog_1_method_9_code
def yX10_butter : MethodName := ⟨RX10, "butter", "(II)I"⟩
abbrev cX10_fire : ByteArray := prog_1_method_10_code
def yX10_fire : MethodName := ⟨RX10, "fire", "(I)I"⟩
abbrev cX10_back : ByteArray := prog_1_method_11_code
def yX10_back : MethodName := ⟨RX10, "back", "(I)I"⟩
abbrev cX10_read : ByteArray := prog_1_method_12_code
def yX10_read : MethodName := ⟨RX10, "read", "(I)I"⟩
abbrev cX10_heat : ByteArray := prog_1_method_13_code
def yX10_heat : MethodName := ⟨RX10, "heat", "(II)I"⟩
abbrev cX10_state : ByteArray := prog_1_method_14_code
def yX10_state : MethodName := ⟨RX10, "state", "(II)I"⟩
abbrev cX10_held : ByteArray := prog_1_method_15_code
def yX10_held : MethodName := ⟨RX10, "held", "(I)I"⟩
abbrev cX10_freed : ByteArray := prog_1_method_16_code
def yX10_freed : MethodName := ⟨RX10, "freed", "(II)I"⟩
abbrev cX10_spoilt : ByteArray := prog_1_method_17_code
def yX10_spoilt : MethodName := ⟨RX10, "spoilt", "()I"⟩
abbrev cX10_quiet : ByteArray := prog_1_method_18_code
def yX10_quiet : MethodName := ⟨RX10, "quiet", "()I"⟩
abbrev cX10_crowd : ByteArray := prog_1_method_19_code
def yX10_crowd : MethodName := ⟨RX10, "crowd", "(I)I"⟩
abbrev cX10_move : ByteArray := prog_1_method_20_code
def yX10_move : MethodName := ⟨RX10, "move", "(II)I"⟩
abbrev cX10_swap : ByteArray := prog_1_method_21_code
def yX10_swap : MethodName := ⟨RX10, "swap", "(I)I"⟩
abbrev cX10_line : ByteArray := prog_1_method_22_code
def yX10_line : MethodName := ⟨RX10, "line", "(I)I"⟩
abbrev cX10_bear : ByteArray := prog_1_method_23_code
def yX10_bear : MethodName := ⟨RX10, "bear", "()I"⟩
abbrev cX10_seen : ByteArray := prog_1_method_24_code
def yX10_seen : MethodName := ⟨RX10, "seen", "(III)I"⟩
abbrev cX10_forget : ByteArray := prog_1_method_25_code
def yX10_forget : MethodName := ⟨RX10, "forget", "()I"⟩
abbrev cX10_heats : ByteArray := prog_1_method_26_code
def yX10_heats : MethodName := ⟨RX10, "heats", "(II)I"⟩
abbrev cX10_slots : ByteArray := prog_1_method_27_code
def yX10_slots : MethodName := ⟨RX10, "slots", "(I)I"⟩
abbrev cX10_ask : ByteArray := prog_1_method_28_code
def yX10_ask : MethodName := ⟨RX10, "ask", "(I)I"⟩
abbrev cX10_window : ByteArray := prog_1_method_29_code
def yX10_window : MethodName := ⟨RX10, "window", "(IIIII)J"⟩
abbrev cX10_others : ByteArray := prog_1_method_30_code
def yX10_others : MethodName := ⟨RX10, "others", "(II)I"⟩
abbrev cX10_sheet : ByteArray := prog_1_method_31_code
def yX10_sheet : MethodName := ⟨RX10, "sheet", "(III)I"⟩
abbrev cX10_lose : ByteArray := prog_1_method_32_code
def yX10_lose : MethodName := ⟨RX10, "lose", "(I)I"⟩
abbrev cX10_lay : ByteArray := prog_1_method_33_code
def yX10_lay : MethodName := ⟨RX10, "lay", "(IIII)I"⟩
abbrev cX10_get : ByteArray := prog_1_method_34_code
def yX10_get : MethodName := ⟨RX10, "get", "(III)I"⟩
abbrev cX10_copy : ByteArray := prog_1_method_35_code
def yX10_copy : MethodName := ⟨RX10, "copy", "(IIIII)I"⟩
abbrev cX10_write : ByteArray := prog_1_method_36_code
def yX10_write : MethodName := ⟨RX10, "write", "(II)I"⟩
abbrev cX10_count : ByteArray := prog_1_method_37_code
def yX10_count : MethodName := ⟨RX10, "count", "(I)I"⟩
abbrev cX10_digest : ByteArray := prog_1_method_38_code
def yX10_digest : MethodName := ⟨RX10, "digest", "()J"⟩
abbrev cX10_mix : ByteArray := prog_1_method_39_code
def yX10_mix : MethodName := ⟨RX10, "mix", "(JJ)J"⟩
abbrev cX10_mixTold : ByteArray := prog_1_method_40_code
def yX10_mixTold : MethodName := ⟨RX10, "mixTold", "(JI)J"⟩
abbrev cX10_mixFound : ByteArray := prog_1_method_41_code
def yX10_mixFound : MethodName := ⟨RX10, "mixFound", "(JI)J"⟩
abbrev cX10_timesLetGo : ByteArray := prog_1_method_42_code
def yX10_timesLetGo : MethodName := ⟨RX10, "timesLetGo", "()I"⟩
abbrev cX10_learn : ByteArray := prog_1_method_43_code
def yX10_learn : MethodName := ⟨RX10, "learn", "(I)V"⟩
abbrev cX10_found : ByteArray := prog_1_method_44_code
def yX10_found : MethodName := ⟨RX10, "found", "(I)I"⟩
abbrev cX10_findingAt : ByteArray := prog_1_method_45_code
def yX10_findingAt : MethodName := ⟨RX10, "findingAt", "(III)I"⟩
abbrev cX10_isWithin : ByteArray := prog_1_method_46_code
def yX10_isWithin : MethodName := ⟨RX10, "isWithin", "(II)Z"⟩
abbrev cX10_isText : ByteArray := prog_1_method_47_code
def yX10_isText : MethodName := ⟨RX10, "isText", "(I)Z"⟩
abbrev cX10_isHour : ByteArray := prog_1_method_48_code
def yX10_isHour : MethodName := ⟨RX10, "isHour", "(I)Z"⟩
abbrev cX10_isSlice : ByteArray := prog_1_method_49_code
def yX10_isSlice : MethodName := ⟨RX10, "isSlice", "(I)Z"⟩
abbrev cX10_isSheet : ByteArray := prog_1_method_50_code
def yX10_isSheet : MethodName := ⟨RX10, "isSheet", "(I)Z"⟩
abbrev cX10_isForm : ByteArray := prog_1_method_51_code
def yX10_isForm : MethodName := ⟨RX10, "isForm", "(I)Z"⟩
abbrev cX10_isFigure : ByteArray := prog_1_method_52_code
def yX10_isFigure : MethodName := ⟨RX10, "isFigure", "(I)Z"⟩
def RX11 : String := "ToastGaolModel"
def TX11 : u_T := fun k => match k with
  | 0 => ("ToastGaolModel", "forms", "[I", true)
  | 1 => ("ToastGaolModel", "sizes", "[I", true)
  | 2 => ("ToastGaolModel", "items", "[I", true)
  | 3 => ("ToastGaolModel", "moved", "[I", true)
  | 4 => ("ToastGaolModel", "latest", "I", false)
  | 5 => ("ToastGaolModel", "bytes", "[I", true)
  | 6 => ("ToastGaolModel", "typed", "[I", true)
  | 7 => ("ToastGaolModel", "slots", "I", false)
  | 8 => ("ToastGaolModel", "draws", "[I", true)
  | 9 => ("ToastGaolModel", "slices", "I", false)
  | 10 => ("ToastGaolModel", "slice", "[I", true)
  | 11 => ("ToastGaolModel", "settings", "[I", true)
  | 12 => ("ToastGaolModel", "butters", "I", false)
  | 13 => ("ToastGaolModel", "butter", "[I", true)
  | 14 => ("ToastGaolModel", "fires", "I", false)
  | 15 => ("ToastGaolModel", "fire", "[I", true)
  | 16 => ("ToastGaolModel", "heat", "[I", true)
  | 17 => ("ToastGaolModel", "state", "[I", true)
  | 18 => ("ToastGaolModel", "came", "[I", true)
  | 19 => ("ToastGaolModel", "freeOn", "[I", true)
  | 20 => ("ToastGaolModel", "cools", "[I", true)
  | 21 => ("ToastGaolModel", "heatBy", "[I", true)
  | 22 => ("ToastGaolModel", "stateBy", "[I", true)
  | 23 => ("ToastGaolModel", "freed", "[I", true)
  | 24 => ("ToastGaolModel", "often", "[I", true)
  | 25 => ("ToastGaolModel", "line", "[I", true)
  | 26 => ("ToastGaolModel", "open", "I", false)
  | 27 => ("ToastGaolModel", "sights", "I", false)
  | 28 => ("ToastGaolModel", "sight", "[I", true)
  | 29 => ("ToastGaolModel", "alike", "[I", true)
  | _ => ("ToastGaolModel", "drawn", "I", false)
def tyX11 : Nat → FieldType := fun k => match k with
  | 0 => .array .int
  | 1 => .array .int
  | 2 => .array .int
  | 3 => .array .int
  | 4 => .int
  | 5 => .array .int
  | 6 => .array .int
  | 7 => .int
  | 8 => .array .int
  | 9 => .int
  | 10 => .array .int
  | 11 => .array .int
  | 12 => .int
  | 13 => .array .int
  | 14 => .int
  | 15 => .array .int
  | 16 => .array .int
  | 17 => .array .int
  | 18 => .array .int
  | 19 => .array .int
  | 20 => .array .int
  | 21 => .array .int
  | 22 => .array .int
  | 23 => .array .int
  | 24 => .array .int
  | 25 => .array .int
  | 26 => .int
  | 27 => .int
  | 28 => .array .int
  | 29 => .array .int
  | _ => .int
abbrev wsX110 : List Cond := u_ws RX11 TX11 31
theorem nmX11 : ∀ a, a < 31 → ∀ b, b < 31 → a ≠ b → (TX11 a).2.1 ≠ (TX11 b).2.1 := by decide +kernel
theorem tyX11_ok : ∀ k, k < 31 → parseFieldDescriptor (TX11 k).2.2.1 = some (tyX11 k) := by decide +kernel
abbrev cX11_init : ByteArray := prog_13_method_1_code
def yX11_init : MethodName := ⟨RX11, "<init>", "()V"⟩
abbrev cX11_in : ByteArray := prog_13_method_3_code
def yX11_in : MethodName := ⟨RX11, "in", "(JJJ)Z"⟩
abbrev cX11_no : ByteArray := prog_13_method_4_code
def yX11_no : MethodName := ⟨RX11, "no", "(I)J"⟩
abbrev cX11_isTwo : ByteArray := prog_13_method_5_code
def yX11_isTwo : MethodName := ⟨RX11, "isTwo", "(I)Z"⟩
abbrev cX11_isIn : ByteArray := prog_13_method_6_code
def yX11_isIn : MethodName := ⟨RX11, "isIn", "(II)Z"⟩
abbrev cX11_lesser : ByteArray := prog_13_method_7_code
def yX11_lesser : MethodName := ⟨RX11, "lesser", "(II)I"⟩
abbrev cX11_greater : ByteArray := prog_13_method_8_code
def yX11_greater : MethodName := ⟨RX11, "greater", "(II)I"⟩
abbrev cX11_part : ByteArray := prog_13_method_9_code
def yX11_part : MethodName := ⟨RX11, "part", "(JJI)J"⟩
abbrev cX11_finds : ByteArray := prog_13_method_10_code
def yX11_finds : MethodName := ⟨RX11, "finds", "(I)I"⟩
abbrev cX11_isSheet : ByteArray := prog_13_method_11_code
def yX11_isSheet : MethodName := ⟨RX11, "isSheet", "(I)Z"⟩
abbrev cX11_sheet : ByteArray := prog_13_method_12_code
def yX11_sheet : MethodName := ⟨RX11, "sheet", "(III)I"⟩
abbrev cX11_lose : ByteArray := prog_13_method_13_code
def yX11_lose : MethodName := ⟨RX11, "lose", "(I)I"⟩
abbrev cX11_lacks : ByteArray := prog_13_method_14_code
def yX11_lacks : MethodName := ⟨RX11, "lacks", "(III)I"⟩
abbrev cX11_cut : ByteArray := prog_13_method_15_code
def yX11_cut : MethodName := ⟨RX11, "cut", "(II)I"⟩
abbrev cX11_lay : ByteArray := prog_13_method_16_code
def yX11_lay : MethodName := ⟨RX11, "lay", "(IIII)I"⟩
abbrev cX11_get : ByteArray := prog_13_method_17_code
def yX11_get : MethodName := ⟨RX11, "get", "(III)I"⟩
abbrev cX11_copy : ByteArray := prog_13_method_18_code
def yX11_copy : MethodName := ⟨RX11, "copy", "(IIIII)I"⟩
abbrev cX11_type : ByteArray := prog_13_method_19_code
def yX11_type : MethodName := ⟨RX11, "type", "(II)I"⟩
abbrev cX11_wipe : ByteArray := prog_13_method_20_code
def yX11_wipe : MethodName := ⟨RX11, "wipe", "(I)I"⟩
abbrev cX11_undo : ByteArray := prog_13_method_21_code
def yX11_undo : MethodName := ⟨RX11, "undo", "(I)I"⟩
abbrev cX11_figureOf : ByteArray := prog_13_method_22_code
def yX11_figureOf : MethodName := ⟨RX11, "figureOf", "(I)I"⟩
abbrev cX11_sliceOf : ByteArray := prog_13_method_23_code
def yX11_sliceOf : MethodName := ⟨RX11, "sliceOf", "(II)I"⟩
abbrev cX11_readsRack : ByteArray := prog_13_method_24_code
def yX11_readsRack : MethodName := ⟨RX11, "readsRack", "()I"⟩
abbrev cX11_readsSlices : ByteArray := prog_13_method_25_code
def yX11_readsSlices : MethodName := ⟨RX11, "readsSlices", "()I"⟩
abbrev cX11_fault : ByteArray := prog_13_method_26_code
def yX11_fault : MethodName := ⟨RX11, "fault", "(I)I"⟩
abbrev cX11_isSlice : ByteArray := prog_13_method_27_code
def yX11_isSlice : MethodName := ⟨RX11, "isSlice", "(I)Z"⟩
abbrev cX11_isHour : ByteArray := prog_13_method_28_code
def yX11_isHour : MethodName := ⟨RX11, "isHour", "(I)Z"⟩
abbrev cX11_draws : ByteArray := prog_13_method_29_code
def yX11_draws : MethodName := ⟨RX11, "draws", "(I)I"⟩
abbrev cX11_slice : ByteArray := prog_13_method_30_code
def yX11_slice : MethodName := ⟨RX11, "slice", "(II)I"⟩
abbrev cX11_set : ByteArray := prog_13_method_31_code
def yX11_set : MethodName := ⟨RX11, "set", "(II)I"⟩
abbrev cX11_butter : ByteArray := prog_13_method_32_code
def yX11_butter : MethodName := ⟨RX11, "butter", "(II)I"⟩
abbrev cX11_fire : ByteArray := prog_13_method_33_code
def yX11_fire : MethodName := ⟨RX11, "fire", "(I)I"⟩
abbrev cX11_back : ByteArray := prog_13_method_34_code
def yX11_back : MethodName := ⟨RX11, "back", "(I)I"⟩
abbrev cX11_read : ByteArray := prog_13_method_35_code
def yX11_read : MethodName := ⟨RX11, "read", "(I)I"⟩
abbrev cX11_isHere : ByteArray := prog_13_method_36_code
def yX11_isHere : MethodName := ⟨RX11, "isHere", "(I)Z"⟩
abbrev cX11_standingIn : ByteArray := prog_13_method_37_code
def yX11_standingIn : MethodName := ⟨RX11, "standingIn", "(I)I"⟩
abbrev cX11_comesAgain : ByteArray := prog_13_method_38_code
def yX11_comesAgain : MethodName := ⟨RX11, "comesAgain", "(II)V"⟩
abbrev cX11_burns : ByteArray := prog_13_method_39_code
def yX11_burns : MethodName := ⟨RX11, "burns", "(I)V"⟩
abbrev cX11_spreads : ByteArray := prog_13_method_40_code
def yX11_spreads : MethodName := ⟨RX11, "spreads", "(I)V"⟩
abbrev cX11_hotter : ByteArray := prog_13_method_41_code
def yX11_hotter : MethodName := ⟨RX11, "hotter", "(II)I"⟩
abbrev cX11_coolsBy : ByteArray := prog_13_method_42_code
def yX11_coolsBy : MethodName := ⟨RX11, "coolsBy", "(II)I"⟩
abbrev cX11_cool : ByteArray := prog_13_method_43_code
def yX11_cool : MethodName := ⟨RX11, "cool", "(I)V"⟩
abbrev cX11_lives : ByteArray := prog_13_method_44_code
def yX11_lives : MethodName := ⟨RX11, "lives", "()V"⟩
abbrev cX11_find : ByteArray := prog_13_method_45_code
def yX11_find : MethodName := ⟨RX11, "find", "()V"⟩
abbrev cX11_heat : ByteArray := prog_13_method_46_code
def yX11_heat : MethodName := ⟨RX11, "heat", "(II)I"⟩
abbrev cX11_state : ByteArray := prog_13_method_47_code
def yX11_state : MethodName := ⟨RX11, "state", "(II)I"⟩
abbrev cX11_heldBy : ByteArray := prog_13_method_48_code
def yX11_heldBy : MethodName := ⟨RX11, "heldBy", "(I)I"⟩
abbrev cX11_held : ByteArray := prog_13_method_49_code
def yX11_held : MethodName := ⟨RX11, "held", "(I)I"⟩
abbrev cX11_freedBy : ByteArray := prog_13_method_50_code
def yX11_freedBy : MethodName := ⟨RX11, "freedBy", "(II)I"⟩
abbrev cX11_freed : ByteArray := prog_13_method_51_code
def yX11_freed : MethodName := ⟨RX11, "freed", "(II)I"⟩
abbrev cX11_spoiltNow : ByteArray := prog_13_method_52_code
def yX11_spoiltNow : MethodName := ⟨RX11, "spoiltNow", "()I"⟩
abbrev cX11_spoilt : ByteArray := prog_13_method_53_code
def yX11_spoilt : MethodName := ⟨RX11, "spoilt", "()I"⟩
abbrev cX11_here : ByteArray := prog_13_method_54_code
def yX11_here : MethodName := ⟨RX11, "here", "(I)I"⟩
abbrev cX11_quietNow : ByteArray := prog_13_method_55_code
def yX11_quietNow : MethodName := ⟨RX11, "quietNow", "()I"⟩
abbrev cX11_quiet : ByteArray := prog_13_method_56_code
def yX11_quiet : MethodName := ⟨RX11, "quiet", "()I"⟩
abbrev cX11_crowdBy : ByteArray := prog_13_method_57_code
def yX11_crowdBy : MethodName := ⟨RX11, "crowdBy", "(I)I"⟩
abbrev cX11_crowd : ByteArray := prog_13_method_58_code
def yX11_crowd : MethodName := ⟨RX11, "crowd", "(I)I"⟩
abbrev cX11_moveOf : ByteArray := prog_13_method_59_code
def yX11_moveOf : MethodName := ⟨RX11, "moveOf", "(II)I"⟩
abbrev cX11_move : ByteArray := prog_13_method_60_code
def yX11_move : MethodName := ⟨RX11, "move", "(II)I"⟩
abbrev cX11_allHere : ByteArray := prog_13_method_61_code
def yX11_allHere : MethodName := ⟨RX11, "allHere", "()I"⟩
abbrev cX11_changes : ByteArray := prog_13_method_62_code
def yX11_changes : MethodName := ⟨RX11, "changes", "(II)V"⟩
abbrev cX11_swapBy : ByteArray := prog_13_method_63_code
def yX11_swapBy : MethodName := ⟨RX11, "swapBy", "(I)I"⟩
abbrev cX11_swap : ByteArray := prog_13_method_64_code
def yX11_swap : MethodName := ⟨RX11, "swap", "(I)I"⟩
abbrev cX11_line : ByteArray := prog_13_method_65_code
def yX11_line : MethodName := ⟨RX11, "line", "(I)I"⟩
abbrev cX11_bearNow : ByteArray := prog_13_method_66_code
def yX11_bearNow : MethodName := ⟨RX11, "bearNow", "()I"⟩
abbrev cX11_bear : ByteArray := prog_13_method_67_code
def yX11_bear : MethodName := ⟨RX11, "bear", "()I"⟩
abbrev cX11_seen : ByteArray := prog_13_method_68_code
def yX11_seen : MethodName := ⟨RX11, "seen", "(III)I"⟩
abbrev cX11_forget : ByteArray := prog_13_method_69_code
def yX11_forget : MethodName := ⟨RX11, "forget", "()I"⟩
abbrev cX11_isSeen : ByteArray := prog_13_method_70_code
def yX11_isSeen : MethodName := ⟨RX11, "isSeen", "()Z"⟩
abbrev cX11_heatsOf : ByteArray := prog_13_method_71_code
def yX11_heatsOf : MethodName := ⟨RX11, "heatsOf", "(II)I"⟩
abbrev cX11_heats : ByteArray := prog_13_method_72_code
def yX11_heats : MethodName := ⟨RX11, "heats", "(II)I"⟩
abbrev cX11_slotsOf : ByteArray := prog_13_method_73_code
def yX11_slotsOf : MethodName := ⟨RX11, "slotsOf", "(I)I"⟩
abbrev cX11_slots : ByteArray := prog_13_method_74_code
def yX11_slots : MethodName := ⟨RX11, "slots", "(I)I"⟩
abbrev cX11_askOf : ByteArray := prog_13_method_75_code
def yX11_askOf : MethodName := ⟨RX11, "askOf", "(I)I"⟩
abbrev cX11_ask : ByteArray := prog_13_method_76_code
def yX11_ask : MethodName := ⟨RX11, "ask", "(I)I"⟩
abbrev cX11_windowOf : ByteArray := prog_13_method_77_code
def yX11_windowOf : MethodName := ⟨RX11, "windowOf", "(IIIII)J"⟩
abbrev cX11_window : ByteArray := prog_13_method_78_code
def yX11_window : MethodName := ⟨RX11, "window", "(IIIII)J"⟩
abbrev cX11_lot : ByteArray := prog_13_method_79_code
def yX11_lot : MethodName := ⟨RX11, "lot", "(I)I"⟩
abbrev cX11_othersOf : ByteArray := prog_13_method_80_code
def yX11_othersOf : MethodName := ⟨RX11, "othersOf", "(II)I"⟩
abbrev cX11_others : ByteArray := prog_13_method_81_code
def yX11_others : MethodName := ⟨RX11, "others", "(II)I"⟩
abbrev cX11_write : ByteArray := prog_13_method_82_code
def yX11_write : MethodName := ⟨RX11, "write", "(II)I"⟩
abbrev cX11_allFreed : ByteArray := prog_13_method_83_code
def yX11_allFreed : MethodName := ⟨RX11, "allFreed", "()I"⟩
abbrev cX11_count : ByteArray := prog_13_method_84_code
def yX11_count : MethodName := ⟨RX11, "count", "(I)I"⟩
abbrev cX11_tellsSlice : ByteArray := prog_13_method_85_code
def yX11_tellsSlice : MethodName := ⟨RX11, "tellsSlice", "(JI)J"⟩
abbrev cX11_digest : ByteArray := prog_13_method_86_code
def yX11_digest : MethodName := ⟨RX11, "digest", "()J"⟩
def RL : String := "ToastGaolLaw"
abbrev cL_law : ByteArray := code
def yL_law : MethodName := ⟨RL, "law", "([I)Z"⟩
abbrev vwCl : List vw_C := [(RX0, TX0, 9), (RX1, TX1, 7), (RX2, TX2, 6), (RX3, TX3, 5), (RX4, TX4, 7), (RX5, TX5, 12), (RX6, TX6, 3), (RX7, TX7, 5), (RX8, TX8, 2), (RX9, TX9, 7), (RX10, TX10, 11), (RX11, TX11, 31)]
theorem inX0 : ∀ w ∈ wsX00, w ∈ lw_tbl := by decide +kernel
theorem inX1 : ∀ w ∈ wsX10, w ∈ lw_tbl := by decide +kernel
theorem inX2 : ∀ w ∈ wsX20, w ∈ lw_tbl := by decide +kernel
theorem inX3 : ∀ w ∈ wsX30, w ∈ lw_tbl := by decide +kernel
theorem inX4 : ∀ w ∈ wsX40, w ∈ lw_tbl := by decide +kernel
theorem inX5 : ∀ w ∈ wsX50, w ∈ lw_tbl := by decide +kernel
theorem inX6 : ∀ w ∈ wsX60, w ∈ lw_tbl := by decide +kernel
theorem inX7 : ∀ w ∈ wsX70, w ∈ lw_tbl := by decide +kernel
theorem inX8 : ∀ w ∈ wsX80, w ∈ lw_tbl := by decide +kernel
theorem inX9 : ∀ w ∈ wsX90, w ∈ lw_tbl := by decide +kernel
theorem inX10 : ∀ w ∈ wsX100, w ∈ lw_tbl := by decide +kernel
theorem inX11 : ∀ w ∈ wsX110, w ∈ lw_tbl := by decide +kernel
end
section
/-! A small machine over the class's own cells. A cell has a number; its shape: .inl n an int row of n, .inr (.inl (c, n)) a row of n references to objects of class c, .inr (.inr c) an object of class c.
What cells hold: references, ints (booleans too), longs, by cell and place. References above 999 are rows that lie outside (the script, the class's constant rows): read only. -/
abbrev mm_G : Type := List (Nat ⊕ ((Nat × Nat) ⊕ Nat))
abbrev mm_W : Type := mm_G × (Nat → Nat → Option Nat) × (Nat → Nat → Int32) × (Nat → Nat → Int64)
abbrev mm_L : Type := List (Option Value)
abbrev mm_C : Type := Nat × mm_L × List Value × mm_W
abbrev mm_X : Type := Nat → Option (Nat × (Nat → Int32))
abbrev mm_R : Type := mm_C ⊕ ((Option Value × mm_W) ⊕ (Nat × List Value × mm_C))
/-- an instruction: what it is, two numbers for what it names, the next one's place, its pc, its length -/
abbrev mm_I : Type := Instr × Nat × Nat × Nat × Nat × Nat
/-- a method: what it returns (0 nothing, 1 int, 2 boolean, 3 long), how many locals, its instructions -/
abbrev mm_M : Type := Nat × Nat × List mm_I
def mm_u {α : Type} (f : Nat → Nat → α) (k j : Nat) (v : α) : Nat → Nat → α := fun k' j' => if k' = k ∧ j' = j then v else f k' j'
/-- a whole cell anew -/
def mm_z {α : Type} (f : Nat → Nat → α) (k : Nat) (g : Nat → α) : Nat → Nat → α := fun k' j' => if k' = k then g j' else f k' j'
def mm_rf (r : Option Nat) : Value := match r with
  | none => .null
  | some k => .ref k
/-- what an instruction does that touches the stack alone -/
def mm_pure (q : Instr) (a : Nat) (S : List Value) : Option (List Value) := match q with
  | .iconst n => some (.int (Int32.ofInt n) :: S)
  | .bipush n => some (.int (Int8.ofInt n).toInt32 :: S)
  | .sipush n => some (.int (Int16.ofInt n).toInt32 :: S)
  | .lconst n => some (.long (Int64.ofNat (n : Nat)) :: S)
  | .ldc _ => some (.int (Int32.ofNat a) :: S)
  | .ldc_w _ => some (.int (Int32.ofNat a) :: S)
  | .ldc2_w _ => some (.long (Int64.ofNat a) :: S)
  | .iadd => match S with | .int y :: .int x :: r => some (.int (x + y) :: r) | _ => none
  | .isub => match S with | .int y :: .int x :: r => some (.int (x - y) :: r) | _ => none
  | .imul => match S with | .int y :: .int x :: r => some (.int (x * y) :: r) | _ => none
  | .iand => match S with | .int y :: .int x :: r => some (.int (x &&& y) :: r) | _ => none
  | .ior => match S with | .int y :: .int x :: r => some (.int (x ||| y) :: r) | _ => none
  | .ixor => match S with | .int y :: .int x :: r => some (.int (x ^^^ y) :: r) | _ => none
  | .ishl => match S with | .int y :: .int x :: r => some (.int (x <<< (y &&& 31)) :: r) | _ => none
  | .ishr => match S with | .int y :: .int x :: r => some (.int (x >>> (y &&& 31)) :: r) | _ => none
  | .iushr => match S with | .int y :: .int x :: r => some (.int (x.toUInt32 >>> (y.toUInt32 &&& Int32.toUInt32 31)).toInt32 :: r) | _ => none
  | .idiv => match S with | .int y :: .int x :: r => if y = 0 then none else some (.int (x / y) :: r) | _ => none
  | .irem => match S with | .int y :: .int x :: r => if y = 0 then none else some (.int (x - x / y * y) :: r) | _ => none
  | .ladd => match S with | .long y :: .long x :: r => some (.long (x + y) :: r) | _ => none
  | .lsub => match S with | .long y :: .long x :: r => some (.long (x - y) :: r) | _ => none
  | .lmul => match S with | .long y :: .long x :: r => some (.long (x * y) :: r) | _ => none
  | .land => match S with | .long y :: .long x :: r => some (.long (x &&& y) :: r) | _ => none
  | .ldiv => match S with | .long y :: .long x :: r => if y = 0 then none else some (.long (x / y) :: r) | _ => none
  | .lrem => match S with | .long y :: .long x :: r => if y = 0 then none else some (.long (x - x / y * y) :: r) | _ => none
  | .lshl => match S with | .int y :: .long x :: r => some (.long (x <<< (y.toInt64 &&& 63)) :: r) | _ => none
  | .lshr => match S with | .int y :: .long x :: r => some (.long (x >>> (y.toInt64 &&& 63)) :: r) | _ => none
  | .lcmp => match S with | .long y :: .long x :: r => some (.int (lg_cmp x y) :: r) | _ => none
  | .i2l => match S with | .int x :: r => some (.long x.toInt64 :: r) | _ => none
  | .i2b => match S with | .int x :: r => some (.int x.toInt8.toInt32 :: r) | _ => none
  | .i2s => match S with | .int x :: r => some (.int x.toInt16.toInt32 :: r) | _ => none
  | .dup => match S with | v :: r => if v.category = 1 then some (v :: v :: r) else none | _ => none
  | .dup2 => match S with | v :: u :: r => if v.category = 1 ∧ u.category = 1 then some (v :: u :: v :: u :: r) else none | _ => none
  | .pop => match S with | v :: r => if v.category = 1 then some r else none | _ => none
  | _ => none
/-- a local is set -/
def mm_cl (L : mm_L) (i : Nat) : mm_L := match i with
  | 0 => L
  | j + 1 => match L[j]? with
    | some (some u) => if u.category = 2 then L.set j none else L
    | _ => L
def mm_st (L : mm_L) (i : Nat) (v : Value) : Option mm_L := if v.category = 2 then (if i + 1 < L.length then some (((mm_cl L i).set i (some v)).set (i + 1) none) else none) else (if i < L.length then some ((mm_cl L i).set i (some v)) else none)
def mm_ld (L : mm_L) (i : Nat) : Option Value := match L[i]? with
  | some (some v) => some v
  | _ => none
def mm_loc (q : Instr) (L : mm_L) (S : List Value) : Option (mm_L × List Value) := match q with
  | .iload i => match mm_ld L i with | some (.int x) => some (L, .int x :: S) | _ => none
  | .iload_n i => match mm_ld L i with | some (.int x) => some (L, .int x :: S) | _ => none
  | .lload i => match mm_ld L i with | some (.long x) => some (L, .long x :: S) | _ => none
  | .lload_n i => match mm_ld L i with | some (.long x) => some (L, .long x :: S) | _ => none
  | .aload i => match mm_ld L i with | some (.ref x) => some (L, .ref x :: S) | _ => none
  | .aload_n i => match mm_ld L i with | some (.ref x) => some (L, .ref x :: S) | _ => none
  | .istore i => match S with | .int x :: r => (mm_st L i (.int x)).map (fun L' => (L', r)) | _ => none
  | .istore_n i => match S with | .int x :: r => (mm_st L i (.int x)).map (fun L' => (L', r)) | _ => none
  | .lstore i => match S with | .long x :: r => (mm_st L i (.long x)).map (fun L' => (L', r)) | _ => none
  | .lstore_n i => match S with | .long x :: r => (mm_st L i (.long x)).map (fun L' => (L', r)) | _ => none
  | .astore i => match S with | .ref x :: r => (mm_st L i (.ref x)).map (fun L' => (L', r)) | _ => none
  | .astore_n i => match S with | .ref x :: r => (mm_st L i (.ref x)).map (fun L' => (L', r)) | _ => none
  | .iinc i n => match mm_ld L i with | some (.int x) => (mm_st L i (.int (x + Int32.ofInt n))).map (fun L' => (L', S)) | _ => none
  | _ => none
/-- a branch: where it goes (a: the target's place, nx: the next one's; of a switch: the default's, and b on the others') -/
def mm_br (q : Instr) (a nx : Nat) (S : List Value) : Option (Nat × List Value) := match q with
  | .goto _ => some (a, S)
  | .ifCond .eq _ => match S with | .int x :: r => some (if x = 0 then a else nx, r) | _ => none
  | .ifCond .ne _ => match S with | .int x :: r => some (if x ≠ 0 then a else nx, r) | _ => none
  | .ifCond .lt _ => match S with | .int x :: r => some (if x < 0 then a else nx, r) | _ => none
  | .ifCond .ge _ => match S with | .int x :: r => some (if 0 ≤ x then a else nx, r) | _ => none
  | .ifCond .gt _ => match S with | .int x :: r => some (if 0 < x then a else nx, r) | _ => none
  | .ifCond .le _ => match S with | .int x :: r => some (if x ≤ 0 then a else nx, r) | _ => none
  | .if_icmp .eq _ => match S with | .int y :: .int x :: r => some (if x = y then a else nx, r) | _ => none
  | .if_icmp .ne _ => match S with | .int y :: .int x :: r => some (if x ≠ y then a else nx, r) | _ => none
  | .if_icmp .lt _ => match S with | .int y :: .int x :: r => some (if x < y then a else nx, r) | _ => none
  | .if_icmp .ge _ => match S with | .int y :: .int x :: r => some (if y ≤ x then a else nx, r) | _ => none
  | .if_icmp .gt _ => match S with | .int y :: .int x :: r => some (if y < x then a else nx, r) | _ => none
  | .if_icmp .le _ => match S with | .int y :: .int x :: r => some (if x ≤ y then a else nx, r) | _ => none
  | _ => none
/-- a switch: its cases, and the default's place -/
def mm_tg (l : List (Int × Nat)) (a : Nat) (x : Int32) : Nat := match l with
  | [] => a
  | q :: l' => if x.toInt = q.1 then q.2 else mm_tg l' a x
/-- an int row: of the world, or outside -/
def mm_arr (X : mm_X) (w : mm_W) (k : Nat) : Option (Nat × (Nat → Int32)) := if k < 1000 then (match w.1[k]? with | some (.inl n) => some (n, w.2.2.1 k) | _ => none) else X (k - 1000)
def mm_arw (w : mm_W) (k : Nat) : Option Nat := match w.1[k]? with
  | some (.inl n) => some n
  | _ => none
/-- the fields' kinds by class: 0 int, 1 boolean, 2 long, 3 a reference -/
def mm_fks : List (List Nat) := [[3, 3, 3, 3, 3, 3, 3, 3, 0], [3, 3, 3, 3, 0, 3, 3], [3, 3, 3, 3, 3, 1], [3, 3, 3, 0, 0], [3, 3, 0, 0, 0, 0, 0], [0, 3, 0, 3, 3, 3, 3, 0, 3, 3, 0, 3], [0, 0, 3], [3, 3, 3, 3, 0], [3, 0], [3, 0, 0, 0, 0, 2, 2], [3, 3, 3, 3, 3, 3, 3, 3, 3, 3, 0], [3, 3, 3, 3, 0, 3, 3, 0, 3, 0, 3, 3, 0, 3, 0, 3, 3, 3, 3, 3, 3, 3, 3, 3, 3, 3, 0, 0, 3, 3, 0]]
def mm_nf (c : Nat) : Nat := (mm_fks[c]?.getD []).length
def mm_fk (c j : Nat) : Nat := (mm_fks[c]?.getD [])[j]?.getD 9
/-- what a step does in the heap -/
def mm_heap (X : mm_X) (q : Instr) (a b : Nat) (S : List Value) (w : mm_W) : Option (List Value × mm_W) := match q with
  | .getfield _ => match S with
    | .ref k :: r => if w.1[k]? = some (.inr (.inr a)) ∧ k < 1000 then (if mm_fk a b ≤ 1 then some (.int (w.2.2.1 k b) :: r, w) else if mm_fk a b = 2 then some (.long (w.2.2.2 k b) :: r, w) else if mm_fk a b = 3 then some (mm_rf (w.2.1 k b) :: r, w) else none) else none
    | _ => none
  | .putfield _ => match S with
    | .int x :: .ref k :: r => if w.1[k]? = some (.inr (.inr a)) ∧ k < 1000 ∧ (mm_fk a b = 0 ∨ mm_fk a b = 1 ∧ (x = 0 ∨ x = 1)) then some (r, (w.1, w.2.1, mm_u w.2.2.1 k b x, w.2.2.2)) else none
    | .long x :: .ref k :: r => if w.1[k]? = some (.inr (.inr a)) ∧ k < 1000 ∧ mm_fk a b = 2 then some (r, (w.1, w.2.1, w.2.2.1, mm_u w.2.2.2 k b x)) else none
    | .ref x :: .ref k :: r => if w.1[k]? = some (.inr (.inr a)) ∧ k < 1000 ∧ mm_fk a b = 3 then some (r, (w.1, mm_u w.2.1 k b (some x), w.2.2.1, w.2.2.2)) else none
    | _ => none
  | .iaload => match S with
    | .int i :: .ref k :: r => match mm_arr X w k with
      | some nf => if ¬ (i < 0 ∨ nf.1 ≤ i.toNatClampNeg) then some (.int (nf.2 i.toNatClampNeg) :: r, w) else none
      | none => none
    | _ => none
  | .iastore => match S with
    | .int x :: .int i :: .ref k :: r => match mm_arw w k with
      | some n => if ¬ (i < 0 ∨ n ≤ i.toNatClampNeg) ∧ k < 1000 then some (r, (w.1, w.2.1, mm_u w.2.2.1 k i.toNatClampNeg x, w.2.2.2)) else none
      | none => none
    | _ => none
  | .arraylength => match S with
    | .ref k :: r => match mm_arr X w k with
      | some nf => some (.int (Int32.ofNat nf.1) :: r, w)
      | none => none
    | _ => none
  | .aaload => match S with
    | .int i :: .ref k :: r => match w.1[k]? with
      | some (.inr (.inl cn)) => if ¬ (i < 0 ∨ cn.2 ≤ i.toNatClampNeg) ∧ k < 1000 then some (mm_rf (w.2.1 k i.toNatClampNeg) :: r, w) else none
      | _ => none
    | _ => none
  | .aastore => match S with
    | .ref v :: .int i :: .ref k :: r => match w.1[k]? with
      | some (.inr (.inl cn)) => if ¬ (i < 0 ∨ cn.2 ≤ i.toNatClampNeg) ∧ k < 1000 ∧ v < 1000 ∧ w.1[v]? = some (.inr (.inr cn.1)) then some (r, (w.1, mm_u w.2.1 k i.toNatClampNeg (some v), w.2.2.1, w.2.2.2)) else none
      | _ => none
    | _ => none
  | .newarray .int => match S with
    | .int n :: r => if ¬ n < 0 ∧ n.toNatClampNeg ≤ 1000 ∧ w.1.length < 1000 then some (.ref w.1.length :: r, (w.1 ++ [.inl n.toNatClampNeg], w.2.1, mm_z w.2.2.1 w.1.length (fun _ => 0), w.2.2.2)) else none
    | _ => none
  | .anewarray _ => match S with
    | .int n :: r => if ¬ n < 0 ∧ n.toNatClampNeg ≤ 1000 ∧ w.1.length < 1000 then some (.ref w.1.length :: r, (w.1 ++ [.inr (.inl (a, n.toNatClampNeg))], mm_z w.2.1 w.1.length (fun _ => none), w.2.2.1, w.2.2.2)) else none
    | _ => none
  | .new _ => if w.1.length < 1000 then some (.ref w.1.length :: S, (w.1 ++ [.inr (.inr a)], mm_z w.2.1 w.1.length (fun _ => none), mm_z w.2.2.1 w.1.length (fun _ => 0), mm_z w.2.2.2 w.1.length (fun _ => 0))) else none
  | .getstatic _ => some (.ref a :: S, w)
  | .invokestatic _ => if a = 1001 then (match S with
      | .int y :: .int x :: r => if (r.map fun v => v.category).sum ≤ 8 then some (.int (if x < y then y else x) :: r, w) else none
      | _ => none) else if a = 1002 then (match S with
      | .int y :: .int x :: r => if (r.map fun v => v.category).sum ≤ 8 then some (.int (if y < x then y else x) :: r, w) else none
      | _ => none) else if a = 1003 then (match S with
      | .int n :: .int dp :: .ref kd :: .int sp :: .ref ks :: r => match mm_arw w ks, mm_arw w kd with
        | some n0, some n1 => if (¬ sp < 0 ∧ ¬ dp < 0 ∧ ¬ n < 0 ∧ sp.toNatClampNeg + n.toNatClampNeg ≤ n0 ∧ dp.toNatClampNeg + n.toNatClampNeg ≤ n1) ∧ ks < 1000 ∧ kd < 1000 ∧ (r.map fun v => v.category).sum ≤ 8 then some (r, (w.1, w.2.1, mm_z w.2.2.1 kd (va_cpy (w.2.2.1 ks) (w.2.2.1 kd) sp.toNatClampNeg dp.toNatClampNeg n.toNatClampNeg), w.2.2.2)) else none
        | _, _ => none
      | _ => none) else none
  | .invokespecial _ => if a = 1000 then (match S with
      | .ref _ :: r => if (r.map fun v => v.category).sum ≤ 8 then some (r, w) else none
      | _ => none) else none
  | _ => none
/-- a call: the callee, what it gets, what stays; rk: the class whose object a virtual call wants -/
def mm_inv (rk : Nat → Nat) (q : Instr) (a b : Nat) (S : List Value) (w : mm_W) : Option (List Value × List Value) := match q with
  | .invokestatic _ => if a < 1000 ∧ b ≤ S.length ∧ ((S.drop b).map fun v => v.category).sum ≤ 8 then some ((S.take b).reverse, S.drop b) else none
  | .invokespecial _ => if a < 1000 ∧ b ≤ S.length ∧ ((S.drop b).map fun v => v.category).sum ≤ 8 then (match (S.take b).reverse with | .ref k :: r => some (.ref k :: r, S.drop b) | _ => none) else none
  | .invokevirtual _ => if a < 1000 ∧ b ≤ S.length ∧ ((S.drop b).map fun v => v.category).sum ≤ 8 then (match (S.take b).reverse with | .ref k :: r => if w.1[k]? = some (.inr (.inr (rk a))) ∧ k < 1000 then some (.ref k :: r, S.drop b) else none | _ => none) else none
  | _ => none
def mm_ret (rt : Nat) (q : Instr) (S : List Value) : Option (Option Value) := match q with
  | .return_ => if rt = 0 ∧ S = [] then some none else none
  | .ireturn => match S with | [.int x] => if rt = 1 ∨ rt = 2 ∧ (x = 0 ∨ x = 1) then some (some (.int x)) else none | _ => none
  | .lreturn => match S with | [.long x] => if rt = 3 then some (some (.long x)) else none | _ => none
  | _ => none
def mm_swi (sw : Nat → List (Int × Nat)) (q : Instr) (a b : Nat) (S : List Value) : Option (Nat × List Value) := match q with
  | .tableswitch _ _ _ _ => match S with | .int x :: r => some (mm_tg (sw b) a x, r) | _ => none
  | .lookupswitch _ _ => match S with | .int x :: r => some (mm_tg (sw b) a x, r) | _ => none
  | _ => none
/-- the kind of an instruction: 0 stack alone, 1 locals, 2 a branch, 3 the heap, 4 a call, 5 a return, 6 a switch -/
def mm_kd (q : Instr) (a : Nat) : Nat := match q with
  | .iload _ | .iload_n _ | .lload _ | .lload_n _ | .aload _ | .aload_n _ | .istore _ | .istore_n _ | .lstore _ | .lstore_n _ | .astore _ | .astore_n _ | .iinc _ _ => 1
  | .goto _ | .ifCond _ _ | .if_icmp _ _ => 2
  | .getfield _ | .putfield _ | .iaload | .iastore | .arraylength | .aaload | .aastore | .newarray _ | .anewarray _ | .new _ | .getstatic _ => 3
  | .invokestatic _ | .invokespecial _ => if a < 1000 then 4 else 3
  | .invokevirtual _ => 4
  | .return_ | .ireturn | .lreturn => 5
  | .tableswitch _ _ _ _ | .lookupswitch _ _ => 6
  | _ => 0
def mm_step (X : mm_X) (rk : Nat → Nat) (sw : Nat → List (Int × Nat)) (rt : Nat) (q : Instr) (a b nx : Nat) (c : mm_C) : Option mm_R := match mm_kd q a with
  | 0 => (mm_pure q a c.2.2.1).map (fun S' => .inl (nx, c.2.1, S', c.2.2.2))
  | 1 => (mm_loc q c.2.1 c.2.2.1).map (fun z => .inl (nx, z.1, z.2, c.2.2.2))
  | 2 => (mm_br q a nx c.2.2.1).map (fun z => .inl (z.1, c.2.1, z.2, c.2.2.2))
  | 3 => (mm_heap X q a b c.2.2.1 c.2.2.2).map (fun z => .inl (nx, c.2.1, z.1, z.2))
  | 4 => (mm_inv rk q a b c.2.2.1 c.2.2.2).map (fun z => .inr (.inr (a, z.1, (nx, c.2.1, z.2, c.2.2.2))))
  | 5 => (mm_ret rt q c.2.2.1).map (fun v => .inr (.inl (v, c.2.2.2)))
  | 6 => (mm_swi sw q a b c.2.2.1).map (fun z => .inl (z.1, c.2.1, z.2, c.2.2.2))
  | _ => none
/-- the locals with which a method begins -/
def mm_la (vs : List Value) : mm_L := vs.flatMap fun v => if v.category = 2 then [some v, none] else [some v]
def mm_en (vs : List Value) (n : Nat) : mm_L := mm_la vs ++ List.replicate (n - (mm_la vs).length) none
/-- it runs: d calls deep at most, n steps at most in each -/
def mm_run (X : mm_X) (rk : Nat → Nat) (sw : Nat → List (Int × Nat)) (tab : Nat → Option mm_M) (n : Nat) (d : Nat) (M : mm_M) (c : mm_C) : Option (Option Value × mm_W) := match n with
  | 0 => none
  | n + 1 => match M.2.2[c.1]? with
    | none => none
    | some i => match mm_step X rk sw M.1 i.1 i.2.1 i.2.2.1 i.2.2.2.1 c with
      | none => none
      | some (.inl c') => mm_run X rk sw tab n d M c'
      | some (.inr (.inl z)) => some z
      | some (.inr (.inr z)) => match d with
        | 0 => none
        | d + 1 => match tab z.1 with
          | none => none
          | some M' => if (mm_la z.2.1).length ≤ M'.2.1 then (match mm_run X rk sw tab n d M' (0, mm_en z.2.1 M'.2.1, [], z.2.2.2.2.2) with
            | none => none
            | some y => mm_run X rk sw tab n (d + 1) M (z.2.2.1, z.2.2.2.1, y.1.toList ++ z.2.2.2.2.1, y.2)) else none
end
section
/-! the small machine against the machine itself: instruction by instruction -/
def mm_ad (base : Nat) (E : Nat → Nat) (k : Nat) : Nat := if k < 1000 then base + k else E (k - 1000)
def mm_tv (ad : Nat → Nat) (v : Value) : Value := match v with
  | .ref k => .ref (ad k)
  | v => v
theorem mm_tv_cat (ad : Nat → Nat) (v : Value) : (mm_tv ad v).category = v.category := by cases v <;> rfl
theorem mm_tv_sum (ad : Nat → Nat) (S : List Value) : ((S.map (mm_tv ad)).map fun v => v.category).sum = (S.map fun v => v.category).sum := by
  rw [List.map_map]
  congr 1
  apply List.map_congr_left
  intro v _
  exact mm_tv_cat ad v
/-- an instruction's length -/
def mm_ln (q : Instr) : Nat := match q with
  | .bipush _ | .ldc _ | .iload _ | .lload _ | .aload _ | .istore _ | .lstore _ | .astore _ | .newarray _ => 2
  | .sipush _ | .ldc_w _ | .ldc2_w _ | .iinc _ _ | .goto _ | .ifCond _ _ | .if_icmp _ _ | .getfield _ | .putfield _ | .getstatic _ | .anewarray _ | .new _ | .invokestatic _ | .invokespecial _ | .invokevirtual _ => 3
  | _ => 1
def mm_cst (own : String) (q : Instr) (a : Nat) (args : Array Value) (s : State) : Prop := match q with
  | .ldc i => (Cond.constant own i (Int32.ofNat a)).before args s = true
  | .ldc_w i => (Cond.constant own i (Int32.ofNat a)).before args s = true
  | .ldc2_w i => (Cond.constantLong own i (Int64.ofNat a)).before args s = true
  | _ => True
section SO
variable {p : Program} {l : Launch} {e : Env} {R : Room} {s : State} {m : MethodId} {args : Array Value} {below : List Frame} {meth : Method} {c : Code} {H : Heap} {locs : List Loc} {cells slots : Nat} {Q : State → Prop}
variable {cc : ByteArray} {pc : Nat} {ls : Array Slot}
set_option maxHeartbeats 4000000 in
theorem so_pure (hx : p.tables.exec = Jvm.exec) (hb : c.code = cc) {own : String} (hown : s.vm.findClass own = some m.cls) {ad : Nat → Nat} {q : Instr} {a len : Nat} {S S' : List Value} (hc : mm_cst own q a args s) (hn : mm_ln q = len) (hd : decode cc pc = .ok (q, len)) (h : mm_pure q a S = some S')
    (kk : W p l e R s m args below meth c H locs cells slots Q (F0 m (pc + len) ls (S'.map (mm_tv ad)))) : W p l e R s m args below meth c H locs cells slots Q (F0 m pc ls (S.map (mm_tv ad))) := by
  subst hn
  cases q with
  | iconst n => cases h; exact lv_iconst hx hb hd rfl kk
  | bipush n => cases h; exact lv_bipush hx hb hd rfl kk
  | sipush n => cases h; exact lv_sipush hx hb hd rfl kk
  | lconst n => cases h; exact lv_lconst hx hb hd rfl kk
  | ldc n => cases h; exact lv_ldc hx hb hown hc hd kk
  | ldc_w n => cases h; exact lv_ldcw hx hb hown hc hd kk
  | ldc2_w n => cases h; exact lv_ldc2 hx hb hown hc hd kk
  | iadd => simp only [mm_pure] at h; split at h <;> first | cases h | skip
            exact lv_iadd hx hb hd kk
  | isub => simp only [mm_pure] at h; split at h <;> first | cases h | skip
            exact lv_isub hx hb hd kk
  | imul => simp only [mm_pure] at h; split at h <;> first | cases h | skip
            exact lv_imul hx hb hd kk
  | iand => simp only [mm_pure] at h; split at h <;> first | cases h | skip
            exact lv_iand hx hb hd kk
  | ior => simp only [mm_pure] at h; split at h <;> first | cases h | skip
           exact lv_ior hx hb hd kk
  | ixor => simp only [mm_pure] at h; split at h <;> first | cases h | skip
            exact lv_ixor hx hb hd kk
  | ishl => simp only [mm_pure] at h; split at h <;> first | cases h | skip
            exact lv_ishl hx hb hd kk
  | ishr => simp only [mm_pure] at h; split at h <;> first | cases h | skip
            exact lv_ishr hx hb hd kk
  | iushr => simp only [mm_pure] at h; split at h <;> first | cases h | skip
             exact lv_iushr hx hb hd rfl kk
  | idiv => simp only [mm_pure] at h; split at h <;> first | cases h; done | skip
            split at h
            · cases h
            · cases h; exact lv_idiv hx hb hd (by assumption) kk
  | irem => simp only [mm_pure] at h; split at h <;> first | cases h; done | skip
            split at h
            · cases h
            · cases h; exact lv_irem hx hb hd (by assumption) kk
  | ladd => simp only [mm_pure] at h; split at h <;> first | cases h | skip
            exact lv_ladd hx hb hd kk
  | lsub => simp only [mm_pure] at h; split at h <;> first | cases h | skip
            exact lv_lsub hx hb hd kk
  | lmul => simp only [mm_pure] at h; split at h <;> first | cases h | skip
            exact lv_lmul hx hb hd kk
  | land => simp only [mm_pure] at h; split at h <;> first | cases h | skip
            exact lv_land hx hb hd kk
  | ldiv => simp only [mm_pure] at h; split at h <;> first | cases h; done | skip
            split at h
            · cases h
            · cases h; exact lv_ldiv hx hb hd (by assumption) kk
  | lrem => simp only [mm_pure] at h; split at h <;> first | cases h; done | skip
            split at h
            · cases h
            · cases h; exact lv_lrem hx hb hd (by assumption) kk
  | lshl => simp only [mm_pure] at h; split at h <;> first | cases h | skip
            exact lv_lshl hx hb hd rfl kk
  | lshr => simp only [mm_pure] at h; split at h <;> first | cases h | skip
            exact lv_lshr hx hb hd rfl kk
  | lcmp => simp only [mm_pure] at h; split at h <;> first | cases h | skip
            exact W.lcmp hx hb hd kk
  | i2l => simp only [mm_pure] at h; split at h <;> first | cases h | skip
           exact lv_i2l hx hb hd rfl kk
  | i2b => simp only [mm_pure] at h; split at h <;> first | cases h | skip
           exact lv_i2b hx hb hd rfl kk
  | i2s => simp only [mm_pure] at h; split at h <;> first | cases h | skip
           exact lv_i2s hx hb hd rfl kk
  | dup => simp only [mm_pure] at h; split at h <;> first | cases h; done | skip
           split at h
           · cases h; exact lv_dup hx hb hd (by rw [mm_tv_cat]; assumption) kk
           · cases h
  | dup2 => simp only [mm_pure] at h; split at h <;> first | cases h; done | skip
            split at h
            · rename_i hcc
              cases h; exact lv_dup2_11 hx hb hd (by rw [mm_tv_cat]; exact hcc.1) (by rw [mm_tv_cat]; exact hcc.2) kk
            · cases h
  | pop => simp only [mm_pure] at h; split at h <;> first | cases h; done | skip
           split at h
           · cases h; exact lv_pop hx hb hd (by rw [mm_tv_cat]; assumption) kk
           · cases h
  | _ => simp [mm_pure] at h
/-! locals -/
/-- the locals hold what they should -/
def mm_lh (ad : Nat → Nat) (ls : Array Slot) (L : mm_L) : Prop := ls.size = L.length ∧ lv_wf ls ∧ ∀ (j : Nat) (v : Value), L[j]? = some (some v) → ls[j]? = some (.val (mm_tv ad v))
/-- the list of them that the kit's rows take -/
def mm_pr (ad : Nat → Nat) (L : mm_L) : List (Nat × Value) := (List.range L.length).filterMap (fun j => match L[j]? with | some (some v) => some (j, mm_tv ad v) | _ => none)
theorem mm_pr_mem {ad : Nat → Nat} {L : mm_L} {q : Nat × Value} : q ∈ mm_pr ad L ↔ ∃ v, L[q.1]? = some (some v) ∧ q.2 = mm_tv ad v := by
  obtain ⟨j, u⟩ := q
  simp only [mm_pr, List.mem_filterMap, List.mem_range]
  constructor
  · rintro ⟨i, hi, h⟩
    split at h
    · rename_i v hv
      cases h
      exact ⟨v, hv, rfl⟩
    · cases h
  · rintro ⟨v, hv, rfl⟩
    exact ⟨j, (List.getElem?_eq_some_iff.mp hv).1, by rw [hv]⟩
theorem mm_lh.has {ad : Nat → Nat} {ls : Array Slot} {L : mm_L} (h : mm_lh ad ls L) : lv_has ls L.length (mm_pr ad L) := by
  refine ⟨h.1, h.2.1, fun q hq => ?_⟩
  obtain ⟨v, h1, h2⟩ := mm_pr_mem.mp hq
  rw [h2]
  exact h.2.2 _ _ h1
theorem mm_ld_some {L : mm_L} {i : Nat} {v : Value} (h : mm_ld L i = some v) : L[i]? = some (some v) := by
  unfold mm_ld at h
  split at h
  · rename_i u hu
    cases h
    exact hu
  · cases h
theorem mm_lh.at {ad : Nat → Nat} {ls : Array Slot} {L : mm_L} (h : mm_lh ad ls L) {i : Nat} {v : Value} (hv : mm_ld L i = some v) : ls[i]? = some (.val (mm_tv ad v)) := h.2.2 _ _ (mm_ld_some hv)
theorem mm_cl_len (L : mm_L) (i : Nat) : (mm_cl L i).length = L.length := by
  unfold mm_cl
  split
  · rfl
  · split
    · split
      · simp
      · rfl
    · rfl
/-- what stands in the locals when one of the first kind was set -/
theorem mm_st_1 {L L' : mm_L} {i : Nat} {v : Value} (hv : v.category = 1) (h : mm_st L i v = some L') : i < L.length ∧ L'.length = L.length ∧ ∀ (j : Nat) (u : Value), L'[j]? = some (some u) → (j = i ∧ u = v) ∨ (j ≠ i ∧ L[j]? = some (some u) ∧ ¬ (j + 1 = i ∧ u.category = 2)) := by
  unfold mm_st at h
  rw [if_neg (by omega)] at h
  split at h
  · rename_i hi
    cases h
    refine ⟨hi, by rw [List.length_set, mm_cl_len], fun j u hu => ?_⟩
    by_cases hj : j = i
    · subst hj
      rw [List.getElem?_set_self (by rw [mm_cl_len]; exact hi)] at hu
      cases hu
      exact Or.inl ⟨rfl, rfl⟩
    · rw [List.getElem?_set_ne (Ne.symm hj)] at hu
      refine Or.inr ⟨hj, ?_⟩
      unfold mm_cl at hu
      split at hu
      · exact ⟨hu, by omega⟩
      · rename_i k
        split at hu
        · rename_i w hw
          split at hu
          · by_cases hjk : j = k
            · subst hjk
              rw [List.getElem?_set_self (List.getElem?_eq_some_iff.mp hw).1] at hu
              cases hu
            · rw [List.getElem?_set_ne (Ne.symm hjk)] at hu
              exact ⟨hu, by omega⟩
          · rename_i hcat
            refine ⟨hu, fun hh => ?_⟩
            have e : j = k := by omega
            subst e
            rw [hw] at hu
            cases hu
            exact hcat hh.2
        · rename_i hno
          refine ⟨hu, fun hh => ?_⟩
          have e : j = k := by omega
          subst e
          exact hno u hu
  · cases h
theorem mm_st_2 {L L' : mm_L} {i : Nat} {v : Value} (hv : v.category = 2) (h : mm_st L i v = some L') : i + 1 < L.length ∧ L'.length = L.length ∧ ∀ (j : Nat) (u : Value), L'[j]? = some (some u) → (j = i ∧ u = v) ∨ (j ≠ i ∧ j ≠ i + 1 ∧ L[j]? = some (some u) ∧ ¬ (j + 1 = i ∧ u.category = 2)) := by
  unfold mm_st at h
  rw [if_pos hv] at h
  split at h
  · rename_i hi
    cases h
    refine ⟨hi, by rw [List.length_set, List.length_set, mm_cl_len], fun j u hu => ?_⟩
    by_cases hj1 : j = i + 1
    · subst hj1
      rw [List.getElem?_set_self (by rw [List.length_set, mm_cl_len]; exact hi)] at hu
      cases hu
    rw [List.getElem?_set_ne (Ne.symm hj1)] at hu
    by_cases hj : j = i
    · subst hj
      rw [List.getElem?_set_self (by rw [mm_cl_len]; omega)] at hu
      cases hu
      exact Or.inl ⟨rfl, rfl⟩
    · rw [List.getElem?_set_ne (Ne.symm hj)] at hu
      refine Or.inr ⟨hj, hj1, ?_⟩
      unfold mm_cl at hu
      split at hu
      · exact ⟨hu, by omega⟩
      · rename_i k
        split at hu
        · rename_i w hw
          split at hu
          · by_cases hjk : j = k
            · subst hjk
              rw [List.getElem?_set_self (List.getElem?_eq_some_iff.mp hw).1] at hu
              cases hu
            · rw [List.getElem?_set_ne (Ne.symm hjk)] at hu
              exact ⟨hu, by omega⟩
          · rename_i hcat
            refine ⟨hu, fun hh => ?_⟩
            have e : j = k := by omega
            subst e
            rw [hw] at hu
            cases hu
            exact hcat hh.2
        · rename_i hno
          refine ⟨hu, fun hh => ?_⟩
          have e : j = k := by omega
          subst e
          exact hno u hu
  · cases h
theorem mm_lh.set1 {ad : Nat → Nat} {ls' : Array Slot} {L L' : mm_L} {i : Nat} {v : Value} (hv : v.category = 1) (h : mm_st L i v = some L') (hl : lv_has ls' L.length ((i, mm_tv ad v) :: (mm_pr ad L).filter (fun q => !(q.1 == i) && !(q.1 + 1 == i && q.2.category == 2)))) : mm_lh ad ls' L' := by
  obtain ⟨-, h2, h3⟩ := mm_st_1 hv h
  refine ⟨by rw [h2]; exact hl.1, hl.2.1, fun j u hu => ?_⟩
  rcases h3 j u hu with ⟨rfl, rfl⟩ | ⟨g1, g2, g3⟩
  · exact hl.2.2 _ List.mem_cons_self
  · refine hl.2.2 (j, mm_tv ad u) (List.mem_cons_of_mem _ (List.mem_filter.mpr ⟨mm_pr_mem.mpr ⟨u, g2, rfl⟩, ?_⟩))
    simp only [mm_tv_cat, Bool.and_eq_true, Bool.not_eq_true', beq_eq_false_iff_ne, Bool.and_eq_false_iff]
    refine ⟨g1, ?_⟩
    by_cases e : j + 1 = i
    · exact Or.inr (fun hc => g3 ⟨e, hc⟩)
    · exact Or.inl e
theorem mm_lh.set2 {ad : Nat → Nat} {ls' : Array Slot} {L L' : mm_L} {i : Nat} {v : Value} (hv : v.category = 2) (h : mm_st L i v = some L') (hl : lv_has ls' L.length ((i, mm_tv ad v) :: (mm_pr ad L).filter (fun q => !(q.1 == i) && (!(q.1 == i + 1) && !(q.1 + 1 == i && q.2.category == 2))))) : mm_lh ad ls' L' := by
  obtain ⟨-, h2, h3⟩ := mm_st_2 hv h
  refine ⟨by rw [h2]; exact hl.1, hl.2.1, fun j u hu => ?_⟩
  rcases h3 j u hu with ⟨rfl, rfl⟩ | ⟨g1, g1', g2, g3⟩
  · exact hl.2.2 _ List.mem_cons_self
  · refine hl.2.2 (j, mm_tv ad u) (List.mem_cons_of_mem _ (List.mem_filter.mpr ⟨mm_pr_mem.mpr ⟨u, g2, rfl⟩, ?_⟩))
    simp only [mm_tv_cat, Bool.and_eq_true, Bool.not_eq_true', beq_eq_false_iff_ne, Bool.and_eq_false_iff]
    refine ⟨g1, g1', ?_⟩
    by_cases e : j + 1 = i
    · exact Or.inr (fun hc => g3 ⟨e, hc⟩)
    · exact Or.inl e
set_option maxHeartbeats 4000000 in
theorem so_loc (hx : p.tables.exec = Jvm.exec) (hb : c.code = cc) {ad : Nat → Nat} {q : Instr} {len : Nat} {L : mm_L} {S : List Value} {z : mm_L × List Value} (hl : mm_lh ad ls L) (hn : mm_ln q = len) (hd : decode cc pc = .ok (q, len)) (h : mm_loc q L S = some z)
    (kk : ∀ ls' : Array Slot, mm_lh ad ls' z.1 → W p l e R s m args below meth c H locs cells slots Q (F0 m (pc + len) ls' (z.2.map (mm_tv ad)))) : W p l e R s m args below meth c H locs cells slots Q (F0 m pc ls (S.map (mm_tv ad))) := by
  subst hn
  cases q with
  | iload i => simp only [mm_loc] at h; split at h <;> first | cases h; done | skip
               rename_i x hv
               cases h; exact lv_iload hx hb hd (hl.at hv) (kk ls hl)
  | iload_n i => simp only [mm_loc] at h; split at h <;> first | cases h; done | skip
                 rename_i x hv
                 cases h; exact lv_iload_n hx hb hd rfl (hl.at hv) (kk ls hl)
  | lload i => simp only [mm_loc] at h; split at h <;> first | cases h; done | skip
               rename_i x hv
               cases h; exact lv_lload hx hb hd (hl.at hv) (kk ls hl)
  | lload_n i => simp only [mm_loc] at h; split at h <;> first | cases h; done | skip
                 rename_i x hv
                 cases h; exact lv_lload_n hx hb hd rfl (hl.at hv) (kk ls hl)
  | aload i => simp only [mm_loc] at h; split at h <;> first | cases h; done | skip
               rename_i x hv
               cases h; exact lv_aload hx hb hd (hl.at hv) (kk ls hl)
  | aload_n i => simp only [mm_loc] at h; split at h <;> first | cases h; done | skip
                 rename_i x hv
                 cases h; exact lv_aload_n hx hb hd rfl (hl.at hv) (kk ls hl)
  | istore i => simp only [mm_loc] at h; split at h <;> first | cases h; done | skip
                obtain ⟨L', h1, h2⟩ := Option.map_eq_some_iff.mp h
                subst h2
                exact lv_istore hx hb hd hl.has (mm_st_1 rfl h1).1 rfl (fun ls' hl' => kk ls' (mm_lh.set1 rfl h1 hl'))
  | istore_n i => simp only [mm_loc] at h; split at h <;> first | cases h; done | skip
                  obtain ⟨L', h1, h2⟩ := Option.map_eq_some_iff.mp h
                  subst h2
                  exact lv_istore_n hx hb hd rfl hl.has (mm_st_1 rfl h1).1 rfl (fun ls' hl' => kk ls' (mm_lh.set1 rfl h1 hl'))
  | lstore i => simp only [mm_loc] at h; split at h <;> first | cases h; done | skip
                obtain ⟨L', h1, h2⟩ := Option.map_eq_some_iff.mp h
                subst h2
                exact lv_lstore hx hb hd hl.has (mm_st_2 rfl h1).1 rfl (fun ls' hl' => kk ls' (mm_lh.set2 rfl h1 hl'))
  | lstore_n i => simp only [mm_loc] at h; split at h <;> first | cases h; done | skip
                  obtain ⟨L', h1, h2⟩ := Option.map_eq_some_iff.mp h
                  subst h2
                  exact lv_lstore_n hx hb hd rfl hl.has (mm_st_2 rfl h1).1 rfl (fun ls' hl' => kk ls' (mm_lh.set2 rfl h1 hl'))
  | astore i => simp only [mm_loc] at h; split at h <;> first | cases h; done | skip
                obtain ⟨L', h1, h2⟩ := Option.map_eq_some_iff.mp h
                subst h2
                exact lv_astore hx hb hd hl.has (mm_st_1 rfl h1).1 rfl (fun ls' hl' => kk ls' (mm_lh.set1 rfl h1 hl'))
  | astore_n i => simp only [mm_loc] at h; split at h <;> first | cases h; done | skip
                  obtain ⟨L', h1, h2⟩ := Option.map_eq_some_iff.mp h
                  subst h2
                  exact lv_astore_n hx hb hd rfl hl.has (mm_st_1 rfl h1).1 rfl (fun ls' hl' => kk ls' (mm_lh.set1 rfl h1 hl'))
  | iinc i n => simp only [mm_loc] at h; split at h <;> first | cases h; done | skip
                rename_i x hv
                obtain ⟨L', h1, h2⟩ := Option.map_eq_some_iff.mp h
                subst h2
                obtain ⟨k, hk⟩ := List.mem_iff_getElem?.mp (mm_pr_mem (ad := ad) (q := (i, .int x)).mpr ⟨.int x, mm_ld_some hv, rfl⟩)
                exact lv_iinc hx hb hd hl.has hk rfl (mm_st_1 rfl h1).1 rfl (fun ls' hl' => kk ls' (mm_lh.set1 rfl h1 hl'))
  | _ => simp [mm_loc] at h
set_option maxHeartbeats 4000000 in
theorem so_br (hx : p.tables.exec = Jvm.exec) (hb : c.code = cc) {ad : Nat → Nat} {q : Instr} {a nx len pa pn : Nat} {S : List Value} {z : Nat × List Value} {off : Int} (ho : q = .goto off ∨ (∃ k, q = .ifCond k off) ∨ ∃ k, q = .if_icmp k off) (hn : mm_ln q = len) (hd : decode cc pc = .ok (q, len)) (ht : (pc : Int) + off = (pa : Int)) (hpn : pn = pc + len) (h : mm_br q a nx S = some z)
    (kk : ∀ pz : Nat, (z.1 = a ∧ pz = pa ∨ z.1 = nx ∧ pz = pn) → W p l e R s m args below meth c H locs cells slots Q (F0 m pz ls (z.2.map (mm_tv ad)))) : W p l e R s m args below meth c H locs cells slots Q (F0 m pc ls (S.map (mm_tv ad))) := by
  subst hn
  subst hpn
  rcases ho with rfl | ⟨k, rfl⟩ | ⟨k, rfl⟩
  · cases h
    exact lv_goto hx hb hd ht (kk pa (Or.inl ⟨rfl, rfl⟩))
  · cases k with
    | eq => simp only [mm_br] at h; split at h <;> cases h
            exact lv_if_eq hx hb hd ht (fun hc => kk _ (Or.inl ⟨if_pos hc, rfl⟩)) (fun hc => kk _ (Or.inr ⟨if_neg hc, rfl⟩))
    | ne => simp only [mm_br] at h; split at h <;> cases h
            exact lv_if_ne hx hb hd ht (fun hc => kk _ (Or.inl ⟨if_pos hc, rfl⟩)) (fun hc => kk _ (Or.inr ⟨if_neg (fun h => h hc), rfl⟩))
    | lt => simp only [mm_br] at h; split at h <;> cases h
            exact lv_if_lt hx hb hd ht (fun hc => kk _ (Or.inl ⟨if_pos hc, rfl⟩)) (fun hc => kk _ (Or.inr ⟨if_neg hc, rfl⟩))
    | ge => simp only [mm_br] at h; split at h <;> cases h
            exact lv_if_ge hx hb hd ht (fun hc => kk _ (Or.inl ⟨if_pos hc, rfl⟩)) (fun hc => kk _ (Or.inr ⟨if_neg hc, rfl⟩))
    | gt => simp only [mm_br] at h; split at h <;> cases h
            exact lv_if_gt hx hb hd ht (fun hc => kk _ (Or.inl ⟨if_pos hc, rfl⟩)) (fun hc => kk _ (Or.inr ⟨if_neg hc, rfl⟩))
    | le => simp only [mm_br] at h; split at h <;> cases h
            exact lv_if_le hx hb hd ht (fun hc => kk _ (Or.inl ⟨if_pos hc, rfl⟩)) (fun hc => kk _ (Or.inr ⟨if_neg hc, rfl⟩))
  · cases k with
    | eq => simp only [mm_br] at h; split at h <;> cases h
            exact lv_icmp_eq hx hb hd ht (fun hc => kk _ (Or.inl ⟨if_pos hc, rfl⟩)) (fun hc => kk _ (Or.inr ⟨if_neg hc, rfl⟩))
    | ne => simp only [mm_br] at h; split at h <;> cases h
            exact lv_icmp_ne hx hb hd ht (fun hc => kk _ (Or.inl ⟨if_pos hc, rfl⟩)) (fun hc => kk _ (Or.inr ⟨if_neg (fun h => h hc), rfl⟩))
    | lt => simp only [mm_br] at h; split at h <;> cases h
            exact lv_icmp_lt hx hb hd ht (fun hc => kk _ (Or.inl ⟨if_pos hc, rfl⟩)) (fun hc => kk _ (Or.inr ⟨if_neg hc, rfl⟩))
    | ge => simp only [mm_br] at h; split at h <;> cases h
            exact lv_icmp_ge hx hb hd ht (fun hc => kk _ (Or.inl ⟨if_pos hc, rfl⟩)) (fun hc => kk _ (Or.inr ⟨if_neg hc, rfl⟩))
    | gt => simp only [mm_br] at h; split at h <;> cases h
            exact lv_icmp_gt hx hb hd ht (fun hc => kk _ (Or.inl ⟨if_pos hc, rfl⟩)) (fun hc => kk _ (Or.inr ⟨if_neg hc, rfl⟩))
    | le => simp only [mm_br] at h; split at h <;> cases h
            exact lv_icmp_le hx hb hd ht (fun hc => kk _ (Or.inl ⟨if_pos hc, rfl⟩)) (fun hc => kk _ (Or.inr ⟨if_neg hc, rfl⟩))
end SO
end
section
/-! the small machine's world, as the kit's list of cells -/
def mm_nms : List String := [RX0, RX1, RX2, RX3, RX4, RX5, RX6, RX7, RX8, RX9, RX10, RX11, RL]
def mm_nm (o : Nat) : String := mm_nms[o]?.getD ""
def mm_tT (a : Nat) : u_T := ((vwCl[a]?).getD (RX0, TX0, 0)).2.1
def mm_ty (a : Nat) : Nat → FieldType := match a with
  | 0 => tyX0 | 1 => tyX1 | 2 => tyX2 | 3 => tyX3 | 4 => tyX4 | 5 => tyX5 | 6 => tyX6 | 7 => tyX7 | 8 => tyX8 | 9 => tyX9 | 10 => tyX10 | _ => tyX11
def mm_kty (k : Nat) (t : FieldType) : Bool := match k, t with
  | 0, .int => true
  | 1, .boolean => true
  | 2, .long => true
  | 3, .object _ => true
  | 3, .array _ => true
  | _, _ => false
theorem mm_kty_ok : (List.range 12).all (fun a => (List.range (mm_nf a)).all (fun j => mm_kty (mm_fk a j) (mm_ty a j))) = true := by decide +kernel
theorem mm_inst_ok : ∀ a, a < 12 → Cond.instantiable (mm_nm a) (mm_nf a) ∈ lw_tbl := by decide +kernel
theorem mm_init_ok : ∀ a, a < 12 → Cond.initialized (mm_nm a) ∈ lw_tbl := by decide +kernel
/-- what is known of a class by its number -/
theorem mm_class {a : Nat} (ha : a < 12) : vwCl[a]? = some (mm_nm a, mm_tT a, mm_nf a) ∧ (∀ w ∈ u_ws (mm_nm a) (mm_tT a) (mm_nf a), w ∈ lw_tbl) ∧ (∀ k, k < mm_nf a → parseFieldDescriptor (mm_tT a k).2.2.1 = some (mm_ty a k)) ∧ (∀ x, x < mm_nf a → ∀ y, y < mm_nf a → x ≠ y → (mm_tT a x).2.1 ≠ (mm_tT a y).2.1) := by
  rcases (by omega : a = 0 ∨ a = 1 ∨ a = 2 ∨ a = 3 ∨ a = 4 ∨ a = 5 ∨ a = 6 ∨ a = 7 ∨ a = 8 ∨ a = 9 ∨ a = 10 ∨ a = 11) with rfl | rfl | rfl | rfl | rfl | rfl | rfl | rfl | rfl | rfl | rfl | rfl
  · exact ⟨rfl, inX0, tyX0_ok, nmX0⟩
  · exact ⟨rfl, inX1, tyX1_ok, nmX1⟩
  · exact ⟨rfl, inX2, tyX2_ok, nmX2⟩
  · exact ⟨rfl, inX3, tyX3_ok, nmX3⟩
  · exact ⟨rfl, inX4, tyX4_ok, nmX4⟩
  · exact ⟨rfl, inX5, tyX5_ok, nmX5⟩
  · exact ⟨rfl, inX6, tyX6_ok, nmX6⟩
  · exact ⟨rfl, inX7, tyX7_ok, nmX7⟩
  · exact ⟨rfl, inX8, tyX8_ok, nmX8⟩
  · exact ⟨rfl, inX9, tyX9_ok, nmX9⟩
  · exact ⟨rfl, inX10, tyX10_ok, nmX10⟩
  · exact ⟨rfl, inX11, tyX11_ok, nmX11⟩
theorem mm_kind {a j : Nat} (ha : a < 12) (hj : j < mm_nf a) : mm_kty (mm_fk a j) (mm_ty a j) = true :=
  List.all_eq_true.mp (List.all_eq_true.mp mm_kty_ok a (List.mem_range.mpr ha)) j (List.mem_range.mpr hj)
def mm_fv (ad : Nat → Nat) (w : mm_W) (c k j : Nat) : Value := if mm_fk c j ≤ 1 then .int (w.2.2.1 k j) else if mm_fk c j = 2 then .long (w.2.2.2 k j) else va_rf ((w.2.1 k j).map ad)
def mm_el (cAI : ClassId) (cAR : Nat → ClassId) (ad : Nat → Nat) (w : mm_W) (k : Nat) (sh : Nat ⊕ ((Nat × Nat) ⊕ Nat)) : va_E := match sh with
  | .inl n => .inl (cAI, (n, .inl (w.2.2.1 k)))
  | .inr (.inl cn) => .inl (cAR cn.1, (cn.2, .inr (.inr (.inr (.inr (fun j => (w.2.1 k j).map ad))))))
  | .inr (.inr c) => .inr (c, (List.range (mm_nf c)).map (mm_fv ad w c k))
def mm_wl (cAI : ClassId) (cAR : Nat → ClassId) (ad : Nat → Nat) (w : mm_W) : va_W := w.1.mapIdx (fun k sh => (ad k, mm_el cAI cAR ad w k sh))
def mm_sl (sh : Nat ⊕ ((Nat × Nat) ⊕ Nat)) : Nat := match sh with
  | .inl n => n
  | .inr (.inl cn) => cn.2
  | .inr (.inr c) => mm_nf c
def mm_sz (G : mm_G) : Nat := (G.map mm_sl).sum
theorem mm_sz_app (G : mm_G) (sh : Nat ⊕ ((Nat × Nat) ⊕ Nat)) : mm_sz (G ++ [sh]) = mm_sz G + mm_sl sh := by simp [mm_sz]
theorem mm_tv_rf (ad : Nat → Nat) (r : Option Nat) : mm_tv ad (mm_rf r) = va_rf (r.map ad) := by cases r <;> rfl
section WL
variable {cAI : ClassId} {cAR : Nat → ClassId} {ad : Nat → Nat} {w w' : mm_W}
theorem mm_wl_len : (mm_wl cAI cAR ad w).length = w.1.length := by simp [mm_wl]
theorem mm_wl_at {k : Nat} {sh : Nat ⊕ ((Nat × Nat) ⊕ Nat)} (h : w.1[k]? = some sh) : (mm_wl cAI cAR ad w)[k]? = some (ad k, mm_el cAI cAR ad w k sh) := by
  simp [mm_wl, h]
theorem mm_wl_of {k : Nat} {q : Nat × va_E} (h : (mm_wl cAI cAR ad w)[k]? = some q) : ∃ sh, w.1[k]? = some sh ∧ q = (ad k, mm_el cAI cAR ad w k sh) := by
  simp only [mm_wl, List.getElem?_mapIdx, Option.map_eq_some_iff] at h
  obtain ⟨sh, h1, h2⟩ := h
  exact ⟨sh, h1, h2.symm⟩
theorem mm_el_eq {k : Nat} {sh : Nat ⊕ ((Nat × Nat) ⊕ Nat)} (h1 : w'.2.1 k = w.2.1 k) (h2 : w'.2.2.1 k = w.2.2.1 k) (h3 : w'.2.2.2 k = w.2.2.2 k) : mm_el cAI cAR ad w' k sh = mm_el cAI cAR ad w k sh := by
  have e : ∀ c, mm_fv ad w' c k = mm_fv ad w c k := fun c => by funext j; simp only [mm_fv, h1, h2, h3]
  rcases sh with n | cn | c
  · simp only [mm_el, h2]
  · simp only [mm_el, h1]
  · simp only [mm_el, e]
theorem mm_wl_set {k : Nat} {e : va_E} (hG : w'.1 = w.1) (hne : ∀ k', k' ≠ k → w'.2.1 k' = w.2.1 k' ∧ w'.2.2.1 k' = w.2.2.1 k' ∧ w'.2.2.2 k' = w.2.2.2 k') (he : ∀ sh, w.1[k]? = some sh → e = mm_el cAI cAR ad w' k sh) : (mm_wl cAI cAR ad w).set k (ad k, e) = mm_wl cAI cAR ad w' := by
  apply List.ext_getElem?
  intro i
  by_cases hi : i = k
  · subst hi
    cases hs : w.1[i]? with
    | none =>
      have hlen : w.1.length ≤ i := List.getElem?_eq_none_iff.mp hs
      rw [List.getElem?_eq_none (by rw [List.length_set, mm_wl_len]; exact hlen), List.getElem?_eq_none (by rw [mm_wl_len, hG]; exact hlen)]
    | some sh =>
      rw [List.getElem?_set_self (by rw [mm_wl_len]; exact (List.getElem?_eq_some_iff.mp hs).1), mm_wl_at (w := w') (k := i) (sh := sh) (by rw [hG]; exact hs), he sh hs]
  · rw [List.getElem?_set_ne (Ne.symm hi)]
    obtain ⟨h1, h2, h3⟩ := hne i hi
    simp only [mm_wl, List.getElem?_mapIdx, hG]
    cases w.1[i]? with
    | none => rfl
    | some sh => simp only [Option.map_some, mm_el_eq h1 h2 h3]
theorem mm_wl_app {sh : Nat ⊕ ((Nat × Nat) ⊕ Nat)} {e : va_E} (hG : w'.1 = w.1 ++ [sh]) (hne : ∀ k', k' ≠ w.1.length → w'.2.1 k' = w.2.1 k' ∧ w'.2.2.1 k' = w.2.2.1 k' ∧ w'.2.2.2 k' = w.2.2.2 k') (he : e = mm_el cAI cAR ad w' w.1.length sh) : mm_wl cAI cAR ad w ++ [(ad w.1.length, e)] = mm_wl cAI cAR ad w' := by
  apply List.ext_getElem?
  intro i
  by_cases hi : i < w.1.length
  · rw [List.getElem?_append_left (by rw [mm_wl_len]; exact hi)]
    obtain ⟨h1, h2, h3⟩ := hne i (by omega)
    simp only [mm_wl, List.getElem?_mapIdx, hG, List.getElem?_append_left hi]
    cases w.1[i]? with
    | none => rfl
    | some sh => simp only [Option.map_some, mm_el_eq h1 h2 h3]
  · rw [List.getElem?_append_right (by rw [mm_wl_len]; omega), mm_wl_len]
    by_cases hi2 : i = w.1.length
    · subst hi2
      rw [Nat.sub_self, mm_wl_at (w := w') (k := w.1.length) (sh := sh) (by rw [hG]; simp), he]
      rfl
    · rw [List.getElem?_eq_none (by simp; omega), List.getElem?_eq_none (by rw [mm_wl_len, hG]; simp; omega)]
theorem mm_wl_D {base : Nat} {E : Nat → Nat} (hl : w.1.length ≤ 1000) : va_D (fun q => base ≤ q) (mm_wl cAI cAR (mm_ad base E) w) := by
  have key : ∀ (k : Nat) (q : Nat × va_E), (mm_wl cAI cAR (mm_ad base E) w)[k]? = some q → q.1 = base + k := by
    intro k q h
    obtain ⟨sh, h1, rfl⟩ := mm_wl_of h
    have := (List.getElem?_eq_some_iff.mp h1).1
    show mm_ad base E k = base + k
    rw [mm_ad, if_pos (by omega)]
  refine ⟨fun i j x y hx hy h => ?_, fun k q h => ?_⟩
  · rw [key i x hx, key j y hy] at h
    omega
  · show base ≤ q.1
    rw [key k q h]
    omega
end WL
def mm_tys (cAI : ClassId) (cAR : Nat → ClassId) : List (ClassId × FieldType) := [(cAI, .int), (cAR 8, .object (mm_nm 8)), (cAR 6, .object (mm_nm 6)), (cAR 0, .object (mm_nm 0))]
def mm_rix (a : Nat) : Option Nat := if a = 8 then some 1 else if a = 6 then some 2 else if a = 0 then some 3 else none
theorem mm_tys_ref {cAI : ClassId} {cAR : Nat → ClassId} {a i : Nat} (h : mm_rix a = some i) : (mm_tys cAI cAR)[i]? = some (cAR a, .object (mm_nm a)) := by
  unfold mm_rix at h
  split at h
  · rename_i e; subst e; cases h; rfl
  · split at h
    · rename_i e; subst e; cases h; rfl
    · split at h
      · rename_i e; subst e; cases h; rfl
      · cases h
def mm_flw (o i a b : Nat) : Cond := if o = a then .fieldLink (mm_nm o) i (mm_tT a b).1 (mm_tT a b).2.1 (mm_tT a b).2.2.1 else .fieldLinkNest (mm_nm o) i (mm_tT a b).1 (mm_tT a b).2.1 (mm_tT a b).2.2.1 "ToastGaol"
/-- what the tables must say for an instruction of class o's method (ini: a constructor) -/
def mm_lk (o : Nat) (ini : Bool) (q : Instr) (a b : Nat) : Prop := match q with
  | .getfield i => a < 12 ∧ b < mm_nf a ∧ mm_flw o i a b ∈ lw_tbl
  | .putfield i => a < 12 ∧ b < mm_nf a ∧ mm_flw o i a b ∈ lw_tbl ∧ ((mm_tT a b).2.2.2 = false ∨ ((mm_tT a b).2.2.2 = true ∧ ini = true ∧ o = a ∧ (mm_tT a b).1 = mm_nm o))
  | .new i => a < 12 ∧ Cond.classLink (mm_nm o) i (mm_nm a) ∈ lw_tbl
  | .anewarray i => (∃ t, mm_rix a = some t) ∧ Cond.classLink (mm_nm o) i (mm_nm a) ∈ lw_tbl
  | .newarray t => t = .int
  | .getstatic i => (a = 1001 ∧ Cond.fieldLink (mm_nm o) i "ToastGaol" "GREATEST" "[I" ∈ lw_tbl) ∨ (a = 1002 ∧ Cond.fieldLink (mm_nm o) i "ToastGaol" "DIGEST_HOURS" "[I" ∈ lw_tbl)
  | .invokestatic i => (a = 1001 → Cond.methodLink (mm_nm o) i Lib.Math.max.name ∈ lw_tbl) ∧ (a = 1002 → Cond.methodLink (mm_nm o) i Lib.Math.min.name ∈ lw_tbl) ∧ (a = 1003 → Cond.methodLink (mm_nm o) i arraycopyName ∈ lw_tbl)
  | .invokespecial i => a = 1000 → Cond.methodLink (mm_nm o) i Lib.objectInit ∈ lw_tbl
  | _ => True
end
section
/-! the heap's instructions -/
def mm_cx (D : va_G) (cAI : ClassId) (cAR : Nat → ClassId) (E : Nat → Nat) (X : mm_X) (base : Nat) (args : Array Value) (s : State) : Prop :=
  (∀ w ∈ lw_tbl, w.before args s = true) ∧ va_K D vwCl (mm_tys cAI cAR) s ∧ (∀ j nf, X j = some nf → va_T .int (E j) nf.1 (fun i => .int (nf.2 i)) (fun q => base ≤ q) s s.heap) ∧ va_Z "ToastGaol" "GREATEST" "[I" (.ref (E 1)) (fun q => base ≤ q) s s.heap ∧ va_Z "ToastGaol" "DIGEST_HOURS" "[I" (.ref (E 2)) (fun q => base ≤ q) s s.heap ∧ base ≤ s.heap.size
set_option maxRecDepth 20000 in
theorem mm_t_max : Cond.static Lib.Math.max.name ∈ lw_tbl ∧ Cond.initialized "java/lang/Math" ∈ lw_tbl ∧ Cond.code Lib.Math.max.name Lib.Math.max.code 2 (some .int) ∈ lw_tbl := ⟨List.mem_of_getElem? (i := 421) rfl, List.mem_of_getElem? (i := 101) rfl, List.mem_of_getElem? (i := 422) rfl⟩
set_option maxRecDepth 20000 in
theorem mm_t_min : Cond.static Lib.Math.min.name ∈ lw_tbl ∧ Cond.initialized "java/lang/Math" ∈ lw_tbl ∧ Cond.code Lib.Math.min.name Lib.Math.min.code 2 (some .int) ∈ lw_tbl := ⟨List.mem_of_getElem? (i := 512) rfl, List.mem_of_getElem? (i := 101) rfl, List.mem_of_getElem? (i := 513) rfl⟩
set_option maxRecDepth 20000 in
theorem mm_t_cpy : Cond.static arraycopyName ∈ lw_tbl ∧ Cond.initialized "java/lang/System" ∈ lw_tbl ∧ Cond.native arraycopyName ∈ lw_tbl := ⟨List.mem_of_getElem? (i := 655) rfl, List.mem_of_getElem? (i := 104) rfl, List.mem_of_getElem? (i := 656) rfl⟩
theorem mm_t_obj : Cond.instanceMethod Lib.objectInit ∈ lw_tbl ∧ Cond.code Lib.objectInit ⟨#[0xb1]⟩ 1 none ∈ lw_tbl := ⟨List.mem_of_getElem? (i := 111) rfl, List.mem_of_getElem? (i := 112) rfl⟩
theorem mm_t_int : Cond.arrayClass .int ∈ lw_tbl := by decide +kernel
theorem mm_t_over : ∀ a, a = 8 ∨ a = 6 ∨ a = 0 → Cond.arrayOver (.object (mm_nm a)) ∈ lw_tbl := by
  intro a h
  rcases h with rfl | rfl | rfl <;> decide +kernel
theorem mm_rix_of {a i : Nat} (h : mm_rix a = some i) : a = 8 ∨ a = 6 ∨ a = 0 := by
  unfold mm_rix at h
  split at h
  · exact Or.inl (by assumption)
  · split at h
    · exact Or.inr (Or.inl (by assumption))
    · split at h
      · exact Or.inr (Or.inr (by assumption))
      · cases h
theorem mm_map_set {n j : Nat} {f g : Nat → Value} (hj : j < n) (h : ∀ i, i ≠ j → g i = f i) : ((List.range n).map f).set j (g j) = (List.range n).map g := by
  apply List.ext_getElem?
  intro i
  by_cases hi : i = j
  · subst hi
    rw [List.getElem?_set_self (by simp; exact hj), List.getElem?_map, List.getElem?_range hj]
    rfl
  · rw [List.getElem?_set_ne (Ne.symm hi), List.getElem?_map, List.getElem?_map]
    cases hr : (List.range n)[i]? with
    | none => rfl
    | some k =>
      have : k = i := by
        have h1 := List.getElem?_eq_some_iff.mp hr
        obtain ⟨h2, h3⟩ := h1
        simpa using h3.symm
      subst this
      simp [h k hi]
section SH
variable {p : Program} {l : Launch} {e : Env} {R : Room} {s : State} {m : MethodId} {args : Array Value} {below : List Frame} {meth : Method} {c : Code} {H : Heap} {locs : List Loc} {cells slots : Nat} {Q : State → Prop}
variable {cc : ByteArray} {pc : Nat} {ls : Array Slot} {D : va_G} {cAI : ClassId} {cAR : Nat → ClassId} {E : Nat → Nat} {X : mm_X} {base o : Nat} {ini : Bool}
theorem mm_W_sz {g : JFrame} (k : H.size ≤ s.heap.size + cells → W p l e R s m args below meth c H locs cells slots Q g) : W p l e R s m args below meth c H locs cells slots Q g := fun T hT X => k (by rw [← hT]; exact X.heapSize) T hT X
theorem so_get (hx : p.tables.exec = Jvm.exec) (hb : c.code = cc) (hown : s.vm.findClass (mm_nm o) = some m.cls) (C : mm_cx D cAI cAR E X base args s) {i a b : Nat} {S : List Value} {w : mm_W} {z : List Value × mm_W} (hlk : mm_lk o ini (.getfield i) a b) (hd : decode cc pc = .ok (.getfield i, 3)) (hP : va_P D vwCl (mm_wl cAI cAR (mm_ad base E) w) H)
    (h : mm_heap X (.getfield i) a b S w = some z)
    (kk : z.2 = w → W p l e R s m args below meth c H locs cells slots Q (F0 m (pc + 3) ls (z.1.map (mm_tv (mm_ad base E))))) : W p l e R s m args below meth c H locs cells slots Q (F0 m pc ls (S.map (mm_tv (mm_ad base E)))) := by
  obtain ⟨ha, hbn, hw⟩ := hlk
  obtain ⟨hcl, hin, -, -⟩ := mm_class ha
  simp only [mm_heap] at h
  split at h <;> first | cases h; done | skip
  rename_i k r
  split at h <;> first | cases h; done | skip
  rename_i hk
  have he := mm_wl_at (cAI := cAI) (cAR := cAR) (ad := mm_ad base E) hk.1
  have hv : ((List.range (mm_nf a)).map (mm_fv (mm_ad base E) w a k))[b]? = some (mm_fv (mm_ad base E) w a k b) := by rw [List.getElem?_map, List.getElem?_range hbn]; rfl
  have hz : z.2 = w ∧ z.1.map (mm_tv (mm_ad base E)) = mm_fv (mm_ad base E) w a k b :: r.map (mm_tv (mm_ad base E)) := by
    split at h
    · rename_i h1
      cases h
      exact ⟨rfl, by simp [mm_fv, h1, mm_tv]⟩
    · rename_i h1
      split at h
      · rename_i h2
        cases h
        exact ⟨rfl, by simp [mm_fv, h2, mm_tv]⟩
      · rename_i h2
        split at h
        · cases h
          exact ⟨rfl, by simp [mm_fv, h1, h2, mm_tv_rf]⟩
        · cases h
  have kk := kk hz.1
  rw [hz.2] at kk
  by_cases ho : o = a
  · rw [mm_flw, if_pos ho] at hw
    exact va_get hx hb C.1 hin hown C.2.1 hP k he hcl b hbn (C.1 _ hw) (fun _ h => h) hv hd kk
  · rw [mm_flw, if_neg ho] at hw
    exact va_getN hx hb C.1 hin hown C.2.1 hP k he hcl b hbn (C.1 _ hw) (fun _ h => h) hv hd kk
theorem so_put (hx : p.tables.exec = Jvm.exec) (hb : c.code = cc) (hini : ini = true → meth.name = "<init>") (hown : s.vm.findClass (mm_nm o) = some m.cls) (C : mm_cx D cAI cAR E X base args s) {i a b : Nat} {S : List Value} {w : mm_W} {z : List Value × mm_W} (hlk : mm_lk o ini (.putfield i) a b) (hd : decode cc pc = .ok (.putfield i, 3)) (hl : w.1.length ≤ 1000) (hP : va_P D vwCl (mm_wl cAI cAR (mm_ad base E) w) H) (hS : va_S (fun q => base ≤ q) s.heap H locs)
    (h : mm_heap X (.putfield i) a b S w = some z)
    (kk : z.2.1 = w.1 → ∀ (H1 : Heap) (locs1 : List Loc), va_P D vwCl (mm_wl cAI cAR (mm_ad base E) z.2) H1 → va_S (fun q => base ≤ q) s.heap H1 locs1 → W p l e R s m args below meth c H1 locs1 cells slots Q (F0 m (pc + 3) ls (z.1.map (mm_tv (mm_ad base E))))) : W p l e R s m args below meth c H locs cells slots Q (F0 m pc ls (S.map (mm_tv (mm_ad base E)))) := by
  obtain ⟨ha, hbn, hw, hfin⟩ := hlk
  obtain ⟨hcl, hin, hty, hnm⟩ := mm_class ha
  have hkind := mm_kind ha hbn
  have hD := mm_wl_D (cAI := cAI) (cAR := cAR) (base := base) (E := E) hl
  -- the general put
  have gen : ∀ (v : Value) (k : Nat) (r : List Value), w.1[k]? = some (.inr (.inr a)) → narrow (mm_ty a b) (mm_tv (mm_ad base E) v) = mm_tv (mm_ad base E) v → fits (mm_ty a b) (mm_tv (mm_ad base E) v) = true → z.1 = r → z.2.1 = w.1 →
      (∀ k', k' ≠ k → z.2.2.1 k' = w.2.1 k' ∧ z.2.2.2.1 k' = w.2.2.1 k' ∧ z.2.2.2.2 k' = w.2.2.2 k') → (∀ j, j ≠ b → mm_fv (mm_ad base E) z.2 a k j = mm_fv (mm_ad base E) w a k j) → mm_fv (mm_ad base E) z.2 a k b = mm_tv (mm_ad base E) v →
      W p l e R s m args below meth c H locs cells slots Q (F0 m pc ls (mm_tv (mm_ad base E) v :: Value.ref (mm_ad base E k) :: r.map (mm_tv (mm_ad base E)))) := by
    intro v k r hk hnar hfit hz1 hzG hne hoth hown2
    have he := mm_wl_at (cAI := cAI) (cAR := cAR) (ad := mm_ad base E) hk
    have hset : (mm_wl cAI cAR (mm_ad base E) w).set k (mm_ad base E k, .inr (a, ((List.range (mm_nf a)).map (mm_fv (mm_ad base E) w a k)).set b (mm_tv (mm_ad base E) v))) = mm_wl cAI cAR (mm_ad base E) z.2 := by
      refine mm_wl_set hzG hne (fun sh hsh => ?_)
      rw [hk] at hsh
      cases hsh
      show Sum.inr _ = Sum.inr _
      rw [← hown2, mm_map_set hbn hoth]
    have kk' : ∀ (H1 : Heap) (locs1 : List Loc), va_P D vwCl ((mm_wl cAI cAR (mm_ad base E) w).set k (mm_ad base E k, .inr (a, ((List.range (mm_nf a)).map (mm_fv (mm_ad base E) w a k)).set b (mm_tv (mm_ad base E) v)))) H1 → va_D (fun q => base ≤ q) ((mm_wl cAI cAR (mm_ad base E) w).set k (mm_ad base E k, .inr (a, ((List.range (mm_nf a)).map (mm_fv (mm_ad base E) w a k)).set b (mm_tv (mm_ad base E) v)))) → va_S (fun q => base ≤ q) s.heap H1 locs1 → W p l e R s m args below meth c H1 locs1 cells slots Q (F0 m (pc + 3) ls (r.map (mm_tv (mm_ad base E)))) := by
      intro H1 locs1 g1 _ g3
      rw [hset] at g1
      rw [← hz1]
      exact kk hzG H1 locs1 g1 g3
    have hlen : b < ((List.range (mm_nf a)).map (mm_fv (mm_ad base E) w a k)).length := by simp; exact hbn
    rcases hfin with hf | ⟨hf, hi, hoa, hdecl⟩
    · by_cases ho : o = a
      · rw [mm_flw, if_pos ho] at hw
        exact va_put hx hb C.1 hin (mm_ty a) hty hnm hown C.2.1 hP hD hS k he hcl b hbn (C.1 _ hw) (fun _ h => h) hf (hty b hbn) hnar hfit hlen hd kk'
      · rw [mm_flw, if_neg ho] at hw
        exact va_putN hx hb C.1 hin (mm_ty a) hty hnm hown C.2.1 hP hD hS k he hcl b hbn (C.1 _ hw) (fun _ h => h) hf (hty b hbn) hnar hfit hlen hd kk'
    · rw [mm_flw, if_pos hoa] at hw
      exact va_putF hx hb C.1 hin (mm_ty a) hty hnm hown C.2.1 hP hD hS k he hcl b hbn (C.1 _ hw) (fun _ h => h) hf (hini hi) hdecl (hty b hbn) hnar hfit hlen hd kk'
  simp only [mm_heap] at h
  split at h
  · rename_i x k r
    split at h <;> first | cases h; done | skip
    rename_i hk
    cases h
    refine gen (.int x) k r hk.1 ?_ ?_ rfl rfl (fun k' hk' => ⟨rfl, by funext j; simp [mm_u, hk'], rfl⟩) (fun j hj => by simp [mm_fv, mm_u, hj]) ?_
    · rcases hk.2.2 with h0 | ⟨h1, hx01⟩
      · rw [h0] at hkind
        cases ht : mm_ty a b <;> rw [ht] at hkind <;> first | (simp [mm_kty] at hkind; done) | rfl
      · rw [h1] at hkind
        cases ht : mm_ty a b <;> rw [ht] at hkind <;> first | (simp [mm_kty] at hkind; done) | (rcases hx01 with rfl | rfl <;> rfl)
    · rcases hk.2.2 with h0 | ⟨h1, hx01⟩
      · rw [h0] at hkind
        cases ht : mm_ty a b <;> rw [ht] at hkind <;> first | (simp [mm_kty] at hkind; done) | rfl
      · rw [h1] at hkind
        cases ht : mm_ty a b <;> rw [ht] at hkind <;> first | (simp [mm_kty] at hkind; done) | (rcases hx01 with rfl | rfl <;> rfl)
    · have : mm_fk a b ≤ 1 := by rcases hk.2.2 with h0 | ⟨h1, -⟩ <;> omega
      simp [mm_fv, this, mm_u, mm_tv]
  · rename_i x k r
    split at h <;> first | cases h; done | skip
    rename_i hk
    cases h
    refine gen (.long x) k r hk.1 ?_ ?_ rfl rfl (fun k' hk' => ⟨rfl, rfl, by funext j; simp [mm_u, hk']⟩) (fun j hj => by simp [mm_fv, mm_u, hj]) ?_
    · rw [hk.2.2] at hkind
      cases ht : mm_ty a b <;> rw [ht] at hkind <;> first | (simp [mm_kty] at hkind; done) | rfl
    · rw [hk.2.2] at hkind
      cases ht : mm_ty a b <;> rw [ht] at hkind <;> first | (simp [mm_kty] at hkind; done) | rfl
    · simp [mm_fv, hk.2.2, mm_u, mm_tv]
  · rename_i x k r
    split at h <;> first | cases h; done | skip
    rename_i hk
    cases h
    refine gen (.ref x) k r hk.1 ?_ ?_ rfl rfl (fun k' hk' => ⟨by funext j; simp [mm_u, hk'], rfl, rfl⟩) (fun j hj => by simp [mm_fv, mm_u, hj]) ?_
    · rw [hk.2.2] at hkind
      cases ht : mm_ty a b <;> rw [ht] at hkind <;> first | (simp [mm_kty] at hkind; done) | rfl
    · rw [hk.2.2] at hkind
      cases ht : mm_ty a b <;> rw [ht] at hkind <;> first | (simp [mm_kty] at hkind; done) | rfl
    · simp [mm_fv, hk.2.2, mm_u, mm_tv, va_rf]
  · cases h
theorem mm_ad_lt {k : Nat} (h : k < 1000) : mm_ad base E k = base + k := if_pos h
theorem mm_arr_in {w : mm_W} {k : Nat} {nf : Nat × (Nat → Int32)} (h : mm_arr X w k = some nf) : (w.1[k]? = some (.inl nf.1) ∧ nf.2 = w.2.2.1 k) ∨ (¬ k < 1000 ∧ X (k - 1000) = some nf) := by
  unfold mm_arr at h
  split at h
  · split at h
    · rename_i n hn
      cases h
      exact Or.inl ⟨hn, rfl⟩
    · cases h
  · exact Or.inr ⟨by assumption, h⟩
theorem so_iald (hx : p.tables.exec = Jvm.exec) (hb : c.code = cc) (C : mm_cx D cAI cAR E X base args s) {a b : Nat} {S : List Value} {w : mm_W} {z : List Value × mm_W} (hd : decode cc pc = .ok (.iaload, 1)) (hP : va_P D vwCl (mm_wl cAI cAR (mm_ad base E) w) H) (hS : va_S (fun q => base ≤ q) s.heap H locs)
    (h : mm_heap X .iaload a b S w = some z)
    (kk : z.2 = w → W p l e R s m args below meth c H locs cells slots Q (F0 m (pc + 1) ls (z.1.map (mm_tv (mm_ad base E))))) : W p l e R s m args below meth c H locs cells slots Q (F0 m pc ls (S.map (mm_tv (mm_ad base E)))) := by
  simp only [mm_heap] at h
  split at h <;> first | cases h; done | skip
  rename_i i k r
  split at h <;> first | cases h; done | skip
  rename_i nf hnf
  split at h <;> first | cases h; done | skip
  rename_i hin
  cases h
  rcases mm_arr_in hnf with ⟨h1, h2⟩ | ⟨h1, h2⟩
  · have kk := kk rfl
    rw [h2] at kk
    exact va_iald hx hb C.2.1 hP k 0 (mm_wl_at h1) rfl hin hd kk
  · have ek : mm_ad base E k = E (k - 1000) := if_neg h1
    show W p l e R s m args below meth c H locs cells slots Q (F0 m pc ls (Value.int i :: Value.ref (mm_ad base E k) :: r.map (mm_tv (mm_ad base E))))
    rw [ek]
    exact va_ti hx hb (C.2.2.1 _ _ h2) hS hin rfl hd (kk rfl)
theorem so_alen (hx : p.tables.exec = Jvm.exec) (hb : c.code = cc) (C : mm_cx D cAI cAR E X base args s) {a b : Nat} {S : List Value} {w : mm_W} {z : List Value × mm_W} (hd : decode cc pc = .ok (.arraylength, 1)) (hP : va_P D vwCl (mm_wl cAI cAR (mm_ad base E) w) H) (hS : va_S (fun q => base ≤ q) s.heap H locs)
    (h : mm_heap X .arraylength a b S w = some z)
    (kk : z.2 = w → W p l e R s m args below meth c H locs cells slots Q (F0 m (pc + 1) ls (z.1.map (mm_tv (mm_ad base E))))) : W p l e R s m args below meth c H locs cells slots Q (F0 m pc ls (S.map (mm_tv (mm_ad base E)))) := by
  simp only [mm_heap] at h
  split at h <;> first | cases h; done | skip
  rename_i k r
  split at h <;> first | cases h; done | skip
  rename_i nf hnf
  cases h
  rcases mm_arr_in hnf with ⟨h1, h2⟩ | ⟨h1, h2⟩
  · exact va_alen hx hb C.2.1 hP k 0 (mm_wl_at h1) (ty := .int) rfl rfl hd (kk rfl)
  · have ek : mm_ad base E k = E (k - 1000) := if_neg h1
    show W p l e R s m args below meth c H locs cells slots Q (F0 m pc ls (Value.ref (mm_ad base E k) :: r.map (mm_tv (mm_ad base E))))
    rw [ek]
    exact va_tlen hx hb (C.2.2.1 _ _ h2) hS rfl hd (kk rfl)
theorem mm_arw_in {w : mm_W} {k n : Nat} (h : mm_arw w k = some n) : w.1[k]? = some (.inl n) := by
  unfold mm_arw at h
  split at h
  · rename_i n' hn
    cases h
    exact hn
  · cases h
theorem so_iast (hx : p.tables.exec = Jvm.exec) (hb : c.code = cc) (C : mm_cx D cAI cAR E X base args s) {a b : Nat} {S : List Value} {w : mm_W} {z : List Value × mm_W} (hd : decode cc pc = .ok (.iastore, 1)) (hl : w.1.length ≤ 1000) (hP : va_P D vwCl (mm_wl cAI cAR (mm_ad base E) w) H) (hS : va_S (fun q => base ≤ q) s.heap H locs)
    (h : mm_heap X .iastore a b S w = some z)
    (kk : z.2.1 = w.1 → ∀ (H1 : Heap) (locs1 : List Loc), va_P D vwCl (mm_wl cAI cAR (mm_ad base E) z.2) H1 → va_S (fun q => base ≤ q) s.heap H1 locs1 → W p l e R s m args below meth c H1 locs1 cells slots Q (F0 m (pc + 1) ls (z.1.map (mm_tv (mm_ad base E))))) : W p l e R s m args below meth c H locs cells slots Q (F0 m pc ls (S.map (mm_tv (mm_ad base E)))) := by
  simp only [mm_heap] at h
  split at h <;> first | cases h; done | skip
  rename_i x i k r
  split at h <;> first | cases h; done | skip
  rename_i n hn
  split at h <;> first | cases h; done | skip
  rename_i hin
  cases h
  have h1 := mm_arw_in hn
  refine va_iast hx hb C.2.1 hP (mm_wl_D hl) hS k 0 (mm_wl_at h1) rfl hin.1 hd (fun H1 locs1 g1 _ g3 => kk rfl H1 locs1 ?_ g3)
  have hset := mm_wl_set (cAI := cAI) (cAR := cAR) (ad := mm_ad base E) (w := w) (w' := (w.1, w.2.1, mm_u w.2.2.1 k i.toNatClampNeg x, w.2.2.2)) (k := k) (e := .inl (cAI, n, .inl (upd (w.2.2.1 k) i.toNatClampNeg x))) rfl (fun k' hk' => ⟨rfl, by funext j; simp [mm_u, hk'], rfl⟩) (fun sh hsh => ?_)
  · rw [hset] at g1
    exact g1
  · rw [h1] at hsh
    cases hsh
    show Sum.inl _ = Sum.inl _
    have e : mm_u w.2.2.1 k i.toNatClampNeg x k = upd (w.2.2.1 k) i.toNatClampNeg x := by
      funext j
      simp [mm_u, upd]
    simp only [e]
theorem so_aald (hx : p.tables.exec = Jvm.exec) (hb : c.code = cc) (C : mm_cx D cAI cAR E X base args s) {a b : Nat} {S : List Value} {w : mm_W} {z : List Value × mm_W} (hd : decode cc pc = .ok (.aaload, 1)) (hr : ∀ (k : Nat) (cn : Nat × Nat), w.1[k]? = some (.inr (.inl cn)) → ∃ t, mm_rix cn.1 = some t) (hP : va_P D vwCl (mm_wl cAI cAR (mm_ad base E) w) H)
    (h : mm_heap X .aaload a b S w = some z)
    (kk : z.2 = w → W p l e R s m args below meth c H locs cells slots Q (F0 m (pc + 1) ls (z.1.map (mm_tv (mm_ad base E))))) : W p l e R s m args below meth c H locs cells slots Q (F0 m pc ls (S.map (mm_tv (mm_ad base E)))) := by
  simp only [mm_heap] at h
  split at h <;> first | cases h; done | skip
  rename_i i k r
  split at h <;> first | cases h; done | skip
  rename_i cn hcn
  split at h <;> first | cases h; done | skip
  rename_i hin
  cases h
  obtain ⟨t, ht⟩ := hr k cn hcn
  have kk := kk rfl
  rw [List.map_cons, mm_tv_rf] at kk
  exact va_aldq hx hb C.2.1 hP k t (mm_wl_at hcn) (mm_tys_ref ht) hin.1 hd kk
theorem so_aast (hx : p.tables.exec = Jvm.exec) (hb : c.code = cc) (C : mm_cx D cAI cAR E X base args s) {a b : Nat} {S : List Value} {w : mm_W} {z : List Value × mm_W} (hd : decode cc pc = .ok (.aastore, 1)) (hl : w.1.length ≤ 1000) (hr : ∀ (k : Nat) (cn : Nat × Nat), w.1[k]? = some (.inr (.inl cn)) → ∃ t, mm_rix cn.1 = some t) (hP : va_P D vwCl (mm_wl cAI cAR (mm_ad base E) w) H) (hS : va_S (fun q => base ≤ q) s.heap H locs)
    (h : mm_heap X .aastore a b S w = some z)
    (kk : z.2.1 = w.1 → ∀ (H1 : Heap) (locs1 : List Loc), va_P D vwCl (mm_wl cAI cAR (mm_ad base E) z.2) H1 → va_S (fun q => base ≤ q) s.heap H1 locs1 → W p l e R s m args below meth c H1 locs1 cells slots Q (F0 m (pc + 1) ls (z.1.map (mm_tv (mm_ad base E))))) : W p l e R s m args below meth c H locs cells slots Q (F0 m pc ls (S.map (mm_tv (mm_ad base E)))) := by
  simp only [mm_heap] at h
  split at h <;> first | cases h; done | skip
  rename_i v i k r
  split at h <;> first | cases h; done | skip
  rename_i cn hcn
  split at h <;> first | cases h; done | skip
  rename_i hin
  cases h
  obtain ⟨t, ht⟩ := hr k cn hcn
  have hc12 : cn.1 < 12 := by rcases mm_rix_of ht with h | h | h <;> omega
  obtain ⟨hcl, -⟩ := mm_class hc12
  refine va_astq hx hb C.2.1 hP (mm_wl_D hl) hS k t v cn.1 (r := (mm_nm cn.1, mm_tT cn.1, mm_nf cn.1)) (mm_wl_at hcn) (mm_tys_ref ht) (mm_wl_at hin.2.2.2) hcl hin.1 hd (fun H1 locs1 g1 _ g3 => kk rfl H1 locs1 ?_ g3)
  have hset := mm_wl_set (cAI := cAI) (cAR := cAR) (ad := mm_ad base E) (w := w) (w' := (w.1, mm_u w.2.1 k i.toNatClampNeg (some v), w.2.2.1, w.2.2.2)) (k := k) (e := .inl (cAR cn.1, cn.2, .inr (.inr (.inr (.inr (va_up (fun j => (w.2.1 k j).map (mm_ad base E)) i.toNatClampNeg (some (mm_ad base E v)))))))) rfl (fun k' hk' => ⟨by funext j; simp [mm_u, hk'], rfl, rfl⟩) (fun sh hsh => ?_)
  · rw [hset] at g1
    exact g1
  · rw [hcn] at hsh
    cases hsh
    show Sum.inl _ = Sum.inl _
    have e : va_up (fun j => (w.2.1 k j).map (mm_ad base E)) i.toNatClampNeg (some (mm_ad base E v)) = fun j => (mm_u w.2.1 k i.toNatClampNeg (some v) k j).map (mm_ad base E) := by
      funext j
      by_cases hj : j = i.toNatClampNeg <;> simp [mm_u, va_up, hj]
    simp only [e]
/-- the address of a new cell -/
theorem mm_newad {w : mm_W} {H1 : Heap} {q : Nat} {x : va_E} (hl : w.1.length < 1000) (hP : va_P D vwCl (mm_wl cAI cAR (mm_ad base E) w ++ [(q, x)]) H1) (hD : va_D (fun q => base ≤ q) (mm_wl cAI cAR (mm_ad base E) w ++ [(q, x)])) (hz : H1.size ≤ base + w.1.length + 1) : q = mm_ad base E w.1.length := by
  rw [mm_ad_lt hl]
  have hlast : (mm_wl cAI cAR (mm_ad base E) w ++ [(q, x)])[w.1.length]? = some (q, x) := by
    rw [List.getElem?_append_right (by rw [mm_wl_len]; omega), mm_wl_len, Nat.sub_self]
    rfl
  have h1 : q < H1.size := (hP _ _ hlast).lt
  have h2 : base ≤ q := hD.2 _ _ hlast
  by_cases h3 : q < base + w.1.length
  · exfalso
    have hk : q - base < w.1.length := by omega
    obtain ⟨sh, hsh⟩ : ∃ sh, w.1[q - base]? = some sh := ⟨_, List.getElem?_eq_getElem hk⟩
    have h4 : (mm_wl cAI cAR (mm_ad base E) w ++ [(q, x)])[q - base]? = some (mm_ad base E (q - base), mm_el cAI cAR (mm_ad base E) w (q - base) sh) := by
      rw [List.getElem?_append_left (by rw [mm_wl_len]; exact hk)]
      exact mm_wl_at hsh
    have h5 := hD.1 _ _ _ _ h4 hlast (by show mm_ad base E (q - base) = q; rw [mm_ad_lt (by omega)]; omega)
    omega
  · omega
theorem so_new (hx : p.tables.exec = Jvm.exec) (hb : c.code = cc) (hown : s.vm.findClass (mm_nm o) = some m.cls) (C : mm_cx D cAI cAR E X base args s) {i a b : Nat} {S : List Value} {w : mm_W} {z : List Value × mm_W} (hlk : mm_lk o ini (.new i) a b) (hd : decode cc pc = .ok (.new i, 3)) (hl : w.1.length ≤ 1000) (hP : va_P D vwCl (mm_wl cAI cAR (mm_ad base E) w) H) (hS : va_S (fun q => base ≤ q) s.heap H locs) (hsz : s.heap.size + cells = base + w.1.length) (hR : cells + (z.2.1.length - w.1.length) ≤ R.cells ∧ slots + (mm_sz z.2.1 - mm_sz w.1) ≤ R.slots)
    (h : mm_heap X (.new i) a b S w = some z)
    (kk : ∀ (H1 : Heap) (locs1 : List Loc), va_P D vwCl (mm_wl cAI cAR (mm_ad base E) z.2) H1 → va_S (fun q => base ≤ q) s.heap H1 locs1 → W p l e R s m args below meth c H1 locs1 (cells + (z.2.1.length - w.1.length)) (slots + (mm_sz z.2.1 - mm_sz w.1)) Q (F0 m (pc + 3) ls (z.1.map (mm_tv (mm_ad base E))))) : W p l e R s m args below meth c H locs cells slots Q (F0 m pc ls (S.map (mm_tv (mm_ad base E)))) := by
  obtain ⟨ha, hw⟩ := hlk
  obtain ⟨hcl, hin, hty, -⟩ := mm_class ha
  simp only [mm_heap] at h
  split at h <;> first | cases h; done | skip
  rename_i hlen
  cases h
  have e1 : (w.1 ++ [Sum.inr (Sum.inr a)] : mm_G).length - w.1.length = 1 := by simp
  have e2 : mm_sz (w.1 ++ [Sum.inr (Sum.inr a)]) - mm_sz w.1 = mm_nf a := by rw [mm_sz_app]; simp [mm_sl]
  simp only [e1, e2] at hR kk
  have hfs : ∀ j, j < mm_nf a → defaultValue (mm_ty a j) = vp_V ((List.range (mm_nf a)).map (mm_fv (mm_ad base E) (w.1 ++ [Sum.inr (Sum.inr a)], mm_z w.2.1 w.1.length (fun _ => none), mm_z w.2.2.1 w.1.length (fun _ => 0), mm_z w.2.2.2 w.1.length (fun _ => 0)) a w.1.length)) j := by
    intro j hj
    have hk := mm_kind ha hj
    have hv : ((List.range (mm_nf a)).map (mm_fv (mm_ad base E) (w.1 ++ [Sum.inr (Sum.inr a)], mm_z w.2.1 w.1.length (fun _ => none), mm_z w.2.2.1 w.1.length (fun _ => 0), mm_z w.2.2.2 w.1.length (fun _ => 0)) a w.1.length))[j]? = some (mm_fv (mm_ad base E) (w.1 ++ [Sum.inr (Sum.inr a)], mm_z w.2.1 w.1.length (fun _ => none), mm_z w.2.2.1 w.1.length (fun _ => 0), mm_z w.2.2.2 w.1.length (fun _ => 0)) a w.1.length j) := by rw [List.getElem?_map, List.getElem?_range hj]; rfl
    show _ = Option.getD _ _
    rw [hv, Option.getD_some]
    simp only [mm_fv, mm_z, if_true]
    cases hf : mm_fk a j with
    | zero => rw [hf] at hk; cases ht : mm_ty a j <;> rw [ht] at hk <;> first | (simp [mm_kty] at hk; done) | rfl
    | succ f1 => cases f1 with
      | zero => rw [hf] at hk; cases ht : mm_ty a j <;> rw [ht] at hk <;> first | (simp [mm_kty] at hk; done) | rfl
      | succ f2 => cases f2 with
        | zero => rw [hf] at hk; cases ht : mm_ty a j <;> rw [ht] at hk <;> first | (simp [mm_kty] at hk; done) | rfl
        | succ f3 => cases f3 with
          | zero => rw [hf] at hk; cases ht : mm_ty a j <;> rw [ht] at hk <;> first | (simp [mm_kty] at hk; done) | rfl
          | succ f4 => rw [hf] at hk; cases ht : mm_ty a j <;> rw [ht] at hk <;> simp [mm_kty] at hk
  refine va_new hx hb C.1 hin (mm_ty a) hty hown (C.1 _ hw) (C.1 _ (mm_inst_ok a ha)) (C.1 _ (mm_init_ok a ha)) C.2.1 hP (mm_wl_D hl) hS (fun q hq => Nat.le_trans C.2.2.2.2.2 hq) hcl hfs hR.1 hR.2 hd (fun q H1 g1 g2 g3 => ?_)
  refine mm_W_sz (fun hz => ?_)
  have hq := mm_newad hlen g1 g2 (by omega)
  subst hq
  refine kk H1 locs ?_ g3
  have happ := mm_wl_app (cAI := cAI) (cAR := cAR) (ad := mm_ad base E) (w := w) (w' := (w.1 ++ [Sum.inr (Sum.inr a)], mm_z w.2.1 w.1.length (fun _ => none), mm_z w.2.2.1 w.1.length (fun _ => 0), mm_z w.2.2.2 w.1.length (fun _ => 0))) (sh := Sum.inr (Sum.inr a)) rfl (fun k' hk' => ⟨by funext j; simp [mm_z, hk'], by funext j; simp [mm_z, hk'], by funext j; simp [mm_z, hk']⟩) rfl
  exact happ ▸ g1
theorem so_newa (hx : p.tables.exec = Jvm.exec) (hb : c.code = cc) (C : mm_cx D cAI cAR E X base args s) {a b : Nat} {S : List Value} {w : mm_W} {z : List Value × mm_W} (hd : decode cc pc = .ok (.newarray .int, 2)) (hl : w.1.length ≤ 1000) (hP : va_P D vwCl (mm_wl cAI cAR (mm_ad base E) w) H) (hS : va_S (fun q => base ≤ q) s.heap H locs) (hsz : s.heap.size + cells = base + w.1.length) (hR : cells + (z.2.1.length - w.1.length) ≤ R.cells ∧ slots + (mm_sz z.2.1 - mm_sz w.1) ≤ R.slots)
    (h : mm_heap X (.newarray .int) a b S w = some z)
    (kk : ∀ (H1 : Heap) (locs1 : List Loc), va_P D vwCl (mm_wl cAI cAR (mm_ad base E) z.2) H1 → va_S (fun q => base ≤ q) s.heap H1 locs1 → W p l e R s m args below meth c H1 locs1 (cells + (z.2.1.length - w.1.length)) (slots + (mm_sz z.2.1 - mm_sz w.1)) Q (F0 m (pc + 2) ls (z.1.map (mm_tv (mm_ad base E))))) : W p l e R s m args below meth c H locs cells slots Q (F0 m pc ls (S.map (mm_tv (mm_ad base E)))) := by
  simp only [mm_heap] at h
  split at h <;> first | cases h; done | skip
  rename_i n r
  split at h <;> first | cases h; done | skip
  rename_i hn
  cases h
  have e1 : (w.1 ++ [Sum.inl n.toNatClampNeg] : mm_G).length - w.1.length = 1 := by simp
  have e2 : mm_sz (w.1 ++ [Sum.inl n.toNatClampNeg]) - mm_sz w.1 = n.toNatClampNeg := by rw [mm_sz_app]; simp [mm_sl]
  simp only [e1, e2] at hR kk
  refine va_newa hx hb (atype := .int) (C.1 _ mm_t_int) (ty := .int) rfl C.2.1 hP (mm_wl_D hl) hS (fun q hq => Nat.le_trans C.2.2.2.2.2 hq) (a0 := (n.toNatClampNeg, .inl (fun _ => 0))) (fun _ => rfl) hn.1 rfl (by show n.toNatClampNeg * 4 ≤ _; omega) hR.1 hR.2 hd (fun q cA H1 g0 g1 g2 g3 => ?_)
  refine mm_W_sz (fun hz => ?_)
  have hq := mm_newad hn.2.2 g1 g2 (by omega)
  subst hq
  have hcA : cA = cAI := by
    have h1 := (g0.2 4 (cA, .int) rfl).2
    have h2 := (g0.2 0 (cAI, .int) rfl).2
    exact Option.some.inj (Eq.trans (Eq.symm h1) h2)
  subst hcA
  refine kk H1 locs ?_ g3
  have happ := mm_wl_app (cAI := cA) (cAR := cAR) (ad := mm_ad base E) (w := w) (w' := (w.1 ++ [Sum.inl n.toNatClampNeg], w.2.1, mm_z w.2.2.1 w.1.length (fun _ => 0), w.2.2.2)) (sh := Sum.inl n.toNatClampNeg) (e := .inl (cA, (n.toNatClampNeg, .inl (fun _ => 0)))) rfl (fun k' hk' => ⟨rfl, by funext j; simp [mm_z, hk'], rfl⟩) (by
    show Sum.inl _ = Sum.inl _
    have e : mm_z w.2.2.1 w.1.length (fun _ => 0) w.1.length = fun _ => (0 : Int32) := by funext j; simp [mm_z]
    simp only [e])
  exact happ ▸ g1
theorem so_anew (hx : p.tables.exec = Jvm.exec) (hb : c.code = cc) (hown : s.vm.findClass (mm_nm o) = some m.cls) (C : mm_cx D cAI cAR E X base args s) {i a b : Nat} {S : List Value} {w : mm_W} {z : List Value × mm_W} (hlk : mm_lk o ini (.anewarray i) a b) (hd : decode cc pc = .ok (.anewarray i, 3)) (hl : w.1.length ≤ 1000) (hP : va_P D vwCl (mm_wl cAI cAR (mm_ad base E) w) H) (hS : va_S (fun q => base ≤ q) s.heap H locs) (hsz : s.heap.size + cells = base + w.1.length) (hR : cells + (z.2.1.length - w.1.length) ≤ R.cells ∧ slots + (mm_sz z.2.1 - mm_sz w.1) ≤ R.slots)
    (h : mm_heap X (.anewarray i) a b S w = some z)
    (kk : ∀ (H1 : Heap) (locs1 : List Loc), va_P D vwCl (mm_wl cAI cAR (mm_ad base E) z.2) H1 → va_S (fun q => base ≤ q) s.heap H1 locs1 → W p l e R s m args below meth c H1 locs1 (cells + (z.2.1.length - w.1.length)) (slots + (mm_sz z.2.1 - mm_sz w.1)) Q (F0 m (pc + 3) ls (z.1.map (mm_tv (mm_ad base E))))) : W p l e R s m args below meth c H locs cells slots Q (F0 m pc ls (S.map (mm_tv (mm_ad base E)))) := by
  obtain ⟨⟨t, ht⟩, hw⟩ := hlk
  simp only [mm_heap] at h
  split at h <;> first | cases h; done | skip
  rename_i n r
  split at h <;> first | cases h; done | skip
  rename_i hn
  cases h
  have e1 : (w.1 ++ [Sum.inr (Sum.inl (a, n.toNatClampNeg))] : mm_G).length - w.1.length = 1 := by simp
  have e2 : mm_sz (w.1 ++ [Sum.inr (Sum.inl (a, n.toNatClampNeg))]) - mm_sz w.1 = n.toNatClampNeg := by rw [mm_sz_app]; simp [mm_sl]
  simp only [e1, e2] at hR kk
  refine va_newq hx hb hown (C.1 _ hw) (va_AO.of (C.1 _ (mm_t_over a (mm_rix_of ht)))) C.2.1 hP (mm_wl_D hl) hS (fun q hq => Nat.le_trans C.2.2.2.2.2 hq) hn.1 rfl (by omega) hR.1 hR.2 hd (fun q cA H1 g0 g1 g2 g3 => ?_)
  refine mm_W_sz (fun hz => ?_)
  have hq := mm_newad hn.2.2 g1 g2 (by omega)
  subst hq
  have hcA : cA = cAR a := by
    obtain ⟨_, _, _, _, _, h1⟩ := (g0.2 4 (cA, .object (mm_nm a)) rfl).2
    obtain ⟨_, _, _, _, _, h2⟩ := (C.2.1.2 t _ (mm_tys_ref ht)).2
    exact Option.some.inj (Eq.trans (Eq.symm h1) h2)
  subst hcA
  refine kk H1 locs ?_ g3
  have happ := mm_wl_app (cAI := cAI) (cAR := cAR) (ad := mm_ad base E) (w := w) (w' := (w.1 ++ [Sum.inr (Sum.inl (a, n.toNatClampNeg))], mm_z w.2.1 w.1.length (fun _ => none), w.2.2.1, w.2.2.2)) (sh := Sum.inr (Sum.inl (a, n.toNatClampNeg))) (e := .inl (cAR a, n.toNatClampNeg, .inr (.inr (.inr (.inr (fun _ => none)))))) rfl (fun k' hk' => ⟨by funext j; simp [mm_z, hk'], rfl, rfl⟩) (by
    show Sum.inl _ = Sum.inl _
    have e : (fun j => (mm_z w.2.1 w.1.length (fun _ => none) w.1.length j).map (mm_ad base E)) = fun _ => (none : Option Nat) := by funext j; simp [mm_z]
    simp only [e])
  exact happ ▸ g1
theorem so_gets (hx : p.tables.exec = Jvm.exec) (hb : c.code = cc) (hown : s.vm.findClass (mm_nm o) = some m.cls) (C : mm_cx D cAI cAR E X base args s) {i a b : Nat} {S : List Value} {w : mm_W} {z : List Value × mm_W} (hlk : mm_lk o ini (.getstatic i) a b) (hd : decode cc pc = .ok (.getstatic i, 3)) (hS : va_S (fun q => base ≤ q) s.heap H locs)
    (h : mm_heap X (.getstatic i) a b S w = some z)
    (kk : z.2 = w → W p l e R s m args below meth c H locs cells slots Q (F0 m (pc + 3) ls (z.1.map (mm_tv (mm_ad base E))))) : W p l e R s m args below meth c H locs cells slots Q (F0 m pc ls (S.map (mm_tv (mm_ad base E)))) := by
  cases h
  rcases hlk with ⟨rfl, hw⟩ | ⟨rfl, hw⟩
  · exact va_gets hx hb C.2.2.2.1 hS hown (C.1 _ hw) (fun _ h => h) hd (kk rfl)
  · exact va_gets hx hb C.2.2.2.2.1 hS hown (C.1 _ hw) (fun _ h => h) hd (kk rfl)
theorem mm_nfw : nativeFrameWords "java/lang/System" "arraycopy" 5 + 11 ≤ 50 := by decide +kernel
theorem so_stat (hx : p.tables.exec = Jvm.exec) (hb : c.code = cc) (hml : c.maxLocals = ls.size) (hown : s.vm.findClass (mm_nm o) = some m.cls) (C : mm_cx D cAI cAR E X base args s) {i a b : Nat} {S : List Value} {w : mm_W} {z : List Value × mm_W} (hlk : mm_lk o ini (.invokestatic i) a b) (hd : decode cc pc = .ok (.invokestatic i, 3)) (hl : w.1.length ≤ 1000) (hP : va_P D vwCl (mm_wl cAI cAR (mm_ad base E) w) H) (hS : va_S (fun q => base ≤ q) s.heap H locs) (hR : cells ≤ R.cells ∧ slots ≤ R.slots) (hfr : 1 ≤ R.frames) (hlo : 64 ≤ R.locals)
    (h : mm_heap X (.invokestatic i) a b S w = some z)
    (kk : z.2.1 = w.1 → ∀ (H1 : Heap) (locs1 : List Loc), va_P D vwCl (mm_wl cAI cAR (mm_ad base E) z.2) H1 → va_S (fun q => base ≤ q) s.heap H1 locs1 → W p l e R s m args below meth c H1 locs1 cells slots Q (F0 m (pc + 3) ls (z.1.map (mm_tv (mm_ad base E))))) : W p l e R s m args below meth c H locs cells slots Q (F0 m pc ls (S.map (mm_tv (mm_ad base E)))) := by
  simp only [mm_heap] at h
  split at h
  · rename_i ha
    split at h <;> first | cases h; done | skip
    rename_i y x r
    split at h <;> first | cases h; done | skip
    rename_i hr
    cases h
    exact va_mmax hx hb hml hown (C.1 _ (hlk.1 ha)) (C.1 _ mm_t_max.1) (C.1 _ mm_t_max.2.1) (C.1 _ mm_t_max.2.2) hfr (by rw [mm_tv_sum]; omega) hR.1 hR.2 hd (kk rfl H locs hP hS)
  · split at h
    · rename_i ha
      split at h <;> first | cases h; done | skip
      rename_i y x r
      split at h <;> first | cases h; done | skip
      rename_i hr
      cases h
      exact va_mmin hx hb hml hown (C.1 _ (hlk.2.1 ha)) (C.1 _ mm_t_min.1) (C.1 _ mm_t_min.2.1) (C.1 _ mm_t_min.2.2) hfr (by rw [mm_tv_sum]; omega) hR.1 hR.2 hd (kk rfl H locs hP hS)
    · split at h
      · rename_i ha
        split at h <;> first | cases h; done | skip
        rename_i n dp kd sp ks r
        split at h <;> first | cases h; done | skip
        rename_i n0 n1 g0 g1
        split at h <;> first | cases h; done | skip
        rename_i hc
        cases h
        obtain ⟨⟨c1, c2, c3, c4, c5⟩, -, -, hr⟩ := hc
        have k0 := mm_arw_in g0
        have k1 := mm_arw_in g1
        have hnw := mm_nfw
        refine va_copyi hx hb hml hown (C.1 _ (hlk.2.2 ha)) (C.1 _ mm_t_cpy.2.2) (C.1 _ mm_t_cpy.1) (C.1 _ mm_t_cpy.2.1) C.2.1 hP (mm_wl_D hl) hS ks kd 0 0 (mm_wl_at k0) (mm_wl_at k1) (ty := .int) rfl rfl rfl c1 c2 c3 c4 c5 (fun _ _ => rfl) hfr (by rw [mm_tv_sum]; omega) hd (fun H1 locs1 f1 _ f3 => kk rfl H1 locs1 ?_ f3)
        have hset := mm_wl_set (cAI := cAI) (cAR := cAR) (ad := mm_ad base E) (w := w) (w' := (w.1, w.2.1, mm_z w.2.2.1 kd (va_cpy (w.2.2.1 ks) (w.2.2.1 kd) sp.toNatClampNeg dp.toNatClampNeg n.toNatClampNeg), w.2.2.2)) (k := kd) (e := .inl (cAI, n1, .inl (va_cpy (w.2.2.1 ks) (w.2.2.1 kd) sp.toNatClampNeg dp.toNatClampNeg n.toNatClampNeg))) rfl (fun k' hk' => ⟨rfl, by funext j; simp [mm_z, hk'], rfl⟩) (fun sh hsh => ?_)
        · rw [hset] at f1
          exact f1
        · rw [k1] at hsh
          cases hsh
          show Sum.inl _ = Sum.inl _
          have e : mm_z w.2.2.1 kd (va_cpy (w.2.2.1 ks) (w.2.2.1 kd) sp.toNatClampNeg dp.toNatClampNeg n.toNatClampNeg) kd = va_cpy (w.2.2.1 ks) (w.2.2.1 kd) sp.toNatClampNeg dp.toNatClampNeg n.toNatClampNeg := by funext j; simp [mm_z]
          simp only [e]
      · cases h
theorem so_spec (hx : p.tables.exec = Jvm.exec) (hb : c.code = cc) (hml : c.maxLocals = ls.size) (hown : s.vm.findClass (mm_nm o) = some m.cls) (C : mm_cx D cAI cAR E X base args s) {i a b : Nat} {S : List Value} {w : mm_W} {z : List Value × mm_W} (hlk : mm_lk o ini (.invokespecial i) a b) (hd : decode cc pc = .ok (.invokespecial i, 3)) (hfr : 1 ≤ R.frames) (hlo : 64 ≤ R.locals)
    (h : mm_heap X (.invokespecial i) a b S w = some z)
    (kk : z.2 = w → W p l e R s m args below meth c H locs cells slots Q (F0 m (pc + 3) ls (z.1.map (mm_tv (mm_ad base E))))) : W p l e R s m args below meth c H locs cells slots Q (F0 m pc ls (S.map (mm_tv (mm_ad base E)))) := by
  simp only [mm_heap] at h
  split at h <;> first | cases h; done | skip
  rename_i ha
  split at h <;> first | cases h; done | skip
  rename_i k r
  split at h <;> first | cases h; done | skip
  rename_i hr
  cases h
  have hroom := lv_room (m := m) (pc := pc) (ls := ls) (rest := r.map (mm_tv (mm_ad base E))) (st := r.map (mm_tv (mm_ad base E))) (by rw [mm_tv_sum]; exact hr)
  exact W.objInit hx hb hown (C.1 _ (hlk ha)) (C.1 _ mm_t_obj.1) (C.1 _ mm_t_obj.2) rfl hml.symm rfl hd hfr (by
    show 2 * (F0 m pc ls (Value.ref (mm_ad base E k) :: r.map (mm_tv (mm_ad base E)))).monitorRoom + _ + 12 ≤ _
    have : (F0 m pc ls (Value.ref (mm_ad base E k) :: r.map (mm_tv (mm_ad base E)))).monitorRoom = (F0 m pc ls (r.map (mm_tv (mm_ad base E)))).monitorRoom := rfl
    rw [this]; omega) (kk rfl)
end SH
end
