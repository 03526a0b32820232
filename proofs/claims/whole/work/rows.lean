section
-- ===== PART A: goes FIRST, ahead of the names: the tables' words, and 'selects' of the private methods out of them =====
/-- a private method of a class that the tables say can be made, by its rows of tables_1 -/
def lw_okq (q : MethodName × Nat) : Prop := (q.1.cls ≠ "java/lang/invoke/MethodHandle" ∧ q.1.cls ≠ "java/lang/invoke/VarHandle") ∧ Cond.instantiable q.1.cls q.2 ∈ tables_1 ∧ Cond.privateMethod q.1 ∈ tables_1 ∧ Cond.instanceMethod q.1 ∈ tables_1
theorem lw_p0 : lw_okq (⟨"ToastGaol", "learn", "(I)V"⟩, 11) := ⟨⟨by decide +kernel, by decide +kernel⟩, List.mem_of_getElem? (i := 16) (by decide +kernel), List.mem_of_getElem? (i := 407) (by decide +kernel), List.mem_of_getElem? (i := 408) (by decide +kernel)⟩
theorem lw_p1 : lw_okq (⟨"ToastGaol$Setting", "takeRack", "(LToastGaol$Text;)V"⟩, 12) := ⟨⟨by decide +kernel, by decide +kernel⟩, List.mem_of_getElem? (i := 26) (by decide +kernel), List.mem_of_getElem? (i := 411) (by decide +kernel), List.mem_of_getElem? (i := 412) (by decide +kernel)⟩
theorem lw_p2 : lw_okq (⟨"ToastGaol$Text", "faultAsRack", "()I"⟩, 2) := ⟨⟨by decide +kernel, by decide +kernel⟩, List.mem_of_getElem? (i := 325) (by decide +kernel), List.mem_of_getElem? (i := 415) (by decide +kernel), List.mem_of_getElem? (i := 416) (by decide +kernel)⟩
theorem lw_p3 : lw_okq (⟨"ToastGaol$Setting", "takeSlices", "(LToastGaol$Text;)V"⟩, 12) := ⟨⟨by decide +kernel, by decide +kernel⟩, List.mem_of_getElem? (i := 26) (by decide +kernel), List.mem_of_getElem? (i := 425) (by decide +kernel), List.mem_of_getElem? (i := 426) (by decide +kernel)⟩
theorem lw_p4 : lw_okq (⟨"ToastGaol$Text", "faultAsSlices", "()I"⟩, 2) := ⟨⟨by decide +kernel, by decide +kernel⟩, List.mem_of_getElem? (i := 325) (by decide +kernel), List.mem_of_getElem? (i := 429) (by decide +kernel), List.mem_of_getElem? (i := 430) (by decide +kernel)⟩
theorem lw_p5 : lw_okq (⟨"ToastGaol", "isSlice", "(I)Z"⟩, 11) := ⟨⟨by decide +kernel, by decide +kernel⟩, List.mem_of_getElem? (i := 16) (by decide +kernel), List.mem_of_getElem? (i := 462) (by decide +kernel), List.mem_of_getElem? (i := 463) (by decide +kernel)⟩
theorem lw_p6 : lw_okq (⟨"ToastGaol$Sheet", "isLost", "()Z"⟩, 3) := ⟨⟨by decide +kernel, by decide +kernel⟩, List.mem_of_getElem? (i := 344) (by decide +kernel), List.mem_of_getElem? (i := 494) (by decide +kernel), List.mem_of_getElem? (i := 495) (by decide +kernel)⟩
theorem lw_p7 : lw_okq (⟨"ToastGaol", "found", "(I)I"⟩, 11) := ⟨⟨by decide +kernel, by decide +kernel⟩, List.mem_of_getElem? (i := 16) (by decide +kernel), List.mem_of_getElem? (i := 498) (by decide +kernel), List.mem_of_getElem? (i := 499) (by decide +kernel)⟩
theorem lw_p8 : lw_okq (⟨"ToastGaol$Log", "bringUpToDate", "()V"⟩, 6) := ⟨⟨by decide +kernel, by decide +kernel⟩, List.mem_of_getElem? (i := 104) (by decide +kernel), List.mem_of_getElem? (i := 507) (by decide +kernel), List.mem_of_getElem? (i := 508) (by decide +kernel)⟩
theorem lw_p9 : lw_okq (⟨"ToastGaol$Course", "begin", "()V"⟩, 9) := ⟨⟨by decide +kernel, by decide +kernel⟩, List.mem_of_getElem? (i := 110) (by decide +kernel), List.mem_of_getElem? (i := 511) (by decide +kernel), List.mem_of_getElem? (i := 512) (by decide +kernel)⟩
theorem lw_p10 : lw_okq (⟨"ToastGaol$Course", "untilButters", "(I)V"⟩, 9) := ⟨⟨by decide +kernel, by decide +kernel⟩, List.mem_of_getElem? (i := 110) (by decide +kernel), List.mem_of_getElem? (i := 515) (by decide +kernel), List.mem_of_getElem? (i := 516) (by decide +kernel)⟩
theorem lw_p11 : lw_okq (⟨"ToastGaol$Course", "comeAgain", "(I)V"⟩, 9) := ⟨⟨by decide +kernel, by decide +kernel⟩, List.mem_of_getElem? (i := 110) (by decide +kernel), List.mem_of_getElem? (i := 519) (by decide +kernel), List.mem_of_getElem? (i := 520) (by decide +kernel)⟩
theorem lw_p12 : lw_okq (⟨"ToastGaol$Course", "takePlaces", "()V"⟩, 9) := ⟨⟨by decide +kernel, by decide +kernel⟩, List.mem_of_getElem? (i := 110) (by decide +kernel), List.mem_of_getElem? (i := 523) (by decide +kernel), List.mem_of_getElem? (i := 524) (by decide +kernel)⟩
theorem lw_p13 : lw_okq (⟨"ToastGaol$Setting", "firesIn", "(I)I"⟩, 12) := ⟨⟨by decide +kernel, by decide +kernel⟩, List.mem_of_getElem? (i := 26) (by decide +kernel), List.mem_of_getElem? (i := 527) (by decide +kernel), List.mem_of_getElem? (i := 528) (by decide +kernel)⟩
theorem lw_p14 : lw_okq (⟨"ToastGaol$Course", "warm", "(I)V"⟩, 9) := ⟨⟨by decide +kernel, by decide +kernel⟩, List.mem_of_getElem? (i := 110) (by decide +kernel), List.mem_of_getElem? (i := 531) (by decide +kernel), List.mem_of_getElem? (i := 532) (by decide +kernel)⟩
theorem lw_p15 : lw_okq (⟨"ToastGaol$Course", "fromButters", "(II)V"⟩, 9) := ⟨⟨by decide +kernel, by decide +kernel⟩, List.mem_of_getElem? (i := 110) (by decide +kernel), List.mem_of_getElem? (i := 536) (by decide +kernel), List.mem_of_getElem? (i := 537) (by decide +kernel)⟩
def lw_privs_1 : List (MethodName × Nat) := [(⟨"ToastGaol", "learn", "(I)V"⟩, 11), (⟨"ToastGaol$Setting", "takeRack", "(LToastGaol$Text;)V"⟩, 12), (⟨"ToastGaol$Text", "faultAsRack", "()I"⟩, 2), (⟨"ToastGaol$Setting", "takeSlices", "(LToastGaol$Text;)V"⟩, 12), (⟨"ToastGaol$Text", "faultAsSlices", "()I"⟩, 2), (⟨"ToastGaol", "isSlice", "(I)Z"⟩, 11), (⟨"ToastGaol$Sheet", "isLost", "()Z"⟩, 3), (⟨"ToastGaol", "found", "(I)I"⟩, 11), (⟨"ToastGaol$Log", "bringUpToDate", "()V"⟩, 6), (⟨"ToastGaol$Course", "begin", "()V"⟩, 9), (⟨"ToastGaol$Course", "untilButters", "(I)V"⟩, 9), (⟨"ToastGaol$Course", "comeAgain", "(I)V"⟩, 9), (⟨"ToastGaol$Course", "takePlaces", "()V"⟩, 9), (⟨"ToastGaol$Setting", "firesIn", "(I)I"⟩, 12), (⟨"ToastGaol$Course", "warm", "(I)V"⟩, 9), (⟨"ToastGaol$Course", "fromButters", "(II)V"⟩, 9)]
theorem lw_r1 : ∀ q ∈ lw_privs_1, lw_okq q := List.forall_mem_cons.mpr ⟨lw_p0, List.forall_mem_cons.mpr ⟨lw_p1, List.forall_mem_cons.mpr ⟨lw_p2, List.forall_mem_cons.mpr ⟨lw_p3, List.forall_mem_cons.mpr ⟨lw_p4, List.forall_mem_cons.mpr ⟨lw_p5, List.forall_mem_cons.mpr ⟨lw_p6, List.forall_mem_cons.mpr ⟨lw_p7, List.forall_mem_cons.mpr ⟨lw_p8, List.forall_mem_cons.mpr ⟨lw_p9, List.forall_mem_cons.mpr ⟨lw_p10, List.forall_mem_cons.mpr ⟨lw_p11, List.forall_mem_cons.mpr ⟨lw_p12, List.forall_mem_cons.mpr ⟨lw_p13, List.forall_mem_cons.mpr ⟨lw_p14, List.forall_mem_cons.mpr ⟨lw_p15, fun _ h => absurd h List.not_mem_nil⟩⟩⟩⟩⟩⟩⟩⟩⟩⟩⟩⟩⟩⟩⟩⟩
theorem lw_p16 : lw_okq (⟨"ToastGaol$Course", "spread", "(I)V"⟩, 9) := ⟨⟨by decide +kernel, by decide +kernel⟩, List.mem_of_getElem? (i := 110) (by decide +kernel), List.mem_of_getElem? (i := 540) (by decide +kernel), List.mem_of_getElem? (i := 541) (by decide +kernel)⟩
theorem lw_p17 : lw_okq (⟨"ToastGaol$Course", "isIn", "(I)Z"⟩, 9) := ⟨⟨by decide +kernel, by decide +kernel⟩, List.mem_of_getElem? (i := 110) (by decide +kernel), List.mem_of_getElem? (i := 544) (by decide +kernel), List.mem_of_getElem? (i := 545) (by decide +kernel)⟩
theorem lw_p18 : lw_okq (⟨"ToastGaol$Course", "leave", "(II)V"⟩, 9) := ⟨⟨by decide +kernel, by decide +kernel⟩, List.mem_of_getElem? (i := 110) (by decide +kernel), List.mem_of_getElem? (i := 548) (by decide +kernel), List.mem_of_getElem? (i := 549) (by decide +kernel)⟩
theorem lw_p19 : lw_okq (⟨"ToastGaol$Course", "feelWarmth", "()V"⟩, 9) := ⟨⟨by decide +kernel, by decide +kernel⟩, List.mem_of_getElem? (i := 110) (by decide +kernel), List.mem_of_getElem? (i := 552) (by decide +kernel), List.mem_of_getElem? (i := 553) (by decide +kernel)⟩
theorem lw_p20 : lw_okq (⟨"ToastGaol$Course", "cooling", "(II)I"⟩, 9) := ⟨⟨by decide +kernel, by decide +kernel⟩, List.mem_of_getElem? (i := 110) (by decide +kernel), List.mem_of_getElem? (i := 556) (by decide +kernel), List.mem_of_getElem? (i := 557) (by decide +kernel)⟩
theorem lw_p21 : lw_okq (⟨"ToastGaol$Course", "letGo", "(II)V"⟩, 9) := ⟨⟨by decide +kernel, by decide +kernel⟩, List.mem_of_getElem? (i := 110) (by decide +kernel), List.mem_of_getElem? (i := 561) (by decide +kernel), List.mem_of_getElem? (i := 562) (by decide +kernel)⟩
theorem lw_p22 : lw_okq (⟨"ToastGaol$Log", "leastLeaning", "(I)I"⟩, 6) := ⟨⟨by decide +kernel, by decide +kernel⟩, List.mem_of_getElem? (i := 104) (by decide +kernel), List.mem_of_getElem? (i := 588) (by decide +kernel), List.mem_of_getElem? (i := 589) (by decide +kernel)⟩
theorem lw_p23 : lw_okq (⟨"ToastGaol$Plans", "findMove", "(I)V"⟩, 7) := ⟨⟨by decide +kernel, by decide +kernel⟩, List.mem_of_getElem? (i := 183) (by decide +kernel), List.mem_of_getElem? (i := 600) (by decide +kernel), List.mem_of_getElem? (i := 601) (by decide +kernel)⟩
theorem lw_p24 : lw_okq (⟨"ToastGaol$Plans", "letGoBefore", "(II)I"⟩, 7) := ⟨⟨by decide +kernel, by decide +kernel⟩, List.mem_of_getElem? (i := 183) (by decide +kernel), List.mem_of_getElem? (i := 604) (by decide +kernel), List.mem_of_getElem? (i := 605) (by decide +kernel)⟩
theorem lw_p25 : lw_okq (⟨"ToastGaol$Plans", "findSwap", "()V"⟩, 7) := ⟨⟨by decide +kernel, by decide +kernel⟩, List.mem_of_getElem? (i := 183) (by decide +kernel), List.mem_of_getElem? (i := 615) (by decide +kernel), List.mem_of_getElem? (i := 616) (by decide +kernel)⟩
theorem lw_p26 : lw_okq (⟨"ToastGaol$Plans", "stayOfAll", "()I"⟩, 7) := ⟨⟨by decide +kernel, by decide +kernel⟩, List.mem_of_getElem? (i := 183) (by decide +kernel), List.mem_of_getElem? (i := 619) (by decide +kernel), List.mem_of_getElem? (i := 620) (by decide +kernel)⟩
theorem lw_p27 : lw_okq (⟨"ToastGaol$Course", "howManyIn", "()I"⟩, 9) := ⟨⟨by decide +kernel, by decide +kernel⟩, List.mem_of_getElem? (i := 110) (by decide +kernel), List.mem_of_getElem? (i := 623) (by decide +kernel), List.mem_of_getElem? (i := 624) (by decide +kernel)⟩
theorem lw_p28 : lw_okq (⟨"ToastGaol$Plans", "stayIfSwapped", "(II)I"⟩, 7) := ⟨⟨by decide +kernel, by decide +kernel⟩, List.mem_of_getElem? (i := 183) (by decide +kernel), List.mem_of_getElem? (i := 627) (by decide +kernel), List.mem_of_getElem? (i := 628) (by decide +kernel)⟩
theorem lw_p29 : lw_okq (⟨"ToastGaol$Plans", "changeSlots", "(II)V"⟩, 7) := ⟨⟨by decide +kernel, by decide +kernel⟩, List.mem_of_getElem? (i := 183) (by decide +kernel), List.mem_of_getElem? (i := 631) (by decide +kernel), List.mem_of_getElem? (i := 632) (by decide +kernel)⟩
theorem lw_p30 : lw_okq (⟨"ToastGaol$Plans", "firstButterHour", "(I)I"⟩, 7) := ⟨⟨by decide +kernel, by decide +kernel⟩, List.mem_of_getElem? (i := 183) (by decide +kernel), List.mem_of_getElem? (i := 639) (by decide +kernel), List.mem_of_getElem? (i := 640) (by decide +kernel)⟩
theorem lw_p31 : lw_okq (⟨"ToastGaol$Plans", "greatestSummer", "()I"⟩, 7) := ⟨⟨by decide +kernel, by decide +kernel⟩, List.mem_of_getElem? (i := 183) (by decide +kernel), List.mem_of_getElem? (i := 648) (by decide +kernel), List.mem_of_getElem? (i := 649) (by decide +kernel)⟩
def lw_privs_2 : List (MethodName × Nat) := [(⟨"ToastGaol$Course", "spread", "(I)V"⟩, 9), (⟨"ToastGaol$Course", "isIn", "(I)Z"⟩, 9), (⟨"ToastGaol$Course", "leave", "(II)V"⟩, 9), (⟨"ToastGaol$Course", "feelWarmth", "()V"⟩, 9), (⟨"ToastGaol$Course", "cooling", "(II)I"⟩, 9), (⟨"ToastGaol$Course", "letGo", "(II)V"⟩, 9), (⟨"ToastGaol$Log", "leastLeaning", "(I)I"⟩, 6), (⟨"ToastGaol$Plans", "findMove", "(I)V"⟩, 7), (⟨"ToastGaol$Plans", "letGoBefore", "(II)I"⟩, 7), (⟨"ToastGaol$Plans", "findSwap", "()V"⟩, 7), (⟨"ToastGaol$Plans", "stayOfAll", "()I"⟩, 7), (⟨"ToastGaol$Course", "howManyIn", "()I"⟩, 9), (⟨"ToastGaol$Plans", "stayIfSwapped", "(II)I"⟩, 7), (⟨"ToastGaol$Plans", "changeSlots", "(II)V"⟩, 7), (⟨"ToastGaol$Plans", "firstButterHour", "(I)I"⟩, 7), (⟨"ToastGaol$Plans", "greatestSummer", "()I"⟩, 7)]
theorem lw_r2 : ∀ q ∈ lw_privs_2, lw_okq q := List.forall_mem_cons.mpr ⟨lw_p16, List.forall_mem_cons.mpr ⟨lw_p17, List.forall_mem_cons.mpr ⟨lw_p18, List.forall_mem_cons.mpr ⟨lw_p19, List.forall_mem_cons.mpr ⟨lw_p20, List.forall_mem_cons.mpr ⟨lw_p21, List.forall_mem_cons.mpr ⟨lw_p22, List.forall_mem_cons.mpr ⟨lw_p23, List.forall_mem_cons.mpr ⟨lw_p24, List.forall_mem_cons.mpr ⟨lw_p25, List.forall_mem_cons.mpr ⟨lw_p26, List.forall_mem_cons.mpr ⟨lw_p27, List.forall_mem_cons.mpr ⟨lw_p28, List.forall_mem_cons.mpr ⟨lw_p29, List.forall_mem_cons.mpr ⟨lw_p30, List.forall_mem_cons.mpr ⟨lw_p31, fun _ h => absurd h List.not_mem_nil⟩⟩⟩⟩⟩⟩⟩⟩⟩⟩⟩⟩⟩⟩⟩⟩
theorem lw_p32 : lw_okq (⟨"ToastGaol$Course", "goThrough", "()V"⟩, 9) := ⟨⟨by decide +kernel, by decide +kernel⟩, List.mem_of_getElem? (i := 110) (by decide +kernel), List.mem_of_getElem? (i := 652) (by decide +kernel), List.mem_of_getElem? (i := 653) (by decide +kernel)⟩
theorem lw_p33 : lw_okq (⟨"ToastGaol$Sightings", "add", "(III)V"⟩, 5) := ⟨⟨by decide +kernel, by decide +kernel⟩, List.mem_of_getElem? (i := 216) (by decide +kernel), List.mem_of_getElem? (i := 663) (by decide +kernel), List.mem_of_getElem? (i := 664) (by decide +kernel)⟩
theorem lw_p34 : lw_okq (⟨"ToastGaol$Guesses", "findHeats", "(I)V"⟩, 7) := ⟨⟨by decide +kernel, by decide +kernel⟩, List.mem_of_getElem? (i := 239) (by decide +kernel), List.mem_of_getElem? (i := 675) (by decide +kernel), List.mem_of_getElem? (i := 676) (by decide +kernel)⟩
theorem lw_p35 : lw_okq (⟨"ToastGaol$Guesses", "allComesOut", "(I)Z"⟩, 7) := ⟨⟨by decide +kernel, by decide +kernel⟩, List.mem_of_getElem? (i := 239) (by decide +kernel), List.mem_of_getElem? (i := 679) (by decide +kernel), List.mem_of_getElem? (i := 680) (by decide +kernel)⟩
theorem lw_p36 : lw_okq (⟨"ToastGaol$Sightings", "lastHour", "()I"⟩, 5) := ⟨⟨by decide +kernel, by decide +kernel⟩, List.mem_of_getElem? (i := 216) (by decide +kernel), List.mem_of_getElem? (i := 683) (by decide +kernel), List.mem_of_getElem? (i := 684) (by decide +kernel)⟩
theorem lw_p37 : lw_okq (⟨"ToastGaol$Sightings", "agreeWith", "(LToastGaol$Course;I)Z"⟩, 5) := ⟨⟨by decide +kernel, by decide +kernel⟩, List.mem_of_getElem? (i := 216) (by decide +kernel), List.mem_of_getElem? (i := 692) (by decide +kernel), List.mem_of_getElem? (i := 693) (by decide +kernel)⟩
theorem lw_p38 : lw_okq (⟨"ToastGaol$Guesses", "heatAt", "(I)I"⟩, 7) := ⟨⟨by decide +kernel, by decide +kernel⟩, List.mem_of_getElem? (i := 239) (by decide +kernel), List.mem_of_getElem? (i := 697) (by decide +kernel), List.mem_of_getElem? (i := 698) (by decide +kernel)⟩
theorem lw_p39 : lw_okq (⟨"ToastGaol$Guesses", "slotsOf", "(I)I"⟩, 7) := ⟨⟨by decide +kernel, by decide +kernel⟩, List.mem_of_getElem? (i := 239) (by decide +kernel), List.mem_of_getElem? (i := 705) (by decide +kernel), List.mem_of_getElem? (i := 706) (by decide +kernel)⟩
theorem lw_p40 : lw_okq (⟨"ToastGaol$Guesses", "nextToTouch", "(I)I"⟩, 7) := ⟨⟨by decide +kernel, by decide +kernel⟩, List.mem_of_getElem? (i := 239) (by decide +kernel), List.mem_of_getElem? (i := 713) (by decide +kernel), List.mem_of_getElem? (i := 714) (by decide +kernel)⟩
theorem lw_p41 : lw_okq (⟨"ToastGaol$Guesses", "tallyNoted", "()V"⟩, 7) := ⟨⟨by decide +kernel, by decide +kernel⟩, List.mem_of_getElem? (i := 239) (by decide +kernel), List.mem_of_getElem? (i := 717) (by decide +kernel), List.mem_of_getElem? (i := 718) (by decide +kernel)⟩
theorem lw_p42 : lw_okq (⟨"ToastGaol$Guesses", "leastOfTheGreatest", "()I"⟩, 7) := ⟨⟨by decide +kernel, by decide +kernel⟩, List.mem_of_getElem? (i := 239) (by decide +kernel), List.mem_of_getElem? (i := 721) (by decide +kernel), List.mem_of_getElem? (i := 722) (by decide +kernel)⟩
theorem lw_p43 : lw_okq (⟨"ToastGaol$Window", "weigh", "(IIII)V"⟩, 7) := ⟨⟨by decide +kernel, by decide +kernel⟩, List.mem_of_getElem? (i := 267) (by decide +kernel), List.mem_of_getElem? (i := 730) (by decide +kernel), List.mem_of_getElem? (i := 731) (by decide +kernel)⟩
theorem lw_p44 : lw_okq (⟨"ToastGaol$Window", "isLetGoFrom", "(I)Z"⟩, 7) := ⟨⟨by decide +kernel, by decide +kernel⟩, List.mem_of_getElem? (i := 267) (by decide +kernel), List.mem_of_getElem? (i := 739) (by decide +kernel), List.mem_of_getElem? (i := 740) (by decide +kernel)⟩
theorem lw_p45 : lw_okq (⟨"ToastGaol$Course", "follow", "(LToastGaol$Course;II)V"⟩, 9) := ⟨⟨by decide +kernel, by decide +kernel⟩, List.mem_of_getElem? (i := 110) (by decide +kernel), List.mem_of_getElem? (i := 745) (by decide +kernel), List.mem_of_getElem? (i := 746) (by decide +kernel)⟩
theorem lw_p46 : lw_okq (⟨"ToastGaol$Others", "draw", "(I)V"⟩, 5) := ⟨⟨by decide +kernel, by decide +kernel⟩, List.mem_of_getElem? (i := 300) (by decide +kernel), List.mem_of_getElem? (i := 754) (by decide +kernel), List.mem_of_getElem? (i := 755) (by decide +kernel)⟩
theorem lw_p47 : lw_okq (⟨"ToastGaol$Others", "howManyAre", "(I)I"⟩, 5) := ⟨⟨by decide +kernel, by decide +kernel⟩, List.mem_of_getElem? (i := 300) (by decide +kernel), List.mem_of_getElem? (i := 761) (by decide +kernel), List.mem_of_getElem? (i := 762) (by decide +kernel)⟩
def lw_privs_3 : List (MethodName × Nat) := [(⟨"ToastGaol$Course", "goThrough", "()V"⟩, 9), (⟨"ToastGaol$Sightings", "add", "(III)V"⟩, 5), (⟨"ToastGaol$Guesses", "findHeats", "(I)V"⟩, 7), (⟨"ToastGaol$Guesses", "allComesOut", "(I)Z"⟩, 7), (⟨"ToastGaol$Sightings", "lastHour", "()I"⟩, 5), (⟨"ToastGaol$Sightings", "agreeWith", "(LToastGaol$Course;I)Z"⟩, 5), (⟨"ToastGaol$Guesses", "heatAt", "(I)I"⟩, 7), (⟨"ToastGaol$Guesses", "slotsOf", "(I)I"⟩, 7), (⟨"ToastGaol$Guesses", "nextToTouch", "(I)I"⟩, 7), (⟨"ToastGaol$Guesses", "tallyNoted", "()V"⟩, 7), (⟨"ToastGaol$Guesses", "leastOfTheGreatest", "()I"⟩, 7), (⟨"ToastGaol$Window", "weigh", "(IIII)V"⟩, 7), (⟨"ToastGaol$Window", "isLetGoFrom", "(I)Z"⟩, 7), (⟨"ToastGaol$Course", "follow", "(LToastGaol$Course;II)V"⟩, 9), (⟨"ToastGaol$Others", "draw", "(I)V"⟩, 5), (⟨"ToastGaol$Others", "howManyAre", "(I)I"⟩, 5)]
theorem lw_r3 : ∀ q ∈ lw_privs_3, lw_okq q := List.forall_mem_cons.mpr ⟨lw_p32, List.forall_mem_cons.mpr ⟨lw_p33, List.forall_mem_cons.mpr ⟨lw_p34, List.forall_mem_cons.mpr ⟨lw_p35, List.forall_mem_cons.mpr ⟨lw_p36, List.forall_mem_cons.mpr ⟨lw_p37, List.forall_mem_cons.mpr ⟨lw_p38, List.forall_mem_cons.mpr ⟨lw_p39, List.forall_mem_cons.mpr ⟨lw_p40, List.forall_mem_cons.mpr ⟨lw_p41, List.forall_mem_cons.mpr ⟨lw_p42, List.forall_mem_cons.mpr ⟨lw_p43, List.forall_mem_cons.mpr ⟨lw_p44, List.forall_mem_cons.mpr ⟨lw_p45, List.forall_mem_cons.mpr ⟨lw_p46, List.forall_mem_cons.mpr ⟨lw_p47, fun _ h => absurd h List.not_mem_nil⟩⟩⟩⟩⟩⟩⟩⟩⟩⟩⟩⟩⟩⟩⟩⟩
theorem lw_p48 : lw_okq (⟨"ToastGaol$Sheet", "renew", "(II)V"⟩, 3) := ⟨⟨by decide +kernel, by decide +kernel⟩, List.mem_of_getElem? (i := 344) (by decide +kernel), List.mem_of_getElem? (i := 772) (by decide +kernel), List.mem_of_getElem? (i := 773) (by decide +kernel)⟩
theorem lw_p49 : lw_okq (⟨"ToastGaol", "findingAt", "(III)I"⟩, 11) := ⟨⟨by decide +kernel, by decide +kernel⟩, List.mem_of_getElem? (i := 16) (by decide +kernel), List.mem_of_getElem? (i := 784) (by decide +kernel), List.mem_of_getElem? (i := 785) (by decide +kernel)⟩
theorem lw_p50 : lw_okq (⟨"ToastGaol$Sheet", "put", "(II)V"⟩, 3) := ⟨⟨by decide +kernel, by decide +kernel⟩, List.mem_of_getElem? (i := 344) (by decide +kernel), List.mem_of_getElem? (i := 788) (by decide +kernel), List.mem_of_getElem? (i := 789) (by decide +kernel)⟩
theorem lw_p51 : lw_okq (⟨"ToastGaol$Sheet", "hasRun", "(II)Z"⟩, 3) := ⟨⟨by decide +kernel, by decide +kernel⟩, List.mem_of_getElem? (i := 344) (by decide +kernel), List.mem_of_getElem? (i := 801) (by decide +kernel), List.mem_of_getElem? (i := 802) (by decide +kernel)⟩
theorem lw_p52 : lw_okq (⟨"ToastGaol", "timesLetGo", "()I"⟩, 11) := ⟨⟨by decide +kernel, by decide +kernel⟩, List.mem_of_getElem? (i := 16) (by decide +kernel), List.mem_of_getElem? (i := 815) (by decide +kernel), List.mem_of_getElem? (i := 816) (by decide +kernel)⟩
theorem lw_p53 : lw_okq (⟨"ToastGaol", "mixTold", "(JI)J"⟩, 11) := ⟨⟨by decide +kernel, by decide +kernel⟩, List.mem_of_getElem? (i := 16) (by decide +kernel), List.mem_of_getElem? (i := 830) (by decide +kernel), List.mem_of_getElem? (i := 831) (by decide +kernel)⟩
theorem lw_p54 : lw_okq (⟨"ToastGaol", "mixFound", "(JI)J"⟩, 11) := ⟨⟨by decide +kernel, by decide +kernel⟩, List.mem_of_getElem? (i := 16) (by decide +kernel), List.mem_of_getElem? (i := 840) (by decide +kernel), List.mem_of_getElem? (i := 841) (by decide +kernel)⟩
theorem lw_p55 : lw_okq (⟨"ToastGaolModel", "finds", "(I)I"⟩, 31) := ⟨⟨by decide +kernel, by decide +kernel⟩, List.mem_of_getElem? (i := 850) (by decide +kernel), List.mem_of_getElem? (i := 962) (by decide +kernel), List.mem_of_getElem? (i := 963) (by decide +kernel)⟩
theorem lw_p56 : lw_okq (⟨"ToastGaolModel", "lacks", "(III)I"⟩, 31) := ⟨⟨by decide +kernel, by decide +kernel⟩, List.mem_of_getElem? (i := 850) (by decide +kernel), List.mem_of_getElem? (i := 974) (by decide +kernel), List.mem_of_getElem? (i := 975) (by decide +kernel)⟩
theorem lw_p57 : lw_okq (⟨"ToastGaolModel", "readsRack", "()I"⟩, 31) := ⟨⟨by decide +kernel, by decide +kernel⟩, List.mem_of_getElem? (i := 850) (by decide +kernel), List.mem_of_getElem? (i := 1010) (by decide +kernel), List.mem_of_getElem? (i := 1011) (by decide +kernel)⟩
theorem lw_p58 : lw_okq (⟨"ToastGaolModel", "readsSlices", "()I"⟩, 31) := ⟨⟨by decide +kernel, by decide +kernel⟩, List.mem_of_getElem? (i := 850) (by decide +kernel), List.mem_of_getElem? (i := 1019) (by decide +kernel), List.mem_of_getElem? (i := 1020) (by decide +kernel)⟩
theorem lw_p59 : lw_okq (⟨"ToastGaolModel", "isSlice", "(I)Z"⟩, 31) := ⟨⟨by decide +kernel, by decide +kernel⟩, List.mem_of_getElem? (i := 850) (by decide +kernel), List.mem_of_getElem? (i := 1034) (by decide +kernel), List.mem_of_getElem? (i := 1035) (by decide +kernel)⟩
theorem lw_p60 : lw_okq (⟨"ToastGaolModel", "find", "()V"⟩, 31) := ⟨⟨by decide +kernel, by decide +kernel⟩, List.mem_of_getElem? (i := 850) (by decide +kernel), List.mem_of_getElem? (i := 1071) (by decide +kernel), List.mem_of_getElem? (i := 1072) (by decide +kernel)⟩
theorem lw_p61 : lw_okq (⟨"ToastGaolModel", "lives", "()V"⟩, 31) := ⟨⟨by decide +kernel, by decide +kernel⟩, List.mem_of_getElem? (i := 850) (by decide +kernel), List.mem_of_getElem? (i := 1075) (by decide +kernel), List.mem_of_getElem? (i := 1076) (by decide +kernel)⟩
theorem lw_p62 : lw_okq (⟨"ToastGaolModel", "comesAgain", "(II)V"⟩, 31) := ⟨⟨by decide +kernel, by decide +kernel⟩, List.mem_of_getElem? (i := 850) (by decide +kernel), List.mem_of_getElem? (i := 1079) (by decide +kernel), List.mem_of_getElem? (i := 1080) (by decide +kernel)⟩
theorem lw_p63 : lw_okq (⟨"ToastGaolModel", "standingIn", "(I)I"⟩, 31) := ⟨⟨by decide +kernel, by decide +kernel⟩, List.mem_of_getElem? (i := 850) (by decide +kernel), List.mem_of_getElem? (i := 1083) (by decide +kernel), List.mem_of_getElem? (i := 1084) (by decide +kernel)⟩
def lw_privs_4 : List (MethodName × Nat) := [(⟨"ToastGaol$Sheet", "renew", "(II)V"⟩, 3), (⟨"ToastGaol", "findingAt", "(III)I"⟩, 11), (⟨"ToastGaol$Sheet", "put", "(II)V"⟩, 3), (⟨"ToastGaol$Sheet", "hasRun", "(II)Z"⟩, 3), (⟨"ToastGaol", "timesLetGo", "()I"⟩, 11), (⟨"ToastGaol", "mixTold", "(JI)J"⟩, 11), (⟨"ToastGaol", "mixFound", "(JI)J"⟩, 11), (⟨"ToastGaolModel", "finds", "(I)I"⟩, 31), (⟨"ToastGaolModel", "lacks", "(III)I"⟩, 31), (⟨"ToastGaolModel", "readsRack", "()I"⟩, 31), (⟨"ToastGaolModel", "readsSlices", "()I"⟩, 31), (⟨"ToastGaolModel", "isSlice", "(I)Z"⟩, 31), (⟨"ToastGaolModel", "find", "()V"⟩, 31), (⟨"ToastGaolModel", "lives", "()V"⟩, 31), (⟨"ToastGaolModel", "comesAgain", "(II)V"⟩, 31), (⟨"ToastGaolModel", "standingIn", "(I)I"⟩, 31)]
theorem lw_r4 : ∀ q ∈ lw_privs_4, lw_okq q := List.forall_mem_cons.mpr ⟨lw_p48, List.forall_mem_cons.mpr ⟨lw_p49, List.forall_mem_cons.mpr ⟨lw_p50, List.forall_mem_cons.mpr ⟨lw_p51, List.forall_mem_cons.mpr ⟨lw_p52, List.forall_mem_cons.mpr ⟨lw_p53, List.forall_mem_cons.mpr ⟨lw_p54, List.forall_mem_cons.mpr ⟨lw_p55, List.forall_mem_cons.mpr ⟨lw_p56, List.forall_mem_cons.mpr ⟨lw_p57, List.forall_mem_cons.mpr ⟨lw_p58, List.forall_mem_cons.mpr ⟨lw_p59, List.forall_mem_cons.mpr ⟨lw_p60, List.forall_mem_cons.mpr ⟨lw_p61, List.forall_mem_cons.mpr ⟨lw_p62, List.forall_mem_cons.mpr ⟨lw_p63, fun _ h => absurd h List.not_mem_nil⟩⟩⟩⟩⟩⟩⟩⟩⟩⟩⟩⟩⟩⟩⟩⟩
theorem lw_p64 : lw_okq (⟨"ToastGaolModel", "burns", "(I)V"⟩, 31) := ⟨⟨by decide +kernel, by decide +kernel⟩, List.mem_of_getElem? (i := 850) (by decide +kernel), List.mem_of_getElem? (i := 1087) (by decide +kernel), List.mem_of_getElem? (i := 1088) (by decide +kernel)⟩
theorem lw_p65 : lw_okq (⟨"ToastGaolModel", "spreads", "(I)V"⟩, 31) := ⟨⟨by decide +kernel, by decide +kernel⟩, List.mem_of_getElem? (i := 850) (by decide +kernel), List.mem_of_getElem? (i := 1094) (by decide +kernel), List.mem_of_getElem? (i := 1095) (by decide +kernel)⟩
theorem lw_p66 : lw_okq (⟨"ToastGaolModel", "isHere", "(I)Z"⟩, 31) := ⟨⟨by decide +kernel, by decide +kernel⟩, List.mem_of_getElem? (i := 850) (by decide +kernel), List.mem_of_getElem? (i := 1098) (by decide +kernel), List.mem_of_getElem? (i := 1099) (by decide +kernel)⟩
theorem lw_p67 : lw_okq (⟨"ToastGaolModel", "cool", "(I)V"⟩, 31) := ⟨⟨by decide +kernel, by decide +kernel⟩, List.mem_of_getElem? (i := 850) (by decide +kernel), List.mem_of_getElem? (i := 1102) (by decide +kernel), List.mem_of_getElem? (i := 1103) (by decide +kernel)⟩
theorem lw_p68 : lw_okq (⟨"ToastGaolModel", "coolsBy", "(II)I"⟩, 31) := ⟨⟨by decide +kernel, by decide +kernel⟩, List.mem_of_getElem? (i := 850) (by decide +kernel), List.mem_of_getElem? (i := 1106) (by decide +kernel), List.mem_of_getElem? (i := 1107) (by decide +kernel)⟩
theorem lw_p69 : lw_okq (⟨"ToastGaolModel", "hotter", "(II)I"⟩, 31) := ⟨⟨by decide +kernel, by decide +kernel⟩, List.mem_of_getElem? (i := 850) (by decide +kernel), List.mem_of_getElem? (i := 1113) (by decide +kernel), List.mem_of_getElem? (i := 1114) (by decide +kernel)⟩
theorem lw_p70 : lw_okq (⟨"ToastGaolModel", "heldBy", "(I)I"⟩, 31) := ⟨⟨by decide +kernel, by decide +kernel⟩, List.mem_of_getElem? (i := 850) (by decide +kernel), List.mem_of_getElem? (i := 1128) (by decide +kernel), List.mem_of_getElem? (i := 1129) (by decide +kernel)⟩
theorem lw_p71 : lw_okq (⟨"ToastGaolModel", "freedBy", "(II)I"⟩, 31) := ⟨⟨by decide +kernel, by decide +kernel⟩, List.mem_of_getElem? (i := 850) (by decide +kernel), List.mem_of_getElem? (i := 1136) (by decide +kernel), List.mem_of_getElem? (i := 1137) (by decide +kernel)⟩
theorem lw_p72 : lw_okq (⟨"ToastGaolModel", "spoiltNow", "()I"⟩, 31) := ⟨⟨by decide +kernel, by decide +kernel⟩, List.mem_of_getElem? (i := 850) (by decide +kernel), List.mem_of_getElem? (i := 1144) (by decide +kernel), List.mem_of_getElem? (i := 1145) (by decide +kernel)⟩
theorem lw_p73 : lw_okq (⟨"ToastGaolModel", "quietNow", "()I"⟩, 31) := ⟨⟨by decide +kernel, by decide +kernel⟩, List.mem_of_getElem? (i := 850) (by decide +kernel), List.mem_of_getElem? (i := 1152) (by decide +kernel), List.mem_of_getElem? (i := 1153) (by decide +kernel)⟩
theorem lw_p74 : lw_okq (⟨"ToastGaolModel", "here", "(I)I"⟩, 31) := ⟨⟨by decide +kernel, by decide +kernel⟩, List.mem_of_getElem? (i := 850) (by decide +kernel), List.mem_of_getElem? (i := 1156) (by decide +kernel), List.mem_of_getElem? (i := 1157) (by decide +kernel)⟩
theorem lw_p75 : lw_okq (⟨"ToastGaolModel", "crowdBy", "(I)I"⟩, 31) := ⟨⟨by decide +kernel, by decide +kernel⟩, List.mem_of_getElem? (i := 850) (by decide +kernel), List.mem_of_getElem? (i := 1164) (by decide +kernel), List.mem_of_getElem? (i := 1165) (by decide +kernel)⟩
theorem lw_p76 : lw_okq (⟨"ToastGaolModel", "moveOf", "(II)I"⟩, 31) := ⟨⟨by decide +kernel, by decide +kernel⟩, List.mem_of_getElem? (i := 850) (by decide +kernel), List.mem_of_getElem? (i := 1172) (by decide +kernel), List.mem_of_getElem? (i := 1173) (by decide +kernel)⟩
theorem lw_p77 : lw_okq (⟨"ToastGaolModel", "swapBy", "(I)I"⟩, 31) := ⟨⟨by decide +kernel, by decide +kernel⟩, List.mem_of_getElem? (i := 850) (by decide +kernel), List.mem_of_getElem? (i := 1180) (by decide +kernel), List.mem_of_getElem? (i := 1181) (by decide +kernel)⟩
theorem lw_p78 : lw_okq (⟨"ToastGaolModel", "allHere", "()I"⟩, 31) := ⟨⟨by decide +kernel, by decide +kernel⟩, List.mem_of_getElem? (i := 850) (by decide +kernel), List.mem_of_getElem? (i := 1184) (by decide +kernel), List.mem_of_getElem? (i := 1185) (by decide +kernel)⟩
theorem lw_p79 : lw_okq (⟨"ToastGaolModel", "changes", "(II)V"⟩, 31) := ⟨⟨by decide +kernel, by decide +kernel⟩, List.mem_of_getElem? (i := 850) (by decide +kernel), List.mem_of_getElem? (i := 1188) (by decide +kernel), List.mem_of_getElem? (i := 1189) (by decide +kernel)⟩
def lw_privs_5 : List (MethodName × Nat) := [(⟨"ToastGaolModel", "burns", "(I)V"⟩, 31), (⟨"ToastGaolModel", "spreads", "(I)V"⟩, 31), (⟨"ToastGaolModel", "isHere", "(I)Z"⟩, 31), (⟨"ToastGaolModel", "cool", "(I)V"⟩, 31), (⟨"ToastGaolModel", "coolsBy", "(II)I"⟩, 31), (⟨"ToastGaolModel", "hotter", "(II)I"⟩, 31), (⟨"ToastGaolModel", "heldBy", "(I)I"⟩, 31), (⟨"ToastGaolModel", "freedBy", "(II)I"⟩, 31), (⟨"ToastGaolModel", "spoiltNow", "()I"⟩, 31), (⟨"ToastGaolModel", "quietNow", "()I"⟩, 31), (⟨"ToastGaolModel", "here", "(I)I"⟩, 31), (⟨"ToastGaolModel", "crowdBy", "(I)I"⟩, 31), (⟨"ToastGaolModel", "moveOf", "(II)I"⟩, 31), (⟨"ToastGaolModel", "swapBy", "(I)I"⟩, 31), (⟨"ToastGaolModel", "allHere", "()I"⟩, 31), (⟨"ToastGaolModel", "changes", "(II)V"⟩, 31)]
theorem lw_r5 : ∀ q ∈ lw_privs_5, lw_okq q := List.forall_mem_cons.mpr ⟨lw_p64, List.forall_mem_cons.mpr ⟨lw_p65, List.forall_mem_cons.mpr ⟨lw_p66, List.forall_mem_cons.mpr ⟨lw_p67, List.forall_mem_cons.mpr ⟨lw_p68, List.forall_mem_cons.mpr ⟨lw_p69, List.forall_mem_cons.mpr ⟨lw_p70, List.forall_mem_cons.mpr ⟨lw_p71, List.forall_mem_cons.mpr ⟨lw_p72, List.forall_mem_cons.mpr ⟨lw_p73, List.forall_mem_cons.mpr ⟨lw_p74, List.forall_mem_cons.mpr ⟨lw_p75, List.forall_mem_cons.mpr ⟨lw_p76, List.forall_mem_cons.mpr ⟨lw_p77, List.forall_mem_cons.mpr ⟨lw_p78, List.forall_mem_cons.mpr ⟨lw_p79, fun _ h => absurd h List.not_mem_nil⟩⟩⟩⟩⟩⟩⟩⟩⟩⟩⟩⟩⟩⟩⟩⟩
theorem lw_p80 : lw_okq (⟨"ToastGaolModel", "bearNow", "()I"⟩, 31) := ⟨⟨by decide +kernel, by decide +kernel⟩, List.mem_of_getElem? (i := 850) (by decide +kernel), List.mem_of_getElem? (i := 1200) (by decide +kernel), List.mem_of_getElem? (i := 1201) (by decide +kernel)⟩
theorem lw_p81 : lw_okq (⟨"ToastGaolModel", "heatsOf", "(II)I"⟩, 31) := ⟨⟨by decide +kernel, by decide +kernel⟩, List.mem_of_getElem? (i := 850) (by decide +kernel), List.mem_of_getElem? (i := 1217) (by decide +kernel), List.mem_of_getElem? (i := 1218) (by decide +kernel)⟩
theorem lw_p82 : lw_okq (⟨"ToastGaolModel", "isSeen", "()Z"⟩, 31) := ⟨⟨by decide +kernel, by decide +kernel⟩, List.mem_of_getElem? (i := 850) (by decide +kernel), List.mem_of_getElem? (i := 1221) (by decide +kernel), List.mem_of_getElem? (i := 1222) (by decide +kernel)⟩
theorem lw_p83 : lw_okq (⟨"ToastGaolModel", "slotsOf", "(I)I"⟩, 31) := ⟨⟨by decide +kernel, by decide +kernel⟩, List.mem_of_getElem? (i := 850) (by decide +kernel), List.mem_of_getElem? (i := 1229) (by decide +kernel), List.mem_of_getElem? (i := 1230) (by decide +kernel)⟩
theorem lw_p84 : lw_okq (⟨"ToastGaolModel", "askOf", "(I)I"⟩, 31) := ⟨⟨by decide +kernel, by decide +kernel⟩, List.mem_of_getElem? (i := 850) (by decide +kernel), List.mem_of_getElem? (i := 1237) (by decide +kernel), List.mem_of_getElem? (i := 1238) (by decide +kernel)⟩
theorem lw_p85 : lw_okq (⟨"ToastGaolModel", "windowOf", "(IIIII)J"⟩, 31) := ⟨⟨by decide +kernel, by decide +kernel⟩, List.mem_of_getElem? (i := 850) (by decide +kernel), List.mem_of_getElem? (i := 1246) (by decide +kernel), List.mem_of_getElem? (i := 1247) (by decide +kernel)⟩
theorem lw_p86 : lw_okq (⟨"ToastGaolModel", "othersOf", "(II)I"⟩, 31) := ⟨⟨by decide +kernel, by decide +kernel⟩, List.mem_of_getElem? (i := 850) (by decide +kernel), List.mem_of_getElem? (i := 1261) (by decide +kernel), List.mem_of_getElem? (i := 1262) (by decide +kernel)⟩
theorem lw_p87 : lw_okq (⟨"ToastGaolModel", "lot", "(I)I"⟩, 31) := ⟨⟨by decide +kernel, by decide +kernel⟩, List.mem_of_getElem? (i := 850) (by decide +kernel), List.mem_of_getElem? (i := 1265) (by decide +kernel), List.mem_of_getElem? (i := 1266) (by decide +kernel)⟩
theorem lw_p88 : lw_okq (⟨"ToastGaolModel", "allFreed", "()I"⟩, 31) := ⟨⟨by decide +kernel, by decide +kernel⟩, List.mem_of_getElem? (i := 850) (by decide +kernel), List.mem_of_getElem? (i := 1278) (by decide +kernel), List.mem_of_getElem? (i := 1279) (by decide +kernel)⟩
theorem lw_p89 : lw_okq (⟨"ToastGaolModel", "tellsSlice", "(JI)J"⟩, 31) := ⟨⟨by decide +kernel, by decide +kernel⟩, List.mem_of_getElem? (i := 850) (by decide +kernel), List.mem_of_getElem? (i := 1289) (by decide +kernel), List.mem_of_getElem? (i := 1290) (by decide +kernel)⟩
def lw_privs_6 : List (MethodName × Nat) := [(⟨"ToastGaolModel", "bearNow", "()I"⟩, 31), (⟨"ToastGaolModel", "heatsOf", "(II)I"⟩, 31), (⟨"ToastGaolModel", "isSeen", "()Z"⟩, 31), (⟨"ToastGaolModel", "slotsOf", "(I)I"⟩, 31), (⟨"ToastGaolModel", "askOf", "(I)I"⟩, 31), (⟨"ToastGaolModel", "windowOf", "(IIIII)J"⟩, 31), (⟨"ToastGaolModel", "othersOf", "(II)I"⟩, 31), (⟨"ToastGaolModel", "lot", "(I)I"⟩, 31), (⟨"ToastGaolModel", "allFreed", "()I"⟩, 31), (⟨"ToastGaolModel", "tellsSlice", "(JI)J"⟩, 31)]
theorem lw_r6 : ∀ q ∈ lw_privs_6, lw_okq q := List.forall_mem_cons.mpr ⟨lw_p80, List.forall_mem_cons.mpr ⟨lw_p81, List.forall_mem_cons.mpr ⟨lw_p82, List.forall_mem_cons.mpr ⟨lw_p83, List.forall_mem_cons.mpr ⟨lw_p84, List.forall_mem_cons.mpr ⟨lw_p85, List.forall_mem_cons.mpr ⟨lw_p86, List.forall_mem_cons.mpr ⟨lw_p87, List.forall_mem_cons.mpr ⟨lw_p88, List.forall_mem_cons.mpr ⟨lw_p89, fun _ h => absurd h List.not_mem_nil⟩⟩⟩⟩⟩⟩⟩⟩⟩⟩
def lw_privs : List (MethodName × Nat) := lw_privs_1 ++ (lw_privs_2 ++ (lw_privs_3 ++ (lw_privs_4 ++ (lw_privs_5 ++ (lw_privs_6)))))
def lw_tbl : List Cond := k2_sels lw_privs ++ tables_1
theorem lw_privs_ok : ∀ q ∈ lw_privs, lw_okq q := by
  show ∀ q ∈ lw_privs_1 ++ (lw_privs_2 ++ (lw_privs_3 ++ (lw_privs_4 ++ (lw_privs_5 ++ (lw_privs_6))))), lw_okq q
  exact List.forall_mem_append.mpr ⟨lw_r1, List.forall_mem_append.mpr ⟨lw_r2, List.forall_mem_append.mpr ⟨lw_r3, List.forall_mem_append.mpr ⟨lw_r4, List.forall_mem_append.mpr ⟨lw_r5, lw_r6⟩⟩⟩⟩⟩
end
section
/-! ===== BEGIN words of one list among another's, by their places ===== -/
theorem goodIn_r {big : List Cond} (ws : List Cond) (ps : List Nat) (hp : ws = ps.filterMap (fun i => big[i]?)) (h : ws.all goodWord = true) : GoodIn big ws := by
  intro w hw
  have h1 := List.all_eq_true.mp h w hw
  rw [hp] at hw
  obtain ⟨i, -, hi⟩ := List.mem_filterMap.mp hw
  have hm : w ∈ big := by first | exact List.mem_of_getElem? hi | exact List.getElem?_mem hi
  exact ⟨hm, good_of_word h1⟩
theorem goodIn_app {big a b : List Cond} (ha : GoodIn big a) (hb : GoodIn big b) : GoodIn big (a ++ b) := fun w h => (List.mem_append.mp h).elim (ha w) (hb w)
theorem goodIn_ca {big a b : List Cond} {c : Cond} (ha : GoodIn big (c :: a)) (hb : GoodIn big b) : GoodIn big (c :: (a ++ b)) := fun w h => (List.mem_cons.mp h).elim (fun e => ha w (List.mem_cons.mpr (Or.inl e))) (fun h => (List.mem_append.mp h).elim (fun h => ha w (List.mem_cons.mpr (Or.inr h))) (hb w))
theorem goodIn_sub {big ws : List Cond} (hm : ∀ w ∈ ws, w ∈ big) (h : ws.all goodWord = true) : GoodIn big ws := fun w hw => ⟨hm w hw, good_of_word (List.all_eq_true.mp h w hw)⟩
/-! ===== END ===== -/
def RX0 : String := "ToastGaol$Course"
def TX0 : u_T := fun k => match k with
  | 0 => ("ToastGaol$Course", "setting", "LToastGaol$Setting;", true)
  | 1 => ("ToastGaol$Course", "heat", "[I", true)
  | 2 => ("ToastGaol$Course", "is", "[I", true)
  | 3 => ("ToastGaol$Course", "came", "[I", true)
  | 4 => ("ToastGaol$Course", "left", "[I", true)
  | 5 => ("ToastGaol$Course", "first", "[I", true)
  | 6 => ("ToastGaol$Course", "times", "[I", true)
  | 7 => ("ToastGaol$Course", "warmth", "[I", true)
  | _ => ("ToastGaol$Course", "held", "I", false)
def tyX0 : Nat → FieldType := fun k => match k with
  | 0 => .object "ToastGaol$Setting"
  | 1 => .array .int
  | 2 => .array .int
  | 3 => .array .int
  | 4 => .array .int
  | 5 => .array .int
  | 6 => .array .int
  | 7 => .array .int
  | _ => .int
abbrev wsX00 : List Cond := u_ws RX0 TX0 9
theorem nmX0 : ∀ a, a < 9 → ∀ b, b < 9 → a ≠ b → (TX0 a).2.1 ≠ (TX0 b).2.1 := by decide +kernel
theorem tyX0_ok : ∀ k, k < 9 → parseFieldDescriptor (TX0 k).2.2.1 = some (tyX0 k) := by decide +kernel
abbrev cX0_init : ByteArray := prog_2_method_1_code
def yX0_init : MethodName := ⟨RX0, "<init>", "(LToastGaol$Setting;)V"⟩
abbrev cX0_begin : ByteArray := prog_2_method_2_code
def yX0_begin : MethodName := ⟨RX0, "begin", "()V"⟩
abbrev cX0_goThrough : ByteArray := prog_2_method_3_code
def yX0_goThrough : MethodName := ⟨RX0, "goThrough", "()V"⟩
abbrev cX0_follow : ByteArray := prog_2_method_4_code
def yX0_follow : MethodName := ⟨RX0, "follow", "(LToastGaol$Course;II)V"⟩
abbrev cX0_untilButters : ByteArray := prog_2_method_5_code
def yX0_untilButters : MethodName := ⟨RX0, "untilButters", "(I)V"⟩
abbrev cX0_fromButters : ByteArray := prog_2_method_6_code
def yX0_fromButters : MethodName := ⟨RX0, "fromButters", "(II)V"⟩
abbrev cX0_isIn : ByteArray := prog_2_method_7_code
def yX0_isIn : MethodName := ⟨RX0, "isIn", "(I)Z"⟩
abbrev cX0_howManyIn : ByteArray := prog_2_method_8_code
def yX0_howManyIn : MethodName := ⟨RX0, "howManyIn", "()I"⟩
abbrev cX0_comeAgain : ByteArray := prog_2_method_9_code
def yX0_comeAgain : MethodName := ⟨RX0, "comeAgain", "(I)V"⟩
abbrev cX0_takePlaces : ByteArray := prog_2_method_10_code
def yX0_takePlaces : MethodName := ⟨RX0, "takePlaces", "()V"⟩
abbrev cX0_warm : ByteArray := prog_2_method_11_code
def yX0_warm : MethodName := ⟨RX0, "warm", "(I)V"⟩
abbrev cX0_spread : ByteArray := prog_2_method_12_code
def yX0_spread : MethodName := ⟨RX0, "spread", "(I)V"⟩
abbrev cX0_leave : ByteArray := prog_2_method_13_code
def yX0_leave : MethodName := ⟨RX0, "leave", "(II)V"⟩
abbrev cX0_feelWarmth : ByteArray := prog_2_method_14_code
def yX0_feelWarmth : MethodName := ⟨RX0, "feelWarmth", "()V"⟩
abbrev cX0_cooling : ByteArray := prog_2_method_15_code
def yX0_cooling : MethodName := ⟨RX0, "cooling", "(II)I"⟩
abbrev cX0_letGo : ByteArray := prog_2_method_16_code
def yX0_letGo : MethodName := ⟨RX0, "letGo", "(II)V"⟩
def RX1 : String := "ToastGaol$Guesses"
def TX1 : u_T := fun k => match k with
  | 0 => ("ToastGaol$Guesses", "setting", "LToastGaol$Setting;", true)
  | 1 => ("ToastGaol$Guesses", "sightings", "LToastGaol$Sightings;", true)
  | 2 => ("ToastGaol$Guesses", "course", "LToastGaol$Course;", true)
  | 3 => ("ToastGaol$Guesses", "heats", "[I", true)
  | 4 => ("ToastGaol$Guesses", "heatsFound", "I", false)
  | 5 => ("ToastGaol$Guesses", "noted", "[I", true)
  | _ => ("ToastGaol$Guesses", "tally", "[I", true)
def tyX1 : Nat → FieldType := fun k => match k with
  | 0 => .object "ToastGaol$Setting"
  | 1 => .object "ToastGaol$Sightings"
  | 2 => .object "ToastGaol$Course"
  | 3 => .array .int
  | 4 => .int
  | 5 => .array .int
  | _ => .array .int
abbrev wsX10 : List Cond := u_ws RX1 TX1 7
theorem nmX1 : ∀ a, a < 7 → ∀ b, b < 7 → a ≠ b → (TX1 a).2.1 ≠ (TX1 b).2.1 := by decide +kernel
theorem tyX1_ok : ∀ k, k < 7 → parseFieldDescriptor (TX1 k).2.2.1 = some (tyX1 k) := by decide +kernel
abbrev cX1_init : ByteArray := prog_3_method_1_code
def yX1_init : MethodName := ⟨RX1, "<init>", "(LToastGaol$Setting;LToastGaol$Sightings;LToastGaol$Course;)V"⟩
abbrev cX1_findHeats : ByteArray := prog_3_method_2_code
def yX1_findHeats : MethodName := ⟨RX1, "findHeats", "(I)V"⟩
abbrev cX1_heatAt : ByteArray := prog_3_method_3_code
def yX1_heatAt : MethodName := ⟨RX1, "heatAt", "(I)I"⟩
abbrev cX1_slotsOf : ByteArray := prog_3_method_4_code
def yX1_slotsOf : MethodName := ⟨RX1, "slotsOf", "(I)I"⟩
abbrev cX1_nextToTouch : ByteArray := prog_3_method_5_code
def yX1_nextToTouch : MethodName := ⟨RX1, "nextToTouch", "(I)I"⟩
abbrev cX1_tallyNoted : ByteArray := prog_3_method_6_code
def yX1_tallyNoted : MethodName := ⟨RX1, "tallyNoted", "()V"⟩
abbrev cX1_leastOfTheGreatest : ByteArray := prog_3_method_7_code
def yX1_leastOfTheGreatest : MethodName := ⟨RX1, "leastOfTheGreatest", "()I"⟩
abbrev cX1_allComesOut : ByteArray := prog_3_method_8_code
def yX1_allComesOut : MethodName := ⟨RX1, "allComesOut", "(I)Z"⟩
def RX2 : String := "ToastGaol$Log"
def TX2 : u_T := fun k => match k with
  | 0 => ("ToastGaol$Log", "setting", "LToastGaol$Setting;", true)
  | 1 => ("ToastGaol$Log", "course", "LToastGaol$Course;", true)
  | 2 => ("ToastGaol$Log", "heat", "[I", true)
  | 3 => ("ToastGaol$Log", "is", "[I", true)
  | 4 => ("ToastGaol$Log", "held", "[I", true)
  | _ => ("ToastGaol$Log", "fresh", "Z", false)
def tyX2 : Nat → FieldType := fun k => match k with
  | 0 => .object "ToastGaol$Setting"
  | 1 => .object "ToastGaol$Course"
  | 2 => .array .int
  | 3 => .array .int
  | 4 => .array .int
  | _ => .boolean
abbrev wsX20 : List Cond := u_ws RX2 TX2 6
theorem nmX2 : ∀ a, a < 6 → ∀ b, b < 6 → a ≠ b → (TX2 a).2.1 ≠ (TX2 b).2.1 := by decide +kernel
theorem tyX2_ok : ∀ k, k < 6 → parseFieldDescriptor (TX2 k).2.2.1 = some (tyX2 k) := by decide +kernel
abbrev cX2_init : ByteArray := prog_4_method_1_code
def yX2_init : MethodName := ⟨RX2, "<init>", "(LToastGaol$Setting;)V"⟩
abbrev cX2_bringUpToDate : ByteArray := prog_4_method_2_code
def yX2_bringUpToDate : MethodName := ⟨RX2, "bringUpToDate", "()V"⟩
abbrev cX2_leastLeaning : ByteArray := prog_4_method_3_code
def yX2_leastLeaning : MethodName := ⟨RX2, "leastLeaning", "(I)I"⟩
def RX3 : String := "ToastGaol$Others"
def TX3 : u_T := fun k => match k with
  | 0 => ("ToastGaol$Others", "setting", "LToastGaol$Setting;", true)
  | 1 => ("ToastGaol$Others", "course", "LToastGaol$Course;", true)
  | 2 => ("ToastGaol$Others", "own", "[I", true)
  | 3 => ("ToastGaol$Others", "free", "I", false)
  | _ => ("ToastGaol$Others", "soft", "I", false)
def tyX3 : Nat → FieldType := fun k => match k with
  | 0 => .object "ToastGaol$Setting"
  | 1 => .object "ToastGaol$Course"
  | 2 => .array .int
  | 3 => .int
  | _ => .int
abbrev wsX30 : List Cond := u_ws RX3 TX3 5
theorem nmX3 : ∀ a, a < 5 → ∀ b, b < 5 → a ≠ b → (TX3 a).2.1 ≠ (TX3 b).2.1 := by decide +kernel
theorem tyX3_ok : ∀ k, k < 5 → parseFieldDescriptor (TX3 k).2.2.1 = some (tyX3 k) := by decide +kernel
abbrev cX3_init : ByteArray := prog_5_method_1_code
def yX3_init : MethodName := ⟨RX3, "<init>", "(LToastGaol$Setting;LToastGaol$Course;)V"⟩
abbrev cX3_draw : ByteArray := prog_5_method_2_code
def yX3_draw : MethodName := ⟨RX3, "draw", "(I)V"⟩
abbrev cX3_howManyAre : ByteArray := prog_5_method_3_code
def yX3_howManyAre : MethodName := ⟨RX3, "howManyAre", "(I)I"⟩
def RX4 : String := "ToastGaol$Plans"
def TX4 : u_T := fun k => match k with
  | 0 => ("ToastGaol$Plans", "setting", "LToastGaol$Setting;", true)
  | 1 => ("ToastGaol$Plans", "course", "LToastGaol$Course;", true)
  | 2 => ("ToastGaol$Plans", "moveSlot", "I", false)
  | 3 => ("ToastGaol$Plans", "moveHour", "I", false)
  | 4 => ("ToastGaol$Plans", "swapFirst", "I", false)
  | 5 => ("ToastGaol$Plans", "swapOther", "I", false)
  | _ => ("ToastGaol$Plans", "swapStay", "I", false)
def tyX4 : Nat → FieldType := fun k => match k with
  | 0 => .object "ToastGaol$Setting"
  | 1 => .object "ToastGaol$Course"
  | 2 => .int
  | 3 => .int
  | 4 => .int
  | 5 => .int
  | _ => .int
abbrev wsX40 : List Cond := u_ws RX4 TX4 7
theorem nmX4 : ∀ a, a < 7 → ∀ b, b < 7 → a ≠ b → (TX4 a).2.1 ≠ (TX4 b).2.1 := by decide +kernel
theorem tyX4_ok : ∀ k, k < 7 → parseFieldDescriptor (TX4 k).2.2.1 = some (tyX4 k) := by decide +kernel
abbrev cX4_init : ByteArray := prog_6_method_1_code
def yX4_init : MethodName := ⟨RX4, "<init>", "(LToastGaol$Setting;LToastGaol$Course;)V"⟩
abbrev cX4_findMove : ByteArray := prog_6_method_2_code
def yX4_findMove : MethodName := ⟨RX4, "findMove", "(I)V"⟩
abbrev cX4_letGoBefore : ByteArray := prog_6_method_3_code
def yX4_letGoBefore : MethodName := ⟨RX4, "letGoBefore", "(II)I"⟩
abbrev cX4_findSwap : ByteArray := prog_6_method_4_code
def yX4_findSwap : MethodName := ⟨RX4, "findSwap", "()V"⟩
abbrev cX4_stayIfSwapped : ByteArray := prog_6_method_5_code
def yX4_stayIfSwapped : MethodName := ⟨RX4, "stayIfSwapped", "(II)I"⟩
abbrev cX4_changeSlots : ByteArray := prog_6_method_6_code
def yX4_changeSlots : MethodName := ⟨RX4, "changeSlots", "(II)V"⟩
abbrev cX4_stayOfAll : ByteArray := prog_6_method_7_code
def yX4_stayOfAll : MethodName := ⟨RX4, "stayOfAll", "()I"⟩
abbrev cX4_firstButterHour : ByteArray := prog_6_method_8_code
def yX4_firstButterHour : MethodName := ⟨RX4, "firstButterHour", "(I)I"⟩
abbrev cX4_greatestSummer : ByteArray := prog_6_method_9_code
def yX4_greatestSummer : MethodName := ⟨RX4, "greatestSummer", "()I"⟩
def RX5 : String := "ToastGaol$Setting"
def TX5 : u_T := fun k => match k with
  | 0 => ("ToastGaol$Setting", "slots", "I", false)
  | 1 => ("ToastGaol$Setting", "draws", "[I", true)
  | 2 => ("ToastGaol$Setting", "slices", "I", false)
  | 3 => ("ToastGaol$Setting", "kind", "[I", true)
  | 4 => ("ToastGaol$Setting", "heat", "[I", true)
  | 5 => ("ToastGaol$Setting", "slot", "[I", true)
  | 6 => ("ToastGaol$Setting", "rule", "[I", true)
  | 7 => ("ToastGaol$Setting", "butters", "I", false)
  | 8 => ("ToastGaol$Setting", "butterHour", "[I", true)
  | 9 => ("ToastGaol$Setting", "butterSlice", "[I", true)
  | 10 => ("ToastGaol$Setting", "fires", "I", false)
  | _ => ("ToastGaol$Setting", "fireHour", "[I", true)
def tyX5 : Nat → FieldType := fun k => match k with
  | 0 => .int
  | 1 => .array .int
  | 2 => .int
  | 3 => .array .int
  | 4 => .array .int
  | 5 => .array .int
  | 6 => .array .int
  | 7 => .int
  | 8 => .array .int
  | 9 => .array .int
  | 10 => .int
  | _ => .array .int
abbrev wsX50 : List Cond := u_ws RX5 TX5 12
theorem nmX5 : ∀ a, a < 12 → ∀ b, b < 12 → a ≠ b → (TX5 a).2.1 ≠ (TX5 b).2.1 := by decide +kernel
theorem tyX5_ok : ∀ k, k < 12 → parseFieldDescriptor (TX5 k).2.2.1 = some (tyX5 k) := by decide +kernel
abbrev cX5_init : ByteArray := prog_7_method_1_code
def yX5_init : MethodName := ⟨RX5, "<init>", "()V"⟩
abbrev cX5_takeRack : ByteArray := prog_7_method_2_code
def yX5_takeRack : MethodName := ⟨RX5, "takeRack", "(LToastGaol$Text;)V"⟩
abbrev cX5_takeSlices : ByteArray := prog_7_method_3_code
def yX5_takeSlices : MethodName := ⟨RX5, "takeSlices", "(LToastGaol$Text;)V"⟩
abbrev cX5_firesIn : ByteArray := prog_7_method_4_code
def yX5_firesIn : MethodName := ⟨RX5, "firesIn", "(I)I"⟩
def RX6 : String := "ToastGaol$Sheet"
def TX6 : u_T := fun k => match k with
  | 0 => ("ToastGaol$Sheet", "form", "I", false)
  | 1 => ("ToastGaol$Sheet", "size", "I", false)
  | _ => ("ToastGaol$Sheet", "items", "[I", true)
def tyX6 : Nat → FieldType := fun k => match k with
  | 0 => .int
  | 1 => .int
  | _ => .array .int
abbrev wsX60 : List Cond := u_ws RX6 TX6 3
theorem nmX6 : ∀ a, a < 3 → ∀ b, b < 3 → a ≠ b → (TX6 a).2.1 ≠ (TX6 b).2.1 := by decide +kernel
theorem tyX6_ok : ∀ k, k < 3 → parseFieldDescriptor (TX6 k).2.2.1 = some (tyX6 k) := by decide +kernel
abbrev cX6_init : ByteArray := prog_8_method_1_code
def yX6_init : MethodName := ⟨RX6, "<init>", "()V"⟩
abbrev cX6_isLost : ByteArray := prog_8_method_2_code
def yX6_isLost : MethodName := ⟨RX6, "isLost", "()Z"⟩
abbrev cX6_renew : ByteArray := prog_8_method_3_code
def yX6_renew : MethodName := ⟨RX6, "renew", "(II)V"⟩
abbrev cX6_put : ByteArray := prog_8_method_4_code
def yX6_put : MethodName := ⟨RX6, "put", "(II)V"⟩
abbrev cX6_hasRun : ByteArray := prog_8_method_5_code
def yX6_hasRun : MethodName := ⟨RX6, "hasRun", "(II)Z"⟩
def RX7 : String := "ToastGaol$Sightings"
def TX7 : u_T := fun k => match k with
  | 0 => ("ToastGaol$Sightings", "setting", "LToastGaol$Setting;", true)
  | 1 => ("ToastGaol$Sightings", "hours", "[I", true)
  | 2 => ("ToastGaol$Sightings", "slices", "[I", true)
  | 3 => ("ToastGaol$Sightings", "states", "[I", true)
  | _ => ("ToastGaol$Sightings", "size", "I", false)
def tyX7 : Nat → FieldType := fun k => match k with
  | 0 => .object "ToastGaol$Setting"
  | 1 => .array .int
  | 2 => .array .int
  | 3 => .array .int
  | _ => .int
abbrev wsX70 : List Cond := u_ws RX7 TX7 5
theorem nmX7 : ∀ a, a < 5 → ∀ b, b < 5 → a ≠ b → (TX7 a).2.1 ≠ (TX7 b).2.1 := by decide +kernel
theorem tyX7_ok : ∀ k, k < 5 → parseFieldDescriptor (TX7 k).2.2.1 = some (tyX7 k) := by decide +kernel
abbrev cX7_init : ByteArray := prog_9_method_1_code
def yX7_init : MethodName := ⟨RX7, "<init>", "(LToastGaol$Setting;)V"⟩
abbrev cX7_add : ByteArray := prog_9_method_2_code
def yX7_add : MethodName := ⟨RX7, "add", "(III)V"⟩
abbrev cX7_lastHour : ByteArray := prog_9_method_3_code
def yX7_lastHour : MethodName := ⟨RX7, "lastHour", "()I"⟩
abbrev cX7_agreeWith : ByteArray := prog_9_method_4_code
def yX7_agreeWith : MethodName := ⟨RX7, "agreeWith", "(LToastGaol$Course;I)Z"⟩
def RX8 : String := "ToastGaol$Text"
def TX8 : u_T := fun k => match k with
  | 0 => ("ToastGaol$Text", "bytes", "[I", true)
  | _ => ("ToastGaol$Text", "size", "I", false)
def tyX8 : Nat → FieldType := fun k => match k with
  | 0 => .array .int
  | _ => .int
abbrev wsX80 : List Cond := u_ws RX8 TX8 2
theorem nmX8 : ∀ a, a < 2 → ∀ b, b < 2 → a ≠ b → (TX8 a).2.1 ≠ (TX8 b).2.1 := by decide +kernel
theorem tyX8_ok : ∀ k, k < 2 → parseFieldDescriptor (TX8 k).2.2.1 = some (tyX8 k) := by decide +kernel
abbrev cX8_init : ByteArray := prog_10_method_1_code
def yX8_init : MethodName := ⟨RX8, "<init>", "(I)V"⟩
abbrev cX8_faultAsRack : ByteArray := prog_10_method_2_code
def yX8_faultAsRack : MethodName := ⟨RX8, "faultAsRack", "()I"⟩
abbrev cX8_faultAsSlices : ByteArray := prog_10_method_3_code
def yX8_faultAsSlices : MethodName := ⟨RX8, "faultAsSlices", "()I"⟩
abbrev cX8_goesOn : ByteArray := prog_10_method_4_code
def yX8_goesOn : MethodName := ⟨RX8, "goesOn", "(II)Z"⟩
abbrev cX8_kindOf : ByteArray := prog_10_method_5_code
def yX8_kindOf : MethodName := ⟨RX8, "kindOf", "(I)I"⟩
def RX9 : String := "ToastGaol$Window"
def TX9 : u_T := fun k => match k with
  | 0 => ("ToastGaol$Window", "courses", "[LToastGaol$Course;", true)
  | 1 => ("ToastGaol$Window", "open", "I", false)
  | 2 => ("ToastGaol$Window", "hours", "I", false)
  | 3 => ("ToastGaol$Window", "slice", "I", false)
  | 4 => ("ToastGaol$Window", "until", "I", false)
  | 5 => ("ToastGaol$Window", "above", "J", false)
  | _ => ("ToastGaol$Window", "below", "J", false)
def tyX9 : Nat → FieldType := fun k => match k with
  | 0 => .array (.object "ToastGaol$Course")
  | 1 => .int
  | 2 => .int
  | 3 => .int
  | 4 => .int
  | 5 => .long
  | _ => .long
abbrev wsX90 : List Cond := u_ws RX9 TX9 7
theorem nmX9 : ∀ a, a < 7 → ∀ b, b < 7 → a ≠ b → (TX9 a).2.1 ≠ (TX9 b).2.1 := by decide +kernel
theorem tyX9_ok : ∀ k, k < 7 → parseFieldDescriptor (TX9 k).2.2.1 = some (tyX9 k) := by decide +kernel
abbrev cX9_init : ByteArray := prog_11_method_1_code
def yX9_init : MethodName := ⟨RX9, "<init>", "(LToastGaol$Setting;)V"⟩
abbrev cX9_weigh : ByteArray := prog_11_method_2_code
def yX9_weigh : MethodName := ⟨RX9, "weigh", "(IIII)V"⟩
abbrev cX9_ways : ByteArray := prog_11_method_3_code
def yX9_ways : MethodName := ⟨RX9, "ways", "(LToastGaol$Window;I)J"⟩
abbrev cX9_isLetGoFrom : ByteArray := prog_11_method_4_code
def yX9_isLetGoFrom : MethodName := ⟨RX9, "isLetGoFrom", "(I)Z"⟩
def RX10 : String := "ToastGaol"
def TX10 : u_T := fun k => match k with
  | 0 => ("ToastGaol", "texts", "[LToastGaol$Text;", true)
  | 1 => ("ToastGaol", "setting", "LToastGaol$Setting;", true)
  | 2 => ("ToastGaol", "log", "LToastGaol$Log;", true)
  | 3 => ("ToastGaol", "trial", "LToastGaol$Course;", true)
  | 4 => ("ToastGaol", "plans", "LToastGaol$Plans;", true)
  | 5 => ("ToastGaol", "sightings", "LToastGaol$Sightings;", true)
  | 6 => ("ToastGaol", "guesses", "LToastGaol$Guesses;", true)
  | 7 => ("ToastGaol", "window", "LToastGaol$Window;", true)
  | 8 => ("ToastGaol", "others", "LToastGaol$Others;", true)
  | 9 => ("ToastGaol", "sheets", "[LToastGaol$Sheet;", true)
  | _ => ("ToastGaol", "finding", "I", false)
def tyX10 : Nat → FieldType := fun k => match k with
  | 0 => .array (.object "ToastGaol$Text")
  | 1 => .object "ToastGaol$Setting"
  | 2 => .object "ToastGaol$Log"
  | 3 => .object "ToastGaol$Course"
  | 4 => .object "ToastGaol$Plans"
  | 5 => .object "ToastGaol$Sightings"
  | 6 => .object "ToastGaol$Guesses"
  | 7 => .object "ToastGaol$Window"
  | 8 => .object "ToastGaol$Others"
  | 9 => .array (.object "ToastGaol$Sheet")
  | _ => .int
abbrev wsX100 : List Cond := u_ws RX10 TX10 11
theorem nmX10 : ∀ a, a < 11 → ∀ b, b < 11 → a ≠ b → (TX10 a).2.1 ≠ (TX10 b).2.1 := by decide +kernel
theorem tyX10_ok : ∀ k, k < 11 → parseFieldDescriptor (TX10 k).2.2.1 = some (tyX10 k) := by decide +kernel
abbrev cX10_init : ByteArray := prog_1_method_1_code
def yX10_init : MethodName := ⟨RX10, "<init>", "()V"⟩
abbrev cX10_type : ByteArray := prog_1_method_2_code
def yX10_type : MethodName := ⟨RX10, "type", "(II)I"⟩
abbrev cX10_wipe : ByteArray := prog_1_method_3_code
def yX10_wipe : MethodName := ⟨RX10, "wipe", "(I)I"⟩
abbrev cX10_undo : ByteArray := prog_1_method_4_code
def yX10_undo : MethodName := ⟨RX10, "undo", "(I)I"⟩
abbrev cX10_fault : ByteArray := prog_1_method_5_code
def yX10_fault : MethodName := ⟨RX10, "fault", "(I)I"⟩
abbrev cX10_draws : ByteArray := prog_1_method_6_code
def yX10_draws : MethodName := ⟨RX10, "draws", "(I)I"⟩
abbrev cX10_slice : ByteArray := prog_1_method_7_code
def yX10_slice : MethodName := ⟨RX10, "slice", "(II)I"⟩
abbrev cX10_set : ByteArray := prog_1_method_8_code
def yX10_set : MethodName := ⟨RX10, "set", "(II)I"⟩
abbrev cX10_butter : ByteArray := prog_1_method_9_code
def yX10_butter : MethodName := ⟨RX10, "butter", "(II)I"⟩
abbrev cX10_fire : ByteArray := prog_1_method_10_code
def yX10_fire : MethodName := ⟨RX10, "fire", "(I)I"⟩
abbrev cX10_back : ByteArray := prog_1_method_11_code
def yX10_back : MethodName := ⟨RX10, "back", "(I)I"⟩
abbrev cX10_read : ByteArray := prog_1_method_12_code
def yX10_read : MethodName := ⟨RX10, "read", "(I)I"⟩
abbrev cX10_heat : ByteArray := prog_1_method_13_code
def yX10_heat : MethodName := ⟨RX10, "heat", "(II)I"⟩
abbrev cX10_state : ByteArray := prog_1_method_14_code
def yX10_state : MethodName := ⟨RX10, "state", "(II)I"⟩
abbrev cX10_held : ByteArray := prog_1_method_15_code
def yX10_held : MethodName := ⟨RX10, "held", "(I)I"⟩
abbrev cX10_freed : ByteArray := prog_1_method_16_code
def yX10_freed : MethodName := ⟨RX10, "freed", "(II)I"⟩
abbrev cX10_spoilt : ByteArray := prog_1_method_17_code
def yX10_spoilt : MethodName := ⟨RX10, "spoilt", "()I"⟩
abbrev cX10_quiet : ByteArray := prog_1_method_18_code
def yX10_quiet : MethodName := ⟨RX10, "quiet", "()I"⟩
abbrev cX10_crowd : ByteArray := prog_1_method_19_code
def yX10_crowd : MethodName := ⟨RX10, "crowd", "(I)I"⟩
abbrev cX10_move : ByteArray := prog_1_method_20_code
def yX10_move : MethodName := ⟨RX10, "move", "(II)I"⟩
abbrev cX10_swap : ByteArray := prog_1_method_21_code
def yX10_swap : MethodName := ⟨RX10, "swap", "(I)I"⟩
abbrev cX10_line : ByteArray := prog_1_method_22_code
def yX10_line : MethodName := ⟨RX10, "line", "(I)I"⟩
abbrev cX10_bear : ByteArray := prog_1_method_23_code
def yX10_bear : MethodName := ⟨RX10, "bear", "()I"⟩
abbrev cX10_seen : ByteArray := prog_1_method_24_code
def yX10_seen : MethodName := ⟨RX10, "seen", "(III)I"⟩
abbrev cX10_forget : ByteArray := prog_1_method_25_code
def yX10_forget : MethodName := ⟨RX10, "forget", "()I"⟩
abbrev cX10_heats : ByteArray := prog_1_method_26_code
def yX10_heats : MethodName := ⟨RX10, "heats", "(II)I"⟩
abbrev cX10_slots : ByteArray := prog_1_method_27_code
def yX10_slots : MethodName := ⟨RX10, "slots", "(I)I"⟩
abbrev cX10_ask : ByteArray := prog_1_method_28_code
def yX10_ask : MethodName := ⟨RX10, "ask", "(I)I"⟩
abbrev cX10_window : ByteArray := prog_1_method_29_code
def yX10_window : MethodName := ⟨RX10, "window", "(IIIII)J"⟩
abbrev cX10_others : ByteArray := prog_1_method_30_code
def yX10_others : MethodName := ⟨RX10, "others", "(II)I"⟩
abbrev cX10_sheet : ByteArray := prog_1_method_31_code
def yX10_sheet : MethodName := ⟨RX10, "sheet", "(III)I"⟩
abbrev cX10_lose : ByteArray := prog_1_method_32_code
def yX10_lose : MethodName := ⟨RX10, "lose", "(I)I"⟩
abbrev cX10_lay : ByteArray := prog_1_method_33_code
def yX10_lay : MethodName := ⟨RX10, "lay", "(IIII)I"⟩
abbrev cX10_get : ByteArray := prog_1_method_34_code
def yX10_get : MethodName := ⟨RX10, "get", "(III)I"⟩
abbrev cX10_copy : ByteArray := prog_1_method_35_code
def yX10_copy : MethodName := ⟨RX10, "copy", "(IIIII)I"⟩
abbrev cX10_write : ByteArray := prog_1_method_36_code
def yX10_write : MethodName := ⟨RX10, "write", "(II)I"⟩
abbrev cX10_count : ByteArray := prog_1_method_37_code
def yX10_count : MethodName := ⟨RX10, "count", "(I)I"⟩
abbrev cX10_digest : ByteArray := prog_1_method_38_code
def yX10_digest : MethodName := ⟨RX10, "digest", "()J"⟩
abbrev cX10_mix : ByteArray := prog_1_method_39_code
def yX10_mix : MethodName := ⟨RX10, "mix", "(JJ)J"⟩
abbrev cX10_mixTold : ByteArray := prog_1_method_40_code
def yX10_mixTold : MethodName := ⟨RX10, "mixTold", "(JI)J"⟩
abbrev cX10_mixFound : ByteArray := prog_1_method_41_code
def yX10_mixFound : MethodName := ⟨RX10, "mixFound", "(JI)J"⟩
abbrev cX10_timesLetGo : ByteArray := prog_1_method_42_code
def yX10_timesLetGo : MethodName := ⟨RX10, "timesLetGo", "()I"⟩
abbrev cX10_learn : ByteArray := prog_1_method_43_code
def yX10_learn : MethodName := ⟨RX10, "learn", "(I)V"⟩
abbrev cX10_found : ByteArray := prog_1_method_44_code
def yX10_found : MethodName := ⟨RX10, "found", "(I)I"⟩
abbrev cX10_findingAt : ByteArray := prog_1_method_45_code
def yX10_findingAt : MethodName := ⟨RX10, "findingAt", "(III)I"⟩
abbrev cX10_isWithin : ByteArray := prog_1_method_46_code
def yX10_isWithin : MethodName := ⟨RX10, "isWithin", "(II)Z"⟩
abbrev cX10_isText : ByteArray := prog_1_method_47_code
def yX10_isText : MethodName := ⟨RX10, "isText", "(I)Z"⟩
abbrev cX10_isHour : ByteArray := prog_1_method_48_code
def yX10_isHour : MethodName := ⟨RX10, "isHour", "(I)Z"⟩
abbrev cX10_isSlice : ByteArray := prog_1_method_49_code
def yX10_isSlice : MethodName := ⟨RX10, "isSlice", "(I)Z"⟩
abbrev cX10_isSheet : ByteArray := prog_1_method_50_code
def yX10_isSheet : MethodName := ⟨RX10, "isSheet", "(I)Z"⟩
abbrev cX10_isForm : ByteArray := prog_1_method_51_code
def yX10_isForm : MethodName := ⟨RX10, "isForm", "(I)Z"⟩
abbrev cX10_isFigure : ByteArray := prog_1_method_52_code
def yX10_isFigure : MethodName := ⟨RX10, "isFigure", "(I)Z"⟩
def RX11 : String := "ToastGaolModel"
def TX11 : u_T := fun k => match k with
  | 0 => ("ToastGaolModel", "forms", "[I", true)
  | 1 => ("ToastGaolModel", "sizes", "[I", true)
  | 2 => ("ToastGaolModel", "items", "[I", true)
  | 3 => ("ToastGaolModel", "moved", "[I", true)
  | 4 => ("ToastGaolModel", "latest", "I", false)
  | 5 => ("ToastGaolModel", "bytes", "[I", true)
  | 6 => ("ToastGaolModel", "typed", "[I", true)
  | 7 => ("ToastGaolModel", "slots", "I", false)
  | 8 => ("ToastGaolModel", "draws", "[I", true)
  | 9 => ("ToastGaolModel", "slices", "I", false)
  | 10 => ("ToastGaolModel", "slice", "[I", true)
  | 11 => ("ToastGaolModel", "settings", "[I", true)
  | 12 => ("ToastGaolModel", "butters", "I", false)
  | 13 => ("ToastGaolModel", "butter", "[I", true)
  | 14 => ("ToastGaolModel", "fires", "I", false)
  | 15 => ("ToastGaolModel", "fire", "[I", true)
  | 16 => ("ToastGaolModel", "heat", "[I", true)
  | 17 => ("ToastGaolModel", "state", "[I", true)
  | 18 => ("ToastGaolModel", "came", "[I", true)
  | 19 => ("ToastGaolModel", "freeOn", "[I", true)
  | 20 => ("ToastGaolModel", "cools", "[I", true)
  | 21 => ("ToastGaolModel", "heatBy", "[I", true)
  | 22 => ("ToastGaolModel", "stateBy", "[I", true)
  | 23 => ("ToastGaolModel", "freed", "[I", true)
  | 24 => ("ToastGaolModel", "often", "[I", true)
  | 25 => ("ToastGaolModel", "line", "[I", true)
  | 26 => ("ToastGaolModel", "open", "I", false)
  | 27 => ("ToastGaolModel", "sights", "I", false)
  | 28 => ("ToastGaolModel", "sight", "[I", true)
  | 29 => ("ToastGaolModel", "alike", "[I", true)
  | _ => ("ToastGaolModel", "drawn", "I", false)
def tyX11 : Nat → FieldType := fun k => match k with
  | 0 => .array .int
  | 1 => .array .int
  | 2 => .array .int
  | 3 => .array .int
  | 4 => .int
  | 5 => .array .int
  | 6 => .array .int
  | 7 => .int
  | 8 => .array .int
  | 9 => .int
  | 10 => .array .int
  | 11 => .array .int
  | 12 => .int
  | 13 => .array .int
  | 14 => .int
  | 15 => .array .int
  | 16 => .array .int
  | 17 => .array .int
  | 18 => .array .int
  | 19 => .array .int
  | 20 => .array .int
  | 21 => .array .int
  | 22 => .array .int
  | 23 => .array .int
  | 24 => .array .int
  | 25 => .array .int
  | 26 => .int
  | 27 => .int
  | 28 => .array .int
  | 29 => .array .int
  | _ => .int
abbrev wsX110 : List Cond := u_ws RX11 TX11 31
theorem nmX11 : ∀ a, a < 31 → ∀ b, b < 31 → a ≠ b → (TX11 a).2.1 ≠ (TX11 b).2.1 := by decide +kernel
theorem tyX11_ok : ∀ k, k < 31 → parseFieldDescriptor (TX11 k).2.2.1 = some (tyX11 k) := by decide +kernel
abbrev cX11_init : ByteArray := prog_13_method_1_code
def yX11_init : MethodName := ⟨RX11, "<init>", "()V"⟩
abbrev cX11_in : ByteArray := prog_13_method_3_code
def yX11_in : MethodName := ⟨RX11, "in", "(JJJ)Z"⟩
abbrev cX11_no : ByteArray := prog_13_method_4_code
def yX11_no : MethodName := ⟨RX11, "no", "(I)J"⟩
abbrev cX11_isTwo : ByteArray := prog_13_method_5_code
def yX11_isTwo : MethodName := ⟨RX11, "isTwo", "(I)Z"⟩
abbrev cX11_isIn : ByteArray := prog_13_method_6_code
def yX11_isIn : MethodName := ⟨RX11, "isIn", "(II)Z"⟩
abbrev cX11_lesser : ByteArray := prog_13_method_7_code
def yX11_lesser : MethodName := ⟨RX11, "lesser", "(II)I"⟩
abbrev cX11_greater : ByteArray := prog_13_method_8_code
def yX11_greater : MethodName := ⟨RX11, "greater", "(II)I"⟩
abbrev cX11_part : ByteArray := prog_13_method_9_code
def yX11_part : MethodName := ⟨RX11, "part", "(JJI)J"⟩
abbrev cX11_finds : ByteArray := prog_13_method_10_code
def yX11_finds : MethodName := ⟨RX11, "finds", "(I)I"⟩
abbrev cX11_isSheet : ByteArray := prog_13_method_11_code
def yX11_isSheet : MethodName := ⟨RX11, "isSheet", "(I)Z"⟩
abbrev cX11_sheet : ByteArray := prog_13_method_12_code
def yX11_sheet : MethodName := ⟨RX11, "sheet", "(III)I"⟩
abbrev cX11_lose : ByteArray := prog_13_method_13_code
def yX11_lose : MethodName := ⟨RX11, "lose", "(I)I"⟩
abbrev cX11_lacks : ByteArray := prog_13_method_14_code
def yX11_lacks : MethodName := ⟨RX11, "lacks", "(III)I"⟩
abbrev cX11_cut : ByteArray := prog_13_method_15_code
def yX11_cut : MethodName := ⟨RX11, "cut", "(II)I"⟩
abbrev cX11_lay : ByteArray := prog_13_method_16_code
def yX11_lay : MethodName := ⟨RX11, "lay", "(IIII)I"⟩
abbrev cX11_get : ByteArray := prog_13_method_17_code
def yX11_get : MethodName := ⟨RX11, "get", "(III)I"⟩
abbrev cX11_copy : ByteArray := prog_13_method_18_code
def yX11_copy : MethodName := ⟨RX11, "copy", "(IIIII)I"⟩
abbrev cX11_type : ByteArray := prog_13_method_19_code
def yX11_type : MethodName := ⟨RX11, "type", "(II)I"⟩
abbrev cX11_wipe : ByteArray := prog_13_method_20_code
def yX11_wipe : MethodName := ⟨RX11, "wipe", "(I)I"⟩
abbrev cX11_undo : ByteArray := prog_13_method_21_code
def yX11_undo : MethodName := ⟨RX11, "undo", "(I)I"⟩
abbrev cX11_figureOf : ByteArray := prog_13_method_22_code
def yX11_figureOf : MethodName := ⟨RX11, "figureOf", "(I)I"⟩
abbrev cX11_sliceOf : ByteArray := prog_13_method_23_code
def yX11_sliceOf : MethodName := ⟨RX11, "sliceOf", "(II)I"⟩
abbrev cX11_readsRack : ByteArray := prog_13_method_24_code
def yX11_readsRack : MethodName := ⟨RX11, "readsRack", "()I"⟩
abbrev cX11_readsSlices : ByteArray := prog_13_method_25_code
def yX11_readsSlices : MethodName := ⟨RX11, "readsSlices", "()I"⟩
abbrev cX11_fault : ByteArray := prog_13_method_26_code
def yX11_fault : MethodName := ⟨RX11, "fault", "(I)I"⟩
abbrev cX11_isSlice : ByteArray := prog_13_method_27_code
def yX11_isSlice : MethodName := ⟨RX11, "isSlice", "(I)Z"⟩
abbrev cX11_isHour : ByteArray := prog_13_method_28_code
def yX11_isHour : MethodName := ⟨RX11, "isHour", "(I)Z"⟩
abbrev cX11_draws : ByteArray := prog_13_method_29_code
def yX11_draws : MethodName := ⟨RX11, "draws", "(I)I"⟩
abbrev cX11_slice : ByteArray := prog_13_method_30_code
def yX11_slice : MethodName := ⟨RX11, "slice", "(II)I"⟩
abbrev cX11_set : ByteArray := prog_13_method_31_code
def yX11_set : MethodName := ⟨RX11, "set", "(II)I"⟩
abbrev cX11_butter : ByteArray := prog_13_method_32_code
def yX11_butter : MethodName := ⟨RX11, "butter", "(II)I"⟩
abbrev cX11_fire : ByteArray := prog_13_method_33_code
def yX11_fire : MethodName := ⟨RX11, "fire", "(I)I"⟩
abbrev cX11_back : ByteArray := prog_13_method_34_code
def yX11_back : MethodName := ⟨RX11, "back", "(I)I"⟩
abbrev cX11_read : ByteArray := prog_13_method_35_code
def yX11_read : MethodName := ⟨RX11, "read", "(I)I"⟩
abbrev cX11_isHere : ByteArray := prog_13_method_36_code
def yX11_isHere : MethodName := ⟨RX11, "isHere", "(I)Z"⟩
abbrev cX11_standingIn : ByteArray := prog_13_method_37_code
def yX11_standingIn : MethodName := ⟨RX11, "standingIn", "(I)I"⟩
abbrev cX11_comesAgain : ByteArray := prog_13_method_38_code
def yX11_comesAgain : MethodName := ⟨RX11, "comesAgain", "(II)V"⟩
abbrev cX11_burns : ByteArray := prog_13_method_39_code
def yX11_burns : MethodName := ⟨RX11, "burns", "(I)V"⟩
abbrev cX11_spreads : ByteArray := prog_13_method_40_code
def yX11_spreads : MethodName := ⟨RX11, "spreads", "(I)V"⟩
abbrev cX11_hotter : ByteArray := prog_13_method_41_code
def yX11_hotter : MethodName := ⟨RX11, "hotter", "(II)I"⟩
abbrev cX11_coolsBy : ByteArray := prog_13_method_42_code
def yX11_coolsBy : MethodName := ⟨RX11, "coolsBy", "(II)I"⟩
abbrev cX11_cool : ByteArray := prog_13_method_43_code
def yX11_cool : MethodName := ⟨RX11, "cool", "(I)V"⟩
abbrev cX11_lives : ByteArray := prog_13_method_44_code
def yX11_lives : MethodName := ⟨RX11, "lives", "()V"⟩
abbrev cX11_find : ByteArray := prog_13_method_45_code
def yX11_find : MethodName := ⟨RX11, "find", "()V"⟩
abbrev cX11_heat : ByteArray := prog_13_method_46_code
def yX11_heat : MethodName := ⟨RX11, "heat", "(II)I"⟩
abbrev cX11_state : ByteArray := prog_13_method_47_code
def yX11_state : MethodName := ⟨RX11, "state", "(II)I"⟩
abbrev cX11_heldBy : ByteArray := prog_13_method_48_code
def yX11_heldBy : MethodName := ⟨RX11, "heldBy", "(I)I"⟩
abbrev cX11_held : ByteArray := prog_13_method_49_code
def yX11_held : MethodName := ⟨RX11, "held", "(I)I"⟩
abbrev cX11_freedBy : ByteArray := prog_13_method_50_code
def yX11_freedBy : MethodName := ⟨RX11, "freedBy", "(II)I"⟩
abbrev cX11_freed : ByteArray := prog_13_method_51_code
def yX11_freed : MethodName := ⟨RX11, "freed", "(II)I"⟩
abbrev cX11_spoiltNow : ByteArray := prog_13_method_52_code
def yX11_spoiltNow : MethodName := ⟨RX11, "spoiltNow", "()I"⟩
abbrev cX11_spoilt : ByteArray := prog_13_method_53_code
def yX11_spoilt : MethodName := ⟨RX11, "spoilt", "()I"⟩
abbrev cX11_here : ByteArray := prog_13_method_54_code
def yX11_here : MethodName := ⟨RX11, "here", "(I)I"⟩
abbrev cX11_quietNow : ByteArray := prog_13_method_55_code
def yX11_quietNow : MethodName := ⟨RX11, "quietNow", "()I"⟩
abbrev cX11_quiet : ByteArray := prog_13_method_56_code
def yX11_quiet : MethodName := ⟨RX11, "quiet", "()I"⟩
abbrev cX11_crowdBy : ByteArray := prog_13_method_57_code
def yX11_crowdBy : MethodName := ⟨RX11, "crowdBy", "(I)I"⟩
abbrev cX11_crowd : ByteArray := prog_13_method_58_code
def yX11_crowd : MethodName := ⟨RX11, "crowd", "(I)I"⟩
abbrev cX11_moveOf : ByteArray := prog_13_method_59_code
def yX11_moveOf : MethodName := ⟨RX11, "moveOf", "(II)I"⟩
abbrev cX11_move : ByteArray := prog_13_method_60_code
def yX11_move : MethodName := ⟨RX11, "move", "(II)I"⟩
abbrev cX11_allHere : ByteArray := prog_13_method_61_code
def yX11_allHere : MethodName := ⟨RX11, "allHere", "()I"⟩
abbrev cX11_changes : ByteArray := prog_13_method_62_code
def yX11_changes : MethodName := ⟨RX11, "changes", "(II)V"⟩
abbrev cX11_swapBy : ByteArray := prog_13_method_63_code
def yX11_swapBy : MethodName := ⟨RX11, "swapBy", "(I)I"⟩
abbrev cX11_swap : ByteArray := prog_13_method_64_code
def yX11_swap : MethodName := ⟨RX11, "swap", "(I)I"⟩
abbrev cX11_line : ByteArray := prog_13_method_65_code
def yX11_line : MethodName := ⟨RX11, "line", "(I)I"⟩
abbrev cX11_bearNow : ByteArray := prog_13_method_66_code
def yX11_bearNow : MethodName := ⟨RX11, "bearNow", "()I"⟩
abbrev cX11_bear : ByteArray := prog_13_method_67_code
def yX11_bear : MethodName := ⟨RX11, "bear", "()I"⟩
abbrev cX11_seen : ByteArray := prog_13_method_68_code
def yX11_seen : MethodName := ⟨RX11, "seen", "(III)I"⟩
abbrev cX11_forget : ByteArray := prog_13_method_69_code
def yX11_forget : MethodName := ⟨RX11, "forget", "()I"⟩
abbrev cX11_isSeen : ByteArray := prog_13_method_70_code
def yX11_isSeen : MethodName := ⟨RX11, "isSeen", "()Z"⟩
abbrev cX11_heatsOf : ByteArray := prog_13_method_71_code
def yX11_heatsOf : MethodName := ⟨RX11, "heatsOf", "(II)I"⟩
abbrev cX11_heats : ByteArray := prog_13_method_72_code
def yX11_heats : MethodName := ⟨RX11, "heats", "(II)I"⟩
abbrev cX11_slotsOf : ByteArray := prog_13_method_73_code
def yX11_slotsOf : MethodName := ⟨RX11, "slotsOf", "(I)I"⟩
abbrev cX11_slots : ByteArray := prog_13_method_74_code
def yX11_slots : MethodName := ⟨RX11, "slots", "(I)I"⟩
abbrev cX11_askOf : ByteArray := prog_13_method_75_code
def yX11_askOf : MethodName := ⟨RX11, "askOf", "(I)I"⟩
abbrev cX11_ask : ByteArray := prog_13_method_76_code
def yX11_ask : MethodName := ⟨RX11, "ask", "(I)I"⟩
abbrev cX11_windowOf : ByteArray := prog_13_method_77_code
def yX11_windowOf : MethodName := ⟨RX11, "windowOf", "(IIIII)J"⟩
abbrev cX11_window : ByteArray := prog_13_method_78_code
def yX11_window : MethodName := ⟨RX11, "window", "(IIIII)J"⟩
abbrev cX11_lot : ByteArray := prog_13_method_79_code
def yX11_lot : MethodName := ⟨RX11, "lot", "(I)I"⟩
abbrev cX11_othersOf : ByteArray := prog_13_method_80_code
def yX11_othersOf : MethodName := ⟨RX11, "othersOf", "(II)I"⟩
abbrev cX11_others : ByteArray := prog_13_method_81_code
def yX11_others : MethodName := ⟨RX11, "others", "(II)I"⟩
abbrev cX11_write : ByteArray := prog_13_method_82_code
def yX11_write : MethodName := ⟨RX11, "write", "(II)I"⟩
abbrev cX11_allFreed : ByteArray := prog_13_method_83_code
def yX11_allFreed : MethodName := ⟨RX11, "allFreed", "()I"⟩
abbrev cX11_count : ByteArray := prog_13_method_84_code
def yX11_count : MethodName := ⟨RX11, "count", "(I)I"⟩
abbrev cX11_tellsSlice : ByteArray := prog_13_method_85_code
def yX11_tellsSlice : MethodName := ⟨RX11, "tellsSlice", "(JI)J"⟩
abbrev cX11_digest : ByteArray := prog_13_method_86_code
def yX11_digest : MethodName := ⟨RX11, "digest", "()J"⟩
def RL : String := "ToastGaolLaw"
abbrev cL_law : ByteArray := code
def yL_law : MethodName := ⟨RL, "law", "([I)Z"⟩
abbrev vwCl : List vw_C := [(RX0, TX0, 9), (RX1, TX1, 7), (RX2, TX2, 6), (RX3, TX3, 5), (RX4, TX4, 7), (RX5, TX5, 12), (RX6, TX6, 3), (RX7, TX7, 5), (RX8, TX8, 2), (RX9, TX9, 7), (RX10, TX10, 11), (RX11, TX11, 31)]
theorem inX0 : ∀ w ∈ wsX00, w ∈ lw_tbl := by decide +kernel
theorem inX1 : ∀ w ∈ wsX10, w ∈ lw_tbl := by decide +kernel
theorem inX2 : ∀ w ∈ wsX20, w ∈ lw_tbl := by decide +kernel
theorem inX3 : ∀ w ∈ wsX30, w ∈ lw_tbl := by decide +kernel
theorem inX4 : ∀ w ∈ wsX40, w ∈ lw_tbl := by decide +kernel
theorem inX5 : ∀ w ∈ wsX50, w ∈ lw_tbl := by decide +kernel
theorem inX6 : ∀ w ∈ wsX60, w ∈ lw_tbl := by decide +kernel
theorem inX7 : ∀ w ∈ wsX70, w ∈ lw_tbl := by decide +kernel
theorem inX8 : ∀ w ∈ wsX80, w ∈ lw_tbl := by decide +kernel
theorem inX9 : ∀ w ∈ wsX90, w ∈ lw_tbl := by decide +kernel
theorem inX10 : ∀ w ∈ wsX100, w ∈ lw_tbl := by decide +kernel
theorem inX11 : ∀ w ∈ wsX110, w ∈ lw_tbl := by decide +kernel
end
section
/-! A small machine over the class's own cells. A cell has a number; its shape: .inl n an int row of n, .inr (.inl (c, n)) a row of n references to objects of class c, .inr (.inr c) an object of class c.
What cells hold: references, ints (booleans too), longs, by cell and place. References above 999 are rows that lie outside (the script, the class's constant rows): read only. -/
abbrev mm_G : Type := List (Nat ⊕ ((Nat × Nat) ⊕ Nat))
abbrev mm_W : Type := mm_G × (Nat → Nat → Option Nat) × (Nat → Nat → Int32) × (Nat → Nat → Int64)
abbrev mm_L : Type := List (Option Value)
abbrev mm_C : Type := Nat × mm_L × List Value × mm_W
abbrev mm_X : Type := Nat → Option (Nat × (Nat → Int32))
abbrev mm_R : Type := mm_C ⊕ ((Option Value × mm_W) ⊕ (Nat × List Value × mm_C))
/-- an instruction: what it is, two numbers for what it names, the next one's place, its pc, its length -/
abbrev mm_I : Type := Instr × Nat × Nat × Nat × Nat × Nat
/-- a method: what it returns (0 nothing, 1 int, 2 boolean, 3 long), how many locals, its instructions -/
abbrev mm_M : Type := Nat × Nat × List mm_I
def mm_u {α : Type} (f : Nat → Nat → α) (k j : Nat) (v : α) : Nat → Nat → α := fun k' j' => if k' = k ∧ j' = j then v else f k' j'
/-- a whole cell anew -/
def mm_z {α : Type} (f : Nat → Nat → α) (k : Nat) (g : Nat → α) : Nat → Nat → α := fun k' j' => if k' = k then g j' else f k' j'
def mm_rf (r : Option Nat) : Value := match r with
  | none => .null
  | some k => .ref k
/-- what an instruction does that touches the stack alone -/
def mm_pure (q : Instr) (a : Nat) (S : List Value) : Option (List Value) := match q with
  | .iconst n => some (.int (Int32.ofInt n) :: S)
  | .bipush n => some (.int (Int8.ofInt n).toInt32 :: S)
  | .sipush n => some (.int (Int16.ofInt n).toInt32 :: S)
  | .lconst n => some (.long (Int64.ofNat (n : Nat)) :: S)
  | .ldc _ => some (.int (Int32.ofNat a) :: S)
  | .ldc_w _ => some (.int (Int32.ofNat a) :: S)
  | .ldc2_w _ => some (.long (Int64.ofNat a) :: S)
  | .iadd => match S with | .int y :: .int x :: r => some (.int (x + y) :: r) | _ => none
  | .isub => match S with | .int y :: .int x :: r => some (.int (x - y) :: r) | _ => none
  | .imul => match S with | .int y :: .int x :: r => some (.int (x * y) :: r) | _ => none
  | .iand => match S with | .int y :: .int x :: r => some (.int (x &&& y) :: r) | _ => none
  | .ior => match S with | .int y :: .int x :: r => some (.int (x ||| y) :: r) | _ => none
  | .ixor => match S with | .int y :: .int x :: r => some (.int (x ^^^ y) :: r) | _ => none
  | .ishl => match S with | .int y :: .int x :: r => some (.int (x <<< (y &&& 31)) :: r) | _ => none
  | .ishr => match S with | .int y :: .int x :: r => some (.int (x >>> (y &&& 31)) :: r) | _ => none
  | .iushr => match S with | .int y :: .int x :: r => some (.int (x.toUInt32 >>> (y.toUInt32 &&& Int32.toUInt32 31)).toInt32 :: r) | _ => none
  | .idiv => match S with | .int y :: .int x :: r => if y = 0 then none else some (.int (x / y) :: r) | _ => none
  | .irem => match S with | .int y :: .int x :: r => if y = 0 then none else some (.int (x - x / y * y) :: r) | _ => none
  | .ladd => match S with | .long y :: .long x :: r => some (.long (x + y) :: r) | _ => none
  | .lsub => match S with | .long y :: .long x :: r => some (.long (x - y) :: r) | _ => none
  | .lmul => match S with | .long y :: .long x :: r => some (.long (x * y) :: r) | _ => none
  | .land => match S with | .long y :: .long x :: r => some (.long (x &&& y) :: r) | _ => none
  | .ldiv => match S with | .long y :: .long x :: r => if y = 0 then none else some (.long (x / y) :: r) | _ => none
  | .lrem => match S with | .long y :: .long x :: r => if y = 0 then none else some (.long (x - x / y * y) :: r) | _ => none
  | .lshl => match S with | .int y :: .long x :: r => some (.long (x <<< (y.toInt64 &&& 63)) :: r) | _ => none
  | .lshr => match S with | .int y :: .long x :: r => some (.long (x >>> (y.toInt64 &&& 63)) :: r) | _ => none
  | .lcmp => match S with | .long y :: .long x :: r => some (.int (lg_cmp x y) :: r) | _ => none
  | .i2l => match S with | .int x :: r => some (.long x.toInt64 :: r) | _ => none
  | .i2b => match S with | .int x :: r => some (.int x.toInt8.toInt32 :: r) | _ => none
  | .i2s => match S with | .int x :: r => some (.int x.toInt16.toInt32 :: r) | _ => none
  | .dup => match S with | v :: r => if v.category = 1 then some (v :: v :: r) else none | _ => none
  | .dup2 => match S with | v :: u :: r => if v.category = 1 ∧ u.category = 1 then some (v :: u :: v :: u :: r) else none | _ => none
  | .pop => match S with | v :: r => if v.category = 1 then some r else none | _ => none
  | _ => none
/-- a local is set -/
def mm_cl (L : mm_L) (i : Nat) : mm_L := match i with
  | 0 => L
  | j + 1 => match L[j]? with
    | some (some u) => if u.category = 2 then L.set j none else L
    | _ => L
def mm_st (L : mm_L) (i : Nat) (v : Value) : Option mm_L := if v.category = 2 then (if i + 1 < L.length then some (((mm_cl L i).set i (some v)).set (i + 1) none) else none) else (if i < L.length then some ((mm_cl L i).set i (some v)) else none)
def mm_ld (L : mm_L) (i : Nat) : Option Value := match L[i]? with
  | some (some v) => some v
  | _ => none
def mm_loc (q : Instr) (L : mm_L) (S : List Value) : Option (mm_L × List Value) := match q with
  | .iload i => match mm_ld L i with | some (.int x) => some (L, .int x :: S) | _ => none
  | .iload_n i => match mm_ld L i with | some (.int x) => some (L, .int x :: S) | _ => none
  | .lload i => match mm_ld L i with | some (.long x) => some (L, .long x :: S) | _ => none
  | .lload_n i => match mm_ld L i with | some (.long x) => some (L, .long x :: S) | _ => none
  | .aload i => match mm_ld L i with | some (.ref x) => some (L, .ref x :: S) | _ => none
  | .aload_n i => match mm_ld L i with | some (.ref x) => some (L, .ref x :: S) | _ => none
  | .istore i => match S with | .int x :: r => (mm_st L i (.int x)).map (fun L' => (L', r)) | _ => none
  | .istore_n i => match S with | .int x :: r => (mm_st L i (.int x)).map (fun L' => (L', r)) | _ => none
  | .lstore i => match S with | .long x :: r => (mm_st L i (.long x)).map (fun L' => (L', r)) | _ => none
  | .lstore_n i => match S with | .long x :: r => (mm_st L i (.long x)).map (fun L' => (L', r)) | _ => none
  | .astore i => match S with | .ref x :: r => (mm_st L i (.ref x)).map (fun L' => (L', r)) | _ => none
  | .astore_n i => match S with | .ref x :: r => (mm_st L i (.ref x)).map (fun L' => (L', r)) | _ => none
  | .iinc i n => match mm_ld L i with | some (.int x) => (mm_st L i (.int (x + Int32.ofInt n))).map (fun L' => (L', S)) | _ => none
  | _ => none
/-- a branch: where it goes (a: the target's place, nx: the next one's; of a switch: the default's, and b on the others') -/
def mm_br (q : Instr) (a nx : Nat) (S : List Value) : Option (Nat × List Value) := match q with
  | .goto _ => some (a, S)
  | .ifCond .eq _ => match S with | .int x :: r => some (if x = 0 then a else nx, r) | _ => none
  | .ifCond .ne _ => match S with | .int x :: r => some (if x ≠ 0 then a else nx, r) | _ => none
  | .ifCond .lt _ => match S with | .int x :: r => some (if x < 0 then a else nx, r) | _ => none
  | .ifCond .ge _ => match S with | .int x :: r => some (if 0 ≤ x then a else nx, r) | _ => none
  | .ifCond .gt _ => match S with | .int x :: r => some (if 0 < x then a else nx, r) | _ => none
  | .ifCond .le _ => match S with | .int x :: r => some (if x ≤ 0 then a else nx, r) | _ => none
  | .if_icmp .eq _ => match S with | .int y :: .int x :: r => some (if x = y then a else nx, r) | _ => none
  | .if_icmp .ne _ => match S with | .int y :: .int x :: r => some (if x ≠ y then a else nx, r) | _ => none
  | .if_icmp .lt _ => match S with | .int y :: .int x :: r => some (if x < y then a else nx, r) | _ => none
  | .if_icmp .ge _ => match S with | .int y :: .int x :: r => some (if y ≤ x then a else nx, r) | _ => none
  | .if_icmp .gt _ => match S with | .int y :: .int x :: r => some (if y < x then a else nx, r) | _ => none
  | .if_icmp .le _ => match S with | .int y :: .int x :: r => some (if x ≤ y then a else nx, r) | _ => none
  | _ => none
/-- a switch: its cases, and the default's place -/
def mm_tg (l : List (Int × Nat)) (a : Nat) (x : Int32) : Nat := match l with
  | [] => a
  | q :: l' => if x.toInt = q.1 then q.2 else mm_tg l' a x
/-- an int row: of the world, or outside -/
def mm_arr (X : mm_X) (w : mm_W) (k : Nat) : Option (Nat × (Nat → Int32)) := if k < 1000 then (match w.1[k]? with | some (.inl n) => some (n, w.2.2.1 k) | _ => none) else X (k - 1000)
def mm_arw (w : mm_W) (k : Nat) : Option Nat := match w.1[k]? with
  | some (.inl n) => some n
  | _ => none
/-- the fields' kinds by class: 0 int, 1 boolean, 2 long, 3 a reference -/
def mm_fks : List (List Nat) := [[3, 3, 3, 3, 3, 3, 3, 3, 0], [3, 3, 3, 3, 0, 3, 3], [3, 3, 3, 3, 3, 1], [3, 3, 3, 0, 0], [3, 3, 0, 0, 0, 0, 0], [0, 3, 0, 3, 3, 3, 3, 0, 3, 3, 0, 3], [0, 0, 3], [3, 3, 3, 3, 0], [3, 0], [3, 0, 0, 0, 0, 2, 2], [3, 3, 3, 3, 3, 3, 3, 3, 3, 3, 0], [3, 3, 3, 3, 0, 3, 3, 0, 3, 0, 3, 3, 0, 3, 0, 3, 3, 3, 3, 3, 3, 3, 3, 3, 3, 3, 0, 0, 3, 3, 0]]
def mm_nf (c : Nat) : Nat := (mm_fks[c]?.getD []).length
def mm_fk (c j : Nat) : Nat := (mm_fks[c]?.getD [])[j]?.getD 9
/-- what a step does in the heap -/
def mm_heap (X : mm_X) (q : Instr) (a b : Nat) (S : List Value) (w : mm_W) : Option (List Value × mm_W) := match q with
  | .getfield _ => match S with
    | .ref k :: r => if w.1[k]? = some (.inr (.inr a)) ∧ k < 1000 then (if mm_fk a b ≤ 1 then some (.int (w.2.2.1 k b) :: r, w) else if mm_fk a b = 2 then some (.long (w.2.2.2 k b) :: r, w) else if mm_fk a b = 3 then some (mm_rf (w.2.1 k b) :: r, w) else none) else none
    | _ => none
  | .putfield _ => match S with
    | .int x :: .ref k :: r => if w.1[k]? = some (.inr (.inr a)) ∧ k < 1000 ∧ (mm_fk a b = 0 ∨ mm_fk a b = 1 ∧ (x = 0 ∨ x = 1)) then some (r, (w.1, w.2.1, mm_u w.2.2.1 k b x, w.2.2.2)) else none
    | .long x :: .ref k :: r => if w.1[k]? = some (.inr (.inr a)) ∧ k < 1000 ∧ mm_fk a b = 2 then some (r, (w.1, w.2.1, w.2.2.1, mm_u w.2.2.2 k b x)) else none
    | .ref x :: .ref k :: r => if w.1[k]? = some (.inr (.inr a)) ∧ k < 1000 ∧ mm_fk a b = 3 then some (r, (w.1, mm_u w.2.1 k b (some x), w.2.2.1, w.2.2.2)) else none
    | _ => none
  | .iaload => match S with
    | .int i :: .ref k :: r => match mm_arr X w k with
      | some nf => if ¬ (i < 0 ∨ nf.1 ≤ i.toNatClampNeg) then some (.int (nf.2 i.toNatClampNeg) :: r, w) else none
      | none => none
    | _ => none
  | .iastore => match S with
    | .int x :: .int i :: .ref k :: r => match mm_arw w k with
      | some n => if ¬ (i < 0 ∨ n ≤ i.toNatClampNeg) ∧ k < 1000 then some (r, (w.1, w.2.1, mm_u w.2.2.1 k i.toNatClampNeg x, w.2.2.2)) else none
      | none => none
    | _ => none
  | .arraylength => match S with
    | .ref k :: r => match mm_arr X w k with
      | some nf => some (.int (Int32.ofNat nf.1) :: r, w)
      | none => none
    | _ => none
  | .aaload => match S with
    | .int i :: .ref k :: r => match w.1[k]? with
      | some (.inr (.inl cn)) => if ¬ (i < 0 ∨ cn.2 ≤ i.toNatClampNeg) ∧ k < 1000 then some (mm_rf (w.2.1 k i.toNatClampNeg) :: r, w) else none
      | _ => none
    | _ => none
  | .aastore => match S with
    | .ref v :: .int i :: .ref k :: r => match w.1[k]? with
      | some (.inr (.inl cn)) => if ¬ (i < 0 ∨ cn.2 ≤ i.toNatClampNeg) ∧ k < 1000 ∧ v < 1000 ∧ w.1[v]? = some (.inr (.inr cn.1)) then some (r, (w.1, mm_u w.2.1 k i.toNatClampNeg (some v), w.2.2.1, w.2.2.2)) else none
      | _ => none
    | _ => none
  | .newarray .int => match S with
    | .int n :: r => if ¬ n < 0 ∧ n.toNatClampNeg ≤ 1000 ∧ w.1.length < 1000 then some (.ref w.1.length :: r, (w.1 ++ [.inl n.toNatClampNeg], w.2.1, mm_z w.2.2.1 w.1.length (fun _ => 0), w.2.2.2)) else none
    | _ => none
  | .anewarray _ => match S with
    | .int n :: r => if ¬ n < 0 ∧ n.toNatClampNeg ≤ 1000 ∧ w.1.length < 1000 then some (.ref w.1.length :: r, (w.1 ++ [.inr (.inl (a, n.toNatClampNeg))], mm_z w.2.1 w.1.length (fun _ => none), w.2.2.1, w.2.2.2)) else none
    | _ => none
  | .new _ => if w.1.length < 1000 then some (.ref w.1.length :: S, (w.1 ++ [.inr (.inr a)], mm_z w.2.1 w.1.length (fun _ => none), mm_z w.2.2.1 w.1.length (fun _ => 0), mm_z w.2.2.2 w.1.length (fun _ => 0))) else none
  | .getstatic _ => some (.ref a :: S, w)
  | .invokestatic _ => if a = 1001 then (match S with
      | .int y :: .int x :: r => if (r.map fun v => v.category).sum ≤ 8 then some (.int (if x < y then y else x) :: r, w) else none
      | _ => none) else if a = 1002 then (match S with
      | .int y :: .int x :: r => if (r.map fun v => v.category).sum ≤ 8 then some (.int (if y < x then y else x) :: r, w) else none
      | _ => none) else if a = 1003 then (match S with
      | .int n :: .int dp :: .ref kd :: .int sp :: .ref ks :: r => match mm_arw w ks, mm_arw w kd with
        | some n0, some n1 => if (¬ sp < 0 ∧ ¬ dp < 0 ∧ ¬ n < 0 ∧ sp.toNatClampNeg + n.toNatClampNeg ≤ n0 ∧ dp.toNatClampNeg + n.toNatClampNeg ≤ n1) ∧ ks < 1000 ∧ kd < 1000 ∧ (r.map fun v => v.category).sum ≤ 8 then some (r, (w.1, w.2.1, mm_z w.2.2.1 kd (va_cpy (w.2.2.1 ks) (w.2.2.1 kd) sp.toNatClampNeg dp.toNatClampNeg n.toNatClampNeg), w.2.2.2)) else none
        | _, _ => none
      | _ => none) else none
  | .invokespecial _ => if a = 1000 then (match S with
      | .ref _ :: r => if (r.map fun v => v.category).sum ≤ 8 then some (r, w) else none
      | _ => none) else none
  | _ => none
/-- a call: the callee, what it gets, what stays; rk: the class whose object a virtual call wants -/
def mm_inv (rk : Nat → Nat) (q : Instr) (a b : Nat) (S : List Value) (w : mm_W) : Option (List Value × List Value) := match q with
  | .invokestatic _ => if a < 1000 ∧ b ≤ S.length ∧ ((S.drop b).map fun v => v.category).sum ≤ 8 then some ((S.take b).reverse, S.drop b) else none
  | .invokespecial _ => if a < 1000 ∧ b ≤ S.length ∧ ((S.drop b).map fun v => v.category).sum ≤ 8 then (match (S.take b).reverse with | .ref k :: r => some (.ref k :: r, S.drop b) | _ => none) else none
  | .invokevirtual _ => if a < 1000 ∧ b ≤ S.length ∧ ((S.drop b).map fun v => v.category).sum ≤ 8 then (match (S.take b).reverse with | .ref k :: r => if w.1[k]? = some (.inr (.inr (rk a))) ∧ k < 1000 then some (.ref k :: r, S.drop b) else none | _ => none) else none
  | _ => none
def mm_ret (rt : Nat) (q : Instr) (S : List Value) : Option (Option Value) := match q with
  | .return_ => if rt = 0 ∧ S = [] then some none else none
  | .ireturn => match S with | [.int x] => if rt = 1 ∨ rt = 2 ∧ (x = 0 ∨ x = 1) then some (some (.int x)) else none | _ => none
  | .lreturn => match S with | [.long x] => if rt = 3 then some (some (.long x)) else none | _ => none
  | _ => none
def mm_swi (sw : Nat → List (Int × Nat)) (q : Instr) (a b : Nat) (S : List Value) : Option (Nat × List Value) := match q with
  | .tableswitch _ _ _ _ => match S with | .int x :: r => some (mm_tg (sw b) a x, r) | _ => none
  | .lookupswitch _ _ => match S with | .int x :: r => some (mm_tg (sw b) a x, r) | _ => none
  | _ => none
/-- the kind of an instruction: 0 stack alone, 1 locals, 2 a branch, 3 the heap, 4 a call, 5 a return, 6 a switch -/
def mm_kd (q : Instr) (a : Nat) : Nat := match q with
  | .iload _ | .iload_n _ | .lload _ | .lload_n _ | .aload _ | .aload_n _ | .istore _ | .istore_n _ | .lstore _ | .lstore_n _ | .astore _ | .astore_n _ | .iinc _ _ => 1
  | .goto _ | .ifCond _ _ | .if_icmp _ _ => 2
  | .getfield _ | .putfield _ | .iaload | .iastore | .arraylength | .aaload | .aastore | .newarray _ | .anewarray _ | .new _ | .getstatic _ => 3
  | .invokestatic _ | .invokespecial _ => if a < 1000 then 4 else 3
  | .invokevirtual _ => 4
  | .return_ | .ireturn | .lreturn => 5
  | .tableswitch _ _ _ _ | .lookupswitch _ _ => 6
  | _ => 0
def mm_step (X : mm_X) (rk : Nat → Nat) (sw : Nat → List (Int × Nat)) (rt : Nat) (q : Instr) (a b nx : Nat) (c : mm_C) : Option mm_R := match mm_kd q a with
  | 0 => (mm_pure q a c.2.2.1).map (fun S' => .inl (nx, c.2.1, S', c.2.2.2))
  | 1 => (mm_loc q c.2.1 c.2.2.1).map (fun z => .inl (nx, z.1, z.2, c.2.2.2))
  | 2 => (mm_br q a nx c.2.2.1).map (fun z => .inl (z.1, c.2.1, z.2, c.2.2.2))
  | 3 => (mm_heap X q a b c.2.2.1 c.2.2.2).map (fun z => .inl (nx, c.2.1, z.1, z.2))
  | 4 => (mm_inv rk q a b c.2.2.1 c.2.2.2).map (fun z => .inr (.inr (a, z.1, (nx, c.2.1, z.2, c.2.2.2))))
  | 5 => (mm_ret rt q c.2.2.1).map (fun v => .inr (.inl (v, c.2.2.2)))
  | 6 => (mm_swi sw q a b c.2.2.1).map (fun z => .inl (z.1, c.2.1, z.2, c.2.2.2))
  | _ => none
/-- the locals with which a method begins -/
def mm_la (vs : List Value) : mm_L := vs.flatMap fun v => if v.category = 2 then [some v, none] else [some v]
def mm_en (vs : List Value) (n : Nat) : mm_L := mm_la vs ++ List.replicate (n - (mm_la vs).length) none
/-- it runs: d calls deep at most, n steps at most in each -/
def mm_run (X : mm_X) (rk : Nat → Nat) (sw : Nat → List (Int × Nat)) (tab : Nat → Option mm_M) (n : Nat) (d : Nat) (M : mm_M) (c : mm_C) : Option (Option Value × mm_W) := match n with
  | 0 => none
  | n + 1 => match M.2.2[c.1]? with
    | none => none
    | some i => match mm_step X rk sw M.1 i.1 i.2.1 i.2.2.1 i.2.2.2.1 c with
      | none => none
      | some (.inl c') => mm_run X rk sw tab n d M c'
      | some (.inr (.inl z)) => some z
      | some (.inr (.inr z)) => match d with
        | 0 => none
        | d + 1 => match tab z.1 with
          | none => none
          | some M' => if (mm_la z.2.1).length ≤ M'.2.1 then (match mm_run X rk sw tab n d M' (0, mm_en z.2.1 M'.2.1, [], z.2.2.2.2.2) with
            | none => none
            | some y => mm_run X rk sw tab n (d + 1) M (z.2.2.1, z.2.2.2.1, y.1.toList ++ z.2.2.2.2.1, y.2)) else none
end
section
/-! the small machine against the machine itself: instruction by instruction -/
def mm_ad (base : Nat) (E : Nat → Nat) (k : Nat) : Nat := if k < 1000 then base + k else E (k - 1000)
def mm_tv (ad : Nat → Nat) (v : Value) : Value := match v with
  | .ref k => .ref (ad k)
  | v => v
theorem mm_tv_cat (ad : Nat → Nat) (v : Value) : (mm_tv ad v).category = v.category := by cases v <;> rfl
theorem mm_tv_sum (ad : Nat → Nat) (S : List Value) : ((S.map (mm_tv ad)).map fun v => v.category).sum = (S.map fun v => v.category).sum := by
  rw [List.map_map]
  congr 1
  apply List.map_congr_left
  intro v _
  exact mm_tv_cat ad v
/-- an instruction's length -/
def mm_ln (q : Instr) : Nat := match q with
  | .bipush _ | .ldc _ | .iload _ | .lload _ | .aload _ | .istore _ | .lstore _ | .astore _ | .newarray _ => 2
  | .sipush _ | .ldc_w _ | .ldc2_w _ | .iinc _ _ | .goto _ | .ifCond _ _ | .if_icmp _ _ | .getfield _ | .putfield _ | .getstatic _ | .anewarray _ | .new _ | .invokestatic _ | .invokespecial _ | .invokevirtual _ => 3
  | _ => 1
def mm_cst (own : String) (q : Instr) (a : Nat) (args : Array Value) (s : State) : Prop := match q with
  | .ldc i => (Cond.constant own i (Int32.ofNat a)).before args s = true
  | .ldc_w i => (Cond.constant own i (Int32.ofNat a)).before args s = true
  | .ldc2_w i => (Cond.constantLong own i (Int64.ofNat a)).before args s = true
  | _ => True
section SO
variable {p : Program} {l : Launch} {e : Env} {R : Room} {s : State} {m : MethodId} {args : Array Value} {below : List Frame} {meth : Method} {c : Code} {H : Heap} {locs : List Loc} {cells slots : Nat} {Q : State → Prop}
variable {cc : ByteArray} {pc : Nat} {ls : Array Slot}
set_option maxHeartbeats 4000000 in
theorem so_pure (hx : p.tables.exec = Jvm.exec) (hb : c.code = cc) {own : String} (hown : s.vm.findClass own = some m.cls) {ad : Nat → Nat} {q : Instr} {a len : Nat} {S S' : List Value} (hc : mm_cst own q a args s) (hn : mm_ln q = len) (hd : decode cc pc = .ok (q, len)) (h : mm_pure q a S = some S')
    (kk : W p l e R s m args below meth c H locs cells slots Q (F0 m (pc + len) ls (S'.map (mm_tv ad)))) : W p l e R s m args below meth c H locs cells slots Q (F0 m pc ls (S.map (mm_tv ad))) := by
  subst hn
  cases q with
  | iconst n => cases h; exact lv_iconst hx hb hd rfl kk
  | bipush n => cases h; exact lv_bipush hx hb hd rfl kk
  | sipush n => cases h; exact lv_sipush hx hb hd rfl kk
  | lconst n => cases h; exact lv_lconst hx hb hd rfl kk
  | ldc n => cases h; exact lv_ldc hx hb hown hc hd kk
  | ldc_w n => cases h; exact lv_ldcw hx hb hown hc hd kk
  | ldc2_w n => cases h; exact lv_ldc2 hx hb hown hc hd kk
  | iadd => simp only [mm_pure] at h; split at h <;> first | cases h | skip
            exact lv_iadd hx hb hd kk
  | isub => simp only [mm_pure] at h; split at h <;> first | cases h | skip
            exact lv_isub hx hb hd kk
  | imul => simp only [mm_pure] at h; split at h <;> first | cases h | skip
            exact lv_imul hx hb hd kk
  | iand => simp only [mm_pure] at h; split at h <;> first | cases h | skip
            exact lv_iand hx hb hd kk
  | ior => simp only [mm_pure] at h; split at h <;> first | cases h | skip
           exact lv_ior hx hb hd kk
  | ixor => simp only [mm_pure] at h; split at h <;> first | cases h | skip
            exact lv_ixor hx hb hd kk
  | ishl => simp only [mm_pure] at h; split at h <;> first | cases h | skip
            exact lv_ishl hx hb hd kk
  | ishr => simp only [mm_pure] at h; split at h <;> first | cases h | skip
            exact lv_ishr hx hb hd kk
  | iushr => simp only [mm_pure] at h; split at h <;> first | cases h | skip
             exact lv_iushr hx hb hd rfl kk
  | idiv => simp only [mm_pure] at h; split at h <;> first | cases h; done | skip
            split at h
            · cases h
            · cases h; exact lv_idiv hx hb hd (by assumption) kk
  | irem => simp only [mm_pure] at h; split at h <;> first | cases h; done | skip
            split at h
            · cases h
            · cases h; exact lv_irem hx hb hd (by assumption) kk
  | ladd => simp only [mm_pure] at h; split at h <;> first | cases h | skip
            exact lv_ladd hx hb hd kk
  | lsub => simp only [mm_pure] at h; split at h <;> first | cases h | skip
            exact lv_lsub hx hb hd kk
  | lmul => simp only [mm_pure] at h; split at h <;> first | cases h | skip
            exact lv_lmul hx hb hd kk
  | land => simp only [mm_pure] at h; split at h <;> first | cases h | skip
            exact lv_land hx hb hd kk
  | ldiv => simp only [mm_pure] at h; split at h <;> first | cases h; done | skip
            split at h
            · cases h
            · cases h; exact lv_ldiv hx hb hd (by assumption) kk
  | lrem => simp only [mm_pure] at h; split at h <;> first | cases h; done | skip
            split at h
            · cases h
            · cases h; exact lv_lrem hx hb hd (by assumption) kk
  | lshl => simp only [mm_pure] at h; split at h <;> first | cases h | skip
            exact lv_lshl hx hb hd rfl kk
  | lshr => simp only [mm_pure] at h; split at h <;> first | cases h | skip
            exact lv_lshr hx hb hd rfl kk
  | lcmp => simp only [mm_pure] at h; split at h <;> first | cases h | skip
            exact W.lcmp hx hb hd kk
  | i2l => simp only [mm_pure] at h; split at h <;> first | cases h | skip
           exact lv_i2l hx hb hd rfl kk
  | i2b => simp only [mm_pure] at h; split at h <;> first | cases h | skip
           exact lv_i2b hx hb hd rfl kk
  | i2s => simp only [mm_pure] at h; split at h <;> first | cases h | skip
           exact lv_i2s hx hb hd rfl kk
  | dup => simp only [mm_pure] at h; split at h <;> first | cases h; done | skip
           split at h
           · cases h; exact lv_dup hx hb hd (by rw [mm_tv_cat]; assumption) kk
           · cases h
  | dup2 => simp only [mm_pure] at h; split at h <;> first | cases h; done | skip
            split at h
            · rename_i hcc
              cases h; exact lv_dup2_11 hx hb hd (by rw [mm_tv_cat]; exact hcc.1) (by rw [mm_tv_cat]; exact hcc.2) kk
            · cases h
  | pop => simp only [mm_pure] at h; split at h <;> first | cases h; done | skip
           split at h
           · cases h; exact lv_pop hx hb hd (by rw [mm_tv_cat]; assumption) kk
           · cases h
  | _ => simp [mm_pure] at h
/-! locals -/
/-- the locals hold what they should -/
def mm_lh (ad : Nat → Nat) (ls : Array Slot) (L : mm_L) : Prop := ls.size = L.length ∧ lv_wf ls ∧ ∀ (j : Nat) (v : Value), L[j]? = some (some v) → ls[j]? = some (.val (mm_tv ad v))
/-- the list of them that the kit's rows take -/
def mm_pr (ad : Nat → Nat) (L : mm_L) : List (Nat × Value) := (List.range L.length).filterMap (fun j => match L[j]? with | some (some v) => some (j, mm_tv ad v) | _ => none)
theorem mm_pr_mem {ad : Nat → Nat} {L : mm_L} {q : Nat × Value} : q ∈ mm_pr ad L ↔ ∃ v, L[q.1]? = some (some v) ∧ q.2 = mm_tv ad v := by
  obtain ⟨j, u⟩ := q
  simp only [mm_pr, List.mem_filterMap, List.mem_range]
  constructor
  · rintro ⟨i, hi, h⟩
    split at h
    · rename_i v hv
      cases h
      exact ⟨v, hv, rfl⟩
    · cases h
  · rintro ⟨v, hv, rfl⟩
    exact ⟨j, (List.getElem?_eq_some_iff.mp hv).1, by rw [hv]⟩
theorem mm_lh.has {ad : Nat → Nat} {ls : Array Slot} {L : mm_L} (h : mm_lh ad ls L) : lv_has ls L.length (mm_pr ad L) := by
  refine ⟨h.1, h.2.1, fun q hq => ?_⟩
  obtain ⟨v, h1, h2⟩ := mm_pr_mem.mp hq
  rw [h2]
  exact h.2.2 _ _ h1
theorem mm_ld_some {L : mm_L} {i : Nat} {v : Value} (h : mm_ld L i = some v) : L[i]? = some (some v) := by
  unfold mm_ld at h
  split at h
  · rename_i u hu
    cases h
    exact hu
  · cases h
theorem mm_lh.at {ad : Nat → Nat} {ls : Array Slot} {L : mm_L} (h : mm_lh ad ls L) {i : Nat} {v : Value} (hv : mm_ld L i = some v) : ls[i]? = some (.val (mm_tv ad v)) := h.2.2 _ _ (mm_ld_some hv)
theorem mm_cl_len (L : mm_L) (i : Nat) : (mm_cl L i).length = L.length := by
  unfold mm_cl
  split
  · rfl
  · split
    · split
      · simp
      · rfl
    · rfl
/-- what stands in the locals when one of the first kind was set -/
theorem mm_st_1 {L L' : mm_L} {i : Nat} {v : Value} (hv : v.category = 1) (h : mm_st L i v = some L') : i < L.length ∧ L'.length = L.length ∧ ∀ (j : Nat) (u : Value), L'[j]? = some (some u) → (j = i ∧ u = v) ∨ (j ≠ i ∧ L[j]? = some (some u) ∧ ¬ (j + 1 = i ∧ u.category = 2)) := by
  unfold mm_st at h
  rw [if_neg (by omega)] at h
  split at h
  · rename_i hi
    cases h
    refine ⟨hi, by rw [List.length_set, mm_cl_len], fun j u hu => ?_⟩
    by_cases hj : j = i
    · subst hj
      rw [List.getElem?_set_self (by rw [mm_cl_len]; exact hi)] at hu
      cases hu
      exact Or.inl ⟨rfl, rfl⟩
    · rw [List.getElem?_set_ne (Ne.symm hj)] at hu
      refine Or.inr ⟨hj, ?_⟩
      unfold mm_cl at hu
      split at hu
      · exact ⟨hu, by omega⟩
      · rename_i k
        split at hu
        · rename_i w hw
          split at hu
          · by_cases hjk : j = k
            · subst hjk
              rw [List.getElem?_set_self (List.getElem?_eq_some_iff.mp hw).1] at hu
              cases hu
            · rw [List.getElem?_set_ne (Ne.symm hjk)] at hu
              exact ⟨hu, by omega⟩
          · rename_i hcat
            refine ⟨hu, fun hh => ?_⟩
            have e : j = k := by omega
            subst e
            rw [hw] at hu
            cases hu
            exact hcat hh.2
        · rename_i hno
          refine ⟨hu, fun hh => ?_⟩
          have e : j = k := by omega
          subst e
          exact hno u hu
  · cases h
theorem mm_st_2 {L L' : mm_L} {i : Nat} {v : Value} (hv : v.category = 2) (h : mm_st L i v = some L') : i + 1 < L.length ∧ L'.length = L.length ∧ ∀ (j : Nat) (u : Value), L'[j]? = some (some u) → (j = i ∧ u = v) ∨ (j ≠ i ∧ j ≠ i + 1 ∧ L[j]? = some (some u) ∧ ¬ (j + 1 = i ∧ u.category = 2)) := by
  unfold mm_st at h
  rw [if_pos hv] at h
  split at h
  · rename_i hi
    cases h
    refine ⟨hi, by rw [List.length_set, List.length_set, mm_cl_len], fun j u hu => ?_⟩
    by_cases hj1 : j = i + 1
    · subst hj1
      rw [List.getElem?_set_self (by rw [List.length_set, mm_cl_len]; exact hi)] at hu
      cases hu
    rw [List.getElem?_set_ne (Ne.symm hj1)] at hu
    by_cases hj : j = i
    · subst hj
      rw [List.getElem?_set_self (by rw [mm_cl_len]; omega)] at hu
      cases hu
      exact Or.inl ⟨rfl, rfl⟩
    · rw [List.getElem?_set_ne (Ne.symm hj)] at hu
      refine Or.inr ⟨hj, hj1, ?_⟩
      unfold mm_cl at hu
      split at hu
      · exact ⟨hu, by omega⟩
      · rename_i k
        split at hu
        · rename_i w hw
          split at hu
          · by_cases hjk : j = k
            · subst hjk
              rw [List.getElem?_set_self (List.getElem?_eq_some_iff.mp hw).1] at hu
              cases hu
            · rw [List.getElem?_set_ne (Ne.symm hjk)] at hu
              exact ⟨hu, by omega⟩
          · rename_i hcat
            refine ⟨hu, fun hh => ?_⟩
            have e : j = k := by omega
            subst e
            rw [hw] at hu
            cases hu
            exact hcat hh.2
        · rename_i hno
          refine ⟨hu, fun hh => ?_⟩
          have e : j = k := by omega
          subst e
          exact hno u hu
  · cases h
theorem mm_lh.set1 {ad : Nat → Nat} {ls' : Array Slot} {L L' : mm_L} {i : Nat} {v : Value} (hv : v.category = 1) (h : mm_st L i v = some L') (hl : lv_has ls' L.length ((i, mm_tv ad v) :: (mm_pr ad L).filter (fun q => !(q.1 == i) && !(q.1 + 1 == i && q.2.category == 2)))) : mm_lh ad ls' L' := by
  obtain ⟨-, h2, h3⟩ := mm_st_1 hv h
  refine ⟨by rw [h2]; exact hl.1, hl.2.1, fun j u hu => ?_⟩
  rcases h3 j u hu with ⟨rfl, rfl⟩ | ⟨g1, g2, g3⟩
  · exact hl.2.2 _ List.mem_cons_self
  · refine hl.2.2 (j, mm_tv ad u) (List.mem_cons_of_mem _ (List.mem_filter.mpr ⟨mm_pr_mem.mpr ⟨u, g2, rfl⟩, ?_⟩))
    simp only [mm_tv_cat, Bool.and_eq_true, Bool.not_eq_true', beq_eq_false_iff_ne, Bool.and_eq_false_iff]
    refine ⟨g1, ?_⟩
    by_cases e : j + 1 = i
    · exact Or.inr (fun hc => g3 ⟨e, hc⟩)
    · exact Or.inl e
theorem mm_lh.set2 {ad : Nat → Nat} {ls' : Array Slot} {L L' : mm_L} {i : Nat} {v : Value} (hv : v.category = 2) (h : mm_st L i v = some L') (hl : lv_has ls' L.length ((i, mm_tv ad v) :: (mm_pr ad L).filter (fun q => !(q.1 == i) && (!(q.1 == i + 1) && !(q.1 + 1 == i && q.2.category == 2))))) : mm_lh ad ls' L' := by
  obtain ⟨-, h2, h3⟩ := mm_st_2 hv h
  refine ⟨by rw [h2]; exact hl.1, hl.2.1, fun j u hu => ?_⟩
  rcases h3 j u hu with ⟨rfl, rfl⟩ | ⟨g1, g1', g2, g3⟩
  · exact hl.2.2 _ List.mem_cons_self
  · refine hl.2.2 (j, mm_tv ad u) (List.mem_cons_of_mem _ (List.mem_filter.mpr ⟨mm_pr_mem.mpr ⟨u, g2, rfl⟩, ?_⟩))
    simp only [mm_tv_cat, Bool.and_eq_true, Bool.not_eq_true', beq_eq_false_iff_ne, Bool.and_eq_false_iff]
    refine ⟨g1, g1', ?_⟩
    by_cases e : j + 1 = i
    · exact Or.inr (fun hc => g3 ⟨e, hc⟩)
    · exact Or.inl e
set_option maxHeartbeats 4000000 in
theorem so_loc (hx : p.tables.exec = Jvm.exec) (hb : c.code = cc) {ad : Nat → Nat} {q : Instr} {len : Nat} {L : mm_L} {S : List Value} {z : mm_L × List Value} (hl : mm_lh ad ls L) (hn : mm_ln q = len) (hd : decode cc pc = .ok (q, len)) (h : mm_loc q L S = some z)
    (kk : ∀ ls' : Array Slot, mm_lh ad ls' z.1 → W p l e R s m args below meth c H locs cells slots Q (F0 m (pc + len) ls' (z.2.map (mm_tv ad)))) : W p l e R s m args below meth c H locs cells slots Q (F0 m pc ls (S.map (mm_tv ad))) := by
  subst hn
  cases q with
  | iload i => simp only [mm_loc] at h; split at h <;> first | cases h; done | skip
               rename_i x hv
               cases h; exact lv_iload hx hb hd (hl.at hv) (kk ls hl)
  | iload_n i => simp only [mm_loc] at h; split at h <;> first | cases h; done | skip
                 rename_i x hv
                 cases h; exact lv_iload_n hx hb hd rfl (hl.at hv) (kk ls hl)
  | lload i => simp only [mm_loc] at h; split at h <;> first | cases h; done | skip
               rename_i x hv
               cases h; exact lv_lload hx hb hd (hl.at hv) (kk ls hl)
  | lload_n i => simp only [mm_loc] at h; split at h <;> first | cases h; done | skip
                 rename_i x hv
                 cases h; exact lv_lload_n hx hb hd rfl (hl.at hv) (kk ls hl)
  | aload i => simp only [mm_loc] at h; split at h <;> first | cases h; done | skip
               rename_i x hv
               cases h; exact lv_aload hx hb hd (hl.at hv) (kk ls hl)
  | aload_n i => simp only [mm_loc] at h; split at h <;> first | cases h; done | skip
                 rename_i x hv
                 cases h; exact lv_aload_n hx hb hd rfl (hl.at hv) (kk ls hl)
  | istore i => simp only [mm_loc] at h; split at h <;> first | cases h; done | skip
                obtain ⟨L', h1, h2⟩ := Option.map_eq_some_iff.mp h
                subst h2
                exact lv_istore hx hb hd hl.has (mm_st_1 rfl h1).1 rfl (fun ls' hl' => kk ls' (mm_lh.set1 rfl h1 hl'))
  | istore_n i => simp only [mm_loc] at h; split at h <;> first | cases h; done | skip
                  obtain ⟨L', h1, h2⟩ := Option.map_eq_some_iff.mp h
                  subst h2
                  exact lv_istore_n hx hb hd rfl hl.has (mm_st_1 rfl h1).1 rfl (fun ls' hl' => kk ls' (mm_lh.set1 rfl h1 hl'))
  | lstore i => simp only [mm_loc] at h; split at h <;> first | cases h; done | skip
                obtain ⟨L', h1, h2⟩ := Option.map_eq_some_iff.mp h
                subst h2
                exact lv_lstore hx hb hd hl.has (mm_st_2 rfl h1).1 rfl (fun ls' hl' => kk ls' (mm_lh.set2 rfl h1 hl'))
  | lstore_n i => simp only [mm_loc] at h; split at h <;> first | cases h; done | skip
                  obtain ⟨L', h1, h2⟩ := Option.map_eq_some_iff.mp h
                  subst h2
                  exact lv_lstore_n hx hb hd rfl hl.has (mm_st_2 rfl h1).1 rfl (fun ls' hl' => kk ls' (mm_lh.set2 rfl h1 hl'))
  | astore i => simp only [mm_loc] at h; split at h <;> first | cases h; done | skip
                obtain ⟨L', h1, h2⟩ := Option.map_eq_some_iff.mp h
                subst h2
                exact lv_astore hx hb hd hl.has (mm_st_1 rfl h1).1 rfl (fun ls' hl' => kk ls' (mm_lh.set1 rfl h1 hl'))
  | astore_n i => simp only [mm_loc] at h; split at h <;> first | cases h; done | skip
                  obtain ⟨L', h1, h2⟩ := Option.map_eq_some_iff.mp h
                  subst h2
                  exact lv_astore_n hx hb hd rfl hl.has (mm_st_1 rfl h1).1 rfl (fun ls' hl' => kk ls' (mm_lh.set1 rfl h1 hl'))
  | iinc i n => simp only [mm_loc] at h; split at h <;> first | cases h; done | skip
                rename_i x hv
                obtain ⟨L', h1, h2⟩ := Option.map_eq_some_iff.mp h
                subst h2
                obtain ⟨k, hk⟩ := List.mem_iff_getElem?.mp (mm_pr_mem (ad := ad) (q := (i, .int x)).mpr ⟨.int x, mm_ld_some hv, rfl⟩)
                exact lv_iinc hx hb hd hl.has hk rfl (mm_st_1 rfl h1).1 rfl (fun ls' hl' => kk ls' (mm_lh.set1 rfl h1 hl'))
  | _ => simp [mm_loc] at h
set_option maxHeartbeats 4000000 in
theorem so_br (hx : p.tables.exec = Jvm.exec) (hb : c.code = cc) {ad : Nat → Nat} {q : Instr} {a nx len pa pn : Nat} {S : List Value} {z : Nat × List Value} {off : Int} (ho : q = .goto off ∨ (∃ k, q = .ifCond k off) ∨ ∃ k, q = .if_icmp k off) (hn : mm_ln q = len) (hd : decode cc pc = .ok (q, len)) (ht : (pc : Int) + off = (pa : Int)) (hpn : pn = pc + len) (h : mm_br q a nx S = some z)
    (kk : ∀ pz : Nat, (z.1 = a ∧ pz = pa ∨ z.1 = nx ∧ pz = pn) → W p l e R s m args below meth c H locs cells slots Q (F0 m pz ls (z.2.map (mm_tv ad)))) : W p l e R s m args below meth c H locs cells slots Q (F0 m pc ls (S.map (mm_tv ad))) := by
  subst hn
  subst hpn
  rcases ho with rfl | ⟨k, rfl⟩ | ⟨k, rfl⟩
  · cases h
    exact lv_goto hx hb hd ht (kk pa (Or.inl ⟨rfl, rfl⟩))
  · cases k with
    | eq => simp only [mm_br] at h; split at h <;> cases h
            exact lv_if_eq hx hb hd ht (fun hc => kk _ (Or.inl ⟨if_pos hc, rfl⟩)) (fun hc => kk _ (Or.inr ⟨if_neg hc, rfl⟩))
    | ne => simp only [mm_br] at h; split at h <;> cases h
            exact lv_if_ne hx hb hd ht (fun hc => kk _ (Or.inl ⟨if_pos hc, rfl⟩)) (fun hc => kk _ (Or.inr ⟨if_neg (fun h => h hc), rfl⟩))
    | lt => simp only [mm_br] at h; split at h <;> cases h
            exact lv_if_lt hx hb hd ht (fun hc => kk _ (Or.inl ⟨if_pos hc, rfl⟩)) (fun hc => kk _ (Or.inr ⟨if_neg hc, rfl⟩))
    | ge => simp only [mm_br] at h; split at h <;> cases h
            exact lv_if_ge hx hb hd ht (fun hc => kk _ (Or.inl ⟨if_pos hc, rfl⟩)) (fun hc => kk _ (Or.inr ⟨if_neg hc, rfl⟩))
    | gt => simp only [mm_br] at h; split at h <;> cases h
            exact lv_if_gt hx hb hd ht (fun hc => kk _ (Or.inl ⟨if_pos hc, rfl⟩)) (fun hc => kk _ (Or.inr ⟨if_neg hc, rfl⟩))
    | le => simp only [mm_br] at h; split at h <;> cases h
            exact lv_if_le hx hb hd ht (fun hc => kk _ (Or.inl ⟨if_pos hc, rfl⟩)) (fun hc => kk _ (Or.inr ⟨if_neg hc, rfl⟩))
  · cases k with
    | eq => simp only [mm_br] at h; split at h <;> cases h
            exact lv_icmp_eq hx hb hd ht (fun hc => kk _ (Or.inl ⟨if_pos hc, rfl⟩)) (fun hc => kk _ (Or.inr ⟨if_neg hc, rfl⟩))
    | ne => simp only [mm_br] at h; split at h <;> cases h
            exact lv_icmp_ne hx hb hd ht (fun hc => kk _ (Or.inl ⟨if_pos hc, rfl⟩)) (fun hc => kk _ (Or.inr ⟨if_neg (fun h => h hc), rfl⟩))
    | lt => simp only [mm_br] at h; split at h <;> cases h
            exact lv_icmp_lt hx hb hd ht (fun hc => kk _ (Or.inl ⟨if_pos hc, rfl⟩)) (fun hc => kk _ (Or.inr ⟨if_neg hc, rfl⟩))
    | ge => simp only [mm_br] at h; split at h <;> cases h
            exact lv_icmp_ge hx hb hd ht (fun hc => kk _ (Or.inl ⟨if_pos hc, rfl⟩)) (fun hc => kk _ (Or.inr ⟨if_neg hc, rfl⟩))
    | gt => simp only [mm_br] at h; split at h <;> cases h
            exact lv_icmp_gt hx hb hd ht (fun hc => kk _ (Or.inl ⟨if_pos hc, rfl⟩)) (fun hc => kk _ (Or.inr ⟨if_neg hc, rfl⟩))
    | le => simp only [mm_br] at h; split at h <;> cases h
            exact lv_icmp_le hx hb hd ht (fun hc => kk _ (Or.inl ⟨if_pos hc, rfl⟩)) (fun hc => kk _ (Or.inr ⟨if_neg hc, rfl⟩))
end SO
end
section
/-! the small machine's world, as the kit's list of cells -/
def mm_nms : List String := [RX0, RX1, RX2, RX3, RX4, RX5, RX6, RX7, RX8, RX9, RX10, RX11, RL]
def mm_nm (o : Nat) : String := mm_nms[o]?.getD ""
def mm_tT (a : Nat) : u_T := ((vwCl[a]?).getD (RX0, TX0, 0)).2.1
def mm_ty (a : Nat) : Nat → FieldType := match a with
  | 0 => tyX0 | 1 => tyX1 | 2 => tyX2 | 3 => tyX3 | 4 => tyX4 | 5 => tyX5 | 6 => tyX6 | 7 => tyX7 | 8 => tyX8 | 9 => tyX9 | 10 => tyX10 | _ => tyX11
def mm_kty (k : Nat) (t : FieldType) : Bool := match k, t with
  | 0, .int => true
  | 1, .boolean => true
  | 2, .long => true
  | 3, .object _ => true
  | 3, .array _ => true
  | _, _ => false
theorem mm_kty_ok : (List.range 12).all (fun a => (List.range (mm_nf a)).all (fun j => mm_kty (mm_fk a j) (mm_ty a j))) = true := by decide +kernel
theorem mm_inst_ok : ∀ a, a < 12 → Cond.instantiable (mm_nm a) (mm_nf a) ∈ lw_tbl := by decide +kernel
theorem mm_init_ok : ∀ a, a < 12 → Cond.initialized (mm_nm a) ∈ lw_tbl := by decide +kernel
/-- what is known of a class by its number -/
theorem mm_class {a : Nat} (ha : a < 12) : vwCl[a]? = some (mm_nm a, mm_tT a, mm_nf a) ∧ (∀ w ∈ u_ws (mm_nm a) (mm_tT a) (mm_nf a), w ∈ lw_tbl) ∧ (∀ k, k < mm_nf a → parseFieldDescriptor (mm_tT a k).2.2.1 = some (mm_ty a k)) ∧ (∀ x, x < mm_nf a → ∀ y, y < mm_nf a → x ≠ y → (mm_tT a x).2.1 ≠ (mm_tT a y).2.1) := by
  rcases (by omega : a = 0 ∨ a = 1 ∨ a = 2 ∨ a = 3 ∨ a = 4 ∨ a = 5 ∨ a = 6 ∨ a = 7 ∨ a = 8 ∨ a = 9 ∨ a = 10 ∨ a = 11) with rfl | rfl | rfl | rfl | rfl | rfl | rfl | rfl | rfl | rfl | rfl | rfl
  · exact ⟨rfl, inX0, tyX0_ok, nmX0⟩
  · exact ⟨rfl, inX1, tyX1_ok, nmX1⟩
  · exact ⟨rfl, inX2, tyX2_ok, nmX2⟩
  · exact ⟨rfl, inX3, tyX3_ok, nmX3⟩
  · exact ⟨rfl, inX4, tyX4_ok, nmX4⟩
  · exact ⟨rfl, inX5, tyX5_ok, nmX5⟩
  · exact ⟨rfl, inX6, tyX6_ok, nmX6⟩
  · exact ⟨rfl, inX7, tyX7_ok, nmX7⟩
  · exact ⟨rfl, inX8, tyX8_ok, nmX8⟩
  · exact ⟨rfl, inX9, tyX9_ok, nmX9⟩
  · exact ⟨rfl, inX10, tyX10_ok, nmX10⟩
  · exact ⟨rfl, inX11, tyX11_ok, nmX11⟩
theorem mm_kind {a j : Nat} (ha : a < 12) (hj : j < mm_nf a) : mm_kty (mm_fk a j) (mm_ty a j) = true :=
  List.all_eq_true.mp (List.all_eq_true.mp mm_kty_ok a (List.mem_range.mpr ha)) j (List.mem_range.mpr hj)
def mm_fv (ad : Nat → Nat) (w : mm_W) (c k j : Nat) : Value := if mm_fk c j ≤ 1 then .int (w.2.2.1 k j) else if mm_fk c j = 2 then .long (w.2.2.2 k j) else va_rf ((w.2.1 k j).map ad)
def mm_el (cAI : ClassId) (cAR : Nat → ClassId) (ad : Nat → Nat) (w : mm_W) (k : Nat) (sh : Nat ⊕ ((Nat × Nat) ⊕ Nat)) : va_E := match sh with
  | .inl n => .inl (cAI, (n, .inl (w.2.2.1 k)))
  | .inr (.inl cn) => .inl (cAR cn.1, (cn.2, .inr (.inr (.inr (.inr (fun j => (w.2.1 k j).map ad))))))
  | .inr (.inr c) => .inr (c, (List.range (mm_nf c)).map (mm_fv ad w c k))
def mm_wl (cAI : ClassId) (cAR : Nat → ClassId) (ad : Nat → Nat) (w : mm_W) : va_W := w.1.mapIdx (fun k sh => (ad k, mm_el cAI cAR ad w k sh))
def mm_sl (sh : Nat ⊕ ((Nat × Nat) ⊕ Nat)) : Nat := match sh with
  | .inl n => n
  | .inr (.inl cn) => cn.2
  | .inr (.inr c) => mm_nf c
def mm_sz (G : mm_G) : Nat := (G.map mm_sl).sum
theorem mm_sz_app (G : mm_G) (sh : Nat ⊕ ((Nat × Nat) ⊕ Nat)) : mm_sz (G ++ [sh]) = mm_sz G + mm_sl sh := by simp [mm_sz]
theorem mm_tv_rf (ad : Nat → Nat) (r : Option Nat) : mm_tv ad (mm_rf r) = va_rf (r.map ad) := by cases r <;> rfl
section WL
variable {cAI : ClassId} {cAR : Nat → ClassId} {ad : Nat → Nat} {w w' : mm_W}
theorem mm_wl_len : (mm_wl cAI cAR ad w).length = w.1.length := by simp [mm_wl]
theorem mm_wl_at {k : Nat} {sh : Nat ⊕ ((Nat × Nat) ⊕ Nat)} (h : w.1[k]? = some sh) : (mm_wl cAI cAR ad w)[k]? = some (ad k, mm_el cAI cAR ad w k sh) := by
  simp [mm_wl, h]
theorem mm_wl_of {k : Nat} {q : Nat × va_E} (h : (mm_wl cAI cAR ad w)[k]? = some q) : ∃ sh, w.1[k]? = some sh ∧ q = (ad k, mm_el cAI cAR ad w k sh) := by
  simp only [mm_wl, List.getElem?_mapIdx, Option.map_eq_some_iff] at h
  obtain ⟨sh, h1, h2⟩ := h
  exact ⟨sh, h1, h2.symm⟩
theorem mm_el_eq {k : Nat} {sh : Nat ⊕ ((Nat × Nat) ⊕ Nat)} (h1 : w'.2.1 k = w.2.1 k) (h2 : w'.2.2.1 k = w.2.2.1 k) (h3 : w'.2.2.2 k = w.2.2.2 k) : mm_el cAI cAR ad w' k sh = mm_el cAI cAR ad w k sh := by
  have e : ∀ c, mm_fv ad w' c k = mm_fv ad w c k := fun c => by funext j; simp only [mm_fv, h1, h2, h3]
  rcases sh with n | cn | c
  · simp only [mm_el, h2]
  · simp only [mm_el, h1]
  · simp only [mm_el, e]
theorem mm_wl_set {k : Nat} {e : va_E} (hG : w'.1 = w.1) (hne : ∀ k', k' ≠ k → w'.2.1 k' = w.2.1 k' ∧ w'.2.2.1 k' = w.2.2.1 k' ∧ w'.2.2.2 k' = w.2.2.2 k') (he : ∀ sh, w.1[k]? = some sh → e = mm_el cAI cAR ad w' k sh) : (mm_wl cAI cAR ad w).set k (ad k, e) = mm_wl cAI cAR ad w' := by
  apply List.ext_getElem?
  intro i
  by_cases hi : i = k
  · subst hi
    cases hs : w.1[i]? with
    | none =>
      have hlen : w.1.length ≤ i := List.getElem?_eq_none_iff.mp hs
      rw [List.getElem?_eq_none (by rw [List.length_set, mm_wl_len]; exact hlen), List.getElem?_eq_none (by rw [mm_wl_len, hG]; exact hlen)]
    | some sh =>
      rw [List.getElem?_set_self (by rw [mm_wl_len]; exact (List.getElem?_eq_some_iff.mp hs).1), mm_wl_at (w := w') (k := i) (sh := sh) (by rw [hG]; exact hs), he sh hs]
  · rw [List.getElem?_set_ne (Ne.symm hi)]
    obtain ⟨h1, h2, h3⟩ := hne i hi
    simp only [mm_wl, List.getElem?_mapIdx, hG]
    cases w.1[i]? with
    | none => rfl
    | some sh => simp only [Option.map_some, mm_el_eq h1 h2 h3]
theorem mm_wl_app {sh : Nat ⊕ ((Nat × Nat) ⊕ Nat)} {e : va_E} (hG : w'.1 = w.1 ++ [sh]) (hne : ∀ k', k' ≠ w.1.length → w'.2.1 k' = w.2.1 k' ∧ w'.2.2.1 k' = w.2.2.1 k' ∧ w'.2.2.2 k' = w.2.2.2 k') (he : e = mm_el cAI cAR ad w' w.1.length sh) : mm_wl cAI cAR ad w ++ [(ad w.1.length, e)] = mm_wl cAI cAR ad w' := by
  apply List.ext_getElem?
  intro i
  by_cases hi : i < w.1.length
  · rw [List.getElem?_append_left (by rw [mm_wl_len]; exact hi)]
    obtain ⟨h1, h2, h3⟩ := hne i (by omega)
    simp only [mm_wl, List.getElem?_mapIdx, hG, List.getElem?_append_left hi]
    cases w.1[i]? with
    | none => rfl
    | some sh => simp only [Option.map_some, mm_el_eq h1 h2 h3]
  · rw [List.getElem?_append_right (by rw [mm_wl_len]; omega), mm_wl_len]
    by_cases hi2 : i = w.1.length
    · subst hi2
      rw [Nat.sub_self, mm_wl_at (w := w') (k := w.1.length) (sh := sh) (by rw [hG]; simp), he]
      rfl
    · rw [List.getElem?_eq_none (by simp; omega), List.getElem?_eq_none (by rw [mm_wl_len, hG]; simp; omega)]
theorem mm_wl_D {base : Nat} {E : Nat → Nat} (hl : w.1.length ≤ 1000) : va_D (fun q => base ≤ q) (mm_wl cAI cAR (mm_ad base E) w) := by
  have key : ∀ (k : Nat) (q : Nat × va_E), (mm_wl cAI cAR (mm_ad base E) w)[k]? = some q → q.1 = base + k := by
    intro k q h
    obtain ⟨sh, h1, rfl⟩ := mm_wl_of h
    have := (List.getElem?_eq_some_iff.mp h1).1
    show mm_ad base E k = base + k
    rw [mm_ad, if_pos (by omega)]
  refine ⟨fun i j x y hx hy h => ?_, fun k q h => ?_⟩
  · rw [key i x hx, key j y hy] at h
    omega
  · show base ≤ q.1
    rw [key k q h]
    omega
end WL
def mm_tys (cAI : ClassId) (cAR : Nat → ClassId) : List (ClassId × FieldType) := [(cAI, .int), (cAR 8, .object (mm_nm 8)), (cAR 6, .object (mm_nm 6)), (cAR 0, .object (mm_nm 0))]
def mm_rix (a : Nat) : Option Nat := if a = 8 then some 1 else if a = 6 then some 2 else if a = 0 then some 3 else none
theorem mm_tys_ref {cAI : ClassId} {cAR : Nat → ClassId} {a i : Nat} (h : mm_rix a = some i) : (mm_tys cAI cAR)[i]? = some (cAR a, .object (mm_nm a)) := by
  unfold mm_rix at h
  split at h
  · rename_i e; subst e; cases h; rfl
  · split at h
    · rename_i e; subst e; cases h; rfl
    · split at h
      · rename_i e; subst e; cases h; rfl
      · cases h
def mm_flw (o i a b : Nat) : Cond := if o = a then .fieldLink (mm_nm o) i (mm_tT a b).1 (mm_tT a b).2.1 (mm_tT a b).2.2.1 else .fieldLinkNest (mm_nm o) i (mm_tT a b).1 (mm_tT a b).2.1 (mm_tT a b).2.2.1 "ToastGaol"
/-- what the tables must say for an instruction of class o's method (ini: a constructor) -/
def mm_lk (o : Nat) (ini : Bool) (q : Instr) (a b : Nat) : Prop := match q with
  | .getfield i => a < 12 ∧ b < mm_nf a ∧ mm_flw o i a b ∈ lw_tbl
  | .putfield i => a < 12 ∧ b < mm_nf a ∧ mm_flw o i a b ∈ lw_tbl ∧ ((mm_tT a b).2.2.2 = false ∨ ((mm_tT a b).2.2.2 = true ∧ ini = true ∧ o = a ∧ (mm_tT a b).1 = mm_nm o))
  | .new i => a < 12 ∧ Cond.classLink (mm_nm o) i (mm_nm a) ∈ lw_tbl
  | .anewarray i => (∃ t, mm_rix a = some t) ∧ Cond.classLink (mm_nm o) i (mm_nm a) ∈ lw_tbl
  | .newarray t => t = .int
  | .getstatic i => (a = 1001 ∧ Cond.fieldLink (mm_nm o) i "ToastGaol" "GREATEST" "[I" ∈ lw_tbl) ∨ (a = 1002 ∧ Cond.fieldLink (mm_nm o) i "ToastGaol" "DIGEST_HOURS" "[I" ∈ lw_tbl)
  | .invokestatic i => (a = 1001 → Cond.methodLink (mm_nm o) i Lib.Math.max.name ∈ lw_tbl) ∧ (a = 1002 → Cond.methodLink (mm_nm o) i Lib.Math.min.name ∈ lw_tbl) ∧ (a = 1003 → Cond.methodLink (mm_nm o) i arraycopyName ∈ lw_tbl)
  | .invokespecial i => a = 1000 → Cond.methodLink (mm_nm o) i Lib.objectInit ∈ lw_tbl
  | _ => True
end
section
/-! the methods, as the small machine has them: printed by wip/tools/emit_tab.py -/
def k_X0_init : List mm_I := [(.aload_n 0, 0, 0, 1, 0, 1), (.invokespecial 3, 1000, 0, 2, 1, 3), (.aload_n 0, 0, 0, 3, 4, 1), (.bipush 8, 0, 0, 4, 5, 2), (.newarray .int, 0, 0, 5, 7, 2), (.putfield 9, 0, 1, 6, 9, 3), (.aload_n 0, 0, 0, 7, 12, 1), (.bipush 8, 0, 0, 8, 13, 2), (.newarray .int, 0, 0, 9, 15, 2), (.putfield 15, 0, 2, 10, 17, 3), (.aload_n 0, 0, 0, 11, 20, 1), (.bipush 8, 0, 0, 12, 21, 2), (.newarray .int, 0, 0, 13, 23, 2), (.putfield 18, 0, 3, 14, 25, 3), (.aload_n 0, 0, 0, 15, 28, 1), (.bipush 8, 0, 0, 16, 29, 2), (.newarray .int, 0, 0, 17, 31, 2), (.putfield 21, 0, 4, 18, 33, 3), (.aload_n 0, 0, 0, 19, 36, 1), (.bipush 8, 0, 0, 20, 37, 2), (.newarray .int, 0, 0, 21, 39, 2), (.putfield 24, 0, 5, 22, 41, 3), (.aload_n 0, 0, 0, 23, 44, 1), (.bipush 8, 0, 0, 24, 45, 2), (.newarray .int, 0, 0, 25, 47, 2), (.putfield 27, 0, 6, 26, 49, 3), (.aload_n 0, 0, 0, 27, 52, 1), (.bipush 12, 0, 0, 28, 53, 2), (.newarray .int, 0, 0, 29, 55, 2), (.putfield 30, 0, 7, 30, 57, 3), (.aload_n 0, 0, 0, 31, 60, 1), (.iconst 0, 0, 0, 32, 61, 1), (.putfield 33, 0, 8, 33, 62, 3), (.aload_n 0, 0, 0, 34, 65, 1), (.aload_n 1, 0, 0, 35, 66, 1), (.putfield 37, 0, 0, 36, 67, 3), (.return_, 0, 0, 0, 70, 1)]
def M_X0_init : mm_M := (0, 2, k_X0_init)
abbrev n_X0_init : Nat := 0
def k_X0_begin : List mm_I := [(.aload_n 0, 0, 0, 1, 0, 1), (.iconst 0, 0, 0, 2, 1, 1), (.putfield 33, 0, 8, 3, 2, 3), (.iconst 0, 0, 0, 4, 5, 1), (.istore_n 1, 0, 0, 5, 6, 1), (.iload_n 1, 0, 0, 6, 7, 1), (.aload_n 0, 0, 0, 7, 8, 1), (.getfield 37, 0, 0, 8, 9, 3), (.getfield 41, 5, 2, 9, 12, 3), (.if_icmp .ge 60, 45, 0, 10, 15, 3), (.aload_n 0, 0, 0, 11, 18, 1), (.getfield 9, 0, 1, 12, 19, 3), (.iload_n 1, 0, 0, 13, 22, 1), (.aload_n 0, 0, 0, 14, 23, 1), (.getfield 37, 0, 0, 15, 24, 3), (.getfield 46, 5, 4, 16, 27, 3), (.iload_n 1, 0, 0, 17, 30, 1), (.iaload, 0, 0, 18, 31, 1), (.iastore, 0, 0, 19, 32, 1), (.aload_n 0, 0, 0, 20, 33, 1), (.getfield 18, 0, 3, 21, 34, 3), (.iload_n 1, 0, 0, 22, 37, 1), (.aload_n 0, 0, 0, 23, 38, 1), (.getfield 37, 0, 0, 24, 39, 3), (.getfield 46, 5, 4, 25, 42, 3), (.iload_n 1, 0, 0, 26, 45, 1), (.iaload, 0, 0, 27, 46, 1), (.iastore, 0, 0, 28, 47, 1), (.aload_n 0, 0, 0, 29, 48, 1), (.getfield 15, 0, 2, 30, 49, 3), (.iload_n 1, 0, 0, 31, 52, 1), (.iconst 0, 0, 0, 32, 53, 1), (.iastore, 0, 0, 33, 54, 1), (.aload_n 0, 0, 0, 34, 55, 1), (.getfield 24, 0, 5, 35, 56, 3), (.iload_n 1, 0, 0, 36, 59, 1), (.iconst (-1), 0, 0, 37, 60, 1), (.iastore, 0, 0, 38, 61, 1), (.aload_n 0, 0, 0, 39, 62, 1), (.getfield 27, 0, 6, 40, 63, 3), (.iload_n 1, 0, 0, 41, 66, 1), (.iconst 0, 0, 0, 42, 67, 1), (.iastore, 0, 0, 43, 68, 1), (.iinc 1 1, 0, 0, 44, 69, 3), (.goto (-65), 5, 0, 0, 72, 3), (.return_, 0, 0, 0, 75, 1)]
def M_X0_begin : mm_M := (0, 2, k_X0_begin)
abbrev n_X0_begin : Nat := 1
def k_X0_goThrough : List mm_I := [(.aload_n 0, 0, 0, 1, 0, 1), (.invokevirtual 47, 1, 1, 2, 1, 3), (.iconst 0, 0, 0, 3, 4, 1), (.istore_n 1, 0, 0, 4, 5, 1), (.iload_n 1, 0, 0, 5, 6, 1), (.bipush 30, 0, 0, 6, 7, 2), (.if_icmp .ge 20, 16, 0, 7, 9, 3), (.aload_n 0, 0, 0, 8, 12, 1), (.iload_n 1, 0, 0, 9, 13, 1), (.invokevirtual 50, 4, 2, 10, 14, 3), (.aload_n 0, 0, 0, 11, 17, 1), (.iload_n 1, 0, 0, 12, 18, 1), (.iconst 0, 0, 0, 13, 19, 1), (.invokevirtual 54, 5, 3, 14, 20, 3), (.iinc 1 1, 0, 0, 15, 23, 3), (.goto (-20), 4, 0, 0, 26, 3), (.return_, 0, 0, 0, 29, 1)]
def M_X0_goThrough : mm_M := (0, 2, k_X0_goThrough)
abbrev n_X0_goThrough : Nat := 2
def k_X0_follow : List mm_I := [(.aload_n 1, 0, 0, 1, 0, 1), (.getfield 9, 0, 1, 2, 1, 3), (.iconst 0, 0, 0, 3, 4, 1), (.aload_n 0, 0, 0, 4, 5, 1), (.getfield 9, 0, 1, 5, 6, 3), (.iconst 0, 0, 0, 6, 9, 1), (.bipush 8, 0, 0, 7, 10, 2), (.invokestatic 58, 1003, 0, 8, 12, 3), (.aload_n 1, 0, 0, 9, 15, 1), (.getfield 15, 0, 2, 10, 16, 3), (.iconst 0, 0, 0, 11, 19, 1), (.aload_n 0, 0, 0, 12, 20, 1), (.getfield 15, 0, 2, 13, 21, 3), (.iconst 0, 0, 0, 14, 24, 1), (.bipush 8, 0, 0, 15, 25, 2), (.invokestatic 58, 1003, 0, 16, 27, 3), (.aload_n 1, 0, 0, 17, 30, 1), (.getfield 18, 0, 3, 18, 31, 3), (.iconst 0, 0, 0, 19, 34, 1), (.aload_n 0, 0, 0, 20, 35, 1), (.getfield 18, 0, 3, 21, 36, 3), (.iconst 0, 0, 0, 22, 39, 1), (.bipush 8, 0, 0, 23, 40, 2), (.invokestatic 58, 1003, 0, 24, 42, 3), (.aload_n 1, 0, 0, 25, 45, 1), (.getfield 21, 0, 4, 26, 46, 3), (.iconst 0, 0, 0, 27, 49, 1), (.aload_n 0, 0, 0, 28, 50, 1), (.getfield 21, 0, 4, 29, 51, 3), (.iconst 0, 0, 0, 30, 54, 1), (.bipush 8, 0, 0, 31, 55, 2), (.invokestatic 58, 1003, 0, 32, 57, 3), (.aload_n 1, 0, 0, 33, 60, 1), (.getfield 24, 0, 5, 34, 61, 3), (.iconst 0, 0, 0, 35, 64, 1), (.aload_n 0, 0, 0, 36, 65, 1), (.getfield 24, 0, 5, 37, 66, 3), (.iconst 0, 0, 0, 38, 69, 1), (.bipush 8, 0, 0, 39, 70, 2), (.invokestatic 58, 1003, 0, 40, 72, 3), (.aload_n 1, 0, 0, 41, 75, 1), (.getfield 27, 0, 6, 42, 76, 3), (.iconst 0, 0, 0, 43, 79, 1), (.aload_n 0, 0, 0, 44, 80, 1), (.getfield 27, 0, 6, 45, 81, 3), (.iconst 0, 0, 0, 46, 84, 1), (.bipush 8, 0, 0, 47, 85, 2), (.invokestatic 58, 1003, 0, 48, 87, 3), (.aload_n 0, 0, 0, 49, 90, 1), (.aload_n 1, 0, 0, 50, 91, 1), (.getfield 33, 0, 8, 51, 92, 3), (.putfield 33, 0, 8, 52, 95, 3), (.aload_n 0, 0, 0, 53, 98, 1), (.iload_n 2, 0, 0, 54, 99, 1), (.invokevirtual 50, 4, 2, 55, 100, 3), (.aload_n 0, 0, 0, 56, 103, 1), (.iload_n 2, 0, 0, 57, 104, 1), (.iload_n 3, 0, 0, 58, 105, 1), (.invokevirtual 54, 5, 3, 59, 106, 3), (.return_, 0, 0, 0, 109, 1)]
def M_X0_follow : mm_M := (0, 4, k_X0_follow)
abbrev n_X0_follow : Nat := 3
def k_X0_untilButters : List mm_I := [(.aload_n 0, 0, 0, 1, 0, 1), (.iload_n 1, 0, 0, 2, 1, 1), (.invokevirtual 64, 8, 2, 3, 2, 3), (.aload_n 0, 0, 0, 4, 5, 1), (.invokevirtual 67, 9, 1, 5, 6, 3), (.aload_n 0, 0, 0, 6, 9, 1), (.aload_n 0, 0, 0, 7, 10, 1), (.getfield 37, 0, 0, 8, 11, 3), (.iload_n 1, 0, 0, 9, 14, 1), (.invokevirtual 70, 42, 2, 10, 15, 3), (.invokevirtual 74, 10, 2, 11, 18, 3), (.return_, 0, 0, 0, 21, 1)]
def M_X0_untilButters : mm_M := (0, 2, k_X0_untilButters)
abbrev n_X0_untilButters : Nat := 4
def k_X0_fromButters : List mm_I := [(.aload_n 0, 0, 0, 1, 0, 1), (.iload_n 1, 0, 0, 2, 1, 1), (.invokevirtual 77, 11, 2, 3, 2, 3), (.aload_n 0, 0, 0, 4, 5, 1), (.invokevirtual 80, 13, 1, 5, 6, 3), (.iconst 0, 0, 0, 6, 9, 1), (.istore_n 3, 0, 0, 7, 10, 1), (.iload_n 3, 0, 0, 8, 11, 1), (.aload_n 0, 0, 0, 9, 12, 1), (.getfield 37, 0, 0, 10, 13, 3), (.getfield 41, 5, 2, 11, 16, 3), (.if_icmp .ge 64, 47, 0, 12, 19, 3), (.aload_n 0, 0, 0, 13, 22, 1), (.iload_n 3, 0, 0, 14, 23, 1), (.invokevirtual 83, 6, 2, 15, 24, 3), (.ifCond .eq 50, 45, 0, 16, 27, 3), (.aload_n 0, 0, 0, 17, 30, 1), (.getfield 9, 0, 1, 18, 31, 3), (.iload_n 3, 0, 0, 19, 34, 1), (.iconst 0, 0, 0, 20, 35, 1), (.aload_n 0, 0, 0, 21, 36, 1), (.getfield 9, 0, 1, 22, 37, 3), (.iload_n 3, 0, 0, 23, 40, 1), (.iaload, 0, 0, 24, 41, 1), (.aload_n 0, 0, 0, 25, 42, 1), (.iload_n 3, 0, 0, 26, 43, 1), (.iload_n 2, 0, 0, 27, 44, 1), (.invokevirtual 87, 14, 3, 28, 45, 3), (.isub, 0, 0, 29, 48, 1), (.invokestatic 91, 1001, 0, 30, 49, 3), (.iastore, 0, 0, 31, 52, 1), (.aload_n 0, 0, 0, 32, 53, 1), (.getfield 9, 0, 1, 33, 54, 3), (.iload_n 3, 0, 0, 34, 57, 1), (.iaload, 0, 0, 35, 58, 1), (.aload_n 0, 0, 0, 36, 59, 1), (.getfield 37, 0, 0, 37, 60, 3), (.getfield 96, 5, 6, 38, 63, 3), (.iconst 0, 0, 0, 39, 66, 1), (.iaload, 0, 0, 40, 67, 1), (.if_icmp .gt 9, 45, 0, 41, 68, 3), (.aload_n 0, 0, 0, 42, 71, 1), (.iload_n 3, 0, 0, 43, 72, 1), (.iload_n 1, 0, 0, 44, 73, 1), (.invokevirtual 99, 15, 3, 45, 74, 3), (.iinc 3 1, 0, 0, 46, 77, 3), (.goto (-69), 7, 0, 0, 80, 3), (.return_, 0, 0, 0, 83, 1)]
def M_X0_fromButters : mm_M := (0, 4, k_X0_fromButters)
abbrev n_X0_fromButters : Nat := 5
def k_X0_isIn : List mm_I := [(.aload_n 0, 0, 0, 1, 0, 1), (.getfield 15, 0, 2, 2, 1, 3), (.iload_n 1, 0, 0, 3, 4, 1), (.iaload, 0, 0, 4, 5, 1), (.ifCond .eq 13, 11, 0, 5, 6, 3), (.aload_n 0, 0, 0, 6, 9, 1), (.getfield 15, 0, 2, 7, 10, 3), (.iload_n 1, 0, 0, 8, 13, 1), (.iaload, 0, 0, 9, 14, 1), (.iconst 1, 0, 0, 10, 15, 1), (.if_icmp .ne 7, 13, 0, 11, 16, 3), (.iconst 1, 0, 0, 12, 19, 1), (.goto 4, 14, 0, 0, 20, 3), (.iconst 0, 0, 0, 14, 23, 1), (.ireturn, 0, 0, 0, 24, 1)]
def M_X0_isIn : mm_M := (2, 2, k_X0_isIn)
abbrev n_X0_isIn : Nat := 6
def k_X0_howManyIn : List mm_I := [(.iconst 0, 0, 0, 1, 0, 1), (.istore_n 1, 0, 0, 2, 1, 1), (.iconst 0, 0, 0, 3, 2, 1), (.istore_n 2, 0, 0, 4, 3, 1), (.iload_n 2, 0, 0, 5, 4, 1), (.aload_n 0, 0, 0, 6, 5, 1), (.getfield 37, 0, 0, 7, 6, 3), (.getfield 41, 5, 2, 8, 9, 3), (.if_icmp .ge 20, 16, 0, 9, 12, 3), (.aload_n 0, 0, 0, 10, 15, 1), (.iload_n 2, 0, 0, 11, 16, 1), (.invokevirtual 83, 6, 2, 12, 17, 3), (.ifCond .eq 6, 14, 0, 13, 20, 3), (.iinc 1 1, 0, 0, 14, 23, 3), (.iinc 2 1, 0, 0, 15, 26, 3), (.goto (-25), 4, 0, 0, 29, 3), (.iload_n 1, 0, 0, 17, 32, 1), (.ireturn, 0, 0, 0, 33, 1)]
def M_X0_howManyIn : mm_M := (1, 3, k_X0_howManyIn)
abbrev n_X0_howManyIn : Nat := 7
def k_X0_comeAgain : List mm_I := [(.iconst 0, 0, 0, 1, 0, 1), (.istore_n 2, 0, 0, 2, 1, 1), (.iload_n 2, 0, 0, 3, 2, 1), (.aload_n 0, 0, 0, 4, 3, 1), (.getfield 37, 0, 0, 5, 4, 3), (.getfield 41, 5, 2, 6, 7, 3), (.if_icmp .ge 97, 65, 0, 7, 10, 3), (.aload_n 0, 0, 0, 8, 13, 1), (.getfield 15, 0, 2, 9, 14, 3), (.iload_n 2, 0, 0, 10, 17, 1), (.iaload, 0, 0, 11, 18, 1), (.iconst 2, 0, 0, 12, 19, 1), (.if_icmp .ne 81, 63, 0, 13, 20, 3), (.aload_n 0, 0, 0, 14, 23, 1), (.getfield 37, 0, 0, 15, 24, 3), (.getfield 102, 5, 3, 16, 27, 3), (.iload_n 2, 0, 0, 17, 30, 1), (.iaload, 0, 0, 18, 31, 1), (.iconst 1, 0, 0, 19, 32, 1), (.if_icmp .ne 68, 63, 0, 20, 33, 3), (.aload_n 0, 0, 0, 21, 36, 1), (.getfield 21, 0, 4, 22, 37, 3), (.iload_n 2, 0, 0, 23, 40, 1), (.iaload, 0, 0, 24, 41, 1), (.iload_n 1, 0, 0, 25, 42, 1), (.iconst 3, 0, 0, 26, 43, 1), (.isub, 0, 0, 27, 44, 1), (.if_icmp .ne 56, 63, 0, 28, 45, 3), (.aload_n 0, 0, 0, 29, 48, 1), (.getfield 18, 0, 3, 30, 49, 3), (.iload_n 2, 0, 0, 31, 52, 1), (.iaload, 0, 0, 32, 53, 1), (.iconst 2, 0, 0, 33, 54, 1), (.idiv, 0, 0, 34, 55, 1), (.aload_n 0, 0, 0, 35, 56, 1), (.getfield 37, 0, 0, 36, 57, 3), (.getfield 96, 5, 6, 37, 60, 3), (.iconst 0, 0, 0, 38, 63, 1), (.iaload, 0, 0, 39, 64, 1), (.if_icmp .le 36, 63, 0, 40, 65, 3), (.aload_n 0, 0, 0, 41, 68, 1), (.getfield 18, 0, 3, 42, 69, 3), (.iload_n 2, 0, 0, 43, 72, 1), (.aload_n 0, 0, 0, 44, 73, 1), (.getfield 18, 0, 3, 45, 74, 3), (.iload_n 2, 0, 0, 46, 77, 1), (.iaload, 0, 0, 47, 78, 1), (.iconst 2, 0, 0, 48, 79, 1), (.idiv, 0, 0, 49, 80, 1), (.iastore, 0, 0, 50, 81, 1), (.aload_n 0, 0, 0, 51, 82, 1), (.getfield 9, 0, 1, 52, 83, 3), (.iload_n 2, 0, 0, 53, 86, 1), (.aload_n 0, 0, 0, 54, 87, 1), (.getfield 18, 0, 3, 55, 88, 3), (.iload_n 2, 0, 0, 56, 91, 1), (.iaload, 0, 0, 57, 92, 1), (.iastore, 0, 0, 58, 93, 1), (.aload_n 0, 0, 0, 59, 94, 1), (.getfield 15, 0, 2, 60, 95, 3), (.iload_n 2, 0, 0, 61, 98, 1), (.iconst 0, 0, 0, 62, 99, 1), (.iastore, 0, 0, 63, 100, 1), (.iinc 2 1, 0, 0, 64, 101, 3), (.goto (-102), 2, 0, 0, 104, 3), (.return_, 0, 0, 0, 107, 1)]
def M_X0_comeAgain : mm_M := (0, 3, k_X0_comeAgain)
abbrev n_X0_comeAgain : Nat := 8
def k_X0_takePlaces : List mm_I := [(.iconst 0, 0, 0, 1, 0, 1), (.istore_n 1, 0, 0, 2, 1, 1), (.iload_n 1, 0, 0, 3, 2, 1), (.aload_n 0, 0, 0, 4, 3, 1), (.getfield 37, 0, 0, 5, 4, 3), (.getfield 41, 5, 2, 6, 7, 3), (.if_icmp .ge 69, 45, 0, 7, 10, 3), (.aload_n 0, 0, 0, 8, 13, 1), (.getfield 37, 0, 0, 9, 14, 3), (.getfield 105, 5, 5, 10, 17, 3), (.iload_n 1, 0, 0, 11, 20, 1), (.iaload, 0, 0, 12, 21, 1), (.istore_n 2, 0, 0, 13, 22, 1), (.aload_n 0, 0, 0, 14, 23, 1), (.getfield 15, 0, 2, 15, 24, 3), (.iload_n 1, 0, 0, 16, 27, 1), (.iaload, 0, 0, 17, 28, 1), (.ifCond .ne 44, 43, 0, 18, 29, 3), (.iload_n 2, 0, 0, 19, 32, 1), (.aload_n 0, 0, 0, 20, 33, 1), (.getfield 37, 0, 0, 21, 34, 3), (.getfield 108, 5, 0, 22, 37, 3), (.if_icmp .ge 33, 43, 0, 23, 40, 3), (.aload_n 0, 0, 0, 24, 43, 1), (.getfield 33, 0, 8, 25, 44, 3), (.iload_n 2, 0, 0, 26, 47, 1), (.ishr, 0, 0, 27, 48, 1), (.iconst 1, 0, 0, 28, 49, 1), (.iand, 0, 0, 29, 50, 1), (.ifCond .ne 22, 43, 0, 30, 51, 3), (.aload_n 0, 0, 0, 31, 54, 1), (.getfield 15, 0, 2, 32, 55, 3), (.iload_n 1, 0, 0, 33, 58, 1), (.iconst 1, 0, 0, 34, 59, 1), (.iastore, 0, 0, 35, 60, 1), (.aload_n 0, 0, 0, 36, 61, 1), (.dup, 0, 0, 37, 62, 1), (.getfield 33, 0, 8, 38, 63, 3), (.iconst 1, 0, 0, 39, 66, 1), (.iload_n 2, 0, 0, 40, 67, 1), (.ishl, 0, 0, 41, 68, 1), (.ior, 0, 0, 42, 69, 1), (.putfield 33, 0, 8, 43, 70, 3), (.iinc 1 1, 0, 0, 44, 73, 3), (.goto (-74), 2, 0, 0, 76, 3), (.return_, 0, 0, 0, 79, 1)]
def M_X0_takePlaces : mm_M := (0, 3, k_X0_takePlaces)
abbrev n_X0_takePlaces : Nat := 9
def k_X0_warm : List mm_I := [(.iload_n 1, 0, 0, 1, 0, 1), (.ifCond .ne 4, 3, 0, 2, 1, 3), (.return_, 0, 0, 0, 4, 1), (.iconst 0, 0, 0, 4, 5, 1), (.istore_n 2, 0, 0, 5, 6, 1), (.iload_n 2, 0, 0, 6, 7, 1), (.aload_n 0, 0, 0, 7, 8, 1), (.getfield 37, 0, 0, 8, 9, 3), (.getfield 41, 5, 2, 9, 12, 3), (.if_icmp .ge 41, 32, 0, 10, 15, 3), (.aload_n 0, 0, 0, 11, 18, 1), (.getfield 15, 0, 2, 12, 19, 3), (.iload_n 2, 0, 0, 13, 22, 1), (.iaload, 0, 0, 14, 23, 1), (.iconst 1, 0, 0, 15, 24, 1), (.if_icmp .ne 25, 30, 0, 16, 25, 3), (.aload_n 0, 0, 0, 17, 28, 1), (.getfield 9, 0, 1, 18, 29, 3), (.iload_n 2, 0, 0, 19, 32, 1), (.bipush 99, 0, 0, 20, 33, 2), (.aload_n 0, 0, 0, 21, 35, 1), (.getfield 9, 0, 1, 22, 36, 3), (.iload_n 2, 0, 0, 23, 39, 1), (.iaload, 0, 0, 24, 40, 1), (.bipush 20, 0, 0, 25, 41, 2), (.iload_n 1, 0, 0, 26, 43, 1), (.imul, 0, 0, 27, 44, 1), (.iadd, 0, 0, 28, 45, 1), (.invokestatic 111, 1002, 0, 29, 46, 3), (.iastore, 0, 0, 30, 49, 1), (.iinc 2 1, 0, 0, 31, 50, 3), (.goto (-46), 5, 0, 0, 53, 3), (.return_, 0, 0, 0, 56, 1)]
def M_X0_warm : mm_M := (0, 3, k_X0_warm)
abbrev n_X0_warm : Nat := 10
def k_X0_spread : List mm_I := [(.iconst 0, 0, 0, 1, 0, 1), (.istore_n 2, 0, 0, 2, 1, 1), (.iload_n 2, 0, 0, 3, 2, 1), (.aload_n 0, 0, 0, 4, 3, 1), (.getfield 37, 0, 0, 5, 4, 3), (.getfield 114, 5, 7, 6, 7, 3), (.if_icmp .ge 75, 45, 0, 7, 10, 3), (.aload_n 0, 0, 0, 8, 13, 1), (.getfield 37, 0, 0, 9, 14, 3), (.getfield 117, 5, 9, 10, 17, 3), (.iload_n 2, 0, 0, 11, 20, 1), (.iaload, 0, 0, 12, 21, 1), (.istore_n 3, 0, 0, 13, 22, 1), (.aload_n 0, 0, 0, 14, 23, 1), (.getfield 37, 0, 0, 15, 24, 3), (.getfield 120, 5, 8, 16, 27, 3), (.iload_n 2, 0, 0, 17, 30, 1), (.iaload, 0, 0, 18, 31, 1), (.iload_n 1, 0, 0, 19, 32, 1), (.if_icmp .ne 46, 43, 0, 20, 33, 3), (.iload_n 3, 0, 0, 21, 36, 1), (.aload_n 0, 0, 0, 22, 37, 1), (.getfield 37, 0, 0, 23, 38, 3), (.getfield 41, 5, 2, 24, 41, 3), (.if_icmp .ge 35, 43, 0, 25, 44, 3), (.aload_n 0, 0, 0, 26, 47, 1), (.iload_n 3, 0, 0, 27, 48, 1), (.invokevirtual 83, 6, 2, 28, 49, 3), (.ifCond .eq 27, 43, 0, 29, 52, 3), (.aload_n 0, 0, 0, 30, 55, 1), (.getfield 9, 0, 1, 31, 56, 3), (.iload_n 3, 0, 0, 32, 59, 1), (.iaload, 0, 0, 33, 60, 1), (.aload_n 0, 0, 0, 34, 61, 1), (.getfield 37, 0, 0, 35, 62, 3), (.getfield 96, 5, 6, 36, 65, 3), (.iconst 2, 0, 0, 37, 68, 1), (.iaload, 0, 0, 38, 69, 1), (.if_icmp .le 9, 43, 0, 39, 70, 3), (.aload_n 0, 0, 0, 40, 73, 1), (.iload_n 3, 0, 0, 41, 74, 1), (.iconst 3, 0, 0, 42, 75, 1), (.invokevirtual 123, 12, 3, 43, 76, 3), (.iinc 2 1, 0, 0, 44, 79, 3), (.goto (-80), 2, 0, 0, 82, 3), (.return_, 0, 0, 0, 85, 1)]
def M_X0_spread : mm_M := (0, 4, k_X0_spread)
abbrev n_X0_spread : Nat := 11
def k_X0_leave : List mm_I := [(.aload_n 0, 0, 0, 1, 0, 1), (.getfield 15, 0, 2, 2, 1, 3), (.iload_n 1, 0, 0, 3, 4, 1), (.iaload, 0, 0, 4, 5, 1), (.iconst 1, 0, 0, 5, 6, 1), (.if_icmp .ne 25, 20, 0, 6, 7, 3), (.aload_n 0, 0, 0, 7, 10, 1), (.dup, 0, 0, 8, 11, 1), (.getfield 33, 0, 8, 9, 12, 3), (.iconst 1, 0, 0, 10, 15, 1), (.aload_n 0, 0, 0, 11, 16, 1), (.getfield 37, 0, 0, 12, 17, 3), (.getfield 105, 5, 5, 13, 20, 3), (.iload_n 1, 0, 0, 14, 23, 1), (.iaload, 0, 0, 15, 24, 1), (.ishl, 0, 0, 16, 25, 1), (.iconst (-1), 0, 0, 17, 26, 1), (.ixor, 0, 0, 18, 27, 1), (.iand, 0, 0, 19, 28, 1), (.putfield 33, 0, 8, 20, 29, 3), (.aload_n 0, 0, 0, 21, 32, 1), (.getfield 15, 0, 2, 22, 33, 3), (.iload_n 1, 0, 0, 23, 36, 1), (.iload_n 2, 0, 0, 24, 37, 1), (.iastore, 0, 0, 25, 38, 1), (.return_, 0, 0, 0, 39, 1)]
def M_X0_leave : mm_M := (0, 3, k_X0_leave)
abbrev n_X0_leave : Nat := 12
def k_X0_feelWarmth : List mm_I := [(.aload_n 0, 0, 0, 1, 0, 1), (.getfield 37, 0, 0, 2, 1, 3), (.getfield 108, 5, 0, 3, 4, 3), (.iconst 2, 0, 0, 4, 7, 1), (.iadd, 0, 0, 5, 8, 1), (.bipush 12, 0, 0, 6, 9, 2), (.invokestatic 111, 1002, 0, 7, 11, 3), (.istore_n 1, 0, 0, 8, 14, 1), (.iconst 0, 0, 0, 9, 15, 1), (.istore_n 2, 0, 0, 10, 16, 1), (.iload_n 2, 0, 0, 11, 17, 1), (.iload_n 1, 0, 0, 12, 18, 1), (.if_icmp .ge 16, 20, 0, 13, 19, 3), (.aload_n 0, 0, 0, 14, 22, 1), (.getfield 30, 0, 7, 15, 23, 3), (.iload_n 2, 0, 0, 16, 26, 1), (.iconst 0, 0, 0, 17, 27, 1), (.iastore, 0, 0, 18, 28, 1), (.iinc 2 1, 0, 0, 19, 29, 3), (.goto (-15), 10, 0, 0, 32, 3), (.iconst 0, 0, 0, 21, 35, 1), (.istore_n 2, 0, 0, 22, 36, 1), (.iload_n 2, 0, 0, 23, 37, 1), (.aload_n 0, 0, 0, 24, 38, 1), (.getfield 37, 0, 0, 25, 39, 3), (.getfield 41, 5, 2, 26, 42, 3), (.if_icmp .ge 41, 49, 0, 27, 45, 3), (.aload_n 0, 0, 0, 28, 48, 1), (.getfield 15, 0, 2, 29, 49, 3), (.iload_n 2, 0, 0, 30, 52, 1), (.iaload, 0, 0, 31, 53, 1), (.iconst 1, 0, 0, 32, 54, 1), (.if_icmp .ne 25, 47, 0, 33, 55, 3), (.aload_n 0, 0, 0, 34, 58, 1), (.getfield 30, 0, 7, 35, 59, 3), (.aload_n 0, 0, 0, 36, 62, 1), (.getfield 37, 0, 0, 37, 63, 3), (.getfield 105, 5, 5, 38, 66, 3), (.iload_n 2, 0, 0, 39, 69, 1), (.iaload, 0, 0, 40, 70, 1), (.iconst 1, 0, 0, 41, 71, 1), (.iadd, 0, 0, 42, 72, 1), (.aload_n 0, 0, 0, 43, 73, 1), (.getfield 9, 0, 1, 44, 74, 3), (.iload_n 2, 0, 0, 45, 77, 1), (.iaload, 0, 0, 46, 78, 1), (.iastore, 0, 0, 47, 79, 1), (.iinc 2 1, 0, 0, 48, 80, 3), (.goto (-46), 22, 0, 0, 83, 3), (.return_, 0, 0, 0, 86, 1)]
def M_X0_feelWarmth : mm_M := (0, 3, k_X0_feelWarmth)
abbrev n_X0_feelWarmth : Nat := 13
def k_X0_cooling : List mm_I := [(.aload_n 0, 0, 0, 1, 0, 1), (.getfield 15, 0, 2, 2, 1, 3), (.iload_n 1, 0, 0, 3, 4, 1), (.iaload, 0, 0, 4, 5, 1), (.ifCond .ne 5, 7, 0, 5, 6, 3), (.iconst 1, 0, 0, 6, 9, 1), (.ireturn, 0, 0, 0, 10, 1), (.aload_n 0, 0, 0, 8, 11, 1), (.getfield 37, 0, 0, 9, 12, 3), (.getfield 105, 5, 5, 10, 15, 3), (.iload_n 1, 0, 0, 11, 18, 1), (.iaload, 0, 0, 12, 19, 1), (.istore_n 3, 0, 0, 13, 20, 1), (.aload_n 0, 0, 0, 14, 21, 1), (.getfield 37, 0, 0, 15, 22, 3), (.getfield 102, 5, 3, 16, 25, 3), (.iload_n 1, 0, 0, 17, 28, 1), (.iaload, 0, 0, 18, 29, 1), (.istore 4, 0, 0, 19, 30, 2), (.aload_n 0, 0, 0, 20, 32, 1), (.getfield 37, 0, 0, 21, 33, 3), (.getfield 126, 5, 1, 22, 36, 3), (.iload_n 3, 0, 0, 23, 39, 1), (.iaload, 0, 0, 24, 40, 1), (.iload_n 2, 0, 0, 25, 41, 1), (.iadd, 0, 0, 26, 42, 1), (.iconst 1, 0, 0, 27, 43, 1), (.iadd, 0, 0, 28, 44, 1), (.aload_n 0, 0, 0, 29, 45, 1), (.getfield 37, 0, 0, 30, 46, 3), (.getfield 96, 5, 6, 31, 49, 3), (.iconst 1, 0, 0, 32, 52, 1), (.iaload, 0, 0, 33, 53, 1), (.isub, 0, 0, 34, 54, 1), (.istore 5, 0, 0, 35, 55, 2), (.iload 4, 0, 0, 36, 57, 2), (.iconst 3, 0, 0, 37, 59, 1), (.if_icmp .eq 21, 48, 0, 38, 60, 3), (.aload_n 0, 0, 0, 39, 63, 1), (.getfield 30, 0, 7, 40, 64, 3), (.iload_n 3, 0, 0, 41, 67, 1), (.iaload, 0, 0, 42, 68, 1), (.aload_n 0, 0, 0, 43, 69, 1), (.getfield 9, 0, 1, 44, 70, 3), (.iload_n 1, 0, 0, 45, 73, 1), (.iaload, 0, 0, 46, 74, 1), (.if_icmp .le 6, 48, 0, 47, 75, 3), (.iinc 5 (-1), 0, 0, 48, 78, 3), (.iload 4, 0, 0, 49, 81, 2), (.iconst 3, 0, 0, 50, 83, 1), (.if_icmp .eq 23, 63, 0, 51, 84, 3), (.aload_n 0, 0, 0, 52, 87, 1), (.getfield 30, 0, 7, 53, 88, 3), (.iload_n 3, 0, 0, 54, 91, 1), (.iconst 2, 0, 0, 55, 92, 1), (.iadd, 0, 0, 56, 93, 1), (.iaload, 0, 0, 57, 94, 1), (.aload_n 0, 0, 0, 58, 95, 1), (.getfield 9, 0, 1, 59, 96, 3), (.iload_n 1, 0, 0, 60, 99, 1), (.iaload, 0, 0, 61, 100, 1), (.if_icmp .le 6, 63, 0, 62, 101, 3), (.iinc 5 (-1), 0, 0, 63, 104, 3), (.iconst 0, 0, 0, 64, 107, 1), (.iload 5, 0, 0, 65, 108, 2), (.invokestatic 91, 1001, 0, 66, 110, 3), (.istore 5, 0, 0, 67, 113, 2), (.iload 4, 0, 0, 68, 115, 2), (.ifCond .ne 8, 73, 0, 69, 117, 3), (.iload 5, 0, 0, 70, 120, 2), (.iconst 1, 0, 0, 71, 122, 1), (.iadd, 0, 0, 72, 123, 1), (.ireturn, 0, 0, 0, 124, 1), (.iload 4, 0, 0, 74, 125, 2), (.iconst 2, 0, 0, 75, 127, 1), (.if_icmp .ne 10, 80, 0, 76, 128, 3), (.iload 5, 0, 0, 77, 131, 2), (.iconst 2, 0, 0, 78, 133, 1), (.idiv, 0, 0, 79, 134, 1), (.goto 5, 81, 0, 0, 135, 3), (.iload 5, 0, 0, 81, 138, 2), (.ireturn, 0, 0, 0, 140, 1)]
def M_X0_cooling : mm_M := (1, 6, k_X0_cooling)
abbrev n_X0_cooling : Nat := 14
def k_X0_letGo : List mm_I := [(.aload_n 0, 0, 0, 1, 0, 1), (.iload_n 1, 0, 0, 2, 1, 1), (.iconst 2, 0, 0, 3, 2, 1), (.invokevirtual 123, 12, 3, 4, 3, 3), (.aload_n 0, 0, 0, 5, 6, 1), (.getfield 21, 0, 4, 6, 7, 3), (.iload_n 1, 0, 0, 7, 10, 1), (.iload_n 2, 0, 0, 8, 11, 1), (.iastore, 0, 0, 9, 12, 1), (.aload_n 0, 0, 0, 10, 13, 1), (.getfield 27, 0, 6, 11, 14, 3), (.iload_n 1, 0, 0, 12, 17, 1), (.dup2, 0, 0, 13, 18, 1), (.iaload, 0, 0, 14, 19, 1), (.iconst 1, 0, 0, 15, 20, 1), (.iadd, 0, 0, 16, 21, 1), (.iastore, 0, 0, 17, 22, 1), (.aload_n 0, 0, 0, 18, 23, 1), (.getfield 24, 0, 5, 19, 24, 3), (.iload_n 1, 0, 0, 20, 27, 1), (.iaload, 0, 0, 21, 28, 1), (.iconst (-1), 0, 0, 22, 29, 1), (.if_icmp .ne 10, 28, 0, 23, 30, 3), (.aload_n 0, 0, 0, 24, 33, 1), (.getfield 24, 0, 5, 25, 34, 3), (.iload_n 1, 0, 0, 26, 37, 1), (.iload_n 2, 0, 0, 27, 38, 1), (.iastore, 0, 0, 28, 39, 1), (.return_, 0, 0, 0, 40, 1)]
def M_X0_letGo : mm_M := (0, 3, k_X0_letGo)
abbrev n_X0_letGo : Nat := 15
def k_X1_init : List mm_I := [(.aload_n 0, 0, 0, 1, 0, 1), (.invokespecial 3, 1000, 0, 2, 1, 3), (.aload_n 0, 0, 0, 3, 4, 1), (.bipush 100, 0, 0, 4, 5, 2), (.newarray .int, 0, 0, 5, 7, 2), (.putfield 9, 1, 3, 6, 9, 3), (.aload_n 0, 0, 0, 7, 12, 1), (.iconst 0, 0, 0, 8, 13, 1), (.putfield 15, 1, 4, 9, 14, 3), (.aload_n 0, 0, 0, 10, 17, 1), (.bipush 8, 0, 0, 11, 18, 2), (.newarray .int, 0, 0, 12, 20, 2), (.putfield 19, 1, 5, 13, 22, 3), (.aload_n 0, 0, 0, 14, 25, 1), (.bipush 32, 0, 0, 15, 26, 2), (.newarray .int, 0, 0, 16, 28, 2), (.putfield 22, 1, 6, 17, 30, 3), (.aload_n 0, 0, 0, 18, 33, 1), (.aload_n 1, 0, 0, 19, 34, 1), (.putfield 25, 1, 0, 20, 35, 3), (.aload_n 0, 0, 0, 21, 38, 1), (.aload_n 2, 0, 0, 22, 39, 1), (.putfield 29, 1, 1, 23, 40, 3), (.aload_n 0, 0, 0, 24, 43, 1), (.aload_n 3, 0, 0, 25, 44, 1), (.putfield 33, 1, 2, 26, 45, 3), (.return_, 0, 0, 0, 48, 1)]
def M_X1_init : mm_M := (0, 4, k_X1_init)
abbrev n_X1_init : Nat := 16
def k_X1_findHeats : List mm_I := [(.aload_n 0, 0, 0, 1, 0, 1), (.iconst 0, 0, 0, 2, 1, 1), (.putfield 15, 1, 4, 3, 2, 3), (.aload_n 0, 0, 0, 4, 5, 1), (.getfield 25, 1, 0, 5, 6, 3), (.getfield 37, 5, 4, 6, 9, 3), (.iload_n 1, 0, 0, 7, 12, 1), (.iaload, 0, 0, 8, 13, 1), (.istore_n 2, 0, 0, 9, 14, 1), (.iconst 0, 0, 0, 10, 15, 1), (.istore_n 3, 0, 0, 11, 16, 1), (.iload_n 3, 0, 0, 12, 17, 1), (.bipush 100, 0, 0, 13, 18, 2), (.if_icmp .ge 47, 38, 0, 14, 20, 3), (.aload_n 0, 0, 0, 15, 23, 1), (.getfield 25, 1, 0, 16, 24, 3), (.getfield 37, 5, 4, 17, 27, 3), (.iload_n 1, 0, 0, 18, 30, 1), (.iload_n 3, 0, 0, 19, 31, 1), (.iastore, 0, 0, 20, 32, 1), (.aload_n 0, 0, 0, 21, 33, 1), (.iconst (-1), 0, 0, 22, 34, 1), (.invokevirtual 42, 23, 2, 23, 35, 3), (.ifCond .eq 23, 36, 0, 24, 38, 3), (.aload_n 0, 0, 0, 25, 41, 1), (.getfield 9, 1, 3, 26, 42, 3), (.aload_n 0, 0, 0, 27, 45, 1), (.getfield 15, 1, 4, 28, 46, 3), (.iload_n 3, 0, 0, 29, 49, 1), (.iastore, 0, 0, 30, 50, 1), (.aload_n 0, 0, 0, 31, 51, 1), (.dup, 0, 0, 32, 52, 1), (.getfield 15, 1, 4, 33, 53, 3), (.iconst 1, 0, 0, 34, 56, 1), (.iadd, 0, 0, 35, 57, 1), (.putfield 15, 1, 4, 36, 58, 3), (.iinc 3 1, 0, 0, 37, 61, 3), (.goto (-47), 11, 0, 0, 64, 3), (.aload_n 0, 0, 0, 39, 67, 1), (.getfield 25, 1, 0, 40, 68, 3), (.getfield 37, 5, 4, 41, 71, 3), (.iload_n 1, 0, 0, 42, 74, 1), (.iload_n 2, 0, 0, 43, 75, 1), (.iastore, 0, 0, 44, 76, 1), (.return_, 0, 0, 0, 77, 1)]
def M_X1_findHeats : mm_M := (0, 4, k_X1_findHeats)
abbrev n_X1_findHeats : Nat := 17
def k_X1_heatAt : List mm_I := [(.iload_n 1, 0, 0, 1, 0, 1), (.iconst (-1), 0, 0, 2, 1, 1), (.if_icmp .ne 8, 6, 0, 3, 2, 3), (.aload_n 0, 0, 0, 4, 5, 1), (.getfield 15, 1, 4, 5, 6, 3), (.ireturn, 0, 0, 0, 9, 1), (.iload_n 1, 0, 0, 7, 10, 1), (.ifCond .lt 20, 17, 0, 8, 11, 3), (.iload_n 1, 0, 0, 9, 14, 1), (.aload_n 0, 0, 0, 10, 15, 1), (.getfield 15, 1, 4, 11, 16, 3), (.if_icmp .ge 12, 17, 0, 12, 19, 3), (.aload_n 0, 0, 0, 13, 22, 1), (.getfield 9, 1, 3, 14, 23, 3), (.iload_n 1, 0, 0, 15, 26, 1), (.iaload, 0, 0, 16, 27, 1), (.goto 4, 18, 0, 0, 28, 3), (.iconst (-1), 0, 0, 18, 31, 1), (.ireturn, 0, 0, 0, 32, 1)]
def M_X1_heatAt : mm_M := (1, 2, k_X1_heatAt)
abbrev n_X1_heatAt : Nat := 18
def k_X1_slotsOf : List mm_I := [(.iconst 0, 0, 0, 1, 0, 1), (.istore_n 2, 0, 0, 2, 1, 1), (.aload_n 0, 0, 0, 3, 2, 1), (.getfield 25, 1, 0, 4, 3, 3), (.getfield 46, 5, 5, 5, 6, 3), (.iload_n 1, 0, 0, 6, 9, 1), (.iaload, 0, 0, 7, 10, 1), (.istore_n 3, 0, 0, 8, 11, 1), (.iconst 0, 0, 0, 9, 12, 1), (.istore 4, 0, 0, 10, 13, 2), (.iload 4, 0, 0, 11, 15, 2), (.bipush 10, 0, 0, 12, 17, 2), (.if_icmp .ge 35, 31, 0, 13, 19, 3), (.aload_n 0, 0, 0, 14, 22, 1), (.getfield 25, 1, 0, 15, 23, 3), (.getfield 46, 5, 5, 16, 26, 3), (.iload_n 1, 0, 0, 17, 29, 1), (.iload 4, 0, 0, 18, 30, 2), (.iastore, 0, 0, 19, 32, 1), (.aload_n 0, 0, 0, 20, 33, 1), (.iconst (-1), 0, 0, 21, 34, 1), (.invokevirtual 42, 23, 2, 22, 35, 3), (.ifCond .eq 10, 29, 0, 23, 38, 3), (.iload_n 2, 0, 0, 24, 41, 1), (.iconst 1, 0, 0, 25, 42, 1), (.iload 4, 0, 0, 26, 43, 2), (.ishl, 0, 0, 27, 45, 1), (.ior, 0, 0, 28, 46, 1), (.istore_n 2, 0, 0, 29, 47, 1), (.iinc 4 1, 0, 0, 30, 48, 3), (.goto (-36), 10, 0, 0, 51, 3), (.aload_n 0, 0, 0, 32, 54, 1), (.getfield 25, 1, 0, 33, 55, 3), (.getfield 46, 5, 5, 34, 58, 3), (.iload_n 1, 0, 0, 35, 61, 1), (.iload_n 3, 0, 0, 36, 62, 1), (.iastore, 0, 0, 37, 63, 1), (.iload_n 2, 0, 0, 38, 64, 1), (.ireturn, 0, 0, 0, 65, 1)]
def M_X1_slotsOf : mm_M := (1, 5, k_X1_slotsOf)
abbrev n_X1_slotsOf : Nat := 19
def k_X1_nextToTouch : List mm_I := [(.iconst 0, 0, 0, 1, 0, 1), (.istore_n 2, 0, 0, 2, 1, 1), (.iload_n 2, 0, 0, 3, 2, 1), (.bipush 32, 0, 0, 4, 3, 2), (.if_icmp .ge 16, 12, 0, 5, 5, 3), (.aload_n 0, 0, 0, 6, 8, 1), (.getfield 22, 1, 6, 7, 9, 3), (.iload_n 2, 0, 0, 8, 12, 1), (.iconst 0, 0, 0, 9, 13, 1), (.iastore, 0, 0, 10, 14, 1), (.iinc 2 1, 0, 0, 11, 15, 3), (.goto (-16), 2, 0, 0, 18, 3), (.aload_n 0, 0, 0, 13, 21, 1), (.getfield 25, 1, 0, 14, 22, 3), (.getfield 49, 5, 6, 15, 25, 3), (.iconst 1, 0, 0, 16, 28, 1), (.iaload, 0, 0, 17, 29, 1), (.istore_n 2, 0, 0, 18, 30, 1), (.iconst 0, 0, 0, 19, 31, 1), (.istore_n 3, 0, 0, 20, 32, 1), (.iload_n 3, 0, 0, 21, 33, 1), (.bipush 10, 0, 0, 22, 34, 2), (.if_icmp .ge 31, 37, 0, 23, 36, 3), (.aload_n 0, 0, 0, 24, 39, 1), (.getfield 25, 1, 0, 25, 40, 3), (.getfield 49, 5, 6, 26, 43, 3), (.iconst 1, 0, 0, 27, 46, 1), (.iload_n 3, 0, 0, 28, 47, 1), (.iastore, 0, 0, 29, 48, 1), (.aload_n 0, 0, 0, 30, 49, 1), (.iload_n 1, 0, 0, 31, 50, 1), (.invokevirtual 42, 23, 2, 32, 51, 3), (.ifCond .eq 7, 35, 0, 33, 54, 3), (.aload_n 0, 0, 0, 34, 57, 1), (.invokevirtual 52, 21, 1, 35, 58, 3), (.iinc 3 1, 0, 0, 36, 61, 3), (.goto (-31), 20, 0, 0, 64, 3), (.aload_n 0, 0, 0, 38, 67, 1), (.getfield 25, 1, 0, 39, 68, 3), (.getfield 49, 5, 6, 40, 71, 3), (.iconst 1, 0, 0, 41, 74, 1), (.iload_n 2, 0, 0, 42, 75, 1), (.iastore, 0, 0, 43, 76, 1), (.aload_n 0, 0, 0, 44, 77, 1), (.invokevirtual 55, 22, 1, 45, 78, 3), (.ireturn, 0, 0, 0, 81, 1)]
def M_X1_nextToTouch : mm_M := (1, 4, k_X1_nextToTouch)
abbrev n_X1_nextToTouch : Nat := 20
def k_X1_tallyNoted : List mm_I := [(.iconst 0, 0, 0, 1, 0, 1), (.istore_n 1, 0, 0, 2, 1, 1), (.iload_n 1, 0, 0, 3, 2, 1), (.aload_n 0, 0, 0, 4, 3, 1), (.getfield 25, 1, 0, 5, 4, 3), (.getfield 59, 5, 2, 6, 7, 3), (.if_icmp .ge 28, 24, 0, 7, 10, 3), (.aload_n 0, 0, 0, 8, 13, 1), (.getfield 22, 1, 6, 9, 14, 3), (.iload_n 1, 0, 0, 10, 17, 1), (.iconst 4, 0, 0, 11, 18, 1), (.imul, 0, 0, 12, 19, 1), (.aload_n 0, 0, 0, 13, 20, 1), (.getfield 19, 1, 5, 14, 21, 3), (.iload_n 1, 0, 0, 15, 24, 1), (.iaload, 0, 0, 16, 25, 1), (.iadd, 0, 0, 17, 26, 1), (.dup2, 0, 0, 18, 27, 1), (.iaload, 0, 0, 19, 28, 1), (.iconst 1, 0, 0, 20, 29, 1), (.iadd, 0, 0, 21, 30, 1), (.iastore, 0, 0, 22, 31, 1), (.iinc 1 1, 0, 0, 23, 32, 3), (.goto (-33), 2, 0, 0, 35, 3), (.return_, 0, 0, 0, 38, 1)]
def M_X1_tallyNoted : mm_M := (0, 2, k_X1_tallyNoted)
abbrev n_X1_tallyNoted : Nat := 21
def k_X1_leastOfTheGreatest : List mm_I := [(.iconst (-1), 0, 0, 1, 0, 1), (.istore_n 1, 0, 0, 2, 1, 1), (.bipush 11, 0, 0, 3, 2, 2), (.istore_n 2, 0, 0, 4, 4, 1), (.iconst 0, 0, 0, 5, 5, 1), (.istore_n 3, 0, 0, 6, 6, 1), (.iload_n 3, 0, 0, 7, 7, 1), (.aload_n 0, 0, 0, 8, 8, 1), (.getfield 25, 1, 0, 9, 9, 3), (.getfield 59, 5, 2, 10, 12, 3), (.if_icmp .ge 56, 40, 0, 11, 15, 3), (.iconst 0, 0, 0, 12, 18, 1), (.istore 4, 0, 0, 13, 19, 2), (.iconst 0, 0, 0, 14, 21, 1), (.istore 5, 0, 0, 15, 22, 2), (.iload 5, 0, 0, 16, 24, 2), (.iconst 4, 0, 0, 17, 26, 1), (.if_icmp .ge 27, 31, 0, 18, 27, 3), (.iload 4, 0, 0, 19, 30, 2), (.aload_n 0, 0, 0, 20, 32, 1), (.getfield 22, 1, 6, 21, 33, 3), (.iload_n 3, 0, 0, 22, 36, 1), (.iconst 4, 0, 0, 23, 37, 1), (.imul, 0, 0, 24, 38, 1), (.iload 5, 0, 0, 25, 39, 2), (.iadd, 0, 0, 26, 41, 1), (.iaload, 0, 0, 27, 42, 1), (.invokestatic 62, 1001, 0, 28, 43, 3), (.istore 4, 0, 0, 29, 46, 2), (.iinc 5 1, 0, 0, 30, 48, 3), (.goto (-27), 15, 0, 0, 51, 3), (.iload 4, 0, 0, 32, 54, 2), (.iload_n 2, 0, 0, 33, 56, 1), (.if_icmp .ge 8, 38, 0, 34, 57, 3), (.iload 4, 0, 0, 35, 60, 2), (.istore_n 2, 0, 0, 36, 62, 1), (.iload_n 3, 0, 0, 37, 63, 1), (.istore_n 1, 0, 0, 38, 64, 1), (.iinc 3 1, 0, 0, 39, 65, 3), (.goto (-61), 6, 0, 0, 68, 3), (.iload_n 1, 0, 0, 41, 71, 1), (.ireturn, 0, 0, 0, 72, 1)]
def M_X1_leastOfTheGreatest : mm_M := (1, 6, k_X1_leastOfTheGreatest)
abbrev n_X1_leastOfTheGreatest : Nat := 22
def k_X1_allComesOut : List mm_I := [(.aload_n 0, 0, 0, 1, 0, 1), (.getfield 29, 1, 1, 2, 1, 3), (.invokevirtual 68, 50, 1, 3, 4, 3), (.iload_n 1, 0, 0, 4, 7, 1), (.invokestatic 62, 1001, 0, 5, 8, 3), (.istore_n 2, 0, 0, 6, 11, 1), (.aload_n 0, 0, 0, 7, 12, 1), (.getfield 33, 1, 2, 8, 13, 3), (.invokevirtual 73, 1, 1, 9, 16, 3), (.iconst 0, 0, 0, 10, 19, 1), (.istore_n 3, 0, 0, 11, 20, 1), (.iload_n 3, 0, 0, 12, 21, 1), (.iload_n 2, 0, 0, 13, 22, 1), (.if_icmp .gt 66, 46, 0, 14, 23, 3), (.aload_n 0, 0, 0, 15, 26, 1), (.getfield 33, 1, 2, 16, 27, 3), (.iload_n 3, 0, 0, 17, 30, 1), (.invokevirtual 78, 4, 2, 18, 31, 3), (.aload_n 0, 0, 0, 19, 34, 1), (.getfield 33, 1, 2, 20, 35, 3), (.iload_n 3, 0, 0, 21, 38, 1), (.iconst 0, 0, 0, 22, 39, 1), (.invokevirtual 82, 5, 3, 23, 40, 3), (.aload_n 0, 0, 0, 24, 43, 1), (.getfield 29, 1, 1, 25, 44, 3), (.aload_n 0, 0, 0, 26, 47, 1), (.getfield 33, 1, 2, 27, 48, 3), (.iload_n 3, 0, 0, 28, 51, 1), (.invokevirtual 86, 51, 3, 29, 52, 3), (.ifCond .ne 5, 32, 0, 30, 55, 3), (.iconst 0, 0, 0, 31, 58, 1), (.ireturn, 0, 0, 0, 59, 1), (.iload_n 3, 0, 0, 33, 60, 1), (.iload_n 1, 0, 0, 34, 61, 1), (.if_icmp .ne 21, 44, 0, 35, 62, 3), (.aload_n 0, 0, 0, 36, 65, 1), (.getfield 33, 1, 2, 37, 66, 3), (.getfield 90, 0, 2, 38, 69, 3), (.iconst 0, 0, 0, 39, 72, 1), (.aload_n 0, 0, 0, 40, 73, 1), (.getfield 19, 1, 5, 41, 74, 3), (.iconst 0, 0, 0, 42, 77, 1), (.bipush 8, 0, 0, 43, 78, 2), (.invokestatic 93, 1003, 0, 44, 80, 3), (.iinc 3 1, 0, 0, 45, 83, 3), (.goto (-65), 11, 0, 0, 86, 3), (.iconst 1, 0, 0, 47, 89, 1), (.ireturn, 0, 0, 0, 90, 1)]
def M_X1_allComesOut : mm_M := (2, 4, k_X1_allComesOut)
abbrev n_X1_allComesOut : Nat := 23
def k_X2_init : List mm_I := [(.aload_n 0, 0, 0, 1, 0, 1), (.invokespecial 3, 1000, 0, 2, 1, 3), (.aload_n 0, 0, 0, 3, 4, 1), (.sipush 240, 0, 0, 4, 5, 3), (.newarray .int, 0, 0, 5, 8, 2), (.putfield 9, 2, 2, 6, 10, 3), (.aload_n 0, 0, 0, 7, 13, 1), (.sipush 240, 0, 0, 8, 14, 3), (.newarray .int, 0, 0, 9, 17, 2), (.putfield 15, 2, 3, 10, 19, 3), (.aload_n 0, 0, 0, 11, 22, 1), (.bipush 30, 0, 0, 12, 23, 2), (.newarray .int, 0, 0, 13, 25, 2), (.putfield 18, 2, 4, 14, 27, 3), (.aload_n 0, 0, 0, 15, 30, 1), (.iconst 0, 0, 0, 16, 31, 1), (.putfield 21, 2, 5, 17, 32, 3), (.aload_n 0, 0, 0, 18, 35, 1), (.aload_n 1, 0, 0, 19, 36, 1), (.putfield 25, 2, 0, 20, 37, 3), (.aload_n 0, 0, 0, 21, 40, 1), (.new 29, 0, 0, 22, 41, 3), (.dup, 0, 0, 23, 44, 1), (.aload_n 1, 0, 0, 24, 45, 1), (.invokespecial 31, 0, 2, 25, 46, 3), (.putfield 34, 2, 1, 26, 49, 3), (.return_, 0, 0, 0, 52, 1)]
def M_X2_init : mm_M := (0, 2, k_X2_init)
abbrev n_X2_init : Nat := 24
def k_X2_bringUpToDate : List mm_I := [(.aload_n 0, 0, 0, 1, 0, 1), (.getfield 21, 2, 5, 2, 1, 3), (.ifCond .eq 4, 4, 0, 3, 4, 3), (.return_, 0, 0, 0, 7, 1), (.aload_n 0, 0, 0, 5, 8, 1), (.getfield 34, 2, 1, 6, 9, 3), (.invokevirtual 38, 1, 1, 7, 12, 3), (.iconst 0, 0, 0, 8, 15, 1), (.istore_n 1, 0, 0, 9, 16, 1), (.iload_n 1, 0, 0, 10, 17, 1), (.bipush 30, 0, 0, 11, 18, 2), (.if_icmp .ge 81, 52, 0, 12, 20, 3), (.aload_n 0, 0, 0, 13, 23, 1), (.getfield 34, 2, 1, 14, 24, 3), (.iload_n 1, 0, 0, 15, 27, 1), (.invokevirtual 41, 4, 2, 16, 28, 3), (.aload_n 0, 0, 0, 17, 31, 1), (.getfield 34, 2, 1, 18, 32, 3), (.iload_n 1, 0, 0, 19, 35, 1), (.iconst 0, 0, 0, 20, 36, 1), (.invokevirtual 45, 5, 3, 21, 37, 3), (.aload_n 0, 0, 0, 22, 40, 1), (.getfield 34, 2, 1, 23, 41, 3), (.getfield 49, 0, 1, 24, 44, 3), (.iconst 0, 0, 0, 25, 47, 1), (.aload_n 0, 0, 0, 26, 48, 1), (.getfield 9, 2, 2, 27, 49, 3), (.iload_n 1, 0, 0, 28, 52, 1), (.bipush 8, 0, 0, 29, 53, 2), (.imul, 0, 0, 30, 55, 1), (.bipush 8, 0, 0, 31, 56, 2), (.invokestatic 50, 1003, 0, 32, 58, 3), (.aload_n 0, 0, 0, 33, 61, 1), (.getfield 34, 2, 1, 34, 62, 3), (.getfield 56, 0, 2, 35, 65, 3), (.iconst 0, 0, 0, 36, 68, 1), (.aload_n 0, 0, 0, 37, 69, 1), (.getfield 15, 2, 3, 38, 70, 3), (.iload_n 1, 0, 0, 39, 73, 1), (.bipush 8, 0, 0, 40, 74, 2), (.imul, 0, 0, 41, 76, 1), (.bipush 8, 0, 0, 42, 77, 2), (.invokestatic 50, 1003, 0, 43, 79, 3), (.aload_n 0, 0, 0, 44, 82, 1), (.getfield 18, 2, 4, 45, 83, 3), (.iload_n 1, 0, 0, 46, 86, 1), (.aload_n 0, 0, 0, 47, 87, 1), (.getfield 34, 2, 1, 48, 88, 3), (.getfield 57, 0, 8, 49, 91, 3), (.iastore, 0, 0, 50, 94, 1), (.iinc 1 1, 0, 0, 51, 95, 3), (.goto (-81), 9, 0, 0, 98, 3), (.aload_n 0, 0, 0, 53, 101, 1), (.iconst 1, 0, 0, 54, 102, 1), (.putfield 21, 2, 5, 55, 103, 3), (.return_, 0, 0, 0, 106, 1)]
def M_X2_bringUpToDate : mm_M := (0, 2, k_X2_bringUpToDate)
abbrev n_X2_bringUpToDate : Nat := 25
def k_X2_leastLeaning : List mm_I := [(.iconst 0, 0, 0, 1, 0, 1), (.istore_n 2, 0, 0, 2, 1, 1), (.iload_n 2, 0, 0, 3, 2, 1), (.aload_n 0, 0, 0, 4, 3, 1), (.getfield 25, 2, 0, 5, 4, 3), (.getfield 60, 5, 2, 6, 7, 3), (.if_icmp .ge 25, 20, 0, 7, 10, 3), (.aload_n 0, 0, 0, 8, 13, 1), (.getfield 15, 2, 3, 9, 14, 3), (.iload_n 1, 0, 0, 10, 17, 1), (.bipush 8, 0, 0, 11, 18, 2), (.imul, 0, 0, 12, 20, 1), (.iload_n 2, 0, 0, 13, 21, 1), (.iadd, 0, 0, 14, 22, 1), (.iaload, 0, 0, 15, 23, 1), (.ifCond .ne 5, 18, 0, 16, 24, 3), (.iload_n 2, 0, 0, 17, 27, 1), (.ireturn, 0, 0, 0, 28, 1), (.iinc 2 1, 0, 0, 19, 29, 3), (.goto (-30), 2, 0, 0, 32, 3), (.iconst (-1), 0, 0, 21, 35, 1), (.ireturn, 0, 0, 0, 36, 1)]
def M_X2_leastLeaning : mm_M := (1, 3, k_X2_leastLeaning)
abbrev n_X2_leastLeaning : Nat := 26
def k_X3_init : List mm_I := [(.aload_n 0, 0, 0, 1, 0, 1), (.invokespecial 3, 1000, 0, 2, 1, 3), (.aload_n 0, 0, 0, 3, 4, 1), (.bipush 8, 0, 0, 4, 5, 2), (.newarray .int, 0, 0, 5, 7, 2), (.putfield 9, 3, 2, 6, 9, 3), (.aload_n 0, 0, 0, 7, 12, 1), (.iconst 0, 0, 0, 8, 13, 1), (.putfield 15, 3, 3, 9, 14, 3), (.aload_n 0, 0, 0, 10, 17, 1), (.iconst 0, 0, 0, 11, 18, 1), (.putfield 19, 3, 4, 12, 19, 3), (.aload_n 0, 0, 0, 13, 22, 1), (.aload_n 1, 0, 0, 14, 23, 1), (.putfield 22, 3, 0, 15, 24, 3), (.aload_n 0, 0, 0, 16, 27, 1), (.aload_n 2, 0, 0, 17, 28, 1), (.putfield 26, 3, 1, 18, 29, 3), (.return_, 0, 0, 0, 32, 1)]
def M_X3_init : mm_M := (0, 3, k_X3_init)
abbrev n_X3_init : Nat := 27
def k_X3_draw : List mm_I := [(.aload_n 0, 0, 0, 1, 0, 1), (.getfield 22, 3, 0, 2, 1, 3), (.getfield 30, 5, 4, 3, 4, 3), (.iconst 0, 0, 0, 4, 7, 1), (.aload_n 0, 0, 0, 5, 8, 1), (.getfield 9, 3, 2, 6, 9, 3), (.iconst 0, 0, 0, 7, 12, 1), (.bipush 8, 0, 0, 8, 13, 2), (.invokestatic 35, 1003, 0, 9, 15, 3), (.iload_n 1, 0, 0, 10, 18, 1), (.istore_n 2, 0, 0, 11, 19, 1), (.iconst 0, 0, 0, 12, 20, 1), (.istore_n 3, 0, 0, 13, 21, 1), (.iload_n 3, 0, 0, 14, 22, 1), (.aload_n 0, 0, 0, 15, 23, 1), (.getfield 22, 3, 0, 16, 24, 3), (.getfield 41, 5, 2, 17, 27, 3), (.if_icmp .ge 34, 36, 0, 18, 30, 3), (.ldc 44, 1103515245, 0, 19, 33, 2), (.iload_n 2, 0, 0, 20, 35, 1), (.imul, 0, 0, 21, 36, 1), (.sipush 12345, 0, 0, 22, 37, 3), (.iadd, 0, 0, 23, 40, 1), (.istore_n 2, 0, 0, 24, 41, 1), (.aload_n 0, 0, 0, 25, 42, 1), (.getfield 22, 3, 0, 26, 43, 3), (.getfield 30, 5, 4, 27, 46, 3), (.iload_n 3, 0, 0, 28, 49, 1), (.iload_n 2, 0, 0, 29, 50, 1), (.bipush 16, 0, 0, 30, 51, 2), (.iushr, 0, 0, 31, 53, 1), (.bipush 100, 0, 0, 32, 54, 2), (.irem, 0, 0, 33, 56, 1), (.iastore, 0, 0, 34, 57, 1), (.iinc 3 1, 0, 0, 35, 58, 3), (.goto (-39), 13, 0, 0, 61, 3), (.aload_n 0, 0, 0, 37, 64, 1), (.getfield 26, 3, 1, 38, 65, 3), (.invokevirtual 45, 2, 1, 39, 68, 3), (.aload_n 0, 0, 0, 40, 71, 1), (.getfield 9, 3, 2, 41, 72, 3), (.iconst 0, 0, 0, 42, 75, 1), (.aload_n 0, 0, 0, 43, 76, 1), (.getfield 22, 3, 0, 44, 77, 3), (.getfield 30, 5, 4, 45, 80, 3), (.iconst 0, 0, 0, 46, 83, 1), (.bipush 8, 0, 0, 47, 84, 2), (.invokestatic 35, 1003, 0, 48, 86, 3), (.aload_n 0, 0, 0, 49, 89, 1), (.aload_n 0, 0, 0, 50, 90, 1), (.iconst 2, 0, 0, 51, 91, 1), (.invokevirtual 50, 29, 2, 52, 92, 3), (.putfield 15, 3, 3, 53, 95, 3), (.aload_n 0, 0, 0, 54, 98, 1), (.aload_n 0, 0, 0, 55, 99, 1), (.iconst 3, 0, 0, 56, 100, 1), (.invokevirtual 50, 29, 2, 57, 101, 3), (.putfield 19, 3, 4, 58, 104, 3), (.return_, 0, 0, 0, 107, 1)]
def M_X3_draw : mm_M := (0, 4, k_X3_draw)
abbrev n_X3_draw : Nat := 28
def k_X3_howManyAre : List mm_I := [(.iconst 0, 0, 0, 1, 0, 1), (.istore_n 2, 0, 0, 2, 1, 1), (.iconst 0, 0, 0, 3, 2, 1), (.istore_n 3, 0, 0, 4, 3, 1), (.iload_n 3, 0, 0, 5, 4, 1), (.aload_n 0, 0, 0, 6, 5, 1), (.getfield 22, 3, 0, 7, 6, 3), (.getfield 41, 5, 2, 8, 9, 3), (.if_icmp .ge 25, 19, 0, 9, 12, 3), (.aload_n 0, 0, 0, 10, 15, 1), (.getfield 26, 3, 1, 11, 16, 3), (.getfield 54, 0, 2, 12, 19, 3), (.iload_n 3, 0, 0, 13, 22, 1), (.iaload, 0, 0, 14, 23, 1), (.iload_n 1, 0, 0, 15, 24, 1), (.if_icmp .ne 6, 17, 0, 16, 25, 3), (.iinc 2 1, 0, 0, 17, 28, 3), (.iinc 3 1, 0, 0, 18, 31, 3), (.goto (-30), 4, 0, 0, 34, 3), (.iload_n 2, 0, 0, 20, 37, 1), (.ireturn, 0, 0, 0, 38, 1)]
def M_X3_howManyAre : mm_M := (1, 4, k_X3_howManyAre)
abbrev n_X3_howManyAre : Nat := 29
def k_X4_init : List mm_I := [(.aload_n 0, 0, 0, 1, 0, 1), (.invokespecial 3, 1000, 0, 2, 1, 3), (.aload_n 0, 0, 0, 3, 4, 1), (.iconst (-1), 0, 0, 4, 5, 1), (.putfield 9, 4, 2, 5, 6, 3), (.aload_n 0, 0, 0, 6, 9, 1), (.iconst (-1), 0, 0, 7, 10, 1), (.putfield 15, 4, 3, 8, 11, 3), (.aload_n 0, 0, 0, 9, 14, 1), (.iconst (-1), 0, 0, 10, 15, 1), (.putfield 18, 4, 4, 11, 16, 3), (.aload_n 0, 0, 0, 12, 19, 1), (.iconst (-1), 0, 0, 13, 20, 1), (.putfield 21, 4, 5, 14, 21, 3), (.aload_n 0, 0, 0, 15, 24, 1), (.iconst (-1), 0, 0, 16, 25, 1), (.putfield 24, 4, 6, 17, 26, 3), (.aload_n 0, 0, 0, 18, 29, 1), (.aload_n 1, 0, 0, 19, 30, 1), (.putfield 27, 4, 0, 20, 31, 3), (.aload_n 0, 0, 0, 21, 34, 1), (.aload_n 2, 0, 0, 22, 35, 1), (.putfield 31, 4, 1, 23, 36, 3), (.return_, 0, 0, 0, 39, 1)]
def M_X4_init : mm_M := (0, 3, k_X4_init)
abbrev n_X4_init : Nat := 30
def k_X4_findMove : List mm_I := [(.aload_n 0, 0, 0, 1, 0, 1), (.iconst (-1), 0, 0, 2, 1, 1), (.putfield 9, 4, 2, 3, 2, 3), (.aload_n 0, 0, 0, 4, 5, 1), (.iconst (-1), 0, 0, 5, 6, 1), (.putfield 15, 4, 3, 6, 7, 3), (.aload_n 0, 0, 0, 7, 10, 1), (.getfield 27, 4, 0, 8, 11, 3), (.getfield 35, 5, 5, 9, 14, 3), (.iload_n 1, 0, 0, 10, 17, 1), (.iaload, 0, 0, 11, 18, 1), (.istore_n 2, 0, 0, 12, 19, 1), (.bipush 30, 0, 0, 13, 20, 2), (.istore_n 3, 0, 0, 14, 22, 1), (.iconst 0, 0, 0, 15, 23, 1), (.istore 4, 0, 0, 16, 24, 2), (.iload 4, 0, 0, 17, 26, 2), (.aload_n 0, 0, 0, 18, 28, 1), (.getfield 27, 4, 0, 19, 29, 3), (.getfield 41, 5, 0, 20, 32, 3), (.if_icmp .ge 49, 45, 0, 21, 35, 3), (.aload_n 0, 0, 0, 22, 38, 1), (.getfield 27, 4, 0, 23, 39, 3), (.getfield 35, 5, 5, 24, 42, 3), (.iload_n 1, 0, 0, 25, 45, 1), (.iload 4, 0, 0, 26, 46, 2), (.iastore, 0, 0, 27, 48, 1), (.aload_n 0, 0, 0, 28, 49, 1), (.iload_n 1, 0, 0, 29, 50, 1), (.iload_n 3, 0, 0, 30, 51, 1), (.invokevirtual 44, 32, 3, 31, 52, 3), (.istore 5, 0, 0, 32, 55, 2), (.iload 5, 0, 0, 33, 57, 2), (.iconst (-1), 0, 0, 34, 59, 1), (.if_icmp .eq 18, 43, 0, 35, 60, 3), (.aload_n 0, 0, 0, 36, 63, 1), (.iload 4, 0, 0, 37, 64, 2), (.putfield 9, 4, 2, 38, 66, 3), (.aload_n 0, 0, 0, 39, 69, 1), (.iload 5, 0, 0, 40, 70, 2), (.putfield 15, 4, 3, 41, 72, 3), (.iload 5, 0, 0, 42, 75, 2), (.istore_n 3, 0, 0, 43, 77, 1), (.iinc 4 1, 0, 0, 44, 78, 3), (.goto (-55), 16, 0, 0, 81, 3), (.aload_n 0, 0, 0, 46, 84, 1), (.getfield 27, 4, 0, 47, 85, 3), (.getfield 35, 5, 5, 48, 88, 3), (.iload_n 1, 0, 0, 49, 91, 1), (.iload_n 2, 0, 0, 50, 92, 1), (.iastore, 0, 0, 51, 93, 1), (.return_, 0, 0, 0, 94, 1)]
def M_X4_findMove : mm_M := (0, 6, k_X4_findMove)
abbrev n_X4_findMove : Nat := 31
def k_X4_letGoBefore : List mm_I := [(.aload_n 0, 0, 0, 1, 0, 1), (.getfield 31, 4, 1, 2, 1, 3), (.invokevirtual 48, 1, 1, 3, 4, 3), (.iconst 0, 0, 0, 4, 7, 1), (.istore_n 3, 0, 0, 5, 8, 1), (.iload_n 3, 0, 0, 6, 9, 1), (.iload_n 2, 0, 0, 7, 10, 1), (.if_icmp .ge 39, 26, 0, 8, 11, 3), (.aload_n 0, 0, 0, 9, 14, 1), (.getfield 31, 4, 1, 10, 15, 3), (.getfield 53, 0, 5, 11, 18, 3), (.iload_n 1, 0, 0, 12, 21, 1), (.iaload, 0, 0, 13, 22, 1), (.iconst (-1), 0, 0, 14, 23, 1), (.if_icmp .ne 26, 26, 0, 15, 24, 3), (.aload_n 0, 0, 0, 16, 27, 1), (.getfield 31, 4, 1, 17, 28, 3), (.iload_n 3, 0, 0, 18, 31, 1), (.invokevirtual 56, 4, 2, 19, 32, 3), (.aload_n 0, 0, 0, 20, 35, 1), (.getfield 31, 4, 1, 21, 36, 3), (.iload_n 3, 0, 0, 22, 39, 1), (.iconst 0, 0, 0, 23, 40, 1), (.invokevirtual 60, 5, 3, 24, 41, 3), (.iinc 3 1, 0, 0, 25, 44, 3), (.goto (-38), 5, 0, 0, 47, 3), (.aload_n 0, 0, 0, 27, 50, 1), (.getfield 31, 4, 1, 28, 51, 3), (.getfield 53, 0, 5, 29, 54, 3), (.iload_n 1, 0, 0, 30, 57, 1), (.iaload, 0, 0, 31, 58, 1), (.ireturn, 0, 0, 0, 59, 1)]
def M_X4_letGoBefore : mm_M := (1, 4, k_X4_letGoBefore)
abbrev n_X4_letGoBefore : Nat := 32
def k_X4_findSwap : List mm_I := [(.aload_n 0, 0, 0, 1, 0, 1), (.iconst (-1), 0, 0, 2, 1, 1), (.putfield 18, 4, 4, 3, 2, 3), (.aload_n 0, 0, 0, 4, 5, 1), (.iconst (-1), 0, 0, 5, 6, 1), (.putfield 21, 4, 5, 6, 7, 3), (.aload_n 0, 0, 0, 7, 10, 1), (.iconst (-1), 0, 0, 8, 11, 1), (.putfield 24, 4, 6, 9, 12, 3), (.aload_n 0, 0, 0, 10, 15, 1), (.invokevirtual 64, 36, 1, 11, 16, 3), (.istore_n 1, 0, 0, 12, 19, 1), (.iconst 0, 0, 0, 13, 20, 1), (.istore_n 2, 0, 0, 14, 21, 1), (.iload_n 2, 0, 0, 15, 22, 1), (.aload_n 0, 0, 0, 16, 23, 1), (.getfield 27, 4, 0, 17, 24, 3), (.getfield 68, 5, 2, 18, 27, 3), (.if_icmp .ge 63, 51, 0, 19, 30, 3), (.iload_n 2, 0, 0, 20, 33, 1), (.iconst 1, 0, 0, 21, 34, 1), (.iadd, 0, 0, 22, 35, 1), (.istore_n 3, 0, 0, 23, 36, 1), (.iload_n 3, 0, 0, 24, 37, 1), (.aload_n 0, 0, 0, 25, 38, 1), (.getfield 27, 4, 0, 26, 39, 3), (.getfield 68, 5, 2, 27, 42, 3), (.if_icmp .ge 42, 49, 0, 28, 45, 3), (.aload_n 0, 0, 0, 29, 48, 1), (.iload_n 2, 0, 0, 30, 49, 1), (.iload_n 3, 0, 0, 31, 50, 1), (.invokevirtual 71, 34, 3, 32, 51, 3), (.istore 4, 0, 0, 33, 54, 2), (.iload 4, 0, 0, 34, 56, 2), (.iload_n 1, 0, 0, 35, 58, 1), (.if_icmp .ge 22, 47, 0, 36, 59, 3), (.iload 4, 0, 0, 37, 62, 2), (.istore_n 1, 0, 0, 38, 64, 1), (.aload_n 0, 0, 0, 39, 65, 1), (.iload_n 2, 0, 0, 40, 66, 1), (.putfield 18, 4, 4, 41, 67, 3), (.aload_n 0, 0, 0, 42, 70, 1), (.iload_n 3, 0, 0, 43, 71, 1), (.putfield 21, 4, 5, 44, 72, 3), (.aload_n 0, 0, 0, 45, 75, 1), (.iload 4, 0, 0, 46, 76, 2), (.putfield 24, 4, 6, 47, 78, 3), (.iinc 3 1, 0, 0, 48, 81, 3), (.goto (-47), 23, 0, 0, 84, 3), (.iinc 2 1, 0, 0, 50, 87, 3), (.goto (-68), 14, 0, 0, 90, 3), (.return_, 0, 0, 0, 93, 1)]
def M_X4_findSwap : mm_M := (0, 5, k_X4_findSwap)
abbrev n_X4_findSwap : Nat := 33
def k_X4_stayIfSwapped : List mm_I := [(.aload_n 0, 0, 0, 1, 0, 1), (.iload_n 1, 0, 0, 2, 1, 1), (.iload_n 2, 0, 0, 3, 2, 1), (.invokevirtual 74, 35, 3, 4, 3, 3), (.aload_n 0, 0, 0, 5, 6, 1), (.invokevirtual 64, 36, 1, 6, 7, 3), (.istore_n 3, 0, 0, 7, 10, 1), (.aload_n 0, 0, 0, 8, 11, 1), (.iload_n 1, 0, 0, 9, 12, 1), (.iload_n 2, 0, 0, 10, 13, 1), (.invokevirtual 74, 35, 3, 11, 14, 3), (.iload_n 3, 0, 0, 12, 17, 1), (.ireturn, 0, 0, 0, 18, 1)]
def M_X4_stayIfSwapped : mm_M := (1, 4, k_X4_stayIfSwapped)
abbrev n_X4_stayIfSwapped : Nat := 34
def k_X4_changeSlots : List mm_I := [(.aload_n 0, 0, 0, 1, 0, 1), (.getfield 27, 4, 0, 2, 1, 3), (.getfield 35, 5, 5, 3, 4, 3), (.iload_n 1, 0, 0, 4, 7, 1), (.iaload, 0, 0, 5, 8, 1), (.istore_n 3, 0, 0, 6, 9, 1), (.aload_n 0, 0, 0, 7, 10, 1), (.getfield 27, 4, 0, 8, 11, 3), (.getfield 35, 5, 5, 9, 14, 3), (.iload_n 1, 0, 0, 10, 17, 1), (.aload_n 0, 0, 0, 11, 18, 1), (.getfield 27, 4, 0, 12, 19, 3), (.getfield 35, 5, 5, 13, 22, 3), (.iload_n 2, 0, 0, 14, 25, 1), (.iaload, 0, 0, 15, 26, 1), (.iastore, 0, 0, 16, 27, 1), (.aload_n 0, 0, 0, 17, 28, 1), (.getfield 27, 4, 0, 18, 29, 3), (.getfield 35, 5, 5, 19, 32, 3), (.iload_n 2, 0, 0, 20, 35, 1), (.iload_n 3, 0, 0, 21, 36, 1), (.iastore, 0, 0, 22, 37, 1), (.return_, 0, 0, 0, 38, 1)]
def M_X4_changeSlots : mm_M := (0, 4, k_X4_changeSlots)
abbrev n_X4_changeSlots : Nat := 35
def k_X4_stayOfAll : List mm_I := [(.iconst 0, 0, 0, 1, 0, 1), (.istore_n 1, 0, 0, 2, 1, 1), (.aload_n 0, 0, 0, 3, 2, 1), (.getfield 31, 4, 1, 4, 3, 3), (.invokevirtual 48, 1, 1, 5, 6, 3), (.iconst 0, 0, 0, 6, 9, 1), (.istore_n 2, 0, 0, 7, 10, 1), (.iload_n 2, 0, 0, 8, 11, 1), (.bipush 30, 0, 0, 9, 12, 2), (.if_icmp .ge 36, 27, 0, 10, 14, 3), (.aload_n 0, 0, 0, 11, 17, 1), (.getfield 31, 4, 1, 12, 18, 3), (.iload_n 2, 0, 0, 13, 21, 1), (.invokevirtual 56, 4, 2, 14, 22, 3), (.aload_n 0, 0, 0, 15, 25, 1), (.getfield 31, 4, 1, 16, 26, 3), (.iload_n 2, 0, 0, 17, 29, 1), (.iconst 0, 0, 0, 18, 30, 1), (.invokevirtual 60, 5, 3, 19, 31, 3), (.iload_n 1, 0, 0, 20, 34, 1), (.aload_n 0, 0, 0, 21, 35, 1), (.getfield 31, 4, 1, 22, 36, 3), (.invokevirtual 77, 7, 1, 23, 39, 3), (.iadd, 0, 0, 24, 42, 1), (.istore_n 1, 0, 0, 25, 43, 1), (.iinc 2 1, 0, 0, 26, 44, 3), (.goto (-36), 7, 0, 0, 47, 3), (.iload_n 1, 0, 0, 28, 50, 1), (.ireturn, 0, 0, 0, 51, 1)]
def M_X4_stayOfAll : mm_M := (1, 3, k_X4_stayOfAll)
abbrev n_X4_stayOfAll : Nat := 36
def k_X4_firstButterHour : List mm_I := [(.aload_n 0, 0, 0, 1, 0, 1), (.getfield 31, 4, 1, 2, 1, 3), (.invokevirtual 48, 1, 1, 3, 4, 3), (.iconst 0, 0, 0, 4, 7, 1), (.istore_n 2, 0, 0, 5, 8, 1), (.iload_n 2, 0, 0, 6, 9, 1), (.bipush 30, 0, 0, 7, 10, 2), (.if_icmp .ge 60, 37, 0, 8, 12, 3), (.aload_n 0, 0, 0, 9, 15, 1), (.getfield 31, 4, 1, 10, 16, 3), (.iload_n 2, 0, 0, 11, 19, 1), (.invokevirtual 56, 4, 2, 12, 20, 3), (.aload_n 0, 0, 0, 13, 23, 1), (.getfield 31, 4, 1, 14, 24, 3), (.iload_n 1, 0, 0, 15, 27, 1), (.invokevirtual 80, 6, 2, 16, 28, 3), (.ifCond .eq 26, 30, 0, 17, 31, 3), (.aload_n 0, 0, 0, 18, 34, 1), (.getfield 31, 4, 1, 19, 35, 3), (.getfield 84, 0, 1, 20, 38, 3), (.iload_n 1, 0, 0, 21, 41, 1), (.iaload, 0, 0, 22, 42, 1), (.aload_n 0, 0, 0, 23, 43, 1), (.getfield 27, 4, 0, 24, 44, 3), (.getfield 87, 5, 6, 25, 47, 3), (.iconst 2, 0, 0, 26, 50, 1), (.iaload, 0, 0, 27, 51, 1), (.if_icmp .gt 5, 30, 0, 28, 52, 3), (.iload_n 2, 0, 0, 29, 55, 1), (.ireturn, 0, 0, 0, 56, 1), (.aload_n 0, 0, 0, 31, 57, 1), (.getfield 31, 4, 1, 32, 58, 3), (.iload_n 2, 0, 0, 33, 61, 1), (.iconst 0, 0, 0, 34, 62, 1), (.invokevirtual 60, 5, 3, 35, 63, 3), (.iinc 2 1, 0, 0, 36, 66, 3), (.goto (-60), 5, 0, 0, 69, 3), (.iconst (-1), 0, 0, 38, 72, 1), (.ireturn, 0, 0, 0, 73, 1)]
def M_X4_firstButterHour : mm_M := (1, 3, k_X4_firstButterHour)
abbrev n_X4_firstButterHour : Nat := 37
def k_X4_greatestSummer : List mm_I := [(.aload_n 0, 0, 0, 1, 0, 1), (.getfield 27, 4, 0, 2, 1, 3), (.getfield 87, 5, 6, 3, 4, 3), (.iconst 1, 0, 0, 4, 7, 1), (.iaload, 0, 0, 5, 8, 1), (.istore_n 1, 0, 0, 6, 9, 1), (.iconst (-1), 0, 0, 7, 10, 1), (.istore_n 2, 0, 0, 8, 11, 1), (.bipush 9, 0, 0, 9, 12, 2), (.istore_n 3, 0, 0, 10, 14, 1), (.iload_n 3, 0, 0, 11, 15, 1), (.ifCond .lt 43, 32, 0, 12, 16, 3), (.iload_n 2, 0, 0, 13, 19, 1), (.iconst (-1), 0, 0, 14, 20, 1), (.if_icmp .ne 38, 32, 0, 15, 21, 3), (.aload_n 0, 0, 0, 16, 24, 1), (.getfield 27, 4, 0, 17, 25, 3), (.getfield 87, 5, 6, 18, 28, 3), (.iconst 1, 0, 0, 19, 31, 1), (.iload_n 3, 0, 0, 20, 32, 1), (.iastore, 0, 0, 21, 33, 1), (.aload_n 0, 0, 0, 22, 34, 1), (.getfield 31, 4, 1, 23, 35, 3), (.invokevirtual 90, 2, 1, 24, 38, 3), (.aload_n 0, 0, 0, 25, 41, 1), (.getfield 31, 4, 1, 26, 42, 3), (.invokevirtual 77, 7, 1, 27, 45, 3), (.ifCond .ne 5, 30, 0, 28, 48, 3), (.iload_n 3, 0, 0, 29, 51, 1), (.istore_n 2, 0, 0, 30, 52, 1), (.iinc 3 (-1), 0, 0, 31, 53, 3), (.goto (-41), 10, 0, 0, 56, 3), (.aload_n 0, 0, 0, 33, 59, 1), (.getfield 27, 4, 0, 34, 60, 3), (.getfield 87, 5, 6, 35, 63, 3), (.iconst 1, 0, 0, 36, 66, 1), (.iload_n 1, 0, 0, 37, 67, 1), (.iastore, 0, 0, 38, 68, 1), (.iload_n 2, 0, 0, 39, 69, 1), (.ireturn, 0, 0, 0, 70, 1)]
def M_X4_greatestSummer : mm_M := (1, 4, k_X4_greatestSummer)
abbrev n_X4_greatestSummer : Nat := 38
def k_X5_init : List mm_I := [(.aload_n 0, 0, 0, 1, 0, 1), (.invokespecial 3, 1000, 0, 2, 1, 3), (.aload_n 0, 0, 0, 3, 4, 1), (.iconst 0, 0, 0, 4, 5, 1), (.putfield 9, 5, 0, 5, 6, 3), (.aload_n 0, 0, 0, 6, 9, 1), (.bipush 10, 0, 0, 7, 10, 2), (.newarray .int, 0, 0, 8, 12, 2), (.putfield 15, 5, 1, 9, 14, 3), (.aload_n 0, 0, 0, 10, 17, 1), (.iconst 0, 0, 0, 11, 18, 1), (.putfield 19, 5, 2, 12, 19, 3), (.aload_n 0, 0, 0, 13, 22, 1), (.bipush 8, 0, 0, 14, 23, 2), (.newarray .int, 0, 0, 15, 25, 2), (.putfield 22, 5, 3, 16, 27, 3), (.aload_n 0, 0, 0, 17, 30, 1), (.bipush 8, 0, 0, 18, 31, 2), (.newarray .int, 0, 0, 19, 33, 2), (.putfield 25, 5, 4, 20, 35, 3), (.aload_n 0, 0, 0, 21, 38, 1), (.bipush 8, 0, 0, 22, 39, 2), (.newarray .int, 0, 0, 23, 41, 2), (.putfield 28, 5, 5, 24, 43, 3), (.aload_n 0, 0, 0, 25, 46, 1), (.iconst 3, 0, 0, 26, 47, 1), (.newarray .int, 0, 0, 27, 48, 2), (.dup, 0, 0, 28, 50, 1), (.iconst 0, 0, 0, 29, 51, 1), (.bipush 10, 0, 0, 30, 52, 2), (.iastore, 0, 0, 31, 54, 1), (.dup, 0, 0, 32, 55, 1), (.iconst 1, 0, 0, 33, 56, 1), (.iconst 0, 0, 0, 34, 57, 1), (.iastore, 0, 0, 35, 58, 1), (.dup, 0, 0, 36, 59, 1), (.iconst 2, 0, 0, 37, 60, 1), (.bipush 40, 0, 0, 38, 61, 2), (.iastore, 0, 0, 39, 63, 1), (.putfield 31, 5, 6, 40, 64, 3), (.aload_n 0, 0, 0, 41, 67, 1), (.iconst 0, 0, 0, 42, 68, 1), (.putfield 34, 5, 7, 43, 69, 3), (.aload_n 0, 0, 0, 44, 72, 1), (.bipush 8, 0, 0, 45, 73, 2), (.newarray .int, 0, 0, 46, 75, 2), (.putfield 37, 5, 8, 47, 77, 3), (.aload_n 0, 0, 0, 48, 80, 1), (.bipush 8, 0, 0, 49, 81, 2), (.newarray .int, 0, 0, 50, 83, 2), (.putfield 40, 5, 9, 51, 85, 3), (.aload_n 0, 0, 0, 52, 88, 1), (.iconst 0, 0, 0, 53, 89, 1), (.putfield 43, 5, 10, 54, 90, 3), (.aload_n 0, 0, 0, 55, 93, 1), (.iconst 4, 0, 0, 56, 94, 1), (.newarray .int, 0, 0, 57, 95, 2), (.putfield 46, 5, 11, 58, 97, 3), (.return_, 0, 0, 0, 100, 1)]
def M_X5_init : mm_M := (0, 1, k_X5_init)
abbrev n_X5_init : Nat := 39
def k_X5_takeRack : List mm_I := [(.aload_n 0, 0, 0, 1, 0, 1), (.aload_n 1, 0, 0, 2, 1, 1), (.invokevirtual 49, 53, 1, 3, 2, 3), (.iconst (-1), 0, 0, 4, 5, 1), (.if_icmp .ne 15, 10, 0, 5, 6, 3), (.aload_n 1, 0, 0, 6, 9, 1), (.getfield 55, 8, 1, 7, 10, 3), (.bipush 10, 0, 0, 8, 13, 2), (.invokestatic 58, 1002, 0, 9, 15, 3), (.goto 4, 11, 0, 0, 18, 3), (.iconst 0, 0, 0, 11, 21, 1), (.putfield 9, 5, 0, 12, 22, 3), (.iconst 0, 0, 0, 13, 25, 1), (.istore_n 2, 0, 0, 14, 26, 1), (.iload_n 2, 0, 0, 15, 27, 1), (.aload_n 0, 0, 0, 16, 28, 1), (.getfield 9, 5, 0, 17, 29, 3), (.if_icmp .ge 24, 30, 0, 18, 32, 3), (.aload_n 0, 0, 0, 19, 35, 1), (.getfield 15, 5, 1, 20, 36, 3), (.iload_n 2, 0, 0, 21, 39, 1), (.aload_n 1, 0, 0, 22, 40, 1), (.getfield 64, 8, 0, 23, 41, 3), (.iload_n 2, 0, 0, 24, 44, 1), (.iaload, 0, 0, 25, 45, 1), (.bipush 48, 0, 0, 26, 46, 2), (.isub, 0, 0, 27, 48, 1), (.iastore, 0, 0, 28, 49, 1), (.iinc 2 1, 0, 0, 29, 50, 3), (.goto (-26), 14, 0, 0, 53, 3), (.return_, 0, 0, 0, 56, 1)]
def M_X5_takeRack : mm_M := (0, 3, k_X5_takeRack)
abbrev n_X5_takeRack : Nat := 40
def k_X5_takeSlices : List mm_I := [(.aload_n 1, 0, 0, 1, 0, 1), (.invokevirtual 67, 54, 1, 2, 1, 3), (.iconst (-1), 0, 0, 3, 4, 1), (.if_icmp .ne 14, 11, 0, 4, 5, 3), (.aload_n 1, 0, 0, 5, 8, 1), (.getfield 55, 8, 1, 6, 9, 3), (.iconst 1, 0, 0, 7, 12, 1), (.iadd, 0, 0, 8, 13, 1), (.iconst 5, 0, 0, 9, 14, 1), (.idiv, 0, 0, 10, 15, 1), (.goto 4, 12, 0, 0, 16, 3), (.iconst 0, 0, 0, 12, 19, 1), (.istore_n 2, 0, 0, 13, 20, 1), (.aload_n 0, 0, 0, 14, 21, 1), (.iload_n 2, 0, 0, 15, 22, 1), (.bipush 8, 0, 0, 16, 23, 2), (.invokestatic 58, 1002, 0, 17, 25, 3), (.putfield 19, 5, 2, 18, 28, 3), (.iconst 0, 0, 0, 19, 31, 1), (.istore_n 3, 0, 0, 20, 32, 1), (.iload_n 3, 0, 0, 21, 33, 1), (.aload_n 0, 0, 0, 22, 34, 1), (.getfield 19, 5, 2, 23, 35, 3), (.if_icmp .ge 82, 74, 0, 24, 38, 3), (.iload_n 3, 0, 0, 25, 41, 1), (.iconst 5, 0, 0, 26, 42, 1), (.imul, 0, 0, 27, 43, 1), (.istore 4, 0, 0, 28, 44, 2), (.aload_n 0, 0, 0, 29, 46, 1), (.getfield 22, 5, 3, 30, 47, 3), (.iload_n 3, 0, 0, 31, 50, 1), (.aload_n 1, 0, 0, 32, 51, 1), (.getfield 64, 8, 0, 33, 52, 3), (.iload 4, 0, 0, 34, 55, 2), (.iaload, 0, 0, 35, 57, 1), (.invokestatic 70, 56, 1, 36, 58, 3), (.iastore, 0, 0, 37, 61, 1), (.aload_n 0, 0, 0, 38, 62, 1), (.getfield 25, 5, 4, 39, 63, 3), (.iload_n 3, 0, 0, 40, 66, 1), (.aload_n 1, 0, 0, 41, 67, 1), (.getfield 64, 8, 0, 42, 68, 3), (.iload 4, 0, 0, 43, 71, 2), (.iconst 1, 0, 0, 44, 73, 1), (.iadd, 0, 0, 45, 74, 1), (.iaload, 0, 0, 46, 75, 1), (.bipush 48, 0, 0, 47, 76, 2), (.isub, 0, 0, 48, 78, 1), (.bipush 10, 0, 0, 49, 79, 2), (.imul, 0, 0, 50, 81, 1), (.aload_n 1, 0, 0, 51, 82, 1), (.getfield 64, 8, 0, 52, 83, 3), (.iload 4, 0, 0, 53, 86, 2), (.iconst 2, 0, 0, 54, 88, 1), (.iadd, 0, 0, 55, 89, 1), (.iaload, 0, 0, 56, 90, 1), (.iadd, 0, 0, 57, 91, 1), (.bipush 48, 0, 0, 58, 92, 2), (.isub, 0, 0, 59, 94, 1), (.iastore, 0, 0, 60, 95, 1), (.aload_n 0, 0, 0, 61, 96, 1), (.getfield 28, 5, 5, 62, 97, 3), (.iload_n 3, 0, 0, 63, 100, 1), (.aload_n 1, 0, 0, 64, 101, 1), (.getfield 64, 8, 0, 65, 102, 3), (.iload 4, 0, 0, 66, 105, 2), (.iconst 3, 0, 0, 67, 107, 1), (.iadd, 0, 0, 68, 108, 1), (.iaload, 0, 0, 69, 109, 1), (.bipush 48, 0, 0, 70, 110, 2), (.isub, 0, 0, 71, 112, 1), (.iastore, 0, 0, 72, 113, 1), (.iinc 3 1, 0, 0, 73, 114, 3), (.goto (-84), 20, 0, 0, 117, 3), (.return_, 0, 0, 0, 120, 1)]
def M_X5_takeSlices : mm_M := (0, 5, k_X5_takeSlices)
abbrev n_X5_takeSlices : Nat := 41
def k_X5_firesIn : List mm_I := [(.iconst 0, 0, 0, 1, 0, 1), (.istore_n 2, 0, 0, 2, 1, 1), (.iconst 0, 0, 0, 3, 2, 1), (.istore_n 3, 0, 0, 4, 3, 1), (.iload_n 3, 0, 0, 5, 4, 1), (.aload_n 0, 0, 0, 6, 5, 1), (.getfield 43, 5, 10, 7, 6, 3), (.if_icmp .ge 22, 17, 0, 8, 9, 3), (.aload_n 0, 0, 0, 9, 12, 1), (.getfield 46, 5, 11, 10, 13, 3), (.iload_n 3, 0, 0, 11, 16, 1), (.iaload, 0, 0, 12, 17, 1), (.iload_n 1, 0, 0, 13, 18, 1), (.if_icmp .ne 6, 15, 0, 14, 19, 3), (.iinc 2 1, 0, 0, 15, 22, 3), (.iinc 3 1, 0, 0, 16, 25, 3), (.goto (-24), 4, 0, 0, 28, 3), (.iload_n 2, 0, 0, 18, 31, 1), (.ireturn, 0, 0, 0, 32, 1)]
def M_X5_firesIn : mm_M := (1, 4, k_X5_firesIn)
abbrev n_X5_firesIn : Nat := 42
def k_X6_init : List mm_I := [(.aload_n 0, 0, 0, 1, 0, 1), (.invokespecial 3, 1000, 0, 2, 1, 3), (.aload_n 0, 0, 0, 3, 4, 1), (.iconst (-1), 0, 0, 4, 5, 1), (.putfield 11, 6, 0, 5, 6, 3), (.aload_n 0, 0, 0, 6, 9, 1), (.iconst 0, 0, 0, 7, 10, 1), (.putfield 15, 6, 1, 8, 11, 3), (.aload_n 0, 0, 0, 9, 14, 1), (.bipush 60, 0, 0, 10, 15, 2), (.newarray .int, 0, 0, 11, 17, 2), (.putfield 18, 6, 2, 12, 19, 3), (.return_, 0, 0, 0, 22, 1)]
def M_X6_init : mm_M := (0, 1, k_X6_init)
abbrev n_X6_init : Nat := 43
def k_X6_isLost : List mm_I := [(.aload_n 0, 0, 0, 1, 0, 1), (.getfield 11, 6, 0, 2, 1, 3), (.iconst (-1), 0, 0, 3, 4, 1), (.if_icmp .ne 7, 6, 0, 4, 5, 3), (.iconst 1, 0, 0, 5, 8, 1), (.goto 4, 7, 0, 0, 9, 3), (.iconst 0, 0, 0, 7, 12, 1), (.ireturn, 0, 0, 0, 13, 1)]
def M_X6_isLost : mm_M := (2, 1, k_X6_isLost)
abbrev n_X6_isLost : Nat := 44
def k_X6_renew : List mm_I := [(.aload_n 0, 0, 0, 1, 0, 1), (.iload_n 1, 0, 0, 2, 1, 1), (.putfield 11, 6, 0, 3, 2, 3), (.aload_n 0, 0, 0, 4, 5, 1), (.iload_n 2, 0, 0, 5, 6, 1), (.putfield 15, 6, 1, 6, 7, 3), (.iconst 0, 0, 0, 7, 10, 1), (.istore_n 3, 0, 0, 8, 11, 1), (.iload_n 3, 0, 0, 9, 12, 1), (.bipush 60, 0, 0, 10, 13, 2), (.if_icmp .ge 16, 18, 0, 11, 15, 3), (.aload_n 0, 0, 0, 12, 18, 1), (.getfield 18, 6, 2, 13, 19, 3), (.iload_n 3, 0, 0, 14, 22, 1), (.iconst 0, 0, 0, 15, 23, 1), (.iastore, 0, 0, 16, 24, 1), (.iinc 3 1, 0, 0, 17, 25, 3), (.goto (-16), 8, 0, 0, 28, 3), (.return_, 0, 0, 0, 31, 1)]
def M_X6_renew : mm_M := (0, 4, k_X6_renew)
abbrev n_X6_renew : Nat := 45
def k_X6_put : List mm_I := [(.iload_n 1, 0, 0, 1, 0, 1), (.ifCond .lt 11, 6, 0, 2, 1, 3), (.iload_n 1, 0, 0, 3, 4, 1), (.aload_n 0, 0, 0, 4, 5, 1), (.getfield 15, 6, 1, 5, 6, 3), (.if_icmp .lt 4, 7, 0, 6, 9, 3), (.return_, 0, 0, 0, 12, 1), (.aload_n 0, 0, 0, 8, 13, 1), (.getfield 11, 6, 0, 9, 14, 3), (.ifCond .ne 14, 17, 0, 10, 17, 3), (.aload_n 0, 0, 0, 11, 20, 1), (.getfield 18, 6, 2, 12, 21, 3), (.iload_n 1, 0, 0, 13, 24, 1), (.iload_n 2, 0, 0, 14, 25, 1), (.i2b, 0, 0, 15, 26, 1), (.iastore, 0, 0, 16, 27, 1), (.goto 23, 29, 0, 0, 28, 3), (.aload_n 0, 0, 0, 18, 31, 1), (.getfield 18, 6, 2, 19, 32, 3), (.iload_n 1, 0, 0, 20, 35, 1), (.aload_n 0, 0, 0, 21, 36, 1), (.getfield 11, 6, 0, 22, 37, 3), (.iconst 1, 0, 0, 23, 40, 1), (.if_icmp .ne 8, 27, 0, 24, 41, 3), (.iload_n 2, 0, 0, 25, 44, 1), (.i2s, 0, 0, 26, 45, 1), (.goto 4, 28, 0, 0, 46, 3), (.iload_n 2, 0, 0, 28, 49, 1), (.iastore, 0, 0, 29, 50, 1), (.return_, 0, 0, 0, 51, 1)]
def M_X6_put : mm_M := (0, 3, k_X6_put)
abbrev n_X6_put : Nat := 46
def k_X6_hasRun : List mm_I := [(.iload_n 1, 0, 0, 1, 0, 1), (.ifCond .lt 29, 16, 0, 2, 1, 3), (.iload_n 2, 0, 0, 3, 4, 1), (.ifCond .lt 25, 16, 0, 4, 5, 3), (.iload_n 1, 0, 0, 5, 8, 1), (.aload_n 0, 0, 0, 6, 9, 1), (.getfield 15, 6, 1, 7, 10, 3), (.if_icmp .gt 17, 16, 0, 8, 13, 3), (.iload_n 2, 0, 0, 9, 16, 1), (.aload_n 0, 0, 0, 10, 17, 1), (.getfield 15, 6, 1, 11, 18, 3), (.iload_n 1, 0, 0, 12, 21, 1), (.isub, 0, 0, 13, 22, 1), (.if_icmp .gt 7, 16, 0, 14, 23, 3), (.iconst 1, 0, 0, 15, 26, 1), (.goto 4, 17, 0, 0, 27, 3), (.iconst 0, 0, 0, 17, 30, 1), (.ireturn, 0, 0, 0, 31, 1)]
def M_X6_hasRun : mm_M := (2, 3, k_X6_hasRun)
abbrev n_X6_hasRun : Nat := 47
def k_X7_init : List mm_I := [(.aload_n 0, 0, 0, 1, 0, 1), (.invokespecial 3, 1000, 0, 2, 1, 3), (.aload_n 0, 0, 0, 3, 4, 1), (.bipush 8, 0, 0, 4, 5, 2), (.newarray .int, 0, 0, 5, 7, 2), (.putfield 9, 7, 1, 6, 9, 3), (.aload_n 0, 0, 0, 7, 12, 1), (.bipush 8, 0, 0, 8, 13, 2), (.newarray .int, 0, 0, 9, 15, 2), (.putfield 15, 7, 2, 10, 17, 3), (.aload_n 0, 0, 0, 11, 20, 1), (.bipush 8, 0, 0, 12, 21, 2), (.newarray .int, 0, 0, 13, 23, 2), (.putfield 18, 7, 3, 14, 25, 3), (.aload_n 0, 0, 0, 15, 28, 1), (.iconst 0, 0, 0, 16, 29, 1), (.putfield 21, 7, 4, 17, 30, 3), (.aload_n 0, 0, 0, 18, 33, 1), (.aload_n 1, 0, 0, 19, 34, 1), (.putfield 25, 7, 0, 20, 35, 3), (.return_, 0, 0, 0, 38, 1)]
def M_X7_init : mm_M := (0, 2, k_X7_init)
abbrev n_X7_init : Nat := 48
def k_X7_add : List mm_I := [(.aload_n 0, 0, 0, 1, 0, 1), (.getfield 21, 7, 4, 2, 1, 3), (.bipush 8, 0, 0, 3, 4, 2), (.if_icmp .lt 4, 5, 0, 4, 6, 3), (.return_, 0, 0, 0, 9, 1), (.aload_n 0, 0, 0, 6, 10, 1), (.getfield 9, 7, 1, 7, 11, 3), (.aload_n 0, 0, 0, 8, 14, 1), (.getfield 21, 7, 4, 9, 15, 3), (.iload_n 1, 0, 0, 10, 18, 1), (.iastore, 0, 0, 11, 19, 1), (.aload_n 0, 0, 0, 12, 20, 1), (.getfield 15, 7, 2, 13, 21, 3), (.aload_n 0, 0, 0, 14, 24, 1), (.getfield 21, 7, 4, 15, 25, 3), (.iload_n 2, 0, 0, 16, 28, 1), (.iastore, 0, 0, 17, 29, 1), (.aload_n 0, 0, 0, 18, 30, 1), (.getfield 18, 7, 3, 19, 31, 3), (.aload_n 0, 0, 0, 20, 34, 1), (.getfield 21, 7, 4, 21, 35, 3), (.iload_n 3, 0, 0, 22, 38, 1), (.iastore, 0, 0, 23, 39, 1), (.aload_n 0, 0, 0, 24, 40, 1), (.dup, 0, 0, 25, 41, 1), (.getfield 21, 7, 4, 26, 42, 3), (.iconst 1, 0, 0, 27, 45, 1), (.iadd, 0, 0, 28, 46, 1), (.putfield 21, 7, 4, 29, 47, 3), (.return_, 0, 0, 0, 50, 1)]
def M_X7_add : mm_M := (0, 4, k_X7_add)
abbrev n_X7_add : Nat := 49
def k_X7_lastHour : List mm_I := [(.iconst (-1), 0, 0, 1, 0, 1), (.istore_n 1, 0, 0, 2, 1, 1), (.iconst 0, 0, 0, 3, 2, 1), (.istore_n 2, 0, 0, 4, 3, 1), (.iload_n 2, 0, 0, 5, 4, 1), (.aload_n 0, 0, 0, 6, 5, 1), (.getfield 21, 7, 4, 7, 6, 3), (.if_icmp .ge 20, 17, 0, 8, 9, 3), (.iload_n 1, 0, 0, 9, 12, 1), (.aload_n 0, 0, 0, 10, 13, 1), (.getfield 9, 7, 1, 11, 14, 3), (.iload_n 2, 0, 0, 12, 17, 1), (.iaload, 0, 0, 13, 18, 1), (.invokestatic 29, 1001, 0, 14, 19, 3), (.istore_n 1, 0, 0, 15, 22, 1), (.iinc 2 1, 0, 0, 16, 23, 3), (.goto (-22), 4, 0, 0, 26, 3), (.iload_n 1, 0, 0, 18, 29, 1), (.ireturn, 0, 0, 0, 30, 1)]
def M_X7_lastHour : mm_M := (1, 3, k_X7_lastHour)
abbrev n_X7_lastHour : Nat := 50
def k_X7_agreeWith : List mm_I := [(.iconst 0, 0, 0, 1, 0, 1), (.istore_n 3, 0, 0, 2, 1, 1), (.iload_n 3, 0, 0, 3, 2, 1), (.aload_n 0, 0, 0, 4, 3, 1), (.getfield 21, 7, 4, 5, 4, 3), (.if_icmp .ge 57, 36, 0, 6, 7, 3), (.aload_n 0, 0, 0, 7, 10, 1), (.getfield 9, 7, 1, 8, 11, 3), (.iload_n 3, 0, 0, 9, 14, 1), (.iaload, 0, 0, 10, 15, 1), (.iload_n 2, 0, 0, 11, 16, 1), (.if_icmp .ne 41, 34, 0, 12, 17, 3), (.aload_n 0, 0, 0, 13, 20, 1), (.getfield 15, 7, 2, 14, 21, 3), (.iload_n 3, 0, 0, 15, 24, 1), (.iaload, 0, 0, 16, 25, 1), (.aload_n 0, 0, 0, 17, 26, 1), (.getfield 25, 7, 0, 18, 27, 3), (.getfield 35, 5, 2, 19, 30, 3), (.if_icmp .ge 23, 32, 0, 20, 33, 3), (.aload_n 1, 0, 0, 21, 36, 1), (.getfield 39, 0, 2, 22, 37, 3), (.aload_n 0, 0, 0, 23, 40, 1), (.getfield 15, 7, 2, 24, 41, 3), (.iload_n 3, 0, 0, 25, 44, 1), (.iaload, 0, 0, 26, 45, 1), (.iaload, 0, 0, 27, 46, 1), (.aload_n 0, 0, 0, 28, 47, 1), (.getfield 18, 7, 3, 29, 48, 3), (.iload_n 3, 0, 0, 30, 51, 1), (.iaload, 0, 0, 31, 52, 1), (.if_icmp .eq 5, 34, 0, 32, 53, 3), (.iconst 0, 0, 0, 33, 56, 1), (.ireturn, 0, 0, 0, 57, 1), (.iinc 3 1, 0, 0, 35, 58, 3), (.goto (-59), 2, 0, 0, 61, 3), (.iconst 1, 0, 0, 37, 64, 1), (.ireturn, 0, 0, 0, 65, 1)]
def M_X7_agreeWith : mm_M := (2, 4, k_X7_agreeWith)
abbrev n_X7_agreeWith : Nat := 51
def k_X8_init : List mm_I := [(.aload_n 0, 0, 0, 1, 0, 1), (.invokespecial 3, 1000, 0, 2, 1, 3), (.aload_n 0, 0, 0, 3, 4, 1), (.iconst 0, 0, 0, 4, 5, 1), (.putfield 9, 8, 1, 5, 6, 3), (.aload_n 0, 0, 0, 6, 9, 1), (.iload_n 1, 0, 0, 7, 10, 1), (.iconst 0, 0, 0, 8, 11, 1), (.invokestatic 15, 1001, 0, 9, 12, 3), (.newarray .int, 0, 0, 10, 15, 2), (.putfield 21, 8, 0, 11, 17, 3), (.return_, 0, 0, 0, 20, 1)]
def M_X8_init : mm_M := (0, 2, k_X8_init)
abbrev n_X8_init : Nat := 52
def k_X8_faultAsRack : List mm_I := [(.iconst 0, 0, 0, 1, 0, 1), (.istore_n 1, 0, 0, 2, 1, 1), (.iload_n 1, 0, 0, 3, 2, 1), (.aload_n 0, 0, 0, 4, 3, 1), (.getfield 9, 8, 1, 5, 4, 3), (.if_icmp .ge 23, 16, 0, 6, 7, 3), (.aload_n 0, 0, 0, 7, 10, 1), (.getfield 21, 8, 0, 8, 11, 3), (.iload_n 1, 0, 0, 9, 14, 1), (.iaload, 0, 0, 10, 15, 1), (.invokestatic 25, 112, 1, 11, 16, 3), (.ifCond .ne 5, 14, 0, 12, 19, 3), (.iload_n 1, 0, 0, 13, 22, 1), (.ireturn, 0, 0, 0, 23, 1), (.iinc 1 1, 0, 0, 15, 24, 3), (.goto (-25), 2, 0, 0, 27, 3), (.iconst (-1), 0, 0, 17, 30, 1), (.ireturn, 0, 0, 0, 31, 1)]
def M_X8_faultAsRack : mm_M := (1, 2, k_X8_faultAsRack)
abbrev n_X8_faultAsRack : Nat := 53
def k_X8_faultAsSlices : List mm_I := [(.iconst 0, 0, 0, 1, 0, 1), (.istore_n 1, 0, 0, 2, 1, 1), (.iload_n 1, 0, 0, 3, 2, 1), (.aload_n 0, 0, 0, 4, 3, 1), (.getfield 9, 8, 1, 5, 4, 3), (.if_icmp .ge 26, 19, 0, 6, 7, 3), (.iload_n 1, 0, 0, 7, 10, 1), (.iconst 5, 0, 0, 8, 11, 1), (.irem, 0, 0, 9, 12, 1), (.aload_n 0, 0, 0, 10, 13, 1), (.getfield 21, 8, 0, 11, 14, 3), (.iload_n 1, 0, 0, 12, 17, 1), (.iaload, 0, 0, 13, 18, 1), (.invokestatic 29, 55, 2, 14, 19, 3), (.ifCond .ne 5, 17, 0, 15, 22, 3), (.iload_n 1, 0, 0, 16, 25, 1), (.ireturn, 0, 0, 0, 26, 1), (.iinc 1 1, 0, 0, 18, 27, 3), (.goto (-28), 2, 0, 0, 30, 3), (.aload_n 0, 0, 0, 20, 33, 1), (.getfield 9, 8, 1, 21, 34, 3), (.ifCond .eq 13, 28, 0, 22, 37, 3), (.aload_n 0, 0, 0, 23, 40, 1), (.getfield 9, 8, 1, 24, 41, 3), (.iconst 5, 0, 0, 25, 44, 1), (.irem, 0, 0, 26, 45, 1), (.iconst 4, 0, 0, 27, 46, 1), (.if_icmp .ne 7, 30, 0, 28, 47, 3), (.iconst (-1), 0, 0, 29, 50, 1), (.goto 7, 32, 0, 0, 51, 3), (.aload_n 0, 0, 0, 31, 54, 1), (.getfield 9, 8, 1, 32, 55, 3), (.ireturn, 0, 0, 0, 58, 1)]
def M_X8_faultAsSlices : mm_M := (1, 2, k_X8_faultAsSlices)
abbrev n_X8_faultAsSlices : Nat := 54
def k_X8_goesOn : List mm_I := [(.iload_n 0, 0, 0, 1, 0, 1), (.ifCond .ne 17, 10, 0, 2, 1, 3), (.iload_n 1, 0, 0, 3, 4, 1), (.invokestatic 33, 56, 1, 4, 5, 3), (.iconst (-1), 0, 0, 5, 8, 1), (.if_icmp .eq 7, 8, 0, 6, 9, 3), (.iconst 1, 0, 0, 7, 12, 1), (.goto 4, 9, 0, 0, 13, 3), (.iconst 0, 0, 0, 9, 16, 1), (.ireturn, 0, 0, 0, 17, 1), (.iload_n 0, 0, 0, 11, 18, 1), (.iconst 4, 0, 0, 12, 19, 1), (.if_icmp .ne 17, 20, 0, 13, 20, 3), (.iload_n 1, 0, 0, 14, 23, 1), (.bipush 59, 0, 0, 15, 24, 2), (.if_icmp .ne 7, 18, 0, 16, 26, 3), (.iconst 1, 0, 0, 17, 29, 1), (.goto 11, 22, 0, 0, 30, 3), (.iconst 0, 0, 0, 19, 33, 1), (.goto 7, 22, 0, 0, 34, 3), (.iload_n 1, 0, 0, 21, 37, 1), (.invokestatic 25, 112, 1, 22, 38, 3), (.ireturn, 0, 0, 0, 41, 1)]
def M_X8_goesOn : mm_M := (2, 2, k_X8_goesOn)
abbrev n_X8_goesOn : Nat := 55
def k_X8_kindOf : List mm_I := [(.iload_n 0, 0, 0, 1, 0, 1), (.lookupswitch 51 #[(98, 47), (99, 45), (116, 49), (119, 43)], 10, 0, 0, 1, 43), (.iconst 0, 0, 0, 3, 44, 1), (.ireturn, 0, 0, 0, 45, 1), (.iconst 1, 0, 0, 5, 46, 1), (.ireturn, 0, 0, 0, 47, 1), (.iconst 2, 0, 0, 7, 48, 1), (.ireturn, 0, 0, 0, 49, 1), (.iconst 3, 0, 0, 9, 50, 1), (.ireturn, 0, 0, 0, 51, 1), (.iconst (-1), 0, 0, 11, 52, 1), (.ireturn, 0, 0, 0, 53, 1)]
def M_X8_kindOf : mm_M := (1, 1, k_X8_kindOf)
abbrev n_X8_kindOf : Nat := 56
def k_X9_init : List mm_I := [(.aload_n 0, 0, 0, 1, 0, 1), (.invokespecial 3, 1000, 0, 2, 1, 3), (.aload_n 0, 0, 0, 3, 4, 1), (.bipush 11, 0, 0, 4, 5, 2), (.anewarray 11, 0, 0, 5, 7, 3), (.putfield 13, 9, 0, 6, 10, 3), (.aload_n 0, 0, 0, 7, 13, 1), (.iconst 0, 0, 0, 8, 14, 1), (.putfield 17, 9, 1, 9, 15, 3), (.aload_n 0, 0, 0, 10, 18, 1), (.iconst 0, 0, 0, 11, 19, 1), (.putfield 21, 9, 2, 12, 20, 3), (.aload_n 0, 0, 0, 13, 23, 1), (.iconst 0, 0, 0, 14, 24, 1), (.putfield 24, 9, 3, 15, 25, 3), (.aload_n 0, 0, 0, 16, 28, 1), (.iconst 0, 0, 0, 17, 29, 1), (.putfield 27, 9, 4, 18, 30, 3), (.aload_n 0, 0, 0, 19, 33, 1), (.lconst 0, 0, 0, 20, 34, 1), (.putfield 30, 9, 5, 21, 35, 3), (.aload_n 0, 0, 0, 22, 38, 1), (.lconst 1, 0, 0, 23, 39, 1), (.putfield 34, 9, 6, 24, 40, 3), (.iconst 0, 0, 0, 25, 43, 1), (.istore_n 2, 0, 0, 26, 44, 1), (.iload_n 2, 0, 0, 27, 45, 1), (.bipush 11, 0, 0, 28, 46, 2), (.if_icmp .ge 23, 39, 0, 29, 48, 3), (.aload_n 0, 0, 0, 30, 51, 1), (.getfield 13, 9, 0, 31, 52, 3), (.iload_n 2, 0, 0, 32, 55, 1), (.new 11, 0, 0, 33, 56, 3), (.dup, 0, 0, 34, 59, 1), (.aload_n 1, 0, 0, 35, 60, 1), (.invokespecial 37, 0, 2, 36, 61, 3), (.aastore, 0, 0, 37, 64, 1), (.iinc 2 1, 0, 0, 38, 65, 3), (.goto (-23), 26, 0, 0, 68, 3), (.return_, 0, 0, 0, 71, 1)]
def M_X9_init : mm_M := (0, 3, k_X9_init)
abbrev n_X9_init : Nat := 57
def k_X9_weigh : List mm_I := [(.aload_n 0, 0, 0, 1, 0, 1), (.iload_n 1, 0, 0, 2, 1, 1), (.putfield 17, 9, 1, 3, 2, 3), (.aload_n 0, 0, 0, 4, 5, 1), (.iload_n 3, 0, 0, 5, 6, 1), (.putfield 24, 9, 3, 6, 7, 3), (.aload_n 0, 0, 0, 7, 10, 1), (.iload 4, 0, 0, 8, 11, 2), (.putfield 27, 9, 4, 9, 13, 3), (.aload_n 0, 0, 0, 10, 16, 1), (.iload_n 2, 0, 0, 11, 17, 1), (.iload 4, 0, 0, 12, 18, 2), (.invokestatic 40, 1002, 0, 13, 20, 3), (.bipush 9, 0, 0, 14, 23, 2), (.invokestatic 40, 1002, 0, 15, 25, 3), (.iconst 1, 0, 0, 16, 28, 1), (.iadd, 0, 0, 17, 29, 1), (.putfield 21, 9, 2, 18, 30, 3), (.aload_n 0, 0, 0, 19, 33, 1), (.getfield 13, 9, 0, 20, 34, 3), (.iconst 0, 0, 0, 21, 37, 1), (.aaload, 0, 0, 22, 38, 1), (.invokevirtual 46, 1, 1, 23, 39, 3), (.aload_n 0, 0, 0, 24, 42, 1), (.aload_n 0, 0, 0, 25, 43, 1), (.iconst 0, 0, 0, 26, 44, 1), (.invokestatic 49, 59, 2, 27, 45, 3), (.putfield 30, 9, 5, 28, 48, 3), (.aload_n 0, 0, 0, 29, 51, 1), (.lconst 1, 0, 0, 30, 52, 1), (.iconst 4, 0, 0, 31, 53, 1), (.aload_n 0, 0, 0, 32, 54, 1), (.getfield 21, 9, 2, 33, 55, 3), (.imul, 0, 0, 34, 58, 1), (.lshl, 0, 0, 35, 59, 1), (.putfield 34, 9, 6, 36, 60, 3), (.iconst 0, 0, 0, 37, 63, 1), (.istore 5, 0, 0, 38, 64, 2), (.iload 5, 0, 0, 39, 66, 2), (.bipush 40, 0, 0, 40, 68, 2), (.if_icmp .ge 49, 67, 0, 41, 70, 3), (.aload_n 0, 0, 0, 42, 73, 1), (.getfield 34, 9, 6, 43, 74, 3), (.lconst 1, 0, 0, 44, 77, 1), (.lcmp, 0, 0, 45, 78, 1), (.ifCond .le 40, 67, 0, 46, 79, 3), (.aload_n 0, 0, 0, 47, 82, 1), (.getfield 30, 9, 5, 48, 83, 3), (.lconst 1, 0, 0, 49, 86, 1), (.land, 0, 0, 50, 87, 1), (.lconst 0, 0, 0, 51, 88, 1), (.lcmp, 0, 0, 52, 89, 1), (.ifCond .ne 29, 67, 0, 53, 90, 3), (.aload_n 0, 0, 0, 54, 93, 1), (.dup, 0, 0, 55, 94, 1), (.getfield 30, 9, 5, 56, 95, 3), (.iconst 1, 0, 0, 57, 98, 1), (.lshr, 0, 0, 58, 99, 1), (.putfield 30, 9, 5, 59, 100, 3), (.aload_n 0, 0, 0, 60, 103, 1), (.dup, 0, 0, 61, 104, 1), (.getfield 34, 9, 6, 62, 105, 3), (.iconst 1, 0, 0, 63, 108, 1), (.lshr, 0, 0, 64, 109, 1), (.putfield 34, 9, 6, 65, 110, 3), (.iinc 5 1, 0, 0, 66, 113, 3), (.goto (-50), 38, 0, 0, 116, 3), (.return_, 0, 0, 0, 119, 1)]
def M_X9_weigh : mm_M := (0, 6, k_X9_weigh)
abbrev n_X9_weigh : Nat := 58
def k_X9_ways : List mm_I := [(.iload_n 1, 0, 0, 1, 0, 1), (.ifCond .lt 17, 9, 0, 2, 1, 3), (.iload_n 1, 0, 0, 3, 4, 1), (.aload_n 0, 0, 0, 4, 5, 1), (.getfield 21, 9, 2, 5, 6, 3), (.if_icmp .gt 9, 9, 0, 6, 9, 3), (.iload_n 1, 0, 0, 7, 12, 1), (.bipush 10, 0, 0, 8, 13, 2), (.if_icmp .le 5, 11, 0, 9, 15, 3), (.lconst 0, 0, 0, 10, 18, 1), (.lreturn, 0, 0, 0, 19, 1), (.aload_n 0, 0, 0, 12, 20, 1), (.getfield 13, 9, 0, 13, 21, 3), (.iload_n 1, 0, 0, 14, 24, 1), (.aaload, 0, 0, 15, 25, 1), (.astore_n 2, 0, 0, 16, 26, 1), (.aload_n 2, 0, 0, 17, 27, 1), (.getfield 53, 0, 5, 18, 28, 3), (.aload_n 0, 0, 0, 19, 31, 1), (.getfield 24, 9, 3, 20, 32, 3), (.iaload, 0, 0, 21, 35, 1), (.iconst (-1), 0, 0, 22, 36, 1), (.if_icmp .eq 14, 32, 0, 23, 37, 3), (.lconst 1, 0, 0, 24, 40, 1), (.iconst 4, 0, 0, 25, 41, 1), (.aload_n 0, 0, 0, 26, 42, 1), (.getfield 21, 9, 2, 27, 43, 3), (.iload_n 1, 0, 0, 28, 46, 1), (.isub, 0, 0, 29, 47, 1), (.imul, 0, 0, 30, 48, 1), (.lshl, 0, 0, 31, 49, 1), (.lreturn, 0, 0, 0, 50, 1), (.aload_n 2, 0, 0, 33, 51, 1), (.getfield 57, 0, 2, 34, 52, 3), (.aload_n 0, 0, 0, 35, 55, 1), (.getfield 24, 9, 3, 36, 56, 3), (.iaload, 0, 0, 37, 59, 1), (.iconst 3, 0, 0, 38, 60, 1), (.if_icmp .ne 5, 41, 0, 39, 61, 3), (.lconst 0, 0, 0, 40, 64, 1), (.lreturn, 0, 0, 0, 65, 1), (.iload_n 1, 0, 0, 42, 66, 1), (.aload_n 0, 0, 0, 43, 67, 1), (.getfield 21, 9, 2, 44, 68, 3), (.if_icmp .ge 9, 48, 0, 45, 71, 3), (.iload_n 1, 0, 0, 46, 74, 1), (.bipush 9, 0, 0, 47, 75, 2), (.if_icmp .le 17, 56, 0, 48, 77, 3), (.aload_n 0, 0, 0, 49, 80, 1), (.iload_n 1, 0, 0, 50, 81, 1), (.invokevirtual 60, 60, 2, 51, 82, 3), (.ifCond .eq 7, 54, 0, 52, 85, 3), (.lconst 1, 0, 0, 53, 88, 1), (.goto 4, 55, 0, 0, 89, 3), (.lconst 0, 0, 0, 55, 92, 1), (.lreturn, 0, 0, 0, 93, 1), (.lconst 0, 0, 0, 57, 94, 1), (.lstore_n 3, 0, 0, 58, 95, 1), (.aload_n 0, 0, 0, 59, 96, 1), (.getfield 17, 9, 1, 60, 97, 3), (.ifCond .le 33, 83, 0, 61, 100, 3), (.aload_n 0, 0, 0, 62, 103, 1), (.getfield 13, 9, 0, 63, 104, 3), (.iload_n 1, 0, 0, 64, 107, 1), (.iconst 1, 0, 0, 65, 108, 1), (.iadd, 0, 0, 66, 109, 1), (.aaload, 0, 0, 67, 110, 1), (.aload_n 2, 0, 0, 68, 111, 1), (.iload_n 1, 0, 0, 69, 112, 1), (.iconst 3, 0, 0, 70, 113, 1), (.invokevirtual 64, 3, 4, 71, 114, 3), (.lload_n 3, 0, 0, 72, 117, 1), (.aload_n 0, 0, 0, 73, 118, 1), (.getfield 17, 9, 1, 74, 119, 3), (.i2l, 0, 0, 75, 122, 1), (.aload_n 0, 0, 0, 76, 123, 1), (.iload_n 1, 0, 0, 77, 124, 1), (.iconst 1, 0, 0, 78, 125, 1), (.iadd, 0, 0, 79, 126, 1), (.invokestatic 49, 59, 2, 80, 127, 3), (.lmul, 0, 0, 81, 130, 1), (.ladd, 0, 0, 82, 131, 1), (.lstore_n 3, 0, 0, 83, 132, 1), (.aload_n 0, 0, 0, 84, 133, 1), (.getfield 17, 9, 1, 85, 134, 3), (.bipush 16, 0, 0, 86, 137, 2), (.if_icmp .ge 36, 111, 0, 87, 139, 3), (.aload_n 0, 0, 0, 88, 142, 1), (.getfield 13, 9, 0, 89, 143, 3), (.iload_n 1, 0, 0, 90, 146, 1), (.iconst 1, 0, 0, 91, 147, 1), (.iadd, 0, 0, 92, 148, 1), (.aaload, 0, 0, 93, 149, 1), (.aload_n 2, 0, 0, 94, 150, 1), (.iload_n 1, 0, 0, 95, 151, 1), (.iconst 0, 0, 0, 96, 152, 1), (.invokevirtual 64, 3, 4, 97, 153, 3), (.lload_n 3, 0, 0, 98, 156, 1), (.bipush 16, 0, 0, 99, 157, 2), (.aload_n 0, 0, 0, 100, 159, 1), (.getfield 17, 9, 1, 101, 160, 3), (.isub, 0, 0, 102, 163, 1), (.i2l, 0, 0, 103, 164, 1), (.aload_n 0, 0, 0, 104, 165, 1), (.iload_n 1, 0, 0, 105, 166, 1), (.iconst 1, 0, 0, 106, 167, 1), (.iadd, 0, 0, 107, 168, 1), (.invokestatic 49, 59, 2, 108, 169, 3), (.lmul, 0, 0, 109, 172, 1), (.ladd, 0, 0, 110, 173, 1), (.lstore_n 3, 0, 0, 111, 174, 1), (.lload_n 3, 0, 0, 112, 175, 1), (.lreturn, 0, 0, 0, 176, 1)]
def M_X9_ways : mm_M := (3, 5, k_X9_ways)
abbrev n_X9_ways : Nat := 59
def k_X9_isLetGoFrom : List mm_I := [(.aload_n 0, 0, 0, 1, 0, 1), (.getfield 13, 9, 0, 2, 1, 3), (.iload_n 1, 0, 0, 3, 4, 1), (.aaload, 0, 0, 4, 5, 1), (.astore_n 2, 0, 0, 5, 6, 1), (.iload_n 1, 0, 0, 6, 7, 1), (.istore_n 3, 0, 0, 7, 8, 1), (.iload_n 3, 0, 0, 8, 9, 1), (.aload_n 0, 0, 0, 9, 10, 1), (.getfield 27, 9, 4, 10, 11, 3), (.if_icmp .gt 33, 27, 0, 11, 14, 3), (.aload_n 2, 0, 0, 12, 17, 1), (.getfield 53, 0, 5, 13, 18, 3), (.aload_n 0, 0, 0, 14, 21, 1), (.getfield 24, 9, 3, 15, 22, 3), (.iaload, 0, 0, 16, 25, 1), (.iconst (-1), 0, 0, 17, 26, 1), (.if_icmp .ne 20, 27, 0, 18, 27, 3), (.aload_n 2, 0, 0, 19, 30, 1), (.iload_n 3, 0, 0, 20, 31, 1), (.invokevirtual 68, 4, 2, 21, 32, 3), (.aload_n 2, 0, 0, 22, 35, 1), (.iload_n 3, 0, 0, 23, 36, 1), (.iconst 0, 0, 0, 24, 37, 1), (.invokevirtual 72, 5, 3, 25, 38, 3), (.iinc 3 1, 0, 0, 26, 41, 3), (.goto (-35), 7, 0, 0, 44, 3), (.aload_n 2, 0, 0, 28, 47, 1), (.getfield 53, 0, 5, 29, 48, 3), (.aload_n 0, 0, 0, 30, 51, 1), (.getfield 24, 9, 3, 31, 52, 3), (.iaload, 0, 0, 32, 55, 1), (.iconst (-1), 0, 0, 33, 56, 1), (.if_icmp .eq 7, 36, 0, 34, 57, 3), (.iconst 1, 0, 0, 35, 60, 1), (.goto 4, 37, 0, 0, 61, 3), (.iconst 0, 0, 0, 37, 64, 1), (.ireturn, 0, 0, 0, 65, 1)]
def M_X9_isLetGoFrom : mm_M := (2, 4, k_X9_isLetGoFrom)
abbrev n_X9_isLetGoFrom : Nat := 60
def k_X10_init : List mm_I := [(.aload_n 0, 0, 0, 1, 0, 1), (.invokespecial 1, 1000, 0, 2, 1, 3), (.aload_n 0, 0, 0, 3, 4, 1), (.iconst 2, 0, 0, 4, 5, 1), (.anewarray 7, 8, 0, 5, 6, 3), (.putfield 9, 10, 0, 6, 9, 3), (.aload_n 0, 0, 0, 7, 12, 1), (.new 15, 5, 0, 8, 13, 3), (.dup, 0, 0, 9, 16, 1), (.invokespecial 17, 39, 1, 10, 17, 3), (.putfield 18, 10, 1, 11, 20, 3), (.aload_n 0, 0, 0, 12, 23, 1), (.new 22, 2, 0, 13, 24, 3), (.dup, 0, 0, 14, 27, 1), (.aload_n 0, 0, 0, 15, 28, 1), (.getfield 18, 10, 1, 16, 29, 3), (.invokespecial 24, 24, 2, 17, 32, 3), (.putfield 27, 10, 2, 18, 35, 3), (.aload_n 0, 0, 0, 19, 38, 1), (.new 31, 0, 0, 20, 39, 3), (.dup, 0, 0, 21, 42, 1), (.aload_n 0, 0, 0, 22, 43, 1), (.getfield 18, 10, 1, 23, 44, 3), (.invokespecial 33, 0, 2, 24, 47, 3), (.putfield 34, 10, 3, 25, 50, 3), (.aload_n 0, 0, 0, 26, 53, 1), (.new 38, 4, 0, 27, 54, 3), (.dup, 0, 0, 28, 57, 1), (.aload_n 0, 0, 0, 29, 58, 1), (.getfield 18, 10, 1, 30, 59, 3), (.aload_n 0, 0, 0, 31, 62, 1), (.getfield 34, 10, 3, 32, 63, 3), (.invokespecial 40, 30, 3, 33, 66, 3), (.putfield 43, 10, 4, 34, 69, 3), (.aload_n 0, 0, 0, 35, 72, 1), (.new 47, 7, 0, 36, 73, 3), (.dup, 0, 0, 37, 76, 1), (.aload_n 0, 0, 0, 38, 77, 1), (.getfield 18, 10, 1, 39, 78, 3), (.invokespecial 49, 48, 2, 40, 81, 3), (.putfield 50, 10, 5, 41, 84, 3), (.aload_n 0, 0, 0, 42, 87, 1), (.new 54, 1, 0, 43, 88, 3), (.dup, 0, 0, 44, 91, 1), (.aload_n 0, 0, 0, 45, 92, 1), (.getfield 18, 10, 1, 46, 93, 3), (.aload_n 0, 0, 0, 47, 96, 1), (.getfield 50, 10, 5, 48, 97, 3), (.aload_n 0, 0, 0, 49, 100, 1), (.getfield 34, 10, 3, 50, 101, 3), (.invokespecial 56, 16, 4, 51, 104, 3), (.putfield 59, 10, 6, 52, 107, 3), (.aload_n 0, 0, 0, 53, 110, 1), (.new 63, 9, 0, 54, 111, 3), (.dup, 0, 0, 55, 114, 1), (.aload_n 0, 0, 0, 56, 115, 1), (.getfield 18, 10, 1, 57, 116, 3), (.invokespecial 65, 57, 2, 58, 119, 3), (.putfield 66, 10, 7, 59, 122, 3), (.aload_n 0, 0, 0, 60, 125, 1), (.new 70, 3, 0, 61, 126, 3), (.dup, 0, 0, 62, 129, 1), (.aload_n 0, 0, 0, 63, 130, 1), (.getfield 18, 10, 1, 64, 131, 3), (.aload_n 0, 0, 0, 65, 134, 1), (.getfield 34, 10, 3, 66, 135, 3), (.invokespecial 72, 27, 3, 67, 138, 3), (.putfield 73, 10, 8, 68, 141, 3), (.aload_n 0, 0, 0, 69, 144, 1), (.iconst 4, 0, 0, 70, 145, 1), (.anewarray 77, 6, 0, 71, 146, 3), (.putfield 79, 10, 9, 72, 149, 3), (.aload_n 0, 0, 0, 73, 152, 1), (.iconst 0, 0, 0, 74, 153, 1), (.putfield 83, 10, 10, 75, 154, 3), (.aload_n 0, 0, 0, 76, 157, 1), (.getfield 9, 10, 0, 77, 158, 3), (.iconst 0, 0, 0, 78, 161, 1), (.new 7, 8, 0, 79, 162, 3), (.dup, 0, 0, 80, 165, 1), (.bipush 10, 0, 0, 81, 166, 2), (.invokespecial 87, 52, 2, 82, 168, 3), (.aastore, 0, 0, 83, 171, 1), (.aload_n 0, 0, 0, 84, 172, 1), (.getfield 9, 10, 0, 85, 173, 3), (.iconst 1, 0, 0, 86, 176, 1), (.new 7, 8, 0, 87, 177, 3), (.dup, 0, 0, 88, 180, 1), (.bipush 39, 0, 0, 89, 181, 2), (.invokespecial 87, 52, 2, 90, 183, 3), (.aastore, 0, 0, 91, 186, 1), (.iconst 0, 0, 0, 92, 187, 1), (.istore_n 1, 0, 0, 93, 188, 1), (.iload_n 1, 0, 0, 94, 189, 1), (.iconst 4, 0, 0, 95, 190, 1), (.if_icmp .ge 22, 105, 0, 96, 191, 3), (.aload_n 0, 0, 0, 97, 194, 1), (.getfield 79, 10, 9, 98, 195, 3), (.iload_n 1, 0, 0, 99, 198, 1), (.new 77, 6, 0, 100, 199, 3), (.dup, 0, 0, 101, 202, 1), (.invokespecial 90, 43, 1, 102, 203, 3), (.aastore, 0, 0, 103, 206, 1), (.iinc 1 1, 0, 0, 104, 207, 3), (.goto (-21), 93, 0, 0, 210, 3), (.return_, 0, 0, 0, 213, 1)]
def M_X10_init : mm_M := (0, 2, k_X10_init)
abbrev n_X10_init : Nat := 61
def k_X10_type : List mm_I := [(.iload_n 1, 0, 0, 1, 0, 1), (.invokestatic 91, 107, 1, 2, 1, 3), (.ifCond .eq 13, 7, 0, 3, 4, 3), (.iload_n 2, 0, 0, 4, 7, 1), (.sipush 255, 0, 0, 5, 8, 3), (.invokestatic 95, 106, 2, 6, 11, 3), (.ifCond .ne 6, 9, 0, 7, 14, 3), (.bipush (-2), 0, 0, 8, 17, 2), (.ireturn, 0, 0, 0, 19, 1), (.aload_n 0, 0, 0, 10, 20, 1), (.getfield 9, 10, 0, 11, 21, 3), (.iload_n 1, 0, 0, 12, 24, 1), (.aaload, 0, 0, 13, 25, 1), (.astore_n 3, 0, 0, 14, 26, 1), (.aload_n 3, 0, 0, 15, 27, 1), (.getfield 99, 8, 1, 16, 28, 3), (.aload_n 3, 0, 0, 17, 31, 1), (.getfield 102, 8, 0, 18, 32, 3), (.arraylength, 0, 0, 19, 35, 1), (.if_icmp .lt 6, 22, 0, 20, 36, 3), (.bipush (-4), 0, 0, 21, 39, 2), (.ireturn, 0, 0, 0, 41, 1), (.aload_n 3, 0, 0, 23, 42, 1), (.getfield 102, 8, 0, 24, 43, 3), (.aload_n 3, 0, 0, 25, 46, 1), (.getfield 99, 8, 1, 26, 47, 3), (.iload_n 2, 0, 0, 27, 50, 1), (.iastore, 0, 0, 28, 51, 1), (.aload_n 3, 0, 0, 29, 52, 1), (.dup, 0, 0, 30, 53, 1), (.getfield 99, 8, 1, 31, 54, 3), (.iconst 1, 0, 0, 32, 57, 1), (.iadd, 0, 0, 33, 58, 1), (.putfield 99, 8, 1, 34, 59, 3), (.aload_n 0, 0, 0, 35, 62, 1), (.iload_n 1, 0, 0, 36, 63, 1), (.invokevirtual 106, 103, 2, 37, 64, 3), (.aload_n 3, 0, 0, 38, 67, 1), (.getfield 99, 8, 1, 39, 68, 3), (.ireturn, 0, 0, 0, 71, 1)]
def M_X10_type : mm_M := (1, 4, k_X10_type)
abbrev n_X10_type : Nat := 62
def k_X10_wipe : List mm_I := [(.iload_n 1, 0, 0, 1, 0, 1), (.invokestatic 91, 107, 1, 2, 1, 3), (.ifCond .ne 6, 5, 0, 3, 4, 3), (.bipush (-2), 0, 0, 4, 7, 2), (.ireturn, 0, 0, 0, 9, 1), (.aload_n 0, 0, 0, 6, 10, 1), (.getfield 9, 10, 0, 7, 11, 3), (.iload_n 1, 0, 0, 8, 14, 1), (.aaload, 0, 0, 9, 15, 1), (.getfield 99, 8, 1, 10, 16, 3), (.istore_n 2, 0, 0, 11, 19, 1), (.aload_n 0, 0, 0, 12, 20, 1), (.getfield 9, 10, 0, 13, 21, 3), (.iload_n 1, 0, 0, 14, 24, 1), (.aaload, 0, 0, 15, 25, 1), (.iconst 0, 0, 0, 16, 26, 1), (.putfield 99, 8, 1, 17, 27, 3), (.aload_n 0, 0, 0, 18, 30, 1), (.iload_n 1, 0, 0, 19, 31, 1), (.invokevirtual 106, 103, 2, 20, 32, 3), (.iload_n 2, 0, 0, 21, 35, 1), (.ireturn, 0, 0, 0, 36, 1)]
def M_X10_wipe : mm_M := (1, 3, k_X10_wipe)
abbrev n_X10_wipe : Nat := 63
def k_X10_undo : List mm_I := [(.iload_n 1, 0, 0, 1, 0, 1), (.invokestatic 91, 107, 1, 2, 1, 3), (.ifCond .ne 6, 5, 0, 3, 4, 3), (.bipush (-2), 0, 0, 4, 7, 2), (.ireturn, 0, 0, 0, 9, 1), (.aload_n 0, 0, 0, 6, 10, 1), (.getfield 9, 10, 0, 7, 11, 3), (.iload_n 1, 0, 0, 8, 14, 1), (.aaload, 0, 0, 9, 15, 1), (.getfield 99, 8, 1, 10, 16, 3), (.ifCond .ne 6, 13, 0, 11, 19, 3), (.bipush (-3), 0, 0, 12, 22, 2), (.ireturn, 0, 0, 0, 24, 1), (.aload_n 0, 0, 0, 14, 25, 1), (.getfield 9, 10, 0, 15, 26, 3), (.iload_n 1, 0, 0, 16, 29, 1), (.aaload, 0, 0, 17, 30, 1), (.dup, 0, 0, 18, 31, 1), (.getfield 99, 8, 1, 19, 32, 3), (.iconst 1, 0, 0, 20, 35, 1), (.isub, 0, 0, 21, 36, 1), (.putfield 99, 8, 1, 22, 37, 3), (.aload_n 0, 0, 0, 23, 40, 1), (.iload_n 1, 0, 0, 24, 41, 1), (.invokevirtual 106, 103, 2, 25, 42, 3), (.aload_n 0, 0, 0, 26, 45, 1), (.getfield 9, 10, 0, 27, 46, 3), (.iload_n 1, 0, 0, 28, 49, 1), (.aaload, 0, 0, 29, 50, 1), (.getfield 99, 8, 1, 30, 51, 3), (.ireturn, 0, 0, 0, 54, 1)]
def M_X10_undo : mm_M := (1, 2, k_X10_undo)
abbrev n_X10_undo : Nat := 64
def k_X10_fault : List mm_I := [(.iload_n 1, 0, 0, 1, 0, 1), (.invokestatic 91, 107, 1, 2, 1, 3), (.ifCond .ne 6, 5, 0, 3, 4, 3), (.bipush (-2), 0, 0, 4, 7, 2), (.ireturn, 0, 0, 0, 9, 1), (.iload_n 1, 0, 0, 6, 10, 1), (.ifCond .ne 15, 13, 0, 7, 11, 3), (.aload_n 0, 0, 0, 8, 14, 1), (.getfield 9, 10, 0, 9, 15, 3), (.iconst 0, 0, 0, 10, 18, 1), (.aaload, 0, 0, 11, 19, 1), (.invokevirtual 109, 53, 1, 12, 20, 3), (.goto 12, 18, 0, 0, 23, 3), (.aload_n 0, 0, 0, 14, 26, 1), (.getfield 9, 10, 0, 15, 27, 3), (.iconst 1, 0, 0, 16, 30, 1), (.aaload, 0, 0, 17, 31, 1), (.invokevirtual 113, 54, 1, 18, 32, 3), (.ireturn, 0, 0, 0, 35, 1)]
def M_X10_fault : mm_M := (1, 2, k_X10_fault)
abbrev n_X10_fault : Nat := 65
def k_X10_draws : List mm_I := [(.iload_n 1, 0, 0, 1, 0, 1), (.aload_n 0, 0, 0, 2, 1, 1), (.getfield 18, 10, 1, 3, 2, 3), (.getfield 116, 5, 0, 4, 5, 3), (.iconst 1, 0, 0, 5, 8, 1), (.isub, 0, 0, 6, 9, 1), (.invokestatic 95, 106, 2, 7, 10, 3), (.ifCond .eq 15, 14, 0, 8, 13, 3), (.aload_n 0, 0, 0, 9, 16, 1), (.getfield 18, 10, 1, 10, 17, 3), (.getfield 119, 5, 1, 11, 20, 3), (.iload_n 1, 0, 0, 12, 23, 1), (.iaload, 0, 0, 13, 24, 1), (.goto 5, 15, 0, 0, 25, 3), (.bipush (-2), 0, 0, 15, 28, 2), (.ireturn, 0, 0, 0, 30, 1)]
def M_X10_draws : mm_M := (1, 2, k_X10_draws)
abbrev n_X10_draws : Nat := 66
def k_X10_slice : List mm_I := [(.aload_n 0, 0, 0, 1, 0, 1), (.iload_n 1, 0, 0, 2, 1, 1), (.invokevirtual 122, 109, 2, 3, 2, 3), (.ifCond .eq 11, 8, 0, 4, 5, 3), (.iload_n 2, 0, 0, 5, 8, 1), (.iconst 2, 0, 0, 6, 9, 1), (.invokestatic 95, 106, 2, 7, 10, 3), (.ifCond .ne 6, 10, 0, 8, 13, 3), (.bipush (-2), 0, 0, 9, 16, 2), (.ireturn, 0, 0, 0, 18, 1), (.iload_n 2, 0, 0, 11, 19, 1), (.ifCond .ne 13, 18, 0, 12, 20, 3), (.aload_n 0, 0, 0, 13, 23, 1), (.getfield 18, 10, 1, 14, 24, 3), (.getfield 125, 5, 3, 15, 27, 3), (.iload_n 1, 0, 0, 16, 30, 1), (.iaload, 0, 0, 17, 31, 1), (.ireturn, 0, 0, 0, 32, 1), (.iload_n 2, 0, 0, 19, 33, 1), (.iconst 1, 0, 0, 20, 34, 1), (.if_icmp .ne 15, 27, 0, 21, 35, 3), (.aload_n 0, 0, 0, 22, 38, 1), (.getfield 18, 10, 1, 23, 39, 3), (.getfield 128, 5, 4, 24, 42, 3), (.iload_n 1, 0, 0, 25, 45, 1), (.iaload, 0, 0, 26, 46, 1), (.goto 12, 32, 0, 0, 47, 3), (.aload_n 0, 0, 0, 28, 50, 1), (.getfield 18, 10, 1, 29, 51, 3), (.getfield 131, 5, 5, 30, 54, 3), (.iload_n 1, 0, 0, 31, 57, 1), (.iaload, 0, 0, 32, 58, 1), (.ireturn, 0, 0, 0, 59, 1)]
def M_X10_slice : mm_M := (1, 3, k_X10_slice)
abbrev n_X10_slice : Nat := 67
def k_X10_set : List mm_I := [(.iload_n 1, 0, 0, 1, 0, 1), (.iconst 2, 0, 0, 2, 1, 1), (.invokestatic 95, 106, 2, 3, 2, 3), (.ifCond .eq 15, 10, 0, 4, 5, 3), (.iload_n 2, 0, 0, 5, 8, 1), (.getstatic 134, 1001, 0, 6, 9, 3), (.iload_n 1, 0, 0, 7, 12, 1), (.iaload, 0, 0, 8, 13, 1), (.invokestatic 95, 106, 2, 9, 14, 3), (.ifCond .ne 6, 12, 0, 10, 17, 3), (.bipush (-2), 0, 0, 11, 20, 2), (.ireturn, 0, 0, 0, 22, 1), (.aload_n 0, 0, 0, 13, 23, 1), (.getfield 18, 10, 1, 14, 24, 3), (.getfield 137, 5, 6, 15, 27, 3), (.iload_n 1, 0, 0, 16, 30, 1), (.iaload, 0, 0, 17, 31, 1), (.istore_n 3, 0, 0, 18, 32, 1), (.aload_n 0, 0, 0, 19, 33, 1), (.getfield 18, 10, 1, 20, 34, 3), (.getfield 137, 5, 6, 21, 37, 3), (.iload_n 1, 0, 0, 22, 40, 1), (.iload_n 2, 0, 0, 23, 41, 1), (.iastore, 0, 0, 24, 42, 1), (.aload_n 0, 0, 0, 25, 43, 1), (.getfield 27, 10, 2, 26, 44, 3), (.iconst 0, 0, 0, 27, 47, 1), (.putfield 140, 2, 5, 28, 48, 3), (.iload_n 3, 0, 0, 29, 51, 1), (.ireturn, 0, 0, 0, 52, 1)]
def M_X10_set : mm_M := (1, 4, k_X10_set)
abbrev n_X10_set : Nat := 68
def k_X10_butter : List mm_I := [(.iload_n 1, 0, 0, 1, 0, 1), (.invokestatic 144, 108, 1, 2, 1, 3), (.ifCond .eq 12, 7, 0, 3, 4, 3), (.iload_n 2, 0, 0, 4, 7, 1), (.bipush 7, 0, 0, 5, 8, 2), (.invokestatic 95, 106, 2, 6, 10, 3), (.ifCond .ne 6, 9, 0, 7, 13, 3), (.bipush (-2), 0, 0, 8, 16, 2), (.ireturn, 0, 0, 0, 18, 1), (.aload_n 0, 0, 0, 10, 19, 1), (.getfield 18, 10, 1, 11, 20, 3), (.getfield 147, 5, 7, 12, 23, 3), (.bipush 8, 0, 0, 13, 26, 2), (.if_icmp .lt 6, 16, 0, 14, 28, 3), (.bipush (-4), 0, 0, 15, 31, 2), (.ireturn, 0, 0, 0, 33, 1), (.aload_n 0, 0, 0, 17, 34, 1), (.getfield 18, 10, 1, 18, 35, 3), (.getfield 150, 5, 8, 19, 38, 3), (.aload_n 0, 0, 0, 20, 41, 1), (.getfield 18, 10, 1, 21, 42, 3), (.getfield 147, 5, 7, 22, 45, 3), (.iload_n 1, 0, 0, 23, 48, 1), (.iastore, 0, 0, 24, 49, 1), (.aload_n 0, 0, 0, 25, 50, 1), (.getfield 18, 10, 1, 26, 51, 3), (.getfield 153, 5, 9, 27, 54, 3), (.aload_n 0, 0, 0, 28, 57, 1), (.getfield 18, 10, 1, 29, 58, 3), (.getfield 147, 5, 7, 30, 61, 3), (.iload_n 2, 0, 0, 31, 64, 1), (.iastore, 0, 0, 32, 65, 1), (.aload_n 0, 0, 0, 33, 66, 1), (.getfield 18, 10, 1, 34, 67, 3), (.dup, 0, 0, 35, 70, 1), (.getfield 147, 5, 7, 36, 71, 3), (.iconst 1, 0, 0, 37, 74, 1), (.iadd, 0, 0, 38, 75, 1), (.putfield 147, 5, 7, 39, 76, 3), (.aload_n 0, 0, 0, 40, 79, 1), (.getfield 27, 10, 2, 41, 80, 3), (.iconst 0, 0, 0, 42, 83, 1), (.putfield 140, 2, 5, 43, 84, 3), (.aload_n 0, 0, 0, 44, 87, 1), (.getfield 18, 10, 1, 45, 88, 3), (.getfield 147, 5, 7, 46, 91, 3), (.ireturn, 0, 0, 0, 94, 1)]
def M_X10_butter : mm_M := (1, 3, k_X10_butter)
abbrev n_X10_butter : Nat := 69
def k_X10_fire : List mm_I := [(.iload_n 1, 0, 0, 1, 0, 1), (.invokestatic 144, 108, 1, 2, 1, 3), (.ifCond .ne 6, 5, 0, 3, 4, 3), (.bipush (-2), 0, 0, 4, 7, 2), (.ireturn, 0, 0, 0, 9, 1), (.aload_n 0, 0, 0, 6, 10, 1), (.getfield 18, 10, 1, 7, 11, 3), (.getfield 156, 5, 10, 8, 14, 3), (.iconst 4, 0, 0, 9, 17, 1), (.if_icmp .lt 6, 12, 0, 10, 18, 3), (.bipush (-4), 0, 0, 11, 21, 2), (.ireturn, 0, 0, 0, 23, 1), (.aload_n 0, 0, 0, 13, 24, 1), (.getfield 18, 10, 1, 14, 25, 3), (.getfield 159, 5, 11, 15, 28, 3), (.aload_n 0, 0, 0, 16, 31, 1), (.getfield 18, 10, 1, 17, 32, 3), (.getfield 156, 5, 10, 18, 35, 3), (.iload_n 1, 0, 0, 19, 38, 1), (.iastore, 0, 0, 20, 39, 1), (.aload_n 0, 0, 0, 21, 40, 1), (.getfield 18, 10, 1, 22, 41, 3), (.dup, 0, 0, 23, 44, 1), (.getfield 156, 5, 10, 24, 45, 3), (.iconst 1, 0, 0, 25, 48, 1), (.iadd, 0, 0, 26, 49, 1), (.putfield 156, 5, 10, 27, 50, 3), (.aload_n 0, 0, 0, 28, 53, 1), (.getfield 27, 10, 2, 29, 54, 3), (.iconst 0, 0, 0, 30, 57, 1), (.putfield 140, 2, 5, 31, 58, 3), (.aload_n 0, 0, 0, 32, 61, 1), (.getfield 18, 10, 1, 33, 62, 3), (.getfield 156, 5, 10, 34, 65, 3), (.ireturn, 0, 0, 0, 68, 1)]
def M_X10_fire : mm_M := (1, 2, k_X10_fire)
abbrev n_X10_fire : Nat := 70
def k_X10_back : List mm_I := [(.iload_n 1, 0, 0, 1, 0, 1), (.iconst 1, 0, 0, 2, 1, 1), (.invokestatic 95, 106, 2, 3, 2, 3), (.ifCond .ne 6, 6, 0, 4, 5, 3), (.bipush (-2), 0, 0, 5, 8, 2), (.ireturn, 0, 0, 0, 10, 1), (.iload_n 1, 0, 0, 7, 11, 1), (.ifCond .ne 13, 12, 0, 8, 12, 3), (.aload_n 0, 0, 0, 9, 15, 1), (.getfield 18, 10, 1, 10, 16, 3), (.getfield 147, 5, 7, 11, 19, 3), (.goto 10, 15, 0, 0, 22, 3), (.aload_n 0, 0, 0, 13, 25, 1), (.getfield 18, 10, 1, 14, 26, 3), (.getfield 156, 5, 10, 15, 29, 3), (.istore_n 2, 0, 0, 16, 32, 1), (.iload_n 2, 0, 0, 17, 33, 1), (.ifCond .ne 6, 20, 0, 18, 34, 3), (.bipush (-3), 0, 0, 19, 37, 2), (.ireturn, 0, 0, 0, 39, 1), (.iload_n 1, 0, 0, 21, 40, 1), (.ifCond .ne 19, 30, 0, 22, 41, 3), (.aload_n 0, 0, 0, 23, 44, 1), (.getfield 18, 10, 1, 24, 45, 3), (.dup, 0, 0, 25, 48, 1), (.getfield 147, 5, 7, 26, 49, 3), (.iconst 1, 0, 0, 27, 52, 1), (.isub, 0, 0, 28, 53, 1), (.putfield 147, 5, 7, 29, 54, 3), (.goto 16, 37, 0, 0, 57, 3), (.aload_n 0, 0, 0, 31, 60, 1), (.getfield 18, 10, 1, 32, 61, 3), (.dup, 0, 0, 33, 64, 1), (.getfield 156, 5, 10, 34, 65, 3), (.iconst 1, 0, 0, 35, 68, 1), (.isub, 0, 0, 36, 69, 1), (.putfield 156, 5, 10, 37, 70, 3), (.aload_n 0, 0, 0, 38, 73, 1), (.getfield 27, 10, 2, 39, 74, 3), (.iconst 0, 0, 0, 40, 77, 1), (.putfield 140, 2, 5, 41, 78, 3), (.iload_n 2, 0, 0, 42, 81, 1), (.iconst 1, 0, 0, 43, 82, 1), (.isub, 0, 0, 44, 83, 1), (.ireturn, 0, 0, 0, 84, 1)]
def M_X10_back : mm_M := (1, 3, k_X10_back)
abbrev n_X10_back : Nat := 71
def k_X10_read : List mm_I := [(.iload_n 1, 0, 0, 1, 0, 1), (.invokestatic 162, 110, 1, 2, 1, 3), (.ifCond .ne 6, 5, 0, 3, 4, 3), (.bipush (-2), 0, 0, 4, 7, 2), (.ireturn, 0, 0, 0, 9, 1), (.aload_n 0, 0, 0, 6, 10, 1), (.getfield 79, 10, 9, 7, 11, 3), (.iload_n 1, 0, 0, 8, 14, 1), (.aaload, 0, 0, 9, 15, 1), (.invokevirtual 165, 44, 1, 10, 16, 3), (.ifCond .eq 9, 15, 0, 11, 19, 3), (.aload_n 0, 0, 0, 12, 22, 1), (.iconst 1, 0, 0, 13, 23, 1), (.invokevirtual 169, 104, 2, 14, 24, 3), (.ireturn, 0, 0, 0, 27, 1), (.iconst 0, 0, 0, 16, 28, 1), (.istore_n 2, 0, 0, 17, 29, 1), (.iconst 0, 0, 0, 18, 30, 1), (.istore_n 3, 0, 0, 19, 31, 1), (.iload_n 3, 0, 0, 20, 32, 1), (.iconst 1, 0, 0, 21, 33, 1), (.iadd, 0, 0, 22, 34, 1), (.aload_n 0, 0, 0, 23, 35, 1), (.getfield 79, 10, 9, 24, 36, 3), (.iload_n 1, 0, 0, 25, 39, 1), (.aaload, 0, 0, 26, 40, 1), (.getfield 173, 6, 1, 27, 41, 3), (.if_icmp .ge 46, 51, 0, 28, 44, 3), (.aload_n 0, 0, 0, 29, 47, 1), (.aload_n 0, 0, 0, 30, 48, 1), (.getfield 79, 10, 9, 31, 49, 3), (.iload_n 1, 0, 0, 32, 52, 1), (.aaload, 0, 0, 33, 53, 1), (.getfield 174, 6, 2, 34, 54, 3), (.iload_n 3, 0, 0, 35, 57, 1), (.iaload, 0, 0, 36, 58, 1), (.aload_n 0, 0, 0, 37, 59, 1), (.getfield 79, 10, 9, 38, 60, 3), (.iload_n 1, 0, 0, 39, 63, 1), (.aaload, 0, 0, 40, 64, 1), (.getfield 174, 6, 2, 41, 65, 3), (.iload_n 3, 0, 0, 42, 68, 1), (.iconst 1, 0, 0, 43, 69, 1), (.iadd, 0, 0, 44, 70, 1), (.iaload, 0, 0, 45, 71, 1), (.invokevirtual 177, 69, 3, 46, 72, 3), (.ifCond .ge 6, 48, 0, 47, 75, 3), (.goto 12, 51, 0, 0, 78, 3), (.iinc 2 1, 0, 0, 49, 81, 3), (.iinc 3 2, 0, 0, 50, 84, 3), (.goto (-55), 19, 0, 0, 87, 3), (.iload_n 2, 0, 0, 52, 90, 1), (.ireturn, 0, 0, 0, 91, 1)]
def M_X10_read : mm_M := (1, 4, k_X10_read)
abbrev n_X10_read : Nat := 72
def k_X10_heat : List mm_I := [(.iload_n 1, 0, 0, 1, 0, 1), (.invokestatic 144, 108, 1, 2, 1, 3), (.ifCond .eq 11, 7, 0, 3, 4, 3), (.aload_n 0, 0, 0, 4, 7, 1), (.iload_n 2, 0, 0, 5, 8, 1), (.invokevirtual 122, 109, 2, 6, 9, 3), (.ifCond .ne 6, 9, 0, 7, 12, 3), (.bipush (-2), 0, 0, 8, 15, 2), (.ireturn, 0, 0, 0, 17, 1), (.aload_n 0, 0, 0, 10, 18, 1), (.getfield 27, 10, 2, 11, 19, 3), (.invokevirtual 181, 25, 1, 12, 22, 3), (.aload_n 0, 0, 0, 13, 25, 1), (.getfield 27, 10, 2, 14, 26, 3), (.getfield 184, 2, 2, 15, 29, 3), (.iload_n 1, 0, 0, 16, 32, 1), (.bipush 8, 0, 0, 17, 33, 2), (.imul, 0, 0, 18, 35, 1), (.iload_n 2, 0, 0, 19, 36, 1), (.iadd, 0, 0, 20, 37, 1), (.iaload, 0, 0, 21, 38, 1), (.ireturn, 0, 0, 0, 39, 1)]
def M_X10_heat : mm_M := (1, 3, k_X10_heat)
abbrev n_X10_heat : Nat := 73
def k_X10_state : List mm_I := [(.iload_n 1, 0, 0, 1, 0, 1), (.invokestatic 144, 108, 1, 2, 1, 3), (.ifCond .eq 11, 7, 0, 3, 4, 3), (.aload_n 0, 0, 0, 4, 7, 1), (.iload_n 2, 0, 0, 5, 8, 1), (.invokevirtual 122, 109, 2, 6, 9, 3), (.ifCond .ne 6, 9, 0, 7, 12, 3), (.bipush (-2), 0, 0, 8, 15, 2), (.ireturn, 0, 0, 0, 17, 1), (.aload_n 0, 0, 0, 10, 18, 1), (.getfield 27, 10, 2, 11, 19, 3), (.invokevirtual 181, 25, 1, 12, 22, 3), (.aload_n 0, 0, 0, 13, 25, 1), (.getfield 27, 10, 2, 14, 26, 3), (.getfield 185, 2, 3, 15, 29, 3), (.iload_n 1, 0, 0, 16, 32, 1), (.bipush 8, 0, 0, 17, 33, 2), (.imul, 0, 0, 18, 35, 1), (.iload_n 2, 0, 0, 19, 36, 1), (.iadd, 0, 0, 20, 37, 1), (.iaload, 0, 0, 21, 38, 1), (.ireturn, 0, 0, 0, 39, 1)]
def M_X10_state : mm_M := (1, 3, k_X10_state)
abbrev n_X10_state : Nat := 74
def k_X10_held : List mm_I := [(.iload_n 1, 0, 0, 1, 0, 1), (.invokestatic 144, 108, 1, 2, 1, 3), (.ifCond .ne 6, 5, 0, 3, 4, 3), (.bipush (-2), 0, 0, 4, 7, 2), (.ireturn, 0, 0, 0, 9, 1), (.aload_n 0, 0, 0, 6, 10, 1), (.getfield 27, 10, 2, 7, 11, 3), (.invokevirtual 181, 25, 1, 8, 14, 3), (.aload_n 0, 0, 0, 9, 17, 1), (.getfield 27, 10, 2, 10, 18, 3), (.getfield 188, 2, 4, 11, 21, 3), (.iload_n 1, 0, 0, 12, 24, 1), (.iaload, 0, 0, 13, 25, 1), (.ireturn, 0, 0, 0, 26, 1)]
def M_X10_held : mm_M := (1, 2, k_X10_held)
abbrev n_X10_held : Nat := 75
def k_X10_freed : List mm_I := [(.aload_n 0, 0, 0, 1, 0, 1), (.iload_n 1, 0, 0, 2, 1, 1), (.invokevirtual 122, 109, 2, 3, 2, 3), (.ifCond .eq 11, 8, 0, 4, 5, 3), (.iload_n 2, 0, 0, 5, 8, 1), (.iconst 1, 0, 0, 6, 9, 1), (.invokestatic 95, 106, 2, 7, 10, 3), (.ifCond .ne 6, 10, 0, 8, 13, 3), (.bipush (-2), 0, 0, 9, 16, 2), (.ireturn, 0, 0, 0, 18, 1), (.aload_n 0, 0, 0, 11, 19, 1), (.getfield 27, 10, 2, 12, 20, 3), (.invokevirtual 181, 25, 1, 13, 23, 3), (.iload_n 2, 0, 0, 14, 26, 1), (.ifCond .ne 18, 22, 0, 15, 27, 3), (.aload_n 0, 0, 0, 16, 30, 1), (.getfield 27, 10, 2, 17, 31, 3), (.getfield 191, 2, 1, 18, 34, 3), (.getfield 194, 0, 5, 19, 37, 3), (.iload_n 1, 0, 0, 20, 40, 1), (.iaload, 0, 0, 21, 41, 1), (.goto 15, 28, 0, 0, 42, 3), (.aload_n 0, 0, 0, 23, 45, 1), (.getfield 27, 10, 2, 24, 46, 3), (.getfield 191, 2, 1, 25, 49, 3), (.getfield 197, 0, 6, 26, 52, 3), (.iload_n 1, 0, 0, 27, 55, 1), (.iaload, 0, 0, 28, 56, 1), (.ireturn, 0, 0, 0, 57, 1)]
def M_X10_freed : mm_M := (1, 3, k_X10_freed)
abbrev n_X10_freed : Nat := 76
def k_X10_spoilt : List mm_I := [(.aload_n 0, 0, 0, 1, 0, 1), (.getfield 27, 10, 2, 2, 1, 3), (.invokevirtual 181, 25, 1, 3, 4, 3), (.iconst 0, 0, 0, 4, 7, 1), (.istore_n 1, 0, 0, 5, 8, 1), (.iconst 0, 0, 0, 6, 9, 1), (.istore_n 2, 0, 0, 7, 10, 1), (.iload_n 2, 0, 0, 8, 11, 1), (.aload_n 0, 0, 0, 9, 12, 1), (.getfield 18, 10, 1, 10, 13, 3), (.getfield 200, 5, 2, 11, 16, 3), (.if_icmp .ge 31, 28, 0, 12, 19, 3), (.aload_n 0, 0, 0, 13, 22, 1), (.getfield 27, 10, 2, 14, 23, 3), (.getfield 191, 2, 1, 15, 26, 3), (.getfield 203, 0, 2, 16, 29, 3), (.iload_n 2, 0, 0, 17, 32, 1), (.iaload, 0, 0, 18, 33, 1), (.iconst 3, 0, 0, 19, 34, 1), (.if_icmp .ne 9, 26, 0, 20, 35, 3), (.iload_n 1, 0, 0, 21, 38, 1), (.iconst 1, 0, 0, 22, 39, 1), (.iload_n 2, 0, 0, 23, 40, 1), (.ishl, 0, 0, 24, 41, 1), (.ior, 0, 0, 25, 42, 1), (.istore_n 1, 0, 0, 26, 43, 1), (.iinc 2 1, 0, 0, 27, 44, 3), (.goto (-36), 7, 0, 0, 47, 3), (.iload_n 1, 0, 0, 29, 50, 1), (.ireturn, 0, 0, 0, 51, 1)]
def M_X10_spoilt : mm_M := (1, 3, k_X10_spoilt)
abbrev n_X10_spoilt : Nat := 77
def k_X10_quiet : List mm_I := [(.aload_n 0, 0, 0, 1, 0, 1), (.getfield 27, 10, 2, 2, 1, 3), (.invokevirtual 181, 25, 1, 3, 4, 3), (.iconst 0, 0, 0, 4, 7, 1), (.istore_n 1, 0, 0, 5, 8, 1), (.iload_n 1, 0, 0, 6, 9, 1), (.bipush 30, 0, 0, 7, 10, 2), (.if_icmp .ge 35, 24, 0, 8, 12, 3), (.aload_n 0, 0, 0, 9, 15, 1), (.getfield 27, 10, 2, 10, 16, 3), (.getfield 188, 2, 4, 11, 19, 3), (.iload_n 1, 0, 0, 12, 22, 1), (.iaload, 0, 0, 13, 23, 1), (.ifCond .ne 17, 22, 0, 14, 24, 3), (.aload_n 0, 0, 0, 15, 27, 1), (.getfield 27, 10, 2, 16, 28, 3), (.iload_n 1, 0, 0, 17, 31, 1), (.invokevirtual 204, 26, 2, 18, 32, 3), (.iconst (-1), 0, 0, 19, 35, 1), (.if_icmp .ne 5, 22, 0, 20, 36, 3), (.iload_n 1, 0, 0, 21, 39, 1), (.ireturn, 0, 0, 0, 40, 1), (.iinc 1 1, 0, 0, 23, 41, 3), (.goto (-35), 5, 0, 0, 44, 3), (.iconst (-1), 0, 0, 25, 47, 1), (.ireturn, 0, 0, 0, 48, 1)]
def M_X10_quiet : mm_M := (1, 2, k_X10_quiet)
abbrev n_X10_quiet : Nat := 78
def k_X10_crowd : List mm_I := [(.iload_n 1, 0, 0, 1, 0, 1), (.iconst 1, 0, 0, 2, 1, 1), (.invokestatic 95, 106, 2, 3, 2, 3), (.ifCond .ne 6, 6, 0, 4, 5, 3), (.bipush (-2), 0, 0, 5, 8, 2), (.ireturn, 0, 0, 0, 10, 1), (.aload_n 0, 0, 0, 7, 11, 1), (.getfield 27, 10, 2, 8, 12, 3), (.invokevirtual 181, 25, 1, 9, 15, 3), (.iconst 0, 0, 0, 10, 18, 1), (.istore_n 2, 0, 0, 11, 19, 1), (.iload_n 2, 0, 0, 12, 20, 1), (.bipush 30, 0, 0, 13, 21, 2), (.if_icmp .ge 33, 30, 0, 14, 23, 3), (.aload_n 0, 0, 0, 15, 26, 1), (.getfield 27, 10, 2, 16, 27, 3), (.iload_n 2, 0, 0, 17, 30, 1), (.invokevirtual 204, 26, 2, 18, 31, 3), (.istore_n 3, 0, 0, 19, 34, 1), (.iload_n 3, 0, 0, 20, 35, 1), (.iconst (-1), 0, 0, 21, 36, 1), (.if_icmp .eq 13, 28, 0, 22, 37, 3), (.iload_n 1, 0, 0, 23, 40, 1), (.ifCond .ne 7, 26, 0, 24, 41, 3), (.iload_n 2, 0, 0, 25, 44, 1), (.goto 4, 27, 0, 0, 45, 3), (.iload_n 3, 0, 0, 27, 48, 1), (.ireturn, 0, 0, 0, 49, 1), (.iinc 2 1, 0, 0, 29, 50, 3), (.goto (-33), 11, 0, 0, 53, 3), (.iconst (-1), 0, 0, 31, 56, 1), (.ireturn, 0, 0, 0, 57, 1)]
def M_X10_crowd : mm_M := (1, 4, k_X10_crowd)
abbrev n_X10_crowd : Nat := 79
def k_X10_move : List mm_I := [(.aload_n 0, 0, 0, 1, 0, 1), (.iload_n 1, 0, 0, 2, 1, 1), (.invokevirtual 122, 109, 2, 3, 2, 3), (.ifCond .eq 11, 8, 0, 4, 5, 3), (.iload_n 2, 0, 0, 5, 8, 1), (.iconst 1, 0, 0, 6, 9, 1), (.invokestatic 95, 106, 2, 7, 10, 3), (.ifCond .ne 6, 10, 0, 8, 13, 3), (.bipush (-2), 0, 0, 9, 16, 2), (.ireturn, 0, 0, 0, 18, 1), (.aload_n 0, 0, 0, 11, 19, 1), (.getfield 43, 10, 4, 12, 20, 3), (.iload_n 1, 0, 0, 13, 23, 1), (.invokevirtual 207, 31, 2, 14, 24, 3), (.iload_n 2, 0, 0, 15, 27, 1), (.ifCond .ne 13, 20, 0, 16, 28, 3), (.aload_n 0, 0, 0, 17, 31, 1), (.getfield 43, 10, 4, 18, 32, 3), (.getfield 210, 4, 2, 19, 35, 3), (.goto 10, 23, 0, 0, 38, 3), (.aload_n 0, 0, 0, 21, 41, 1), (.getfield 43, 10, 4, 22, 42, 3), (.getfield 213, 4, 3, 23, 45, 3), (.ireturn, 0, 0, 0, 48, 1)]
def M_X10_move : mm_M := (1, 3, k_X10_move)
abbrev n_X10_move : Nat := 80
def k_X10_swap : List mm_I := [(.iload_n 1, 0, 0, 1, 0, 1), (.iconst 2, 0, 0, 2, 1, 1), (.invokestatic 95, 106, 2, 3, 2, 3), (.ifCond .ne 6, 6, 0, 4, 5, 3), (.bipush (-2), 0, 0, 5, 8, 2), (.ireturn, 0, 0, 0, 10, 1), (.aload_n 0, 0, 0, 7, 11, 1), (.getfield 43, 10, 4, 8, 12, 3), (.invokevirtual 216, 33, 1, 9, 15, 3), (.iload_n 1, 0, 0, 10, 18, 1), (.ifCond .ne 11, 15, 0, 11, 19, 3), (.aload_n 0, 0, 0, 12, 22, 1), (.getfield 43, 10, 4, 13, 23, 3), (.getfield 219, 4, 4, 14, 26, 3), (.ireturn, 0, 0, 0, 29, 1), (.iload_n 1, 0, 0, 16, 30, 1), (.iconst 1, 0, 0, 17, 31, 1), (.if_icmp .ne 13, 22, 0, 18, 32, 3), (.aload_n 0, 0, 0, 19, 35, 1), (.getfield 43, 10, 4, 20, 36, 3), (.getfield 222, 4, 5, 21, 39, 3), (.goto 10, 25, 0, 0, 42, 3), (.aload_n 0, 0, 0, 23, 45, 1), (.getfield 43, 10, 4, 24, 46, 3), (.getfield 225, 4, 6, 25, 49, 3), (.ireturn, 0, 0, 0, 52, 1)]
def M_X10_swap : mm_M := (1, 2, k_X10_swap)
abbrev n_X10_swap : Nat := 81
def k_X10_line : List mm_I := [(.aload_n 0, 0, 0, 1, 0, 1), (.iload_n 1, 0, 0, 2, 1, 1), (.invokevirtual 122, 109, 2, 3, 2, 3), (.ifCond .eq 14, 9, 0, 4, 5, 3), (.aload_n 0, 0, 0, 5, 8, 1), (.getfield 43, 10, 4, 6, 9, 3), (.iload_n 1, 0, 0, 7, 12, 1), (.invokevirtual 228, 37, 2, 8, 13, 3), (.goto 5, 10, 0, 0, 16, 3), (.bipush (-2), 0, 0, 10, 19, 2), (.ireturn, 0, 0, 0, 21, 1)]
def M_X10_line : mm_M := (1, 2, k_X10_line)
abbrev n_X10_line : Nat := 82
def k_X10_bear : List mm_I := [(.aload_n 0, 0, 0, 1, 0, 1), (.getfield 43, 10, 4, 2, 1, 3), (.invokevirtual 231, 38, 1, 3, 4, 3), (.ireturn, 0, 0, 0, 7, 1)]
def M_X10_bear : mm_M := (1, 1, k_X10_bear)
abbrev n_X10_bear : Nat := 83
def k_X10_seen : List mm_I := [(.iload_n 1, 0, 0, 1, 0, 1), (.invokestatic 144, 108, 1, 2, 1, 3), (.ifCond .eq 20, 11, 0, 3, 4, 3), (.iload_n 2, 0, 0, 4, 7, 1), (.bipush 7, 0, 0, 5, 8, 2), (.invokestatic 95, 106, 2, 6, 10, 3), (.ifCond .eq 11, 11, 0, 7, 13, 3), (.iload_n 3, 0, 0, 8, 16, 1), (.iconst 3, 0, 0, 9, 17, 1), (.invokestatic 95, 106, 2, 10, 18, 3), (.ifCond .ne 6, 13, 0, 11, 21, 3), (.bipush (-2), 0, 0, 12, 24, 2), (.ireturn, 0, 0, 0, 26, 1), (.aload_n 0, 0, 0, 14, 27, 1), (.getfield 50, 10, 5, 15, 28, 3), (.getfield 234, 7, 4, 16, 31, 3), (.bipush 8, 0, 0, 17, 34, 2), (.if_icmp .lt 6, 20, 0, 18, 36, 3), (.bipush (-4), 0, 0, 19, 39, 2), (.ireturn, 0, 0, 0, 41, 1), (.aload_n 0, 0, 0, 21, 42, 1), (.getfield 50, 10, 5, 22, 43, 3), (.iload_n 1, 0, 0, 23, 46, 1), (.iload_n 2, 0, 0, 24, 47, 1), (.iload_n 3, 0, 0, 25, 48, 1), (.invokevirtual 235, 49, 4, 26, 49, 3), (.aload_n 0, 0, 0, 27, 52, 1), (.getfield 50, 10, 5, 28, 53, 3), (.getfield 234, 7, 4, 29, 56, 3), (.ireturn, 0, 0, 0, 59, 1)]
def M_X10_seen : mm_M := (1, 4, k_X10_seen)
abbrev n_X10_seen : Nat := 84
def k_X10_forget : List mm_I := [(.aload_n 0, 0, 0, 1, 0, 1), (.getfield 50, 10, 5, 2, 1, 3), (.getfield 234, 7, 4, 3, 4, 3), (.istore_n 1, 0, 0, 4, 7, 1), (.aload_n 0, 0, 0, 5, 8, 1), (.getfield 50, 10, 5, 6, 9, 3), (.iconst 0, 0, 0, 7, 12, 1), (.putfield 234, 7, 4, 8, 13, 3), (.iload_n 1, 0, 0, 9, 16, 1), (.ireturn, 0, 0, 0, 17, 1)]
def M_X10_forget : mm_M := (1, 2, k_X10_forget)
abbrev n_X10_forget : Nat := 85
def k_X10_heats : List mm_I := [(.aload_n 0, 0, 0, 1, 0, 1), (.iload_n 1, 0, 0, 2, 1, 1), (.invokevirtual 122, 109, 2, 3, 2, 3), (.ifCond .eq 14, 10, 0, 4, 5, 3), (.iload_n 2, 0, 0, 5, 8, 1), (.iconst (-1), 0, 0, 6, 9, 1), (.if_icmp .lt 9, 10, 0, 7, 10, 3), (.iload_n 2, 0, 0, 8, 13, 1), (.bipush 100, 0, 0, 9, 14, 2), (.if_icmp .lt 6, 12, 0, 10, 16, 3), (.bipush (-2), 0, 0, 11, 19, 2), (.ireturn, 0, 0, 0, 21, 1), (.aload_n 0, 0, 0, 13, 22, 1), (.getfield 59, 10, 6, 14, 23, 3), (.iload_n 1, 0, 0, 15, 26, 1), (.invokevirtual 239, 17, 2, 16, 27, 3), (.aload_n 0, 0, 0, 17, 30, 1), (.getfield 59, 10, 6, 18, 31, 3), (.iload_n 2, 0, 0, 19, 34, 1), (.invokevirtual 242, 18, 2, 20, 35, 3), (.ireturn, 0, 0, 0, 38, 1)]
def M_X10_heats : mm_M := (1, 3, k_X10_heats)
abbrev n_X10_heats : Nat := 86
def k_X10_slots : List mm_I := [(.aload_n 0, 0, 0, 1, 0, 1), (.iload_n 1, 0, 0, 2, 1, 1), (.invokevirtual 122, 109, 2, 3, 2, 3), (.ifCond .eq 14, 9, 0, 4, 5, 3), (.aload_n 0, 0, 0, 5, 8, 1), (.getfield 59, 10, 6, 6, 9, 3), (.iload_n 1, 0, 0, 7, 12, 1), (.invokevirtual 245, 19, 2, 8, 13, 3), (.goto 5, 10, 0, 0, 16, 3), (.bipush (-2), 0, 0, 10, 19, 2), (.ireturn, 0, 0, 0, 21, 1)]
def M_X10_slots : mm_M := (1, 2, k_X10_slots)
abbrev n_X10_slots : Nat := 87
def k_X10_ask : List mm_I := [(.iload_n 1, 0, 0, 1, 0, 1), (.invokestatic 144, 108, 1, 2, 1, 3), (.ifCond .eq 14, 8, 0, 3, 4, 3), (.aload_n 0, 0, 0, 4, 7, 1), (.getfield 59, 10, 6, 5, 8, 3), (.iload_n 1, 0, 0, 6, 11, 1), (.invokevirtual 248, 20, 2, 7, 12, 3), (.goto 5, 9, 0, 0, 15, 3), (.bipush (-2), 0, 0, 9, 18, 2), (.ireturn, 0, 0, 0, 20, 1)]
def M_X10_ask : mm_M := (1, 2, k_X10_ask)
abbrev n_X10_ask : Nat := 88
def k_X10_window : List mm_I := [(.iload_n 1, 0, 0, 1, 0, 1), (.bipush 16, 0, 0, 2, 1, 2), (.invokestatic 95, 106, 2, 3, 3, 3), (.ifCond .eq 37, 19, 0, 4, 6, 3), (.iload_n 2, 0, 0, 5, 9, 1), (.bipush 9, 0, 0, 6, 10, 2), (.invokestatic 95, 106, 2, 7, 12, 3), (.ifCond .eq 28, 19, 0, 8, 15, 3), (.aload_n 0, 0, 0, 9, 18, 1), (.iload_n 3, 0, 0, 10, 19, 1), (.invokevirtual 122, 109, 2, 11, 20, 3), (.ifCond .eq 20, 19, 0, 12, 23, 3), (.iload 4, 0, 0, 13, 26, 2), (.invokestatic 144, 108, 1, 14, 28, 3), (.ifCond .eq 12, 19, 0, 15, 31, 3), (.iload 5, 0, 0, 16, 34, 2), (.iconst 1, 0, 0, 17, 36, 1), (.invokestatic 95, 106, 2, 18, 37, 3), (.ifCond .ne 7, 21, 0, 19, 40, 3), (.ldc2_w 253, 9223372036854775810, 0, 20, 43, 3), (.lreturn, 0, 0, 0, 46, 1), (.aload_n 0, 0, 0, 22, 47, 1), (.getfield 66, 10, 7, 23, 48, 3), (.iload_n 1, 0, 0, 24, 51, 1), (.iload_n 2, 0, 0, 25, 52, 1), (.iload_n 3, 0, 0, 26, 53, 1), (.iload 4, 0, 0, 27, 54, 2), (.invokevirtual 255, 58, 5, 28, 56, 3), (.iload 5, 0, 0, 29, 59, 2), (.ifCond .ne 13, 34, 0, 30, 61, 3), (.aload_n 0, 0, 0, 31, 64, 1), (.getfield 66, 10, 7, 32, 65, 3), (.getfield 259, 9, 5, 33, 68, 3), (.goto 10, 37, 0, 0, 71, 3), (.aload_n 0, 0, 0, 35, 74, 1), (.getfield 66, 10, 7, 36, 75, 3), (.getfield 263, 9, 6, 37, 78, 3), (.lreturn, 0, 0, 0, 81, 1)]
def M_X10_window : mm_M := (3, 6, k_X10_window)
abbrev n_X10_window : Nat := 89
def k_X10_others : List mm_I := [(.iload_n 2, 0, 0, 1, 0, 1), (.iconst 1, 0, 0, 2, 1, 1), (.invokestatic 95, 106, 2, 3, 2, 3), (.ifCond .ne 6, 6, 0, 4, 5, 3), (.bipush (-2), 0, 0, 5, 8, 2), (.ireturn, 0, 0, 0, 10, 1), (.aload_n 0, 0, 0, 7, 11, 1), (.getfield 73, 10, 8, 8, 12, 3), (.iload_n 1, 0, 0, 9, 15, 1), (.invokevirtual 266, 28, 2, 10, 16, 3), (.iload_n 2, 0, 0, 11, 19, 1), (.ifCond .ne 13, 16, 0, 12, 20, 3), (.aload_n 0, 0, 0, 13, 23, 1), (.getfield 73, 10, 8, 14, 24, 3), (.getfield 269, 3, 3, 15, 27, 3), (.goto 10, 19, 0, 0, 30, 3), (.aload_n 0, 0, 0, 17, 33, 1), (.getfield 73, 10, 8, 18, 34, 3), (.getfield 272, 3, 4, 19, 37, 3), (.ireturn, 0, 0, 0, 40, 1)]
def M_X10_others : mm_M := (1, 3, k_X10_others)
abbrev n_X10_others : Nat := 90
def k_X10_sheet : List mm_I := [(.iload_n 1, 0, 0, 1, 0, 1), (.invokestatic 162, 110, 1, 2, 1, 3), (.ifCond .eq 16, 9, 0, 3, 4, 3), (.iload_n 2, 0, 0, 4, 7, 1), (.invokestatic 275, 111, 1, 5, 8, 3), (.ifCond .eq 9, 9, 0, 6, 11, 3), (.iload_n 3, 0, 0, 7, 14, 1), (.bipush 60, 0, 0, 8, 15, 2), (.if_icmp .le 6, 11, 0, 9, 17, 3), (.bipush (-2), 0, 0, 10, 20, 2), (.ireturn, 0, 0, 0, 22, 1), (.iload_n 3, 0, 0, 12, 23, 1), (.ifCond .ge 9, 17, 0, 13, 24, 3), (.aload_n 0, 0, 0, 14, 27, 1), (.iconst 5, 0, 0, 15, 28, 1), (.invokevirtual 169, 104, 2, 16, 29, 3), (.ireturn, 0, 0, 0, 32, 1), (.aload_n 0, 0, 0, 18, 33, 1), (.getfield 79, 10, 9, 19, 34, 3), (.iload_n 1, 0, 0, 20, 37, 1), (.aaload, 0, 0, 21, 38, 1), (.iload_n 2, 0, 0, 22, 39, 1), (.iload_n 3, 0, 0, 23, 40, 1), (.invokevirtual 278, 45, 3, 24, 41, 3), (.iload_n 3, 0, 0, 25, 44, 1), (.ireturn, 0, 0, 0, 45, 1)]
def M_X10_sheet : mm_M := (1, 4, k_X10_sheet)
abbrev n_X10_sheet : Nat := 91
def k_X10_lose : List mm_I := [(.iload_n 1, 0, 0, 1, 0, 1), (.invokestatic 162, 110, 1, 2, 1, 3), (.ifCond .ne 6, 5, 0, 3, 4, 3), (.bipush (-2), 0, 0, 4, 7, 2), (.ireturn, 0, 0, 0, 9, 1), (.aload_n 0, 0, 0, 6, 10, 1), (.getfield 79, 10, 9, 7, 11, 3), (.iload_n 1, 0, 0, 8, 14, 1), (.aaload, 0, 0, 9, 15, 1), (.invokevirtual 165, 44, 1, 10, 16, 3), (.ifCond .eq 9, 15, 0, 11, 19, 3), (.aload_n 0, 0, 0, 12, 22, 1), (.iconst 1, 0, 0, 13, 23, 1), (.invokevirtual 169, 104, 2, 14, 24, 3), (.ireturn, 0, 0, 0, 27, 1), (.aload_n 0, 0, 0, 16, 28, 1), (.getfield 79, 10, 9, 17, 29, 3), (.iload_n 1, 0, 0, 18, 32, 1), (.aaload, 0, 0, 19, 33, 1), (.getfield 173, 6, 1, 20, 34, 3), (.istore_n 2, 0, 0, 21, 37, 1), (.aload_n 0, 0, 0, 22, 38, 1), (.getfield 79, 10, 9, 23, 39, 3), (.iload_n 1, 0, 0, 24, 42, 1), (.aaload, 0, 0, 25, 43, 1), (.iconst (-1), 0, 0, 26, 44, 1), (.iconst 0, 0, 0, 27, 45, 1), (.invokevirtual 278, 45, 3, 28, 46, 3), (.iload_n 2, 0, 0, 29, 49, 1), (.ireturn, 0, 0, 0, 50, 1)]
def M_X10_lose : mm_M := (1, 3, k_X10_lose)
abbrev n_X10_lose : Nat := 92
def k_X10_lay : List mm_I := [(.iload_n 1, 0, 0, 1, 0, 1), (.invokestatic 162, 110, 1, 2, 1, 3), (.ifCond .eq 10, 6, 0, 3, 4, 3), (.iload_n 2, 0, 0, 4, 7, 1), (.invokestatic 275, 111, 1, 5, 8, 3), (.ifCond .ne 6, 8, 0, 6, 11, 3), (.bipush (-2), 0, 0, 7, 14, 2), (.ireturn, 0, 0, 0, 16, 1), (.aload_n 0, 0, 0, 9, 17, 1), (.iload_n 1, 0, 0, 10, 18, 1), (.iload_n 2, 0, 0, 11, 19, 1), (.iload_n 3, 0, 0, 12, 20, 1), (.invokevirtual 282, 105, 4, 13, 21, 3), (.istore 5, 0, 0, 14, 24, 2), (.iload 5, 0, 0, 15, 26, 2), (.ifCond .eq 10, 20, 0, 16, 28, 3), (.aload_n 0, 0, 0, 17, 31, 1), (.iload 5, 0, 0, 18, 32, 2), (.invokevirtual 169, 104, 2, 19, 34, 3), (.ireturn, 0, 0, 0, 37, 1), (.aload_n 0, 0, 0, 21, 38, 1), (.getfield 79, 10, 9, 22, 39, 3), (.iload_n 1, 0, 0, 23, 42, 1), (.aaload, 0, 0, 24, 43, 1), (.iload_n 3, 0, 0, 25, 44, 1), (.iload 4, 0, 0, 26, 45, 2), (.invokevirtual 286, 46, 3, 27, 47, 3), (.iconst 1, 0, 0, 28, 50, 1), (.ireturn, 0, 0, 0, 51, 1)]
def M_X10_lay : mm_M := (1, 6, k_X10_lay)
abbrev n_X10_lay : Nat := 93
def k_X10_get : List mm_I := [(.iload_n 1, 0, 0, 1, 0, 1), (.invokestatic 162, 110, 1, 2, 1, 3), (.ifCond .eq 10, 6, 0, 3, 4, 3), (.iload_n 2, 0, 0, 4, 7, 1), (.invokestatic 275, 111, 1, 5, 8, 3), (.ifCond .ne 7, 8, 0, 6, 11, 3), (.ldc_w 291, 2147483648, 0, 7, 14, 3), (.ireturn, 0, 0, 0, 17, 1), (.aload_n 0, 0, 0, 9, 18, 1), (.iload_n 1, 0, 0, 10, 19, 1), (.iload_n 2, 0, 0, 11, 20, 1), (.iload_n 3, 0, 0, 12, 21, 1), (.invokevirtual 282, 105, 4, 13, 22, 3), (.istore 4, 0, 0, 14, 25, 2), (.iload 4, 0, 0, 15, 27, 2), (.ifCond .eq 13, 21, 0, 16, 29, 3), (.aload_n 0, 0, 0, 17, 32, 1), (.iload 4, 0, 0, 18, 33, 2), (.putfield 83, 10, 10, 19, 35, 3), (.ldc_w 291, 2147483648, 0, 20, 38, 3), (.ireturn, 0, 0, 0, 41, 1), (.aload_n 0, 0, 0, 22, 42, 1), (.getfield 79, 10, 9, 23, 43, 3), (.iload_n 1, 0, 0, 24, 46, 1), (.aaload, 0, 0, 25, 47, 1), (.getfield 174, 6, 2, 26, 48, 3), (.iload_n 3, 0, 0, 27, 51, 1), (.iaload, 0, 0, 28, 52, 1), (.ireturn, 0, 0, 0, 53, 1)]
def M_X10_get : mm_M := (1, 5, k_X10_get)
abbrev n_X10_get : Nat := 94
def k_X10_copy : List mm_I := [(.iload_n 1, 0, 0, 1, 0, 1), (.invokestatic 162, 110, 1, 2, 1, 3), (.ifCond .eq 10, 6, 0, 3, 4, 3), (.iload_n 3, 0, 0, 4, 7, 1), (.invokestatic 162, 110, 1, 5, 8, 3), (.ifCond .ne 6, 8, 0, 6, 11, 3), (.bipush (-2), 0, 0, 7, 14, 2), (.ireturn, 0, 0, 0, 16, 1), (.aload_n 0, 0, 0, 9, 17, 1), (.getfield 79, 10, 9, 10, 18, 3), (.iload_n 1, 0, 0, 11, 21, 1), (.aaload, 0, 0, 12, 22, 1), (.astore 6, 0, 0, 13, 23, 2), (.aload_n 0, 0, 0, 14, 25, 1), (.getfield 79, 10, 9, 15, 26, 3), (.iload_n 3, 0, 0, 16, 29, 1), (.aaload, 0, 0, 17, 30, 1), (.astore 7, 0, 0, 18, 31, 2), (.aload 6, 0, 0, 19, 33, 2), (.invokevirtual 165, 44, 1, 20, 35, 3), (.ifCond .ne 11, 24, 0, 21, 38, 3), (.aload 7, 0, 0, 22, 41, 2), (.invokevirtual 165, 44, 1, 23, 43, 3), (.ifCond .eq 9, 28, 0, 24, 46, 3), (.aload_n 0, 0, 0, 25, 49, 1), (.iconst 1, 0, 0, 26, 50, 1), (.invokevirtual 169, 104, 2, 27, 51, 3), (.ireturn, 0, 0, 0, 54, 1), (.aload 6, 0, 0, 29, 55, 2), (.getfield 292, 6, 0, 30, 57, 3), (.aload 7, 0, 0, 31, 60, 2), (.getfield 292, 6, 0, 32, 62, 3), (.if_icmp .eq 9, 37, 0, 33, 65, 3), (.aload_n 0, 0, 0, 34, 68, 1), (.iconst 4, 0, 0, 35, 69, 1), (.invokevirtual 169, 104, 2, 36, 70, 3), (.ireturn, 0, 0, 0, 73, 1), (.aload 6, 0, 0, 38, 74, 2), (.iload_n 2, 0, 0, 39, 76, 1), (.iload 5, 0, 0, 40, 77, 2), (.invokevirtual 295, 47, 3, 41, 79, 3), (.ifCond .eq 15, 47, 0, 42, 82, 3), (.aload 7, 0, 0, 43, 85, 2), (.iload 4, 0, 0, 44, 87, 2), (.iload 5, 0, 0, 45, 89, 2), (.invokevirtual 295, 47, 3, 46, 91, 3), (.ifCond .ne 9, 51, 0, 47, 94, 3), (.aload_n 0, 0, 0, 48, 97, 1), (.iconst 2, 0, 0, 49, 98, 1), (.invokevirtual 169, 104, 2, 50, 99, 3), (.ireturn, 0, 0, 0, 102, 1), (.aload 6, 0, 0, 52, 103, 2), (.getfield 174, 6, 2, 53, 105, 3), (.iload_n 2, 0, 0, 54, 108, 1), (.aload 7, 0, 0, 55, 109, 2), (.getfield 174, 6, 2, 56, 111, 3), (.iload 4, 0, 0, 57, 114, 2), (.iload 5, 0, 0, 58, 116, 2), (.invokestatic 298, 1003, 0, 59, 118, 3), (.iconst 1, 0, 0, 60, 121, 1), (.ireturn, 0, 0, 0, 122, 1)]
def M_X10_copy : mm_M := (1, 8, k_X10_copy)
abbrev n_X10_copy : Nat := 95
def k_X10_write : List mm_I := [(.iload_n 1, 0, 0, 1, 0, 1), (.invokestatic 144, 108, 1, 2, 1, 3), (.ifCond .eq 10, 6, 0, 3, 4, 3), (.iload_n 2, 0, 0, 4, 7, 1), (.invokestatic 162, 110, 1, 5, 8, 3), (.ifCond .ne 6, 8, 0, 6, 11, 3), (.bipush (-2), 0, 0, 7, 14, 2), (.ireturn, 0, 0, 0, 16, 1), (.aload_n 0, 0, 0, 9, 17, 1), (.getfield 79, 10, 9, 10, 18, 3), (.iload_n 2, 0, 0, 11, 21, 1), (.aaload, 0, 0, 12, 22, 1), (.invokevirtual 165, 44, 1, 13, 23, 3), (.ifCond .eq 9, 18, 0, 14, 26, 3), (.aload_n 0, 0, 0, 15, 29, 1), (.iconst 1, 0, 0, 16, 30, 1), (.invokevirtual 169, 104, 2, 17, 31, 3), (.ireturn, 0, 0, 0, 34, 1), (.aload_n 0, 0, 0, 19, 35, 1), (.getfield 27, 10, 2, 20, 36, 3), (.invokevirtual 181, 25, 1, 21, 39, 3), (.aload_n 0, 0, 0, 22, 42, 1), (.getfield 79, 10, 9, 23, 43, 3), (.iload_n 2, 0, 0, 24, 46, 1), (.aaload, 0, 0, 25, 47, 1), (.getfield 173, 6, 1, 26, 48, 3), (.aload_n 0, 0, 0, 27, 51, 1), (.getfield 18, 10, 1, 28, 52, 3), (.getfield 200, 5, 2, 29, 55, 3), (.invokestatic 304, 1002, 0, 30, 58, 3), (.istore_n 3, 0, 0, 31, 61, 1), (.iconst 0, 0, 0, 32, 62, 1), (.istore 4, 0, 0, 33, 63, 2), (.iload 4, 0, 0, 34, 65, 2), (.iload_n 3, 0, 0, 35, 67, 1), (.if_icmp .ge 35, 53, 0, 36, 68, 3), (.aload_n 0, 0, 0, 37, 71, 1), (.getfield 79, 10, 9, 38, 72, 3), (.iload_n 2, 0, 0, 39, 75, 1), (.aaload, 0, 0, 40, 76, 1), (.iload 4, 0, 0, 41, 77, 2), (.aload_n 0, 0, 0, 42, 79, 1), (.getfield 27, 10, 2, 43, 80, 3), (.getfield 184, 2, 2, 44, 83, 3), (.iload_n 1, 0, 0, 45, 86, 1), (.bipush 8, 0, 0, 46, 87, 2), (.imul, 0, 0, 47, 89, 1), (.iload 4, 0, 0, 48, 90, 2), (.iadd, 0, 0, 49, 92, 1), (.iaload, 0, 0, 50, 93, 1), (.invokevirtual 286, 46, 3, 51, 94, 3), (.iinc 4 1, 0, 0, 52, 97, 3), (.goto (-35), 33, 0, 0, 100, 3), (.iload_n 3, 0, 0, 54, 103, 1), (.ireturn, 0, 0, 0, 104, 1)]
def M_X10_write : mm_M := (1, 5, k_X10_write)
abbrev n_X10_write : Nat := 96
def k_X10_count : List mm_I := [(.iload_n 1, 0, 0, 1, 0, 1), (.tableswitch 121 0 8 #[51, 59, 67, 77, 87, 95, 103, 108, 116], 40, 1, 0, 1, 51), (.aload_n 0, 0, 0, 3, 52, 1), (.getfield 18, 10, 1, 4, 53, 3), (.getfield 116, 5, 0, 5, 56, 3), (.ireturn, 0, 0, 0, 59, 1), (.aload_n 0, 0, 0, 7, 60, 1), (.getfield 18, 10, 1, 8, 61, 3), (.getfield 200, 5, 2, 9, 64, 3), (.ireturn, 0, 0, 0, 67, 1), (.aload_n 0, 0, 0, 11, 68, 1), (.getfield 9, 10, 0, 12, 69, 3), (.iconst 0, 0, 0, 13, 72, 1), (.aaload, 0, 0, 14, 73, 1), (.getfield 99, 8, 1, 15, 74, 3), (.ireturn, 0, 0, 0, 77, 1), (.aload_n 0, 0, 0, 17, 78, 1), (.getfield 9, 10, 0, 18, 79, 3), (.iconst 1, 0, 0, 19, 82, 1), (.aaload, 0, 0, 20, 83, 1), (.getfield 99, 8, 1, 21, 84, 3), (.ireturn, 0, 0, 0, 87, 1), (.aload_n 0, 0, 0, 23, 88, 1), (.getfield 18, 10, 1, 24, 89, 3), (.getfield 147, 5, 7, 25, 92, 3), (.ireturn, 0, 0, 0, 95, 1), (.aload_n 0, 0, 0, 27, 96, 1), (.getfield 18, 10, 1, 28, 97, 3), (.getfield 156, 5, 10, 29, 100, 3), (.ireturn, 0, 0, 0, 103, 1), (.aload_n 0, 0, 0, 31, 104, 1), (.invokevirtual 309, 102, 1, 32, 105, 3), (.ireturn, 0, 0, 0, 108, 1), (.aload_n 0, 0, 0, 34, 109, 1), (.getfield 50, 10, 5, 35, 110, 3), (.getfield 234, 7, 4, 36, 113, 3), (.ireturn, 0, 0, 0, 116, 1), (.aload_n 0, 0, 0, 38, 117, 1), (.getfield 83, 10, 10, 39, 118, 3), (.ireturn, 0, 0, 0, 121, 1), (.bipush (-2), 0, 0, 41, 122, 2), (.ireturn, 0, 0, 0, 124, 1)]
def M_X10_count : mm_M := (1, 2, k_X10_count)
abbrev n_X10_count : Nat := 97
set_option maxRecDepth 100000 in
def k_X10_digest : List mm_I := [(.ldc2_w 312, 17, 0, 1, 0, 3), (.lstore_n 1, 0, 0, 2, 3, 1), (.iconst 0, 0, 0, 3, 4, 1), (.istore_n 3, 0, 0, 4, 5, 1), (.iload_n 3, 0, 0, 5, 6, 1), (.bipush 7, 0, 0, 6, 7, 2), (.if_icmp .gt 20, 16, 0, 7, 9, 3), (.lload_n 1, 0, 0, 8, 12, 1), (.aload_n 0, 0, 0, 9, 13, 1), (.iload_n 3, 0, 0, 10, 14, 1), (.invokevirtual 314, 97, 2, 11, 15, 3), (.i2l, 0, 0, 12, 18, 1), (.invokestatic 317, 99, 2, 13, 19, 3), (.lstore_n 1, 0, 0, 14, 22, 1), (.iinc 3 1, 0, 0, 15, 23, 3), (.goto (-20), 4, 0, 0, 26, 3), (.lload_n 1, 0, 0, 17, 29, 1), (.aload_n 0, 0, 0, 18, 30, 1), (.iconst 0, 0, 0, 19, 31, 1), (.invokevirtual 321, 65, 2, 20, 32, 3), (.i2l, 0, 0, 21, 35, 1), (.invokestatic 317, 99, 2, 22, 36, 3), (.lstore_n 1, 0, 0, 23, 39, 1), (.lload_n 1, 0, 0, 24, 40, 1), (.aload_n 0, 0, 0, 25, 41, 1), (.iconst 1, 0, 0, 26, 42, 1), (.invokevirtual 321, 65, 2, 27, 43, 3), (.i2l, 0, 0, 28, 46, 1), (.invokestatic 317, 99, 2, 29, 47, 3), (.lstore_n 1, 0, 0, 30, 50, 1), (.iconst 0, 0, 0, 31, 51, 1), (.istore_n 3, 0, 0, 32, 52, 1), (.iload_n 3, 0, 0, 33, 53, 1), (.aload_n 0, 0, 0, 34, 54, 1), (.getfield 18, 10, 1, 35, 55, 3), (.getfield 116, 5, 0, 36, 58, 3), (.if_icmp .ge 24, 48, 0, 37, 61, 3), (.lload_n 1, 0, 0, 38, 64, 1), (.aload_n 0, 0, 0, 39, 65, 1), (.getfield 18, 10, 1, 40, 66, 3), (.getfield 119, 5, 1, 41, 69, 3), (.iload_n 3, 0, 0, 42, 72, 1), (.iaload, 0, 0, 43, 73, 1), (.i2l, 0, 0, 44, 74, 1), (.invokestatic 317, 99, 2, 45, 75, 3), (.lstore_n 1, 0, 0, 46, 78, 1), (.iinc 3 1, 0, 0, 47, 79, 3), (.goto (-29), 32, 0, 0, 82, 3), (.iconst 0, 0, 0, 49, 85, 1), (.istore_n 3, 0, 0, 50, 86, 1), (.iload_n 3, 0, 0, 51, 87, 1), (.aload_n 0, 0, 0, 52, 88, 1), (.getfield 18, 10, 1, 53, 89, 3), (.getfield 200, 5, 2, 54, 92, 3), (.if_icmp .ge 23, 67, 0, 55, 95, 3), (.aload_n 0, 0, 0, 56, 98, 1), (.lload_n 1, 0, 0, 57, 99, 1), (.iload_n 3, 0, 0, 58, 100, 1), (.invokevirtual 324, 100, 3, 59, 101, 3), (.lstore_n 1, 0, 0, 60, 104, 1), (.aload_n 0, 0, 0, 61, 105, 1), (.lload_n 1, 0, 0, 62, 106, 1), (.iload_n 3, 0, 0, 63, 107, 1), (.invokevirtual 328, 101, 3, 64, 108, 3), (.lstore_n 1, 0, 0, 65, 111, 1), (.iinc 3 1, 0, 0, 66, 112, 3), (.goto (-28), 50, 0, 0, 115, 3), (.lload_n 1, 0, 0, 68, 118, 1), (.aload_n 0, 0, 0, 69, 119, 1), (.iconst 5, 0, 0, 70, 120, 1), (.invokevirtual 331, 75, 2, 71, 121, 3), (.i2l, 0, 0, 72, 124, 1), (.invokestatic 317, 99, 2, 73, 125, 3), (.lstore_n 1, 0, 0, 74, 128, 1), (.lload_n 1, 0, 0, 75, 129, 1), (.aload_n 0, 0, 0, 76, 130, 1), (.invokevirtual 333, 77, 1, 77, 131, 3), (.i2l, 0, 0, 78, 134, 1), (.invokestatic 317, 99, 2, 79, 135, 3), (.lstore_n 1, 0, 0, 80, 138, 1), (.lload_n 1, 0, 0, 81, 139, 1), (.aload_n 0, 0, 0, 82, 140, 1), (.invokevirtual 336, 78, 1, 83, 141, 3), (.i2l, 0, 0, 84, 144, 1), (.invokestatic 317, 99, 2, 85, 145, 3), (.lstore_n 1, 0, 0, 86, 148, 1), (.lload_n 1, 0, 0, 87, 149, 1), (.aload_n 0, 0, 0, 88, 150, 1), (.iconst 0, 0, 0, 89, 151, 1), (.invokevirtual 339, 79, 2, 90, 152, 3), (.i2l, 0, 0, 91, 155, 1), (.invokestatic 317, 99, 2, 92, 156, 3), (.lstore_n 1, 0, 0, 93, 159, 1), (.lload_n 1, 0, 0, 94, 160, 1), (.aload_n 0, 0, 0, 95, 161, 1), (.iconst 1, 0, 0, 96, 162, 1), (.invokevirtual 339, 79, 2, 97, 163, 3), (.i2l, 0, 0, 98, 166, 1), (.invokestatic 317, 99, 2, 99, 167, 3), (.lstore_n 1, 0, 0, 100, 170, 1), (.aload_n 0, 0, 0, 101, 171, 1), (.getfield 43, 10, 4, 102, 172, 3), (.invokevirtual 216, 33, 1, 103, 175, 3), (.lload_n 1, 0, 0, 104, 178, 1), (.aload_n 0, 0, 0, 105, 179, 1), (.getfield 43, 10, 4, 106, 180, 3), (.getfield 219, 4, 4, 107, 183, 3), (.i2l, 0, 0, 108, 186, 1), (.invokestatic 317, 99, 2, 109, 187, 3), (.lstore_n 1, 0, 0, 110, 190, 1), (.lload_n 1, 0, 0, 111, 191, 1), (.aload_n 0, 0, 0, 112, 192, 1), (.getfield 43, 10, 4, 113, 193, 3), (.getfield 222, 4, 5, 114, 196, 3), (.i2l, 0, 0, 115, 199, 1), (.invokestatic 317, 99, 2, 116, 200, 3), (.lstore_n 1, 0, 0, 117, 203, 1), (.lload_n 1, 0, 0, 118, 204, 1), (.aload_n 0, 0, 0, 119, 205, 1), (.getfield 43, 10, 4, 120, 206, 3), (.getfield 225, 4, 6, 121, 209, 3), (.i2l, 0, 0, 122, 212, 1), (.invokestatic 317, 99, 2, 123, 213, 3), (.lstore_n 1, 0, 0, 124, 216, 1), (.lload_n 1, 0, 0, 125, 217, 1), (.aload_n 0, 0, 0, 126, 218, 1), (.invokevirtual 342, 83, 1, 127, 219, 3), (.i2l, 0, 0, 128, 222, 1), (.invokestatic 317, 99, 2, 129, 223, 3), (.lstore_n 1, 0, 0, 130, 226, 1), (.lload_n 1, 0, 0, 131, 227, 1), (.aload_n 0, 0, 0, 132, 228, 1), (.iconst 5, 0, 0, 133, 229, 1), (.invokevirtual 345, 88, 2, 134, 230, 3), (.i2l, 0, 0, 135, 233, 1), (.invokestatic 317, 99, 2, 136, 234, 3), (.lstore_n 1, 0, 0, 137, 237, 1), (.aload_n 0, 0, 0, 138, 238, 1), (.getfield 73, 10, 8, 139, 239, 3), (.bipush 7, 0, 0, 140, 242, 2), (.invokevirtual 266, 28, 2, 141, 244, 3), (.lload_n 1, 0, 0, 142, 247, 1), (.aload_n 0, 0, 0, 143, 248, 1), (.getfield 73, 10, 8, 144, 249, 3), (.getfield 269, 3, 3, 145, 252, 3), (.i2l, 0, 0, 146, 255, 1), (.invokestatic 317, 99, 2, 147, 256, 3), (.lstore_n 1, 0, 0, 148, 259, 1), (.lload_n 1, 0, 0, 149, 260, 1), (.aload_n 0, 0, 0, 150, 261, 1), (.getfield 73, 10, 8, 151, 262, 3), (.getfield 272, 3, 4, 152, 265, 3), (.i2l, 0, 0, 153, 268, 1), (.invokestatic 317, 99, 2, 154, 269, 3), (.lreturn, 0, 0, 0, 272, 1)]
def M_X10_digest : mm_M := (3, 4, k_X10_digest)
abbrev n_X10_digest : Nat := 98
def k_X10_mix : List mm_I := [(.ldc2_w 348, 31, 0, 1, 0, 3), (.lload_n 0, 0, 0, 2, 3, 1), (.lmul, 0, 0, 3, 4, 1), (.lload_n 2, 0, 0, 4, 5, 1), (.ladd, 0, 0, 5, 6, 1), (.lreturn, 0, 0, 0, 7, 1)]
def M_X10_mix : mm_M := (3, 4, k_X10_mix)
abbrev n_X10_mix : Nat := 99
def k_X10_mixTold : List mm_I := [(.lload_n 1, 0, 0, 1, 0, 1), (.lstore 4, 0, 0, 2, 1, 2), (.iconst 0, 0, 0, 3, 3, 1), (.istore 6, 0, 0, 4, 4, 2), (.iload 6, 0, 0, 5, 6, 2), (.iconst 2, 0, 0, 6, 8, 1), (.if_icmp .gt 24, 17, 0, 7, 9, 3), (.lload 4, 0, 0, 8, 12, 2), (.aload_n 0, 0, 0, 9, 14, 1), (.iload_n 3, 0, 0, 10, 15, 1), (.iload 6, 0, 0, 11, 16, 2), (.invokevirtual 350, 67, 3, 12, 18, 3), (.i2l, 0, 0, 13, 21, 1), (.invokestatic 317, 99, 2, 14, 22, 3), (.lstore 4, 0, 0, 15, 25, 2), (.iinc 6 1, 0, 0, 16, 27, 3), (.goto (-24), 4, 0, 0, 30, 3), (.getstatic 353, 1002, 0, 18, 33, 3), (.astore 6, 0, 0, 19, 36, 2), (.aload 6, 0, 0, 20, 38, 2), (.arraylength, 0, 0, 21, 40, 1), (.istore 7, 0, 0, 22, 41, 2), (.iconst 0, 0, 0, 23, 43, 1), (.istore 8, 0, 0, 24, 44, 2), (.iload 8, 0, 0, 25, 46, 2), (.iload 7, 0, 0, 26, 48, 2), (.if_icmp .ge 42, 47, 0, 27, 50, 3), (.aload 6, 0, 0, 28, 53, 2), (.iload 8, 0, 0, 29, 55, 2), (.iaload, 0, 0, 30, 57, 1), (.istore 9, 0, 0, 31, 58, 2), (.lload 4, 0, 0, 32, 60, 2), (.aload_n 0, 0, 0, 33, 62, 1), (.iload 9, 0, 0, 34, 63, 2), (.iload_n 3, 0, 0, 35, 65, 1), (.invokevirtual 356, 73, 3, 36, 66, 3), (.i2l, 0, 0, 37, 69, 1), (.invokestatic 317, 99, 2, 38, 70, 3), (.aload_n 0, 0, 0, 39, 73, 1), (.iload 9, 0, 0, 40, 74, 2), (.iload_n 3, 0, 0, 41, 76, 1), (.invokevirtual 358, 74, 3, 42, 77, 3), (.i2l, 0, 0, 43, 80, 1), (.invokestatic 317, 99, 2, 44, 81, 3), (.lstore 4, 0, 0, 45, 84, 2), (.iinc 8 1, 0, 0, 46, 86, 3), (.goto (-43), 24, 0, 0, 89, 3), (.lload 4, 0, 0, 48, 92, 2), (.aload_n 0, 0, 0, 49, 94, 1), (.iload_n 3, 0, 0, 50, 95, 1), (.iconst 0, 0, 0, 51, 96, 1), (.invokevirtual 361, 76, 3, 52, 97, 3), (.i2l, 0, 0, 53, 100, 1), (.invokestatic 317, 99, 2, 54, 101, 3), (.lstore 4, 0, 0, 55, 104, 2), (.lload 4, 0, 0, 56, 106, 2), (.aload_n 0, 0, 0, 57, 108, 1), (.iload_n 3, 0, 0, 58, 109, 1), (.iconst 1, 0, 0, 59, 110, 1), (.invokevirtual 361, 76, 3, 60, 111, 3), (.i2l, 0, 0, 61, 114, 1), (.invokestatic 317, 99, 2, 62, 115, 3), (.lreturn, 0, 0, 0, 118, 1)]
def M_X10_mixTold : mm_M := (3, 10, k_X10_mixTold)
abbrev n_X10_mixTold : Nat := 100
def k_X10_mixFound : List mm_I := [(.aload_n 0, 0, 0, 1, 0, 1), (.getfield 43, 10, 4, 2, 1, 3), (.iload_n 3, 0, 0, 3, 4, 1), (.invokevirtual 207, 31, 2, 4, 5, 3), (.lload_n 1, 0, 0, 5, 8, 1), (.aload_n 0, 0, 0, 6, 9, 1), (.getfield 43, 10, 4, 7, 10, 3), (.getfield 210, 4, 2, 8, 13, 3), (.i2l, 0, 0, 9, 16, 1), (.invokestatic 317, 99, 2, 10, 17, 3), (.aload_n 0, 0, 0, 11, 20, 1), (.getfield 43, 10, 4, 12, 21, 3), (.getfield 213, 4, 3, 13, 24, 3), (.i2l, 0, 0, 14, 27, 1), (.invokestatic 317, 99, 2, 15, 28, 3), (.lstore 4, 0, 0, 16, 31, 2), (.lload 4, 0, 0, 17, 33, 2), (.aload_n 0, 0, 0, 18, 35, 1), (.getfield 43, 10, 4, 19, 36, 3), (.iload_n 3, 0, 0, 20, 39, 1), (.invokevirtual 228, 37, 2, 21, 40, 3), (.i2l, 0, 0, 22, 43, 1), (.invokestatic 317, 99, 2, 23, 44, 3), (.lstore 4, 0, 0, 24, 47, 2), (.aload_n 0, 0, 0, 25, 49, 1), (.getfield 59, 10, 6, 26, 50, 3), (.iload_n 3, 0, 0, 27, 53, 1), (.invokevirtual 239, 17, 2, 28, 54, 3), (.lload 4, 0, 0, 29, 57, 2), (.aload_n 0, 0, 0, 30, 59, 1), (.getfield 59, 10, 6, 31, 60, 3), (.iconst (-1), 0, 0, 32, 63, 1), (.invokevirtual 242, 18, 2, 33, 64, 3), (.i2l, 0, 0, 34, 67, 1), (.invokestatic 317, 99, 2, 35, 68, 3), (.aload_n 0, 0, 0, 36, 71, 1), (.getfield 59, 10, 6, 37, 72, 3), (.iconst 0, 0, 0, 38, 75, 1), (.invokevirtual 242, 18, 2, 39, 76, 3), (.i2l, 0, 0, 40, 79, 1), (.invokestatic 317, 99, 2, 41, 80, 3), (.lstore 4, 0, 0, 42, 83, 2), (.lload 4, 0, 0, 43, 85, 2), (.aload_n 0, 0, 0, 44, 87, 1), (.getfield 59, 10, 6, 45, 88, 3), (.iload_n 3, 0, 0, 46, 91, 1), (.invokevirtual 245, 19, 2, 47, 92, 3), (.i2l, 0, 0, 48, 95, 1), (.invokestatic 317, 99, 2, 49, 96, 3), (.lstore 4, 0, 0, 50, 99, 2), (.aload_n 0, 0, 0, 51, 101, 1), (.getfield 66, 10, 7, 52, 102, 3), (.iconst 5, 0, 0, 53, 105, 1), (.iconst 5, 0, 0, 54, 106, 1), (.iload_n 3, 0, 0, 55, 107, 1), (.bipush 9, 0, 0, 56, 108, 2), (.invokevirtual 255, 58, 5, 57, 110, 3), (.lload 4, 0, 0, 58, 113, 2), (.aload_n 0, 0, 0, 59, 115, 1), (.getfield 66, 10, 7, 60, 116, 3), (.getfield 259, 9, 5, 61, 119, 3), (.invokestatic 317, 99, 2, 62, 122, 3), (.aload_n 0, 0, 0, 63, 125, 1), (.getfield 66, 10, 7, 64, 126, 3), (.getfield 263, 9, 6, 65, 129, 3), (.invokestatic 317, 99, 2, 66, 132, 3), (.lreturn, 0, 0, 0, 135, 1)]
def M_X10_mixFound : mm_M := (3, 6, k_X10_mixFound)
abbrev n_X10_mixFound : Nat := 101
def k_X10_timesLetGo : List mm_I := [(.aload_n 0, 0, 0, 1, 0, 1), (.getfield 27, 10, 2, 2, 1, 3), (.invokevirtual 181, 25, 1, 3, 4, 3), (.iconst 0, 0, 0, 4, 7, 1), (.istore_n 1, 0, 0, 5, 8, 1), (.iconst 0, 0, 0, 6, 9, 1), (.istore_n 2, 0, 0, 7, 10, 1), (.iload_n 2, 0, 0, 8, 11, 1), (.aload_n 0, 0, 0, 9, 12, 1), (.getfield 18, 10, 1, 10, 13, 3), (.getfield 200, 5, 2, 11, 16, 3), (.if_icmp .ge 24, 23, 0, 12, 19, 3), (.iload_n 1, 0, 0, 13, 22, 1), (.aload_n 0, 0, 0, 14, 23, 1), (.getfield 27, 10, 2, 15, 24, 3), (.getfield 191, 2, 1, 16, 27, 3), (.getfield 197, 0, 6, 17, 30, 3), (.iload_n 2, 0, 0, 18, 33, 1), (.iaload, 0, 0, 19, 34, 1), (.iadd, 0, 0, 20, 35, 1), (.istore_n 1, 0, 0, 21, 36, 1), (.iinc 2 1, 0, 0, 22, 37, 3), (.goto (-29), 7, 0, 0, 40, 3), (.iload_n 1, 0, 0, 24, 43, 1), (.ireturn, 0, 0, 0, 44, 1)]
def M_X10_timesLetGo : mm_M := (1, 3, k_X10_timesLetGo)
abbrev n_X10_timesLetGo : Nat := 102
def k_X10_learn : List mm_I := [(.iload_n 1, 0, 0, 1, 0, 1), (.ifCond .ne 19, 10, 0, 2, 1, 3), (.aload_n 0, 0, 0, 3, 4, 1), (.getfield 18, 10, 1, 4, 5, 3), (.aload_n 0, 0, 0, 5, 8, 1), (.getfield 9, 10, 0, 6, 9, 3), (.iconst 0, 0, 0, 7, 12, 1), (.aaload, 0, 0, 8, 13, 1), (.invokevirtual 364, 40, 2, 9, 14, 3), (.goto 16, 17, 0, 0, 17, 3), (.aload_n 0, 0, 0, 11, 20, 1), (.getfield 18, 10, 1, 12, 21, 3), (.aload_n 0, 0, 0, 13, 24, 1), (.getfield 9, 10, 0, 14, 25, 3), (.iconst 1, 0, 0, 15, 28, 1), (.aaload, 0, 0, 16, 29, 1), (.invokevirtual 368, 41, 2, 17, 30, 3), (.aload_n 0, 0, 0, 18, 33, 1), (.getfield 27, 10, 2, 19, 34, 3), (.iconst 0, 0, 0, 20, 37, 1), (.putfield 140, 2, 5, 21, 38, 3), (.return_, 0, 0, 0, 41, 1)]
def M_X10_learn : mm_M := (0, 2, k_X10_learn)
abbrev n_X10_learn : Nat := 103
def k_X10_found : List mm_I := [(.aload_n 0, 0, 0, 1, 0, 1), (.iload_n 1, 0, 0, 2, 1, 1), (.putfield 83, 10, 10, 3, 2, 3), (.bipush (-10), 0, 0, 4, 5, 2), (.iload_n 1, 0, 0, 5, 7, 1), (.isub, 0, 0, 6, 8, 1), (.ireturn, 0, 0, 0, 9, 1)]
def M_X10_found : mm_M := (1, 2, k_X10_found)
abbrev n_X10_found : Nat := 104
def k_X10_findingAt : List mm_I := [(.aload_n 0, 0, 0, 1, 0, 1), (.getfield 79, 10, 9, 2, 1, 3), (.iload_n 1, 0, 0, 3, 4, 1), (.aaload, 0, 0, 4, 5, 1), (.invokevirtual 165, 44, 1, 5, 6, 3), (.ifCond .eq 5, 8, 0, 6, 9, 3), (.iconst 1, 0, 0, 7, 12, 1), (.ireturn, 0, 0, 0, 13, 1), (.aload_n 0, 0, 0, 9, 14, 1), (.getfield 79, 10, 9, 10, 15, 3), (.iload_n 1, 0, 0, 11, 18, 1), (.aaload, 0, 0, 12, 19, 1), (.getfield 292, 6, 0, 13, 20, 3), (.iload_n 2, 0, 0, 14, 23, 1), (.if_icmp .eq 5, 17, 0, 15, 24, 3), (.iconst 3, 0, 0, 16, 27, 1), (.ireturn, 0, 0, 0, 28, 1), (.iload_n 3, 0, 0, 18, 29, 1), (.aload_n 0, 0, 0, 19, 30, 1), (.getfield 79, 10, 9, 20, 31, 3), (.iload_n 1, 0, 0, 21, 34, 1), (.aaload, 0, 0, 22, 35, 1), (.getfield 173, 6, 1, 23, 36, 3), (.iconst 1, 0, 0, 24, 39, 1), (.isub, 0, 0, 25, 40, 1), (.invokestatic 95, 106, 2, 26, 41, 3), (.ifCond .eq 7, 29, 0, 27, 44, 3), (.iconst 0, 0, 0, 28, 47, 1), (.goto 4, 30, 0, 0, 48, 3), (.iconst 2, 0, 0, 30, 51, 1), (.ireturn, 0, 0, 0, 52, 1)]
def M_X10_findingAt : mm_M := (1, 4, k_X10_findingAt)
abbrev n_X10_findingAt : Nat := 105
def k_X10_isWithin : List mm_I := [(.iload_n 0, 0, 0, 1, 0, 1), (.ifCond .lt 12, 7, 0, 2, 1, 3), (.iload_n 0, 0, 0, 3, 4, 1), (.iload_n 1, 0, 0, 4, 5, 1), (.if_icmp .gt 7, 7, 0, 5, 6, 3), (.iconst 1, 0, 0, 6, 9, 1), (.goto 4, 8, 0, 0, 10, 3), (.iconst 0, 0, 0, 8, 13, 1), (.ireturn, 0, 0, 0, 14, 1)]
def M_X10_isWithin : mm_M := (2, 2, k_X10_isWithin)
abbrev n_X10_isWithin : Nat := 106
def k_X10_isText : List mm_I := [(.iload_n 0, 0, 0, 1, 0, 1), (.ifCond .eq 8, 5, 0, 2, 1, 3), (.iload_n 0, 0, 0, 3, 4, 1), (.iconst 1, 0, 0, 4, 5, 1), (.if_icmp .ne 7, 7, 0, 5, 6, 3), (.iconst 1, 0, 0, 6, 9, 1), (.goto 4, 8, 0, 0, 10, 3), (.iconst 0, 0, 0, 8, 13, 1), (.ireturn, 0, 0, 0, 14, 1)]
def M_X10_isText : mm_M := (2, 1, k_X10_isText)
abbrev n_X10_isText : Nat := 107
def k_X10_isHour : List mm_I := [(.iload_n 0, 0, 0, 1, 0, 1), (.bipush 29, 0, 0, 2, 1, 2), (.invokestatic 95, 106, 2, 3, 3, 3), (.ireturn, 0, 0, 0, 6, 1)]
def M_X10_isHour : mm_M := (2, 1, k_X10_isHour)
abbrev n_X10_isHour : Nat := 108
def k_X10_isSlice : List mm_I := [(.iload_n 1, 0, 0, 1, 0, 1), (.aload_n 0, 0, 0, 2, 1, 1), (.getfield 18, 10, 1, 3, 2, 3), (.getfield 200, 5, 2, 4, 5, 3), (.iconst 1, 0, 0, 5, 8, 1), (.isub, 0, 0, 6, 9, 1), (.invokestatic 95, 106, 2, 7, 10, 3), (.ireturn, 0, 0, 0, 13, 1)]
def M_X10_isSlice : mm_M := (2, 2, k_X10_isSlice)
abbrev n_X10_isSlice : Nat := 109
def k_X10_isSheet : List mm_I := [(.iload_n 0, 0, 0, 1, 0, 1), (.iconst 3, 0, 0, 2, 1, 1), (.invokestatic 95, 106, 2, 3, 2, 3), (.ireturn, 0, 0, 0, 5, 1)]
def M_X10_isSheet : mm_M := (2, 1, k_X10_isSheet)
abbrev n_X10_isSheet : Nat := 110
def k_X10_isForm : List mm_I := [(.iload_n 0, 0, 0, 1, 0, 1), (.iconst 2, 0, 0, 2, 1, 1), (.invokestatic 95, 106, 2, 3, 2, 3), (.ireturn, 0, 0, 0, 5, 1)]
def M_X10_isForm : mm_M := (2, 1, k_X10_isForm)
abbrev n_X10_isForm : Nat := 111
def k_X10_isFigure : List mm_I := [(.iload_n 0, 0, 0, 1, 0, 1), (.bipush 48, 0, 0, 2, 1, 2), (.if_icmp .lt 13, 8, 0, 3, 3, 3), (.iload_n 0, 0, 0, 4, 6, 1), (.bipush 57, 0, 0, 5, 7, 2), (.if_icmp .gt 7, 8, 0, 6, 9, 3), (.iconst 1, 0, 0, 7, 12, 1), (.goto 4, 9, 0, 0, 13, 3), (.iconst 0, 0, 0, 9, 16, 1), (.ireturn, 0, 0, 0, 17, 1)]
def M_X10_isFigure : mm_M := (2, 1, k_X10_isFigure)
abbrev n_X10_isFigure : Nat := 112
def k_X11_init : List mm_I := [(.aload_n 0, 0, 0, 1, 0, 1), (.invokespecial 1, 1000, 0, 2, 1, 3), (.aload_n 0, 0, 0, 3, 4, 1), (.iconst 4, 0, 0, 4, 5, 1), (.newarray .int, 0, 0, 5, 6, 2), (.putfield 7, 11, 0, 6, 8, 3), (.aload_n 0, 0, 0, 7, 11, 1), (.iconst 4, 0, 0, 8, 12, 1), (.newarray .int, 0, 0, 9, 13, 2), (.putfield 13, 11, 1, 10, 15, 3), (.aload_n 0, 0, 0, 11, 18, 1), (.sipush 240, 0, 0, 12, 19, 3), (.newarray .int, 0, 0, 13, 22, 2), (.putfield 16, 11, 2, 14, 24, 3), (.aload_n 0, 0, 0, 15, 27, 1), (.bipush 60, 0, 0, 16, 28, 2), (.newarray .int, 0, 0, 17, 30, 2), (.putfield 19, 11, 3, 18, 32, 3), (.aload_n 0, 0, 0, 19, 35, 1), (.bipush 80, 0, 0, 20, 36, 2), (.newarray .int, 0, 0, 21, 38, 2), (.putfield 22, 11, 5, 22, 40, 3), (.aload_n 0, 0, 0, 23, 43, 1), (.iconst 2, 0, 0, 24, 44, 1), (.newarray .int, 0, 0, 25, 45, 2), (.putfield 25, 11, 6, 26, 47, 3), (.aload_n 0, 0, 0, 27, 50, 1), (.bipush 10, 0, 0, 28, 51, 2), (.newarray .int, 0, 0, 29, 53, 2), (.putfield 28, 11, 8, 30, 55, 3), (.aload_n 0, 0, 0, 31, 58, 1), (.bipush 24, 0, 0, 32, 59, 2), (.newarray .int, 0, 0, 33, 61, 2), (.putfield 31, 11, 10, 34, 63, 3), (.aload_n 0, 0, 0, 35, 66, 1), (.iconst 3, 0, 0, 36, 67, 1), (.newarray .int, 0, 0, 37, 68, 2), (.putfield 34, 11, 11, 38, 70, 3), (.aload_n 0, 0, 0, 39, 73, 1), (.bipush 16, 0, 0, 40, 74, 2), (.newarray .int, 0, 0, 41, 76, 2), (.putfield 37, 11, 13, 42, 78, 3), (.aload_n 0, 0, 0, 43, 81, 1), (.iconst 4, 0, 0, 44, 82, 1), (.newarray .int, 0, 0, 45, 83, 2), (.putfield 40, 11, 15, 46, 85, 3), (.aload_n 0, 0, 0, 47, 88, 1), (.bipush 8, 0, 0, 48, 89, 2), (.newarray .int, 0, 0, 49, 91, 2), (.putfield 43, 11, 16, 50, 93, 3), (.aload_n 0, 0, 0, 51, 96, 1), (.bipush 8, 0, 0, 52, 97, 2), (.newarray .int, 0, 0, 53, 99, 2), (.putfield 46, 11, 17, 54, 101, 3), (.aload_n 0, 0, 0, 55, 104, 1), (.bipush 8, 0, 0, 56, 105, 2), (.newarray .int, 0, 0, 57, 107, 2), (.putfield 49, 11, 18, 58, 109, 3), (.aload_n 0, 0, 0, 59, 112, 1), (.bipush 8, 0, 0, 60, 113, 2), (.newarray .int, 0, 0, 61, 115, 2), (.putfield 52, 11, 19, 62, 117, 3), (.aload_n 0, 0, 0, 63, 120, 1), (.bipush 8, 0, 0, 64, 121, 2), (.newarray .int, 0, 0, 65, 123, 2), (.putfield 55, 11, 20, 66, 125, 3), (.aload_n 0, 0, 0, 67, 128, 1), (.sipush 240, 0, 0, 68, 129, 3), (.newarray .int, 0, 0, 69, 132, 2), (.putfield 58, 11, 21, 70, 134, 3), (.aload_n 0, 0, 0, 71, 137, 1), (.sipush 240, 0, 0, 72, 138, 3), (.newarray .int, 0, 0, 73, 141, 2), (.putfield 61, 11, 22, 74, 143, 3), (.aload_n 0, 0, 0, 75, 146, 1), (.bipush 8, 0, 0, 76, 147, 2), (.newarray .int, 0, 0, 77, 149, 2), (.putfield 64, 11, 23, 78, 151, 3), (.aload_n 0, 0, 0, 79, 154, 1), (.bipush 8, 0, 0, 80, 155, 2), (.newarray .int, 0, 0, 81, 157, 2), (.putfield 67, 11, 24, 82, 159, 3), (.aload_n 0, 0, 0, 83, 162, 1), (.bipush 8, 0, 0, 84, 163, 2), (.newarray .int, 0, 0, 85, 165, 2), (.putfield 70, 11, 25, 86, 167, 3), (.aload_n 0, 0, 0, 87, 170, 1), (.bipush 24, 0, 0, 88, 171, 2), (.newarray .int, 0, 0, 89, 173, 2), (.putfield 73, 11, 28, 90, 175, 3), (.aload_n 0, 0, 0, 91, 178, 1), (.bipush 32, 0, 0, 92, 179, 2), (.newarray .int, 0, 0, 93, 181, 2), (.putfield 76, 11, 29, 94, 183, 3), (.iconst 0, 0, 0, 95, 186, 1), (.istore_n 1, 0, 0, 96, 187, 1), (.iload_n 1, 0, 0, 97, 188, 1), (.iconst 4, 0, 0, 98, 189, 1), (.if_icmp .ge 16, 106, 0, 99, 190, 3), (.aload_n 0, 0, 0, 100, 193, 1), (.getfield 7, 11, 0, 101, 194, 3), (.iload_n 1, 0, 0, 102, 197, 1), (.iconst (-1), 0, 0, 103, 198, 1), (.iastore, 0, 0, 104, 199, 1), (.iinc 1 1, 0, 0, 105, 200, 3), (.goto (-15), 96, 0, 0, 203, 3), (.aload_n 0, 0, 0, 107, 206, 1), (.getfield 34, 11, 11, 108, 207, 3), (.iconst 0, 0, 0, 109, 210, 1), (.bipush 10, 0, 0, 110, 211, 2), (.iastore, 0, 0, 111, 213, 1), (.aload_n 0, 0, 0, 112, 214, 1), (.getfield 34, 11, 11, 113, 215, 3), (.iconst 2, 0, 0, 114, 218, 1), (.bipush 40, 0, 0, 115, 219, 2), (.iastore, 0, 0, 116, 221, 1), (.return_, 0, 0, 0, 222, 1)]
def M_X11_init : mm_M := (0, 2, k_X11_init)
abbrev n_X11_init : Nat := 113
def k_X11_in : List mm_I := [(.lload_n 0, 0, 0, 1, 0, 1), (.lload_n 2, 0, 0, 2, 1, 1), (.lcmp, 0, 0, 3, 2, 1), (.ifCond .lt 14, 10, 0, 4, 3, 3), (.lload_n 0, 0, 0, 5, 6, 1), (.lload 4, 0, 0, 6, 7, 2), (.lcmp, 0, 0, 7, 9, 1), (.ifCond .gt 7, 10, 0, 8, 10, 3), (.iconst 1, 0, 0, 9, 13, 1), (.goto 4, 11, 0, 0, 14, 3), (.iconst 0, 0, 0, 11, 17, 1), (.ireturn, 0, 0, 0, 18, 1)]
def M_X11_in : mm_M := (2, 6, k_X11_in)
abbrev n_X11_in : Nat := 114
def k_X11_no : List mm_I := [(.ldc2_w 79, 9223372036854775808, 0, 1, 0, 3), (.iload_n 0, 0, 0, 2, 3, 1), (.i2l, 0, 0, 3, 4, 1), (.lsub, 0, 0, 4, 5, 1), (.lreturn, 0, 0, 0, 6, 1)]
def M_X11_no : mm_M := (3, 1, k_X11_no)
abbrev n_X11_no : Nat := 115
def k_X11_isTwo : List mm_I := [(.iload_n 0, 0, 0, 1, 0, 1), (.i2l, 0, 0, 2, 1, 1), (.lconst 0, 0, 0, 3, 2, 1), (.lconst 1, 0, 0, 4, 3, 1), (.invokestatic 81, 114, 3, 5, 4, 3), (.ireturn, 0, 0, 0, 7, 1)]
def M_X11_isTwo : mm_M := (2, 1, k_X11_isTwo)
abbrev n_X11_isTwo : Nat := 116
def k_X11_isIn : List mm_I := [(.iload_n 0, 0, 0, 1, 0, 1), (.iload_n 1, 0, 0, 2, 1, 1), (.ishr, 0, 0, 3, 2, 1), (.iconst 1, 0, 0, 4, 3, 1), (.iand, 0, 0, 5, 4, 1), (.iconst 1, 0, 0, 6, 5, 1), (.if_icmp .ne 7, 9, 0, 7, 6, 3), (.iconst 1, 0, 0, 8, 9, 1), (.goto 4, 10, 0, 0, 10, 3), (.iconst 0, 0, 0, 10, 13, 1), (.ireturn, 0, 0, 0, 14, 1)]
def M_X11_isIn : mm_M := (2, 2, k_X11_isIn)
abbrev n_X11_isIn : Nat := 117
def k_X11_lesser : List mm_I := [(.iload_n 0, 0, 0, 1, 0, 1), (.iload_n 1, 0, 0, 2, 1, 1), (.if_icmp .ge 7, 5, 0, 3, 2, 3), (.iload_n 0, 0, 0, 4, 5, 1), (.goto 4, 6, 0, 0, 6, 3), (.iload_n 1, 0, 0, 6, 9, 1), (.ireturn, 0, 0, 0, 10, 1)]
def M_X11_lesser : mm_M := (1, 2, k_X11_lesser)
abbrev n_X11_lesser : Nat := 118
def k_X11_greater : List mm_I := [(.iload_n 0, 0, 0, 1, 0, 1), (.iload_n 1, 0, 0, 2, 1, 1), (.if_icmp .le 7, 5, 0, 3, 2, 3), (.iload_n 0, 0, 0, 4, 5, 1), (.goto 4, 6, 0, 0, 6, 3), (.iload_n 1, 0, 0, 6, 9, 1), (.ireturn, 0, 0, 0, 10, 1)]
def M_X11_greater : mm_M := (1, 2, k_X11_greater)
abbrev n_X11_greater : Nat := 119
def k_X11_part : List mm_I := [(.lload_n 0, 0, 0, 1, 0, 1), (.lstore 5, 0, 0, 2, 1, 2), (.lload_n 2, 0, 0, 3, 3, 1), (.lstore 7, 0, 0, 4, 4, 2), (.lload 7, 0, 0, 5, 6, 2), (.lconst 0, 0, 0, 6, 8, 1), (.lcmp, 0, 0, 7, 9, 1), (.ifCond .eq 21, 17, 0, 8, 10, 3), (.lload 5, 0, 0, 9, 13, 2), (.lload 7, 0, 0, 10, 15, 2), (.lrem, 0, 0, 11, 17, 1), (.lstore 9, 0, 0, 12, 18, 2), (.lload 7, 0, 0, 13, 20, 2), (.lstore 5, 0, 0, 14, 22, 2), (.lload 9, 0, 0, 15, 24, 2), (.lstore 7, 0, 0, 16, 26, 2), (.goto (-22), 4, 0, 0, 28, 3), (.iload 4, 0, 0, 18, 31, 2), (.ifCond .ne 7, 21, 0, 19, 33, 3), (.lload_n 0, 0, 0, 20, 36, 1), (.goto 4, 22, 0, 0, 37, 3), (.lload_n 2, 0, 0, 22, 40, 1), (.lload 5, 0, 0, 23, 41, 2), (.ldiv, 0, 0, 24, 43, 1), (.lreturn, 0, 0, 0, 44, 1)]
def M_X11_part : mm_M := (3, 11, k_X11_part)
abbrev n_X11_part : Nat := 120
def k_X11_finds : List mm_I := [(.aload_n 0, 0, 0, 1, 0, 1), (.iload_n 1, 0, 0, 2, 1, 1), (.putfield 85, 11, 4, 3, 2, 3), (.bipush (-10), 0, 0, 4, 5, 2), (.iload_n 1, 0, 0, 5, 7, 1), (.isub, 0, 0, 6, 8, 1), (.ireturn, 0, 0, 0, 9, 1)]
def M_X11_finds : mm_M := (1, 2, k_X11_finds)
abbrev n_X11_finds : Nat := 121
def k_X11_isSheet : List mm_I := [(.iload_n 0, 0, 0, 1, 0, 1), (.i2l, 0, 0, 2, 1, 1), (.lconst 0, 0, 0, 3, 2, 1), (.ldc2_w 89, 3, 0, 4, 3, 3), (.invokestatic 81, 114, 3, 5, 6, 3), (.ireturn, 0, 0, 0, 9, 1)]
def M_X11_isSheet : mm_M := (2, 1, k_X11_isSheet)
abbrev n_X11_isSheet : Nat := 122
def k_X11_sheet : List mm_I := [(.iload_n 1, 0, 0, 1, 0, 1), (.invokestatic 91, 122, 1, 2, 1, 3), (.ifCond .eq 21, 12, 0, 3, 4, 3), (.iload_n 2, 0, 0, 4, 7, 1), (.i2l, 0, 0, 5, 8, 1), (.lconst 0, 0, 0, 6, 9, 1), (.ldc2_w 95, 2, 0, 7, 10, 3), (.invokestatic 81, 114, 3, 8, 13, 3), (.ifCond .eq 9, 12, 0, 9, 16, 3), (.iload_n 3, 0, 0, 10, 19, 1), (.bipush 60, 0, 0, 11, 20, 2), (.if_icmp .le 6, 14, 0, 12, 22, 3), (.bipush (-2), 0, 0, 13, 25, 2), (.ireturn, 0, 0, 0, 27, 1), (.iload_n 3, 0, 0, 15, 28, 1), (.ifCond .ge 9, 20, 0, 16, 29, 3), (.aload_n 0, 0, 0, 17, 32, 1), (.iconst 5, 0, 0, 18, 33, 1), (.invokevirtual 97, 121, 2, 19, 34, 3), (.ireturn, 0, 0, 0, 37, 1), (.aload_n 0, 0, 0, 21, 38, 1), (.getfield 7, 11, 0, 22, 39, 3), (.iload_n 1, 0, 0, 23, 42, 1), (.iload_n 2, 0, 0, 24, 43, 1), (.iastore, 0, 0, 25, 44, 1), (.aload_n 0, 0, 0, 26, 45, 1), (.getfield 13, 11, 1, 27, 46, 3), (.iload_n 1, 0, 0, 28, 49, 1), (.iload_n 3, 0, 0, 29, 50, 1), (.iastore, 0, 0, 30, 51, 1), (.iconst 0, 0, 0, 31, 52, 1), (.istore 4, 0, 0, 32, 53, 2), (.iload 4, 0, 0, 33, 55, 2), (.iload_n 3, 0, 0, 34, 57, 1), (.if_icmp .ge 22, 46, 0, 35, 58, 3), (.aload_n 0, 0, 0, 36, 61, 1), (.getfield 16, 11, 2, 37, 62, 3), (.bipush 60, 0, 0, 38, 65, 2), (.iload_n 1, 0, 0, 39, 67, 1), (.imul, 0, 0, 40, 68, 1), (.iload 4, 0, 0, 41, 69, 2), (.iadd, 0, 0, 42, 71, 1), (.iconst 0, 0, 0, 43, 72, 1), (.iastore, 0, 0, 44, 73, 1), (.iinc 4 1, 0, 0, 45, 74, 3), (.goto (-22), 32, 0, 0, 77, 3), (.iload_n 3, 0, 0, 47, 80, 1), (.ireturn, 0, 0, 0, 81, 1)]
def M_X11_sheet : mm_M := (1, 5, k_X11_sheet)
abbrev n_X11_sheet : Nat := 123
def k_X11_lose : List mm_I := [(.iload_n 1, 0, 0, 1, 0, 1), (.invokestatic 91, 122, 1, 2, 1, 3), (.ifCond .ne 6, 5, 0, 3, 4, 3), (.bipush (-2), 0, 0, 4, 7, 2), (.ireturn, 0, 0, 0, 9, 1), (.aload_n 0, 0, 0, 6, 10, 1), (.getfield 7, 11, 0, 7, 11, 3), (.iload_n 1, 0, 0, 8, 14, 1), (.iaload, 0, 0, 9, 15, 1), (.ifCond .ge 9, 14, 0, 10, 16, 3), (.aload_n 0, 0, 0, 11, 19, 1), (.iconst 1, 0, 0, 12, 20, 1), (.invokevirtual 97, 121, 2, 13, 21, 3), (.ireturn, 0, 0, 0, 24, 1), (.aload_n 0, 0, 0, 15, 25, 1), (.getfield 7, 11, 0, 16, 26, 3), (.iload_n 1, 0, 0, 17, 29, 1), (.iconst (-1), 0, 0, 18, 30, 1), (.iastore, 0, 0, 19, 31, 1), (.aload_n 0, 0, 0, 20, 32, 1), (.getfield 13, 11, 1, 21, 33, 3), (.iload_n 1, 0, 0, 22, 36, 1), (.iaload, 0, 0, 23, 37, 1), (.ireturn, 0, 0, 0, 38, 1)]
def M_X11_lose : mm_M := (1, 2, k_X11_lose)
abbrev n_X11_lose : Nat := 124
def k_X11_lacks : List mm_I := [(.aload_n 0, 0, 0, 1, 0, 1), (.getfield 7, 11, 0, 2, 1, 3), (.iload_n 1, 0, 0, 3, 4, 1), (.iaload, 0, 0, 4, 5, 1), (.ifCond .ge 9, 9, 0, 5, 6, 3), (.aload_n 0, 0, 0, 6, 9, 1), (.iconst 1, 0, 0, 7, 10, 1), (.invokevirtual 97, 121, 2, 8, 11, 3), (.ireturn, 0, 0, 0, 14, 1), (.aload_n 0, 0, 0, 10, 15, 1), (.getfield 7, 11, 0, 11, 16, 3), (.iload_n 1, 0, 0, 12, 19, 1), (.iaload, 0, 0, 13, 20, 1), (.iload_n 2, 0, 0, 14, 21, 1), (.if_icmp .eq 9, 19, 0, 15, 22, 3), (.aload_n 0, 0, 0, 16, 25, 1), (.iconst 3, 0, 0, 17, 26, 1), (.invokevirtual 97, 121, 2, 18, 27, 3), (.ireturn, 0, 0, 0, 30, 1), (.iload_n 3, 0, 0, 20, 31, 1), (.i2l, 0, 0, 21, 32, 1), (.lconst 0, 0, 0, 22, 33, 1), (.aload_n 0, 0, 0, 23, 34, 1), (.getfield 13, 11, 1, 24, 35, 3), (.iload_n 1, 0, 0, 25, 38, 1), (.iaload, 0, 0, 26, 39, 1), (.iconst 1, 0, 0, 27, 40, 1), (.isub, 0, 0, 28, 41, 1), (.i2l, 0, 0, 29, 42, 1), (.invokestatic 81, 114, 3, 30, 43, 3), (.ifCond .eq 7, 33, 0, 31, 46, 3), (.iconst 0, 0, 0, 32, 49, 1), (.goto 8, 36, 0, 0, 50, 3), (.aload_n 0, 0, 0, 34, 53, 1), (.iconst 2, 0, 0, 35, 54, 1), (.invokevirtual 97, 121, 2, 36, 55, 3), (.ireturn, 0, 0, 0, 58, 1)]
def M_X11_lacks : mm_M := (1, 4, k_X11_lacks)
abbrev n_X11_lacks : Nat := 125
def k_X11_cut : List mm_I := [(.iload_n 0, 0, 0, 1, 0, 1), (.ifCond .ne 8, 5, 0, 2, 1, 3), (.iload_n 1, 0, 0, 3, 4, 1), (.i2b, 0, 0, 4, 5, 1), (.goto 14, 12, 0, 0, 6, 3), (.iload_n 0, 0, 0, 6, 9, 1), (.iconst 1, 0, 0, 7, 10, 1), (.if_icmp .ne 8, 11, 0, 8, 11, 3), (.iload_n 1, 0, 0, 9, 14, 1), (.i2s, 0, 0, 10, 15, 1), (.goto 4, 12, 0, 0, 16, 3), (.iload_n 1, 0, 0, 12, 19, 1), (.ireturn, 0, 0, 0, 20, 1)]
def M_X11_cut : mm_M := (1, 2, k_X11_cut)
abbrev n_X11_cut : Nat := 126
def k_X11_lay : List mm_I := [(.iload_n 1, 0, 0, 1, 0, 1), (.invokestatic 91, 122, 1, 2, 1, 3), (.ifCond .eq 15, 9, 0, 3, 4, 3), (.iload_n 2, 0, 0, 4, 7, 1), (.i2l, 0, 0, 5, 8, 1), (.lconst 0, 0, 0, 6, 9, 1), (.ldc2_w 95, 2, 0, 7, 10, 3), (.invokestatic 81, 114, 3, 8, 13, 3), (.ifCond .ne 6, 11, 0, 9, 16, 3), (.bipush (-2), 0, 0, 10, 19, 2), (.ireturn, 0, 0, 0, 21, 1), (.aload_n 0, 0, 0, 12, 22, 1), (.iload_n 1, 0, 0, 13, 23, 1), (.iload_n 2, 0, 0, 14, 24, 1), (.iload_n 3, 0, 0, 15, 25, 1), (.invokevirtual 101, 125, 4, 16, 26, 3), (.istore 5, 0, 0, 17, 29, 2), (.iload 5, 0, 0, 18, 31, 2), (.ifCond .eq 6, 21, 0, 19, 33, 3), (.iload 5, 0, 0, 20, 36, 2), (.ireturn, 0, 0, 0, 38, 1), (.aload_n 0, 0, 0, 22, 39, 1), (.getfield 16, 11, 2, 23, 40, 3), (.bipush 60, 0, 0, 24, 43, 2), (.iload_n 1, 0, 0, 25, 45, 1), (.imul, 0, 0, 26, 46, 1), (.iload_n 3, 0, 0, 27, 47, 1), (.iadd, 0, 0, 28, 48, 1), (.iload_n 2, 0, 0, 29, 49, 1), (.iload 4, 0, 0, 30, 50, 2), (.invokestatic 105, 126, 2, 31, 52, 3), (.iastore, 0, 0, 32, 55, 1), (.iconst 1, 0, 0, 33, 56, 1), (.ireturn, 0, 0, 0, 57, 1)]
def M_X11_lay : mm_M := (1, 6, k_X11_lay)
abbrev n_X11_lay : Nat := 127
def k_X11_get : List mm_I := [(.iload_n 1, 0, 0, 1, 0, 1), (.invokestatic 91, 122, 1, 2, 1, 3), (.ifCond .eq 25, 15, 0, 3, 4, 3), (.iload_n 2, 0, 0, 4, 7, 1), (.i2l, 0, 0, 5, 8, 1), (.lconst 0, 0, 0, 6, 9, 1), (.ldc2_w 95, 2, 0, 7, 10, 3), (.invokestatic 81, 114, 3, 8, 13, 3), (.ifCond .eq 13, 15, 0, 9, 16, 3), (.aload_n 0, 0, 0, 10, 19, 1), (.iload_n 1, 0, 0, 11, 20, 1), (.iload_n 2, 0, 0, 12, 21, 1), (.iload_n 3, 0, 0, 13, 22, 1), (.invokevirtual 101, 125, 4, 14, 23, 3), (.ifCond .eq 6, 17, 0, 15, 26, 3), (.ldc 109, 2147483648, 0, 16, 29, 2), (.ireturn, 0, 0, 0, 31, 1), (.aload_n 0, 0, 0, 18, 32, 1), (.getfield 16, 11, 2, 19, 33, 3), (.bipush 60, 0, 0, 20, 36, 2), (.iload_n 1, 0, 0, 21, 38, 1), (.imul, 0, 0, 22, 39, 1), (.iload_n 3, 0, 0, 23, 40, 1), (.iadd, 0, 0, 24, 41, 1), (.iaload, 0, 0, 25, 42, 1), (.ireturn, 0, 0, 0, 43, 1)]
def M_X11_get : mm_M := (1, 4, k_X11_get)
abbrev n_X11_get : Nat := 128
def k_X11_copy : List mm_I := [(.iload_n 1, 0, 0, 1, 0, 1), (.invokestatic 91, 122, 1, 2, 1, 3), (.ifCond .eq 10, 6, 0, 3, 4, 3), (.iload_n 3, 0, 0, 4, 7, 1), (.invokestatic 91, 122, 1, 5, 8, 3), (.ifCond .ne 6, 8, 0, 6, 11, 3), (.bipush (-2), 0, 0, 7, 14, 2), (.ireturn, 0, 0, 0, 16, 1), (.aload_n 0, 0, 0, 9, 17, 1), (.getfield 7, 11, 0, 10, 18, 3), (.iload_n 1, 0, 0, 11, 21, 1), (.iaload, 0, 0, 12, 22, 1), (.ifCond .lt 12, 18, 0, 13, 23, 3), (.aload_n 0, 0, 0, 14, 26, 1), (.getfield 7, 11, 0, 15, 27, 3), (.iload_n 3, 0, 0, 16, 30, 1), (.iaload, 0, 0, 17, 31, 1), (.ifCond .ge 9, 22, 0, 18, 32, 3), (.aload_n 0, 0, 0, 19, 35, 1), (.iconst 1, 0, 0, 20, 36, 1), (.invokevirtual 97, 121, 2, 21, 37, 3), (.ireturn, 0, 0, 0, 40, 1), (.aload_n 0, 0, 0, 23, 41, 1), (.getfield 7, 11, 0, 24, 42, 3), (.iload_n 1, 0, 0, 25, 45, 1), (.iaload, 0, 0, 26, 46, 1), (.aload_n 0, 0, 0, 27, 47, 1), (.getfield 7, 11, 0, 28, 48, 3), (.iload_n 3, 0, 0, 29, 51, 1), (.iaload, 0, 0, 30, 52, 1), (.if_icmp .eq 9, 35, 0, 31, 53, 3), (.aload_n 0, 0, 0, 32, 56, 1), (.iconst 4, 0, 0, 33, 57, 1), (.invokevirtual 97, 121, 2, 34, 58, 3), (.ireturn, 0, 0, 0, 61, 1), (.iload_n 2, 0, 0, 36, 62, 1), (.ifCond .lt 48, 65, 0, 37, 63, 3), (.iload 4, 0, 0, 38, 66, 2), (.ifCond .lt 43, 65, 0, 39, 68, 3), (.iload 5, 0, 0, 40, 71, 2), (.ifCond .lt 38, 65, 0, 41, 73, 3), (.iload_n 2, 0, 0, 42, 76, 1), (.i2l, 0, 0, 43, 77, 1), (.iload 5, 0, 0, 44, 78, 2), (.i2l, 0, 0, 45, 80, 1), (.ladd, 0, 0, 46, 81, 1), (.aload_n 0, 0, 0, 47, 82, 1), (.getfield 13, 11, 1, 48, 83, 3), (.iload_n 1, 0, 0, 49, 86, 1), (.iaload, 0, 0, 50, 87, 1), (.i2l, 0, 0, 51, 88, 1), (.lcmp, 0, 0, 52, 89, 1), (.ifCond .gt 21, 65, 0, 53, 90, 3), (.iload 4, 0, 0, 54, 93, 2), (.i2l, 0, 0, 55, 95, 1), (.iload 5, 0, 0, 56, 96, 2), (.i2l, 0, 0, 57, 98, 1), (.ladd, 0, 0, 58, 99, 1), (.aload_n 0, 0, 0, 59, 100, 1), (.getfield 13, 11, 1, 60, 101, 3), (.iload_n 3, 0, 0, 61, 104, 1), (.iaload, 0, 0, 62, 105, 1), (.i2l, 0, 0, 63, 106, 1), (.lcmp, 0, 0, 64, 107, 1), (.ifCond .le 9, 69, 0, 65, 108, 3), (.aload_n 0, 0, 0, 66, 111, 1), (.iconst 2, 0, 0, 67, 112, 1), (.invokevirtual 97, 121, 2, 68, 113, 3), (.ireturn, 0, 0, 0, 116, 1), (.iconst 0, 0, 0, 70, 117, 1), (.istore 6, 0, 0, 71, 118, 2), (.iload 6, 0, 0, 72, 120, 2), (.iload 5, 0, 0, 73, 122, 2), (.if_icmp .ge 30, 90, 0, 74, 124, 3), (.aload_n 0, 0, 0, 75, 127, 1), (.getfield 19, 11, 3, 76, 128, 3), (.iload 6, 0, 0, 77, 131, 2), (.aload_n 0, 0, 0, 78, 133, 1), (.getfield 16, 11, 2, 79, 134, 3), (.bipush 60, 0, 0, 80, 137, 2), (.iload_n 1, 0, 0, 81, 139, 1), (.imul, 0, 0, 82, 140, 1), (.iload_n 2, 0, 0, 83, 141, 1), (.iadd, 0, 0, 84, 142, 1), (.iload 6, 0, 0, 85, 143, 2), (.iadd, 0, 0, 86, 145, 1), (.iaload, 0, 0, 87, 146, 1), (.iastore, 0, 0, 88, 147, 1), (.iinc 6 1, 0, 0, 89, 148, 3), (.goto (-31), 71, 0, 0, 151, 3), (.iconst 0, 0, 0, 91, 154, 1), (.istore 6, 0, 0, 92, 155, 2), (.iload 6, 0, 0, 93, 157, 2), (.iload 5, 0, 0, 94, 159, 2), (.if_icmp .ge 31, 111, 0, 95, 161, 3), (.aload_n 0, 0, 0, 96, 164, 1), (.getfield 16, 11, 2, 97, 165, 3), (.bipush 60, 0, 0, 98, 168, 2), (.iload_n 3, 0, 0, 99, 170, 1), (.imul, 0, 0, 100, 171, 1), (.iload 4, 0, 0, 101, 172, 2), (.iadd, 0, 0, 102, 174, 1), (.iload 6, 0, 0, 103, 175, 2), (.iadd, 0, 0, 104, 177, 1), (.aload_n 0, 0, 0, 105, 178, 1), (.getfield 19, 11, 3, 106, 179, 3), (.iload 6, 0, 0, 107, 182, 2), (.iaload, 0, 0, 108, 184, 1), (.iastore, 0, 0, 109, 185, 1), (.iinc 6 1, 0, 0, 110, 186, 3), (.goto (-32), 92, 0, 0, 189, 3), (.iconst 1, 0, 0, 112, 192, 1), (.ireturn, 0, 0, 0, 193, 1)]
def M_X11_copy : mm_M := (1, 7, k_X11_copy)
abbrev n_X11_copy : Nat := 129
def k_X11_type : List mm_I := [(.iload_n 1, 0, 0, 1, 0, 1), (.invokestatic 110, 116, 1, 2, 1, 3), (.ifCond .eq 15, 9, 0, 3, 4, 3), (.iload_n 2, 0, 0, 4, 7, 1), (.i2l, 0, 0, 5, 8, 1), (.lconst 0, 0, 0, 6, 9, 1), (.ldc2_w 113, 255, 0, 7, 10, 3), (.invokestatic 81, 114, 3, 8, 13, 3), (.ifCond .ne 6, 11, 0, 9, 16, 3), (.bipush (-2), 0, 0, 10, 19, 2), (.ireturn, 0, 0, 0, 21, 1), (.aload_n 0, 0, 0, 12, 22, 1), (.getfield 25, 11, 6, 13, 23, 3), (.iload_n 1, 0, 0, 14, 26, 1), (.iaload, 0, 0, 15, 27, 1), (.iload_n 1, 0, 0, 16, 28, 1), (.ifCond .ne 8, 19, 0, 17, 29, 3), (.bipush 10, 0, 0, 18, 32, 2), (.goto 5, 20, 0, 0, 34, 3), (.bipush 39, 0, 0, 20, 37, 2), (.if_icmp .ne 6, 23, 0, 21, 39, 3), (.bipush (-4), 0, 0, 22, 42, 2), (.ireturn, 0, 0, 0, 44, 1), (.aload_n 0, 0, 0, 24, 45, 1), (.getfield 22, 11, 5, 25, 46, 3), (.bipush 40, 0, 0, 26, 49, 2), (.iload_n 1, 0, 0, 27, 51, 1), (.imul, 0, 0, 28, 52, 1), (.aload_n 0, 0, 0, 29, 53, 1), (.getfield 25, 11, 6, 30, 54, 3), (.iload_n 1, 0, 0, 31, 57, 1), (.iaload, 0, 0, 32, 58, 1), (.iadd, 0, 0, 33, 59, 1), (.iload_n 2, 0, 0, 34, 60, 1), (.iastore, 0, 0, 35, 61, 1), (.aload_n 0, 0, 0, 36, 62, 1), (.getfield 25, 11, 6, 37, 63, 3), (.iload_n 1, 0, 0, 38, 66, 1), (.dup2, 0, 0, 39, 67, 1), (.iaload, 0, 0, 40, 68, 1), (.iconst 1, 0, 0, 41, 69, 1), (.iadd, 0, 0, 42, 70, 1), (.iastore, 0, 0, 43, 71, 1), (.aload_n 0, 0, 0, 44, 72, 1), (.getfield 25, 11, 6, 45, 73, 3), (.iload_n 1, 0, 0, 46, 76, 1), (.iaload, 0, 0, 47, 77, 1), (.ireturn, 0, 0, 0, 78, 1)]
def M_X11_type : mm_M := (1, 3, k_X11_type)
abbrev n_X11_type : Nat := 130
def k_X11_wipe : List mm_I := [(.iload_n 1, 0, 0, 1, 0, 1), (.invokestatic 110, 116, 1, 2, 1, 3), (.ifCond .ne 6, 5, 0, 3, 4, 3), (.bipush (-2), 0, 0, 4, 7, 2), (.ireturn, 0, 0, 0, 9, 1), (.aload_n 0, 0, 0, 6, 10, 1), (.getfield 25, 11, 6, 7, 11, 3), (.iload_n 1, 0, 0, 8, 14, 1), (.iaload, 0, 0, 9, 15, 1), (.istore_n 2, 0, 0, 10, 16, 1), (.aload_n 0, 0, 0, 11, 17, 1), (.getfield 25, 11, 6, 12, 18, 3), (.iload_n 1, 0, 0, 13, 21, 1), (.iconst 0, 0, 0, 14, 22, 1), (.iastore, 0, 0, 15, 23, 1), (.iload_n 2, 0, 0, 16, 24, 1), (.ireturn, 0, 0, 0, 25, 1)]
def M_X11_wipe : mm_M := (1, 3, k_X11_wipe)
abbrev n_X11_wipe : Nat := 131
def k_X11_undo : List mm_I := [(.iload_n 1, 0, 0, 1, 0, 1), (.invokestatic 110, 116, 1, 2, 1, 3), (.ifCond .ne 6, 5, 0, 3, 4, 3), (.bipush (-2), 0, 0, 4, 7, 2), (.ireturn, 0, 0, 0, 9, 1), (.aload_n 0, 0, 0, 6, 10, 1), (.getfield 25, 11, 6, 7, 11, 3), (.iload_n 1, 0, 0, 8, 14, 1), (.iaload, 0, 0, 9, 15, 1), (.ifCond .ne 6, 12, 0, 10, 16, 3), (.bipush (-3), 0, 0, 11, 19, 2), (.ireturn, 0, 0, 0, 21, 1), (.aload_n 0, 0, 0, 13, 22, 1), (.getfield 25, 11, 6, 14, 23, 3), (.iload_n 1, 0, 0, 15, 26, 1), (.dup2, 0, 0, 16, 27, 1), (.iaload, 0, 0, 17, 28, 1), (.iconst 1, 0, 0, 18, 29, 1), (.isub, 0, 0, 19, 30, 1), (.iastore, 0, 0, 20, 31, 1), (.aload_n 0, 0, 0, 21, 32, 1), (.getfield 25, 11, 6, 22, 33, 3), (.iload_n 1, 0, 0, 23, 36, 1), (.iaload, 0, 0, 24, 37, 1), (.ireturn, 0, 0, 0, 38, 1)]
def M_X11_undo : mm_M := (1, 2, k_X11_undo)
abbrev n_X11_undo : Nat := 132
def k_X11_figureOf : List mm_I := [(.iload_n 0, 0, 0, 1, 0, 1), (.i2l, 0, 0, 2, 1, 1), (.ldc2_w 115, 48, 0, 3, 2, 3), (.ldc2_w 117, 57, 0, 4, 5, 3), (.invokestatic 81, 114, 3, 5, 8, 3), (.ifCond .eq 10, 10, 0, 6, 11, 3), (.iload_n 0, 0, 0, 7, 14, 1), (.bipush 48, 0, 0, 8, 15, 2), (.isub, 0, 0, 9, 17, 1), (.goto 5, 11, 0, 0, 18, 3), (.bipush (-9), 0, 0, 11, 21, 2), (.ireturn, 0, 0, 0, 23, 1)]
def M_X11_figureOf : mm_M := (1, 1, k_X11_figureOf)
abbrev n_X11_figureOf : Nat := 133
def k_X11_sliceOf : List mm_I := [(.iload_n 0, 0, 0, 1, 0, 1), (.ifCond .ne 46, 24, 0, 2, 1, 3), (.iload_n 1, 0, 0, 3, 4, 1), (.bipush 119, 0, 0, 4, 5, 2), (.if_icmp .ne 7, 7, 0, 5, 7, 3), (.iconst 0, 0, 0, 6, 10, 1), (.goto 35, 23, 0, 0, 11, 3), (.iload_n 1, 0, 0, 8, 14, 1), (.bipush 99, 0, 0, 9, 15, 2), (.if_icmp .ne 7, 12, 0, 10, 17, 3), (.iconst 1, 0, 0, 11, 20, 1), (.goto 25, 23, 0, 0, 21, 3), (.iload_n 1, 0, 0, 13, 24, 1), (.bipush 98, 0, 0, 14, 25, 2), (.if_icmp .ne 7, 17, 0, 15, 27, 3), (.iconst 2, 0, 0, 16, 30, 1), (.goto 15, 23, 0, 0, 31, 3), (.iload_n 1, 0, 0, 18, 34, 1), (.bipush 116, 0, 0, 19, 35, 2), (.if_icmp .ne 7, 22, 0, 20, 37, 3), (.iconst 3, 0, 0, 21, 40, 1), (.goto 5, 23, 0, 0, 41, 3), (.bipush (-9), 0, 0, 23, 44, 2), (.ireturn, 0, 0, 0, 46, 1), (.iload_n 0, 0, 0, 25, 47, 1), (.iconst 4, 0, 0, 26, 48, 1), (.if_icmp .ne 18, 34, 0, 27, 49, 3), (.iload_n 1, 0, 0, 28, 52, 1), (.bipush 59, 0, 0, 29, 53, 2), (.if_icmp .ne 7, 32, 0, 30, 55, 3), (.iconst 0, 0, 0, 31, 58, 1), (.goto 12, 36, 0, 0, 59, 3), (.bipush (-9), 0, 0, 33, 62, 2), (.goto 7, 36, 0, 0, 64, 3), (.iload_n 1, 0, 0, 35, 67, 1), (.invokestatic 119, 133, 1, 36, 68, 3), (.ireturn, 0, 0, 0, 71, 1)]
def M_X11_sliceOf : mm_M := (1, 2, k_X11_sliceOf)
abbrev n_X11_sliceOf : Nat := 134
def k_X11_readsRack : List mm_I := [(.aload_n 0, 0, 0, 1, 0, 1), (.iconst 0, 0, 0, 2, 1, 1), (.putfield 122, 11, 7, 3, 2, 3), (.iconst 0, 0, 0, 4, 5, 1), (.istore_n 1, 0, 0, 5, 6, 1), (.iload_n 1, 0, 0, 6, 7, 1), (.aload_n 0, 0, 0, 7, 8, 1), (.getfield 25, 11, 6, 8, 9, 3), (.iconst 0, 0, 0, 9, 12, 1), (.iaload, 0, 0, 10, 13, 1), (.if_icmp .ge 49, 38, 0, 11, 14, 3), (.aload_n 0, 0, 0, 12, 17, 1), (.getfield 22, 11, 5, 13, 18, 3), (.iload_n 1, 0, 0, 14, 21, 1), (.iaload, 0, 0, 15, 22, 1), (.invokestatic 119, 133, 1, 16, 23, 3), (.istore_n 2, 0, 0, 17, 26, 1), (.iload_n 2, 0, 0, 18, 27, 1), (.bipush (-9), 0, 0, 19, 28, 2), (.if_icmp .ne 10, 25, 0, 20, 30, 3), (.aload_n 0, 0, 0, 21, 33, 1), (.iconst 0, 0, 0, 22, 34, 1), (.putfield 122, 11, 7, 23, 35, 3), (.iload_n 1, 0, 0, 24, 38, 1), (.ireturn, 0, 0, 0, 39, 1), (.aload_n 0, 0, 0, 26, 40, 1), (.getfield 28, 11, 8, 27, 41, 3), (.iload_n 1, 0, 0, 28, 44, 1), (.iload_n 2, 0, 0, 29, 45, 1), (.iastore, 0, 0, 30, 46, 1), (.aload_n 0, 0, 0, 31, 47, 1), (.dup, 0, 0, 32, 48, 1), (.getfield 122, 11, 7, 33, 49, 3), (.iconst 1, 0, 0, 34, 52, 1), (.iadd, 0, 0, 35, 53, 1), (.putfield 122, 11, 7, 36, 54, 3), (.iinc 1 1, 0, 0, 37, 57, 3), (.goto (-53), 5, 0, 0, 60, 3), (.iconst (-1), 0, 0, 39, 63, 1), (.ireturn, 0, 0, 0, 64, 1)]
def M_X11_readsRack : mm_M := (1, 3, k_X11_readsRack)
abbrev n_X11_readsRack : Nat := 135
def k_X11_readsSlices : List mm_I := [(.aload_n 0, 0, 0, 1, 0, 1), (.iconst 0, 0, 0, 2, 1, 1), (.putfield 125, 11, 9, 3, 2, 3), (.aload_n 0, 0, 0, 4, 5, 1), (.getfield 25, 11, 6, 5, 6, 3), (.iconst 1, 0, 0, 6, 9, 1), (.iaload, 0, 0, 7, 10, 1), (.istore_n 1, 0, 0, 8, 11, 1), (.iconst 0, 0, 0, 9, 12, 1), (.istore_n 2, 0, 0, 10, 13, 1), (.iload_n 2, 0, 0, 11, 14, 1), (.iload_n 1, 0, 0, 12, 15, 1), (.if_icmp .ge 135, 93, 0, 13, 16, 3), (.iload_n 2, 0, 0, 14, 19, 1), (.iconst 5, 0, 0, 15, 20, 1), (.irem, 0, 0, 16, 21, 1), (.istore_n 3, 0, 0, 17, 22, 1), (.iload_n 3, 0, 0, 18, 23, 1), (.aload_n 0, 0, 0, 19, 24, 1), (.getfield 22, 11, 5, 20, 25, 3), (.bipush 40, 0, 0, 21, 28, 2), (.iload_n 2, 0, 0, 22, 30, 1), (.iadd, 0, 0, 23, 31, 1), (.iaload, 0, 0, 24, 32, 1), (.invokestatic 128, 134, 2, 25, 33, 3), (.istore 4, 0, 0, 26, 36, 2), (.iload 4, 0, 0, 27, 38, 2), (.bipush (-9), 0, 0, 28, 40, 2), (.if_icmp .ne 10, 34, 0, 29, 42, 3), (.aload_n 0, 0, 0, 30, 45, 1), (.iconst 0, 0, 0, 31, 46, 1), (.putfield 125, 11, 9, 32, 47, 3), (.iload_n 2, 0, 0, 33, 50, 1), (.ireturn, 0, 0, 0, 51, 1), (.iconst 3, 0, 0, 35, 52, 1), (.iload_n 2, 0, 0, 36, 53, 1), (.iconst 5, 0, 0, 37, 54, 1), (.idiv, 0, 0, 38, 55, 1), (.imul, 0, 0, 39, 56, 1), (.istore 5, 0, 0, 40, 57, 2), (.iload_n 3, 0, 0, 41, 59, 1), (.ifCond .ne 15, 48, 0, 42, 60, 3), (.aload_n 0, 0, 0, 43, 63, 1), (.getfield 31, 11, 10, 44, 64, 3), (.iload 5, 0, 0, 45, 67, 2), (.iload 4, 0, 0, 46, 69, 2), (.iastore, 0, 0, 47, 71, 1), (.goto 73, 91, 0, 0, 72, 3), (.iload_n 3, 0, 0, 49, 75, 1), (.iconst 1, 0, 0, 50, 76, 1), (.if_icmp .ne 20, 61, 0, 51, 77, 3), (.aload_n 0, 0, 0, 52, 80, 1), (.getfield 31, 11, 10, 53, 81, 3), (.iload 5, 0, 0, 54, 84, 2), (.iconst 1, 0, 0, 55, 86, 1), (.iadd, 0, 0, 56, 87, 1), (.bipush 10, 0, 0, 57, 88, 2), (.iload 4, 0, 0, 58, 90, 2), (.imul, 0, 0, 59, 92, 1), (.iastore, 0, 0, 60, 93, 1), (.goto 51, 91, 0, 0, 94, 3), (.iload_n 3, 0, 0, 62, 97, 1), (.iconst 2, 0, 0, 63, 98, 1), (.if_icmp .ne 20, 75, 0, 64, 99, 3), (.aload_n 0, 0, 0, 65, 102, 1), (.getfield 31, 11, 10, 66, 103, 3), (.iload 5, 0, 0, 67, 106, 2), (.iconst 1, 0, 0, 68, 108, 1), (.iadd, 0, 0, 69, 109, 1), (.dup2, 0, 0, 70, 110, 1), (.iaload, 0, 0, 71, 111, 1), (.iload 4, 0, 0, 72, 112, 2), (.iadd, 0, 0, 73, 114, 1), (.iastore, 0, 0, 74, 115, 1), (.goto 29, 91, 0, 0, 116, 3), (.iload_n 3, 0, 0, 76, 119, 1), (.iconst 3, 0, 0, 77, 120, 1), (.if_icmp .ne 24, 91, 0, 78, 121, 3), (.aload_n 0, 0, 0, 79, 124, 1), (.getfield 31, 11, 10, 80, 125, 3), (.iload 5, 0, 0, 81, 128, 2), (.iconst 2, 0, 0, 82, 130, 1), (.iadd, 0, 0, 83, 131, 1), (.iload 4, 0, 0, 84, 132, 2), (.iastore, 0, 0, 85, 134, 1), (.aload_n 0, 0, 0, 86, 135, 1), (.dup, 0, 0, 87, 136, 1), (.getfield 125, 11, 9, 88, 137, 3), (.iconst 1, 0, 0, 89, 140, 1), (.iadd, 0, 0, 90, 141, 1), (.putfield 125, 11, 9, 91, 142, 3), (.iinc 2 1, 0, 0, 92, 145, 3), (.goto (-134), 10, 0, 0, 148, 3), (.iload_n 1, 0, 0, 94, 151, 1), (.ifCond .le 17, 105, 0, 95, 152, 3), (.iload_n 1, 0, 0, 96, 155, 1), (.iconst 5, 0, 0, 97, 156, 1), (.irem, 0, 0, 98, 157, 1), (.iconst 4, 0, 0, 99, 158, 1), (.if_icmp .eq 10, 105, 0, 100, 159, 3), (.aload_n 0, 0, 0, 101, 162, 1), (.iconst 0, 0, 0, 102, 163, 1), (.putfield 125, 11, 9, 103, 164, 3), (.iload_n 1, 0, 0, 104, 167, 1), (.ireturn, 0, 0, 0, 168, 1), (.iconst (-1), 0, 0, 106, 169, 1), (.ireturn, 0, 0, 0, 170, 1)]
def M_X11_readsSlices : mm_M := (1, 6, k_X11_readsSlices)
abbrev n_X11_readsSlices : Nat := 136
def k_X11_fault : List mm_I := [(.iload_n 1, 0, 0, 1, 0, 1), (.invokestatic 110, 116, 1, 2, 1, 3), (.ifCond .ne 8, 5, 0, 3, 4, 3), (.bipush (-2), 0, 0, 4, 7, 2), (.goto 18, 12, 0, 0, 9, 3), (.iload_n 1, 0, 0, 6, 12, 1), (.ifCond .ne 10, 10, 0, 7, 13, 3), (.aload_n 0, 0, 0, 8, 16, 1), (.invokevirtual 131, 135, 1, 9, 17, 3), (.goto 7, 12, 0, 0, 20, 3), (.aload_n 0, 0, 0, 11, 23, 1), (.invokevirtual 135, 136, 1, 12, 24, 3), (.ireturn, 0, 0, 0, 27, 1)]
def M_X11_fault : mm_M := (1, 2, k_X11_fault)
abbrev n_X11_fault : Nat := 137
def k_X11_isSlice : List mm_I := [(.iload_n 1, 0, 0, 1, 0, 1), (.i2l, 0, 0, 2, 1, 1), (.lconst 0, 0, 0, 3, 2, 1), (.aload_n 0, 0, 0, 4, 3, 1), (.getfield 125, 11, 9, 5, 4, 3), (.iconst 1, 0, 0, 6, 7, 1), (.isub, 0, 0, 7, 8, 1), (.i2l, 0, 0, 8, 9, 1), (.invokestatic 81, 114, 3, 9, 10, 3), (.ireturn, 0, 0, 0, 13, 1)]
def M_X11_isSlice : mm_M := (2, 2, k_X11_isSlice)
abbrev n_X11_isSlice : Nat := 138
def k_X11_isHour : List mm_I := [(.iload_n 0, 0, 0, 1, 0, 1), (.i2l, 0, 0, 2, 1, 1), (.lconst 0, 0, 0, 3, 2, 1), (.ldc2_w 138, 29, 0, 4, 3, 3), (.invokestatic 81, 114, 3, 5, 6, 3), (.ireturn, 0, 0, 0, 9, 1)]
def M_X11_isHour : mm_M := (2, 1, k_X11_isHour)
abbrev n_X11_isHour : Nat := 139
def k_X11_draws : List mm_I := [(.aload_n 0, 0, 0, 1, 0, 1), (.invokevirtual 131, 135, 1, 2, 1, 3), (.pop, 0, 0, 3, 4, 1), (.iload_n 1, 0, 0, 4, 5, 1), (.i2l, 0, 0, 5, 6, 1), (.lconst 0, 0, 0, 6, 7, 1), (.aload_n 0, 0, 0, 7, 8, 1), (.getfield 122, 11, 7, 8, 9, 3), (.iconst 1, 0, 0, 9, 12, 1), (.isub, 0, 0, 10, 13, 1), (.i2l, 0, 0, 11, 14, 1), (.invokestatic 81, 114, 3, 12, 15, 3), (.ifCond .eq 12, 18, 0, 13, 18, 3), (.aload_n 0, 0, 0, 14, 21, 1), (.getfield 28, 11, 8, 15, 22, 3), (.iload_n 1, 0, 0, 16, 25, 1), (.iaload, 0, 0, 17, 26, 1), (.goto 5, 19, 0, 0, 27, 3), (.bipush (-2), 0, 0, 19, 30, 2), (.ireturn, 0, 0, 0, 32, 1)]
def M_X11_draws : mm_M := (1, 2, k_X11_draws)
abbrev n_X11_draws : Nat := 140
def k_X11_slice : List mm_I := [(.aload_n 0, 0, 0, 1, 0, 1), (.invokevirtual 135, 136, 1, 2, 1, 3), (.pop, 0, 0, 3, 4, 1), (.aload_n 0, 0, 0, 4, 5, 1), (.iload_n 1, 0, 0, 5, 6, 1), (.invokevirtual 140, 138, 2, 6, 7, 3), (.ifCond .eq 28, 22, 0, 7, 10, 3), (.iload_n 2, 0, 0, 8, 13, 1), (.i2l, 0, 0, 9, 14, 1), (.lconst 0, 0, 0, 10, 15, 1), (.ldc2_w 95, 2, 0, 11, 16, 3), (.invokestatic 81, 114, 3, 12, 19, 3), (.ifCond .eq 16, 22, 0, 13, 22, 3), (.aload_n 0, 0, 0, 14, 25, 1), (.getfield 31, 11, 10, 15, 26, 3), (.iconst 3, 0, 0, 16, 29, 1), (.iload_n 1, 0, 0, 17, 30, 1), (.imul, 0, 0, 18, 31, 1), (.iload_n 2, 0, 0, 19, 32, 1), (.iadd, 0, 0, 20, 33, 1), (.iaload, 0, 0, 21, 34, 1), (.goto 5, 23, 0, 0, 35, 3), (.bipush (-2), 0, 0, 23, 38, 2), (.ireturn, 0, 0, 0, 40, 1)]
def M_X11_slice : mm_M := (1, 3, k_X11_slice)
abbrev n_X11_slice : Nat := 141
def k_X11_set : List mm_I := [(.iload_n 1, 0, 0, 1, 0, 1), (.i2l, 0, 0, 2, 1, 1), (.lconst 0, 0, 0, 3, 2, 1), (.ldc2_w 95, 2, 0, 4, 3, 3), (.invokestatic 81, 114, 3, 5, 6, 3), (.ifCond .eq 36, 21, 0, 6, 9, 3), (.iload_n 2, 0, 0, 7, 12, 1), (.i2l, 0, 0, 8, 13, 1), (.lconst 0, 0, 0, 9, 14, 1), (.iload_n 1, 0, 0, 10, 15, 1), (.ifCond .ne 9, 13, 0, 11, 16, 3), (.ldc2_w 143, 30, 0, 12, 19, 3), (.goto 17, 19, 0, 0, 22, 3), (.iload_n 1, 0, 0, 14, 25, 1), (.iconst 1, 0, 0, 15, 26, 1), (.if_icmp .ne 9, 18, 0, 16, 27, 3), (.ldc2_w 145, 9, 0, 17, 30, 3), (.goto 6, 19, 0, 0, 33, 3), (.ldc2_w 147, 99, 0, 19, 36, 3), (.invokestatic 81, 114, 3, 20, 39, 3), (.ifCond .ne 6, 23, 0, 21, 42, 3), (.bipush (-2), 0, 0, 22, 45, 2), (.ireturn, 0, 0, 0, 47, 1), (.aload_n 0, 0, 0, 24, 48, 1), (.getfield 34, 11, 11, 25, 49, 3), (.iload_n 1, 0, 0, 26, 52, 1), (.iaload, 0, 0, 27, 53, 1), (.istore_n 3, 0, 0, 28, 54, 1), (.aload_n 0, 0, 0, 29, 55, 1), (.getfield 34, 11, 11, 30, 56, 3), (.iload_n 1, 0, 0, 31, 59, 1), (.iload_n 2, 0, 0, 32, 60, 1), (.iastore, 0, 0, 33, 61, 1), (.iload_n 3, 0, 0, 34, 62, 1), (.ireturn, 0, 0, 0, 63, 1)]
def M_X11_set : mm_M := (1, 4, k_X11_set)
abbrev n_X11_set : Nat := 142
def k_X11_butter : List mm_I := [(.iload_n 1, 0, 0, 1, 0, 1), (.invokestatic 149, 139, 1, 2, 1, 3), (.ifCond .eq 15, 9, 0, 3, 4, 3), (.iload_n 2, 0, 0, 4, 7, 1), (.i2l, 0, 0, 5, 8, 1), (.lconst 0, 0, 0, 6, 9, 1), (.ldc2_w 152, 7, 0, 7, 10, 3), (.invokestatic 81, 114, 3, 8, 13, 3), (.ifCond .ne 6, 11, 0, 9, 16, 3), (.bipush (-2), 0, 0, 10, 19, 2), (.ireturn, 0, 0, 0, 21, 1), (.aload_n 0, 0, 0, 12, 22, 1), (.getfield 154, 11, 12, 13, 23, 3), (.bipush 8, 0, 0, 14, 26, 2), (.if_icmp .ne 6, 17, 0, 15, 28, 3), (.bipush (-4), 0, 0, 16, 31, 2), (.ireturn, 0, 0, 0, 33, 1), (.aload_n 0, 0, 0, 18, 34, 1), (.getfield 37, 11, 13, 19, 35, 3), (.iconst 2, 0, 0, 20, 38, 1), (.aload_n 0, 0, 0, 21, 39, 1), (.getfield 154, 11, 12, 22, 40, 3), (.imul, 0, 0, 23, 43, 1), (.iload_n 1, 0, 0, 24, 44, 1), (.iastore, 0, 0, 25, 45, 1), (.aload_n 0, 0, 0, 26, 46, 1), (.getfield 37, 11, 13, 27, 47, 3), (.iconst 2, 0, 0, 28, 50, 1), (.aload_n 0, 0, 0, 29, 51, 1), (.getfield 154, 11, 12, 30, 52, 3), (.imul, 0, 0, 31, 55, 1), (.iconst 1, 0, 0, 32, 56, 1), (.iadd, 0, 0, 33, 57, 1), (.iload_n 2, 0, 0, 34, 58, 1), (.iastore, 0, 0, 35, 59, 1), (.aload_n 0, 0, 0, 36, 60, 1), (.dup, 0, 0, 37, 61, 1), (.getfield 154, 11, 12, 38, 62, 3), (.iconst 1, 0, 0, 39, 65, 1), (.iadd, 0, 0, 40, 66, 1), (.putfield 154, 11, 12, 41, 67, 3), (.aload_n 0, 0, 0, 42, 70, 1), (.getfield 154, 11, 12, 43, 71, 3), (.ireturn, 0, 0, 0, 74, 1)]
def M_X11_butter : mm_M := (1, 3, k_X11_butter)
abbrev n_X11_butter : Nat := 143
def k_X11_fire : List mm_I := [(.iload_n 1, 0, 0, 1, 0, 1), (.invokestatic 149, 139, 1, 2, 1, 3), (.ifCond .ne 6, 5, 0, 3, 4, 3), (.bipush (-2), 0, 0, 4, 7, 2), (.ireturn, 0, 0, 0, 9, 1), (.aload_n 0, 0, 0, 6, 10, 1), (.getfield 157, 11, 14, 7, 11, 3), (.iconst 4, 0, 0, 8, 14, 1), (.if_icmp .ne 6, 11, 0, 9, 15, 3), (.bipush (-4), 0, 0, 10, 18, 2), (.ireturn, 0, 0, 0, 20, 1), (.aload_n 0, 0, 0, 12, 21, 1), (.getfield 40, 11, 15, 13, 22, 3), (.aload_n 0, 0, 0, 14, 25, 1), (.getfield 157, 11, 14, 15, 26, 3), (.iload_n 1, 0, 0, 16, 29, 1), (.iastore, 0, 0, 17, 30, 1), (.aload_n 0, 0, 0, 18, 31, 1), (.dup, 0, 0, 19, 32, 1), (.getfield 157, 11, 14, 20, 33, 3), (.iconst 1, 0, 0, 21, 36, 1), (.iadd, 0, 0, 22, 37, 1), (.putfield 157, 11, 14, 23, 38, 3), (.aload_n 0, 0, 0, 24, 41, 1), (.getfield 157, 11, 14, 25, 42, 3), (.ireturn, 0, 0, 0, 45, 1)]
def M_X11_fire : mm_M := (1, 2, k_X11_fire)
abbrev n_X11_fire : Nat := 144
def k_X11_back : List mm_I := [(.iload_n 1, 0, 0, 1, 0, 1), (.invokestatic 110, 116, 1, 2, 1, 3), (.ifCond .ne 6, 5, 0, 3, 4, 3), (.bipush (-2), 0, 0, 4, 7, 2), (.ireturn, 0, 0, 0, 9, 1), (.iload_n 1, 0, 0, 6, 10, 1), (.ifCond .ne 10, 10, 0, 7, 11, 3), (.aload_n 0, 0, 0, 8, 14, 1), (.getfield 154, 11, 12, 9, 15, 3), (.goto 7, 12, 0, 0, 18, 3), (.aload_n 0, 0, 0, 11, 21, 1), (.getfield 157, 11, 14, 12, 22, 3), (.istore_n 2, 0, 0, 13, 25, 1), (.iload_n 2, 0, 0, 14, 26, 1), (.ifCond .ne 6, 17, 0, 15, 27, 3), (.bipush (-3), 0, 0, 16, 30, 2), (.ireturn, 0, 0, 0, 32, 1), (.aload_n 0, 0, 0, 18, 33, 1), (.dup, 0, 0, 19, 34, 1), (.getfield 154, 11, 12, 20, 35, 3), (.iload_n 1, 0, 0, 21, 38, 1), (.ifCond .ne 7, 24, 0, 22, 39, 3), (.iconst 1, 0, 0, 23, 42, 1), (.goto 4, 25, 0, 0, 43, 3), (.iconst 0, 0, 0, 25, 46, 1), (.isub, 0, 0, 26, 47, 1), (.putfield 154, 11, 12, 27, 48, 3), (.aload_n 0, 0, 0, 28, 51, 1), (.dup, 0, 0, 29, 52, 1), (.getfield 157, 11, 14, 30, 53, 3), (.iload_n 1, 0, 0, 31, 56, 1), (.isub, 0, 0, 32, 57, 1), (.putfield 157, 11, 14, 33, 58, 3), (.iload_n 2, 0, 0, 34, 61, 1), (.iconst 1, 0, 0, 35, 62, 1), (.isub, 0, 0, 36, 63, 1), (.ireturn, 0, 0, 0, 64, 1)]
def M_X11_back : mm_M := (1, 3, k_X11_back)
abbrev n_X11_back : Nat := 145
def k_X11_read : List mm_I := [(.iload_n 1, 0, 0, 1, 0, 1), (.invokestatic 91, 122, 1, 2, 1, 3), (.ifCond .ne 6, 5, 0, 3, 4, 3), (.bipush (-2), 0, 0, 4, 7, 2), (.ireturn, 0, 0, 0, 9, 1), (.aload_n 0, 0, 0, 6, 10, 1), (.getfield 7, 11, 0, 7, 11, 3), (.iload_n 1, 0, 0, 8, 14, 1), (.iaload, 0, 0, 9, 15, 1), (.ifCond .ge 9, 14, 0, 10, 16, 3), (.aload_n 0, 0, 0, 11, 19, 1), (.iconst 1, 0, 0, 12, 20, 1), (.invokevirtual 97, 121, 2, 13, 21, 3), (.ireturn, 0, 0, 0, 24, 1), (.iconst 0, 0, 0, 15, 25, 1), (.istore_n 2, 0, 0, 16, 26, 1), (.iconst 1, 0, 0, 17, 27, 1), (.istore_n 3, 0, 0, 18, 28, 1), (.iload_n 3, 0, 0, 19, 29, 1), (.ifCond .eq 73, 68, 0, 20, 30, 3), (.iconst 2, 0, 0, 21, 33, 1), (.iload_n 2, 0, 0, 22, 34, 1), (.imul, 0, 0, 23, 35, 1), (.iconst 2, 0, 0, 24, 36, 1), (.iadd, 0, 0, 25, 37, 1), (.aload_n 0, 0, 0, 26, 38, 1), (.getfield 13, 11, 1, 27, 39, 3), (.iload_n 1, 0, 0, 28, 42, 1), (.iaload, 0, 0, 29, 43, 1), (.if_icmp .gt 59, 68, 0, 30, 44, 3), (.aload_n 0, 0, 0, 31, 47, 1), (.aload_n 0, 0, 0, 32, 48, 1), (.getfield 16, 11, 2, 33, 49, 3), (.bipush 60, 0, 0, 34, 52, 2), (.iload_n 1, 0, 0, 35, 54, 1), (.imul, 0, 0, 36, 55, 1), (.iconst 2, 0, 0, 37, 56, 1), (.iload_n 2, 0, 0, 38, 57, 1), (.imul, 0, 0, 39, 58, 1), (.iadd, 0, 0, 40, 59, 1), (.iaload, 0, 0, 41, 60, 1), (.aload_n 0, 0, 0, 42, 61, 1), (.getfield 16, 11, 2, 43, 62, 3), (.bipush 60, 0, 0, 44, 65, 2), (.iload_n 1, 0, 0, 45, 67, 1), (.imul, 0, 0, 46, 68, 1), (.iconst 2, 0, 0, 47, 69, 1), (.iload_n 2, 0, 0, 48, 70, 1), (.imul, 0, 0, 49, 71, 1), (.iadd, 0, 0, 50, 72, 1), (.iconst 1, 0, 0, 51, 73, 1), (.iadd, 0, 0, 52, 74, 1), (.iaload, 0, 0, 53, 75, 1), (.invokevirtual 160, 143, 3, 54, 76, 3), (.ifCond .lt 7, 57, 0, 55, 79, 3), (.iconst 1, 0, 0, 56, 82, 1), (.goto 4, 58, 0, 0, 83, 3), (.iconst 0, 0, 0, 58, 86, 1), (.istore_n 3, 0, 0, 59, 87, 1), (.iload_n 2, 0, 0, 60, 88, 1), (.iload_n 3, 0, 0, 61, 89, 1), (.ifCond .eq 7, 64, 0, 62, 90, 3), (.iconst 1, 0, 0, 63, 93, 1), (.goto 4, 65, 0, 0, 94, 3), (.iconst 0, 0, 0, 65, 97, 1), (.iadd, 0, 0, 66, 98, 1), (.istore_n 2, 0, 0, 67, 99, 1), (.goto (-71), 18, 0, 0, 100, 3), (.iload_n 2, 0, 0, 69, 103, 1), (.ireturn, 0, 0, 0, 104, 1)]
def M_X11_read : mm_M := (1, 4, k_X11_read)
abbrev n_X11_read : Nat := 146
def k_X11_isHere : List mm_I := [(.aload_n 0, 0, 0, 1, 0, 1), (.getfield 46, 11, 17, 2, 1, 3), (.iload_n 1, 0, 0, 3, 4, 1), (.iaload, 0, 0, 4, 5, 1), (.iconst 2, 0, 0, 5, 6, 1), (.if_icmp .ge 7, 8, 0, 6, 7, 3), (.iconst 1, 0, 0, 7, 10, 1), (.goto 4, 9, 0, 0, 11, 3), (.iconst 0, 0, 0, 9, 14, 1), (.ireturn, 0, 0, 0, 15, 1)]
def M_X11_isHere : mm_M := (2, 2, k_X11_isHere)
abbrev n_X11_isHere : Nat := 147
def k_X11_standingIn : List mm_I := [(.iconst 0, 0, 0, 1, 0, 1), (.istore_n 2, 0, 0, 2, 1, 1), (.iload_n 2, 0, 0, 3, 2, 1), (.aload_n 0, 0, 0, 4, 3, 1), (.getfield 125, 11, 9, 5, 4, 3), (.if_icmp .ge 35, 26, 0, 6, 7, 3), (.aload_n 0, 0, 0, 7, 10, 1), (.getfield 46, 11, 17, 8, 11, 3), (.iload_n 2, 0, 0, 9, 14, 1), (.iaload, 0, 0, 10, 15, 1), (.iconst 1, 0, 0, 11, 16, 1), (.if_icmp .ne 19, 24, 0, 12, 17, 3), (.aload_n 0, 0, 0, 13, 20, 1), (.getfield 31, 11, 10, 14, 21, 3), (.iconst 3, 0, 0, 15, 24, 1), (.iload_n 2, 0, 0, 16, 25, 1), (.imul, 0, 0, 17, 26, 1), (.iconst 2, 0, 0, 18, 27, 1), (.iadd, 0, 0, 19, 28, 1), (.iaload, 0, 0, 20, 29, 1), (.iload_n 1, 0, 0, 21, 30, 1), (.if_icmp .ne 5, 24, 0, 22, 31, 3), (.iload_n 2, 0, 0, 23, 34, 1), (.ireturn, 0, 0, 0, 35, 1), (.iinc 2 1, 0, 0, 25, 36, 3), (.goto (-37), 2, 0, 0, 39, 3), (.iconst (-1), 0, 0, 27, 42, 1), (.ireturn, 0, 0, 0, 43, 1)]
def M_X11_standingIn : mm_M := (1, 3, k_X11_standingIn)
abbrev n_X11_standingIn : Nat := 148
def k_X11_comesAgain : List mm_I := [(.aload_n 0, 0, 0, 1, 0, 1), (.getfield 31, 11, 10, 2, 1, 3), (.iconst 3, 0, 0, 3, 4, 1), (.iload_n 2, 0, 0, 4, 5, 1), (.imul, 0, 0, 5, 6, 1), (.iaload, 0, 0, 6, 7, 1), (.iconst 1, 0, 0, 7, 8, 1), (.if_icmp .ne 71, 54, 0, 8, 9, 3), (.aload_n 0, 0, 0, 9, 12, 1), (.getfield 46, 11, 17, 10, 13, 3), (.iload_n 2, 0, 0, 11, 16, 1), (.iaload, 0, 0, 12, 17, 1), (.iconst 2, 0, 0, 13, 18, 1), (.if_icmp .ne 61, 54, 0, 14, 19, 3), (.aload_n 0, 0, 0, 15, 22, 1), (.getfield 52, 11, 19, 16, 23, 3), (.iload_n 2, 0, 0, 17, 26, 1), (.iaload, 0, 0, 18, 27, 1), (.iload_n 1, 0, 0, 19, 28, 1), (.iconst 3, 0, 0, 20, 29, 1), (.isub, 0, 0, 21, 30, 1), (.if_icmp .ne 49, 54, 0, 22, 31, 3), (.aload_n 0, 0, 0, 23, 34, 1), (.getfield 49, 11, 18, 24, 35, 3), (.iload_n 2, 0, 0, 25, 38, 1), (.iaload, 0, 0, 26, 39, 1), (.iconst 2, 0, 0, 27, 40, 1), (.idiv, 0, 0, 28, 41, 1), (.aload_n 0, 0, 0, 29, 42, 1), (.getfield 34, 11, 11, 30, 43, 3), (.iconst 0, 0, 0, 31, 46, 1), (.iaload, 0, 0, 32, 47, 1), (.if_icmp .le 32, 54, 0, 33, 48, 3), (.aload_n 0, 0, 0, 34, 51, 1), (.getfield 49, 11, 18, 35, 52, 3), (.iload_n 2, 0, 0, 36, 55, 1), (.dup2, 0, 0, 37, 56, 1), (.iaload, 0, 0, 38, 57, 1), (.iconst 2, 0, 0, 39, 58, 1), (.idiv, 0, 0, 40, 59, 1), (.iastore, 0, 0, 41, 60, 1), (.aload_n 0, 0, 0, 42, 61, 1), (.getfield 43, 11, 16, 43, 62, 3), (.iload_n 2, 0, 0, 44, 65, 1), (.aload_n 0, 0, 0, 45, 66, 1), (.getfield 49, 11, 18, 46, 67, 3), (.iload_n 2, 0, 0, 47, 70, 1), (.iaload, 0, 0, 48, 71, 1), (.iastore, 0, 0, 49, 72, 1), (.aload_n 0, 0, 0, 50, 73, 1), (.getfield 46, 11, 17, 51, 74, 3), (.iload_n 2, 0, 0, 52, 77, 1), (.iconst 0, 0, 0, 53, 78, 1), (.iastore, 0, 0, 54, 79, 1), (.return_, 0, 0, 0, 80, 1)]
def M_X11_comesAgain : mm_M := (0, 3, k_X11_comesAgain)
abbrev n_X11_comesAgain : Nat := 149
def k_X11_burns : List mm_I := [(.iconst 0, 0, 0, 1, 0, 1), (.istore_n 2, 0, 0, 2, 1, 1), (.iload_n 2, 0, 0, 3, 2, 1), (.aload_n 0, 0, 0, 4, 3, 1), (.getfield 157, 11, 14, 5, 4, 3), (.if_icmp .ge 74, 45, 0, 6, 7, 3), (.iconst 0, 0, 0, 7, 10, 1), (.istore_n 3, 0, 0, 8, 11, 1), (.iload_n 3, 0, 0, 9, 12, 1), (.aload_n 0, 0, 0, 10, 13, 1), (.getfield 125, 11, 9, 11, 14, 3), (.if_icmp .ge 58, 43, 0, 12, 17, 3), (.aload_n 0, 0, 0, 13, 20, 1), (.getfield 40, 11, 15, 14, 21, 3), (.iload_n 2, 0, 0, 15, 24, 1), (.iaload, 0, 0, 16, 25, 1), (.iload_n 1, 0, 0, 17, 26, 1), (.if_icmp .ne 48, 43, 0, 18, 27, 3), (.aload_n 0, 0, 0, 19, 30, 1), (.getfield 43, 11, 16, 20, 31, 3), (.iload_n 3, 0, 0, 21, 34, 1), (.aload_n 0, 0, 0, 22, 35, 1), (.getfield 46, 11, 17, 23, 36, 3), (.iload_n 3, 0, 0, 24, 39, 1), (.iaload, 0, 0, 25, 40, 1), (.iconst 1, 0, 0, 26, 41, 1), (.if_icmp .ne 20, 36, 0, 27, 42, 3), (.aload_n 0, 0, 0, 28, 45, 1), (.getfield 43, 11, 16, 29, 46, 3), (.iload_n 3, 0, 0, 30, 49, 1), (.iaload, 0, 0, 31, 50, 1), (.bipush 20, 0, 0, 32, 51, 2), (.iadd, 0, 0, 33, 53, 1), (.bipush 99, 0, 0, 34, 54, 2), (.invokestatic 162, 118, 2, 35, 56, 3), (.goto 9, 40, 0, 0, 59, 3), (.aload_n 0, 0, 0, 37, 62, 1), (.getfield 43, 11, 16, 38, 63, 3), (.iload_n 3, 0, 0, 39, 66, 1), (.iaload, 0, 0, 40, 67, 1), (.iastore, 0, 0, 41, 68, 1), (.iinc 3 1, 0, 0, 42, 69, 3), (.goto (-60), 8, 0, 0, 72, 3), (.iinc 2 1, 0, 0, 44, 75, 3), (.goto (-76), 2, 0, 0, 78, 3), (.return_, 0, 0, 0, 81, 1)]
def M_X11_burns : mm_M := (0, 4, k_X11_burns)
abbrev n_X11_burns : Nat := 150
def k_X11_spreads : List mm_I := [(.iconst 0, 0, 0, 1, 0, 1), (.istore_n 2, 0, 0, 2, 1, 1), (.iload_n 2, 0, 0, 3, 2, 1), (.aload_n 0, 0, 0, 4, 3, 1), (.getfield 125, 11, 9, 5, 4, 3), (.if_icmp .ge 58, 37, 0, 6, 7, 3), (.aload_n 0, 0, 0, 7, 10, 1), (.getfield 70, 11, 25, 8, 11, 3), (.iload_n 2, 0, 0, 9, 14, 1), (.aload_n 0, 0, 0, 10, 15, 1), (.getfield 70, 11, 25, 11, 16, 3), (.iload_n 2, 0, 0, 12, 19, 1), (.iaload, 0, 0, 13, 20, 1), (.iconst (-1), 0, 0, 14, 21, 1), (.if_icmp .ne 30, 30, 0, 15, 22, 3), (.aload_n 0, 0, 0, 16, 25, 1), (.iload_n 2, 0, 0, 17, 26, 1), (.invokevirtual 165, 147, 2, 18, 27, 3), (.ifCond .eq 22, 30, 0, 19, 30, 3), (.aload_n 0, 0, 0, 20, 33, 1), (.getfield 43, 11, 16, 21, 34, 3), (.iload_n 2, 0, 0, 22, 37, 1), (.iaload, 0, 0, 23, 38, 1), (.aload_n 0, 0, 0, 24, 39, 1), (.getfield 34, 11, 11, 25, 40, 3), (.iconst 2, 0, 0, 26, 43, 1), (.iaload, 0, 0, 27, 44, 1), (.if_icmp .gt 7, 30, 0, 28, 45, 3), (.iload_n 1, 0, 0, 29, 48, 1), (.goto 9, 34, 0, 0, 49, 3), (.aload_n 0, 0, 0, 31, 52, 1), (.getfield 70, 11, 25, 32, 53, 3), (.iload_n 2, 0, 0, 33, 56, 1), (.iaload, 0, 0, 34, 57, 1), (.iastore, 0, 0, 35, 58, 1), (.iinc 2 1, 0, 0, 36, 59, 3), (.goto (-60), 2, 0, 0, 62, 3), (.iconst 0, 0, 0, 38, 65, 1), (.istore_n 2, 0, 0, 39, 66, 1), (.iload_n 2, 0, 0, 40, 67, 1), (.aload_n 0, 0, 0, 41, 68, 1), (.getfield 154, 11, 12, 42, 69, 3), (.if_icmp .ge 70, 84, 0, 43, 72, 3), (.aload_n 0, 0, 0, 44, 75, 1), (.getfield 37, 11, 13, 45, 76, 3), (.iconst 2, 0, 0, 46, 79, 1), (.iload_n 2, 0, 0, 47, 80, 1), (.imul, 0, 0, 48, 81, 1), (.iconst 1, 0, 0, 49, 82, 1), (.iadd, 0, 0, 50, 83, 1), (.iaload, 0, 0, 51, 84, 1), (.istore_n 3, 0, 0, 52, 85, 1), (.aload_n 0, 0, 0, 53, 86, 1), (.getfield 37, 11, 13, 54, 87, 3), (.iconst 2, 0, 0, 55, 90, 1), (.iload_n 2, 0, 0, 56, 91, 1), (.imul, 0, 0, 57, 92, 1), (.iaload, 0, 0, 58, 93, 1), (.iload_n 1, 0, 0, 59, 94, 1), (.if_icmp .ne 41, 82, 0, 60, 95, 3), (.aload_n 0, 0, 0, 61, 98, 1), (.iload_n 3, 0, 0, 62, 99, 1), (.invokevirtual 140, 138, 2, 63, 100, 3), (.ifCond .eq 33, 82, 0, 64, 103, 3), (.aload_n 0, 0, 0, 65, 106, 1), (.iload_n 3, 0, 0, 66, 107, 1), (.invokevirtual 165, 147, 2, 67, 108, 3), (.ifCond .eq 25, 82, 0, 68, 111, 3), (.aload_n 0, 0, 0, 69, 114, 1), (.getfield 43, 11, 16, 70, 115, 3), (.iload_n 3, 0, 0, 71, 118, 1), (.iaload, 0, 0, 72, 119, 1), (.aload_n 0, 0, 0, 73, 120, 1), (.getfield 34, 11, 11, 74, 121, 3), (.iconst 2, 0, 0, 75, 124, 1), (.iaload, 0, 0, 76, 125, 1), (.if_icmp .le 10, 82, 0, 77, 126, 3), (.aload_n 0, 0, 0, 78, 129, 1), (.getfield 46, 11, 17, 79, 130, 3), (.iload_n 3, 0, 0, 80, 133, 1), (.iconst 3, 0, 0, 81, 134, 1), (.iastore, 0, 0, 82, 135, 1), (.iinc 2 1, 0, 0, 83, 136, 3), (.goto (-72), 39, 0, 0, 139, 3), (.return_, 0, 0, 0, 142, 1)]
def M_X11_spreads : mm_M := (0, 4, k_X11_spreads)
abbrev n_X11_spreads : Nat := 151
def k_X11_hotter : List mm_I := [(.iload_n 2, 0, 0, 1, 0, 1), (.i2l, 0, 0, 2, 1, 1), (.lconst 0, 0, 0, 3, 2, 1), (.aload_n 0, 0, 0, 4, 3, 1), (.getfield 122, 11, 7, 5, 4, 3), (.iconst 1, 0, 0, 6, 7, 1), (.isub, 0, 0, 7, 8, 1), (.i2l, 0, 0, 8, 9, 1), (.invokestatic 81, 114, 3, 9, 10, 3), (.ifCond .eq 11, 14, 0, 10, 13, 3), (.aload_n 0, 0, 0, 11, 16, 1), (.iload_n 2, 0, 0, 12, 17, 1), (.invokevirtual 168, 148, 2, 13, 18, 3), (.goto 4, 15, 0, 0, 21, 3), (.iconst (-1), 0, 0, 15, 24, 1), (.istore_n 3, 0, 0, 16, 25, 1), (.iload_n 3, 0, 0, 17, 26, 1), (.iconst (-1), 0, 0, 18, 27, 1), (.if_icmp .eq 22, 30, 0, 19, 28, 3), (.aload_n 0, 0, 0, 20, 31, 1), (.getfield 43, 11, 16, 21, 32, 3), (.iload_n 3, 0, 0, 22, 35, 1), (.iaload, 0, 0, 23, 36, 1), (.aload_n 0, 0, 0, 24, 37, 1), (.getfield 43, 11, 16, 25, 38, 3), (.iload_n 1, 0, 0, 26, 41, 1), (.iaload, 0, 0, 27, 42, 1), (.if_icmp .le 7, 30, 0, 28, 43, 3), (.iconst 1, 0, 0, 29, 46, 1), (.goto 4, 31, 0, 0, 47, 3), (.iconst 0, 0, 0, 31, 50, 1), (.ireturn, 0, 0, 0, 51, 1)]
def M_X11_hotter : mm_M := (1, 4, k_X11_hotter)
abbrev n_X11_hotter : Nat := 152
def k_X11_coolsBy : List mm_I := [(.aload_n 0, 0, 0, 1, 0, 1), (.getfield 46, 11, 17, 2, 1, 3), (.iload_n 2, 0, 0, 3, 4, 1), (.iaload, 0, 0, 4, 5, 1), (.ifCond .ne 5, 7, 0, 5, 6, 3), (.iconst 1, 0, 0, 6, 9, 1), (.ireturn, 0, 0, 0, 10, 1), (.aload_n 0, 0, 0, 8, 11, 1), (.getfield 31, 11, 10, 9, 12, 3), (.iconst 3, 0, 0, 10, 15, 1), (.iload_n 2, 0, 0, 11, 16, 1), (.imul, 0, 0, 12, 17, 1), (.iconst 2, 0, 0, 13, 18, 1), (.iadd, 0, 0, 14, 19, 1), (.iaload, 0, 0, 15, 20, 1), (.istore_n 3, 0, 0, 16, 21, 1), (.aload_n 0, 0, 0, 17, 22, 1), (.getfield 31, 11, 10, 18, 23, 3), (.iconst 3, 0, 0, 19, 26, 1), (.iload_n 2, 0, 0, 20, 27, 1), (.imul, 0, 0, 21, 28, 1), (.iaload, 0, 0, 22, 29, 1), (.istore 4, 0, 0, 23, 30, 2), (.aload_n 0, 0, 0, 24, 32, 1), (.getfield 28, 11, 8, 25, 33, 3), (.iload_n 3, 0, 0, 26, 36, 1), (.iaload, 0, 0, 27, 37, 1), (.iconst 1, 0, 0, 28, 38, 1), (.iadd, 0, 0, 29, 39, 1), (.aload_n 0, 0, 0, 30, 40, 1), (.getfield 34, 11, 11, 31, 41, 3), (.iconst 1, 0, 0, 32, 44, 1), (.iaload, 0, 0, 33, 45, 1), (.isub, 0, 0, 34, 46, 1), (.iload_n 1, 0, 0, 35, 47, 1), (.bipush 10, 0, 0, 36, 48, 2), (.if_icmp .ge 18, 44, 0, 37, 50, 3), (.aload_n 0, 0, 0, 38, 53, 1), (.getfield 171, 11, 26, 39, 54, 3), (.iload_n 1, 0, 0, 40, 57, 1), (.invokestatic 174, 117, 2, 41, 58, 3), (.ifCond .eq 7, 44, 0, 42, 61, 3), (.iconst 3, 0, 0, 43, 64, 1), (.goto 4, 45, 0, 0, 65, 3), (.iconst 0, 0, 0, 45, 68, 1), (.iadd, 0, 0, 46, 69, 1), (.istore 5, 0, 0, 47, 70, 2), (.iload 5, 0, 0, 48, 72, 2), (.iload 4, 0, 0, 49, 74, 2), (.iconst 3, 0, 0, 50, 76, 1), (.if_icmp .ne 7, 53, 0, 51, 77, 3), (.iconst 0, 0, 0, 52, 80, 1), (.goto 20, 66, 0, 0, 81, 3), (.aload_n 0, 0, 0, 54, 84, 1), (.iload_n 2, 0, 0, 55, 85, 1), (.iload_n 3, 0, 0, 56, 86, 1), (.iconst 1, 0, 0, 57, 87, 1), (.isub, 0, 0, 58, 88, 1), (.invokevirtual 178, 152, 3, 59, 89, 3), (.aload_n 0, 0, 0, 60, 92, 1), (.iload_n 2, 0, 0, 61, 93, 1), (.iload_n 3, 0, 0, 62, 94, 1), (.iconst 1, 0, 0, 63, 95, 1), (.iadd, 0, 0, 64, 96, 1), (.invokevirtual 178, 152, 3, 65, 97, 3), (.iadd, 0, 0, 66, 100, 1), (.isub, 0, 0, 67, 101, 1), (.istore 5, 0, 0, 68, 102, 2), (.iload 5, 0, 0, 69, 104, 2), (.iconst 0, 0, 0, 70, 106, 1), (.invokestatic 181, 119, 2, 71, 107, 3), (.istore 5, 0, 0, 72, 110, 2), (.iload 4, 0, 0, 73, 112, 2), (.ifCond .ne 10, 78, 0, 74, 114, 3), (.iload 5, 0, 0, 75, 117, 2), (.iconst 1, 0, 0, 76, 119, 1), (.iadd, 0, 0, 77, 120, 1), (.goto 18, 86, 0, 0, 121, 3), (.iload 4, 0, 0, 79, 124, 2), (.iconst 2, 0, 0, 80, 126, 1), (.if_icmp .ne 10, 85, 0, 81, 127, 3), (.iload 5, 0, 0, 82, 130, 2), (.iconst 2, 0, 0, 83, 132, 1), (.idiv, 0, 0, 84, 133, 1), (.goto 5, 86, 0, 0, 134, 3), (.iload 5, 0, 0, 86, 137, 2), (.ireturn, 0, 0, 0, 139, 1)]
def M_X11_coolsBy : mm_M := (1, 6, k_X11_coolsBy)
abbrev n_X11_coolsBy : Nat := 153
def k_X11_cool : List mm_I := [(.iconst 0, 0, 0, 1, 0, 1), (.istore_n 2, 0, 0, 2, 1, 1), (.iload_n 2, 0, 0, 3, 2, 1), (.aload_n 0, 0, 0, 4, 3, 1), (.getfield 125, 11, 9, 5, 4, 3), (.if_icmp .ge 33, 22, 0, 6, 7, 3), (.aload_n 0, 0, 0, 7, 10, 1), (.getfield 55, 11, 20, 8, 11, 3), (.iload_n 2, 0, 0, 9, 14, 1), (.aload_n 0, 0, 0, 10, 15, 1), (.iload_n 2, 0, 0, 11, 16, 1), (.invokevirtual 165, 147, 2, 12, 17, 3), (.ifCond .eq 12, 18, 0, 13, 20, 3), (.aload_n 0, 0, 0, 14, 23, 1), (.iload_n 1, 0, 0, 15, 24, 1), (.iload_n 2, 0, 0, 16, 25, 1), (.invokevirtual 184, 153, 3, 17, 26, 3), (.goto 4, 19, 0, 0, 29, 3), (.iconst 0, 0, 0, 19, 32, 1), (.iastore, 0, 0, 20, 33, 1), (.iinc 2 1, 0, 0, 21, 34, 3), (.goto (-35), 2, 0, 0, 37, 3), (.iconst 0, 0, 0, 23, 40, 1), (.istore_n 2, 0, 0, 24, 41, 1), (.iload_n 2, 0, 0, 25, 42, 1), (.aload_n 0, 0, 0, 26, 43, 1), (.getfield 125, 11, 9, 27, 44, 3), (.if_icmp .ge 122, 101, 0, 28, 47, 3), (.aload_n 0, 0, 0, 29, 50, 1), (.getfield 43, 11, 16, 30, 51, 3), (.iload_n 2, 0, 0, 31, 54, 1), (.aload_n 0, 0, 0, 32, 55, 1), (.iload_n 2, 0, 0, 33, 56, 1), (.invokevirtual 165, 147, 2, 34, 57, 3), (.ifCond .eq 23, 47, 0, 35, 60, 3), (.aload_n 0, 0, 0, 36, 63, 1), (.getfield 43, 11, 16, 37, 64, 3), (.iload_n 2, 0, 0, 38, 67, 1), (.iaload, 0, 0, 39, 68, 1), (.aload_n 0, 0, 0, 40, 69, 1), (.getfield 55, 11, 20, 41, 70, 3), (.iload_n 2, 0, 0, 42, 73, 1), (.iaload, 0, 0, 43, 74, 1), (.isub, 0, 0, 44, 75, 1), (.iconst 0, 0, 0, 45, 76, 1), (.invokestatic 181, 119, 2, 46, 77, 3), (.goto 9, 51, 0, 0, 80, 3), (.aload_n 0, 0, 0, 48, 83, 1), (.getfield 43, 11, 16, 49, 84, 3), (.iload_n 2, 0, 0, 50, 87, 1), (.iaload, 0, 0, 51, 88, 1), (.iastore, 0, 0, 52, 89, 1), (.aload_n 0, 0, 0, 53, 90, 1), (.iload_n 2, 0, 0, 54, 91, 1), (.invokevirtual 165, 147, 2, 55, 92, 3), (.ifCond .eq 68, 99, 0, 56, 95, 3), (.aload_n 0, 0, 0, 57, 98, 1), (.getfield 43, 11, 16, 58, 99, 3), (.iload_n 2, 0, 0, 59, 102, 1), (.iaload, 0, 0, 60, 103, 1), (.aload_n 0, 0, 0, 61, 104, 1), (.getfield 34, 11, 11, 62, 105, 3), (.iconst 0, 0, 0, 63, 108, 1), (.iaload, 0, 0, 64, 109, 1), (.if_icmp .gt 53, 99, 0, 65, 110, 3), (.aload_n 0, 0, 0, 66, 113, 1), (.getfield 46, 11, 17, 67, 114, 3), (.iload_n 2, 0, 0, 68, 117, 1), (.iconst 2, 0, 0, 69, 118, 1), (.iastore, 0, 0, 70, 119, 1), (.aload_n 0, 0, 0, 71, 120, 1), (.getfield 52, 11, 19, 72, 121, 3), (.iload_n 2, 0, 0, 73, 124, 1), (.iload_n 1, 0, 0, 74, 125, 1), (.iastore, 0, 0, 75, 126, 1), (.aload_n 0, 0, 0, 76, 127, 1), (.getfield 67, 11, 24, 77, 128, 3), (.iload_n 2, 0, 0, 78, 131, 1), (.dup2, 0, 0, 79, 132, 1), (.iaload, 0, 0, 80, 133, 1), (.iconst 1, 0, 0, 81, 134, 1), (.iadd, 0, 0, 82, 135, 1), (.iastore, 0, 0, 83, 136, 1), (.aload_n 0, 0, 0, 84, 137, 1), (.getfield 64, 11, 23, 85, 138, 3), (.iload_n 2, 0, 0, 86, 141, 1), (.aload_n 0, 0, 0, 87, 142, 1), (.getfield 64, 11, 23, 88, 143, 3), (.iload_n 2, 0, 0, 89, 146, 1), (.iaload, 0, 0, 90, 147, 1), (.iconst (-1), 0, 0, 91, 148, 1), (.if_icmp .ne 7, 94, 0, 92, 149, 3), (.iload_n 1, 0, 0, 93, 152, 1), (.goto 9, 98, 0, 0, 153, 3), (.aload_n 0, 0, 0, 95, 156, 1), (.getfield 64, 11, 23, 96, 157, 3), (.iload_n 2, 0, 0, 97, 160, 1), (.iaload, 0, 0, 98, 161, 1), (.iastore, 0, 0, 99, 162, 1), (.iinc 2 1, 0, 0, 100, 163, 3), (.goto (-124), 24, 0, 0, 166, 3), (.return_, 0, 0, 0, 169, 1)]
def M_X11_cool : mm_M := (0, 3, k_X11_cool)
abbrev n_X11_cool : Nat := 154
set_option maxRecDepth 100000 in
def k_X11_lives : List mm_I := [(.iconst 0, 0, 0, 1, 0, 1), (.istore_n 1, 0, 0, 2, 1, 1), (.iload_n 1, 0, 0, 3, 2, 1), (.aload_n 0, 0, 0, 4, 3, 1), (.getfield 125, 11, 9, 5, 4, 3), (.if_icmp .ge 73, 53, 0, 6, 7, 3), (.aload_n 0, 0, 0, 7, 10, 1), (.getfield 43, 11, 16, 8, 11, 3), (.iload_n 1, 0, 0, 9, 14, 1), (.aload_n 0, 0, 0, 10, 15, 1), (.getfield 31, 11, 10, 11, 16, 3), (.iconst 3, 0, 0, 12, 19, 1), (.iload_n 1, 0, 0, 13, 20, 1), (.imul, 0, 0, 14, 21, 1), (.iconst 1, 0, 0, 15, 22, 1), (.iadd, 0, 0, 16, 23, 1), (.iaload, 0, 0, 17, 24, 1), (.iastore, 0, 0, 18, 25, 1), (.aload_n 0, 0, 0, 19, 26, 1), (.getfield 49, 11, 18, 20, 27, 3), (.iload_n 1, 0, 0, 21, 30, 1), (.aload_n 0, 0, 0, 22, 31, 1), (.getfield 43, 11, 16, 23, 32, 3), (.iload_n 1, 0, 0, 24, 35, 1), (.iaload, 0, 0, 25, 36, 1), (.iastore, 0, 0, 26, 37, 1), (.aload_n 0, 0, 0, 27, 38, 1), (.getfield 46, 11, 17, 28, 39, 3), (.iload_n 1, 0, 0, 29, 42, 1), (.iconst 0, 0, 0, 30, 43, 1), (.iastore, 0, 0, 31, 44, 1), (.aload_n 0, 0, 0, 32, 45, 1), (.getfield 52, 11, 19, 33, 46, 3), (.iload_n 1, 0, 0, 34, 49, 1), (.bipush (-9), 0, 0, 35, 50, 2), (.iastore, 0, 0, 36, 52, 1), (.aload_n 0, 0, 0, 37, 53, 1), (.getfield 64, 11, 23, 38, 54, 3), (.iload_n 1, 0, 0, 39, 57, 1), (.iconst (-1), 0, 0, 40, 58, 1), (.iastore, 0, 0, 41, 59, 1), (.aload_n 0, 0, 0, 42, 60, 1), (.getfield 67, 11, 24, 43, 61, 3), (.iload_n 1, 0, 0, 44, 64, 1), (.iconst 0, 0, 0, 45, 65, 1), (.iastore, 0, 0, 46, 66, 1), (.aload_n 0, 0, 0, 47, 67, 1), (.getfield 70, 11, 25, 48, 68, 3), (.iload_n 1, 0, 0, 49, 71, 1), (.iconst (-1), 0, 0, 50, 72, 1), (.iastore, 0, 0, 51, 73, 1), (.iinc 1 1, 0, 0, 52, 74, 3), (.goto (-75), 2, 0, 0, 77, 3), (.iconst 0, 0, 0, 54, 80, 1), (.istore_n 1, 0, 0, 55, 81, 1), (.iload_n 1, 0, 0, 56, 82, 1), (.bipush 30, 0, 0, 57, 83, 2), (.if_icmp .ge 182, 165, 0, 58, 85, 3), (.iconst 0, 0, 0, 59, 88, 1), (.istore_n 2, 0, 0, 60, 89, 1), (.iload_n 2, 0, 0, 61, 90, 1), (.aload_n 0, 0, 0, 62, 91, 1), (.getfield 125, 11, 9, 63, 92, 3), (.if_icmp .ge 15, 70, 0, 64, 95, 3), (.aload_n 0, 0, 0, 65, 98, 1), (.iload_n 1, 0, 0, 66, 99, 1), (.iload_n 2, 0, 0, 67, 100, 1), (.invokevirtual 187, 149, 3, 68, 101, 3), (.iinc 2 1, 0, 0, 69, 104, 3), (.goto (-17), 60, 0, 0, 107, 3), (.iconst 0, 0, 0, 71, 110, 1), (.istore_n 2, 0, 0, 72, 111, 1), (.iload_n 2, 0, 0, 73, 112, 1), (.aload_n 0, 0, 0, 74, 113, 1), (.getfield 125, 11, 9, 75, 114, 3), (.if_icmp .ge 79, 122, 0, 76, 117, 3), (.aload_n 0, 0, 0, 77, 120, 1), (.getfield 46, 11, 17, 78, 121, 3), (.iload_n 2, 0, 0, 79, 124, 1), (.iaload, 0, 0, 80, 125, 1), (.ifCond .ne 42, 106, 0, 81, 126, 3), (.aload_n 0, 0, 0, 82, 129, 1), (.getfield 31, 11, 10, 83, 130, 3), (.iconst 3, 0, 0, 84, 133, 1), (.iload_n 2, 0, 0, 85, 134, 1), (.imul, 0, 0, 86, 135, 1), (.iconst 2, 0, 0, 87, 136, 1), (.iadd, 0, 0, 88, 137, 1), (.iaload, 0, 0, 89, 138, 1), (.aload_n 0, 0, 0, 90, 139, 1), (.getfield 122, 11, 7, 91, 140, 3), (.if_icmp .ge 25, 106, 0, 92, 143, 3), (.aload_n 0, 0, 0, 93, 146, 1), (.aload_n 0, 0, 0, 94, 147, 1), (.getfield 31, 11, 10, 95, 148, 3), (.iconst 3, 0, 0, 96, 151, 1), (.iload_n 2, 0, 0, 97, 152, 1), (.imul, 0, 0, 98, 153, 1), (.iconst 2, 0, 0, 99, 154, 1), (.iadd, 0, 0, 100, 155, 1), (.iaload, 0, 0, 101, 156, 1), (.invokevirtual 168, 148, 2, 102, 157, 3), (.iconst (-1), 0, 0, 103, 160, 1), (.if_icmp .ne 7, 106, 0, 104, 161, 3), (.iconst 1, 0, 0, 105, 164, 1), (.goto 4, 107, 0, 0, 165, 3), (.iconst 0, 0, 0, 107, 168, 1), (.istore_n 3, 0, 0, 108, 169, 1), (.aload_n 0, 0, 0, 109, 170, 1), (.getfield 46, 11, 17, 110, 171, 3), (.iload_n 2, 0, 0, 111, 174, 1), (.iload_n 3, 0, 0, 112, 175, 1), (.ifCond .eq 7, 115, 0, 113, 176, 3), (.iconst 1, 0, 0, 114, 179, 1), (.goto 9, 119, 0, 0, 180, 3), (.aload_n 0, 0, 0, 116, 183, 1), (.getfield 46, 11, 17, 117, 184, 3), (.iload_n 2, 0, 0, 118, 187, 1), (.iaload, 0, 0, 119, 188, 1), (.iastore, 0, 0, 120, 189, 1), (.iinc 2 1, 0, 0, 121, 190, 3), (.goto (-81), 72, 0, 0, 193, 3), (.aload_n 0, 0, 0, 123, 196, 1), (.iload_n 1, 0, 0, 124, 197, 1), (.invokevirtual 191, 150, 2, 125, 198, 3), (.aload_n 0, 0, 0, 126, 201, 1), (.iload_n 1, 0, 0, 127, 202, 1), (.invokevirtual 195, 151, 2, 128, 203, 3), (.aload_n 0, 0, 0, 129, 206, 1), (.iload_n 1, 0, 0, 130, 207, 1), (.invokevirtual 198, 154, 2, 131, 208, 3), (.iconst 0, 0, 0, 132, 211, 1), (.istore_n 2, 0, 0, 133, 212, 1), (.iload_n 2, 0, 0, 134, 213, 1), (.aload_n 0, 0, 0, 135, 214, 1), (.getfield 125, 11, 9, 136, 215, 3), (.if_icmp .ge 43, 163, 0, 137, 218, 3), (.aload_n 0, 0, 0, 138, 221, 1), (.getfield 58, 11, 21, 139, 222, 3), (.bipush 8, 0, 0, 140, 225, 2), (.iload_n 1, 0, 0, 141, 227, 1), (.imul, 0, 0, 142, 228, 1), (.iload_n 2, 0, 0, 143, 229, 1), (.iadd, 0, 0, 144, 230, 1), (.aload_n 0, 0, 0, 145, 231, 1), (.getfield 43, 11, 16, 146, 232, 3), (.iload_n 2, 0, 0, 147, 235, 1), (.iaload, 0, 0, 148, 236, 1), (.iastore, 0, 0, 149, 237, 1), (.aload_n 0, 0, 0, 150, 238, 1), (.getfield 61, 11, 22, 151, 239, 3), (.bipush 8, 0, 0, 152, 242, 2), (.iload_n 1, 0, 0, 153, 244, 1), (.imul, 0, 0, 154, 245, 1), (.iload_n 2, 0, 0, 155, 246, 1), (.iadd, 0, 0, 156, 247, 1), (.aload_n 0, 0, 0, 157, 248, 1), (.getfield 46, 11, 17, 158, 249, 3), (.iload_n 2, 0, 0, 159, 252, 1), (.iaload, 0, 0, 160, 253, 1), (.iastore, 0, 0, 161, 254, 1), (.iinc 2 1, 0, 0, 162, 255, 3), (.goto (-45), 133, 0, 0, 258, 3), (.iinc 1 1, 0, 0, 164, 261, 3), (.goto (-182), 55, 0, 0, 264, 3), (.return_, 0, 0, 0, 267, 1)]
def M_X11_lives : mm_M := (0, 4, k_X11_lives)
abbrev n_X11_lives : Nat := 155
def k_X11_find : List mm_I := [(.aload_n 0, 0, 0, 1, 0, 1), (.invokevirtual 131, 135, 1, 2, 1, 3), (.pop, 0, 0, 3, 4, 1), (.aload_n 0, 0, 0, 4, 5, 1), (.invokevirtual 135, 136, 1, 5, 6, 3), (.pop, 0, 0, 6, 9, 1), (.aload_n 0, 0, 0, 7, 10, 1), (.invokevirtual 201, 155, 1, 8, 11, 3), (.return_, 0, 0, 0, 14, 1)]
def M_X11_find : mm_M := (0, 1, k_X11_find)
abbrev n_X11_find : Nat := 156
def k_X11_heat : List mm_I := [(.aload_n 0, 0, 0, 1, 0, 1), (.invokevirtual 204, 156, 1, 2, 1, 3), (.iload_n 1, 0, 0, 3, 4, 1), (.invokestatic 149, 139, 1, 4, 5, 3), (.ifCond .eq 25, 18, 0, 5, 8, 3), (.aload_n 0, 0, 0, 6, 11, 1), (.iload_n 2, 0, 0, 7, 12, 1), (.invokevirtual 140, 138, 2, 8, 13, 3), (.ifCond .eq 17, 18, 0, 9, 16, 3), (.aload_n 0, 0, 0, 10, 19, 1), (.getfield 58, 11, 21, 11, 20, 3), (.bipush 8, 0, 0, 12, 23, 2), (.iload_n 1, 0, 0, 13, 25, 1), (.imul, 0, 0, 14, 26, 1), (.iload_n 2, 0, 0, 15, 27, 1), (.iadd, 0, 0, 16, 28, 1), (.iaload, 0, 0, 17, 29, 1), (.goto 5, 19, 0, 0, 30, 3), (.bipush (-2), 0, 0, 19, 33, 2), (.ireturn, 0, 0, 0, 35, 1)]
def M_X11_heat : mm_M := (1, 3, k_X11_heat)
abbrev n_X11_heat : Nat := 157
def k_X11_state : List mm_I := [(.aload_n 0, 0, 0, 1, 0, 1), (.invokevirtual 204, 156, 1, 2, 1, 3), (.iload_n 1, 0, 0, 3, 4, 1), (.invokestatic 149, 139, 1, 4, 5, 3), (.ifCond .eq 25, 18, 0, 5, 8, 3), (.aload_n 0, 0, 0, 6, 11, 1), (.iload_n 2, 0, 0, 7, 12, 1), (.invokevirtual 140, 138, 2, 8, 13, 3), (.ifCond .eq 17, 18, 0, 9, 16, 3), (.aload_n 0, 0, 0, 10, 19, 1), (.getfield 61, 11, 22, 11, 20, 3), (.bipush 8, 0, 0, 12, 23, 2), (.iload_n 1, 0, 0, 13, 25, 1), (.imul, 0, 0, 14, 26, 1), (.iload_n 2, 0, 0, 15, 27, 1), (.iadd, 0, 0, 16, 28, 1), (.iaload, 0, 0, 17, 29, 1), (.goto 5, 19, 0, 0, 30, 3), (.bipush (-2), 0, 0, 19, 33, 2), (.ireturn, 0, 0, 0, 35, 1)]
def M_X11_state : mm_M := (1, 3, k_X11_state)
abbrev n_X11_state : Nat := 158
def k_X11_heldBy : List mm_I := [(.iconst 0, 0, 0, 1, 0, 1), (.istore_n 2, 0, 0, 2, 1, 1), (.iconst 0, 0, 0, 3, 2, 1), (.istore_n 3, 0, 0, 4, 3, 1), (.iload_n 3, 0, 0, 5, 4, 1), (.aload_n 0, 0, 0, 6, 5, 1), (.getfield 125, 11, 9, 7, 6, 3), (.if_icmp .ge 43, 35, 0, 8, 9, 3), (.iload_n 2, 0, 0, 9, 12, 1), (.aload_n 0, 0, 0, 10, 13, 1), (.getfield 61, 11, 22, 11, 14, 3), (.bipush 8, 0, 0, 12, 17, 2), (.iload_n 1, 0, 0, 13, 19, 1), (.imul, 0, 0, 14, 20, 1), (.iload_n 3, 0, 0, 15, 21, 1), (.iadd, 0, 0, 16, 22, 1), (.iaload, 0, 0, 17, 23, 1), (.iconst 1, 0, 0, 18, 24, 1), (.if_icmp .ne 18, 30, 0, 19, 25, 3), (.iconst 1, 0, 0, 20, 28, 1), (.aload_n 0, 0, 0, 21, 29, 1), (.getfield 31, 11, 10, 22, 30, 3), (.iconst 3, 0, 0, 23, 33, 1), (.iload_n 3, 0, 0, 24, 34, 1), (.imul, 0, 0, 25, 35, 1), (.iconst 2, 0, 0, 26, 36, 1), (.iadd, 0, 0, 27, 37, 1), (.iaload, 0, 0, 28, 38, 1), (.ishl, 0, 0, 29, 39, 1), (.goto 4, 31, 0, 0, 40, 3), (.iconst 0, 0, 0, 31, 43, 1), (.ior, 0, 0, 32, 44, 1), (.istore_n 2, 0, 0, 33, 45, 1), (.iinc 3 1, 0, 0, 34, 46, 3), (.goto (-45), 4, 0, 0, 49, 3), (.iload_n 2, 0, 0, 36, 52, 1), (.ireturn, 0, 0, 0, 53, 1)]
def M_X11_heldBy : mm_M := (1, 4, k_X11_heldBy)
abbrev n_X11_heldBy : Nat := 159
def k_X11_held : List mm_I := [(.aload_n 0, 0, 0, 1, 0, 1), (.invokevirtual 204, 156, 1, 2, 1, 3), (.iload_n 1, 0, 0, 3, 4, 1), (.invokestatic 149, 139, 1, 4, 5, 3), (.ifCond .eq 11, 9, 0, 5, 8, 3), (.aload_n 0, 0, 0, 6, 11, 1), (.iload_n 1, 0, 0, 7, 12, 1), (.invokevirtual 207, 159, 2, 8, 13, 3), (.goto 5, 10, 0, 0, 16, 3), (.bipush (-2), 0, 0, 10, 19, 2), (.ireturn, 0, 0, 0, 21, 1)]
def M_X11_held : mm_M := (1, 2, k_X11_held)
abbrev n_X11_held : Nat := 160
def k_X11_freedBy : List mm_I := [(.iload_n 2, 0, 0, 1, 0, 1), (.ifCond .ne 12, 7, 0, 2, 1, 3), (.aload_n 0, 0, 0, 3, 4, 1), (.getfield 64, 11, 23, 4, 5, 3), (.iload_n 1, 0, 0, 5, 8, 1), (.iaload, 0, 0, 6, 9, 1), (.goto 9, 11, 0, 0, 10, 3), (.aload_n 0, 0, 0, 8, 13, 1), (.getfield 67, 11, 24, 9, 14, 3), (.iload_n 1, 0, 0, 10, 17, 1), (.iaload, 0, 0, 11, 18, 1), (.ireturn, 0, 0, 0, 19, 1)]
def M_X11_freedBy : mm_M := (1, 3, k_X11_freedBy)
abbrev n_X11_freedBy : Nat := 161
def k_X11_freed : List mm_I := [(.aload_n 0, 0, 0, 1, 0, 1), (.invokevirtual 204, 156, 1, 2, 1, 3), (.aload_n 0, 0, 0, 3, 4, 1), (.iload_n 1, 0, 0, 4, 5, 1), (.invokevirtual 140, 138, 2, 5, 6, 3), (.ifCond .eq 19, 14, 0, 6, 9, 3), (.iload_n 2, 0, 0, 7, 12, 1), (.invokestatic 110, 116, 1, 8, 13, 3), (.ifCond .eq 12, 14, 0, 9, 16, 3), (.aload_n 0, 0, 0, 10, 19, 1), (.iload_n 1, 0, 0, 11, 20, 1), (.iload_n 2, 0, 0, 12, 21, 1), (.invokevirtual 210, 161, 3, 13, 22, 3), (.goto 5, 15, 0, 0, 25, 3), (.bipush (-2), 0, 0, 15, 28, 2), (.ireturn, 0, 0, 0, 30, 1)]
def M_X11_freed : mm_M := (1, 3, k_X11_freed)
abbrev n_X11_freed : Nat := 162
def k_X11_spoiltNow : List mm_I := [(.iconst 0, 0, 0, 1, 0, 1), (.istore_n 1, 0, 0, 2, 1, 1), (.iconst 0, 0, 0, 3, 2, 1), (.istore_n 2, 0, 0, 4, 3, 1), (.iload_n 2, 0, 0, 5, 4, 1), (.aload_n 0, 0, 0, 6, 5, 1), (.getfield 125, 11, 9, 7, 6, 3), (.if_icmp .ge 29, 24, 0, 8, 9, 3), (.iload_n 1, 0, 0, 9, 12, 1), (.aload_n 0, 0, 0, 10, 13, 1), (.getfield 46, 11, 17, 11, 14, 3), (.iload_n 2, 0, 0, 12, 17, 1), (.iaload, 0, 0, 13, 18, 1), (.iconst 3, 0, 0, 14, 19, 1), (.if_icmp .ne 9, 19, 0, 15, 20, 3), (.iconst 1, 0, 0, 16, 23, 1), (.iload_n 2, 0, 0, 17, 24, 1), (.ishl, 0, 0, 18, 25, 1), (.goto 4, 20, 0, 0, 26, 3), (.iconst 0, 0, 0, 20, 29, 1), (.ior, 0, 0, 21, 30, 1), (.istore_n 1, 0, 0, 22, 31, 1), (.iinc 2 1, 0, 0, 23, 32, 3), (.goto (-31), 4, 0, 0, 35, 3), (.iload_n 1, 0, 0, 25, 38, 1), (.ireturn, 0, 0, 0, 39, 1)]
def M_X11_spoiltNow : mm_M := (1, 3, k_X11_spoiltNow)
abbrev n_X11_spoiltNow : Nat := 163
def k_X11_spoilt : List mm_I := [(.aload_n 0, 0, 0, 1, 0, 1), (.invokevirtual 204, 156, 1, 2, 1, 3), (.aload_n 0, 0, 0, 3, 4, 1), (.invokevirtual 213, 163, 1, 4, 5, 3), (.ireturn, 0, 0, 0, 8, 1)]
def M_X11_spoilt : mm_M := (1, 1, k_X11_spoilt)
abbrev n_X11_spoilt : Nat := 164
def k_X11_here : List mm_I := [(.iconst 0, 0, 0, 1, 0, 1), (.istore_n 2, 0, 0, 2, 1, 1), (.iconst 0, 0, 0, 3, 2, 1), (.istore_n 3, 0, 0, 4, 3, 1), (.iload_n 3, 0, 0, 5, 4, 1), (.aload_n 0, 0, 0, 6, 5, 1), (.getfield 125, 11, 9, 7, 6, 3), (.if_icmp .ge 32, 26, 0, 8, 9, 3), (.iload_n 2, 0, 0, 9, 12, 1), (.aload_n 0, 0, 0, 10, 13, 1), (.getfield 61, 11, 22, 11, 14, 3), (.bipush 8, 0, 0, 12, 17, 2), (.iload_n 1, 0, 0, 13, 19, 1), (.imul, 0, 0, 14, 20, 1), (.iload_n 3, 0, 0, 15, 21, 1), (.iadd, 0, 0, 16, 22, 1), (.iaload, 0, 0, 17, 23, 1), (.iconst 2, 0, 0, 18, 24, 1), (.if_icmp .ge 7, 21, 0, 19, 25, 3), (.iconst 1, 0, 0, 20, 28, 1), (.goto 4, 22, 0, 0, 29, 3), (.iconst 0, 0, 0, 22, 32, 1), (.iadd, 0, 0, 23, 33, 1), (.istore_n 2, 0, 0, 24, 34, 1), (.iinc 3 1, 0, 0, 25, 35, 3), (.goto (-34), 4, 0, 0, 38, 3), (.iload_n 2, 0, 0, 27, 41, 1), (.ireturn, 0, 0, 0, 42, 1)]
def M_X11_here : mm_M := (1, 4, k_X11_here)
abbrev n_X11_here : Nat := 165
def k_X11_quietNow : List mm_I := [(.iconst 0, 0, 0, 1, 0, 1), (.istore_n 1, 0, 0, 2, 1, 1), (.iload_n 1, 0, 0, 3, 2, 1), (.bipush 30, 0, 0, 4, 3, 2), (.if_icmp .ge 19, 13, 0, 5, 5, 3), (.aload_n 0, 0, 0, 6, 8, 1), (.iload_n 1, 0, 0, 7, 9, 1), (.invokevirtual 216, 165, 2, 8, 10, 3), (.ifCond .ne 5, 11, 0, 9, 13, 3), (.iload_n 1, 0, 0, 10, 16, 1), (.ireturn, 0, 0, 0, 17, 1), (.iinc 1 1, 0, 0, 12, 18, 3), (.goto (-19), 2, 0, 0, 21, 3), (.iconst (-1), 0, 0, 14, 24, 1), (.ireturn, 0, 0, 0, 25, 1)]
def M_X11_quietNow : mm_M := (1, 2, k_X11_quietNow)
abbrev n_X11_quietNow : Nat := 166
def k_X11_quiet : List mm_I := [(.aload_n 0, 0, 0, 1, 0, 1), (.invokevirtual 204, 156, 1, 2, 1, 3), (.aload_n 0, 0, 0, 3, 4, 1), (.invokevirtual 219, 166, 1, 4, 5, 3), (.ireturn, 0, 0, 0, 8, 1)]
def M_X11_quiet : mm_M := (1, 1, k_X11_quiet)
abbrev n_X11_quiet : Nat := 167
def k_X11_crowdBy : List mm_I := [(.iconst 0, 0, 0, 1, 0, 1), (.istore_n 2, 0, 0, 2, 1, 1), (.iload_n 2, 0, 0, 3, 2, 1), (.bipush 30, 0, 0, 4, 3, 2), (.if_icmp .ge 49, 30, 0, 5, 5, 3), (.iconst 0, 0, 0, 6, 8, 1), (.istore_n 3, 0, 0, 7, 9, 1), (.iload_n 3, 0, 0, 8, 10, 1), (.aload_n 0, 0, 0, 9, 11, 1), (.getfield 125, 11, 9, 10, 12, 3), (.if_icmp .ge 33, 28, 0, 11, 15, 3), (.aload_n 0, 0, 0, 12, 18, 1), (.getfield 61, 11, 22, 13, 19, 3), (.bipush 8, 0, 0, 14, 22, 2), (.iload_n 2, 0, 0, 15, 24, 1), (.imul, 0, 0, 16, 25, 1), (.iload_n 3, 0, 0, 17, 26, 1), (.iadd, 0, 0, 18, 27, 1), (.iaload, 0, 0, 19, 28, 1), (.ifCond .ne 13, 26, 0, 20, 29, 3), (.iload_n 1, 0, 0, 21, 32, 1), (.ifCond .ne 7, 24, 0, 22, 33, 3), (.iload_n 2, 0, 0, 23, 36, 1), (.goto 4, 25, 0, 0, 37, 3), (.iload_n 3, 0, 0, 25, 40, 1), (.ireturn, 0, 0, 0, 41, 1), (.iinc 3 1, 0, 0, 27, 42, 3), (.goto (-35), 7, 0, 0, 45, 3), (.iinc 2 1, 0, 0, 29, 48, 3), (.goto (-49), 2, 0, 0, 51, 3), (.iconst (-1), 0, 0, 31, 54, 1), (.ireturn, 0, 0, 0, 55, 1)]
def M_X11_crowdBy : mm_M := (1, 4, k_X11_crowdBy)
abbrev n_X11_crowdBy : Nat := 168
def k_X11_crowd : List mm_I := [(.aload_n 0, 0, 0, 1, 0, 1), (.invokevirtual 204, 156, 1, 2, 1, 3), (.iload_n 1, 0, 0, 3, 4, 1), (.invokestatic 110, 116, 1, 4, 5, 3), (.ifCond .eq 11, 9, 0, 5, 8, 3), (.aload_n 0, 0, 0, 6, 11, 1), (.iload_n 1, 0, 0, 7, 12, 1), (.invokevirtual 222, 168, 2, 8, 13, 3), (.goto 5, 10, 0, 0, 16, 3), (.bipush (-2), 0, 0, 10, 19, 2), (.ireturn, 0, 0, 0, 21, 1)]
def M_X11_crowd : mm_M := (1, 2, k_X11_crowd)
abbrev n_X11_crowd : Nat := 169
def k_X11_moveOf : List mm_I := [(.aload_n 0, 0, 0, 1, 0, 1), (.getfield 31, 11, 10, 2, 1, 3), (.iconst 3, 0, 0, 3, 4, 1), (.iload_n 1, 0, 0, 4, 5, 1), (.imul, 0, 0, 5, 6, 1), (.iconst 2, 0, 0, 6, 7, 1), (.iadd, 0, 0, 7, 8, 1), (.iaload, 0, 0, 8, 9, 1), (.istore_n 3, 0, 0, 9, 10, 1), (.iconst (-1), 0, 0, 10, 11, 1), (.istore 4, 0, 0, 11, 12, 2), (.iconst (-1), 0, 0, 12, 14, 1), (.istore 5, 0, 0, 13, 15, 2), (.iconst 0, 0, 0, 14, 17, 1), (.istore 6, 0, 0, 15, 18, 2), (.iload 6, 0, 0, 16, 20, 2), (.aload_n 0, 0, 0, 17, 22, 1), (.getfield 122, 11, 7, 18, 23, 3), (.if_icmp .ge 91, 66, 0, 19, 26, 3), (.aload_n 0, 0, 0, 20, 29, 1), (.getfield 31, 11, 10, 21, 30, 3), (.iconst 3, 0, 0, 22, 33, 1), (.iload_n 1, 0, 0, 23, 34, 1), (.imul, 0, 0, 24, 35, 1), (.iconst 2, 0, 0, 25, 36, 1), (.iadd, 0, 0, 26, 37, 1), (.iload 6, 0, 0, 27, 38, 2), (.iastore, 0, 0, 28, 40, 1), (.aload_n 0, 0, 0, 29, 41, 1), (.invokevirtual 201, 155, 1, 30, 42, 3), (.aload_n 0, 0, 0, 31, 45, 1), (.getfield 64, 11, 23, 32, 46, 3), (.iload_n 1, 0, 0, 33, 49, 1), (.iaload, 0, 0, 34, 50, 1), (.iconst (-1), 0, 0, 35, 51, 1), (.if_icmp .eq 24, 47, 0, 36, 52, 3), (.iload 4, 0, 0, 37, 55, 2), (.iconst (-1), 0, 0, 38, 57, 1), (.if_icmp .eq 14, 45, 0, 39, 58, 3), (.aload_n 0, 0, 0, 40, 61, 1), (.getfield 64, 11, 23, 41, 62, 3), (.iload_n 1, 0, 0, 42, 65, 1), (.iaload, 0, 0, 43, 66, 1), (.iload 5, 0, 0, 44, 67, 2), (.if_icmp .ge 7, 47, 0, 45, 69, 3), (.iconst 1, 0, 0, 46, 72, 1), (.goto 4, 48, 0, 0, 73, 3), (.iconst 0, 0, 0, 48, 76, 1), (.istore 7, 0, 0, 49, 77, 2), (.iload 7, 0, 0, 50, 79, 2), (.ifCond .eq 8, 53, 0, 51, 81, 3), (.iload 6, 0, 0, 52, 84, 2), (.goto 5, 54, 0, 0, 86, 3), (.iload 4, 0, 0, 54, 89, 2), (.istore 4, 0, 0, 55, 91, 2), (.iload 7, 0, 0, 56, 93, 2), (.ifCond .eq 12, 62, 0, 57, 95, 3), (.aload_n 0, 0, 0, 58, 98, 1), (.getfield 64, 11, 23, 59, 99, 3), (.iload_n 1, 0, 0, 60, 102, 1), (.iaload, 0, 0, 61, 103, 1), (.goto 5, 63, 0, 0, 104, 3), (.iload 5, 0, 0, 63, 107, 2), (.istore 5, 0, 0, 64, 109, 2), (.iinc 6 1, 0, 0, 65, 111, 3), (.goto (-94), 15, 0, 0, 114, 3), (.aload_n 0, 0, 0, 67, 117, 1), (.getfield 31, 11, 10, 68, 118, 3), (.iconst 3, 0, 0, 69, 121, 1), (.iload_n 1, 0, 0, 70, 122, 1), (.imul, 0, 0, 71, 123, 1), (.iconst 2, 0, 0, 72, 124, 1), (.iadd, 0, 0, 73, 125, 1), (.iload_n 3, 0, 0, 74, 126, 1), (.iastore, 0, 0, 75, 127, 1), (.iload_n 2, 0, 0, 76, 128, 1), (.ifCond .ne 8, 79, 0, 77, 129, 3), (.iload 4, 0, 0, 78, 132, 2), (.goto 5, 80, 0, 0, 134, 3), (.iload 5, 0, 0, 80, 137, 2), (.ireturn, 0, 0, 0, 139, 1)]
def M_X11_moveOf : mm_M := (1, 8, k_X11_moveOf)
abbrev n_X11_moveOf : Nat := 170
def k_X11_move : List mm_I := [(.aload_n 0, 0, 0, 1, 0, 1), (.invokevirtual 204, 156, 1, 2, 1, 3), (.aload_n 0, 0, 0, 3, 4, 1), (.iload_n 1, 0, 0, 4, 5, 1), (.invokevirtual 140, 138, 2, 5, 6, 3), (.ifCond .eq 19, 14, 0, 6, 9, 3), (.iload_n 2, 0, 0, 7, 12, 1), (.invokestatic 110, 116, 1, 8, 13, 3), (.ifCond .eq 12, 14, 0, 9, 16, 3), (.aload_n 0, 0, 0, 10, 19, 1), (.iload_n 1, 0, 0, 11, 20, 1), (.iload_n 2, 0, 0, 12, 21, 1), (.invokevirtual 225, 170, 3, 13, 22, 3), (.goto 5, 15, 0, 0, 25, 3), (.bipush (-2), 0, 0, 15, 28, 2), (.ireturn, 0, 0, 0, 30, 1)]
def M_X11_move : mm_M := (1, 3, k_X11_move)
abbrev n_X11_move : Nat := 171
def k_X11_allHere : List mm_I := [(.iconst 0, 0, 0, 1, 0, 1), (.istore_n 1, 0, 0, 2, 1, 1), (.iconst 0, 0, 0, 3, 2, 1), (.istore_n 2, 0, 0, 4, 3, 1), (.iload_n 2, 0, 0, 5, 4, 1), (.bipush 30, 0, 0, 6, 5, 2), (.if_icmp .ge 17, 15, 0, 7, 7, 3), (.iload_n 1, 0, 0, 8, 10, 1), (.aload_n 0, 0, 0, 9, 11, 1), (.iload_n 2, 0, 0, 10, 12, 1), (.invokevirtual 216, 165, 2, 11, 13, 3), (.iadd, 0, 0, 12, 16, 1), (.istore_n 1, 0, 0, 13, 17, 1), (.iinc 2 1, 0, 0, 14, 18, 3), (.goto (-17), 4, 0, 0, 21, 3), (.iload_n 1, 0, 0, 16, 24, 1), (.ireturn, 0, 0, 0, 25, 1)]
def M_X11_allHere : mm_M := (1, 3, k_X11_allHere)
abbrev n_X11_allHere : Nat := 172
def k_X11_changes : List mm_I := [(.aload_n 0, 0, 0, 1, 0, 1), (.getfield 31, 11, 10, 2, 1, 3), (.iconst 3, 0, 0, 3, 4, 1), (.iload_n 1, 0, 0, 4, 5, 1), (.imul, 0, 0, 5, 6, 1), (.iconst 2, 0, 0, 6, 7, 1), (.iadd, 0, 0, 7, 8, 1), (.iaload, 0, 0, 8, 9, 1), (.istore_n 3, 0, 0, 9, 10, 1), (.aload_n 0, 0, 0, 10, 11, 1), (.getfield 31, 11, 10, 11, 12, 3), (.iconst 3, 0, 0, 12, 15, 1), (.iload_n 1, 0, 0, 13, 16, 1), (.imul, 0, 0, 14, 17, 1), (.iconst 2, 0, 0, 15, 18, 1), (.iadd, 0, 0, 16, 19, 1), (.aload_n 0, 0, 0, 17, 20, 1), (.getfield 31, 11, 10, 18, 21, 3), (.iconst 3, 0, 0, 19, 24, 1), (.iload_n 2, 0, 0, 20, 25, 1), (.imul, 0, 0, 21, 26, 1), (.iconst 2, 0, 0, 22, 27, 1), (.iadd, 0, 0, 23, 28, 1), (.iaload, 0, 0, 24, 29, 1), (.iastore, 0, 0, 25, 30, 1), (.aload_n 0, 0, 0, 26, 31, 1), (.getfield 31, 11, 10, 27, 32, 3), (.iconst 3, 0, 0, 28, 35, 1), (.iload_n 2, 0, 0, 29, 36, 1), (.imul, 0, 0, 30, 37, 1), (.iconst 2, 0, 0, 31, 38, 1), (.iadd, 0, 0, 32, 39, 1), (.iload_n 3, 0, 0, 33, 40, 1), (.iastore, 0, 0, 34, 41, 1), (.return_, 0, 0, 0, 42, 1)]
def M_X11_changes : mm_M := (0, 4, k_X11_changes)
abbrev n_X11_changes : Nat := 173
def k_X11_swapBy : List mm_I := [(.aload_n 0, 0, 0, 1, 0, 1), (.invokevirtual 201, 155, 1, 2, 1, 3), (.iconst (-1), 0, 0, 3, 4, 1), (.istore_n 2, 0, 0, 4, 5, 1), (.aload_n 0, 0, 0, 5, 6, 1), (.invokevirtual 228, 172, 1, 6, 7, 3), (.istore_n 3, 0, 0, 7, 10, 1), (.iconst 0, 0, 0, 8, 11, 1), (.istore 4, 0, 0, 9, 12, 2), (.iload 4, 0, 0, 10, 14, 2), (.bipush 64, 0, 0, 11, 16, 2), (.if_icmp .ge 85, 53, 0, 12, 18, 3), (.iload 4, 0, 0, 13, 21, 2), (.bipush 8, 0, 0, 14, 23, 2), (.idiv, 0, 0, 15, 25, 1), (.istore 5, 0, 0, 16, 26, 2), (.iload 4, 0, 0, 17, 28, 2), (.bipush 8, 0, 0, 18, 30, 2), (.irem, 0, 0, 19, 32, 1), (.istore 6, 0, 0, 20, 33, 2), (.iload 5, 0, 0, 21, 35, 2), (.iload 6, 0, 0, 22, 37, 2), (.if_icmp .ge 58, 51, 0, 23, 39, 3), (.iload 6, 0, 0, 24, 42, 2), (.aload_n 0, 0, 0, 25, 44, 1), (.getfield 125, 11, 9, 26, 45, 3), (.if_icmp .ge 49, 51, 0, 27, 48, 3), (.aload_n 0, 0, 0, 28, 51, 1), (.iload 5, 0, 0, 29, 52, 2), (.iload 6, 0, 0, 30, 54, 2), (.invokevirtual 231, 173, 3, 31, 56, 3), (.aload_n 0, 0, 0, 32, 59, 1), (.invokevirtual 201, 155, 1, 33, 60, 3), (.aload_n 0, 0, 0, 34, 63, 1), (.invokevirtual 228, 172, 1, 35, 64, 3), (.istore 7, 0, 0, 36, 67, 2), (.iload 7, 0, 0, 37, 69, 2), (.iload_n 3, 0, 0, 38, 71, 1), (.if_icmp .ge 8, 41, 0, 39, 72, 3), (.iload 4, 0, 0, 40, 75, 2), (.goto 4, 42, 0, 0, 77, 3), (.iload_n 2, 0, 0, 42, 80, 1), (.istore_n 2, 0, 0, 43, 81, 1), (.iload 7, 0, 0, 44, 82, 2), (.iload_n 3, 0, 0, 45, 84, 1), (.invokestatic 162, 118, 2, 46, 85, 3), (.istore_n 3, 0, 0, 47, 88, 1), (.aload_n 0, 0, 0, 48, 89, 1), (.iload 5, 0, 0, 49, 90, 2), (.iload 6, 0, 0, 50, 92, 2), (.invokevirtual 231, 173, 3, 51, 94, 3), (.iinc 4 1, 0, 0, 52, 97, 3), (.goto (-86), 9, 0, 0, 100, 3), (.iload_n 2, 0, 0, 54, 103, 1), (.iconst (-1), 0, 0, 55, 104, 1), (.if_icmp .ne 7, 58, 0, 56, 105, 3), (.iconst (-1), 0, 0, 57, 108, 1), (.goto 27, 72, 0, 0, 109, 3), (.iload_n 1, 0, 0, 59, 112, 1), (.ifCond .ne 10, 64, 0, 60, 113, 3), (.iload_n 2, 0, 0, 61, 116, 1), (.bipush 8, 0, 0, 62, 117, 2), (.idiv, 0, 0, 63, 119, 1), (.goto 16, 72, 0, 0, 120, 3), (.iload_n 1, 0, 0, 65, 123, 1), (.iconst 1, 0, 0, 66, 124, 1), (.if_icmp .ne 10, 71, 0, 67, 125, 3), (.iload_n 2, 0, 0, 68, 128, 1), (.bipush 8, 0, 0, 69, 129, 2), (.irem, 0, 0, 70, 131, 1), (.goto 4, 72, 0, 0, 132, 3), (.iload_n 3, 0, 0, 72, 135, 1), (.ireturn, 0, 0, 0, 136, 1)]
def M_X11_swapBy : mm_M := (1, 8, k_X11_swapBy)
abbrev n_X11_swapBy : Nat := 174
def k_X11_swap : List mm_I := [(.aload_n 0, 0, 0, 1, 0, 1), (.invokevirtual 204, 156, 1, 2, 1, 3), (.iload_n 1, 0, 0, 3, 4, 1), (.i2l, 0, 0, 4, 5, 1), (.lconst 0, 0, 0, 5, 6, 1), (.ldc2_w 95, 2, 0, 6, 7, 3), (.invokestatic 81, 114, 3, 7, 10, 3), (.ifCond .eq 11, 12, 0, 8, 13, 3), (.aload_n 0, 0, 0, 9, 16, 1), (.iload_n 1, 0, 0, 10, 17, 1), (.invokevirtual 234, 174, 2, 11, 18, 3), (.goto 5, 13, 0, 0, 21, 3), (.bipush (-2), 0, 0, 13, 24, 2), (.ireturn, 0, 0, 0, 26, 1)]
def M_X11_swap : mm_M := (1, 2, k_X11_swap)
abbrev n_X11_swap : Nat := 175
def k_X11_line : List mm_I := [(.aload_n 0, 0, 0, 1, 0, 1), (.invokevirtual 204, 156, 1, 2, 1, 3), (.aload_n 0, 0, 0, 3, 4, 1), (.iload_n 1, 0, 0, 4, 5, 1), (.invokevirtual 140, 138, 2, 5, 6, 3), (.ifCond .eq 12, 11, 0, 6, 9, 3), (.aload_n 0, 0, 0, 7, 12, 1), (.getfield 70, 11, 25, 8, 13, 3), (.iload_n 1, 0, 0, 9, 16, 1), (.iaload, 0, 0, 10, 17, 1), (.goto 5, 12, 0, 0, 18, 3), (.bipush (-2), 0, 0, 12, 21, 2), (.ireturn, 0, 0, 0, 23, 1)]
def M_X11_line : mm_M := (1, 2, k_X11_line)
abbrev n_X11_line : Nat := 176
def k_X11_bearNow : List mm_I := [(.aload_n 0, 0, 0, 1, 0, 1), (.getfield 34, 11, 11, 2, 1, 3), (.iconst 1, 0, 0, 3, 4, 1), (.iaload, 0, 0, 4, 5, 1), (.istore_n 1, 0, 0, 5, 6, 1), (.iconst (-1), 0, 0, 6, 7, 1), (.istore_n 2, 0, 0, 7, 8, 1), (.iconst 0, 0, 0, 8, 9, 1), (.istore_n 3, 0, 0, 9, 10, 1), (.iload_n 3, 0, 0, 10, 11, 1), (.bipush 10, 0, 0, 11, 12, 2), (.if_icmp .ge 35, 29, 0, 12, 14, 3), (.aload_n 0, 0, 0, 13, 17, 1), (.getfield 34, 11, 11, 14, 18, 3), (.iconst 1, 0, 0, 15, 21, 1), (.iload_n 3, 0, 0, 16, 22, 1), (.iastore, 0, 0, 17, 23, 1), (.aload_n 0, 0, 0, 18, 24, 1), (.invokevirtual 201, 155, 1, 19, 25, 3), (.aload_n 0, 0, 0, 20, 28, 1), (.bipush 29, 0, 0, 21, 29, 2), (.invokevirtual 216, 165, 2, 22, 31, 3), (.ifCond .ne 7, 25, 0, 23, 34, 3), (.iload_n 3, 0, 0, 24, 37, 1), (.goto 4, 26, 0, 0, 38, 3), (.iload_n 2, 0, 0, 26, 41, 1), (.istore_n 2, 0, 0, 27, 42, 1), (.iinc 3 1, 0, 0, 28, 43, 3), (.goto (-35), 9, 0, 0, 46, 3), (.aload_n 0, 0, 0, 30, 49, 1), (.getfield 34, 11, 11, 31, 50, 3), (.iconst 1, 0, 0, 32, 53, 1), (.iload_n 1, 0, 0, 33, 54, 1), (.iastore, 0, 0, 34, 55, 1), (.iload_n 2, 0, 0, 35, 56, 1), (.ireturn, 0, 0, 0, 57, 1)]
def M_X11_bearNow : mm_M := (1, 4, k_X11_bearNow)
abbrev n_X11_bearNow : Nat := 177
def k_X11_bear : List mm_I := [(.aload_n 0, 0, 0, 1, 0, 1), (.invokevirtual 204, 156, 1, 2, 1, 3), (.aload_n 0, 0, 0, 3, 4, 1), (.invokevirtual 237, 177, 1, 4, 5, 3), (.ireturn, 0, 0, 0, 8, 1)]
def M_X11_bear : mm_M := (1, 1, k_X11_bear)
abbrev n_X11_bear : Nat := 178
def k_X11_seen : List mm_I := [(.iload_n 1, 0, 0, 1, 0, 1), (.invokestatic 149, 139, 1, 2, 1, 3), (.ifCond .eq 27, 15, 0, 3, 4, 3), (.iload_n 2, 0, 0, 4, 7, 1), (.i2l, 0, 0, 5, 8, 1), (.lconst 0, 0, 0, 6, 9, 1), (.ldc2_w 152, 7, 0, 7, 10, 3), (.invokestatic 81, 114, 3, 8, 13, 3), (.ifCond .eq 15, 15, 0, 9, 16, 3), (.iload_n 3, 0, 0, 10, 19, 1), (.i2l, 0, 0, 11, 20, 1), (.lconst 0, 0, 0, 12, 21, 1), (.ldc2_w 89, 3, 0, 13, 22, 3), (.invokestatic 81, 114, 3, 14, 25, 3), (.ifCond .ne 6, 17, 0, 15, 28, 3), (.bipush (-2), 0, 0, 16, 31, 2), (.ireturn, 0, 0, 0, 33, 1), (.aload_n 0, 0, 0, 18, 34, 1), (.getfield 240, 11, 27, 19, 35, 3), (.bipush 8, 0, 0, 20, 38, 2), (.if_icmp .ne 6, 23, 0, 21, 40, 3), (.bipush (-4), 0, 0, 22, 43, 2), (.ireturn, 0, 0, 0, 45, 1), (.aload_n 0, 0, 0, 24, 46, 1), (.getfield 73, 11, 28, 25, 47, 3), (.iconst 3, 0, 0, 26, 50, 1), (.aload_n 0, 0, 0, 27, 51, 1), (.getfield 240, 11, 27, 28, 52, 3), (.imul, 0, 0, 29, 55, 1), (.iload_n 1, 0, 0, 30, 56, 1), (.iastore, 0, 0, 31, 57, 1), (.aload_n 0, 0, 0, 32, 58, 1), (.getfield 73, 11, 28, 33, 59, 3), (.iconst 3, 0, 0, 34, 62, 1), (.aload_n 0, 0, 0, 35, 63, 1), (.getfield 240, 11, 27, 36, 64, 3), (.imul, 0, 0, 37, 67, 1), (.iconst 1, 0, 0, 38, 68, 1), (.iadd, 0, 0, 39, 69, 1), (.iload_n 2, 0, 0, 40, 70, 1), (.iastore, 0, 0, 41, 71, 1), (.aload_n 0, 0, 0, 42, 72, 1), (.getfield 73, 11, 28, 43, 73, 3), (.iconst 3, 0, 0, 44, 76, 1), (.aload_n 0, 0, 0, 45, 77, 1), (.getfield 240, 11, 27, 46, 78, 3), (.imul, 0, 0, 47, 81, 1), (.iconst 2, 0, 0, 48, 82, 1), (.iadd, 0, 0, 49, 83, 1), (.iload_n 3, 0, 0, 50, 84, 1), (.iastore, 0, 0, 51, 85, 1), (.aload_n 0, 0, 0, 52, 86, 1), (.dup, 0, 0, 53, 87, 1), (.getfield 240, 11, 27, 54, 88, 3), (.iconst 1, 0, 0, 55, 91, 1), (.iadd, 0, 0, 56, 92, 1), (.putfield 240, 11, 27, 57, 93, 3), (.aload_n 0, 0, 0, 58, 96, 1), (.getfield 240, 11, 27, 59, 97, 3), (.ireturn, 0, 0, 0, 100, 1)]
def M_X11_seen : mm_M := (1, 4, k_X11_seen)
abbrev n_X11_seen : Nat := 179
def k_X11_forget : List mm_I := [(.aload_n 0, 0, 0, 1, 0, 1), (.getfield 240, 11, 27, 2, 1, 3), (.istore_n 1, 0, 0, 3, 4, 1), (.aload_n 0, 0, 0, 4, 5, 1), (.iconst 0, 0, 0, 5, 6, 1), (.putfield 240, 11, 27, 6, 7, 3), (.iload_n 1, 0, 0, 7, 10, 1), (.ireturn, 0, 0, 0, 11, 1)]
def M_X11_forget : mm_M := (1, 2, k_X11_forget)
abbrev n_X11_forget : Nat := 180
def k_X11_isSeen : List mm_I := [(.aload_n 0, 0, 0, 1, 0, 1), (.invokevirtual 201, 155, 1, 2, 1, 3), (.iconst 1, 0, 0, 3, 4, 1), (.istore_n 1, 0, 0, 4, 5, 1), (.iconst 0, 0, 0, 5, 6, 1), (.istore_n 2, 0, 0, 6, 7, 1), (.iload_n 2, 0, 0, 7, 8, 1), (.aload_n 0, 0, 0, 8, 9, 1), (.getfield 240, 11, 27, 9, 10, 3), (.if_icmp .ge 69, 53, 0, 10, 13, 3), (.aload_n 0, 0, 0, 11, 16, 1), (.getfield 73, 11, 28, 12, 17, 3), (.iconst 3, 0, 0, 13, 20, 1), (.iload_n 2, 0, 0, 14, 21, 1), (.imul, 0, 0, 15, 22, 1), (.iconst 1, 0, 0, 16, 23, 1), (.iadd, 0, 0, 17, 24, 1), (.iaload, 0, 0, 18, 25, 1), (.istore_n 3, 0, 0, 19, 26, 1), (.iload_n 1, 0, 0, 20, 27, 1), (.ifCond .eq 46, 49, 0, 21, 28, 3), (.aload_n 0, 0, 0, 22, 31, 1), (.iload_n 3, 0, 0, 23, 32, 1), (.invokevirtual 140, 138, 2, 24, 33, 3), (.ifCond .eq 38, 49, 0, 25, 36, 3), (.aload_n 0, 0, 0, 26, 39, 1), (.getfield 61, 11, 22, 27, 40, 3), (.bipush 8, 0, 0, 28, 43, 2), (.aload_n 0, 0, 0, 29, 45, 1), (.getfield 73, 11, 28, 30, 46, 3), (.iconst 3, 0, 0, 31, 49, 1), (.iload_n 2, 0, 0, 32, 50, 1), (.imul, 0, 0, 33, 51, 1), (.iaload, 0, 0, 34, 52, 1), (.imul, 0, 0, 35, 53, 1), (.iload_n 3, 0, 0, 36, 54, 1), (.iadd, 0, 0, 37, 55, 1), (.iaload, 0, 0, 38, 56, 1), (.aload_n 0, 0, 0, 39, 57, 1), (.getfield 73, 11, 28, 40, 58, 3), (.iconst 3, 0, 0, 41, 61, 1), (.iload_n 2, 0, 0, 42, 62, 1), (.imul, 0, 0, 43, 63, 1), (.iconst 2, 0, 0, 44, 64, 1), (.iadd, 0, 0, 45, 65, 1), (.iaload, 0, 0, 46, 66, 1), (.if_icmp .ne 7, 49, 0, 47, 67, 3), (.iconst 1, 0, 0, 48, 70, 1), (.goto 4, 50, 0, 0, 71, 3), (.iconst 0, 0, 0, 50, 74, 1), (.istore_n 1, 0, 0, 51, 75, 1), (.iinc 2 1, 0, 0, 52, 76, 3), (.goto (-71), 6, 0, 0, 79, 3), (.iload_n 1, 0, 0, 54, 82, 1), (.ireturn, 0, 0, 0, 83, 1)]
def M_X11_isSeen : mm_M := (2, 4, k_X11_isSeen)
abbrev n_X11_isSeen : Nat := 181
def k_X11_heatsOf : List mm_I := [(.aload_n 0, 0, 0, 1, 0, 1), (.getfield 31, 11, 10, 2, 1, 3), (.iconst 3, 0, 0, 3, 4, 1), (.iload_n 1, 0, 0, 4, 5, 1), (.imul, 0, 0, 5, 6, 1), (.iconst 1, 0, 0, 6, 7, 1), (.iadd, 0, 0, 7, 8, 1), (.iaload, 0, 0, 8, 9, 1), (.istore_n 3, 0, 0, 9, 10, 1), (.iconst 0, 0, 0, 10, 11, 1), (.istore 4, 0, 0, 11, 12, 2), (.iconst (-1), 0, 0, 12, 14, 1), (.istore 5, 0, 0, 13, 15, 2), (.iconst 0, 0, 0, 14, 17, 1), (.istore 6, 0, 0, 15, 18, 2), (.iload 6, 0, 0, 16, 20, 2), (.bipush 100, 0, 0, 17, 22, 2), (.if_icmp .ge 62, 49, 0, 18, 24, 3), (.aload_n 0, 0, 0, 19, 27, 1), (.getfield 31, 11, 10, 20, 28, 3), (.iconst 3, 0, 0, 21, 31, 1), (.iload_n 1, 0, 0, 22, 32, 1), (.imul, 0, 0, 23, 33, 1), (.iconst 1, 0, 0, 24, 34, 1), (.iadd, 0, 0, 25, 35, 1), (.iload 6, 0, 0, 26, 36, 2), (.iastore, 0, 0, 27, 38, 1), (.aload_n 0, 0, 0, 28, 39, 1), (.invokevirtual 243, 181, 1, 29, 40, 3), (.istore 7, 0, 0, 30, 43, 2), (.iload 7, 0, 0, 31, 45, 2), (.ifCond .eq 14, 37, 0, 32, 47, 3), (.iload 4, 0, 0, 33, 50, 2), (.iload_n 2, 0, 0, 34, 52, 1), (.if_icmp .ne 8, 37, 0, 35, 53, 3), (.iload 6, 0, 0, 36, 56, 2), (.goto 5, 38, 0, 0, 58, 3), (.iload 5, 0, 0, 38, 61, 2), (.istore 5, 0, 0, 39, 63, 2), (.iload 4, 0, 0, 40, 65, 2), (.iload 7, 0, 0, 41, 67, 2), (.ifCond .eq 7, 44, 0, 42, 69, 3), (.iconst 1, 0, 0, 43, 72, 1), (.goto 4, 45, 0, 0, 73, 3), (.iconst 0, 0, 0, 45, 76, 1), (.iadd, 0, 0, 46, 77, 1), (.istore 4, 0, 0, 47, 78, 2), (.iinc 6 1, 0, 0, 48, 80, 3), (.goto (-63), 15, 0, 0, 83, 3), (.aload_n 0, 0, 0, 50, 86, 1), (.getfield 31, 11, 10, 51, 87, 3), (.iconst 3, 0, 0, 52, 90, 1), (.iload_n 1, 0, 0, 53, 91, 1), (.imul, 0, 0, 54, 92, 1), (.iconst 1, 0, 0, 55, 93, 1), (.iadd, 0, 0, 56, 94, 1), (.iload_n 3, 0, 0, 57, 95, 1), (.iastore, 0, 0, 58, 96, 1), (.iload_n 2, 0, 0, 59, 97, 1), (.iconst (-1), 0, 0, 60, 98, 1), (.if_icmp .ne 8, 63, 0, 61, 99, 3), (.iload 4, 0, 0, 62, 102, 2), (.goto 5, 64, 0, 0, 104, 3), (.iload 5, 0, 0, 64, 107, 2), (.ireturn, 0, 0, 0, 109, 1)]
def M_X11_heatsOf : mm_M := (1, 8, k_X11_heatsOf)
abbrev n_X11_heatsOf : Nat := 182
def k_X11_heats : List mm_I := [(.aload_n 0, 0, 0, 1, 0, 1), (.invokevirtual 204, 156, 1, 2, 1, 3), (.aload_n 0, 0, 0, 3, 4, 1), (.iload_n 1, 0, 0, 4, 5, 1), (.invokevirtual 140, 138, 2, 5, 6, 3), (.ifCond .eq 26, 17, 0, 6, 9, 3), (.iload_n 2, 0, 0, 7, 12, 1), (.i2l, 0, 0, 8, 13, 1), (.ldc2_w 247, 18446744073709551615, 0, 9, 14, 3), (.ldc2_w 147, 99, 0, 10, 17, 3), (.invokestatic 81, 114, 3, 11, 20, 3), (.ifCond .eq 12, 17, 0, 12, 23, 3), (.aload_n 0, 0, 0, 13, 26, 1), (.iload_n 1, 0, 0, 14, 27, 1), (.iload_n 2, 0, 0, 15, 28, 1), (.invokevirtual 249, 182, 3, 16, 29, 3), (.goto 5, 18, 0, 0, 32, 3), (.bipush (-2), 0, 0, 18, 35, 2), (.ireturn, 0, 0, 0, 37, 1)]
def M_X11_heats : mm_M := (1, 3, k_X11_heats)
abbrev n_X11_heats : Nat := 183
def k_X11_slotsOf : List mm_I := [(.aload_n 0, 0, 0, 1, 0, 1), (.getfield 31, 11, 10, 2, 1, 3), (.iconst 3, 0, 0, 3, 4, 1), (.iload_n 1, 0, 0, 4, 5, 1), (.imul, 0, 0, 5, 6, 1), (.iconst 2, 0, 0, 6, 7, 1), (.iadd, 0, 0, 7, 8, 1), (.iaload, 0, 0, 8, 9, 1), (.istore_n 2, 0, 0, 9, 10, 1), (.iconst 0, 0, 0, 10, 11, 1), (.istore_n 3, 0, 0, 11, 12, 1), (.iconst 0, 0, 0, 12, 13, 1), (.istore 4, 0, 0, 13, 14, 2), (.iload 4, 0, 0, 14, 16, 2), (.bipush 10, 0, 0, 15, 18, 2), (.if_icmp .ge 39, 38, 0, 16, 20, 3), (.aload_n 0, 0, 0, 17, 23, 1), (.getfield 31, 11, 10, 18, 24, 3), (.iconst 3, 0, 0, 19, 27, 1), (.iload_n 1, 0, 0, 20, 28, 1), (.imul, 0, 0, 21, 29, 1), (.iconst 2, 0, 0, 22, 30, 1), (.iadd, 0, 0, 23, 31, 1), (.iload 4, 0, 0, 24, 32, 2), (.iastore, 0, 0, 25, 34, 1), (.iload_n 3, 0, 0, 26, 35, 1), (.aload_n 0, 0, 0, 27, 36, 1), (.invokevirtual 243, 181, 1, 28, 37, 3), (.ifCond .eq 10, 33, 0, 29, 40, 3), (.iconst 1, 0, 0, 30, 43, 1), (.iload 4, 0, 0, 31, 44, 2), (.ishl, 0, 0, 32, 46, 1), (.goto 4, 34, 0, 0, 47, 3), (.iconst 0, 0, 0, 34, 50, 1), (.ior, 0, 0, 35, 51, 1), (.istore_n 3, 0, 0, 36, 52, 1), (.iinc 4 1, 0, 0, 37, 53, 3), (.goto (-40), 13, 0, 0, 56, 3), (.aload_n 0, 0, 0, 39, 59, 1), (.getfield 31, 11, 10, 40, 60, 3), (.iconst 3, 0, 0, 41, 63, 1), (.iload_n 1, 0, 0, 42, 64, 1), (.imul, 0, 0, 43, 65, 1), (.iconst 2, 0, 0, 44, 66, 1), (.iadd, 0, 0, 45, 67, 1), (.iload_n 2, 0, 0, 46, 68, 1), (.iastore, 0, 0, 47, 69, 1), (.iload_n 3, 0, 0, 48, 70, 1), (.ireturn, 0, 0, 0, 71, 1)]
def M_X11_slotsOf : mm_M := (1, 5, k_X11_slotsOf)
abbrev n_X11_slotsOf : Nat := 184
def k_X11_slots : List mm_I := [(.aload_n 0, 0, 0, 1, 0, 1), (.invokevirtual 204, 156, 1, 2, 1, 3), (.aload_n 0, 0, 0, 3, 4, 1), (.iload_n 1, 0, 0, 4, 5, 1), (.invokevirtual 140, 138, 2, 5, 6, 3), (.ifCond .eq 11, 10, 0, 6, 9, 3), (.aload_n 0, 0, 0, 7, 12, 1), (.iload_n 1, 0, 0, 8, 13, 1), (.invokevirtual 252, 184, 2, 9, 14, 3), (.goto 5, 11, 0, 0, 17, 3), (.bipush (-2), 0, 0, 11, 20, 2), (.ireturn, 0, 0, 0, 22, 1)]
def M_X11_slots : mm_M := (1, 2, k_X11_slots)
abbrev n_X11_slots : Nat := 185
def k_X11_askOf : List mm_I := [(.aload_n 0, 0, 0, 1, 0, 1), (.getfield 34, 11, 11, 2, 1, 3), (.iconst 1, 0, 0, 3, 4, 1), (.iaload, 0, 0, 4, 5, 1), (.istore_n 2, 0, 0, 5, 6, 1), (.iconst 0, 0, 0, 6, 7, 1), (.istore_n 3, 0, 0, 7, 8, 1), (.iload_n 3, 0, 0, 8, 9, 1), (.bipush 32, 0, 0, 9, 10, 2), (.if_icmp .ge 16, 17, 0, 10, 12, 3), (.aload_n 0, 0, 0, 11, 15, 1), (.getfield 76, 11, 29, 12, 16, 3), (.iload_n 3, 0, 0, 13, 19, 1), (.iconst 0, 0, 0, 14, 20, 1), (.iastore, 0, 0, 15, 21, 1), (.iinc 3 1, 0, 0, 16, 22, 3), (.goto (-16), 7, 0, 0, 25, 3), (.iconst 0, 0, 0, 18, 28, 1), (.istore_n 3, 0, 0, 19, 29, 1), (.iload_n 3, 0, 0, 20, 30, 1), (.bipush 10, 0, 0, 21, 31, 2), (.if_icmp .ge 71, 61, 0, 22, 33, 3), (.aload_n 0, 0, 0, 23, 36, 1), (.getfield 34, 11, 11, 24, 37, 3), (.iconst 1, 0, 0, 25, 40, 1), (.iload_n 3, 0, 0, 26, 41, 1), (.iastore, 0, 0, 27, 42, 1), (.aload_n 0, 0, 0, 28, 43, 1), (.invokevirtual 243, 181, 1, 29, 44, 3), (.istore 4, 0, 0, 30, 47, 2), (.iconst 0, 0, 0, 31, 49, 1), (.istore 5, 0, 0, 32, 50, 2), (.iload 5, 0, 0, 33, 52, 2), (.aload_n 0, 0, 0, 34, 54, 1), (.getfield 125, 11, 9, 35, 55, 3), (.if_icmp .ge 40, 59, 0, 36, 58, 3), (.iload 4, 0, 0, 37, 61, 2), (.ifCond .eq 35, 59, 0, 38, 63, 3), (.aload_n 0, 0, 0, 39, 66, 1), (.getfield 76, 11, 29, 40, 67, 3), (.iconst 4, 0, 0, 41, 70, 1), (.iload 5, 0, 0, 42, 71, 2), (.imul, 0, 0, 43, 73, 1), (.aload_n 0, 0, 0, 44, 74, 1), (.getfield 61, 11, 22, 45, 75, 3), (.bipush 8, 0, 0, 46, 78, 2), (.iload_n 1, 0, 0, 47, 80, 1), (.imul, 0, 0, 48, 81, 1), (.iload 5, 0, 0, 49, 82, 2), (.iadd, 0, 0, 50, 84, 1), (.iaload, 0, 0, 51, 85, 1), (.iadd, 0, 0, 52, 86, 1), (.dup2, 0, 0, 53, 87, 1), (.iaload, 0, 0, 54, 88, 1), (.iconst 1, 0, 0, 55, 89, 1), (.iadd, 0, 0, 56, 90, 1), (.iastore, 0, 0, 57, 91, 1), (.iinc 5 1, 0, 0, 58, 92, 3), (.goto (-43), 32, 0, 0, 95, 3), (.iinc 3 1, 0, 0, 60, 98, 3), (.goto (-71), 19, 0, 0, 101, 3), (.aload_n 0, 0, 0, 62, 104, 1), (.getfield 34, 11, 11, 63, 105, 3), (.iconst 1, 0, 0, 64, 108, 1), (.iload_n 2, 0, 0, 65, 109, 1), (.iastore, 0, 0, 66, 110, 1), (.iconst (-1), 0, 0, 67, 111, 1), (.istore_n 3, 0, 0, 68, 112, 1), (.iconst 0, 0, 0, 69, 113, 1), (.istore 4, 0, 0, 70, 114, 2), (.iconst 0, 0, 0, 71, 116, 1), (.istore 5, 0, 0, 72, 117, 2), (.iload 5, 0, 0, 73, 119, 2), (.aload_n 0, 0, 0, 74, 121, 1), (.getfield 125, 11, 9, 75, 122, 3), (.if_icmp .ge 91, 120, 0, 76, 125, 3), (.iconst 0, 0, 0, 77, 128, 1), (.istore 6, 0, 0, 78, 129, 2), (.iconst 0, 0, 0, 79, 131, 1), (.istore 7, 0, 0, 80, 132, 2), (.iload 7, 0, 0, 81, 134, 2), (.iconst 4, 0, 0, 82, 136, 1), (.if_icmp .ge 28, 96, 0, 83, 137, 3), (.aload_n 0, 0, 0, 84, 140, 1), (.getfield 76, 11, 29, 85, 141, 3), (.iconst 4, 0, 0, 86, 144, 1), (.iload 5, 0, 0, 87, 145, 2), (.imul, 0, 0, 88, 147, 1), (.iload 7, 0, 0, 89, 148, 2), (.iadd, 0, 0, 90, 150, 1), (.iaload, 0, 0, 91, 151, 1), (.iload 6, 0, 0, 92, 152, 2), (.invokestatic 181, 119, 2, 93, 154, 3), (.istore 6, 0, 0, 94, 157, 2), (.iinc 7 1, 0, 0, 95, 159, 3), (.goto (-28), 80, 0, 0, 162, 3), (.iload_n 3, 0, 0, 97, 165, 1), (.iconst (-1), 0, 0, 98, 166, 1), (.if_icmp .eq 10, 102, 0, 99, 167, 3), (.iload 6, 0, 0, 100, 170, 2), (.iload 4, 0, 0, 101, 172, 2), (.if_icmp .ge 7, 104, 0, 102, 174, 3), (.iconst 1, 0, 0, 103, 177, 1), (.goto 4, 105, 0, 0, 178, 3), (.iconst 0, 0, 0, 105, 181, 1), (.istore 7, 0, 0, 106, 182, 2), (.iload 7, 0, 0, 107, 184, 2), (.ifCond .eq 8, 110, 0, 108, 186, 3), (.iload 5, 0, 0, 109, 189, 2), (.goto 4, 111, 0, 0, 191, 3), (.iload_n 3, 0, 0, 111, 194, 1), (.istore_n 3, 0, 0, 112, 195, 1), (.iload 7, 0, 0, 113, 196, 2), (.ifCond .eq 8, 116, 0, 114, 198, 3), (.iload 6, 0, 0, 115, 201, 2), (.goto 5, 117, 0, 0, 203, 3), (.iload 4, 0, 0, 117, 206, 2), (.istore 4, 0, 0, 118, 208, 2), (.iinc 5 1, 0, 0, 119, 210, 3), (.goto (-94), 72, 0, 0, 213, 3), (.iload_n 3, 0, 0, 121, 216, 1), (.ireturn, 0, 0, 0, 217, 1)]
def M_X11_askOf : mm_M := (1, 8, k_X11_askOf)
abbrev n_X11_askOf : Nat := 186
def k_X11_ask : List mm_I := [(.aload_n 0, 0, 0, 1, 0, 1), (.invokevirtual 204, 156, 1, 2, 1, 3), (.iload_n 1, 0, 0, 3, 4, 1), (.invokestatic 149, 139, 1, 4, 5, 3), (.ifCond .eq 11, 9, 0, 5, 8, 3), (.aload_n 0, 0, 0, 6, 11, 1), (.iload_n 1, 0, 0, 7, 12, 1), (.invokevirtual 255, 186, 2, 8, 13, 3), (.goto 5, 10, 0, 0, 16, 3), (.bipush (-2), 0, 0, 10, 19, 2), (.ireturn, 0, 0, 0, 21, 1)]
def M_X11_ask : mm_M := (1, 2, k_X11_ask)
abbrev n_X11_ask : Nat := 187
def k_X11_windowOf : List mm_I := [(.lconst 0, 0, 0, 1, 0, 1), (.lstore 6, 0, 0, 2, 1, 2), (.iconst 0, 0, 0, 3, 3, 1), (.istore 8, 0, 0, 4, 4, 2), (.iload 8, 0, 0, 5, 6, 2), (.iconst 2, 0, 0, 6, 8, 1), (.iload_n 2, 0, 0, 7, 9, 1), (.ishl, 0, 0, 8, 10, 1), (.if_icmp .ge 86, 53, 0, 9, 11, 3), (.aload_n 0, 0, 0, 10, 14, 1), (.iload 8, 0, 0, 11, 15, 2), (.putfield 171, 11, 26, 12, 17, 3), (.aload_n 0, 0, 0, 13, 20, 1), (.invokevirtual 201, 155, 1, 14, 21, 3), (.aload_n 0, 0, 0, 15, 24, 1), (.getfield 64, 11, 23, 16, 25, 3), (.iload_n 3, 0, 0, 17, 28, 1), (.iaload, 0, 0, 18, 29, 1), (.i2l, 0, 0, 19, 30, 1), (.lconst 0, 0, 0, 20, 31, 1), (.iload 4, 0, 0, 21, 32, 2), (.i2l, 0, 0, 22, 34, 1), (.invokestatic 81, 114, 3, 23, 35, 3), (.ifCond .eq 53, 51, 0, 24, 38, 3), (.lconst 1, 0, 0, 25, 41, 1), (.lstore 9, 0, 0, 26, 42, 2), (.iconst 0, 0, 0, 27, 44, 1), (.istore 11, 0, 0, 28, 45, 2), (.iload 11, 0, 0, 29, 47, 2), (.iload_n 2, 0, 0, 30, 49, 1), (.if_icmp .gt 34, 47, 0, 31, 50, 3), (.lload 9, 0, 0, 32, 53, 2), (.iload 8, 0, 0, 33, 55, 2), (.iload 11, 0, 0, 34, 57, 2), (.invokestatic 174, 117, 2, 35, 59, 3), (.ifCond .eq 8, 39, 0, 36, 62, 3), (.iload_n 1, 0, 0, 37, 65, 1), (.i2l, 0, 0, 38, 66, 1), (.goto 8, 43, 0, 0, 67, 3), (.bipush 16, 0, 0, 40, 70, 2), (.iload_n 1, 0, 0, 41, 72, 1), (.isub, 0, 0, 42, 73, 1), (.i2l, 0, 0, 43, 74, 1), (.lmul, 0, 0, 44, 75, 1), (.lstore 9, 0, 0, 45, 76, 2), (.iinc 11 1, 0, 0, 46, 78, 3), (.goto (-34), 28, 0, 0, 81, 3), (.lload 6, 0, 0, 48, 84, 2), (.lload 9, 0, 0, 49, 86, 2), (.ladd, 0, 0, 50, 88, 1), (.lstore 6, 0, 0, 51, 89, 2), (.iinc 8 1, 0, 0, 52, 91, 3), (.goto (-88), 4, 0, 0, 94, 3), (.aload_n 0, 0, 0, 54, 97, 1), (.iconst 0, 0, 0, 55, 98, 1), (.putfield 171, 11, 26, 56, 99, 3), (.lload 6, 0, 0, 57, 102, 2), (.lconst 1, 0, 0, 58, 104, 1), (.iconst 4, 0, 0, 59, 105, 1), (.iload_n 2, 0, 0, 60, 106, 1), (.iconst 1, 0, 0, 61, 107, 1), (.iadd, 0, 0, 62, 108, 1), (.imul, 0, 0, 63, 109, 1), (.lshl, 0, 0, 64, 110, 1), (.iload 5, 0, 0, 65, 111, 2), (.invokestatic 258, 120, 3, 66, 113, 3), (.lreturn, 0, 0, 0, 116, 1)]
def M_X11_windowOf : mm_M := (3, 12, k_X11_windowOf)
abbrev n_X11_windowOf : Nat := 188
def k_X11_window : List mm_I := [(.aload_n 0, 0, 0, 1, 0, 1), (.invokevirtual 204, 156, 1, 2, 1, 3), (.iload_n 1, 0, 0, 3, 4, 1), (.i2l, 0, 0, 4, 5, 1), (.lconst 0, 0, 0, 5, 6, 1), (.ldc2_w 262, 16, 0, 6, 7, 3), (.invokestatic 81, 114, 3, 7, 10, 3), (.ifCond .eq 53, 32, 0, 8, 13, 3), (.iload_n 2, 0, 0, 9, 16, 1), (.i2l, 0, 0, 10, 17, 1), (.lconst 0, 0, 0, 11, 18, 1), (.ldc2_w 145, 9, 0, 12, 19, 3), (.invokestatic 81, 114, 3, 13, 22, 3), (.ifCond .eq 41, 32, 0, 14, 25, 3), (.aload_n 0, 0, 0, 15, 28, 1), (.iload_n 3, 0, 0, 16, 29, 1), (.invokevirtual 140, 138, 2, 17, 30, 3), (.ifCond .eq 33, 32, 0, 18, 33, 3), (.iload 4, 0, 0, 19, 36, 2), (.invokestatic 149, 139, 1, 20, 38, 3), (.ifCond .eq 25, 32, 0, 21, 41, 3), (.iload 5, 0, 0, 22, 44, 2), (.invokestatic 110, 116, 1, 23, 46, 3), (.ifCond .eq 17, 32, 0, 24, 49, 3), (.aload_n 0, 0, 0, 25, 52, 1), (.iload_n 1, 0, 0, 26, 53, 1), (.iload_n 2, 0, 0, 27, 54, 1), (.iload_n 3, 0, 0, 28, 55, 1), (.iload 4, 0, 0, 29, 56, 2), (.iload 5, 0, 0, 30, 58, 2), (.invokevirtual 264, 188, 6, 31, 60, 3), (.goto 8, 34, 0, 0, 63, 3), (.bipush (-2), 0, 0, 33, 66, 2), (.invokestatic 268, 115, 1, 34, 68, 3), (.lreturn, 0, 0, 0, 71, 1)]
def M_X11_window : mm_M := (3, 6, k_X11_window)
abbrev n_X11_window : Nat := 189
def k_X11_lot : List mm_I := [(.aload_n 0, 0, 0, 1, 0, 1), (.ldc_w 272, 1103515245, 0, 2, 1, 3), (.aload_n 0, 0, 0, 3, 4, 1), (.getfield 273, 11, 30, 4, 5, 3), (.imul, 0, 0, 5, 8, 1), (.sipush 12345, 0, 0, 6, 9, 3), (.iadd, 0, 0, 7, 12, 1), (.putfield 273, 11, 30, 8, 13, 3), (.aload_n 0, 0, 0, 9, 16, 1), (.getfield 273, 11, 30, 10, 17, 3), (.bipush 16, 0, 0, 11, 20, 2), (.iushr, 0, 0, 12, 22, 1), (.iload_n 1, 0, 0, 13, 23, 1), (.irem, 0, 0, 14, 24, 1), (.ireturn, 0, 0, 0, 25, 1)]
def M_X11_lot : mm_M := (1, 2, k_X11_lot)
abbrev n_X11_lot : Nat := 190
def k_X11_othersOf : List mm_I := [(.aload_n 0, 0, 0, 1, 0, 1), (.iload_n 1, 0, 0, 2, 1, 1), (.putfield 273, 11, 30, 3, 2, 3), (.iconst 0, 0, 0, 4, 5, 1), (.istore_n 3, 0, 0, 5, 6, 1), (.iload_n 3, 0, 0, 6, 7, 1), (.aload_n 0, 0, 0, 7, 8, 1), (.getfield 125, 11, 9, 8, 9, 3), (.if_icmp .ge 25, 22, 0, 9, 12, 3), (.aload_n 0, 0, 0, 10, 15, 1), (.getfield 31, 11, 10, 11, 16, 3), (.iconst 3, 0, 0, 12, 19, 1), (.iload_n 3, 0, 0, 13, 20, 1), (.imul, 0, 0, 14, 21, 1), (.iconst 1, 0, 0, 15, 22, 1), (.iadd, 0, 0, 16, 23, 1), (.aload_n 0, 0, 0, 17, 24, 1), (.bipush 100, 0, 0, 18, 25, 2), (.invokevirtual 276, 190, 2, 19, 27, 3), (.iastore, 0, 0, 20, 30, 1), (.iinc 3 1, 0, 0, 21, 31, 3), (.goto (-27), 5, 0, 0, 34, 3), (.aload_n 0, 0, 0, 23, 37, 1), (.invokevirtual 201, 155, 1, 24, 38, 3), (.aload_n 0, 0, 0, 25, 41, 1), (.invokevirtual 135, 136, 1, 26, 42, 3), (.pop, 0, 0, 27, 45, 1), (.iconst 0, 0, 0, 28, 46, 1), (.istore_n 3, 0, 0, 29, 47, 1), (.iconst 0, 0, 0, 30, 48, 1), (.istore 4, 0, 0, 31, 49, 2), (.iload 4, 0, 0, 32, 51, 2), (.aload_n 0, 0, 0, 33, 53, 1), (.getfield 125, 11, 9, 34, 54, 3), (.if_icmp .ge 30, 51, 0, 35, 57, 3), (.iload_n 3, 0, 0, 36, 60, 1), (.aload_n 0, 0, 0, 37, 61, 1), (.getfield 46, 11, 17, 38, 62, 3), (.iload 4, 0, 0, 39, 65, 2), (.iaload, 0, 0, 40, 67, 1), (.iload_n 2, 0, 0, 41, 68, 1), (.iconst 2, 0, 0, 42, 69, 1), (.iadd, 0, 0, 43, 70, 1), (.if_icmp .ne 7, 46, 0, 44, 71, 3), (.iconst 1, 0, 0, 45, 74, 1), (.goto 4, 47, 0, 0, 75, 3), (.iconst 0, 0, 0, 47, 78, 1), (.iadd, 0, 0, 48, 79, 1), (.istore_n 3, 0, 0, 49, 80, 1), (.iinc 4 1, 0, 0, 50, 81, 3), (.goto (-33), 31, 0, 0, 84, 3), (.iload_n 3, 0, 0, 52, 87, 1), (.ireturn, 0, 0, 0, 88, 1)]
def M_X11_othersOf : mm_M := (1, 5, k_X11_othersOf)
abbrev n_X11_othersOf : Nat := 191
def k_X11_others : List mm_I := [(.aload_n 0, 0, 0, 1, 0, 1), (.invokevirtual 204, 156, 1, 2, 1, 3), (.iload_n 2, 0, 0, 3, 4, 1), (.invokestatic 110, 116, 1, 4, 5, 3), (.ifCond .eq 12, 10, 0, 5, 8, 3), (.aload_n 0, 0, 0, 6, 11, 1), (.iload_n 1, 0, 0, 7, 12, 1), (.iload_n 2, 0, 0, 8, 13, 1), (.invokevirtual 279, 191, 3, 9, 14, 3), (.goto 5, 11, 0, 0, 17, 3), (.bipush (-2), 0, 0, 11, 20, 2), (.ireturn, 0, 0, 0, 22, 1)]
def M_X11_others : mm_M := (1, 3, k_X11_others)
abbrev n_X11_others : Nat := 192
def k_X11_write : List mm_I := [(.iload_n 1, 0, 0, 1, 0, 1), (.invokestatic 149, 139, 1, 2, 1, 3), (.ifCond .eq 10, 6, 0, 3, 4, 3), (.iload_n 2, 0, 0, 4, 7, 1), (.invokestatic 91, 122, 1, 5, 8, 3), (.ifCond .ne 6, 8, 0, 6, 11, 3), (.bipush (-2), 0, 0, 7, 14, 2), (.ireturn, 0, 0, 0, 16, 1), (.aload_n 0, 0, 0, 9, 17, 1), (.getfield 7, 11, 0, 10, 18, 3), (.iload_n 2, 0, 0, 11, 21, 1), (.iaload, 0, 0, 12, 22, 1), (.ifCond .ge 9, 17, 0, 13, 23, 3), (.aload_n 0, 0, 0, 14, 26, 1), (.iconst 1, 0, 0, 15, 27, 1), (.invokevirtual 97, 121, 2, 16, 28, 3), (.ireturn, 0, 0, 0, 31, 1), (.aload_n 0, 0, 0, 18, 32, 1), (.invokevirtual 204, 156, 1, 19, 33, 3), (.aload_n 0, 0, 0, 20, 36, 1), (.getfield 13, 11, 1, 21, 37, 3), (.iload_n 2, 0, 0, 22, 40, 1), (.iaload, 0, 0, 23, 41, 1), (.aload_n 0, 0, 0, 24, 42, 1), (.getfield 125, 11, 9, 25, 43, 3), (.invokestatic 162, 118, 2, 26, 46, 3), (.istore_n 3, 0, 0, 27, 49, 1), (.iconst 0, 0, 0, 28, 50, 1), (.istore 4, 0, 0, 29, 51, 2), (.iload 4, 0, 0, 30, 53, 2), (.iload_n 3, 0, 0, 31, 55, 1), (.if_icmp .ge 42, 55, 0, 32, 56, 3), (.aload_n 0, 0, 0, 33, 59, 1), (.getfield 16, 11, 2, 34, 60, 3), (.bipush 60, 0, 0, 35, 63, 2), (.iload_n 2, 0, 0, 36, 65, 1), (.imul, 0, 0, 37, 66, 1), (.iload 4, 0, 0, 38, 67, 2), (.iadd, 0, 0, 39, 69, 1), (.aload_n 0, 0, 0, 40, 70, 1), (.getfield 7, 11, 0, 41, 71, 3), (.iload_n 2, 0, 0, 42, 74, 1), (.iaload, 0, 0, 43, 75, 1), (.aload_n 0, 0, 0, 44, 76, 1), (.getfield 58, 11, 21, 45, 77, 3), (.bipush 8, 0, 0, 46, 80, 2), (.iload_n 1, 0, 0, 47, 82, 1), (.imul, 0, 0, 48, 83, 1), (.iload 4, 0, 0, 49, 84, 2), (.iadd, 0, 0, 50, 86, 1), (.iaload, 0, 0, 51, 87, 1), (.invokestatic 105, 126, 2, 52, 88, 3), (.iastore, 0, 0, 53, 91, 1), (.iinc 4 1, 0, 0, 54, 92, 3), (.goto (-42), 29, 0, 0, 95, 3), (.iload_n 3, 0, 0, 56, 98, 1), (.ireturn, 0, 0, 0, 99, 1)]
def M_X11_write : mm_M := (1, 5, k_X11_write)
abbrev n_X11_write : Nat := 193
def k_X11_allFreed : List mm_I := [(.iconst 0, 0, 0, 1, 0, 1), (.istore_n 1, 0, 0, 2, 1, 1), (.iconst 0, 0, 0, 3, 2, 1), (.istore_n 2, 0, 0, 4, 3, 1), (.iload_n 2, 0, 0, 5, 4, 1), (.aload_n 0, 0, 0, 6, 5, 1), (.getfield 125, 11, 9, 7, 6, 3), (.if_icmp .ge 18, 17, 0, 8, 9, 3), (.iload_n 1, 0, 0, 9, 12, 1), (.aload_n 0, 0, 0, 10, 13, 1), (.getfield 67, 11, 24, 11, 14, 3), (.iload_n 2, 0, 0, 12, 17, 1), (.iaload, 0, 0, 13, 18, 1), (.iadd, 0, 0, 14, 19, 1), (.istore_n 1, 0, 0, 15, 20, 1), (.iinc 2 1, 0, 0, 16, 21, 3), (.goto (-20), 4, 0, 0, 24, 3), (.iload_n 1, 0, 0, 18, 27, 1), (.ireturn, 0, 0, 0, 28, 1)]
def M_X11_allFreed : mm_M := (1, 3, k_X11_allFreed)
abbrev n_X11_allFreed : Nat := 194
def k_X11_count : List mm_I := [(.aload_n 0, 0, 0, 1, 0, 1), (.invokevirtual 204, 156, 1, 2, 1, 3), (.iload_n 1, 0, 0, 3, 4, 1), (.tableswitch 95 0 8 #[51, 56, 61, 61, 70, 75, 80, 85, 90], 32, 2, 0, 5, 51), (.aload_n 0, 0, 0, 5, 56, 1), (.getfield 122, 11, 7, 6, 57, 3), (.ireturn, 0, 0, 0, 60, 1), (.aload_n 0, 0, 0, 8, 61, 1), (.getfield 125, 11, 9, 9, 62, 3), (.ireturn, 0, 0, 0, 65, 1), (.aload_n 0, 0, 0, 11, 66, 1), (.getfield 25, 11, 6, 12, 67, 3), (.iload_n 1, 0, 0, 13, 70, 1), (.iconst 2, 0, 0, 14, 71, 1), (.isub, 0, 0, 15, 72, 1), (.iaload, 0, 0, 16, 73, 1), (.ireturn, 0, 0, 0, 74, 1), (.aload_n 0, 0, 0, 18, 75, 1), (.getfield 154, 11, 12, 19, 76, 3), (.ireturn, 0, 0, 0, 79, 1), (.aload_n 0, 0, 0, 21, 80, 1), (.getfield 157, 11, 14, 22, 81, 3), (.ireturn, 0, 0, 0, 84, 1), (.aload_n 0, 0, 0, 24, 85, 1), (.invokevirtual 282, 194, 1, 25, 86, 3), (.ireturn, 0, 0, 0, 89, 1), (.aload_n 0, 0, 0, 27, 90, 1), (.getfield 240, 11, 27, 28, 91, 3), (.ireturn, 0, 0, 0, 94, 1), (.aload_n 0, 0, 0, 30, 95, 1), (.getfield 85, 11, 4, 31, 96, 3), (.ireturn, 0, 0, 0, 99, 1), (.bipush (-2), 0, 0, 33, 100, 2), (.ireturn, 0, 0, 0, 102, 1)]
def M_X11_count : mm_M := (1, 2, k_X11_count)
abbrev n_X11_count : Nat := 195
set_option maxRecDepth 100000 in
def k_X11_tellsSlice : List mm_I := [(.aload_n 0, 0, 0, 1, 0, 1), (.invokevirtual 201, 155, 1, 2, 1, 3), (.lload_n 1, 0, 0, 3, 4, 1), (.lstore 4, 0, 0, 4, 5, 2), (.iconst 0, 0, 0, 5, 7, 1), (.istore 6, 0, 0, 6, 8, 2), (.iload 6, 0, 0, 7, 10, 2), (.iconst 3, 0, 0, 8, 12, 1), (.if_icmp .ge 30, 25, 0, 9, 13, 3), (.ldc2_w 285, 31, 0, 10, 16, 3), (.lload 4, 0, 0, 11, 19, 2), (.lmul, 0, 0, 12, 21, 1), (.aload_n 0, 0, 0, 13, 22, 1), (.getfield 31, 11, 10, 14, 23, 3), (.iconst 3, 0, 0, 15, 26, 1), (.iload_n 3, 0, 0, 16, 27, 1), (.imul, 0, 0, 17, 28, 1), (.iload 6, 0, 0, 18, 29, 2), (.iadd, 0, 0, 19, 31, 1), (.iaload, 0, 0, 20, 32, 1), (.i2l, 0, 0, 21, 33, 1), (.ladd, 0, 0, 22, 34, 1), (.lstore 4, 0, 0, 23, 35, 2), (.iinc 6 1, 0, 0, 24, 37, 3), (.goto (-30), 6, 0, 0, 40, 3), (.iconst 0, 0, 0, 26, 43, 1), (.istore 6, 0, 0, 27, 44, 2), (.iload 6, 0, 0, 28, 46, 2), (.iconst 3, 0, 0, 29, 48, 1), (.if_icmp .ge 76, 71, 0, 30, 49, 3), (.iload 6, 0, 0, 31, 52, 2), (.ifCond .ne 7, 34, 0, 32, 54, 3), (.iconst 0, 0, 0, 33, 57, 1), (.goto 15, 40, 0, 0, 58, 3), (.iload 6, 0, 0, 35, 61, 2), (.iconst 1, 0, 0, 36, 63, 1), (.if_icmp .ne 7, 39, 0, 37, 64, 3), (.iconst 5, 0, 0, 38, 67, 1), (.goto 5, 40, 0, 0, 68, 3), (.bipush 29, 0, 0, 40, 71, 2), (.istore 7, 0, 0, 41, 73, 2), (.ldc2_w 285, 31, 0, 42, 75, 3), (.lload 4, 0, 0, 43, 78, 2), (.lmul, 0, 0, 44, 80, 1), (.aload_n 0, 0, 0, 45, 81, 1), (.getfield 58, 11, 21, 46, 82, 3), (.bipush 8, 0, 0, 47, 85, 2), (.iload 7, 0, 0, 48, 87, 2), (.imul, 0, 0, 49, 89, 1), (.iload_n 3, 0, 0, 50, 90, 1), (.iadd, 0, 0, 51, 91, 1), (.iaload, 0, 0, 52, 92, 1), (.i2l, 0, 0, 53, 93, 1), (.ladd, 0, 0, 54, 94, 1), (.lstore 4, 0, 0, 55, 95, 2), (.ldc2_w 285, 31, 0, 56, 97, 3), (.lload 4, 0, 0, 57, 100, 2), (.lmul, 0, 0, 58, 102, 1), (.aload_n 0, 0, 0, 59, 103, 1), (.getfield 61, 11, 22, 60, 104, 3), (.bipush 8, 0, 0, 61, 107, 2), (.iload 7, 0, 0, 62, 109, 2), (.imul, 0, 0, 63, 111, 1), (.iload_n 3, 0, 0, 64, 112, 1), (.iadd, 0, 0, 65, 113, 1), (.iaload, 0, 0, 66, 114, 1), (.i2l, 0, 0, 67, 115, 1), (.ladd, 0, 0, 68, 116, 1), (.lstore 4, 0, 0, 69, 117, 2), (.iinc 6 1, 0, 0, 70, 119, 3), (.goto (-76), 27, 0, 0, 122, 3), (.ldc2_w 285, 31, 0, 72, 125, 3), (.lload 4, 0, 0, 73, 128, 2), (.lmul, 0, 0, 74, 130, 1), (.aload_n 0, 0, 0, 75, 131, 1), (.getfield 64, 11, 23, 76, 132, 3), (.iload_n 3, 0, 0, 77, 135, 1), (.iaload, 0, 0, 78, 136, 1), (.i2l, 0, 0, 79, 137, 1), (.ladd, 0, 0, 80, 138, 1), (.lstore 4, 0, 0, 81, 139, 2), (.ldc2_w 285, 31, 0, 82, 141, 3), (.lload 4, 0, 0, 83, 144, 2), (.lmul, 0, 0, 84, 146, 1), (.aload_n 0, 0, 0, 85, 147, 1), (.getfield 67, 11, 24, 86, 148, 3), (.iload_n 3, 0, 0, 87, 151, 1), (.iaload, 0, 0, 88, 152, 1), (.i2l, 0, 0, 89, 153, 1), (.ladd, 0, 0, 90, 154, 1), (.lstore 4, 0, 0, 91, 155, 2), (.aload_n 0, 0, 0, 92, 157, 1), (.getfield 70, 11, 25, 93, 158, 3), (.iload_n 3, 0, 0, 94, 161, 1), (.iaload, 0, 0, 95, 162, 1), (.istore 6, 0, 0, 96, 163, 2), (.ldc2_w 285, 31, 0, 97, 165, 3), (.lload 4, 0, 0, 98, 168, 2), (.lmul, 0, 0, 99, 170, 1), (.aload_n 0, 0, 0, 100, 171, 1), (.iload_n 3, 0, 0, 101, 172, 1), (.iconst 0, 0, 0, 102, 173, 1), (.invokevirtual 225, 170, 3, 103, 174, 3), (.i2l, 0, 0, 104, 177, 1), (.ladd, 0, 0, 105, 178, 1), (.lstore 4, 0, 0, 106, 179, 2), (.ldc2_w 285, 31, 0, 107, 181, 3), (.lload 4, 0, 0, 108, 184, 2), (.lmul, 0, 0, 109, 186, 1), (.aload_n 0, 0, 0, 110, 187, 1), (.iload_n 3, 0, 0, 111, 188, 1), (.iconst 1, 0, 0, 112, 189, 1), (.invokevirtual 225, 170, 3, 113, 190, 3), (.i2l, 0, 0, 114, 193, 1), (.ladd, 0, 0, 115, 194, 1), (.lstore 4, 0, 0, 116, 195, 2), (.ldc2_w 285, 31, 0, 117, 197, 3), (.lload 4, 0, 0, 118, 200, 2), (.lmul, 0, 0, 119, 202, 1), (.iload 6, 0, 0, 120, 203, 2), (.i2l, 0, 0, 121, 205, 1), (.ladd, 0, 0, 122, 206, 1), (.lstore 4, 0, 0, 123, 207, 2), (.ldc2_w 285, 31, 0, 124, 209, 3), (.lload 4, 0, 0, 125, 212, 2), (.lmul, 0, 0, 126, 214, 1), (.aload_n 0, 0, 0, 127, 215, 1), (.iload_n 3, 0, 0, 128, 216, 1), (.iconst (-1), 0, 0, 129, 217, 1), (.invokevirtual 249, 182, 3, 130, 218, 3), (.i2l, 0, 0, 131, 221, 1), (.ladd, 0, 0, 132, 222, 1), (.lstore 4, 0, 0, 133, 223, 2), (.ldc2_w 285, 31, 0, 134, 225, 3), (.lload 4, 0, 0, 135, 228, 2), (.lmul, 0, 0, 136, 230, 1), (.aload_n 0, 0, 0, 137, 231, 1), (.iload_n 3, 0, 0, 138, 232, 1), (.iconst 0, 0, 0, 139, 233, 1), (.invokevirtual 249, 182, 3, 140, 234, 3), (.i2l, 0, 0, 141, 237, 1), (.ladd, 0, 0, 142, 238, 1), (.lstore 4, 0, 0, 143, 239, 2), (.ldc2_w 285, 31, 0, 144, 241, 3), (.lload 4, 0, 0, 145, 244, 2), (.lmul, 0, 0, 146, 246, 1), (.aload_n 0, 0, 0, 147, 247, 1), (.iload_n 3, 0, 0, 148, 248, 1), (.invokevirtual 252, 184, 2, 149, 249, 3), (.i2l, 0, 0, 150, 252, 1), (.ladd, 0, 0, 151, 253, 1), (.lstore 4, 0, 0, 152, 254, 2), (.ldc2_w 285, 31, 0, 153, 256, 3), (.lload 4, 0, 0, 154, 259, 2), (.lmul, 0, 0, 155, 261, 1), (.aload_n 0, 0, 0, 156, 262, 1), (.iconst 5, 0, 0, 157, 263, 1), (.iconst 5, 0, 0, 158, 264, 1), (.iload_n 3, 0, 0, 159, 265, 1), (.bipush 9, 0, 0, 160, 266, 2), (.iconst 0, 0, 0, 161, 268, 1), (.invokevirtual 264, 188, 6, 162, 269, 3), (.ladd, 0, 0, 163, 272, 1), (.lstore 4, 0, 0, 164, 273, 2), (.ldc2_w 285, 31, 0, 165, 275, 3), (.lload 4, 0, 0, 166, 278, 2), (.lmul, 0, 0, 167, 280, 1), (.aload_n 0, 0, 0, 168, 281, 1), (.iconst 5, 0, 0, 169, 282, 1), (.iconst 5, 0, 0, 170, 283, 1), (.iload_n 3, 0, 0, 171, 284, 1), (.bipush 9, 0, 0, 172, 285, 2), (.iconst 1, 0, 0, 173, 287, 1), (.invokevirtual 264, 188, 6, 174, 288, 3), (.ladd, 0, 0, 175, 291, 1), (.lreturn, 0, 0, 0, 292, 1)]
def M_X11_tellsSlice : mm_M := (3, 8, k_X11_tellsSlice)
abbrev n_X11_tellsSlice : Nat := 196
set_option maxRecDepth 100000 in
def k_X11_digest : List mm_I := [(.ldc2_w 287, 17, 0, 1, 0, 3), (.lstore_n 1, 0, 0, 2, 3, 1), (.iconst 0, 0, 0, 3, 4, 1), (.istore_n 3, 0, 0, 4, 5, 1), (.iload_n 3, 0, 0, 5, 6, 1), (.bipush 8, 0, 0, 6, 7, 2), (.if_icmp .ge 22, 18, 0, 7, 9, 3), (.ldc2_w 285, 31, 0, 8, 12, 3), (.lload_n 1, 0, 0, 9, 15, 1), (.lmul, 0, 0, 10, 16, 1), (.aload_n 0, 0, 0, 11, 17, 1), (.iload_n 3, 0, 0, 12, 18, 1), (.invokevirtual 289, 195, 2, 13, 19, 3), (.i2l, 0, 0, 14, 22, 1), (.ladd, 0, 0, 15, 23, 1), (.lstore_n 1, 0, 0, 16, 24, 1), (.iinc 3 1, 0, 0, 17, 25, 3), (.goto (-22), 4, 0, 0, 28, 3), (.ldc2_w 285, 31, 0, 19, 31, 3), (.lload_n 1, 0, 0, 20, 34, 1), (.lmul, 0, 0, 21, 35, 1), (.aload_n 0, 0, 0, 22, 36, 1), (.invokevirtual 131, 135, 1, 23, 37, 3), (.i2l, 0, 0, 24, 40, 1), (.ladd, 0, 0, 25, 41, 1), (.lstore_n 1, 0, 0, 26, 42, 1), (.ldc2_w 285, 31, 0, 27, 43, 3), (.lload_n 1, 0, 0, 28, 46, 1), (.lmul, 0, 0, 29, 47, 1), (.aload_n 0, 0, 0, 30, 48, 1), (.invokevirtual 135, 136, 1, 31, 49, 3), (.i2l, 0, 0, 32, 52, 1), (.ladd, 0, 0, 33, 53, 1), (.lstore_n 1, 0, 0, 34, 54, 1), (.iconst 0, 0, 0, 35, 55, 1), (.istore_n 3, 0, 0, 36, 56, 1), (.iload_n 3, 0, 0, 37, 57, 1), (.aload_n 0, 0, 0, 38, 58, 1), (.getfield 122, 11, 7, 39, 59, 3), (.if_icmp .ge 23, 52, 0, 40, 62, 3), (.ldc2_w 285, 31, 0, 41, 65, 3), (.lload_n 1, 0, 0, 42, 68, 1), (.lmul, 0, 0, 43, 69, 1), (.aload_n 0, 0, 0, 44, 70, 1), (.getfield 28, 11, 8, 45, 71, 3), (.iload_n 3, 0, 0, 46, 74, 1), (.iaload, 0, 0, 47, 75, 1), (.i2l, 0, 0, 48, 76, 1), (.ladd, 0, 0, 49, 77, 1), (.lstore_n 1, 0, 0, 50, 78, 1), (.iinc 3 1, 0, 0, 51, 79, 3), (.goto (-25), 36, 0, 0, 82, 3), (.iconst 0, 0, 0, 53, 85, 1), (.istore_n 3, 0, 0, 54, 86, 1), (.iload_n 3, 0, 0, 55, 87, 1), (.aload_n 0, 0, 0, 56, 88, 1), (.getfield 125, 11, 9, 57, 89, 3), (.if_icmp .ge 16, 65, 0, 58, 92, 3), (.aload_n 0, 0, 0, 59, 95, 1), (.lload_n 1, 0, 0, 60, 96, 1), (.iload_n 3, 0, 0, 61, 97, 1), (.invokevirtual 292, 196, 3, 62, 98, 3), (.lstore_n 1, 0, 0, 63, 101, 1), (.iinc 3 1, 0, 0, 64, 102, 3), (.goto (-18), 54, 0, 0, 105, 3), (.aload_n 0, 0, 0, 66, 108, 1), (.invokevirtual 201, 155, 1, 67, 109, 3), (.ldc2_w 285, 31, 0, 68, 112, 3), (.lload_n 1, 0, 0, 69, 115, 1), (.lmul, 0, 0, 70, 116, 1), (.aload_n 0, 0, 0, 71, 117, 1), (.iconst 5, 0, 0, 72, 118, 1), (.invokevirtual 207, 159, 2, 73, 119, 3), (.i2l, 0, 0, 74, 122, 1), (.ladd, 0, 0, 75, 123, 1), (.lstore_n 1, 0, 0, 76, 124, 1), (.ldc2_w 285, 31, 0, 77, 125, 3), (.lload_n 1, 0, 0, 78, 128, 1), (.lmul, 0, 0, 79, 129, 1), (.aload_n 0, 0, 0, 80, 130, 1), (.invokevirtual 213, 163, 1, 81, 131, 3), (.i2l, 0, 0, 82, 134, 1), (.ladd, 0, 0, 83, 135, 1), (.lstore_n 1, 0, 0, 84, 136, 1), (.ldc2_w 285, 31, 0, 85, 137, 3), (.lload_n 1, 0, 0, 86, 140, 1), (.lmul, 0, 0, 87, 141, 1), (.aload_n 0, 0, 0, 88, 142, 1), (.invokevirtual 219, 166, 1, 89, 143, 3), (.i2l, 0, 0, 90, 146, 1), (.ladd, 0, 0, 91, 147, 1), (.lstore_n 1, 0, 0, 92, 148, 1), (.ldc2_w 285, 31, 0, 93, 149, 3), (.lload_n 1, 0, 0, 94, 152, 1), (.lmul, 0, 0, 95, 153, 1), (.aload_n 0, 0, 0, 96, 154, 1), (.iconst 0, 0, 0, 97, 155, 1), (.invokevirtual 222, 168, 2, 98, 156, 3), (.i2l, 0, 0, 99, 159, 1), (.ladd, 0, 0, 100, 160, 1), (.lstore_n 1, 0, 0, 101, 161, 1), (.ldc2_w 285, 31, 0, 102, 162, 3), (.lload_n 1, 0, 0, 103, 165, 1), (.lmul, 0, 0, 104, 166, 1), (.aload_n 0, 0, 0, 105, 167, 1), (.iconst 1, 0, 0, 106, 168, 1), (.invokevirtual 222, 168, 2, 107, 169, 3), (.i2l, 0, 0, 108, 172, 1), (.ladd, 0, 0, 109, 173, 1), (.lstore_n 1, 0, 0, 110, 174, 1), (.iconst 0, 0, 0, 111, 175, 1), (.istore_n 3, 0, 0, 112, 176, 1), (.iload_n 3, 0, 0, 113, 177, 1), (.iconst 3, 0, 0, 114, 178, 1), (.if_icmp .ge 22, 126, 0, 115, 179, 3), (.ldc2_w 285, 31, 0, 116, 182, 3), (.lload_n 1, 0, 0, 117, 185, 1), (.lmul, 0, 0, 118, 186, 1), (.aload_n 0, 0, 0, 119, 187, 1), (.iload_n 3, 0, 0, 120, 188, 1), (.invokevirtual 234, 174, 2, 121, 189, 3), (.i2l, 0, 0, 122, 192, 1), (.ladd, 0, 0, 123, 193, 1), (.lstore_n 1, 0, 0, 124, 194, 1), (.iinc 3 1, 0, 0, 125, 195, 3), (.goto (-21), 112, 0, 0, 198, 3), (.ldc2_w 285, 31, 0, 127, 201, 3), (.lload_n 1, 0, 0, 128, 204, 1), (.lmul, 0, 0, 129, 205, 1), (.aload_n 0, 0, 0, 130, 206, 1), (.invokevirtual 237, 177, 1, 131, 207, 3), (.i2l, 0, 0, 132, 210, 1), (.ladd, 0, 0, 133, 211, 1), (.lstore_n 1, 0, 0, 134, 212, 1), (.ldc2_w 285, 31, 0, 135, 213, 3), (.lload_n 1, 0, 0, 136, 216, 1), (.lmul, 0, 0, 137, 217, 1), (.aload_n 0, 0, 0, 138, 218, 1), (.iconst 5, 0, 0, 139, 219, 1), (.invokevirtual 255, 186, 2, 140, 220, 3), (.i2l, 0, 0, 141, 223, 1), (.ladd, 0, 0, 142, 224, 1), (.lstore_n 1, 0, 0, 143, 225, 1), (.ldc2_w 285, 31, 0, 144, 226, 3), (.lload_n 1, 0, 0, 145, 229, 1), (.lmul, 0, 0, 146, 230, 1), (.aload_n 0, 0, 0, 147, 231, 1), (.bipush 7, 0, 0, 148, 232, 2), (.iconst 0, 0, 0, 149, 234, 1), (.invokevirtual 279, 191, 3, 150, 235, 3), (.i2l, 0, 0, 151, 238, 1), (.ladd, 0, 0, 152, 239, 1), (.lstore_n 1, 0, 0, 153, 240, 1), (.ldc2_w 285, 31, 0, 154, 241, 3), (.lload_n 1, 0, 0, 155, 244, 1), (.lmul, 0, 0, 156, 245, 1), (.aload_n 0, 0, 0, 157, 246, 1), (.bipush 7, 0, 0, 158, 247, 2), (.iconst 1, 0, 0, 159, 249, 1), (.invokevirtual 279, 191, 3, 160, 250, 3), (.i2l, 0, 0, 161, 253, 1), (.ladd, 0, 0, 162, 254, 1), (.lreturn, 0, 0, 0, 255, 1)]
def M_X11_digest : mm_M := (3, 4, k_X11_digest)
abbrev n_X11_digest : Nat := 197
set_option maxRecDepth 100000 in
def k_L0 : List mm_I := [(.new 7, 10, 0, 1, 0, 3), (.dup, 0, 0, 2, 3, 1), (.invokespecial 9, 61, 1, 3, 4, 3), (.astore_n 1, 0, 0, 4, 7, 1), (.new 10, 11, 0, 5, 8, 3), (.dup, 0, 0, 6, 11, 1), (.invokespecial 12, 113, 1, 7, 12, 3), (.astore_n 2, 0, 0, 8, 15, 1), (.iconst 0, 0, 0, 9, 16, 1), (.istore_n 3, 0, 0, 10, 17, 1), (.iload_n 3, 0, 0, 11, 18, 1), (.aload_n 0, 0, 0, 12, 19, 1), (.arraylength, 0, 0, 13, 20, 1), (.bipush 6, 0, 0, 14, 21, 2), (.isub, 0, 0, 15, 23, 1), (.if_icmp .gt 1261, 885, 0, 16, 24, 3), (.aload_n 0, 0, 0, 17, 27, 1), (.iload_n 3, 0, 0, 18, 28, 1), (.iaload, 0, 0, 19, 29, 1), (.bipush 63, 0, 0, 20, 30, 2), (.iand, 0, 0, 21, 32, 1), (.tableswitch 1246 0 36 #[163, 196, 219, 242, 265, 288, 321, 354, 387, 410, 433, 456, 489, 522, 545, 578, 591, 604, 627, 660, 683, 706, 719, 762, 775, 808, 831, 854, 918, 951, 994, 1017, 1070, 1113, 1176, 1209, 1232], 883, 3, 0, 33, 163), (.aload_n 1, 0, 0, 23, 196, 1), (.aload_n 0, 0, 0, 24, 197, 1), (.iload_n 3, 0, 0, 25, 198, 1), (.iconst 1, 0, 0, 26, 199, 1), (.iadd, 0, 0, 27, 200, 1), (.iaload, 0, 0, 28, 201, 1), (.aload_n 0, 0, 0, 29, 202, 1), (.iload_n 3, 0, 0, 30, 203, 1), (.iconst 2, 0, 0, 31, 204, 1), (.iadd, 0, 0, 32, 205, 1), (.iaload, 0, 0, 33, 206, 1), (.invokevirtual 13, 62, 3, 34, 207, 3), (.aload_n 2, 0, 0, 35, 210, 1), (.aload_n 0, 0, 0, 36, 211, 1), (.iload_n 3, 0, 0, 37, 212, 1), (.iconst 1, 0, 0, 38, 213, 1), (.iadd, 0, 0, 39, 214, 1), (.iaload, 0, 0, 40, 215, 1), (.aload_n 0, 0, 0, 41, 216, 1), (.iload_n 3, 0, 0, 42, 217, 1), (.iconst 2, 0, 0, 43, 218, 1), (.iadd, 0, 0, 44, 219, 1), (.iaload, 0, 0, 45, 220, 1), (.invokevirtual 17, 130, 3, 46, 221, 3), (.if_icmp .eq 1055, 883, 0, 47, 224, 3), (.iconst 0, 0, 0, 48, 227, 1), (.ireturn, 0, 0, 0, 228, 1), (.aload_n 1, 0, 0, 50, 229, 1), (.aload_n 0, 0, 0, 51, 230, 1), (.iload_n 3, 0, 0, 52, 231, 1), (.iconst 1, 0, 0, 53, 232, 1), (.iadd, 0, 0, 54, 233, 1), (.iaload, 0, 0, 55, 234, 1), (.invokevirtual 18, 63, 2, 56, 235, 3), (.aload_n 2, 0, 0, 57, 238, 1), (.aload_n 0, 0, 0, 58, 239, 1), (.iload_n 3, 0, 0, 59, 240, 1), (.iconst 1, 0, 0, 60, 241, 1), (.iadd, 0, 0, 61, 242, 1), (.iaload, 0, 0, 62, 243, 1), (.invokevirtual 22, 131, 2, 63, 244, 3), (.if_icmp .eq 1032, 883, 0, 64, 247, 3), (.iconst 0, 0, 0, 65, 250, 1), (.ireturn, 0, 0, 0, 251, 1), (.aload_n 1, 0, 0, 67, 252, 1), (.aload_n 0, 0, 0, 68, 253, 1), (.iload_n 3, 0, 0, 69, 254, 1), (.iconst 1, 0, 0, 70, 255, 1), (.iadd, 0, 0, 71, 256, 1), (.iaload, 0, 0, 72, 257, 1), (.invokevirtual 23, 64, 2, 73, 258, 3), (.aload_n 2, 0, 0, 74, 261, 1), (.aload_n 0, 0, 0, 75, 262, 1), (.iload_n 3, 0, 0, 76, 263, 1), (.iconst 1, 0, 0, 77, 264, 1), (.iadd, 0, 0, 78, 265, 1), (.iaload, 0, 0, 79, 266, 1), (.invokevirtual 26, 132, 2, 80, 267, 3), (.if_icmp .eq 1009, 883, 0, 81, 270, 3), (.iconst 0, 0, 0, 82, 273, 1), (.ireturn, 0, 0, 0, 274, 1), (.aload_n 1, 0, 0, 84, 275, 1), (.aload_n 0, 0, 0, 85, 276, 1), (.iload_n 3, 0, 0, 86, 277, 1), (.iconst 1, 0, 0, 87, 278, 1), (.iadd, 0, 0, 88, 279, 1), (.iaload, 0, 0, 89, 280, 1), (.invokevirtual 27, 65, 2, 90, 281, 3), (.aload_n 2, 0, 0, 91, 284, 1), (.aload_n 0, 0, 0, 92, 285, 1), (.iload_n 3, 0, 0, 93, 286, 1), (.iconst 1, 0, 0, 94, 287, 1), (.iadd, 0, 0, 95, 288, 1), (.iaload, 0, 0, 96, 289, 1), (.invokevirtual 30, 137, 2, 97, 290, 3), (.if_icmp .eq 986, 883, 0, 98, 293, 3), (.iconst 0, 0, 0, 99, 296, 1), (.ireturn, 0, 0, 0, 297, 1)]
set_option maxRecDepth 100000 in
def k_L1 : List mm_I := [(.aload_n 1, 0, 0, 101, 298, 1), (.aload_n 0, 0, 0, 102, 299, 1), (.iload_n 3, 0, 0, 103, 300, 1), (.iconst 1, 0, 0, 104, 301, 1), (.iadd, 0, 0, 105, 302, 1), (.iaload, 0, 0, 106, 303, 1), (.invokevirtual 31, 66, 2, 107, 304, 3), (.aload_n 2, 0, 0, 108, 307, 1), (.aload_n 0, 0, 0, 109, 308, 1), (.iload_n 3, 0, 0, 110, 309, 1), (.iconst 1, 0, 0, 111, 310, 1), (.iadd, 0, 0, 112, 311, 1), (.iaload, 0, 0, 113, 312, 1), (.invokevirtual 34, 140, 2, 114, 313, 3), (.if_icmp .eq 963, 883, 0, 115, 316, 3), (.iconst 0, 0, 0, 116, 319, 1), (.ireturn, 0, 0, 0, 320, 1), (.aload_n 1, 0, 0, 118, 321, 1), (.aload_n 0, 0, 0, 119, 322, 1), (.iload_n 3, 0, 0, 120, 323, 1), (.iconst 1, 0, 0, 121, 324, 1), (.iadd, 0, 0, 122, 325, 1), (.iaload, 0, 0, 123, 326, 1), (.aload_n 0, 0, 0, 124, 327, 1), (.iload_n 3, 0, 0, 125, 328, 1), (.iconst 2, 0, 0, 126, 329, 1), (.iadd, 0, 0, 127, 330, 1), (.iaload, 0, 0, 128, 331, 1), (.invokevirtual 35, 67, 3, 129, 332, 3), (.aload_n 2, 0, 0, 130, 335, 1), (.aload_n 0, 0, 0, 131, 336, 1), (.iload_n 3, 0, 0, 132, 337, 1), (.iconst 1, 0, 0, 133, 338, 1), (.iadd, 0, 0, 134, 339, 1), (.iaload, 0, 0, 135, 340, 1), (.aload_n 0, 0, 0, 136, 341, 1), (.iload_n 3, 0, 0, 137, 342, 1), (.iconst 2, 0, 0, 138, 343, 1), (.iadd, 0, 0, 139, 344, 1), (.iaload, 0, 0, 140, 345, 1), (.invokevirtual 38, 141, 3, 141, 346, 3), (.if_icmp .eq 930, 883, 0, 142, 349, 3), (.iconst 0, 0, 0, 143, 352, 1), (.ireturn, 0, 0, 0, 353, 1), (.aload_n 1, 0, 0, 145, 354, 1), (.aload_n 0, 0, 0, 146, 355, 1), (.iload_n 3, 0, 0, 147, 356, 1), (.iconst 1, 0, 0, 148, 357, 1), (.iadd, 0, 0, 149, 358, 1), (.iaload, 0, 0, 150, 359, 1), (.aload_n 0, 0, 0, 151, 360, 1), (.iload_n 3, 0, 0, 152, 361, 1), (.iconst 2, 0, 0, 153, 362, 1), (.iadd, 0, 0, 154, 363, 1), (.iaload, 0, 0, 155, 364, 1), (.invokevirtual 39, 68, 3, 156, 365, 3), (.aload_n 2, 0, 0, 157, 368, 1), (.aload_n 0, 0, 0, 158, 369, 1), (.iload_n 3, 0, 0, 159, 370, 1), (.iconst 1, 0, 0, 160, 371, 1), (.iadd, 0, 0, 161, 372, 1), (.iaload, 0, 0, 162, 373, 1), (.aload_n 0, 0, 0, 163, 374, 1), (.iload_n 3, 0, 0, 164, 375, 1), (.iconst 2, 0, 0, 165, 376, 1), (.iadd, 0, 0, 166, 377, 1), (.iaload, 0, 0, 167, 378, 1), (.invokevirtual 42, 142, 3, 168, 379, 3), (.if_icmp .eq 897, 883, 0, 169, 382, 3), (.iconst 0, 0, 0, 170, 385, 1), (.ireturn, 0, 0, 0, 386, 1), (.aload_n 1, 0, 0, 172, 387, 1), (.aload_n 0, 0, 0, 173, 388, 1), (.iload_n 3, 0, 0, 174, 389, 1), (.iconst 1, 0, 0, 175, 390, 1), (.iadd, 0, 0, 176, 391, 1), (.iaload, 0, 0, 177, 392, 1), (.aload_n 0, 0, 0, 178, 393, 1), (.iload_n 3, 0, 0, 179, 394, 1), (.iconst 2, 0, 0, 180, 395, 1), (.iadd, 0, 0, 181, 396, 1), (.iaload, 0, 0, 182, 397, 1), (.invokevirtual 43, 69, 3, 183, 398, 3), (.aload_n 2, 0, 0, 184, 401, 1), (.aload_n 0, 0, 0, 185, 402, 1), (.iload_n 3, 0, 0, 186, 403, 1), (.iconst 1, 0, 0, 187, 404, 1), (.iadd, 0, 0, 188, 405, 1), (.iaload, 0, 0, 189, 406, 1), (.aload_n 0, 0, 0, 190, 407, 1), (.iload_n 3, 0, 0, 191, 408, 1), (.iconst 2, 0, 0, 192, 409, 1), (.iadd, 0, 0, 193, 410, 1), (.iaload, 0, 0, 194, 411, 1), (.invokevirtual 46, 143, 3, 195, 412, 3), (.if_icmp .eq 864, 883, 0, 196, 415, 3), (.iconst 0, 0, 0, 197, 418, 1), (.ireturn, 0, 0, 0, 419, 1), (.aload_n 1, 0, 0, 199, 420, 1), (.aload_n 0, 0, 0, 200, 421, 1)]
set_option maxRecDepth 100000 in
def k_L2 : List mm_I := [(.iload_n 3, 0, 0, 201, 422, 1), (.iconst 1, 0, 0, 202, 423, 1), (.iadd, 0, 0, 203, 424, 1), (.iaload, 0, 0, 204, 425, 1), (.invokevirtual 47, 70, 2, 205, 426, 3), (.aload_n 2, 0, 0, 206, 429, 1), (.aload_n 0, 0, 0, 207, 430, 1), (.iload_n 3, 0, 0, 208, 431, 1), (.iconst 1, 0, 0, 209, 432, 1), (.iadd, 0, 0, 210, 433, 1), (.iaload, 0, 0, 211, 434, 1), (.invokevirtual 50, 144, 2, 212, 435, 3), (.if_icmp .eq 841, 883, 0, 213, 438, 3), (.iconst 0, 0, 0, 214, 441, 1), (.ireturn, 0, 0, 0, 442, 1), (.aload_n 1, 0, 0, 216, 443, 1), (.aload_n 0, 0, 0, 217, 444, 1), (.iload_n 3, 0, 0, 218, 445, 1), (.iconst 1, 0, 0, 219, 446, 1), (.iadd, 0, 0, 220, 447, 1), (.iaload, 0, 0, 221, 448, 1), (.invokevirtual 51, 71, 2, 222, 449, 3), (.aload_n 2, 0, 0, 223, 452, 1), (.aload_n 0, 0, 0, 224, 453, 1), (.iload_n 3, 0, 0, 225, 454, 1), (.iconst 1, 0, 0, 226, 455, 1), (.iadd, 0, 0, 227, 456, 1), (.iaload, 0, 0, 228, 457, 1), (.invokevirtual 54, 145, 2, 229, 458, 3), (.if_icmp .eq 818, 883, 0, 230, 461, 3), (.iconst 0, 0, 0, 231, 464, 1), (.ireturn, 0, 0, 0, 465, 1), (.aload_n 1, 0, 0, 233, 466, 1), (.aload_n 0, 0, 0, 234, 467, 1), (.iload_n 3, 0, 0, 235, 468, 1), (.iconst 1, 0, 0, 236, 469, 1), (.iadd, 0, 0, 237, 470, 1), (.iaload, 0, 0, 238, 471, 1), (.invokevirtual 55, 72, 2, 239, 472, 3), (.aload_n 2, 0, 0, 240, 475, 1), (.aload_n 0, 0, 0, 241, 476, 1), (.iload_n 3, 0, 0, 242, 477, 1), (.iconst 1, 0, 0, 243, 478, 1), (.iadd, 0, 0, 244, 479, 1), (.iaload, 0, 0, 245, 480, 1), (.invokevirtual 58, 146, 2, 246, 481, 3), (.if_icmp .eq 795, 883, 0, 247, 484, 3), (.iconst 0, 0, 0, 248, 487, 1), (.ireturn, 0, 0, 0, 488, 1), (.aload_n 1, 0, 0, 250, 489, 1), (.aload_n 0, 0, 0, 251, 490, 1), (.iload_n 3, 0, 0, 252, 491, 1), (.iconst 1, 0, 0, 253, 492, 1), (.iadd, 0, 0, 254, 493, 1), (.iaload, 0, 0, 255, 494, 1), (.aload_n 0, 0, 0, 256, 495, 1), (.iload_n 3, 0, 0, 257, 496, 1), (.iconst 2, 0, 0, 258, 497, 1), (.iadd, 0, 0, 259, 498, 1), (.iaload, 0, 0, 260, 499, 1), (.invokevirtual 59, 73, 3, 261, 500, 3), (.aload_n 2, 0, 0, 262, 503, 1), (.aload_n 0, 0, 0, 263, 504, 1), (.iload_n 3, 0, 0, 264, 505, 1), (.iconst 1, 0, 0, 265, 506, 1), (.iadd, 0, 0, 266, 507, 1), (.iaload, 0, 0, 267, 508, 1), (.aload_n 0, 0, 0, 268, 509, 1), (.iload_n 3, 0, 0, 269, 510, 1), (.iconst 2, 0, 0, 270, 511, 1), (.iadd, 0, 0, 271, 512, 1), (.iaload, 0, 0, 272, 513, 1), (.invokevirtual 62, 157, 3, 273, 514, 3), (.if_icmp .eq 762, 883, 0, 274, 517, 3), (.iconst 0, 0, 0, 275, 520, 1), (.ireturn, 0, 0, 0, 521, 1), (.aload_n 1, 0, 0, 277, 522, 1), (.aload_n 0, 0, 0, 278, 523, 1), (.iload_n 3, 0, 0, 279, 524, 1), (.iconst 1, 0, 0, 280, 525, 1), (.iadd, 0, 0, 281, 526, 1), (.iaload, 0, 0, 282, 527, 1), (.aload_n 0, 0, 0, 283, 528, 1), (.iload_n 3, 0, 0, 284, 529, 1), (.iconst 2, 0, 0, 285, 530, 1), (.iadd, 0, 0, 286, 531, 1), (.iaload, 0, 0, 287, 532, 1), (.invokevirtual 63, 74, 3, 288, 533, 3), (.aload_n 2, 0, 0, 289, 536, 1), (.aload_n 0, 0, 0, 290, 537, 1), (.iload_n 3, 0, 0, 291, 538, 1), (.iconst 1, 0, 0, 292, 539, 1), (.iadd, 0, 0, 293, 540, 1), (.iaload, 0, 0, 294, 541, 1), (.aload_n 0, 0, 0, 295, 542, 1), (.iload_n 3, 0, 0, 296, 543, 1), (.iconst 2, 0, 0, 297, 544, 1), (.iadd, 0, 0, 298, 545, 1), (.iaload, 0, 0, 299, 546, 1), (.invokevirtual 66, 158, 3, 300, 547, 3)]
set_option maxRecDepth 100000 in
def k_L3 : List mm_I := [(.if_icmp .eq 729, 883, 0, 301, 550, 3), (.iconst 0, 0, 0, 302, 553, 1), (.ireturn, 0, 0, 0, 554, 1), (.aload_n 1, 0, 0, 304, 555, 1), (.aload_n 0, 0, 0, 305, 556, 1), (.iload_n 3, 0, 0, 306, 557, 1), (.iconst 1, 0, 0, 307, 558, 1), (.iadd, 0, 0, 308, 559, 1), (.iaload, 0, 0, 309, 560, 1), (.invokevirtual 67, 75, 2, 310, 561, 3), (.aload_n 2, 0, 0, 311, 564, 1), (.aload_n 0, 0, 0, 312, 565, 1), (.iload_n 3, 0, 0, 313, 566, 1), (.iconst 1, 0, 0, 314, 567, 1), (.iadd, 0, 0, 315, 568, 1), (.iaload, 0, 0, 316, 569, 1), (.invokevirtual 70, 160, 2, 317, 570, 3), (.if_icmp .eq 706, 883, 0, 318, 573, 3), (.iconst 0, 0, 0, 319, 576, 1), (.ireturn, 0, 0, 0, 577, 1), (.aload_n 1, 0, 0, 321, 578, 1), (.aload_n 0, 0, 0, 322, 579, 1), (.iload_n 3, 0, 0, 323, 580, 1), (.iconst 1, 0, 0, 324, 581, 1), (.iadd, 0, 0, 325, 582, 1), (.iaload, 0, 0, 326, 583, 1), (.aload_n 0, 0, 0, 327, 584, 1), (.iload_n 3, 0, 0, 328, 585, 1), (.iconst 2, 0, 0, 329, 586, 1), (.iadd, 0, 0, 330, 587, 1), (.iaload, 0, 0, 331, 588, 1), (.invokevirtual 71, 76, 3, 332, 589, 3), (.aload_n 2, 0, 0, 333, 592, 1), (.aload_n 0, 0, 0, 334, 593, 1), (.iload_n 3, 0, 0, 335, 594, 1), (.iconst 1, 0, 0, 336, 595, 1), (.iadd, 0, 0, 337, 596, 1), (.iaload, 0, 0, 338, 597, 1), (.aload_n 0, 0, 0, 339, 598, 1), (.iload_n 3, 0, 0, 340, 599, 1), (.iconst 2, 0, 0, 341, 600, 1), (.iadd, 0, 0, 342, 601, 1), (.iaload, 0, 0, 343, 602, 1), (.invokevirtual 74, 162, 3, 344, 603, 3), (.if_icmp .eq 673, 883, 0, 345, 606, 3), (.iconst 0, 0, 0, 346, 609, 1), (.ireturn, 0, 0, 0, 610, 1), (.aload_n 1, 0, 0, 348, 611, 1), (.invokevirtual 75, 77, 1, 349, 612, 3), (.aload_n 2, 0, 0, 350, 615, 1), (.invokevirtual 79, 164, 1, 351, 616, 3), (.if_icmp .eq 660, 883, 0, 352, 619, 3), (.iconst 0, 0, 0, 353, 622, 1), (.ireturn, 0, 0, 0, 623, 1), (.aload_n 1, 0, 0, 355, 624, 1), (.invokevirtual 80, 78, 1, 356, 625, 3), (.aload_n 2, 0, 0, 357, 628, 1), (.invokevirtual 83, 167, 1, 358, 629, 3), (.if_icmp .eq 647, 883, 0, 359, 632, 3), (.iconst 0, 0, 0, 360, 635, 1), (.ireturn, 0, 0, 0, 636, 1), (.aload_n 1, 0, 0, 362, 637, 1), (.aload_n 0, 0, 0, 363, 638, 1), (.iload_n 3, 0, 0, 364, 639, 1), (.iconst 1, 0, 0, 365, 640, 1), (.iadd, 0, 0, 366, 641, 1), (.iaload, 0, 0, 367, 642, 1), (.invokevirtual 84, 79, 2, 368, 643, 3), (.aload_n 2, 0, 0, 369, 646, 1), (.aload_n 0, 0, 0, 370, 647, 1), (.iload_n 3, 0, 0, 371, 648, 1), (.iconst 1, 0, 0, 372, 649, 1), (.iadd, 0, 0, 373, 650, 1), (.iaload, 0, 0, 374, 651, 1), (.invokevirtual 87, 169, 2, 375, 652, 3), (.if_icmp .eq 624, 883, 0, 376, 655, 3), (.iconst 0, 0, 0, 377, 658, 1), (.ireturn, 0, 0, 0, 659, 1), (.aload_n 1, 0, 0, 379, 660, 1), (.aload_n 0, 0, 0, 380, 661, 1), (.iload_n 3, 0, 0, 381, 662, 1), (.iconst 1, 0, 0, 382, 663, 1), (.iadd, 0, 0, 383, 664, 1), (.iaload, 0, 0, 384, 665, 1), (.aload_n 0, 0, 0, 385, 666, 1), (.iload_n 3, 0, 0, 386, 667, 1), (.iconst 2, 0, 0, 387, 668, 1), (.iadd, 0, 0, 388, 669, 1), (.iaload, 0, 0, 389, 670, 1), (.invokevirtual 88, 80, 3, 390, 671, 3), (.aload_n 2, 0, 0, 391, 674, 1), (.aload_n 0, 0, 0, 392, 675, 1), (.iload_n 3, 0, 0, 393, 676, 1), (.iconst 1, 0, 0, 394, 677, 1), (.iadd, 0, 0, 395, 678, 1), (.iaload, 0, 0, 396, 679, 1), (.aload_n 0, 0, 0, 397, 680, 1), (.iload_n 3, 0, 0, 398, 681, 1), (.iconst 2, 0, 0, 399, 682, 1), (.iadd, 0, 0, 400, 683, 1)]
set_option maxRecDepth 100000 in
def k_L4 : List mm_I := [(.iaload, 0, 0, 401, 684, 1), (.invokevirtual 91, 171, 3, 402, 685, 3), (.if_icmp .eq 591, 883, 0, 403, 688, 3), (.iconst 0, 0, 0, 404, 691, 1), (.ireturn, 0, 0, 0, 692, 1), (.aload_n 1, 0, 0, 406, 693, 1), (.aload_n 0, 0, 0, 407, 694, 1), (.iload_n 3, 0, 0, 408, 695, 1), (.iconst 1, 0, 0, 409, 696, 1), (.iadd, 0, 0, 410, 697, 1), (.iaload, 0, 0, 411, 698, 1), (.invokevirtual 92, 81, 2, 412, 699, 3), (.aload_n 2, 0, 0, 413, 702, 1), (.aload_n 0, 0, 0, 414, 703, 1), (.iload_n 3, 0, 0, 415, 704, 1), (.iconst 1, 0, 0, 416, 705, 1), (.iadd, 0, 0, 417, 706, 1), (.iaload, 0, 0, 418, 707, 1), (.invokevirtual 95, 175, 2, 419, 708, 3), (.if_icmp .eq 568, 883, 0, 420, 711, 3), (.iconst 0, 0, 0, 421, 714, 1), (.ireturn, 0, 0, 0, 715, 1), (.aload_n 1, 0, 0, 423, 716, 1), (.aload_n 0, 0, 0, 424, 717, 1), (.iload_n 3, 0, 0, 425, 718, 1), (.iconst 1, 0, 0, 426, 719, 1), (.iadd, 0, 0, 427, 720, 1), (.iaload, 0, 0, 428, 721, 1), (.invokevirtual 96, 82, 2, 429, 722, 3), (.aload_n 2, 0, 0, 430, 725, 1), (.aload_n 0, 0, 0, 431, 726, 1), (.iload_n 3, 0, 0, 432, 727, 1), (.iconst 1, 0, 0, 433, 728, 1), (.iadd, 0, 0, 434, 729, 1), (.iaload, 0, 0, 435, 730, 1), (.invokevirtual 99, 176, 2, 436, 731, 3), (.if_icmp .eq 545, 883, 0, 437, 734, 3), (.iconst 0, 0, 0, 438, 737, 1), (.ireturn, 0, 0, 0, 738, 1), (.aload_n 1, 0, 0, 440, 739, 1), (.invokevirtual 100, 83, 1, 441, 740, 3), (.aload_n 2, 0, 0, 442, 743, 1), (.invokevirtual 103, 178, 1, 443, 744, 3), (.if_icmp .eq 532, 883, 0, 444, 747, 3), (.iconst 0, 0, 0, 445, 750, 1), (.ireturn, 0, 0, 0, 751, 1), (.aload_n 1, 0, 0, 447, 752, 1), (.aload_n 0, 0, 0, 448, 753, 1), (.iload_n 3, 0, 0, 449, 754, 1), (.iconst 1, 0, 0, 450, 755, 1), (.iadd, 0, 0, 451, 756, 1), (.iaload, 0, 0, 452, 757, 1), (.aload_n 0, 0, 0, 453, 758, 1), (.iload_n 3, 0, 0, 454, 759, 1), (.iconst 2, 0, 0, 455, 760, 1), (.iadd, 0, 0, 456, 761, 1), (.iaload, 0, 0, 457, 762, 1), (.aload_n 0, 0, 0, 458, 763, 1), (.iload_n 3, 0, 0, 459, 764, 1), (.iconst 3, 0, 0, 460, 765, 1), (.iadd, 0, 0, 461, 766, 1), (.iaload, 0, 0, 462, 767, 1), (.invokevirtual 104, 84, 4, 463, 768, 3), (.aload_n 2, 0, 0, 464, 771, 1), (.aload_n 0, 0, 0, 465, 772, 1), (.iload_n 3, 0, 0, 466, 773, 1), (.iconst 1, 0, 0, 467, 774, 1), (.iadd, 0, 0, 468, 775, 1), (.iaload, 0, 0, 469, 776, 1), (.aload_n 0, 0, 0, 470, 777, 1), (.iload_n 3, 0, 0, 471, 778, 1), (.iconst 2, 0, 0, 472, 779, 1), (.iadd, 0, 0, 473, 780, 1), (.iaload, 0, 0, 474, 781, 1), (.aload_n 0, 0, 0, 475, 782, 1), (.iload_n 3, 0, 0, 476, 783, 1), (.iconst 3, 0, 0, 477, 784, 1), (.iadd, 0, 0, 478, 785, 1), (.iaload, 0, 0, 479, 786, 1), (.invokevirtual 108, 179, 4, 480, 787, 3), (.if_icmp .eq 489, 883, 0, 481, 790, 3), (.iconst 0, 0, 0, 482, 793, 1), (.ireturn, 0, 0, 0, 794, 1), (.aload_n 1, 0, 0, 484, 795, 1), (.invokevirtual 109, 85, 1, 485, 796, 3), (.aload_n 2, 0, 0, 486, 799, 1), (.invokevirtual 112, 180, 1, 487, 800, 3), (.if_icmp .eq 476, 883, 0, 488, 803, 3), (.iconst 0, 0, 0, 489, 806, 1), (.ireturn, 0, 0, 0, 807, 1), (.aload_n 1, 0, 0, 491, 808, 1), (.aload_n 0, 0, 0, 492, 809, 1), (.iload_n 3, 0, 0, 493, 810, 1), (.iconst 1, 0, 0, 494, 811, 1), (.iadd, 0, 0, 495, 812, 1), (.iaload, 0, 0, 496, 813, 1), (.aload_n 0, 0, 0, 497, 814, 1), (.iload_n 3, 0, 0, 498, 815, 1), (.iconst 2, 0, 0, 499, 816, 1), (.iadd, 0, 0, 500, 817, 1)]
set_option maxRecDepth 100000 in
def k_L5 : List mm_I := [(.iaload, 0, 0, 501, 818, 1), (.invokevirtual 113, 86, 3, 502, 819, 3), (.aload_n 2, 0, 0, 503, 822, 1), (.aload_n 0, 0, 0, 504, 823, 1), (.iload_n 3, 0, 0, 505, 824, 1), (.iconst 1, 0, 0, 506, 825, 1), (.iadd, 0, 0, 507, 826, 1), (.iaload, 0, 0, 508, 827, 1), (.aload_n 0, 0, 0, 509, 828, 1), (.iload_n 3, 0, 0, 510, 829, 1), (.iconst 2, 0, 0, 511, 830, 1), (.iadd, 0, 0, 512, 831, 1), (.iaload, 0, 0, 513, 832, 1), (.invokevirtual 116, 183, 3, 514, 833, 3), (.if_icmp .eq 443, 883, 0, 515, 836, 3), (.iconst 0, 0, 0, 516, 839, 1), (.ireturn, 0, 0, 0, 840, 1), (.aload_n 1, 0, 0, 518, 841, 1), (.aload_n 0, 0, 0, 519, 842, 1), (.iload_n 3, 0, 0, 520, 843, 1), (.iconst 1, 0, 0, 521, 844, 1), (.iadd, 0, 0, 522, 845, 1), (.iaload, 0, 0, 523, 846, 1), (.invokevirtual 117, 87, 2, 524, 847, 3), (.aload_n 2, 0, 0, 525, 850, 1), (.aload_n 0, 0, 0, 526, 851, 1), (.iload_n 3, 0, 0, 527, 852, 1), (.iconst 1, 0, 0, 528, 853, 1), (.iadd, 0, 0, 529, 854, 1), (.iaload, 0, 0, 530, 855, 1), (.invokevirtual 120, 185, 2, 531, 856, 3), (.if_icmp .eq 420, 883, 0, 532, 859, 3), (.iconst 0, 0, 0, 533, 862, 1), (.ireturn, 0, 0, 0, 863, 1), (.aload_n 1, 0, 0, 535, 864, 1), (.aload_n 0, 0, 0, 536, 865, 1), (.iload_n 3, 0, 0, 537, 866, 1), (.iconst 1, 0, 0, 538, 867, 1), (.iadd, 0, 0, 539, 868, 1), (.iaload, 0, 0, 540, 869, 1), (.invokevirtual 121, 88, 2, 541, 870, 3), (.aload_n 2, 0, 0, 542, 873, 1), (.aload_n 0, 0, 0, 543, 874, 1), (.iload_n 3, 0, 0, 544, 875, 1), (.iconst 1, 0, 0, 545, 876, 1), (.iadd, 0, 0, 546, 877, 1), (.iaload, 0, 0, 547, 878, 1), (.invokevirtual 124, 187, 2, 548, 879, 3), (.if_icmp .eq 397, 883, 0, 549, 882, 3), (.iconst 0, 0, 0, 550, 885, 1), (.ireturn, 0, 0, 0, 886, 1), (.aload_n 1, 0, 0, 552, 887, 1), (.aload_n 0, 0, 0, 553, 888, 1), (.iload_n 3, 0, 0, 554, 889, 1), (.iconst 1, 0, 0, 555, 890, 1), (.iadd, 0, 0, 556, 891, 1), (.iaload, 0, 0, 557, 892, 1), (.aload_n 0, 0, 0, 558, 893, 1), (.iload_n 3, 0, 0, 559, 894, 1), (.iconst 2, 0, 0, 560, 895, 1), (.iadd, 0, 0, 561, 896, 1), (.iaload, 0, 0, 562, 897, 1), (.aload_n 0, 0, 0, 563, 898, 1), (.iload_n 3, 0, 0, 564, 899, 1), (.iconst 3, 0, 0, 565, 900, 1), (.iadd, 0, 0, 566, 901, 1), (.iaload, 0, 0, 567, 902, 1), (.aload_n 0, 0, 0, 568, 903, 1), (.iload_n 3, 0, 0, 569, 904, 1), (.iconst 4, 0, 0, 570, 905, 1), (.iadd, 0, 0, 571, 906, 1), (.iaload, 0, 0, 572, 907, 1), (.aload_n 0, 0, 0, 573, 908, 1), (.iload_n 3, 0, 0, 574, 909, 1), (.iconst 5, 0, 0, 575, 910, 1), (.iadd, 0, 0, 576, 911, 1), (.iaload, 0, 0, 577, 912, 1), (.invokevirtual 125, 89, 6, 578, 913, 3), (.aload_n 2, 0, 0, 579, 916, 1), (.aload_n 0, 0, 0, 580, 917, 1), (.iload_n 3, 0, 0, 581, 918, 1), (.iconst 1, 0, 0, 582, 919, 1), (.iadd, 0, 0, 583, 920, 1), (.iaload, 0, 0, 584, 921, 1), (.aload_n 0, 0, 0, 585, 922, 1), (.iload_n 3, 0, 0, 586, 923, 1), (.iconst 2, 0, 0, 587, 924, 1), (.iadd, 0, 0, 588, 925, 1), (.iaload, 0, 0, 589, 926, 1), (.aload_n 0, 0, 0, 590, 927, 1), (.iload_n 3, 0, 0, 591, 928, 1), (.iconst 3, 0, 0, 592, 929, 1), (.iadd, 0, 0, 593, 930, 1), (.iaload, 0, 0, 594, 931, 1), (.aload_n 0, 0, 0, 595, 932, 1), (.iload_n 3, 0, 0, 596, 933, 1), (.iconst 4, 0, 0, 597, 934, 1), (.iadd, 0, 0, 598, 935, 1), (.iaload, 0, 0, 599, 936, 1), (.aload_n 0, 0, 0, 600, 937, 1)]
set_option maxRecDepth 100000 in
def k_L6 : List mm_I := [(.iload_n 3, 0, 0, 601, 938, 1), (.iconst 5, 0, 0, 602, 939, 1), (.iadd, 0, 0, 603, 940, 1), (.iaload, 0, 0, 604, 941, 1), (.invokevirtual 129, 189, 6, 605, 942, 3), (.lcmp, 0, 0, 606, 945, 1), (.ifCond .eq 333, 883, 0, 607, 946, 3), (.iconst 0, 0, 0, 608, 949, 1), (.ireturn, 0, 0, 0, 950, 1), (.aload_n 1, 0, 0, 610, 951, 1), (.aload_n 0, 0, 0, 611, 952, 1), (.iload_n 3, 0, 0, 612, 953, 1), (.iconst 1, 0, 0, 613, 954, 1), (.iadd, 0, 0, 614, 955, 1), (.iaload, 0, 0, 615, 956, 1), (.aload_n 0, 0, 0, 616, 957, 1), (.iload_n 3, 0, 0, 617, 958, 1), (.iconst 2, 0, 0, 618, 959, 1), (.iadd, 0, 0, 619, 960, 1), (.iaload, 0, 0, 620, 961, 1), (.invokevirtual 130, 90, 3, 621, 962, 3), (.aload_n 2, 0, 0, 622, 965, 1), (.aload_n 0, 0, 0, 623, 966, 1), (.iload_n 3, 0, 0, 624, 967, 1), (.iconst 1, 0, 0, 625, 968, 1), (.iadd, 0, 0, 626, 969, 1), (.iaload, 0, 0, 627, 970, 1), (.aload_n 0, 0, 0, 628, 971, 1), (.iload_n 3, 0, 0, 629, 972, 1), (.iconst 2, 0, 0, 630, 973, 1), (.iadd, 0, 0, 631, 974, 1), (.iaload, 0, 0, 632, 975, 1), (.invokevirtual 133, 192, 3, 633, 976, 3), (.if_icmp .eq 300, 883, 0, 634, 979, 3), (.iconst 0, 0, 0, 635, 982, 1), (.ireturn, 0, 0, 0, 983, 1), (.aload_n 1, 0, 0, 637, 984, 1), (.aload_n 0, 0, 0, 638, 985, 1), (.iload_n 3, 0, 0, 639, 986, 1), (.iconst 1, 0, 0, 640, 987, 1), (.iadd, 0, 0, 641, 988, 1), (.iaload, 0, 0, 642, 989, 1), (.aload_n 0, 0, 0, 643, 990, 1), (.iload_n 3, 0, 0, 644, 991, 1), (.iconst 2, 0, 0, 645, 992, 1), (.iadd, 0, 0, 646, 993, 1), (.iaload, 0, 0, 647, 994, 1), (.aload_n 0, 0, 0, 648, 995, 1), (.iload_n 3, 0, 0, 649, 996, 1), (.iconst 3, 0, 0, 650, 997, 1), (.iadd, 0, 0, 651, 998, 1), (.iaload, 0, 0, 652, 999, 1), (.invokevirtual 134, 91, 4, 653, 1000, 3), (.aload_n 2, 0, 0, 654, 1003, 1), (.aload_n 0, 0, 0, 655, 1004, 1), (.iload_n 3, 0, 0, 656, 1005, 1), (.iconst 1, 0, 0, 657, 1006, 1), (.iadd, 0, 0, 658, 1007, 1), (.iaload, 0, 0, 659, 1008, 1), (.aload_n 0, 0, 0, 660, 1009, 1), (.iload_n 3, 0, 0, 661, 1010, 1), (.iconst 2, 0, 0, 662, 1011, 1), (.iadd, 0, 0, 663, 1012, 1), (.iaload, 0, 0, 664, 1013, 1), (.aload_n 0, 0, 0, 665, 1014, 1), (.iload_n 3, 0, 0, 666, 1015, 1), (.iconst 3, 0, 0, 667, 1016, 1), (.iadd, 0, 0, 668, 1017, 1), (.iaload, 0, 0, 669, 1018, 1), (.invokevirtual 137, 123, 4, 670, 1019, 3), (.if_icmp .eq 257, 883, 0, 671, 1022, 3), (.iconst 0, 0, 0, 672, 1025, 1), (.ireturn, 0, 0, 0, 1026, 1), (.aload_n 1, 0, 0, 674, 1027, 1), (.aload_n 0, 0, 0, 675, 1028, 1), (.iload_n 3, 0, 0, 676, 1029, 1), (.iconst 1, 0, 0, 677, 1030, 1), (.iadd, 0, 0, 678, 1031, 1), (.iaload, 0, 0, 679, 1032, 1), (.invokevirtual 138, 92, 2, 680, 1033, 3), (.aload_n 2, 0, 0, 681, 1036, 1), (.aload_n 0, 0, 0, 682, 1037, 1), (.iload_n 3, 0, 0, 683, 1038, 1), (.iconst 1, 0, 0, 684, 1039, 1), (.iadd, 0, 0, 685, 1040, 1), (.iaload, 0, 0, 686, 1041, 1), (.invokevirtual 141, 124, 2, 687, 1042, 3), (.if_icmp .eq 234, 883, 0, 688, 1045, 3), (.iconst 0, 0, 0, 689, 1048, 1), (.ireturn, 0, 0, 0, 1049, 1), (.aload_n 1, 0, 0, 691, 1050, 1), (.aload_n 0, 0, 0, 692, 1051, 1), (.iload_n 3, 0, 0, 693, 1052, 1), (.iconst 1, 0, 0, 694, 1053, 1), (.iadd, 0, 0, 695, 1054, 1), (.iaload, 0, 0, 696, 1055, 1), (.aload_n 0, 0, 0, 697, 1056, 1), (.iload_n 3, 0, 0, 698, 1057, 1), (.iconst 2, 0, 0, 699, 1058, 1), (.iadd, 0, 0, 700, 1059, 1)]
set_option maxRecDepth 100000 in
def k_L7 : List mm_I := [(.iaload, 0, 0, 701, 1060, 1), (.aload_n 0, 0, 0, 702, 1061, 1), (.iload_n 3, 0, 0, 703, 1062, 1), (.iconst 3, 0, 0, 704, 1063, 1), (.iadd, 0, 0, 705, 1064, 1), (.iaload, 0, 0, 706, 1065, 1), (.aload_n 0, 0, 0, 707, 1066, 1), (.iload_n 3, 0, 0, 708, 1067, 1), (.iconst 4, 0, 0, 709, 1068, 1), (.iadd, 0, 0, 710, 1069, 1), (.iaload, 0, 0, 711, 1070, 1), (.invokevirtual 142, 93, 5, 712, 1071, 3), (.aload_n 2, 0, 0, 713, 1074, 1), (.aload_n 0, 0, 0, 714, 1075, 1), (.iload_n 3, 0, 0, 715, 1076, 1), (.iconst 1, 0, 0, 716, 1077, 1), (.iadd, 0, 0, 717, 1078, 1), (.iaload, 0, 0, 718, 1079, 1), (.aload_n 0, 0, 0, 719, 1080, 1), (.iload_n 3, 0, 0, 720, 1081, 1), (.iconst 2, 0, 0, 721, 1082, 1), (.iadd, 0, 0, 722, 1083, 1), (.iaload, 0, 0, 723, 1084, 1), (.aload_n 0, 0, 0, 724, 1085, 1), (.iload_n 3, 0, 0, 725, 1086, 1), (.iconst 3, 0, 0, 726, 1087, 1), (.iadd, 0, 0, 727, 1088, 1), (.iaload, 0, 0, 728, 1089, 1), (.aload_n 0, 0, 0, 729, 1090, 1), (.iload_n 3, 0, 0, 730, 1091, 1), (.iconst 4, 0, 0, 731, 1092, 1), (.iadd, 0, 0, 732, 1093, 1), (.iaload, 0, 0, 733, 1094, 1), (.invokevirtual 146, 127, 5, 734, 1095, 3), (.if_icmp .eq 181, 883, 0, 735, 1098, 3), (.iconst 0, 0, 0, 736, 1101, 1), (.ireturn, 0, 0, 0, 1102, 1), (.aload_n 1, 0, 0, 738, 1103, 1), (.aload_n 0, 0, 0, 739, 1104, 1), (.iload_n 3, 0, 0, 740, 1105, 1), (.iconst 1, 0, 0, 741, 1106, 1), (.iadd, 0, 0, 742, 1107, 1), (.iaload, 0, 0, 743, 1108, 1), (.aload_n 0, 0, 0, 744, 1109, 1), (.iload_n 3, 0, 0, 745, 1110, 1), (.iconst 2, 0, 0, 746, 1111, 1), (.iadd, 0, 0, 747, 1112, 1), (.iaload, 0, 0, 748, 1113, 1), (.aload_n 0, 0, 0, 749, 1114, 1), (.iload_n 3, 0, 0, 750, 1115, 1), (.iconst 3, 0, 0, 751, 1116, 1), (.iadd, 0, 0, 752, 1117, 1), (.iaload, 0, 0, 753, 1118, 1), (.invokevirtual 147, 94, 4, 754, 1119, 3), (.aload_n 2, 0, 0, 755, 1122, 1), (.aload_n 0, 0, 0, 756, 1123, 1), (.iload_n 3, 0, 0, 757, 1124, 1), (.iconst 1, 0, 0, 758, 1125, 1), (.iadd, 0, 0, 759, 1126, 1), (.iaload, 0, 0, 760, 1127, 1), (.aload_n 0, 0, 0, 761, 1128, 1), (.iload_n 3, 0, 0, 762, 1129, 1), (.iconst 2, 0, 0, 763, 1130, 1), (.iadd, 0, 0, 764, 1131, 1), (.iaload, 0, 0, 765, 1132, 1), (.aload_n 0, 0, 0, 766, 1133, 1), (.iload_n 3, 0, 0, 767, 1134, 1), (.iconst 3, 0, 0, 768, 1135, 1), (.iadd, 0, 0, 769, 1136, 1), (.iaload, 0, 0, 770, 1137, 1), (.invokevirtual 150, 128, 4, 771, 1138, 3), (.if_icmp .eq 138, 883, 0, 772, 1141, 3), (.iconst 0, 0, 0, 773, 1144, 1), (.ireturn, 0, 0, 0, 1145, 1), (.aload_n 1, 0, 0, 775, 1146, 1), (.aload_n 0, 0, 0, 776, 1147, 1), (.iload_n 3, 0, 0, 777, 1148, 1), (.iconst 1, 0, 0, 778, 1149, 1), (.iadd, 0, 0, 779, 1150, 1), (.iaload, 0, 0, 780, 1151, 1), (.aload_n 0, 0, 0, 781, 1152, 1), (.iload_n 3, 0, 0, 782, 1153, 1), (.iconst 2, 0, 0, 783, 1154, 1), (.iadd, 0, 0, 784, 1155, 1), (.iaload, 0, 0, 785, 1156, 1), (.aload_n 0, 0, 0, 786, 1157, 1), (.iload_n 3, 0, 0, 787, 1158, 1), (.iconst 3, 0, 0, 788, 1159, 1), (.iadd, 0, 0, 789, 1160, 1), (.iaload, 0, 0, 790, 1161, 1), (.aload_n 0, 0, 0, 791, 1162, 1), (.iload_n 3, 0, 0, 792, 1163, 1), (.iconst 4, 0, 0, 793, 1164, 1), (.iadd, 0, 0, 794, 1165, 1), (.iaload, 0, 0, 795, 1166, 1), (.aload_n 0, 0, 0, 796, 1167, 1), (.iload_n 3, 0, 0, 797, 1168, 1), (.iconst 5, 0, 0, 798, 1169, 1), (.iadd, 0, 0, 799, 1170, 1), (.iaload, 0, 0, 800, 1171, 1)]
set_option maxRecDepth 100000 in
def k_L8 : List mm_I := [(.invokevirtual 151, 95, 6, 801, 1172, 3), (.aload_n 2, 0, 0, 802, 1175, 1), (.aload_n 0, 0, 0, 803, 1176, 1), (.iload_n 3, 0, 0, 804, 1177, 1), (.iconst 1, 0, 0, 805, 1178, 1), (.iadd, 0, 0, 806, 1179, 1), (.iaload, 0, 0, 807, 1180, 1), (.aload_n 0, 0, 0, 808, 1181, 1), (.iload_n 3, 0, 0, 809, 1182, 1), (.iconst 2, 0, 0, 810, 1183, 1), (.iadd, 0, 0, 811, 1184, 1), (.iaload, 0, 0, 812, 1185, 1), (.aload_n 0, 0, 0, 813, 1186, 1), (.iload_n 3, 0, 0, 814, 1187, 1), (.iconst 3, 0, 0, 815, 1188, 1), (.iadd, 0, 0, 816, 1189, 1), (.iaload, 0, 0, 817, 1190, 1), (.aload_n 0, 0, 0, 818, 1191, 1), (.iload_n 3, 0, 0, 819, 1192, 1), (.iconst 4, 0, 0, 820, 1193, 1), (.iadd, 0, 0, 821, 1194, 1), (.iaload, 0, 0, 822, 1195, 1), (.aload_n 0, 0, 0, 823, 1196, 1), (.iload_n 3, 0, 0, 824, 1197, 1), (.iconst 5, 0, 0, 825, 1198, 1), (.iadd, 0, 0, 826, 1199, 1), (.iaload, 0, 0, 827, 1200, 1), (.invokevirtual 155, 129, 6, 828, 1201, 3), (.if_icmp .eq 75, 883, 0, 829, 1204, 3), (.iconst 0, 0, 0, 830, 1207, 1), (.ireturn, 0, 0, 0, 1208, 1), (.aload_n 1, 0, 0, 832, 1209, 1), (.aload_n 0, 0, 0, 833, 1210, 1), (.iload_n 3, 0, 0, 834, 1211, 1), (.iconst 1, 0, 0, 835, 1212, 1), (.iadd, 0, 0, 836, 1213, 1), (.iaload, 0, 0, 837, 1214, 1), (.aload_n 0, 0, 0, 838, 1215, 1), (.iload_n 3, 0, 0, 839, 1216, 1), (.iconst 2, 0, 0, 840, 1217, 1), (.iadd, 0, 0, 841, 1218, 1), (.iaload, 0, 0, 842, 1219, 1), (.invokevirtual 156, 96, 3, 843, 1220, 3), (.aload_n 2, 0, 0, 844, 1223, 1), (.aload_n 0, 0, 0, 845, 1224, 1), (.iload_n 3, 0, 0, 846, 1225, 1), (.iconst 1, 0, 0, 847, 1226, 1), (.iadd, 0, 0, 848, 1227, 1), (.iaload, 0, 0, 849, 1228, 1), (.aload_n 0, 0, 0, 850, 1229, 1), (.iload_n 3, 0, 0, 851, 1230, 1), (.iconst 2, 0, 0, 852, 1231, 1), (.iadd, 0, 0, 853, 1232, 1), (.iaload, 0, 0, 854, 1233, 1), (.invokevirtual 159, 193, 3, 855, 1234, 3), (.if_icmp .eq 42, 883, 0, 856, 1237, 3), (.iconst 0, 0, 0, 857, 1240, 1), (.ireturn, 0, 0, 0, 1241, 1), (.aload_n 1, 0, 0, 859, 1242, 1), (.aload_n 0, 0, 0, 860, 1243, 1), (.iload_n 3, 0, 0, 861, 1244, 1), (.iconst 1, 0, 0, 862, 1245, 1), (.iadd, 0, 0, 863, 1246, 1), (.iaload, 0, 0, 864, 1247, 1), (.invokevirtual 160, 97, 2, 865, 1248, 3), (.aload_n 2, 0, 0, 866, 1251, 1), (.aload_n 0, 0, 0, 867, 1252, 1), (.iload_n 3, 0, 0, 868, 1253, 1), (.iconst 1, 0, 0, 869, 1254, 1), (.iadd, 0, 0, 870, 1255, 1), (.iaload, 0, 0, 871, 1256, 1), (.invokevirtual 163, 195, 2, 872, 1257, 3), (.if_icmp .eq 19, 883, 0, 873, 1260, 3), (.iconst 0, 0, 0, 874, 1263, 1), (.ireturn, 0, 0, 0, 1264, 1), (.aload_n 1, 0, 0, 876, 1265, 1), (.invokevirtual 164, 98, 1, 877, 1266, 3), (.aload_n 2, 0, 0, 878, 1269, 1), (.invokevirtual 168, 197, 1, 879, 1270, 3), (.lcmp, 0, 0, 880, 1273, 1), (.ifCond .eq 5, 883, 0, 881, 1274, 3), (.iconst 0, 0, 0, 882, 1277, 1), (.ireturn, 0, 0, 0, 1278, 1), (.iinc 3 6, 0, 0, 884, 1279, 3), (.goto (-1264), 10, 0, 0, 1282, 3), (.iconst 1, 0, 0, 886, 1285, 1), (.ireturn, 0, 0, 0, 1286, 1)]
def k_L_law : List mm_I := k_L0 ++ (k_L1 ++ (k_L2 ++ (k_L3 ++ (k_L4 ++ (k_L5 ++ (k_L6 ++ (k_L7 ++ (k_L8))))))))
def M_L_law : mm_M := (2, 4, k_L_law)
abbrev n_L_law : Nat := 198
end
section
def mm_sws : List (List (Int × Nat)) := [[(98, 6), (99, 4), (116, 8), (119, 2)], [(0, 2), (1, 6), (2, 10), (3, 16), (4, 22), (5, 26), (6, 30), (7, 33), (8, 37)], [(0, 4), (1, 7), (2, 10), (3, 10), (4, 17), (5, 20), (6, 23), (7, 26), (8, 29)], [(0, 22), (1, 49), (2, 66), (3, 83), (4, 100), (5, 117), (6, 144), (7, 171), (8, 198), (9, 215), (10, 232), (11, 249), (12, 276), (13, 303), (14, 320), (15, 347), (16, 354), (17, 361), (18, 378), (19, 405), (20, 422), (21, 439), (22, 446), (23, 483), (24, 490), (25, 517), (26, 534), (27, 551), (28, 609), (29, 636), (30, 673), (31, 690), (32, 737), (33, 774), (34, 831), (35, 858), (36, 875)]]
def mm_sw (b : Nat) : List (Int × Nat) := mm_sws[b]?.getD []
def mm_fp : List (Nat × Nat × Nat × Nat) := [(0, 9, 0, 1), (0, 15, 0, 2), (0, 18, 0, 3), (0, 21, 0, 4), (0, 24, 0, 5), (0, 27, 0, 6), (0, 30, 0, 7), (0, 33, 0, 8), (0, 37, 0, 0), (0, 41, 5, 2), (0, 46, 5, 4), (0, 96, 5, 6), (0, 102, 5, 3), (0, 105, 5, 5), (0, 108, 5, 0), (0, 114, 5, 7), (0, 117, 5, 9), (0, 120, 5, 8), (0, 126, 5, 1), (1, 9, 1, 3), (1, 15, 1, 4), (1, 19, 1, 5), (1, 22, 1, 6), (1, 25, 1, 0), (1, 29, 1, 1), (1, 33, 1, 2), (1, 37, 5, 4), (1, 46, 5, 5), (1, 49, 5, 6), (1, 59, 5, 2), (1, 90, 0, 2), (2, 9, 2, 2), (2, 15, 2, 3), (2, 18, 2, 4), (2, 21, 2, 5), (2, 25, 2, 0), (2, 34, 2, 1), (2, 49, 0, 1), (2, 56, 0, 2), (2, 57, 0, 8), (2, 60, 5, 2), (3, 9, 3, 2), (3, 15, 3, 3), (3, 19, 3, 4), (3, 22, 3, 0), (3, 26, 3, 1), (3, 30, 5, 4), (3, 41, 5, 2), (3, 54, 0, 2), (4, 9, 4, 2), (4, 15, 4, 3), (4, 18, 4, 4), (4, 21, 4, 5), (4, 24, 4, 6), (4, 27, 4, 0), (4, 31, 4, 1), (4, 35, 5, 5), (4, 41, 5, 0), (4, 53, 0, 5), (4, 68, 5, 2), (4, 84, 0, 1), (4, 87, 5, 6), (5, 9, 5, 0), (5, 15, 5, 1), (5, 19, 5, 2), (5, 22, 5, 3), (5, 25, 5, 4), (5, 28, 5, 5), (5, 31, 5, 6), (5, 34, 5, 7), (5, 37, 5, 8), (5, 40, 5, 9), (5, 43, 5, 10), (5, 46, 5, 11), (5, 55, 8, 1), (5, 64, 8, 0), (6, 11, 6, 0), (6, 15, 6, 1), (6, 18, 6, 2), (7, 9, 7, 1), (7, 15, 7, 2), (7, 18, 7, 3), (7, 21, 7, 4), (7, 25, 7, 0), (7, 35, 5, 2), (7, 39, 0, 2), (8, 9, 8, 1), (8, 21, 8, 0), (9, 13, 9, 0), (9, 17, 9, 1), (9, 21, 9, 2), (9, 24, 9, 3), (9, 27, 9, 4), (9, 30, 9, 5), (9, 34, 9, 6), (9, 53, 0, 5), (9, 57, 0, 2), (10, 9, 10, 0), (10, 18, 10, 1), (10, 27, 10, 2), (10, 34, 10, 3), (10, 43, 10, 4), (10, 50, 10, 5), (10, 59, 10, 6), (10, 66, 10, 7), (10, 73, 10, 8), (10, 79, 10, 9), (10, 83, 10, 10), (10, 99, 8, 1), (10, 102, 8, 0), (10, 116, 5, 0), (10, 119, 5, 1), (10, 125, 5, 3), (10, 128, 5, 4), (10, 131, 5, 5), (10, 137, 5, 6), (10, 140, 2, 5), (10, 147, 5, 7), (10, 150, 5, 8), (10, 153, 5, 9), (10, 156, 5, 10), (10, 159, 5, 11), (10, 173, 6, 1), (10, 174, 6, 2), (10, 184, 2, 2), (10, 185, 2, 3), (10, 188, 2, 4), (10, 191, 2, 1), (10, 194, 0, 5), (10, 197, 0, 6), (10, 200, 5, 2), (10, 203, 0, 2), (10, 210, 4, 2), (10, 213, 4, 3), (10, 219, 4, 4), (10, 222, 4, 5), (10, 225, 4, 6), (10, 234, 7, 4), (10, 259, 9, 5), (10, 263, 9, 6), (10, 269, 3, 3), (10, 272, 3, 4), (10, 292, 6, 0), (11, 7, 11, 0), (11, 13, 11, 1), (11, 16, 11, 2), (11, 19, 11, 3), (11, 22, 11, 5), (11, 25, 11, 6), (11, 28, 11, 8), (11, 31, 11, 10), (11, 34, 11, 11), (11, 37, 11, 13), (11, 40, 11, 15), (11, 43, 11, 16), (11, 46, 11, 17), (11, 49, 11, 18), (11, 52, 11, 19), (11, 55, 11, 20), (11, 58, 11, 21), (11, 61, 11, 22), (11, 64, 11, 23), (11, 67, 11, 24), (11, 70, 11, 25), (11, 73, 11, 28), (11, 76, 11, 29), (11, 85, 11, 4), (11, 122, 11, 7), (11, 125, 11, 9), (11, 154, 11, 12), (11, 157, 11, 14), (11, 171, 11, 26), (11, 240, 11, 27), (11, 273, 11, 30)]
def mm_mp : List (Nat × Nat × Nat) := [(0, 47, 1), (0, 50, 4), (0, 54, 5), (0, 64, 8), (0, 67, 9), (0, 70, 42), (0, 74, 10), (0, 77, 11), (0, 80, 13), (0, 83, 6), (0, 87, 14), (0, 99, 15), (0, 123, 12), (1, 42, 23), (1, 52, 21), (1, 55, 22), (1, 68, 50), (1, 73, 1), (1, 78, 4), (1, 82, 5), (1, 86, 51), (2, 31, 0), (2, 38, 1), (2, 41, 4), (2, 45, 5), (3, 45, 2), (3, 50, 29), (4, 44, 32), (4, 48, 1), (4, 56, 4), (4, 60, 5), (4, 64, 36), (4, 71, 34), (4, 74, 35), (4, 77, 7), (4, 80, 6), (4, 90, 2), (5, 49, 53), (5, 67, 54), (5, 70, 56), (8, 25, 112), (8, 29, 55), (8, 33, 56), (9, 37, 0), (9, 46, 1), (9, 49, 59), (9, 60, 60), (9, 64, 3), (9, 68, 4), (9, 72, 5), (10, 17, 39), (10, 24, 24), (10, 33, 0), (10, 40, 30), (10, 49, 48), (10, 56, 16), (10, 65, 57), (10, 72, 27), (10, 87, 52), (10, 90, 43), (10, 91, 107), (10, 95, 106), (10, 106, 103), (10, 109, 53), (10, 113, 54), (10, 122, 109), (10, 144, 108), (10, 162, 110), (10, 165, 44), (10, 169, 104), (10, 177, 69), (10, 181, 25), (10, 204, 26), (10, 207, 31), (10, 216, 33), (10, 228, 37), (10, 231, 38), (10, 235, 49), (10, 239, 17), (10, 242, 18), (10, 245, 19), (10, 248, 20), (10, 255, 58), (10, 266, 28), (10, 275, 111), (10, 278, 45), (10, 282, 105), (10, 286, 46), (10, 295, 47), (10, 309, 102), (10, 314, 97), (10, 317, 99), (10, 321, 65), (10, 324, 100), (10, 328, 101), (10, 331, 75), (10, 333, 77), (10, 336, 78), (10, 339, 79), (10, 342, 83), (10, 345, 88), (10, 350, 67), (10, 356, 73), (10, 358, 74), (10, 361, 76), (10, 364, 40), (10, 368, 41), (11, 81, 114), (11, 91, 122), (11, 97, 121), (11, 101, 125), (11, 105, 126), (11, 110, 116), (11, 119, 133), (11, 128, 134), (11, 131, 135), (11, 135, 136), (11, 140, 138), (11, 149, 139), (11, 160, 143), (11, 162, 118), (11, 165, 147), (11, 168, 148), (11, 174, 117), (11, 178, 152), (11, 181, 119), (11, 184, 153), (11, 187, 149), (11, 191, 150), (11, 195, 151), (11, 198, 154), (11, 201, 155), (11, 204, 156), (11, 207, 159), (11, 210, 161), (11, 213, 163), (11, 216, 165), (11, 219, 166), (11, 222, 168), (11, 225, 170), (11, 228, 172), (11, 231, 173), (11, 234, 174), (11, 237, 177), (11, 243, 181), (11, 249, 182), (11, 252, 184), (11, 255, 186), (11, 258, 120), (11, 264, 188), (11, 268, 115), (11, 276, 190), (11, 279, 191), (11, 282, 194), (11, 289, 195), (11, 292, 196), (12, 9, 61), (12, 12, 113), (12, 13, 62), (12, 17, 130), (12, 18, 63), (12, 22, 131), (12, 23, 64), (12, 26, 132), (12, 27, 65), (12, 30, 137), (12, 31, 66), (12, 34, 140), (12, 35, 67), (12, 38, 141), (12, 39, 68), (12, 42, 142), (12, 43, 69), (12, 46, 143), (12, 47, 70), (12, 50, 144), (12, 51, 71), (12, 54, 145), (12, 55, 72), (12, 58, 146), (12, 59, 73), (12, 62, 157), (12, 63, 74), (12, 66, 158), (12, 67, 75), (12, 70, 160), (12, 71, 76), (12, 74, 162), (12, 75, 77), (12, 79, 164), (12, 80, 78), (12, 83, 167), (12, 84, 79), (12, 87, 169), (12, 88, 80), (12, 91, 171), (12, 92, 81), (12, 95, 175), (12, 96, 82), (12, 99, 176), (12, 100, 83), (12, 103, 178), (12, 104, 84), (12, 108, 179), (12, 109, 85), (12, 112, 180), (12, 113, 86), (12, 116, 183), (12, 117, 87), (12, 120, 185), (12, 121, 88), (12, 124, 187), (12, 125, 89), (12, 129, 189), (12, 130, 90), (12, 133, 192), (12, 134, 91), (12, 137, 123), (12, 138, 92), (12, 141, 124), (12, 142, 93), (12, 146, 127), (12, 147, 94), (12, 150, 128), (12, 151, 95), (12, 155, 129), (12, 156, 96), (12, 159, 193), (12, 160, 97), (12, 163, 195), (12, 164, 98), (12, 168, 197)]
def mm_cp : List (Nat × Nat × Nat) := [(2, 29, 0), (9, 11, 0), (10, 7, 8), (10, 15, 5), (10, 22, 2), (10, 31, 0), (10, 38, 4), (10, 47, 7), (10, 54, 1), (10, 63, 9), (10, 70, 3), (10, 77, 6), (12, 7, 10), (12, 10, 11)]
def mm_kp : List (Nat × Nat × Nat) := [(3, 44, 1103515245), (10, 291, 2147483648), (11, 109, 2147483648), (11, 272, 1103515245)]
def mm_lp : List (Nat × Nat × Nat) := [(10, 253, 9223372036854775810), (10, 312, 17), (10, 348, 31), (11, 79, 9223372036854775808), (11, 89, 3), (11, 95, 2), (11, 113, 255), (11, 115, 48), (11, 117, 57), (11, 138, 29), (11, 143, 30), (11, 145, 9), (11, 147, 99), (11, 152, 7), (11, 247, 18446744073709551615), (11, 262, 16), (11, 285, 31), (11, 287, 17)]
def mm_sp : List (Nat × Nat × Nat) := [(10, 134, 1001), (10, 353, 1002)]
def mm_xp : List (Nat × Nat × Nat) := [(0, 3, 1000), (0, 58, 1003), (0, 91, 1001), (0, 111, 1002), (1, 3, 1000), (1, 62, 1001), (1, 93, 1003), (2, 3, 1000), (2, 50, 1003), (3, 3, 1000), (3, 35, 1003), (4, 3, 1000), (5, 3, 1000), (5, 58, 1002), (6, 3, 1000), (7, 3, 1000), (7, 29, 1001), (8, 3, 1000), (8, 15, 1001), (9, 3, 1000), (9, 40, 1002), (10, 1, 1000), (10, 298, 1003), (10, 304, 1002), (11, 1, 1000)]
def mm_fps : List Nat := [206, 209, 216, 217, 218, 222, 224, 225, 205, 129, 142, 151, 138, 148, 124, 156, 162, 159, 127, 337, 338, 339, 340, 334, 335, 336, 141, 146, 150, 134, 214, 249, 251, 253, 255, 246, 247, 207, 210, 226, 131, 397, 398, 400, 395, 396, 140, 130, 211, 280, 282, 284, 286, 288, 278, 279, 145, 122, 219, 132, 208, 153, 121, 125, 128, 136, 139, 144, 149, 154, 157, 160, 163, 165, 427, 425, 439, 441, 443, 312, 313, 314, 315, 311, 133, 213, 426, 423, 365, 366, 367, 368, 369, 370, 372, 220, 212, 452, 453, 454, 455, 456, 457, 458, 459, 460, 461, 462, 428, 424, 123, 126, 137, 143, 147, 152, 256, 155, 158, 161, 164, 166, 442, 444, 250, 252, 254, 248, 221, 223, 135, 215, 281, 283, 285, 287, 289, 316, 371, 373, 399, 401, 440, 945, 946, 947, 948, 950, 951, 953, 955, 956, 958, 960, 961, 962, 963, 964, 965, 966, 967, 968, 969, 970, 973, 974, 949, 952, 954, 957, 959, 971, 972, 975]
def mm_mps : List Nat := [745, 746, 747, 608, 612, 616, 620, 629, 641, 633, 645, 650, 637, 768, 806, 810, 772, 778, 779, 780, 781, 201, 600, 604, 625, 849, 850, 693, 697, 698, 699, 708, 716, 720, 712, 732, 741, 504, 518, 528, 508, 522, 525, 364, 824, 825, 828, 834, 832, 833, 117, 195, 271, 274, 307, 330, 358, 391, 416, 435, 490, 493, 496, 541, 542, 551, 565, 580, 583, 587, 591, 596, 677, 689, 704, 728, 737, 752, 764, 786, 794, 802, 819, 843, 858, 861, 873, 877, 890, 904, 913, 914, 918, 919, 929, 933, 934, 935, 936, 937, 938, 923, 926, 927, 928, 500, 514, 1047, 1043, 1051, 1063, 1067, 1083, 1103, 1112, 1099, 1108, 1123, 1138, 1155, 1180, 1187, 1172, 1199, 1202, 1206, 1195, 1168, 1176, 1183, 1191, 1164, 1160, 1217, 1225, 1233, 1245, 1241, 1253, 1261, 1273, 1277, 1269, 1289, 1310, 1306, 1318, 1326, 1339, 1335, 1342, 1354, 1350, 1367, 1377, 1378, 107, 941, 486, 1079, 529, 1087, 533, 1091, 537, 1095, 543, 1115, 547, 1119, 555, 1127, 561, 1134, 568, 1143, 572, 1147, 576, 1151, 592, 1156, 657, 1209, 661, 1213, 665, 1221, 669, 1229, 673, 1237, 681, 1249, 685, 1257, 700, 1265, 724, 1281, 733, 1285, 748, 1293, 756, 1297, 760, 1301, 790, 1314, 798, 1322, 814, 1330, 839, 1346, 854, 1039, 865, 1055, 869, 1059, 881, 1070, 886, 1075, 895, 1359, 900, 1363, 908, 1371]
def mm_cps : List Nat := [199, 362, 113, 115, 193, 270, 272, 305, 328, 356, 389, 413, 105, 939]

/-- a method: its class, name, code, locals, what it returns, static, a constructor -/
abbrev mm_N : Type := Nat × MethodName × ByteArray × Nat × Option FieldType × Bool × Bool
def mm_z0 : List (mm_N × mm_M) := [((0, yX0_init, cX0_init, 2, none, false, true), M_X0_init), ((0, yX0_begin, cX0_begin, 2, none, false, false), M_X0_begin), ((0, yX0_goThrough, cX0_goThrough, 2, none, false, false), M_X0_goThrough), ((0, yX0_follow, cX0_follow, 4, none, false, false), M_X0_follow), ((0, yX0_untilButters, cX0_untilButters, 2, none, false, false), M_X0_untilButters), ((0, yX0_fromButters, cX0_fromButters, 4, none, false, false), M_X0_fromButters), ((0, yX0_isIn, cX0_isIn, 2, (some .boolean), false, false), M_X0_isIn), ((0, yX0_howManyIn, cX0_howManyIn, 3, (some .int), false, false), M_X0_howManyIn), ((0, yX0_comeAgain, cX0_comeAgain, 3, none, false, false), M_X0_comeAgain), ((0, yX0_takePlaces, cX0_takePlaces, 3, none, false, false), M_X0_takePlaces), ((0, yX0_warm, cX0_warm, 3, none, false, false), M_X0_warm), ((0, yX0_spread, cX0_spread, 4, none, false, false), M_X0_spread), ((0, yX0_leave, cX0_leave, 3, none, false, false), M_X0_leave), ((0, yX0_feelWarmth, cX0_feelWarmth, 3, none, false, false), M_X0_feelWarmth), ((0, yX0_cooling, cX0_cooling, 6, (some .int), false, false), M_X0_cooling), ((0, yX0_letGo, cX0_letGo, 3, none, false, false), M_X0_letGo)]
def mm_z1 : List (mm_N × mm_M) := [((1, yX1_init, cX1_init, 4, none, false, true), M_X1_init), ((1, yX1_findHeats, cX1_findHeats, 4, none, false, false), M_X1_findHeats), ((1, yX1_heatAt, cX1_heatAt, 2, (some .int), false, false), M_X1_heatAt), ((1, yX1_slotsOf, cX1_slotsOf, 5, (some .int), false, false), M_X1_slotsOf), ((1, yX1_nextToTouch, cX1_nextToTouch, 4, (some .int), false, false), M_X1_nextToTouch), ((1, yX1_tallyNoted, cX1_tallyNoted, 2, none, false, false), M_X1_tallyNoted), ((1, yX1_leastOfTheGreatest, cX1_leastOfTheGreatest, 6, (some .int), false, false), M_X1_leastOfTheGreatest), ((1, yX1_allComesOut, cX1_allComesOut, 4, (some .boolean), false, false), M_X1_allComesOut), ((2, yX2_init, cX2_init, 2, none, false, true), M_X2_init), ((2, yX2_bringUpToDate, cX2_bringUpToDate, 2, none, false, false), M_X2_bringUpToDate), ((2, yX2_leastLeaning, cX2_leastLeaning, 3, (some .int), false, false), M_X2_leastLeaning), ((3, yX3_init, cX3_init, 3, none, false, true), M_X3_init), ((3, yX3_draw, cX3_draw, 4, none, false, false), M_X3_draw), ((3, yX3_howManyAre, cX3_howManyAre, 4, (some .int), false, false), M_X3_howManyAre), ((4, yX4_init, cX4_init, 3, none, false, true), M_X4_init), ((4, yX4_findMove, cX4_findMove, 6, none, false, false), M_X4_findMove)]
def mm_z2 : List (mm_N × mm_M) := [((4, yX4_letGoBefore, cX4_letGoBefore, 4, (some .int), false, false), M_X4_letGoBefore), ((4, yX4_findSwap, cX4_findSwap, 5, none, false, false), M_X4_findSwap), ((4, yX4_stayIfSwapped, cX4_stayIfSwapped, 4, (some .int), false, false), M_X4_stayIfSwapped), ((4, yX4_changeSlots, cX4_changeSlots, 4, none, false, false), M_X4_changeSlots), ((4, yX4_stayOfAll, cX4_stayOfAll, 3, (some .int), false, false), M_X4_stayOfAll), ((4, yX4_firstButterHour, cX4_firstButterHour, 3, (some .int), false, false), M_X4_firstButterHour), ((4, yX4_greatestSummer, cX4_greatestSummer, 4, (some .int), false, false), M_X4_greatestSummer), ((5, yX5_init, cX5_init, 1, none, false, true), M_X5_init), ((5, yX5_takeRack, cX5_takeRack, 3, none, false, false), M_X5_takeRack), ((5, yX5_takeSlices, cX5_takeSlices, 5, none, false, false), M_X5_takeSlices), ((5, yX5_firesIn, cX5_firesIn, 4, (some .int), false, false), M_X5_firesIn), ((6, yX6_init, cX6_init, 1, none, false, true), M_X6_init), ((6, yX6_isLost, cX6_isLost, 1, (some .boolean), false, false), M_X6_isLost), ((6, yX6_renew, cX6_renew, 4, none, false, false), M_X6_renew), ((6, yX6_put, cX6_put, 3, none, false, false), M_X6_put), ((6, yX6_hasRun, cX6_hasRun, 3, (some .boolean), false, false), M_X6_hasRun)]
def mm_z3 : List (mm_N × mm_M) := [((7, yX7_init, cX7_init, 2, none, false, true), M_X7_init), ((7, yX7_add, cX7_add, 4, none, false, false), M_X7_add), ((7, yX7_lastHour, cX7_lastHour, 3, (some .int), false, false), M_X7_lastHour), ((7, yX7_agreeWith, cX7_agreeWith, 4, (some .boolean), false, false), M_X7_agreeWith), ((8, yX8_init, cX8_init, 2, none, false, true), M_X8_init), ((8, yX8_faultAsRack, cX8_faultAsRack, 2, (some .int), false, false), M_X8_faultAsRack), ((8, yX8_faultAsSlices, cX8_faultAsSlices, 2, (some .int), false, false), M_X8_faultAsSlices), ((8, yX8_goesOn, cX8_goesOn, 2, (some .boolean), true, false), M_X8_goesOn), ((8, yX8_kindOf, cX8_kindOf, 1, (some .int), true, false), M_X8_kindOf), ((9, yX9_init, cX9_init, 3, none, false, true), M_X9_init), ((9, yX9_weigh, cX9_weigh, 6, none, false, false), M_X9_weigh), ((9, yX9_ways, cX9_ways, 5, (some .long), true, false), M_X9_ways), ((9, yX9_isLetGoFrom, cX9_isLetGoFrom, 4, (some .boolean), false, false), M_X9_isLetGoFrom), ((10, yX10_init, cX10_init, 2, none, false, true), M_X10_init), ((10, yX10_type, cX10_type, 4, (some .int), false, false), M_X10_type), ((10, yX10_wipe, cX10_wipe, 3, (some .int), false, false), M_X10_wipe)]
def mm_z4 : List (mm_N × mm_M) := [((10, yX10_undo, cX10_undo, 2, (some .int), false, false), M_X10_undo), ((10, yX10_fault, cX10_fault, 2, (some .int), false, false), M_X10_fault), ((10, yX10_draws, cX10_draws, 2, (some .int), false, false), M_X10_draws), ((10, yX10_slice, cX10_slice, 3, (some .int), false, false), M_X10_slice), ((10, yX10_set, cX10_set, 4, (some .int), false, false), M_X10_set), ((10, yX10_butter, cX10_butter, 3, (some .int), false, false), M_X10_butter), ((10, yX10_fire, cX10_fire, 2, (some .int), false, false), M_X10_fire), ((10, yX10_back, cX10_back, 3, (some .int), false, false), M_X10_back), ((10, yX10_read, cX10_read, 4, (some .int), false, false), M_X10_read), ((10, yX10_heat, cX10_heat, 3, (some .int), false, false), M_X10_heat), ((10, yX10_state, cX10_state, 3, (some .int), false, false), M_X10_state), ((10, yX10_held, cX10_held, 2, (some .int), false, false), M_X10_held), ((10, yX10_freed, cX10_freed, 3, (some .int), false, false), M_X10_freed), ((10, yX10_spoilt, cX10_spoilt, 3, (some .int), false, false), M_X10_spoilt), ((10, yX10_quiet, cX10_quiet, 2, (some .int), false, false), M_X10_quiet), ((10, yX10_crowd, cX10_crowd, 4, (some .int), false, false), M_X10_crowd)]
def mm_z5 : List (mm_N × mm_M) := [((10, yX10_move, cX10_move, 3, (some .int), false, false), M_X10_move), ((10, yX10_swap, cX10_swap, 2, (some .int), false, false), M_X10_swap), ((10, yX10_line, cX10_line, 2, (some .int), false, false), M_X10_line), ((10, yX10_bear, cX10_bear, 1, (some .int), false, false), M_X10_bear), ((10, yX10_seen, cX10_seen, 4, (some .int), false, false), M_X10_seen), ((10, yX10_forget, cX10_forget, 2, (some .int), false, false), M_X10_forget), ((10, yX10_heats, cX10_heats, 3, (some .int), false, false), M_X10_heats), ((10, yX10_slots, cX10_slots, 2, (some .int), false, false), M_X10_slots), ((10, yX10_ask, cX10_ask, 2, (some .int), false, false), M_X10_ask), ((10, yX10_window, cX10_window, 6, (some .long), false, false), M_X10_window), ((10, yX10_others, cX10_others, 3, (some .int), false, false), M_X10_others), ((10, yX10_sheet, cX10_sheet, 4, (some .int), false, false), M_X10_sheet), ((10, yX10_lose, cX10_lose, 3, (some .int), false, false), M_X10_lose), ((10, yX10_lay, cX10_lay, 6, (some .int), false, false), M_X10_lay), ((10, yX10_get, cX10_get, 5, (some .int), false, false), M_X10_get), ((10, yX10_copy, cX10_copy, 8, (some .int), false, false), M_X10_copy)]
def mm_z6 : List (mm_N × mm_M) := [((10, yX10_write, cX10_write, 5, (some .int), false, false), M_X10_write), ((10, yX10_count, cX10_count, 2, (some .int), false, false), M_X10_count), ((10, yX10_digest, cX10_digest, 4, (some .long), false, false), M_X10_digest), ((10, yX10_mix, cX10_mix, 4, (some .long), true, false), M_X10_mix), ((10, yX10_mixTold, cX10_mixTold, 10, (some .long), false, false), M_X10_mixTold), ((10, yX10_mixFound, cX10_mixFound, 6, (some .long), false, false), M_X10_mixFound), ((10, yX10_timesLetGo, cX10_timesLetGo, 3, (some .int), false, false), M_X10_timesLetGo), ((10, yX10_learn, cX10_learn, 2, none, false, false), M_X10_learn), ((10, yX10_found, cX10_found, 2, (some .int), false, false), M_X10_found), ((10, yX10_findingAt, cX10_findingAt, 4, (some .int), false, false), M_X10_findingAt), ((10, yX10_isWithin, cX10_isWithin, 2, (some .boolean), true, false), M_X10_isWithin), ((10, yX10_isText, cX10_isText, 1, (some .boolean), true, false), M_X10_isText), ((10, yX10_isHour, cX10_isHour, 1, (some .boolean), true, false), M_X10_isHour), ((10, yX10_isSlice, cX10_isSlice, 2, (some .boolean), false, false), M_X10_isSlice), ((10, yX10_isSheet, cX10_isSheet, 1, (some .boolean), true, false), M_X10_isSheet), ((10, yX10_isForm, cX10_isForm, 1, (some .boolean), true, false), M_X10_isForm)]
def mm_z7 : List (mm_N × mm_M) := [((10, yX10_isFigure, cX10_isFigure, 1, (some .boolean), true, false), M_X10_isFigure), ((11, yX11_init, cX11_init, 2, none, false, true), M_X11_init), ((11, yX11_in, cX11_in, 6, (some .boolean), true, false), M_X11_in), ((11, yX11_no, cX11_no, 1, (some .long), true, false), M_X11_no), ((11, yX11_isTwo, cX11_isTwo, 1, (some .boolean), true, false), M_X11_isTwo), ((11, yX11_isIn, cX11_isIn, 2, (some .boolean), true, false), M_X11_isIn), ((11, yX11_lesser, cX11_lesser, 2, (some .int), true, false), M_X11_lesser), ((11, yX11_greater, cX11_greater, 2, (some .int), true, false), M_X11_greater), ((11, yX11_part, cX11_part, 11, (some .long), true, false), M_X11_part), ((11, yX11_finds, cX11_finds, 2, (some .int), false, false), M_X11_finds), ((11, yX11_isSheet, cX11_isSheet, 1, (some .boolean), true, false), M_X11_isSheet), ((11, yX11_sheet, cX11_sheet, 5, (some .int), false, false), M_X11_sheet), ((11, yX11_lose, cX11_lose, 2, (some .int), false, false), M_X11_lose), ((11, yX11_lacks, cX11_lacks, 4, (some .int), false, false), M_X11_lacks), ((11, yX11_cut, cX11_cut, 2, (some .int), true, false), M_X11_cut), ((11, yX11_lay, cX11_lay, 6, (some .int), false, false), M_X11_lay)]
def mm_z8 : List (mm_N × mm_M) := [((11, yX11_get, cX11_get, 4, (some .int), false, false), M_X11_get), ((11, yX11_copy, cX11_copy, 7, (some .int), false, false), M_X11_copy), ((11, yX11_type, cX11_type, 3, (some .int), false, false), M_X11_type), ((11, yX11_wipe, cX11_wipe, 3, (some .int), false, false), M_X11_wipe), ((11, yX11_undo, cX11_undo, 2, (some .int), false, false), M_X11_undo), ((11, yX11_figureOf, cX11_figureOf, 1, (some .int), true, false), M_X11_figureOf), ((11, yX11_sliceOf, cX11_sliceOf, 2, (some .int), true, false), M_X11_sliceOf), ((11, yX11_readsRack, cX11_readsRack, 3, (some .int), false, false), M_X11_readsRack), ((11, yX11_readsSlices, cX11_readsSlices, 6, (some .int), false, false), M_X11_readsSlices), ((11, yX11_fault, cX11_fault, 2, (some .int), false, false), M_X11_fault), ((11, yX11_isSlice, cX11_isSlice, 2, (some .boolean), false, false), M_X11_isSlice), ((11, yX11_isHour, cX11_isHour, 1, (some .boolean), true, false), M_X11_isHour), ((11, yX11_draws, cX11_draws, 2, (some .int), false, false), M_X11_draws), ((11, yX11_slice, cX11_slice, 3, (some .int), false, false), M_X11_slice), ((11, yX11_set, cX11_set, 4, (some .int), false, false), M_X11_set), ((11, yX11_butter, cX11_butter, 3, (some .int), false, false), M_X11_butter)]
def mm_z9 : List (mm_N × mm_M) := [((11, yX11_fire, cX11_fire, 2, (some .int), false, false), M_X11_fire), ((11, yX11_back, cX11_back, 3, (some .int), false, false), M_X11_back), ((11, yX11_read, cX11_read, 4, (some .int), false, false), M_X11_read), ((11, yX11_isHere, cX11_isHere, 2, (some .boolean), false, false), M_X11_isHere), ((11, yX11_standingIn, cX11_standingIn, 3, (some .int), false, false), M_X11_standingIn), ((11, yX11_comesAgain, cX11_comesAgain, 3, none, false, false), M_X11_comesAgain), ((11, yX11_burns, cX11_burns, 4, none, false, false), M_X11_burns), ((11, yX11_spreads, cX11_spreads, 4, none, false, false), M_X11_spreads), ((11, yX11_hotter, cX11_hotter, 4, (some .int), false, false), M_X11_hotter), ((11, yX11_coolsBy, cX11_coolsBy, 6, (some .int), false, false), M_X11_coolsBy), ((11, yX11_cool, cX11_cool, 3, none, false, false), M_X11_cool), ((11, yX11_lives, cX11_lives, 4, none, false, false), M_X11_lives), ((11, yX11_find, cX11_find, 1, none, false, false), M_X11_find), ((11, yX11_heat, cX11_heat, 3, (some .int), false, false), M_X11_heat), ((11, yX11_state, cX11_state, 3, (some .int), false, false), M_X11_state), ((11, yX11_heldBy, cX11_heldBy, 4, (some .int), false, false), M_X11_heldBy)]
def mm_z10 : List (mm_N × mm_M) := [((11, yX11_held, cX11_held, 2, (some .int), false, false), M_X11_held), ((11, yX11_freedBy, cX11_freedBy, 3, (some .int), false, false), M_X11_freedBy), ((11, yX11_freed, cX11_freed, 3, (some .int), false, false), M_X11_freed), ((11, yX11_spoiltNow, cX11_spoiltNow, 3, (some .int), false, false), M_X11_spoiltNow), ((11, yX11_spoilt, cX11_spoilt, 1, (some .int), false, false), M_X11_spoilt), ((11, yX11_here, cX11_here, 4, (some .int), false, false), M_X11_here), ((11, yX11_quietNow, cX11_quietNow, 2, (some .int), false, false), M_X11_quietNow), ((11, yX11_quiet, cX11_quiet, 1, (some .int), false, false), M_X11_quiet), ((11, yX11_crowdBy, cX11_crowdBy, 4, (some .int), false, false), M_X11_crowdBy), ((11, yX11_crowd, cX11_crowd, 2, (some .int), false, false), M_X11_crowd), ((11, yX11_moveOf, cX11_moveOf, 8, (some .int), false, false), M_X11_moveOf), ((11, yX11_move, cX11_move, 3, (some .int), false, false), M_X11_move), ((11, yX11_allHere, cX11_allHere, 3, (some .int), false, false), M_X11_allHere), ((11, yX11_changes, cX11_changes, 4, none, false, false), M_X11_changes), ((11, yX11_swapBy, cX11_swapBy, 8, (some .int), false, false), M_X11_swapBy), ((11, yX11_swap, cX11_swap, 2, (some .int), false, false), M_X11_swap)]
def mm_z11 : List (mm_N × mm_M) := [((11, yX11_line, cX11_line, 2, (some .int), false, false), M_X11_line), ((11, yX11_bearNow, cX11_bearNow, 4, (some .int), false, false), M_X11_bearNow), ((11, yX11_bear, cX11_bear, 1, (some .int), false, false), M_X11_bear), ((11, yX11_seen, cX11_seen, 4, (some .int), false, false), M_X11_seen), ((11, yX11_forget, cX11_forget, 2, (some .int), false, false), M_X11_forget), ((11, yX11_isSeen, cX11_isSeen, 4, (some .boolean), false, false), M_X11_isSeen), ((11, yX11_heatsOf, cX11_heatsOf, 8, (some .int), false, false), M_X11_heatsOf), ((11, yX11_heats, cX11_heats, 3, (some .int), false, false), M_X11_heats), ((11, yX11_slotsOf, cX11_slotsOf, 5, (some .int), false, false), M_X11_slotsOf), ((11, yX11_slots, cX11_slots, 2, (some .int), false, false), M_X11_slots), ((11, yX11_askOf, cX11_askOf, 8, (some .int), false, false), M_X11_askOf), ((11, yX11_ask, cX11_ask, 2, (some .int), false, false), M_X11_ask), ((11, yX11_windowOf, cX11_windowOf, 12, (some .long), false, false), M_X11_windowOf), ((11, yX11_window, cX11_window, 6, (some .long), false, false), M_X11_window), ((11, yX11_lot, cX11_lot, 2, (some .int), false, false), M_X11_lot), ((11, yX11_othersOf, cX11_othersOf, 5, (some .int), false, false), M_X11_othersOf)]
def mm_z12 : List (mm_N × mm_M) := [((11, yX11_others, cX11_others, 3, (some .int), false, false), M_X11_others), ((11, yX11_write, cX11_write, 5, (some .int), false, false), M_X11_write), ((11, yX11_allFreed, cX11_allFreed, 3, (some .int), false, false), M_X11_allFreed), ((11, yX11_count, cX11_count, 2, (some .int), false, false), M_X11_count), ((11, yX11_tellsSlice, cX11_tellsSlice, 8, (some .long), false, false), M_X11_tellsSlice), ((11, yX11_digest, cX11_digest, 4, (some .long), false, false), M_X11_digest)]
def mm_za : List (mm_N × mm_M) := mm_z0 ++ (mm_z1 ++ (mm_z2 ++ (mm_z3 ++ (mm_z4 ++ (mm_z5 ++ (mm_z6 ++ (mm_z7 ++ (mm_z8 ++ (mm_z9 ++ (mm_z10 ++ (mm_z11 ++ (mm_z12))))))))))))
def mm_zl : List (mm_N × mm_M) := mm_za ++ [((12, yL_law, cL_law, 4, (some .boolean), true, false), M_L_law)]
def mm_tab (n : Nat) : Option mm_M := (mm_zl[n]?).map (fun t => t.2)
def mm_rk (n : Nat) : Nat := ((mm_zl[n]?).map (fun t => t.1.1)).getD 99
def mm_cds : List Nat := [203, 603, 744, 837, 607, 628, 636, 715, 611, 615, 623, 632, 640, 644, 648, 653, 332, 767, 789, 797, 805, 809, 813, 771, 197, 599, 680, 393, 846, 853, 276, 692, 696, 707, 719, 723, 711, 731, 740, 119, 503, 517, 619, 437, 586, 864, 880, 893, 309, 755, 775, 784, 418, 507, 521, 524, 527, 360, 822, 827, 831, 109, 489, 532, 536, 540, 546, 550, 558, 564, 571, 575, 579, 595, 660, 664, 668, 672, 676, 684, 688, 703, 727, 736, 751, 759, 763, 793, 801, 817, 842, 857, 868, 872, 884, 889, 898, 903, 911, 916, 922, 932, 907, 499, 590, 876, 495, 492, 567, 554, 582, 860, 510, 943, 1049, 1344, 1085, 1201, 1182, 1208, 1341, 1054, 1045, 1042, 1058, 1066, 1069, 1062, 1073, 1078, 1082, 1090, 1094, 1105, 1114, 1102, 1111, 1098, 1126, 1140, 1118, 1122, 1130, 1137, 1146, 1150, 1154, 1190, 1175, 1171, 1179, 1186, 1205, 1198, 1194, 1167, 1163, 1159, 1212, 1220, 1216, 1228, 1224, 1236, 1232, 1248, 1244, 1240, 1256, 1252, 1264, 1260, 1276, 1280, 1272, 1268, 1284, 1292, 1288, 1296, 1300, 1313, 1309, 1304, 1321, 1317, 1329, 1325, 1338, 1333, 1357, 1353, 1349, 1362, 1370, 1366, 1381, 1374]
def mm_kds : List Nat := [202, 602, 743, 836, 606, 627, 635, 714, 610, 614, 622, 631, 639, 643, 647, 652, 331, 766, 788, 796, 804, 808, 812, 770, 196, 598, 679, 392, 845, 852, 275, 691, 695, 706, 718, 722, 710, 730, 739, 118, 502, 516, 618, 436, 585, 863, 879, 892, 308, 754, 774, 783, 417, 506, 520, 523, 526, 359, 821, 826, 830, 108, 487, 530, 534, 538, 544, 548, 556, 562, 569, 573, 577, 593, 658, 662, 666, 670, 674, 682, 686, 701, 725, 734, 749, 757, 761, 791, 799, 815, 840, 855, 866, 870, 882, 887, 896, 901, 909, 915, 921, 931, 906, 498, 589, 875, 494, 491, 566, 553, 581, 859, 509, 942, 1048, 1343, 1084, 1200, 1181, 1207, 1340, 1053, 1044, 1040, 1056, 1065, 1068, 1060, 1071, 1076, 1080, 1088, 1092, 1104, 1113, 1101, 1110, 1096, 1125, 1139, 1116, 1120, 1128, 1135, 1144, 1148, 1152, 1189, 1174, 1170, 1178, 1185, 1204, 1197, 1193, 1166, 1162, 1157, 1210, 1219, 1214, 1227, 1222, 1235, 1230, 1247, 1243, 1238, 1255, 1250, 1263, 1258, 1275, 1279, 1271, 1266, 1282, 1291, 1286, 1294, 1298, 1312, 1308, 1302, 1320, 1315, 1328, 1323, 1337, 1331, 1356, 1352, 1347, 1360, 1369, 1364, 1380, 1372]
def mm_sls : List Nat := [9, 32, 45, 10, 15, 17, 27, 11, 12, 14, 16, 18, 19, 20, 21, 34, 38, 39, 40, 41, 42, 35, 8, 22, 46, 47, 23, 24, 25, 28, 29, 26, 30, 31, 1, 3, 13, 6, 48, 50, 51, 33, 36, 37, 2, 4, 43, 44, 488, 531, 535, 539, 545, 549, 557, 563, 570, 574, 578, 594, 659, 663, 667, 671, 675, 683, 687, 702, 726, 735, 750, 758, 762, 792, 800, 816, 841, 856, 867, 871, 883, 888, 897, 902, 910, 53, 54, 52, 0, 7, 49, 5, 55, 1041, 1057, 56, 1061, 1072, 1077, 1081, 1089, 1093, 57, 58, 1097, 59, 1117, 1121, 1129, 1136, 1145, 1149, 1153, 66, 63, 62, 64, 65, 69, 68, 67, 61, 60, 1158, 1211, 70, 1215, 71, 1223, 72, 1231, 74, 73, 1239, 75, 1251, 76, 1259, 78, 79, 77, 1267, 1283, 80, 1287, 1295, 1299, 82, 81, 1303, 83, 1316, 84, 1324, 85, 1332, 87, 86, 1348, 1361, 88, 1365, 89, 1373]
def mm_kps : List Nat := [848, 885, 1074, 1358]
def mm_lps : List Nat := [818, 912, 917, 1345, 1046, 1050, 1086, 1106, 1107, 1141, 1131, 1132, 1133, 1142, 1305, 1334, 1376, 1375]
def mm_xps : List Nat := [204, 838, 649, 624, 333, 777, 785, 198, 654, 394, 847, 277, 120, 511, 438, 310, 776, 419, 420, 361, 823, 110, 894, 899, 944]
def mm_sps : List Nat := [559, 924]
/-! what the tables say of the pools: every word stands in lw_tbl, at its place -/
def mm_wf (t : Nat × Nat × Nat × Nat) : Cond := mm_flw t.1 t.2.1 t.2.2.1 t.2.2.2
def mm_y (n : Nat) : MethodName := ((mm_zl[n]?).map (fun t => t.1.2.1)).getD ⟨"", "", ""⟩
def mm_nest (o n : Nat) : Bool := !(o == mm_rk n) && !(o == 12)
def mm_wm (t : Nat × Nat × Nat) : Cond := if mm_nest t.1 t.2.2 = true then .methodLinkNest (mm_nm t.1) t.2.1 (mm_y t.2.2) "ToastGaol" else .methodLink (mm_nm t.1) t.2.1 (mm_y t.2.2)
def mm_wx (t : Nat × Nat × Nat) : Cond := .methodLink (mm_nm t.1) t.2.1 (if t.2.2 = 1000 then Lib.objectInit else if t.2.2 = 1001 then Lib.Math.max.name else if t.2.2 = 1002 then Lib.Math.min.name else arraycopyName)
def mm_wk (t : Nat × Nat × Nat) : Cond := .constant (mm_nm t.1) t.2.1 (Int32.ofNat t.2.2)
def mm_wlg (t : Nat × Nat × Nat) : Cond := .constantLong (mm_nm t.1) t.2.1 (Int64.ofNat t.2.2)
def mm_wc (t : Nat × Nat × Nat) : Cond := .classLink (mm_nm t.1) t.2.1 (mm_nm t.2.2)
def mm_ws (t : Nat × Nat × Nat) : Cond := .fieldLink (mm_nm t.1) t.2.1 "ToastGaol" (if t.2.2 = 1001 then "GREATEST" else "DIGEST_HOURS") "[I"
theorem mm_in_of {α : Type} {l : List α} {f : α → Cond} {ps : List Nat} (h : l.map f = ps.filterMap (fun i => lw_tbl[i]?)) : ∀ t ∈ l, f t ∈ lw_tbl := by
  intro t ht
  have h1 : f t ∈ l.map f := List.mem_map.mpr ⟨t, ht, rfl⟩
  rw [h] at h1
  obtain ⟨i, -, hi⟩ := List.mem_filterMap.mp h1
  exact List.mem_of_getElem? hi
theorem mm_in_f : ∀ t ∈ mm_fp, mm_wf t ∈ lw_tbl := mm_in_of (ps := mm_fps) (by decide +kernel)
theorem mm_in_f2 : ∀ t ∈ mm_fp, t.2.2.1 < 12 ∧ t.2.2.2 < mm_nf t.2.2.1 := by decide +kernel
theorem mm_in_m : ∀ t ∈ mm_mp, mm_wm t ∈ lw_tbl := mm_in_of (ps := mm_mps) (by decide +kernel)
theorem mm_in_x : ∀ t ∈ mm_xp, mm_wx t ∈ lw_tbl := mm_in_of (ps := mm_xps) (by decide +kernel)
theorem mm_in_k : ∀ t ∈ mm_kp, mm_wk t ∈ lw_tbl := mm_in_of (ps := mm_kps) (by decide +kernel)
theorem mm_in_l : ∀ t ∈ mm_lp, mm_wlg t ∈ lw_tbl := mm_in_of (ps := mm_lps) (by decide +kernel)
theorem mm_in_c : ∀ t ∈ mm_cp, mm_wc t ∈ lw_tbl := mm_in_of (ps := mm_cps) (by decide +kernel)
theorem mm_in_s : ∀ t ∈ mm_sp, mm_ws t ∈ lw_tbl := mm_in_of (ps := mm_sps) (by decide +kernel)
set_option maxRecDepth 100000 in
theorem mm_ic0 : ∀ t ∈ mm_z0, Cond.code t.1.2.1 t.1.2.2.1 t.1.2.2.2.1 t.1.2.2.2.2.1 ∈ lw_tbl := mm_in_of (ps := [203, 603, 744, 837, 607, 628, 636, 715, 611, 615, 623, 632, 640, 644, 648, 653]) (f := fun (t : mm_N × mm_M) => Cond.code t.1.2.1 t.1.2.2.1 t.1.2.2.2.1 t.1.2.2.2.2.1) rfl
set_option maxRecDepth 100000 in
theorem mm_ic1 : ∀ t ∈ mm_z1, Cond.code t.1.2.1 t.1.2.2.1 t.1.2.2.2.1 t.1.2.2.2.2.1 ∈ lw_tbl := mm_in_of (ps := [332, 767, 789, 797, 805, 809, 813, 771, 197, 599, 680, 393, 846, 853, 276, 692]) (f := fun (t : mm_N × mm_M) => Cond.code t.1.2.1 t.1.2.2.1 t.1.2.2.2.1 t.1.2.2.2.2.1) rfl
set_option maxRecDepth 100000 in
theorem mm_ic2 : ∀ t ∈ mm_z2, Cond.code t.1.2.1 t.1.2.2.1 t.1.2.2.2.1 t.1.2.2.2.2.1 ∈ lw_tbl := mm_in_of (ps := [696, 707, 719, 723, 711, 731, 740, 119, 503, 517, 619, 437, 586, 864, 880, 893]) (f := fun (t : mm_N × mm_M) => Cond.code t.1.2.1 t.1.2.2.1 t.1.2.2.2.1 t.1.2.2.2.2.1) rfl
set_option maxRecDepth 100000 in
theorem mm_ic3 : ∀ t ∈ mm_z3, Cond.code t.1.2.1 t.1.2.2.1 t.1.2.2.2.1 t.1.2.2.2.2.1 ∈ lw_tbl := mm_in_of (ps := [309, 755, 775, 784, 418, 507, 521, 524, 527, 360, 822, 827, 831, 109, 489, 532]) (f := fun (t : mm_N × mm_M) => Cond.code t.1.2.1 t.1.2.2.1 t.1.2.2.2.1 t.1.2.2.2.2.1) rfl
set_option maxRecDepth 100000 in
theorem mm_ic4 : ∀ t ∈ mm_z4, Cond.code t.1.2.1 t.1.2.2.1 t.1.2.2.2.1 t.1.2.2.2.2.1 ∈ lw_tbl := mm_in_of (ps := [536, 540, 546, 550, 558, 564, 571, 575, 579, 595, 660, 664, 668, 672, 676, 684]) (f := fun (t : mm_N × mm_M) => Cond.code t.1.2.1 t.1.2.2.1 t.1.2.2.2.1 t.1.2.2.2.2.1) rfl
set_option maxRecDepth 100000 in
theorem mm_ic5 : ∀ t ∈ mm_z5, Cond.code t.1.2.1 t.1.2.2.1 t.1.2.2.2.1 t.1.2.2.2.2.1 ∈ lw_tbl := mm_in_of (ps := [688, 703, 727, 736, 751, 759, 763, 793, 801, 817, 842, 857, 868, 872, 884, 889]) (f := fun (t : mm_N × mm_M) => Cond.code t.1.2.1 t.1.2.2.1 t.1.2.2.2.1 t.1.2.2.2.2.1) rfl
set_option maxRecDepth 100000 in
theorem mm_ic6 : ∀ t ∈ mm_z6, Cond.code t.1.2.1 t.1.2.2.1 t.1.2.2.2.1 t.1.2.2.2.2.1 ∈ lw_tbl := mm_in_of (ps := [898, 903, 911, 916, 922, 932, 907, 499, 590, 876, 495, 492, 567, 554, 582, 860]) (f := fun (t : mm_N × mm_M) => Cond.code t.1.2.1 t.1.2.2.1 t.1.2.2.2.1 t.1.2.2.2.2.1) rfl
set_option maxRecDepth 100000 in
theorem mm_ic7 : ∀ t ∈ mm_z7, Cond.code t.1.2.1 t.1.2.2.1 t.1.2.2.2.1 t.1.2.2.2.2.1 ∈ lw_tbl := mm_in_of (ps := [510, 943, 1049, 1344, 1085, 1201, 1182, 1208, 1341, 1054, 1045, 1042, 1058, 1066, 1069, 1062]) (f := fun (t : mm_N × mm_M) => Cond.code t.1.2.1 t.1.2.2.1 t.1.2.2.2.1 t.1.2.2.2.2.1) rfl
set_option maxRecDepth 100000 in
theorem mm_ic8 : ∀ t ∈ mm_z8, Cond.code t.1.2.1 t.1.2.2.1 t.1.2.2.2.1 t.1.2.2.2.2.1 ∈ lw_tbl := mm_in_of (ps := [1073, 1078, 1082, 1090, 1094, 1105, 1114, 1102, 1111, 1098, 1126, 1140, 1118, 1122, 1130, 1137]) (f := fun (t : mm_N × mm_M) => Cond.code t.1.2.1 t.1.2.2.1 t.1.2.2.2.1 t.1.2.2.2.2.1) rfl
set_option maxRecDepth 100000 in
theorem mm_ic9 : ∀ t ∈ mm_z9, Cond.code t.1.2.1 t.1.2.2.1 t.1.2.2.2.1 t.1.2.2.2.2.1 ∈ lw_tbl := mm_in_of (ps := [1146, 1150, 1154, 1190, 1175, 1171, 1179, 1186, 1205, 1198, 1194, 1167, 1163, 1159, 1212, 1220]) (f := fun (t : mm_N × mm_M) => Cond.code t.1.2.1 t.1.2.2.1 t.1.2.2.2.1 t.1.2.2.2.2.1) rfl
set_option maxRecDepth 100000 in
theorem mm_ic10 : ∀ t ∈ mm_z10, Cond.code t.1.2.1 t.1.2.2.1 t.1.2.2.2.1 t.1.2.2.2.2.1 ∈ lw_tbl := mm_in_of (ps := [1216, 1228, 1224, 1236, 1232, 1248, 1244, 1240, 1256, 1252, 1264, 1260, 1276, 1280, 1272, 1268]) (f := fun (t : mm_N × mm_M) => Cond.code t.1.2.1 t.1.2.2.1 t.1.2.2.2.1 t.1.2.2.2.2.1) rfl
set_option maxRecDepth 100000 in
theorem mm_ic11 : ∀ t ∈ mm_z11, Cond.code t.1.2.1 t.1.2.2.1 t.1.2.2.2.1 t.1.2.2.2.2.1 ∈ lw_tbl := mm_in_of (ps := [1284, 1292, 1288, 1296, 1300, 1313, 1309, 1304, 1321, 1317, 1329, 1325, 1338, 1333, 1357, 1353]) (f := fun (t : mm_N × mm_M) => Cond.code t.1.2.1 t.1.2.2.1 t.1.2.2.2.1 t.1.2.2.2.2.1) rfl
set_option maxRecDepth 100000 in
theorem mm_ic12 : ∀ t ∈ mm_z12, Cond.code t.1.2.1 t.1.2.2.1 t.1.2.2.2.1 t.1.2.2.2.2.1 ∈ lw_tbl := mm_in_of (ps := [1349, 1362, 1370, 1366, 1381, 1374]) (f := fun (t : mm_N × mm_M) => Cond.code t.1.2.1 t.1.2.2.1 t.1.2.2.2.1 t.1.2.2.2.2.1) rfl
theorem mm_in_code : ∀ t ∈ mm_za, Cond.code t.1.2.1 t.1.2.2.1 t.1.2.2.2.1 t.1.2.2.2.2.1 ∈ lw_tbl := List.forall_mem_append.mpr ⟨mm_ic0, List.forall_mem_append.mpr ⟨mm_ic1, List.forall_mem_append.mpr ⟨mm_ic2, List.forall_mem_append.mpr ⟨mm_ic3, List.forall_mem_append.mpr ⟨mm_ic4, List.forall_mem_append.mpr ⟨mm_ic5, List.forall_mem_append.mpr ⟨mm_ic6, List.forall_mem_append.mpr ⟨mm_ic7, List.forall_mem_append.mpr ⟨mm_ic8, List.forall_mem_append.mpr ⟨mm_ic9, List.forall_mem_append.mpr ⟨mm_ic10, List.forall_mem_append.mpr ⟨mm_ic11, mm_ic12⟩⟩⟩⟩⟩⟩⟩⟩⟩⟩⟩⟩
theorem mm_in_kind : ∀ t ∈ mm_za, (if t.1.2.2.2.2.2.1 = true then Cond.static t.1.2.1 else Cond.instanceMethod t.1.2.1) ∈ lw_tbl := mm_in_of (ps := mm_kds) (f := fun (t : mm_N × mm_M) => if t.1.2.2.2.2.2.1 = true then Cond.static t.1.2.1 else Cond.instanceMethod t.1.2.1) (by decide +kernel)
theorem mm_in_sel : ∀ t ∈ mm_za.filter (fun t => !t.1.2.2.2.2.2.1 && !t.1.2.2.2.2.2.2), Cond.selects t.1.2.1.cls t.1.2.1 t.1.2.1 ∈ lw_tbl := mm_in_of (ps := mm_sls) (f := fun (t : mm_N × mm_M) => Cond.selects t.1.2.1.cls t.1.2.1 t.1.2.1) (by decide +kernel)
/-! each method's own check -/
def mm_pcAt (code : List mm_I) (k : Nat) (v : Int) : Bool := match code[k]? with
  | some i => decide ((i.2.2.2.2.1 : Int) = v)
  | none => false
def mm_swT (code : List mm_I) (pc : Nat) (l : List (Int × Nat)) (ks offs : List Int) : Bool := match l, ks, offs with
  | [], [], [] => true
  | q :: l', k :: ks', f :: offs' => decide (q.1 = k) && mm_pcAt code q.2 ((pc : Int) + f) && mm_swT code pc l' ks' offs'
  | _, _, _ => false
def mm_lkb (o : Nat) (ini : Bool) (q : Instr) (a b : Nat) : Bool := match q with
  | .getfield i => decide ((o, i, a, b) ∈ mm_fp)
  | .putfield i => decide ((o, i, a, b) ∈ mm_fp) && (!(mm_tT a b).2.2.2 || (ini && decide (o = a) && decide ((mm_tT a b).1 = mm_nm o)))
  | .new i => decide ((o, i, a) ∈ mm_cp) && decide (a < 12)
  | .anewarray i => decide ((o, i, a) ∈ mm_cp) && (mm_rix a).isSome
  | .newarray t => decide (t = .int)
  | .getstatic i => decide ((o, i, a) ∈ mm_sp) && (decide (a = 1001) || decide (a = 1002))
  | .invokestatic i => if a < 1000 then decide ((o, i, a) ∈ mm_mp) else decide ((o, i, a) ∈ mm_xp)
  | .invokespecial i => if a < 1000 then decide ((o, i, a) ∈ mm_mp) else decide ((o, i, a) ∈ mm_xp)
  | .invokevirtual i => decide ((o, i, a) ∈ mm_mp)
  | .ldc i => decide ((o, i, a) ∈ mm_kp)
  | .ldc_w i => decide ((o, i, a) ∈ mm_kp)
  | .ldc2_w i => decide ((o, i, a) ∈ mm_lp)
  | _ => true
/-- the callee of a call: of the right kind, with so many parameters -/
def mm_cal (q : Instr) (a b : Nat) : Bool := match mm_zl[a]? with
  | none => false
  | some t => decide (a < 198) && (match q with
    | .invokestatic _ => t.1.2.2.2.2.2.1 && decide ((parseMethodDescriptor t.1.2.1.desc).map (fun d => d.parameters.length) = some b)
    | .invokespecial _ => !t.1.2.2.2.2.2.1 && t.1.2.2.2.2.2.2 && decide (t.1.2.2.2.2.1 = none) && decide ((parseMethodDescriptor t.1.2.1.desc).map (fun d => d.parameters.length + 1) = some b)
    | .invokevirtual _ => !t.1.2.2.2.2.2.1 && !t.1.2.2.2.2.2.2 && decide ((parseMethodDescriptor t.1.2.1.desc).map (fun d => d.parameters.length + 1) = some b)
    | _ => false)
def mm_okI (o : Nat) (ini : Bool) (cc : ByteArray) (code : List mm_I) (i : mm_I) : Bool :=
  decide (decode cc i.2.2.2.2.1 = .ok (i.1, i.2.2.2.2.2)) && mm_lkb o ini i.1 i.2.1 i.2.2.1 && (match mm_kd i.1 i.2.1 with
    | 0 => decide (mm_ln i.1 = i.2.2.2.2.2) && mm_pcAt code i.2.2.2.1 ((i.2.2.2.2.1 : Int) + i.2.2.2.2.2)
    | 1 => decide (mm_ln i.1 = i.2.2.2.2.2) && mm_pcAt code i.2.2.2.1 ((i.2.2.2.2.1 : Int) + i.2.2.2.2.2)
    | 2 => decide (mm_ln i.1 = i.2.2.2.2.2) && (match i.1 with
      | .goto f => mm_pcAt code i.2.1 ((i.2.2.2.2.1 : Int) + f)
      | .ifCond _ f => mm_pcAt code i.2.1 ((i.2.2.2.2.1 : Int) + f) && mm_pcAt code i.2.2.2.1 ((i.2.2.2.2.1 : Int) + i.2.2.2.2.2)
      | .if_icmp _ f => mm_pcAt code i.2.1 ((i.2.2.2.2.1 : Int) + f) && mm_pcAt code i.2.2.2.1 ((i.2.2.2.2.1 : Int) + i.2.2.2.2.2)
      | _ => false)
    | 3 => decide (mm_ln i.1 = i.2.2.2.2.2) && mm_pcAt code i.2.2.2.1 ((i.2.2.2.2.1 : Int) + i.2.2.2.2.2)
    | 4 => decide (mm_ln i.1 = i.2.2.2.2.2) && mm_pcAt code i.2.2.2.1 ((i.2.2.2.2.1 : Int) + i.2.2.2.2.2) && mm_cal i.1 i.2.1 i.2.2.1
    | 5 => decide (mm_ln i.1 = i.2.2.2.2.2)
    | 6 => match i.1 with
      | .tableswitch dflt lo hi offs => mm_pcAt code i.2.1 ((i.2.2.2.2.1 : Int) + dflt) && decide (hi = lo + offs.size - 1) && mm_swT code i.2.2.2.2.1 (mm_sw i.2.2.1) ((List.range offs.size).map (fun (j : Nat) => lo + (j : Int))) offs.toList
      | .lookupswitch dflt ps => mm_pcAt code i.2.1 ((i.2.2.2.2.1 : Int) + dflt) && (ps.toList.zip (ps.toList.drop 1)).all (fun (a, next) => a.1 < next.1) && mm_swT code i.2.2.2.2.1 (mm_sw i.2.2.1) (ps.toList.map (fun t => t.1)) (ps.toList.map (fun t => t.2))
      | _ => false
    | _ => false)
def mm_rt (r : Option FieldType) : Nat := match r with
  | none => 0
  | some .int => 1
  | some .boolean => 2
  | some .long => 3
  | _ => 9
def mm_okH (t : mm_N × mm_M) : Bool := decide (t.2.1 = mm_rt t.1.2.2.2.2.1) && decide (t.2.2.1 = t.1.2.2.2.1) && decide (t.1.2.2.2.1 ≤ 40) && decide (t.1.2.1.cls = mm_nm t.1.1) && decide (t.1.1 < 13) && decide (t.1.2.2.2.2.2.2 = true → t.1.2.1.name = "<init>") && plainName t.1.2.1.cls && decide (t.1.2.1.cls ≠ "java/lang/invoke/MethodHandle") && decide (t.1.2.1.cls ≠ "java/lang/invoke/VarHandle") && mm_pcAt t.2.2.2 0 0
def mm_okM (t : mm_N × mm_M) : Bool := mm_okH t && t.2.2.2.all (mm_okI t.1.1 t.1.2.2.2.2.2.2 t.1.2.2.1 t.2.2.2)
end
section
theorem ok_X0_init : mm_okM ((0, yX0_init, cX0_init, 2, none, false, true), M_X0_init) = true := by decide +kernel
theorem ok_X0_begin : mm_okM ((0, yX0_begin, cX0_begin, 2, none, false, false), M_X0_begin) = true := by decide +kernel
theorem ok_X0_goThrough : mm_okM ((0, yX0_goThrough, cX0_goThrough, 2, none, false, false), M_X0_goThrough) = true := by decide +kernel
theorem ok_X0_follow : mm_okM ((0, yX0_follow, cX0_follow, 4, none, false, false), M_X0_follow) = true := by decide +kernel
theorem ok_X0_untilButters : mm_okM ((0, yX0_untilButters, cX0_untilButters, 2, none, false, false), M_X0_untilButters) = true := by decide +kernel
theorem ok_X0_fromButters : mm_okM ((0, yX0_fromButters, cX0_fromButters, 4, none, false, false), M_X0_fromButters) = true := by decide +kernel
theorem ok_X0_isIn : mm_okM ((0, yX0_isIn, cX0_isIn, 2, (some .boolean), false, false), M_X0_isIn) = true := by decide +kernel
theorem ok_X0_howManyIn : mm_okM ((0, yX0_howManyIn, cX0_howManyIn, 3, (some .int), false, false), M_X0_howManyIn) = true := by decide +kernel
theorem ok_X0_comeAgain : mm_okM ((0, yX0_comeAgain, cX0_comeAgain, 3, none, false, false), M_X0_comeAgain) = true := by decide +kernel
theorem ok_X0_takePlaces : mm_okM ((0, yX0_takePlaces, cX0_takePlaces, 3, none, false, false), M_X0_takePlaces) = true := by decide +kernel
theorem ok_X0_warm : mm_okM ((0, yX0_warm, cX0_warm, 3, none, false, false), M_X0_warm) = true := by decide +kernel
theorem ok_X0_spread : mm_okM ((0, yX0_spread, cX0_spread, 4, none, false, false), M_X0_spread) = true := by decide +kernel
theorem ok_X0_leave : mm_okM ((0, yX0_leave, cX0_leave, 3, none, false, false), M_X0_leave) = true := by decide +kernel
theorem ok_X0_feelWarmth : mm_okM ((0, yX0_feelWarmth, cX0_feelWarmth, 3, none, false, false), M_X0_feelWarmth) = true := by decide +kernel
theorem ok_X0_cooling : mm_okM ((0, yX0_cooling, cX0_cooling, 6, (some .int), false, false), M_X0_cooling) = true := by decide +kernel
theorem ok_X0_letGo : mm_okM ((0, yX0_letGo, cX0_letGo, 3, none, false, false), M_X0_letGo) = true := by decide +kernel
theorem ok_X1_init : mm_okM ((1, yX1_init, cX1_init, 4, none, false, true), M_X1_init) = true := by decide +kernel
theorem ok_X1_findHeats : mm_okM ((1, yX1_findHeats, cX1_findHeats, 4, none, false, false), M_X1_findHeats) = true := by decide +kernel
theorem ok_X1_heatAt : mm_okM ((1, yX1_heatAt, cX1_heatAt, 2, (some .int), false, false), M_X1_heatAt) = true := by decide +kernel
theorem ok_X1_slotsOf : mm_okM ((1, yX1_slotsOf, cX1_slotsOf, 5, (some .int), false, false), M_X1_slotsOf) = true := by decide +kernel
theorem ok_X1_nextToTouch : mm_okM ((1, yX1_nextToTouch, cX1_nextToTouch, 4, (some .int), false, false), M_X1_nextToTouch) = true := by decide +kernel
theorem ok_X1_tallyNoted : mm_okM ((1, yX1_tallyNoted, cX1_tallyNoted, 2, none, false, false), M_X1_tallyNoted) = true := by decide +kernel
theorem ok_X1_leastOfTheGreatest : mm_okM ((1, yX1_leastOfTheGreatest, cX1_leastOfTheGreatest, 6, (some .int), false, false), M_X1_leastOfTheGreatest) = true := by decide +kernel
theorem ok_X1_allComesOut : mm_okM ((1, yX1_allComesOut, cX1_allComesOut, 4, (some .boolean), false, false), M_X1_allComesOut) = true := by decide +kernel
end
section
theorem ok_X2_init : mm_okM ((2, yX2_init, cX2_init, 2, none, false, true), M_X2_init) = true := by decide +kernel
theorem ok_X2_bringUpToDate : mm_okM ((2, yX2_bringUpToDate, cX2_bringUpToDate, 2, none, false, false), M_X2_bringUpToDate) = true := by decide +kernel
theorem ok_X2_leastLeaning : mm_okM ((2, yX2_leastLeaning, cX2_leastLeaning, 3, (some .int), false, false), M_X2_leastLeaning) = true := by decide +kernel
theorem ok_X3_init : mm_okM ((3, yX3_init, cX3_init, 3, none, false, true), M_X3_init) = true := by decide +kernel
theorem ok_X3_draw : mm_okM ((3, yX3_draw, cX3_draw, 4, none, false, false), M_X3_draw) = true := by decide +kernel
theorem ok_X3_howManyAre : mm_okM ((3, yX3_howManyAre, cX3_howManyAre, 4, (some .int), false, false), M_X3_howManyAre) = true := by decide +kernel
theorem ok_X4_init : mm_okM ((4, yX4_init, cX4_init, 3, none, false, true), M_X4_init) = true := by decide +kernel
theorem ok_X4_findMove : mm_okM ((4, yX4_findMove, cX4_findMove, 6, none, false, false), M_X4_findMove) = true := by decide +kernel
theorem ok_X4_letGoBefore : mm_okM ((4, yX4_letGoBefore, cX4_letGoBefore, 4, (some .int), false, false), M_X4_letGoBefore) = true := by decide +kernel
theorem ok_X4_findSwap : mm_okM ((4, yX4_findSwap, cX4_findSwap, 5, none, false, false), M_X4_findSwap) = true := by decide +kernel
theorem ok_X4_stayIfSwapped : mm_okM ((4, yX4_stayIfSwapped, cX4_stayIfSwapped, 4, (some .int), false, false), M_X4_stayIfSwapped) = true := by decide +kernel
theorem ok_X4_changeSlots : mm_okM ((4, yX4_changeSlots, cX4_changeSlots, 4, none, false, false), M_X4_changeSlots) = true := by decide +kernel
theorem ok_X4_stayOfAll : mm_okM ((4, yX4_stayOfAll, cX4_stayOfAll, 3, (some .int), false, false), M_X4_stayOfAll) = true := by decide +kernel
theorem ok_X4_firstButterHour : mm_okM ((4, yX4_firstButterHour, cX4_firstButterHour, 3, (some .int), false, false), M_X4_firstButterHour) = true := by decide +kernel
theorem ok_X4_greatestSummer : mm_okM ((4, yX4_greatestSummer, cX4_greatestSummer, 4, (some .int), false, false), M_X4_greatestSummer) = true := by decide +kernel
theorem ok_X5_init : mm_okM ((5, yX5_init, cX5_init, 1, none, false, true), M_X5_init) = true := by decide +kernel
theorem ok_X5_takeRack : mm_okM ((5, yX5_takeRack, cX5_takeRack, 3, none, false, false), M_X5_takeRack) = true := by decide +kernel
theorem ok_X5_takeSlices : mm_okM ((5, yX5_takeSlices, cX5_takeSlices, 5, none, false, false), M_X5_takeSlices) = true := by decide +kernel
theorem ok_X5_firesIn : mm_okM ((5, yX5_firesIn, cX5_firesIn, 4, (some .int), false, false), M_X5_firesIn) = true := by decide +kernel
theorem ok_X6_init : mm_okM ((6, yX6_init, cX6_init, 1, none, false, true), M_X6_init) = true := by decide +kernel
theorem ok_X6_isLost : mm_okM ((6, yX6_isLost, cX6_isLost, 1, (some .boolean), false, false), M_X6_isLost) = true := by decide +kernel
theorem ok_X6_renew : mm_okM ((6, yX6_renew, cX6_renew, 4, none, false, false), M_X6_renew) = true := by decide +kernel
theorem ok_X6_put : mm_okM ((6, yX6_put, cX6_put, 3, none, false, false), M_X6_put) = true := by decide +kernel
theorem ok_X6_hasRun : mm_okM ((6, yX6_hasRun, cX6_hasRun, 3, (some .boolean), false, false), M_X6_hasRun) = true := by decide +kernel
theorem ok_X7_init : mm_okM ((7, yX7_init, cX7_init, 2, none, false, true), M_X7_init) = true := by decide +kernel
theorem ok_X7_add : mm_okM ((7, yX7_add, cX7_add, 4, none, false, false), M_X7_add) = true := by decide +kernel
theorem ok_X7_lastHour : mm_okM ((7, yX7_lastHour, cX7_lastHour, 3, (some .int), false, false), M_X7_lastHour) = true := by decide +kernel
theorem ok_X7_agreeWith : mm_okM ((7, yX7_agreeWith, cX7_agreeWith, 4, (some .boolean), false, false), M_X7_agreeWith) = true := by decide +kernel
theorem ok_X8_init : mm_okM ((8, yX8_init, cX8_init, 2, none, false, true), M_X8_init) = true := by decide +kernel
theorem ok_X8_faultAsRack : mm_okM ((8, yX8_faultAsRack, cX8_faultAsRack, 2, (some .int), false, false), M_X8_faultAsRack) = true := by decide +kernel
end
section
theorem ok_X8_faultAsSlices : mm_okM ((8, yX8_faultAsSlices, cX8_faultAsSlices, 2, (some .int), false, false), M_X8_faultAsSlices) = true := by decide +kernel
theorem ok_X8_goesOn : mm_okM ((8, yX8_goesOn, cX8_goesOn, 2, (some .boolean), true, false), M_X8_goesOn) = true := by decide +kernel
theorem ok_X8_kindOf : mm_okM ((8, yX8_kindOf, cX8_kindOf, 1, (some .int), true, false), M_X8_kindOf) = true := by decide +kernel
theorem ok_X9_init : mm_okM ((9, yX9_init, cX9_init, 3, none, false, true), M_X9_init) = true := by decide +kernel
theorem ok_X9_weigh : mm_okM ((9, yX9_weigh, cX9_weigh, 6, none, false, false), M_X9_weigh) = true := by decide +kernel
theorem ok_X9_ways : mm_okM ((9, yX9_ways, cX9_ways, 5, (some .long), true, false), M_X9_ways) = true := by decide +kernel
theorem ok_X9_isLetGoFrom : mm_okM ((9, yX9_isLetGoFrom, cX9_isLetGoFrom, 4, (some .boolean), false, false), M_X9_isLetGoFrom) = true := by decide +kernel
theorem ok_X10_init : mm_okM ((10, yX10_init, cX10_init, 2, none, false, true), M_X10_init) = true := by decide +kernel
theorem ok_X10_type : mm_okM ((10, yX10_type, cX10_type, 4, (some .int), false, false), M_X10_type) = true := by decide +kernel
theorem ok_X10_wipe : mm_okM ((10, yX10_wipe, cX10_wipe, 3, (some .int), false, false), M_X10_wipe) = true := by decide +kernel
theorem ok_X10_undo : mm_okM ((10, yX10_undo, cX10_undo, 2, (some .int), false, false), M_X10_undo) = true := by decide +kernel
theorem ok_X10_fault : mm_okM ((10, yX10_fault, cX10_fault, 2, (some .int), false, false), M_X10_fault) = true := by decide +kernel
theorem ok_X10_draws : mm_okM ((10, yX10_draws, cX10_draws, 2, (some .int), false, false), M_X10_draws) = true := by decide +kernel
theorem ok_X10_slice : mm_okM ((10, yX10_slice, cX10_slice, 3, (some .int), false, false), M_X10_slice) = true := by decide +kernel
theorem ok_X10_set : mm_okM ((10, yX10_set, cX10_set, 4, (some .int), false, false), M_X10_set) = true := by decide +kernel
theorem ok_X10_butter : mm_okM ((10, yX10_butter, cX10_butter, 3, (some .int), false, false), M_X10_butter) = true := by decide +kernel
theorem ok_X10_fire : mm_okM ((10, yX10_fire, cX10_fire, 2, (some .int), false, false), M_X10_fire) = true := by decide +kernel
theorem ok_X10_back : mm_okM ((10, yX10_back, cX10_back, 3, (some .int), false, false), M_X10_back) = true := by decide +kernel
theorem ok_X10_read : mm_okM ((10, yX10_read, cX10_read, 4, (some .int), false, false), M_X10_read) = true := by decide +kernel
theorem ok_X10_heat : mm_okM ((10, yX10_heat, cX10_heat, 3, (some .int), false, false), M_X10_heat) = true := by decide +kernel
theorem ok_X10_state : mm_okM ((10, yX10_state, cX10_state, 3, (some .int), false, false), M_X10_state) = true := by decide +kernel
theorem ok_X10_held : mm_okM ((10, yX10_held, cX10_held, 2, (some .int), false, false), M_X10_held) = true := by decide +kernel
theorem ok_X10_freed : mm_okM ((10, yX10_freed, cX10_freed, 3, (some .int), false, false), M_X10_freed) = true := by decide +kernel
theorem ok_X10_spoilt : mm_okM ((10, yX10_spoilt, cX10_spoilt, 3, (some .int), false, false), M_X10_spoilt) = true := by decide +kernel
end
section
theorem ok_X10_quiet : mm_okM ((10, yX10_quiet, cX10_quiet, 2, (some .int), false, false), M_X10_quiet) = true := by decide +kernel
theorem ok_X10_crowd : mm_okM ((10, yX10_crowd, cX10_crowd, 4, (some .int), false, false), M_X10_crowd) = true := by decide +kernel
theorem ok_X10_move : mm_okM ((10, yX10_move, cX10_move, 3, (some .int), false, false), M_X10_move) = true := by decide +kernel
theorem ok_X10_swap : mm_okM ((10, yX10_swap, cX10_swap, 2, (some .int), false, false), M_X10_swap) = true := by decide +kernel
theorem ok_X10_line : mm_okM ((10, yX10_line, cX10_line, 2, (some .int), false, false), M_X10_line) = true := by decide +kernel
theorem ok_X10_bear : mm_okM ((10, yX10_bear, cX10_bear, 1, (some .int), false, false), M_X10_bear) = true := by decide +kernel
theorem ok_X10_seen : mm_okM ((10, yX10_seen, cX10_seen, 4, (some .int), false, false), M_X10_seen) = true := by decide +kernel
theorem ok_X10_forget : mm_okM ((10, yX10_forget, cX10_forget, 2, (some .int), false, false), M_X10_forget) = true := by decide +kernel
theorem ok_X10_heats : mm_okM ((10, yX10_heats, cX10_heats, 3, (some .int), false, false), M_X10_heats) = true := by decide +kernel
theorem ok_X10_slots : mm_okM ((10, yX10_slots, cX10_slots, 2, (some .int), false, false), M_X10_slots) = true := by decide +kernel
theorem ok_X10_ask : mm_okM ((10, yX10_ask, cX10_ask, 2, (some .int), false, false), M_X10_ask) = true := by decide +kernel
theorem ok_X10_window : mm_okM ((10, yX10_window, cX10_window, 6, (some .long), false, false), M_X10_window) = true := by decide +kernel
theorem ok_X10_others : mm_okM ((10, yX10_others, cX10_others, 3, (some .int), false, false), M_X10_others) = true := by decide +kernel
theorem ok_X10_sheet : mm_okM ((10, yX10_sheet, cX10_sheet, 4, (some .int), false, false), M_X10_sheet) = true := by decide +kernel
theorem ok_X10_lose : mm_okM ((10, yX10_lose, cX10_lose, 3, (some .int), false, false), M_X10_lose) = true := by decide +kernel
theorem ok_X10_lay : mm_okM ((10, yX10_lay, cX10_lay, 6, (some .int), false, false), M_X10_lay) = true := by decide +kernel
theorem ok_X10_get : mm_okM ((10, yX10_get, cX10_get, 5, (some .int), false, false), M_X10_get) = true := by decide +kernel
theorem ok_X10_copy : mm_okM ((10, yX10_copy, cX10_copy, 8, (some .int), false, false), M_X10_copy) = true := by decide +kernel
theorem ok_X10_write : mm_okM ((10, yX10_write, cX10_write, 5, (some .int), false, false), M_X10_write) = true := by decide +kernel
theorem ok_X10_count : mm_okM ((10, yX10_count, cX10_count, 2, (some .int), false, false), M_X10_count) = true := by decide +kernel
theorem ok_X10_digest : mm_okM ((10, yX10_digest, cX10_digest, 4, (some .long), false, false), M_X10_digest) = true := by decide +kernel
theorem ok_X10_mix : mm_okM ((10, yX10_mix, cX10_mix, 4, (some .long), true, false), M_X10_mix) = true := by decide +kernel
theorem ok_X10_mixTold : mm_okM ((10, yX10_mixTold, cX10_mixTold, 10, (some .long), false, false), M_X10_mixTold) = true := by decide +kernel
theorem ok_X10_mixFound : mm_okM ((10, yX10_mixFound, cX10_mixFound, 6, (some .long), false, false), M_X10_mixFound) = true := by decide +kernel
theorem ok_X10_timesLetGo : mm_okM ((10, yX10_timesLetGo, cX10_timesLetGo, 3, (some .int), false, false), M_X10_timesLetGo) = true := by decide +kernel
theorem ok_X10_learn : mm_okM ((10, yX10_learn, cX10_learn, 2, none, false, false), M_X10_learn) = true := by decide +kernel
theorem ok_X10_found : mm_okM ((10, yX10_found, cX10_found, 2, (some .int), false, false), M_X10_found) = true := by decide +kernel
theorem ok_X10_findingAt : mm_okM ((10, yX10_findingAt, cX10_findingAt, 4, (some .int), false, false), M_X10_findingAt) = true := by decide +kernel
end
section
theorem ok_X10_isWithin : mm_okM ((10, yX10_isWithin, cX10_isWithin, 2, (some .boolean), true, false), M_X10_isWithin) = true := by decide +kernel
theorem ok_X10_isText : mm_okM ((10, yX10_isText, cX10_isText, 1, (some .boolean), true, false), M_X10_isText) = true := by decide +kernel
theorem ok_X10_isHour : mm_okM ((10, yX10_isHour, cX10_isHour, 1, (some .boolean), true, false), M_X10_isHour) = true := by decide +kernel
theorem ok_X10_isSlice : mm_okM ((10, yX10_isSlice, cX10_isSlice, 2, (some .boolean), false, false), M_X10_isSlice) = true := by decide +kernel
theorem ok_X10_isSheet : mm_okM ((10, yX10_isSheet, cX10_isSheet, 1, (some .boolean), true, false), M_X10_isSheet) = true := by decide +kernel
theorem ok_X10_isForm : mm_okM ((10, yX10_isForm, cX10_isForm, 1, (some .boolean), true, false), M_X10_isForm) = true := by decide +kernel
theorem ok_X10_isFigure : mm_okM ((10, yX10_isFigure, cX10_isFigure, 1, (some .boolean), true, false), M_X10_isFigure) = true := by decide +kernel
theorem ok_X11_init : mm_okM ((11, yX11_init, cX11_init, 2, none, false, true), M_X11_init) = true := by decide +kernel
theorem ok_X11_in : mm_okM ((11, yX11_in, cX11_in, 6, (some .boolean), true, false), M_X11_in) = true := by decide +kernel
theorem ok_X11_no : mm_okM ((11, yX11_no, cX11_no, 1, (some .long), true, false), M_X11_no) = true := by decide +kernel
theorem ok_X11_isTwo : mm_okM ((11, yX11_isTwo, cX11_isTwo, 1, (some .boolean), true, false), M_X11_isTwo) = true := by decide +kernel
theorem ok_X11_isIn : mm_okM ((11, yX11_isIn, cX11_isIn, 2, (some .boolean), true, false), M_X11_isIn) = true := by decide +kernel
theorem ok_X11_lesser : mm_okM ((11, yX11_lesser, cX11_lesser, 2, (some .int), true, false), M_X11_lesser) = true := by decide +kernel
theorem ok_X11_greater : mm_okM ((11, yX11_greater, cX11_greater, 2, (some .int), true, false), M_X11_greater) = true := by decide +kernel
theorem ok_X11_part : mm_okM ((11, yX11_part, cX11_part, 11, (some .long), true, false), M_X11_part) = true := by decide +kernel
theorem ok_X11_finds : mm_okM ((11, yX11_finds, cX11_finds, 2, (some .int), false, false), M_X11_finds) = true := by decide +kernel
theorem ok_X11_isSheet : mm_okM ((11, yX11_isSheet, cX11_isSheet, 1, (some .boolean), true, false), M_X11_isSheet) = true := by decide +kernel
theorem ok_X11_sheet : mm_okM ((11, yX11_sheet, cX11_sheet, 5, (some .int), false, false), M_X11_sheet) = true := by decide +kernel
theorem ok_X11_lose : mm_okM ((11, yX11_lose, cX11_lose, 2, (some .int), false, false), M_X11_lose) = true := by decide +kernel
theorem ok_X11_lacks : mm_okM ((11, yX11_lacks, cX11_lacks, 4, (some .int), false, false), M_X11_lacks) = true := by decide +kernel
theorem ok_X11_cut : mm_okM ((11, yX11_cut, cX11_cut, 2, (some .int), true, false), M_X11_cut) = true := by decide +kernel
theorem ok_X11_lay : mm_okM ((11, yX11_lay, cX11_lay, 6, (some .int), false, false), M_X11_lay) = true := by decide +kernel
theorem ok_X11_get : mm_okM ((11, yX11_get, cX11_get, 4, (some .int), false, false), M_X11_get) = true := by decide +kernel
theorem ok_X11_copy : mm_okM ((11, yX11_copy, cX11_copy, 7, (some .int), false, false), M_X11_copy) = true := by decide +kernel
theorem ok_X11_type : mm_okM ((11, yX11_type, cX11_type, 3, (some .int), false, false), M_X11_type) = true := by decide +kernel
theorem ok_X11_wipe : mm_okM ((11, yX11_wipe, cX11_wipe, 3, (some .int), false, false), M_X11_wipe) = true := by decide +kernel
theorem ok_X11_undo : mm_okM ((11, yX11_undo, cX11_undo, 2, (some .int), false, false), M_X11_undo) = true := by decide +kernel
theorem ok_X11_figureOf : mm_okM ((11, yX11_figureOf, cX11_figureOf, 1, (some .int), true, false), M_X11_figureOf) = true := by decide +kernel
theorem ok_X11_sliceOf : mm_okM ((11, yX11_sliceOf, cX11_sliceOf, 2, (some .int), true, false), M_X11_sliceOf) = true := by decide +kernel
theorem ok_X11_readsRack : mm_okM ((11, yX11_readsRack, cX11_readsRack, 3, (some .int), false, false), M_X11_readsRack) = true := by decide +kernel
theorem ok_X11_readsSlices : mm_okM ((11, yX11_readsSlices, cX11_readsSlices, 6, (some .int), false, false), M_X11_readsSlices) = true := by decide +kernel
theorem ok_X11_fault : mm_okM ((11, yX11_fault, cX11_fault, 2, (some .int), false, false), M_X11_fault) = true := by decide +kernel
theorem ok_X11_isSlice : mm_okM ((11, yX11_isSlice, cX11_isSlice, 2, (some .boolean), false, false), M_X11_isSlice) = true := by decide +kernel
theorem ok_X11_isHour : mm_okM ((11, yX11_isHour, cX11_isHour, 1, (some .boolean), true, false), M_X11_isHour) = true := by decide +kernel
theorem ok_X11_draws : mm_okM ((11, yX11_draws, cX11_draws, 2, (some .int), false, false), M_X11_draws) = true := by decide +kernel
theorem ok_X11_slice : mm_okM ((11, yX11_slice, cX11_slice, 3, (some .int), false, false), M_X11_slice) = true := by decide +kernel
end
section
theorem ok_X11_set : mm_okM ((11, yX11_set, cX11_set, 4, (some .int), false, false), M_X11_set) = true := by decide +kernel
theorem ok_X11_butter : mm_okM ((11, yX11_butter, cX11_butter, 3, (some .int), false, false), M_X11_butter) = true := by decide +kernel
theorem ok_X11_fire : mm_okM ((11, yX11_fire, cX11_fire, 2, (some .int), false, false), M_X11_fire) = true := by decide +kernel
theorem ok_X11_back : mm_okM ((11, yX11_back, cX11_back, 3, (some .int), false, false), M_X11_back) = true := by decide +kernel
theorem ok_X11_read : mm_okM ((11, yX11_read, cX11_read, 4, (some .int), false, false), M_X11_read) = true := by decide +kernel
theorem ok_X11_isHere : mm_okM ((11, yX11_isHere, cX11_isHere, 2, (some .boolean), false, false), M_X11_isHere) = true := by decide +kernel
theorem ok_X11_standingIn : mm_okM ((11, yX11_standingIn, cX11_standingIn, 3, (some .int), false, false), M_X11_standingIn) = true := by decide +kernel
theorem ok_X11_comesAgain : mm_okM ((11, yX11_comesAgain, cX11_comesAgain, 3, none, false, false), M_X11_comesAgain) = true := by decide +kernel
theorem ok_X11_burns : mm_okM ((11, yX11_burns, cX11_burns, 4, none, false, false), M_X11_burns) = true := by decide +kernel
theorem ok_X11_spreads : mm_okM ((11, yX11_spreads, cX11_spreads, 4, none, false, false), M_X11_spreads) = true := by decide +kernel
theorem ok_X11_hotter : mm_okM ((11, yX11_hotter, cX11_hotter, 4, (some .int), false, false), M_X11_hotter) = true := by decide +kernel
theorem ok_X11_coolsBy : mm_okM ((11, yX11_coolsBy, cX11_coolsBy, 6, (some .int), false, false), M_X11_coolsBy) = true := by decide +kernel
theorem ok_X11_cool : mm_okM ((11, yX11_cool, cX11_cool, 3, none, false, false), M_X11_cool) = true := by decide +kernel
theorem ok_X11_lives : mm_okM ((11, yX11_lives, cX11_lives, 4, none, false, false), M_X11_lives) = true := by decide +kernel
theorem ok_X11_find : mm_okM ((11, yX11_find, cX11_find, 1, none, false, false), M_X11_find) = true := by decide +kernel
theorem ok_X11_heat : mm_okM ((11, yX11_heat, cX11_heat, 3, (some .int), false, false), M_X11_heat) = true := by decide +kernel
theorem ok_X11_state : mm_okM ((11, yX11_state, cX11_state, 3, (some .int), false, false), M_X11_state) = true := by decide +kernel
theorem ok_X11_heldBy : mm_okM ((11, yX11_heldBy, cX11_heldBy, 4, (some .int), false, false), M_X11_heldBy) = true := by decide +kernel
end
section
theorem ok_X11_held : mm_okM ((11, yX11_held, cX11_held, 2, (some .int), false, false), M_X11_held) = true := by decide +kernel
theorem ok_X11_freedBy : mm_okM ((11, yX11_freedBy, cX11_freedBy, 3, (some .int), false, false), M_X11_freedBy) = true := by decide +kernel
theorem ok_X11_freed : mm_okM ((11, yX11_freed, cX11_freed, 3, (some .int), false, false), M_X11_freed) = true := by decide +kernel
theorem ok_X11_spoiltNow : mm_okM ((11, yX11_spoiltNow, cX11_spoiltNow, 3, (some .int), false, false), M_X11_spoiltNow) = true := by decide +kernel
theorem ok_X11_spoilt : mm_okM ((11, yX11_spoilt, cX11_spoilt, 1, (some .int), false, false), M_X11_spoilt) = true := by decide +kernel
theorem ok_X11_here : mm_okM ((11, yX11_here, cX11_here, 4, (some .int), false, false), M_X11_here) = true := by decide +kernel
theorem ok_X11_quietNow : mm_okM ((11, yX11_quietNow, cX11_quietNow, 2, (some .int), false, false), M_X11_quietNow) = true := by decide +kernel
theorem ok_X11_quiet : mm_okM ((11, yX11_quiet, cX11_quiet, 1, (some .int), false, false), M_X11_quiet) = true := by decide +kernel
theorem ok_X11_crowdBy : mm_okM ((11, yX11_crowdBy, cX11_crowdBy, 4, (some .int), false, false), M_X11_crowdBy) = true := by decide +kernel
theorem ok_X11_crowd : mm_okM ((11, yX11_crowd, cX11_crowd, 2, (some .int), false, false), M_X11_crowd) = true := by decide +kernel
theorem ok_X11_moveOf : mm_okM ((11, yX11_moveOf, cX11_moveOf, 8, (some .int), false, false), M_X11_moveOf) = true := by decide +kernel
theorem ok_X11_move : mm_okM ((11, yX11_move, cX11_move, 3, (some .int), false, false), M_X11_move) = true := by decide +kernel
theorem ok_X11_allHere : mm_okM ((11, yX11_allHere, cX11_allHere, 3, (some .int), false, false), M_X11_allHere) = true := by decide +kernel
theorem ok_X11_changes : mm_okM ((11, yX11_changes, cX11_changes, 4, none, false, false), M_X11_changes) = true := by decide +kernel
theorem ok_X11_swapBy : mm_okM ((11, yX11_swapBy, cX11_swapBy, 8, (some .int), false, false), M_X11_swapBy) = true := by decide +kernel
theorem ok_X11_swap : mm_okM ((11, yX11_swap, cX11_swap, 2, (some .int), false, false), M_X11_swap) = true := by decide +kernel
theorem ok_X11_line : mm_okM ((11, yX11_line, cX11_line, 2, (some .int), false, false), M_X11_line) = true := by decide +kernel
theorem ok_X11_bearNow : mm_okM ((11, yX11_bearNow, cX11_bearNow, 4, (some .int), false, false), M_X11_bearNow) = true := by decide +kernel
theorem ok_X11_bear : mm_okM ((11, yX11_bear, cX11_bear, 1, (some .int), false, false), M_X11_bear) = true := by decide +kernel
theorem ok_X11_seen : mm_okM ((11, yX11_seen, cX11_seen, 4, (some .int), false, false), M_X11_seen) = true := by decide +kernel
theorem ok_X11_forget : mm_okM ((11, yX11_forget, cX11_forget, 2, (some .int), false, false), M_X11_forget) = true := by decide +kernel
theorem ok_X11_isSeen : mm_okM ((11, yX11_isSeen, cX11_isSeen, 4, (some .boolean), false, false), M_X11_isSeen) = true := by decide +kernel
theorem ok_X11_heatsOf : mm_okM ((11, yX11_heatsOf, cX11_heatsOf, 8, (some .int), false, false), M_X11_heatsOf) = true := by decide +kernel
theorem ok_X11_heats : mm_okM ((11, yX11_heats, cX11_heats, 3, (some .int), false, false), M_X11_heats) = true := by decide +kernel
theorem ok_X11_slotsOf : mm_okM ((11, yX11_slotsOf, cX11_slotsOf, 5, (some .int), false, false), M_X11_slotsOf) = true := by decide +kernel
theorem ok_X11_slots : mm_okM ((11, yX11_slots, cX11_slots, 2, (some .int), false, false), M_X11_slots) = true := by decide +kernel
theorem ok_X11_askOf : mm_okM ((11, yX11_askOf, cX11_askOf, 8, (some .int), false, false), M_X11_askOf) = true := by decide +kernel
theorem ok_X11_ask : mm_okM ((11, yX11_ask, cX11_ask, 2, (some .int), false, false), M_X11_ask) = true := by decide +kernel
theorem ok_X11_windowOf : mm_okM ((11, yX11_windowOf, cX11_windowOf, 12, (some .long), false, false), M_X11_windowOf) = true := by decide +kernel
end
section
theorem ok_X11_window : mm_okM ((11, yX11_window, cX11_window, 6, (some .long), false, false), M_X11_window) = true := by decide +kernel
theorem ok_X11_lot : mm_okM ((11, yX11_lot, cX11_lot, 2, (some .int), false, false), M_X11_lot) = true := by decide +kernel
theorem ok_X11_othersOf : mm_okM ((11, yX11_othersOf, cX11_othersOf, 5, (some .int), false, false), M_X11_othersOf) = true := by decide +kernel
theorem ok_X11_others : mm_okM ((11, yX11_others, cX11_others, 3, (some .int), false, false), M_X11_others) = true := by decide +kernel
theorem ok_X11_write : mm_okM ((11, yX11_write, cX11_write, 5, (some .int), false, false), M_X11_write) = true := by decide +kernel
theorem ok_X11_allFreed : mm_okM ((11, yX11_allFreed, cX11_allFreed, 3, (some .int), false, false), M_X11_allFreed) = true := by decide +kernel
theorem ok_X11_count : mm_okM ((11, yX11_count, cX11_count, 2, (some .int), false, false), M_X11_count) = true := by decide +kernel
theorem ok_X11_tellsSlice : mm_okM ((11, yX11_tellsSlice, cX11_tellsSlice, 8, (some .long), false, false), M_X11_tellsSlice) = true := by decide +kernel
theorem ok_X11_digest : mm_okM ((11, yX11_digest, cX11_digest, 4, (some .long), false, false), M_X11_digest) = true := by decide +kernel
end
section
theorem okL_0 : k_L0.all (mm_okI 12 false cL_law k_L_law) = true := by decide +kernel
end
section
theorem okL_1 : k_L1.all (mm_okI 12 false cL_law k_L_law) = true := by decide +kernel
end
section
theorem okL_2 : k_L2.all (mm_okI 12 false cL_law k_L_law) = true := by decide +kernel
end
section
theorem okL_3 : k_L3.all (mm_okI 12 false cL_law k_L_law) = true := by decide +kernel
end
section
theorem okL_4 : k_L4.all (mm_okI 12 false cL_law k_L_law) = true := by decide +kernel
end
section
theorem okL_5 : k_L5.all (mm_okI 12 false cL_law k_L_law) = true := by decide +kernel
end
section
theorem okL_6 : k_L6.all (mm_okI 12 false cL_law k_L_law) = true := by decide +kernel
end
section
theorem okL_7 : k_L7.all (mm_okI 12 false cL_law k_L_law) = true := by decide +kernel
end
section
theorem okL_8 : k_L8.all (mm_okI 12 false cL_law k_L_law) = true := by decide +kernel
end
section
theorem ok_L_law : mm_okM ((12, yL_law, cL_law, 4, (some .boolean), true, false), M_L_law) = true := Bool.and_eq_true_iff.mpr ⟨by decide +kernel, List.all_append.trans (Bool.and_eq_true_iff.mpr ⟨okL_0, List.all_append.trans (Bool.and_eq_true_iff.mpr ⟨okL_1, List.all_append.trans (Bool.and_eq_true_iff.mpr ⟨okL_2, List.all_append.trans (Bool.and_eq_true_iff.mpr ⟨okL_3, List.all_append.trans (Bool.and_eq_true_iff.mpr ⟨okL_4, List.all_append.trans (Bool.and_eq_true_iff.mpr ⟨okL_5, List.all_append.trans (Bool.and_eq_true_iff.mpr ⟨okL_6, List.all_append.trans (Bool.and_eq_true_iff.mpr ⟨okL_7, okL_8⟩)⟩)⟩)⟩)⟩)⟩)⟩)⟩)⟩
theorem mm_zok0 : ∀ t ∈ mm_z0, mm_okM t = true := List.forall_mem_cons.mpr ⟨ok_X0_init, List.forall_mem_cons.mpr ⟨ok_X0_begin, List.forall_mem_cons.mpr ⟨ok_X0_goThrough, List.forall_mem_cons.mpr ⟨ok_X0_follow, List.forall_mem_cons.mpr ⟨ok_X0_untilButters, List.forall_mem_cons.mpr ⟨ok_X0_fromButters, List.forall_mem_cons.mpr ⟨ok_X0_isIn, List.forall_mem_cons.mpr ⟨ok_X0_howManyIn, List.forall_mem_cons.mpr ⟨ok_X0_comeAgain, List.forall_mem_cons.mpr ⟨ok_X0_takePlaces, List.forall_mem_cons.mpr ⟨ok_X0_warm, List.forall_mem_cons.mpr ⟨ok_X0_spread, List.forall_mem_cons.mpr ⟨ok_X0_leave, List.forall_mem_cons.mpr ⟨ok_X0_feelWarmth, List.forall_mem_cons.mpr ⟨ok_X0_cooling, List.forall_mem_cons.mpr ⟨ok_X0_letGo, fun _ h => absurd h List.not_mem_nil⟩⟩⟩⟩⟩⟩⟩⟩⟩⟩⟩⟩⟩⟩⟩⟩
theorem mm_zok1 : ∀ t ∈ mm_z1, mm_okM t = true := List.forall_mem_cons.mpr ⟨ok_X1_init, List.forall_mem_cons.mpr ⟨ok_X1_findHeats, List.forall_mem_cons.mpr ⟨ok_X1_heatAt, List.forall_mem_cons.mpr ⟨ok_X1_slotsOf, List.forall_mem_cons.mpr ⟨ok_X1_nextToTouch, List.forall_mem_cons.mpr ⟨ok_X1_tallyNoted, List.forall_mem_cons.mpr ⟨ok_X1_leastOfTheGreatest, List.forall_mem_cons.mpr ⟨ok_X1_allComesOut, List.forall_mem_cons.mpr ⟨ok_X2_init, List.forall_mem_cons.mpr ⟨ok_X2_bringUpToDate, List.forall_mem_cons.mpr ⟨ok_X2_leastLeaning, List.forall_mem_cons.mpr ⟨ok_X3_init, List.forall_mem_cons.mpr ⟨ok_X3_draw, List.forall_mem_cons.mpr ⟨ok_X3_howManyAre, List.forall_mem_cons.mpr ⟨ok_X4_init, List.forall_mem_cons.mpr ⟨ok_X4_findMove, fun _ h => absurd h List.not_mem_nil⟩⟩⟩⟩⟩⟩⟩⟩⟩⟩⟩⟩⟩⟩⟩⟩
theorem mm_zok2 : ∀ t ∈ mm_z2, mm_okM t = true := List.forall_mem_cons.mpr ⟨ok_X4_letGoBefore, List.forall_mem_cons.mpr ⟨ok_X4_findSwap, List.forall_mem_cons.mpr ⟨ok_X4_stayIfSwapped, List.forall_mem_cons.mpr ⟨ok_X4_changeSlots, List.forall_mem_cons.mpr ⟨ok_X4_stayOfAll, List.forall_mem_cons.mpr ⟨ok_X4_firstButterHour, List.forall_mem_cons.mpr ⟨ok_X4_greatestSummer, List.forall_mem_cons.mpr ⟨ok_X5_init, List.forall_mem_cons.mpr ⟨ok_X5_takeRack, List.forall_mem_cons.mpr ⟨ok_X5_takeSlices, List.forall_mem_cons.mpr ⟨ok_X5_firesIn, List.forall_mem_cons.mpr ⟨ok_X6_init, List.forall_mem_cons.mpr ⟨ok_X6_isLost, List.forall_mem_cons.mpr ⟨ok_X6_renew, List.forall_mem_cons.mpr ⟨ok_X6_put, List.forall_mem_cons.mpr ⟨ok_X6_hasRun, fun _ h => absurd h List.not_mem_nil⟩⟩⟩⟩⟩⟩⟩⟩⟩⟩⟩⟩⟩⟩⟩⟩
theorem mm_zok3 : ∀ t ∈ mm_z3, mm_okM t = true := List.forall_mem_cons.mpr ⟨ok_X7_init, List.forall_mem_cons.mpr ⟨ok_X7_add, List.forall_mem_cons.mpr ⟨ok_X7_lastHour, List.forall_mem_cons.mpr ⟨ok_X7_agreeWith, List.forall_mem_cons.mpr ⟨ok_X8_init, List.forall_mem_cons.mpr ⟨ok_X8_faultAsRack, List.forall_mem_cons.mpr ⟨ok_X8_faultAsSlices, List.forall_mem_cons.mpr ⟨ok_X8_goesOn, List.forall_mem_cons.mpr ⟨ok_X8_kindOf, List.forall_mem_cons.mpr ⟨ok_X9_init, List.forall_mem_cons.mpr ⟨ok_X9_weigh, List.forall_mem_cons.mpr ⟨ok_X9_ways, List.forall_mem_cons.mpr ⟨ok_X9_isLetGoFrom, List.forall_mem_cons.mpr ⟨ok_X10_init, List.forall_mem_cons.mpr ⟨ok_X10_type, List.forall_mem_cons.mpr ⟨ok_X10_wipe, fun _ h => absurd h List.not_mem_nil⟩⟩⟩⟩⟩⟩⟩⟩⟩⟩⟩⟩⟩⟩⟩⟩
theorem mm_zok4 : ∀ t ∈ mm_z4, mm_okM t = true := List.forall_mem_cons.mpr ⟨ok_X10_undo, List.forall_mem_cons.mpr ⟨ok_X10_fault, List.forall_mem_cons.mpr ⟨ok_X10_draws, List.forall_mem_cons.mpr ⟨ok_X10_slice, List.forall_mem_cons.mpr ⟨ok_X10_set, List.forall_mem_cons.mpr ⟨ok_X10_butter, List.forall_mem_cons.mpr ⟨ok_X10_fire, List.forall_mem_cons.mpr ⟨ok_X10_back, List.forall_mem_cons.mpr ⟨ok_X10_read, List.forall_mem_cons.mpr ⟨ok_X10_heat, List.forall_mem_cons.mpr ⟨ok_X10_state, List.forall_mem_cons.mpr ⟨ok_X10_held, List.forall_mem_cons.mpr ⟨ok_X10_freed, List.forall_mem_cons.mpr ⟨ok_X10_spoilt, List.forall_mem_cons.mpr ⟨ok_X10_quiet, List.forall_mem_cons.mpr ⟨ok_X10_crowd, fun _ h => absurd h List.not_mem_nil⟩⟩⟩⟩⟩⟩⟩⟩⟩⟩⟩⟩⟩⟩⟩⟩
theorem mm_zok5 : ∀ t ∈ mm_z5, mm_okM t = true := List.forall_mem_cons.mpr ⟨ok_X10_move, List.forall_mem_cons.mpr ⟨ok_X10_swap, List.forall_mem_cons.mpr ⟨ok_X10_line, List.forall_mem_cons.mpr ⟨ok_X10_bear, List.forall_mem_cons.mpr ⟨ok_X10_seen, List.forall_mem_cons.mpr ⟨ok_X10_forget, List.forall_mem_cons.mpr ⟨ok_X10_heats, List.forall_mem_cons.mpr ⟨ok_X10_slots, List.forall_mem_cons.mpr ⟨ok_X10_ask, List.forall_mem_cons.mpr ⟨ok_X10_window, List.forall_mem_cons.mpr ⟨ok_X10_others, List.forall_mem_cons.mpr ⟨ok_X10_sheet, List.forall_mem_cons.mpr ⟨ok_X10_lose, List.forall_mem_cons.mpr ⟨ok_X10_lay, List.forall_mem_cons.mpr ⟨ok_X10_get, List.forall_mem_cons.mpr ⟨ok_X10_copy, fun _ h => absurd h List.not_mem_nil⟩⟩⟩⟩⟩⟩⟩⟩⟩⟩⟩⟩⟩⟩⟩⟩
theorem mm_zok6 : ∀ t ∈ mm_z6, mm_okM t = true := List.forall_mem_cons.mpr ⟨ok_X10_write, List.forall_mem_cons.mpr ⟨ok_X10_count, List.forall_mem_cons.mpr ⟨ok_X10_digest, List.forall_mem_cons.mpr ⟨ok_X10_mix, List.forall_mem_cons.mpr ⟨ok_X10_mixTold, List.forall_mem_cons.mpr ⟨ok_X10_mixFound, List.forall_mem_cons.mpr ⟨ok_X10_timesLetGo, List.forall_mem_cons.mpr ⟨ok_X10_learn, List.forall_mem_cons.mpr ⟨ok_X10_found, List.forall_mem_cons.mpr ⟨ok_X10_findingAt, List.forall_mem_cons.mpr ⟨ok_X10_isWithin, List.forall_mem_cons.mpr ⟨ok_X10_isText, List.forall_mem_cons.mpr ⟨ok_X10_isHour, List.forall_mem_cons.mpr ⟨ok_X10_isSlice, List.forall_mem_cons.mpr ⟨ok_X10_isSheet, List.forall_mem_cons.mpr ⟨ok_X10_isForm, fun _ h => absurd h List.not_mem_nil⟩⟩⟩⟩⟩⟩⟩⟩⟩⟩⟩⟩⟩⟩⟩⟩
theorem mm_zok7 : ∀ t ∈ mm_z7, mm_okM t = true := List.forall_mem_cons.mpr ⟨ok_X10_isFigure, List.forall_mem_cons.mpr ⟨ok_X11_init, List.forall_mem_cons.mpr ⟨ok_X11_in, List.forall_mem_cons.mpr ⟨ok_X11_no, List.forall_mem_cons.mpr ⟨ok_X11_isTwo, List.forall_mem_cons.mpr ⟨ok_X11_isIn, List.forall_mem_cons.mpr ⟨ok_X11_lesser, List.forall_mem_cons.mpr ⟨ok_X11_greater, List.forall_mem_cons.mpr ⟨ok_X11_part, List.forall_mem_cons.mpr ⟨ok_X11_finds, List.forall_mem_cons.mpr ⟨ok_X11_isSheet, List.forall_mem_cons.mpr ⟨ok_X11_sheet, List.forall_mem_cons.mpr ⟨ok_X11_lose, List.forall_mem_cons.mpr ⟨ok_X11_lacks, List.forall_mem_cons.mpr ⟨ok_X11_cut, List.forall_mem_cons.mpr ⟨ok_X11_lay, fun _ h => absurd h List.not_mem_nil⟩⟩⟩⟩⟩⟩⟩⟩⟩⟩⟩⟩⟩⟩⟩⟩
theorem mm_zok8 : ∀ t ∈ mm_z8, mm_okM t = true := List.forall_mem_cons.mpr ⟨ok_X11_get, List.forall_mem_cons.mpr ⟨ok_X11_copy, List.forall_mem_cons.mpr ⟨ok_X11_type, List.forall_mem_cons.mpr ⟨ok_X11_wipe, List.forall_mem_cons.mpr ⟨ok_X11_undo, List.forall_mem_cons.mpr ⟨ok_X11_figureOf, List.forall_mem_cons.mpr ⟨ok_X11_sliceOf, List.forall_mem_cons.mpr ⟨ok_X11_readsRack, List.forall_mem_cons.mpr ⟨ok_X11_readsSlices, List.forall_mem_cons.mpr ⟨ok_X11_fault, List.forall_mem_cons.mpr ⟨ok_X11_isSlice, List.forall_mem_cons.mpr ⟨ok_X11_isHour, List.forall_mem_cons.mpr ⟨ok_X11_draws, List.forall_mem_cons.mpr ⟨ok_X11_slice, List.forall_mem_cons.mpr ⟨ok_X11_set, List.forall_mem_cons.mpr ⟨ok_X11_butter, fun _ h => absurd h List.not_mem_nil⟩⟩⟩⟩⟩⟩⟩⟩⟩⟩⟩⟩⟩⟩⟩⟩
theorem mm_zok9 : ∀ t ∈ mm_z9, mm_okM t = true := List.forall_mem_cons.mpr ⟨ok_X11_fire, List.forall_mem_cons.mpr ⟨ok_X11_back, List.forall_mem_cons.mpr ⟨ok_X11_read, List.forall_mem_cons.mpr ⟨ok_X11_isHere, List.forall_mem_cons.mpr ⟨ok_X11_standingIn, List.forall_mem_cons.mpr ⟨ok_X11_comesAgain, List.forall_mem_cons.mpr ⟨ok_X11_burns, List.forall_mem_cons.mpr ⟨ok_X11_spreads, List.forall_mem_cons.mpr ⟨ok_X11_hotter, List.forall_mem_cons.mpr ⟨ok_X11_coolsBy, List.forall_mem_cons.mpr ⟨ok_X11_cool, List.forall_mem_cons.mpr ⟨ok_X11_lives, List.forall_mem_cons.mpr ⟨ok_X11_find, List.forall_mem_cons.mpr ⟨ok_X11_heat, List.forall_mem_cons.mpr ⟨ok_X11_state, List.forall_mem_cons.mpr ⟨ok_X11_heldBy, fun _ h => absurd h List.not_mem_nil⟩⟩⟩⟩⟩⟩⟩⟩⟩⟩⟩⟩⟩⟩⟩⟩
theorem mm_zok10 : ∀ t ∈ mm_z10, mm_okM t = true := List.forall_mem_cons.mpr ⟨ok_X11_held, List.forall_mem_cons.mpr ⟨ok_X11_freedBy, List.forall_mem_cons.mpr ⟨ok_X11_freed, List.forall_mem_cons.mpr ⟨ok_X11_spoiltNow, List.forall_mem_cons.mpr ⟨ok_X11_spoilt, List.forall_mem_cons.mpr ⟨ok_X11_here, List.forall_mem_cons.mpr ⟨ok_X11_quietNow, List.forall_mem_cons.mpr ⟨ok_X11_quiet, List.forall_mem_cons.mpr ⟨ok_X11_crowdBy, List.forall_mem_cons.mpr ⟨ok_X11_crowd, List.forall_mem_cons.mpr ⟨ok_X11_moveOf, List.forall_mem_cons.mpr ⟨ok_X11_move, List.forall_mem_cons.mpr ⟨ok_X11_allHere, List.forall_mem_cons.mpr ⟨ok_X11_changes, List.forall_mem_cons.mpr ⟨ok_X11_swapBy, List.forall_mem_cons.mpr ⟨ok_X11_swap, fun _ h => absurd h List.not_mem_nil⟩⟩⟩⟩⟩⟩⟩⟩⟩⟩⟩⟩⟩⟩⟩⟩
theorem mm_zok11 : ∀ t ∈ mm_z11, mm_okM t = true := List.forall_mem_cons.mpr ⟨ok_X11_line, List.forall_mem_cons.mpr ⟨ok_X11_bearNow, List.forall_mem_cons.mpr ⟨ok_X11_bear, List.forall_mem_cons.mpr ⟨ok_X11_seen, List.forall_mem_cons.mpr ⟨ok_X11_forget, List.forall_mem_cons.mpr ⟨ok_X11_isSeen, List.forall_mem_cons.mpr ⟨ok_X11_heatsOf, List.forall_mem_cons.mpr ⟨ok_X11_heats, List.forall_mem_cons.mpr ⟨ok_X11_slotsOf, List.forall_mem_cons.mpr ⟨ok_X11_slots, List.forall_mem_cons.mpr ⟨ok_X11_askOf, List.forall_mem_cons.mpr ⟨ok_X11_ask, List.forall_mem_cons.mpr ⟨ok_X11_windowOf, List.forall_mem_cons.mpr ⟨ok_X11_window, List.forall_mem_cons.mpr ⟨ok_X11_lot, List.forall_mem_cons.mpr ⟨ok_X11_othersOf, fun _ h => absurd h List.not_mem_nil⟩⟩⟩⟩⟩⟩⟩⟩⟩⟩⟩⟩⟩⟩⟩⟩
theorem mm_zok12 : ∀ t ∈ mm_z12, mm_okM t = true := List.forall_mem_cons.mpr ⟨ok_X11_others, List.forall_mem_cons.mpr ⟨ok_X11_write, List.forall_mem_cons.mpr ⟨ok_X11_allFreed, List.forall_mem_cons.mpr ⟨ok_X11_count, List.forall_mem_cons.mpr ⟨ok_X11_tellsSlice, List.forall_mem_cons.mpr ⟨ok_X11_digest, fun _ h => absurd h List.not_mem_nil⟩⟩⟩⟩⟩⟩
theorem mm_zok : ∀ t ∈ mm_zl, mm_okM t = true := List.forall_mem_append.mpr ⟨List.forall_mem_append.mpr ⟨mm_zok0, List.forall_mem_append.mpr ⟨mm_zok1, List.forall_mem_append.mpr ⟨mm_zok2, List.forall_mem_append.mpr ⟨mm_zok3, List.forall_mem_append.mpr ⟨mm_zok4, List.forall_mem_append.mpr ⟨mm_zok5, List.forall_mem_append.mpr ⟨mm_zok6, List.forall_mem_append.mpr ⟨mm_zok7, List.forall_mem_append.mpr ⟨mm_zok8, List.forall_mem_append.mpr ⟨mm_zok9, List.forall_mem_append.mpr ⟨mm_zok10, List.forall_mem_append.mpr ⟨mm_zok11, mm_zok12⟩⟩⟩⟩⟩⟩⟩⟩⟩⟩⟩⟩, List.forall_mem_cons.mpr ⟨ok_L_law, fun _ h => absurd h List.not_mem_nil⟩⟩
theorem tb_X0_init : mm_tab 0 = some M_X0_init := rfl
theorem tb_X0_begin : mm_tab 1 = some M_X0_begin := rfl
theorem tb_X0_goThrough : mm_tab 2 = some M_X0_goThrough := rfl
theorem tb_X0_follow : mm_tab 3 = some M_X0_follow := rfl
theorem tb_X0_untilButters : mm_tab 4 = some M_X0_untilButters := rfl
theorem tb_X0_fromButters : mm_tab 5 = some M_X0_fromButters := rfl
theorem tb_X0_isIn : mm_tab 6 = some M_X0_isIn := rfl
theorem tb_X0_howManyIn : mm_tab 7 = some M_X0_howManyIn := rfl
theorem tb_X0_comeAgain : mm_tab 8 = some M_X0_comeAgain := rfl
theorem tb_X0_takePlaces : mm_tab 9 = some M_X0_takePlaces := rfl
theorem tb_X0_warm : mm_tab 10 = some M_X0_warm := rfl
theorem tb_X0_spread : mm_tab 11 = some M_X0_spread := rfl
theorem tb_X0_leave : mm_tab 12 = some M_X0_leave := rfl
theorem tb_X0_feelWarmth : mm_tab 13 = some M_X0_feelWarmth := rfl
theorem tb_X0_cooling : mm_tab 14 = some M_X0_cooling := rfl
theorem tb_X0_letGo : mm_tab 15 = some M_X0_letGo := rfl
theorem tb_X1_init : mm_tab 16 = some M_X1_init := rfl
theorem tb_X1_findHeats : mm_tab 17 = some M_X1_findHeats := rfl
theorem tb_X1_heatAt : mm_tab 18 = some M_X1_heatAt := rfl
theorem tb_X1_slotsOf : mm_tab 19 = some M_X1_slotsOf := rfl
theorem tb_X1_nextToTouch : mm_tab 20 = some M_X1_nextToTouch := rfl
theorem tb_X1_tallyNoted : mm_tab 21 = some M_X1_tallyNoted := rfl
theorem tb_X1_leastOfTheGreatest : mm_tab 22 = some M_X1_leastOfTheGreatest := rfl
theorem tb_X1_allComesOut : mm_tab 23 = some M_X1_allComesOut := rfl
theorem tb_X2_init : mm_tab 24 = some M_X2_init := rfl
theorem tb_X2_bringUpToDate : mm_tab 25 = some M_X2_bringUpToDate := rfl
theorem tb_X2_leastLeaning : mm_tab 26 = some M_X2_leastLeaning := rfl
theorem tb_X3_init : mm_tab 27 = some M_X3_init := rfl
theorem tb_X3_draw : mm_tab 28 = some M_X3_draw := rfl
theorem tb_X3_howManyAre : mm_tab 29 = some M_X3_howManyAre := rfl
theorem tb_X4_init : mm_tab 30 = some M_X4_init := rfl
theorem tb_X4_findMove : mm_tab 31 = some M_X4_findMove := rfl
theorem tb_X4_letGoBefore : mm_tab 32 = some M_X4_letGoBefore := rfl
theorem tb_X4_findSwap : mm_tab 33 = some M_X4_findSwap := rfl
theorem tb_X4_stayIfSwapped : mm_tab 34 = some M_X4_stayIfSwapped := rfl
theorem tb_X4_changeSlots : mm_tab 35 = some M_X4_changeSlots := rfl
theorem tb_X4_stayOfAll : mm_tab 36 = some M_X4_stayOfAll := rfl
theorem tb_X4_firstButterHour : mm_tab 37 = some M_X4_firstButterHour := rfl
theorem tb_X4_greatestSummer : mm_tab 38 = some M_X4_greatestSummer := rfl
theorem tb_X5_init : mm_tab 39 = some M_X5_init := rfl
theorem tb_X5_takeRack : mm_tab 40 = some M_X5_takeRack := rfl
theorem tb_X5_takeSlices : mm_tab 41 = some M_X5_takeSlices := rfl
theorem tb_X5_firesIn : mm_tab 42 = some M_X5_firesIn := rfl
theorem tb_X6_init : mm_tab 43 = some M_X6_init := rfl
theorem tb_X6_isLost : mm_tab 44 = some M_X6_isLost := rfl
theorem tb_X6_renew : mm_tab 45 = some M_X6_renew := rfl
theorem tb_X6_put : mm_tab 46 = some M_X6_put := rfl
theorem tb_X6_hasRun : mm_tab 47 = some M_X6_hasRun := rfl
theorem tb_X7_init : mm_tab 48 = some M_X7_init := rfl
theorem tb_X7_add : mm_tab 49 = some M_X7_add := rfl
theorem tb_X7_lastHour : mm_tab 50 = some M_X7_lastHour := rfl
theorem tb_X7_agreeWith : mm_tab 51 = some M_X7_agreeWith := rfl
theorem tb_X8_init : mm_tab 52 = some M_X8_init := rfl
theorem tb_X8_faultAsRack : mm_tab 53 = some M_X8_faultAsRack := rfl
theorem tb_X8_faultAsSlices : mm_tab 54 = some M_X8_faultAsSlices := rfl
theorem tb_X8_goesOn : mm_tab 55 = some M_X8_goesOn := rfl
theorem tb_X8_kindOf : mm_tab 56 = some M_X8_kindOf := rfl
theorem tb_X9_init : mm_tab 57 = some M_X9_init := rfl
theorem tb_X9_weigh : mm_tab 58 = some M_X9_weigh := rfl
theorem tb_X9_ways : mm_tab 59 = some M_X9_ways := rfl
theorem tb_X9_isLetGoFrom : mm_tab 60 = some M_X9_isLetGoFrom := rfl
theorem tb_X10_init : mm_tab 61 = some M_X10_init := rfl
theorem tb_X10_type : mm_tab 62 = some M_X10_type := rfl
theorem tb_X10_wipe : mm_tab 63 = some M_X10_wipe := rfl
theorem tb_X10_undo : mm_tab 64 = some M_X10_undo := rfl
theorem tb_X10_fault : mm_tab 65 = some M_X10_fault := rfl
theorem tb_X10_draws : mm_tab 66 = some M_X10_draws := rfl
theorem tb_X10_slice : mm_tab 67 = some M_X10_slice := rfl
theorem tb_X10_set : mm_tab 68 = some M_X10_set := rfl
theorem tb_X10_butter : mm_tab 69 = some M_X10_butter := rfl
theorem tb_X10_fire : mm_tab 70 = some M_X10_fire := rfl
theorem tb_X10_back : mm_tab 71 = some M_X10_back := rfl
theorem tb_X10_read : mm_tab 72 = some M_X10_read := rfl
theorem tb_X10_heat : mm_tab 73 = some M_X10_heat := rfl
theorem tb_X10_state : mm_tab 74 = some M_X10_state := rfl
theorem tb_X10_held : mm_tab 75 = some M_X10_held := rfl
theorem tb_X10_freed : mm_tab 76 = some M_X10_freed := rfl
theorem tb_X10_spoilt : mm_tab 77 = some M_X10_spoilt := rfl
theorem tb_X10_quiet : mm_tab 78 = some M_X10_quiet := rfl
theorem tb_X10_crowd : mm_tab 79 = some M_X10_crowd := rfl
theorem tb_X10_move : mm_tab 80 = some M_X10_move := rfl
theorem tb_X10_swap : mm_tab 81 = some M_X10_swap := rfl
theorem tb_X10_line : mm_tab 82 = some M_X10_line := rfl
theorem tb_X10_bear : mm_tab 83 = some M_X10_bear := rfl
theorem tb_X10_seen : mm_tab 84 = some M_X10_seen := rfl
theorem tb_X10_forget : mm_tab 85 = some M_X10_forget := rfl
theorem tb_X10_heats : mm_tab 86 = some M_X10_heats := rfl
theorem tb_X10_slots : mm_tab 87 = some M_X10_slots := rfl
theorem tb_X10_ask : mm_tab 88 = some M_X10_ask := rfl
theorem tb_X10_window : mm_tab 89 = some M_X10_window := rfl
theorem tb_X10_others : mm_tab 90 = some M_X10_others := rfl
theorem tb_X10_sheet : mm_tab 91 = some M_X10_sheet := rfl
theorem tb_X10_lose : mm_tab 92 = some M_X10_lose := rfl
theorem tb_X10_lay : mm_tab 93 = some M_X10_lay := rfl
theorem tb_X10_get : mm_tab 94 = some M_X10_get := rfl
theorem tb_X10_copy : mm_tab 95 = some M_X10_copy := rfl
theorem tb_X10_write : mm_tab 96 = some M_X10_write := rfl
theorem tb_X10_count : mm_tab 97 = some M_X10_count := rfl
theorem tb_X10_digest : mm_tab 98 = some M_X10_digest := rfl
theorem tb_X10_mix : mm_tab 99 = some M_X10_mix := rfl
theorem tb_X10_mixTold : mm_tab 100 = some M_X10_mixTold := rfl
theorem tb_X10_mixFound : mm_tab 101 = some M_X10_mixFound := rfl
theorem tb_X10_timesLetGo : mm_tab 102 = some M_X10_timesLetGo := rfl
theorem tb_X10_learn : mm_tab 103 = some M_X10_learn := rfl
theorem tb_X10_found : mm_tab 104 = some M_X10_found := rfl
theorem tb_X10_findingAt : mm_tab 105 = some M_X10_findingAt := rfl
theorem tb_X10_isWithin : mm_tab 106 = some M_X10_isWithin := rfl
theorem tb_X10_isText : mm_tab 107 = some M_X10_isText := rfl
theorem tb_X10_isHour : mm_tab 108 = some M_X10_isHour := rfl
theorem tb_X10_isSlice : mm_tab 109 = some M_X10_isSlice := rfl
theorem tb_X10_isSheet : mm_tab 110 = some M_X10_isSheet := rfl
theorem tb_X10_isForm : mm_tab 111 = some M_X10_isForm := rfl
theorem tb_X10_isFigure : mm_tab 112 = some M_X10_isFigure := rfl
theorem tb_X11_init : mm_tab 113 = some M_X11_init := rfl
theorem tb_X11_in : mm_tab 114 = some M_X11_in := rfl
theorem tb_X11_no : mm_tab 115 = some M_X11_no := rfl
theorem tb_X11_isTwo : mm_tab 116 = some M_X11_isTwo := rfl
theorem tb_X11_isIn : mm_tab 117 = some M_X11_isIn := rfl
theorem tb_X11_lesser : mm_tab 118 = some M_X11_lesser := rfl
theorem tb_X11_greater : mm_tab 119 = some M_X11_greater := rfl
theorem tb_X11_part : mm_tab 120 = some M_X11_part := rfl
theorem tb_X11_finds : mm_tab 121 = some M_X11_finds := rfl
theorem tb_X11_isSheet : mm_tab 122 = some M_X11_isSheet := rfl
theorem tb_X11_sheet : mm_tab 123 = some M_X11_sheet := rfl
theorem tb_X11_lose : mm_tab 124 = some M_X11_lose := rfl
theorem tb_X11_lacks : mm_tab 125 = some M_X11_lacks := rfl
theorem tb_X11_cut : mm_tab 126 = some M_X11_cut := rfl
theorem tb_X11_lay : mm_tab 127 = some M_X11_lay := rfl
theorem tb_X11_get : mm_tab 128 = some M_X11_get := rfl
theorem tb_X11_copy : mm_tab 129 = some M_X11_copy := rfl
theorem tb_X11_type : mm_tab 130 = some M_X11_type := rfl
theorem tb_X11_wipe : mm_tab 131 = some M_X11_wipe := rfl
theorem tb_X11_undo : mm_tab 132 = some M_X11_undo := rfl
theorem tb_X11_figureOf : mm_tab 133 = some M_X11_figureOf := rfl
theorem tb_X11_sliceOf : mm_tab 134 = some M_X11_sliceOf := rfl
theorem tb_X11_readsRack : mm_tab 135 = some M_X11_readsRack := rfl
theorem tb_X11_readsSlices : mm_tab 136 = some M_X11_readsSlices := rfl
theorem tb_X11_fault : mm_tab 137 = some M_X11_fault := rfl
theorem tb_X11_isSlice : mm_tab 138 = some M_X11_isSlice := rfl
theorem tb_X11_isHour : mm_tab 139 = some M_X11_isHour := rfl
theorem tb_X11_draws : mm_tab 140 = some M_X11_draws := rfl
theorem tb_X11_slice : mm_tab 141 = some M_X11_slice := rfl
theorem tb_X11_set : mm_tab 142 = some M_X11_set := rfl
theorem tb_X11_butter : mm_tab 143 = some M_X11_butter := rfl
theorem tb_X11_fire : mm_tab 144 = some M_X11_fire := rfl
theorem tb_X11_back : mm_tab 145 = some M_X11_back := rfl
theorem tb_X11_read : mm_tab 146 = some M_X11_read := rfl
theorem tb_X11_isHere : mm_tab 147 = some M_X11_isHere := rfl
theorem tb_X11_standingIn : mm_tab 148 = some M_X11_standingIn := rfl
theorem tb_X11_comesAgain : mm_tab 149 = some M_X11_comesAgain := rfl
theorem tb_X11_burns : mm_tab 150 = some M_X11_burns := rfl
theorem tb_X11_spreads : mm_tab 151 = some M_X11_spreads := rfl
theorem tb_X11_hotter : mm_tab 152 = some M_X11_hotter := rfl
theorem tb_X11_coolsBy : mm_tab 153 = some M_X11_coolsBy := rfl
theorem tb_X11_cool : mm_tab 154 = some M_X11_cool := rfl
theorem tb_X11_lives : mm_tab 155 = some M_X11_lives := rfl
theorem tb_X11_find : mm_tab 156 = some M_X11_find := rfl
theorem tb_X11_heat : mm_tab 157 = some M_X11_heat := rfl
theorem tb_X11_state : mm_tab 158 = some M_X11_state := rfl
theorem tb_X11_heldBy : mm_tab 159 = some M_X11_heldBy := rfl
theorem tb_X11_held : mm_tab 160 = some M_X11_held := rfl
theorem tb_X11_freedBy : mm_tab 161 = some M_X11_freedBy := rfl
theorem tb_X11_freed : mm_tab 162 = some M_X11_freed := rfl
theorem tb_X11_spoiltNow : mm_tab 163 = some M_X11_spoiltNow := rfl
theorem tb_X11_spoilt : mm_tab 164 = some M_X11_spoilt := rfl
theorem tb_X11_here : mm_tab 165 = some M_X11_here := rfl
theorem tb_X11_quietNow : mm_tab 166 = some M_X11_quietNow := rfl
theorem tb_X11_quiet : mm_tab 167 = some M_X11_quiet := rfl
theorem tb_X11_crowdBy : mm_tab 168 = some M_X11_crowdBy := rfl
theorem tb_X11_crowd : mm_tab 169 = some M_X11_crowd := rfl
theorem tb_X11_moveOf : mm_tab 170 = some M_X11_moveOf := rfl
theorem tb_X11_move : mm_tab 171 = some M_X11_move := rfl
theorem tb_X11_allHere : mm_tab 172 = some M_X11_allHere := rfl
theorem tb_X11_changes : mm_tab 173 = some M_X11_changes := rfl
theorem tb_X11_swapBy : mm_tab 174 = some M_X11_swapBy := rfl
theorem tb_X11_swap : mm_tab 175 = some M_X11_swap := rfl
theorem tb_X11_line : mm_tab 176 = some M_X11_line := rfl
theorem tb_X11_bearNow : mm_tab 177 = some M_X11_bearNow := rfl
theorem tb_X11_bear : mm_tab 178 = some M_X11_bear := rfl
theorem tb_X11_seen : mm_tab 179 = some M_X11_seen := rfl
theorem tb_X11_forget : mm_tab 180 = some M_X11_forget := rfl
theorem tb_X11_isSeen : mm_tab 181 = some M_X11_isSeen := rfl
theorem tb_X11_heatsOf : mm_tab 182 = some M_X11_heatsOf := rfl
theorem tb_X11_heats : mm_tab 183 = some M_X11_heats := rfl
theorem tb_X11_slotsOf : mm_tab 184 = some M_X11_slotsOf := rfl
theorem tb_X11_slots : mm_tab 185 = some M_X11_slots := rfl
theorem tb_X11_askOf : mm_tab 186 = some M_X11_askOf := rfl
theorem tb_X11_ask : mm_tab 187 = some M_X11_ask := rfl
theorem tb_X11_windowOf : mm_tab 188 = some M_X11_windowOf := rfl
theorem tb_X11_window : mm_tab 189 = some M_X11_window := rfl
theorem tb_X11_lot : mm_tab 190 = some M_X11_lot := rfl
theorem tb_X11_othersOf : mm_tab 191 = some M_X11_othersOf := rfl
theorem tb_X11_others : mm_tab 192 = some M_X11_others := rfl
theorem tb_X11_write : mm_tab 193 = some M_X11_write := rfl
theorem tb_X11_allFreed : mm_tab 194 = some M_X11_allFreed := rfl
theorem tb_X11_count : mm_tab 195 = some M_X11_count := rfl
theorem tb_X11_tellsSlice : mm_tab 196 = some M_X11_tellsSlice := rfl
theorem tb_X11_digest : mm_tab 197 = some M_X11_digest := rfl
theorem tb_L_law : mm_tab 198 = some M_L_law := rfl
end
section
/-! the heap's instructions -/
/-- a word of the tables that goes with the state, whatever is resolved meanwhile -/
def mm_nl (w : Cond) : Bool := match w with
  | .laysStatic _ _ _ => false
  | _ => true
def lw_t2 : List Cond := lw_tbl.filter mm_nl
theorem mm_in2 {w : Cond} (h : w ∈ lw_tbl) (h2 : mm_nl w = true) : w ∈ lw_t2 := List.mem_filter.mpr ⟨h, h2⟩
theorem mm_class2 {a : Nat} (ha : a < 12) : ∀ w ∈ u_ws (mm_nm a) (mm_tT a) (mm_nf a), w ∈ lw_t2 := by
  intro w hw
  refine mm_in2 ((mm_class ha).2.1 w hw) ?_
  obtain ⟨k, -, rfl⟩ := List.mem_map.mp hw
  unfold u_lay
  split <;> rfl
def mm_cx (D : va_G) (cAI : ClassId) (cAR : Nat → ClassId) (E : Nat → Nat) (X : mm_X) (base : Nat) (args : Array Value) (s : State) : Prop :=
  (∀ w ∈ lw_t2, w.before args s = true) ∧ va_K D vwCl (mm_tys cAI cAR) s ∧ (∀ j nf, X j = some nf → va_T .int (E j) nf.1 (fun i => .int (nf.2 i)) (fun q => base ≤ q) s s.heap) ∧ va_Z "ToastGaol" "GREATEST" "[I" (.ref (E 1)) (fun q => base ≤ q) s s.heap ∧ va_Z "ToastGaol" "DIGEST_HOURS" "[I" (.ref (E 2)) (fun q => base ≤ q) s s.heap ∧ base ≤ s.heap.size
set_option maxRecDepth 20000 in
theorem mm_t_max : Cond.static Lib.Math.max.name ∈ lw_tbl ∧ Cond.initialized "java/lang/Math" ∈ lw_tbl ∧ Cond.code Lib.Math.max.name Lib.Math.max.code 2 (some .int) ∈ lw_tbl := ⟨List.mem_of_getElem? (i := 421) rfl, List.mem_of_getElem? (i := 101) rfl, List.mem_of_getElem? (i := 422) rfl⟩
set_option maxRecDepth 20000 in
theorem mm_t_min : Cond.static Lib.Math.min.name ∈ lw_tbl ∧ Cond.initialized "java/lang/Math" ∈ lw_tbl ∧ Cond.code Lib.Math.min.name Lib.Math.min.code 2 (some .int) ∈ lw_tbl := ⟨List.mem_of_getElem? (i := 512) rfl, List.mem_of_getElem? (i := 101) rfl, List.mem_of_getElem? (i := 513) rfl⟩
set_option maxRecDepth 20000 in
theorem mm_t_cpy : Cond.static arraycopyName ∈ lw_tbl ∧ Cond.initialized "java/lang/System" ∈ lw_tbl ∧ Cond.native arraycopyName ∈ lw_tbl := ⟨List.mem_of_getElem? (i := 655) rfl, List.mem_of_getElem? (i := 104) rfl, List.mem_of_getElem? (i := 656) rfl⟩
theorem mm_t_obj : Cond.instanceMethod Lib.objectInit ∈ lw_tbl ∧ Cond.code Lib.objectInit ⟨#[0xb1]⟩ 1 none ∈ lw_tbl := ⟨List.mem_of_getElem? (i := 111) rfl, List.mem_of_getElem? (i := 112) rfl⟩
theorem mm_t_int : Cond.arrayClass .int ∈ lw_tbl := by decide +kernel
theorem mm_t_over : ∀ a, a = 8 ∨ a = 6 ∨ a = 0 → Cond.arrayOver (.object (mm_nm a)) ∈ lw_tbl := by
  intro a h
  rcases h with rfl | rfl | rfl <;> decide +kernel
theorem mm_rix_of {a i : Nat} (h : mm_rix a = some i) : a = 8 ∨ a = 6 ∨ a = 0 := by
  unfold mm_rix at h
  split at h
  · exact Or.inl (by assumption)
  · split at h
    · exact Or.inr (Or.inl (by assumption))
    · split at h
      · exact Or.inr (Or.inr (by assumption))
      · cases h
theorem mm_map_set {n j : Nat} {f g : Nat → Value} (hj : j < n) (h : ∀ i, i ≠ j → g i = f i) : ((List.range n).map f).set j (g j) = (List.range n).map g := by
  apply List.ext_getElem?
  intro i
  by_cases hi : i = j
  · subst hi
    rw [List.getElem?_set_self (by simp; exact hj), List.getElem?_map, List.getElem?_range hj]
    rfl
  · rw [List.getElem?_set_ne (Ne.symm hi), List.getElem?_map, List.getElem?_map]
    cases hr : (List.range n)[i]? with
    | none => rfl
    | some k =>
      have : k = i := by
        have h1 := List.getElem?_eq_some_iff.mp hr
        obtain ⟨h2, h3⟩ := h1
        simpa using h3.symm
      subst this
      simp [h k hi]
section SH
variable {p : Program} {l : Launch} {e : Env} {R : Room} {s : State} {m : MethodId} {args : Array Value} {below : List Frame} {meth : Method} {c : Code} {H : Heap} {locs : List Loc} {cells slots : Nat} {Q : State → Prop}
variable {cc : ByteArray} {pc : Nat} {ls : Array Slot} {D : va_G} {cAI : ClassId} {cAR : Nat → ClassId} {E : Nat → Nat} {X : mm_X} {base o : Nat} {ini : Bool}
theorem mm_W_sz {g : JFrame} (k : H.size ≤ s.heap.size + cells → W p l e R s m args below meth c H locs cells slots Q g) : W p l e R s m args below meth c H locs cells slots Q g := fun T hT X => k (by rw [← hT]; exact X.heapSize) T hT X
theorem so_get (hx : p.tables.exec = Jvm.exec) (hb : c.code = cc) (hown : s.vm.findClass (mm_nm o) = some m.cls) (C : mm_cx D cAI cAR E X base args s) {i a b : Nat} {S : List Value} {w : mm_W} {z : List Value × mm_W} (hlk : mm_lk o ini (.getfield i) a b) (hd : decode cc pc = .ok (.getfield i, 3)) (hP : va_P D vwCl (mm_wl cAI cAR (mm_ad base E) w) H)
    (h : mm_heap X (.getfield i) a b S w = some z)
    (kk : z.2 = w → W p l e R s m args below meth c H locs cells slots Q (F0 m (pc + 3) ls (z.1.map (mm_tv (mm_ad base E))))) : W p l e R s m args below meth c H locs cells slots Q (F0 m pc ls (S.map (mm_tv (mm_ad base E)))) := by
  obtain ⟨ha, hbn, hw⟩ := hlk
  obtain ⟨hcl, -, -, -⟩ := mm_class ha
  have hin := mm_class2 ha
  simp only [mm_heap] at h
  split at h <;> first | cases h; done | skip
  rename_i k r
  split at h <;> first | cases h; done | skip
  rename_i hk
  have he := mm_wl_at (cAI := cAI) (cAR := cAR) (ad := mm_ad base E) hk.1
  have hv : ((List.range (mm_nf a)).map (mm_fv (mm_ad base E) w a k))[b]? = some (mm_fv (mm_ad base E) w a k b) := by rw [List.getElem?_map, List.getElem?_range hbn]; rfl
  have hz : z.2 = w ∧ z.1.map (mm_tv (mm_ad base E)) = mm_fv (mm_ad base E) w a k b :: r.map (mm_tv (mm_ad base E)) := by
    split at h
    · rename_i h1
      cases h
      exact ⟨rfl, by simp [mm_fv, h1, mm_tv]⟩
    · rename_i h1
      split at h
      · rename_i h2
        cases h
        exact ⟨rfl, by simp [mm_fv, h2, mm_tv]⟩
      · rename_i h2
        split at h
        · cases h
          exact ⟨rfl, by simp [mm_fv, h1, h2, mm_tv_rf]⟩
        · cases h
  have kk := kk hz.1
  rw [hz.2] at kk
  by_cases ho : o = a
  · rw [mm_flw, if_pos ho] at hw
    exact va_get hx hb C.1 hin hown C.2.1 hP k he hcl b hbn (C.1 _ (mm_in2 hw rfl)) (fun _ h => h) hv hd kk
  · rw [mm_flw, if_neg ho] at hw
    exact va_getN hx hb C.1 hin hown C.2.1 hP k he hcl b hbn (C.1 _ (mm_in2 hw rfl)) (fun _ h => h) hv hd kk
theorem so_put (hx : p.tables.exec = Jvm.exec) (hb : c.code = cc) (hini : ini = true → meth.name = "<init>") (hown : s.vm.findClass (mm_nm o) = some m.cls) (C : mm_cx D cAI cAR E X base args s) {i a b : Nat} {S : List Value} {w : mm_W} {z : List Value × mm_W} (hlk : mm_lk o ini (.putfield i) a b) (hd : decode cc pc = .ok (.putfield i, 3)) (hl : w.1.length ≤ 1000) (hP : va_P D vwCl (mm_wl cAI cAR (mm_ad base E) w) H) (hS : va_S (fun q => base ≤ q) s.heap H locs)
    (h : mm_heap X (.putfield i) a b S w = some z)
    (kk : z.2.1 = w.1 → ∀ (H1 : Heap) (locs1 : List Loc), va_P D vwCl (mm_wl cAI cAR (mm_ad base E) z.2) H1 → va_S (fun q => base ≤ q) s.heap H1 locs1 → W p l e R s m args below meth c H1 locs1 cells slots Q (F0 m (pc + 3) ls (z.1.map (mm_tv (mm_ad base E))))) : W p l e R s m args below meth c H locs cells slots Q (F0 m pc ls (S.map (mm_tv (mm_ad base E)))) := by
  obtain ⟨ha, hbn, hw, hfin⟩ := hlk
  obtain ⟨hcl, -, hty, hnm⟩ := mm_class ha
  have hin := mm_class2 ha
  have hkind := mm_kind ha hbn
  have hD := mm_wl_D (cAI := cAI) (cAR := cAR) (base := base) (E := E) hl
  -- the general put
  have gen : ∀ (v : Value) (k : Nat) (r : List Value), w.1[k]? = some (.inr (.inr a)) → narrow (mm_ty a b) (mm_tv (mm_ad base E) v) = mm_tv (mm_ad base E) v → fits (mm_ty a b) (mm_tv (mm_ad base E) v) = true → z.1 = r → z.2.1 = w.1 →
      (∀ k', k' ≠ k → z.2.2.1 k' = w.2.1 k' ∧ z.2.2.2.1 k' = w.2.2.1 k' ∧ z.2.2.2.2 k' = w.2.2.2 k') → (∀ j, j ≠ b → mm_fv (mm_ad base E) z.2 a k j = mm_fv (mm_ad base E) w a k j) → mm_fv (mm_ad base E) z.2 a k b = mm_tv (mm_ad base E) v →
      W p l e R s m args below meth c H locs cells slots Q (F0 m pc ls (mm_tv (mm_ad base E) v :: Value.ref (mm_ad base E k) :: r.map (mm_tv (mm_ad base E)))) := by
    intro v k r hk hnar hfit hz1 hzG hne hoth hown2
    have he := mm_wl_at (cAI := cAI) (cAR := cAR) (ad := mm_ad base E) hk
    have hset : (mm_wl cAI cAR (mm_ad base E) w).set k (mm_ad base E k, .inr (a, ((List.range (mm_nf a)).map (mm_fv (mm_ad base E) w a k)).set b (mm_tv (mm_ad base E) v))) = mm_wl cAI cAR (mm_ad base E) z.2 := by
      refine mm_wl_set hzG hne (fun sh hsh => ?_)
      rw [hk] at hsh
      cases hsh
      show Sum.inr _ = Sum.inr _
      rw [← hown2, mm_map_set hbn hoth]
    have kk' : ∀ (H1 : Heap) (locs1 : List Loc), va_P D vwCl ((mm_wl cAI cAR (mm_ad base E) w).set k (mm_ad base E k, .inr (a, ((List.range (mm_nf a)).map (mm_fv (mm_ad base E) w a k)).set b (mm_tv (mm_ad base E) v)))) H1 → va_D (fun q => base ≤ q) ((mm_wl cAI cAR (mm_ad base E) w).set k (mm_ad base E k, .inr (a, ((List.range (mm_nf a)).map (mm_fv (mm_ad base E) w a k)).set b (mm_tv (mm_ad base E) v)))) → va_S (fun q => base ≤ q) s.heap H1 locs1 → W p l e R s m args below meth c H1 locs1 cells slots Q (F0 m (pc + 3) ls (r.map (mm_tv (mm_ad base E)))) := by
      intro H1 locs1 g1 _ g3
      rw [hset] at g1
      rw [← hz1]
      exact kk hzG H1 locs1 g1 g3
    have hlen : b < ((List.range (mm_nf a)).map (mm_fv (mm_ad base E) w a k)).length := by simp; exact hbn
    rcases hfin with hf | ⟨hf, hi, hoa, hdecl⟩
    · by_cases ho : o = a
      · rw [mm_flw, if_pos ho] at hw
        exact va_put hx hb C.1 hin (mm_ty a) hty hnm hown C.2.1 hP hD hS k he hcl b hbn (C.1 _ (mm_in2 hw rfl)) (fun _ h => h) hf (hty b hbn) hnar hfit hlen hd kk'
      · rw [mm_flw, if_neg ho] at hw
        exact va_putN hx hb C.1 hin (mm_ty a) hty hnm hown C.2.1 hP hD hS k he hcl b hbn (C.1 _ (mm_in2 hw rfl)) (fun _ h => h) hf (hty b hbn) hnar hfit hlen hd kk'
    · rw [mm_flw, if_pos hoa] at hw
      exact va_putF hx hb C.1 hin (mm_ty a) hty hnm hown C.2.1 hP hD hS k he hcl b hbn (C.1 _ (mm_in2 hw rfl)) (fun _ h => h) hf (hini hi) hdecl (hty b hbn) hnar hfit hlen hd kk'
  simp only [mm_heap] at h
  split at h
  · rename_i x k r
    split at h <;> first | cases h; done | skip
    rename_i hk
    cases h
    refine gen (.int x) k r hk.1 ?_ ?_ rfl rfl (fun k' hk' => ⟨rfl, by funext j; simp [mm_u, hk'], rfl⟩) (fun j hj => by simp [mm_fv, mm_u, hj]) ?_
    · rcases hk.2.2 with h0 | ⟨h1, hx01⟩
      · rw [h0] at hkind
        cases ht : mm_ty a b <;> rw [ht] at hkind <;> first | (simp [mm_kty] at hkind; done) | rfl
      · rw [h1] at hkind
        cases ht : mm_ty a b <;> rw [ht] at hkind <;> first | (simp [mm_kty] at hkind; done) | (rcases hx01 with rfl | rfl <;> rfl)
    · rcases hk.2.2 with h0 | ⟨h1, hx01⟩
      · rw [h0] at hkind
        cases ht : mm_ty a b <;> rw [ht] at hkind <;> first | (simp [mm_kty] at hkind; done) | rfl
      · rw [h1] at hkind
        cases ht : mm_ty a b <;> rw [ht] at hkind <;> first | (simp [mm_kty] at hkind; done) | (rcases hx01 with rfl | rfl <;> rfl)
    · have : mm_fk a b ≤ 1 := by rcases hk.2.2 with h0 | ⟨h1, -⟩ <;> omega
      simp [mm_fv, this, mm_u, mm_tv]
  · rename_i x k r
    split at h <;> first | cases h; done | skip
    rename_i hk
    cases h
    refine gen (.long x) k r hk.1 ?_ ?_ rfl rfl (fun k' hk' => ⟨rfl, rfl, by funext j; simp [mm_u, hk']⟩) (fun j hj => by simp [mm_fv, mm_u, hj]) ?_
    · rw [hk.2.2] at hkind
      cases ht : mm_ty a b <;> rw [ht] at hkind <;> first | (simp [mm_kty] at hkind; done) | rfl
    · rw [hk.2.2] at hkind
      cases ht : mm_ty a b <;> rw [ht] at hkind <;> first | (simp [mm_kty] at hkind; done) | rfl
    · simp [mm_fv, hk.2.2, mm_u, mm_tv]
  · rename_i x k r
    split at h <;> first | cases h; done | skip
    rename_i hk
    cases h
    refine gen (.ref x) k r hk.1 ?_ ?_ rfl rfl (fun k' hk' => ⟨by funext j; simp [mm_u, hk'], rfl, rfl⟩) (fun j hj => by simp [mm_fv, mm_u, hj]) ?_
    · rw [hk.2.2] at hkind
      cases ht : mm_ty a b <;> rw [ht] at hkind <;> first | (simp [mm_kty] at hkind; done) | rfl
    · rw [hk.2.2] at hkind
      cases ht : mm_ty a b <;> rw [ht] at hkind <;> first | (simp [mm_kty] at hkind; done) | rfl
    · simp [mm_fv, hk.2.2, mm_u, mm_tv, va_rf]
  · cases h
theorem mm_ad_lt {k : Nat} (h : k < 1000) : mm_ad base E k = base + k := if_pos h
theorem mm_arr_in {w : mm_W} {k : Nat} {nf : Nat × (Nat → Int32)} (h : mm_arr X w k = some nf) : (w.1[k]? = some (.inl nf.1) ∧ nf.2 = w.2.2.1 k) ∨ (¬ k < 1000 ∧ X (k - 1000) = some nf) := by
  unfold mm_arr at h
  split at h
  · split at h
    · rename_i n hn
      cases h
      exact Or.inl ⟨hn, rfl⟩
    · cases h
  · exact Or.inr ⟨by assumption, h⟩
theorem so_iald (hx : p.tables.exec = Jvm.exec) (hb : c.code = cc) (C : mm_cx D cAI cAR E X base args s) {a b : Nat} {S : List Value} {w : mm_W} {z : List Value × mm_W} (hd : decode cc pc = .ok (.iaload, 1)) (hP : va_P D vwCl (mm_wl cAI cAR (mm_ad base E) w) H) (hS : va_S (fun q => base ≤ q) s.heap H locs)
    (h : mm_heap X .iaload a b S w = some z)
    (kk : z.2 = w → W p l e R s m args below meth c H locs cells slots Q (F0 m (pc + 1) ls (z.1.map (mm_tv (mm_ad base E))))) : W p l e R s m args below meth c H locs cells slots Q (F0 m pc ls (S.map (mm_tv (mm_ad base E)))) := by
  simp only [mm_heap] at h
  split at h <;> first | cases h; done | skip
  rename_i i k r
  split at h <;> first | cases h; done | skip
  rename_i nf hnf
  split at h <;> first | cases h; done | skip
  rename_i hin
  cases h
  rcases mm_arr_in hnf with ⟨h1, h2⟩ | ⟨h1, h2⟩
  · have kk := kk rfl
    rw [h2] at kk
    exact va_iald hx hb C.2.1 hP k 0 (mm_wl_at h1) rfl hin hd kk
  · have ek : mm_ad base E k = E (k - 1000) := if_neg h1
    show W p l e R s m args below meth c H locs cells slots Q (F0 m pc ls (Value.int i :: Value.ref (mm_ad base E k) :: r.map (mm_tv (mm_ad base E))))
    rw [ek]
    exact va_ti hx hb (C.2.2.1 _ _ h2) hS hin rfl hd (kk rfl)
theorem so_alen (hx : p.tables.exec = Jvm.exec) (hb : c.code = cc) (C : mm_cx D cAI cAR E X base args s) {a b : Nat} {S : List Value} {w : mm_W} {z : List Value × mm_W} (hd : decode cc pc = .ok (.arraylength, 1)) (hP : va_P D vwCl (mm_wl cAI cAR (mm_ad base E) w) H) (hS : va_S (fun q => base ≤ q) s.heap H locs)
    (h : mm_heap X .arraylength a b S w = some z)
    (kk : z.2 = w → W p l e R s m args below meth c H locs cells slots Q (F0 m (pc + 1) ls (z.1.map (mm_tv (mm_ad base E))))) : W p l e R s m args below meth c H locs cells slots Q (F0 m pc ls (S.map (mm_tv (mm_ad base E)))) := by
  simp only [mm_heap] at h
  split at h <;> first | cases h; done | skip
  rename_i k r
  split at h <;> first | cases h; done | skip
  rename_i nf hnf
  cases h
  rcases mm_arr_in hnf with ⟨h1, h2⟩ | ⟨h1, h2⟩
  · exact va_alen hx hb C.2.1 hP k 0 (mm_wl_at h1) (ty := .int) rfl rfl hd (kk rfl)
  · have ek : mm_ad base E k = E (k - 1000) := if_neg h1
    show W p l e R s m args below meth c H locs cells slots Q (F0 m pc ls (Value.ref (mm_ad base E k) :: r.map (mm_tv (mm_ad base E))))
    rw [ek]
    exact va_tlen hx hb (C.2.2.1 _ _ h2) hS rfl hd (kk rfl)
theorem mm_arw_in {w : mm_W} {k n : Nat} (h : mm_arw w k = some n) : w.1[k]? = some (.inl n) := by
  unfold mm_arw at h
  split at h
  · rename_i n' hn
    cases h
    exact hn
  · cases h
theorem so_iast (hx : p.tables.exec = Jvm.exec) (hb : c.code = cc) (C : mm_cx D cAI cAR E X base args s) {a b : Nat} {S : List Value} {w : mm_W} {z : List Value × mm_W} (hd : decode cc pc = .ok (.iastore, 1)) (hl : w.1.length ≤ 1000) (hP : va_P D vwCl (mm_wl cAI cAR (mm_ad base E) w) H) (hS : va_S (fun q => base ≤ q) s.heap H locs)
    (h : mm_heap X .iastore a b S w = some z)
    (kk : z.2.1 = w.1 → ∀ (H1 : Heap) (locs1 : List Loc), va_P D vwCl (mm_wl cAI cAR (mm_ad base E) z.2) H1 → va_S (fun q => base ≤ q) s.heap H1 locs1 → W p l e R s m args below meth c H1 locs1 cells slots Q (F0 m (pc + 1) ls (z.1.map (mm_tv (mm_ad base E))))) : W p l e R s m args below meth c H locs cells slots Q (F0 m pc ls (S.map (mm_tv (mm_ad base E)))) := by
  simp only [mm_heap] at h
  split at h <;> first | cases h; done | skip
  rename_i x i k r
  split at h <;> first | cases h; done | skip
  rename_i n hn
  split at h <;> first | cases h; done | skip
  rename_i hin
  cases h
  have h1 := mm_arw_in hn
  refine va_iast hx hb C.2.1 hP (mm_wl_D hl) hS k 0 (mm_wl_at h1) rfl hin.1 hd (fun H1 locs1 g1 _ g3 => kk rfl H1 locs1 ?_ g3)
  have hset := mm_wl_set (cAI := cAI) (cAR := cAR) (ad := mm_ad base E) (w := w) (w' := (w.1, w.2.1, mm_u w.2.2.1 k i.toNatClampNeg x, w.2.2.2)) (k := k) (e := .inl (cAI, n, .inl (upd (w.2.2.1 k) i.toNatClampNeg x))) rfl (fun k' hk' => ⟨rfl, by funext j; simp [mm_u, hk'], rfl⟩) (fun sh hsh => ?_)
  · rw [hset] at g1
    exact g1
  · rw [h1] at hsh
    cases hsh
    show Sum.inl _ = Sum.inl _
    have e : mm_u w.2.2.1 k i.toNatClampNeg x k = upd (w.2.2.1 k) i.toNatClampNeg x := by
      funext j
      simp [mm_u, upd]
    simp only [e]
theorem so_aald (hx : p.tables.exec = Jvm.exec) (hb : c.code = cc) (C : mm_cx D cAI cAR E X base args s) {a b : Nat} {S : List Value} {w : mm_W} {z : List Value × mm_W} (hd : decode cc pc = .ok (.aaload, 1)) (hr : ∀ (k : Nat) (cn : Nat × Nat), w.1[k]? = some (.inr (.inl cn)) → ∃ t, mm_rix cn.1 = some t) (hP : va_P D vwCl (mm_wl cAI cAR (mm_ad base E) w) H)
    (h : mm_heap X .aaload a b S w = some z)
    (kk : z.2 = w → W p l e R s m args below meth c H locs cells slots Q (F0 m (pc + 1) ls (z.1.map (mm_tv (mm_ad base E))))) : W p l e R s m args below meth c H locs cells slots Q (F0 m pc ls (S.map (mm_tv (mm_ad base E)))) := by
  simp only [mm_heap] at h
  split at h <;> first | cases h; done | skip
  rename_i i k r
  split at h <;> first | cases h; done | skip
  rename_i cn hcn
  split at h <;> first | cases h; done | skip
  rename_i hin
  cases h
  obtain ⟨t, ht⟩ := hr k cn hcn
  have kk := kk rfl
  rw [List.map_cons, mm_tv_rf] at kk
  exact va_aldq hx hb C.2.1 hP k t (mm_wl_at hcn) (mm_tys_ref ht) hin.1 hd kk
theorem so_aast (hx : p.tables.exec = Jvm.exec) (hb : c.code = cc) (C : mm_cx D cAI cAR E X base args s) {a b : Nat} {S : List Value} {w : mm_W} {z : List Value × mm_W} (hd : decode cc pc = .ok (.aastore, 1)) (hl : w.1.length ≤ 1000) (hr : ∀ (k : Nat) (cn : Nat × Nat), w.1[k]? = some (.inr (.inl cn)) → ∃ t, mm_rix cn.1 = some t) (hP : va_P D vwCl (mm_wl cAI cAR (mm_ad base E) w) H) (hS : va_S (fun q => base ≤ q) s.heap H locs)
    (h : mm_heap X .aastore a b S w = some z)
    (kk : z.2.1 = w.1 → ∀ (H1 : Heap) (locs1 : List Loc), va_P D vwCl (mm_wl cAI cAR (mm_ad base E) z.2) H1 → va_S (fun q => base ≤ q) s.heap H1 locs1 → W p l e R s m args below meth c H1 locs1 cells slots Q (F0 m (pc + 1) ls (z.1.map (mm_tv (mm_ad base E))))) : W p l e R s m args below meth c H locs cells slots Q (F0 m pc ls (S.map (mm_tv (mm_ad base E)))) := by
  simp only [mm_heap] at h
  split at h <;> first | cases h; done | skip
  rename_i v i k r
  split at h <;> first | cases h; done | skip
  rename_i cn hcn
  split at h <;> first | cases h; done | skip
  rename_i hin
  cases h
  obtain ⟨t, ht⟩ := hr k cn hcn
  have hc12 : cn.1 < 12 := by rcases mm_rix_of ht with h | h | h <;> omega
  obtain ⟨hcl, -⟩ := mm_class hc12
  refine va_astq hx hb C.2.1 hP (mm_wl_D hl) hS k t v cn.1 (r := (mm_nm cn.1, mm_tT cn.1, mm_nf cn.1)) (mm_wl_at hcn) (mm_tys_ref ht) (mm_wl_at hin.2.2.2) hcl hin.1 hd (fun H1 locs1 g1 _ g3 => kk rfl H1 locs1 ?_ g3)
  have hset := mm_wl_set (cAI := cAI) (cAR := cAR) (ad := mm_ad base E) (w := w) (w' := (w.1, mm_u w.2.1 k i.toNatClampNeg (some v), w.2.2.1, w.2.2.2)) (k := k) (e := .inl (cAR cn.1, cn.2, .inr (.inr (.inr (.inr (va_up (fun j => (w.2.1 k j).map (mm_ad base E)) i.toNatClampNeg (some (mm_ad base E v)))))))) rfl (fun k' hk' => ⟨by funext j; simp [mm_u, hk'], rfl, rfl⟩) (fun sh hsh => ?_)
  · rw [hset] at g1
    exact g1
  · rw [hcn] at hsh
    cases hsh
    show Sum.inl _ = Sum.inl _
    have e : va_up (fun j => (w.2.1 k j).map (mm_ad base E)) i.toNatClampNeg (some (mm_ad base E v)) = fun j => (mm_u w.2.1 k i.toNatClampNeg (some v) k j).map (mm_ad base E) := by
      funext j
      by_cases hj : j = i.toNatClampNeg <;> simp [mm_u, va_up, hj]
    simp only [e]
/-- the address of a new cell -/
theorem mm_newad {w : mm_W} {H1 : Heap} {q : Nat} {x : va_E} (hl : w.1.length < 1000) (hP : va_P D vwCl (mm_wl cAI cAR (mm_ad base E) w ++ [(q, x)]) H1) (hD : va_D (fun q => base ≤ q) (mm_wl cAI cAR (mm_ad base E) w ++ [(q, x)])) (hz : H1.size ≤ base + w.1.length + 1) : q = mm_ad base E w.1.length := by
  rw [mm_ad_lt hl]
  have hlast : (mm_wl cAI cAR (mm_ad base E) w ++ [(q, x)])[w.1.length]? = some (q, x) := by
    rw [List.getElem?_append_right (by rw [mm_wl_len]; omega), mm_wl_len, Nat.sub_self]
    rfl
  have h1 : q < H1.size := (hP _ _ hlast).lt
  have h2 : base ≤ q := hD.2 _ _ hlast
  by_cases h3 : q < base + w.1.length
  · exfalso
    have hk : q - base < w.1.length := by omega
    obtain ⟨sh, hsh⟩ : ∃ sh, w.1[q - base]? = some sh := ⟨_, List.getElem?_eq_getElem hk⟩
    have h4 : (mm_wl cAI cAR (mm_ad base E) w ++ [(q, x)])[q - base]? = some (mm_ad base E (q - base), mm_el cAI cAR (mm_ad base E) w (q - base) sh) := by
      rw [List.getElem?_append_left (by rw [mm_wl_len]; exact hk)]
      exact mm_wl_at hsh
    have h5 := hD.1 _ _ _ _ h4 hlast (by show mm_ad base E (q - base) = q; rw [mm_ad_lt (by omega)]; omega)
    omega
  · omega
theorem so_new (hx : p.tables.exec = Jvm.exec) (hb : c.code = cc) (hown : s.vm.findClass (mm_nm o) = some m.cls) (C : mm_cx D cAI cAR E X base args s) {i a b : Nat} {S : List Value} {w : mm_W} {z : List Value × mm_W} (hlk : mm_lk o ini (.new i) a b) (hd : decode cc pc = .ok (.new i, 3)) (hl : w.1.length ≤ 1000) (hP : va_P D vwCl (mm_wl cAI cAR (mm_ad base E) w) H) (hS : va_S (fun q => base ≤ q) s.heap H locs) (hsz : s.heap.size + cells = base + w.1.length) (hR : cells + (z.2.1.length - w.1.length) ≤ R.cells ∧ slots + (mm_sz z.2.1 - mm_sz w.1) ≤ R.slots)
    (h : mm_heap X (.new i) a b S w = some z)
    (kk : ∀ (H1 : Heap) (locs1 : List Loc), va_P D vwCl (mm_wl cAI cAR (mm_ad base E) z.2) H1 → va_S (fun q => base ≤ q) s.heap H1 locs1 → W p l e R s m args below meth c H1 locs1 (cells + (z.2.1.length - w.1.length)) (slots + (mm_sz z.2.1 - mm_sz w.1)) Q (F0 m (pc + 3) ls (z.1.map (mm_tv (mm_ad base E))))) : W p l e R s m args below meth c H locs cells slots Q (F0 m pc ls (S.map (mm_tv (mm_ad base E)))) := by
  obtain ⟨ha, hw⟩ := hlk
  obtain ⟨hcl, -, hty, -⟩ := mm_class ha
  have hin := mm_class2 ha
  simp only [mm_heap] at h
  split at h <;> first | cases h; done | skip
  rename_i hlen
  cases h
  have e1 : (w.1 ++ [Sum.inr (Sum.inr a)] : mm_G).length - w.1.length = 1 := by simp
  have e2 : mm_sz (w.1 ++ [Sum.inr (Sum.inr a)]) - mm_sz w.1 = mm_nf a := by rw [mm_sz_app]; simp [mm_sl]
  simp only [e1, e2] at hR kk
  have hfs : ∀ j, j < mm_nf a → defaultValue (mm_ty a j) = vp_V ((List.range (mm_nf a)).map (mm_fv (mm_ad base E) (w.1 ++ [Sum.inr (Sum.inr a)], mm_z w.2.1 w.1.length (fun _ => none), mm_z w.2.2.1 w.1.length (fun _ => 0), mm_z w.2.2.2 w.1.length (fun _ => 0)) a w.1.length)) j := by
    intro j hj
    have hk := mm_kind ha hj
    have hv : ((List.range (mm_nf a)).map (mm_fv (mm_ad base E) (w.1 ++ [Sum.inr (Sum.inr a)], mm_z w.2.1 w.1.length (fun _ => none), mm_z w.2.2.1 w.1.length (fun _ => 0), mm_z w.2.2.2 w.1.length (fun _ => 0)) a w.1.length))[j]? = some (mm_fv (mm_ad base E) (w.1 ++ [Sum.inr (Sum.inr a)], mm_z w.2.1 w.1.length (fun _ => none), mm_z w.2.2.1 w.1.length (fun _ => 0), mm_z w.2.2.2 w.1.length (fun _ => 0)) a w.1.length j) := by rw [List.getElem?_map, List.getElem?_range hj]; rfl
    show _ = Option.getD _ _
    rw [hv, Option.getD_some]
    simp only [mm_fv, mm_z, if_true]
    cases hf : mm_fk a j with
    | zero => rw [hf] at hk; cases ht : mm_ty a j <;> rw [ht] at hk <;> first | (simp [mm_kty] at hk; done) | rfl
    | succ f1 => cases f1 with
      | zero => rw [hf] at hk; cases ht : mm_ty a j <;> rw [ht] at hk <;> first | (simp [mm_kty] at hk; done) | rfl
      | succ f2 => cases f2 with
        | zero => rw [hf] at hk; cases ht : mm_ty a j <;> rw [ht] at hk <;> first | (simp [mm_kty] at hk; done) | rfl
        | succ f3 => cases f3 with
          | zero => rw [hf] at hk; cases ht : mm_ty a j <;> rw [ht] at hk <;> first | (simp [mm_kty] at hk; done) | rfl
          | succ f4 => rw [hf] at hk; cases ht : mm_ty a j <;> rw [ht] at hk <;> simp [mm_kty] at hk
  refine va_new hx hb C.1 hin (mm_ty a) hty hown (C.1 _ (mm_in2 hw rfl)) (C.1 _ (mm_in2 (mm_inst_ok a ha) rfl)) (C.1 _ (mm_in2 (mm_init_ok a ha) rfl)) C.2.1 hP (mm_wl_D hl) hS (fun q hq => Nat.le_trans C.2.2.2.2.2 hq) hcl hfs hR.1 hR.2 hd (fun q H1 g1 g2 g3 => ?_)
  refine mm_W_sz (fun hz => ?_)
  have hq := mm_newad hlen g1 g2 (by omega)
  subst hq
  refine kk H1 locs ?_ g3
  have happ := mm_wl_app (cAI := cAI) (cAR := cAR) (ad := mm_ad base E) (w := w) (w' := (w.1 ++ [Sum.inr (Sum.inr a)], mm_z w.2.1 w.1.length (fun _ => none), mm_z w.2.2.1 w.1.length (fun _ => 0), mm_z w.2.2.2 w.1.length (fun _ => 0))) (sh := Sum.inr (Sum.inr a)) rfl (fun k' hk' => ⟨by funext j; simp [mm_z, hk'], by funext j; simp [mm_z, hk'], by funext j; simp [mm_z, hk']⟩) rfl
  exact happ ▸ g1
theorem so_newa (hx : p.tables.exec = Jvm.exec) (hb : c.code = cc) (C : mm_cx D cAI cAR E X base args s) {a b : Nat} {S : List Value} {w : mm_W} {z : List Value × mm_W} (hd : decode cc pc = .ok (.newarray .int, 2)) (hl : w.1.length ≤ 1000) (hP : va_P D vwCl (mm_wl cAI cAR (mm_ad base E) w) H) (hS : va_S (fun q => base ≤ q) s.heap H locs) (hsz : s.heap.size + cells = base + w.1.length) (hR : cells + (z.2.1.length - w.1.length) ≤ R.cells ∧ slots + (mm_sz z.2.1 - mm_sz w.1) ≤ R.slots)
    (h : mm_heap X (.newarray .int) a b S w = some z)
    (kk : ∀ (H1 : Heap) (locs1 : List Loc), va_P D vwCl (mm_wl cAI cAR (mm_ad base E) z.2) H1 → va_S (fun q => base ≤ q) s.heap H1 locs1 → W p l e R s m args below meth c H1 locs1 (cells + (z.2.1.length - w.1.length)) (slots + (mm_sz z.2.1 - mm_sz w.1)) Q (F0 m (pc + 2) ls (z.1.map (mm_tv (mm_ad base E))))) : W p l e R s m args below meth c H locs cells slots Q (F0 m pc ls (S.map (mm_tv (mm_ad base E)))) := by
  simp only [mm_heap] at h
  split at h <;> first | cases h; done | skip
  rename_i n r
  split at h <;> first | cases h; done | skip
  rename_i hn
  cases h
  have e1 : (w.1 ++ [Sum.inl n.toNatClampNeg] : mm_G).length - w.1.length = 1 := by simp
  have e2 : mm_sz (w.1 ++ [Sum.inl n.toNatClampNeg]) - mm_sz w.1 = n.toNatClampNeg := by rw [mm_sz_app]; simp [mm_sl]
  simp only [e1, e2] at hR kk
  refine va_newa hx hb (atype := .int) (C.1 _ (mm_in2 mm_t_int rfl)) (ty := .int) rfl C.2.1 hP (mm_wl_D hl) hS (fun q hq => Nat.le_trans C.2.2.2.2.2 hq) (a0 := (n.toNatClampNeg, .inl (fun _ => 0))) (fun _ => rfl) hn.1 rfl (by show n.toNatClampNeg * 4 ≤ _; omega) hR.1 hR.2 hd (fun q cA H1 g0 g1 g2 g3 => ?_)
  refine mm_W_sz (fun hz => ?_)
  have hq := mm_newad hn.2.2 g1 g2 (by omega)
  subst hq
  have hcA : cA = cAI := by
    have h1 := (g0.2 4 (cA, .int) rfl).2
    have h2 := (g0.2 0 (cAI, .int) rfl).2
    exact Option.some.inj (Eq.trans (Eq.symm h1) h2)
  subst hcA
  refine kk H1 locs ?_ g3
  have happ := mm_wl_app (cAI := cA) (cAR := cAR) (ad := mm_ad base E) (w := w) (w' := (w.1 ++ [Sum.inl n.toNatClampNeg], w.2.1, mm_z w.2.2.1 w.1.length (fun _ => 0), w.2.2.2)) (sh := Sum.inl n.toNatClampNeg) (e := .inl (cA, (n.toNatClampNeg, .inl (fun _ => 0)))) rfl (fun k' hk' => ⟨rfl, by funext j; simp [mm_z, hk'], rfl⟩) (by
    show Sum.inl _ = Sum.inl _
    have e : mm_z w.2.2.1 w.1.length (fun _ => 0) w.1.length = fun _ => (0 : Int32) := by funext j; simp [mm_z]
    simp only [e])
  exact happ ▸ g1
theorem so_anew (hx : p.tables.exec = Jvm.exec) (hb : c.code = cc) (hown : s.vm.findClass (mm_nm o) = some m.cls) (C : mm_cx D cAI cAR E X base args s) {i a b : Nat} {S : List Value} {w : mm_W} {z : List Value × mm_W} (hlk : mm_lk o ini (.anewarray i) a b) (hd : decode cc pc = .ok (.anewarray i, 3)) (hl : w.1.length ≤ 1000) (hP : va_P D vwCl (mm_wl cAI cAR (mm_ad base E) w) H) (hS : va_S (fun q => base ≤ q) s.heap H locs) (hsz : s.heap.size + cells = base + w.1.length) (hR : cells + (z.2.1.length - w.1.length) ≤ R.cells ∧ slots + (mm_sz z.2.1 - mm_sz w.1) ≤ R.slots)
    (h : mm_heap X (.anewarray i) a b S w = some z)
    (kk : ∀ (H1 : Heap) (locs1 : List Loc), va_P D vwCl (mm_wl cAI cAR (mm_ad base E) z.2) H1 → va_S (fun q => base ≤ q) s.heap H1 locs1 → W p l e R s m args below meth c H1 locs1 (cells + (z.2.1.length - w.1.length)) (slots + (mm_sz z.2.1 - mm_sz w.1)) Q (F0 m (pc + 3) ls (z.1.map (mm_tv (mm_ad base E))))) : W p l e R s m args below meth c H locs cells slots Q (F0 m pc ls (S.map (mm_tv (mm_ad base E)))) := by
  obtain ⟨⟨t, ht⟩, hw⟩ := hlk
  simp only [mm_heap] at h
  split at h <;> first | cases h; done | skip
  rename_i n r
  split at h <;> first | cases h; done | skip
  rename_i hn
  cases h
  have e1 : (w.1 ++ [Sum.inr (Sum.inl (a, n.toNatClampNeg))] : mm_G).length - w.1.length = 1 := by simp
  have e2 : mm_sz (w.1 ++ [Sum.inr (Sum.inl (a, n.toNatClampNeg))]) - mm_sz w.1 = n.toNatClampNeg := by rw [mm_sz_app]; simp [mm_sl]
  simp only [e1, e2] at hR kk
  refine va_newq hx hb hown (C.1 _ (mm_in2 hw rfl)) (va_AO.of (C.1 _ (mm_in2 (mm_t_over a (mm_rix_of ht)) rfl))) C.2.1 hP (mm_wl_D hl) hS (fun q hq => Nat.le_trans C.2.2.2.2.2 hq) hn.1 rfl (by omega) hR.1 hR.2 hd (fun q cA H1 g0 g1 g2 g3 => ?_)
  refine mm_W_sz (fun hz => ?_)
  have hq := mm_newad hn.2.2 g1 g2 (by omega)
  subst hq
  have hcA : cA = cAR a := by
    obtain ⟨_, _, _, _, _, h1⟩ := (g0.2 4 (cA, .object (mm_nm a)) rfl).2
    obtain ⟨_, _, _, _, _, h2⟩ := (C.2.1.2 t _ (mm_tys_ref ht)).2
    exact Option.some.inj (Eq.trans (Eq.symm h1) h2)
  subst hcA
  refine kk H1 locs ?_ g3
  have happ := mm_wl_app (cAI := cAI) (cAR := cAR) (ad := mm_ad base E) (w := w) (w' := (w.1 ++ [Sum.inr (Sum.inl (a, n.toNatClampNeg))], mm_z w.2.1 w.1.length (fun _ => none), w.2.2.1, w.2.2.2)) (sh := Sum.inr (Sum.inl (a, n.toNatClampNeg))) (e := .inl (cAR a, n.toNatClampNeg, .inr (.inr (.inr (.inr (fun _ => none)))))) rfl (fun k' hk' => ⟨by funext j; simp [mm_z, hk'], rfl, rfl⟩) (by
    show Sum.inl _ = Sum.inl _
    have e : (fun j => (mm_z w.2.1 w.1.length (fun _ => none) w.1.length j).map (mm_ad base E)) = fun _ => (none : Option Nat) := by funext j; simp [mm_z]
    simp only [e])
  exact happ ▸ g1
theorem so_gets (hx : p.tables.exec = Jvm.exec) (hb : c.code = cc) (hown : s.vm.findClass (mm_nm o) = some m.cls) (C : mm_cx D cAI cAR E X base args s) {i a b : Nat} {S : List Value} {w : mm_W} {z : List Value × mm_W} (hlk : mm_lk o ini (.getstatic i) a b) (hd : decode cc pc = .ok (.getstatic i, 3)) (hS : va_S (fun q => base ≤ q) s.heap H locs)
    (h : mm_heap X (.getstatic i) a b S w = some z)
    (kk : z.2 = w → W p l e R s m args below meth c H locs cells slots Q (F0 m (pc + 3) ls (z.1.map (mm_tv (mm_ad base E))))) : W p l e R s m args below meth c H locs cells slots Q (F0 m pc ls (S.map (mm_tv (mm_ad base E)))) := by
  cases h
  rcases hlk with ⟨rfl, hw⟩ | ⟨rfl, hw⟩
  · exact va_gets hx hb C.2.2.2.1 hS hown (C.1 _ (mm_in2 hw rfl)) (fun _ h => h) hd (kk rfl)
  · exact va_gets hx hb C.2.2.2.2.1 hS hown (C.1 _ (mm_in2 hw rfl)) (fun _ h => h) hd (kk rfl)
theorem mm_nfw : nativeFrameWords "java/lang/System" "arraycopy" 5 + 11 ≤ 50 := by decide +kernel
theorem so_stat (hx : p.tables.exec = Jvm.exec) (hb : c.code = cc) (hml : c.maxLocals = ls.size) (hown : s.vm.findClass (mm_nm o) = some m.cls) (C : mm_cx D cAI cAR E X base args s) {i a b : Nat} {S : List Value} {w : mm_W} {z : List Value × mm_W} (hlk : mm_lk o ini (.invokestatic i) a b) (hd : decode cc pc = .ok (.invokestatic i, 3)) (hl : w.1.length ≤ 1000) (hP : va_P D vwCl (mm_wl cAI cAR (mm_ad base E) w) H) (hS : va_S (fun q => base ≤ q) s.heap H locs) (hR : cells ≤ R.cells ∧ slots ≤ R.slots) (hfr : 1 ≤ R.frames) (hlo : 64 ≤ R.locals)
    (h : mm_heap X (.invokestatic i) a b S w = some z)
    (kk : z.2.1 = w.1 → ∀ (H1 : Heap) (locs1 : List Loc), va_P D vwCl (mm_wl cAI cAR (mm_ad base E) z.2) H1 → va_S (fun q => base ≤ q) s.heap H1 locs1 → W p l e R s m args below meth c H1 locs1 cells slots Q (F0 m (pc + 3) ls (z.1.map (mm_tv (mm_ad base E))))) : W p l e R s m args below meth c H locs cells slots Q (F0 m pc ls (S.map (mm_tv (mm_ad base E)))) := by
  simp only [mm_heap] at h
  split at h
  · rename_i ha
    split at h <;> first | cases h; done | skip
    rename_i y x r
    split at h <;> first | cases h; done | skip
    rename_i hr
    cases h
    exact va_mmax hx hb hml hown (C.1 _ (mm_in2 (hlk.1 ha) rfl)) (C.1 _ (mm_in2 mm_t_max.1 rfl)) (C.1 _ (mm_in2 mm_t_max.2.1 rfl)) (C.1 _ (mm_in2 mm_t_max.2.2 rfl)) hfr (by rw [mm_tv_sum]; omega) hR.1 hR.2 hd (kk rfl H locs hP hS)
  · split at h
    · rename_i ha
      split at h <;> first | cases h; done | skip
      rename_i y x r
      split at h <;> first | cases h; done | skip
      rename_i hr
      cases h
      exact va_mmin hx hb hml hown (C.1 _ (mm_in2 (hlk.2.1 ha) rfl)) (C.1 _ (mm_in2 mm_t_min.1 rfl)) (C.1 _ (mm_in2 mm_t_min.2.1 rfl)) (C.1 _ (mm_in2 mm_t_min.2.2 rfl)) hfr (by rw [mm_tv_sum]; omega) hR.1 hR.2 hd (kk rfl H locs hP hS)
    · split at h
      · rename_i ha
        split at h <;> first | cases h; done | skip
        rename_i n dp kd sp ks r
        split at h <;> first | cases h; done | skip
        rename_i n0 n1 g0 g1
        split at h <;> first | cases h; done | skip
        rename_i hc
        cases h
        obtain ⟨⟨c1, c2, c3, c4, c5⟩, -, -, hr⟩ := hc
        have k0 := mm_arw_in g0
        have k1 := mm_arw_in g1
        have hnw := mm_nfw
        refine va_copyi hx hb hml hown (C.1 _ (mm_in2 (hlk.2.2 ha) rfl)) (C.1 _ (mm_in2 mm_t_cpy.2.2 rfl)) (C.1 _ (mm_in2 mm_t_cpy.1 rfl)) (C.1 _ (mm_in2 mm_t_cpy.2.1 rfl)) C.2.1 hP (mm_wl_D hl) hS ks kd 0 0 (mm_wl_at k0) (mm_wl_at k1) (ty := .int) rfl rfl rfl c1 c2 c3 c4 c5 (fun _ _ => rfl) hfr (by rw [mm_tv_sum]; omega) hd (fun H1 locs1 f1 _ f3 => kk rfl H1 locs1 ?_ f3)
        have hset := mm_wl_set (cAI := cAI) (cAR := cAR) (ad := mm_ad base E) (w := w) (w' := (w.1, w.2.1, mm_z w.2.2.1 kd (va_cpy (w.2.2.1 ks) (w.2.2.1 kd) sp.toNatClampNeg dp.toNatClampNeg n.toNatClampNeg), w.2.2.2)) (k := kd) (e := .inl (cAI, n1, .inl (va_cpy (w.2.2.1 ks) (w.2.2.1 kd) sp.toNatClampNeg dp.toNatClampNeg n.toNatClampNeg))) rfl (fun k' hk' => ⟨rfl, by funext j; simp [mm_z, hk'], rfl⟩) (fun sh hsh => ?_)
        · rw [hset] at f1
          exact f1
        · rw [k1] at hsh
          cases hsh
          show Sum.inl _ = Sum.inl _
          have e : mm_z w.2.2.1 kd (va_cpy (w.2.2.1 ks) (w.2.2.1 kd) sp.toNatClampNeg dp.toNatClampNeg n.toNatClampNeg) kd = va_cpy (w.2.2.1 ks) (w.2.2.1 kd) sp.toNatClampNeg dp.toNatClampNeg n.toNatClampNeg := by funext j; simp [mm_z]
          simp only [e]
      · cases h
theorem so_spec (hx : p.tables.exec = Jvm.exec) (hb : c.code = cc) (hml : c.maxLocals = ls.size) (hown : s.vm.findClass (mm_nm o) = some m.cls) (C : mm_cx D cAI cAR E X base args s) {i a b : Nat} {S : List Value} {w : mm_W} {z : List Value × mm_W} (hlk : mm_lk o ini (.invokespecial i) a b) (hd : decode cc pc = .ok (.invokespecial i, 3)) (hfr : 1 ≤ R.frames) (hlo : 64 ≤ R.locals)
    (h : mm_heap X (.invokespecial i) a b S w = some z)
    (kk : z.2 = w → W p l e R s m args below meth c H locs cells slots Q (F0 m (pc + 3) ls (z.1.map (mm_tv (mm_ad base E))))) : W p l e R s m args below meth c H locs cells slots Q (F0 m pc ls (S.map (mm_tv (mm_ad base E)))) := by
  simp only [mm_heap] at h
  split at h <;> first | cases h; done | skip
  rename_i ha
  split at h <;> first | cases h; done | skip
  rename_i k r
  split at h <;> first | cases h; done | skip
  rename_i hr
  cases h
  have hroom := lv_room (m := m) (pc := pc) (ls := ls) (rest := r.map (mm_tv (mm_ad base E))) (st := r.map (mm_tv (mm_ad base E))) (by rw [mm_tv_sum]; exact hr)
  exact W.objInit hx hb hown (C.1 _ (mm_in2 (hlk ha) rfl)) (C.1 _ (mm_in2 mm_t_obj.1 rfl)) (C.1 _ (mm_in2 mm_t_obj.2 rfl)) rfl hml.symm rfl hd hfr (by
    show 2 * (F0 m pc ls (Value.ref (mm_ad base E k) :: r.map (mm_tv (mm_ad base E)))).monitorRoom + _ + 12 ≤ _
    have : (F0 m pc ls (Value.ref (mm_ad base E k) :: r.map (mm_tv (mm_ad base E)))).monitorRoom = (F0 m pc ls (r.map (mm_tv (mm_ad base E)))).monitorRoom := rfl
    rw [this]; omega) (kk rfl)
end SH
end
section
/-! words and worlds go with the state -/
def mm_gb (w : Cond) : Bool := goodWord w || (match w with
  | .fieldLinkNest _ _ _ _ _ _ => true
  | .methodLinkNest _ _ _ _ => true
  | .arrayOver (.object _) => true
  | .privateMethod _ => true
  | _ => false)
theorem mm_gb_ok : lw_t2.all mm_gb = true := by decide +kernel
theorem mm_word {w : Cond} (hw : w ∈ lw_t2) {args a' : Array Value} {s U : State} (hW : s.WarmedH U.vm) (h : w.before args s = true) : w.before a' U = true := by
  have hg := List.all_eq_true.mp mm_gb_ok w hw
  simp only [mm_gb, Bool.or_eq_true] at hg
  rcases hg with hg | hg
  · exact word_at hW (good_of_word hg) h
  · split at hg
    · exact va_Nw.use rfl (va_Nw.warmF hW (va_Nw.of rfl h))
    · exact va_Nw.use rfl (va_Nw.warmM hW (va_Nw.of rfl h))
    · exact va_AO.use (va_AO.moved hW.alike (va_AO.of h))
    · exact va_tabs rfl (rfl : (s.setVm U.vm).vm = U.vm) (Cond.before_shiftedFace (State.Shifted.of_warmed hW) _ rfl h)
    · cases hg
section CX
variable {D : va_G} {cAI : ClassId} {cAR : Nat → ClassId} {E : Nat → Nat} {X : mm_X} {base : Nat} {args : Array Value} {s : State}
theorem mm_cx.warm (C : mm_cx D cAI cAR E X base args s) {U : State} {H : Heap} {locs : List Loc} (hS : va_S (fun q => base ≤ q) s.heap H locs) (hU : U.heap = H) (hW : s.WarmedH U.vm) (a' : Array Value) : mm_cx D cAI cAR E X base a' U := by
  subst hU
  exact ⟨fun w hw => mm_word hw hW (C.1 w hw), va_K.moved hW.alike C.2.1, fun j nf hj => (va_T.moved hW.alike (C.2.2.1 j nf hj)).kept hS.2.1, (va_Z.moved hW.alike C.2.2.2.1).kept hS.2.1, (va_Z.moved hW.alike C.2.2.2.2.1).kept hS.2.1, Nat.le_trans C.2.2.2.2.2 hS.1⟩
theorem mm_cx.call (C : mm_cx D cAI cAR E X base args s) (g : JFrame) (mk : MethodId) (x a' : Array Value) : mm_cx D cAI cAR E X base a' (s.calling g mk x) :=
  ⟨fun w hw => mm_word hw (s := s) (U := s.calling g mk x) (State.WarmedH.refl s) (C.1 w hw), va_K.moved (u := s) (U := s.calling g mk x) (Vm.Alike.refl s.vm) C.2.1, fun j nf hj => va_T.moved (u := s) (U := s.calling g mk x) (Vm.Alike.refl s.vm) (C.2.2.1 j nf hj), va_Z.moved (u := s) (U := s.calling g mk x) (Vm.Alike.refl s.vm) C.2.2.2.1, va_Z.moved (u := s) (U := s.calling g mk x) (Vm.Alike.refl s.vm) C.2.2.2.2.1, C.2.2.2.2.2⟩
end CX
/-! switches -/
theorem mm_swT_tg {code : List mm_I} {pc a : Nat} {x : Int32} : ∀ (l : List (Int × Nat)) (ks offs : List Int), mm_swT code pc l ks offs = true →
    (∃ (j : Nat) (f : Int), ks[j]? = some x.toInt ∧ offs[j]? = some f ∧ mm_pcAt code (mm_tg l a x) ((pc : Int) + f) = true ∧ ∀ j', j' < j → ks[j']? ≠ some x.toInt) ∨ ((∀ j : Nat, ks[j]? ≠ some x.toInt) ∧ mm_tg l a x = a)
  | [], [], [], _ => Or.inr ⟨fun j h => by simp at h, rfl⟩
  | q :: l', k :: ks', f :: offs', h => by
    simp only [mm_swT, Bool.and_eq_true, decide_eq_true_eq] at h
    obtain ⟨⟨h1, h2⟩, h3⟩ := h
    by_cases hx : x.toInt = q.1
    · refine Or.inl ⟨0, f, by simp [hx, h1], rfl, ?_, fun j' hj => absurd hj (Nat.not_lt_zero _)⟩
      rw [mm_tg, if_pos hx]
      exact h2
    · rcases mm_swT_tg (a := a) (x := x) l' ks' offs' h3 with ⟨j, g, g1, g2, g3, g4⟩ | ⟨g1, g2⟩
      · refine Or.inl ⟨j + 1, g, by simpa using g1, by simpa using g2, by rw [mm_tg, if_neg hx]; exact g3, fun j' hj' => ?_⟩
        cases j' with
        | zero => simp; rw [← h1]; exact fun e => hx e.symm
        | succ j'' => simpa using g4 j'' (by omega)
      · refine Or.inr ⟨fun j => ?_, by rw [mm_tg, if_neg hx]; exact g2⟩
        cases j with
        | zero => simp; rw [← h1]; exact fun e => hx e.symm
        | succ j' => simpa using g1 j'
  | [], [], _ :: _, h => by simp [mm_swT] at h
  | [], _ :: _, _, h => by simp [mm_swT] at h
  | _ :: _, [], _, h => by simp [mm_swT] at h
  | _ :: _, _ :: _, [], h => by simp [mm_swT] at h
theorem mm_off {x : Int32} {dflt : Int} : ∀ (ps : List (Int × Int)) (j : Nat) (f : Int), (ps.map (fun t => t.1))[j]? = some x.toInt → (ps.map (fun t => t.2))[j]? = some f → (∀ j', j' < j → (ps.map (fun t => t.1))[j']? ≠ some x.toInt) → Op.lookupswitch.offset ps dflt x.toInt = f
  | [], j, f, h, _, _ => by simp at h
  | (a, o) :: r, j, f, h1, h2, h3 => by
    rw [Op.lookupswitch.offset_cons]
    cases j with
    | zero =>
      simp at h1 h2
      rw [if_pos h1]
      exact h2
    | succ j' =>
      have h0 := h3 0 (by omega)
      simp at h0
      rw [if_neg h0]
      exact mm_off r j' f (by simpa using h1) (by simpa using h2) (fun j'' hj => by simpa using h3 (j'' + 1) (by omega))
theorem mm_off0 {x : Int32} {dflt : Int} : ∀ (ps : List (Int × Int)), (∀ j : Nat, (ps.map (fun t => t.1))[j]? ≠ some x.toInt) → Op.lookupswitch.offset ps dflt x.toInt = dflt
  | [], _ => rfl
  | (a, o) :: r, h => by
    rw [Op.lookupswitch.offset_cons]
    have h0 := h 0
    simp at h0
    rw [if_neg h0]
    exact mm_off0 r (fun j => by simpa using h (j + 1))
theorem mm_pcAt_of {code : List mm_I} {k : Nat} {v : Int} (h : mm_pcAt code k v = true) {i : mm_I} (hi : code[k]? = some i) : (i.2.2.2.2.1 : Int) = v := by
  unfold mm_pcAt at h
  rw [hi] at h
  simpa using h
def mm_swc (code : List mm_I) (pc a b : Nat) (q : Instr) : Bool := match q with
  | .tableswitch dflt lo hi offs => mm_pcAt code a ((pc : Int) + dflt) && decide (hi = lo + offs.size - 1) && mm_swT code pc (mm_sw b) ((List.range offs.size).map (fun (j : Nat) => lo + (j : Int))) offs.toList
  | .lookupswitch dflt ps => mm_pcAt code a ((pc : Int) + dflt) && (ps.toList.zip (ps.toList.drop 1)).all (fun (a, next) => a.1 < next.1) && mm_swT code pc (mm_sw b) (ps.toList.map (fun t => t.1)) (ps.toList.map (fun t => t.2))
  | _ => false
section SW
variable {p : Program} {l : Launch} {e : Env} {R : Room} {s : State} {m : MethodId} {args : Array Value} {below : List Frame} {meth : Method} {c : Code} {H : Heap} {locs : List Loc} {cells slots : Nat} {Q : State → Prop}
variable {cc : ByteArray} {pc : Nat} {ls : Array Slot}
theorem so_swi (hx : p.tables.exec = Jvm.exec) (hb : c.code = cc) {ad : Nat → Nat} {q : Instr} {a b len : Nat} {code : List mm_I} {S : List Value} {z : Nat × List Value} (hd : decode cc pc = .ok (q, len))
    (hck : mm_swc code pc a b q = true)
    (h : mm_swi mm_sw q a b S = some z) {i : mm_I} (hci : code[z.1]? = some i)
    (kk : W p l e R s m args below meth c H locs cells slots Q (F0 m i.2.2.2.2.1 ls (z.2.map (mm_tv ad)))) : W p l e R s m args below meth c H locs cells slots Q (F0 m pc ls (S.map (mm_tv ad))) := by
  cases q with
  | tableswitch dflt lo hi offs =>
    simp only [mm_swc, Bool.and_eq_true, decide_eq_true_eq] at hck
    obtain ⟨⟨h1, h2⟩, h3⟩ := hck
    simp only [mm_swi] at h
    split at h <;> first | cases h; done | skip
    rename_i x r
    cases h
    rcases mm_swT_tg (a := a) (x := x) _ _ _ h3 with ⟨j, f, g1, g2, g3, -⟩ | ⟨g1, g2⟩
    · have hj : j < offs.size := by
        have := (List.getElem?_eq_some_iff.mp g1).1
        simpa using this
      have hxj : x.toInt = lo + (j : Int) := by
        rw [List.getElem?_map, List.getElem?_range hj] at g1
        simpa using g1.symm
      refine lv_tableIn hx hb hd (by omega) (by omega) (off := f) ?_ (mm_pcAt_of g3 hci).symm kk
      rw [show (x.toInt - lo).toNat = j by omega, ← Array.getElem?_toList]
      exact g2
    · rw [g2] at hci
      refine lv_tableOut hx hb hd ?_ (mm_pcAt_of h1 hci).symm kk
      by_cases h4 : x.toInt < lo
      · exact Or.inl h4
      · right
        by_cases h5 : hi < x.toInt
        · exact h5
        · exfalso
          have hj : (x.toInt - lo).toNat < offs.size := by omega
          refine g1 (x.toInt - lo).toNat ?_
          rw [List.getElem?_map, List.getElem?_range hj]
          simp
          omega
  | lookupswitch dflt ps =>
    simp only [mm_swc, Bool.and_eq_true] at hck
    obtain ⟨⟨h1, h2⟩, h3⟩ := hck
    simp only [mm_swi] at h
    split at h <;> first | cases h; done | skip
    rename_i x r
    cases h
    rcases mm_swT_tg (a := a) (x := x) _ _ _ h3 with ⟨j, f, g1, g2, g3, g4⟩ | ⟨g1, g2⟩
    · exact lv_lookup hx hb hd h2 (mm_off _ j f g1 g2 g4) (mm_pcAt_of g3 hci).symm kk
    · rw [g2] at hci
      exact lv_lookup hx hb hd h2 (mm_off0 _ g1) (mm_pcAt_of h1 hci).symm kk
  | _ => simp [mm_swc] at hck
/-- behind a call -/
theorem mm_callk {pc : Nat} {mc ms base : Nat} {rest st0 : List Value} {rv : Option Value} {P1 : Heap → Prop} (hr : va_Run p l e R s m args below meth c H locs cells slots mc ms (F0 m pc ls st0) rest (fun st o t => o = .returned rv ∧ P1 t.heap ∧ va_F (fun q => base ≤ q) st t) (fun q => base ≤ q)) (hS : va_S (fun q => base ≤ q) s.heap H locs)
    (kk : ∀ (H1 : Heap) (locs1 : List Loc), P1 H1 → va_S (fun q => base ≤ q) s.heap H1 locs1 → W p l e R s m args below meth c H1 locs1 (cells + mc) (slots + ms) Q (F0 m (pc + 3) ls (rv.toList ++ rest))) : W p l e R s m args below meth c H locs cells slots Q (F0 m pc ls st0) := by
  intro T hT X
  obtain ⟨v, st₀, t, T', L, h0, X', hL, e1, e2, ⟨hv, hp, hz, hk⟩, st⟩ := hr T hT X
  cases hv
  rw [h0] at hz hk
  obtain ⟨t2, a1, b1⟩ := kk T'.heap (locs ++ L) (by rw [e1]; exact hp)
    ⟨Nat.le_trans hS.1 (by rw [e1]; exact hz), fun q h1 h2 => by rw [e1, hk q (Nat.lt_of_lt_of_le h1 hS.1) h2]; exact hS.2.1 q h1 h2, fun q hq => by
      rcases List.mem_append.mp hq with h | h
      · exact hS.2.2 q h
      · exact hL q h⟩ T' rfl X'
  exact ⟨t2, st t2 a1, b1⟩
end SW
end
section
/-! the small machine is sound -/
theorem mm_en_args (ad : Nat → Nat) : ∀ (vs : List Value) (i j : Nat) (v : Value), (mm_la vs)[j]? = some (some v) → (i + j, mm_tv ad v) ∈ lv_args i (vs.map (mm_tv ad))
  | [], i, j, v, h => by simp [mm_la] at h
  | u :: vs, i, j, v, h => by
    have e : mm_la (u :: vs) = (if u.category = 2 then [some u, none] else [some u]) ++ mm_la vs := by simp [mm_la]
    rw [e] at h
    rw [List.map_cons, lv_args, mm_tv_cat]
    by_cases hc : u.category = 2
    · rw [if_pos hc] at h ⊢
      match j, h with
      | 0, h => cases h; exact List.mem_cons_self
      | 1, h => cases h
      | j + 2, h =>
        have h2 := mm_en_args ad vs (i + 2) j v (by simpa using h)
        rw [show i + (j + 2) = i + 2 + j by omega]
        exact List.mem_cons_of_mem _ h2
    · rw [if_neg hc] at h ⊢
      match j, h with
      | 0, h => cases h; exact List.mem_cons_self
      | j + 1, h =>
        have h2 := mm_en_args ad vs (i + 1) j v (by simpa using h)
        rw [show i + (j + 1) = i + 1 + j by omega]
        exact List.mem_cons_of_mem _ h2
theorem mm_la_len (ad : Nat → Nat) : ∀ vs : List Value, (lg_sl (vs.map (mm_tv ad))).length = (mm_la vs).length
  | [] => rfl
  | u :: vs => by
    have h := mm_la_len ad vs
    simp only [lg_sl, mm_la, List.map_cons, List.flatMap_cons, List.length_append, mm_tv_cat] at h ⊢
    rw [h]
    by_cases hc : u.category = 2 <;> simp [hc]
theorem mm_en_len {vs : List Value} {n : Nat} (h : (mm_la vs).length ≤ n) : (mm_en vs n).length = n := by
  simp only [mm_en, List.length_append, List.length_replicate]
  omega
theorem mm_lh_entry {ad : Nat → Nat} {ls : Array Slot} {vs : List Value} {n : Nat} (h : (mm_la vs).length ≤ n) (hl : lv_has ls n (lv_args 0 (vs.map (mm_tv ad)))) : mm_lh ad ls (mm_en vs n) := by
  refine ⟨by rw [mm_en_len h]; exact hl.1, hl.2.1, fun j v hj => ?_⟩
  by_cases hlt : j < (mm_la vs).length
  · rw [mm_en, List.getElem?_append_left hlt] at hj
    have h1 := mm_en_args ad vs 0 j v hj
    rw [Nat.zero_add] at h1
    exact hl.2.2 _ h1
  · rw [mm_en, List.getElem?_append_right (by omega), List.getElem?_replicate] at hj
    split at hj <;> cases hj
/-! what a step is -/
theorem mm_step_inv {X : mm_X} {rk : Nat → Nat} {sw : Nat → List (Int × Nat)} {rt : Nat} {q : Instr} {a b nx : Nat} {c : mm_C} {z : mm_R} (h : mm_step X rk sw rt q a b nx c = some z) :
    (mm_kd q a = 0 ∧ ∃ S', mm_pure q a c.2.2.1 = some S' ∧ z = .inl (nx, c.2.1, S', c.2.2.2)) ∨ (mm_kd q a = 1 ∧ ∃ y, mm_loc q c.2.1 c.2.2.1 = some y ∧ z = .inl (nx, y.1, y.2, c.2.2.2)) ∨ (mm_kd q a = 2 ∧ ∃ y, mm_br q a nx c.2.2.1 = some y ∧ z = .inl (y.1, c.2.1, y.2, c.2.2.2)) ∨
    (mm_kd q a = 3 ∧ ∃ y, mm_heap X q a b c.2.2.1 c.2.2.2 = some y ∧ z = .inl (nx, c.2.1, y.1, y.2)) ∨ (mm_kd q a = 4 ∧ ∃ y, mm_inv rk q a b c.2.2.1 c.2.2.2 = some y ∧ z = .inr (.inr (a, y.1, (nx, c.2.1, y.2, c.2.2.2)))) ∨ (mm_kd q a = 5 ∧ ∃ v, mm_ret rt q c.2.2.1 = some v ∧ z = .inr (.inl (v, c.2.2.2))) ∨
    (mm_kd q a = 6 ∧ ∃ y, mm_swi sw q a b c.2.2.1 = some y ∧ z = .inl (y.1, c.2.1, y.2, c.2.2.2)) := by
  unfold mm_step at h
  split at h
  · rename_i hk; obtain ⟨y, h1, h2⟩ := Option.map_eq_some_iff.mp h; exact Or.inl ⟨hk, y, h1, h2.symm⟩
  · rename_i hk; obtain ⟨y, h1, h2⟩ := Option.map_eq_some_iff.mp h; exact Or.inr (Or.inl ⟨hk, y, h1, h2.symm⟩)
  · rename_i hk; obtain ⟨y, h1, h2⟩ := Option.map_eq_some_iff.mp h; exact Or.inr (Or.inr (Or.inl ⟨hk, y, h1, h2.symm⟩))
  · rename_i hk; obtain ⟨y, h1, h2⟩ := Option.map_eq_some_iff.mp h; exact Or.inr (Or.inr (Or.inr (Or.inl ⟨hk, y, h1, h2.symm⟩)))
  · rename_i hk; obtain ⟨y, h1, h2⟩ := Option.map_eq_some_iff.mp h; exact Or.inr (Or.inr (Or.inr (Or.inr (Or.inl ⟨hk, y, h1, h2.symm⟩))))
  · rename_i hk; obtain ⟨y, h1, h2⟩ := Option.map_eq_some_iff.mp h; exact Or.inr (Or.inr (Or.inr (Or.inr (Or.inr (Or.inl ⟨hk, y, h1, h2.symm⟩)))))
  · rename_i hk; obtain ⟨y, h1, h2⟩ := Option.map_eq_some_iff.mp h; exact Or.inr (Or.inr (Or.inr (Or.inr (Or.inr (Or.inr ⟨hk, y, h1, h2.symm⟩)))))
  · cases h
set_option maxHeartbeats 4000000 in
theorem mm_heap_mono {X : mm_X} {q : Instr} {a b : Nat} {S : List Value} {w : mm_W} {z : List Value × mm_W} (h : mm_heap X q a b S w = some z) : ∃ t, z.2.1 = w.1 ++ t := by
  have nil : ∀ {y : mm_W}, y.1 = w.1 → ∃ t, y.1 = w.1 ++ t := fun h => ⟨[], by rw [h, List.append_nil]⟩
  cases q with
  | getfield i => simp only [mm_heap] at h; (repeat' split at h) <;> first | (cases h; done) | (cases h; exact nil rfl)
  | putfield i => simp only [mm_heap] at h; (repeat' split at h) <;> first | (cases h; done) | (cases h; exact nil rfl)
  | iaload => simp only [mm_heap] at h; (repeat' split at h) <;> first | (cases h; done) | (cases h; exact nil rfl)
  | iastore => simp only [mm_heap] at h; (repeat' split at h) <;> first | (cases h; done) | (cases h; exact nil rfl)
  | arraylength => simp only [mm_heap] at h; (repeat' split at h) <;> first | (cases h; done) | (cases h; exact nil rfl)
  | aaload => simp only [mm_heap] at h; (repeat' split at h) <;> first | (cases h; done) | (cases h; exact nil rfl)
  | aastore => simp only [mm_heap] at h; (repeat' split at h) <;> first | (cases h; done) | (cases h; exact nil rfl)
  | newarray t => cases t <;> first | (simp [mm_heap] at h; done) | (simp only [mm_heap] at h; (repeat' split at h) <;> first | (cases h; done) | (cases h; exact ⟨_, rfl⟩))
  | anewarray i => simp only [mm_heap] at h; (repeat' split at h) <;> first | (cases h; done) | (cases h; exact ⟨_, rfl⟩)
  | new i => simp only [mm_heap] at h; (repeat' split at h) <;> first | (cases h; done) | (cases h; exact ⟨_, rfl⟩)
  | getstatic i => cases h; exact nil rfl
  | invokestatic i => simp only [mm_heap] at h; (repeat' split at h) <;> first | (cases h; done) | (cases h; exact nil rfl)
  | invokespecial i => simp only [mm_heap] at h; (repeat' split at h) <;> first | (cases h; done) | (cases h; exact nil rfl)
  | _ => simp [mm_heap] at h
section RUN
variable {X : mm_X} {rk : Nat → Nat} {sw : Nat → List (Int × Nat)} {tab : Nat → Option mm_M}
theorem mm_run_fetch {n d : Nat} {M : mm_M} {c : mm_C} {z : Option Value × mm_W} (h : mm_run X rk sw tab n d M c = some z) : ∃ i, M.2.2[c.1]? = some i := by
  cases n with
  | zero => simp [mm_run] at h
  | succ n =>
    unfold mm_run at h
    split at h
    · cases h
    · rename_i i hi; exact ⟨i, hi⟩
/-- a run that succeeds, by its first step -/
theorem mm_run_inv {n d : Nat} {M : mm_M} {c : mm_C} {z : Option Value × mm_W} {i : mm_I} (hi : M.2.2[c.1]? = some i) (h : mm_run X rk sw tab (n + 1) d M c = some z) : ∃ y, mm_step X rk sw M.1 i.1 i.2.1 i.2.2.1 i.2.2.2.1 c = some y ∧
    ((∃ c', y = .inl c' ∧ mm_run X rk sw tab n d M c' = some z) ∨ y = .inr (.inl z) ∨ (∃ (u : Nat × List Value × mm_C) (d' : Nat) (M' : mm_M) (x : Option Value × mm_W), y = .inr (.inr u) ∧ d = d' + 1 ∧ tab u.1 = some M' ∧ (mm_la u.2.1).length ≤ M'.2.1 ∧ mm_run X rk sw tab n d' M' (0, mm_en u.2.1 M'.2.1, [], u.2.2.2.2.2) = some x ∧ mm_run X rk sw tab n (d' + 1) M (u.2.2.1, u.2.2.2.1, x.1.toList ++ u.2.2.2.2.1, x.2) = some z)) := by
  unfold mm_run at h
  rw [hi] at h
  dsimp only at h
  split at h
  · cases h
  · rename_i c' hc; exact ⟨_, hc, Or.inl ⟨c', rfl, h⟩⟩
  · rename_i y hy; cases h; exact ⟨_, hy, Or.inr (Or.inl rfl)⟩
  · rename_i u hu
    refine ⟨_, hu, Or.inr (Or.inr ?_)⟩
    cases d with
    | zero => simp at h
    | succ d' =>
      dsimp only at h
      split at h
      · cases h
      · rename_i M' hM
        split at h
        · rename_i hl
          split at h
          · cases h
          · rename_i x hx
            exact ⟨u, d', M', x, rfl, rfl, hM, hl, hx, h⟩
        · cases h
theorem mm_run_mono : ∀ (n d : Nat) (M : mm_M) (c : mm_C) (z : Option Value × mm_W), mm_run X rk sw tab n d M c = some z → ∃ t, z.2.1 = c.2.2.2.1 ++ t
  | 0, d, M, c, z, h => by simp [mm_run] at h
  | n + 1, d, M, c, z, h => by
    obtain ⟨i, hi⟩ := mm_run_fetch h
    obtain ⟨y, hy, hz⟩ := mm_run_inv hi h
    rcases mm_step_inv hy with ⟨-, S', -, e⟩ | ⟨-, S', -, e⟩ | ⟨-, S', -, e⟩ | ⟨-, S', h1, e⟩ | ⟨-, S', -, e⟩ | ⟨-, S', -, e⟩ | ⟨-, S', -, e⟩ <;> subst e <;> rcases hz with ⟨c', e, hr⟩ | e | ⟨u, d', M', x, e, -, -, -, hr1, hr2⟩ <;> first | (cases e; done) | skip
    · cases e; have h9 := mm_run_mono n d M _ z hr; exact h9
    · cases e; have h9 := mm_run_mono n d M _ z hr; exact h9
    · cases e; have h9 := mm_run_mono n d M _ z hr; exact h9
    · cases e
      obtain ⟨t1, e1⟩ := mm_heap_mono h1
      obtain ⟨t2, e2⟩ := mm_run_mono n d M _ z hr
      exact ⟨t1 ++ t2, by rw [e2]; show S'.2.1 ++ t2 = _; rw [e1, List.append_assoc]⟩
    · cases e
      obtain ⟨t1, e1⟩ := mm_run_mono n d' M' _ x hr1
      obtain ⟨t2, e2⟩ := mm_run_mono n (d' + 1) M _ z hr2
      exact ⟨t1 ++ t2, by rw [e2]; show x.2.1 ++ t2 = _; rw [e1, List.append_assoc]⟩
    · cases e; exact ⟨[], by simp⟩
    · cases e; have h9 := mm_run_mono n d M _ z hr; exact h9
end RUN
theorem mm_sz_app2 (G t : mm_G) : mm_sz (G ++ t) = mm_sz G + mm_sz t := by simp [mm_sz]
theorem mm_app_le {G G' t : mm_G} (h : G' = G ++ t) : G.length ≤ G'.length ∧ mm_sz G ≤ mm_sz G' := by
  subst h
  refine ⟨by simp, by rw [mm_sz_app2]; omega⟩
def mm_wfw (w : mm_W) : Prop := w.1.length ≤ 1000 ∧ ∀ (k : Nat) (cn : Nat × Nat), w.1[k]? = some (.inr (.inl cn)) → ∃ t, mm_rix cn.1 = some t
theorem mm_o12 : ∀ t ∈ mm_za, t.1.1 < 12 := by decide +kernel
theorem mm_za_of {k : Nat} {t : mm_N × mm_M} (h : mm_zl[k]? = some t) (hk : k < 198) : t ∈ mm_za := by
  have hl : mm_za.length = 198 := by decide +kernel
  rw [mm_zl, List.getElem?_append_left (by omega)] at h
  exact List.mem_of_getElem? h
end
section
/-- what is claimed of a run of n steps: the machine itself comes, from where the small one stands, to where it ends -/
def mm_SP (l : Launch) (X : mm_X) (D : va_G) (cAI : ClassId) (cAR : Nat → ClassId) (E : Nat → Nat) (base n : Nat) : Prop :=
  ∀ (d k : Nat) (t : mm_N × mm_M) (cf : mm_C) (r : Option Value) (w' : mm_W), mm_zl[k]? = some t → mm_run X mm_rk mm_sw mm_tab n d t.2 cf = some (r, w') →
  ∀ (p : Program) (e : Env) (R : Room) (s : State) (m : MethodId) (args : Array Value) (below : List Frame) (meth : Method) (c : Code) (H : Heap) (locs : List Loc) (ls : Array Slot) (Q : State → Prop) (len0 sz0 : Nat),
  p.tables.exec = Jvm.exec → c.code = t.1.2.2.1 → c.maxLocals = t.1.2.2.2.1 → s.vm.findClass (mm_nm t.1.1) = some m.cls → (t.1.2.2.2.2.2.2 = true → meth.name = "<init>") → mm_cx D cAI cAR E X base args s → mm_wfw cf.2.2.2 → va_P D vwCl (mm_wl cAI cAR (mm_ad base E) cf.2.2.2) H → va_S (fun q => base ≤ q) s.heap H locs → mm_lh (mm_ad base E) ls cf.2.1 → cf.2.1.length = t.1.2.2.2.1 → s.heap.size = base + len0 → len0 ≤ cf.2.2.2.1.length → sz0 ≤ mm_sz cf.2.2.2.1 → w'.1.length - len0 ≤ R.cells → mm_sz w'.1 - sz0 ≤ R.slots → d + 1 ≤ R.frames → 64 * (d + 1) ≤ R.locals →
  (∀ (pc : Nat) (H : Heap) (locs : List Loc) (ls : Array Slot) (q : Instr) (S : List Value), decode t.1.2.2.1 pc = .ok (q, 1) → mm_ret t.2.1 q S = some r → va_P D vwCl (mm_wl cAI cAR (mm_ad base E) w') H → va_S (fun q => base ≤ q) s.heap H locs → W p l e R s m args below meth c H locs (w'.1.length - len0) (mm_sz w'.1 - sz0) Q (F0 m pc ls (S.map (mm_tv (mm_ad base E))))) →
  ∀ i, t.2.2.2[cf.1]? = some i → W p l e R s m args below meth c H locs (cf.2.2.2.1.length - len0) (mm_sz cf.2.2.2.1 - sz0) Q (F0 m i.2.2.2.2.1 ls (cf.2.2.1.map (mm_tv (mm_ad base E))))
theorem mm_okH_of {t : mm_N × mm_M} (h : t ∈ mm_zl) : t.2.1 = mm_rt t.1.2.2.2.2.1 ∧ t.2.2.1 = t.1.2.2.2.1 ∧ t.1.2.2.2.1 ≤ 40 ∧ t.1.2.1.cls = mm_nm t.1.1 ∧ (t.1.2.2.2.2.2.2 = true → t.1.2.1.name = "<init>") ∧ plainName t.1.2.1.cls = true ∧ t.1.2.1.cls ≠ "java/lang/invoke/MethodHandle" ∧ t.1.2.1.cls ≠ "java/lang/invoke/VarHandle" ∧ mm_pcAt t.2.2.2 0 0 = true ∧ ∀ i ∈ t.2.2.2, mm_okI t.1.1 t.1.2.2.2.2.2.2 t.1.2.2.1 t.2.2.2 i = true := by
  have h1 := mm_zok t h
  simp only [mm_okM, mm_okH, Bool.and_eq_true, decide_eq_true_eq] at h1
  obtain ⟨⟨⟨⟨⟨⟨⟨⟨⟨⟨a1, a2⟩, a3⟩, a4⟩, a5⟩, a6⟩, a7⟩, a8⟩, a9⟩, a10⟩, a11⟩ := h1
  exact ⟨a1, a2, a3, a4, a6, a7, a8, a9, a10, fun i hi => List.all_eq_true.mp a11 i hi⟩
section MET
variable {l : Launch} {X : mm_X} {D : va_G} {cAI : ClassId} {cAR : Nat → ClassId} {E : Nat → Nat} {base n : Nat}
set_option maxHeartbeats 4000000 in
theorem mm_met (hSP : mm_SP l X D cAI cAR E base n) {d k : Nat} {t : mm_N × mm_M} {vs : List Value} {w w1 : mm_W} {r : Option Value} (hk : mm_zl[k]? = some t) (hlen : (mm_la vs).length ≤ t.2.2.1) (hrun : mm_run X mm_rk mm_sw mm_tab n d t.2 (0, mm_en vs t.2.2.1, [], w) = some (r, w1)) (hwf : mm_wfw w) :
    Met l t.1.2.1 [.code t.1.2.1 t.1.2.2.1 t.1.2.2.2.1 t.1.2.2.2.2.1] { frames := d + 1, cells := w1.1.length - w.1.length, slots := mm_sz w1.1 - mm_sz w.1, locals := 64 * (d + 1) }
      (fun v U => v = (vs.map (mm_tv (mm_ad base E))).toArray ∧ (∀ a', mm_cx D cAI cAR E X base a' U) ∧ va_P D vwCl (mm_wl cAI cAR (mm_ad base E) w) U.heap ∧ U.heap.size = base + w.1.length)
      (fun _ st o u => o = .returned (r.map (mm_tv (mm_ad base E))) ∧ va_P D vwCl (mm_wl cAI cAR (mm_ad base E) w1) u.heap ∧ va_F (fun q => base ≤ q) st u) (w1.1.length - w.1.length) (mm_sz w1.1 - mm_sz w.1) (fun q => base ≤ q) := by
  obtain ⟨k1, k2, k3, k4, k5, k6, -, -, k9, -⟩ := mm_okH_of (List.mem_of_getElem? hk)
  refine Met.ofW (cc := t.1.2.2.1) (maxL := t.1.2.2.2.1) (ret := t.1.2.2.2.2.1) k6 rfl ?_
  intro p e s m args below meth c s₁ B hml hv
  obtain ⟨rfl, hC, hP, hsz⟩ := hv
  have hx := B.exec
  have hb := B.bytes
  have hr := B.returns
  have hlocks := B.notSynchronized
  have hown : s.vm.findClass t.1.2.1.cls = some m.cls := findClass_of_methodNamed B.named
  rw [k4] at hown
  have hin : meth.name = t.1.2.1.name := (name_of_methodNamed B.named B.method).1
  have hlen2 : (mm_la vs).length ≤ t.1.2.2.2.1 := by rw [← k2]; exact hlen
  have hl := lv_entry (vs.map (mm_tv (mm_ad base E))) (n := t.1.2.2.2.1) (by rw [mm_la_len]; exact hlen2)
  rw [lg_entry_eq]
  generalize (lg_sl (vs.map (mm_tv (mm_ad base E))) ++ List.replicate (t.1.2.2.2.1 - (lg_sl (vs.map (mm_tv (mm_ad base E)))).length) Slot.unset).toArray = ls at hl ⊢
  obtain ⟨i, hi⟩ := mm_run_fetch hrun
  have hpc : i.2.2.2.2.1 = 0 := by have := mm_pcAt_of k9 hi; omega
  have key := hSP d k t _ r w1 hk hrun p e { frames := d + 1, cells := w1.1.length - w.1.length, slots := mm_sz w1.1 - mm_sz w.1, locals := 64 * (d + 1) } s m (vs.map (mm_tv (mm_ad base E))).toArray below meth c s.heap [] ls
    (MQ below (fun _ st o u => o = .returned (r.map (mm_tv (mm_ad base E))) ∧ va_P D vwCl (mm_wl cAI cAR (mm_ad base E) w1) u.heap ∧ va_F (fun q => base ≤ q) st u) (vs.map (mm_tv (mm_ad base E))).toArray s (w1.1.length - w.1.length) (mm_sz w1.1 - mm_sz w.1) (fun q => base ≤ q)) w.1.length (mm_sz w.1) hx hb hml hown
    (fun h => by rw [hin]; exact k5 h) (hC _) hwf hP va_S.rf (by rw [k2]; exact mm_lh_entry hlen2 hl) (by rw [mm_en_len hlen, k2]) hsz (Nat.le_refl _) (Nat.le_refl _) (Nat.le_refl _) (Nat.le_refl _) (Nat.le_refl _) (Nat.le_refl _) ?_ i hi
  · simp only [Nat.sub_self, hpc] at key
    exact key
  · intro pc H locs ls q S hd hret hP1 hS1
    have hQ : ∀ (u : State), u.heap = H → ∀ (_ : s.WarmedH u.vm), (Outcome.returned (r.map (mm_tv (mm_ad base E))) = Outcome.returned (r.map (mm_tv (mm_ad base E))) ∧ va_P D vwCl (mm_wl cAI cAR (mm_ad base E) w1) u.heap ∧ va_F (fun q => base ≤ q) s u) := fun u hu _ => ⟨rfl, by rw [hu]; exact hP1, hS1.F hu⟩
    cases q with
    | return_ =>
      simp only [mm_ret] at hret
      split at hret <;> first | cases hret; done | skip
      rename_i h0
      cases hret
      obtain ⟨h01, rfl⟩ := h0
      have hn : t.1.2.2.2.2.1 = none := by
        rw [k1] at h01
        cases h : t.1.2.2.2.2.1 with
        | none => rfl
        | some ty => rw [h] at h01; cases ty <;> simp [mm_rt] at h01
      rw [hn] at hr
      exact W.vret hx hb hr hQ hS1.2.2 hd
    | ireturn =>
      simp only [mm_ret] at hret
      split at hret <;> first | cases hret; done | skip
      rename_i x
      split at hret <;> first | cases hret; done | skip
      rename_i h0
      cases hret
      rw [k1] at h0
      rcases h0 with h0 | ⟨h0, hx01⟩
      · have hn : t.1.2.2.2.2.1 = some .int := by
          cases h : t.1.2.2.2.2.1 with
          | none => rw [h] at h0; simp [mm_rt] at h0
          | some ty => rw [h] at h0; cases ty <;> first | rfl | (simp [mm_rt] at h0)
        rw [hn] at hr
        exact W.iret hx hb hr hQ hS1.2.2 hd
      · have hn : t.1.2.2.2.2.1 = some .boolean := by
          cases h : t.1.2.2.2.2.1 with
          | none => rw [h] at h0; simp [mm_rt] at h0
          | some ty => rw [h] at h0; cases ty <;> first | rfl | (simp [mm_rt] at h0)
        rw [hn] at hr
        exact W.zret hx hb hr (by rcases hx01 with rfl | rfl <;> rfl) hQ hS1.2.2 hd
    | lreturn =>
      simp only [mm_ret] at hret
      split at hret <;> first | cases hret; done | skip
      rename_i x
      split at hret <;> first | cases hret; done | skip
      rename_i h0
      cases hret
      rw [k1] at h0
      have hn : t.1.2.2.2.2.1 = some .long := by
        cases h : t.1.2.2.2.2.1 with
        | none => rw [h] at h0; simp [mm_rt] at h0
        | some ty => rw [h] at h0; cases ty <;> first | rfl | (simp [mm_rt] at h0)
      rw [hn] at hr
      exact W.lret hx hb hr hQ hS1.2.2 hd
    | _ => simp [mm_ret] at hret
end MET
theorem mm_lk_of {o : Nat} {ini : Bool} {q : Instr} {a b : Nat} (h : mm_lkb o ini q a b = true) : mm_lk o ini q a b := by
  cases q with
  | getfield i =>
    simp only [mm_lkb, decide_eq_true_eq] at h
    exact ⟨(mm_in_f2 _ h).1, (mm_in_f2 _ h).2, mm_in_f _ h⟩
  | putfield i =>
    simp only [mm_lkb, Bool.and_eq_true, decide_eq_true_eq, Bool.or_eq_true, Bool.not_eq_true'] at h
    refine ⟨(mm_in_f2 _ h.1).1, (mm_in_f2 _ h.1).2, mm_in_f _ h.1, ?_⟩
    cases hf : (mm_tT a b).2.2.2 with
    | false => exact Or.inl rfl
    | true =>
      rcases h.2 with h2 | h2
      · rw [hf] at h2; cases h2
      · exact Or.inr ⟨rfl, h2.1.1, h2.1.2, h2.2⟩
  | new i =>
    simp only [mm_lkb, Bool.and_eq_true, decide_eq_true_eq] at h
    exact ⟨h.2, mm_in_c _ h.1⟩
  | anewarray i =>
    simp only [mm_lkb, Bool.and_eq_true, decide_eq_true_eq] at h
    exact ⟨Option.isSome_iff_exists.mp h.2, mm_in_c _ h.1⟩
  | newarray t =>
    simp only [mm_lkb, decide_eq_true_eq] at h
    exact h
  | getstatic i =>
    simp only [mm_lkb, Bool.and_eq_true, decide_eq_true_eq, Bool.or_eq_true] at h
    have hw := mm_in_s _ h.1
    rcases h.2 with rfl | rfl
    · exact Or.inl ⟨rfl, hw⟩
    · exact Or.inr ⟨rfl, hw⟩
  | invokestatic i =>
    simp only [mm_lkb] at h
    split at h
    · exact ⟨fun e => by omega, fun e => by omega, fun e => by omega⟩
    · simp only [decide_eq_true_eq] at h
      have hw := mm_in_x _ h
      exact ⟨fun e => by subst e; exact hw, fun e => by subst e; exact hw, fun e => by subst e; exact hw⟩
  | invokespecial i =>
    simp only [mm_lkb] at h
    split at h
    · exact fun e => by omega
    · simp only [decide_eq_true_eq] at h
      have hw := mm_in_x _ h
      exact fun e => by subst e; exact hw
  | _ => trivial
theorem mm_cst_of {o : Nat} {ini : Bool} {q : Instr} {a b : Nat} {args : Array Value} {s : State} (h : mm_lkb o ini q a b = true) (hts : ∀ w ∈ lw_t2, w.before args s = true) : mm_cst (mm_nm o) q a args s := by
  cases q with
  | ldc i => simp only [mm_lkb, decide_eq_true_eq] at h; exact hts _ (mm_in2 (mm_in_k _ h) rfl)
  | ldc_w i => simp only [mm_lkb, decide_eq_true_eq] at h; exact hts _ (mm_in2 (mm_in_k _ h) rfl)
  | ldc2_w i => simp only [mm_lkb, decide_eq_true_eq] at h; exact hts _ (mm_in2 (mm_in_l _ h) rfl)
  | _ => trivial
end
section
section STEP
variable {l : Launch} {X : mm_X} {D : va_G} {cAI : ClassId} {cAR : Nat → ClassId} {E : Nat → Nat} {base n : Nat}
variable {p : Program} {e : Env} {R : Room} {s : State} {m : MethodId} {args : Array Value} {below : List Frame} {meth : Method} {c : Code} {H : Heap} {locs : List Loc} {ls : Array Slot} {Q : State → Prop} {cells slots : Nat}
/-- the heap's size, where the world lies -/
theorem mm_Hsz {w : mm_W} {len0 : Nat} (hl : w.1.length ≤ 1000) (hP : va_P D vwCl (mm_wl cAI cAR (mm_ad base E) w) H) (hS : va_S (fun q => base ≤ q) s.heap H locs) (h0 : s.heap.size = base + len0) (hle : len0 ≤ w.1.length) (hz : H.size ≤ s.heap.size + (w.1.length - len0)) : H.size = base + w.1.length := by
  have h1 := hS.1
  by_cases hw : w.1.length = 0
  · omega
  · obtain ⟨sh, hsh⟩ : ∃ sh, w.1[w.1.length - 1]? = some sh := ⟨_, List.getElem?_eq_getElem (by omega)⟩
    have h2 := (hP _ _ (mm_wl_at hsh)).lt
    have h3 : mm_ad base E (w.1.length - 1) < H.size := h2
    rw [mm_ad_lt (by omega)] at h3
    omega
set_option maxHeartbeats 4000000 in
/-- a call -/
theorem mm_call_sound (hSP : mm_SP l X D cAI cAR E base n) {o : Nat} {ini : Bool} {cc : ByteArray} {pc nL d a b len0 : Nat} {q : Instr} {S : List Value} {w w1 : mm_W} {y : List Value × List Value} {r : Option Value} {M' : mm_M} (hx : p.tables.exec = Jvm.exec) (hb : c.code = cc) (hml : c.maxLocals = nL) (hown : s.vm.findClass (mm_nm o) = some m.cls) (C : mm_cx D cAI cAR E X base args s) (hwf : mm_wfw w) (hP : va_P D vwCl (mm_wl cAI cAR (mm_ad base E) w) H) (hS : va_S (fun q => base ≤ q) s.heap H locs) (hls : ls.size = nL)
    (h0 : s.heap.size = base + len0) (hle : len0 ≤ w.1.length) (hcells : cells = w.1.length - len0) (hlkb : mm_lkb o ini q a b = true) (hkd : mm_kd q a = 4) (hcal : mm_cal q a b = true) (hd : decode cc pc = .ok (q, 3)) (hinv : mm_inv mm_rk q a b S w = some y) (htab : mm_tab a = some M') (hlen : (mm_la y.1).length ≤ M'.2.1) (hrun : mm_run X mm_rk mm_sw mm_tab n d M' (0, mm_en y.1 M'.2.1, [], w) = some (r, w1)) (hfr : d + 2 ≤ R.frames) (hlo : 64 * (d + 2) ≤ R.locals)
    (hR : cells + (w1.1.length - w.1.length) ≤ R.cells ∧ slots + (mm_sz w1.1 - mm_sz w.1) ≤ R.slots)
    (kk : ∀ (H1 : Heap) (locs1 : List Loc), va_P D vwCl (mm_wl cAI cAR (mm_ad base E) w1) H1 → va_S (fun q => base ≤ q) s.heap H1 locs1 → W p l e R s m args below meth c H1 locs1 (cells + (w1.1.length - w.1.length)) (slots + (mm_sz w1.1 - mm_sz w.1)) Q (F0 m (pc + 3) ls ((r.toList ++ y.2).map (mm_tv (mm_ad base E))))) :
    W p l e R s m args below meth c H locs cells slots Q (F0 m pc ls (S.map (mm_tv (mm_ad base E)))) := by
  refine mm_W_sz (fun hz => ?_)
  have hHz : H.size = base + w.1.length := mm_Hsz hwf.1 hP hS h0 hle (by rw [← hcells]; exact hz)
  -- the callee
  obtain ⟨t, ht, rfl⟩ : ∃ t, mm_zl[a]? = some t ∧ t.2 = M' := by
    unfold mm_tab at htab
    obtain ⟨t, h1, h2⟩ := Option.map_eq_some_iff.mp htab
    exact ⟨t, h1, h2⟩
  have hrk : mm_rk a = t.1.1 := by unfold mm_rk; rw [ht]; rfl
  have hy : mm_y a = t.1.2.1 := by unfold mm_y; rw [ht]; rfl
  unfold mm_cal at hcal
  rw [ht] at hcal
  simp only [Bool.and_eq_true, decide_eq_true_eq] at hcal
  obtain ⟨ha198, hcal⟩ := hcal
  have hza := mm_za_of ht ha198
  obtain ⟨k1, k2, k3, k4, k5, k6, k7, k8, k9, -⟩ := mm_okH_of (List.mem_of_getElem? ht)
  have ho12 := mm_o12 t hza
  have hcodew := mm_in_code t hza
  have hG : GoodIn lw_t2 [.code t.1.2.1 t.1.2.2.1 t.1.2.2.2.1 t.1.2.2.2.2.1] := fun w hw => by
    rw [List.mem_singleton] at hw
    subst hw
    exact ⟨mm_in2 hcodew rfl, Or.inl rfl⟩
  have hini : (Cond.initialized t.1.2.1.cls).before args s = true := by rw [k4]; exact C.1 _ (mm_in2 (mm_init_ok _ ho12) rfl)
  have hM := mm_met hSP ht hlen hrun hwf
  have hFB : FrameBlind (fun v U => v = (y.1.map (mm_tv (mm_ad base E))).toArray ∧ (∀ a', mm_cx D cAI cAR E X base a' U) ∧ va_P D vwCl (mm_wl cAI cAR (mm_ad base E) w) U.heap ∧ U.heap.size = base + w.1.length) := fun a U g mk h => ⟨h.1, fun a' => (h.2.1 a').call g mk a a', h.2.2.1, h.2.2.2⟩
  have hpre : ∀ U : State, U.heap = H → s.WarmedH U.vm → (∀ a', mm_cx D cAI cAR E X base a' U) ∧ va_P D vwCl (mm_wl cAI cAR (mm_ad base E) w) U.heap ∧ U.heap.size = base + w.1.length := fun U hU hW => ⟨fun a' => C.warm hS hU hW a', by rw [hU]; exact hP, by rw [hU]; exact hHz⟩
  have hroom : ({ frames := d + 1, cells := w1.1.length - w.1.length, slots := mm_sz w1.1 - mm_sz w.1, locals := 64 * (d + 1) } : Room).frames + 1 ≤ R.frames ∧ 8 + (t.1.2.2.2.1 + 11) + ({ frames := d + 1, cells := w1.1.length - w.1.length, slots := mm_sz w1.1 - mm_sz w.1, locals := 64 * (d + 1) } : Room).locals ≤ R.locals := ⟨by show d + 1 + 1 ≤ _; omega, by show 8 + (t.1.2.2.2.1 + 11) + 64 * (d + 1) ≤ _; omega⟩
  have S0 : CallFix p m c cc nL s args lw_t2 (mm_nm o) := ⟨hx, hb, hml, hown, C.1⟩
  have kk' : ∀ (H1 : Heap) (locs1 : List Loc), va_P D vwCl (mm_wl cAI cAR (mm_ad base E) w1) H1 → va_S (fun q => base ≤ q) s.heap H1 locs1 → W p l e R s m args below meth c H1 locs1 (cells + (w1.1.length - w.1.length)) (slots + (mm_sz w1.1 - mm_sz w.1)) Q (F0 m (pc + 3) ls ((r.map (mm_tv (mm_ad base E))).toList ++ y.2.map (mm_tv (mm_ad base E)))) := by
    intro H1 locs1 g1 g2
    have := kk H1 locs1 g1 g2
    rw [List.map_append] at this
    cases r <;> exact this
  have hSS : ∀ b', b' ≤ S.length → S = (S.take b').reverse.reverse ++ S.drop b' := fun b' _ => by rw [List.reverse_reverse, List.take_append_drop]
  cases q with
  | invokestatic idx =>
    simp only [mm_lkb] at hlkb
    simp only [mm_inv] at hinv
    split at hinv <;> first | cases hinv; done | skip
    rename_i hc
    cases hinv
    rw [if_pos hc.1] at hlkb
    simp only [decide_eq_true_eq] at hlkb
    have hw := mm_in_m _ hlkb
    simp only [Bool.and_eq_true, decide_eq_true_eq] at hcal
    have hst : (Cond.static t.1.2.1).before args s = true := by
      have := mm_in_kind t hza
      rw [if_pos hcal.1] at this
      exact C.1 _ (mm_in2 this rfl)
    have hlenA : ((S.take b).reverse.map (mm_tv (mm_ad base E))).length = b := by simp; omega
    have hstk : S.map (mm_tv (mm_ad base E)) = ((S.take b).reverse.map (mm_tv (mm_ad base E))).reverse ++ (S.drop b).map (mm_tv (mm_ad base E)) := by
      rw [← List.map_reverse, ← List.map_append, ← hSS b hc.2.1]
    have hrm := lv_room (m := m) (pc := pc) (ls := ls) (rest := S.map (mm_tv (mm_ad base E))) (st := (S.drop b).map (mm_tv (mm_ad base E))) (by rw [mm_tv_sum]; exact hc.2.2)
    have hdm : t.1.2.1.cls ≠ "java/lang/invoke/MethodHandle" ∧ t.1.2.1.cls ≠ "java/lang/invoke/VarHandle" ∧ (parseMethodDescriptor t.1.2.1.desc).map (fun d => d.parameters.length) = some b := ⟨k7, k8, hcal.2⟩
    unfold mm_wm at hw
    split at hw
    · rw [hy] at hw
      exact mm_callk (va_runSN (As := (S.take b).reverse.map (mm_tv (mm_ad base E))) (rest := (S.drop b).map (mm_tv (mm_ad base E))) S0 hM ⟨va_cnB b C.1 hG rfl rfl rfl (va_Nw.of rfl (C.1 _ (mm_in2 hw rfl))) hini hdm hroom, hst, trivial⟩ ⟨hFB, fun U hU hW => ⟨rfl, hpre U hU hW⟩⟩ rfl hlenA hls hstk hrm hd hR) hS kk'
    · rw [hy] at hw
      exact mm_callk (va_runS (As := (S.take b).reverse.map (mm_tv (mm_ad base E))) (rest := (S.drop b).map (mm_tv (mm_ad base E))) S0 hM ⟨callB_of b C.1 hG rfl rfl rfl hini (C.1 _ (mm_in2 hw rfl)) hdm hroom, hst⟩ ⟨hFB, fun U hU hW => ⟨rfl, hpre U hU hW⟩⟩ rfl hlenA hls hstk hrm hd hR) hS kk'
  | invokespecial idx =>
    simp only [mm_lkb] at hlkb
    simp only [mm_inv] at hinv
    split at hinv <;> first | cases hinv; done | skip
    rename_i hc
    split at hinv <;> first | cases hinv; done | skip
    rename_i k rr hks
    cases hinv
    rw [if_pos hc.1] at hlkb
    simp only [decide_eq_true_eq] at hlkb
    have hw := mm_in_m _ hlkb
    simp only [Bool.and_eq_true, decide_eq_true_eq, Bool.not_eq_true'] at hcal
    obtain ⟨⟨⟨c1, c2⟩, c3⟩, c4⟩ := hcal
    have hins : (Cond.instanceMethod t.1.2.1).before args s = true := by
      have := mm_in_kind t hza
      rw [if_neg (by rw [c1]; decide)] at this
      exact C.1 _ (mm_in2 this rfl)
    have hlen1 : rr.length + 1 = b := by
      have := congrArg List.length hks
      simp at this
      omega
    have hlenA : (rr.map (mm_tv (mm_ad base E))).length = b - 1 := by simp; omega
    have hS2 : S = rr.reverse ++ Value.ref k :: S.drop b := by
      have h1 := hSS b hc.2.1
      rw [hks] at h1
      simpa using h1
    have hstk : S.map (mm_tv (mm_ad base E)) = (rr.map (mm_tv (mm_ad base E))).reverse ++ Value.ref (mm_ad base E k) :: (S.drop b).map (mm_tv (mm_ad base E)) := by
      conv => lhs; rw [hS2]
      rw [List.map_append, List.map_reverse]
      rfl
    have hrm := lv_room (m := m) (pc := pc) (ls := ls) (rest := S.map (mm_tv (mm_ad base E))) (st := (S.drop b).map (mm_tv (mm_ad base E))) (by rw [mm_tv_sum]; exact hc.2.2)
    have hpar : (parseMethodDescriptor t.1.2.1.desc).map (fun d => d.parameters.length) = some (b - 1) := by
      cases hp : parseMethodDescriptor t.1.2.1.desc with
      | none => rw [hp] at c4; cases c4
      | some sig => rw [hp] at c4; simp at c4; simp; omega
    have hdm : t.1.2.1.cls ≠ "java/lang/invoke/MethodHandle" ∧ t.1.2.1.cls ≠ "java/lang/invoke/VarHandle" ∧ (parseMethodDescriptor t.1.2.1.desc).map (fun d => d.parameters.length) = some (b - 1) := ⟨k7, k8, hpar⟩
    rw [c3] at hM hG
    unfold mm_wm at hw
    split at hw
    · rw [hy] at hw
      exact mm_callk (va_runIN (b := mm_ad base E k) (As := rr.map (mm_tv (mm_ad base E))) (rest := (S.drop b).map (mm_tv (mm_ad base E))) S0 hM ⟨va_cnB (b - 1) C.1 hG rfl rfl rfl (va_Nw.of rfl (C.1 _ (mm_in2 hw rfl))) hini hdm hroom, k5 c2, hins⟩ ⟨hFB, fun U hU hW => ⟨rfl, hpre U hU hW⟩⟩ rfl hlenA hls hstk hrm hd hR) hS kk'
    · rw [hy] at hw
      exact mm_callk (va_runI (b := mm_ad base E k) (As := rr.map (mm_tv (mm_ad base E))) (rest := (S.drop b).map (mm_tv (mm_ad base E))) S0 hM ⟨callB_of (b - 1) C.1 hG rfl rfl rfl hini (C.1 _ (mm_in2 hw rfl)) hdm hroom, k5 c2, hins⟩ ⟨hFB, fun U hU hW => ⟨rfl, hpre U hU hW⟩⟩ rfl hlenA hls hstk hrm hd hR) hS kk'
  | invokevirtual idx =>
    simp only [mm_lkb, decide_eq_true_eq] at hlkb
    simp only [mm_inv] at hinv
    split at hinv <;> first | cases hinv; done | skip
    rename_i hc
    split at hinv <;> first | cases hinv; done | skip
    rename_i k rr hks
    split at hinv <;> first | cases hinv; done | skip
    rename_i hko
    cases hinv
    have hw := mm_in_m _ hlkb
    simp only [Bool.and_eq_true, decide_eq_true_eq, Bool.not_eq_true'] at hcal
    obtain ⟨⟨c1, c2⟩, c4⟩ := hcal
    have hins : (Cond.instanceMethod t.1.2.1).before args s = true := by
      have := mm_in_kind t hza
      rw [if_neg (by rw [c1]; decide)] at this
      exact C.1 _ (mm_in2 this rfl)
    have hsel : (Cond.selects (mm_nm t.1.1) t.1.2.1 t.1.2.1).before args s = true := by
      have := mm_in_sel t (List.mem_filter.mpr ⟨hza, by rw [c1, c2]; rfl⟩)
      rw [k4] at this
      exact C.1 _ (mm_in2 this rfl)
    have hlen1 : rr.length + 1 = b := by
      have := congrArg List.length hks
      simp at this
      omega
    have hlenA : (rr.map (mm_tv (mm_ad base E))).length = b - 1 := by simp; omega
    have hS2 : S = rr.reverse ++ Value.ref k :: S.drop b := by
      have h1 := hSS b hc.2.1
      rw [hks] at h1
      simpa using h1
    have hstk : S.map (mm_tv (mm_ad base E)) = (rr.map (mm_tv (mm_ad base E))).reverse ++ Value.ref (mm_ad base E k) :: (S.drop b).map (mm_tv (mm_ad base E)) := by
      conv => lhs; rw [hS2]
      rw [List.map_append, List.map_reverse]
      rfl
    have hrm := lv_room (m := m) (pc := pc) (ls := ls) (rest := S.map (mm_tv (mm_ad base E))) (st := (S.drop b).map (mm_tv (mm_ad base E))) (by rw [mm_tv_sum]; exact hc.2.2)
    have hpar : (parseMethodDescriptor t.1.2.1.desc).map (fun d => d.parameters.length) = some (b - 1) := by
      cases hp : parseMethodDescriptor t.1.2.1.desc with
      | none => rw [hp] at c4; cases c4
      | some sig => rw [hp] at c4; simp at c4; simp; omega
    have hdm : t.1.2.1.cls ≠ "java/lang/invoke/MethodHandle" ∧ t.1.2.1.cls ≠ "java/lang/invoke/VarHandle" ∧ (parseMethodDescriptor t.1.2.1.desc).map (fun d => d.parameters.length) = some (b - 1) := ⟨k7, k8, hpar⟩
    rw [hrk] at hko
    have hrecv := va_recv C.2.1 hP (mm_class ho12).1 (mm_wl_at hko.1)
    unfold mm_wm at hw
    split at hw
    · rw [hy] at hw
      exact mm_callk (va_runVN (C := mm_nm t.1.1) (b := mm_ad base E k) (As := rr.map (mm_tv (mm_ad base E))) (rest := (S.drop b).map (mm_tv (mm_ad base E))) S0 hM ⟨va_cnB (b - 1) C.1 hG rfl rfl rfl (va_Nw.of rfl (C.1 _ (mm_in2 hw rfl))) hini hdm hroom, hins, hsel⟩ ⟨hFB, hrecv, fun U hU hW => ⟨rfl, hpre U hU hW⟩⟩ rfl hlenA hls hstk hrm hd hR) hS kk'
    · rw [hy] at hw
      exact mm_callk (va_runV (C := mm_nm t.1.1) (b := mm_ad base E k) (As := rr.map (mm_tv (mm_ad base E))) (rest := (S.drop b).map (mm_tv (mm_ad base E))) S0 hM ⟨callB_of (b - 1) C.1 hG rfl rfl rfl hini (C.1 _ (mm_in2 hw rfl)) hdm hroom, hins, hsel⟩ ⟨hFB, hrecv, fun U hU hW => ⟨rfl, hpre U hU hW⟩⟩ rfl hlenA hls hstk hrm hd hR) hS kk'
  | _ => simp [mm_kd] at hkd
end STEP
end
section
set_option maxHeartbeats 4000000 in
theorem mm_heap_sh {X : mm_X} {q : Instr} {a b : Nat} {S : List Value} {w : mm_W} {z : List Value × mm_W} (h : mm_heap X q a b S w = some z) : z.2.1 = w.1 ∨ ∃ sh, z.2.1 = w.1 ++ [sh] ∧ w.1.length < 1000 ∧ ∀ cn, sh = Sum.inr (Sum.inl cn) → ∃ i, q = .anewarray i ∧ cn.1 = a := by
  cases q with
  | getfield i => simp only [mm_heap] at h; (repeat' split at h) <;> first | (cases h; done) | (cases h; exact Or.inl rfl)
  | putfield i => simp only [mm_heap] at h; (repeat' split at h) <;> first | (cases h; done) | (cases h; exact Or.inl rfl)
  | iaload => simp only [mm_heap] at h; (repeat' split at h) <;> first | (cases h; done) | (cases h; exact Or.inl rfl)
  | iastore => simp only [mm_heap] at h; (repeat' split at h) <;> first | (cases h; done) | (cases h; exact Or.inl rfl)
  | arraylength => simp only [mm_heap] at h; (repeat' split at h) <;> first | (cases h; done) | (cases h; exact Or.inl rfl)
  | aaload => simp only [mm_heap] at h; (repeat' split at h) <;> first | (cases h; done) | (cases h; exact Or.inl rfl)
  | aastore => simp only [mm_heap] at h; (repeat' split at h) <;> first | (cases h; done) | (cases h; exact Or.inl rfl)
  | newarray t => cases t <;> first | (simp [mm_heap] at h; done) | skip
                  simp only [mm_heap] at h
                  split at h <;> first | cases h; done | skip
                  split at h <;> first | cases h; done | skip
                  rename_i hc
                  cases h
                  exact Or.inr ⟨_, rfl, hc.2.2, fun cn e => by cases e⟩
  | anewarray i => simp only [mm_heap] at h
                   split at h <;> first | cases h; done | skip
                   split at h <;> first | cases h; done | skip
                   rename_i hc
                   cases h
                   exact Or.inr ⟨_, rfl, hc.2.2, fun cn e => by cases e; exact ⟨i, rfl, rfl⟩⟩
  | new i => simp only [mm_heap] at h
             split at h <;> first | cases h; done | skip
             rename_i hc
             cases h
             exact Or.inr ⟨_, rfl, hc, fun cn e => by cases e⟩
  | getstatic i => cases h; exact Or.inl rfl
  | invokestatic i => simp only [mm_heap] at h; (repeat' split at h) <;> first | (cases h; done) | (cases h; exact Or.inl rfl)
  | invokespecial i => simp only [mm_heap] at h; (repeat' split at h) <;> first | (cases h; done) | (cases h; exact Or.inl rfl)
  | _ => simp [mm_heap] at h
theorem mm_heap_wf {X : mm_X} {o : Nat} {ini : Bool} {q : Instr} {a b : Nat} {S : List Value} {w : mm_W} {z : List Value × mm_W} (hw : mm_wfw w) (hlk : mm_lk o ini q a b) (h : mm_heap X q a b S w = some z) : mm_wfw z.2 := by
  rcases mm_heap_sh h with e | ⟨sh, e, hl, hs⟩
  · unfold mm_wfw
    rw [e]
    exact hw
  · refine ⟨by rw [e]; simp; omega, fun k cn hk => ?_⟩
    rw [e] at hk
    by_cases hkl : k < w.1.length
    · rw [List.getElem?_append_left hkl] at hk
      exact hw.2 k cn hk
    · rw [List.getElem?_append_right (by omega)] at hk
      have hlt : k - w.1.length < 1 := by have := (List.getElem?_eq_some_iff.mp hk).1; simpa using this
      rw [show k - w.1.length = 0 by omega] at hk
      obtain ⟨i, rfl, rfl⟩ := hs cn (Option.some.inj hk)
      exact hlk.1
theorem mm_tab_ok {a : Nat} {M : mm_M} (h : mm_tab a = some M) : ∃ t ∈ mm_zl, t.2 = M := by
  unfold mm_tab at h
  obtain ⟨t, h1, h2⟩ := Option.map_eq_some_iff.mp h
  exact ⟨t, List.mem_of_getElem? h1, h2⟩
theorem mm_run_wf {X : mm_X} : ∀ (n d : Nat) (M : mm_M) (c : mm_C) (z : Option Value × mm_W), mm_run X mm_rk mm_sw mm_tab n d M c = some z → (∃ t ∈ mm_zl, t.2 = M) → mm_wfw c.2.2.2 → mm_wfw z.2
  | 0, d, M, c, z, h, _, _ => by simp [mm_run] at h
  | n + 1, d, M, c, z, h, hM, hw => by
    obtain ⟨i, hi⟩ := mm_run_fetch h
    obtain ⟨y, hy, hz⟩ := mm_run_inv hi h
    obtain ⟨t, ht, rfl⟩ := id hM
    obtain ⟨-, -, -, -, -, -, -, -, -, kok⟩ := mm_okH_of ht
    have hok := kok i (List.mem_of_getElem? hi)
    simp only [mm_okI, Bool.and_eq_true, decide_eq_true_eq] at hok
    rcases mm_step_inv hy with ⟨-, S', -, e⟩ | ⟨-, S', -, e⟩ | ⟨-, S', -, e⟩ | ⟨-, S', h1, e⟩ | ⟨-, S', -, e⟩ | ⟨-, S', -, e⟩ | ⟨-, S', -, e⟩ <;> subst e <;> rcases hz with ⟨c', e, hr⟩ | e | ⟨u, d', M', x, e, -, hT, -, hr1, hr2⟩ <;> first | (cases e; done) | skip
    · cases e; exact mm_run_wf n d _ _ z hr hM hw
    · cases e; exact mm_run_wf n d _ _ z hr hM hw
    · cases e; exact mm_run_wf n d _ _ z hr hM hw
    · cases e; exact mm_run_wf n d _ _ z hr hM (mm_heap_wf hw (mm_lk_of hok.1.2) h1)
    · cases e
      exact mm_run_wf n (d' + 1) _ _ z hr2 hM (mm_run_wf n d' M' _ x hr1 (mm_tab_ok hT) hw)
    · cases e; exact hw
    · cases e; exact mm_run_wf n d _ _ z hr hM hw
section SP
variable {l : Launch} {X : mm_X} {D : va_G} {cAI : ClassId} {cAR : Nat → ClassId} {E : Nat → Nat} {base n : Nat}
variable {p : Program} {e : Env} {R : Room} {s : State} {m : MethodId} {args : Array Value} {below : List Frame} {meth : Method} {c : Code} {H : Heap} {locs : List Loc} {ls : Array Slot} {Q : State → Prop} {cells slots : Nat}
set_option maxHeartbeats 4000000 in
theorem so_heap {o : Nat} {ini : Bool} {cc : ByteArray} {pc a b len : Nat} {q : Instr} {S : List Value} {w : mm_W} {z : List Value × mm_W} (hx : p.tables.exec = Jvm.exec) (hb : c.code = cc) (hml : c.maxLocals = ls.size) (hini : ini = true → meth.name = "<init>") (hown : s.vm.findClass (mm_nm o) = some m.cls) (C : mm_cx D cAI cAR E X base args s) (hlk : mm_lk o ini q a b) (hn : mm_ln q = len) (hd : decode cc pc = .ok (q, len)) (hwf : mm_wfw w) (hP : va_P D vwCl (mm_wl cAI cAR (mm_ad base E) w) H) (hS : va_S (fun q => base ≤ q) s.heap H locs)
    (hsz : s.heap.size + cells = base + w.1.length) (hR : cells + (z.2.1.length - w.1.length) ≤ R.cells ∧ slots + (mm_sz z.2.1 - mm_sz w.1) ≤ R.slots) (hfr : 1 ≤ R.frames) (hlo : 64 ≤ R.locals) (h : mm_heap X q a b S w = some z)
    (kk : ∀ (H1 : Heap) (locs1 : List Loc), va_P D vwCl (mm_wl cAI cAR (mm_ad base E) z.2) H1 → va_S (fun q => base ≤ q) s.heap H1 locs1 → W p l e R s m args below meth c H1 locs1 (cells + (z.2.1.length - w.1.length)) (slots + (mm_sz z.2.1 - mm_sz w.1)) Q (F0 m (pc + len) ls (z.1.map (mm_tv (mm_ad base E))))) : W p l e R s m args below meth c H locs cells slots Q (F0 m pc ls (S.map (mm_tv (mm_ad base E)))) := by
  subst hn
  have kr : z.2 = w → W p l e R s m args below meth c H locs cells slots Q (F0 m (pc + mm_ln q) ls (z.1.map (mm_tv (mm_ad base E)))) := fun hz => by
    have := kk H locs (by rw [hz]; exact hP) hS
    rw [hz] at this
    simp only [Nat.sub_self, Nat.add_zero] at this
    exact this
  have kw : z.2.1 = w.1 → ∀ (H1 : Heap) (locs1 : List Loc), va_P D vwCl (mm_wl cAI cAR (mm_ad base E) z.2) H1 → va_S (fun q => base ≤ q) s.heap H1 locs1 → W p l e R s m args below meth c H1 locs1 cells slots Q (F0 m (pc + mm_ln q) ls (z.1.map (mm_tv (mm_ad base E)))) := fun hz H1 locs1 g1 g2 => by
    have := kk H1 locs1 g1 g2
    rw [hz] at this
    simp only [Nat.sub_self, Nat.add_zero] at this
    exact this
  cases q with
  | getfield i => exact so_get hx hb hown C hlk hd hP h kr
  | putfield i => exact so_put hx hb hini hown C hlk hd hwf.1 hP hS h kw
  | iaload => exact so_iald hx hb C hd hP hS h kr
  | iastore => exact so_iast hx hb C hd hwf.1 hP hS h kw
  | arraylength => exact so_alen hx hb C hd hP hS h kr
  | aaload => exact so_aald hx hb C hd hwf.2 hP h kr
  | aastore => exact so_aast hx hb C hd hwf.1 hwf.2 hP hS h kw
  | newarray t => have ht : t = .int := hlk
                  subst ht
                  exact so_newa hx hb C hd hwf.1 hP hS hsz hR h kk
  | anewarray i => exact so_anew hx hb hown C hlk hd hwf.1 hP hS hsz hR h kk
  | new i => exact so_new hx hb hown C hlk hd hwf.1 hP hS hsz hR h kk
  | getstatic i => exact so_gets hx hb hown C hlk hd hS h kr
  | invokestatic i => exact so_stat hx hb hml hown C hlk hd hwf.1 hP hS ⟨by omega, by omega⟩ hfr hlo h kw
  | invokespecial i => exact so_spec hx hb hml hown C hlk hd hfr hlo h kr
  | _ => simp [mm_heap] at h
theorem mm_kd2 {q : Instr} {a : Nat} (h : mm_kd q a = 2) : ∃ off, q = .goto off ∨ (∃ k, q = .ifCond k off) ∨ ∃ k, q = .if_icmp k off := by
  cases q <;> first | exact ⟨_, Or.inl rfl⟩ | exact ⟨_, Or.inr (Or.inl ⟨_, rfl⟩)⟩ | exact ⟨_, Or.inr (Or.inr ⟨_, rfl⟩)⟩ | (simp [mm_kd] at h; done) | (simp only [mm_kd] at h; split at h <;> omega)
theorem mm_kd5 {q : Instr} {a : Nat} (h : mm_kd q a = 5) : mm_ln q = 1 := by
  cases q <;> first | rfl | (simp [mm_kd] at h; done) | (simp only [mm_kd] at h; split at h <;> omega)
theorem mm_kd4 {q : Instr} {a : Nat} (h : mm_kd q a = 4) : mm_ln q = 3 := by
  cases q <;> first | rfl | (simp [mm_kd] at h; done)
set_option maxHeartbeats 8000000 in
theorem mm_SP_succ (hSP : mm_SP l X D cAI cAR E base n) : mm_SP l X D cAI cAR E base (n + 1) := by
  intro d k t cf r w' hk hrun p e R s m args below meth c H locs ls Q len0 sz0 hx hb hml hown hini C hwf hP hS hl hL h0 hle hsle hRc hRs hfr hlo hret i hi
  obtain ⟨k1, k2, k3, k4, k5, k6, k7, k8, k9, kok⟩ := mm_okH_of (List.mem_of_getElem? hk)
  have hok := kok i (List.mem_of_getElem? hi)
  simp only [mm_okI, Bool.and_eq_true, decide_eq_true_eq] at hok
  obtain ⟨⟨hdec, hlkb⟩, hkk⟩ := hok
  obtain ⟨y, hy, hz⟩ := mm_run_inv hi hrun
  rcases mm_step_inv hy with ⟨hkd, S', hp, rfl⟩ | ⟨hkd, z, hp, rfl⟩ | ⟨hkd, z, hp, rfl⟩ | ⟨hkd, z, hp, rfl⟩ | ⟨hkd, z, hp, rfl⟩ | ⟨hkd, v, hp, rfl⟩ | ⟨hkd, z, hp, rfl⟩ <;> rcases hz with ⟨c', ez, hr⟩ | ez | ⟨u, d', M', x, ez, hdd, htab, hlen, hr1, hr2⟩ <;> first | (cases ez; done) | skip
  · cases ez
    rw [hkd] at hkk
    simp only [Bool.and_eq_true, decide_eq_true_eq] at hkk
    obtain ⟨i', hi'⟩ := mm_run_fetch hr
    have hpc := mm_pcAt_of hkk.2 hi'
    refine so_pure hx hb hown (mm_cst_of hlkb C.1) hkk.1 hdec hp ?_
    rw [show i.2.2.2.2.1 + i.2.2.2.2.2 = i'.2.2.2.2.1 by omega]
    exact hSP d k t _ r w' hk hr p e R s m args below meth c H locs ls Q len0 sz0 hx hb hml hown hini C hwf hP hS hl hL h0 hle hsle hRc hRs hfr hlo hret i' hi'
  · cases ez
    rw [hkd] at hkk
    simp only [Bool.and_eq_true, decide_eq_true_eq] at hkk
    obtain ⟨i', hi'⟩ := mm_run_fetch hr
    have hpc := mm_pcAt_of hkk.2 hi'
    refine so_loc hx hb hl hkk.1 hdec hp (fun ls' hl' => ?_)
    rw [show i.2.2.2.2.1 + i.2.2.2.2.2 = i'.2.2.2.2.1 by omega]
    have hL' : z.1.length = cf.2.1.length := by
      have h1 : ∀ {L L' : mm_L} {j : Nat} {v : Value}, mm_st L j v = some L' → L'.length = L.length := fun {L L' j v} h => by
        rcases lv_cat v with hc | hc
        · exact (mm_st_1 hc h).2.1
        · exact (mm_st_2 hc h).2.1
      generalize i.1 = q at hp
      cases q <;> first | (simp [mm_loc] at hp; done) | (simp only [mm_loc] at hp; split at hp <;> first | (cases hp; rfl) | (obtain ⟨L', g1, g2⟩ := Option.map_eq_some_iff.mp hp; subst g2; exact h1 g1) | (cases hp; done))
    exact hSP d k t _ r w' hk hr p e R s m args below meth c H locs ls' Q len0 sz0 hx hb hml hown hini C hwf hP hS hl' (hL'.trans hL) h0 hle hsle hRc hRs hfr hlo hret i' hi'
  · cases ez
    rw [hkd] at hkk
    simp only [Bool.and_eq_true, decide_eq_true_eq] at hkk
    obtain ⟨i', hi'⟩ := mm_run_fetch hr
    obtain ⟨off, ho⟩ := mm_kd2 hkd
    have go : W p l e R s m args below meth c H locs (cf.2.2.2.1.length - len0) (mm_sz cf.2.2.2.1 - sz0) Q (F0 m i'.2.2.2.2.1 ls (z.2.map (mm_tv (mm_ad base E)))) := hSP d k t _ r w' hk hr p e R s m args below meth c H locs ls Q len0 sz0 hx hb hml hown hini C hwf hP hS hl hL h0 hle hsle hRc hRs hfr hlo hret i' hi'
    have two : ∀ pa : Nat, mm_pcAt t.2.2.2 i.2.1 ((i.2.2.2.2.1 : Int) + off) = true → (i.2.2.2.2.1 : Int) + off = (pa : Int) → mm_pcAt t.2.2.2 i.2.2.2.1 ((i.2.2.2.2.1 : Int) + i.2.2.2.2.2) = true → ∀ pz : Nat, (z.1 = i.2.1 ∧ pz = pa ∨ z.1 = i.2.2.2.1 ∧ pz = i.2.2.2.2.1 + i.2.2.2.2.2) → W p l e R s m args below meth c H locs (cf.2.2.2.1.length - len0) (mm_sz cf.2.2.2.1 - sz0) Q (F0 m pz ls (z.2.map (mm_tv (mm_ad base E)))) := by
      intro pa g1 g2 g3 pz hpz
      have e : pz = i'.2.2.2.2.1 := by
        rcases hpz with ⟨h1, rfl⟩ | ⟨h1, rfl⟩
        · have := mm_pcAt_of g1 (by rw [← h1]; exact hi')
          omega
        · have := mm_pcAt_of g3 (by rw [← h1]; exact hi')
          omega
      rw [e]
      exact go
    have tgt : mm_pcAt t.2.2.2 i.2.1 ((i.2.2.2.2.1 : Int) + off) = true → ∃ pa : Nat, (i.2.2.2.2.1 : Int) + off = (pa : Int) := fun h => by
      unfold mm_pcAt at h
      split at h
      · rename_i j hj
        exact ⟨j.2.2.2.2.1, by simpa using (of_decide_eq_true h).symm⟩
      · cases h
    rcases ho with hq | ⟨kc, hq⟩ | ⟨kc, hq⟩
    · rw [hq] at hkk hp hdec
      dsimp only at hkk
      have hlen3 : i.2.2.2.2.2 = 3 := hkk.1.symm
      rw [hlen3] at hdec
      cases hp
      exact lv_goto hx hb hdec (mm_pcAt_of hkk.2 hi').symm go
    · rw [hq] at hkk
      simp only [Bool.and_eq_true] at hkk
      obtain ⟨pa, hpa⟩ := tgt hkk.2.1
      exact so_br hx hb (Or.inr (Or.inl ⟨kc, hq⟩)) (by rw [hq]; exact hkk.1) hdec hpa (pn := i.2.2.2.2.1 + i.2.2.2.2.2) rfl hp (two pa hkk.2.1 hpa hkk.2.2)
    · rw [hq] at hkk
      simp only [Bool.and_eq_true] at hkk
      obtain ⟨pa, hpa⟩ := tgt hkk.2.1
      exact so_br hx hb (Or.inr (Or.inr ⟨kc, hq⟩)) (by rw [hq]; exact hkk.1) hdec hpa (pn := i.2.2.2.2.1 + i.2.2.2.2.2) rfl hp (two pa hkk.2.1 hpa hkk.2.2)
  · cases ez
    rw [hkd] at hkk
    simp only [Bool.and_eq_true, decide_eq_true_eq] at hkk
    obtain ⟨i', hi'⟩ := mm_run_fetch hr
    have hpc := mm_pcAt_of hkk.2 hi'
    have hmono := mm_heap_mono hp
    obtain ⟨t1, e1⟩ := hmono
    obtain ⟨t2, e2⟩ := mm_run_mono _ _ _ _ _ hr
    have g1 := mm_app_le e1
    have g2 : z.2.1.length ≤ w'.1.length ∧ mm_sz z.2.1 ≤ mm_sz w'.1 := mm_app_le e2
    refine so_heap hx hb (hml.trans (hL.symm.trans hl.1.symm)) hini hown C (mm_lk_of hlkb) hkk.1 hdec hwf hP hS (by omega) ⟨by omega, by omega⟩ (by omega) (by omega) hp (fun H1 locs1 f1 f2 => ?_)
    rw [show i.2.2.2.2.1 + i.2.2.2.2.2 = i'.2.2.2.2.1 by omega, show cf.2.2.2.1.length - len0 + (z.2.1.length - cf.2.2.2.1.length) = z.2.1.length - len0 by omega, show mm_sz cf.2.2.2.1 - sz0 + (mm_sz z.2.1 - mm_sz cf.2.2.2.1) = mm_sz z.2.1 - sz0 by omega]
    exact hSP d k t _ r w' hk hr p e R s m args below meth c H1 locs1 ls Q len0 sz0 hx hb hml hown hini C (mm_heap_wf hwf (mm_lk_of hlkb) hp) f1 f2 hl hL h0 (by show len0 ≤ z.2.1.length; omega) (by show sz0 ≤ mm_sz z.2.1; omega) hRc hRs hfr hlo hret i' hi'
  · cases ez
    subst hdd
    rw [hkd] at hkk
    simp only [Bool.and_eq_true, decide_eq_true_eq] at hkk
    obtain ⟨⟨g1, g2⟩, g3⟩ := hkk
    have hl3 : i.2.2.2.2.2 = 3 := g1.symm.trans (mm_kd4 hkd)
    obtain ⟨i', hi'⟩ := mm_run_fetch hr2
    have hpc := mm_pcAt_of g2 hi'
    obtain ⟨t1, e1⟩ := mm_run_mono _ _ _ _ _ hr1
    obtain ⟨t2, e2⟩ := mm_run_mono _ _ _ _ _ hr2
    obtain ⟨r1, w1⟩ := x
    have f1 : cf.2.2.2.1.length ≤ w1.1.length ∧ mm_sz cf.2.2.2.1 ≤ mm_sz w1.1 := mm_app_le e1
    have f2 : w1.1.length ≤ w'.1.length ∧ mm_sz w1.1 ≤ mm_sz w'.1 := mm_app_le e2
    rw [hl3] at hdec
    refine mm_call_sound hSP hx hb hml hown C hwf hP hS (hl.1.trans hL) h0 hle rfl hlkb hkd g3 hdec hp htab hlen hr1 (by omega) (by omega) ⟨by omega, by omega⟩ (fun H1 locs1 j1 j2 => ?_)
    rw [show i.2.2.2.2.1 + 3 = i'.2.2.2.2.1 by omega, show cf.2.2.2.1.length - len0 + (w1.1.length - cf.2.2.2.1.length) = w1.1.length - len0 by omega, show mm_sz cf.2.2.2.1 - sz0 + (mm_sz w1.1 - mm_sz cf.2.2.2.1) = mm_sz w1.1 - sz0 by omega]
    exact hSP (d' + 1) k t _ r w' hk hr2 p e R s m args below meth c H1 locs1 ls Q len0 sz0 hx hb hml hown hini C (mm_run_wf _ _ _ _ _ hr1 (mm_tab_ok htab) hwf) j1 j2 hl hL h0 (by show len0 ≤ w1.1.length; omega) (by show sz0 ≤ mm_sz w1.1; omega) hRc hRs hfr hlo hret i' hi'
  · cases ez
    rw [hkd] at hkk
    simp only [decide_eq_true_eq] at hkk
    have hl1 : i.2.2.2.2.2 = 1 := hkk.symm.trans (mm_kd5 hkd)
    rw [hl1] at hdec
    exact hret _ H locs ls i.1 cf.2.2.1 hdec hp hP hS
  · cases ez
    rw [hkd] at hkk
    obtain ⟨i', hi'⟩ := mm_run_fetch hr
    have go : W p l e R s m args below meth c H locs (cf.2.2.2.1.length - len0) (mm_sz cf.2.2.2.1 - sz0) Q (F0 m i'.2.2.2.2.1 ls (z.2.map (mm_tv (mm_ad base E)))) := hSP d k t _ r w' hk hr p e R s m args below meth c H locs ls Q len0 sz0 hx hb hml hown hini C hwf hP hS hl hL h0 hle hsle hRc hRs hfr hlo hret i' hi'
    have hkk' : mm_swc t.2.2.2 i.2.2.2.2.1 i.2.1 i.2.2.1 i.1 = true := by
      unfold mm_swc
      exact hkk
    exact so_swi hx hb hdec hkk' hp hi' go
theorem mm_sound : ∀ n, mm_SP l X D cAI cAR E base n
  | 0 => fun d k t cf r w' _ h => by simp [mm_run] at h
  | n + 1 => mm_SP_succ (mm_sound n)
end SP
end
section
/-! reasoning about the small machine: with more steps, deeper, and more rows outside, it answers the same -/
section MONO
variable {X X' : mm_X} {rk : Nat → Nat} {sw : Nat → List (Int × Nat)} {tab : Nat → Option mm_M}
theorem mm_heap_X (hX : ∀ j nf, X j = some nf → X' j = some nf) {q : Instr} {a b : Nat} {S : List Value} {w : mm_W} {z : List Value × mm_W} (h : mm_heap X q a b S w = some z) : mm_heap X' q a b S w = some z := by
  have harr : ∀ {k : Nat} {nf : Nat × (Nat → Int32)}, mm_arr X w k = some nf → mm_arr X' w k = some nf := by
    intro k nf h
    unfold mm_arr at h ⊢
    split
    · rename_i hk; rw [if_pos hk] at h; exact h
    · rename_i hk; rw [if_neg hk] at h; exact hX _ _ h
  cases q with
  | iaload =>
    simp only [mm_heap] at h ⊢
    split at h <;> first | cases h; done | skip
    split at h <;> first | cases h; done | skip
    rename_i nf hnf
    rw [harr hnf]
    exact h
  | arraylength =>
    simp only [mm_heap] at h ⊢
    split at h <;> first | cases h; done | skip
    split at h <;> first | cases h; done | skip
    rename_i nf hnf
    rw [harr hnf]
    exact h
  | newarray t => cases t <;> exact h
  | _ => exact h
theorem mm_step_X (hX : ∀ j nf, X j = some nf → X' j = some nf) {rt : Nat} {q : Instr} {a b nx : Nat} {c : mm_C} {z : mm_R} (h : mm_step X rk sw rt q a b nx c = some z) : mm_step X' rk sw rt q a b nx c = some z := by
  unfold mm_step at h ⊢
  split at h
  all_goals first | exact h | skip
  obtain ⟨y, h1, h2⟩ := Option.map_eq_some_iff.mp h
  rw [mm_heap_X hX h1, ← h2]
  rfl
theorem mm_run_next {n d : Nat} {M : mm_M} {c c' : mm_C} {i : mm_I} (hi : M.2.2[c.1]? = some i) (hs : mm_step X rk sw M.1 i.1 i.2.1 i.2.2.1 i.2.2.2.1 c = some (.inl c')) : mm_run X rk sw tab (n + 1) d M c = mm_run X rk sw tab n d M c' := by
  conv => lhs; unfold mm_run
  rw [hi]
  dsimp only
  rw [hs]
theorem mm_run_ret {n d : Nat} {M : mm_M} {c : mm_C} {i : mm_I} {z : Option Value × mm_W} (hi : M.2.2[c.1]? = some i) (hs : mm_step X rk sw M.1 i.1 i.2.1 i.2.2.1 i.2.2.2.1 c = some (.inr (.inl z))) : mm_run X rk sw tab (n + 1) d M c = some z := by
  unfold mm_run
  rw [hi]
  dsimp only
  rw [hs]
theorem mm_run_call {n d : Nat} {M M' : mm_M} {c : mm_C} {i : mm_I} {u : Nat × List Value × mm_C} {x : Option Value × mm_W} (hi : M.2.2[c.1]? = some i) (hs : mm_step X rk sw M.1 i.1 i.2.1 i.2.2.1 i.2.2.2.1 c = some (.inr (.inr u))) (ht : tab u.1 = some M') (hl : (mm_la u.2.1).length ≤ M'.2.1) (h1 : mm_run X rk sw tab n d M' (0, mm_en u.2.1 M'.2.1, [], u.2.2.2.2.2) = some x) : mm_run X rk sw tab (n + 1) (d + 1) M c = mm_run X rk sw tab n (d + 1) M (u.2.2.1, u.2.2.2.1, x.1.toList ++ u.2.2.2.2.1, x.2) := by
  conv => lhs; unfold mm_run
  rw [hi]
  dsimp only
  rw [hs]
  dsimp only
  rw [ht]
  dsimp only
  rw [if_pos hl, h1]
theorem mm_mono (hX : ∀ j nf, X j = some nf → X' j = some nf) : ∀ (n d : Nat) (M : mm_M) (c : mm_C) (z : Option Value × mm_W) (n' d' : Nat), n ≤ n' → d ≤ d' → mm_run X rk sw tab n d M c = some z → mm_run X' rk sw tab n' d' M c = some z
  | 0, d, M, c, z, n', d', _, _, h => by simp [mm_run] at h
  | n + 1, d, M, c, z, n', d', hn, hd, h => by
    obtain ⟨k, rfl⟩ : ∃ k, n' = k + 1 := ⟨n' - 1, by omega⟩
    obtain ⟨i, hi⟩ := mm_run_fetch h
    obtain ⟨y, hy, hz⟩ := mm_run_inv hi h
    have hy' := mm_step_X hX hy
    rcases hz with ⟨c', rfl, hr⟩ | rfl | ⟨u, d0, M', x, rfl, rfl, ht, hl, h1, h2⟩
    · rw [mm_run_next hi hy']
      exact mm_mono hX n d M c' z k d' (by omega) hd hr
    · exact mm_run_ret hi hy'
    · obtain ⟨d1, rfl⟩ : ∃ d1, d' = d1 + 1 := ⟨d' - 1, by omega⟩
      rw [mm_run_call hi hy' ht hl (mm_mono hX n d0 M' _ x k d1 (by omega) (by omega) h1)]
      exact mm_mono hX n (d0 + 1) M _ z k (d1 + 1) (by omega) (by omega) h2
end MONO
/-! a run ends, and its end is so: over any world -/
def Ew (X : mm_X) (d : Nat) (M : mm_M) (i : Nat) (L : mm_L) (S : List Value) (w : mm_W) (P : Option Value → mm_W → Prop) : Prop := ∃ n r w', mm_run X mm_rk mm_sw mm_tab n d M (i, L, S, w) = some (r, w') ∧ P r w'
section EW
variable {X : mm_X} {d : Nat} {M : mm_M} {i : Nat} {L : mm_L} {S : List Value} {w : mm_W} {P P' : Option Value → mm_W → Prop}
variable {q : Instr} {a b nx pc ln : Nat}
theorem Ew.next {i' : Nat} {L' : mm_L} {S' : List Value} {w' : mm_W} (hf : M.2.2[i]? = some (q, a, b, nx, pc, ln)) (hs : mm_step X mm_rk mm_sw M.1 q a b nx (i, L, S, w) = some (.inl (i', L', S', w'))) (h : Ew X d M i' L' S' w' P) : Ew X d M i L S w P := by
  obtain ⟨n, r, w'', h1, h2⟩ := h
  exact ⟨n + 1, r, w'', by rw [mm_run_next hf hs]; exact h1, h2⟩
theorem Ew.ret {v : Option Value} (hf : M.2.2[i]? = some (q, a, b, nx, pc, ln)) (hk : mm_kd q a = 5) (hr : mm_ret M.1 q S = some v) (h : P v w) : Ew X d M i L S w P := by
  refine ⟨1, v, w, mm_run_ret hf ?_, h⟩
  show mm_step X mm_rk mm_sw M.1 q a b nx (i, L, S, w) = _
  unfold mm_step
  rw [hk]
  show (mm_ret M.1 q S).map _ = _
  rw [hr]
  rfl
theorem Ew.call {as rs : List Value} {M' : mm_M} (hf : M.2.2[i]? = some (q, a, b, nx, pc, ln)) (hk : mm_kd q a = 4) (hi : mm_inv mm_rk q a b S w = some (as, rs)) (ht : mm_tab a = some M') (hl : (mm_la as).length ≤ M'.2.1) (h : Ew X d M' 0 (mm_en as M'.2.1) [] w (fun r w' => Ew X (d + 1) M nx L (r.toList ++ rs) w' P)) : Ew X (d + 1) M i L S w P := by
  obtain ⟨n1, r1, w1, h1, n2, r2, w2, h2, h3⟩ := h
  have hs : mm_step X mm_rk mm_sw M.1 q a b nx (i, L, S, w) = some (.inr (.inr (a, as, (nx, L, rs, w)))) := by
    unfold mm_step
    rw [hk]
    show (mm_inv mm_rk q a b S w).map _ = _
    rw [hi]
    rfl
  refine ⟨max n1 n2 + 1, r2, w2, ?_, h3⟩
  rw [mm_run_call hf hs ht hl (mm_mono (fun _ _ h => h) n1 d M' _ _ _ d (Nat.le_max_left _ _) (Nat.le_refl _) h1)]
  exact mm_mono (fun _ _ h => h) n2 (d + 1) M _ _ _ (d + 1) (Nat.le_max_right _ _) (Nat.le_refl _) h2
theorem Ew.mono (h : Ew X d M i L S w P) (hP : ∀ r w', P r w' → P' r w') : Ew X d M i L S w P' := by
  obtain ⟨n, r, w', h1, h2⟩ := h
  exact ⟨n, r, w', h1, hP r w' h2⟩
theorem Ew.deeper {d' : Nat} (h : Ew X d M i L S w P) (hd : d ≤ d') : Ew X d' M i L S w P := by
  obtain ⟨n, r, w', h1, h2⟩ := h
  exact ⟨n, r, w', mm_mono (fun _ _ h => h) n d M _ _ n d' (Nat.le_refl _) hd h1, h2⟩
end EW
end
section
/-! the world that the two constructors leave: printed by wip/tools/emit_world.py -/
def mm_w0 : mm_W := ([], fun _ _ => none, fun _ _ => 0, fun _ _ => 0)
def mm_wn (w : mm_W) (a : Nat) : mm_W := (w.1 ++ [.inr (.inr a)], mm_z w.2.1 w.1.length (fun _ => none), mm_z w.2.2.1 w.1.length (fun _ => 0), mm_z w.2.2.2 w.1.length (fun _ => 0))
def mm_wB : mm_W := ((mm_run (fun _ => none) mm_rk mm_sw mm_tab 700 10 M_X10_init (0, mm_en [.ref 0] M_X10_init.2.1, [], mm_wn mm_w0 10)).map (fun z => z.2)).getD mm_w0
def mm_wD : mm_W := ((mm_run (fun _ => none) mm_rk mm_sw mm_tab 700 10 M_X11_init (0, mm_en [.ref 145] M_X11_init.2.1, [], mm_wn mm_wB 11)).map (fun z => z.2)).getD mm_w0
theorem mm_wB_none : (mm_run (fun _ => none) mm_rk mm_sw mm_tab 700 10 M_X10_init (0, mm_en [.ref 0] M_X10_init.2.1, [], mm_wn mm_w0 10)).map (fun z => z.1) = some none := by decide +kernel
theorem mm_wD_none : (mm_run (fun _ => none) mm_rk mm_sw mm_tab 700 10 M_X11_init (0, mm_en [.ref 145] M_X11_init.2.1, [], mm_wn mm_wB 11)).map (fun z => z.1) = some none := by decide +kernel
theorem mm_some_of {x : Option (Option Value × mm_W)} (h : x.map (fun z => z.1) = some none) : x = some (none, (x.map (fun z => z.2)).getD mm_w0) := by
  obtain ⟨z, rfl, h2⟩ := Option.map_eq_some_iff.mp h
  obtain ⟨r, w⟩ := z
  cases h2
  rfl
theorem mm_wB_run : mm_run (fun _ => none) mm_rk mm_sw mm_tab 700 10 M_X10_init (0, mm_en [.ref 0] M_X10_init.2.1, [], mm_wn mm_w0 10) = some (none, mm_wB) := mm_some_of mm_wB_none
theorem mm_wD_run : mm_run (fun _ => none) mm_rk mm_sw mm_tab 700 10 M_X11_init (0, mm_en [.ref 145] M_X11_init.2.1, [], mm_wn mm_wB 11) = some (none, mm_wD) := mm_some_of mm_wD_none
set_option maxRecDepth 20000 in
def mm_G0 : mm_G := [.inr (.inr 10), .inr (.inl (8, 2)), .inr (.inr 5), .inl 10, .inl 8, .inl 8, .inl 8, .inl 3, .inl 8, .inl 8, .inl 4, .inr (.inr 2), .inl 240, .inl 240, .inl 30, .inr (.inr 0), .inl 8, .inl 8, .inl 8, .inl 8, .inl 8, .inl 8, .inl 12, .inr (.inr 0), .inl 8, .inl 8, .inl 8, .inl 8, .inl 8, .inl 8, .inl 12, .inr (.inr 4), .inr (.inr 7), .inl 8, .inl 8, .inl 8, .inr (.inr 1), .inl 100, .inl 8, .inl 32, .inr (.inr 9), .inr (.inl (0, 11)), .inr (.inr 0), .inl 8, .inl 8, .inl 8, .inl 8, .inl 8, .inl 8, .inl 12, .inr (.inr 0), .inl 8, .inl 8, .inl 8, .inl 8, .inl 8, .inl 8, .inl 12, .inr (.inr 0), .inl 8, .inl 8, .inl 8, .inl 8, .inl 8, .inl 8, .inl 12, .inr (.inr 0), .inl 8, .inl 8, .inl 8, .inl 8, .inl 8, .inl 8, .inl 12, .inr (.inr 0), .inl 8, .inl 8, .inl 8, .inl 8, .inl 8, .inl 8, .inl 12, .inr (.inr 0), .inl 8, .inl 8, .inl 8, .inl 8, .inl 8, .inl 8, .inl 12, .inr (.inr 0), .inl 8, .inl 8, .inl 8, .inl 8, .inl 8, .inl 8, .inl 12, .inr (.inr 0), .inl 8, .inl 8, .inl 8, .inl 8, .inl 8, .inl 8, .inl 12, .inr (.inr 0), .inl 8, .inl 8, .inl 8, .inl 8, .inl 8, .inl 8, .inl 12, .inr (.inr 0), .inl 8, .inl 8, .inl 8, .inl 8, .inl 8, .inl 8, .inl 12, .inr (.inr 0), .inl 8, .inl 8, .inl 8, .inl 8, .inl 8, .inl 8, .inl 12, .inr (.inr 3), .inl 8, .inr (.inl (6, 4)), .inr (.inr 8), .inl 10, .inr (.inr 8), .inl 39, .inr (.inr 6), .inl 60, .inr (.inr 6), .inl 60, .inr (.inr 6), .inl 60, .inr (.inr 6), .inl 60, .inr (.inr 11), .inl 4, .inl 4, .inl 240, .inl 60, .inl 80, .inl 2, .inl 10, .inl 24, .inl 3, .inl 16, .inl 4, .inl 8, .inl 8, .inl 8, .inl 8, .inl 8, .inl 240, .inl 240, .inl 8, .inl 8, .inl 8, .inl 24, .inl 32]
theorem mm_wB_len : mm_wB.1.length = 145 := by decide +kernel
theorem mm_wD_G : mm_wD.1 = mm_G0 := by decide +kernel
def mm_R0 : Nat → Nat → Option Nat := mm_wD.2.1
def mm_I0 : Nat → Nat → Int32 := mm_wD.2.2.1
def mm_J0 : Nat → Nat → Int64 := mm_wD.2.2.2
theorem mm_eta4 (w : mm_W) {G : mm_G} (h : w.1 = G) : w = (G, w.2.1, w.2.2.1, w.2.2.2) := by subst h; rfl
theorem mm_wD_eq : mm_wD = (mm_G0, mm_R0, mm_I0, mm_J0) := mm_eta4 mm_wD mm_wD_G
set_option maxRecDepth 20000 in
def mm_Rp : List (Nat × Nat × Nat) := [(0, 0, 1), (0, 1, 2), (0, 2, 11), (0, 3, 23), (0, 4, 31), (0, 5, 32), (0, 6, 36), (0, 7, 40), (0, 8, 130), (0, 9, 132), (1, 0, 133), (1, 1, 135), (2, 1, 3), (2, 3, 4), (2, 4, 5), (2, 5, 6), (2, 6, 7), (2, 8, 8), (2, 9, 9), (2, 11, 10), (11, 0, 2), (11, 1, 15), (11, 2, 12), (11, 3, 13), (11, 4, 14), (15, 0, 2), (15, 1, 16), (15, 2, 17), (15, 3, 18), (15, 4, 19), (15, 5, 20), (15, 6, 21), (15, 7, 22), (23, 0, 2), (23, 1, 24), (23, 2, 25), (23, 3, 26), (23, 4, 27), (23, 5, 28), (23, 6, 29), (23, 7, 30), (31, 0, 2), (31, 1, 23), (32, 0, 2), (32, 1, 33), (32, 2, 34), (32, 3, 35), (36, 0, 2), (36, 1, 32), (36, 2, 23), (36, 3, 37), (36, 5, 38), (36, 6, 39), (40, 0, 41), (41, 0, 42), (41, 1, 50), (41, 2, 58), (41, 3, 66), (41, 4, 74), (41, 5, 82), (41, 6, 90), (41, 7, 98), (41, 8, 106), (41, 9, 114), (41, 10, 122), (42, 0, 2), (42, 1, 43), (42, 2, 44), (42, 3, 45), (42, 4, 46), (42, 5, 47), (42, 6, 48), (42, 7, 49), (50, 0, 2), (50, 1, 51), (50, 2, 52), (50, 3, 53), (50, 4, 54), (50, 5, 55), (50, 6, 56), (50, 7, 57), (58, 0, 2), (58, 1, 59), (58, 2, 60), (58, 3, 61), (58, 4, 62), (58, 5, 63), (58, 6, 64), (58, 7, 65), (66, 0, 2), (66, 1, 67), (66, 2, 68), (66, 3, 69), (66, 4, 70), (66, 5, 71), (66, 6, 72), (66, 7, 73), (74, 0, 2), (74, 1, 75), (74, 2, 76), (74, 3, 77), (74, 4, 78), (74, 5, 79), (74, 6, 80), (74, 7, 81), (82, 0, 2), (82, 1, 83), (82, 2, 84), (82, 3, 85), (82, 4, 86), (82, 5, 87), (82, 6, 88), (82, 7, 89), (90, 0, 2), (90, 1, 91), (90, 2, 92), (90, 3, 93), (90, 4, 94), (90, 5, 95), (90, 6, 96), (90, 7, 97), (98, 0, 2), (98, 1, 99), (98, 2, 100), (98, 3, 101), (98, 4, 102), (98, 5, 103), (98, 6, 104), (98, 7, 105), (106, 0, 2), (106, 1, 107), (106, 2, 108), (106, 3, 109), (106, 4, 110), (106, 5, 111), (106, 6, 112), (106, 7, 113), (114, 0, 2), (114, 1, 115), (114, 2, 116), (114, 3, 117), (114, 4, 118), (114, 5, 119), (114, 6, 120), (114, 7, 121), (122, 0, 2), (122, 1, 123), (122, 2, 124), (122, 3, 125), (122, 4, 126), (122, 5, 127), (122, 6, 128), (122, 7, 129), (130, 0, 2), (130, 1, 23), (130, 2, 131), (132, 0, 137), (132, 1, 139), (132, 2, 141), (132, 3, 143), (133, 0, 134), (135, 0, 136), (137, 2, 138), (139, 2, 140), (141, 2, 142), (143, 2, 144), (145, 0, 146), (145, 1, 147), (145, 2, 148), (145, 3, 149), (145, 5, 150), (145, 6, 151), (145, 8, 152), (145, 10, 153), (145, 11, 154), (145, 13, 155), (145, 15, 156), (145, 16, 157), (145, 17, 158), (145, 18, 159), (145, 19, 160), (145, 20, 161), (145, 21, 162), (145, 22, 163), (145, 23, 164), (145, 24, 165), (145, 25, 166), (145, 28, 167), (145, 29, 168)]
theorem mm_Rf0 : mm_Rp.all (fun t => decide (mm_R0 t.1 t.2.1 = some t.2.2)) = true := by decide +kernel
theorem mm_Rf {k j v : Nat} (h : (k, j, v) ∈ mm_Rp) : mm_R0 k j = some v := by
  have h2 := List.all_eq_true.mp mm_Rf0 _ h
  simpa using h2
theorem g_0 : mm_G0[0]? = some (.inr (.inr 10)) ∧ 0 < 1000 := ⟨rfl, by decide⟩
theorem r_0_0 : mm_R0 0 0 = some 1 := mm_Rf (by decide +kernel)
theorem r_0_1 : mm_R0 0 1 = some 2 := mm_Rf (by decide +kernel)
theorem r_0_2 : mm_R0 0 2 = some 11 := mm_Rf (by decide +kernel)
theorem r_0_3 : mm_R0 0 3 = some 23 := mm_Rf (by decide +kernel)
theorem r_0_4 : mm_R0 0 4 = some 31 := mm_Rf (by decide +kernel)
theorem r_0_5 : mm_R0 0 5 = some 32 := mm_Rf (by decide +kernel)
theorem r_0_6 : mm_R0 0 6 = some 36 := mm_Rf (by decide +kernel)
theorem r_0_7 : mm_R0 0 7 = some 40 := mm_Rf (by decide +kernel)
theorem r_0_8 : mm_R0 0 8 = some 130 := mm_Rf (by decide +kernel)
theorem r_0_9 : mm_R0 0 9 = some 132 := mm_Rf (by decide +kernel)
theorem g_1 : mm_G0[1]? = some (.inr (.inl (8, 2))) ∧ 1 < 1000 := ⟨rfl, by decide⟩
theorem g_2 : mm_G0[2]? = some (.inr (.inr 5)) ∧ 2 < 1000 := ⟨rfl, by decide⟩
theorem r_2_1 : mm_R0 2 1 = some 3 := mm_Rf (by decide +kernel)
theorem r_2_3 : mm_R0 2 3 = some 4 := mm_Rf (by decide +kernel)
theorem r_2_4 : mm_R0 2 4 = some 5 := mm_Rf (by decide +kernel)
theorem r_2_5 : mm_R0 2 5 = some 6 := mm_Rf (by decide +kernel)
theorem r_2_6 : mm_R0 2 6 = some 7 := mm_Rf (by decide +kernel)
theorem r_2_8 : mm_R0 2 8 = some 8 := mm_Rf (by decide +kernel)
theorem r_2_9 : mm_R0 2 9 = some 9 := mm_Rf (by decide +kernel)
theorem r_2_11 : mm_R0 2 11 = some 10 := mm_Rf (by decide +kernel)
theorem g_3 : mm_G0[3]? = some (.inl 10) ∧ 3 < 1000 := ⟨rfl, by decide⟩
theorem g_4 : mm_G0[4]? = some (.inl 8) ∧ 4 < 1000 := ⟨rfl, by decide⟩
theorem g_5 : mm_G0[5]? = some (.inl 8) ∧ 5 < 1000 := ⟨rfl, by decide⟩
theorem g_6 : mm_G0[6]? = some (.inl 8) ∧ 6 < 1000 := ⟨rfl, by decide⟩
theorem g_7 : mm_G0[7]? = some (.inl 3) ∧ 7 < 1000 := ⟨rfl, by decide⟩
theorem g_8 : mm_G0[8]? = some (.inl 8) ∧ 8 < 1000 := ⟨rfl, by decide⟩
theorem g_9 : mm_G0[9]? = some (.inl 8) ∧ 9 < 1000 := ⟨rfl, by decide⟩
theorem g_10 : mm_G0[10]? = some (.inl 4) ∧ 10 < 1000 := ⟨rfl, by decide⟩
theorem g_11 : mm_G0[11]? = some (.inr (.inr 2)) ∧ 11 < 1000 := ⟨rfl, by decide⟩
theorem r_11_0 : mm_R0 11 0 = some 2 := mm_Rf (by decide +kernel)
theorem r_11_1 : mm_R0 11 1 = some 15 := mm_Rf (by decide +kernel)
theorem r_11_2 : mm_R0 11 2 = some 12 := mm_Rf (by decide +kernel)
theorem r_11_3 : mm_R0 11 3 = some 13 := mm_Rf (by decide +kernel)
theorem r_11_4 : mm_R0 11 4 = some 14 := mm_Rf (by decide +kernel)
theorem g_12 : mm_G0[12]? = some (.inl 240) ∧ 12 < 1000 := ⟨rfl, by decide⟩
theorem g_13 : mm_G0[13]? = some (.inl 240) ∧ 13 < 1000 := ⟨rfl, by decide⟩
theorem g_14 : mm_G0[14]? = some (.inl 30) ∧ 14 < 1000 := ⟨rfl, by decide⟩
theorem g_15 : mm_G0[15]? = some (.inr (.inr 0)) ∧ 15 < 1000 := ⟨rfl, by decide⟩
theorem r_15_0 : mm_R0 15 0 = some 2 := mm_Rf (by decide +kernel)
theorem r_15_1 : mm_R0 15 1 = some 16 := mm_Rf (by decide +kernel)
theorem r_15_2 : mm_R0 15 2 = some 17 := mm_Rf (by decide +kernel)
theorem r_15_3 : mm_R0 15 3 = some 18 := mm_Rf (by decide +kernel)
theorem r_15_4 : mm_R0 15 4 = some 19 := mm_Rf (by decide +kernel)
theorem r_15_5 : mm_R0 15 5 = some 20 := mm_Rf (by decide +kernel)
theorem r_15_6 : mm_R0 15 6 = some 21 := mm_Rf (by decide +kernel)
theorem r_15_7 : mm_R0 15 7 = some 22 := mm_Rf (by decide +kernel)
theorem g_16 : mm_G0[16]? = some (.inl 8) ∧ 16 < 1000 := ⟨rfl, by decide⟩
theorem g_17 : mm_G0[17]? = some (.inl 8) ∧ 17 < 1000 := ⟨rfl, by decide⟩
theorem g_18 : mm_G0[18]? = some (.inl 8) ∧ 18 < 1000 := ⟨rfl, by decide⟩
theorem g_19 : mm_G0[19]? = some (.inl 8) ∧ 19 < 1000 := ⟨rfl, by decide⟩
theorem g_20 : mm_G0[20]? = some (.inl 8) ∧ 20 < 1000 := ⟨rfl, by decide⟩
theorem g_21 : mm_G0[21]? = some (.inl 8) ∧ 21 < 1000 := ⟨rfl, by decide⟩
theorem g_22 : mm_G0[22]? = some (.inl 12) ∧ 22 < 1000 := ⟨rfl, by decide⟩
theorem g_23 : mm_G0[23]? = some (.inr (.inr 0)) ∧ 23 < 1000 := ⟨rfl, by decide⟩
theorem r_23_0 : mm_R0 23 0 = some 2 := mm_Rf (by decide +kernel)
theorem r_23_1 : mm_R0 23 1 = some 24 := mm_Rf (by decide +kernel)
theorem r_23_2 : mm_R0 23 2 = some 25 := mm_Rf (by decide +kernel)
theorem r_23_3 : mm_R0 23 3 = some 26 := mm_Rf (by decide +kernel)
theorem r_23_4 : mm_R0 23 4 = some 27 := mm_Rf (by decide +kernel)
theorem r_23_5 : mm_R0 23 5 = some 28 := mm_Rf (by decide +kernel)
theorem r_23_6 : mm_R0 23 6 = some 29 := mm_Rf (by decide +kernel)
theorem r_23_7 : mm_R0 23 7 = some 30 := mm_Rf (by decide +kernel)
theorem g_24 : mm_G0[24]? = some (.inl 8) ∧ 24 < 1000 := ⟨rfl, by decide⟩
theorem g_25 : mm_G0[25]? = some (.inl 8) ∧ 25 < 1000 := ⟨rfl, by decide⟩
theorem g_26 : mm_G0[26]? = some (.inl 8) ∧ 26 < 1000 := ⟨rfl, by decide⟩
theorem g_27 : mm_G0[27]? = some (.inl 8) ∧ 27 < 1000 := ⟨rfl, by decide⟩
theorem g_28 : mm_G0[28]? = some (.inl 8) ∧ 28 < 1000 := ⟨rfl, by decide⟩
theorem g_29 : mm_G0[29]? = some (.inl 8) ∧ 29 < 1000 := ⟨rfl, by decide⟩
theorem g_30 : mm_G0[30]? = some (.inl 12) ∧ 30 < 1000 := ⟨rfl, by decide⟩
theorem g_31 : mm_G0[31]? = some (.inr (.inr 4)) ∧ 31 < 1000 := ⟨rfl, by decide⟩
theorem r_31_0 : mm_R0 31 0 = some 2 := mm_Rf (by decide +kernel)
theorem r_31_1 : mm_R0 31 1 = some 23 := mm_Rf (by decide +kernel)
theorem g_32 : mm_G0[32]? = some (.inr (.inr 7)) ∧ 32 < 1000 := ⟨rfl, by decide⟩
theorem r_32_0 : mm_R0 32 0 = some 2 := mm_Rf (by decide +kernel)
theorem r_32_1 : mm_R0 32 1 = some 33 := mm_Rf (by decide +kernel)
theorem r_32_2 : mm_R0 32 2 = some 34 := mm_Rf (by decide +kernel)
theorem r_32_3 : mm_R0 32 3 = some 35 := mm_Rf (by decide +kernel)
theorem g_33 : mm_G0[33]? = some (.inl 8) ∧ 33 < 1000 := ⟨rfl, by decide⟩
theorem g_34 : mm_G0[34]? = some (.inl 8) ∧ 34 < 1000 := ⟨rfl, by decide⟩
theorem g_35 : mm_G0[35]? = some (.inl 8) ∧ 35 < 1000 := ⟨rfl, by decide⟩
theorem g_36 : mm_G0[36]? = some (.inr (.inr 1)) ∧ 36 < 1000 := ⟨rfl, by decide⟩
theorem r_36_0 : mm_R0 36 0 = some 2 := mm_Rf (by decide +kernel)
theorem r_36_1 : mm_R0 36 1 = some 32 := mm_Rf (by decide +kernel)
theorem r_36_2 : mm_R0 36 2 = some 23 := mm_Rf (by decide +kernel)
theorem r_36_3 : mm_R0 36 3 = some 37 := mm_Rf (by decide +kernel)
theorem r_36_5 : mm_R0 36 5 = some 38 := mm_Rf (by decide +kernel)
theorem r_36_6 : mm_R0 36 6 = some 39 := mm_Rf (by decide +kernel)
theorem g_37 : mm_G0[37]? = some (.inl 100) ∧ 37 < 1000 := ⟨rfl, by decide⟩
theorem g_38 : mm_G0[38]? = some (.inl 8) ∧ 38 < 1000 := ⟨rfl, by decide⟩
theorem g_39 : mm_G0[39]? = some (.inl 32) ∧ 39 < 1000 := ⟨rfl, by decide⟩
theorem g_40 : mm_G0[40]? = some (.inr (.inr 9)) ∧ 40 < 1000 := ⟨rfl, by decide⟩
theorem r_40_0 : mm_R0 40 0 = some 41 := mm_Rf (by decide +kernel)
theorem g_41 : mm_G0[41]? = some (.inr (.inl (0, 11))) ∧ 41 < 1000 := ⟨rfl, by decide⟩
theorem g_42 : mm_G0[42]? = some (.inr (.inr 0)) ∧ 42 < 1000 := ⟨rfl, by decide⟩
theorem r_42_0 : mm_R0 42 0 = some 2 := mm_Rf (by decide +kernel)
theorem r_42_1 : mm_R0 42 1 = some 43 := mm_Rf (by decide +kernel)
theorem r_42_2 : mm_R0 42 2 = some 44 := mm_Rf (by decide +kernel)
theorem r_42_3 : mm_R0 42 3 = some 45 := mm_Rf (by decide +kernel)
theorem r_42_4 : mm_R0 42 4 = some 46 := mm_Rf (by decide +kernel)
theorem r_42_5 : mm_R0 42 5 = some 47 := mm_Rf (by decide +kernel)
theorem r_42_6 : mm_R0 42 6 = some 48 := mm_Rf (by decide +kernel)
theorem r_42_7 : mm_R0 42 7 = some 49 := mm_Rf (by decide +kernel)
theorem g_43 : mm_G0[43]? = some (.inl 8) ∧ 43 < 1000 := ⟨rfl, by decide⟩
theorem g_44 : mm_G0[44]? = some (.inl 8) ∧ 44 < 1000 := ⟨rfl, by decide⟩
theorem g_45 : mm_G0[45]? = some (.inl 8) ∧ 45 < 1000 := ⟨rfl, by decide⟩
theorem g_46 : mm_G0[46]? = some (.inl 8) ∧ 46 < 1000 := ⟨rfl, by decide⟩
theorem g_47 : mm_G0[47]? = some (.inl 8) ∧ 47 < 1000 := ⟨rfl, by decide⟩
theorem g_48 : mm_G0[48]? = some (.inl 8) ∧ 48 < 1000 := ⟨rfl, by decide⟩
theorem g_49 : mm_G0[49]? = some (.inl 12) ∧ 49 < 1000 := ⟨rfl, by decide⟩
theorem g_50 : mm_G0[50]? = some (.inr (.inr 0)) ∧ 50 < 1000 := ⟨rfl, by decide⟩
theorem r_50_0 : mm_R0 50 0 = some 2 := mm_Rf (by decide +kernel)
theorem r_50_1 : mm_R0 50 1 = some 51 := mm_Rf (by decide +kernel)
theorem r_50_2 : mm_R0 50 2 = some 52 := mm_Rf (by decide +kernel)
theorem r_50_3 : mm_R0 50 3 = some 53 := mm_Rf (by decide +kernel)
theorem r_50_4 : mm_R0 50 4 = some 54 := mm_Rf (by decide +kernel)
theorem r_50_5 : mm_R0 50 5 = some 55 := mm_Rf (by decide +kernel)
theorem r_50_6 : mm_R0 50 6 = some 56 := mm_Rf (by decide +kernel)
theorem r_50_7 : mm_R0 50 7 = some 57 := mm_Rf (by decide +kernel)
theorem g_51 : mm_G0[51]? = some (.inl 8) ∧ 51 < 1000 := ⟨rfl, by decide⟩
theorem g_52 : mm_G0[52]? = some (.inl 8) ∧ 52 < 1000 := ⟨rfl, by decide⟩
theorem g_53 : mm_G0[53]? = some (.inl 8) ∧ 53 < 1000 := ⟨rfl, by decide⟩
theorem g_54 : mm_G0[54]? = some (.inl 8) ∧ 54 < 1000 := ⟨rfl, by decide⟩
theorem g_55 : mm_G0[55]? = some (.inl 8) ∧ 55 < 1000 := ⟨rfl, by decide⟩
theorem g_56 : mm_G0[56]? = some (.inl 8) ∧ 56 < 1000 := ⟨rfl, by decide⟩
theorem g_57 : mm_G0[57]? = some (.inl 12) ∧ 57 < 1000 := ⟨rfl, by decide⟩
theorem g_58 : mm_G0[58]? = some (.inr (.inr 0)) ∧ 58 < 1000 := ⟨rfl, by decide⟩
theorem r_58_0 : mm_R0 58 0 = some 2 := mm_Rf (by decide +kernel)
theorem r_58_1 : mm_R0 58 1 = some 59 := mm_Rf (by decide +kernel)
theorem r_58_2 : mm_R0 58 2 = some 60 := mm_Rf (by decide +kernel)
theorem r_58_3 : mm_R0 58 3 = some 61 := mm_Rf (by decide +kernel)
theorem r_58_4 : mm_R0 58 4 = some 62 := mm_Rf (by decide +kernel)
theorem r_58_5 : mm_R0 58 5 = some 63 := mm_Rf (by decide +kernel)
theorem r_58_6 : mm_R0 58 6 = some 64 := mm_Rf (by decide +kernel)
theorem r_58_7 : mm_R0 58 7 = some 65 := mm_Rf (by decide +kernel)
theorem g_59 : mm_G0[59]? = some (.inl 8) ∧ 59 < 1000 := ⟨rfl, by decide⟩
theorem g_60 : mm_G0[60]? = some (.inl 8) ∧ 60 < 1000 := ⟨rfl, by decide⟩
theorem g_61 : mm_G0[61]? = some (.inl 8) ∧ 61 < 1000 := ⟨rfl, by decide⟩
theorem g_62 : mm_G0[62]? = some (.inl 8) ∧ 62 < 1000 := ⟨rfl, by decide⟩
theorem g_63 : mm_G0[63]? = some (.inl 8) ∧ 63 < 1000 := ⟨rfl, by decide⟩
theorem g_64 : mm_G0[64]? = some (.inl 8) ∧ 64 < 1000 := ⟨rfl, by decide⟩
theorem g_65 : mm_G0[65]? = some (.inl 12) ∧ 65 < 1000 := ⟨rfl, by decide⟩
theorem g_66 : mm_G0[66]? = some (.inr (.inr 0)) ∧ 66 < 1000 := ⟨rfl, by decide⟩
theorem r_66_0 : mm_R0 66 0 = some 2 := mm_Rf (by decide +kernel)
theorem r_66_1 : mm_R0 66 1 = some 67 := mm_Rf (by decide +kernel)
theorem r_66_2 : mm_R0 66 2 = some 68 := mm_Rf (by decide +kernel)
theorem r_66_3 : mm_R0 66 3 = some 69 := mm_Rf (by decide +kernel)
theorem r_66_4 : mm_R0 66 4 = some 70 := mm_Rf (by decide +kernel)
theorem r_66_5 : mm_R0 66 5 = some 71 := mm_Rf (by decide +kernel)
theorem r_66_6 : mm_R0 66 6 = some 72 := mm_Rf (by decide +kernel)
theorem r_66_7 : mm_R0 66 7 = some 73 := mm_Rf (by decide +kernel)
theorem g_67 : mm_G0[67]? = some (.inl 8) ∧ 67 < 1000 := ⟨rfl, by decide⟩
theorem g_68 : mm_G0[68]? = some (.inl 8) ∧ 68 < 1000 := ⟨rfl, by decide⟩
theorem g_69 : mm_G0[69]? = some (.inl 8) ∧ 69 < 1000 := ⟨rfl, by decide⟩
theorem g_70 : mm_G0[70]? = some (.inl 8) ∧ 70 < 1000 := ⟨rfl, by decide⟩
theorem g_71 : mm_G0[71]? = some (.inl 8) ∧ 71 < 1000 := ⟨rfl, by decide⟩
theorem g_72 : mm_G0[72]? = some (.inl 8) ∧ 72 < 1000 := ⟨rfl, by decide⟩
theorem g_73 : mm_G0[73]? = some (.inl 12) ∧ 73 < 1000 := ⟨rfl, by decide⟩
theorem g_74 : mm_G0[74]? = some (.inr (.inr 0)) ∧ 74 < 1000 := ⟨rfl, by decide⟩
theorem r_74_0 : mm_R0 74 0 = some 2 := mm_Rf (by decide +kernel)
theorem r_74_1 : mm_R0 74 1 = some 75 := mm_Rf (by decide +kernel)
theorem r_74_2 : mm_R0 74 2 = some 76 := mm_Rf (by decide +kernel)
theorem r_74_3 : mm_R0 74 3 = some 77 := mm_Rf (by decide +kernel)
theorem r_74_4 : mm_R0 74 4 = some 78 := mm_Rf (by decide +kernel)
theorem r_74_5 : mm_R0 74 5 = some 79 := mm_Rf (by decide +kernel)
theorem r_74_6 : mm_R0 74 6 = some 80 := mm_Rf (by decide +kernel)
theorem r_74_7 : mm_R0 74 7 = some 81 := mm_Rf (by decide +kernel)
theorem g_75 : mm_G0[75]? = some (.inl 8) ∧ 75 < 1000 := ⟨rfl, by decide⟩
theorem g_76 : mm_G0[76]? = some (.inl 8) ∧ 76 < 1000 := ⟨rfl, by decide⟩
theorem g_77 : mm_G0[77]? = some (.inl 8) ∧ 77 < 1000 := ⟨rfl, by decide⟩
theorem g_78 : mm_G0[78]? = some (.inl 8) ∧ 78 < 1000 := ⟨rfl, by decide⟩
theorem g_79 : mm_G0[79]? = some (.inl 8) ∧ 79 < 1000 := ⟨rfl, by decide⟩
theorem g_80 : mm_G0[80]? = some (.inl 8) ∧ 80 < 1000 := ⟨rfl, by decide⟩
theorem g_81 : mm_G0[81]? = some (.inl 12) ∧ 81 < 1000 := ⟨rfl, by decide⟩
theorem g_82 : mm_G0[82]? = some (.inr (.inr 0)) ∧ 82 < 1000 := ⟨rfl, by decide⟩
theorem r_82_0 : mm_R0 82 0 = some 2 := mm_Rf (by decide +kernel)
theorem r_82_1 : mm_R0 82 1 = some 83 := mm_Rf (by decide +kernel)
theorem r_82_2 : mm_R0 82 2 = some 84 := mm_Rf (by decide +kernel)
theorem r_82_3 : mm_R0 82 3 = some 85 := mm_Rf (by decide +kernel)
theorem r_82_4 : mm_R0 82 4 = some 86 := mm_Rf (by decide +kernel)
theorem r_82_5 : mm_R0 82 5 = some 87 := mm_Rf (by decide +kernel)
theorem r_82_6 : mm_R0 82 6 = some 88 := mm_Rf (by decide +kernel)
theorem r_82_7 : mm_R0 82 7 = some 89 := mm_Rf (by decide +kernel)
theorem g_83 : mm_G0[83]? = some (.inl 8) ∧ 83 < 1000 := ⟨rfl, by decide⟩
theorem g_84 : mm_G0[84]? = some (.inl 8) ∧ 84 < 1000 := ⟨rfl, by decide⟩
theorem g_85 : mm_G0[85]? = some (.inl 8) ∧ 85 < 1000 := ⟨rfl, by decide⟩
theorem g_86 : mm_G0[86]? = some (.inl 8) ∧ 86 < 1000 := ⟨rfl, by decide⟩
theorem g_87 : mm_G0[87]? = some (.inl 8) ∧ 87 < 1000 := ⟨rfl, by decide⟩
theorem g_88 : mm_G0[88]? = some (.inl 8) ∧ 88 < 1000 := ⟨rfl, by decide⟩
theorem g_89 : mm_G0[89]? = some (.inl 12) ∧ 89 < 1000 := ⟨rfl, by decide⟩
theorem g_90 : mm_G0[90]? = some (.inr (.inr 0)) ∧ 90 < 1000 := ⟨rfl, by decide⟩
theorem r_90_0 : mm_R0 90 0 = some 2 := mm_Rf (by decide +kernel)
theorem r_90_1 : mm_R0 90 1 = some 91 := mm_Rf (by decide +kernel)
theorem r_90_2 : mm_R0 90 2 = some 92 := mm_Rf (by decide +kernel)
theorem r_90_3 : mm_R0 90 3 = some 93 := mm_Rf (by decide +kernel)
theorem r_90_4 : mm_R0 90 4 = some 94 := mm_Rf (by decide +kernel)
theorem r_90_5 : mm_R0 90 5 = some 95 := mm_Rf (by decide +kernel)
theorem r_90_6 : mm_R0 90 6 = some 96 := mm_Rf (by decide +kernel)
theorem r_90_7 : mm_R0 90 7 = some 97 := mm_Rf (by decide +kernel)
theorem g_91 : mm_G0[91]? = some (.inl 8) ∧ 91 < 1000 := ⟨rfl, by decide⟩
theorem g_92 : mm_G0[92]? = some (.inl 8) ∧ 92 < 1000 := ⟨rfl, by decide⟩
theorem g_93 : mm_G0[93]? = some (.inl 8) ∧ 93 < 1000 := ⟨rfl, by decide⟩
theorem g_94 : mm_G0[94]? = some (.inl 8) ∧ 94 < 1000 := ⟨rfl, by decide⟩
theorem g_95 : mm_G0[95]? = some (.inl 8) ∧ 95 < 1000 := ⟨rfl, by decide⟩
theorem g_96 : mm_G0[96]? = some (.inl 8) ∧ 96 < 1000 := ⟨rfl, by decide⟩
theorem g_97 : mm_G0[97]? = some (.inl 12) ∧ 97 < 1000 := ⟨rfl, by decide⟩
theorem g_98 : mm_G0[98]? = some (.inr (.inr 0)) ∧ 98 < 1000 := ⟨rfl, by decide⟩
theorem r_98_0 : mm_R0 98 0 = some 2 := mm_Rf (by decide +kernel)
theorem r_98_1 : mm_R0 98 1 = some 99 := mm_Rf (by decide +kernel)
theorem r_98_2 : mm_R0 98 2 = some 100 := mm_Rf (by decide +kernel)
theorem r_98_3 : mm_R0 98 3 = some 101 := mm_Rf (by decide +kernel)
theorem r_98_4 : mm_R0 98 4 = some 102 := mm_Rf (by decide +kernel)
theorem r_98_5 : mm_R0 98 5 = some 103 := mm_Rf (by decide +kernel)
theorem r_98_6 : mm_R0 98 6 = some 104 := mm_Rf (by decide +kernel)
theorem r_98_7 : mm_R0 98 7 = some 105 := mm_Rf (by decide +kernel)
theorem g_99 : mm_G0[99]? = some (.inl 8) ∧ 99 < 1000 := ⟨rfl, by decide⟩
theorem g_100 : mm_G0[100]? = some (.inl 8) ∧ 100 < 1000 := ⟨rfl, by decide⟩
theorem g_101 : mm_G0[101]? = some (.inl 8) ∧ 101 < 1000 := ⟨rfl, by decide⟩
theorem g_102 : mm_G0[102]? = some (.inl 8) ∧ 102 < 1000 := ⟨rfl, by decide⟩
theorem g_103 : mm_G0[103]? = some (.inl 8) ∧ 103 < 1000 := ⟨rfl, by decide⟩
theorem g_104 : mm_G0[104]? = some (.inl 8) ∧ 104 < 1000 := ⟨rfl, by decide⟩
theorem g_105 : mm_G0[105]? = some (.inl 12) ∧ 105 < 1000 := ⟨rfl, by decide⟩
theorem g_106 : mm_G0[106]? = some (.inr (.inr 0)) ∧ 106 < 1000 := ⟨rfl, by decide⟩
theorem r_106_0 : mm_R0 106 0 = some 2 := mm_Rf (by decide +kernel)
theorem r_106_1 : mm_R0 106 1 = some 107 := mm_Rf (by decide +kernel)
theorem r_106_2 : mm_R0 106 2 = some 108 := mm_Rf (by decide +kernel)
theorem r_106_3 : mm_R0 106 3 = some 109 := mm_Rf (by decide +kernel)
theorem r_106_4 : mm_R0 106 4 = some 110 := mm_Rf (by decide +kernel)
theorem r_106_5 : mm_R0 106 5 = some 111 := mm_Rf (by decide +kernel)
theorem r_106_6 : mm_R0 106 6 = some 112 := mm_Rf (by decide +kernel)
theorem r_106_7 : mm_R0 106 7 = some 113 := mm_Rf (by decide +kernel)
theorem g_107 : mm_G0[107]? = some (.inl 8) ∧ 107 < 1000 := ⟨rfl, by decide⟩
theorem g_108 : mm_G0[108]? = some (.inl 8) ∧ 108 < 1000 := ⟨rfl, by decide⟩
theorem g_109 : mm_G0[109]? = some (.inl 8) ∧ 109 < 1000 := ⟨rfl, by decide⟩
theorem g_110 : mm_G0[110]? = some (.inl 8) ∧ 110 < 1000 := ⟨rfl, by decide⟩
theorem g_111 : mm_G0[111]? = some (.inl 8) ∧ 111 < 1000 := ⟨rfl, by decide⟩
theorem g_112 : mm_G0[112]? = some (.inl 8) ∧ 112 < 1000 := ⟨rfl, by decide⟩
theorem g_113 : mm_G0[113]? = some (.inl 12) ∧ 113 < 1000 := ⟨rfl, by decide⟩
theorem g_114 : mm_G0[114]? = some (.inr (.inr 0)) ∧ 114 < 1000 := ⟨rfl, by decide⟩
theorem r_114_0 : mm_R0 114 0 = some 2 := mm_Rf (by decide +kernel)
theorem r_114_1 : mm_R0 114 1 = some 115 := mm_Rf (by decide +kernel)
theorem r_114_2 : mm_R0 114 2 = some 116 := mm_Rf (by decide +kernel)
theorem r_114_3 : mm_R0 114 3 = some 117 := mm_Rf (by decide +kernel)
theorem r_114_4 : mm_R0 114 4 = some 118 := mm_Rf (by decide +kernel)
theorem r_114_5 : mm_R0 114 5 = some 119 := mm_Rf (by decide +kernel)
theorem r_114_6 : mm_R0 114 6 = some 120 := mm_Rf (by decide +kernel)
theorem r_114_7 : mm_R0 114 7 = some 121 := mm_Rf (by decide +kernel)
theorem g_115 : mm_G0[115]? = some (.inl 8) ∧ 115 < 1000 := ⟨rfl, by decide⟩
theorem g_116 : mm_G0[116]? = some (.inl 8) ∧ 116 < 1000 := ⟨rfl, by decide⟩
theorem g_117 : mm_G0[117]? = some (.inl 8) ∧ 117 < 1000 := ⟨rfl, by decide⟩
theorem g_118 : mm_G0[118]? = some (.inl 8) ∧ 118 < 1000 := ⟨rfl, by decide⟩
theorem g_119 : mm_G0[119]? = some (.inl 8) ∧ 119 < 1000 := ⟨rfl, by decide⟩
theorem g_120 : mm_G0[120]? = some (.inl 8) ∧ 120 < 1000 := ⟨rfl, by decide⟩
theorem g_121 : mm_G0[121]? = some (.inl 12) ∧ 121 < 1000 := ⟨rfl, by decide⟩
theorem g_122 : mm_G0[122]? = some (.inr (.inr 0)) ∧ 122 < 1000 := ⟨rfl, by decide⟩
theorem r_122_0 : mm_R0 122 0 = some 2 := mm_Rf (by decide +kernel)
theorem r_122_1 : mm_R0 122 1 = some 123 := mm_Rf (by decide +kernel)
theorem r_122_2 : mm_R0 122 2 = some 124 := mm_Rf (by decide +kernel)
theorem r_122_3 : mm_R0 122 3 = some 125 := mm_Rf (by decide +kernel)
theorem r_122_4 : mm_R0 122 4 = some 126 := mm_Rf (by decide +kernel)
theorem r_122_5 : mm_R0 122 5 = some 127 := mm_Rf (by decide +kernel)
theorem r_122_6 : mm_R0 122 6 = some 128 := mm_Rf (by decide +kernel)
theorem r_122_7 : mm_R0 122 7 = some 129 := mm_Rf (by decide +kernel)
theorem g_123 : mm_G0[123]? = some (.inl 8) ∧ 123 < 1000 := ⟨rfl, by decide⟩
theorem g_124 : mm_G0[124]? = some (.inl 8) ∧ 124 < 1000 := ⟨rfl, by decide⟩
theorem g_125 : mm_G0[125]? = some (.inl 8) ∧ 125 < 1000 := ⟨rfl, by decide⟩
theorem g_126 : mm_G0[126]? = some (.inl 8) ∧ 126 < 1000 := ⟨rfl, by decide⟩
theorem g_127 : mm_G0[127]? = some (.inl 8) ∧ 127 < 1000 := ⟨rfl, by decide⟩
theorem g_128 : mm_G0[128]? = some (.inl 8) ∧ 128 < 1000 := ⟨rfl, by decide⟩
theorem g_129 : mm_G0[129]? = some (.inl 12) ∧ 129 < 1000 := ⟨rfl, by decide⟩
theorem g_130 : mm_G0[130]? = some (.inr (.inr 3)) ∧ 130 < 1000 := ⟨rfl, by decide⟩
theorem r_130_0 : mm_R0 130 0 = some 2 := mm_Rf (by decide +kernel)
theorem r_130_1 : mm_R0 130 1 = some 23 := mm_Rf (by decide +kernel)
theorem r_130_2 : mm_R0 130 2 = some 131 := mm_Rf (by decide +kernel)
theorem g_131 : mm_G0[131]? = some (.inl 8) ∧ 131 < 1000 := ⟨rfl, by decide⟩
theorem g_132 : mm_G0[132]? = some (.inr (.inl (6, 4))) ∧ 132 < 1000 := ⟨rfl, by decide⟩
theorem g_133 : mm_G0[133]? = some (.inr (.inr 8)) ∧ 133 < 1000 := ⟨rfl, by decide⟩
theorem r_133_0 : mm_R0 133 0 = some 134 := mm_Rf (by decide +kernel)
theorem g_134 : mm_G0[134]? = some (.inl 10) ∧ 134 < 1000 := ⟨rfl, by decide⟩
theorem g_135 : mm_G0[135]? = some (.inr (.inr 8)) ∧ 135 < 1000 := ⟨rfl, by decide⟩
theorem r_135_0 : mm_R0 135 0 = some 136 := mm_Rf (by decide +kernel)
theorem g_136 : mm_G0[136]? = some (.inl 39) ∧ 136 < 1000 := ⟨rfl, by decide⟩
theorem g_137 : mm_G0[137]? = some (.inr (.inr 6)) ∧ 137 < 1000 := ⟨rfl, by decide⟩
theorem r_137_2 : mm_R0 137 2 = some 138 := mm_Rf (by decide +kernel)
theorem g_138 : mm_G0[138]? = some (.inl 60) ∧ 138 < 1000 := ⟨rfl, by decide⟩
theorem g_139 : mm_G0[139]? = some (.inr (.inr 6)) ∧ 139 < 1000 := ⟨rfl, by decide⟩
theorem r_139_2 : mm_R0 139 2 = some 140 := mm_Rf (by decide +kernel)
theorem g_140 : mm_G0[140]? = some (.inl 60) ∧ 140 < 1000 := ⟨rfl, by decide⟩
theorem g_141 : mm_G0[141]? = some (.inr (.inr 6)) ∧ 141 < 1000 := ⟨rfl, by decide⟩
theorem r_141_2 : mm_R0 141 2 = some 142 := mm_Rf (by decide +kernel)
theorem g_142 : mm_G0[142]? = some (.inl 60) ∧ 142 < 1000 := ⟨rfl, by decide⟩
theorem g_143 : mm_G0[143]? = some (.inr (.inr 6)) ∧ 143 < 1000 := ⟨rfl, by decide⟩
theorem r_143_2 : mm_R0 143 2 = some 144 := mm_Rf (by decide +kernel)
theorem g_144 : mm_G0[144]? = some (.inl 60) ∧ 144 < 1000 := ⟨rfl, by decide⟩
theorem g_145 : mm_G0[145]? = some (.inr (.inr 11)) ∧ 145 < 1000 := ⟨rfl, by decide⟩
theorem r_145_0 : mm_R0 145 0 = some 146 := mm_Rf (by decide +kernel)
theorem r_145_1 : mm_R0 145 1 = some 147 := mm_Rf (by decide +kernel)
theorem r_145_2 : mm_R0 145 2 = some 148 := mm_Rf (by decide +kernel)
theorem r_145_3 : mm_R0 145 3 = some 149 := mm_Rf (by decide +kernel)
theorem r_145_5 : mm_R0 145 5 = some 150 := mm_Rf (by decide +kernel)
theorem r_145_6 : mm_R0 145 6 = some 151 := mm_Rf (by decide +kernel)
theorem r_145_8 : mm_R0 145 8 = some 152 := mm_Rf (by decide +kernel)
theorem r_145_10 : mm_R0 145 10 = some 153 := mm_Rf (by decide +kernel)
theorem r_145_11 : mm_R0 145 11 = some 154 := mm_Rf (by decide +kernel)
theorem r_145_13 : mm_R0 145 13 = some 155 := mm_Rf (by decide +kernel)
theorem r_145_15 : mm_R0 145 15 = some 156 := mm_Rf (by decide +kernel)
theorem r_145_16 : mm_R0 145 16 = some 157 := mm_Rf (by decide +kernel)
theorem r_145_17 : mm_R0 145 17 = some 158 := mm_Rf (by decide +kernel)
theorem r_145_18 : mm_R0 145 18 = some 159 := mm_Rf (by decide +kernel)
theorem r_145_19 : mm_R0 145 19 = some 160 := mm_Rf (by decide +kernel)
theorem r_145_20 : mm_R0 145 20 = some 161 := mm_Rf (by decide +kernel)
theorem r_145_21 : mm_R0 145 21 = some 162 := mm_Rf (by decide +kernel)
theorem r_145_22 : mm_R0 145 22 = some 163 := mm_Rf (by decide +kernel)
theorem r_145_23 : mm_R0 145 23 = some 164 := mm_Rf (by decide +kernel)
theorem r_145_24 : mm_R0 145 24 = some 165 := mm_Rf (by decide +kernel)
theorem r_145_25 : mm_R0 145 25 = some 166 := mm_Rf (by decide +kernel)
theorem r_145_28 : mm_R0 145 28 = some 167 := mm_Rf (by decide +kernel)
theorem r_145_29 : mm_R0 145 29 = some 168 := mm_Rf (by decide +kernel)
theorem g_146 : mm_G0[146]? = some (.inl 4) ∧ 146 < 1000 := ⟨rfl, by decide⟩
theorem g_147 : mm_G0[147]? = some (.inl 4) ∧ 147 < 1000 := ⟨rfl, by decide⟩
theorem g_148 : mm_G0[148]? = some (.inl 240) ∧ 148 < 1000 := ⟨rfl, by decide⟩
theorem g_149 : mm_G0[149]? = some (.inl 60) ∧ 149 < 1000 := ⟨rfl, by decide⟩
theorem g_150 : mm_G0[150]? = some (.inl 80) ∧ 150 < 1000 := ⟨rfl, by decide⟩
theorem g_151 : mm_G0[151]? = some (.inl 2) ∧ 151 < 1000 := ⟨rfl, by decide⟩
theorem g_152 : mm_G0[152]? = some (.inl 10) ∧ 152 < 1000 := ⟨rfl, by decide⟩
theorem g_153 : mm_G0[153]? = some (.inl 24) ∧ 153 < 1000 := ⟨rfl, by decide⟩
theorem g_154 : mm_G0[154]? = some (.inl 3) ∧ 154 < 1000 := ⟨rfl, by decide⟩
theorem g_155 : mm_G0[155]? = some (.inl 16) ∧ 155 < 1000 := ⟨rfl, by decide⟩
theorem g_156 : mm_G0[156]? = some (.inl 4) ∧ 156 < 1000 := ⟨rfl, by decide⟩
theorem g_157 : mm_G0[157]? = some (.inl 8) ∧ 157 < 1000 := ⟨rfl, by decide⟩
theorem g_158 : mm_G0[158]? = some (.inl 8) ∧ 158 < 1000 := ⟨rfl, by decide⟩
theorem g_159 : mm_G0[159]? = some (.inl 8) ∧ 159 < 1000 := ⟨rfl, by decide⟩
theorem g_160 : mm_G0[160]? = some (.inl 8) ∧ 160 < 1000 := ⟨rfl, by decide⟩
theorem g_161 : mm_G0[161]? = some (.inl 8) ∧ 161 < 1000 := ⟨rfl, by decide⟩
theorem g_162 : mm_G0[162]? = some (.inl 240) ∧ 162 < 1000 := ⟨rfl, by decide⟩
theorem g_163 : mm_G0[163]? = some (.inl 240) ∧ 163 < 1000 := ⟨rfl, by decide⟩
theorem g_164 : mm_G0[164]? = some (.inl 8) ∧ 164 < 1000 := ⟨rfl, by decide⟩
theorem g_165 : mm_G0[165]? = some (.inl 8) ∧ 165 < 1000 := ⟨rfl, by decide⟩
theorem g_166 : mm_G0[166]? = some (.inl 8) ∧ 166 < 1000 := ⟨rfl, by decide⟩
theorem g_167 : mm_G0[167]? = some (.inl 24) ∧ 167 < 1000 := ⟨rfl, by decide⟩
theorem g_168 : mm_G0[168]? = some (.inl 32) ∧ 168 < 1000 := ⟨rfl, by decide⟩
def mm_crs : List Nat := [15, 23, 42, 50, 58, 66, 74, 82, 90, 98, 106, 114, 122]
def Crs (c : Nat) : Prop := c ∈ mm_crs
theorem crs_g : ∀ c ∈ mm_crs, mm_G0[c]? = some (.inr (.inr 0)) ∧ c < 1000 := by decide +kernel
theorem crs_r0 : ∀ c ∈ mm_crs, mm_R0 c 0 = some 2 := fun c hc => mm_Rf ((show ∀ c ∈ mm_crs, (c, 0, 2) ∈ mm_Rp by decide +kernel) c hc)
theorem crs_r1 : ∀ c ∈ mm_crs, mm_R0 c 1 = some (c + 1) := fun c hc => mm_Rf ((show ∀ c ∈ mm_crs, (c, 1, c + 1) ∈ mm_Rp by decide +kernel) c hc)
theorem crs_r2 : ∀ c ∈ mm_crs, mm_R0 c 2 = some (c + 2) := fun c hc => mm_Rf ((show ∀ c ∈ mm_crs, (c, 2, c + 2) ∈ mm_Rp by decide +kernel) c hc)
theorem crs_r3 : ∀ c ∈ mm_crs, mm_R0 c 3 = some (c + 3) := fun c hc => mm_Rf ((show ∀ c ∈ mm_crs, (c, 3, c + 3) ∈ mm_Rp by decide +kernel) c hc)
theorem crs_r4 : ∀ c ∈ mm_crs, mm_R0 c 4 = some (c + 4) := fun c hc => mm_Rf ((show ∀ c ∈ mm_crs, (c, 4, c + 4) ∈ mm_Rp by decide +kernel) c hc)
theorem crs_r5 : ∀ c ∈ mm_crs, mm_R0 c 5 = some (c + 5) := fun c hc => mm_Rf ((show ∀ c ∈ mm_crs, (c, 5, c + 5) ∈ mm_Rp by decide +kernel) c hc)
theorem crs_r6 : ∀ c ∈ mm_crs, mm_R0 c 6 = some (c + 6) := fun c hc => mm_Rf ((show ∀ c ∈ mm_crs, (c, 6, c + 6) ∈ mm_Rp by decide +kernel) c hc)
theorem crs_r7 : ∀ c ∈ mm_crs, mm_R0 c 7 = some (c + 7) := fun c hc => mm_Rf ((show ∀ c ∈ mm_crs, (c, 7, c + 7) ∈ mm_Rp by decide +kernel) c hc)
theorem crs_a1 : ∀ c ∈ mm_crs, mm_G0[c + 1]? = some (.inl 8) ∧ c + 1 < 1000 := by decide +kernel
theorem crs_a2 : ∀ c ∈ mm_crs, mm_G0[c + 2]? = some (.inl 8) ∧ c + 2 < 1000 := by decide +kernel
theorem crs_a3 : ∀ c ∈ mm_crs, mm_G0[c + 3]? = some (.inl 8) ∧ c + 3 < 1000 := by decide +kernel
theorem crs_a4 : ∀ c ∈ mm_crs, mm_G0[c + 4]? = some (.inl 8) ∧ c + 4 < 1000 := by decide +kernel
theorem crs_a5 : ∀ c ∈ mm_crs, mm_G0[c + 5]? = some (.inl 8) ∧ c + 5 < 1000 := by decide +kernel
theorem crs_a6 : ∀ c ∈ mm_crs, mm_G0[c + 6]? = some (.inl 8) ∧ c + 6 < 1000 := by decide +kernel
theorem crs_a7 : ∀ c ∈ mm_crs, mm_G0[c + 7]? = some (.inl 12) ∧ c + 7 < 1000 := by decide +kernel
def mm_txs : List Nat := [133, 135]
def mm_shs : List Nat := [137, 139, 141, 143]
theorem txs_g : ∀ c ∈ mm_txs, mm_G0[c]? = some (.inr (.inr 8)) ∧ c < 1000 := by decide +kernel
theorem shs_g : ∀ c ∈ mm_shs, mm_G0[c]? = some (.inr (.inr 6)) ∧ c < 1000 := by decide +kernel
theorem txs_r0 : ∀ c ∈ mm_txs, mm_R0 c 0 = some (c + 1) := fun c hc => mm_Rf ((show ∀ c ∈ mm_txs, (c, 0, c + 1) ∈ mm_Rp by decide +kernel) c hc)
theorem shs_r2 : ∀ c ∈ mm_shs, mm_R0 c 2 = some (c + 1) := fun c hc => mm_Rf ((show ∀ c ∈ mm_shs, (c, 2, c + 1) ∈ mm_Rp by decide +kernel) c hc)
theorem r_1_0 : mm_R0 1 0 = some 133 := mm_Rf (by decide +kernel)
theorem r_1_1 : mm_R0 1 1 = some 135 := mm_Rf (by decide +kernel)
theorem r_41_0 : mm_R0 41 0 = some 42 := mm_Rf (by decide +kernel)
theorem r_41_1 : mm_R0 41 1 = some 50 := mm_Rf (by decide +kernel)
theorem r_41_2 : mm_R0 41 2 = some 58 := mm_Rf (by decide +kernel)
theorem r_41_3 : mm_R0 41 3 = some 66 := mm_Rf (by decide +kernel)
theorem r_41_4 : mm_R0 41 4 = some 74 := mm_Rf (by decide +kernel)
theorem r_41_5 : mm_R0 41 5 = some 82 := mm_Rf (by decide +kernel)
theorem r_41_6 : mm_R0 41 6 = some 90 := mm_Rf (by decide +kernel)
theorem r_41_7 : mm_R0 41 7 = some 98 := mm_Rf (by decide +kernel)
theorem r_41_8 : mm_R0 41 8 = some 106 := mm_Rf (by decide +kernel)
theorem r_41_9 : mm_R0 41 9 = some 114 := mm_Rf (by decide +kernel)
theorem r_41_10 : mm_R0 41 10 = some 122 := mm_Rf (by decide +kernel)
theorem r_132_0 : mm_R0 132 0 = some 137 := mm_Rf (by decide +kernel)
theorem r_132_1 : mm_R0 132 1 = some 139 := mm_Rf (by decide +kernel)
theorem r_132_2 : mm_R0 132 2 = some 141 := mm_Rf (by decide +kernel)
theorem r_132_3 : mm_R0 132 3 = some 143 := mm_Rf (by decide +kernel)
theorem txs_a1 : ∀ c ∈ mm_txs, mm_G0[c + 1]? = some (.inl (if c = 133 then 10 else 39)) ∧ c + 1 < 1000 := by decide +kernel
theorem shs_a1 : ∀ c ∈ mm_shs, mm_G0[c + 1]? = some (.inl 60) ∧ c + 1 < 1000 := by decide +kernel
end
section
/-! rules: in the world that the constructors left, instruction by instruction -/
abbrev mm_w (I : Nat → Nat → Int32) (J : Nat → Nat → Int64) : mm_W := (mm_G0, mm_R0, I, J)
abbrev tI : Type := Nat → Nat → Int32
abbrev tJ : Type := Nat → Nat → Int64
abbrev ix (j : Int32) (n : Nat) : Prop := ¬ (j < 0 ∨ n ≤ j.toNatClampNeg)
abbrev tn (j : Int32) : Nat := j.toNatClampNeg
def Er (X : mm_X) (d : Nat) (M : mm_M) (i : Nat) (L : mm_L) (S : List Value) (I : tI) (J : tJ) (P : Option Value → tI → tJ → Prop) : Prop := Ew X d M i L S (mm_w I J) (fun r w => ∃ I' J', w = mm_w I' J' ∧ P r I' J')
def EC (X : mm_X) (d k : Nat) (as : List Value) (I : tI) (J : tJ) (P : Option Value → tI → tJ → Prop) : Prop := ∃ M, mm_tab k = some M ∧ (mm_la as).length ≤ M.2.1 ∧ Er X d M 0 (mm_en as M.2.1) [] I J P
abbrev qI (P : Int32 → tI → tJ → Prop) : Option Value → tI → tJ → Prop := fun r I J => ∃ x, r = some (.int x) ∧ P x I J
abbrev qL (P : Int64 → tI → tJ → Prop) : Option Value → tI → tJ → Prop := fun r I J => ∃ x, r = some (.long x) ∧ P x I J
abbrev qV (P : tI → tJ → Prop) : Option Value → tI → tJ → Prop := fun r I J => r = none ∧ P I J
abbrev EI (X : mm_X) (d k : Nat) (as : List Value) (I : tI) (J : tJ) (P : Int32 → tI → tJ → Prop) : Prop := EC X d k as I J (qI P)
abbrev EL (X : mm_X) (d k : Nat) (as : List Value) (I : tI) (J : tJ) (P : Int64 → tI → tJ → Prop) : Prop := EC X d k as I J (qL P)
abbrev EV (X : mm_X) (d k : Nat) (as : List Value) (I : tI) (J : tJ) (P : tI → tJ → Prop) : Prop := EC X d k as I J (qV P)
section RULES
variable {X : mm_X} {d : Nat} {M : mm_M} {i : Nat} {L : mm_L} {S : List Value} {I : tI} {J : tJ} {P P' : Option Value → tI → tJ → Prop}
variable {q : Instr} {a b nx pc ln : Nat}
theorem Er.mono (h : Er X d M i L S I J P) (hP : ∀ r I J, P r I J → P' r I J) : Er X d M i L S I J P' := Ew.mono h (fun r w ⟨I', J', e, h⟩ => ⟨I', J', e, hP r I' J' h⟩)
theorem e_p {S' : List Value} (hf : M.2.2[i]? = some (q, a, b, nx, pc, ln)) (hk : mm_kd q a = 0) (hp : mm_pure q a S = some S') (h : Er X d M nx L S' I J P) : Er X d M i L S I J P :=
  Ew.next hf (by unfold mm_step; rw [hk]; show (mm_pure q a S).map _ = _; rw [hp]; rfl) h
theorem e_k {u v : Int32} (hf : M.2.2[i]? = some (q, a, b, nx, pc, ln)) (hk : mm_kd q a = 0) (hp : mm_pure q a S = some (.int u :: S)) (hv : u = v) (h : Er X d M nx L (.int v :: S) I J P) : Er X d M i L S I J P := e_p hf hk hp (by rw [hv]; exact h)
theorem e_kl {u v : Int64} (hf : M.2.2[i]? = some (q, a, b, nx, pc, ln)) (hk : mm_kd q a = 0) (hp : mm_pure q a S = some (.long u :: S)) (hv : u = v) (h : Er X d M nx L (.long v :: S) I J P) : Er X d M i L S I J P := e_p hf hk hp (by rw [hv]; exact h)
theorem e_dv {x y : Int32} {r : List Value} (hf : M.2.2[i]? = some (.idiv, a, b, nx, pc, ln)) (hy : ¬ y = 0) (h : Er X d M nx L (.int (x / y) :: r) I J P) : Er X d M i L (.int y :: .int x :: r) I J P := e_p hf rfl (show (if y = 0 then none else some (Value.int (x / y) :: r)) = _ from if_neg hy) h
theorem e_rm {x y : Int32} {r : List Value} (hf : M.2.2[i]? = some (.irem, a, b, nx, pc, ln)) (hy : ¬ y = 0) (h : Er X d M nx L (.int (x - x / y * y) :: r) I J P) : Er X d M i L (.int y :: .int x :: r) I J P := e_p hf rfl (show (if y = 0 then none else some (Value.int (x - x / y * y) :: r)) = _ from if_neg hy) h
theorem e_ldv {x y : Int64} {r : List Value} (hf : M.2.2[i]? = some (.ldiv, a, b, nx, pc, ln)) (hy : ¬ y = 0) (h : Er X d M nx L (.long (x / y) :: r) I J P) : Er X d M i L (.long y :: .long x :: r) I J P := e_p hf rfl (show (if y = 0 then none else some (Value.long (x / y) :: r)) = _ from if_neg hy) h
theorem e_lrm {x y : Int64} {r : List Value} (hf : M.2.2[i]? = some (.lrem, a, b, nx, pc, ln)) (hy : ¬ y = 0) (h : Er X d M nx L (.long (x - x / y * y) :: r) I J P) : Er X d M i L (.long y :: .long x :: r) I J P := e_p hf rfl (show (if y = 0 then none else some (Value.long (x - x / y * y) :: r)) = _ from if_neg hy) h
theorem e_l {L' : mm_L} {S' : List Value} (hf : M.2.2[i]? = some (q, a, b, nx, pc, ln)) (hk : mm_kd q a = 1) (hp : mm_loc q L S = some (L', S')) (h : Er X d M nx L' S' I J P) : Er X d M i L S I J P :=
  Ew.next hf (by unfold mm_step; rw [hk]; show (mm_loc q L S).map _ = _; rw [hp]; rfl) h
theorem e_g {o : Int} (hf : M.2.2[i]? = some (.goto o, a, b, nx, pc, ln)) (h : Er X d M a L S I J P) : Er X d M i L S I J P := Ew.next hf rfl h
theorem e_b {A : Prop} {dA : Decidable A} {r : List Value} (hf : M.2.2[i]? = some (q, a, b, nx, pc, ln)) (hk : mm_kd q a = 2) (hp : mm_br q a nx S = some (if A then a else nx, r)) (ht : A → Er X d M a L r I J P) (he : ¬ A → Er X d M nx L r I J P) : Er X d M i L S I J P := by
  have hs : mm_step X mm_rk mm_sw M.1 q a b nx (i, L, S, mm_w I J) = some (.inl (if A then a else nx, L, r, mm_w I J)) := by
    unfold mm_step; rw [hk]; show (mm_br q a nx S).map _ = _; rw [hp]; rfl
  refine Ew.next hf hs ?_
  by_cases hA : A
  · rw [if_pos hA]; exact ht hA
  · rw [if_neg hA]; exact he hA
theorem e_sw {x : Int32} {r : List Value} (hf : M.2.2[i]? = some (q, a, b, nx, pc, ln)) (hk : mm_kd q a = 6) (hp : mm_swi mm_sw q a b (.int x :: r) = some (mm_tg (mm_sw b) a x, r)) (h : Er X d M (mm_tg (mm_sw b) a x) L r I J P) : Er X d M i L (.int x :: r) I J P :=
  Ew.next hf (by unfold mm_step; rw [hk]; show (mm_swi mm_sw q a b (.int x :: r)).map _ = _; rw [hp]; rfl) h
theorem e_h {S' : List Value} {I' : tI} {J' : tJ} (hf : M.2.2[i]? = some (q, a, b, nx, pc, ln)) (hk : mm_kd q a = 3) (hp : mm_heap X q a b S (mm_w I J) = some (S', mm_w I' J')) (h : Er X d M nx L S' I' J' P) : Er X d M i L S I J P :=
  Ew.next hf (by unfold mm_step; rw [hk]; show (mm_heap X q a b S (mm_w I J)).map _ = _; rw [hp]; rfl) h
theorem e_gi {n k : Nat} {r : List Value} (hf : M.2.2[i]? = some (.getfield n, a, b, nx, pc, ln)) (hG : mm_G0[k]? = some (.inr (.inr a)) ∧ k < 1000) (hk : mm_fk a b ≤ 1) (h : Er X d M nx L (.int (I k b) :: r) I J P) : Er X d M i L (.ref k :: r) I J P :=
  e_h hf rfl (by simp only [mm_heap]; rw [if_pos hG, if_pos hk]) h
theorem e_gl {n k : Nat} {r : List Value} (hf : M.2.2[i]? = some (.getfield n, a, b, nx, pc, ln)) (hG : mm_G0[k]? = some (.inr (.inr a)) ∧ k < 1000) (hk : mm_fk a b = 2) (h : Er X d M nx L (.long (J k b) :: r) I J P) : Er X d M i L (.ref k :: r) I J P :=
  e_h hf rfl (by simp only [mm_heap]; rw [if_pos hG, if_neg (by omega), if_pos hk]) h
theorem e_gr {n k k' : Nat} {r : List Value} (hf : M.2.2[i]? = some (.getfield n, a, b, nx, pc, ln)) (hG : mm_G0[k]? = some (.inr (.inr a)) ∧ k < 1000) (hk : mm_fk a b = 3) (hR : mm_R0 k b = some k') (h : Er X d M nx L (.ref k' :: r) I J P) : Er X d M i L (.ref k :: r) I J P :=
  e_h hf rfl (by simp only [mm_heap]; rw [if_pos hG, if_neg (by omega), if_neg (by omega), if_pos hk, hR]; rfl) h
theorem e_pi {n k : Nat} {x : Int32} {r : List Value} (hf : M.2.2[i]? = some (.putfield n, a, b, nx, pc, ln)) (hG : mm_G0[k]? = some (.inr (.inr a)) ∧ k < 1000) (hk : mm_fk a b = 0) (h : Er X d M nx L r (mm_u I k b x) J P) : Er X d M i L (.int x :: .ref k :: r) I J P :=
  e_h hf rfl (by simp only [mm_heap]; rw [if_pos ⟨hG.1, hG.2, Or.inl hk⟩]) h
theorem e_pb {n k : Nat} {x : Int32} {r : List Value} (hf : M.2.2[i]? = some (.putfield n, a, b, nx, pc, ln)) (hG : mm_G0[k]? = some (.inr (.inr a)) ∧ k < 1000) (hk : mm_fk a b = 1) (hx : x = 0 ∨ x = 1) (h : Er X d M nx L r (mm_u I k b x) J P) : Er X d M i L (.int x :: .ref k :: r) I J P :=
  e_h hf rfl (by simp only [mm_heap]; rw [if_pos ⟨hG.1, hG.2, Or.inr ⟨hk, hx⟩⟩]) h
theorem e_pl {n k : Nat} {x : Int64} {r : List Value} (hf : M.2.2[i]? = some (.putfield n, a, b, nx, pc, ln)) (hG : mm_G0[k]? = some (.inr (.inr a)) ∧ k < 1000) (hk : mm_fk a b = 2) (h : Er X d M nx L r I (mm_u J k b x) P) : Er X d M i L (.long x :: .ref k :: r) I J P :=
  e_h hf rfl (by simp only [mm_heap]; rw [if_pos ⟨hG.1, hG.2, hk⟩]) h
theorem mm_arr_in0 {k n : Nat} (hG : mm_G0[k]? = some (.inl n) ∧ k < 1000) : mm_arr X (mm_w I J) k = some (n, I k) := by
  unfold mm_arr
  rw [if_pos hG.2, hG.1]
theorem mm_arr_ex {k : Nat} {nf : Nat × (Nat → Int32)} (hX : X k = some nf) : mm_arr X (mm_w I J) (1000 + k) = some nf := by
  unfold mm_arr
  rw [if_neg (by omega), show 1000 + k - 1000 = k by omega]
  exact hX
theorem e_ia {k n : Nat} {j : Int32} {r : List Value} (hf : M.2.2[i]? = some (.iaload, a, b, nx, pc, ln)) (hG : mm_G0[k]? = some (.inl n) ∧ k < 1000) (hj : ix j n) (h : Er X d M nx L (.int (I k (tn j)) :: r) I J P) : Er X d M i L (.int j :: .ref k :: r) I J P :=
  e_h hf rfl (by simp only [mm_heap]; rw [mm_arr_in0 hG]; dsimp only; rw [if_pos hj]) h
theorem e_ix {k n : Nat} {f : Nat → Int32} {j : Int32} {r : List Value} (hf : M.2.2[i]? = some (.iaload, a, b, nx, pc, ln)) (hX : X k = some (n, f)) (hj : ix j n) (h : Er X d M nx L (.int (f (tn j)) :: r) I J P) : Er X d M i L (.int j :: .ref (1000 + k) :: r) I J P :=
  e_h hf rfl (by simp only [mm_heap]; rw [mm_arr_ex hX]; dsimp only; rw [if_pos hj]) h
theorem e_al {k n : Nat} {r : List Value} (hf : M.2.2[i]? = some (.arraylength, a, b, nx, pc, ln)) (hG : mm_G0[k]? = some (.inl n) ∧ k < 1000) (h : Er X d M nx L (.int (Int32.ofNat n) :: r) I J P) : Er X d M i L (.ref k :: r) I J P :=
  e_h hf rfl (by simp only [mm_heap]; rw [mm_arr_in0 hG]) h
theorem e_ax {k n : Nat} {f : Nat → Int32} {r : List Value} (hf : M.2.2[i]? = some (.arraylength, a, b, nx, pc, ln)) (hX : X k = some (n, f)) (h : Er X d M nx L (.int (Int32.ofNat n) :: r) I J P) : Er X d M i L (.ref (1000 + k) :: r) I J P :=
  e_h hf rfl (by simp only [mm_heap]; rw [mm_arr_ex hX]) h
theorem e_as {k n : Nat} {j x : Int32} {r : List Value} (hf : M.2.2[i]? = some (.iastore, a, b, nx, pc, ln)) (hG : mm_G0[k]? = some (.inl n) ∧ k < 1000) (hj : ix j n) (h : Er X d M nx L r (mm_u I k (tn j) x) J P) : Er X d M i L (.int x :: .int j :: .ref k :: r) I J P :=
  e_h hf rfl (by
    have e : mm_arw (mm_w I J) k = some n := by unfold mm_arw; rw [hG.1]
    simp only [mm_heap]; rw [e]; dsimp only; rw [if_pos ⟨hj, hG.2⟩]) h
theorem e_aa {k c n k' : Nat} {j : Int32} {r : List Value} (hf : M.2.2[i]? = some (.aaload, a, b, nx, pc, ln)) (hG : mm_G0[k]? = some (.inr (.inl (c, n))) ∧ k < 1000) (hj : ix j n) (hR : mm_R0 k (tn j) = some k') (h : Er X d M nx L (.ref k' :: r) I J P) : Er X d M i L (.int j :: .ref k :: r) I J P :=
  e_h hf rfl (by simp only [mm_heap]; rw [hG.1]; dsimp only; rw [if_pos ⟨hj, hG.2⟩, hR]; rfl) h
theorem e_gs {n : Nat} (hf : M.2.2[i]? = some (.getstatic n, a, b, nx, pc, ln)) (h : Er X d M nx L (.ref a :: S) I J P) : Er X d M i L S I J P := e_h hf rfl rfl h
theorem e_mx {n : Nat} {x y : Int32} {r : List Value} (hf : M.2.2[i]? = some (.invokestatic n, 1001, b, nx, pc, ln)) (hs : (r.map fun v => v.category).sum ≤ 8) (h : Er X d M nx L (.int (if x < y then y else x) :: r) I J P) : Er X d M i L (.int y :: .int x :: r) I J P :=
  e_h hf rfl (by show (if _ then _ else _) = _; rw [if_pos hs]) h
theorem e_mn {n : Nat} {x y : Int32} {r : List Value} (hf : M.2.2[i]? = some (.invokestatic n, 1002, b, nx, pc, ln)) (hs : (r.map fun v => v.category).sum ≤ 8) (h : Er X d M nx L (.int (if y < x then y else x) :: r) I J P) : Er X d M i L (.int y :: .int x :: r) I J P :=
  e_h hf rfl (by show (if _ then _ else _) = _; rw [if_pos hs]) h
theorem e_cp {n k k' n0 n1 : Nat} {m dp sp : Int32} {r : List Value} (hf : M.2.2[i]? = some (.invokestatic n, 1003, b, nx, pc, ln)) (hs : (r.map fun v => v.category).sum ≤ 8) (h0 : mm_G0[k]? = some (.inl n0) ∧ k < 1000) (h1 : mm_G0[k']? = some (.inl n1) ∧ k' < 1000) (hc : ¬ sp < 0 ∧ ¬ dp < 0 ∧ ¬ m < 0 ∧ tn sp + tn m ≤ n0 ∧ tn dp + tn m ≤ n1) (h : Er X d M nx L r (mm_z I k' (va_cpy (I k) (I k') (tn sp) (tn dp) (tn m))) J P) : Er X d M i L (.int m :: .int dp :: .ref k' :: .int sp :: .ref k :: r) I J P :=
  e_h hf rfl (by
    have e0 : mm_arw (mm_w I J) k = some n0 := by unfold mm_arw; rw [h0.1]
    have e1 : mm_arw (mm_w I J) k' = some n1 := by unfold mm_arw; rw [h1.1]
    show (match mm_arw (mm_w I J) k, mm_arw (mm_w I J) k' with | some n0, some n1 => _ | _, _ => _) = _
    rw [e0, e1]
    dsimp only
    rw [if_pos ⟨hc, h0.2, h1.2, hs⟩]) h
/-! calls -/
theorem e_cs {n : Nat} {as rs : List Value} {P2 : Option Value → tI → tJ → Prop} (hf : M.2.2[i]? = some (.invokestatic n, a, b, nx, pc, ln)) (hS : S = as.reverse ++ rs) (hc : (decide (a < 1000) && decide (as.length = b) && decide ((rs.map fun v => v.category).sum ≤ 8)) = true) (h : EC X d a as I J P2) (hk : ∀ r I J, P2 r I J → Er X (d + 1) M nx L (r.toList ++ rs) I J P) : Er X (d + 1) M i L S I J P := by
  simp only [Bool.and_eq_true, decide_eq_true_eq] at hc
  obtain ⟨⟨c1, c2⟩, c3⟩ := hc
  obtain ⟨M', ht, hl, h⟩ := h
  have e1 : S.take b = as.reverse := by rw [hS, ← c2]; simp
  have e2 : S.drop b = rs := by rw [hS, ← c2]; simp
  refine Ew.call hf (by simp [mm_kd, c1]) (as := as) (rs := rs) ?_ ht hl (Ew.mono h (fun r w ⟨I', J', e, h⟩ => by subst e; exact hk r I' J' h))
  simp only [mm_inv]
  rw [if_pos ⟨c1, by rw [hS]; simp; omega, by rw [e2]; exact c3⟩, e1, e2, List.reverse_reverse]
theorem e_cv {n k : Nat} {as rs : List Value} {P2 : Option Value → tI → tJ → Prop} (hf : M.2.2[i]? = some (.invokevirtual n, a, b, nx, pc, ln)) (hS : S = (.ref k :: as).reverse ++ rs) (hG : mm_G0[k]? = some (.inr (.inr (mm_rk a))) ∧ k < 1000) (hc : (decide (a < 1000) && decide (as.length + 1 = b) && decide ((rs.map fun v => v.category).sum ≤ 8)) = true) (h : EC X d a (.ref k :: as) I J P2) (hk : ∀ r I J, P2 r I J → Er X (d + 1) M nx L (r.toList ++ rs) I J P) : Er X (d + 1) M i L S I J P := by
  simp only [Bool.and_eq_true, decide_eq_true_eq] at hc
  obtain ⟨⟨c1, c2⟩, c3⟩ := hc
  obtain ⟨M', ht, hl, h⟩ := h
  have e1 : S.take b = (Value.ref k :: as).reverse := by rw [hS]; exact List.take_left' (by simp; omega)
  have e2 : S.drop b = rs := by rw [hS]; exact List.drop_left' (by simp; omega)
  refine Ew.call hf rfl (as := .ref k :: as) (rs := rs) ?_ ht hl (Ew.mono h (fun r w ⟨I', J', e, h⟩ => by subst e; exact hk r I' J' h))
  simp only [mm_inv]
  rw [if_pos ⟨c1, by rw [hS]; simp; omega, by rw [e2]; exact c3⟩, e1, e2, List.reverse_reverse]
  dsimp only
  rw [if_pos hG]
/-! returns -/
theorem e_rv (hf : M.2.2[i]? = some (.return_, a, b, nx, pc, ln)) (hr : M.1 = 0) (h : P none I J) : Er X d M i L [] I J P := Ew.ret hf rfl (by simp [mm_ret, hr]) ⟨I, J, rfl, h⟩
theorem e_ri {x : Int32} (hf : M.2.2[i]? = some (.ireturn, a, b, nx, pc, ln)) (hr : M.1 = 1) (h : P (some (.int x)) I J) : Er X d M i L [.int x] I J P := Ew.ret hf rfl (by simp [mm_ret, hr]) ⟨I, J, rfl, h⟩
theorem e_rz {x : Int32} (hf : M.2.2[i]? = some (.ireturn, a, b, nx, pc, ln)) (hr : M.1 = 2) (hx : x = 0 ∨ x = 1) (h : P (some (.int x)) I J) : Er X d M i L [.int x] I J P := Ew.ret hf rfl (by simp [mm_ret, hr, hx]) ⟨I, J, rfl, h⟩
theorem e_rl {x : Int64} (hf : M.2.2[i]? = some (.lreturn, a, b, nx, pc, ln)) (hr : M.1 = 3) (h : P (some (.long x)) I J) : Er X d M i L [.long x] I J P := Ew.ret hf rfl (by simp [mm_ret, hr]) ⟨I, J, rfl, h⟩
end RULES
end
