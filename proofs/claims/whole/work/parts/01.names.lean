-- ===== PART A: goes FIRST, ahead of the names: the tables' words, and 'selects' of the private methods out of them =====
/-- a private method of a class that the tables say can be made, by its rows of tables_1 -/
def lw_okq (q : MethodName × Nat) : Prop := (q.1.cls ≠ "java/lang/invoke/MethodHandle" ∧ q.1.cls ≠ "java/lang/invoke/VarHandle") ∧ Cond.instantiable q.1.cls q.2 ∈ tables_1 ∧ Cond.privateMethod q.1 ∈ tables_1 ∧ Cond.instanceMethod q.1 ∈ tables_1
theorem lw_p0 : lw_okq (⟨"RoomsOfAir", "sheetOrNull", "(I)LRoomsOfAir$Sheet;"⟩, 12) := ⟨⟨by decide +kernel, by decide +kernel⟩, List.mem_of_getElem? (i := 19) (by decide +kernel), List.mem_of_getElem? (i := 423) (by decide +kernel), List.mem_of_getElem? (i := 424) (by decide +kernel)⟩
theorem lw_p1 : lw_okq (⟨"RoomsOfAir", "found", "(I)I"⟩, 12) := ⟨⟨by decide +kernel, by decide +kernel⟩, List.mem_of_getElem? (i := 19) (by decide +kernel), List.mem_of_getElem? (i := 428) (by decide +kernel), List.mem_of_getElem? (i := 429) (by decide +kernel)⟩
theorem lw_p2 : lw_okq (⟨"RoomsOfAir", "withoutFinding", "(I)I"⟩, 12) := ⟨⟨by decide +kernel, by decide +kernel⟩, List.mem_of_getElem? (i := 19) (by decide +kernel), List.mem_of_getElem? (i := 438) (by decide +kernel), List.mem_of_getElem? (i := 439) (by decide +kernel)⟩
theorem lw_p3 : lw_okq (⟨"RoomsOfAir", "fillFromSheet", "([IIIIII)I"⟩, 12) := ⟨⟨by decide +kernel, by decide +kernel⟩, List.mem_of_getElem? (i := 19) (by decide +kernel), List.mem_of_getElem? (i := 495) (by decide +kernel), List.mem_of_getElem? (i := 496) (by decide +kernel)⟩
theorem lw_p4 : lw_okq (⟨"RoomsOfAir$Reader", "readFlight", "()V"⟩, 8) := ⟨⟨by decide +kernel, by decide +kernel⟩, List.mem_of_getElem? (i := 200) (by decide +kernel), List.mem_of_getElem? (i := 565) (by decide +kernel), List.mem_of_getElem? (i := 566) (by decide +kernel)⟩
theorem lw_p5 : lw_okq (⟨"RoomsOfAir$Reader", "stopAt", "(I)V"⟩, 8) := ⟨⟨by decide +kernel, by decide +kernel⟩, List.mem_of_getElem? (i := 200) (by decide +kernel), List.mem_of_getElem? (i := 569) (by decide +kernel), List.mem_of_getElem? (i := 570) (by decide +kernel)⟩
theorem lw_p6 : lw_okq (⟨"RoomsOfAir$Reader", "readNumber", "(II)I"⟩, 8) := ⟨⟨by decide +kernel, by decide +kernel⟩, List.mem_of_getElem? (i := 200) (by decide +kernel), List.mem_of_getElem? (i := 578) (by decide +kernel), List.mem_of_getElem? (i := 579) (by decide +kernel)⟩
theorem lw_p7 : lw_okq (⟨"RoomsOfAir$Reader", "readWays", "(LRoomsOfAir$Flight;)V"⟩, 8) := ⟨⟨by decide +kernel, by decide +kernel⟩, List.mem_of_getElem? (i := 200) (by decide +kernel), List.mem_of_getElem? (i := 582) (by decide +kernel), List.mem_of_getElem? (i := 583) (by decide +kernel)⟩
theorem lw_p8 : lw_okq (⟨"RoomsOfAir$Reader", "readLegs", "(LRoomsOfAir$Flight;)V"⟩, 8) := ⟨⟨by decide +kernel, by decide +kernel⟩, List.mem_of_getElem? (i := 200) (by decide +kernel), List.mem_of_getElem? (i := 591) (by decide +kernel), List.mem_of_getElem? (i := 592) (by decide +kernel)⟩
theorem lw_p9 : lw_okq (⟨"RoomsOfAir$Reader", "readSemicolon", "()V"⟩, 8) := ⟨⟨by decide +kernel, by decide +kernel⟩, List.mem_of_getElem? (i := 200) (by decide +kernel), List.mem_of_getElem? (i := 599) (by decide +kernel), List.mem_of_getElem? (i := 600) (by decide +kernel)⟩
theorem lw_p10 : lw_okq (⟨"RoomsOfAir$Reader", "readBear", "()V"⟩, 8) := ⟨⟨by decide +kernel, by decide +kernel⟩, List.mem_of_getElem? (i := 200) (by decide +kernel), List.mem_of_getElem? (i := 604) (by decide +kernel), List.mem_of_getElem? (i := 605) (by decide +kernel)⟩
theorem lw_p11 : lw_okq (⟨"RoomsOfAir$Reader", "readStorm", "()V"⟩, 8) := ⟨⟨by decide +kernel, by decide +kernel⟩, List.mem_of_getElem? (i := 200) (by decide +kernel), List.mem_of_getElem? (i := 609) (by decide +kernel), List.mem_of_getElem? (i := 610) (by decide +kernel)⟩
theorem lw_p12 : lw_okq (⟨"RoomsOfAir$Land", "lowerByStorm", "([II)V"⟩, 9) := ⟨⟨by decide +kernel, by decide +kernel⟩, List.mem_of_getElem? (i := 29) (by decide +kernel), List.mem_of_getElem? (i := 676) (by decide +kernel), List.mem_of_getElem? (i := 677) (by decide +kernel)⟩
theorem lw_p13 : lw_okq (⟨"RoomsOfAir$Ledger", "divideDelays", "()V"⟩, 5) := ⟨⟨by decide +kernel, by decide +kernel⟩, List.mem_of_getElem? (i := 325) (by decide +kernel), List.mem_of_getElem? (i := 714) (by decide +kernel), List.mem_of_getElem? (i := 715) (by decide +kernel)⟩
theorem lw_p14 : lw_okq (⟨"RoomsOfAir$Ledger", "divide", "(II)V"⟩, 5) := ⟨⟨by decide +kernel, by decide +kernel⟩, List.mem_of_getElem? (i := 325) (by decide +kernel), List.mem_of_getElem? (i := 723) (by decide +kernel), List.mem_of_getElem? (i := 724) (by decide +kernel)⟩
theorem lw_p15 : lw_okq (⟨"RoomsOfAir$Ledger", "ownerOfGreatestRest", "()I"⟩, 5) := ⟨⟨by decide +kernel, by decide +kernel⟩, List.mem_of_getElem? (i := 325) (by decide +kernel), List.mem_of_getElem? (i := 728) (by decide +kernel), List.mem_of_getElem? (i := 729) (by decide +kernel)⟩
def lw_privs_1 : List (MethodName × Nat) := [(⟨"RoomsOfAir", "sheetOrNull", "(I)LRoomsOfAir$Sheet;"⟩, 12), (⟨"RoomsOfAir", "found", "(I)I"⟩, 12), (⟨"RoomsOfAir", "withoutFinding", "(I)I"⟩, 12), (⟨"RoomsOfAir", "fillFromSheet", "([IIIIII)I"⟩, 12), (⟨"RoomsOfAir$Reader", "readFlight", "()V"⟩, 8), (⟨"RoomsOfAir$Reader", "stopAt", "(I)V"⟩, 8), (⟨"RoomsOfAir$Reader", "readNumber", "(II)I"⟩, 8), (⟨"RoomsOfAir$Reader", "readWays", "(LRoomsOfAir$Flight;)V"⟩, 8), (⟨"RoomsOfAir$Reader", "readLegs", "(LRoomsOfAir$Flight;)V"⟩, 8), (⟨"RoomsOfAir$Reader", "readSemicolon", "()V"⟩, 8), (⟨"RoomsOfAir$Reader", "readBear", "()V"⟩, 8), (⟨"RoomsOfAir$Reader", "readStorm", "()V"⟩, 8), (⟨"RoomsOfAir$Land", "lowerByStorm", "([II)V"⟩, 9), (⟨"RoomsOfAir$Ledger", "divideDelays", "()V"⟩, 5), (⟨"RoomsOfAir$Ledger", "divide", "(II)V"⟩, 5), (⟨"RoomsOfAir$Ledger", "ownerOfGreatestRest", "()I"⟩, 5)]
theorem lw_r1 : ∀ q ∈ lw_privs_1, lw_okq q := List.forall_mem_cons.mpr ⟨lw_p0, List.forall_mem_cons.mpr ⟨lw_p1, List.forall_mem_cons.mpr ⟨lw_p2, List.forall_mem_cons.mpr ⟨lw_p3, List.forall_mem_cons.mpr ⟨lw_p4, List.forall_mem_cons.mpr ⟨lw_p5, List.forall_mem_cons.mpr ⟨lw_p6, List.forall_mem_cons.mpr ⟨lw_p7, List.forall_mem_cons.mpr ⟨lw_p8, List.forall_mem_cons.mpr ⟨lw_p9, List.forall_mem_cons.mpr ⟨lw_p10, List.forall_mem_cons.mpr ⟨lw_p11, List.forall_mem_cons.mpr ⟨lw_p12, List.forall_mem_cons.mpr ⟨lw_p13, List.forall_mem_cons.mpr ⟨lw_p14, List.forall_mem_cons.mpr ⟨lw_p15, fun _ h => absurd h List.not_mem_nil⟩⟩⟩⟩⟩⟩⟩⟩⟩⟩⟩⟩⟩⟩⟩⟩
theorem lw_p16 : lw_okq (⟨"RoomsOfAir$Splitter", "weighSlot", "(I)V"⟩, 7) := ⟨⟨by decide +kernel, by decide +kernel⟩, List.mem_of_getElem? (i := 260) (by decide +kernel), List.mem_of_getElem? (i := 765) (by decide +kernel), List.mem_of_getElem? (i := 766) (by decide +kernel)⟩
theorem lw_p17 : lw_okq (⟨"RoomsOfAir$Splitter", "fillRelieved", "(I)V"⟩, 7) := ⟨⟨by decide +kernel, by decide +kernel⟩, List.mem_of_getElem? (i := 260) (by decide +kernel), List.mem_of_getElem? (i := 771) (by decide +kernel), List.mem_of_getElem? (i := 772) (by decide +kernel)⟩
theorem lw_p18 : lw_okq (⟨"RoomsOfAir$Splitter", "reliefBySplit", "(I)I"⟩, 7) := ⟨⟨by decide +kernel, by decide +kernel⟩, List.mem_of_getElem? (i := 260) (by decide +kernel), List.mem_of_getElem? (i := 775) (by decide +kernel), List.mem_of_getElem? (i := 776) (by decide +kernel)⟩
theorem lw_p19 : lw_okq (⟨"RoomsOfAir$Splitter", "addChangesAhead", "()V"⟩, 7) := ⟨⟨by decide +kernel, by decide +kernel⟩, List.mem_of_getElem? (i := 260) (by decide +kernel), List.mem_of_getElem? (i := 788) (by decide +kernel), List.mem_of_getElem? (i := 789) (by decide +kernel)⟩
theorem lw_p20 : lw_okq (⟨"RoomsOfAir$Splitter", "bestSetBehind", "(II)I"⟩, 7) := ⟨⟨by decide +kernel, by decide +kernel⟩, List.mem_of_getElem? (i := 260) (by decide +kernel), List.mem_of_getElem? (i := 792) (by decide +kernel), List.mem_of_getElem? (i := 793) (by decide +kernel)⟩
theorem lw_p21 : lw_okq (⟨"RoomsOfAir$Settler", "changeFreeRoom", "(LRoomsOfAir$Flight;III)V"⟩, 9) := ⟨⟨by decide +kernel, by decide +kernel⟩, List.mem_of_getElem? (i := 290) (by decide +kernel), List.mem_of_getElem? (i := 809) (by decide +kernel), List.mem_of_getElem? (i := 810) (by decide +kernel)⟩
theorem lw_p22 : lw_okq (⟨"RoomsOfAir$Settler", "search", "(II)V"⟩, 9) := ⟨⟨by decide +kernel, by decide +kernel⟩, List.mem_of_getElem? (i := 290) (by decide +kernel), List.mem_of_getElem? (i := 814) (by decide +kernel), List.mem_of_getElem? (i := 815) (by decide +kernel)⟩
theorem lw_p23 : lw_okq (⟨"RoomsOfAir$Settler", "leastCostFrom", "(I)I"⟩, 9) := ⟨⟨by decide +kernel, by decide +kernel⟩, List.mem_of_getElem? (i := 290) (by decide +kernel), List.mem_of_getElem? (i := 819) (by decide +kernel), List.mem_of_getElem? (i := 820) (by decide +kernel)⟩
theorem lw_p24 : lw_okq (⟨"RoomsOfAir$Settler", "leastCostAlone", "(LRoomsOfAir$Flight;)I"⟩, 9) := ⟨⟨by decide +kernel, by decide +kernel⟩, List.mem_of_getElem? (i := 290) (by decide +kernel), List.mem_of_getElem? (i := 823) (by decide +kernel), List.mem_of_getElem? (i := 824) (by decide +kernel)⟩
theorem lw_p25 : lw_okq (⟨"RoomsOfAir$Settler", "fits", "(LRoomsOfAir$Flight;II)Z"⟩, 9) := ⟨⟨by decide +kernel, by decide +kernel⟩, List.mem_of_getElem? (i := 290) (by decide +kernel), List.mem_of_getElem? (i := 828) (by decide +kernel), List.mem_of_getElem? (i := 829) (by decide +kernel)⟩
theorem lw_p26 : lw_okq (⟨"RoomsOfAir", "harmsNone", "(LRoomsOfAir$Flight;LRoomsOfAir$Flight;)Z"⟩, 12) := ⟨⟨by decide +kernel, by decide +kernel⟩, List.mem_of_getElem? (i := 19) (by decide +kernel), List.mem_of_getElem? (i := 840) (by decide +kernel), List.mem_of_getElem? (i := 841) (by decide +kernel)⟩
theorem lw_p27 : lw_okq (⟨"RoomsOfAir$Ledger", "divideTooMuch", "(II)V"⟩, 5) := ⟨⟨by decide +kernel, by decide +kernel⟩, List.mem_of_getElem? (i := 325) (by decide +kernel), List.mem_of_getElem? (i := 868) (by decide +kernel), List.mem_of_getElem? (i := 869) (by decide +kernel)⟩
theorem lw_p28 : lw_okq (⟨"RoomsOfAir$Asks", "sizeOfLate", "(LRoomsOfAir$Flight;)I"⟩, 3) := ⟨⟨by decide +kernel, by decide +kernel⟩, List.mem_of_getElem? (i := 347) (by decide +kernel), List.mem_of_getElem? (i := 906) (by decide +kernel), List.mem_of_getElem? (i := 907) (by decide +kernel)⟩
theorem lw_p29 : lw_okq (⟨"RoomsOfAir$Asks", "leaveInTrace", "(I)V"⟩, 3) := ⟨⟨by decide +kernel, by decide +kernel⟩, List.mem_of_getElem? (i := 347) (by decide +kernel), List.mem_of_getElem? (i := 910) (by decide +kernel), List.mem_of_getElem? (i := 911) (by decide +kernel)⟩
theorem lw_p30 : lw_okq (⟨"RoomsOfAir$Asks", "sizeLent", "(LRoomsOfAir$Flight;)I"⟩, 3) := ⟨⟨by decide +kernel, by decide +kernel⟩, List.mem_of_getElem? (i := 347) (by decide +kernel), List.mem_of_getElem? (i := 914) (by decide +kernel), List.mem_of_getElem? (i := 915) (by decide +kernel)⟩
theorem lw_p31 : lw_okq (⟨"RoomsOfAir$Asks", "sizeOfRound", "(LRoomsOfAir$Flight;)I"⟩, 3) := ⟨⟨by decide +kernel, by decide +kernel⟩, List.mem_of_getElem? (i := 347) (by decide +kernel), List.mem_of_getElem? (i := 923) (by decide +kernel), List.mem_of_getElem? (i := 924) (by decide +kernel)⟩
def lw_privs_2 : List (MethodName × Nat) := [(⟨"RoomsOfAir$Splitter", "weighSlot", "(I)V"⟩, 7), (⟨"RoomsOfAir$Splitter", "fillRelieved", "(I)V"⟩, 7), (⟨"RoomsOfAir$Splitter", "reliefBySplit", "(I)I"⟩, 7), (⟨"RoomsOfAir$Splitter", "addChangesAhead", "()V"⟩, 7), (⟨"RoomsOfAir$Splitter", "bestSetBehind", "(II)I"⟩, 7), (⟨"RoomsOfAir$Settler", "changeFreeRoom", "(LRoomsOfAir$Flight;III)V"⟩, 9), (⟨"RoomsOfAir$Settler", "search", "(II)V"⟩, 9), (⟨"RoomsOfAir$Settler", "leastCostFrom", "(I)I"⟩, 9), (⟨"RoomsOfAir$Settler", "leastCostAlone", "(LRoomsOfAir$Flight;)I"⟩, 9), (⟨"RoomsOfAir$Settler", "fits", "(LRoomsOfAir$Flight;II)Z"⟩, 9), (⟨"RoomsOfAir", "harmsNone", "(LRoomsOfAir$Flight;LRoomsOfAir$Flight;)Z"⟩, 12), (⟨"RoomsOfAir$Ledger", "divideTooMuch", "(II)V"⟩, 5), (⟨"RoomsOfAir$Asks", "sizeOfLate", "(LRoomsOfAir$Flight;)I"⟩, 3), (⟨"RoomsOfAir$Asks", "leaveInTrace", "(I)V"⟩, 3), (⟨"RoomsOfAir$Asks", "sizeLent", "(LRoomsOfAir$Flight;)I"⟩, 3), (⟨"RoomsOfAir$Asks", "sizeOfRound", "(LRoomsOfAir$Flight;)I"⟩, 3)]
theorem lw_r2 : ∀ q ∈ lw_privs_2, lw_okq q := List.forall_mem_cons.mpr ⟨lw_p16, List.forall_mem_cons.mpr ⟨lw_p17, List.forall_mem_cons.mpr ⟨lw_p18, List.forall_mem_cons.mpr ⟨lw_p19, List.forall_mem_cons.mpr ⟨lw_p20, List.forall_mem_cons.mpr ⟨lw_p21, List.forall_mem_cons.mpr ⟨lw_p22, List.forall_mem_cons.mpr ⟨lw_p23, List.forall_mem_cons.mpr ⟨lw_p24, List.forall_mem_cons.mpr ⟨lw_p25, List.forall_mem_cons.mpr ⟨lw_p26, List.forall_mem_cons.mpr ⟨lw_p27, List.forall_mem_cons.mpr ⟨lw_p28, List.forall_mem_cons.mpr ⟨lw_p29, List.forall_mem_cons.mpr ⟨lw_p30, List.forall_mem_cons.mpr ⟨lw_p31, fun _ h => absurd h List.not_mem_nil⟩⟩⟩⟩⟩⟩⟩⟩⟩⟩⟩⟩⟩⟩⟩⟩
theorem lw_p32 : lw_okq (⟨"RoomsOfAir$Asks", "sizeOfCalm", "(LRoomsOfAir$Flight;)I"⟩, 3) := ⟨⟨by decide +kernel, by decide +kernel⟩, List.mem_of_getElem? (i := 347) (by decide +kernel), List.mem_of_getElem? (i := 927) (by decide +kernel), List.mem_of_getElem? (i := 928) (by decide +kernel)⟩
theorem lw_p33 : lw_okq (⟨"RoomsOfAir$Asks", "markOfLate", "(LRoomsOfAir$Flight;)I"⟩, 3) := ⟨⟨by decide +kernel, by decide +kernel⟩, List.mem_of_getElem? (i := 347) (by decide +kernel), List.mem_of_getElem? (i := 935) (by decide +kernel), List.mem_of_getElem? (i := 936) (by decide +kernel)⟩
theorem lw_p34 : lw_okq (⟨"RoomsOfAir$Asks", "markLent", "(LRoomsOfAir$Flight;)I"⟩, 3) := ⟨⟨by decide +kernel, by decide +kernel⟩, List.mem_of_getElem? (i := 347) (by decide +kernel), List.mem_of_getElem? (i := 939) (by decide +kernel), List.mem_of_getElem? (i := 940) (by decide +kernel)⟩
theorem lw_p35 : lw_okq (⟨"RoomsOfAir$Asks", "markOfCalm", "(LRoomsOfAir$Flight;)I"⟩, 3) := ⟨⟨by decide +kernel, by decide +kernel⟩, List.mem_of_getElem? (i := 347) (by decide +kernel), List.mem_of_getElem? (i := 943) (by decide +kernel), List.mem_of_getElem? (i := 944) (by decide +kernel)⟩
theorem lw_p36 : lw_okq (⟨"RoomsOfAir", "sheetsThere", "()I"⟩, 12) := ⟨⟨by decide +kernel, by decide +kernel⟩, List.mem_of_getElem? (i := 19) (by decide +kernel), List.mem_of_getElem? (i := 956) (by decide +kernel), List.mem_of_getElem? (i := 957) (by decide +kernel)⟩
theorem lw_p37 : lw_okq (⟨"RoomsOfAir", "flightsTold", "(I)I"⟩, 12) := ⟨⟨by decide +kernel, by decide +kernel⟩, List.mem_of_getElem? (i := 19) (by decide +kernel), List.mem_of_getElem? (i := 960) (by decide +kernel), List.mem_of_getElem? (i := 961) (by decide +kernel)⟩
theorem lw_p38 : lw_okq (⟨"RoomsOfAirModel", "found", "(I)I"⟩, 42) := ⟨⟨by decide +kernel, by decide +kernel⟩, List.mem_of_getElem? (i := 983) (by decide +kernel), List.mem_of_getElem? (i := 981) (by decide +kernel), List.mem_of_getElem? (i := 982) (by decide +kernel)⟩
theorem lw_p39 : lw_okq (⟨"RoomsOfAirModel", "lookItems", "(IIII)I"⟩, 42) := ⟨⟨by decide +kernel, by decide +kernel⟩, List.mem_of_getElem? (i := 983) (by decide +kernel), List.mem_of_getElem? (i := 1142) (by decide +kernel), List.mem_of_getElem? (i := 1143) (by decide +kernel)⟩
theorem lw_p40 : lw_okq (⟨"RoomsOfAirModel", "safeOf", "(II)I"⟩, 42) := ⟨⟨by decide +kernel, by decide +kernel⟩, List.mem_of_getElem? (i := 983) (by decide +kernel), List.mem_of_getElem? (i := 1161) (by decide +kernel), List.mem_of_getElem? (i := 1162) (by decide +kernel)⟩
theorem lw_p41 : lw_okq (⟨"RoomsOfAirModel", "bearsIn", "(III)I"⟩, 42) := ⟨⟨by decide +kernel, by decide +kernel⟩, List.mem_of_getElem? (i := 983) (by decide +kernel), List.mem_of_getElem? (i := 1165) (by decide +kernel), List.mem_of_getElem? (i := 1166) (by decide +kernel)⟩
theorem lw_p42 : lw_okq (⟨"RoomsOfAirModel", "step", "()V"⟩, 42) := ⟨⟨by decide +kernel, by decide +kernel⟩, List.mem_of_getElem? (i := 983) (by decide +kernel), List.mem_of_getElem? (i := 1180) (by decide +kernel), List.mem_of_getElem? (i := 1181) (by decide +kernel)⟩
theorem lw_p43 : lw_okq (⟨"RoomsOfAirModel", "byteAt", "(I)I"⟩, 42) := ⟨⟨by decide +kernel, by decide +kernel⟩, List.mem_of_getElem? (i := 983) (by decide +kernel), List.mem_of_getElem? (i := 1184) (by decide +kernel), List.mem_of_getElem? (i := 1185) (by decide +kernel)⟩
theorem lw_p44 : lw_okq (⟨"RoomsOfAirModel", "word", "()J"⟩, 42) := ⟨⟨by decide +kernel, by decide +kernel⟩, List.mem_of_getElem? (i := 983) (by decide +kernel), List.mem_of_getElem? (i := 1194) (by decide +kernel), List.mem_of_getElem? (i := 1195) (by decide +kernel)⟩
theorem lw_p45 : lw_okq (⟨"RoomsOfAirModel", "bad", "(I)V"⟩, 42) := ⟨⟨by decide +kernel, by decide +kernel⟩, List.mem_of_getElem? (i := 983) (by decide +kernel), List.mem_of_getElem? (i := 1200) (by decide +kernel), List.mem_of_getElem? (i := 1201) (by decide +kernel)⟩
theorem lw_p46 : lw_okq (⟨"RoomsOfAirModel", "need", "(Z)V"⟩, 42) := ⟨⟨by decide +kernel, by decide +kernel⟩, List.mem_of_getElem? (i := 983) (by decide +kernel), List.mem_of_getElem? (i := 1205) (by decide +kernel), List.mem_of_getElem? (i := 1206) (by decide +kernel)⟩
theorem lw_p47 : lw_okq (⟨"RoomsOfAirModel", "readFlight", "()V"⟩, 42) := ⟨⟨by decide +kernel, by decide +kernel⟩, List.mem_of_getElem? (i := 983) (by decide +kernel), List.mem_of_getElem? (i := 1209) (by decide +kernel), List.mem_of_getElem? (i := 1210) (by decide +kernel)⟩
def lw_privs_3 : List (MethodName × Nat) := [(⟨"RoomsOfAir$Asks", "sizeOfCalm", "(LRoomsOfAir$Flight;)I"⟩, 3), (⟨"RoomsOfAir$Asks", "markOfLate", "(LRoomsOfAir$Flight;)I"⟩, 3), (⟨"RoomsOfAir$Asks", "markLent", "(LRoomsOfAir$Flight;)I"⟩, 3), (⟨"RoomsOfAir$Asks", "markOfCalm", "(LRoomsOfAir$Flight;)I"⟩, 3), (⟨"RoomsOfAir", "sheetsThere", "()I"⟩, 12), (⟨"RoomsOfAir", "flightsTold", "(I)I"⟩, 12), (⟨"RoomsOfAirModel", "found", "(I)I"⟩, 42), (⟨"RoomsOfAirModel", "lookItems", "(IIII)I"⟩, 42), (⟨"RoomsOfAirModel", "safeOf", "(II)I"⟩, 42), (⟨"RoomsOfAirModel", "bearsIn", "(III)I"⟩, 42), (⟨"RoomsOfAirModel", "step", "()V"⟩, 42), (⟨"RoomsOfAirModel", "byteAt", "(I)I"⟩, 42), (⟨"RoomsOfAirModel", "word", "()J"⟩, 42), (⟨"RoomsOfAirModel", "bad", "(I)V"⟩, 42), (⟨"RoomsOfAirModel", "need", "(Z)V"⟩, 42), (⟨"RoomsOfAirModel", "readFlight", "()V"⟩, 42)]
theorem lw_r3 : ∀ q ∈ lw_privs_3, lw_okq q := List.forall_mem_cons.mpr ⟨lw_p32, List.forall_mem_cons.mpr ⟨lw_p33, List.forall_mem_cons.mpr ⟨lw_p34, List.forall_mem_cons.mpr ⟨lw_p35, List.forall_mem_cons.mpr ⟨lw_p36, List.forall_mem_cons.mpr ⟨lw_p37, List.forall_mem_cons.mpr ⟨lw_p38, List.forall_mem_cons.mpr ⟨lw_p39, List.forall_mem_cons.mpr ⟨lw_p40, List.forall_mem_cons.mpr ⟨lw_p41, List.forall_mem_cons.mpr ⟨lw_p42, List.forall_mem_cons.mpr ⟨lw_p43, List.forall_mem_cons.mpr ⟨lw_p44, List.forall_mem_cons.mpr ⟨lw_p45, List.forall_mem_cons.mpr ⟨lw_p46, List.forall_mem_cons.mpr ⟨lw_p47, fun _ h => absurd h List.not_mem_nil⟩⟩⟩⟩⟩⟩⟩⟩⟩⟩⟩⟩⟩⟩⟩⟩
theorem lw_p48 : lw_okq (⟨"RoomsOfAirModel", "numberIn", "(II)I"⟩, 42) := ⟨⟨by decide +kernel, by decide +kernel⟩, List.mem_of_getElem? (i := 983) (by decide +kernel), List.mem_of_getElem? (i := 1213) (by decide +kernel), List.mem_of_getElem? (i := 1214) (by decide +kernel)⟩
theorem lw_p49 : lw_okq (⟨"RoomsOfAirModel", "readWay", "(I)V"⟩, 42) := ⟨⟨by decide +kernel, by decide +kernel⟩, List.mem_of_getElem? (i := 983) (by decide +kernel), List.mem_of_getElem? (i := 1218) (by decide +kernel), List.mem_of_getElem? (i := 1219) (by decide +kernel)⟩
theorem lw_p50 : lw_okq (⟨"RoomsOfAirModel", "is", "(I)Z"⟩, 42) := ⟨⟨by decide +kernel, by decide +kernel⟩, List.mem_of_getElem? (i := 983) (by decide +kernel), List.mem_of_getElem? (i := 1222) (by decide +kernel), List.mem_of_getElem? (i := 1223) (by decide +kernel)⟩
theorem lw_p51 : lw_okq (⟨"RoomsOfAirModel", "readStorm", "()V"⟩, 42) := ⟨⟨by decide +kernel, by decide +kernel⟩, List.mem_of_getElem? (i := 983) (by decide +kernel), List.mem_of_getElem? (i := 1226) (by decide +kernel), List.mem_of_getElem? (i := 1227) (by decide +kernel)⟩
theorem lw_p52 : lw_okq (⟨"RoomsOfAirModel", "isFlight", "(I)Z"⟩, 42) := ⟨⟨by decide +kernel, by decide +kernel⟩, List.mem_of_getElem? (i := 983) (by decide +kernel), List.mem_of_getElem? (i := 1239) (by decide +kernel), List.mem_of_getElem? (i := 1240) (by decide +kernel)⟩
theorem lw_p53 : lw_okq (⟨"RoomsOfAirModel", "costOf", "(I)I"⟩, 42) := ⟨⟨by decide +kernel, by decide +kernel⟩, List.mem_of_getElem? (i := 983) (by decide +kernel), List.mem_of_getElem? (i := 1243) (by decide +kernel), List.mem_of_getElem? (i := 1244) (by decide +kernel)⟩
theorem lw_p54 : lw_okq (⟨"RoomsOfAirModel", "costBy", "(III)I"⟩, 42) := ⟨⟨by decide +kernel, by decide +kernel⟩, List.mem_of_getElem? (i := 983) (by decide +kernel), List.mem_of_getElem? (i := 1247) (by decide +kernel), List.mem_of_getElem? (i := 1248) (by decide +kernel)⟩
theorem lw_p55 : lw_okq (⟨"RoomsOfAirModel", "roomBy", "(IIII)I"⟩, 42) := ⟨⟨by decide +kernel, by decide +kernel⟩, List.mem_of_getElem? (i := 983) (by decide +kernel), List.mem_of_getElem? (i := 1264) (by decide +kernel), List.mem_of_getElem? (i := 1265) (by decide +kernel)⟩
theorem lw_p56 : lw_okq (⟨"RoomsOfAirModel", "loadOf", "(II)I"⟩, 42) := ⟨⟨by decide +kernel, by decide +kernel⟩, List.mem_of_getElem? (i := 983) (by decide +kernel), List.mem_of_getElem? (i := 1272) (by decide +kernel), List.mem_of_getElem? (i := 1273) (by decide +kernel)⟩
theorem lw_p57 : lw_okq (⟨"RoomsOfAirModel", "overOf", "(II)I"⟩, 42) := ⟨⟨by decide +kernel, by decide +kernel⟩, List.mem_of_getElem? (i := 983) (by decide +kernel), List.mem_of_getElem? (i := 1276) (by decide +kernel), List.mem_of_getElem? (i := 1277) (by decide +kernel)⟩
theorem lw_p58 : lw_okq (⟨"RoomsOfAirModel", "overAll", "()I"⟩, 42) := ⟨⟨by decide +kernel, by decide +kernel⟩, List.mem_of_getElem? (i := 983) (by decide +kernel), List.mem_of_getElem? (i := 1285) (by decide +kernel), List.mem_of_getElem? (i := 1286) (by decide +kernel)⟩
theorem lw_p59 : lw_okq (⟨"RoomsOfAirModel", "delaysOf", "(I)I"⟩, 42) := ⟨⟨by decide +kernel, by decide +kernel⟩, List.mem_of_getElem? (i := 983) (by decide +kernel), List.mem_of_getElem? (i := 1289) (by decide +kernel), List.mem_of_getElem? (i := 1290) (by decide +kernel)⟩
theorem lw_p60 : lw_okq (⟨"RoomsOfAirModel", "shares", "()V"⟩, 42) := ⟨⟨by decide +kernel, by decide +kernel⟩, List.mem_of_getElem? (i := 983) (by decide +kernel), List.mem_of_getElem? (i := 1293) (by decide +kernel), List.mem_of_getElem? (i := 1294) (by decide +kernel)⟩
theorem lw_p61 : lw_okq (⟨"RoomsOfAirModel", "flightsOf", "(I)I"⟩, 42) := ⟨⟨by decide +kernel, by decide +kernel⟩, List.mem_of_getElem? (i := 983) (by decide +kernel), List.mem_of_getElem? (i := 1297) (by decide +kernel), List.mem_of_getElem? (i := 1298) (by decide +kernel)⟩
theorem lw_p62 : lw_okq (⟨"RoomsOfAirModel", "give", "(II)V"⟩, 42) := ⟨⟨by decide +kernel, by decide +kernel⟩, List.mem_of_getElem? (i := 983) (by decide +kernel), List.mem_of_getElem? (i := 1301) (by decide +kernel), List.mem_of_getElem? (i := 1302) (by decide +kernel)⟩
theorem lw_p63 : lw_okq (⟨"RoomsOfAirModel", "findSplits", "()V"⟩, 42) := ⟨⟨by decide +kernel, by decide +kernel⟩, List.mem_of_getElem? (i := 983) (by decide +kernel), List.mem_of_getElem? (i := 1316) (by decide +kernel), List.mem_of_getElem? (i := 1317) (by decide +kernel)⟩
def lw_privs_4 : List (MethodName × Nat) := [(⟨"RoomsOfAirModel", "numberIn", "(II)I"⟩, 42), (⟨"RoomsOfAirModel", "readWay", "(I)V"⟩, 42), (⟨"RoomsOfAirModel", "is", "(I)Z"⟩, 42), (⟨"RoomsOfAirModel", "readStorm", "()V"⟩, 42), (⟨"RoomsOfAirModel", "isFlight", "(I)Z"⟩, 42), (⟨"RoomsOfAirModel", "costOf", "(I)I"⟩, 42), (⟨"RoomsOfAirModel", "costBy", "(III)I"⟩, 42), (⟨"RoomsOfAirModel", "roomBy", "(IIII)I"⟩, 42), (⟨"RoomsOfAirModel", "loadOf", "(II)I"⟩, 42), (⟨"RoomsOfAirModel", "overOf", "(II)I"⟩, 42), (⟨"RoomsOfAirModel", "overAll", "()I"⟩, 42), (⟨"RoomsOfAirModel", "delaysOf", "(I)I"⟩, 42), (⟨"RoomsOfAirModel", "shares", "()V"⟩, 42), (⟨"RoomsOfAirModel", "flightsOf", "(I)I"⟩, 42), (⟨"RoomsOfAirModel", "give", "(II)V"⟩, 42), (⟨"RoomsOfAirModel", "findSplits", "()V"⟩, 42)]
theorem lw_r4 : ∀ q ∈ lw_privs_4, lw_okq q := List.forall_mem_cons.mpr ⟨lw_p48, List.forall_mem_cons.mpr ⟨lw_p49, List.forall_mem_cons.mpr ⟨lw_p50, List.forall_mem_cons.mpr ⟨lw_p51, List.forall_mem_cons.mpr ⟨lw_p52, List.forall_mem_cons.mpr ⟨lw_p53, List.forall_mem_cons.mpr ⟨lw_p54, List.forall_mem_cons.mpr ⟨lw_p55, List.forall_mem_cons.mpr ⟨lw_p56, List.forall_mem_cons.mpr ⟨lw_p57, List.forall_mem_cons.mpr ⟨lw_p58, List.forall_mem_cons.mpr ⟨lw_p59, List.forall_mem_cons.mpr ⟨lw_p60, List.forall_mem_cons.mpr ⟨lw_p61, List.forall_mem_cons.mpr ⟨lw_p62, List.forall_mem_cons.mpr ⟨lw_p63, fun _ h => absurd h List.not_mem_nil⟩⟩⟩⟩⟩⟩⟩⟩⟩⟩⟩⟩⟩⟩⟩⟩
theorem lw_p64 : lw_okq (⟨"RoomsOfAirModel", "lay", "(III)V"⟩, 42) := ⟨⟨by decide +kernel, by decide +kernel⟩, List.mem_of_getElem? (i := 983) (by decide +kernel), List.mem_of_getElem? (i := 1327) (by decide +kernel), List.mem_of_getElem? (i := 1328) (by decide +kernel)⟩
theorem lw_p65 : lw_okq (⟨"RoomsOfAirModel", "fits", "(II)Z"⟩, 42) := ⟨⟨by decide +kernel, by decide +kernel⟩, List.mem_of_getElem? (i := 983) (by decide +kernel), List.mem_of_getElem? (i := 1331) (by decide +kernel), List.mem_of_getElem? (i := 1332) (by decide +kernel)⟩
theorem lw_p66 : lw_okq (⟨"RoomsOfAirModel", "isHarmless", "(II)Z"⟩, 42) := ⟨⟨by decide +kernel, by decide +kernel⟩, List.mem_of_getElem? (i := 983) (by decide +kernel), List.mem_of_getElem? (i := 1339) (by decide +kernel), List.mem_of_getElem? (i := 1340) (by decide +kernel)⟩
theorem lw_p67 : lw_okq (⟨"RoomsOfAirModel", "exchange", "(II)V"⟩, 42) := ⟨⟨by decide +kernel, by decide +kernel⟩, List.mem_of_getElem? (i := 983) (by decide +kernel), List.mem_of_getElem? (i := 1343) (by decide +kernel), List.mem_of_getElem? (i := 1344) (by decide +kernel)⟩
theorem lw_p68 : lw_okq (⟨"RoomsOfAirModel", "blameOf", "(I)I"⟩, 42) := ⟨⟨by decide +kernel, by decide +kernel⟩, List.mem_of_getElem? (i := 983) (by decide +kernel), List.mem_of_getElem? (i := 1355) (by decide +kernel), List.mem_of_getElem? (i := 1356) (by decide +kernel)⟩
theorem lw_p69 : lw_okq (⟨"RoomsOfAirModel", "kindOf", "(I)I"⟩, 42) := ⟨⟨by decide +kernel, by decide +kernel⟩, List.mem_of_getElem? (i := 983) (by decide +kernel), List.mem_of_getElem? (i := 1363) (by decide +kernel), List.mem_of_getElem? (i := 1364) (by decide +kernel)⟩
theorem lw_p70 : lw_okq (⟨"RoomsOfAirModel", "sizeOf", "(II)I"⟩, 42) := ⟨⟨by decide +kernel, by decide +kernel⟩, List.mem_of_getElem? (i := 983) (by decide +kernel), List.mem_of_getElem? (i := 1378) (by decide +kernel), List.mem_of_getElem? (i := 1379) (by decide +kernel)⟩
theorem lw_p71 : lw_okq (⟨"RoomsOfAirModel", "began", "(I)V"⟩, 42) := ⟨⟨by decide +kernel, by decide +kernel⟩, List.mem_of_getElem? (i := 983) (by decide +kernel), List.mem_of_getElem? (i := 1382) (by decide +kernel), List.mem_of_getElem? (i := 1383) (by decide +kernel)⟩
theorem lw_p72 : lw_okq (⟨"RoomsOfAirModel", "slotsOf", "(II)I"⟩, 42) := ⟨⟨by decide +kernel, by decide +kernel⟩, List.mem_of_getElem? (i := 983) (by decide +kernel), List.mem_of_getElem? (i := 1386) (by decide +kernel), List.mem_of_getElem? (i := 1387) (by decide +kernel)⟩
theorem lw_p73 : lw_okq (⟨"RoomsOfAirModel", "markOf", "(II)I"⟩, 42) := ⟨⟨by decide +kernel, by decide +kernel⟩, List.mem_of_getElem? (i := 983) (by decide +kernel), List.mem_of_getElem? (i := 1390) (by decide +kernel), List.mem_of_getElem? (i := 1391) (by decide +kernel)⟩
def lw_privs_5 : List (MethodName × Nat) := [(⟨"RoomsOfAirModel", "lay", "(III)V"⟩, 42), (⟨"RoomsOfAirModel", "fits", "(II)Z"⟩, 42), (⟨"RoomsOfAirModel", "isHarmless", "(II)Z"⟩, 42), (⟨"RoomsOfAirModel", "exchange", "(II)V"⟩, 42), (⟨"RoomsOfAirModel", "blameOf", "(I)I"⟩, 42), (⟨"RoomsOfAirModel", "kindOf", "(I)I"⟩, 42), (⟨"RoomsOfAirModel", "sizeOf", "(II)I"⟩, 42), (⟨"RoomsOfAirModel", "began", "(I)V"⟩, 42), (⟨"RoomsOfAirModel", "slotsOf", "(II)I"⟩, 42), (⟨"RoomsOfAirModel", "markOf", "(II)I"⟩, 42)]
theorem lw_r5 : ∀ q ∈ lw_privs_5, lw_okq q := List.forall_mem_cons.mpr ⟨lw_p64, List.forall_mem_cons.mpr ⟨lw_p65, List.forall_mem_cons.mpr ⟨lw_p66, List.forall_mem_cons.mpr ⟨lw_p67, List.forall_mem_cons.mpr ⟨lw_p68, List.forall_mem_cons.mpr ⟨lw_p69, List.forall_mem_cons.mpr ⟨lw_p70, List.forall_mem_cons.mpr ⟨lw_p71, List.forall_mem_cons.mpr ⟨lw_p72, List.forall_mem_cons.mpr ⟨lw_p73, fun _ h => absurd h List.not_mem_nil⟩⟩⟩⟩⟩⟩⟩⟩⟩⟩
def lw_privs : List (MethodName × Nat) := lw_privs_1 ++ (lw_privs_2 ++ (lw_privs_3 ++ (lw_privs_4 ++ (lw_privs_5))))
def lw_tbl : List Cond := k2_sels lw_privs ++ tables_1
theorem lw_privs_ok : ∀ q ∈ lw_privs, lw_okq q := by
  show ∀ q ∈ lw_privs_1 ++ (lw_privs_2 ++ (lw_privs_3 ++ (lw_privs_4 ++ (lw_privs_5)))), lw_okq q
  exact List.forall_mem_append.mpr ⟨lw_r1, List.forall_mem_append.mpr ⟨lw_r2, List.forall_mem_append.mpr ⟨lw_r3, List.forall_mem_append.mpr ⟨lw_r4, lw_r5⟩⟩⟩⟩

def RX0 : String := "RoomsOfAir$Asks"
def TX0 : u_T := fun k => match k with
  | 0 => ("RoomsOfAir$Asks", "sky", "LRoomsOfAir$Sky;", true)
  | 1 => ("RoomsOfAir$Asks", "bodies", "[I", true)
  | _ => ("RoomsOfAir$Asks", "traceLength", "I", false)
def tyX0 : Nat → FieldType := fun k => match k with
  | 0 => .object "RoomsOfAir$Sky"
  | 1 => .array .int
  | _ => .int
abbrev wsX00 : List Cond := u_ws RX0 TX0 3
theorem nmX0 : ∀ a, a < 3 → ∀ b, b < 3 → a ≠ b → (TX0 a).2.1 ≠ (TX0 b).2.1 := by decide +kernel
theorem tyX0_ok : ∀ k, k < 3 → parseFieldDescriptor (TX0 k).2.2.1 = some (tyX0 k) := by decide +kernel
abbrev cX0_init : ByteArray := prog_2_method_1_code
def yX0_init : MethodName := ⟨RX0, "<init>", "(LRoomsOfAir$Sky;)V"⟩
abbrev cX0_kindOf : ByteArray := prog_2_method_2_code
def yX0_kindOf : MethodName := ⟨RX0, "kindOf", "(LRoomsOfAir$Flight;)I"⟩
abbrev cX0_isOfKind : ByteArray := prog_2_method_3_code
def yX0_isOfKind : MethodName := ⟨RX0, "isOfKind", "(LRoomsOfAir$Flight;I)Z"⟩
abbrev cX0_sizeOf : ByteArray := prog_2_method_4_code
def yX0_sizeOf : MethodName := ⟨RX0, "sizeOf", "(LRoomsOfAir$Flight;)I"⟩
abbrev cX0_markOf : ByteArray := prog_2_method_5_code
def yX0_markOf : MethodName := ⟨RX0, "markOf", "(LRoomsOfAir$Flight;)I"⟩
abbrev cX0_sizeLent : ByteArray := prog_2_method_6_code
def yX0_sizeLent : MethodName := ⟨RX0, "sizeLent", "(LRoomsOfAir$Flight;)I"⟩
abbrev cX0_sizeOfLate : ByteArray := prog_2_method_7_code
def yX0_sizeOfLate : MethodName := ⟨RX0, "sizeOfLate", "(LRoomsOfAir$Flight;)I"⟩
abbrev cX0_sizeOfRound : ByteArray := prog_2_method_8_code
def yX0_sizeOfRound : MethodName := ⟨RX0, "sizeOfRound", "(LRoomsOfAir$Flight;)I"⟩
abbrev cX0_sizeOfCalm : ByteArray := prog_2_method_9_code
def yX0_sizeOfCalm : MethodName := ⟨RX0, "sizeOfCalm", "(LRoomsOfAir$Flight;)I"⟩
abbrev cX0_markLent : ByteArray := prog_2_method_10_code
def yX0_markLent : MethodName := ⟨RX0, "markLent", "(LRoomsOfAir$Flight;)I"⟩
abbrev cX0_markOfLate : ByteArray := prog_2_method_11_code
def yX0_markOfLate : MethodName := ⟨RX0, "markOfLate", "(LRoomsOfAir$Flight;)I"⟩
abbrev cX0_markOfCalm : ByteArray := prog_2_method_12_code
def yX0_markOfCalm : MethodName := ⟨RX0, "markOfCalm", "(LRoomsOfAir$Flight;)I"⟩
abbrev cX0_leaveInTrace : ByteArray := prog_2_method_13_code
def yX0_leaveInTrace : MethodName := ⟨RX0, "leaveInTrace", "(I)V"⟩
def RX1 : String := "RoomsOfAir$Fleet"
def TX1 : u_T := fun k => match k with
  | 0 => ("RoomsOfAir$Fleet", "flights", "[LRoomsOfAir$Flight;", true)
  | _ => ("RoomsOfAir$Fleet", "size", "I", false)
def tyX1 : Nat → FieldType := fun k => match k with
  | 0 => .array (.object "RoomsOfAir$Flight")
  | _ => .int
abbrev wsX10 : List Cond := u_ws RX1 TX1 2
theorem nmX1 : ∀ a, a < 2 → ∀ b, b < 2 → a ≠ b → (TX1 a).2.1 ≠ (TX1 b).2.1 := by decide +kernel
theorem tyX1_ok : ∀ k, k < 2 → parseFieldDescriptor (TX1 k).2.2.1 = some (tyX1 k) := by decide +kernel
abbrev cX1_init : ByteArray := prog_3_method_1_code
def yX1_init : MethodName := ⟨RX1, "<init>", "()V"⟩
abbrev cX1_flightOrNull : ByteArray := prog_3_method_2_code
def yX1_flightOrNull : MethodName := ⟨RX1, "flightOrNull", "(I)LRoomsOfAir$Flight;"⟩
abbrev cX1_everyFlight : ByteArray := prog_3_method_3_code
def yX1_everyFlight : MethodName := ⟨RX1, "everyFlight", "()I"⟩
abbrev cX1_loadKnownAt : ByteArray := prog_3_method_4_code
def yX1_loadKnownAt : MethodName := ⟨RX1, "loadKnownAt", "(III)I"⟩
abbrev cX1_costTogether : ByteArray := prog_3_method_5_code
def yX1_costTogether : MethodName := ⟨RX1, "costTogether", "()I"⟩
abbrev cX1_delaysTogether : ByteArray := prog_3_method_6_code
def yX1_delaysTogether : MethodName := ⟨RX1, "delaysTogether", "()I"⟩
abbrev cX1_flightsOf : ByteArray := prog_3_method_7_code
def yX1_flightsOf : MethodName := ⟨RX1, "flightsOf", "(I)I"⟩
abbrev cX1_delaysOf : ByteArray := prog_3_method_8_code
def yX1_delaysOf : MethodName := ⟨RX1, "delaysOf", "(I)I"⟩
abbrev cX1_costOf : ByteArray := prog_3_method_9_code
def yX1_costOf : MethodName := ⟨RX1, "costOf", "(I)I"⟩
def RX2 : String := "RoomsOfAir$Flight"
def TX2 : u_T := fun k => match k with
  | 0 => ("RoomsOfAir$Flight", "owner", "I", false)
  | 1 => ("RoomsOfAir$Flight", "weight", "I", false)
  | 2 => ("RoomsOfAir$Flight", "start", "I", false)
  | 3 => ("RoomsOfAir$Flight", "rate", "I", false)
  | 4 => ("RoomsOfAir$Flight", "wayCount", "I", false)
  | 5 => ("RoomsOfAir$Flight", "legCounts", "[I", true)
  | 6 => ("RoomsOfAir$Flight", "legRooms", "[I", true)
  | 7 => ("RoomsOfAir$Flight", "legSlots", "[I", true)
  | 8 => ("RoomsOfAir$Flight", "way", "I", false)
  | _ => ("RoomsOfAir$Flight", "delay", "I", false)
def tyX2 : Nat → FieldType := fun k => match k with
  | 0 => .int
  | 1 => .int
  | 2 => .int
  | 3 => .int
  | 4 => .int
  | 5 => .array .int
  | 6 => .array .int
  | 7 => .array .int
  | 8 => .int
  | _ => .int
abbrev wsX20 : List Cond := u_ws RX2 TX2 10
theorem nmX2 : ∀ a, a < 10 → ∀ b, b < 10 → a ≠ b → (TX2 a).2.1 ≠ (TX2 b).2.1 := by decide +kernel
theorem tyX2_ok : ∀ k, k < 10 → parseFieldDescriptor (TX2 k).2.2.1 = some (tyX2 k) := by decide +kernel
abbrev cX2_init : ByteArray := prog_4_method_1_code
def yX2_init : MethodName := ⟨RX2, "<init>", "()V"⟩
abbrev cX2_begin : ByteArray := prog_4_method_2_code
def yX2_begin : MethodName := ⟨RX2, "begin", "()V"⟩
abbrev cX2_addWay : ByteArray := prog_4_method_3_code
def yX2_addWay : MethodName := ⟨RX2, "addWay", "()V"⟩
abbrev cX2_addLegToLastWay : ByteArray := prog_4_method_4_code
def yX2_addLegToLastWay : MethodName := ⟨RX2, "addLegToLastWay", "(II)V"⟩
abbrev cX2_hasWay : ByteArray := prog_4_method_5_code
def yX2_hasWay : MethodName := ⟨RX2, "hasWay", "(I)Z"⟩
abbrev cX2_costOf : ByteArray := prog_4_method_6_code
def yX2_costOf : MethodName := ⟨RX2, "costOf", "(II)I"⟩
abbrev cX2_cost : ByteArray := prog_4_method_7_code
def yX2_cost : MethodName := ⟨RX2, "cost", "()I"⟩
abbrev cX2_slotsOfWay : ByteArray := prog_4_method_8_code
def yX2_slotsOfWay : MethodName := ⟨RX2, "slotsOfWay", "()I"⟩
abbrev cX2_roomIn : ByteArray := prog_4_method_9_code
def yX2_roomIn : MethodName := ⟨RX2, "roomIn", "(III)I"⟩
abbrev cX2_walk : ByteArray := prog_4_method_10_code
def yX2_walk : MethodName := ⟨RX2, "walk", "(II[I)I"⟩
def RX3 : String := "RoomsOfAir$Land"
def TX3 : u_T := fun k => match k with
  | 0 => ("RoomsOfAir$Land", "borne", "[I", true)
  | 1 => ("RoomsOfAir$Land", "crew", "[I", true)
  | 2 => ("RoomsOfAir$Land", "stormWorlds", "[I", true)
  | 3 => ("RoomsOfAir$Land", "stormRooms", "[I", true)
  | 4 => ("RoomsOfAir$Land", "stormFroms", "[I", true)
  | 5 => ("RoomsOfAir$Land", "stormTos", "[I", true)
  | 6 => ("RoomsOfAir$Land", "stormBorne", "[I", true)
  | 7 => ("RoomsOfAir$Land", "stormCount", "I", false)
  | _ => ("RoomsOfAir$Land", "lookedAt", "I", false)
def tyX3 : Nat → FieldType := fun k => match k with
  | 0 => .array .int
  | 1 => .array .int
  | 2 => .array .int
  | 3 => .array .int
  | 4 => .array .int
  | 5 => .array .int
  | 6 => .array .int
  | 7 => .int
  | _ => .int
abbrev wsX30 : List Cond := u_ws RX3 TX3 9
theorem nmX3 : ∀ a, a < 9 → ∀ b, b < 9 → a ≠ b → (TX3 a).2.1 ≠ (TX3 b).2.1 := by decide +kernel
theorem tyX3_ok : ∀ k, k < 9 → parseFieldDescriptor (TX3 k).2.2.1 = some (tyX3 k) := by decide +kernel
abbrev cX3_init : ByteArray := prog_5_method_1_code
def yX3_init : MethodName := ⟨RX3, "<init>", "()V"⟩
abbrev cX3_stormsIn : ByteArray := prog_5_method_2_code
def yX3_stormsIn : MethodName := ⟨RX3, "stormsIn", "(II)Z"⟩
abbrev cX3_borneInWorlds : ByteArray := prog_5_method_3_code
def yX3_borneInWorlds : MethodName := ⟨RX3, "borneInWorlds", "(III)I"⟩
abbrev cX3_fillSafe : ByteArray := prog_5_method_4_code
def yX3_fillSafe : MethodName := ⟨RX3, "fillSafe", "([I)V"⟩
abbrev cX3_lowerByStorm : ByteArray := prog_5_method_5_code
def yX3_lowerByStorm : MethodName := ⟨RX3, "lowerByStorm", "([II)V"⟩
abbrev cX3_bearInAllSlots : ByteArray := prog_5_method_6_code
def yX3_bearInAllSlots : MethodName := ⟨RX3, "bearInAllSlots", "(II)V"⟩
def RX4 : String := "RoomsOfAir$Ledger"
def TX4 : u_T := fun k => match k with
  | 0 => ("RoomsOfAir$Ledger", "fleet", "LRoomsOfAir$Fleet;", true)
  | 1 => ("RoomsOfAir$Ledger", "sky", "LRoomsOfAir$Sky;", true)
  | 2 => ("RoomsOfAir$Ledger", "claims", "[I", true)
  | 3 => ("RoomsOfAir$Ledger", "parts", "[I", true)
  | _ => ("RoomsOfAir$Ledger", "rests", "[I", true)
def tyX4 : Nat → FieldType := fun k => match k with
  | 0 => .object "RoomsOfAir$Fleet"
  | 1 => .object "RoomsOfAir$Sky"
  | 2 => .array .int
  | 3 => .array .int
  | _ => .array .int
abbrev wsX40 : List Cond := u_ws RX4 TX4 5
theorem nmX4 : ∀ a, a < 5 → ∀ b, b < 5 → a ≠ b → (TX4 a).2.1 ≠ (TX4 b).2.1 := by decide +kernel
theorem tyX4_ok : ∀ k, k < 5 → parseFieldDescriptor (TX4 k).2.2.1 = some (tyX4 k) := by decide +kernel
abbrev cX4_init : ByteArray := prog_6_method_1_code
def yX4_init : MethodName := ⟨RX4, "<init>", "(LRoomsOfAir$Fleet;LRoomsOfAir$Sky;)V"⟩
abbrev cX4_shareOf : ByteArray := prog_6_method_2_code
def yX4_shareOf : MethodName := ⟨RX4, "shareOf", "(I)I"⟩
abbrev cX4_unfairness : ByteArray := prog_6_method_3_code
def yX4_unfairness : MethodName := ⟨RX4, "unfairness", "()I"⟩
abbrev cX4_blameOf : ByteArray := prog_6_method_4_code
def yX4_blameOf : MethodName := ⟨RX4, "blameOf", "(I)I"⟩
abbrev cX4_divideDelays : ByteArray := prog_6_method_5_code
def yX4_divideDelays : MethodName := ⟨RX4, "divideDelays", "()V"⟩
abbrev cX4_divideTooMuch : ByteArray := prog_6_method_6_code
def yX4_divideTooMuch : MethodName := ⟨RX4, "divideTooMuch", "(II)V"⟩
abbrev cX4_divide : ByteArray := prog_6_method_7_code
def yX4_divide : MethodName := ⟨RX4, "divide", "(II)V"⟩
abbrev cX4_ownerOfGreatestRest : ByteArray := prog_6_method_8_code
def yX4_ownerOfGreatestRest : MethodName := ⟨RX4, "ownerOfGreatestRest", "()I"⟩
def RX5 : String := "RoomsOfAir$Reader"
def TX5 : u_T := fun k => match k with
  | 0 => ("RoomsOfAir$Reader", "tokens", "LRoomsOfAir$Tokens;", true)
  | 1 => ("RoomsOfAir$Reader", "land", "LRoomsOfAir$Land;", true)
  | 2 => ("RoomsOfAir$Reader", "fleet", "LRoomsOfAir$Fleet;", true)
  | 3 => ("RoomsOfAir$Reader", "toldBorne", "[I", true)
  | 4 => ("RoomsOfAir$Reader", "flightsRead", "I", false)
  | 5 => ("RoomsOfAir$Reader", "stormsRead", "I", false)
  | 6 => ("RoomsOfAir$Reader", "faultNumber", "I", false)
  | _ => ("RoomsOfAir$Reader", "faultPlace", "I", false)
def tyX5 : Nat → FieldType := fun k => match k with
  | 0 => .object "RoomsOfAir$Tokens"
  | 1 => .object "RoomsOfAir$Land"
  | 2 => .object "RoomsOfAir$Fleet"
  | 3 => .array .int
  | 4 => .int
  | 5 => .int
  | 6 => .int
  | _ => .int
abbrev wsX50 : List Cond := u_ws RX5 TX5 8
theorem nmX5 : ∀ a, a < 8 → ∀ b, b < 8 → a ≠ b → (TX5 a).2.1 ≠ (TX5 b).2.1 := by decide +kernel
theorem tyX5_ok : ∀ k, k < 8 → parseFieldDescriptor (TX5 k).2.2.1 = some (tyX5 k) := by decide +kernel
abbrev cX5_init : ByteArray := prog_7_method_1_code
def yX5_init : MethodName := ⟨RX5, "<init>", "(LRoomsOfAir$Tokens;LRoomsOfAir$Land;LRoomsOfAir$Fleet;)V"⟩
abbrev cX5_readTape : ByteArray := prog_7_method_2_code
def yX5_readTape : MethodName := ⟨RX5, "readTape", "()Z"⟩
abbrev cX5_carryOut : ByteArray := prog_7_method_3_code
def yX5_carryOut : MethodName := ⟨RX5, "carryOut", "()V"⟩
abbrev cX5_readFlight : ByteArray := prog_7_method_4_code
def yX5_readFlight : MethodName := ⟨RX5, "readFlight", "()V"⟩
abbrev cX5_readWays : ByteArray := prog_7_method_5_code
def yX5_readWays : MethodName := ⟨RX5, "readWays", "(LRoomsOfAir$Flight;)V"⟩
abbrev cX5_readLegs : ByteArray := prog_7_method_6_code
def yX5_readLegs : MethodName := ⟨RX5, "readLegs", "(LRoomsOfAir$Flight;)V"⟩
abbrev cX5_readBear : ByteArray := prog_7_method_7_code
def yX5_readBear : MethodName := ⟨RX5, "readBear", "()V"⟩
abbrev cX5_readStorm : ByteArray := prog_7_method_8_code
def yX5_readStorm : MethodName := ⟨RX5, "readStorm", "()V"⟩
abbrev cX5_readNumber : ByteArray := prog_7_method_9_code
def yX5_readNumber : MethodName := ⟨RX5, "readNumber", "(II)I"⟩
abbrev cX5_readSemicolon : ByteArray := prog_7_method_10_code
def yX5_readSemicolon : MethodName := ⟨RX5, "readSemicolon", "()V"⟩
abbrev cX5_stopAt : ByteArray := prog_7_method_11_code
def yX5_stopAt : MethodName := ⟨RX5, "stopAt", "(I)V"⟩
def RX6 : String := "RoomsOfAir$Settler"
def TX6 : u_T := fun k => match k with
  | 0 => ("RoomsOfAir$Settler", "fleet", "LRoomsOfAir$Fleet;", true)
  | 1 => ("RoomsOfAir$Settler", "sky", "LRoomsOfAir$Sky;", true)
  | 2 => ("RoomsOfAir$Settler", "freeRoom", "[I", true)
  | 3 => ("RoomsOfAir$Settler", "path", "[I", true)
  | 4 => ("RoomsOfAir$Settler", "members", "[I", true)
  | 5 => ("RoomsOfAir$Settler", "tried", "[I", true)
  | 6 => ("RoomsOfAir$Settler", "kept", "[I", true)
  | 7 => ("RoomsOfAir$Settler", "memberCount", "I", false)
  | _ => ("RoomsOfAir$Settler", "leastCost", "I", false)
def tyX6 : Nat → FieldType := fun k => match k with
  | 0 => .object "RoomsOfAir$Fleet"
  | 1 => .object "RoomsOfAir$Sky"
  | 2 => .array .int
  | 3 => .array .int
  | 4 => .array .int
  | 5 => .array .int
  | 6 => .array .int
  | 7 => .int
  | _ => .int
abbrev wsX60 : List Cond := u_ws RX6 TX6 9
theorem nmX6 : ∀ a, a < 9 → ∀ b, b < 9 → a ≠ b → (TX6 a).2.1 ≠ (TX6 b).2.1 := by decide +kernel
theorem tyX6_ok : ∀ k, k < 9 → parseFieldDescriptor (TX6 k).2.2.1 = some (tyX6 k) := by decide +kernel
abbrev cX6_init : ByteArray := prog_8_method_1_code
def yX6_init : MethodName := ⟨RX6, "<init>", "(LRoomsOfAir$Fleet;LRoomsOfAir$Sky;)V"⟩
abbrev cX6_findChoices : ByteArray := prog_8_method_2_code
def yX6_findChoices : MethodName := ⟨RX6, "findChoices", "(I)Z"⟩
abbrev cX6_takeChoices : ByteArray := prog_8_method_3_code
def yX6_takeChoices : MethodName := ⟨RX6, "takeChoices", "()I"⟩
abbrev cX6_search : ByteArray := prog_8_method_4_code
def yX6_search : MethodName := ⟨RX6, "search", "(II)V"⟩
abbrev cX6_leastCostFrom : ByteArray := prog_8_method_5_code
def yX6_leastCostFrom : MethodName := ⟨RX6, "leastCostFrom", "(I)I"⟩
abbrev cX6_leastCostAlone : ByteArray := prog_8_method_6_code
def yX6_leastCostAlone : MethodName := ⟨RX6, "leastCostAlone", "(LRoomsOfAir$Flight;)I"⟩
abbrev cX6_fits : ByteArray := prog_8_method_7_code
def yX6_fits : MethodName := ⟨RX6, "fits", "(LRoomsOfAir$Flight;II)Z"⟩
abbrev cX6_changeFreeRoom : ByteArray := prog_8_method_8_code
def yX6_changeFreeRoom : MethodName := ⟨RX6, "changeFreeRoom", "(LRoomsOfAir$Flight;III)V"⟩
def RX7 : String := "RoomsOfAir$Sheet"
def TX7 : u_T := fun k => match k with
  | 0 => ("RoomsOfAir$Sheet", "lane", "I", false)
  | 1 => ("RoomsOfAir$Sheet", "size", "I", false)
  | _ => ("RoomsOfAir$Sheet", "items", "[I", true)
def tyX7 : Nat → FieldType := fun k => match k with
  | 0 => .int
  | 1 => .int
  | _ => .array .int
abbrev wsX70 : List Cond := u_ws RX7 TX7 3
theorem nmX7 : ∀ a, a < 3 → ∀ b, b < 3 → a ≠ b → (TX7 a).2.1 ≠ (TX7 b).2.1 := by decide +kernel
theorem tyX7_ok : ∀ k, k < 3 → parseFieldDescriptor (TX7 k).2.2.1 = some (tyX7 k) := by decide +kernel
abbrev cX7_init : ByteArray := prog_9_method_1_code
def yX7_init : MethodName := ⟨RX7, "<init>", "()V"⟩
abbrev cX7_isMissing : ByteArray := prog_9_method_2_code
def yX7_isMissing : MethodName := ⟨RX7, "isMissing", "()Z"⟩
abbrev cX7_begin : ByteArray := prog_9_method_3_code
def yX7_begin : MethodName := ⟨RX7, "begin", "(II)V"⟩
abbrev cX7_end : ByteArray := prog_9_method_4_code
def yX7_end : MethodName := ⟨RX7, "end", "()I"⟩
abbrev cX7_hasPlaces : ByteArray := prog_9_method_5_code
def yX7_hasPlaces : MethodName := ⟨RX7, "hasPlaces", "(II)Z"⟩
abbrev cX7_findingFor : ByteArray := prog_9_method_6_code
def yX7_findingFor : MethodName := ⟨RX7, "findingFor", "(II)I"⟩
abbrev cX7_hasOnlyUpTo : ByteArray := prog_9_method_7_code
def yX7_hasOnlyUpTo : MethodName := ⟨RX7, "hasOnlyUpTo", "(III)Z"⟩
abbrev cX7_put : ByteArray := prog_9_method_8_code
def yX7_put : MethodName := ⟨RX7, "put", "(II)I"⟩
def RX8 : String := "RoomsOfAir$Sky"
def TX8 : u_T := fun k => match k with
  | 0 => ("RoomsOfAir$Sky", "land", "LRoomsOfAir$Land;", true)
  | 1 => ("RoomsOfAir$Sky", "fleet", "LRoomsOfAir$Fleet;", true)
  | 2 => ("RoomsOfAir$Sky", "loads", "[I", true)
  | 3 => ("RoomsOfAir$Sky", "safes", "[I", true)
  | _ => ("RoomsOfAir$Sky", "path", "[I", true)
def tyX8 : Nat → FieldType := fun k => match k with
  | 0 => .object "RoomsOfAir$Land"
  | 1 => .object "RoomsOfAir$Fleet"
  | 2 => .array .int
  | 3 => .array .int
  | _ => .array .int
abbrev wsX80 : List Cond := u_ws RX8 TX8 5
theorem nmX8 : ∀ a, a < 5 → ∀ b, b < 5 → a ≠ b → (TX8 a).2.1 ≠ (TX8 b).2.1 := by decide +kernel
theorem tyX8_ok : ∀ k, k < 5 → parseFieldDescriptor (TX8 k).2.2.1 = some (tyX8 k) := by decide +kernel
abbrev cX8_init : ByteArray := prog_10_method_1_code
def yX8_init : MethodName := ⟨RX8, "<init>", "(LRoomsOfAir$Land;LRoomsOfAir$Fleet;)V"⟩
abbrev cX8_refresh : ByteArray := prog_10_method_2_code
def yX8_refresh : MethodName := ⟨RX8, "refresh", "()V"⟩
abbrev cX8_tooMuchIn : ByteArray := prog_10_method_3_code
def yX8_tooMuchIn : MethodName := ⟨RX8, "tooMuchIn", "(I)I"⟩
abbrev cX8_tooMuchTogether : ByteArray := prog_10_method_4_code
def yX8_tooMuchTogether : MethodName := ⟨RX8, "tooMuchTogether", "()I"⟩
abbrev cX8_crowdedCells : ByteArray := prog_10_method_5_code
def yX8_crowdedCells : MethodName := ⟨RX8, "crowdedCells", "()I"⟩
abbrev cX8_greatestLoad : ByteArray := prog_10_method_6_code
def yX8_greatestLoad : MethodName := ⟨RX8, "greatestLoad", "()I"⟩
abbrev cX8_isCrowdedAround : ByteArray := prog_10_method_7_code
def yX8_isCrowdedAround : MethodName := ⟨RX8, "isCrowdedAround", "(LRoomsOfAir$Flight;)Z"⟩
def RX9 : String := "RoomsOfAir$Splitter"
def TX9 : u_T := fun k => match k with
  | 0 => ("RoomsOfAir$Splitter", "land", "LRoomsOfAir$Land;", true)
  | 1 => ("RoomsOfAir$Splitter", "sky", "LRoomsOfAir$Sky;", true)
  | 2 => ("RoomsOfAir$Splitter", "harms", "[I", true)
  | 3 => ("RoomsOfAir$Splitter", "harmsBehind", "[I", true)
  | 4 => ("RoomsOfAir$Splitter", "relieved", "[I", true)
  | 5 => ("RoomsOfAir$Splitter", "plan", "[I", true)
  | _ => ("RoomsOfAir$Splitter", "leastHarm", "I", false)
def tyX9 : Nat → FieldType := fun k => match k with
  | 0 => .object "RoomsOfAir$Land"
  | 1 => .object "RoomsOfAir$Sky"
  | 2 => .array .int
  | 3 => .array .int
  | 4 => .array .int
  | 5 => .array .int
  | _ => .int
abbrev wsX90 : List Cond := u_ws RX9 TX9 7
theorem nmX9 : ∀ a, a < 7 → ∀ b, b < 7 → a ≠ b → (TX9 a).2.1 ≠ (TX9 b).2.1 := by decide +kernel
theorem tyX9_ok : ∀ k, k < 7 → parseFieldDescriptor (TX9 k).2.2.1 = some (tyX9 k) := by decide +kernel
abbrev cX9_init : ByteArray := prog_11_method_1_code
def yX9_init : MethodName := ⟨RX9, "<init>", "(LRoomsOfAir$Land;LRoomsOfAir$Sky;)V"⟩
abbrev cX9_makePlan : ByteArray := prog_11_method_2_code
def yX9_makePlan : MethodName := ⟨RX9, "makePlan", "()V"⟩
abbrev cX9_weighSlot : ByteArray := prog_11_method_3_code
def yX9_weighSlot : MethodName := ⟨RX9, "weighSlot", "(I)V"⟩
abbrev cX9_fillRelieved : ByteArray := prog_11_method_4_code
def yX9_fillRelieved : MethodName := ⟨RX9, "fillRelieved", "(I)V"⟩
abbrev cX9_reliefBySplit : ByteArray := prog_11_method_5_code
def yX9_reliefBySplit : MethodName := ⟨RX9, "reliefBySplit", "(I)I"⟩
abbrev cX9_addChangesAhead : ByteArray := prog_11_method_6_code
def yX9_addChangesAhead : MethodName := ⟨RX9, "addChangesAhead", "()V"⟩
abbrev cX9_bestSetBehind : ByteArray := prog_11_method_7_code
def yX9_bestSetBehind : MethodName := ⟨RX9, "bestSetBehind", "(II)I"⟩
def RX10 : String := "RoomsOfAir$Tokens"
def TX10 : u_T := fun k => match k with
  | 0 => ("RoomsOfAir$Tokens", "bytes", "[I", true)
  | 1 => ("RoomsOfAir$Tokens", "length", "I", false)
  | 2 => ("RoomsOfAir$Tokens", "next", "I", false)
  | 3 => ("RoomsOfAir$Tokens", "type", "I", false)
  | 4 => ("RoomsOfAir$Tokens", "first", "I", false)
  | _ => ("RoomsOfAir$Tokens", "value", "J", false)
def tyX10 : Nat → FieldType := fun k => match k with
  | 0 => .array .int
  | 1 => .int
  | 2 => .int
  | 3 => .int
  | 4 => .int
  | _ => .long
abbrev wsX100 : List Cond := u_ws RX10 TX10 6
theorem nmX10 : ∀ a, a < 6 → ∀ b, b < 6 → a ≠ b → (TX10 a).2.1 ≠ (TX10 b).2.1 := by decide +kernel
theorem tyX10_ok : ∀ k, k < 6 → parseFieldDescriptor (TX10 k).2.2.1 = some (tyX10 k) := by decide +kernel
abbrev cX10_init : ByteArray := prog_12_method_1_code
def yX10_init : MethodName := ⟨RX10, "<init>", "()V"⟩
abbrev cX10_takeBytes : ByteArray := prog_12_method_2_code
def yX10_takeBytes : MethodName := ⟨RX10, "takeBytes", "(JI)Z"⟩
abbrev cX10_rewind : ByteArray := prog_12_method_3_code
def yX10_rewind : MethodName := ⟨RX10, "rewind", "()V"⟩
abbrev cX10_advance : ByteArray := prog_12_method_4_code
def yX10_advance : MethodName := ⟨RX10, "advance", "()V"⟩
abbrev cX10_isName : ByteArray := prog_12_method_5_code
def yX10_isName : MethodName := ⟨RX10, "isName", "(J)Z"⟩
abbrev cX10_typeOf : ByteArray := prog_12_method_6_code
def yX10_typeOf : MethodName := ⟨RX10, "typeOf", "(I)I"⟩
def RX11 : String := "RoomsOfAir"
def TX11 : u_T := fun k => match k with
  | 0 => ("RoomsOfAir", "sheets", "[LRoomsOfAir$Sheet;", true)
  | 1 => ("RoomsOfAir", "land", "LRoomsOfAir$Land;", true)
  | 2 => ("RoomsOfAir", "fleet", "LRoomsOfAir$Fleet;", true)
  | 3 => ("RoomsOfAir", "tape", "LRoomsOfAir$Tokens;", true)
  | 4 => ("RoomsOfAir", "reader", "LRoomsOfAir$Reader;", true)
  | 5 => ("RoomsOfAir", "sky", "LRoomsOfAir$Sky;", true)
  | 6 => ("RoomsOfAir", "splitter", "LRoomsOfAir$Splitter;", true)
  | 7 => ("RoomsOfAir", "settler", "LRoomsOfAir$Settler;", true)
  | 8 => ("RoomsOfAir", "ledger", "LRoomsOfAir$Ledger;", true)
  | 9 => ("RoomsOfAir", "asks", "LRoomsOfAir$Asks;", true)
  | 10 => ("RoomsOfAir", "latestFinding", "I", false)
  | _ => ("RoomsOfAir", "latestFault", "I", false)
def tyX11 : Nat → FieldType := fun k => match k with
  | 0 => .array (.object "RoomsOfAir$Sheet")
  | 1 => .object "RoomsOfAir$Land"
  | 2 => .object "RoomsOfAir$Fleet"
  | 3 => .object "RoomsOfAir$Tokens"
  | 4 => .object "RoomsOfAir$Reader"
  | 5 => .object "RoomsOfAir$Sky"
  | 6 => .object "RoomsOfAir$Splitter"
  | 7 => .object "RoomsOfAir$Settler"
  | 8 => .object "RoomsOfAir$Ledger"
  | 9 => .object "RoomsOfAir$Asks"
  | 10 => .int
  | _ => .int
abbrev wsX110 : List Cond := u_ws RX11 TX11 12
theorem nmX11 : ∀ a, a < 12 → ∀ b, b < 12 → a ≠ b → (TX11 a).2.1 ≠ (TX11 b).2.1 := by decide +kernel
theorem tyX11_ok : ∀ k, k < 12 → parseFieldDescriptor (TX11 k).2.2.1 = some (tyX11 k) := by decide +kernel
abbrev cX11_init : ByteArray := prog_1_method_1_code
def yX11_init : MethodName := ⟨RX11, "<init>", "()V"⟩
abbrev cX11_sheet : ByteArray := prog_1_method_2_code
def yX11_sheet : MethodName := ⟨RX11, "sheet", "(III)I"⟩
abbrev cX11_set : ByteArray := prog_1_method_3_code
def yX11_set : MethodName := ⟨RX11, "set", "(III)I"⟩
abbrev cX11_copy : ByteArray := prog_1_method_4_code
def yX11_copy : MethodName := ⟨RX11, "copy", "(IIIII)I"⟩
abbrev cX11_drop : ByteArray := prog_1_method_5_code
def yX11_drop : MethodName := ⟨RX11, "drop", "(I)I"⟩
abbrev cX11_bears : ByteArray := prog_1_method_6_code
def yX11_bears : MethodName := ⟨RX11, "bears", "(IIIII)I"⟩
abbrev cX11_staff : ByteArray := prog_1_method_7_code
def yX11_staff : MethodName := ⟨RX11, "staff", "(IIII)I"⟩
abbrev cX11_look : ByteArray := prog_1_method_8_code
def yX11_look : MethodName := ⟨RX11, "look", "(I)I"⟩
abbrev cX11_safe : ByteArray := prog_1_method_9_code
def yX11_safe : MethodName := ⟨RX11, "safe", "(III)I"⟩
abbrev cX11_feed : ByteArray := prog_1_method_10_code
def yX11_feed : MethodName := ⟨RX11, "feed", "(JI)I"⟩
abbrev cX11_read : ByteArray := prog_1_method_11_code
def yX11_read : MethodName := ⟨RX11, "read", "()I"⟩
abbrev cX11_fault : ByteArray := prog_1_method_12_code
def yX11_fault : MethodName := ⟨RX11, "fault", "()I"⟩
abbrev cX11_told : ByteArray := prog_1_method_13_code
def yX11_told : MethodName := ⟨RX11, "told", "(II)I"⟩
abbrev cX11_leg : ByteArray := prog_1_method_14_code
def yX11_leg : MethodName := ⟨RX11, "leg", "(IIII)I"⟩
abbrev cX11_choose : ByteArray := prog_1_method_15_code
def yX11_choose : MethodName := ⟨RX11, "choose", "(III)I"⟩
abbrev cX11_at : ByteArray := prog_1_method_16_code
def yX11_at : MethodName := ⟨RX11, "at", "(II)I"⟩
abbrev cX11_load : ByteArray := prog_1_method_17_code
def yX11_load : MethodName := ⟨RX11, "load", "(III)I"⟩
abbrev cX11_all : ByteArray := prog_1_method_18_code
def yX11_all : MethodName := ⟨RX11, "all", "(I)I"⟩
abbrev cX11_known : ByteArray := prog_1_method_19_code
def yX11_known : MethodName := ⟨RX11, "known", "(III)I"⟩
abbrev cX11_split : ByteArray := prog_1_method_20_code
def yX11_split : MethodName := ⟨RX11, "split", "(I)I"⟩
abbrev cX11_settle : ByteArray := prog_1_method_21_code
def yX11_settle : MethodName := ⟨RX11, "settle", "(I)I"⟩
abbrev cX11_harmless : ByteArray := prog_1_method_22_code
def yX11_harmless : MethodName := ⟨RX11, "harmless", "(II)I"⟩
abbrev cX11_swap : ByteArray := prog_1_method_23_code
def yX11_swap : MethodName := ⟨RX11, "swap", "()I"⟩
abbrev cX11_airline : ByteArray := prog_1_method_24_code
def yX11_airline : MethodName := ⟨RX11, "airline", "(II)I"⟩
abbrev cX11_kind : ByteArray := prog_1_method_25_code
def yX11_kind : MethodName := ⟨RX11, "kind", "(I)I"⟩
abbrev cX11_as : ByteArray := prog_1_method_26_code
def yX11_as : MethodName := ⟨RX11, "as", "(II)I"⟩
abbrev cX11_ask : ByteArray := prog_1_method_27_code
def yX11_ask : MethodName := ⟨RX11, "ask", "(II)I"⟩
abbrev cX11_trace : ByteArray := prog_1_method_28_code
def yX11_trace : MethodName := ⟨RX11, "trace", "(I)I"⟩
abbrev cX11_count : ByteArray := prog_1_method_29_code
def yX11_count : MethodName := ⟨RX11, "count", "(I)I"⟩
abbrev cX11_status : ByteArray := prog_1_method_30_code
def yX11_status : MethodName := ⟨RX11, "status", "()I"⟩
abbrev cX11_isRoom : ByteArray := prog_1_method_31_code
def yX11_isRoom : MethodName := ⟨RX11, "isRoom", "(I)Z"⟩
abbrev cX11_isSlot : ByteArray := prog_1_method_32_code
def yX11_isSlot : MethodName := ⟨RX11, "isSlot", "(I)Z"⟩
abbrev cX11_areSlots : ByteArray := prog_1_method_33_code
def yX11_areSlots : MethodName := ⟨RX11, "areSlots", "(II)Z"⟩
abbrev cX11_cellOf : ByteArray := prog_1_method_34_code
def yX11_cellOf : MethodName := ⟨RX11, "cellOf", "(II)I"⟩
abbrev cX11_sheetOrNull : ByteArray := prog_1_method_35_code
def yX11_sheetOrNull : MethodName := ⟨RX11, "sheetOrNull", "(I)LRoomsOfAir$Sheet;"⟩
abbrev cX11_found : ByteArray := prog_1_method_36_code
def yX11_found : MethodName := ⟨RX11, "found", "(I)I"⟩
abbrev cX11_withoutFinding : ByteArray := prog_1_method_37_code
def yX11_withoutFinding : MethodName := ⟨RX11, "withoutFinding", "(I)I"⟩
abbrev cX11_fillFromSheet : ByteArray := prog_1_method_38_code
def yX11_fillFromSheet : MethodName := ⟨RX11, "fillFromSheet", "([IIIIII)I"⟩
abbrev cX11_sheetsThere : ByteArray := prog_1_method_39_code
def yX11_sheetsThere : MethodName := ⟨RX11, "sheetsThere", "()I"⟩
abbrev cX11_flightsTold : ByteArray := prog_1_method_40_code
def yX11_flightsTold : MethodName := ⟨RX11, "flightsTold", "(I)I"⟩
abbrev cX11_harmsNone : ByteArray := prog_1_method_41_code
def yX11_harmsNone : MethodName := ⟨RX11, "harmsNone", "(LRoomsOfAir$Flight;LRoomsOfAir$Flight;)Z"⟩
abbrev cX11_exchangeDelays : ByteArray := prog_1_method_42_code
def yX11_exchangeDelays : MethodName := ⟨RX11, "exchangeDelays", "(LRoomsOfAir$Flight;LRoomsOfAir$Flight;)V"⟩
def RX12 : String := "RoomsOfAirModel"
def TX12 : u_T := fun k => match k with
  | 0 => ("RoomsOfAirModel", "thrown", "I", false)
  | 1 => ("RoomsOfAirModel", "status", "I", false)
  | 2 => ("RoomsOfAirModel", "lane", "[I", true)
  | 3 => ("RoomsOfAirModel", "many", "[I", true)
  | 4 => ("RoomsOfAirModel", "item", "[I", true)
  | 5 => ("RoomsOfAirModel", "base", "[I", true)
  | 6 => ("RoomsOfAirModel", "staff", "[I", true)
  | 7 => ("RoomsOfAirModel", "looked", "I", false)
  | 8 => ("RoomsOfAirModel", "storms", "I", false)
  | 9 => ("RoomsOfAirModel", "storm", "[I", true)
  | 10 => ("RoomsOfAirModel", "flights", "I", false)
  | 11 => ("RoomsOfAirModel", "flight", "[I", true)
  | 12 => ("RoomsOfAirModel", "legRoom", "[I", true)
  | 13 => ("RoomsOfAirModel", "legSlots", "[I", true)
  | 14 => ("RoomsOfAirModel", "way", "[I", true)
  | 15 => ("RoomsOfAirModel", "delay", "[I", true)
  | 16 => ("RoomsOfAirModel", "tape", "[I", true)
  | 17 => ("RoomsOfAirModel", "taped", "I", false)
  | 18 => ("RoomsOfAirModel", "latest", "I", false)
  | 19 => ("RoomsOfAirModel", "size", "I", false)
  | 20 => ("RoomsOfAirModel", "cursor", "I", false)
  | 21 => ("RoomsOfAirModel", "token", "I", false)
  | 22 => ("RoomsOfAirModel", "from", "I", false)
  | 23 => ("RoomsOfAirModel", "till", "I", false)
  | 24 => ("RoomsOfAirModel", "fault", "I", false)
  | 25 => ("RoomsOfAirModel", "faultAt", "I", false)
  | 26 => ("RoomsOfAirModel", "newFlights", "I", false)
  | 27 => ("RoomsOfAirModel", "newStorms", "I", false)
  | 28 => ("RoomsOfAirModel", "borne", "I", false)
  | 29 => ("RoomsOfAirModel", "bearRoom", "[I", true)
  | 30 => ("RoomsOfAirModel", "bearNumber", "[I", true)
  | 31 => ("RoomsOfAirModel", "by", "[I", true)
  | 32 => ("RoomsOfAirModel", "share", "[I", true)
  | 33 => ("RoomsOfAirModel", "harm", "[I", true)
  | 34 => ("RoomsOfAirModel", "least", "[I", true)
  | 35 => ("RoomsOfAirModel", "best", "[I", true)
  | 36 => ("RoomsOfAirModel", "laid", "[I", true)
  | 37 => ("RoomsOfAirModel", "who", "[I", true)
  | 38 => ("RoomsOfAirModel", "tried", "[I", true)
  | 39 => ("RoomsOfAirModel", "chosen", "[I", true)
  | 40 => ("RoomsOfAirModel", "trace", "[I", true)
  | _ => ("RoomsOfAirModel", "traced", "I", false)
def tyX12 : Nat → FieldType := fun k => match k with
  | 0 => .int
  | 1 => .int
  | 2 => .array .int
  | 3 => .array .int
  | 4 => .array .int
  | 5 => .array .int
  | 6 => .array .int
  | 7 => .int
  | 8 => .int
  | 9 => .array .int
  | 10 => .int
  | 11 => .array .int
  | 12 => .array .int
  | 13 => .array .int
  | 14 => .array .int
  | 15 => .array .int
  | 16 => .array .int
  | 17 => .int
  | 18 => .int
  | 19 => .int
  | 20 => .int
  | 21 => .int
  | 22 => .int
  | 23 => .int
  | 24 => .int
  | 25 => .int
  | 26 => .int
  | 27 => .int
  | 28 => .int
  | 29 => .array .int
  | 30 => .array .int
  | 31 => .array .int
  | 32 => .array .int
  | 33 => .array .int
  | 34 => .array .int
  | 35 => .array .int
  | 36 => .array .int
  | 37 => .array .int
  | 38 => .array .int
  | 39 => .array .int
  | 40 => .array .int
  | _ => .int
abbrev wsX120 : List Cond := u_ws RX12 TX12 42
theorem nmX12 : ∀ a, a < 42 → ∀ b, b < 42 → a ≠ b → (TX12 a).2.1 ≠ (TX12 b).2.1 := by decide +kernel
theorem tyX12_ok : ∀ k, k < 42 → parseFieldDescriptor (TX12 k).2.2.1 = some (tyX12 k) := by decide +kernel
abbrev cX12_in : ByteArray := prog_14_method_2_code
def yX12_in : MethodName := ⟨RX12, "in", "(JJJ)Z"⟩
abbrev cX12_found : ByteArray := prog_14_method_3_code
def yX12_found : MethodName := ⟨RX12, "found", "(I)I"⟩
abbrev cX12_isSheet : ByteArray := prog_14_method_4_code
def yX12_isSheet : MethodName := ⟨RX12, "isSheet", "(I)Z"⟩
abbrev cX12_sheet : ByteArray := prog_14_method_5_code
def yX12_sheet : MethodName := ⟨RX12, "sheet", "(III)I"⟩
abbrev cX12_set : ByteArray := prog_14_method_6_code
def yX12_set : MethodName := ⟨RX12, "set", "(III)I"⟩
abbrev cX12_copy : ByteArray := prog_14_method_7_code
def yX12_copy : MethodName := ⟨RX12, "copy", "(IIIII)I"⟩
abbrev cX12_drop : ByteArray := prog_14_method_8_code
def yX12_drop : MethodName := ⟨RX12, "drop", "(I)I"⟩
abbrev cX12_init : ByteArray := prog_14_method_9_code
def yX12_init : MethodName := ⟨RX12, "<init>", "()V"⟩
abbrev cX12_isRoom : ByteArray := prog_14_method_10_code
def yX12_isRoom : MethodName := ⟨RX12, "isRoom", "(I)Z"⟩
abbrev cX12_isSlot : ByteArray := prog_14_method_11_code
def yX12_isSlot : MethodName := ⟨RX12, "isSlot", "(I)Z"⟩
abbrev cX12_lookItems : ByteArray := prog_14_method_12_code
def yX12_lookItems : MethodName := ⟨RX12, "lookItems", "(IIII)I"⟩
abbrev cX12_bears : ByteArray := prog_14_method_13_code
def yX12_bears : MethodName := ⟨RX12, "bears", "(IIIII)I"⟩
abbrev cX12_staff : ByteArray := prog_14_method_14_code
def yX12_staff : MethodName := ⟨RX12, "staff", "(IIII)I"⟩
abbrev cX12_look : ByteArray := prog_14_method_15_code
def yX12_look : MethodName := ⟨RX12, "look", "(I)I"⟩
abbrev cX12_bearsIn : ByteArray := prog_14_method_16_code
def yX12_bearsIn : MethodName := ⟨RX12, "bearsIn", "(III)I"⟩
abbrev cX12_safeOf : ByteArray := prog_14_method_17_code
def yX12_safeOf : MethodName := ⟨RX12, "safeOf", "(II)I"⟩
abbrev cX12_safe : ByteArray := prog_14_method_18_code
def yX12_safe : MethodName := ⟨RX12, "safe", "(III)I"⟩
abbrev cX12_isFlight : ByteArray := prog_14_method_19_code
def yX12_isFlight : MethodName := ⟨RX12, "isFlight", "(I)Z"⟩
abbrev cX12_costBy : ByteArray := prog_14_method_20_code
def yX12_costBy : MethodName := ⟨RX12, "costBy", "(III)I"⟩
abbrev cX12_costOf : ByteArray := prog_14_method_21_code
def yX12_costOf : MethodName := ⟨RX12, "costOf", "(I)I"⟩
abbrev cX12_roomBy : ByteArray := prog_14_method_22_code
def yX12_roomBy : MethodName := ⟨RX12, "roomBy", "(IIII)I"⟩
abbrev cX12_slotsOf : ByteArray := prog_14_method_23_code
def yX12_slotsOf : MethodName := ⟨RX12, "slotsOf", "(II)I"⟩
abbrev cX12_feed : ByteArray := prog_14_method_24_code
def yX12_feed : MethodName := ⟨RX12, "feed", "(JI)I"⟩
abbrev cX12_byteAt : ByteArray := prog_14_method_25_code
def yX12_byteAt : MethodName := ⟨RX12, "byteAt", "(I)I"⟩
abbrev cX12_isLetter : ByteArray := prog_14_method_26_code
def yX12_isLetter : MethodName := ⟨RX12, "isLetter", "(I)Z"⟩
abbrev cX12_isFigure : ByteArray := prog_14_method_27_code
def yX12_isFigure : MethodName := ⟨RX12, "isFigure", "(I)Z"⟩
abbrev cX12_step : ByteArray := prog_14_method_28_code
def yX12_step : MethodName := ⟨RX12, "step", "()V"⟩
abbrev cX12_bad : ByteArray := prog_14_method_29_code
def yX12_bad : MethodName := ⟨RX12, "bad", "(I)V"⟩
abbrev cX12_need : ByteArray := prog_14_method_30_code
def yX12_need : MethodName := ⟨RX12, "need", "(Z)V"⟩
abbrev cX12_is : ByteArray := prog_14_method_31_code
def yX12_is : MethodName := ⟨RX12, "is", "(I)Z"⟩
abbrev cX12_word : ByteArray := prog_14_method_32_code
def yX12_word : MethodName := ⟨RX12, "word", "()J"⟩
abbrev cX12_numberIn : ByteArray := prog_14_method_33_code
def yX12_numberIn : MethodName := ⟨RX12, "numberIn", "(II)I"⟩
abbrev cX12_readWay : ByteArray := prog_14_method_34_code
def yX12_readWay : MethodName := ⟨RX12, "readWay", "(I)V"⟩
abbrev cX12_readFlight : ByteArray := prog_14_method_35_code
def yX12_readFlight : MethodName := ⟨RX12, "readFlight", "()V"⟩
abbrev cX12_readStorm : ByteArray := prog_14_method_36_code
def yX12_readStorm : MethodName := ⟨RX12, "readStorm", "()V"⟩
abbrev cX12_read : ByteArray := prog_14_method_37_code
def yX12_read : MethodName := ⟨RX12, "read", "()I"⟩
abbrev cX12_fault : ByteArray := prog_14_method_38_code
def yX12_fault : MethodName := ⟨RX12, "fault", "()I"⟩
abbrev cX12_told : ByteArray := prog_14_method_39_code
def yX12_told : MethodName := ⟨RX12, "told", "(II)I"⟩
abbrev cX12_leg : ByteArray := prog_14_method_40_code
def yX12_leg : MethodName := ⟨RX12, "leg", "(IIII)I"⟩
abbrev cX12_choose : ByteArray := prog_14_method_41_code
def yX12_choose : MethodName := ⟨RX12, "choose", "(III)I"⟩
abbrev cX12_at : ByteArray := prog_14_method_42_code
def yX12_at : MethodName := ⟨RX12, "at", "(II)I"⟩
abbrev cX12_loadOf : ByteArray := prog_14_method_43_code
def yX12_loadOf : MethodName := ⟨RX12, "loadOf", "(II)I"⟩
abbrev cX12_overOf : ByteArray := prog_14_method_44_code
def yX12_overOf : MethodName := ⟨RX12, "overOf", "(II)I"⟩
abbrev cX12_overAll : ByteArray := prog_14_method_45_code
def yX12_overAll : MethodName := ⟨RX12, "overAll", "()I"⟩
abbrev cX12_load : ByteArray := prog_14_method_46_code
def yX12_load : MethodName := ⟨RX12, "load", "(III)I"⟩
abbrev cX12_distance : ByteArray := prog_14_method_47_code
def yX12_distance : MethodName := ⟨RX12, "distance", "(I)I"⟩
abbrev cX12_give : ByteArray := prog_14_method_48_code
def yX12_give : MethodName := ⟨RX12, "give", "(II)V"⟩
abbrev cX12_delaysOf : ByteArray := prog_14_method_49_code
def yX12_delaysOf : MethodName := ⟨RX12, "delaysOf", "(I)I"⟩
abbrev cX12_flightsOf : ByteArray := prog_14_method_50_code
def yX12_flightsOf : MethodName := ⟨RX12, "flightsOf", "(I)I"⟩
abbrev cX12_shares : ByteArray := prog_14_method_51_code
def yX12_shares : MethodName := ⟨RX12, "shares", "()V"⟩
abbrev cX12_all : ByteArray := prog_14_method_52_code
def yX12_all : MethodName := ⟨RX12, "all", "(I)I"⟩
abbrev cX12_known : ByteArray := prog_14_method_53_code
def yX12_known : MethodName := ⟨RX12, "known", "(III)I"⟩
abbrev cX12_bits : ByteArray := prog_14_method_54_code
def yX12_bits : MethodName := ⟨RX12, "bits", "(I)I"⟩
abbrev cX12_findSplits : ByteArray := prog_14_method_55_code
def yX12_findSplits : MethodName := ⟨RX12, "findSplits", "()V"⟩
abbrev cX12_split : ByteArray := prog_14_method_56_code
def yX12_split : MethodName := ⟨RX12, "split", "(I)I"⟩
abbrev cX12_lay : ByteArray := prog_14_method_57_code
def yX12_lay : MethodName := ⟨RX12, "lay", "(III)V"⟩
abbrev cX12_fits : ByteArray := prog_14_method_58_code
def yX12_fits : MethodName := ⟨RX12, "fits", "(II)Z"⟩
abbrev cX12_settle : ByteArray := prog_14_method_59_code
def yX12_settle : MethodName := ⟨RX12, "settle", "(I)I"⟩
abbrev cX12_exchange : ByteArray := prog_14_method_60_code
def yX12_exchange : MethodName := ⟨RX12, "exchange", "(II)V"⟩
abbrev cX12_isHarmless : ByteArray := prog_14_method_61_code
def yX12_isHarmless : MethodName := ⟨RX12, "isHarmless", "(II)Z"⟩
abbrev cX12_harmless : ByteArray := prog_14_method_62_code
def yX12_harmless : MethodName := ⟨RX12, "harmless", "(II)I"⟩
abbrev cX12_swap : ByteArray := prog_14_method_63_code
def yX12_swap : MethodName := ⟨RX12, "swap", "()I"⟩
abbrev cX12_blameOf : ByteArray := prog_14_method_64_code
def yX12_blameOf : MethodName := ⟨RX12, "blameOf", "(I)I"⟩
abbrev cX12_airline : ByteArray := prog_14_method_65_code
def yX12_airline : MethodName := ⟨RX12, "airline", "(II)I"⟩
abbrev cX12_kindOf : ByteArray := prog_14_method_66_code
def yX12_kindOf : MethodName := ⟨RX12, "kindOf", "(I)I"⟩
abbrev cX12_isOf : ByteArray := prog_14_method_67_code
def yX12_isOf : MethodName := ⟨RX12, "isOf", "(II)Z"⟩
abbrev cX12_kind : ByteArray := prog_14_method_68_code
def yX12_kind : MethodName := ⟨RX12, "kind", "(I)I"⟩
abbrev cX12_as : ByteArray := prog_14_method_69_code
def yX12_as : MethodName := ⟨RX12, "as", "(II)I"⟩
abbrev cX12_began : ByteArray := prog_14_method_70_code
def yX12_began : MethodName := ⟨RX12, "began", "(I)V"⟩
abbrev cX12_markOf : ByteArray := prog_14_method_71_code
def yX12_markOf : MethodName := ⟨RX12, "markOf", "(II)I"⟩
abbrev cX12_sizeOf : ByteArray := prog_14_method_72_code
def yX12_sizeOf : MethodName := ⟨RX12, "sizeOf", "(II)I"⟩
abbrev cX12_ask : ByteArray := prog_14_method_73_code
def yX12_ask : MethodName := ⟨RX12, "ask", "(II)I"⟩
abbrev cX12_trace : ByteArray := prog_14_method_74_code
def yX12_trace : MethodName := ⟨RX12, "trace", "(I)I"⟩
abbrev cX12_count : ByteArray := prog_14_method_75_code
def yX12_count : MethodName := ⟨RX12, "count", "(I)I"⟩
abbrev cX12_status : ByteArray := prog_14_method_76_code
def yX12_status : MethodName := ⟨RX12, "status", "()I"⟩
def RJ6 : String := "java/lang/Integer"
abbrev cJ6_bitCount_0f7a4 : ByteArray := prog_15_method_49_code
def yJ6_bitCount_0f7a4 : MethodName := ⟨RJ6, "bitCount", "(I)I"⟩
def RJ9 : String := "java/lang/Math"
abbrev cJ9_abs_0f7a4 : ByteArray := prog_16_method_59_code
def yJ9_abs_0f7a4 : MethodName := ⟨RJ9, "abs", "(I)I"⟩
abbrev cJ9_max_7cf53 : ByteArray := prog_16_method_65_code
def yJ9_max_7cf53 : MethodName := ⟨RJ9, "max", "(II)I"⟩
abbrev cJ9_min_7cf53 : ByteArray := prog_16_method_69_code
def yJ9_min_7cf53 : MethodName := ⟨RJ9, "min", "(II)I"⟩
def RJ10 : String := "java/lang/System"
def RJ7 : String := "java/util/Arrays"
abbrev cJ7_fill_53178 : ByteArray := prog_18_method_103_code
def yJ7_fill_53178 : MethodName := ⟨RJ7, "fill", "([II)V"⟩
def RL : String := "RoomsOfAirLaw"
abbrev cL_law : ByteArray := code
def yL_law : MethodName := ⟨RL, "law", "([I)Z"⟩
abbrev vwCl : List vw_C := [(RX0, TX0, 3), (RX1, TX1, 2), (RX2, TX2, 10), (RX3, TX3, 9), (RX4, TX4, 5), (RX5, TX5, 8), (RX6, TX6, 9), (RX7, TX7, 3), (RX8, TX8, 5), (RX9, TX9, 7), (RX10, TX10, 6), (RX11, TX11, 12), (RX12, TX12, 42)]
