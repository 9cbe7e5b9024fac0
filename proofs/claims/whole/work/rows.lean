section
-- ===== PART A: goes FIRST, ahead of the names: the tables' words, and 'selects' of the private methods out of them =====
/-- a private method of a class that the tables say can be made, by its rows of tables_1 -/
def lw_okq (q : MethodName × Nat) : Prop := (q.1.cls ≠ "java/lang/invoke/MethodHandle" ∧ q.1.cls ≠ "java/lang/invoke/VarHandle") ∧ Cond.instantiable q.1.cls q.2 ∈ tables_1 ∧ Cond.privateMethod q.1 ∈ tables_1 ∧ Cond.instanceMethod q.1 ∈ tables_1
theorem lw_p0 : lw_okq (⟨"RoomsOfAir", "sheetOrNull", "(I)LRoomsOfAir$Sheet;"⟩, 12) := ⟨⟨by decide +kernel, by decide +kernel⟩, List.mem_of_getElem? (i := 19) (by decide +kernel), List.mem_of_getElem? (i := 423) (by decide +kernel), List.mem_of_getElem? (i := 424) (by decide +kernel)⟩
theorem lw_p1 : lw_okq (⟨"RoomsOfAir", "found", "(I)I"⟩, 12) := ⟨⟨by decide +kernel, by decide +kernel⟩, List.mem_of_getElem? (i := 19) (by decide +kernel), List.mem_of_getElem? (i := 428) (by decide +kernel), List.mem_of_getElem? (i := 429) (by decide +kernel)⟩
theorem lw_p2 : lw_okq (⟨"RoomsOfAir", "withoutFinding", "(I)I"⟩, 12) := ⟨⟨by decide +kernel, by decide +kernel⟩, List.mem_of_getElem? (i := 19) (by decide +kernel), List.mem_of_getElem? (i := 438) (by decide +kernel), List.mem_of_getElem? (i := 439) (by decide +kernel)⟩
theorem lw_p3 : lw_okq (⟨"RoomsOfAir", "fillFromSheet", "([IIIIII)I"⟩, 12) := ⟨⟨by decide +kernel, by decide +kernel⟩, List.mem_of_getElem? (i := 19) (by decide +kernel), List.mem_of_getElem? (i := 495) (by decide +kernel), List.mem_of_getElem? (i := 496) (by decide +kernel)⟩
theorem lw_p4 : lw_okq (⟨"RoomsOfAir$Reader", "readFlight", "()V"⟩, 8) := ⟨⟨by decide +kernel, by decide +kernel⟩, List.mem_of_getElem? (i := 200) (by decide +kernel), List.mem_of_getElem? (i := 565) (by decide +kernel), List.mem_of_getElem? (i := 566) (by decide +kernel)⟩
theorem lw_p5 : lw_okq (⟨"RoomsOfAir$Reader", "stopAt", "(I)V"⟩, 8) := ⟨⟨by decide +kernel, by decide +kernel⟩, List.mem_of_getElem? (i := 200) (by decide +kernel), List.mem_of_getElem? (i := 569) (by decide +kernel), List.mem_of_getElem? (i := 570) (by decide +kernel)⟩
theorem lw_p6 : lw_okq (⟨"RoomsOfAir$Reader", "readNumber", "(II)I"⟩, 8) := ⟨⟨by decide +kernel, by decide +kernel⟩, List.mem_of_getElem? (i := 200) (by decide +kernel), List.mem_of_getElem? (i := 578) (by decide +kernel), List.mem_of_getElem? (i := 579) (by decide +kernel)⟩
theorem lw_p7 : lw_okq (⟨"RoomsOfAir$Reader", "readWays", "(LRoomsOfAir$Flight;)V"⟩, 8) := ⟨⟨by decide +kernel, by decide +kernel⟩, List.mem_of_getElem? (i := 200) (by decide +kernel), List.mem_of_getElem? (i := 582) (by decide +kernel), List.mem_of_getElem? (i := 583) (by decide +kernel)⟩
theorem lw_p8 : lw_okq (⟨"RoomsOfAir$Reader", "readLegs", "(LRoomsOfAir$Flight;)V"⟩, 8) := ⟨⟨by decide +kernel, by decide +kernel⟩, List.mem_of_getElem? (i := 200) (by decide +kernel), List.mem_of_getElem? (i := 591) (by decide +kernel), List.mem_of_getElem? (i := 592) (by decide +kernel)⟩
theorem lw_p9 : lw_okq (⟨"RoomsOfAir$Reader", "readSemicolon", "()V"⟩, 8) := ⟨⟨by decide +kernel, by decide +kernel⟩, List.mem_of_getElem? (i := 200) (by decide +kernel), List.mem_of_getElem? (i := 599) (by decide +kernel), List.mem_of_getElem? (i := 600) (by decide +kernel)⟩
theorem lw_p10 : lw_okq (⟨"RoomsOfAir$Reader", "readBear", "()V"⟩, 8) := ⟨⟨by decide +kernel, by decide +kernel⟩, List.mem_of_getElem? (i := 200) (by decide +kernel), List.mem_of_getElem? (i := 604) (by decide +kernel), List.mem_of_getElem? (i := 605) (by decide +kernel)⟩
theorem lw_p11 : lw_okq (⟨"RoomsOfAir$Reader", "readStorm", "()V"⟩, 8) := ⟨⟨by decide +kernel, by decide +kernel⟩, List.mem_of_getElem? (i := 200) (by decide +kernel), List.mem_of_getElem? (i := 609) (by decide +kernel), List.mem_of_getElem? (i := 610) (by decide +kernel)⟩
theorem lw_p12 : lw_okq (⟨"RoomsOfAir$Land", "lowerByStorm", "([II)V"⟩, 9) := ⟨⟨by decide +kernel, by decide +kernel⟩, List.mem_of_getElem? (i := 29) (by decide +kernel), List.mem_of_getElem? (i := 676) (by decide +kernel), List.mem_of_getElem? (i := 677) (by decide +kernel)⟩
theorem lw_p13 : lw_okq (⟨"RoomsOfAir$Ledger", "divideDelays", "()V"⟩, 5) := ⟨⟨by decide +kernel, by decide +kernel⟩, List.mem_of_getElem? (i := 325) (by decide +kernel), List.mem_of_getElem? (i := 714) (by decide +kernel), List.mem_of_getElem? (i := 715) (by decide +kernel)⟩
theorem lw_p14 : lw_okq (⟨"RoomsOfAir$Ledger", "divide", "(II)V"⟩, 5) := ⟨⟨by decide +kernel, by decide +kernel⟩, List.mem_of_getElem? (i := 325) (by decide +kernel), List.mem_of_getElem? (i := 723) (by decide +kernel), List.mem_of_getElem? (i := 724) (by decide +kernel)⟩
theorem lw_p15 : lw_okq (⟨"RoomsOfAir$Ledger", "ownerOfGreatestRest", "()I"⟩, 5) := ⟨⟨by decide +kernel, by decide +kernel⟩, List.mem_of_getElem? (i := 325) (by decide +kernel), List.mem_of_getElem? (i := 728) (by decide +kernel), List.mem_of_getElem? (i := 729) (by decide +kernel)⟩
def lw_privs_1 : List (MethodName × Nat) := [(⟨"RoomsOfAir", "sheetOrNull", "(I)LRoomsOfAir$Sheet;"⟩, 12), (⟨"RoomsOfAir", "found", "(I)I"⟩, 12), (⟨"RoomsOfAir", "withoutFinding", "(I)I"⟩, 12), (⟨"RoomsOfAir", "fillFromSheet", "([IIIIII)I"⟩, 12), (⟨"RoomsOfAir$Reader", "readFlight", "()V"⟩, 8), (⟨"RoomsOfAir$Reader", "stopAt", "(I)V"⟩, 8), (⟨"RoomsOfAir$Reader", "readNumber", "(II)I"⟩, 8), (⟨"RoomsOfAir$Reader", "readWays", "(LRoomsOfAir$Flight;)V"⟩, 8), (⟨"RoomsOfAir$Reader", "readLegs", "(LRoomsOfAir$Flight;)V"⟩, 8), (⟨"RoomsOfAir$Reader", "readSemicolon", "()V"⟩, 8), (⟨"RoomsOfAir$Reader", "readBear", "()V"⟩, 8), (⟨"RoomsOfAir$Reader", "readStorm", "()V"⟩, 8), (⟨"RoomsOfAir$Land", "lowerByStorm", "([II)V"⟩, 9), (⟨"RoomsOfAir$Ledger", "divideDelays", "()V"⟩, 5), (⟨"RoomsOfAir$Ledger", "divide", "(II)V"⟩, 5), (⟨"RoomsOfAir$Ledger", "ownerOfGreatestRest", "()I"⟩, 5)]
theorem lw_r1 : ∀ q ∈ lw_privs_1, lw_okq q := List.forall_mem_cons.mpr ⟨lw_p0, List.forall_mem_cons.mpr ⟨lw_p1, List.forall_mem_cons.mpr ⟨lw_p2, List.forall_mem_cons.mpr ⟨lw_p3, List.forall_mem_cons.mpr ⟨lw_p4, List.forall_mem_cons.mpr ⟨lw_p5, List.forall_mem_cons.mpr ⟨lw_p6, List.forall_mem_cons.mpr ⟨lw_p7, List.forall_mem_cons.mpr ⟨lw_p8, List.forall_mem_cons.mpr ⟨lw_p9, List.forall_mem_cons.mpr ⟨lw_p10, List.forall_mem_cons.mpr ⟨lw_p11, List.forall_mem_cons.mpr ⟨lw_p12, List.forall_mem_cons.mpr ⟨lw_p13, List.forall_mem_cons.mpr ⟨lw_p14, List.forall_mem_cons.mpr ⟨lw_p15, fun _ h => absurd h List.not_mem_nil⟩⟩⟩⟩⟩⟩⟩⟩⟩⟩⟩⟩⟩⟩⟩⟩
theorem lw_p16 : lw_okq (⟨"RoomsOfAir$Splitter", "weighSlot", "(I)V"⟩, 7) := ⟨⟨by decide +kernel, by decide +kernel⟩, List.mem_of_getElem? (i := 260) (by decide +kernel), List.mem_of_getElem? (i := 765) (by decide +kernel), List.mem_of_getElem? (i := 766) (by decide +kernel)⟩
theorem lw_p17 : lw_okq (⟨"RoomsOfAir$Splitter", "fillRelieved", "(I)V"⟩, 7) := ⟨⟨by decide +kernel, by decide +kernel⟩, List.mem_of_getElem? (i := 260) (by decide +kernel), List.mem_of_getElem? (i := 771) (by decide +kernel), List.mem_of_getElem? (i := 772) (by decide +kernel)⟩
theorem lw_p18 : lw_okq (⟨"RoomsOfAir$Splitter", "reliefBySplit", "(I)I"⟩, 7) := ⟨⟨by decide +kernel, by decide +kernel⟩, List.mem_of_getElem? (i := 260) (by decide +kernel), List.mem_of_getElem? (i := 775) (by decide +kernel), List.mem_of_getElem? (i := 776) (by decide +kernel)⟩
theorem lw_p19 : lw_okq (⟨"RoomsOfAir$Splitter", "addChangesAhead", "()V"⟩, 7) := ⟨⟨by decide +kernel, by decide +kernel⟩, List.mem_of_getElem? (i := 260) (by decide +kernel), List.mem_of_getElem? (i := 788) (by decide +kernel), List.mem_of_getElem? (i := 789) (by decide +kernel)⟩
theorem lw_p20 : lw_okq (⟨"RoomsOfAir$Splitter", "bestSetBehind", "(II)I"⟩, 7) := ⟨⟨by decide +kernel, by decide +kernel⟩, List.mem_of_getElem? (i := 260) (by decide +kernel), List.mem_of_getElem? (i := 792) (by decide +kernel), List.mem_of_getElem? (i := 793) (by decide +kernel)⟩
theorem lw_p21 : lw_okq (⟨"RoomsOfAir$Settler", "changeFreeRoom", "(LRoomsOfAir$Flight;III)V"⟩, 9) := ⟨⟨by decide +kernel, by decide +kernel⟩, List.mem_of_getElem? (i := 290) (by decide +kernel), List.mem_of_getElem? (i := 809) (by decide +kernel), List.mem_of_getElem? (i := 810) (by decide +kernel)⟩
theorem lw_p22 : lw_okq (⟨"RoomsOfAir$Settler", "search", "(II)V"⟩, 9) := ⟨⟨by decide +kernel, by decide +kernel⟩, List.mem_of_getElem? (i := 290) (by decide +kernel), List.mem_of_getElem? (i := 814) (by decide +kernel), List.mem_of_getElem? (i := 815) (by decide +kernel)⟩
theorem lw_p23 : lw_okq (⟨"RoomsOfAir$Settler", "leastCostFrom", "(I)I"⟩, 9) := ⟨⟨by decide +kernel, by decide +kernel⟩, List.mem_of_getElem? (i := 290) (by decide +kernel), List.mem_of_getElem? (i := 819) (by decide +kernel), List.mem_of_getElem? (i := 820) (by decide +kernel)⟩
theorem lw_p24 : lw_okq (⟨"RoomsOfAir$Settler", "leastCostAlone", "(LRoomsOfAir$Flight;)I"⟩, 9) := ⟨⟨by decide +kernel, by decide +kernel⟩, List.mem_of_getElem? (i := 290) (by decide +kernel), List.mem_of_getElem? (i := 823) (by decide +kernel), List.mem_of_getElem? (i := 824) (by decide +kernel)⟩
theorem lw_p25 : lw_okq (⟨"RoomsOfAir$Settler", "fits", "(LRoomsOfAir$Flight;II)Z"⟩, 9) := ⟨⟨by decide +kernel, by decide +kernel⟩, List.mem_of_getElem? (i := 290) (by decide +kernel), List.mem_of_getElem? (i := 828) (by decide +kernel), List.mem_of_getElem? (i := 829) (by decide +kernel)⟩
theorem lw_p26 : lw_okq (⟨"RoomsOfAir", "harmsNone", "(LRoomsOfAir$Flight;LRoomsOfAir$Flight;)Z"⟩, 12) := ⟨⟨by decide +kernel, by decide +kernel⟩, List.mem_of_getElem? (i := 19) (by decide +kernel), List.mem_of_getElem? (i := 840) (by decide +kernel), List.mem_of_getElem? (i := 841) (by decide +kernel)⟩
theorem lw_p27 : lw_okq (⟨"RoomsOfAir$Ledger", "divideTooMuch", "(II)V"⟩, 5) := ⟨⟨by decide +kernel, by decide +kernel⟩, List.mem_of_getElem? (i := 325) (by decide +kernel), List.mem_of_getElem? (i := 868) (by decide +kernel), List.mem_of_getElem? (i := 869) (by decide +kernel)⟩
theorem lw_p28 : lw_okq (⟨"RoomsOfAir$Asks", "sizeOfLate", "(LRoomsOfAir$Flight;)I"⟩, 3) := ⟨⟨by decide +kernel, by decide +kernel⟩, List.mem_of_getElem? (i := 347) (by decide +kernel), List.mem_of_getElem? (i := 906) (by decide +kernel), List.mem_of_getElem? (i := 907) (by decide +kernel)⟩
theorem lw_p29 : lw_okq (⟨"RoomsOfAir$Asks", "leaveInTrace", "(I)V"⟩, 3) := ⟨⟨by decide +kernel, by decide +kernel⟩, List.mem_of_getElem? (i := 347) (by decide +kernel), List.mem_of_getElem? (i := 910) (by decide +kernel), List.mem_of_getElem? (i := 911) (by decide +kernel)⟩
theorem lw_p30 : lw_okq (⟨"RoomsOfAir$Asks", "sizeLent", "(LRoomsOfAir$Flight;)I"⟩, 3) := ⟨⟨by decide +kernel, by decide +kernel⟩, List.mem_of_getElem? (i := 347) (by decide +kernel), List.mem_of_getElem? (i := 914) (by decide +kernel), List.mem_of_getElem? (i := 915) (by decide +kernel)⟩
theorem lw_p31 : lw_okq (⟨"RoomsOfAir$Asks", "sizeOfRound", "(LRoomsOfAir$Flight;)I"⟩, 3) := ⟨⟨by decide +kernel, by decide +kernel⟩, List.mem_of_getElem? (i := 347) (by decide +kernel), List.mem_of_getElem? (i := 923) (by decide +kernel), List.mem_of_getElem? (i := 924) (by decide +kernel)⟩
def lw_privs_2 : List (MethodName × Nat) := [(⟨"RoomsOfAir$Splitter", "weighSlot", "(I)V"⟩, 7), (⟨"RoomsOfAir$Splitter", "fillRelieved", "(I)V"⟩, 7), (⟨"RoomsOfAir$Splitter", "reliefBySplit", "(I)I"⟩, 7), (⟨"RoomsOfAir$Splitter", "addChangesAhead", "()V"⟩, 7), (⟨"RoomsOfAir$Splitter", "bestSetBehind", "(II)I"⟩, 7), (⟨"RoomsOfAir$Settler", "changeFreeRoom", "(LRoomsOfAir$Flight;III)V"⟩, 9), (⟨"RoomsOfAir$Settler", "search", "(II)V"⟩, 9), (⟨"RoomsOfAir$Settler", "leastCostFrom", "(I)I"⟩, 9), (⟨"RoomsOfAir$Settler", "leastCostAlone", "(LRoomsOfAir$Flight;)I"⟩, 9), (⟨"RoomsOfAir$Settler", "fits", "(LRoomsOfAir$Flight;II)Z"⟩, 9), (⟨"RoomsOfAir", "harmsNone", "(LRoomsOfAir$Flight;LRoomsOfAir$Flight;)Z"⟩, 12), (⟨"RoomsOfAir$Ledger", "divideTooMuch", "(II)V"⟩, 5), (⟨"RoomsOfAir$Asks", "sizeOfLate", "(LRoomsOfAir$Flight;)I"⟩, 3), (⟨"RoomsOfAir$Asks", "leaveInTrace", "(I)V"⟩, 3), (⟨"RoomsOfAir$Asks", "sizeLent", "(LRoomsOfAir$Flight;)I"⟩, 3), (⟨"RoomsOfAir$Asks", "sizeOfRound", "(LRoomsOfAir$Flight;)I"⟩, 3)]
theorem lw_r2 : ∀ q ∈ lw_privs_2, lw_okq q := List.forall_mem_cons.mpr ⟨lw_p16, List.forall_mem_cons.mpr ⟨lw_p17, List.forall_mem_cons.mpr ⟨lw_p18, List.forall_mem_cons.mpr ⟨lw_p19, List.forall_mem_cons.mpr ⟨lw_p20, List.forall_mem_cons.mpr ⟨lw_p21, List.forall_mem_cons.mpr ⟨lw_p22, List.forall_mem_cons.mpr ⟨lw_p23, List.forall_mem_cons.mpr ⟨lw_p24, List.forall_mem_cons.mpr ⟨lw_p25, List.forall_mem_cons.mpr ⟨lw_p26, List.forall_mem_cons.mpr ⟨lw_p27, List.forall_mem_cons.mpr ⟨lw_p28, List.forall_mem_cons.mpr ⟨lw_p29, List.forall_mem_cons.mpr ⟨lw_p30, List.forall_mem_cons.mpr ⟨lw_p31, fun _ h => absurd h List.not_mem_nil⟩⟩⟩⟩⟩⟩⟩⟩⟩⟩⟩⟩⟩⟩⟩⟩
theorem lw_p32 : lw_okq (⟨"RoomsOfAir$Asks", "sizeOfCalm", "(LRoomsOfAir$Flight;)I"⟩, 3) := ⟨⟨by decide +kernel, by decide +kernel⟩, List.mem_of_getElem? (i := 347) (by decide +kernel), List.mem_of_getElem? (i := 927) (by decide +kernel), List.mem_of_getElem? (i := 928) (by decide +kernel)⟩
theorem lw_p33 : lw_okq (⟨"RoomsOfAir$Asks", "markOfLate", "(LRoomsOfAir$Flight;)I"⟩, 3) := ⟨⟨by decide +kernel, by decide +kernel⟩, List.mem_of_getElem? (i := 347) (by decide +kernel), List.mem_of_getElem? (i := 935) (by decide +kernel), List.mem_of_getElem? (i := 936) (by decide +kernel)⟩
theorem lw_p34 : lw_okq (⟨"RoomsOfAir$Asks", "markLent", "(LRoomsOfAir$Flight;)I"⟩, 3) := ⟨⟨by decide +kernel, by decide +kernel⟩, List.mem_of_getElem? (i := 347) (by decide +kernel), List.mem_of_getElem? (i := 939) (by decide +kernel), List.mem_of_getElem? (i := 940) (by decide +kernel)⟩
theorem lw_p35 : lw_okq (⟨"RoomsOfAir$Asks", "markOfCalm", "(LRoomsOfAir$Flight;)I"⟩, 3) := ⟨⟨by decide +kernel, by decide +kernel⟩, List.mem_of_getElem? (i := 347) (by decide +kernel), List.mem_of_getElem? (i := 943) (by decide +kernel), List.mem_of_getElem? (i := 944) (by decide +kernel)⟩
theorem lw_p36 : lw_okq (⟨"RoomsOfAir", "sheetsThere", "()I"⟩, 12) := ⟨⟨by decide +kernel, by decide +kernel⟩, List.mem_of_getElem? (i := 19) (by decide +kernel), List.mem_of_getElem? (i := 956) (by decide +kernel), List.mem_of_getElem? (i := 957) (by decide +kernel)⟩
theorem lw_p37 : lw_okq (⟨"RoomsOfAir", "flightsTold", "(I)I"⟩, 12) := ⟨⟨by decide +kernel, by decide +kernel⟩, List.mem_of_getElem? (i := 19) (by decide +kernel), List.mem_of_getElem? (i := 960) (by decide +kernel), List.mem_of_getElem? (i := 961) (by decide +kernel)⟩
theorem lw_p38 : lw_okq (⟨"RoomsOfAirModel", "found", "(I)I"⟩, 42) := ⟨⟨by decide +kernel, by decide +kernel⟩, List.mem_of_getElem? (i := 983) (by decide +kernel), List.mem_of_getElem? (i := 981) (by decide +kernel), List.mem_of_getElem? (i := 982) (by decide +kernel)⟩
theorem lw_p39 : lw_okq (⟨"RoomsOfAirModel", "lookItems", "(IIII)I"⟩, 42) := ⟨⟨by decide +kernel, by decide +kernel⟩, List.mem_of_getElem? (i := 983) (by decide +kernel), List.mem_of_getElem? (i := 1142) (by decide +kernel), List.mem_of_getElem? (i := 1143) (by decide +kernel)⟩
theorem lw_p40 : lw_okq (⟨"RoomsOfAirModel", "safeOf", "(II)I"⟩, 42) := ⟨⟨by decide +kernel, by decide +kernel⟩, List.mem_of_getElem? (i := 983) (by decide +kernel), List.mem_of_getElem? (i := 1161) (by decide +kernel), List.mem_of_getElem? (i := 1162) (by decide +kernel)⟩
theorem lw_p41 : lw_okq (⟨"RoomsOfAirModel", "bearsIn", "(III)I"⟩, 42) := ⟨⟨by decide +kernel, by decide +kernel⟩, List.mem_of_getElem? (i := 983) (by decide +kernel), List.mem_of_getElem? (i := 1165) (by decide +kernel), List.mem_of_getElem? (i := 1166) (by decide +kernel)⟩
theorem lw_p42 : lw_okq (⟨"RoomsOfAirModel", "step", "()V"⟩, 42) := ⟨⟨by decide +kernel, by decide +kernel⟩, List.mem_of_getElem? (i := 983) (by decide +kernel), List.mem_of_getElem? (i := 1180) (by decide +kernel), List.mem_of_getElem? (i := 1181) (by decide +kernel)⟩
theorem lw_p43 : lw_okq (⟨"RoomsOfAirModel", "byteAt", "(I)I"⟩, 42) := ⟨⟨by decide +kernel, by decide +kernel⟩, List.mem_of_getElem? (i := 983) (by decide +kernel), List.mem_of_getElem? (i := 1184) (by decide +kernel), List.mem_of_getElem? (i := 1185) (by decide +kernel)⟩
theorem lw_p44 : lw_okq (⟨"RoomsOfAirModel", "word", "()J"⟩, 42) := ⟨⟨by decide +kernel, by decide +kernel⟩, List.mem_of_getElem? (i := 983) (by decide +kernel), List.mem_of_getElem? (i := 1194) (by decide +kernel), List.mem_of_getElem? (i := 1195) (by decide +kernel)⟩
theorem lw_p45 : lw_okq (⟨"RoomsOfAirModel", "bad", "(I)V"⟩, 42) := ⟨⟨by decide +kernel, by decide +kernel⟩, List.mem_of_getElem? (i := 983) (by decide +kernel), List.mem_of_getElem? (i := 1200) (by decide +kernel), List.mem_of_getElem? (i := 1201) (by decide +kernel)⟩
theorem lw_p46 : lw_okq (⟨"RoomsOfAirModel", "need", "(Z)V"⟩, 42) := ⟨⟨by decide +kernel, by decide +kernel⟩, List.mem_of_getElem? (i := 983) (by decide +kernel), List.mem_of_getElem? (i := 1205) (by decide +kernel), List.mem_of_getElem? (i := 1206) (by decide +kernel)⟩
theorem lw_p47 : lw_okq (⟨"RoomsOfAirModel", "readFlight", "()V"⟩, 42) := ⟨⟨by decide +kernel, by decide +kernel⟩, List.mem_of_getElem? (i := 983) (by decide +kernel), List.mem_of_getElem? (i := 1209) (by decide +kernel), List.mem_of_getElem? (i := 1210) (by decide +kernel)⟩
def lw_privs_3 : List (MethodName × Nat) := [(⟨"RoomsOfAir$Asks", "sizeOfCalm", "(LRoomsOfAir$Flight;)I"⟩, 3), (⟨"RoomsOfAir$Asks", "markOfLate", "(LRoomsOfAir$Flight;)I"⟩, 3), (⟨"RoomsOfAir$Asks", "markLent", "(LRoomsOfAir$Flight;)I"⟩, 3), (⟨"RoomsOfAir$Asks", "markOfCalm", "(LRoomsOfAir$Flight;)I"⟩, 3), (⟨"RoomsOfAir", "sheetsThere", "()I"⟩, 12), (⟨"RoomsOfAir", "flightsTold", "(I)I"⟩, 12), (⟨"RoomsOfAirModel", "found", "(I)I"⟩, 42), (⟨"RoomsOfAirModel", "lookItems", "(IIII)I"⟩, 42), (⟨"RoomsOfAirModel", "safeOf", "(II)I"⟩, 42), (⟨"RoomsOfAirModel", "bearsIn", "(III)I"⟩, 42), (⟨"RoomsOfAirModel", "step", "()V"⟩, 42), (⟨"RoomsOfAirModel", "byteAt", "(I)I"⟩, 42), (⟨"RoomsOfAirModel", "word", "()J"⟩, 42), (⟨"RoomsOfAirModel", "bad", "(I)V"⟩, 42), (⟨"RoomsOfAirModel", "need", "(Z)V"⟩, 42), (⟨"RoomsOfAirModel", "readFlight", "()V"⟩, 42)]
theorem lw_r3 : ∀ q ∈ lw_privs_3, lw_okq q := List.forall_mem_cons.mpr ⟨lw_p32, List.forall_mem_cons.mpr ⟨lw_p33, List.forall_mem_cons.mpr ⟨lw_p34, List.forall_mem_cons.mpr ⟨lw_p35, List.forall_mem_cons.mpr ⟨lw_p36, List.forall_mem_cons.mpr ⟨lw_p37, List.forall_mem_cons.mpr ⟨lw_p38, List.forall_mem_cons.mpr ⟨lw_p39, List.forall_mem_cons.mpr ⟨lw_p40, List.forall_mem_cons.mpr ⟨lw_p41, List.forall_mem_cons.mpr ⟨lw_p42, List.forall_mem_cons.mpr ⟨lw_p43, List.forall_mem_cons.mpr ⟨lw_p44, List.forall_mem_cons.mpr ⟨lw_p45, List.forall_mem_cons.mpr ⟨lw_p46, List.forall_mem_cons.mpr ⟨lw_p47, fun _ h => absurd h List.not_mem_nil⟩⟩⟩⟩⟩⟩⟩⟩⟩⟩⟩⟩⟩⟩⟩⟩
theorem lw_p48 : lw_okq (⟨"RoomsOfAirModel", "numberIn", "(II)I"⟩, 42) := ⟨⟨by decide +kernel, by decide +kernel⟩, List.mem_of_getElem? (i := 983) (by decide +kernel), List.mem_of_getElem? (i := 1213) (by decide +kernel), List.mem_of_getElem? (i := 1214) (by decide +kernel)⟩
theorem lw_p49 : lw_okq (⟨"RoomsOfAirModel", "readWay", "(I)V"⟩, 42) := ⟨⟨by decide +kernel, by decide +kernel⟩, List.mem_of_getElem? (i := 983) (by decide +kernel), List.mem_of_getElem? (i := 1218) (by decide +kernel), List.mem_of_getElem? (i := 1219) (by decide +kernel)⟩
theorem lw_p50 : lw_okq (⟨"RoomsOfAirModel", "is", "(I)Z"⟩, 42) := ⟨⟨by decide +kernel, by decide +kernel⟩, List.mem_of_getElem? (i := 983) (by decide +kernel), List.mem_of_getElem? (i := 1222) (by decide +kernel), List.mem_of_getElem? (i := 1223) (by decide +kernel)⟩
theorem lw_p51 : lw_okq (⟨"RoomsOfAirModel", "readStorm", "()V"⟩, 42) := ⟨⟨by decide +kernel, by decide +kernel⟩, List.mem_of_getElem? (i := 983) (by decide +kernel), List.mem_of_getElem? (i := 1226) (by decide +kernel), List.mem_of_getElem? (i := 1227) (by decide +kernel)⟩
theorem lw_p52 : lw_okq (⟨"RoomsOfAirModel", "isFlight", "(I)Z"⟩, 42) := ⟨⟨by decide +kernel, by decide +kernel⟩, List.mem_of_getElem? (i := 983) (by decide +kernel), List.mem_of_getElem? (i := 1239) (by decide +kernel), List.mem_of_getElem? (i := 1240) (by decide +kernel)⟩
theorem lw_p53 : lw_okq (⟨"RoomsOfAirModel", "costOf", "(I)I"⟩, 42) := ⟨⟨by decide +kernel, by decide +kernel⟩, List.mem_of_getElem? (i := 983) (by decide +kernel), List.mem_of_getElem? (i := 1243) (by decide +kernel), List.mem_of_getElem? (i := 1244) (by decide +kernel)⟩
theorem lw_p54 : lw_okq (⟨"RoomsOfAirModel", "costBy", "(III)I"⟩, 42) := ⟨⟨by decide +kernel, by decide +kernel⟩, List.mem_of_getElem? (i := 983) (by decide +kernel), List.mem_of_getElem? (i := 1247) (by decide +kernel), List.mem_of_getElem? (i := 1248) (by decide +kernel)⟩
theorem lw_p55 : lw_okq (⟨"RoomsOfAirModel", "roomBy", "(IIII)I"⟩, 42) := ⟨⟨by decide +kernel, by decide +kernel⟩, List.mem_of_getElem? (i := 983) (by decide +kernel), List.mem_of_getElem? (i := 1264) (by decide +kernel), List.mem_of_getElem? (i := 1265) (by decide +kernel)⟩
theorem lw_p56 : lw_okq (⟨"RoomsOfAirModel", "loadOf", "(II)I"⟩, 42) := ⟨⟨by decide +kernel, by decide +kernel⟩, List.mem_of_getElem? (i := 983) (by decide +kernel), List.mem_of_getElem? (i := 1272) (by decide +kernel), List.mem_of_getElem? (i := 1273) (by decide +kernel)⟩
theorem lw_p57 : lw_okq (⟨"RoomsOfAirModel", "overOf", "(II)I"⟩, 42) := ⟨⟨by decide +kernel, by decide +kernel⟩, List.mem_of_getElem? (i := 983) (by decide +kernel), List.mem_of_getElem? (i := 1276) (by decide +kernel), List.mem_of_getElem? (i := 1277) (by decide +kernel)⟩
theorem lw_p58 : lw_okq (⟨"RoomsOfAirModel", "overAll", "()I"⟩, 42) := ⟨⟨by decide +kernel, by decide +kernel⟩, List.mem_of_getElem? (i := 983) (by decide +kernel), List.mem_of_getElem? (i := 1285) (by decide +kernel), List.mem_of_getElem? (i := 1286) (by decide +kernel)⟩
theorem lw_p59 : lw_okq (⟨"RoomsOfAirModel", "delaysOf", "(I)I"⟩, 42) := ⟨⟨by decide +kernel, by decide +kernel⟩, List.mem_of_getElem? (i := 983) (by decide +kernel), List.mem_of_getElem? (i := 1289) (by decide +kernel), List.mem_of_getElem? (i := 1290) (by decide +kernel)⟩
theorem lw_p60 : lw_okq (⟨"RoomsOfAirModel", "shares", "()V"⟩, 42) := ⟨⟨by decide +kernel, by decide +kernel⟩, List.mem_of_getElem? (i := 983) (by decide +kernel), List.mem_of_getElem? (i := 1293) (by decide +kernel), List.mem_of_getElem? (i := 1294) (by decide +kernel)⟩
theorem lw_p61 : lw_okq (⟨"RoomsOfAirModel", "flightsOf", "(I)I"⟩, 42) := ⟨⟨by decide +kernel, by decide +kernel⟩, List.mem_of_getElem? (i := 983) (by decide +kernel), List.mem_of_getElem? (i := 1297) (by decide +kernel), List.mem_of_getElem? (i := 1298) (by decide +kernel)⟩
theorem lw_p62 : lw_okq (⟨"RoomsOfAirModel", "give", "(II)V"⟩, 42) := ⟨⟨by decide +kernel, by decide +kernel⟩, List.mem_of_getElem? (i := 983) (by decide +kernel), List.mem_of_getElem? (i := 1301) (by decide +kernel), List.mem_of_getElem? (i := 1302) (by decide +kernel)⟩
theorem lw_p63 : lw_okq (⟨"RoomsOfAirModel", "findSplits", "()V"⟩, 42) := ⟨⟨by decide +kernel, by decide +kernel⟩, List.mem_of_getElem? (i := 983) (by decide +kernel), List.mem_of_getElem? (i := 1316) (by decide +kernel), List.mem_of_getElem? (i := 1317) (by decide +kernel)⟩
def lw_privs_4 : List (MethodName × Nat) := [(⟨"RoomsOfAirModel", "numberIn", "(II)I"⟩, 42), (⟨"RoomsOfAirModel", "readWay", "(I)V"⟩, 42), (⟨"RoomsOfAirModel", "is", "(I)Z"⟩, 42), (⟨"RoomsOfAirModel", "readStorm", "()V"⟩, 42), (⟨"RoomsOfAirModel", "isFlight", "(I)Z"⟩, 42), (⟨"RoomsOfAirModel", "costOf", "(I)I"⟩, 42), (⟨"RoomsOfAirModel", "costBy", "(III)I"⟩, 42), (⟨"RoomsOfAirModel", "roomBy", "(IIII)I"⟩, 42), (⟨"RoomsOfAirModel", "loadOf", "(II)I"⟩, 42), (⟨"RoomsOfAirModel", "overOf", "(II)I"⟩, 42), (⟨"RoomsOfAirModel", "overAll", "()I"⟩, 42), (⟨"RoomsOfAirModel", "delaysOf", "(I)I"⟩, 42), (⟨"RoomsOfAirModel", "shares", "()V"⟩, 42), (⟨"RoomsOfAirModel", "flightsOf", "(I)I"⟩, 42), (⟨"RoomsOfAirModel", "give", "(II)V"⟩, 42), (⟨"RoomsOfAirModel", "findSplits", "()V"⟩, 42)]
theorem lw_r4 : ∀ q ∈ lw_privs_4, lw_okq q := List.forall_mem_cons.mpr ⟨lw_p48, List.forall_mem_cons.mpr ⟨lw_p49, List.forall_mem_cons.mpr ⟨lw_p50, List.forall_mem_cons.mpr ⟨lw_p51, List.forall_mem_cons.mpr ⟨lw_p52, List.forall_mem_cons.mpr ⟨lw_p53, List.forall_mem_cons.mpr ⟨lw_p54, List.forall_mem_cons.mpr ⟨lw_p55, List.forall_mem_cons.mpr ⟨lw_p56, List.forall_mem_cons.mpr ⟨lw_p57, List.forall_mem_cons.mpr ⟨lw_p58, List.forall_mem_cons.mpr ⟨lw_p59, List.forall_mem_cons.mpr ⟨lw_p60, List.forall_mem_cons.mpr ⟨lw_p61, List.forall_mem_cons.mpr ⟨lw_p62, List.forall_mem_cons.mpr ⟨lw_p63, fun _ h => absurd h List.not_mem_nil⟩⟩⟩⟩⟩⟩⟩⟩⟩⟩⟩⟩⟩⟩⟩⟩
theorem lw_p64 : lw_okq (⟨"RoomsOfAirModel", "lay", "(III)V"⟩, 42) := ⟨⟨by decide +kernel, by decide +kernel⟩, List.mem_of_getElem? (i := 983) (by decide +kernel), List.mem_of_getElem? (i := 1327) (by decide +kernel), List.mem_of_getElem? (i := 1328) (by decide +kernel)⟩
theorem lw_p65 : lw_okq (⟨"RoomsOfAirModel", "fits", "(II)Z"⟩, 42) := ⟨⟨by decide +kernel, by decide +kernel⟩, List.mem_of_getElem? (i := 983) (by decide +kernel), List.mem_of_getElem? (i := 1331) (by decide +kernel), List.mem_of_getElem? (i := 1332) (by decide +kernel)⟩
theorem lw_p66 : lw_okq (⟨"RoomsOfAirModel", "isHarmless", "(II)Z"⟩, 42) := ⟨⟨by decide +kernel, by decide +kernel⟩, List.mem_of_getElem? (i := 983) (by decide +kernel), List.mem_of_getElem? (i := 1339) (by decide +kernel), List.mem_of_getElem? (i := 1340) (by decide +kernel)⟩
theorem lw_p67 : lw_okq (⟨"RoomsOfAirModel", "exchange", "(II)V"⟩, 42) := ⟨⟨by decide +kernel, by decide +kernel⟩, List.mem_of_getElem? (i := 983) (by decide +kernel), List.mem_of_getElem? (i := 1343) (by decide +kernel), List.mem_of_getElem? (i := 1344) (by decide +kernel)⟩
theorem lw_p68 : lw_okq (⟨"RoomsOfAirModel", "blameOf", "(I)I"⟩, 42) := ⟨⟨by decide +kernel, by decide +kernel⟩, List.mem_of_getElem? (i := 983) (by decide +kernel), List.mem_of_getElem? (i := 1355) (by decide +kernel), List.mem_of_getElem? (i := 1356) (by decide +kernel)⟩
theorem lw_p69 : lw_okq (⟨"RoomsOfAirModel", "kindOf", "(I)I"⟩, 42) := ⟨⟨by decide +kernel, by decide +kernel⟩, List.mem_of_getElem? (i := 983) (by decide +kernel), List.mem_of_getElem? (i := 1363) (by decide +kernel), List.mem_of_getElem? (i := 1364) (by decide +kernel)⟩
theorem lw_p70 : lw_okq (⟨"RoomsOfAirModel", "sizeOf", "(II)I"⟩, 42) := ⟨⟨by decide +kernel, by decide +kernel⟩, List.mem_of_getElem? (i := 983) (by decide +kernel), List.mem_of_getElem? (i := 1378) (by decide +kernel), List.mem_of_getElem? (i := 1379) (by decide +kernel)⟩
theorem lw_p71 : lw_okq (⟨"RoomsOfAirModel", "began", "(I)V"⟩, 42) := ⟨⟨by decide +kernel, by decide +kernel⟩, List.mem_of_getElem? (i := 983) (by decide +kernel), List.mem_of_getElem? (i := 1382) (by decide +kernel), List.mem_of_getElem? (i := 1383) (by decide +kernel)⟩
theorem lw_p72 : lw_okq (⟨"RoomsOfAirModel", "slotsOf", "(II)I"⟩, 42) := ⟨⟨by decide +kernel, by decide +kernel⟩, List.mem_of_getElem? (i := 983) (by decide +kernel), List.mem_of_getElem? (i := 1386) (by decide +kernel), List.mem_of_getElem? (i := 1387) (by decide +kernel)⟩
theorem lw_p73 : lw_okq (⟨"RoomsOfAirModel", "markOf", "(II)I"⟩, 42) := ⟨⟨by decide +kernel, by decide +kernel⟩, List.mem_of_getElem? (i := 983) (by decide +kernel), List.mem_of_getElem? (i := 1390) (by decide +kernel), List.mem_of_getElem? (i := 1391) (by decide +kernel)⟩
def lw_privs_5 : List (MethodName × Nat) := [(⟨"RoomsOfAirModel", "lay", "(III)V"⟩, 42), (⟨"RoomsOfAirModel", "fits", "(II)Z"⟩, 42), (⟨"RoomsOfAirModel", "isHarmless", "(II)Z"⟩, 42), (⟨"RoomsOfAirModel", "exchange", "(II)V"⟩, 42), (⟨"RoomsOfAirModel", "blameOf", "(I)I"⟩, 42), (⟨"RoomsOfAirModel", "kindOf", "(I)I"⟩, 42), (⟨"RoomsOfAirModel", "sizeOf", "(II)I"⟩, 42), (⟨"RoomsOfAirModel", "began", "(I)V"⟩, 42), (⟨"RoomsOfAirModel", "slotsOf", "(II)I"⟩, 42), (⟨"RoomsOfAirModel", "markOf", "(II)I"⟩, 42)]
theorem lw_r5 : ∀ q ∈ lw_privs_5, lw_okq q := List.forall_mem_cons.mpr ⟨lw_p64, List.forall_mem_cons.mpr ⟨lw_p65, List.forall_mem_cons.mpr ⟨lw_p66, List.forall_mem_cons.mpr ⟨lw_p67, List.forall_mem_cons.mpr ⟨lw_p68, List.forall_mem_cons.mpr ⟨lw_p69, List.forall_mem_cons.mpr ⟨lw_p70, List.forall_mem_cons.mpr ⟨lw_p71, List.forall_mem_cons.mpr ⟨lw_p72, List.forall_mem_cons.mpr ⟨lw_p73, fun _ h => absurd h List.not_mem_nil⟩⟩⟩⟩⟩⟩⟩⟩⟩⟩
def lw_privs : List (MethodName × Nat) := lw_privs_1 ++ (lw_privs_2 ++ (lw_privs_3 ++ (lw_privs_4 ++ (lw_privs_5))))
def lw_tbl : List Cond := k2_sels lw_privs ++ tables_1
theorem lw_privs_ok : ∀ q ∈ lw_privs, lw_okq q := by
  show ∀ q ∈ lw_privs_1 ++ (lw_privs_2 ++ (lw_privs_3 ++ (lw_privs_4 ++ (lw_privs_5)))), lw_okq q
  exact List.forall_mem_append.mpr ⟨lw_r1, List.forall_mem_append.mpr ⟨lw_r2, List.forall_mem_append.mpr ⟨lw_r3, List.forall_mem_append.mpr ⟨lw_r4, lw_r5⟩⟩⟩⟩

def RX0 : String := "RoomsOfAir$Asks"
def TX0 : u_T := fun k => match k with
  | 0 => ("RoomsOfAir$Asks", "sky", "LRoomsOfAir$Sky;", true)
  | 1 => ("RoomsOfAir$Asks", "bodies", "[I", true)
  | _ => ("RoomsOfAir$Asks", "traceLength", "I", false)
def tyX0 : Nat → FieldType := fun k => match k with
  | 0 => .object "RoomsOfAir$Sky"
  | 1 => .array .int
  | _ => .int
abbrev wsX00 : List Cond := u_ws RX0 TX0 3
theorem nmX0 : ∀ a, a < 3 → ∀ b, b < 3 → a ≠ b → (TX0 a).2.1 ≠ (TX0 b).2.1 := by decide +kernel
theorem tyX0_ok : ∀ k, k < 3 → parseFieldDescriptor (TX0 k).2.2.1 = some (tyX0 k) := by decide +kernel
abbrev cX0_init : ByteArray := prog_2_method_1_code
def yX0_init : MethodName := ⟨RX0, "<init>", "(LRoomsOfAir$Sky;)V"⟩
abbrev cX0_kindOf : ByteArray := prog_2_method_2_code
def yX0_kindOf : MethodName := ⟨RX0, "kindOf", "(LRoomsOfAir$Flight;)I"⟩
abbrev cX0_isOfKind : ByteArray := prog_2_method_3_code
def yX0_isOfKind : MethodName := ⟨RX0, "isOfKind", "(LRoomsOfAir$Flight;I)Z"⟩
abbrev cX0_sizeOf : ByteArray := prog_2_method_4_code
def yX0_sizeOf : MethodName := ⟨RX0, "sizeOf", "(LRoomsOfAir$Flight;)I"⟩
abbrev cX0_markOf : ByteArray := prog_2_method_5_code
def yX0_markOf : MethodName := ⟨RX0, "markOf", "(LRoomsOfAir$Flight;)I"⟩
abbrev cX0_sizeLent : ByteArray := prog_2_method_6_code
def yX0_sizeLent : MethodName := ⟨RX0, "sizeLent", "(LRoomsOfAir$Flight;)I"⟩
abbrev cX0_sizeOfLate : ByteArray := prog_2_method_7_code
def yX0_sizeOfLate : MethodName := ⟨RX0, "sizeOfLate", "(LRoomsOfAir$Flight;)I"⟩
abbrev cX0_sizeOfRound : ByteArray := prog_2_method_8_code
def yX0_sizeOfRound : MethodName := ⟨RX0, "sizeOfRound", "(LRoomsOfAir$Flight;)I"⟩
abbrev cX0_sizeOfCalm : ByteArray := prog_2_method_9_code
def yX0_sizeOfCalm : MethodName := ⟨RX0, "sizeOfCalm", "(LRoomsOfAir$Flight;)I"⟩
abbrev cX0_markLent : ByteArray := prog_2_method_10_code
def yX0_markLent : MethodName := ⟨RX0, "markLent", "(LRoomsOfAir$Flight;)I"⟩
abbrev cX0_markOfLate : ByteArray := prog_2_method_11_code
def yX0_markOfLate : MethodName := ⟨RX0, "markOfLate", "(LRoomsOfAir$Flight;)I"⟩
abbrev cX0_markOfCalm : ByteArray := prog_2_method_12_code
def yX0_markOfCalm : MethodName := ⟨RX0, "markOfCalm", "(LRoomsOfAir$Flight;)I"⟩
abbrev cX0_leaveInTrace : ByteArray := prog_2_method_13_code
def yX0_leaveInTrace : MethodName := ⟨RX0, "leaveInTrace", "(I)V"⟩
def RX1 : String := "RoomsOfAir$Fleet"
def TX1 : u_T := fun k => match k with
  | 0 => ("RoomsOfAir$Fleet", "flights", "[LRoomsOfAir$Flight;", true)
  | _ => ("RoomsOfAir$Fleet", "size", "I", false)
def tyX1 : Nat → FieldType := fun k => match k with
  | 0 => .array (.object "RoomsOfAir$Flight")
  | _ => .int
abbrev wsX10 : List Cond := u_ws RX1 TX1 2
theorem nmX1 : ∀ a, a < 2 → ∀ b, b < 2 → a ≠ b → (TX1 a).2.1 ≠ (TX1 b).2.1 := by decide +kernel
theorem tyX1_ok : ∀ k, k < 2 → parseFieldDescriptor (TX1 k).2.2.1 = some (tyX1 k) := by decide +kernel
abbrev cX1_init : ByteArray := prog_3_method_1_code
def yX1_init : MethodName := ⟨RX1, "<init>", "()V"⟩
abbrev cX1_flightOrNull : ByteArray := prog_3_method_2_code
def yX1_flightOrNull : MethodName := ⟨RX1, "flightOrNull", "(I)LRoomsOfAir$Flight;"⟩
abbrev cX1_everyFlight : ByteArray := prog_3_method_3_code
def yX1_everyFlight : MethodName := ⟨RX1, "everyFlight", "()I"⟩
abbrev cX1_loadKnownAt : ByteArray := prog_3_method_4_code
def yX1_loadKnownAt : MethodName := ⟨RX1, "loadKnownAt", "(III)I"⟩
abbrev cX1_costTogether : ByteArray := prog_3_method_5_code
def yX1_costTogether : MethodName := ⟨RX1, "costTogether", "()I"⟩
abbrev cX1_delaysTogether : ByteArray := prog_3_method_6_code
def yX1_delaysTogether : MethodName := ⟨RX1, "delaysTogether", "()I"⟩
abbrev cX1_flightsOf : ByteArray := prog_3_method_7_code
def yX1_flightsOf : MethodName := ⟨RX1, "flightsOf", "(I)I"⟩
abbrev cX1_delaysOf : ByteArray := prog_3_method_8_code
def yX1_delaysOf : MethodName := ⟨RX1, "delaysOf", "(I)I"⟩
abbrev cX1_costOf : ByteArray := prog_3_method_9_code
def yX1_costOf : MethodName := ⟨RX1, "costOf", "(I)I"⟩
def RX2 : String := "RoomsOfAir$Flight"
def TX2 : u_T := fun k => match k with
  | 0 => ("RoomsOfAir$Flight", "owner", "I", false)
  | 1 => ("RoomsOfAir$Flight", "weight", "I", false)
  | 2 => ("RoomsOfAir$Flight", "start", "I", false)
  | 3 => ("RoomsOfAir$Flight", "rate", "I", false)
  | 4 => ("RoomsOfAir$Flight", "wayCount", "I", false)
  | 5 => ("RoomsOfAir$Flight", "legCounts", "[I", true)
  | 6 => ("RoomsOfAir$Flight", "legRooms", "[I", true)
  | 7 => ("RoomsOfAir$Flight", "legSlots", "[I", true)
  | 8 => ("RoomsOfAir$Flight", "way", "I", false)
  | _ => ("RoomsOfAir$Flight", "delay", "I", false)
def tyX2 : Nat → FieldType := fun k => match k with
  | 0 => .int
  | 1 => .int
  | 2 => .int
  | 3 => .int
  | 4 => .int
  | 5 => .array .int
  | 6 => .array .int
  | 7 => .array .int
  | 8 => .int
  | _ => .int
abbrev wsX20 : List Cond := u_ws RX2 TX2 10
theorem nmX2 : ∀ a, a < 10 → ∀ b, b < 10 → a ≠ b → (TX2 a).2.1 ≠ (TX2 b).2.1 := by decide +kernel
theorem tyX2_ok : ∀ k, k < 10 → parseFieldDescriptor (TX2 k).2.2.1 = some (tyX2 k) := by decide +kernel
abbrev cX2_init : ByteArray := prog_4_method_1_code
def yX2_init : MethodName := ⟨RX2, "<init>", "()V"⟩
abbrev cX2_begin : ByteArray := prog_4_method_2_code
def yX2_begin : MethodName := ⟨RX2, "begin", "()V"⟩
abbrev cX2_addWay : ByteArray := prog_4_method_3_code
def yX2_addWay : MethodName := ⟨RX2, "addWay", "()V"⟩
abbrev cX2_addLegToLastWay : ByteArray := prog_4_method_4_code
def yX2_addLegToLastWay : MethodName := ⟨RX2, "addLegToLastWay", "(II)V"⟩
abbrev cX2_hasWay : ByteArray := prog_4_method_5_code
def yX2_hasWay : MethodName := ⟨RX2, "hasWay", "(I)Z"⟩
abbrev cX2_costOf : ByteArray := prog_4_method_6_code
def yX2_costOf : MethodName := ⟨RX2, "costOf", "(II)I"⟩
abbrev cX2_cost : ByteArray := prog_4_method_7_code
def yX2_cost : MethodName := ⟨RX2, "cost", "()I"⟩
abbrev cX2_slotsOfWay : ByteArray := prog_4_method_8_code
def yX2_slotsOfWay : MethodName := ⟨RX2, "slotsOfWay", "()I"⟩
abbrev cX2_roomIn : ByteArray := prog_4_method_9_code
def yX2_roomIn : MethodName := ⟨RX2, "roomIn", "(III)I"⟩
abbrev cX2_walk : ByteArray := prog_4_method_10_code
def yX2_walk : MethodName := ⟨RX2, "walk", "(II[I)I"⟩
def RX3 : String := "RoomsOfAir$Land"
def TX3 : u_T := fun k => match k with
  | 0 => ("RoomsOfAir$Land", "borne", "[I", true)
  | 1 => ("RoomsOfAir$Land", "crew", "[I", true)
  | 2 => ("RoomsOfAir$Land", "stormWorlds", "[I", true)
  | 3 => ("RoomsOfAir$Land", "stormRooms", "[I", true)
  | 4 => ("RoomsOfAir$Land", "stormFroms", "[I", true)
  | 5 => ("RoomsOfAir$Land", "stormTos", "[I", true)
  | 6 => ("RoomsOfAir$Land", "stormBorne", "[I", true)
  | 7 => ("RoomsOfAir$Land", "stormCount", "I", false)
  | _ => ("RoomsOfAir$Land", "lookedAt", "I", false)
def tyX3 : Nat → FieldType := fun k => match k with
  | 0 => .array .int
  | 1 => .array .int
  | 2 => .array .int
  | 3 => .array .int
  | 4 => .array .int
  | 5 => .array .int
  | 6 => .array .int
  | 7 => .int
  | _ => .int
abbrev wsX30 : List Cond := u_ws RX3 TX3 9
theorem nmX3 : ∀ a, a < 9 → ∀ b, b < 9 → a ≠ b → (TX3 a).2.1 ≠ (TX3 b).2.1 := by decide +kernel
theorem tyX3_ok : ∀ k, k < 9 → parseFieldDescriptor (TX3 k).2.2.1 = some (tyX3 k) := by decide +kernel
abbrev cX3_init : ByteArray := prog_5_method_1_code
def yX3_init : MethodName := ⟨RX3, "<init>", "()V"⟩
abbrev cX3_stormsIn : ByteArray := prog_5_method_2_code
def yX3_stormsIn : MethodName := ⟨RX3, "stormsIn", "(II)Z"⟩
abbrev cX3_borneInWorlds : ByteArray := prog_5_method_3_code
def yX3_borneInWorlds : MethodName := ⟨RX3, "borneInWorlds", "(III)I"⟩
abbrev cX3_fillSafe : ByteArray := prog_5_method_4_code
def yX3_fillSafe : MethodName := ⟨RX3, "fillSafe", "([I)V"⟩
abbrev cX3_lowerByStorm : ByteArray := prog_5_method_5_code
def yX3_lowerByStorm : MethodName := ⟨RX3, "lowerByStorm", "([II)V"⟩
abbrev cX3_bearInAllSlots : ByteArray := prog_5_method_6_code
def yX3_bearInAllSlots : MethodName := ⟨RX3, "bearInAllSlots", "(II)V"⟩
def RX4 : String := "RoomsOfAir$Ledger"
def TX4 : u_T := fun k => match k with
  | 0 => ("RoomsOfAir$Ledger", "fleet", "LRoomsOfAir$Fleet;", true)
  | 1 => ("RoomsOfAir$Ledger", "sky", "LRoomsOfAir$Sky;", true)
  | 2 => ("RoomsOfAir$Ledger", "claims", "[I", true)
  | 3 => ("RoomsOfAir$Ledger", "parts", "[I", true)
  | _ => ("RoomsOfAir$Ledger", "rests", "[I", true)
def tyX4 : Nat → FieldType := fun k => match k with
  | 0 => .object "RoomsOfAir$Fleet"
  | 1 => .object "RoomsOfAir$Sky"
  | 2 => .array .int
  | 3 => .array .int
  | _ => .array .int
abbrev wsX40 : List Cond := u_ws RX4 TX4 5
theorem nmX4 : ∀ a, a < 5 → ∀ b, b < 5 → a ≠ b → (TX4 a).2.1 ≠ (TX4 b).2.1 := by decide +kernel
theorem tyX4_ok : ∀ k, k < 5 → parseFieldDescriptor (TX4 k).2.2.1 = some (tyX4 k) := by decide +kernel
abbrev cX4_init : ByteArray := prog_6_method_1_code
def yX4_init : MethodName := ⟨RX4, "<init>", "(LRoomsOfAir$Fleet;LRoomsOfAir$Sky;)V"⟩
abbrev cX4_shareOf : ByteArray := prog_6_method_2_code
def yX4_shareOf : MethodName := ⟨RX4, "shareOf", "(I)I"⟩
abbrev cX4_unfairness : ByteArray := prog_6_method_3_code
def yX4_unfairness : MethodName := ⟨RX4, "unfairness", "()I"⟩
abbrev cX4_blameOf : ByteArray := prog_6_method_4_code
def yX4_blameOf : MethodName := ⟨RX4, "blameOf", "(I)I"⟩
abbrev cX4_divideDelays : ByteArray := prog_6_method_5_code
def yX4_divideDelays : MethodName := ⟨RX4, "divideDelays", "()V"⟩
abbrev cX4_divideTooMuch : ByteArray := prog_6_method_6_code
def yX4_divideTooMuch : MethodName := ⟨RX4, "divideTooMuch", "(II)V"⟩
abbrev cX4_divide : ByteArray := prog_6_method_7_code
def yX4_divide : MethodName := ⟨RX4, "divide", "(II)V"⟩
abbrev cX4_ownerOfGreatestRest : ByteArray := prog_6_method_8_code
def yX4_ownerOfGreatestRest : MethodName := ⟨RX4, "ownerOfGreatestRest", "()I"⟩
def RX5 : String := "RoomsOfAir$Reader"
def TX5 : u_T := fun k => match k with
  | 0 => ("RoomsOfAir$Reader", "tokens", "LRoomsOfAir$Tokens;", true)
  | 1 => ("RoomsOfAir$Reader", "land", "LRoomsOfAir$Land;", true)
  | 2 => ("RoomsOfAir$Reader", "fleet", "LRoomsOfAir$Fleet;", true)
  | 3 => ("RoomsOfAir$Reader", "toldBorne", "[I", true)
  | 4 => ("RoomsOfAir$Reader", "flightsRead", "I", false)
  | 5 => ("RoomsOfAir$Reader", "stormsRead", "I", false)
  | 6 => ("RoomsOfAir$Reader", "faultNumber", "I", false)
  | _ => ("RoomsOfAir$Reader", "faultPlace", "I", false)
def tyX5 : Nat → FieldType := fun k => match k with
  | 0 => .object "RoomsOfAir$Tokens"
  | 1 => .object "RoomsOfAir$Land"
  | 2 => .object "RoomsOfAir$Fleet"
  | 3 => .array .int
  | 4 => .int
  | 5 => .int
  | 6 => .int
  | _ => .int
abbrev wsX50 : List Cond := u_ws RX5 TX5 8
theorem nmX5 : ∀ a, a < 8 → ∀ b, b < 8 → a ≠ b → (TX5 a).2.1 ≠ (TX5 b).2.1 := by decide +kernel
theorem tyX5_ok : ∀ k, k < 8 → parseFieldDescriptor (TX5 k).2.2.1 = some (tyX5 k) := by decide +kernel
abbrev cX5_init : ByteArray := prog_7_method_1_code
def yX5_init : MethodName := ⟨RX5, "<init>", "(LRoomsOfAir$Tokens;LRoomsOfAir$Land;LRoomsOfAir$Fleet;)V"⟩
abbrev cX5_readTape : ByteArray := prog_7_method_2_code
def yX5_readTape : MethodName := ⟨RX5, "readTape", "()Z"⟩
abbrev cX5_carryOut : ByteArray := prog_7_method_3_code
def yX5_carryOut : MethodName := ⟨RX5, "carryOut", "()V"⟩
abbrev cX5_readFlight : ByteArray := prog_7_method_4_code
def yX5_readFlight : MethodName := ⟨RX5, "readFlight", "()V"⟩
abbrev cX5_readWays : ByteArray := prog_7_method_5_code
def yX5_readWays : MethodName := ⟨RX5, "readWays", "(LRoomsOfAir$Flight;)V"⟩
abbrev cX5_readLegs : ByteArray := prog_7_method_6_code
def yX5_readLegs : MethodName := ⟨RX5, "readLegs", "(LRoomsOfAir$Flight;)V"⟩
abbrev cX5_readBear : ByteArray := prog_7_method_7_code
def yX5_readBear : MethodName := ⟨RX5, "readBear", "()V"⟩
abbrev cX5_readStorm : ByteArray := prog_7_method_8_code
def yX5_readStorm : MethodName := ⟨RX5, "readStorm", "()V"⟩
abbrev cX5_readNumber : ByteArray := prog_7_method_9_code
def yX5_readNumber : MethodName := ⟨RX5, "readNumber", "(II)I"⟩
abbrev cX5_readSemicolon : ByteArray := prog_7_method_10_code
def yX5_readSemicolon : MethodName := ⟨RX5, "readSemicolon", "()V"⟩
abbrev cX5_stopAt : ByteArray := prog_7_method_11_code
def yX5_stopAt : MethodName := ⟨RX5, "stopAt", "(I)V"⟩
def RX6 : String := "RoomsOfAir$Settler"
def TX6 : u_T := fun k => match k with
  | 0 => ("RoomsOfAir$Settler", "fleet", "LRoomsOfAir$Fleet;", true)
  | 1 => ("RoomsOfAir$Settler", "sky", "LRoomsOfAir$Sky;", true)
  | 2 => ("RoomsOfAir$Settler", "freeRoom", "[I", true)
  | 3 => ("RoomsOfAir$Settler", "path", "[I", true)
  | 4 => ("RoomsOfAir$Settler", "members", "[I", true)
  | 5 => ("RoomsOfAir$Settler", "tried", "[I", true)
  | 6 => ("RoomsOfAir$Settler", "kept", "[I", true)
  | 7 => ("RoomsOfAir$Settler", "memberCount", "I", false)
  | _ => ("RoomsOfAir$Settler", "leastCost", "I", false)
def tyX6 : Nat → FieldType := fun k => match k with
  | 0 => .object "RoomsOfAir$Fleet"
  | 1 => .object "RoomsOfAir$Sky"
  | 2 => .array .int
  | 3 => .array .int
  | 4 => .array .int
  | 5 => .array .int
  | 6 => .array .int
  | 7 => .int
  | _ => .int
abbrev wsX60 : List Cond := u_ws RX6 TX6 9
theorem nmX6 : ∀ a, a < 9 → ∀ b, b < 9 → a ≠ b → (TX6 a).2.1 ≠ (TX6 b).2.1 := by decide +kernel
theorem tyX6_ok : ∀ k, k < 9 → parseFieldDescriptor (TX6 k).2.2.1 = some (tyX6 k) := by decide +kernel
abbrev cX6_init : ByteArray := prog_8_method_1_code
def yX6_init : MethodName := ⟨RX6, "<init>", "(LRoomsOfAir$Fleet;LRoomsOfAir$Sky;)V"⟩
abbrev cX6_findChoices : ByteArray := prog_8_method_2_code
def yX6_findChoices : MethodName := ⟨RX6, "findChoices", "(I)Z"⟩
abbrev cX6_takeChoices : ByteArray := prog_8_method_3_code
def yX6_takeChoices : MethodName := ⟨RX6, "takeChoices", "()I"⟩
abbrev cX6_search : ByteArray := prog_8_method_4_code
def yX6_search : MethodName := ⟨RX6, "search", "(II)V"⟩
abbrev cX6_leastCostFrom : ByteArray := prog_8_method_5_code
def yX6_leastCostFrom : MethodName := ⟨RX6, "leastCostFrom", "(I)I"⟩
abbrev cX6_leastCostAlone : ByteArray := prog_8_method_6_code
def yX6_leastCostAlone : MethodName := ⟨RX6, "leastCostAlone", "(LRoomsOfAir$Flight;)I"⟩
abbrev cX6_fits : ByteArray := prog_8_method_7_code
def yX6_fits : MethodName := ⟨RX6, "fits", "(LRoomsOfAir$Flight;II)Z"⟩
abbrev cX6_changeFreeRoom : ByteArray := prog_8_method_8_code
def yX6_changeFreeRoom : MethodName := ⟨RX6, "changeFreeRoom", "(LRoomsOfAir$Flight;III)V"⟩
def RX7 : String := "RoomsOfAir$Sheet"
def TX7 : u_T := fun k => match k with
  | 0 => ("RoomsOfAir$Sheet", "lane", "I", false)
  | 1 => ("RoomsOfAir$Sheet", "size", "I", false)
  | _ => ("RoomsOfAir$Sheet", "items", "[I", true)
def tyX7 : Nat → FieldType := fun k => match k with
  | 0 => .int
  | 1 => .int
  | _ => .array .int
abbrev wsX70 : List Cond := u_ws RX7 TX7 3
theorem nmX7 : ∀ a, a < 3 → ∀ b, b < 3 → a ≠ b → (TX7 a).2.1 ≠ (TX7 b).2.1 := by decide +kernel
theorem tyX7_ok : ∀ k, k < 3 → parseFieldDescriptor (TX7 k).2.2.1 = some (tyX7 k) := by decide +kernel
abbrev cX7_init : ByteArray := prog_9_method_1_code
def yX7_init : MethodName := ⟨RX7, "<init>", "()V"⟩
abbrev cX7_isMissing : ByteArray := prog_9_method_2_code
def yX7_isMissing : MethodName := ⟨RX7, "isMissing", "()Z"⟩
abbrev cX7_begin : ByteArray := prog_9_method_3_code
def yX7_begin : MethodName := ⟨RX7, "begin", "(II)V"⟩
abbrev cX7_end : ByteArray := prog_9_method_4_code
def yX7_end : MethodName := ⟨RX7, "end", "()I"⟩
abbrev cX7_hasPlaces : ByteArray := prog_9_method_5_code
def yX7_hasPlaces : MethodName := ⟨RX7, "hasPlaces", "(II)Z"⟩
abbrev cX7_findingFor : ByteArray := prog_9_method_6_code
def yX7_findingFor : MethodName := ⟨RX7, "findingFor", "(II)I"⟩
abbrev cX7_hasOnlyUpTo : ByteArray := prog_9_method_7_code
def yX7_hasOnlyUpTo : MethodName := ⟨RX7, "hasOnlyUpTo", "(III)Z"⟩
abbrev cX7_put : ByteArray := prog_9_method_8_code
def yX7_put : MethodName := ⟨RX7, "put", "(II)I"⟩
def RX8 : String := "RoomsOfAir$Sky"
def TX8 : u_T := fun k => match k with
  | 0 => ("RoomsOfAir$Sky", "land", "LRoomsOfAir$Land;", true)
  | 1 => ("RoomsOfAir$Sky", "fleet", "LRoomsOfAir$Fleet;", true)
  | 2 => ("RoomsOfAir$Sky", "loads", "[I", true)
  | 3 => ("RoomsOfAir$Sky", "safes", "[I", true)
  | _ => ("RoomsOfAir$Sky", "path", "[I", true)
def tyX8 : Nat → FieldType := fun k => match k with
  | 0 => .object "RoomsOfAir$Land"
  | 1 => .object "RoomsOfAir$Fleet"
  | 2 => .array .int
  | 3 => .array .int
  | _ => .array .int
abbrev wsX80 : List Cond := u_ws RX8 TX8 5
theorem nmX8 : ∀ a, a < 5 → ∀ b, b < 5 → a ≠ b → (TX8 a).2.1 ≠ (TX8 b).2.1 := by decide +kernel
theorem tyX8_ok : ∀ k, k < 5 → parseFieldDescriptor (TX8 k).2.2.1 = some (tyX8 k) := by decide +kernel
abbrev cX8_init : ByteArray := prog_10_method_1_code
def yX8_init : MethodName := ⟨RX8, "<init>", "(LRoomsOfAir$Land;LRoomsOfAir$Fleet;)V"⟩
abbrev cX8_refresh : ByteArray := prog_10_method_2_code
def yX8_refresh : MethodName := ⟨RX8, "refresh", "()V"⟩
abbrev cX8_tooMuchIn : ByteArray := prog_10_method_3_code
def yX8_tooMuchIn : MethodName := ⟨RX8, "tooMuchIn", "(I)I"⟩
abbrev cX8_tooMuchTogether : ByteArray := prog_10_method_4_code
def yX8_tooMuchTogether : MethodName := ⟨RX8, "tooMuchTogether", "()I"⟩
abbrev cX8_crowdedCells : ByteArray := prog_10_method_5_code
def yX8_crowdedCells : MethodName := ⟨RX8, "crowdedCells", "()I"⟩
abbrev cX8_greatestLoad : ByteArray := prog_10_method_6_code
def yX8_greatestLoad : MethodName := ⟨RX8, "greatestLoad", "()I"⟩
abbrev cX8_isCrowdedAround : ByteArray := prog_10_method_7_code
def yX8_isCrowdedAround : MethodName := ⟨RX8, "isCrowdedAround", "(LRoomsOfAir$Flight;)Z"⟩
def RX9 : String := "RoomsOfAir$Splitter"
def TX9 : u_T := fun k => match k with
  | 0 => ("RoomsOfAir$Splitter", "land", "LRoomsOfAir$Land;", true)
  | 1 => ("RoomsOfAir$Splitter", "sky", "LRoomsOfAir$Sky;", true)
  | 2 => ("RoomsOfAir$Splitter", "harms", "[I", true)
  | 3 => ("RoomsOfAir$Splitter", "harmsBehind", "[I", true)
  | 4 => ("RoomsOfAir$Splitter", "relieved", "[I", true)
  | 5 => ("RoomsOfAir$Splitter", "plan", "[I", true)
  | _ => ("RoomsOfAir$Splitter", "leastHarm", "I", false)
def tyX9 : Nat → FieldType := fun k => match k with
  | 0 => .object "RoomsOfAir$Land"
  | 1 => .object "RoomsOfAir$Sky"
  | 2 => .array .int
  | 3 => .array .int
  | 4 => .array .int
  | 5 => .array .int
  | _ => .int
abbrev wsX90 : List Cond := u_ws RX9 TX9 7
theorem nmX9 : ∀ a, a < 7 → ∀ b, b < 7 → a ≠ b → (TX9 a).2.1 ≠ (TX9 b).2.1 := by decide +kernel
theorem tyX9_ok : ∀ k, k < 7 → parseFieldDescriptor (TX9 k).2.2.1 = some (tyX9 k) := by decide +kernel
abbrev cX9_init : ByteArray := prog_11_method_1_code
def yX9_init : MethodName := ⟨RX9, "<init>", "(LRoomsOfAir$Land;LRoomsOfAir$Sky;)V"⟩
abbrev cX9_makePlan : ByteArray := prog_11_method_2_code
def yX9_makePlan : MethodName := ⟨RX9, "makePlan", "()V"⟩
abbrev cX9_weighSlot : ByteArray := prog_11_method_3_code
def yX9_weighSlot : MethodName := ⟨RX9, "weighSlot", "(I)V"⟩
abbrev cX9_fillRelieved : ByteArray := prog_11_method_4_code
def yX9_fillRelieved : MethodName := ⟨RX9, "fillRelieved", "(I)V"⟩
abbrev cX9_reliefBySplit : ByteArray := prog_11_method_5_code
def yX9_reliefBySplit : MethodName := ⟨RX9, "reliefBySplit", "(I)I"⟩
abbrev cX9_addChangesAhead : ByteArray := prog_11_method_6_code
def yX9_addChangesAhead : MethodName := ⟨RX9, "addChangesAhead", "()V"⟩
abbrev cX9_bestSetBehind : ByteArray := prog_11_method_7_code
def yX9_bestSetBehind : MethodName := ⟨RX9, "bestSetBehind", "(II)I"⟩
def RX10 : String := "RoomsOfAir$Tokens"
def TX10 : u_T := fun k => match k with
  | 0 => ("RoomsOfAir$Tokens", "bytes", "[I", true)
  | 1 => ("RoomsOfAir$Tokens", "length", "I", false)
  | 2 => ("RoomsOfAir$Tokens", "next", "I", false)
  | 3 => ("RoomsOfAir$Tokens", "type", "I", false)
  | 4 => ("RoomsOfAir$Tokens", "first", "I", false)
  | _ => ("RoomsOfAir$Tokens", "value", "J", false)
def tyX10 : Nat → FieldType := fun k => match k with
  | 0 => .array .int
  | 1 => .int
  | 2 => .int
  | 3 => .int
  | 4 => .int
  | _ => .long
abbrev wsX100 : List Cond := u_ws RX10 TX10 6
theorem nmX10 : ∀ a, a < 6 → ∀ b, b < 6 → a ≠ b → (TX10 a).2.1 ≠ (TX10 b).2.1 := by decide +kernel
theorem tyX10_ok : ∀ k, k < 6 → parseFieldDescriptor (TX10 k).2.2.1 = some (tyX10 k) := by decide +kernel
abbrev cX10_init : ByteArray := prog_12_method_1_code
def yX10_init : MethodName := ⟨RX10, "<init>", "()V"⟩
abbrev cX10_takeBytes : ByteArray := prog_12_method_2_code
def yX10_takeBytes : MethodName := ⟨RX10, "takeBytes", "(JI)Z"⟩
abbrev cX10_rewind : ByteArray := prog_12_method_3_code
def yX10_rewind : MethodName := ⟨RX10, "rewind", "()V"⟩
abbrev cX10_advance : ByteArray := prog_12_method_4_code
def yX10_advance : MethodName := ⟨RX10, "advance", "()V"⟩
abbrev cX10_isName : ByteArray := prog_12_method_5_code
def yX10_isName : MethodName := ⟨RX10, "isName", "(J)Z"⟩
abbrev cX10_typeOf : ByteArray := prog_12_method_6_code
def yX10_typeOf : MethodName := ⟨RX10, "typeOf", "(I)I"⟩
def RX11 : String := "RoomsOfAir"
def TX11 : u_T := fun k => match k with
  | 0 => ("RoomsOfAir", "sheets", "[LRoomsOfAir$Sheet;", true)
  | 1 => ("RoomsOfAir", "land", "LRoomsOfAir$Land;", true)
  | 2 => ("RoomsOfAir", "fleet", "LRoomsOfAir$Fleet;", true)
  | 3 => ("RoomsOfAir", "tape", "LRoomsOfAir$Tokens;", true)
  | 4 => ("RoomsOfAir", "reader", "LRoomsOfAir$Reader;", true)
  | 5 => ("RoomsOfAir", "sky", "LRoomsOfAir$Sky;", true)
  | 6 => ("RoomsOfAir", "splitter", "LRoomsOfAir$Splitter;", true)
  | 7 => ("RoomsOfAir", "settler", "LRoomsOfAir$Settler;", true)
  | 8 => ("RoomsOfAir", "ledger", "LRoomsOfAir$Ledger;", true)
  | 9 => ("RoomsOfAir", "asks", "LRoomsOfAir$Asks;", true)
  | 10 => ("RoomsOfAir", "latestFinding", "I", false)
  | _ => ("RoomsOfAir", "latestFault", "I", false)
def tyX11 : Nat → FieldType := fun k => match k with
  | 0 => .array (.object "RoomsOfAir$Sheet")
  | 1 => .object "RoomsOfAir$Land"
  | 2 => .object "RoomsOfAir$Fleet"
  | 3 => .object "RoomsOfAir$Tokens"
  | 4 => .object "RoomsOfAir$Reader"
  | 5 => .object "RoomsOfAir$Sky"
  | 6 => .object "RoomsOfAir$Splitter"
  | 7 => .object "RoomsOfAir$Settler"
  | 8 => .object "RoomsOfAir$Ledger"
  | 9 => .object "RoomsOfAir$Asks"
  | 10 => .int
  | _ => .int
abbrev wsX110 : List Cond := u_ws RX11 TX11 12
theorem nmX11 : ∀ a, a < 12 → ∀ b, b < 12 → a ≠ b → (TX11 a).2.1 ≠ (TX11 b).2.1 := by decide +kernel
theorem tyX11_ok : ∀ k, k < 12 → parseFieldDescriptor (TX11 k).2.2.1 = some (tyX11 k) := by decide +kernel
abbrev cX11_init : ByteArray := prog_1_method_1_code
def yX11_init : MethodName := ⟨RX11, "<init>", "()V"⟩
abbrev cX11_sheet : ByteArray := prog_1_method_2_code
def yX11_sheet : MethodName := ⟨RX11, "sheet", "(III)I"⟩
abbrev cX11_set : ByteArray := prog_1_method_3_code
def yX11_set : MethodName := ⟨RX11, "set", "(III)I"⟩
abbrev cX11_copy : ByteArray := prog_1_method_4_code
def yX11_copy : MethodName := ⟨RX11, "copy", "(IIIII)I"⟩
abbrev cX11_drop : ByteArray := prog_1_method_5_code
def yX11_drop : MethodName := ⟨RX11, "drop", "(I)I"⟩
abbrev cX11_bears : ByteArray := prog_1_method_6_code
def yX11_bears : MethodName := ⟨RX11, "bears", "(IIIII)I"⟩
abbrev cX11_staff : ByteArray := prog_1_method_7_code
def yX11_staff : MethodName := ⟨RX11, "staff", "(IIII)I"⟩
abbrev cX11_look : ByteArray := prog_1_method_8_code
def yX11_look : MethodName := ⟨RX11, "look", "(I)I"⟩
abbrev cX11_safe : ByteArray := prog_1_method_9_code
def yX11_safe : MethodName := ⟨RX11, "safe", "(III)I"⟩
abbrev cX11_feed : ByteArray := prog_1_method_10_code
def yX11_feed : MethodName := ⟨RX11, "feed", "(JI)I"⟩
abbrev cX11_read : ByteArray := prog_1_method_11_code
def yX11_read : MethodName := ⟨RX11, "read", "()I"⟩
abbrev cX11_fault : ByteArray := prog_1_method_12_code
def yX11_fault : MethodName := ⟨RX11, "fault", "()I"⟩
abbrev cX11_told : ByteArray := prog_1_method_13_code
def yX11_told : MethodName := ⟨RX11, "told", "(II)I"⟩
abbrev cX11_leg : ByteArray := prog_1_method_14_code
def yX11_leg : MethodName := ⟨RX11, "leg", "(IIII)I"⟩
abbrev cX11_choose : ByteArray := prog_1_method_15_code
def yX11_choose : MethodName := ⟨RX11, "choose", "(III)I"⟩
abbrev cX11_at : ByteArray := prog_1_method_16_code
def yX11_at : MethodName := ⟨RX11, "at", "(II)I"⟩
abbrev cX11_load : ByteArray := prog_1_method_17_code
def yX11_load : MethodName := ⟨RX11, "load", "(III)I"⟩
abbrev cX11_all : ByteArray := prog_1_method_18_code
def yX11_all : MethodName := ⟨RX11, "all", "(I)I"⟩
abbrev cX11_known : ByteArray := prog_1_method_19_code
def yX11_known : MethodName := ⟨RX11, "known", "(III)I"⟩
abbrev cX11_split : ByteArray := prog_1_method_20_code
def yX11_split : MethodName := ⟨RX11, "split", "(I)I"⟩
abbrev cX11_settle : ByteArray := prog_1_method_21_code
def yX11_settle : MethodName := ⟨RX11, "settle", "(I)I"⟩
abbrev cX11_harmless : ByteArray := prog_1_method_22_code
def yX11_harmless : MethodName := ⟨RX11, "harmless", "(II)I"⟩
abbrev cX11_swap : ByteArray := prog_1_method_23_code
def yX11_swap : MethodName := ⟨RX11, "swap", "()I"⟩
abbrev cX11_airline : ByteArray := prog_1_method_24_code
def yX11_airline : MethodName := ⟨RX11, "airline", "(II)I"⟩
abbrev cX11_kind : ByteArray := prog_1_method_25_code
def yX11_kind : MethodName := ⟨RX11, "kind", "(I)I"⟩
abbrev cX11_as : ByteArray := prog_1_method_26_code
def yX11_as : MethodName := ⟨RX11, "as", "(II)I"⟩
abbrev cX11_ask : ByteArray := prog_1_method_27_code
def yX11_ask : MethodName := ⟨RX11, "ask", "(II)I"⟩
abbrev cX11_trace : ByteArray := prog_1_method_28_code
def yX11_trace : MethodName := ⟨RX11, "trace", "(I)I"⟩
abbrev cX11_count : ByteArray := prog_1_method_29_code
def yX11_count : MethodName := ⟨RX11, "count", "(I)I"⟩
abbrev cX11_status : ByteArray := prog_1_method_30_code
def yX11_status : MethodName := ⟨RX11, "status", "()I"⟩
abbrev cX11_isRoom : ByteArray := prog_1_method_31_code
def yX11_isRoom : MethodName := ⟨RX11, "isRoom", "(I)Z"⟩
abbrev cX11_isSlot : ByteArray := prog_1_method_32_code
def yX11_isSlot : MethodName := ⟨RX11, "isSlot", "(I)Z"⟩
abbrev cX11_areSlots : ByteArray := prog_1_method_33_code
def yX11_areSlots : MethodName := ⟨RX11, "areSlots", "(II)Z"⟩
abbrev cX11_cellOf : ByteArray := prog_1_method_34_code
def yX11_cellOf : MethodName := ⟨RX11, "cellOf", "(II)I"⟩
abbrev cX11_sheetOrNull : ByteArray := prog_1_method_35_code
def yX11_sheetOrNull : MethodName := ⟨RX11, "sheetOrNull", "(I)LRoomsOfAir$Sheet;"⟩
abbrev cX11_found : ByteArray := prog_1_method_36_code
def yX11_found : MethodName := ⟨RX11, "found", "(I)I"⟩
abbrev cX11_withoutFinding : ByteArray := prog_1_method_37_code
def yX11_withoutFinding : MethodName := ⟨RX11, "withoutFinding", "(I)I"⟩
abbrev cX11_fillFromSheet : ByteArray := prog_1_method_38_code
def yX11_fillFromSheet : MethodName := ⟨RX11, "fillFromSheet", "([IIIIII)I"⟩
abbrev cX11_sheetsThere : ByteArray := prog_1_method_39_code
def yX11_sheetsThere : MethodName := ⟨RX11, "sheetsThere", "()I"⟩
abbrev cX11_flightsTold : ByteArray := prog_1_method_40_code
def yX11_flightsTold : MethodName := ⟨RX11, "flightsTold", "(I)I"⟩
abbrev cX11_harmsNone : ByteArray := prog_1_method_41_code
def yX11_harmsNone : MethodName := ⟨RX11, "harmsNone", "(LRoomsOfAir$Flight;LRoomsOfAir$Flight;)Z"⟩
abbrev cX11_exchangeDelays : ByteArray := prog_1_method_42_code
def yX11_exchangeDelays : MethodName := ⟨RX11, "exchangeDelays", "(LRoomsOfAir$Flight;LRoomsOfAir$Flight;)V"⟩
def RX12 : String := "RoomsOfAirModel"
def TX12 : u_T := fun k => match k with
  | 0 => ("RoomsOfAirModel", "thrown", "I", false)
  | 1 => ("RoomsOfAirModel", "status", "I", false)
  | 2 => ("RoomsOfAirModel", "lane", "[I", true)
  | 3 => ("RoomsOfAirModel", "many", "[I", true)
  | 4 => ("RoomsOfAirModel", "item", "[I", true)
  | 5 => ("RoomsOfAirModel", "base", "[I", true)
  | 6 => ("RoomsOfAirModel", "staff", "[I", true)
  | 7 => ("RoomsOfAirModel", "looked", "I", false)
  | 8 => ("RoomsOfAirModel", "storms", "I", false)
  | 9 => ("RoomsOfAirModel", "storm", "[I", true)
  | 10 => ("RoomsOfAirModel", "flights", "I", false)
  | 11 => ("RoomsOfAirModel", "flight", "[I", true)
  | 12 => ("RoomsOfAirModel", "legRoom", "[I", true)
  | 13 => ("RoomsOfAirModel", "legSlots", "[I", true)
  | 14 => ("RoomsOfAirModel", "way", "[I", true)
  | 15 => ("RoomsOfAirModel", "delay", "[I", true)
  | 16 => ("RoomsOfAirModel", "tape", "[I", true)
  | 17 => ("RoomsOfAirModel", "taped", "I", false)
  | 18 => ("RoomsOfAirModel", "latest", "I", false)
  | 19 => ("RoomsOfAirModel", "size", "I", false)
  | 20 => ("RoomsOfAirModel", "cursor", "I", false)
  | 21 => ("RoomsOfAirModel", "token", "I", false)
  | 22 => ("RoomsOfAirModel", "from", "I", false)
  | 23 => ("RoomsOfAirModel", "till", "I", false)
  | 24 => ("RoomsOfAirModel", "fault", "I", false)
  | 25 => ("RoomsOfAirModel", "faultAt", "I", false)
  | 26 => ("RoomsOfAirModel", "newFlights", "I", false)
  | 27 => ("RoomsOfAirModel", "newStorms", "I", false)
  | 28 => ("RoomsOfAirModel", "borne", "I", false)
  | 29 => ("RoomsOfAirModel", "bearRoom", "[I", true)
  | 30 => ("RoomsOfAirModel", "bearNumber", "[I", true)
  | 31 => ("RoomsOfAirModel", "by", "[I", true)
  | 32 => ("RoomsOfAirModel", "share", "[I", true)
  | 33 => ("RoomsOfAirModel", "harm", "[I", true)
  | 34 => ("RoomsOfAirModel", "least", "[I", true)
  | 35 => ("RoomsOfAirModel", "best", "[I", true)
  | 36 => ("RoomsOfAirModel", "laid", "[I", true)
  | 37 => ("RoomsOfAirModel", "who", "[I", true)
  | 38 => ("RoomsOfAirModel", "tried", "[I", true)
  | 39 => ("RoomsOfAirModel", "chosen", "[I", true)
  | 40 => ("RoomsOfAirModel", "trace", "[I", true)
  | _ => ("RoomsOfAirModel", "traced", "I", false)
def tyX12 : Nat → FieldType := fun k => match k with
  | 0 => .int
  | 1 => .int
  | 2 => .array .int
  | 3 => .array .int
  | 4 => .array .int
  | 5 => .array .int
  | 6 => .array .int
  | 7 => .int
  | 8 => .int
  | 9 => .array .int
  | 10 => .int
  | 11 => .array .int
  | 12 => .array .int
  | 13 => .array .int
  | 14 => .array .int
  | 15 => .array .int
  | 16 => .array .int
  | 17 => .int
  | 18 => .int
  | 19 => .int
  | 20 => .int
  | 21 => .int
  | 22 => .int
  | 23 => .int
  | 24 => .int
  | 25 => .int
  | 26 => .int
  | 27 => .int
  | 28 => .int
  | 29 => .array .int
  | 30 => .array .int
  | 31 => .array .int
  | 32 => .array .int
  | 33 => .array .int
  | 34 => .array .int
  | 35 => .array .int
  | 36 => .array .int
  | 37 => .array .int
  | 38 => .array .int
  | 39 => .array .int
  | 40 => .array .int
  | _ => .int
abbrev wsX120 : List Cond := u_ws RX12 TX12 42
theorem nmX12 : ∀ a, a < 42 → ∀ b, b < 42 → a ≠ b → (TX12 a).2.1 ≠ (TX12 b).2.1 := by decide +kernel
theorem tyX12_ok : ∀ k, k < 42 → parseFieldDescriptor (TX12 k).2.2.1 = some (tyX12 k) := by decide +kernel
abbrev cX12_in : ByteArray := prog_14_method_2_code
def yX12_in : MethodName := ⟨RX12, "in", "(JJJ)Z"⟩
abbrev cX12_found : ByteArray := prog_14_method_3_code
def yX12_found : MethodName := ⟨RX12, "found", "(I)I"⟩
abbrev cX12_isSheet : ByteArray := prog_14_method_4_code
def yX12_isSheet : MethodName := ⟨RX12, "isSheet", "(I)Z"⟩
abbrev cX12_sheet : ByteArray := prog_14_method_5_code
def yX12_sheet : MethodName := ⟨RX12, "sheet", "(III)I"⟩
abbrev cX12_set : ByteArray := prog_14_method_6_code
def yX12_set : MethodName := ⟨RX12, "set", "(III)I"⟩
abbrev cX12_copy : ByteArray := prog_14_method_7_code
def yX12_copy : MethodName := ⟨RX12, "copy", "(IIIII)I"⟩
abbrev cX12_drop : ByteArray := prog_14_method_8_code
def yX12_drop : MethodName := ⟨RX12, "drop", "(I)I"⟩
abbrev cX12_init : ByteArray := prog_14_method_9_code
def yX12_init : MethodName := ⟨RX12, "<init>", "()V"⟩
abbrev cX12_isRoom : ByteArray := prog_14_method_10_code
def yX12_isRoom : MethodName := ⟨RX12, "isRoom", "(I)Z"⟩
abbrev cX12_isSlot : ByteArray := prog_14_method_11_code
def yX12_isSlot : MethodName := ⟨RX12, "isSlot", "(I)Z"⟩
abbrev cX12_lookItems : ByteArray := prog_14_method_12_code
def yX12_lookItems : MethodName := ⟨RX12, "lookItems", "(IIII)I"⟩
abbrev cX12_bears : ByteArray := prog_14_method_13_code
def yX12_bears : MethodName := ⟨RX12, "bears", "(IIIII)I"⟩
abbrev cX12_staff : ByteArray := prog_14_method_14_code
def yX12_staff : MethodName := ⟨RX12, "staff", "(IIII)I"⟩
abbrev cX12_look : ByteArray := prog_14_method_15_code
def yX12_look : MethodName := ⟨RX12, "look", "(I)I"⟩
abbrev cX12_bearsIn : ByteArray := prog_14_method_16_code
def yX12_bearsIn : MethodName := ⟨RX12, "bearsIn", "(III)I"⟩
abbrev cX12_safeOf : ByteArray := prog_14_method_17_code
def yX12_safeOf : MethodName := ⟨RX12, "safeOf", "(II)I"⟩
abbrev cX12_safe : ByteArray := prog_14_method_18_code
def yX12_safe : MethodName := ⟨RX12, "safe", "(III)I"⟩
abbrev cX12_isFlight : ByteArray := prog_14_method_19_code
def yX12_isFlight : MethodName := ⟨RX12, "isFlight", "(I)Z"⟩
abbrev cX12_costBy : ByteArray := prog_14_method_20_code
def yX12_costBy : MethodName := ⟨RX12, "costBy", "(III)I"⟩
abbrev cX12_costOf : ByteArray := prog_14_method_21_code
def yX12_costOf : MethodName := ⟨RX12, "costOf", "(I)I"⟩
abbrev cX12_roomBy : ByteArray := prog_14_method_22_code
def yX12_roomBy : MethodName := ⟨RX12, "roomBy", "(IIII)I"⟩
abbrev cX12_slotsOf : ByteArray := prog_14_method_23_code
def yX12_slotsOf : MethodName := ⟨RX12, "slotsOf", "(II)I"⟩
abbrev cX12_feed : ByteArray := prog_14_method_24_code
def yX12_feed : MethodName := ⟨RX12, "feed", "(JI)I"⟩
abbrev cX12_byteAt : ByteArray := prog_14_method_25_code
def yX12_byteAt : MethodName := ⟨RX12, "byteAt", "(I)I"⟩
abbrev cX12_isLetter : ByteArray := prog_14_method_26_code
def yX12_isLetter : MethodName := ⟨RX12, "isLetter", "(I)Z"⟩
abbrev cX12_isFigure : ByteArray := prog_14_method_27_code
def yX12_isFigure : MethodName := ⟨RX12, "isFigure", "(I)Z"⟩
abbrev cX12_step : ByteArray := prog_14_method_28_code
def yX12_step : MethodName := ⟨RX12, "step", "()V"⟩
abbrev cX12_bad : ByteArray := prog_14_method_29_code
def yX12_bad : MethodName := ⟨RX12, "bad", "(I)V"⟩
abbrev cX12_need : ByteArray := prog_14_method_30_code
def yX12_need : MethodName := ⟨RX12, "need", "(Z)V"⟩
abbrev cX12_is : ByteArray := prog_14_method_31_code
def yX12_is : MethodName := ⟨RX12, "is", "(I)Z"⟩
abbrev cX12_word : ByteArray := prog_14_method_32_code
def yX12_word : MethodName := ⟨RX12, "word", "()J"⟩
abbrev cX12_numberIn : ByteArray := prog_14_method_33_code
def yX12_numberIn : MethodName := ⟨RX12, "numberIn", "(II)I"⟩
abbrev cX12_readWay : ByteArray := prog_14_method_34_code
def yX12_readWay : MethodName := ⟨RX12, "readWay", "(I)V"⟩
abbrev cX12_readFlight : ByteArray := prog_14_method_35_code
def yX12_readFlight : MethodName := ⟨RX12, "readFlight", "()V"⟩
abbrev cX12_readStorm : ByteArray := prog_14_method_36_code
def yX12_readStorm : MethodName := ⟨RX12, "readStorm", "()V"⟩
abbrev cX12_read : ByteArray := prog_14_method_37_code
def yX12_read : MethodName := ⟨RX12, "read", "()I"⟩
abbrev cX12_fault : ByteArray := prog_14_method_38_code
def yX12_fault : MethodName := ⟨RX12, "fault", "()I"⟩
abbrev cX12_told : ByteArray := prog_14_method_39_code
def yX12_told : MethodName := ⟨RX12, "told", "(II)I"⟩
abbrev cX12_leg : ByteArray := prog_14_method_40_code
def yX12_leg : MethodName := ⟨RX12, "leg", "(IIII)I"⟩
abbrev cX12_choose : ByteArray := prog_14_method_41_code
def yX12_choose : MethodName := ⟨RX12, "choose", "(III)I"⟩
abbrev cX12_at : ByteArray := prog_14_method_42_code
def yX12_at : MethodName := ⟨RX12, "at", "(II)I"⟩
abbrev cX12_loadOf : ByteArray := prog_14_method_43_code
def yX12_loadOf : MethodName := ⟨RX12, "loadOf", "(II)I"⟩
abbrev cX12_overOf : ByteArray := prog_14_method_44_code
def yX12_overOf : MethodName := ⟨RX12, "overOf", "(II)I"⟩
abbrev cX12_overAll : ByteArray := prog_14_method_45_code
def yX12_overAll : MethodName := ⟨RX12, "overAll", "()I"⟩
abbrev cX12_load : ByteArray := prog_14_method_46_code
def yX12_load : MethodName := ⟨RX12, "load", "(III)I"⟩
abbrev cX12_distance : ByteArray := prog_14_method_47_code
def yX12_distance : MethodName := ⟨RX12, "distance", "(I)I"⟩
abbrev cX12_give : ByteArray := prog_14_method_48_code
def yX12_give : MethodName := ⟨RX12, "give", "(II)V"⟩
abbrev cX12_delaysOf : ByteArray := prog_14_method_49_code
def yX12_delaysOf : MethodName := ⟨RX12, "delaysOf", "(I)I"⟩
abbrev cX12_flightsOf : ByteArray := prog_14_method_50_code
def yX12_flightsOf : MethodName := ⟨RX12, "flightsOf", "(I)I"⟩
abbrev cX12_shares : ByteArray := prog_14_method_51_code
def yX12_shares : MethodName := ⟨RX12, "shares", "()V"⟩
abbrev cX12_all : ByteArray := prog_14_method_52_code
def yX12_all : MethodName := ⟨RX12, "all", "(I)I"⟩
abbrev cX12_known : ByteArray := prog_14_method_53_code
def yX12_known : MethodName := ⟨RX12, "known", "(III)I"⟩
abbrev cX12_bits : ByteArray := prog_14_method_54_code
def yX12_bits : MethodName := ⟨RX12, "bits", "(I)I"⟩
abbrev cX12_findSplits : ByteArray := prog_14_method_55_code
def yX12_findSplits : MethodName := ⟨RX12, "findSplits", "()V"⟩
abbrev cX12_split : ByteArray := prog_14_method_56_code
def yX12_split : MethodName := ⟨RX12, "split", "(I)I"⟩
abbrev cX12_lay : ByteArray := prog_14_method_57_code
def yX12_lay : MethodName := ⟨RX12, "lay", "(III)V"⟩
abbrev cX12_fits : ByteArray := prog_14_method_58_code
def yX12_fits : MethodName := ⟨RX12, "fits", "(II)Z"⟩
abbrev cX12_settle : ByteArray := prog_14_method_59_code
def yX12_settle : MethodName := ⟨RX12, "settle", "(I)I"⟩
abbrev cX12_exchange : ByteArray := prog_14_method_60_code
def yX12_exchange : MethodName := ⟨RX12, "exchange", "(II)V"⟩
abbrev cX12_isHarmless : ByteArray := prog_14_method_61_code
def yX12_isHarmless : MethodName := ⟨RX12, "isHarmless", "(II)Z"⟩
abbrev cX12_harmless : ByteArray := prog_14_method_62_code
def yX12_harmless : MethodName := ⟨RX12, "harmless", "(II)I"⟩
abbrev cX12_swap : ByteArray := prog_14_method_63_code
def yX12_swap : MethodName := ⟨RX12, "swap", "()I"⟩
abbrev cX12_blameOf : ByteArray := prog_14_method_64_code
def yX12_blameOf : MethodName := ⟨RX12, "blameOf", "(I)I"⟩
abbrev cX12_airline : ByteArray := prog_14_method_65_code
def yX12_airline : MethodName := ⟨RX12, "airline", "(II)I"⟩
abbrev cX12_kindOf : ByteArray := prog_14_method_66_code
def yX12_kindOf : MethodName := ⟨RX12, "kindOf", "(I)I"⟩
abbrev cX12_isOf : ByteArray := prog_14_method_67_code
def yX12_isOf : MethodName := ⟨RX12, "isOf", "(II)Z"⟩
abbrev cX12_kind : ByteArray := prog_14_method_68_code
def yX12_kind : MethodName := ⟨RX12, "kind", "(I)I"⟩
abbrev cX12_as : ByteArray := prog_14_method_69_code
def yX12_as : MethodName := ⟨RX12, "as", "(II)I"⟩
abbrev cX12_began : ByteArray := prog_14_method_70_code
def yX12_began : MethodName := ⟨RX12, "began", "(I)V"⟩
abbrev cX12_markOf : ByteArray := prog_14_method_71_code
def yX12_markOf : MethodName := ⟨RX12, "markOf", "(II)I"⟩
abbrev cX12_sizeOf : ByteArray := prog_14_method_72_code
def yX12_sizeOf : MethodName := ⟨RX12, "sizeOf", "(II)I"⟩
abbrev cX12_ask : ByteArray := prog_14_method_73_code
def yX12_ask : MethodName := ⟨RX12, "ask", "(II)I"⟩
abbrev cX12_trace : ByteArray := prog_14_method_74_code
def yX12_trace : MethodName := ⟨RX12, "trace", "(I)I"⟩
abbrev cX12_count : ByteArray := prog_14_method_75_code
def yX12_count : MethodName := ⟨RX12, "count", "(I)I"⟩
abbrev cX12_status : ByteArray := prog_14_method_76_code
def yX12_status : MethodName := ⟨RX12, "status", "()I"⟩
def RJ6 : String := "java/lang/Integer"
abbrev cJ6_bitCount_0f7a4 : ByteArray := prog_15_method_49_code
def yJ6_bitCount_0f7a4 : MethodName := ⟨RJ6, "bitCount", "(I)I"⟩
def RJ9 : String := "java/lang/Math"
abbrev cJ9_abs_0f7a4 : ByteArray := prog_16_method_59_code
def yJ9_abs_0f7a4 : MethodName := ⟨RJ9, "abs", "(I)I"⟩
abbrev cJ9_max_7cf53 : ByteArray := prog_16_method_65_code
def yJ9_max_7cf53 : MethodName := ⟨RJ9, "max", "(II)I"⟩
abbrev cJ9_min_7cf53 : ByteArray := prog_16_method_69_code
def yJ9_min_7cf53 : MethodName := ⟨RJ9, "min", "(II)I"⟩
def RJ10 : String := "java/lang/System"
def RJ7 : String := "java/util/Arrays"
abbrev cJ7_fill_53178 : ByteArray := prog_18_method_103_code
def yJ7_fill_53178 : MethodName := ⟨RJ7, "fill", "([II)V"⟩
def RL : String := "RoomsOfAirLaw"
abbrev cL_law : ByteArray := code
def yL_law : MethodName := ⟨RL, "law", "([I)Z"⟩
abbrev vwCl : List vw_C := [(RX0, TX0, 3), (RX1, TX1, 2), (RX2, TX2, 10), (RX3, TX3, 9), (RX4, TX4, 5), (RX5, TX5, 8), (RX6, TX6, 9), (RX7, TX7, 3), (RX8, TX8, 5), (RX9, TX9, 7), (RX10, TX10, 6), (RX11, TX11, 12), (RX12, TX12, 42)]
end
section
/-! the abstract memory: regions, their places, kinds -/
abbrev zV : Type := Int32 ⊕ Int64 ⊕ Option (Nat × Nat)
abbrev vI (x : Int32) : zV := .inl x
abbrev vL (x : Int64) : zV := .inr (.inl x)
abbrev vR (r i : Nat) : zV := .inr (.inr (some (r, i)))
abbrev vN : zV := .inr (.inr none)
abbrev zMem : Type := Nat → Nat → Nat → Int32
abbrev zRef : Type := Nat → Nat → Nat → Option (Nat × Nat)
abbrev zWd : Type := Nat × va_G × ClassId × ClassId × ClassId
abbrev zY : Type := MethodName × ByteArray × Nat × Option FieldType
def zO : List Nat := [0, 1, 2, 3, 4, 5, 6, 7, 8, 9, 10, 11, 12, 13, 14, 15, 60, 61, 62, 63, 64, 65, 66, 67, 68, 69, 70, 71, 72, 73, 74, 75, 76, 77, 78, 79, 80, 81, 82, 83, 84, 85, 86, 101, 102, 103, 104, 105, 106, 107, 108, 109, 110, 111, 112, 113, 114, 115, 116, 117, 118, 119, 120, 121, 122, 123, 124, 125]
def zSt : List Nat := [0, 0, 0, 0, 0, 0, 0, 0, 0, 0, 0, 0, 4, 4, 4, 4, 0, 0, 0, 0, 0, 0, 0, 0, 0, 0, 0, 0, 0, 0, 0, 0, 0, 0, 0, 0, 0, 0, 0, 0, 0, 2, 2, 0, 0, 0, 0, 0, 0, 0, 0, 0, 0, 0, 0, 0, 0, 0, 0, 0, 0, 0, 0, 0, 0, 0, 0, 0]
def zCt : List Nat := [1, 1, 1, 1, 1, 1, 1, 1, 1, 1, 1, 1, 12, 12, 12, 12, 1, 1, 1, 1, 1, 1, 1, 1, 1, 1, 1, 1, 1, 1, 1, 1, 1, 1, 1, 1, 1, 1, 1, 1, 1, 8, 8, 1, 1, 1, 1, 1, 1, 1, 1, 1, 1, 1, 1, 1, 1, 1, 1, 1, 1, 1, 1, 1, 1, 1, 1, 1]
def zKd : List (Nat × Nat × Nat) := [(0, 11, 12), (2, 8, 0), (0, 3, 9), (1, 384, 0), (1, 48, 0), (1, 20, 0), (1, 20, 0), (1, 20, 0), (1, 20, 0), (1, 20, 0), (0, 1, 2), (3, 12, 0), (0, 2, 10), (1, 3, 0), (1, 15, 0), (1, 15, 0), (0, 10, 6), (1, 500, 0), (0, 5, 8), (1, 8, 0), (0, 8, 5), (1, 384, 0), (1, 384, 0), (1, 20, 0), (0, 9, 7), (1, 3072, 0), (1, 64, 0), (1, 64, 0), (1, 48, 0), (0, 6, 9), (1, 384, 0), (1, 20, 0), (1, 5, 0), (1, 5, 0), (1, 5, 0), (0, 4, 5), (1, 4, 0), (1, 4, 0), (1, 4, 0), (0, 0, 3), (1, 16, 0), (0, 7, 3), (1, 48, 0), (0, 12, 42), (1, 8, 0), (1, 8, 0), (1, 384, 0), (1, 384, 0), (1, 48, 0), (1, 100, 0), (1, 60, 0), (1, 180, 0), (1, 180, 0), (1, 12, 0), (1, 12, 0), (1, 500, 0), (1, 64, 0), (1, 64, 0), (1, 4, 0), (1, 4, 0), (1, 3072, 0), (1, 3136, 0), (1, 48, 0), (1, 384, 0), (1, 5, 0), (1, 5, 0), (1, 5, 0), (1, 16, 0)]
def zKy : List (Nat × Nat) := [(0, 0), (1, 0), (2, 0), (3, 0), (4, 0), (5, 0), (6, 0), (7, 0), (8, 0), (9, 0), (10, 0), (11, 0), (12, 0), (13, 0), (14, 0), (15, 0), (12, 1), (13, 1), (14, 1), (15, 1), (12, 2), (13, 2), (14, 2), (15, 2), (12, 3), (13, 3), (14, 3), (15, 3), (12, 4), (13, 4), (14, 4), (15, 4), (12, 5), (13, 5), (14, 5), (15, 5), (12, 6), (13, 6), (14, 6), (15, 6), (12, 7), (13, 7), (14, 7), (15, 7), (12, 8), (13, 8), (14, 8), (15, 8), (12, 9), (13, 9), (14, 9), (15, 9), (12, 10), (13, 10), (14, 10), (15, 10), (12, 11), (13, 11), (14, 11), (15, 11), (16, 0), (17, 0), (18, 0), (19, 0), (20, 0), (21, 0), (22, 0), (23, 0), (24, 0), (25, 0), (26, 0), (27, 0), (28, 0), (29, 0), (30, 0), (31, 0), (32, 0), (33, 0), (34, 0), (35, 0), (36, 0), (37, 0), (38, 0), (39, 0), (40, 0), (41, 0), (42, 0), (41, 1), (42, 1), (41, 2), (42, 2), (41, 3), (42, 3), (41, 4), (42, 4), (41, 5), (42, 5), (41, 6), (42, 6), (41, 7), (42, 7), (43, 0), (44, 0), (45, 0), (46, 0), (47, 0), (48, 0), (49, 0), (50, 0), (51, 0), (52, 0), (53, 0), (54, 0), (55, 0), (56, 0), (57, 0), (58, 0), (59, 0), (60, 0), (61, 0), (62, 0), (63, 0), (64, 0), (65, 0), (66, 0), (67, 0)]
def zFk : List (List Nat) := [[1, 1, 0], [1, 0], [0, 0, 0, 0, 0, 1, 1, 1, 0, 0], [1, 1, 1, 1, 1, 1, 1, 0, 0], [1, 1, 1, 1, 1], [1, 1, 1, 1, 0, 0, 0, 0], [1, 1, 1, 1, 1, 1, 1, 0, 0], [0, 0, 1], [1, 1, 1, 1, 1], [1, 1, 1, 1, 1, 1, 0], [1, 0, 0, 0, 0, 2], [1, 1, 1, 1, 1, 1, 1, 1, 1, 1, 0, 0], [0, 0, 1, 1, 1, 1, 1, 0, 0, 1, 0, 1, 1, 1, 1, 1, 1, 0, 0, 0, 0, 0, 0, 0, 0, 0, 0, 0, 0, 1, 1, 1, 1, 1, 1, 1, 1, 1, 1, 1, 1, 0]]
def zRTab : List (List (Option Nat)) := [[some 1, some 2, some 10, some 16, some 18, some 20, some 24, some 29, some 35, some 39], [], [some 3, some 4, some 5, some 6, some 7, some 8, some 9], [], [], [], [], [], [], [], [some 11], [], [none, none, none, none, none, some 13, some 14, some 15], [], [], [], [some 17], [], [some 16, some 2, some 10, some 19], [], [some 2, some 10, some 21, some 22, some 23], [], [], [], [some 2, some 20, some 25, some 26, some 27, some 28], [], [], [], [], [some 10, some 20, some 30, some 31, some 32, some 33, some 34], [], [], [], [], [], [some 10, some 20, some 36, some 37, some 38], [], [], [], [some 20, some 40], [], [none, none, some 42], [], [none, none, some 44, some 45, some 46, some 47, some 48, none, none, some 49, none, some 50, some 51, some 52, some 53, some 54, some 55, none, none, none, none, none, none, none, none, none, none, none, none, some 56, some 57, some 58, some 59, some 60, some 61, some 62, some 63, some 64, some 65, some 66, some 67], [], [], [], [], [], [], [], [], [], [], [], [], [], [], [], [], [], [], [], [], [], [], [], []]
def zad (r i : Nat) : Nat := zO.getD r 0 + zSt.getD r 0 * i
def zcnt (r : Nat) : Nat := zCt.getD r 0
def zkd (r : Nat) : Nat × Nat × Nat := zKd.getD r (9, 0, 0)
def zkey (k : Nat) : Nat × Nat := zKy.getD k (0, 0)
def zfk (ci j : Nat) : Nat := (zFk.getD ci []).getD j 0
def zRF : zRef := fun r i j => if r = 1 then some (41, j) else if r = 11 then some (12, j) else match (zRTab.getD r []).getD j none with
  | some q => some (q, i)
  | none => none
theorem zcnt_lt {r i : Nat} (h : i < zcnt r) : r < 68 := by
  by_cases hr : r < 68
  · exact hr
  · exfalso
    have h2 : zCt.getD r 0 = 0 := by
      have h3 : zCt.length = 68 := by decide +kernel
      rw [List.getD_eq_getElem?_getD, List.getElem?_eq_none (Nat.le_trans (Nat.le_of_eq h3) (Nat.le_of_not_lt hr))]
      rfl
    unfold zcnt at h
    omega
theorem zka0 : ∀ r, r < 68 → ∀ i, i < zcnt r → zkey (zad r i) = (r, i) ∧ zad r i < 126 := by decide +kernel
theorem zka {r i : Nat} (h : i < zcnt r) : zkey (zad r i) = (r, i) ∧ zad r i < 126 := zka0 r (zcnt_lt h) i h
theorem zak : ∀ k, k < 126 → zad (zkey k).1 (zkey k).2 = k ∧ (zkey k).2 < zcnt (zkey k).1 := by decide +kernel
theorem zkey_inj {k r i : Nat} (hk : k < 126) (h : zkey k = (r, i)) : k = zad r i := by
  have := (zak k hk).1
  rw [h] at this
  exact this.symm
def zin (n r i : Nat) : Prop := i < zcnt r ∧ zad r i < n
theorem zI {r i : Nat} (h : i < zcnt r) : zin 126 r i := ⟨h, (zka h).2⟩
/-- words of a value -/
def zcat : zV → Nat
  | .inr (.inl _) => 2
  | _ => 1
def zcv (b : Nat) : zV → Value
  | .inl x => .int x
  | .inr (.inl y) => .long y
  | .inr (.inr none) => .null
  | .inr (.inr (some k)) => .ref (b + zad k.1 k.2)
theorem zcv_cat (b : Nat) (v : zV) : (zcv b v).category = zcat v := by
  rcases v with x | x | _ | x <;> rfl
def zfv (b : Nat) (rf : zRef) (im : zMem) (lv : Int64) (ci r i j : Nat) : Value :=
  if zfk ci j = 0 then .int (im r i j) else if zfk ci j = 1 then zcv b (.inr (.inr (rf r i j))) else .long lv
def zrefs (b : Nat) (rf : zRef) (r i : Nat) : Nat → Option Nat := fun j => (rf r i j).map (fun k => b + zad k.1 k.2)
def zE (w : zWd) (rf : zRef) (im : zMem) (lv : Int64) (r i : Nat) : va_E :=
  if (zkd r).1 = 0 then .inr ((zkd r).2.1, (List.range (zkd r).2.2).map (zfv w.1 rf im lv (zkd r).2.1 r i))
  else if (zkd r).1 = 1 then .inl (w.2.2.1, (zkd r).2.1, .inl (im r i))
  else .inl (if (zkd r).1 = 2 then w.2.2.2.1 else w.2.2.2.2, (zkd r).2.1, .inr (.inr (.inr (.inr (zrefs w.1 rf r i)))))
def zws (w : zWd) (n : Nat) (rf : zRef) (im : zMem) (lv : Int64) : va_W := (List.range n).map (fun k => (w.1 + k, zE w rf im lv (zkey k).1 (zkey k).2))
theorem zws_at {w : zWd} {n : Nat} {rf : zRef} {im : zMem} {lv : Int64} {r i : Nat} (h : zin n r i) : (zws w n rf im lv)[zad r i]? = some (w.1 + zad r i, zE w rf im lv r i) := by
  unfold zws
  rw [List.getElem?_map, List.getElem?_range h.2]
  simp only [Option.map_some, (zka h.1).1]
def zset (im : zMem) (r i : Nat) (f : Nat → Int32) : zMem := fun r' => if r' = r then fun i' => if i' = i then f else im r i' else im r'
theorem zset_eq {im : zMem} {r i : Nat} {f : Nat → Int32} : zset im r i f r i = f := by simp [zset]
theorem zset_ne {im : zMem} {r i r' i' : Nat} {f : Nat → Int32} (h : ¬ (r' = r ∧ i' = i)) : zset im r i f r' i' = im r' i' := by
  unfold zset
  by_cases h1 : r' = r
  · subst h1
    by_cases h2 : i' = i
    · exact absurd ⟨rfl, h2⟩ h
    · simp [h2]
  · simp [h1]
theorem zset_id {im : zMem} {r i : Nat} : zset im r i (im r i) = im := by
  funext r' i'
  by_cases h : r' = r ∧ i' = i
  · obtain ⟨rfl, rfl⟩ := h
    exact zset_eq
  · exact zset_ne h
theorem zset_set {im : zMem} {r i : Nat} {f g : Nat → Int32} : zset (zset im r i f) r i g = zset im r i g := by
  funext r' i'
  by_cases h : r' = r ∧ i' = i
  · obtain ⟨rfl, rfl⟩ := h
    rw [zset_eq, zset_eq]
  · rw [zset_ne h, zset_ne h, zset_ne h]
theorem zE_im {w : zWd} {rf : zRef} {im im' : zMem} {lv : Int64} {r i : Nat} (h : im r i = im' r i) : zE w rf im lv r i = zE w rf im' lv r i := by
  have hf : zfv w.1 rf im lv (zkd r).2.1 r i = zfv w.1 rf im' lv (zkd r).2.1 r i := by
    funext j
    unfold zfv
    rw [h]
  unfold zE
  rw [h, hf]
theorem zws_set {w : zWd} {n : Nat} {rf : zRef} {im : zMem} {lv : Int64} {r i : Nat} {f : Nat → Int32} (hn : n ≤ 126) (h : zin n r i) :
    (zws w n rf im lv).set (zad r i) (w.1 + zad r i, zE w rf (zset im r i f) lv r i) = zws w n rf (zset im r i f) lv := by
  apply List.ext_getElem?
  intro k
  by_cases hk : k = zad r i
  · subst hk
    rw [zws_at h, List.getElem?_set_self (by simp [zws]; exact h.2)]
  · rw [List.getElem?_set_ne (fun q => hk q.symm)]
    unfold zws
    rw [List.getElem?_map, List.getElem?_map]
    by_cases hl : k < n
    · rw [List.getElem?_range hl]
      simp only [Option.map_some]
      rw [zE_im (im' := zset im r i f)]
      rw [zset_ne]
      intro q
      exact hk (zkey_inj (by omega) (Prod.ext q.1 q.2))
    · rw [List.getElem?_eq_none (by simp; omega)]
      rfl
theorem zlong : ∀ r, r < 68 → ¬ r = 16 → (zkd r).1 = 0 → ∀ j, j < (zkd r).2.2 → zfk (zkd r).2.1 j = 0 ∨ zfk (zkd r).2.1 j = 1 := by decide +kernel
theorem zE_lv {w : zWd} {rf : zRef} {im : zMem} {lv lv' : Int64} {r i : Nat} (hr : r < 68) (h : ¬ r = 16) : zE w rf im lv r i = zE w rf im lv' r i := by
  unfold zE
  by_cases h0 : (zkd r).1 = 0
  · rw [if_pos h0, if_pos h0]
    have : (List.range (zkd r).2.2).map (zfv w.1 rf im lv (zkd r).2.1 r i) = (List.range (zkd r).2.2).map (zfv w.1 rf im lv' (zkd r).2.1 r i) := by
      apply List.map_congr_left
      intro j hj
      unfold zfv
      rcases zlong r hr h h0 j (List.mem_range.mp hj) with q | q
      · rw [if_pos q, if_pos q]
      · simp [q]
    rw [this]
  · rw [if_neg h0, if_neg h0]
theorem zws_setL {w : zWd} {n : Nat} {rf : zRef} {im : zMem} {lv lv' : Int64} (hn : n ≤ 126) (h : zin n 16 0) :
    (zws w n rf im lv).set (zad 16 0) (w.1 + zad 16 0, zE w rf im lv' 16 0) = zws w n rf im lv' := by
  apply List.ext_getElem?
  intro k
  by_cases hk : k = zad 16 0
  · subst hk
    rw [zws_at h, List.getElem?_set_self (by simp [zws]; exact h.2)]
  · rw [List.getElem?_set_ne (fun q => hk q.symm)]
    unfold zws
    rw [List.getElem?_map, List.getElem?_map]
    by_cases hl : k < n
    · rw [List.getElem?_range hl]
      simp only [Option.map_some]
      have hk2 := zak k (by omega)
      rw [zE_lv (lv' := lv') (zcnt_lt hk2.2)]
      intro q
      apply hk
      apply zkey_inj (by omega)
      have h3 := hk2.2
      rw [q] at h3
      have h4 : (zkey k).2 < 1 := h3
      exact Prod.ext q (by show (zkey k).2 = 0; omega)
    · rw [List.getElem?_eq_none (by simp; omega)]
      rfl
/-! the words -/
def zT : List Cond := lw_tbl.filter goodWord
theorem zT_in {w : Cond} (h : w ∈ lw_tbl) (hg : goodWord w = true) : w ∈ zT := List.mem_filter.mpr ⟨h, hg⟩
theorem zT_tbl {w : Cond} (h : w ∈ zT) : w ∈ lw_tbl := (List.mem_filter.mp h).1
theorem zT_good {c : Cond} (h : c ∈ zT) : GoodIn zT (c :: zT) := fun w hw => by
  have h2 : w ∈ zT := (List.mem_cons.mp hw).elim (fun e => e ▸ h) id
  exact ⟨h2, good_of_word (List.mem_filter.mp h2).2⟩
theorem tb1 {w : Cond} (h : w ∈ tables_1_1) : w ∈ lw_tbl := List.mem_append_right _ (List.mem_append_left _ h)
theorem tb2 {w : Cond} (h : w ∈ tables_1_2) : w ∈ lw_tbl := List.mem_append_right _ (List.mem_append_right _ (List.mem_append_left _ h))
theorem tb3 {w : Cond} (h : w ∈ tables_1_3) : w ∈ lw_tbl := List.mem_append_right _ (List.mem_append_right _ (List.mem_append_right _ (List.mem_append_left _ h)))
theorem tb4 {w : Cond} (h : w ∈ tables_1_4) : w ∈ lw_tbl := List.mem_append_right _ (List.mem_append_right _ (List.mem_append_right _ (List.mem_append_right _ (List.mem_append_left _ h))))
theorem tb5 {w : Cond} (h : w ∈ tables_1_5) : w ∈ lw_tbl := List.mem_append_right _ (List.mem_append_right _ (List.mem_append_right _ (List.mem_append_right _ (List.mem_append_right _ (List.mem_append_left _ h)))))
theorem tb6 {w : Cond} (h : w ∈ tables_1_6) : w ∈ lw_tbl := List.mem_append_right _ (List.mem_append_right _ (List.mem_append_right _ (List.mem_append_right _ (List.mem_append_right _ (List.mem_append_right _ h)))))
theorem wd1 {w : Cond} (i : Nat) (h : tables_1_1[i]? = some w) (hg : goodWord w = true) : w ∈ zT := zT_in (tb1 (List.mem_of_getElem? h)) hg
theorem wd2 {w : Cond} (i : Nat) (h : tables_1_2[i]? = some w) (hg : goodWord w = true) : w ∈ zT := zT_in (tb2 (List.mem_of_getElem? h)) hg
theorem wd3 {w : Cond} (i : Nat) (h : tables_1_3[i]? = some w) (hg : goodWord w = true) : w ∈ zT := zT_in (tb3 (List.mem_of_getElem? h)) hg
theorem wd4 {w : Cond} (i : Nat) (h : tables_1_4[i]? = some w) (hg : goodWord w = true) : w ∈ zT := zT_in (tb4 (List.mem_of_getElem? h)) hg
theorem wd5 {w : Cond} (i : Nat) (h : tables_1_5[i]? = some w) (hg : goodWord w = true) : w ∈ zT := zT_in (tb5 (List.mem_of_getElem? h)) hg
theorem wd6 {w : Cond} (i : Nat) (h : tables_1_6[i]? = some w) (hg : goodWord w = true) : w ∈ zT := zT_in (tb6 (List.mem_of_getElem? h)) hg
theorem wd0 {w : Cond} (i : Nat) (h : (k2_sels lw_privs)[i]? = some w) (hg : goodWord w = true) : w ∈ zT := zT_in (List.mem_append_left _ (List.mem_of_getElem? h)) hg
theorem wl0_0 : u_lay RX0 TX0 0 ∈ zT := wd2 117 rfl rfl
theorem wl0_1 : u_lay RX0 TX0 1 ∈ zT := wd2 119 rfl rfl
theorem wl0_2 : u_lay RX0 TX0 2 ∈ zT := wd2 121 rfl rfl
theorem inZ0 : ∀ w ∈ u_ws RX0 TX0 3, w ∈ zT := by
  intro w hw
  obtain ⟨k, hk, rfl⟩ := List.mem_map.mp hw
  have hk := List.mem_range.mp hk
  match k, hk with
  | 0, _ => exact wl0_0
  | 1, _ => exact wl0_1
  | 2, _ => exact wl0_2
  | k + 3, hk => exact absurd hk (by omega)
theorem wl1_0 : u_lay RX1 TX1 0 ∈ zT := wd1 165 rfl rfl
theorem wl1_1 : u_lay RX1 TX1 1 ∈ zT := wd1 167 rfl rfl
theorem inZ1 : ∀ w ∈ u_ws RX1 TX1 2, w ∈ zT := by
  intro w hw
  obtain ⟨k, hk, rfl⟩ := List.mem_map.mp hw
  have hk := List.mem_range.mp hk
  match k, hk with
  | 0, _ => exact wl1_0
  | 1, _ => exact wl1_1
  | k + 2, hk => exact absurd hk (by omega)
theorem wl2_0 : u_lay RX2 TX2 0 ∈ zT := wd1 132 rfl rfl
theorem wl2_1 : u_lay RX2 TX2 1 ∈ zT := wd1 134 rfl rfl
theorem wl2_2 : u_lay RX2 TX2 2 ∈ zT := wd1 136 rfl rfl
theorem wl2_3 : u_lay RX2 TX2 3 ∈ zT := wd1 138 rfl rfl
theorem wl2_4 : u_lay RX2 TX2 4 ∈ zT := wd1 140 rfl rfl
theorem wl2_5 : u_lay RX2 TX2 5 ∈ zT := wd1 142 rfl rfl
theorem wl2_6 : u_lay RX2 TX2 6 ∈ zT := wd1 144 rfl rfl
theorem wl2_7 : u_lay RX2 TX2 7 ∈ zT := wd1 146 rfl rfl
theorem wl2_8 : u_lay RX2 TX2 8 ∈ zT := wd1 148 rfl rfl
theorem wl2_9 : u_lay RX2 TX2 9 ∈ zT := wd1 150 rfl rfl
theorem inZ2 : ∀ w ∈ u_ws RX2 TX2 10, w ∈ zT := by
  intro w hw
  obtain ⟨k, hk, rfl⟩ := List.mem_map.mp hw
  have hk := List.mem_range.mp hk
  match k, hk with
  | 0, _ => exact wl2_0
  | 1, _ => exact wl2_1
  | 2, _ => exact wl2_2
  | 3, _ => exact wl2_3
  | 4, _ => exact wl2_4
  | 5, _ => exact wl2_5
  | 6, _ => exact wl2_6
  | 7, _ => exact wl2_7
  | 8, _ => exact wl2_8
  | 9, _ => exact wl2_9
  | k + 10, hk => exact absurd hk (by omega)
theorem wl3_0 : u_lay RX3 TX3 0 ∈ zT := wd1 57 rfl rfl
theorem wl3_1 : u_lay RX3 TX3 1 ∈ zT := wd1 59 rfl rfl
theorem wl3_2 : u_lay RX3 TX3 2 ∈ zT := wd1 61 rfl rfl
theorem wl3_3 : u_lay RX3 TX3 3 ∈ zT := wd1 63 rfl rfl
theorem wl3_4 : u_lay RX3 TX3 4 ∈ zT := wd1 65 rfl rfl
theorem wl3_5 : u_lay RX3 TX3 5 ∈ zT := wd1 67 rfl rfl
theorem wl3_6 : u_lay RX3 TX3 6 ∈ zT := wd1 69 rfl rfl
theorem wl3_7 : u_lay RX3 TX3 7 ∈ zT := wd1 71 rfl rfl
theorem wl3_8 : u_lay RX3 TX3 8 ∈ zT := wd1 73 rfl rfl
theorem inZ3 : ∀ w ∈ u_ws RX3 TX3 9, w ∈ zT := by
  intro w hw
  obtain ⟨k, hk, rfl⟩ := List.mem_map.mp hw
  have hk := List.mem_range.mp hk
  match k, hk with
  | 0, _ => exact wl3_0
  | 1, _ => exact wl3_1
  | 2, _ => exact wl3_2
  | 3, _ => exact wl3_3
  | 4, _ => exact wl3_4
  | 5, _ => exact wl3_5
  | 6, _ => exact wl3_6
  | 7, _ => exact wl3_7
  | 8, _ => exact wl3_8
  | k + 9, hk => exact absurd hk (by omega)
theorem wl4_0 : u_lay RX4 TX4 0 ∈ zT := wd2 95 rfl rfl
theorem wl4_1 : u_lay RX4 TX4 1 ∈ zT := wd2 97 rfl rfl
theorem wl4_2 : u_lay RX4 TX4 2 ∈ zT := wd2 99 rfl rfl
theorem wl4_3 : u_lay RX4 TX4 3 ∈ zT := wd2 101 rfl rfl
theorem wl4_4 : u_lay RX4 TX4 4 ∈ zT := wd2 103 rfl rfl
theorem inZ4 : ∀ w ∈ u_ws RX4 TX4 5, w ∈ zT := by
  intro w hw
  obtain ⟨k, hk, rfl⟩ := List.mem_map.mp hw
  have hk := List.mem_range.mp hk
  match k, hk with
  | 0, _ => exact wl4_0
  | 1, _ => exact wl4_1
  | 2, _ => exact wl4_2
  | 3, _ => exact wl4_3
  | 4, _ => exact wl4_4
  | k + 5, hk => exact absurd hk (by omega)
theorem wl5_0 : u_lay RX5 TX5 0 ∈ zT := wd1 215 rfl rfl
theorem wl5_1 : u_lay RX5 TX5 1 ∈ zT := wd1 217 rfl rfl
theorem wl5_2 : u_lay RX5 TX5 2 ∈ zT := wd1 219 rfl rfl
theorem wl5_3 : u_lay RX5 TX5 3 ∈ zT := wd1 221 rfl rfl
theorem wl5_4 : u_lay RX5 TX5 4 ∈ zT := wd1 223 rfl rfl
theorem wl5_5 : u_lay RX5 TX5 5 ∈ zT := wd1 225 rfl rfl
theorem wl5_6 : u_lay RX5 TX5 6 ∈ zT := wd1 227 rfl rfl
theorem wl5_7 : u_lay RX5 TX5 7 ∈ zT := wd1 229 rfl rfl
theorem inZ5 : ∀ w ∈ u_ws RX5 TX5 8, w ∈ zT := by
  intro w hw
  obtain ⟨k, hk, rfl⟩ := List.mem_map.mp hw
  have hk := List.mem_range.mp hk
  match k, hk with
  | 0, _ => exact wl5_0
  | 1, _ => exact wl5_1
  | 2, _ => exact wl5_2
  | 3, _ => exact wl5_3
  | 4, _ => exact wl5_4
  | 5, _ => exact wl5_5
  | 6, _ => exact wl5_6
  | 7, _ => exact wl5_7
  | k + 8, hk => exact absurd hk (by omega)
theorem wl6_0 : u_lay RX6 TX6 0 ∈ zT := wd2 65 rfl rfl
theorem wl6_1 : u_lay RX6 TX6 1 ∈ zT := wd2 67 rfl rfl
theorem wl6_2 : u_lay RX6 TX6 2 ∈ zT := wd2 69 rfl rfl
theorem wl6_3 : u_lay RX6 TX6 3 ∈ zT := wd2 71 rfl rfl
theorem wl6_4 : u_lay RX6 TX6 4 ∈ zT := wd2 73 rfl rfl
theorem wl6_5 : u_lay RX6 TX6 5 ∈ zT := wd2 75 rfl rfl
theorem wl6_6 : u_lay RX6 TX6 6 ∈ zT := wd2 77 rfl rfl
theorem wl6_7 : u_lay RX6 TX6 7 ∈ zT := wd2 79 rfl rfl
theorem wl6_8 : u_lay RX6 TX6 8 ∈ zT := wd2 81 rfl rfl
theorem inZ6 : ∀ w ∈ u_ws RX6 TX6 9, w ∈ zT := by
  intro w hw
  obtain ⟨k, hk, rfl⟩ := List.mem_map.mp hw
  have hk := List.mem_range.mp hk
  match k, hk with
  | 0, _ => exact wl6_0
  | 1, _ => exact wl6_1
  | 2, _ => exact wl6_2
  | 3, _ => exact wl6_3
  | 4, _ => exact wl6_4
  | 5, _ => exact wl6_5
  | 6, _ => exact wl6_6
  | 7, _ => exact wl6_7
  | 8, _ => exact wl6_8
  | k + 9, hk => exact absurd hk (by omega)
theorem wl7_0 : u_lay RX7 TX7 0 ∈ zT := wd2 134 rfl rfl
theorem wl7_1 : u_lay RX7 TX7 1 ∈ zT := wd2 136 rfl rfl
theorem wl7_2 : u_lay RX7 TX7 2 ∈ zT := wd2 138 rfl rfl
theorem inZ7 : ∀ w ∈ u_ws RX7 TX7 3, w ∈ zT := by
  intro w hw
  obtain ⟨k, hk, rfl⟩ := List.mem_map.mp hw
  have hk := List.mem_range.mp hk
  match k, hk with
  | 0, _ => exact wl7_0
  | 1, _ => exact wl7_1
  | 2, _ => exact wl7_2
  | k + 3, hk => exact absurd hk (by omega)
theorem wl8_0 : u_lay RX8 TX8 0 ∈ zT := wd2 8 rfl rfl
theorem wl8_1 : u_lay RX8 TX8 1 ∈ zT := wd2 10 rfl rfl
theorem wl8_2 : u_lay RX8 TX8 2 ∈ zT := wd2 12 rfl rfl
theorem wl8_3 : u_lay RX8 TX8 3 ∈ zT := wd2 14 rfl rfl
theorem wl8_4 : u_lay RX8 TX8 4 ∈ zT := wd2 16 rfl rfl
theorem inZ8 : ∀ w ∈ u_ws RX8 TX8 5, w ∈ zT := by
  intro w hw
  obtain ⟨k, hk, rfl⟩ := List.mem_map.mp hw
  have hk := List.mem_range.mp hk
  match k, hk with
  | 0, _ => exact wl8_0
  | 1, _ => exact wl8_1
  | 2, _ => exact wl8_2
  | 3, _ => exact wl8_3
  | 4, _ => exact wl8_4
  | k + 5, hk => exact absurd hk (by omega)
theorem wl9_0 : u_lay RX9 TX9 0 ∈ zT := wd2 34 rfl rfl
theorem wl9_1 : u_lay RX9 TX9 1 ∈ zT := wd2 36 rfl rfl
theorem wl9_2 : u_lay RX9 TX9 2 ∈ zT := wd2 38 rfl rfl
theorem wl9_3 : u_lay RX9 TX9 3 ∈ zT := wd2 40 rfl rfl
theorem wl9_4 : u_lay RX9 TX9 4 ∈ zT := wd2 42 rfl rfl
theorem wl9_5 : u_lay RX9 TX9 5 ∈ zT := wd2 44 rfl rfl
theorem wl9_6 : u_lay RX9 TX9 6 ∈ zT := wd2 46 rfl rfl
theorem inZ9 : ∀ w ∈ u_ws RX9 TX9 7, w ∈ zT := by
  intro w hw
  obtain ⟨k, hk, rfl⟩ := List.mem_map.mp hw
  have hk := List.mem_range.mp hk
  match k, hk with
  | 0, _ => exact wl9_0
  | 1, _ => exact wl9_1
  | 2, _ => exact wl9_2
  | 3, _ => exact wl9_3
  | 4, _ => exact wl9_4
  | 5, _ => exact wl9_5
  | 6, _ => exact wl9_6
  | k + 7, hk => exact absurd hk (by omega)
theorem wl10_0 : u_lay RX10 TX10 0 ∈ zT := wd1 186 rfl rfl
theorem wl10_1 : u_lay RX10 TX10 1 ∈ zT := wd1 188 rfl rfl
theorem wl10_2 : u_lay RX10 TX10 2 ∈ zT := wd1 190 rfl rfl
theorem wl10_3 : u_lay RX10 TX10 3 ∈ zT := wd1 192 rfl rfl
theorem wl10_4 : u_lay RX10 TX10 4 ∈ zT := wd1 194 rfl rfl
theorem wl10_5 : u_lay RX10 TX10 5 ∈ zT := wd1 196 rfl rfl
theorem inZ10 : ∀ w ∈ u_ws RX10 TX10 6, w ∈ zT := by
  intro w hw
  obtain ⟨k, hk, rfl⟩ := List.mem_map.mp hw
  have hk := List.mem_range.mp hk
  match k, hk with
  | 0, _ => exact wl10_0
  | 1, _ => exact wl10_1
  | 2, _ => exact wl10_2
  | 3, _ => exact wl10_3
  | 4, _ => exact wl10_4
  | 5, _ => exact wl10_5
  | k + 6, hk => exact absurd hk (by omega)
theorem wl11_0 : u_lay RX11 TX11 0 ∈ zT := wd2 153 rfl rfl
theorem wl11_1 : u_lay RX11 TX11 1 ∈ zT := wd2 155 rfl rfl
theorem wl11_2 : u_lay RX11 TX11 2 ∈ zT := wd2 157 rfl rfl
theorem wl11_3 : u_lay RX11 TX11 3 ∈ zT := wd2 159 rfl rfl
theorem wl11_4 : u_lay RX11 TX11 4 ∈ zT := wd2 161 rfl rfl
theorem wl11_5 : u_lay RX11 TX11 5 ∈ zT := wd2 163 rfl rfl
theorem wl11_6 : u_lay RX11 TX11 6 ∈ zT := wd2 165 rfl rfl
theorem wl11_7 : u_lay RX11 TX11 7 ∈ zT := wd2 167 rfl rfl
theorem wl11_8 : u_lay RX11 TX11 8 ∈ zT := wd2 169 rfl rfl
theorem wl11_9 : u_lay RX11 TX11 9 ∈ zT := wd2 171 rfl rfl
theorem wl11_10 : u_lay RX11 TX11 10 ∈ zT := wd2 173 rfl rfl
theorem wl11_11 : u_lay RX11 TX11 11 ∈ zT := wd2 175 rfl rfl
theorem inZ11 : ∀ w ∈ u_ws RX11 TX11 12, w ∈ zT := by
  intro w hw
  obtain ⟨k, hk, rfl⟩ := List.mem_map.mp hw
  have hk := List.mem_range.mp hk
  match k, hk with
  | 0, _ => exact wl11_0
  | 1, _ => exact wl11_1
  | 2, _ => exact wl11_2
  | 3, _ => exact wl11_3
  | 4, _ => exact wl11_4
  | 5, _ => exact wl11_5
  | 6, _ => exact wl11_6
  | 7, _ => exact wl11_7
  | 8, _ => exact wl11_8
  | 9, _ => exact wl11_9
  | 10, _ => exact wl11_10
  | 11, _ => exact wl11_11
  | k + 12, hk => exact absurd hk (by omega)
theorem wl12_0 : u_lay RX12 TX12 0 ∈ zT := wd5 85 rfl rfl
theorem wl12_1 : u_lay RX12 TX12 1 ∈ zT := wd5 87 rfl rfl
theorem wl12_2 : u_lay RX12 TX12 2 ∈ zT := wd5 89 rfl rfl
theorem wl12_3 : u_lay RX12 TX12 3 ∈ zT := wd5 91 rfl rfl
theorem wl12_4 : u_lay RX12 TX12 4 ∈ zT := wd5 93 rfl rfl
theorem wl12_5 : u_lay RX12 TX12 5 ∈ zT := wd5 95 rfl rfl
theorem wl12_6 : u_lay RX12 TX12 6 ∈ zT := wd5 97 rfl rfl
theorem wl12_7 : u_lay RX12 TX12 7 ∈ zT := wd5 99 rfl rfl
theorem wl12_8 : u_lay RX12 TX12 8 ∈ zT := wd5 101 rfl rfl
theorem wl12_9 : u_lay RX12 TX12 9 ∈ zT := wd5 103 rfl rfl
theorem wl12_10 : u_lay RX12 TX12 10 ∈ zT := wd5 105 rfl rfl
theorem wl12_11 : u_lay RX12 TX12 11 ∈ zT := wd5 107 rfl rfl
theorem wl12_12 : u_lay RX12 TX12 12 ∈ zT := wd5 109 rfl rfl
theorem wl12_13 : u_lay RX12 TX12 13 ∈ zT := wd5 111 rfl rfl
theorem wl12_14 : u_lay RX12 TX12 14 ∈ zT := wd5 113 rfl rfl
theorem wl12_15 : u_lay RX12 TX12 15 ∈ zT := wd5 115 rfl rfl
theorem wl12_16 : u_lay RX12 TX12 16 ∈ zT := wd5 117 rfl rfl
theorem wl12_17 : u_lay RX12 TX12 17 ∈ zT := wd5 119 rfl rfl
theorem wl12_18 : u_lay RX12 TX12 18 ∈ zT := wd5 121 rfl rfl
theorem wl12_19 : u_lay RX12 TX12 19 ∈ zT := wd5 123 rfl rfl
theorem wl12_20 : u_lay RX12 TX12 20 ∈ zT := wd5 125 rfl rfl
theorem wl12_21 : u_lay RX12 TX12 21 ∈ zT := wd5 127 rfl rfl
theorem wl12_22 : u_lay RX12 TX12 22 ∈ zT := wd5 129 rfl rfl
theorem wl12_23 : u_lay RX12 TX12 23 ∈ zT := wd5 131 rfl rfl
theorem wl12_24 : u_lay RX12 TX12 24 ∈ zT := wd5 133 rfl rfl
theorem wl12_25 : u_lay RX12 TX12 25 ∈ zT := wd5 135 rfl rfl
theorem wl12_26 : u_lay RX12 TX12 26 ∈ zT := wd5 137 rfl rfl
theorem wl12_27 : u_lay RX12 TX12 27 ∈ zT := wd5 139 rfl rfl
theorem wl12_28 : u_lay RX12 TX12 28 ∈ zT := wd5 141 rfl rfl
theorem wl12_29 : u_lay RX12 TX12 29 ∈ zT := wd5 143 rfl rfl
theorem wl12_30 : u_lay RX12 TX12 30 ∈ zT := wd5 145 rfl rfl
theorem wl12_31 : u_lay RX12 TX12 31 ∈ zT := wd5 147 rfl rfl
theorem wl12_32 : u_lay RX12 TX12 32 ∈ zT := wd5 149 rfl rfl
theorem wl12_33 : u_lay RX12 TX12 33 ∈ zT := wd5 151 rfl rfl
theorem wl12_34 : u_lay RX12 TX12 34 ∈ zT := wd5 153 rfl rfl
theorem wl12_35 : u_lay RX12 TX12 35 ∈ zT := wd5 155 rfl rfl
theorem wl12_36 : u_lay RX12 TX12 36 ∈ zT := wd5 157 rfl rfl
theorem wl12_37 : u_lay RX12 TX12 37 ∈ zT := wd5 159 rfl rfl
theorem wl12_38 : u_lay RX12 TX12 38 ∈ zT := wd5 161 rfl rfl
theorem wl12_39 : u_lay RX12 TX12 39 ∈ zT := wd5 163 rfl rfl
theorem wl12_40 : u_lay RX12 TX12 40 ∈ zT := wd5 165 rfl rfl
theorem wl12_41 : u_lay RX12 TX12 41 ∈ zT := wd5 167 rfl rfl
theorem inZ12 : ∀ w ∈ u_ws RX12 TX12 42, w ∈ zT := by
  intro w hw
  obtain ⟨k, hk, rfl⟩ := List.mem_map.mp hw
  have hk := List.mem_range.mp hk
  match k, hk with
  | 0, _ => exact wl12_0
  | 1, _ => exact wl12_1
  | 2, _ => exact wl12_2
  | 3, _ => exact wl12_3
  | 4, _ => exact wl12_4
  | 5, _ => exact wl12_5
  | 6, _ => exact wl12_6
  | 7, _ => exact wl12_7
  | 8, _ => exact wl12_8
  | 9, _ => exact wl12_9
  | 10, _ => exact wl12_10
  | 11, _ => exact wl12_11
  | 12, _ => exact wl12_12
  | 13, _ => exact wl12_13
  | 14, _ => exact wl12_14
  | 15, _ => exact wl12_15
  | 16, _ => exact wl12_16
  | 17, _ => exact wl12_17
  | 18, _ => exact wl12_18
  | 19, _ => exact wl12_19
  | 20, _ => exact wl12_20
  | 21, _ => exact wl12_21
  | 22, _ => exact wl12_22
  | 23, _ => exact wl12_23
  | 24, _ => exact wl12_24
  | 25, _ => exact wl12_25
  | 26, _ => exact wl12_26
  | 27, _ => exact wl12_27
  | 28, _ => exact wl12_28
  | 29, _ => exact wl12_29
  | 30, _ => exact wl12_30
  | 31, _ => exact wl12_31
  | 32, _ => exact wl12_32
  | 33, _ => exact wl12_33
  | 34, _ => exact wl12_34
  | 35, _ => exact wl12_35
  | 36, _ => exact wl12_36
  | 37, _ => exact wl12_37
  | 38, _ => exact wl12_38
  | 39, _ => exact wl12_39
  | 40, _ => exact wl12_40
  | 41, _ => exact wl12_41
  | k + 42, hk => exact absurd hk (by omega)
def zty : Nat → Nat → FieldType := fun ci => match ci with
  | 0 => tyX0
  | 1 => tyX1
  | 2 => tyX2
  | 3 => tyX3
  | 4 => tyX4
  | 5 => tyX5
  | 6 => tyX6
  | 7 => tyX7
  | 8 => tyX8
  | 9 => tyX9
  | 10 => tyX10
  | 11 => tyX11
  | _ => tyX12
def zCl (ci : Nat) (C : String) (T : u_T) (N : Nat) : Prop := vwCl[ci]? = some (C, T, N) ∧ (∀ w ∈ u_ws C T N, w ∈ zT) ∧ (∀ a, a < N → ∀ b, b < N → a ≠ b → (T a).2.1 ≠ (T b).2.1) ∧ (∀ k, k < N → parseFieldDescriptor (T k).2.2.1 = some (zty ci k)) ∧ Cond.instantiable C N ∈ zT ∧ Cond.initialized C ∈ zT
theorem zcl0 : zCl 0 RX0 TX0 3 := ⟨rfl, inZ0, nmX0, tyX0_ok, wd2 107 rfl rfl, wd1 12 rfl rfl⟩
theorem zcl1 : zCl 1 RX1 TX1 2 := ⟨rfl, inZ1, nmX1, tyX1_ok, wd1 78 rfl rfl, wd1 4 rfl rfl⟩
theorem zcl2 : zCl 2 RX2 TX2 10 := ⟨rfl, inZ2, nmX2, tyX2_ok, wd1 85 rfl rfl, wd1 5 rfl rfl⟩
theorem zcl3 : zCl 3 RX3 TX3 9 := ⟨rfl, inZ3, nmX3, tyX3_ok, wd1 29 rfl rfl, wd1 2 rfl rfl⟩
theorem zcl4 : zCl 4 RX4 TX4 5 := ⟨rfl, inZ4, nmX4, tyX4_ok, wd2 85 rfl rfl, wd1 11 rfl rfl⟩
theorem zcl5 : zCl 5 RX5 TX5 8 := ⟨rfl, inZ5, nmX5, tyX5_ok, wd1 200 rfl rfl, wd1 7 rfl rfl⟩
theorem zcl6 : zCl 6 RX6 TX6 9 := ⟨rfl, inZ6, nmX6, tyX6_ok, wd2 50 rfl rfl, wd1 10 rfl rfl⟩
theorem zcl7 : zCl 7 RX7 TX7 3 := ⟨rfl, inZ7, nmX7, tyX7_ok, wd2 124 rfl rfl, wd1 13 rfl rfl⟩
theorem zcl8 : zCl 8 RX8 TX8 5 := ⟨rfl, inZ8, nmX8, tyX8_ok, wd1 233 rfl rfl, wd1 8 rfl rfl⟩
theorem zcl9 : zCl 9 RX9 TX9 7 := ⟨rfl, inZ9, nmX9, tyX9_ok, wd2 20 rfl rfl, wd1 9 rfl rfl⟩
theorem zcl10 : zCl 10 RX10 TX10 6 := ⟨rfl, inZ10, nmX10, tyX10_ok, wd1 171 rfl rfl, wd1 6 rfl rfl⟩
theorem zcl11 : zCl 11 RX11 TX11 12 := ⟨rfl, inZ11, nmX11, tyX11_ok, wd1 19 rfl rfl, wd1 1 rfl rfl⟩
theorem zcl12 : zCl 12 RX12 TX12 42 := ⟨rfl, inZ12, nmX12, tyX12_ok, wd5 23 rfl rfl, wd1 14 rfl rfl⟩
theorem zcl {ci : Nat} {C : String} {T : u_T} {N : Nat} (h : vwCl[ci]? = some (C, T, N)) : zCl ci C T N := by
  match ci, h with
  | 0, h => cases h; exact zcl0
  | 1, h => cases h; exact zcl1
  | 2, h => cases h; exact zcl2
  | 3, h => cases h; exact zcl3
  | 4, h => cases h; exact zcl4
  | 5, h => cases h; exact zcl5
  | 6, h => cases h; exact zcl6
  | 7, h => cases h; exact zcl7
  | 8, h => cases h; exact zcl8
  | 9, h => cases h; exact zcl9
  | 10, h => cases h; exact zcl10
  | 11, h => cases h; exact zcl11
  | 12, h => cases h; exact zcl12
  | k + 13, h => exact absurd h (by simp [vwCl])
theorem zkN : ∀ r, r < 68 → (zkd r).1 = 0 → (vwCl[(zkd r).2.1]?).map (fun q => q.2.2) = some (zkd r).2.2 := by decide +kernel
theorem zkN' {r ci N : Nat} {C : String} {T : u_T} {N' : Nat} (hr : r < 68) (h : zkd r = (0, ci, N)) (hc : vwCl[ci]? = some (C, T, N')) : N = N' := by
  have h2 := zkN r hr (by rw [h])
  rw [h] at h2
  dsimp only at h2
  rw [hc] at h2
  exact (Option.some.inj h2).symm
theorem zty0 : ∀ ci, ci < 13 → ∀ j, j < 42 → zfk ci j = 0 → (zFk.getD ci []).length > j → zty ci j = .int := by decide +kernel
theorem zty2 : ∀ ci, ci < 13 → ∀ j, j < 42 → zfk ci j = 2 → zty ci j = .long := by decide +kernel
theorem zfkN : ∀ ci, ci < 13 → (vwCl[ci]?).map (fun q => q.2.2) = some (zFk.getD ci []).length ∧ (zFk.getD ci []).length ≤ 42 := by decide +kernel
def zFld (own : String) (idx ci k : Nat) : Prop := ∃ (C : String) (T : u_T) (N : Nat), vwCl[ci]? = some (C, T, N) ∧ k < N ∧ Cond.fieldLink own idx (T k).1 (T k).2.1 (T k).2.2.1 ∈ zT
def zFldW (fin : Bool) (own : String) (idx ci k : Nat) : Prop := ∃ (C : String) (T : u_T) (N : Nat), vwCl[ci]? = some (C, T, N) ∧ k < N ∧ Cond.fieldLink own idx (T k).1 (T k).2.1 (T k).2.2.1 ∈ zT ∧ (T k).2.2.2 = fin ∧ (fin = true → (T k).1 = own)
end
section
/-! the judgement: the machine in a method, over the abstract memory -/
abbrev zX : Type := Program × Launch × Env × Room × State × MethodId × Array Value × List Frame × Method × Code × (State → Prop) × Nat × Nat
def zsz (r : Nat) : Nat := if (zkd r).1 = 0 then (zkd r).2.2 else (zkd r).2.1
def zsl : Nat → Nat
  | 0 => 0
  | n + 1 => zsl n + zsz (zkey n).1
theorem zsl_mono {a b : Nat} (h : a ≤ b) : zsl a ≤ zsl b := by
  induction h with
  | refl => exact Nat.le_refl _
  | step _ ih => exact Nat.le_trans ih (Nat.le_add_right _ _)
abbrev zlc (b : Nat) (L : List (Nat × zV)) : List (Nat × Value) := L.map (fun q => (q.1, zcv b q.2))
def zWg (x : zX) (w : zWd) (n : Nat) (rf : zRef) (pc : Nat) (L : List (Nat × zV)) (st : List zV) (im : zMem) (lv : Int64) : Prop :=
  match x with
  | (p, l, e, R, s, m, args, below, meth, c, Q, n0, _) =>
    n ≤ 126 → ∀ (H : Heap) (locs : List Loc) (ls : Array Slot), va_P w.2.1 vwCl (zws w n rf im lv) H → va_S (fun q => w.1 ≤ q) s.heap H locs → lv_has ls c.maxLocals (zlc w.1 L) →
      W p l e R s m args below meth c H locs (n - n0) (zsl n - zsl n0) Q (F0 m pc ls (st.map (zcv w.1)))
abbrev zW (x : zX) (w : zWd) (pc : Nat) (L : List (Nat × zV)) (st : List zV) (im : zMem) (lv : Int64) : Prop := zWg x w 126 zRF pc L st im lv
abbrev ztys (w : zWd) : List (ClassId × FieldType) := [(w.2.2.1, .int), (w.2.2.2.1, .object "RoomsOfAir$Sheet"), (w.2.2.2.2, .object "RoomsOfAir$Flight")]
def zNs : List Cond := [.methodLinkNest "RoomsOfAir$Fleet" 21 yX2_init "RoomsOfAir", .methodLinkNest "RoomsOfAir" 31 yX10_init "RoomsOfAir", .methodLinkNest "RoomsOfAir" 95 yX7_init "RoomsOfAir", .methodLinkNest "RoomsOfAir$Land" 46 yX11_cellOf "RoomsOfAir", .methodLinkNest "RoomsOfAir$Splitter" 59 yX11_cellOf "RoomsOfAir", .methodLinkNest "RoomsOfAir$Ledger" 43 yX11_cellOf "RoomsOfAir"]
def zUp (w : zWd) (U : State) : Prop := va_K w.2.1 vwCl (ztys w) U ∧ (∀ t ∈ zNs, va_Nw t U) ∧ va_AO "RoomsOfAir$Sheet" U ∧ va_AO "RoomsOfAir$Flight" U
/-- what a method's walk stands on: the machine, the code, the words, its room -/
def zOK (x : zX) (w : zWd) (Y : zY) (dd : Nat) : Prop :=
  match x with
  | (p, _, _, R, s, m, args, _, _, c, _, n0, nm) =>
    p.tables.exec = Jvm.exec ∧ c.code = Y.2.1 ∧ c.maxLocals = Y.2.2.1 ∧ s.vm.findClass Y.1.cls = some m.cls ∧ (∀ t ∈ zT, t.before args s = true) ∧ zUp w s ∧ s.heap.size = w.1 + n0 ∧ dd ≤ R.frames ∧ 40 * dd ≤ R.locals ∧ nm - n0 ≤ R.cells ∧ zsl nm - zsl n0 ≤ R.slots ∧ n0 ≤ nm
section ZROWS
variable {x : zX} {w : zWd} {n : Nat} {rf : zRef} {pc : Nat} {L L' : List (Nat × zV)} {st : List zV} {im : zMem} {lv : Int64} {Y : zY} {dd : Nat}
theorem zlift {pc' : Nat} {st' : List zV} (hO : zOK x w Y dd)
    (h : ∀ {p : Program} {l : Launch} {e : Env} {R : Room} {s : State} {m : MethodId} {args : Array Value} {below : List Frame} {meth : Method} {c : Code} {Q : State → Prop} {H : Heap} {locs : List Loc} {ls : Array Slot} {k1 k2 : Nat}, p.tables.exec = Jvm.exec → c.code = Y.2.1 → s.vm.findClass Y.1.cls = some m.cls → (∀ t ∈ zT, t.before args s = true) → (∀ (k : Nat) (q : Nat × zV), L[k]? = some q → ls[q.1]? = some (.val (zcv w.1 q.2))) →
      W p l e R s m args below meth c H locs k1 k2 Q (F0 m pc' ls (st'.map (zcv w.1))) → W p l e R s m args below meth c H locs k1 k2 Q (F0 m pc ls (st.map (zcv w.1))))
    (kk : zWg x w n rf pc' L st' im lv) : zWg x w n rf pc L st im lv := by
  obtain ⟨p, l, e, R, s, m, args, below, meth, c, Q, n0, nm⟩ := x
  obtain ⟨hx, hb, hml, hown, hts, -⟩ := hO
  intro h126 H locs ls hP hS hl
  refine h hx hb hown hts (fun k q hq => ?_) (kk h126 H locs ls hP hS hl)
  exact lv_at hl k (i := q.1) (v := zcv w.1 q.2) (by rw [List.getElem?_map, hq]; rfl)
theorem zi_iconst {a : Int} {v : Int32} (hO : zOK x w Y dd) (hd : decode Y.2.1 pc = .ok (.iconst a, 1)) (hv : Int32.ofInt a = v) (kk : zWg x w n rf (pc + 1) L (vI v :: st) im lv) : zWg x w n rf pc L st im lv :=
  zlift hO (fun hx hb _ _ _ k => lv_iconst hx hb hd hv k) kk
theorem zi_bipush {a : Int} {v : Int32} (hO : zOK x w Y dd) (hd : decode Y.2.1 pc = .ok (.bipush a, 2)) (hv : (Int8.ofInt a).toInt32 = v) (kk : zWg x w n rf (pc + 2) L (vI v :: st) im lv) : zWg x w n rf pc L st im lv :=
  zlift hO (fun hx hb _ _ _ k => lv_bipush hx hb hd hv k) kk
theorem zi_sipush {a : Int} {v : Int32} (hO : zOK x w Y dd) (hd : decode Y.2.1 pc = .ok (.sipush a, 3)) (hv : (Int16.ofInt a).toInt32 = v) (kk : zWg x w n rf (pc + 3) L (vI v :: st) im lv) : zWg x w n rf pc L st im lv :=
  zlift hO (fun hx hb _ _ _ k => lv_sipush hx hb hd hv k) kk
theorem zi_lconst {a : Fin 2} {v : Int64} (hO : zOK x w Y dd) (hd : decode Y.2.1 pc = .ok (.lconst a, 1)) (hv : Int64.ofNat (a : Nat) = v) (kk : zWg x w n rf (pc + 1) L (vL v :: st) im lv) : zWg x w n rf pc L st im lv :=
  zlift hO (fun hx hb _ _ _ k => lv_lconst hx hb hd hv k) kk
theorem zi_ldc {idx : Nat} {v : Int32} (hO : zOK x w Y dd) (hd : decode Y.2.1 pc = .ok (.ldc idx, 2)) (hw : Cond.constant Y.1.cls idx v ∈ zT) (kk : zWg x w n rf (pc + 2) L (vI v :: st) im lv) : zWg x w n rf pc L st im lv :=
  zlift hO (fun hx hb ho ht _ k => lv_ldc hx hb ho (ht _ hw) hd k) kk
theorem zi_ldcw {idx : Nat} {v : Int32} (hO : zOK x w Y dd) (hd : decode Y.2.1 pc = .ok (.ldc_w idx, 3)) (hw : Cond.constant Y.1.cls idx v ∈ zT) (kk : zWg x w n rf (pc + 3) L (vI v :: st) im lv) : zWg x w n rf pc L st im lv :=
  zlift hO (fun hx hb ho ht _ k => lv_ldcw hx hb ho (ht _ hw) hd k) kk
theorem zi_ldc2 {idx : Nat} {v : Int64} (hO : zOK x w Y dd) (hd : decode Y.2.1 pc = .ok (.ldc2_w idx, 3)) (hw : Cond.constantLong Y.1.cls idx v ∈ zT) (kk : zWg x w n rf (pc + 3) L (vL v :: st) im lv) : zWg x w n rf pc L st im lv :=
  zlift hO (fun hx hb ho ht _ k => lv_ldc2 hx hb ho (ht _ hw) hd k) kk
theorem zi_iload_n {a : Fin 4} {v : Int32} (hO : zOK x w Y dd) (hd : decode Y.2.1 pc = .ok (.iload_n a, 1)) (k : Nat) (hk : L[k]? = some ((a : Nat), vI v)) (kk : zWg x w n rf (pc + 1) L (vI v :: st) im lv) : zWg x w n rf pc L st im lv :=
  zlift hO (fun hx hb _ _ hl k0 => lv_iload_n hx hb hd rfl (hl k _ hk) k0) kk
theorem zi_iload {a : Nat} {v : Int32} (hO : zOK x w Y dd) (hd : decode Y.2.1 pc = .ok (.iload a, 2)) (k : Nat) (hk : L[k]? = some (a, vI v)) (kk : zWg x w n rf (pc + 2) L (vI v :: st) im lv) : zWg x w n rf pc L st im lv :=
  zlift hO (fun hx hb _ _ hl k0 => lv_iload hx hb hd (hl k _ hk) k0) kk
theorem zi_lload_n {a : Fin 4} {v : Int64} (hO : zOK x w Y dd) (hd : decode Y.2.1 pc = .ok (.lload_n a, 1)) (k : Nat) (hk : L[k]? = some ((a : Nat), vL v)) (kk : zWg x w n rf (pc + 1) L (vL v :: st) im lv) : zWg x w n rf pc L st im lv :=
  zlift hO (fun hx hb _ _ hl k0 => lv_lload_n hx hb hd rfl (hl k _ hk) k0) kk
theorem zi_lload {a : Nat} {v : Int64} (hO : zOK x w Y dd) (hd : decode Y.2.1 pc = .ok (.lload a, 2)) (k : Nat) (hk : L[k]? = some (a, vL v)) (kk : zWg x w n rf (pc + 2) L (vL v :: st) im lv) : zWg x w n rf pc L st im lv :=
  zlift hO (fun hx hb _ _ hl k0 => lv_lload hx hb hd (hl k _ hk) k0) kk
theorem zi_aload_n {a : Fin 4} {r i : Nat} (hO : zOK x w Y dd) (hd : decode Y.2.1 pc = .ok (.aload_n a, 1)) (k : Nat) (hk : L[k]? = some ((a : Nat), vR r i)) (kk : zWg x w n rf (pc + 1) L (vR r i :: st) im lv) : zWg x w n rf pc L st im lv :=
  zlift hO (fun hx hb _ _ hl k0 => lv_aload_n hx hb hd rfl (hl k _ hk) k0) kk
theorem zi_aload {a : Nat} {r i : Nat} (hO : zOK x w Y dd) (hd : decode Y.2.1 pc = .ok (.aload a, 2)) (k : Nat) (hk : L[k]? = some (a, vR r i)) (kk : zWg x w n rf (pc + 2) L (vR r i :: st) im lv) : zWg x w n rf pc L st im lv :=
  zlift hO (fun hx hb _ _ hl k0 => lv_aload hx hb hd (hl k _ hk) k0) kk
theorem zi_iadd {a b : Int32} (hO : zOK x w Y dd) (hd : decode Y.2.1 pc = .ok (.iadd, 1)) (kk : zWg x w n rf (pc + 1) L (vI (a + b) :: st) im lv) : zWg x w n rf pc L (vI b :: vI a :: st) im lv :=
  zlift hO (fun hx hb _ _ _ k => lv_iadd hx hb hd k) kk
theorem zi_isub {a b : Int32} (hO : zOK x w Y dd) (hd : decode Y.2.1 pc = .ok (.isub, 1)) (kk : zWg x w n rf (pc + 1) L (vI (a - b) :: st) im lv) : zWg x w n rf pc L (vI b :: vI a :: st) im lv :=
  zlift hO (fun hx hb _ _ _ k => lv_isub hx hb hd k) kk
theorem zi_imul {a b : Int32} (hO : zOK x w Y dd) (hd : decode Y.2.1 pc = .ok (.imul, 1)) (kk : zWg x w n rf (pc + 1) L (vI (a * b) :: st) im lv) : zWg x w n rf pc L (vI b :: vI a :: st) im lv :=
  zlift hO (fun hx hb _ _ _ k => lv_imul hx hb hd k) kk
theorem zi_iand {a b : Int32} (hO : zOK x w Y dd) (hd : decode Y.2.1 pc = .ok (.iand, 1)) (kk : zWg x w n rf (pc + 1) L (vI (a &&& b) :: st) im lv) : zWg x w n rf pc L (vI b :: vI a :: st) im lv :=
  zlift hO (fun hx hb _ _ _ k => lv_iand hx hb hd k) kk
theorem zi_ior {a b : Int32} (hO : zOK x w Y dd) (hd : decode Y.2.1 pc = .ok (.ior, 1)) (kk : zWg x w n rf (pc + 1) L (vI (a ||| b) :: st) im lv) : zWg x w n rf pc L (vI b :: vI a :: st) im lv :=
  zlift hO (fun hx hb _ _ _ k => lv_ior hx hb hd k) kk
theorem zi_ixor {a b : Int32} (hO : zOK x w Y dd) (hd : decode Y.2.1 pc = .ok (.ixor, 1)) (kk : zWg x w n rf (pc + 1) L (vI (a ^^^ b) :: st) im lv) : zWg x w n rf pc L (vI b :: vI a :: st) im lv :=
  zlift hO (fun hx hb _ _ _ k => lv_ixor hx hb hd k) kk
theorem zi_idiv {a b : Int32} (hO : zOK x w Y dd) (hd : decode Y.2.1 pc = .ok (.idiv, 1)) (hne : ¬ b = 0) (kk : zWg x w n rf (pc + 1) L (vI (a / b) :: st) im lv) : zWg x w n rf pc L (vI b :: vI a :: st) im lv :=
  zlift hO (fun hx hb _ _ _ k => lv_idiv hx hb hd hne k) kk
theorem zi_irem {a b : Int32} (hO : zOK x w Y dd) (hd : decode Y.2.1 pc = .ok (.irem, 1)) (hne : ¬ b = 0) (kk : zWg x w n rf (pc + 1) L (vI (a - a / b * b) :: st) im lv) : zWg x w n rf pc L (vI b :: vI a :: st) im lv :=
  zlift hO (fun hx hb _ _ _ k => lv_irem hx hb hd hne k) kk
theorem zi_ineg {a : Int32} (hO : zOK x w Y dd) (hd : decode Y.2.1 pc = .ok (.ineg, 1)) (kk : zWg x w n rf (pc + 1) L (vI (0 - a) :: st) im lv) : zWg x w n rf pc L (vI a :: st) im lv :=
  zlift hO (fun hx hb _ _ _ k => lv_ineg hx hb hd k) kk
theorem zi_ishl {a b : Int32} (hO : zOK x w Y dd) (hd : decode Y.2.1 pc = .ok (.ishl, 1)) (kk : zWg x w n rf (pc + 1) L (vI (a <<< (b &&& 31)) :: st) im lv) : zWg x w n rf pc L (vI b :: vI a :: st) im lv :=
  zlift hO (fun hx hb _ _ _ k => lv_ishl hx hb hd k) kk
theorem zi_ishr {a b : Int32} (hO : zOK x w Y dd) (hd : decode Y.2.1 pc = .ok (.ishr, 1)) (kk : zWg x w n rf (pc + 1) L (vI (a >>> (b &&& 31)) :: st) im lv) : zWg x w n rf pc L (vI b :: vI a :: st) im lv :=
  zlift hO (fun hx hb _ _ _ k => lv_ishr hx hb hd k) kk
theorem zi_iushr {a b : Int32} (hO : zOK x w Y dd) (hd : decode Y.2.1 pc = .ok (.iushr, 1)) (kk : zWg x w n rf (pc + 1) L (vI ((a.toUInt32 >>> (b.toUInt32 &&& Int32.toUInt32 31)).toInt32) :: st) im lv) : zWg x w n rf pc L (vI b :: vI a :: st) im lv :=
  zlift hO (fun hx hb _ _ _ k => lv_iushr hx hb hd rfl k) kk
theorem zi_ladd {a b : Int64} (hO : zOK x w Y dd) (hd : decode Y.2.1 pc = .ok (.ladd, 1)) (kk : zWg x w n rf (pc + 1) L (vL (a + b) :: st) im lv) : zWg x w n rf pc L (vL b :: vL a :: st) im lv :=
  zlift hO (fun hx hb _ _ _ k => lv_ladd hx hb hd k) kk
theorem zi_lsub {a b : Int64} (hO : zOK x w Y dd) (hd : decode Y.2.1 pc = .ok (.lsub, 1)) (kk : zWg x w n rf (pc + 1) L (vL (a - b) :: st) im lv) : zWg x w n rf pc L (vL b :: vL a :: st) im lv :=
  zlift hO (fun hx hb _ _ _ k => lv_lsub hx hb hd k) kk
theorem zi_lmul {a b : Int64} (hO : zOK x w Y dd) (hd : decode Y.2.1 pc = .ok (.lmul, 1)) (kk : zWg x w n rf (pc + 1) L (vL (a * b) :: st) im lv) : zWg x w n rf pc L (vL b :: vL a :: st) im lv :=
  zlift hO (fun hx hb _ _ _ k => lv_lmul hx hb hd k) kk
theorem zi_land {a b : Int64} (hO : zOK x w Y dd) (hd : decode Y.2.1 pc = .ok (.land, 1)) (kk : zWg x w n rf (pc + 1) L (vL (a &&& b) :: st) im lv) : zWg x w n rf pc L (vL b :: vL a :: st) im lv :=
  zlift hO (fun hx hb _ _ _ k => lv_land hx hb hd k) kk
theorem zi_lor {a b : Int64} (hO : zOK x w Y dd) (hd : decode Y.2.1 pc = .ok (.lor, 1)) (kk : zWg x w n rf (pc + 1) L (vL (a ||| b) :: st) im lv) : zWg x w n rf pc L (vL b :: vL a :: st) im lv :=
  zlift hO (fun hx hb _ _ _ k => lv_lor hx hb hd k) kk
theorem zi_lshl {a : Int64} {b : Int32} (hO : zOK x w Y dd) (hd : decode Y.2.1 pc = .ok (.lshl, 1)) (kk : zWg x w n rf (pc + 1) L (vL (a <<< (b.toInt64 &&& 63)) :: st) im lv) : zWg x w n rf pc L (vI b :: vL a :: st) im lv :=
  zlift hO (fun hx hb _ _ _ k => lv_lshl hx hb hd rfl k) kk
theorem zi_lshr {a : Int64} {b : Int32} (hO : zOK x w Y dd) (hd : decode Y.2.1 pc = .ok (.lshr, 1)) (kk : zWg x w n rf (pc + 1) L (vL (a >>> (b.toInt64 &&& 63)) :: st) im lv) : zWg x w n rf pc L (vI b :: vL a :: st) im lv :=
  zlift hO (fun hx hb _ _ _ k => lv_lshr hx hb hd rfl k) kk
theorem zi_i2l {a : Int32} (hO : zOK x w Y dd) (hd : decode Y.2.1 pc = .ok (.i2l, 1)) (kk : zWg x w n rf (pc + 1) L (vL a.toInt64 :: st) im lv) : zWg x w n rf pc L (vI a :: st) im lv :=
  zlift hO (fun hx hb _ _ _ k => lv_i2l hx hb hd rfl k) kk
theorem zi_l2i {a : Int64} (hO : zOK x w Y dd) (hd : decode Y.2.1 pc = .ok (.l2i, 1)) (kk : zWg x w n rf (pc + 1) L (vI a.toInt32 :: st) im lv) : zWg x w n rf pc L (vL a :: st) im lv :=
  zlift hO (fun hx hb _ _ _ k => lv_l2i hx hb hd rfl k) kk
theorem zi_i2b {a : Int32} (hO : zOK x w Y dd) (hd : decode Y.2.1 pc = .ok (.i2b, 1)) (kk : zWg x w n rf (pc + 1) L (vI a.toInt8.toInt32 :: st) im lv) : zWg x w n rf pc L (vI a :: st) im lv :=
  zlift hO (fun hx hb _ _ _ k => lv_i2b hx hb hd rfl k) kk
theorem zi_i2s {a : Int32} (hO : zOK x w Y dd) (hd : decode Y.2.1 pc = .ok (.i2s, 1)) (kk : zWg x w n rf (pc + 1) L (vI a.toInt16.toInt32 :: st) im lv) : zWg x w n rf pc L (vI a :: st) im lv :=
  zlift hO (fun hx hb _ _ _ k => lv_i2s hx hb hd rfl k) kk
theorem zi_lcmp {a b : Int64} (hO : zOK x w Y dd) (hd : decode Y.2.1 pc = .ok (.lcmp, 1)) (kk : zWg x w n rf (pc + 1) L (vI (lg_cmp a b) :: st) im lv) : zWg x w n rf pc L (vL b :: vL a :: st) im lv :=
  zlift hO (fun hx hb _ _ _ k => W.lcmp hx hb hd k) kk
theorem zi_dup {a : zV} (hO : zOK x w Y dd) (hd : decode Y.2.1 pc = .ok (.dup, 1)) (hc : zcat a = 1) (kk : zWg x w n rf (pc + 1) L (a :: a :: st) im lv) : zWg x w n rf pc L (a :: st) im lv :=
  zlift hO (fun hx hb _ _ _ k => lv_dup hx hb hd (by rw [zcv_cat]; exact hc) k) kk
theorem zi_dup2 {a b : zV} (hO : zOK x w Y dd) (hd : decode Y.2.1 pc = .ok (.dup2, 1)) (hc : zcat a = 1) (hc2 : zcat b = 1) (kk : zWg x w n rf (pc + 1) L (a :: b :: a :: b :: st) im lv) : zWg x w n rf pc L (a :: b :: st) im lv :=
  zlift hO (fun hx hb _ _ _ k => lv_dup2_11 hx hb hd (by rw [zcv_cat]; exact hc) (by rw [zcv_cat]; exact hc2) k) kk
theorem zi_null (hO : zOK x w Y dd) (hd : decode Y.2.1 pc = .ok (.aconst_null, 1)) (kk : zWg x w n rf (pc + 1) L (vN :: st) im lv) : zWg x w n rf pc L st im lv :=
  zlift hO (fun hx hb _ _ _ k => lv_null hx hb hd k) kk
theorem zi_goto {off : Int} {tgt : Nat} (hO : zOK x w Y dd) (hd : decode Y.2.1 pc = .ok (.goto off, 3)) (ht : (pc : Int) + off = (tgt : Int)) (kk : zWg x w n rf tgt L st im lv) : zWg x w n rf pc L st im lv :=
  zlift hO (fun hx hb _ _ _ k => lv_goto hx hb hd ht k) kk
theorem zi_ifnonnull {off : Int} {tgt r i : Nat} (hO : zOK x w Y dd) (hd : decode Y.2.1 pc = .ok (.ifnonnull off, 3)) (ht : (pc : Int) + off = (tgt : Int)) (kk : zWg x w n rf tgt L st im lv) : zWg x w n rf pc L (vR r i :: st) im lv :=
  zlift hO (fun hx hb _ _ _ k => lv_ifnonnull hx hb hd ht k) kk
theorem zi_ifnull {off : Int} {r i : Nat} (hO : zOK x w Y dd) (hd : decode Y.2.1 pc = .ok (.ifnull off, 3)) (kk : zWg x w n rf (pc + 3) L st im lv) : zWg x w n rf pc L (vR r i :: st) im lv :=
  zlift hO (fun hx hb _ _ _ k => lv_ifnull hx hb hd k) kk
theorem zi_weak (hs : ∀ q ∈ L', q ∈ L) (kk : zWg x w n rf pc L' st im lv) : zWg x w n rf pc L st im lv := by
  obtain ⟨p, l, e, R, s, m, args, below, meth, c, Q, n0, nm⟩ := x
  intro h126 H locs ls hP hS hl
  refine kk h126 H locs ls hP hS ⟨hl.1, hl.2.1, fun q hq => ?_⟩
  obtain ⟨q', hq', rfl⟩ := List.mem_map.mp hq
  exact hl.2.2 _ (List.mem_map.mpr ⟨q', hs q' hq', rfl⟩)
theorem zi_pick (ks : List Nat) (hs : ks.filterMap (fun k => L[k]?) = L') (kk : zWg x w n rf pc L' st im lv) : zWg x w n rf pc L st im lv := by
  refine zi_weak (fun q hq => ?_) kk
  rw [← hs] at hq
  obtain ⟨k, -, hk⟩ := List.mem_filterMap.mp hq
  exact List.mem_of_getElem? hk
end ZROWS
end
section
section ZBR
variable {x : zX} {w : zWd} {n : Nat} {rf : zRef} {pc : Nat} {L L' : List (Nat × zV)} {st : List zV} {im : zMem} {lv : Int64} {Y : zY} {dd : Nat}
theorem zi_if_eq {a : Int32} {off : Int} {tgt : Nat} (hO : zOK x w Y dd) (hd : decode Y.2.1 pc = .ok (.ifCond .eq off, 3)) (ht : (pc : Int) + off = (tgt : Int)) (kt : a = 0 → zWg x w n rf tgt L st im lv) (kf : ¬ a = 0 → zWg x w n rf (pc + 3) L st im lv) : zWg x w n rf pc L (vI a :: st) im lv := by
  obtain ⟨p, l, e, R, s, m, args, below, meth, c, Q, n0, nm⟩ := x
  obtain ⟨hx, hb, hml, hown, hts, -⟩ := hO
  intro h126 H locs ls hP hS hl
  exact lv_if_eq hx hb hd ht (fun q => kt q h126 H locs ls hP hS hl) (fun q => kf q h126 H locs ls hP hS hl)
theorem zi_icmp_eq {a b : Int32} {off : Int} {tgt : Nat} (hO : zOK x w Y dd) (hd : decode Y.2.1 pc = .ok (.if_icmp .eq off, 3)) (ht : (pc : Int) + off = (tgt : Int)) (kt : a = b → zWg x w n rf tgt L st im lv) (kf : ¬ a = b → zWg x w n rf (pc + 3) L st im lv) : zWg x w n rf pc L (vI b :: vI a :: st) im lv := by
  obtain ⟨p, l, e, R, s, m, args, below, meth, c, Q, n0, nm⟩ := x
  obtain ⟨hx, hb, hml, hown, hts, -⟩ := hO
  intro h126 H locs ls hP hS hl
  exact lv_icmp_eq hx hb hd ht (fun q => kt q h126 H locs ls hP hS hl) (fun q => kf q h126 H locs ls hP hS hl)
theorem zi_if_ne {a : Int32} {off : Int} {tgt : Nat} (hO : zOK x w Y dd) (hd : decode Y.2.1 pc = .ok (.ifCond .ne off, 3)) (ht : (pc : Int) + off = (tgt : Int)) (kt : ¬ a = 0 → zWg x w n rf tgt L st im lv) (kf : a = 0 → zWg x w n rf (pc + 3) L st im lv) : zWg x w n rf pc L (vI a :: st) im lv := by
  obtain ⟨p, l, e, R, s, m, args, below, meth, c, Q, n0, nm⟩ := x
  obtain ⟨hx, hb, hml, hown, hts, -⟩ := hO
  intro h126 H locs ls hP hS hl
  exact lv_if_ne hx hb hd ht (fun q => kt q h126 H locs ls hP hS hl) (fun q => kf q h126 H locs ls hP hS hl)
theorem zi_icmp_ne {a b : Int32} {off : Int} {tgt : Nat} (hO : zOK x w Y dd) (hd : decode Y.2.1 pc = .ok (.if_icmp .ne off, 3)) (ht : (pc : Int) + off = (tgt : Int)) (kt : ¬ a = b → zWg x w n rf tgt L st im lv) (kf : a = b → zWg x w n rf (pc + 3) L st im lv) : zWg x w n rf pc L (vI b :: vI a :: st) im lv := by
  obtain ⟨p, l, e, R, s, m, args, below, meth, c, Q, n0, nm⟩ := x
  obtain ⟨hx, hb, hml, hown, hts, -⟩ := hO
  intro h126 H locs ls hP hS hl
  exact lv_icmp_ne hx hb hd ht (fun q => kt q h126 H locs ls hP hS hl) (fun q => kf q h126 H locs ls hP hS hl)
theorem zi_if_lt {a : Int32} {off : Int} {tgt : Nat} (hO : zOK x w Y dd) (hd : decode Y.2.1 pc = .ok (.ifCond .lt off, 3)) (ht : (pc : Int) + off = (tgt : Int)) (kt : a < 0 → zWg x w n rf tgt L st im lv) (kf : ¬ a < 0 → zWg x w n rf (pc + 3) L st im lv) : zWg x w n rf pc L (vI a :: st) im lv := by
  obtain ⟨p, l, e, R, s, m, args, below, meth, c, Q, n0, nm⟩ := x
  obtain ⟨hx, hb, hml, hown, hts, -⟩ := hO
  intro h126 H locs ls hP hS hl
  exact lv_if_lt hx hb hd ht (fun q => kt q h126 H locs ls hP hS hl) (fun q => kf q h126 H locs ls hP hS hl)
theorem zi_icmp_lt {a b : Int32} {off : Int} {tgt : Nat} (hO : zOK x w Y dd) (hd : decode Y.2.1 pc = .ok (.if_icmp .lt off, 3)) (ht : (pc : Int) + off = (tgt : Int)) (kt : a < b → zWg x w n rf tgt L st im lv) (kf : ¬ a < b → zWg x w n rf (pc + 3) L st im lv) : zWg x w n rf pc L (vI b :: vI a :: st) im lv := by
  obtain ⟨p, l, e, R, s, m, args, below, meth, c, Q, n0, nm⟩ := x
  obtain ⟨hx, hb, hml, hown, hts, -⟩ := hO
  intro h126 H locs ls hP hS hl
  exact lv_icmp_lt hx hb hd ht (fun q => kt q h126 H locs ls hP hS hl) (fun q => kf q h126 H locs ls hP hS hl)
theorem zi_if_ge {a : Int32} {off : Int} {tgt : Nat} (hO : zOK x w Y dd) (hd : decode Y.2.1 pc = .ok (.ifCond .ge off, 3)) (ht : (pc : Int) + off = (tgt : Int)) (kt : 0 ≤ a → zWg x w n rf tgt L st im lv) (kf : ¬ 0 ≤ a → zWg x w n rf (pc + 3) L st im lv) : zWg x w n rf pc L (vI a :: st) im lv := by
  obtain ⟨p, l, e, R, s, m, args, below, meth, c, Q, n0, nm⟩ := x
  obtain ⟨hx, hb, hml, hown, hts, -⟩ := hO
  intro h126 H locs ls hP hS hl
  exact lv_if_ge hx hb hd ht (fun q => kt q h126 H locs ls hP hS hl) (fun q => kf q h126 H locs ls hP hS hl)
theorem zi_icmp_ge {a b : Int32} {off : Int} {tgt : Nat} (hO : zOK x w Y dd) (hd : decode Y.2.1 pc = .ok (.if_icmp .ge off, 3)) (ht : (pc : Int) + off = (tgt : Int)) (kt : b ≤ a → zWg x w n rf tgt L st im lv) (kf : ¬ b ≤ a → zWg x w n rf (pc + 3) L st im lv) : zWg x w n rf pc L (vI b :: vI a :: st) im lv := by
  obtain ⟨p, l, e, R, s, m, args, below, meth, c, Q, n0, nm⟩ := x
  obtain ⟨hx, hb, hml, hown, hts, -⟩ := hO
  intro h126 H locs ls hP hS hl
  exact lv_icmp_ge hx hb hd ht (fun q => kt q h126 H locs ls hP hS hl) (fun q => kf q h126 H locs ls hP hS hl)
theorem zi_if_gt {a : Int32} {off : Int} {tgt : Nat} (hO : zOK x w Y dd) (hd : decode Y.2.1 pc = .ok (.ifCond .gt off, 3)) (ht : (pc : Int) + off = (tgt : Int)) (kt : 0 < a → zWg x w n rf tgt L st im lv) (kf : ¬ 0 < a → zWg x w n rf (pc + 3) L st im lv) : zWg x w n rf pc L (vI a :: st) im lv := by
  obtain ⟨p, l, e, R, s, m, args, below, meth, c, Q, n0, nm⟩ := x
  obtain ⟨hx, hb, hml, hown, hts, -⟩ := hO
  intro h126 H locs ls hP hS hl
  exact lv_if_gt hx hb hd ht (fun q => kt q h126 H locs ls hP hS hl) (fun q => kf q h126 H locs ls hP hS hl)
theorem zi_icmp_gt {a b : Int32} {off : Int} {tgt : Nat} (hO : zOK x w Y dd) (hd : decode Y.2.1 pc = .ok (.if_icmp .gt off, 3)) (ht : (pc : Int) + off = (tgt : Int)) (kt : b < a → zWg x w n rf tgt L st im lv) (kf : ¬ b < a → zWg x w n rf (pc + 3) L st im lv) : zWg x w n rf pc L (vI b :: vI a :: st) im lv := by
  obtain ⟨p, l, e, R, s, m, args, below, meth, c, Q, n0, nm⟩ := x
  obtain ⟨hx, hb, hml, hown, hts, -⟩ := hO
  intro h126 H locs ls hP hS hl
  exact lv_icmp_gt hx hb hd ht (fun q => kt q h126 H locs ls hP hS hl) (fun q => kf q h126 H locs ls hP hS hl)
theorem zi_if_le {a : Int32} {off : Int} {tgt : Nat} (hO : zOK x w Y dd) (hd : decode Y.2.1 pc = .ok (.ifCond .le off, 3)) (ht : (pc : Int) + off = (tgt : Int)) (kt : a ≤ 0 → zWg x w n rf tgt L st im lv) (kf : ¬ a ≤ 0 → zWg x w n rf (pc + 3) L st im lv) : zWg x w n rf pc L (vI a :: st) im lv := by
  obtain ⟨p, l, e, R, s, m, args, below, meth, c, Q, n0, nm⟩ := x
  obtain ⟨hx, hb, hml, hown, hts, -⟩ := hO
  intro h126 H locs ls hP hS hl
  exact lv_if_le hx hb hd ht (fun q => kt q h126 H locs ls hP hS hl) (fun q => kf q h126 H locs ls hP hS hl)
theorem zi_icmp_le {a b : Int32} {off : Int} {tgt : Nat} (hO : zOK x w Y dd) (hd : decode Y.2.1 pc = .ok (.if_icmp .le off, 3)) (ht : (pc : Int) + off = (tgt : Int)) (kt : a ≤ b → zWg x w n rf tgt L st im lv) (kf : ¬ a ≤ b → zWg x w n rf (pc + 3) L st im lv) : zWg x w n rf pc L (vI b :: vI a :: st) im lv := by
  obtain ⟨p, l, e, R, s, m, args, below, meth, c, Q, n0, nm⟩ := x
  obtain ⟨hx, hb, hml, hown, hts, -⟩ := hO
  intro h126 H locs ls hP hS hl
  exact lv_icmp_le hx hb hd ht (fun q => kt q h126 H locs ls hP hS hl) (fun q => kf q h126 H locs ls hP hS hl)
theorem zi_tableOut {dflt lo hi : Int} {offs : Array Int} {len : Nat} {a : Int32} {tgt : Nat} (hO : zOK x w Y dd) (hd : decode Y.2.1 pc = .ok (.tableswitch dflt lo hi offs, len)) (h : a.toInt < lo ∨ hi < a.toInt) (ht : (pc : Int) + dflt = (tgt : Int)) (kk : zWg x w n rf tgt L st im lv) : zWg x w n rf pc L (vI a :: st) im lv :=
  zlift hO (fun hx hb _ _ _ k => lv_tableOut hx hb hd h ht k) kk
theorem zi_tableIn {dflt lo hi : Int} {offs : Array Int} {len : Nat} {a : Int32} {off : Int} {tgt : Nat} (hO : zOK x w Y dd) (hd : decode Y.2.1 pc = .ok (.tableswitch dflt lo hi offs, len)) (h1 : ¬ a.toInt < lo) (h2 : ¬ hi < a.toInt) (ho : offs[(a.toInt - lo).toNat]? = some off) (ht : (pc : Int) + off = (tgt : Int)) (kk : zWg x w n rf tgt L st im lv) : zWg x w n rf pc L (vI a :: st) im lv :=
  zlift hO (fun hx hb _ _ _ k => lv_tableIn hx hb hd h1 h2 ho ht k) kk
/-- a local is stored: the list stays sorted -/
def zput : List (Nat × zV) → Nat → zV → List (Nat × zV)
  | [], i, v => [(i, v)]
  | q :: L, i, v => if q.1 = i then (i, v) :: L else if i < q.1 then (i, v) :: q :: L else q :: zput L i v
/-- sorted, and no long's second half at i -/
def zokL (i : Nat) : List (Nat × zV) → Bool
  | [] => true
  | [q] => decide (zcat q.2 = 1 ∨ ¬ q.1 + 1 = i)
  | q :: q' :: L => decide (q.1 < q'.1) && decide (zcat q.2 = 1 ∨ ¬ q.1 + 1 = i) && zokL i (q' :: L)
theorem zput_mem {i : Nat} {v : zV} : ∀ {L : List (Nat × zV)} {q : Nat × zV}, q ∈ zput L i v → q = (i, v) ∨ q ∈ L
  | [], q, h => Or.inl (List.mem_singleton.mp h)
  | a :: L, q, h => by
    unfold zput at h
    split at h
    · rcases List.mem_cons.mp h with h | h
      · exact Or.inl h
      · exact Or.inr (List.mem_cons_of_mem _ h)
    · split at h
      · rcases List.mem_cons.mp h with h | h
        · exact Or.inl h
        · exact Or.inr h
      · rcases List.mem_cons.mp h with h | h
        · exact Or.inr (h ▸ List.mem_cons_self)
        · rcases zput_mem h with h | h
          · exact Or.inl h
          · exact Or.inr (List.mem_cons_of_mem _ h)
theorem zokL_tail {i : Nat} {q : Nat × zV} {L : List (Nat × zV)} (h : zokL i (q :: L) = true) : zokL i L = true := by
  cases L with
  | nil => rfl
  | cons a L => unfold zokL at h; simp only [Bool.and_eq_true] at h; exact h.2
theorem zokL_lt {i : Nat} : ∀ {L : List (Nat × zV)} {q : Nat × zV}, zokL i (q :: L) = true → ∀ a ∈ L, q.1 < a.1
  | [], q, _, a, ha => by cases ha
  | b :: L, q, h, a, ha => by
    have h2 := zokL_tail h
    unfold zokL at h
    simp only [Bool.and_eq_true, decide_eq_true_eq] at h
    rcases List.mem_cons.mp ha with rfl | ha
    · exact h.1.1
    · exact Nat.lt_trans h.1.1 (zokL_lt h2 a ha)
theorem zokL_cat {i : Nat} : ∀ {L : List (Nat × zV)}, zokL i L = true → ∀ a ∈ L, zcat a.2 = 1 ∨ ¬ a.1 + 1 = i
  | [], _, a, ha => by cases ha
  | [b], h, a, ha => by
    unfold zokL at h
    rw [List.mem_singleton.mp ha]
    simpa using h
  | b :: b' :: L, h, a, ha => by
    have h2 := zokL_tail h
    unfold zokL at h
    simp only [Bool.and_eq_true, decide_eq_true_eq] at h
    rcases List.mem_cons.mp ha with rfl | ha
    · exact h.1.2
    · exact zokL_cat h2 a ha
theorem zput_ne {i : Nat} {v : zV} : ∀ {L : List (Nat × zV)}, zokL i L = true → ∀ {q : Nat × zV}, q ∈ zput L i v → q = (i, v) ∨ (q ∈ L ∧ ¬ q.1 = i)
  | [], _, q, h => Or.inl (List.mem_singleton.mp h)
  | a :: L, hs, q, h => by
    have hlt := zokL_lt hs
    have ht := zokL_tail hs
    unfold zput at h
    split at h
    · rename_i e
      rcases List.mem_cons.mp h with h | h
      · exact Or.inl h
      · exact Or.inr ⟨List.mem_cons_of_mem _ h, fun q2 => by have := hlt q h; omega⟩
    · rename_i e
      split at h
      · rename_i e2
        rcases List.mem_cons.mp h with h | h
        · exact Or.inl h
        · rcases List.mem_cons.mp h with rfl | h
          · exact Or.inr ⟨List.mem_cons_self, e⟩
          · exact Or.inr ⟨List.mem_cons_of_mem _ h, fun q2 => by have := hlt q h; omega⟩
      · rcases List.mem_cons.mp h with rfl | h
        · exact Or.inr ⟨List.mem_cons_self, e⟩
        · rcases zput_ne ht h with h | h
          · exact Or.inl h
          · exact Or.inr ⟨List.mem_cons_of_mem _ h.1, h.2⟩
theorem zstore1 {b : Nat} {ls : Array Slot} {nL i : Nat} {v : zV} (hk : zokL i L = true) (h : lv_has ls nL ((i, zcv b v) :: (zlc b L).filter (fun q => !(q.1 == i) && !(q.1 + 1 == i && q.2.category == 2)))) : lv_has ls nL (zlc b (zput L i v)) := by
  refine ⟨h.1, h.2.1, fun q hq => h.2.2 q ?_⟩
  obtain ⟨q', hq', rfl⟩ := List.mem_map.mp hq
  rcases zput_ne hk hq' with rfl | ⟨h1, h2⟩
  · exact List.mem_cons_self
  · refine List.mem_cons_of_mem _ (List.mem_filter.mpr ⟨List.mem_map.mpr ⟨q', h1, rfl⟩, ?_⟩)
    rcases zokL_cat hk q' h1 with hc | hc
    · simp [h2, zcv_cat, hc]
    · simp [h2, hc]
theorem zstore2 {b : Nat} {ls : Array Slot} {nL i : Nat} {v : zV} (hk : zokL i L = true) (hk2 : L.all (fun q => !(q.1 == i + 1)) = true) (h : lv_has ls nL ((i, zcv b v) :: (zlc b L).filter (fun q => !(q.1 == i) && (!(q.1 == i + 1) && !(q.1 + 1 == i && q.2.category == 2))))) : lv_has ls nL (zlc b (zput L i v)) := by
  refine ⟨h.1, h.2.1, fun q hq => h.2.2 q ?_⟩
  obtain ⟨q', hq', rfl⟩ := List.mem_map.mp hq
  rcases zput_ne hk hq' with rfl | ⟨h1, h2⟩
  · exact List.mem_cons_self
  · have h3 := List.all_eq_true.mp hk2 q' h1
    refine List.mem_cons_of_mem _ (List.mem_filter.mpr ⟨List.mem_map.mpr ⟨q', h1, rfl⟩, ?_⟩)
    rcases zokL_cat hk q' h1 with hc | hc
    · simp at h3; simp [h2, h3, zcv_cat, hc]
    · simp at h3; simp [h2, h3, hc]
theorem zi_istore_n {a : Fin 4} {v : Int32} (hO : zOK x w Y dd) (hd : decode Y.2.1 pc = .ok (.istore_n a, 1)) (hn : (a : Nat) < Y.2.2.1) (hk : zokL (a : Nat) L = true) (hL : zput L (a : Nat) (vI v) = L') (kk : zWg x w n rf (pc + 1) L' st im lv) : zWg x w n rf pc L (vI v :: st) im lv := by
  obtain ⟨p, l, e, R, s, m, args, below, meth, c, Q, n0, nm⟩ := x
  obtain ⟨hx, hb, hml, hown, hts, -⟩ := hO
  subst hL
  intro h126 H locs ls hP hS hl
  exact lv_istore_n hx hb hd rfl hl (by rw [hml]; exact hn) rfl (fun ls' hl' => kk h126 H locs ls' hP hS (zstore1 hk hl'))
theorem zi_istore {a : Nat} {v : Int32} (hO : zOK x w Y dd) (hd : decode Y.2.1 pc = .ok (.istore a, 2)) (hn : a < Y.2.2.1) (hk : zokL a L = true) (hL : zput L a (vI v) = L') (kk : zWg x w n rf (pc + 2) L' st im lv) : zWg x w n rf pc L (vI v :: st) im lv := by
  obtain ⟨p, l, e, R, s, m, args, below, meth, c, Q, n0, nm⟩ := x
  obtain ⟨hx, hb, hml, hown, hts, -⟩ := hO
  subst hL
  intro h126 H locs ls hP hS hl
  exact lv_istore hx hb hd hl (by rw [hml]; exact hn) rfl (fun ls' hl' => kk h126 H locs ls' hP hS (zstore1 hk hl'))
theorem zi_astore_n {a : Fin 4} {r i : Nat} (hO : zOK x w Y dd) (hd : decode Y.2.1 pc = .ok (.astore_n a, 1)) (hn : (a : Nat) < Y.2.2.1) (hk : zokL (a : Nat) L = true) (hL : zput L (a : Nat) (vR r i) = L') (kk : zWg x w n rf (pc + 1) L' st im lv) : zWg x w n rf pc L (vR r i :: st) im lv := by
  obtain ⟨p, l, e, R, s, m, args, below, meth, c, Q, n0, nm⟩ := x
  obtain ⟨hx, hb, hml, hown, hts, -⟩ := hO
  subst hL
  intro h126 H locs ls hP hS hl
  exact lv_astore_n hx hb hd rfl hl (by rw [hml]; exact hn) rfl (fun ls' hl' => kk h126 H locs ls' hP hS (zstore1 hk hl'))
theorem zi_astore {a : Nat} {r i : Nat} (hO : zOK x w Y dd) (hd : decode Y.2.1 pc = .ok (.astore a, 2)) (hn : a < Y.2.2.1) (hk : zokL a L = true) (hL : zput L a (vR r i) = L') (kk : zWg x w n rf (pc + 2) L' st im lv) : zWg x w n rf pc L (vR r i :: st) im lv := by
  obtain ⟨p, l, e, R, s, m, args, below, meth, c, Q, n0, nm⟩ := x
  obtain ⟨hx, hb, hml, hown, hts, -⟩ := hO
  subst hL
  intro h126 H locs ls hP hS hl
  exact lv_astore hx hb hd hl (by rw [hml]; exact hn) rfl (fun ls' hl' => kk h126 H locs ls' hP hS (zstore1 hk hl'))
theorem zi_lstore_n {a : Fin 4} {v : Int64} (hO : zOK x w Y dd) (hd : decode Y.2.1 pc = .ok (.lstore_n a, 1)) (hn : (a : Nat) + 1 < Y.2.2.1) (hk : zokL (a : Nat) L = true) (hk2 : L.all (fun q => !(q.1 == (a : Nat) + 1)) = true) (hL : zput L (a : Nat) (vL v) = L') (kk : zWg x w n rf (pc + 1) L' st im lv) : zWg x w n rf pc L (vL v :: st) im lv := by
  obtain ⟨p, l, e, R, s, m, args, below, meth, c, Q, n0, nm⟩ := x
  obtain ⟨hx, hb, hml, hown, hts, -⟩ := hO
  subst hL
  intro h126 H locs ls hP hS hl
  exact lv_lstore_n hx hb hd rfl hl (by rw [hml]; exact hn) rfl (fun ls' hl' => kk h126 H locs ls' hP hS (zstore2 hk hk2 hl'))
theorem zi_lstore {a : Nat} {v : Int64} (hO : zOK x w Y dd) (hd : decode Y.2.1 pc = .ok (.lstore a, 2)) (hn : a + 1 < Y.2.2.1) (hk : zokL a L = true) (hk2 : L.all (fun q => !(q.1 == a + 1)) = true) (hL : zput L a (vL v) = L') (kk : zWg x w n rf (pc + 2) L' st im lv) : zWg x w n rf pc L (vL v :: st) im lv := by
  obtain ⟨p, l, e, R, s, m, args, below, meth, c, Q, n0, nm⟩ := x
  obtain ⟨hx, hb, hml, hown, hts, -⟩ := hO
  subst hL
  intro h126 H locs ls hP hS hl
  exact lv_lstore hx hb hd hl (by rw [hml]; exact hn) rfl (fun ls' hl' => kk h126 H locs ls' hP hS (zstore2 hk hk2 hl'))
theorem zi_iinc {a : Nat} {d : Int} {v v' : Int32} (hO : zOK x w Y dd) (hd : decode Y.2.1 pc = .ok (.iinc a d, 3)) (k : Nat) (hv : L[k]? = some (a, vI v)) (hv' : v + Int32.ofInt d = v') (hn : a < Y.2.2.1) (hk : zokL a L = true) (hL : zput L a (vI v') = L') (kk : zWg x w n rf (pc + 3) L' st im lv) : zWg x w n rf pc L st im lv := by
  obtain ⟨p, l, e, R, s, m, args, below, meth, c, Q, n0, nm⟩ := x
  obtain ⟨hx, hb, hml, hown, hts, -⟩ := hO
  subst hL
  intro h126 H locs ls hP hS hl
  exact lv_iinc hx hb hd hl (k := k) (x := v) (by rw [List.getElem?_map, hv]; rfl) hv' (by rw [hml]; exact hn) rfl (fun ls' hl' => kk h126 H locs ls' hP hS (zstore1 hk hl'))
end ZBR
end
section
section ZMEM
variable {x : zX} {w : zWd} {n : Nat} {rf : zRef} {pc : Nat} {L L' : List (Nat × zV)} {st : List zV} {im : zMem} {lv : Int64} {Y : zY} {dd : Nat}
theorem zE_obj {r i ci N : Nat} (hk : zkd r = (0, ci, N)) : zE w rf im lv r i = .inr (ci, (List.range N).map (zfv w.1 rf im lv ci r i)) := by
  unfold zE
  rw [hk]
  rfl
theorem zE_arr {r i N z : Nat} (hk : zkd r = (1, N, z)) : zE w rf im lv r i = .inl (w.2.2.1, N, .inl (im r i)) := by
  unfold zE
  rw [hk]
  rfl
theorem zE_ra {r i N z t : Nat} (hk : zkd r = (t + 2, N, z)) : zE w rf im lv r i = .inl (if t = 0 then w.2.2.2.1 else w.2.2.2.2, N, .inr (.inr (.inr (.inr (zrefs w.1 rf r i))))) := by
  unfold zE
  rw [hk]
  by_cases ht : t = 0
  · subst ht; rfl
  · dsimp only
    rw [if_neg (by omega), if_neg (by omega), if_neg (by omega), if_neg ht]
theorem zD : va_D (fun q => w.1 ≤ q) (zws w n rf im lv) := by
  have key : ∀ (k : Nat) (q : Nat × va_E), (zws w n rf im lv)[k]? = some q → q.1 = w.1 + k := by
    intro k q h
    unfold zws at h
    rw [List.getElem?_map] at h
    by_cases hk : k < n
    · rw [List.getElem?_range hk] at h
      cases h
      rfl
    · rw [List.getElem?_eq_none (by simp; omega)] at h
      cases h
  refine ⟨fun i j p q hp hq h => ?_, fun k q h => ?_⟩
  · have := key i p hp
    have := key j q hq
    omega
  · have := key k q h
    show w.1 ≤ q.1
    omega
theorem zi_getI {idx ci k r i N : Nat} (hO : zOK x w Y dd) (hd : decode Y.2.1 pc = .ok (.getfield idx, 3)) (hf : zFld Y.1.cls idx ci k) (hk : zkd r = (0, ci, N)) (h0 : zfk ci k = 0) (hi : zin n r i) (kk : zWg x w n rf (pc + 3) L (vI (im r i k) :: st) im lv) : zWg x w n rf pc L (vR r i :: st) im lv := by
  obtain ⟨p, l, e, R, s, m, args, below, meth, c, Q, n0, nm⟩ := x
  obtain ⟨hx, hb, hml, hown, hts, ⟨hK, -⟩, -⟩ := hO
  obtain ⟨C, T, N', hc, hkN, hlk⟩ := hf
  have hN := zkN' (zcnt_lt hi.1) hk hc
  subst hN
  intro h126 H locs ls hP hS hl
  refine va_get (D := w.2.1) (v := .int (im r i k)) (Ts := zT) hx hb hts (zcl hc).2.1 hown hK hP (zad r i) (by rw [zws_at hi, zE_obj hk]) hc k hkN (hts _ hlk) (fun _ h => h) ?_ hd (kk h126 H locs ls hP hS hl)
  rw [List.getElem?_map, List.getElem?_range hkN]
  simp [zfv, h0]
theorem zi_getL {idx k i N : Nat} (hO : zOK x w Y dd) (hd : decode Y.2.1 pc = .ok (.getfield idx, 3)) (hf : zFld Y.1.cls idx 10 k) (hk : zkd 16 = (0, 10, N)) (h0 : zfk 10 k = 2) (hi : zin n 16 i) (kk : zWg x w n rf (pc + 3) L (vL lv :: st) im lv) : zWg x w n rf pc L (vR 16 i :: st) im lv := by
  obtain ⟨p, l, e, R, s, m, args, below, meth, c, Q, n0, nm⟩ := x
  obtain ⟨hx, hb, hml, hown, hts, ⟨hK, -⟩, -⟩ := hO
  obtain ⟨C, T, N', hc, hkN, hlk⟩ := hf
  have hN := zkN' (zcnt_lt hi.1) hk hc
  subst hN
  intro h126 H locs ls hP hS hl
  refine va_get (D := w.2.1) (v := .long lv) (Ts := zT) hx hb hts (zcl hc).2.1 hown hK hP (zad 16 i) (by rw [zws_at hi, zE_obj hk]) hc k hkN (hts _ hlk) (fun _ h => h) ?_ hd (kk h126 H locs ls hP hS hl)
  rw [List.getElem?_map, List.getElem?_range hkN]
  simp [zfv, h0]
theorem zi_getR {idx ci k r i N r' i' : Nat} (hO : zOK x w Y dd) (hd : decode Y.2.1 pc = .ok (.getfield idx, 3)) (hf : zFld Y.1.cls idx ci k) (hk : zkd r = (0, ci, N)) (h0 : zfk ci k = 1) (hi : zin n r i) (hr : rf r i k = some (r', i')) (kk : zWg x w n rf (pc + 3) L (vR r' i' :: st) im lv) : zWg x w n rf pc L (vR r i :: st) im lv := by
  obtain ⟨p, l, e, R, s, m, args, below, meth, c, Q, n0, nm⟩ := x
  obtain ⟨hx, hb, hml, hown, hts, ⟨hK, -⟩, -⟩ := hO
  obtain ⟨C, T, N', hc, hkN, hlk⟩ := hf
  have hN := zkN' (zcnt_lt hi.1) hk hc
  subst hN
  intro h126 H locs ls hP hS hl
  refine va_get (D := w.2.1) (v := zcv w.1 (vR r' i')) (Ts := zT) hx hb hts (zcl hc).2.1 hown hK hP (zad r i) (by rw [zws_at hi, zE_obj hk]) hc k hkN (hts _ hlk) (fun _ h => h) ?_ hd (kk h126 H locs ls hP hS hl)
  rw [List.getElem?_map, List.getElem?_range hkN]
  simp [zfv, h0, hr]
theorem zfk_int {ci k : Nat} {C : String} {T : u_T} {N : Nat} (hc : vwCl[ci]? = some (C, T, N)) (hk : k < N) (h0 : zfk ci k = 0) : parseFieldDescriptor (T k).2.2.1 = some .int := by
  have hci : ci < 13 := (List.getElem?_eq_some_iff.mp hc).1
  have h1 := zfkN ci hci
  rw [hc] at h1
  have h2 : N = (zFk.getD ci []).length := Option.some.inj h1.1
  rw [(zcl hc).2.2.2.1 k hk, zty0 ci hci k (by omega) h0 (by omega)]
theorem zfk_long {ci k : Nat} {C : String} {T : u_T} {N : Nat} (hc : vwCl[ci]? = some (C, T, N)) (hk : k < N) (h0 : zfk ci k = 2) : parseFieldDescriptor (T k).2.2.1 = some .long := by
  have hci : ci < 13 := (List.getElem?_eq_some_iff.mp hc).1
  have h1 := zfkN ci hci
  rw [hc] at h1
  have h2 : N = (zFk.getD ci []).length := Option.some.inj h1.1
  rw [(zcl hc).2.2.2.1 k hk, zty2 ci hci k (by omega) h0]
theorem zE_putI {r i ci N k : Nat} {v : Int32} (hk : zkd r = (0, ci, N)) (h0 : zfk ci k = 0) : (Sum.inr (ci, ((List.range N).map (zfv w.1 rf im lv ci r i)).set k (.int v)) : va_E) = zE w rf (zset im r i (upd (im r i) k v)) lv r i := by
  rw [zE_obj hk]
  congr 2
  apply List.ext_getElem?
  intro j
  by_cases hj : j = k
  · subst hj
    by_cases hN : j < N
    · rw [List.getElem?_set_self (by simpa using hN), List.getElem?_map, List.getElem?_range hN]
      simp [zfv, h0, zset_eq, upd]
    · rw [List.getElem?_eq_none (by simp; omega), List.getElem?_eq_none (by simp; omega)]
  · rw [List.getElem?_set_ne (fun q => hj q.symm), List.getElem?_map, List.getElem?_map]
    by_cases hN : j < N
    · rw [List.getElem?_range hN]
      simp only [Option.map_some]
      congr 1
      unfold zfv
      rw [zset_eq]
      simp [upd, hj]
    · rw [List.getElem?_eq_none (by simp; omega)]
      rfl
theorem zi_putI {idx ci k r i N : Nat} {v : Int32} (hO : zOK x w Y dd) (hd : decode Y.2.1 pc = .ok (.putfield idx, 3)) (hf : zFldW false Y.1.cls idx ci k) (hk : zkd r = (0, ci, N)) (h0 : zfk ci k = 0) (hi : zin n r i) (kk : zWg x w n rf (pc + 3) L st (zset im r i (upd (im r i) k v)) lv) : zWg x w n rf pc L (vI v :: vR r i :: st) im lv := by
  obtain ⟨p, l, e, R, s, m, args, below, meth, c, Q, n0, nm⟩ := x
  obtain ⟨hx, hb, hml, hown, hts, ⟨hK, -⟩, -⟩ := hO
  obtain ⟨C, T, N', hc, hkN, hlk, hfin, -⟩ := hf
  have hN := zkN' (zcnt_lt hi.1) hk hc
  subst hN
  intro h126 H locs ls hP hS hl
  refine va_put (D := w.2.1) (v := .int v) (Ts := zT) hx hb hts (zcl hc).2.1 (zty ci) (zcl hc).2.2.2.1 (zcl hc).2.2.1 hown hK hP zD hS (zad r i) (by rw [zws_at hi, zE_obj hk]) hc k hkN (hts _ hlk) (fun _ h => h) hfin (zfk_int hc hkN h0) (vp_nar_int v) rfl (by simpa using hkN) hd (fun H1 locs1 hP1 hD1 hS1 => ?_)
  rw [zE_putI hk h0, zws_set h126 hi] at hP1
  exact kk h126 H1 locs1 ls hP1 hS1 hl
theorem zE_putL {k : Nat} {v : Int64} (h0 : k = 5) : (Sum.inr (10, ((List.range 6).map (zfv w.1 rf im lv 10 16 0)).set k (.long v)) : va_E) = zE w rf im v 16 0 := by
  subst h0
  rw [zE_obj (N := 6) (ci := 10) rfl]
  rfl
theorem zi_putL {idx k : Nat} {v : Int64} (hO : zOK x w Y dd) (hd : decode Y.2.1 pc = .ok (.putfield idx, 3)) (hf : zFldW false Y.1.cls idx 10 k) (h0 : k = 5) (hi : zin n 16 0) (kk : zWg x w n rf (pc + 3) L st im v) : zWg x w n rf pc L (vL v :: vR 16 0 :: st) im lv := by
  obtain ⟨p, l, e, R, s, m, args, below, meth, c, Q, n0, nm⟩ := x
  obtain ⟨hx, hb, hml, hown, hts, ⟨hK, -⟩, -⟩ := hO
  obtain ⟨C, T, N', hc, hkN, hlk, hfin, -⟩ := hf
  have hk : zkd 16 = (0, 10, 6) := rfl
  have hN := zkN' (zcnt_lt hi.1) hk hc
  subst hN
  intro h126 H locs ls hP hS hl
  refine va_put (D := w.2.1) (v := .long v) (Ts := zT) hx hb hts (zcl hc).2.1 (zty 10) (zcl hc).2.2.2.1 (zcl hc).2.2.1 hown hK hP zD hS (zad 16 0) (by rw [zws_at hi, zE_obj hk]) hc k hkN (hts _ hlk) (fun _ h => h) hfin (zfk_long hc hkN (by subst h0; rfl)) rfl rfl (by simpa using hkN) hd (fun H1 locs1 hP1 hD1 hS1 => ?_)
  rw [zE_putL h0, zws_setL h126 hi] at hP1
  exact kk h126 H1 locs1 ls hP1 hS1 hl
theorem zi_iald {r i N z : Nat} {a : Int32} (hO : zOK x w Y dd) (hd : decode Y.2.1 pc = .ok (.iaload, 1)) (hk : zkd r = (1, N, z)) (hi : zin n r i) (ha : vp_in a N) (kk : zWg x w n rf (pc + 1) L (vI (im r i a.toNatClampNeg) :: st) im lv) : zWg x w n rf pc L (vI a :: vR r i :: st) im lv := by
  obtain ⟨p, l, e, R, s, m, args, below, meth, c, Q, n0, nm⟩ := x
  obtain ⟨hx, hb, hml, hown, hts, ⟨hK, -⟩, -⟩ := hO
  intro h126 H locs ls hP hS hl
  exact va_iald (D := w.2.1) hx hb hK hP (zad r i) 0 (by rw [zws_at hi, zE_arr hk]) rfl ha hd (kk h126 H locs ls hP hS hl)
theorem zi_iast {r i N z : Nat} {a v : Int32} (hO : zOK x w Y dd) (hd : decode Y.2.1 pc = .ok (.iastore, 1)) (hk : zkd r = (1, N, z)) (hi : zin n r i) (ha : vp_in a N) (kk : zWg x w n rf (pc + 1) L st (zset im r i (upd (im r i) a.toNatClampNeg v)) lv) : zWg x w n rf pc L (vI v :: vI a :: vR r i :: st) im lv := by
  obtain ⟨p, l, e, R, s, m, args, below, meth, c, Q, n0, nm⟩ := x
  obtain ⟨hx, hb, hml, hown, hts, ⟨hK, -⟩, -⟩ := hO
  intro h126 H locs ls hP hS hl
  refine va_iast (D := w.2.1) hx hb hK hP zD hS (zad r i) 0 (by rw [zws_at hi, zE_arr hk]) rfl ha hd (fun H1 locs1 hP1 hD1 hS1 => ?_)
  have h2 : (Sum.inl (w.2.2.1, N, .inl (upd (im r i) a.toNatClampNeg v)) : va_E) = zE w rf (zset im r i (upd (im r i) a.toNatClampNeg v)) lv r i := by rw [zE_arr hk, zset_eq]
  rw [h2, zws_set h126 hi] at hP1
  exact kk h126 H1 locs1 ls hP1 hS1 hl
theorem zi_alen {r i N z : Nat} {v : Int32} (hO : zOK x w Y dd) (hd : decode Y.2.1 pc = .ok (.arraylength, 1)) (hk : zkd r = (1, N, z)) (hi : zin n r i) (hv : Int32.ofNat N = v) (kk : zWg x w n rf (pc + 1) L (vI v :: st) im lv) : zWg x w n rf pc L (vR r i :: st) im lv := by
  obtain ⟨p, l, e, R, s, m, args, below, meth, c, Q, n0, nm⟩ := x
  obtain ⟨hx, hb, hml, hown, hts, ⟨hK, -⟩, -⟩ := hO
  intro h126 H locs ls hP hS hl
  exact va_alen (D := w.2.1) hx hb hK hP (zad r i) 0 (by rw [zws_at hi, zE_arr hk]) (ty := .int) rfl hv hd (kk h126 H locs ls hP hS hl)
theorem zi_aald {r i N z t r' i' : Nat} {a : Int32} (hO : zOK x w Y dd) (hd : decode Y.2.1 pc = .ok (.aaload, 1)) (hk : zkd r = (t + 2, N, z)) (hi : zin n r i) (ha : vp_in a N) (hr : rf r i a.toNatClampNeg = some (r', i')) (kk : zWg x w n rf (pc + 1) L (vR r' i' :: st) im lv) : zWg x w n rf pc L (vI a :: vR r i :: st) im lv := by
  obtain ⟨p, l, e, R, s, m, args, below, meth, c, Q, n0, nm⟩ := x
  obtain ⟨hx, hb, hml, hown, hts, ⟨hK, -⟩, -⟩ := hO
  intro h126 H locs ls hP hS hl
  have hv : va_rf (zrefs w.1 rf r i a.toNatClampNeg) = zcv w.1 (vR r' i') := by simp [zrefs, hr, va_rf, zcv]
  have h3 := kk h126 H locs ls hP hS hl
  simp only [List.map_cons] at h3 ⊢
  rw [← hv] at h3
  by_cases ht : t = 0
  · exact va_aldq (D := w.2.1) hx hb hK hP (zad r i) 1 (C := "RoomsOfAir$Sheet") (by rw [zws_at hi, zE_ra hk, if_pos ht]) rfl ha hd h3
  · exact va_aldq (D := w.2.1) hx hb hK hP (zad r i) 2 (C := "RoomsOfAir$Flight") (by rw [zws_at hi, zE_ra hk, if_neg ht]) rfl ha hd h3
end ZMEM
end
section
/-! contracts, calls, returns -/
def zPc (w : zWd) (n : Nat) (rf : zRef) (as : List zV) (im : zMem) (lv : Int64) : Array Value → State → Prop := va_Pc (as.map (zcv w.1)) (fun U => U.heap.size = w.1 + n ∧ va_P w.2.1 vwCl (zws w n rf im lv) U.heap ∧ zUp w U)
def zQc (w : zWd) (ret : Option FieldType) (nm : Nat) (post : zV → zRef → zMem → Int64 → Prop) : Array Value → State → Outcome → State → Prop := fun _ st o t =>
  (∃ (v : zV) (rf' : zRef) (im' : zMem) (lv' : Int64), o = .returned (if ret.isNone = true then none else some (zcv w.1 v)) ∧ post v rf' im' lv' ∧ va_P w.2.1 vwCl (zws w nm rf' im' lv') t.heap) ∧ va_F (fun q => w.1 ≤ q) st t
def zroom (d n nm : Nat) : Room := { frames := d, cells := nm - n, slots := zsl nm - zsl n, locals := 40 * d }
def zSpecg (l : Launch) (w : zWd) (d : Nat) (Y : zY) (n : Nat) (rf : zRef) (nm : Nat) (as : List zV) (im : zMem) (lv : Int64) (post : zV → zRef → zMem → Int64 → Prop) : Prop :=
  Met l Y.1 (Cond.code Y.1 Y.2.1 Y.2.2.1 Y.2.2.2 :: zT) (zroom d n nm) (zPc w n rf as im lv) (zQc w Y.2.2.2 nm post) (nm - n) (zsl nm - zsl n) (fun q => w.1 ≤ q)
def zSpec (l : Launch) (w : zWd) (d : Nat) (Y : zY) (as : List zV) (im : zMem) (lv : Int64) (post : zV → zMem → Int64 → Prop) : Prop :=
  zSpecg l w d Y 126 zRF 126 as im lv (fun v rf' im' lv' => rf' = zRF ∧ post v im' lv')
def zRet (x : zX) (w : zWd) (Y : zY) (nm : Nat) (post : zV → zRef → zMem → Int64 → Prop) : Prop :=
  match x with
  | (_, _, _, _, s, _, args, below, meth, _, Q, n0, _) => Q = MQ below (zQc w Y.2.2.2 nm post) args s (nm - n0) (zsl nm - zsl n0) (fun q => w.1 ≤ q) ∧ meth.sig.returnType = Y.2.2.2 ∧ meth.locks = false ∧ meth.name = Y.1.name
def zN (x : zX) (n n2 : Nat) : Prop :=
  match x with
  | (_, _, _, _, _, _, _, _, _, _, _, n0, nm) => n0 ≤ n ∧ n ≤ n2 ∧ n2 ≤ nm
def zargs : Nat → List zV → List (Nat × zV)
  | _, [] => []
  | i, v :: vs => (i, v) :: zargs (if zcat v = 2 then i + 2 else i + 1) vs
theorem zargs_lv (b : Nat) : ∀ (as : List zV) (i : Nat), lv_args i (as.map (zcv b)) = zlc b (zargs i as)
  | [], i => rfl
  | v :: vs, i => by
    show (i, zcv b v) :: lv_args (if (zcv b v).category = 2 then i + 2 else i + 1) (vs.map (zcv b)) = _
    rw [zcv_cat, zargs_lv b vs]
    rfl
theorem zUp_moved {w : zWd} {s U : State} (h : zUp w s) (hW : s.WarmedH U.vm) : zUp w U := by
  obtain ⟨h1, h2, h3, h4⟩ := h
  refine ⟨va_K.moved hW.alike h1, fun t ht => ?_, va_AO.moved hW.alike h3, va_AO.moved hW.alike h4⟩
  have h5 := h2 t ht
  simp only [zNs, List.mem_cons, List.mem_nil_iff, or_false] at ht
  rcases ht with rfl | rfl | rfl | rfl | rfl | rfl <;> exact va_Nw.warmM hW h5
theorem zUp_same {w : zWd} {s U : State} (h : zUp w s) (hv : s.vm = U.vm) : zUp w U := by
  obtain ⟨h1, h2, h3, h4⟩ := h
  have ha : s.vm.Alike U.vm := by rw [hv]; exact Vm.Alike.refl _
  refine ⟨va_K.moved ha h1, fun t ht => ?_, va_AO.moved ha h3, va_AO.moved ha h4⟩
  have h5 := h2 t ht
  simp only [zNs, List.mem_cons, List.mem_nil_iff, or_false] at ht
  rcases ht with rfl | rfl | rfl | rfl | rfl | rfl <;> exact va_Nw.same rfl hv h5
theorem zblind {w : zWd} {n : Nat} {rf : zRef} {as : List zV} {im : zMem} {lv : Int64} : FrameBlind (zPc w n rf as im lv) := fun a U g mk q => by
  obtain ⟨q0, q1, q2, q3⟩ := q
  exact ⟨q0, q1, q2, zUp_same q3 rfl⟩
theorem zenter {l : Launch} {w : zWd} {d : Nat} {Y : zY} {n : Nat} {rf : zRef} {nm : Nat} {as : List zV} {im : zMem} {lv : Int64} {post : zV → zRef → zMem → Int64 → Prop} (hn : n ≤ nm) (h126 : n ≤ 126) (hpl : plainName Y.1.cls = true) (hlen : (lg_sl (as.map (zcv w.1))).length ≤ Y.2.2.1)
    (body : ∀ x, zOK x w Y d → zRet x w Y nm post → zN x n nm → zWg x w n rf 0 (zargs 0 as) [] im lv) : zSpecg l w d Y n rf nm as im lv post := by
  refine Met.ofW (cc := Y.2.1) (maxL := Y.2.2.1) (ret := Y.2.2.2) hpl rfl ?_
  intro p e s m args below meth c s₁ B hml hv
  obtain ⟨hv, hsz, hP, hU⟩ := hv
  subst hv
  have hts := atoms_spec (ws := Cond.code Y.1 Y.2.1 Y.2.2.1 Y.2.2.2 :: zT) B.pre
  have hl := lv_entry (as.map (zcv w.1)) (n := Y.2.2.1) hlen
  rw [lg_entry_eq]
  have key := body (p, l, e, zroom d n nm, s, m, (as.map (zcv w.1)).toArray, below, meth, c, MQ below (zQc w Y.2.2.2 nm post) (as.map (zcv w.1)).toArray s (nm - n) (zsl nm - zsl n) (fun q => w.1 ≤ q), n, nm)
    ⟨B.exec, B.bytes, hml, findClass_of_methodNamed B.named, fun t ht => hts t (List.mem_cons_of_mem _ ht), hU, hsz, Nat.le_refl _, Nat.le_refl _, Nat.le_refl _, Nat.le_refl _, hn⟩ ⟨rfl, B.returns, B.notSynchronized, (name_of_methodNamed B.named B.method).1⟩ ⟨Nat.le_refl _, hn, Nat.le_refl _⟩
    h126 s.heap [] _ hP va_S.rf (by rw [hml, ← zargs_lv]; exact hl)
  rw [Nat.sub_self, Nat.sub_self] at key
  exact key
section ZCALL
variable {x : zX} {w : zWd} {n : Nat} {rf : zRef} {pc : Nat} {L L' : List (Nat × zV)} {st : List zV} {im : zMem} {lv : Int64} {Y : zY} {dd : Nat} {post : zV → zRef → zMem → Int64 → Prop}
theorem zi_ireturn {v : Int32} (hO : zOK x w Y dd) (hR : zRet x w Y n post) (hr : Y.2.2.2 = some .int) (hd : decode Y.2.1 pc = .ok (.ireturn, 1)) (hq : post (vI v) rf im lv) : zWg x w n rf pc L [vI v] im lv := by
  obtain ⟨p, l, e, R, s, m, args, below, meth, c, Q, n0, nm⟩ := x
  obtain ⟨hx, hb, hml, hown, hts, -⟩ := hO
  obtain ⟨hQ, hret, hlocks, -⟩ := hR
  subst hQ
  intro h126 H locs ls hP hS hl
  rw [hr] at hret
  exact W.iret hx hb hret (fun t ht _ => ⟨⟨vI v, rf, im, lv, by rw [hr]; rfl, hq, by rw [ht]; exact hP⟩, hS.F ht⟩) (fun q hq => hS.2.2 q hq) hd hlocks
theorem zi_zreturn {v : Int32} (hO : zOK x w Y dd) (hR : zRet x w Y n post) (hr : Y.2.2.2 = some .boolean) (hv : v = 0 ∨ v = 1) (hd : decode Y.2.1 pc = .ok (.ireturn, 1)) (hq : post (vI v) rf im lv) : zWg x w n rf pc L [vI v] im lv := by
  obtain ⟨p, l, e, R, s, m, args, below, meth, c, Q, n0, nm⟩ := x
  obtain ⟨hx, hb, hml, hown, hts, -⟩ := hO
  obtain ⟨hQ, hret, hlocks, -⟩ := hR
  subst hQ
  intro h126 H locs ls hP hS hl
  rw [hr] at hret
  exact W.zret hx hb hret (by rcases hv with rfl | rfl <;> decide +kernel) (fun t ht _ => ⟨⟨vI v, rf, im, lv, by rw [hr]; rfl, hq, by rw [ht]; exact hP⟩, hS.F ht⟩) (fun q hq => hS.2.2 q hq) hd hlocks
theorem zi_lreturn {v : Int64} (hO : zOK x w Y dd) (hR : zRet x w Y n post) (hr : Y.2.2.2 = some .long) (hd : decode Y.2.1 pc = .ok (.lreturn, 1)) (hq : post (vL v) rf im lv) : zWg x w n rf pc L [vL v] im lv := by
  obtain ⟨p, l, e, R, s, m, args, below, meth, c, Q, n0, nm⟩ := x
  obtain ⟨hx, hb, hml, hown, hts, -⟩ := hO
  obtain ⟨hQ, hret, hlocks, -⟩ := hR
  subst hQ
  intro h126 H locs ls hP hS hl
  rw [hr] at hret
  exact W.lret hx hb hret (fun t ht _ => ⟨⟨vL v, rf, im, lv, by rw [hr]; rfl, hq, by rw [ht]; exact hP⟩, hS.F ht⟩) (fun q hq => hS.2.2 q hq) hd hlocks
theorem zi_vreturn (hO : zOK x w Y dd) (hR : zRet x w Y n post) (hr : Y.2.2.2 = none) (hd : decode Y.2.1 pc = .ok (.return_, 1)) (hq : post vN rf im lv) : zWg x w n rf pc L [] im lv := by
  obtain ⟨p, l, e, R, s, m, args, below, meth, c, Q, n0, nm⟩ := x
  obtain ⟨hx, hb, hml, hown, hts, -⟩ := hO
  obtain ⟨hQ, hret, hlocks, -⟩ := hR
  subst hQ
  intro h126 H locs ls hP hS hl
  rw [hr] at hret
  exact W.vret hx hb hret (fun t ht _ => ⟨⟨vN, rf, im, lv, by rw [hr]; rfl, hq, by rw [ht]; exact hP⟩, hS.F ht⟩) (fun q hq => hS.2.2 q hq) hd hlocks
theorem zi_areturn {k : Option (Nat × Nat)} {C : String} (hO : zOK x w Y dd) (hR : zRet x w Y n post) (hr : Y.2.2.2 = some (.object C)) (hd : decode Y.2.1 pc = .ok (.areturn, 1)) (hq : post (.inr (.inr k)) rf im lv) : zWg x w n rf pc L [.inr (.inr k)] im lv := by
  obtain ⟨p, l, e, R, s, m, args, below, meth, c, Q, n0, nm⟩ := x
  obtain ⟨hx, hb, hml, hown, hts, -⟩ := hO
  obtain ⟨hQ, hret, hlocks, -⟩ := hR
  subst hQ
  intro h126 H locs ls hP hS hl
  rw [hr] at hret
  exact W.aret hx hb hret (Or.inl ⟨C, rfl⟩) (by rcases k with _ | k; exact Or.inl rfl; exact Or.inr ⟨_, rfl⟩) (fun t ht _ => ⟨⟨.inr (.inr k), rf, im, lv, by rw [hr]; rfl, hq, by rw [ht]; exact hP⟩, hS.F ht⟩) (fun q hq => hS.2.2 q hq) hd hlocks
/-- the heap's size, out of the frame that the machine keeps -/
theorem W_size {p : Program} {l : Launch} {e : Env} {R : Room} {s : State} {m : MethodId} {args : Array Value} {below : List Frame} {meth : Method} {c : Code} {H : Heap} {locs : List Loc} {cells slots : Nat} {Q : State → Prop} {g : JFrame}
    (h : H.size ≤ s.heap.size + cells → W p l e R s m args below meth c H locs cells slots Q g) : W p l e R s m args below meth c H locs cells slots Q g := by
  intro T hT X
  have h2 : (T.setVm s.vm).heap.size ≤ s.heap.size + cells := X.same.2.2.1
  exact h (by rw [← hT]; exact h2) T hT X
theorem zH_ge {H : Heap} (hP : va_P w.2.1 vwCl (zws w n rf im lv) H) {n0 : Nat} (h0 : w.1 + n0 ≤ H.size) (hn : n0 ≤ n) : w.1 + n ≤ H.size := by
  by_cases h : n = n0
  · rw [h]; exact h0
  · have h2 : (zws w n rf im lv)[n - 1]? = some (w.1 + (n - 1), zE w rf im lv (zkey (n - 1)).1 (zkey (n - 1)).2) := by
      unfold zws
      rw [List.getElem?_map, List.getElem?_range (by omega)]
      rfl
    have h3 := (hP _ _ h2).lt
    dsimp only at h3
    omega
abbrev zres (ret : Option FieldType) (v : zV) (st : List zV) : List zV := if ret.isNone = true then st else v :: st
theorem zcallC {p : Program} {l : Launch} {e : Env} {R : Room} {s : State} {m : MethodId} {args : Array Value} {below : List Frame} {meth : Method} {c : Code} {Q : State → Prop} {n0 nm : Nat} {H : Heap} {locs : List Loc} {ls : Array Slot} {st0 : List Value} {ret : Option FieldType} {n2 : Nat} {a : Array Value}
    (hrun : va_Run p l e R s m args below meth c H locs (n - n0) (zsl n - zsl n0) (n2 - n) (zsl n2 - zsl n) (F0 m pc ls st0) (st.map (zcv w.1)) (zQc w ret n2 post a) (fun q => w.1 ≤ q)) (hS : va_S (fun q => w.1 ≤ q) s.heap H locs) (hl : lv_has ls c.maxLocals (zlc w.1 L)) (h0 : n0 ≤ n) (h1 : n ≤ n2) (h126 : n2 ≤ 126)
    (kk : ∀ (v : zV) (rf' : zRef) (im' : zMem) (lv' : Int64), post v rf' im' lv' → zWg (p, l, e, R, s, m, args, below, meth, c, Q, n0, nm) w n2 rf' (pc + 3) L (zres ret v st) im' lv') : W p l e R s m args below meth c H locs (n - n0) (zsl n - zsl n0) Q (F0 m pc ls st0) := by
  intro T hT X
  obtain ⟨v, st₀, t, T', Lc, e0, X', hL, e1, e2, ⟨⟨zv, rf', im', lv', hv, hp, hP'⟩, hz, hk⟩, hst⟩ := hrun T hT X
  cases hv
  rw [e0] at hz hk
  have hc1 : n - n0 + (n2 - n) = n2 - n0 := by omega
  have hm1 := zsl_mono h0
  have hm2 := zsl_mono h1
  have hc2 : zsl n - zsl n0 + (zsl n2 - zsl n) = zsl n2 - zsl n0 := by omega
  rw [hc1, hc2] at X'
  have hS' : va_S (fun q => w.1 ≤ q) s.heap T'.heap (locs ++ Lc) := ⟨Nat.le_trans hS.1 (by rw [e1]; exact hz), fun q g1 g2 => by rw [e1, hk q (Nat.lt_of_lt_of_le g1 hS.1) g2]; exact hS.2.1 q g1 g2, fun q hq => by
    rcases List.mem_append.mp hq with g | g
    · exact hS.2.2 q g
    · exact hL q g⟩
  obtain ⟨t2, a1, b1⟩ := kk zv rf' im' lv' hp h126 T'.heap (locs ++ Lc) ls (by rw [e1]; exact hP') hS' hl T' rfl X'
  refine ⟨t2, hst t2 ?_, b1⟩
  have hst2 : (zres ret zv st).map (zcv w.1) = (if ret.isNone = true then none else some (zcv w.1 zv)).toList ++ st.map (zcv w.1) := by
    unfold zres
    by_cases hr : ret.isNone = true
    · rw [if_pos hr, if_pos hr]; rfl
    · rw [if_neg hr, if_neg hr]; rfl
  rw [hst2] at a1
  exact a1
def zLk (own : String) (idx : Nat) (Y' : zY) (k : Nat) : Prop := Cond.methodLink own idx Y'.1 ∈ zT ∧ Cond.initialized Y'.1.cls ∈ zT ∧ Cond.code Y'.1 Y'.2.1 Y'.2.2.1 Y'.2.2.2 ∈ zT ∧ (Y'.1.cls ≠ "java/lang/invoke/MethodHandle" ∧ Y'.1.cls ≠ "java/lang/invoke/VarHandle" ∧ (parseMethodDescriptor Y'.1.desc).map (fun d => d.parameters.length) = some k) ∧ Y'.2.2.1 ≤ 21
def zLkV (own : String) (idx : Nat) (Y' : zY) (k : Nat) : Prop := zLk own idx Y' k ∧ Cond.instanceMethod Y'.1 ∈ zT ∧ Cond.selects Y'.1.cls Y'.1 Y'.1 ∈ zT
def zLkS (own : String) (idx : Nat) (Y' : zY) (k : Nat) : Prop := zLk own idx Y' k ∧ Cond.static Y'.1 ∈ zT
def zLkI (own : String) (idx : Nat) (Y' : zY) (k : Nat) : Prop := zLk own idx Y' k ∧ Cond.instanceMethod Y'.1 ∈ zT ∧ Y'.1.name = "<init>" ∧ Y'.2.2.2 = none
def zLkN (own : String) (idx : Nat) (Y' : zY) (k : Nat) : Prop := Cond.methodLinkNest own idx Y'.1 "RoomsOfAir" ∈ zNs ∧ Cond.initialized Y'.1.cls ∈ zT ∧ Cond.code Y'.1 Y'.2.1 Y'.2.2.1 Y'.2.2.2 ∈ zT ∧ (Y'.1.cls ≠ "java/lang/invoke/MethodHandle" ∧ Y'.1.cls ≠ "java/lang/invoke/VarHandle" ∧ (parseMethodDescriptor Y'.1.desc).map (fun d => d.parameters.length) = some k) ∧ Y'.2.2.1 ≤ 21
theorem zcallB {R : Room} {s : State} {args : Array Value} {Y' : zY} {d k own idx n2} (hts : ∀ t ∈ zT, t.before args s = true) (hk : zLk own idx Y' k) (h1 : d + 1 ≤ R.frames) (h2 : 40 * (d + 1) ≤ R.locals) : CallB R s args own idx Y'.1 Y'.2.1 Y'.2.2.1 Y'.2.2.2 (Cond.code Y'.1 Y'.2.1 Y'.2.2.1 Y'.2.2.2 :: zT) (zroom d n n2) (n2 - n) (zsl n2 - zsl n) k := by
  obtain ⟨k1, k2, k3, k4, k5⟩ := hk
  exact callB_of k hts (zT_good k3) rfl rfl rfl (hts _ k2) (hts _ k1) k4 ⟨h1, by show 8 + (_ + 11) + 40 * d ≤ _; omega⟩
theorem zcat_sum {b : Nat} : ∀ {st : List zV}, ((st.map (zcv b)).map fun v => v.category).sum = (st.map zcat).sum
  | [] => rfl
  | v :: st => by simp only [List.map_cons, List.sum_cons, zcv_cat, zcat_sum]
theorem zi_callV {Y' : zY} {d n2 idx k r i ci N : Nat} {as : List zV} {st0 : List zV} (hO : zOK x w Y dd) (hNN : zN x n n2) (h126 : n2 ≤ 126) (hd : decode Y.2.1 pc = .ok (.invokevirtual idx, 3)) (hk : zLkV Y.1.cls idx Y' k) (hdd : d + 1 ≤ dd) (hz : zkd r = (0, ci, N)) (hi : zin n r i) (hC : (vwCl[ci]?).map (fun q => q.1) = some Y'.1.cls) (hlen : as.length = k) (hroom : (st.map zcat).sum ≤ 8) (hst : st0 = as.reverse ++ vR r i :: st)
    (hM : zSpecg x.2.1 w d Y' n rf n2 (vR r i :: as) im lv post) (kk : ∀ (v : zV) (rf' : zRef) (im' : zMem) (lv' : Int64), post v rf' im' lv' → zWg x w n2 rf' (pc + 3) L (zres Y'.2.2.2 v st) im' lv') : zWg x w n rf pc L st0 im lv := by
  obtain ⟨p, l, e, R, s, m, args, below, meth, c, Q, n0, nm⟩ := x
  obtain ⟨hx, hb, hml, hown, hts, hU, hsz, hfr, hlo, hce, hsl, hnn⟩ := hO
  obtain ⟨g0, g1, g2⟩ := hNN
  subst hst
  intro _ H locs ls hP hS hl
  refine W_size (fun hup => ?_)
  have hge := zH_ge hP (n0 := n0) (by have := hS.1; omega) g0
  have hsH : H.size = w.1 + n := by omega
  have hm1 := zsl_mono g0
  have hm2 := zsl_mono g1
  have hm3 := zsl_mono g2
  cases hcc : vwCl[ci]? with
  | none => rw [hcc] at hC; cases hC
  | some q =>
    rw [hcc] at hC
    have hC : q.1 = Y'.1.cls := Option.some.inj hC
    have hcb := zcallB (n := n) (n2 := n2) (R := R) hts hk.1 (by omega : d + 1 ≤ R.frames) (by omega : 40 * (d + 1) ≤ R.locals)
    refine zcallC (va_runV (n := k) (As := as.map (zcv w.1)) (rest := st.map (zcv w.1)) (C := Y'.1.cls) (b := w.1 + zad r i) (nL := Y.2.2.1) (Ts := zT) ⟨hx, hb, hml, hown, hts⟩ hM ⟨hcb, hts _ hk.2.1, hts _ hk.2.2⟩
      ⟨zblind, by rw [← hC]; exact va_recv hU.1 hP hcc (q0 := zad r i) (by rw [zws_at hi, zE_obj hz]), fun U hUH hW => ⟨rfl, by rw [hUH]; exact hsH, by rw [hUH]; exact hP, zUp_moved hU hW⟩⟩ rfl (by simpa using hlen) (by rw [← hml]; exact hl.1) (by simp [zcv]) (lv_room (by rw [zcat_sum]; exact hroom)) hd ⟨by omega, by omega⟩) hS hl g0 g1 h126 kk
theorem zi_callS {Y' : zY} {d n2 idx k : Nat} {as : List zV} {st0 : List zV} (hO : zOK x w Y dd) (hNN : zN x n n2) (h126 : n2 ≤ 126) (hd : decode Y.2.1 pc = .ok (.invokestatic idx, 3)) (hk : zLkS Y.1.cls idx Y' k) (hdd : d + 1 ≤ dd) (hlen : as.length = k) (hroom : (st.map zcat).sum ≤ 8) (hst : st0 = as.reverse ++ st)
    (hM : zSpecg x.2.1 w d Y' n rf n2 as im lv post) (kk : ∀ (v : zV) (rf' : zRef) (im' : zMem) (lv' : Int64), post v rf' im' lv' → zWg x w n2 rf' (pc + 3) L (zres Y'.2.2.2 v st) im' lv') : zWg x w n rf pc L st0 im lv := by
  obtain ⟨p, l, e, R, s, m, args, below, meth, c, Q, n0, nm⟩ := x
  obtain ⟨hx, hb, hml, hown, hts, hU, hsz, hfr, hlo, hce, hsl, hnn⟩ := hO
  obtain ⟨g0, g1, g2⟩ := hNN
  subst hst
  intro _ H locs ls hP hS hl
  refine W_size (fun hup => ?_)
  have hge := zH_ge hP (n0 := n0) (by have := hS.1; omega) g0
  have hsH : H.size = w.1 + n := by omega
  have hm1 := zsl_mono g0
  have hm2 := zsl_mono g1
  have hm3 := zsl_mono g2
  have hcb := zcallB (n := n) (n2 := n2) (R := R) hts hk.1 (by omega : d + 1 ≤ R.frames) (by omega : 40 * (d + 1) ≤ R.locals)
  refine zcallC (va_runS (n := k) (As := as.map (zcv w.1)) (rest := st.map (zcv w.1)) (nL := Y.2.2.1) (Ts := zT) ⟨hx, hb, hml, hown, hts⟩ hM ⟨hcb, hts _ hk.2⟩
      ⟨zblind, fun U hUH hW => ⟨rfl, by rw [hUH]; exact hsH, by rw [hUH]; exact hP, zUp_moved hU hW⟩⟩ rfl (by simpa using hlen) (by rw [← hml]; exact hl.1) (by simp) (lv_room (by rw [zcat_sum]; exact hroom)) hd ⟨by omega, by omega⟩) hS hl g0 g1 h126 kk
theorem zi_callSN {Y' : zY} {d n2 idx k : Nat} {as : List zV} {st0 : List zV} (hO : zOK x w Y dd) (hNN : zN x n n2) (h126 : n2 ≤ 126) (hd : decode Y.2.1 pc = .ok (.invokestatic idx, 3)) (hk : zLkN Y.1.cls idx Y' k) (hks : Cond.static Y'.1 ∈ zT) (hdd : d + 1 ≤ dd) (hlen : as.length = k) (hroom : (st.map zcat).sum ≤ 8) (hst : st0 = as.reverse ++ st)
    (hM : zSpecg x.2.1 w d Y' n rf n2 as im lv post) (kk : ∀ (v : zV) (rf' : zRef) (im' : zMem) (lv' : Int64), post v rf' im' lv' → zWg x w n2 rf' (pc + 3) L (zres Y'.2.2.2 v st) im' lv') : zWg x w n rf pc L st0 im lv := by
  obtain ⟨p, l, e, R, s, m, args, below, meth, c, Q, n0, nm⟩ := x
  obtain ⟨hx, hb, hml, hown, hts, hU, hsz, hfr, hlo, hce, hsl, hnn⟩ := hO
  obtain ⟨g0, g1, g2⟩ := hNN
  subst hst
  intro _ H locs ls hP hS hl
  refine W_size (fun hup => ?_)
  have hge := zH_ge hP (n0 := n0) (by have := hS.1; omega) g0
  have hsH : H.size = w.1 + n := by omega
  have hm1 := zsl_mono g0
  have hm2 := zsl_mono g1
  have hm3 := zsl_mono g2
  obtain ⟨k1, k2, k3, k4, k5⟩ := hk
  have hcn := va_cnB (R := R) (rm := zroom d n n2) (mc := n2 - n) (ms := zsl n2 - zsl n) k hts (zT_good k3) rfl rfl rfl (hU.2.1 _ k1) (hts _ k2) k4 ⟨by show d + 1 ≤ _; omega, by show 8 + (_ + 11) + 40 * d ≤ _; omega⟩
  refine zcallC (va_runSN (n := k) (As := as.map (zcv w.1)) (rest := st.map (zcv w.1)) (nL := Y.2.2.1) (Ts := zT) ⟨hx, hb, hml, hown, hts⟩ hM ⟨hcn, hts _ hks, trivial⟩
      ⟨zblind, fun U hUH hW => ⟨rfl, by rw [hUH]; exact hsH, by rw [hUH]; exact hP, zUp_moved hU hW⟩⟩ rfl (by simpa using hlen) (by rw [← hml]; exact hl.1) (by simp) (lv_room (by rw [zcat_sum]; exact hroom)) hd ⟨by omega, by omega⟩) hS hl g0 g1 h126 kk
end ZCALL
end
section
/-! what the JDK gives, what is made -/
section ZJ
variable {x : zX} {w : zWd} {n : Nat} {rf : zRef} {pc : Nat} {L L' : List (Nat × zV)} {st : List zV} {im : zMem} {lv : Int64} {Y : zY} {dd : Nat} {post : zV → zRef → zMem → Int64 → Prop}
theorem zi_max {a b : Int32} {idx : Nat} (hO : zOK x w Y dd) (hN : zN x n n) (hdd : 1 ≤ dd) (hd : decode Y.2.1 pc = .ok (.invokestatic idx, 3)) (h1 : Cond.methodLink Y.1.cls idx Lib.Math.max.name ∈ zT) (h2 : Cond.static Lib.Math.max.name ∈ zT) (h3 : Cond.initialized "java/lang/Math" ∈ zT) (h4 : Cond.code Lib.Math.max.name Lib.Math.max.code 2 (some .int) ∈ zT) (hroom : (st.map zcat).sum ≤ 8)
    (kk : zWg x w n rf (pc + 3) L (vI (if a < b then b else a) :: st) im lv) : zWg x w n rf pc L (vI b :: vI a :: st) im lv := by
  obtain ⟨p, l, e, R, s, m, args, below, meth, c, Q, n0, nm⟩ := x
  obtain ⟨hx, hb, hml, hown, hts, hU, hsz, hfr, hlo, hce, hsl, hnn⟩ := hO
  obtain ⟨g0, g1, g2⟩ := hN
  intro h126 H locs ls hP hS hl
  have hm3 := zsl_mono g2
  exact va_mmax hx hb hl.1.symm hown (hts _ h1) (hts _ h2) (hts _ h3) (hts _ h4) (by omega) (by rw [zcat_sum]; omega) (by omega) (by omega) hd (kk h126 H locs ls hP hS hl)
theorem zi_min {a b : Int32} {idx : Nat} (hO : zOK x w Y dd) (hN : zN x n n) (hdd : 1 ≤ dd) (hd : decode Y.2.1 pc = .ok (.invokestatic idx, 3)) (h1 : Cond.methodLink Y.1.cls idx Lib.Math.min.name ∈ zT) (h2 : Cond.static Lib.Math.min.name ∈ zT) (h3 : Cond.initialized "java/lang/Math" ∈ zT) (h4 : Cond.code Lib.Math.min.name Lib.Math.min.code 2 (some .int) ∈ zT) (hroom : (st.map zcat).sum ≤ 8)
    (kk : zWg x w n rf (pc + 3) L (vI (if b < a then b else a) :: st) im lv) : zWg x w n rf pc L (vI b :: vI a :: st) im lv := by
  obtain ⟨p, l, e, R, s, m, args, below, meth, c, Q, n0, nm⟩ := x
  obtain ⟨hx, hb, hml, hown, hts, hU, hsz, hfr, hlo, hce, hsl, hnn⟩ := hO
  obtain ⟨g0, g1, g2⟩ := hN
  intro h126 H locs ls hP hS hl
  have hm3 := zsl_mono g2
  exact va_mmin hx hb hl.1.symm hown (hts _ h1) (hts _ h2) (hts _ h3) (hts _ h4) (by omega) (by rw [zcat_sum]; omega) (by omega) (by omega) hd (kk h126 H locs ls hP hS hl)
theorem zi_abs {a : Int32} {idx : Nat} (hO : zOK x w Y dd) (hN : zN x n n) (hdd : 1 ≤ dd) (hd : decode Y.2.1 pc = .ok (.invokestatic idx, 3)) (h1 : Cond.methodLink Y.1.cls idx Lib.Math.abs.name ∈ zT) (h2 : Cond.static Lib.Math.abs.name ∈ zT) (h3 : Cond.initialized "java/lang/Math" ∈ zT) (h4 : Cond.code Lib.Math.abs.name Lib.Math.abs.code 1 (some .int) ∈ zT) (hroom : (st.map zcat).sum ≤ 8)
    (kk : zWg x w n rf (pc + 3) L (vI (if 0 ≤ a then a else 0 - a) :: st) im lv) : zWg x w n rf pc L (vI a :: st) im lv := by
  obtain ⟨p, l, e, R, s, m, args, below, meth, c, Q, n0, nm⟩ := x
  obtain ⟨hx, hb, hml, hown, hts, hU, hsz, hfr, hlo, hce, hsl, hnn⟩ := hO
  obtain ⟨g0, g1, g2⟩ := hN
  intro h126 H locs ls hP hS hl
  have hm3 := zsl_mono g2
  exact va_mabs hx hb hl.1.symm hown (hts _ h1) (hts _ h2) (hts _ h3) (hts _ h4) (by omega) (by rw [zcat_sum]; omega) (by omega) (by omega) hd (kk h126 H locs ls hP hS hl)
theorem zi_copy {r i N z r' i' N' z' idx : Nat} {sp dp k : Int32} (hO : zOK x w Y dd) (hdd : 1 ≤ dd) (hd : decode Y.2.1 pc = .ok (.invokestatic idx, 3)) (h1 : Cond.methodLink Y.1.cls idx arraycopyName ∈ zT) (h2 : Cond.native arraycopyName ∈ zT) (h3 : Cond.static arraycopyName ∈ zT) (h4 : Cond.initialized "java/lang/System" ∈ zT)
    (hk : zkd r = (1, N, z)) (hi : zin n r i) (hk' : zkd r' = (1, N', z')) (hi' : zin n r' i') (g1 : ¬ sp < 0) (g2 : ¬ dp < 0) (g3 : ¬ k < 0) (g4 : sp.toNatClampNeg + k.toNatClampNeg ≤ N) (g5 : dp.toNatClampNeg + k.toNatClampNeg ≤ N') (hroom : (st.map zcat).sum ≤ 8)
    (kk : zWg x w n rf (pc + 3) L st (zset im r' i' (va_cpy (im r i) (im r' i') sp.toNatClampNeg dp.toNatClampNeg k.toNatClampNeg)) lv) : zWg x w n rf pc L (vI k :: vI dp :: vR r' i' :: vI sp :: vR r i :: st) im lv := by
  obtain ⟨p, l, e, R, s, m, args, below, meth, c, Q, n0, nm⟩ := x
  obtain ⟨hx, hb, hml, hown, hts, hU, hsz, hfr, hlo, hce, hsl, hnn⟩ := hO
  intro h126 H locs ls hP hS hl
  have hnw : nativeFrameWords "java/lang/System" "arraycopy" 5 + 11 ≤ 30 := by decide +kernel
  refine va_copyi (D := w.2.1) hx hb hl.1.symm hown (hts _ h1) (hts _ h2) (hts _ h3) (hts _ h4) hU.1 hP zD hS (zad r i) (zad r' i') 0 0 (by rw [zws_at hi, zE_arr hk]) (by rw [zws_at hi', zE_arr hk']) rfl rfl rfl g1 g2 g3 g4 g5 (fun _ _ => rfl) (by omega) (by rw [zcat_sum]; omega) hd (fun H1 locs1 hP1 hD1 hS1 => ?_)
  have h2 : (Sum.inl (w.2.2.1, N', .inl (va_cpy (im r i) (im r' i') sp.toNatClampNeg dp.toNatClampNeg k.toNatClampNeg)) : va_E) = zE w rf (zset im r' i' (va_cpy (im r i) (im r' i') sp.toNatClampNeg dp.toNatClampNeg k.toNatClampNeg)) lv r' i' := by rw [zE_arr hk', zset_eq]
  rw [h2, zws_set h126 hi'] at hP1
  exact kk h126 H1 locs1 ls hP1 hS1 hl
/-! making -/
theorem zws_succ : zws w (n + 1) rf im lv = zws w n rf im lv ++ [(w.1 + n, zE w rf im lv (zkey n).1 (zkey n).2)] := by
  unfold zws
  rw [List.range_succ, List.map_append]
  rfl
theorem zPush {H H1 : Heap} (hP : va_P w.2.1 vwCl (zws w n rf im lv) H) (hs : H.size = w.1 + n) (o1 : ∀ q, q < w.1 + n → H1[q]? = H[q]?) (hc : va_at w.2.1 vwCl (w.1 + n, zE w rf im lv (zkey n).1 (zkey n).2) H1) : va_P w.2.1 vwCl (zws w (n + 1) rf im lv) H1 := by
  rw [zws_succ]
  refine (hP.kept (fun k q hq => o1 q.1 ?_)).app (fun k q hq => ?_)
  · have := (hP k q hq).lt
    omega
  · have hz : k < 1 := (List.getElem?_eq_some_iff.mp hq).1
    rw [show k = 0 by omega] at hq
    cases hq
    exact hc
theorem zS_push {s : State} {H H1 : Heap} {locs : List Loc} (hS : va_S (fun q => w.1 ≤ q) s.heap H locs) (hs : H.size = w.1 + n) (z1 : H1.size = w.1 + n + 1) (o1 : ∀ q, q < w.1 + n → H1[q]? = H[q]?) : va_S (fun q => w.1 ≤ q) s.heap H1 locs :=
  ⟨by have := hS.1; omega, fun q h1 h2 => (o1 q (by have := hS.1; omega)).trans (hS.2.1 q h1 h2), hS.2.2⟩
theorem zi_new {idx ci r i N : Nat} {C : String} {T : u_T} (hO : zOK x w Y dd) (hNN : zN x n (n + 1)) (h127 : n + 1 ≤ 126) (hd : decode Y.2.1 pc = .ok (.new idx, 3)) (hcl : Cond.classLink Y.1.cls idx C ∈ zT) (hc : vwCl[ci]? = some (C, T, N)) (hky : zkey n = (r, i)) (hk : zkd r = (0, ci, N)) (h0 : im r i = fun _ => 0) (hr : rf r i = fun _ => none) (hlv : lv = 0) (hfk : ∀ j, j < N → defaultValue (zty ci j) = (if zfk ci j = 0 then .int 0 else if zfk ci j = 1 then .null else .long 0))
    (kk : zWg x w (n + 1) rf (pc + 3) L (vR r i :: st) im lv) : zWg x w n rf pc L st im lv := by
  obtain ⟨p, l, e, R, s, m, args, below, meth, c, Q, n0, nm⟩ := x
  obtain ⟨hx, hb, hml, hown, hts, hU, hsz, hfr, hlo, hce, hsl, hnn⟩ := hO
  obtain ⟨g0, g1, g2⟩ := hNN
  intro h126 H locs ls hP hS hl
  refine W_size (fun hup => ?_)
  have hge := zH_ge hP (n0 := n0) (by have := hS.1; omega) g0
  have hsH : H.size = w.1 + n := by omega
  have hm1 := zsl_mono g0
  have hm3 := zsl_mono g2
  have hzs : zsl (n + 1) = zsl n + N := by
    show zsl n + zsz (zkey n).1 = _
    rw [hky]
    unfold zsz
    rw [hk]
    rfl
  have hz := zcl hc
  have hKn := hU.1.1 ci _ hc
  have hsd : (w.1 + n) = w.1 + zad r i := by
    have := zkey_inj (by omega : n < 126) hky
    omega
  refine W.newcK hx hb hown (hts _ hcl) (hts _ hz.2.2.2.2.1) (hts _ hz.2.2.2.2.2) rfl hd (by omega) (by omega) hKn.2.1 hsH fun H1 kC hkC e1 z1 o1 => ?_
  have hat : va_at w.2.1 vwCl (w.1 + n, zE w rf im lv (zkey n).1 (zkey n).2) H1 := by
    rw [hky]
    dsimp only
    rw [zE_obj hk]
    refine ⟨_, hc, (u_born (zty ci) hts hz.2.1 hKn hkC e1 hz.2.2.2.1).to (fun j hj => ?_)⟩
    rw [hfk j hj]
    have hj2 : j < N := hj
    unfold vp_V
    rw [List.getD_eq_getElem?_getD, List.getElem?_map, List.getElem?_range hj2]
    simp only [Option.map_some, Option.getD_some]
    unfold zfv
    rw [h0, hr, hlv]
    rfl
  have h5 := kk h127 H1 locs ls (zPush hP hsH o1 hat) (zS_push hS hsH z1 o1) hl
  have e6 : n + 1 - n0 = n - n0 + 1 := by omega
  have e7 : zsl (n + 1) - zsl n0 = zsl n - zsl n0 + N := by omega
  rw [e6, e7] at h5
  simp only [List.map_cons, zcv, ← hsd] at h5
  exact h5
theorem zi_newarr {r i N z : Nat} {a : Int32} (hO : zOK x w Y dd) (hNN : zN x n (n + 1)) (h127 : n + 1 ≤ 126) (hd : decode Y.2.1 pc = .ok (.newarray .int, 2)) (hw : Cond.arrayClass .int ∈ zT) (hky : zkey n = (r, i)) (hk : zkd r = (1, N, z)) (h0 : im r i = fun _ => 0) (ha : ¬ a < 0) (haN : a.toNatClampNeg = N) (hN : N ≤ 4000)
    (kk : zWg x w (n + 1) rf (pc + 2) L (vR r i :: st) im lv) : zWg x w n rf pc L (vI a :: st) im lv := by
  obtain ⟨p, l, e, R, s, m, args, below, meth, c, Q, n0, nm⟩ := x
  obtain ⟨hx, hb, hml, hown, hts, hU, hsz, hfr, hlo, hce, hsl, hnn⟩ := hO
  obtain ⟨g0, g1, g2⟩ := hNN
  intro h126 H locs ls hP hS hl
  refine W_size (fun hup => ?_)
  have hge := zH_ge hP (n0 := n0) (by have := hS.1; omega) g0
  have hsH : H.size = w.1 + n := by omega
  have hm1 := zsl_mono g0
  have hm3 := zsl_mono g2
  have hzs : zsl (n + 1) = zsl n + N := by
    show zsl n + zsz (zkey n).1 = _
    rw [hky]
    unfold zsz
    rw [hk]
    rfl
  have hsd : (w.1 + n) = w.1 + zad r i := by
    have := zkey_inj (by omega : n < 126) hky
    omega
  refine va_newaK hx hb (atype := .int) (hts _ hw) rfl hd rfl ha haN (by show N * 4 ≤ _; omega) (by omega) (by omega) hsH fun H1 cA e1 z1 o1 hAr hNm => ?_
  have hcA : cA = w.2.2.1 := Option.some.inj (hNm.symm.trans (hU.1.2 0 _ rfl).2)
  have hat : va_at w.2.1 vwCl (w.1 + n, zE w rf im lv (zkey n).1 (zkey n).2) H1 := by
    rw [hky]
    dsimp only
    rw [zE_arr hk]
    show H1[w.1 + n]? = some (vp_cell _ _)
    rw [e1, hcA, h0]
    rfl
  have h5 := kk h127 H1 locs ls (zPush hP hsH o1 hat) (zS_push hS hsH z1 o1) hl
  have e6 : n + 1 - n0 = n - n0 + 1 := by omega
  have e7 : zsl (n + 1) - zsl n0 = zsl n - zsl n0 + N := by omega
  rw [e6, e7] at h5
  simp only [List.map_cons, zcv, ← hsd] at h5
  exact h5
end ZJ
end
section
section ZK
variable {x : zX} {w : zWd} {n : Nat} {rf : zRef} {pc : Nat} {L L' : List (Nat × zV)} {st : List zV} {im : zMem} {lv : Int64} {Y : zY} {dd : Nat} {post : zV → zRef → zMem → Int64 → Prop}
def zsetR (rf : zRef) (r i : Nat) (f : Nat → Option (Nat × Nat)) : zRef := fun r' => if r' = r then fun i' => if i' = i then f else rf r i' else rf r'
def zupR (f : Nat → Option (Nat × Nat)) (k : Nat) (v : Option (Nat × Nat)) : Nat → Option (Nat × Nat) := fun j => if j = k then v else f j
theorem zsetR_eq {r i : Nat} {f : Nat → Option (Nat × Nat)} : zsetR rf r i f r i = f := by simp [zsetR]
theorem zsetR_ne {r i r' i' : Nat} {f : Nat → Option (Nat × Nat)} (h : ¬ (r' = r ∧ i' = i)) : zsetR rf r i f r' i' = rf r' i' := by
  unfold zsetR
  by_cases h1 : r' = r
  · subst h1
    by_cases h2 : i' = i
    · exact absurd ⟨rfl, h2⟩ h
    · simp [h2]
  · simp [h1]
theorem zE_rf {rf' : zRef} {r i : Nat} (h : rf r i = rf' r i) : zE w rf im lv r i = zE w rf' im lv r i := by
  have hf : zfv w.1 rf im lv (zkd r).2.1 r i = zfv w.1 rf' im lv (zkd r).2.1 r i := by
    funext j
    unfold zfv
    rw [h]
  have hg : zrefs w.1 rf r i = zrefs w.1 rf' r i := by
    funext j
    unfold zrefs
    rw [h]
  unfold zE
  rw [hf, hg]
theorem zws_setR {r i : Nat} {f : Nat → Option (Nat × Nat)} (hn : n ≤ 126) (h : zin n r i) :
    (zws w n rf im lv).set (zad r i) (w.1 + zad r i, zE w (zsetR rf r i f) im lv r i) = zws w n (zsetR rf r i f) im lv := by
  apply List.ext_getElem?
  intro k
  by_cases hk : k = zad r i
  · subst hk
    rw [zws_at h, List.getElem?_set_self (by simp [zws]; exact h.2)]
  · rw [List.getElem?_set_ne (fun q => hk q.symm)]
    unfold zws
    rw [List.getElem?_map, List.getElem?_map]
    by_cases hl : k < n
    · rw [List.getElem?_range hl]
      simp only [Option.map_some]
      rw [zE_rf (rf' := zsetR rf r i f)]
      rw [zsetR_ne]
      intro q
      exact hk (zkey_inj (by omega) (Prod.ext q.1 q.2))
    · rw [List.getElem?_eq_none (by simp; omega)]
      rfl
def zisR : FieldType → Bool
  | .object _ => true
  | .array _ => true
  | _ => false
theorem zty1 : ∀ ci, ci < 13 → ∀ j, j < 42 → zfk ci j = 1 → zisR (zty ci j) = true := by decide +kernel
theorem zisR_n {ty : FieldType} {a : Nat} (h : zisR ty = true) : narrow ty (.ref a) = .ref a ∧ fits ty (.ref a) = true := by
  cases ty <;> first | exact ⟨rfl, rfl⟩ | cases h
theorem zfk_ref {ci k : Nat} {C : String} {T : u_T} {N : Nat} (hc : vwCl[ci]? = some (C, T, N)) (hk : k < N) (h0 : zfk ci k = 1) : zisR (zty ci k) = true := by
  have hci : ci < 13 := (List.getElem?_eq_some_iff.mp hc).1
  have h1 := zfkN ci hci
  rw [hc] at h1
  have h2 : N = (zFk.getD ci []).length := Option.some.inj h1.1
  exact zty1 ci hci k (by omega) h0
theorem zE_putR {r i ci N k r' i' : Nat} (hk : zkd r = (0, ci, N)) (h0 : zfk ci k = 1) : (Sum.inr (ci, ((List.range N).map (zfv w.1 rf im lv ci r i)).set k (zcv w.1 (vR r' i'))) : va_E) = zE w (zsetR rf r i (zupR (rf r i) k (some (r', i')))) im lv r i := by
  rw [zE_obj hk]
  congr 2
  apply List.ext_getElem?
  intro j
  by_cases hj : j = k
  · subst hj
    by_cases hN : j < N
    · rw [List.getElem?_set_self (by simpa using hN), List.getElem?_map, List.getElem?_range hN]
      simp [zfv, h0, zsetR_eq, zupR]
    · rw [List.getElem?_eq_none (by simp; omega), List.getElem?_eq_none (by simp; omega)]
  · rw [List.getElem?_set_ne (fun q => hj q.symm), List.getElem?_map, List.getElem?_map]
    by_cases hN : j < N
    · rw [List.getElem?_range hN]
      simp only [Option.map_some]
      congr 1
      unfold zfv
      rw [zsetR_eq]
      simp [zupR, hj]
    · rw [List.getElem?_eq_none (by simp; omega)]
      rfl
theorem zi_putR {idx ci k r i N r' i' nm' : Nat} (hO : zOK x w Y dd) (hR : zRet x w Y nm' post) (hin : Y.1.name = "<init>") (hd : decode Y.2.1 pc = .ok (.putfield idx, 3)) (hf : zFldW true Y.1.cls idx ci k) (hk : zkd r = (0, ci, N)) (h0 : zfk ci k = 1) (hi : zin n r i) (kk : zWg x w n (zsetR rf r i (zupR (rf r i) k (some (r', i')))) (pc + 3) L st im lv) : zWg x w n rf pc L (vR r' i' :: vR r i :: st) im lv := by
  obtain ⟨p, l, e, R, s, m, args, below, meth, c, Q, n0, nm⟩ := x
  obtain ⟨hx, hb, hml, hown, hts, ⟨hK, -⟩, -⟩ := hO
  obtain ⟨-, -, -, hmn⟩ := hR
  obtain ⟨C, T, N', hc, hkN, hlk, hfin, hdecl⟩ := hf
  have hN := zkN' (zcnt_lt hi.1) hk hc
  subst hN
  intro h126 H locs ls hP hS hl
  have hty := zisR_n (a := w.1 + zad r' i') (zfk_ref hc hkN h0)
  refine va_putF (D := w.2.1) (v := zcv w.1 (vR r' i')) (Ts := zT) hx hb hts (zcl hc).2.1 (zty ci) (zcl hc).2.2.2.1 (zcl hc).2.2.1 hown hK hP zD hS (zad r i) (by rw [zws_at hi, zE_obj hk]) hc k hkN (hts _ hlk) (fun _ h => h) hfin (hmn.trans hin) (hdecl rfl) ((zcl hc).2.2.2.1 k hkN) hty.1 hty.2 (by simpa using hkN) hd (fun H1 locs1 hP1 hD1 hS1 => ?_)
  rw [zE_putR hk h0, zws_setR h126 hi] at hP1
  exact kk h126 H1 locs1 ls hP1 hS1 hl
theorem zi_aast {r i N z t r' i' ci N2 : Nat} {a : Int32} (hO : zOK x w Y dd) (hd : decode Y.2.1 pc = .ok (.aastore, 1)) (hk : zkd r = (t + 2, N, z)) (hi : zin n r i) (ha : vp_in a N) (hk' : zkd r' = (0, ci, N2)) (hi' : zin n r' i') (hci : ci = if t = 0 then 7 else 2) (kk : zWg x w n (zsetR rf r i (zupR (rf r i) a.toNatClampNeg (some (r', i')))) (pc + 1) L st im lv) : zWg x w n rf pc L (vR r' i' :: vI a :: vR r i :: st) im lv := by
  obtain ⟨p, l, e, R, s, m, args, below, meth, c, Q, n0, nm⟩ := x
  obtain ⟨hx, hb, hml, hown, hts, ⟨hK, -⟩, -⟩ := hO
  intro h126 H locs ls hP hS hl
  have hup : va_up (zrefs w.1 rf r i) a.toNatClampNeg (some (w.1 + zad r' i')) = zrefs w.1 (zsetR rf r i (zupR (rf r i) a.toNatClampNeg (some (r', i')))) r i := by
    funext j
    unfold va_up zrefs
    rw [zsetR_eq]
    unfold zupR
    by_cases hj : j = a.toNatClampNeg
    · simp [hj]
    · simp [hj]
  have hE : ∀ H1, va_P w.2.1 vwCl ((zws w n rf im lv).set (zad r i) (w.1 + zad r i, .inl (if t = 0 then w.2.2.2.1 else w.2.2.2.2, N, .inr (.inr (.inr (.inr (va_up (zrefs w.1 rf r i) a.toNatClampNeg (some (w.1 + zad r' i'))))))))) H1 → va_P w.2.1 vwCl (zws w n (zsetR rf r i (zupR (rf r i) a.toNatClampNeg (some (r', i')))) im lv) H1 := by
    intro H1 h
    rw [hup, ← zE_ra (im := im) (lv := lv) hk, zws_setR h126 hi] at h
    exact h
  by_cases ht : t = 0
  · rw [if_pos ht] at hci
    subst hci
    exact va_astq (D := w.2.1) hx hb hK hP zD hS (zad r i) 1 (zad r' i') 7 (r := (RX7, TX7, 3)) (by rw [zws_at hi, zE_ra hk, if_pos ht]) rfl (by rw [zws_at hi', zE_obj hk']) rfl ha hd (fun H1 locs1 hP1 _ hS1 => kk h126 H1 locs1 ls (hE H1 (by rw [if_pos ht]; exact hP1)) hS1 hl)
  · rw [if_neg ht] at hci
    subst hci
    exact va_astq (D := w.2.1) hx hb hK hP zD hS (zad r i) 2 (zad r' i') 2 (r := (RX2, TX2, 10)) (by rw [zws_at hi, zE_ra hk, if_neg ht]) rfl (by rw [zws_at hi', zE_obj hk']) rfl ha hd (fun H1 locs1 hP1 _ hS1 => kk h126 H1 locs1 ls (hE H1 (by rw [if_neg ht]; exact hP1)) hS1 hl)
theorem zi_anew {idx r i N z t : Nat} {a : Int32} {C : String} (hO : zOK x w Y dd) (hNN : zN x n (n + 1)) (h127 : n + 1 ≤ 126) (hd : decode Y.2.1 pc = .ok (.anewarray idx, 3)) (hcl : Cond.classLink Y.1.cls idx C ∈ zT) (hC : (t = 0 ∧ C = "RoomsOfAir$Sheet") ∨ (t = 1 ∧ C = "RoomsOfAir$Flight")) (hky : zkey n = (r, i)) (hk : zkd r = (t + 2, N, z)) (hr : rf r i = fun _ => none) (ha : ¬ a < 0) (haN : a.toNatClampNeg = N) (hN : N ≤ 4000)
    (kk : zWg x w (n + 1) rf (pc + 3) L (vR r i :: st) im lv) : zWg x w n rf pc L (vI a :: st) im lv := by
  obtain ⟨p, l, e, R, s, m, args, below, meth, c, Q, n0, nm⟩ := x
  obtain ⟨hx, hb, hml, hown, hts, hU, hsz, hfr, hlo, hce, hsl, hnn⟩ := hO
  obtain ⟨g0, g1, g2⟩ := hNN
  intro h126 H locs ls hP hS hl
  refine W_size (fun hup => ?_)
  have hge := zH_ge hP (n0 := n0) (by have := hS.1; omega) g0
  have hsH : H.size = w.1 + n := by omega
  have hm1 := zsl_mono g0
  have hm3 := zsl_mono g2
  have hzs : zsl (n + 1) = zsl n + N := by
    show zsl n + zsz (zkey n).1 = _
    rw [hky]
    unfold zsz
    rw [hk]
    dsimp only
    rw [if_neg (by omega)]
  have hsd : (w.1 + n) = w.1 + zad r i := by
    have := zkey_inj (by omega : n < 126) hky
    omega
  have hov : va_AO C s := by
    rcases hC with ⟨-, rfl⟩ | ⟨-, rfl⟩
    · exact hU.2.2.1
    · exact hU.2.2.2
  refine W.anew hx hb hown (hts _ hcl) (va_AO.use hov) rfl hd rfl ha (by rw [haN]; omega) (by omega) (by rw [haN]; omega) fun cA kA comp f1 f2 f3 f4 => ?_
  have hcA : cA = if t = 0 then w.2.2.2.1 else w.2.2.2.2 := by
    rcases hC with ⟨rfl, rfl⟩ | ⟨rfl, rfl⟩
    · obtain ⟨_, _, _, _, _, h9⟩ := (hU.1.2 1 _ rfl).2
      exact Option.some.inj (f1.symm.trans h9)
    · obtain ⟨_, _, _, _, _, h9⟩ := (hU.1.2 2 _ rfl).2
      exact Option.some.inj (f1.symm.trans h9)
  generalize hH1 : H.push ({ cls := cA, slots := Array.replicate a.toNatClampNeg .null, vm := .none } : Cell) = H1
  have z1 : H1.size = w.1 + n + 1 := by rw [← hH1, Array.size_push, hsH]
  have e1 : H1[w.1 + n]? = some (arrV cA a.toNatClampNeg (fun _ => .null)) := by rw [← hH1, ← hsH, Array.getElem?_push_size, ← arrV_new]
  have o1 : ∀ q : Nat, q < w.1 + n → H1[q]? = H[q]? := fun q hq => by rw [← hH1, Array.getElem?_push, if_neg (by omega)]
  have hat : va_at w.2.1 vwCl (w.1 + n, zE w rf im lv (zkey n).1 (zkey n).2) H1 := by
    rw [hky]
    dsimp only
    rw [zE_ra hk]
    show H1[w.1 + n]? = some (vp_cell _ _)
    rw [e1, hcA, haN, vp_cell_q]
    unfold zrefs
    rw [hr]
    rfl
  have h5 := kk h127 H1 locs ls (zPush hP hsH o1 hat) (zS_push hS hsH z1 o1) hl
  have e6 : n + 1 - n0 = n - n0 + 1 := by omega
  have e7 : zsl (n + 1) - zsl n0 = zsl n - zsl n0 + N := by omega
  rw [e6, e7] at h5
  simp only [List.map_cons, zcv, ← hsd] at h5
  rw [hsH, haN]
  exact h5
theorem zi_objInit {idx r i : Nat} (hO : zOK x w Y dd) (hdd : 1 ≤ dd) (hd : decode Y.2.1 pc = .ok (.invokespecial idx, 3)) (h1 : Cond.methodLink Y.1.cls idx objectInit ∈ zT) (h2 : Cond.instanceMethod objectInit ∈ zT) (h3 : Cond.code objectInit ⟨#[0xb1]⟩ 1 none ∈ zT) (hroom : (st.map zcat).sum ≤ 8) (kk : zWg x w n rf (pc + 3) L st im lv) : zWg x w n rf pc L (vR r i :: st) im lv := by
  obtain ⟨p, l, e, R, s, m, args, below, meth, c, Q, n0, nm⟩ := x
  obtain ⟨hx, hb, hml, hown, hts, hU, hsz, hfr, hlo, hce, hsl, hnn⟩ := hO
  intro h126 H locs ls hP hS hl
  exact W.objInit hx hb hown (hts _ h1) (hts _ h2) (hts _ h3) rfl hl.1 rfl hd (by omega) (by have h9 := lv_room (m := m) (pc := pc) (ls := ls) (rest := st.map (zcv w.1)) (st := st.map (zcv w.1)) (by rw [zcat_sum]; exact hroom); show 2 * 0 + _ + 12 ≤ _; rw [zcat_sum]; omega) (kk h126 H locs ls hP hS hl)
theorem zi_callI {Y' : zY} {d n2 idx k r i : Nat} {as : List zV} {st0 : List zV} (hO : zOK x w Y dd) (hNN : zN x n n2) (h126 : n2 ≤ 126) (hd : decode Y.2.1 pc = .ok (.invokespecial idx, 3)) (hk : zLkI Y.1.cls idx Y' k) (hdd : d + 1 ≤ dd) (hlen : as.length = k) (hroom : (st.map zcat).sum ≤ 8) (hst : st0 = as.reverse ++ vR r i :: st)
    (hM : zSpecg x.2.1 w d Y' n rf n2 (vR r i :: as) im lv post) (kk : ∀ (v : zV) (rf' : zRef) (im' : zMem) (lv' : Int64), post v rf' im' lv' → zWg x w n2 rf' (pc + 3) L st im' lv') : zWg x w n rf pc L st0 im lv := by
  obtain ⟨p, l, e, R, s, m, args, below, meth, c, Q, n0, nm⟩ := x
  obtain ⟨hx, hb, hml, hown, hts, hU, hsz, hfr, hlo, hce, hsl, hnn⟩ := hO
  obtain ⟨g0, g1, g2⟩ := hNN
  subst hst
  intro _ H locs ls hP hS hl
  refine W_size (fun hup => ?_)
  have hge := zH_ge hP (n0 := n0) (by have := hS.1; omega) g0
  have hsH : H.size = w.1 + n := by omega
  have hm1 := zsl_mono g0
  have hm2 := zsl_mono g1
  have hm3 := zsl_mono g2
  obtain ⟨y', c', l', r'⟩ := Y'
  obtain ⟨hk0, hk1, hk2, hk3⟩ := hk
  dsimp only at hk3
  subst hk3
  have hcb := zcallB (n := n) (n2 := n2) (R := R) hts hk0 (by omega : d + 1 ≤ R.frames) (by omega : 40 * (d + 1) ≤ R.locals)
  refine zcallC (va_runI (n := k) (b := w.1 + zad r i) (As := as.map (zcv w.1)) (rest := st.map (zcv w.1)) (nL := Y.2.2.1) (Ts := zT) ⟨hx, hb, hml, hown, hts⟩ hM ⟨hcb, hk2, hts _ hk1⟩
      ⟨zblind, fun U hUH hW => ⟨rfl, by rw [hUH]; exact hsH, by rw [hUH]; exact hP, zUp_moved hU hW⟩⟩ rfl (by simpa using hlen) (by rw [← hml]; exact hl.1) (by simp [zcv]) (lv_room (by rw [zcat_sum]; exact hroom)) hd ⟨by omega, by omega⟩) hS hl g0 g1 h126 kk
theorem zi_callIN {Y' : zY} {d n2 idx k r i : Nat} {as : List zV} {st0 : List zV} (hO : zOK x w Y dd) (hNN : zN x n n2) (h126 : n2 ≤ 126) (hd : decode Y.2.1 pc = .ok (.invokespecial idx, 3)) (hk : zLkN Y.1.cls idx Y' k) (hki : Cond.instanceMethod Y'.1 ∈ zT) (hkn : Y'.1.name = "<init>") (hk3 : Y'.2.2.2 = none) (hdd : d + 1 ≤ dd) (hlen : as.length = k) (hroom : (st.map zcat).sum ≤ 8) (hst : st0 = as.reverse ++ vR r i :: st)
    (hM : zSpecg x.2.1 w d Y' n rf n2 (vR r i :: as) im lv post) (kk : ∀ (v : zV) (rf' : zRef) (im' : zMem) (lv' : Int64), post v rf' im' lv' → zWg x w n2 rf' (pc + 3) L st im' lv') : zWg x w n rf pc L st0 im lv := by
  obtain ⟨p, l, e, R, s, m, args, below, meth, c, Q, n0, nm⟩ := x
  obtain ⟨hx, hb, hml, hown, hts, hU, hsz, hfr, hlo, hce, hsl, hnn⟩ := hO
  obtain ⟨g0, g1, g2⟩ := hNN
  subst hst
  intro _ H locs ls hP hS hl
  refine W_size (fun hup => ?_)
  have hge := zH_ge hP (n0 := n0) (by have := hS.1; omega) g0
  have hsH : H.size = w.1 + n := by omega
  have hm1 := zsl_mono g0
  have hm2 := zsl_mono g1
  have hm3 := zsl_mono g2
  obtain ⟨y', c', l', r'⟩ := Y'
  dsimp only at hk3
  subst hk3
  obtain ⟨k1, k2, k3, k4, k5⟩ := hk
  have hcn := va_cnB (R := R) (rm := zroom d n n2) (mc := n2 - n) (ms := zsl n2 - zsl n) k hts (zT_good k3) rfl rfl rfl (hU.2.1 _ k1) (hts _ k2) k4 ⟨by show d + 1 ≤ _; omega, by show 8 + (l' + 11) + 40 * d ≤ R.locals; dsimp only at k5; omega⟩
  refine zcallC (va_runIN (n := k) (b := w.1 + zad r i) (As := as.map (zcv w.1)) (rest := st.map (zcv w.1)) (nL := Y.2.2.1) (Ts := zT) ⟨hx, hb, hml, hown, hts⟩ hM ⟨hcn, hkn, hts _ hki⟩
      ⟨zblind, fun U hUH hW => ⟨rfl, by rw [hUH]; exact hsH, by rw [hUH]; exact hP, zUp_moved hU hW⟩⟩ rfl (by simpa using hlen) (by rw [← hml]; exact hl.1) (by simp [zcv]) (lv_room (by rw [zcat_sum]; exact hroom)) hd ⟨by omega, by omega⟩) hS hl g0 g1 h126 kk
end ZK
end
