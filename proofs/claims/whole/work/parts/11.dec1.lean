theorem dX9_init_47 : decode cX9_init 47 = .ok (.aload_n 0, 1) := by decide +kernel
theorem dX9_init_48 : decode cX9_init 48 = .ok (.aload_n 2, 1) := by decide +kernel
theorem dX9_init_49 : decode cX9_init 49 = .ok (.putfield 32, 3) := by decide +kernel
theorem dX9_init_52 : decode cX9_init 52 = .ok (.return_, 1) := by decide +kernel
theorem dX9_makePlan_0 : decode cX9_makePlan 0 = .ok (.aload_n 0, 1) := by decide +kernel
theorem dX9_makePlan_1 : decode cX9_makePlan 1 = .ok (.getfield 15, 3) := by decide +kernel
theorem dX9_makePlan_4 : decode cX9_makePlan 4 = .ok (.iconst 0, 1) := by decide +kernel
theorem dX9_makePlan_5 : decode cX9_makePlan 5 = .ok (.invokestatic 36, 3) := by decide +kernel
theorem dX9_makePlan_8 : decode cX9_makePlan 8 = .ok (.bipush 47, 2) := by decide +kernel
theorem dX9_makePlan_10 : decode cX9_makePlan 10 = .ok (.istore_n 1, 1) := by decide +kernel
theorem dX9_makePlan_11 : decode cX9_makePlan 11 = .ok (.iload_n 1, 1) := by decide +kernel
theorem dX9_makePlan_12 : decode cX9_makePlan 12 = .ok (.ifCond .lt 36, 3) := by decide +kernel
theorem dX9_makePlan_15 : decode cX9_makePlan 15 = .ok (.aload_n 0, 1) := by decide +kernel
theorem dX9_makePlan_16 : decode cX9_makePlan 16 = .ok (.iload_n 1, 1) := by decide +kernel
theorem dX9_makePlan_17 : decode cX9_makePlan 17 = .ok (.invokevirtual 42, 3) := by decide +kernel
theorem dX9_makePlan_20 : decode cX9_makePlan 20 = .ok (.aload_n 0, 1) := by decide +kernel
theorem dX9_makePlan_21 : decode cX9_makePlan 21 = .ok (.getfield 11, 3) := by decide +kernel
theorem dX9_makePlan_24 : decode cX9_makePlan 24 = .ok (.iload_n 1, 1) := by decide +kernel
theorem dX9_makePlan_25 : decode cX9_makePlan 25 = .ok (.bipush 64, 2) := by decide +kernel
theorem dX9_makePlan_27 : decode cX9_makePlan 27 = .ok (.imul, 1) := by decide +kernel
theorem dX9_makePlan_28 : decode cX9_makePlan 28 = .ok (.aload_n 0, 1) := by decide +kernel
theorem dX9_makePlan_29 : decode cX9_makePlan 29 = .ok (.getfield 15, 3) := by decide +kernel
theorem dX9_makePlan_32 : decode cX9_makePlan 32 = .ok (.iconst 0, 1) := by decide +kernel
theorem dX9_makePlan_33 : decode cX9_makePlan 33 = .ok (.bipush 64, 2) := by decide +kernel
theorem dX9_makePlan_35 : decode cX9_makePlan 35 = .ok (.invokestatic 46, 3) := by decide +kernel
theorem dX9_makePlan_38 : decode cX9_makePlan 38 = .ok (.aload_n 0, 1) := by decide +kernel
theorem dX9_makePlan_39 : decode cX9_makePlan 39 = .ok (.invokevirtual 52, 3) := by decide +kernel
theorem dX9_makePlan_42 : decode cX9_makePlan 42 = .ok (.iinc 1 (-1), 3) := by decide +kernel
theorem dX9_makePlan_45 : decode cX9_makePlan 45 = .ok (.goto (-34), 3) := by decide +kernel
theorem dX9_makePlan_48 : decode cX9_makePlan 48 = .ok (.aload_n 0, 1) := by decide +kernel
theorem dX9_makePlan_49 : decode cX9_makePlan 49 = .ok (.aload_n 0, 1) := by decide +kernel
theorem dX9_makePlan_50 : decode cX9_makePlan 50 = .ok (.getfield 15, 3) := by decide +kernel
theorem dX9_makePlan_53 : decode cX9_makePlan 53 = .ok (.iconst 0, 1) := by decide +kernel
theorem dX9_makePlan_54 : decode cX9_makePlan 54 = .ok (.iaload, 1) := by decide +kernel
theorem dX9_makePlan_55 : decode cX9_makePlan 55 = .ok (.putfield 24, 3) := by decide +kernel
theorem dX9_makePlan_58 : decode cX9_makePlan 58 = .ok (.iconst 0, 1) := by decide +kernel
theorem dX9_makePlan_59 : decode cX9_makePlan 59 = .ok (.istore_n 1, 1) := by decide +kernel
theorem dX9_makePlan_60 : decode cX9_makePlan 60 = .ok (.iconst 0, 1) := by decide +kernel
theorem dX9_makePlan_61 : decode cX9_makePlan 61 = .ok (.istore_n 2, 1) := by decide +kernel
theorem dX9_makePlan_62 : decode cX9_makePlan 62 = .ok (.iload_n 2, 1) := by decide +kernel
theorem dX9_makePlan_63 : decode cX9_makePlan 63 = .ok (.bipush 48, 2) := by decide +kernel
theorem dX9_makePlan_65 : decode cX9_makePlan 65 = .ok (.if_icmp .ge 23, 3) := by decide +kernel
theorem dX9_makePlan_68 : decode cX9_makePlan 68 = .ok (.aload_n 0, 1) := by decide +kernel
theorem dX9_makePlan_69 : decode cX9_makePlan 69 = .ok (.iload_n 1, 1) := by decide +kernel
theorem dX9_makePlan_70 : decode cX9_makePlan 70 = .ok (.iload_n 2, 1) := by decide +kernel
theorem dX9_makePlan_71 : decode cX9_makePlan 71 = .ok (.invokevirtual 55, 3) := by decide +kernel
theorem dX9_makePlan_74 : decode cX9_makePlan 74 = .ok (.istore_n 1, 1) := by decide +kernel
theorem dX9_makePlan_75 : decode cX9_makePlan 75 = .ok (.aload_n 0, 1) := by decide +kernel
theorem dX9_makePlan_76 : decode cX9_makePlan 76 = .ok (.getfield 21, 3) := by decide +kernel
theorem dX9_makePlan_79 : decode cX9_makePlan 79 = .ok (.iload_n 2, 1) := by decide +kernel
theorem dX9_makePlan_80 : decode cX9_makePlan 80 = .ok (.iload_n 1, 1) := by decide +kernel
theorem dX9_makePlan_81 : decode cX9_makePlan 81 = .ok (.iastore, 1) := by decide +kernel
theorem dX9_makePlan_82 : decode cX9_makePlan 82 = .ok (.iinc 2 1, 3) := by decide +kernel
theorem dX9_makePlan_85 : decode cX9_makePlan 85 = .ok (.goto (-23), 3) := by decide +kernel
theorem dX9_makePlan_88 : decode cX9_makePlan 88 = .ok (.return_, 1) := by decide +kernel
theorem dX9_weighSlot_0 : decode cX9_weighSlot 0 = .ok (.iconst 0, 1) := by decide +kernel
theorem dX9_weighSlot_1 : decode cX9_weighSlot 1 = .ok (.istore_n 2, 1) := by decide +kernel
theorem dX9_weighSlot_2 : decode cX9_weighSlot 2 = .ok (.iconst 0, 1) := by decide +kernel
theorem dX9_weighSlot_3 : decode cX9_weighSlot 3 = .ok (.istore_n 3, 1) := by decide +kernel
theorem dX9_weighSlot_4 : decode cX9_weighSlot 4 = .ok (.iload_n 3, 1) := by decide +kernel
theorem dX9_weighSlot_5 : decode cX9_weighSlot 5 = .ok (.bipush 8, 2) := by decide +kernel
theorem dX9_weighSlot_7 : decode cX9_weighSlot 7 = .ok (.if_icmp .ge 24, 3) := by decide +kernel
theorem dX9_weighSlot_10 : decode cX9_weighSlot 10 = .ok (.iload_n 2, 1) := by decide +kernel
theorem dX9_weighSlot_11 : decode cX9_weighSlot 11 = .ok (.aload_n 0, 1) := by decide +kernel
theorem dX9_weighSlot_12 : decode cX9_weighSlot 12 = .ok (.getfield 32, 3) := by decide +kernel
theorem dX9_weighSlot_15 : decode cX9_weighSlot 15 = .ok (.iload_n 3, 1) := by decide +kernel
theorem dX9_weighSlot_16 : decode cX9_weighSlot 16 = .ok (.iload_n 1, 1) := by decide +kernel
theorem dX9_weighSlot_17 : decode cX9_weighSlot 17 = .ok (.invokestatic 59, 3) := by decide +kernel
theorem dX9_weighSlot_20 : decode cX9_weighSlot 20 = .ok (.invokevirtual 62, 3) := by decide +kernel
theorem dX9_weighSlot_23 : decode cX9_weighSlot 23 = .ok (.iadd, 1) := by decide +kernel
theorem dX9_weighSlot_24 : decode cX9_weighSlot 24 = .ok (.istore_n 2, 1) := by decide +kernel
theorem dX9_weighSlot_25 : decode cX9_weighSlot 25 = .ok (.iinc 3 1, 3) := by decide +kernel
theorem dX9_weighSlot_28 : decode cX9_weighSlot 28 = .ok (.goto (-24), 3) := by decide +kernel
theorem dX9_weighSlot_31 : decode cX9_weighSlot 31 = .ok (.aload_n 0, 1) := by decide +kernel
theorem dX9_weighSlot_32 : decode cX9_weighSlot 32 = .ok (.iload_n 1, 1) := by decide +kernel
theorem dX9_weighSlot_33 : decode cX9_weighSlot 33 = .ok (.invokevirtual 68, 3) := by decide +kernel
theorem dX9_weighSlot_36 : decode cX9_weighSlot 36 = .ok (.iconst 0, 1) := by decide +kernel
theorem dX9_weighSlot_37 : decode cX9_weighSlot 37 = .ok (.istore_n 3, 1) := by decide +kernel
theorem dX9_weighSlot_38 : decode cX9_weighSlot 38 = .ok (.iload_n 3, 1) := by decide +kernel
theorem dX9_weighSlot_39 : decode cX9_weighSlot 39 = .ok (.bipush 64, 2) := by decide +kernel
theorem dX9_weighSlot_41 : decode cX9_weighSlot 41 = .ok (.if_icmp .ge 75, 3) := by decide +kernel
theorem dX9_weighSlot_44 : decode cX9_weighSlot 44 = .ok (.iload_n 3, 1) := by decide +kernel
theorem dX9_weighSlot_45 : decode cX9_weighSlot 45 = .ok (.invokestatic 71, 3) := by decide +kernel
theorem dX9_weighSlot_48 : decode cX9_weighSlot 48 = .ok (.aload_n 0, 1) := by decide +kernel
theorem dX9_weighSlot_49 : decode cX9_weighSlot 49 = .ok (.getfield 28, 3) := by decide +kernel
theorem dX9_weighSlot_52 : decode cX9_weighSlot 52 = .ok (.getfield 76, 3) := by decide +kernel
theorem dX9_weighSlot_55 : decode cX9_weighSlot 55 = .ok (.iload_n 1, 1) := by decide +kernel
theorem dX9_weighSlot_56 : decode cX9_weighSlot 56 = .ok (.iaload, 1) := by decide +kernel
theorem dX9_weighSlot_57 : decode cX9_weighSlot 57 = .ok (.if_icmp .gt 7, 3) := by decide +kernel
theorem dX9_weighSlot_60 : decode cX9_weighSlot 60 = .ok (.iconst 1, 1) := by decide +kernel
theorem dX9_weighSlot_61 : decode cX9_weighSlot 61 = .ok (.goto 4, 3) := by decide +kernel
theorem dX9_weighSlot_64 : decode cX9_weighSlot 64 = .ok (.iconst 0, 1) := by decide +kernel
theorem dX9_weighSlot_65 : decode cX9_weighSlot 65 = .ok (.istore 4, 2) := by decide +kernel
theorem dX9_weighSlot_67 : decode cX9_weighSlot 67 = .ok (.bipush 10, 2) := by decide +kernel
theorem dX9_weighSlot_69 : decode cX9_weighSlot 69 = .ok (.iload_n 2, 1) := by decide +kernel
theorem dX9_weighSlot_70 : decode cX9_weighSlot 70 = .ok (.aload_n 0, 1) := by decide +kernel
theorem dX9_weighSlot_71 : decode cX9_weighSlot 71 = .ok (.getfield 18, 3) := by decide +kernel
theorem dX9_weighSlot_74 : decode cX9_weighSlot 74 = .ok (.iload_n 3, 1) := by decide +kernel
theorem dX9_weighSlot_75 : decode cX9_weighSlot 75 = .ok (.iaload, 1) := by decide +kernel
theorem dX9_weighSlot_76 : decode cX9_weighSlot 76 = .ok (.isub, 1) := by decide +kernel
theorem dX9_weighSlot_77 : decode cX9_weighSlot 77 = .ok (.imul, 1) := by decide +kernel
theorem dX9_weighSlot_78 : decode cX9_weighSlot 78 = .ok (.aload_n 0, 1) := by decide +kernel
theorem dX9_weighSlot_79 : decode cX9_weighSlot 79 = .ok (.getfield 15, 3) := by decide +kernel
theorem dX9_weighSlot_82 : decode cX9_weighSlot 82 = .ok (.iload_n 3, 1) := by decide +kernel
theorem dX9_weighSlot_83 : decode cX9_weighSlot 83 = .ok (.iaload, 1) := by decide +kernel
theorem dX9_weighSlot_84 : decode cX9_weighSlot 84 = .ok (.iadd, 1) := by decide +kernel
theorem dX9_weighSlot_85 : decode cX9_weighSlot 85 = .ok (.istore 5, 2) := by decide +kernel
theorem dX9_weighSlot_87 : decode cX9_weighSlot 87 = .ok (.aload_n 0, 1) := by decide +kernel
theorem dX9_weighSlot_88 : decode cX9_weighSlot 88 = .ok (.getfield 11, 3) := by decide +kernel
theorem dX9_weighSlot_91 : decode cX9_weighSlot 91 = .ok (.iload_n 1, 1) := by decide +kernel
theorem dX9_weighSlot_92 : decode cX9_weighSlot 92 = .ok (.bipush 64, 2) := by decide +kernel
theorem dX9_weighSlot_94 : decode cX9_weighSlot 94 = .ok (.imul, 1) := by decide +kernel
theorem dX9_weighSlot_95 : decode cX9_weighSlot 95 = .ok (.iload_n 3, 1) := by decide +kernel
theorem dX9_weighSlot_96 : decode cX9_weighSlot 96 = .ok (.iadd, 1) := by decide +kernel
theorem dX9_weighSlot_97 : decode cX9_weighSlot 97 = .ok (.iload 4, 2) := by decide +kernel
theorem dX9_weighSlot_99 : decode cX9_weighSlot 99 = .ok (.ifCond .eq 8, 3) := by decide +kernel
theorem dX9_weighSlot_102 : decode cX9_weighSlot 102 = .ok (.iload 5, 2) := by decide +kernel
theorem dX9_weighSlot_104 : decode cX9_weighSlot 104 = .ok (.goto 5, 3) := by decide +kernel
theorem dX9_weighSlot_107 : decode cX9_weighSlot 107 = .ok (.ldc 81, 2) := by decide +kernel
theorem dX9_weighSlot_109 : decode cX9_weighSlot 109 = .ok (.iastore, 1) := by decide +kernel
theorem dX9_weighSlot_110 : decode cX9_weighSlot 110 = .ok (.iinc 3 1, 3) := by decide +kernel
theorem dX9_weighSlot_113 : decode cX9_weighSlot 113 = .ok (.goto (-75), 3) := by decide +kernel
theorem dX9_weighSlot_116 : decode cX9_weighSlot 116 = .ok (.return_, 1) := by decide +kernel
theorem dX9_fillRelieved_0 : decode cX9_fillRelieved 0 = .ok (.aload_n 0, 1) := by decide +kernel
theorem dX9_fillRelieved_1 : decode cX9_fillRelieved 1 = .ok (.getfield 18, 3) := by decide +kernel
theorem dX9_fillRelieved_4 : decode cX9_fillRelieved 4 = .ok (.iconst 0, 1) := by decide +kernel
theorem dX9_fillRelieved_5 : decode cX9_fillRelieved 5 = .ok (.iconst 0, 1) := by decide +kernel
theorem dX9_fillRelieved_6 : decode cX9_fillRelieved 6 = .ok (.iastore, 1) := by decide +kernel
theorem dX9_fillRelieved_7 : decode cX9_fillRelieved 7 = .ok (.iconst 0, 1) := by decide +kernel
theorem dX9_fillRelieved_8 : decode cX9_fillRelieved 8 = .ok (.istore_n 2, 1) := by decide +kernel
theorem dX9_fillRelieved_9 : decode cX9_fillRelieved 9 = .ok (.iload_n 2, 1) := by decide +kernel
theorem dX9_fillRelieved_10 : decode cX9_fillRelieved 10 = .ok (.bipush 6, 2) := by decide +kernel
theorem dX9_fillRelieved_12 : decode cX9_fillRelieved 12 = .ok (.if_icmp .ge 59, 3) := by decide +kernel
theorem dX9_fillRelieved_15 : decode cX9_fillRelieved 15 = .ok (.aload_n 0, 1) := by decide +kernel
theorem dX9_fillRelieved_16 : decode cX9_fillRelieved 16 = .ok (.iload_n 2, 1) := by decide +kernel
theorem dX9_fillRelieved_17 : decode cX9_fillRelieved 17 = .ok (.iload_n 1, 1) := by decide +kernel
theorem dX9_fillRelieved_18 : decode cX9_fillRelieved 18 = .ok (.invokestatic 59, 3) := by decide +kernel
theorem dX9_fillRelieved_21 : decode cX9_fillRelieved 21 = .ok (.invokevirtual 82, 3) := by decide +kernel
theorem dX9_fillRelieved_24 : decode cX9_fillRelieved 24 = .ok (.istore_n 3, 1) := by decide +kernel
theorem dX9_fillRelieved_25 : decode cX9_fillRelieved 25 = .ok (.iconst 1, 1) := by decide +kernel
theorem dX9_fillRelieved_26 : decode cX9_fillRelieved 26 = .ok (.iload_n 2, 1) := by decide +kernel
theorem dX9_fillRelieved_27 : decode cX9_fillRelieved 27 = .ok (.ishl, 1) := by decide +kernel
theorem dX9_fillRelieved_28 : decode cX9_fillRelieved 28 = .ok (.istore 4, 2) := by decide +kernel
theorem dX9_fillRelieved_30 : decode cX9_fillRelieved 30 = .ok (.iconst 0, 1) := by decide +kernel
theorem dX9_fillRelieved_31 : decode cX9_fillRelieved 31 = .ok (.istore 5, 2) := by decide +kernel
theorem dX9_fillRelieved_33 : decode cX9_fillRelieved 33 = .ok (.iload 5, 2) := by decide +kernel
theorem dX9_fillRelieved_35 : decode cX9_fillRelieved 35 = .ok (.iload 4, 2) := by decide +kernel
theorem dX9_fillRelieved_37 : decode cX9_fillRelieved 37 = .ok (.if_icmp .ge 28, 3) := by decide +kernel
theorem dX9_fillRelieved_40 : decode cX9_fillRelieved 40 = .ok (.aload_n 0, 1) := by decide +kernel
theorem dX9_fillRelieved_41 : decode cX9_fillRelieved 41 = .ok (.getfield 18, 3) := by decide +kernel
theorem dX9_fillRelieved_44 : decode cX9_fillRelieved 44 = .ok (.iload 4, 2) := by decide +kernel
theorem dX9_fillRelieved_46 : decode cX9_fillRelieved 46 = .ok (.iload 5, 2) := by decide +kernel
theorem dX9_fillRelieved_48 : decode cX9_fillRelieved 48 = .ok (.iadd, 1) := by decide +kernel
theorem dX9_fillRelieved_49 : decode cX9_fillRelieved 49 = .ok (.aload_n 0, 1) := by decide +kernel
theorem dX9_fillRelieved_50 : decode cX9_fillRelieved 50 = .ok (.getfield 18, 3) := by decide +kernel
theorem dX9_fillRelieved_53 : decode cX9_fillRelieved 53 = .ok (.iload 5, 2) := by decide +kernel
theorem dX9_fillRelieved_55 : decode cX9_fillRelieved 55 = .ok (.iaload, 1) := by decide +kernel
theorem dX9_fillRelieved_56 : decode cX9_fillRelieved 56 = .ok (.iload_n 3, 1) := by decide +kernel
theorem dX9_fillRelieved_57 : decode cX9_fillRelieved 57 = .ok (.iadd, 1) := by decide +kernel
theorem dX9_fillRelieved_58 : decode cX9_fillRelieved 58 = .ok (.iastore, 1) := by decide +kernel
theorem dX9_fillRelieved_59 : decode cX9_fillRelieved 59 = .ok (.iinc 5 1, 3) := by decide +kernel
theorem dX9_fillRelieved_62 : decode cX9_fillRelieved 62 = .ok (.goto (-29), 3) := by decide +kernel
theorem dX9_fillRelieved_65 : decode cX9_fillRelieved 65 = .ok (.iinc 2 1, 3) := by decide +kernel
theorem dX9_fillRelieved_68 : decode cX9_fillRelieved 68 = .ok (.goto (-59), 3) := by decide +kernel
theorem dX9_fillRelieved_71 : decode cX9_fillRelieved 71 = .ok (.return_, 1) := by decide +kernel
theorem dX9_reliefBySplit_0 : decode cX9_reliefBySplit 0 = .ok (.aload_n 0, 1) := by decide +kernel
theorem dX9_reliefBySplit_1 : decode cX9_reliefBySplit 1 = .ok (.getfield 32, 3) := by decide +kernel
theorem dX9_reliefBySplit_4 : decode cX9_reliefBySplit 4 = .ok (.getfield 85, 3) := by decide +kernel
theorem dX9_reliefBySplit_7 : decode cX9_reliefBySplit 7 = .ok (.iload_n 1, 1) := by decide +kernel
theorem dX9_reliefBySplit_8 : decode cX9_reliefBySplit 8 = .ok (.iaload, 1) := by decide +kernel
theorem dX9_reliefBySplit_9 : decode cX9_reliefBySplit 9 = .ok (.iconst 2, 1) := by decide +kernel
theorem dX9_reliefBySplit_10 : decode cX9_reliefBySplit 10 = .ok (.idiv, 1) := by decide +kernel
theorem dX9_reliefBySplit_11 : decode cX9_reliefBySplit 11 = .ok (.istore_n 2, 1) := by decide +kernel
theorem dX9_reliefBySplit_12 : decode cX9_reliefBySplit 12 = .ok (.aload_n 0, 1) := by decide +kernel
theorem dX9_reliefBySplit_13 : decode cX9_reliefBySplit 13 = .ok (.getfield 32, 3) := by decide +kernel
theorem dX9_reliefBySplit_16 : decode cX9_reliefBySplit 16 = .ok (.iload_n 1, 1) := by decide +kernel
theorem dX9_reliefBySplit_17 : decode cX9_reliefBySplit 17 = .ok (.invokevirtual 62, 3) := by decide +kernel
theorem dX9_reliefBySplit_20 : decode cX9_reliefBySplit 20 = .ok (.iload_n 2, 1) := by decide +kernel
theorem dX9_reliefBySplit_21 : decode cX9_reliefBySplit 21 = .ok (.invokestatic 88, 3) := by decide +kernel
theorem dX9_reliefBySplit_24 : decode cX9_reliefBySplit 24 = .ok (.ireturn, 1) := by decide +kernel
theorem dX9_addChangesAhead_0 : decode cX9_addChangesAhead 0 = .ok (.iconst 0, 1) := by decide +kernel
theorem dX9_addChangesAhead_1 : decode cX9_addChangesAhead 1 = .ok (.istore_n 1, 1) := by decide +kernel
theorem dX9_addChangesAhead_2 : decode cX9_addChangesAhead 2 = .ok (.iload_n 1, 1) := by decide +kernel
theorem dX9_addChangesAhead_3 : decode cX9_addChangesAhead 3 = .ok (.bipush 6, 2) := by decide +kernel
theorem dX9_addChangesAhead_5 : decode cX9_addChangesAhead 5 = .ok (.if_icmp .ge 83, 3) := by decide +kernel
theorem dX9_addChangesAhead_8 : decode cX9_addChangesAhead 8 = .ok (.iconst 1, 1) := by decide +kernel
theorem dX9_addChangesAhead_9 : decode cX9_addChangesAhead 9 = .ok (.iload_n 1, 1) := by decide +kernel
theorem dX9_addChangesAhead_10 : decode cX9_addChangesAhead 10 = .ok (.ishl, 1) := by decide +kernel
theorem dX9_addChangesAhead_11 : decode cX9_addChangesAhead 11 = .ok (.istore_n 2, 1) := by decide +kernel
theorem dX9_addChangesAhead_12 : decode cX9_addChangesAhead 12 = .ok (.iconst 0, 1) := by decide +kernel
theorem dX9_addChangesAhead_13 : decode cX9_addChangesAhead 13 = .ok (.istore_n 3, 1) := by decide +kernel
theorem dX9_addChangesAhead_14 : decode cX9_addChangesAhead 14 = .ok (.iload_n 3, 1) := by decide +kernel
theorem dX9_addChangesAhead_15 : decode cX9_addChangesAhead 15 = .ok (.bipush 64, 2) := by decide +kernel
theorem dX9_addChangesAhead_17 : decode cX9_addChangesAhead 17 = .ok (.if_icmp .ge 65, 3) := by decide +kernel
theorem dX9_addChangesAhead_20 : decode cX9_addChangesAhead 20 = .ok (.iload_n 3, 1) := by decide +kernel
theorem dX9_addChangesAhead_21 : decode cX9_addChangesAhead 21 = .ok (.iload_n 2, 1) := by decide +kernel
theorem dX9_addChangesAhead_22 : decode cX9_addChangesAhead 22 = .ok (.iand, 1) := by decide +kernel
theorem dX9_addChangesAhead_23 : decode cX9_addChangesAhead 23 = .ok (.ifCond .ne 53, 3) := by decide +kernel
theorem dX9_addChangesAhead_26 : decode cX9_addChangesAhead 26 = .ok (.aload_n 0, 1) := by decide +kernel
theorem dX9_addChangesAhead_27 : decode cX9_addChangesAhead 27 = .ok (.getfield 15, 3) := by decide +kernel
theorem dX9_addChangesAhead_30 : decode cX9_addChangesAhead 30 = .ok (.iload_n 3, 1) := by decide +kernel
theorem dX9_addChangesAhead_31 : decode cX9_addChangesAhead 31 = .ok (.iaload, 1) := by decide +kernel
theorem dX9_addChangesAhead_32 : decode cX9_addChangesAhead 32 = .ok (.istore 4, 2) := by decide +kernel
theorem dX9_addChangesAhead_34 : decode cX9_addChangesAhead 34 = .ok (.aload_n 0, 1) := by decide +kernel
theorem dX9_addChangesAhead_35 : decode cX9_addChangesAhead 35 = .ok (.getfield 15, 3) := by decide +kernel
theorem dX9_addChangesAhead_38 : decode cX9_addChangesAhead 38 = .ok (.iload_n 3, 1) := by decide +kernel
theorem dX9_addChangesAhead_39 : decode cX9_addChangesAhead 39 = .ok (.iload_n 2, 1) := by decide +kernel
theorem dX9_addChangesAhead_40 : decode cX9_addChangesAhead 40 = .ok (.iadd, 1) := by decide +kernel
theorem dX9_addChangesAhead_41 : decode cX9_addChangesAhead 41 = .ok (.iaload, 1) := by decide +kernel
theorem dX9_addChangesAhead_42 : decode cX9_addChangesAhead 42 = .ok (.istore 5, 2) := by decide +kernel
theorem dX9_addChangesAhead_44 : decode cX9_addChangesAhead 44 = .ok (.aload_n 0, 1) := by decide +kernel
theorem dX9_addChangesAhead_45 : decode cX9_addChangesAhead 45 = .ok (.getfield 15, 3) := by decide +kernel
theorem dX9_addChangesAhead_48 : decode cX9_addChangesAhead 48 = .ok (.iload_n 3, 1) := by decide +kernel
theorem dX9_addChangesAhead_49 : decode cX9_addChangesAhead 49 = .ok (.iload 4, 2) := by decide +kernel
theorem dX9_addChangesAhead_51 : decode cX9_addChangesAhead 51 = .ok (.iload 5, 2) := by decide +kernel
theorem dX9_addChangesAhead_53 : decode cX9_addChangesAhead 53 = .ok (.iconst 1, 1) := by decide +kernel
theorem dX9_addChangesAhead_54 : decode cX9_addChangesAhead 54 = .ok (.iadd, 1) := by decide +kernel
theorem dX9_addChangesAhead_55 : decode cX9_addChangesAhead 55 = .ok (.invokestatic 88, 3) := by decide +kernel
theorem dX9_addChangesAhead_58 : decode cX9_addChangesAhead 58 = .ok (.iastore, 1) := by decide +kernel
theorem dX9_addChangesAhead_59 : decode cX9_addChangesAhead 59 = .ok (.aload_n 0, 1) := by decide +kernel
theorem dX9_addChangesAhead_60 : decode cX9_addChangesAhead 60 = .ok (.getfield 15, 3) := by decide +kernel
theorem dX9_addChangesAhead_63 : decode cX9_addChangesAhead 63 = .ok (.iload_n 3, 1) := by decide +kernel
theorem dX9_addChangesAhead_64 : decode cX9_addChangesAhead 64 = .ok (.iload_n 2, 1) := by decide +kernel
theorem dX9_addChangesAhead_65 : decode cX9_addChangesAhead 65 = .ok (.iadd, 1) := by decide +kernel
theorem dX9_addChangesAhead_66 : decode cX9_addChangesAhead 66 = .ok (.iload 5, 2) := by decide +kernel
theorem dX9_addChangesAhead_68 : decode cX9_addChangesAhead 68 = .ok (.iload 4, 2) := by decide +kernel
theorem dX9_addChangesAhead_70 : decode cX9_addChangesAhead 70 = .ok (.iconst 1, 1) := by decide +kernel
theorem dX9_addChangesAhead_71 : decode cX9_addChangesAhead 71 = .ok (.iadd, 1) := by decide +kernel
theorem dX9_addChangesAhead_72 : decode cX9_addChangesAhead 72 = .ok (.invokestatic 88, 3) := by decide +kernel
theorem dX9_addChangesAhead_75 : decode cX9_addChangesAhead 75 = .ok (.iastore, 1) := by decide +kernel
theorem dX9_addChangesAhead_76 : decode cX9_addChangesAhead 76 = .ok (.iinc 3 1, 3) := by decide +kernel
theorem dX9_addChangesAhead_79 : decode cX9_addChangesAhead 79 = .ok (.goto (-65), 3) := by decide +kernel
theorem dX9_addChangesAhead_82 : decode cX9_addChangesAhead 82 = .ok (.iinc 1 1, 3) := by decide +kernel
theorem dX9_addChangesAhead_85 : decode cX9_addChangesAhead 85 = .ok (.goto (-83), 3) := by decide +kernel
theorem dX9_addChangesAhead_88 : decode cX9_addChangesAhead 88 = .ok (.return_, 1) := by decide +kernel
theorem dX9_bestSetBehind_0 : decode cX9_bestSetBehind 0 = .ok (.iconst 0, 1) := by decide +kernel
theorem dX9_bestSetBehind_1 : decode cX9_bestSetBehind 1 = .ok (.istore_n 3, 1) := by decide +kernel
theorem dX9_bestSetBehind_2 : decode cX9_bestSetBehind 2 = .ok (.ldc 81, 2) := by decide +kernel
theorem dX9_bestSetBehind_4 : decode cX9_bestSetBehind 4 = .ok (.istore 4, 2) := by decide +kernel
theorem dX9_bestSetBehind_6 : decode cX9_bestSetBehind 6 = .ok (.iconst 0, 1) := by decide +kernel
theorem dX9_bestSetBehind_7 : decode cX9_bestSetBehind 7 = .ok (.istore 5, 2) := by decide +kernel
theorem dX9_bestSetBehind_9 : decode cX9_bestSetBehind 9 = .ok (.iload 5, 2) := by decide +kernel
theorem dX9_bestSetBehind_11 : decode cX9_bestSetBehind 11 = .ok (.bipush 64, 2) := by decide +kernel
theorem dX9_bestSetBehind_13 : decode cX9_bestSetBehind 13 = .ok (.if_icmp .ge 45, 3) := by decide +kernel
theorem dX9_bestSetBehind_16 : decode cX9_bestSetBehind 16 = .ok (.aload_n 0, 1) := by decide +kernel
theorem dX9_bestSetBehind_17 : decode cX9_bestSetBehind 17 = .ok (.getfield 11, 3) := by decide +kernel
theorem dX9_bestSetBehind_20 : decode cX9_bestSetBehind 20 = .ok (.iload_n 2, 1) := by decide +kernel
theorem dX9_bestSetBehind_21 : decode cX9_bestSetBehind 21 = .ok (.bipush 64, 2) := by decide +kernel
theorem dX9_bestSetBehind_23 : decode cX9_bestSetBehind 23 = .ok (.imul, 1) := by decide +kernel
theorem dX9_bestSetBehind_24 : decode cX9_bestSetBehind 24 = .ok (.iload 5, 2) := by decide +kernel
theorem dX9_bestSetBehind_26 : decode cX9_bestSetBehind 26 = .ok (.iadd, 1) := by decide +kernel
theorem dX9_bestSetBehind_27 : decode cX9_bestSetBehind 27 = .ok (.iaload, 1) := by decide +kernel
theorem dX9_bestSetBehind_28 : decode cX9_bestSetBehind 28 = .ok (.iload 5, 2) := by decide +kernel
theorem dX9_bestSetBehind_30 : decode cX9_bestSetBehind 30 = .ok (.iload_n 1, 1) := by decide +kernel
theorem dX9_bestSetBehind_31 : decode cX9_bestSetBehind 31 = .ok (.ixor, 1) := by decide +kernel
theorem dX9_bestSetBehind_32 : decode cX9_bestSetBehind 32 = .ok (.invokestatic 71, 3) := by decide +kernel
theorem dX9_bestSetBehind_35 : decode cX9_bestSetBehind 35 = .ok (.iadd, 1) := by decide +kernel
theorem dX9_bestSetBehind_36 : decode cX9_bestSetBehind 36 = .ok (.istore 6, 2) := by decide +kernel
theorem dX9_bestSetBehind_38 : decode cX9_bestSetBehind 38 = .ok (.iload 6, 2) := by decide +kernel
theorem dX9_bestSetBehind_40 : decode cX9_bestSetBehind 40 = .ok (.iload 4, 2) := by decide +kernel
theorem dX9_bestSetBehind_42 : decode cX9_bestSetBehind 42 = .ok (.if_icmp .ge 10, 3) := by decide +kernel
theorem dX9_bestSetBehind_45 : decode cX9_bestSetBehind 45 = .ok (.iload 6, 2) := by decide +kernel
theorem dX9_bestSetBehind_47 : decode cX9_bestSetBehind 47 = .ok (.istore 4, 2) := by decide +kernel
theorem dX9_bestSetBehind_49 : decode cX9_bestSetBehind 49 = .ok (.iload 5, 2) := by decide +kernel
theorem dX9_bestSetBehind_51 : decode cX9_bestSetBehind 51 = .ok (.istore_n 3, 1) := by decide +kernel
theorem dX9_bestSetBehind_52 : decode cX9_bestSetBehind 52 = .ok (.iinc 5 1, 3) := by decide +kernel
theorem dX9_bestSetBehind_55 : decode cX9_bestSetBehind 55 = .ok (.goto (-46), 3) := by decide +kernel
theorem dX9_bestSetBehind_58 : decode cX9_bestSetBehind 58 = .ok (.iload_n 3, 1) := by decide +kernel
theorem dX9_bestSetBehind_59 : decode cX9_bestSetBehind 59 = .ok (.ireturn, 1) := by decide +kernel
theorem dX10_init_0 : decode cX10_init 0 = .ok (.aload_n 0, 1) := by decide +kernel
theorem dX10_init_1 : decode cX10_init 1 = .ok (.invokespecial 3, 3) := by decide +kernel
theorem dX10_init_4 : decode cX10_init 4 = .ok (.aload_n 0, 1) := by decide +kernel
theorem dX10_init_5 : decode cX10_init 5 = .ok (.sipush 500, 3) := by decide +kernel
theorem dX10_init_8 : decode cX10_init 8 = .ok (.newarray .int, 2) := by decide +kernel
theorem dX10_init_10 : decode cX10_init 10 = .ok (.putfield 9, 3) := by decide +kernel
theorem dX10_init_13 : decode cX10_init 13 = .ok (.aload_n 0, 1) := by decide +kernel
theorem dX10_init_14 : decode cX10_init 14 = .ok (.iconst 0, 1) := by decide +kernel
theorem dX10_init_15 : decode cX10_init 15 = .ok (.putfield 15, 3) := by decide +kernel
theorem dX10_init_18 : decode cX10_init 18 = .ok (.aload_n 0, 1) := by decide +kernel
theorem dX10_init_19 : decode cX10_init 19 = .ok (.iconst 0, 1) := by decide +kernel
theorem dX10_init_20 : decode cX10_init 20 = .ok (.putfield 19, 3) := by decide +kernel
theorem dX10_init_23 : decode cX10_init 23 = .ok (.aload_n 0, 1) := by decide +kernel
theorem dX10_init_24 : decode cX10_init 24 = .ok (.iconst 0, 1) := by decide +kernel
theorem dX10_init_25 : decode cX10_init 25 = .ok (.putfield 22, 3) := by decide +kernel
theorem dX10_init_28 : decode cX10_init 28 = .ok (.aload_n 0, 1) := by decide +kernel
theorem dX10_init_29 : decode cX10_init 29 = .ok (.iconst 0, 1) := by decide +kernel
theorem dX10_init_30 : decode cX10_init 30 = .ok (.putfield 25, 3) := by decide +kernel
theorem dX10_init_33 : decode cX10_init 33 = .ok (.aload_n 0, 1) := by decide +kernel
theorem dX10_init_34 : decode cX10_init 34 = .ok (.lconst 0, 1) := by decide +kernel
theorem dX10_init_35 : decode cX10_init 35 = .ok (.putfield 28, 3) := by decide +kernel
theorem dX10_init_38 : decode cX10_init 38 = .ok (.return_, 1) := by decide +kernel
theorem dX10_takeBytes_0 : decode cX10_takeBytes 0 = .ok (.iload_n 3, 1) := by decide +kernel
theorem dX10_takeBytes_1 : decode cX10_takeBytes 1 = .ok (.sipush 500, 3) := by decide +kernel
theorem dX10_takeBytes_4 : decode cX10_takeBytes 4 = .ok (.aload_n 0, 1) := by decide +kernel
theorem dX10_takeBytes_5 : decode cX10_takeBytes 5 = .ok (.getfield 15, 3) := by decide +kernel
theorem dX10_takeBytes_8 : decode cX10_takeBytes 8 = .ok (.isub, 1) := by decide +kernel
theorem dX10_takeBytes_9 : decode cX10_takeBytes 9 = .ok (.if_icmp .le 5, 3) := by decide +kernel
theorem dX10_takeBytes_12 : decode cX10_takeBytes 12 = .ok (.iconst 0, 1) := by decide +kernel
theorem dX10_takeBytes_13 : decode cX10_takeBytes 13 = .ok (.ireturn, 1) := by decide +kernel
theorem dX10_takeBytes_14 : decode cX10_takeBytes 14 = .ok (.iload_n 3, 1) := by decide +kernel
theorem dX10_takeBytes_15 : decode cX10_takeBytes 15 = .ok (.iconst 1, 1) := by decide +kernel
theorem dX10_takeBytes_16 : decode cX10_takeBytes 16 = .ok (.isub, 1) := by decide +kernel
theorem dX10_takeBytes_17 : decode cX10_takeBytes 17 = .ok (.istore 4, 2) := by decide +kernel
theorem dX10_takeBytes_19 : decode cX10_takeBytes 19 = .ok (.iload 4, 2) := by decide +kernel
theorem dX10_takeBytes_21 : decode cX10_takeBytes 21 = .ok (.ifCond .lt 40, 3) := by decide +kernel
theorem dX10_takeBytes_24 : decode cX10_takeBytes 24 = .ok (.aload_n 0, 1) := by decide +kernel
theorem dX10_takeBytes_25 : decode cX10_takeBytes 25 = .ok (.getfield 9, 3) := by decide +kernel
theorem dX10_takeBytes_28 : decode cX10_takeBytes 28 = .ok (.aload_n 0, 1) := by decide +kernel
theorem dX10_takeBytes_29 : decode cX10_takeBytes 29 = .ok (.getfield 15, 3) := by decide +kernel
theorem dX10_takeBytes_32 : decode cX10_takeBytes 32 = .ok (.lload_n 1, 1) := by decide +kernel
theorem dX10_takeBytes_33 : decode cX10_takeBytes 33 = .ok (.bipush 8, 2) := by decide +kernel
theorem dX10_takeBytes_35 : decode cX10_takeBytes 35 = .ok (.iload 4, 2) := by decide +kernel
theorem dX10_takeBytes_37 : decode cX10_takeBytes 37 = .ok (.imul, 1) := by decide +kernel
theorem dX10_takeBytes_38 : decode cX10_takeBytes 38 = .ok (.lshr, 1) := by decide +kernel
theorem dX10_takeBytes_39 : decode cX10_takeBytes 39 = .ok (.ldc2_w 32, 3) := by decide +kernel
theorem dX10_takeBytes_42 : decode cX10_takeBytes 42 = .ok (.land, 1) := by decide +kernel
theorem dX10_takeBytes_43 : decode cX10_takeBytes 43 = .ok (.l2i, 1) := by decide +kernel
theorem dX10_takeBytes_44 : decode cX10_takeBytes 44 = .ok (.iastore, 1) := by decide +kernel
theorem dX10_takeBytes_45 : decode cX10_takeBytes 45 = .ok (.aload_n 0, 1) := by decide +kernel
theorem dX10_takeBytes_46 : decode cX10_takeBytes 46 = .ok (.dup, 1) := by decide +kernel
theorem dX10_takeBytes_47 : decode cX10_takeBytes 47 = .ok (.getfield 15, 3) := by decide +kernel
theorem dX10_takeBytes_50 : decode cX10_takeBytes 50 = .ok (.iconst 1, 1) := by decide +kernel
theorem dX10_takeBytes_51 : decode cX10_takeBytes 51 = .ok (.iadd, 1) := by decide +kernel
theorem dX10_takeBytes_52 : decode cX10_takeBytes 52 = .ok (.putfield 15, 3) := by decide +kernel
theorem dX10_takeBytes_55 : decode cX10_takeBytes 55 = .ok (.iinc 4 (-1), 3) := by decide +kernel
theorem dX10_takeBytes_58 : decode cX10_takeBytes 58 = .ok (.goto (-39), 3) := by decide +kernel
theorem dX10_takeBytes_61 : decode cX10_takeBytes 61 = .ok (.iconst 1, 1) := by decide +kernel
theorem dX10_takeBytes_62 : decode cX10_takeBytes 62 = .ok (.ireturn, 1) := by decide +kernel
theorem dX10_rewind_0 : decode cX10_rewind 0 = .ok (.aload_n 0, 1) := by decide +kernel
theorem dX10_rewind_1 : decode cX10_rewind 1 = .ok (.iconst 0, 1) := by decide +kernel
theorem dX10_rewind_2 : decode cX10_rewind 2 = .ok (.putfield 19, 3) := by decide +kernel
theorem dX10_rewind_5 : decode cX10_rewind 5 = .ok (.aload_n 0, 1) := by decide +kernel
theorem dX10_rewind_6 : decode cX10_rewind 6 = .ok (.invokevirtual 34, 3) := by decide +kernel
theorem dX10_rewind_9 : decode cX10_rewind 9 = .ok (.return_, 1) := by decide +kernel
theorem dX10_advance_0 : decode cX10_advance 0 = .ok (.aload_n 0, 1) := by decide +kernel
theorem dX10_advance_1 : decode cX10_advance 1 = .ok (.getfield 19, 3) := by decide +kernel
theorem dX10_advance_4 : decode cX10_advance 4 = .ok (.aload_n 0, 1) := by decide +kernel
theorem dX10_advance_5 : decode cX10_advance 5 = .ok (.getfield 15, 3) := by decide +kernel
theorem dX10_advance_8 : decode cX10_advance 8 = .ok (.if_icmp .ge 32, 3) := by decide +kernel
theorem dX10_advance_11 : decode cX10_advance 11 = .ok (.aload_n 0, 1) := by decide +kernel
theorem dX10_advance_12 : decode cX10_advance 12 = .ok (.getfield 9, 3) := by decide +kernel
theorem dX10_advance_15 : decode cX10_advance 15 = .ok (.aload_n 0, 1) := by decide +kernel
theorem dX10_advance_16 : decode cX10_advance 16 = .ok (.getfield 19, 3) := by decide +kernel
theorem dX10_advance_19 : decode cX10_advance 19 = .ok (.iaload, 1) := by decide +kernel
theorem dX10_advance_20 : decode cX10_advance 20 = .ok (.invokestatic 37, 3) := by decide +kernel
theorem dX10_advance_23 : decode cX10_advance 23 = .ok (.iconst 5, 1) := by decide +kernel
theorem dX10_advance_24 : decode cX10_advance 24 = .ok (.if_icmp .ne 16, 3) := by decide +kernel
theorem dX10_advance_27 : decode cX10_advance 27 = .ok (.aload_n 0, 1) := by decide +kernel
theorem dX10_advance_28 : decode cX10_advance 28 = .ok (.dup, 1) := by decide +kernel
theorem dX10_advance_29 : decode cX10_advance 29 = .ok (.getfield 19, 3) := by decide +kernel
theorem dX10_advance_32 : decode cX10_advance 32 = .ok (.iconst 1, 1) := by decide +kernel
theorem dX10_advance_33 : decode cX10_advance 33 = .ok (.iadd, 1) := by decide +kernel
theorem dX10_advance_34 : decode cX10_advance 34 = .ok (.putfield 19, 3) := by decide +kernel
theorem dX10_advance_37 : decode cX10_advance 37 = .ok (.goto (-37), 3) := by decide +kernel
theorem dX10_advance_40 : decode cX10_advance 40 = .ok (.aload_n 0, 1) := by decide +kernel
theorem dX10_advance_41 : decode cX10_advance 41 = .ok (.aload_n 0, 1) := by decide +kernel
theorem dX10_advance_42 : decode cX10_advance 42 = .ok (.getfield 19, 3) := by decide +kernel
theorem dX10_advance_45 : decode cX10_advance 45 = .ok (.putfield 25, 3) := by decide +kernel
theorem dX10_advance_48 : decode cX10_advance 48 = .ok (.aload_n 0, 1) := by decide +kernel
theorem dX10_advance_49 : decode cX10_advance 49 = .ok (.lconst 0, 1) := by decide +kernel
theorem dX10_advance_50 : decode cX10_advance 50 = .ok (.putfield 28, 3) := by decide +kernel
theorem dX10_advance_53 : decode cX10_advance 53 = .ok (.aload_n 0, 1) := by decide +kernel
theorem dX10_advance_54 : decode cX10_advance 54 = .ok (.aload_n 0, 1) := by decide +kernel
theorem dX10_advance_55 : decode cX10_advance 55 = .ok (.getfield 19, 3) := by decide +kernel
theorem dX10_advance_58 : decode cX10_advance 58 = .ok (.aload_n 0, 1) := by decide +kernel
theorem dX10_advance_59 : decode cX10_advance 59 = .ok (.getfield 15, 3) := by decide +kernel
theorem dX10_advance_62 : decode cX10_advance 62 = .ok (.if_icmp .ge 18, 3) := by decide +kernel
theorem dX10_advance_65 : decode cX10_advance 65 = .ok (.aload_n 0, 1) := by decide +kernel
theorem dX10_advance_66 : decode cX10_advance 66 = .ok (.getfield 9, 3) := by decide +kernel
theorem dX10_advance_69 : decode cX10_advance 69 = .ok (.aload_n 0, 1) := by decide +kernel
theorem dX10_advance_70 : decode cX10_advance 70 = .ok (.getfield 19, 3) := by decide +kernel
theorem dX10_advance_73 : decode cX10_advance 73 = .ok (.iaload, 1) := by decide +kernel
theorem dX10_advance_74 : decode cX10_advance 74 = .ok (.invokestatic 37, 3) := by decide +kernel
theorem dX10_advance_77 : decode cX10_advance 77 = .ok (.goto 4, 3) := by decide +kernel
theorem dX10_advance_80 : decode cX10_advance 80 = .ok (.iconst 0, 1) := by decide +kernel
theorem dX10_advance_81 : decode cX10_advance 81 = .ok (.putfield 22, 3) := by decide +kernel
theorem dX10_advance_84 : decode cX10_advance 84 = .ok (.aload_n 0, 1) := by decide +kernel
theorem dX10_advance_85 : decode cX10_advance 85 = .ok (.getfield 22, 3) := by decide +kernel
theorem dX10_advance_88 : decode cX10_advance 88 = .ok (.iconst 1, 1) := by decide +kernel
theorem dX10_advance_89 : decode cX10_advance 89 = .ok (.if_icmp .eq 11, 3) := by decide +kernel
theorem dX10_advance_92 : decode cX10_advance 92 = .ok (.aload_n 0, 1) := by decide +kernel
theorem dX10_advance_93 : decode cX10_advance 93 = .ok (.getfield 22, 3) := by decide +kernel
theorem dX10_advance_96 : decode cX10_advance 96 = .ok (.iconst 2, 1) := by decide +kernel
theorem dX10_advance_97 : decode cX10_advance 97 = .ok (.if_icmp .ne 7, 3) := by decide +kernel
theorem dX10_advance_100 : decode cX10_advance 100 = .ok (.iconst 1, 1) := by decide +kernel
theorem dX10_advance_101 : decode cX10_advance 101 = .ok (.goto 4, 3) := by decide +kernel
theorem dX10_advance_104 : decode cX10_advance 104 = .ok (.iconst 0, 1) := by decide +kernel
theorem dX10_advance_105 : decode cX10_advance 105 = .ok (.istore_n 1, 1) := by decide +kernel
theorem dX10_advance_106 : decode cX10_advance 106 = .ok (.iload_n 1, 1) := by decide +kernel
theorem dX10_advance_107 : decode cX10_advance 107 = .ok (.ifCond .eq 102, 3) := by decide +kernel
theorem dX10_advance_110 : decode cX10_advance 110 = .ok (.aload_n 0, 1) := by decide +kernel
theorem dX10_advance_111 : decode cX10_advance 111 = .ok (.getfield 19, 3) := by decide +kernel
theorem dX10_advance_114 : decode cX10_advance 114 = .ok (.aload_n 0, 1) := by decide +kernel
theorem dX10_advance_115 : decode cX10_advance 115 = .ok (.getfield 15, 3) := by decide +kernel
theorem dX10_advance_118 : decode cX10_advance 118 = .ok (.if_icmp .ge 91, 3) := by decide +kernel
theorem dX10_advance_121 : decode cX10_advance 121 = .ok (.aload_n 0, 1) := by decide +kernel
theorem dX10_advance_122 : decode cX10_advance 122 = .ok (.getfield 9, 3) := by decide +kernel
theorem dX10_advance_125 : decode cX10_advance 125 = .ok (.aload_n 0, 1) := by decide +kernel
theorem dX10_advance_126 : decode cX10_advance 126 = .ok (.getfield 19, 3) := by decide +kernel
theorem dX10_advance_129 : decode cX10_advance 129 = .ok (.iaload, 1) := by decide +kernel
theorem dX10_advance_130 : decode cX10_advance 130 = .ok (.invokestatic 37, 3) := by decide +kernel
theorem dX10_advance_133 : decode cX10_advance 133 = .ok (.aload_n 0, 1) := by decide +kernel
theorem dX10_advance_134 : decode cX10_advance 134 = .ok (.getfield 22, 3) := by decide +kernel
theorem dX10_advance_137 : decode cX10_advance 137 = .ok (.if_icmp .ne 72, 3) := by decide +kernel
theorem dX10_advance_140 : decode cX10_advance 140 = .ok (.aload_n 0, 1) := by decide +kernel
theorem dX10_advance_141 : decode cX10_advance 141 = .ok (.aload_n 0, 1) := by decide +kernel
theorem dX10_advance_142 : decode cX10_advance 142 = .ok (.getfield 22, 3) := by decide +kernel
theorem dX10_advance_145 : decode cX10_advance 145 = .ok (.iconst 1, 1) := by decide +kernel
theorem dX10_advance_146 : decode cX10_advance 146 = .ok (.if_icmp .ne 24, 3) := by decide +kernel
theorem dX10_advance_149 : decode cX10_advance 149 = .ok (.aload_n 0, 1) := by decide +kernel
theorem dX10_advance_150 : decode cX10_advance 150 = .ok (.getfield 28, 3) := by decide +kernel
theorem dX10_advance_153 : decode cX10_advance 153 = .ok (.bipush 8, 2) := by decide +kernel
theorem dX10_advance_155 : decode cX10_advance 155 = .ok (.lshl, 1) := by decide +kernel
theorem dX10_advance_156 : decode cX10_advance 156 = .ok (.aload_n 0, 1) := by decide +kernel
theorem dX10_advance_157 : decode cX10_advance 157 = .ok (.getfield 9, 3) := by decide +kernel
theorem dX10_advance_160 : decode cX10_advance 160 = .ok (.aload_n 0, 1) := by decide +kernel
theorem dX10_advance_161 : decode cX10_advance 161 = .ok (.getfield 19, 3) := by decide +kernel
theorem dX10_advance_164 : decode cX10_advance 164 = .ok (.iaload, 1) := by decide +kernel
theorem dX10_advance_165 : decode cX10_advance 165 = .ok (.i2l, 1) := by decide +kernel
theorem dX10_advance_166 : decode cX10_advance 166 = .ok (.lor, 1) := by decide +kernel
theorem dX10_advance_167 : decode cX10_advance 167 = .ok (.goto 26, 3) := by decide +kernel
theorem dX10_advance_170 : decode cX10_advance 170 = .ok (.aload_n 0, 1) := by decide +kernel
theorem dX10_advance_171 : decode cX10_advance 171 = .ok (.getfield 28, 3) := by decide +kernel
theorem dX10_advance_174 : decode cX10_advance 174 = .ok (.ldc2_w 41, 3) := by decide +kernel
theorem dX10_advance_177 : decode cX10_advance 177 = .ok (.lmul, 1) := by decide +kernel
theorem dX10_advance_178 : decode cX10_advance 178 = .ok (.aload_n 0, 1) := by decide +kernel
theorem dX10_advance_179 : decode cX10_advance 179 = .ok (.getfield 9, 3) := by decide +kernel
theorem dX10_advance_182 : decode cX10_advance 182 = .ok (.aload_n 0, 1) := by decide +kernel
theorem dX10_advance_183 : decode cX10_advance 183 = .ok (.getfield 19, 3) := by decide +kernel
theorem dX10_advance_186 : decode cX10_advance 186 = .ok (.iaload, 1) := by decide +kernel
theorem dX10_advance_187 : decode cX10_advance 187 = .ok (.i2l, 1) := by decide +kernel
theorem dX10_advance_188 : decode cX10_advance 188 = .ok (.ladd, 1) := by decide +kernel
theorem dX10_advance_189 : decode cX10_advance 189 = .ok (.ldc2_w 43, 3) := by decide +kernel
theorem dX10_advance_192 : decode cX10_advance 192 = .ok (.lsub, 1) := by decide +kernel
theorem dX10_advance_193 : decode cX10_advance 193 = .ok (.putfield 28, 3) := by decide +kernel
theorem dX10_advance_196 : decode cX10_advance 196 = .ok (.aload_n 0, 1) := by decide +kernel
theorem dX10_advance_197 : decode cX10_advance 197 = .ok (.dup, 1) := by decide +kernel
theorem dX10_advance_198 : decode cX10_advance 198 = .ok (.getfield 19, 3) := by decide +kernel
theorem dX10_advance_201 : decode cX10_advance 201 = .ok (.iconst 1, 1) := by decide +kernel
theorem dX10_advance_202 : decode cX10_advance 202 = .ok (.iadd, 1) := by decide +kernel
theorem dX10_advance_203 : decode cX10_advance 203 = .ok (.putfield 19, 3) := by decide +kernel
theorem dX10_advance_206 : decode cX10_advance 206 = .ok (.goto (-100), 3) := by decide +kernel
theorem dX10_advance_209 : decode cX10_advance 209 = .ok (.iload_n 1, 1) := by decide +kernel
theorem dX10_advance_210 : decode cX10_advance 210 = .ok (.ifCond .eq 38, 3) := by decide +kernel
theorem dX10_advance_213 : decode cX10_advance 213 = .ok (.aload_n 0, 1) := by decide +kernel
theorem dX10_advance_214 : decode cX10_advance 214 = .ok (.getfield 19, 3) := by decide +kernel
theorem dX10_advance_217 : decode cX10_advance 217 = .ok (.aload_n 0, 1) := by decide +kernel
theorem dX10_advance_218 : decode cX10_advance 218 = .ok (.getfield 25, 3) := by decide +kernel
theorem dX10_advance_221 : decode cX10_advance 221 = .ok (.isub, 1) := by decide +kernel
theorem dX10_advance_222 : decode cX10_advance 222 = .ok (.aload_n 0, 1) := by decide +kernel
theorem dX10_advance_223 : decode cX10_advance 223 = .ok (.getfield 22, 3) := by decide +kernel
theorem dX10_advance_226 : decode cX10_advance 226 = .ok (.iconst 1, 1) := by decide +kernel
theorem dX10_advance_227 : decode cX10_advance 227 = .ok (.if_icmp .ne 8, 3) := by decide +kernel
theorem dX10_advance_230 : decode cX10_advance 230 = .ok (.bipush 6, 2) := by decide +kernel
theorem dX10_advance_232 : decode cX10_advance 232 = .ok (.goto 4, 3) := by decide +kernel
theorem dX10_advance_235 : decode cX10_advance 235 = .ok (.iconst 3, 1) := by decide +kernel
theorem dX10_advance_236 : decode cX10_advance 236 = .ok (.if_icmp .le 12, 3) := by decide +kernel
theorem dX10_advance_239 : decode cX10_advance 239 = .ok (.aload_n 0, 1) := by decide +kernel
theorem dX10_advance_240 : decode cX10_advance 240 = .ok (.bipush 6, 2) := by decide +kernel
theorem dX10_advance_242 : decode cX10_advance 242 = .ok (.putfield 22, 3) := by decide +kernel
theorem dX10_advance_245 : decode cX10_advance 245 = .ok (.goto 24, 3) := by decide +kernel
theorem dX10_advance_248 : decode cX10_advance 248 = .ok (.iload_n 1, 1) := by decide +kernel
theorem dX10_advance_249 : decode cX10_advance 249 = .ok (.ifCond .ne 20, 3) := by decide +kernel
theorem dX10_advance_252 : decode cX10_advance 252 = .ok (.aload_n 0, 1) := by decide +kernel
theorem dX10_advance_253 : decode cX10_advance 253 = .ok (.getfield 22, 3) := by decide +kernel
theorem dX10_advance_256 : decode cX10_advance 256 = .ok (.ifCond .eq 13, 3) := by decide +kernel
theorem dX10_advance_259 : decode cX10_advance 259 = .ok (.aload_n 0, 1) := by decide +kernel
theorem dX10_advance_260 : decode cX10_advance 260 = .ok (.dup, 1) := by decide +kernel
theorem dX10_advance_261 : decode cX10_advance 261 = .ok (.getfield 19, 3) := by decide +kernel
theorem dX10_advance_264 : decode cX10_advance 264 = .ok (.iconst 1, 1) := by decide +kernel
theorem dX10_advance_265 : decode cX10_advance 265 = .ok (.iadd, 1) := by decide +kernel
theorem dX10_advance_266 : decode cX10_advance 266 = .ok (.putfield 19, 3) := by decide +kernel
theorem dX10_advance_269 : decode cX10_advance 269 = .ok (.return_, 1) := by decide +kernel
theorem dX10_isName_0 : decode cX10_isName 0 = .ok (.aload_n 0, 1) := by decide +kernel
theorem dX10_isName_1 : decode cX10_isName 1 = .ok (.getfield 22, 3) := by decide +kernel
theorem dX10_isName_4 : decode cX10_isName 4 = .ok (.iconst 1, 1) := by decide +kernel
theorem dX10_isName_5 : decode cX10_isName 5 = .ok (.if_icmp .ne 16, 3) := by decide +kernel
theorem dX10_isName_8 : decode cX10_isName 8 = .ok (.aload_n 0, 1) := by decide +kernel
theorem dX10_isName_9 : decode cX10_isName 9 = .ok (.getfield 28, 3) := by decide +kernel
theorem dX10_isName_12 : decode cX10_isName 12 = .ok (.lload_n 1, 1) := by decide +kernel
theorem dX10_isName_13 : decode cX10_isName 13 = .ok (.lcmp, 1) := by decide +kernel
theorem dX10_isName_14 : decode cX10_isName 14 = .ok (.ifCond .ne 7, 3) := by decide +kernel
theorem dX10_isName_17 : decode cX10_isName 17 = .ok (.iconst 1, 1) := by decide +kernel
theorem dX10_isName_18 : decode cX10_isName 18 = .ok (.goto 4, 3) := by decide +kernel
theorem dX10_isName_21 : decode cX10_isName 21 = .ok (.iconst 0, 1) := by decide +kernel
theorem dX10_isName_22 : decode cX10_isName 22 = .ok (.ireturn, 1) := by decide +kernel
theorem dX10_typeOf_0 : decode cX10_typeOf 0 = .ok (.iload_n 0, 1) := by decide +kernel
theorem dX10_typeOf_1 : decode cX10_typeOf 1 = .ok (.bipush 97, 2) := by decide +kernel
theorem dX10_typeOf_3 : decode cX10_typeOf 3 = .ok (.if_icmp .lt 11, 3) := by decide +kernel
theorem dX10_typeOf_6 : decode cX10_typeOf 6 = .ok (.iload_n 0, 1) := by decide +kernel
theorem dX10_typeOf_7 : decode cX10_typeOf 7 = .ok (.bipush 122, 2) := by decide +kernel
theorem dX10_typeOf_9 : decode cX10_typeOf 9 = .ok (.if_icmp .gt 5, 3) := by decide +kernel
theorem dX10_typeOf_12 : decode cX10_typeOf 12 = .ok (.iconst 1, 1) := by decide +kernel
theorem dX10_typeOf_13 : decode cX10_typeOf 13 = .ok (.ireturn, 1) := by decide +kernel
theorem dX10_typeOf_14 : decode cX10_typeOf 14 = .ok (.iload_n 0, 1) := by decide +kernel
theorem dX10_typeOf_15 : decode cX10_typeOf 15 = .ok (.bipush 48, 2) := by decide +kernel
theorem dX10_typeOf_17 : decode cX10_typeOf 17 = .ok (.if_icmp .lt 11, 3) := by decide +kernel
theorem dX10_typeOf_20 : decode cX10_typeOf 20 = .ok (.iload_n 0, 1) := by decide +kernel
theorem dX10_typeOf_21 : decode cX10_typeOf 21 = .ok (.bipush 57, 2) := by decide +kernel
theorem dX10_typeOf_23 : decode cX10_typeOf 23 = .ok (.if_icmp .gt 5, 3) := by decide +kernel
theorem dX10_typeOf_26 : decode cX10_typeOf 26 = .ok (.iconst 2, 1) := by decide +kernel
theorem dX10_typeOf_27 : decode cX10_typeOf 27 = .ok (.ireturn, 1) := by decide +kernel
theorem dX10_typeOf_28 : decode cX10_typeOf 28 = .ok (.iload_n 0, 1) := by decide +kernel
theorem dX10_typeOf_29 : decode cX10_typeOf 29 = .ok (.bipush 32, 2) := by decide +kernel
theorem dX10_typeOf_31 : decode cX10_typeOf 31 = .ok (.if_icmp .eq 9, 3) := by decide +kernel
theorem dX10_typeOf_34 : decode cX10_typeOf 34 = .ok (.iload_n 0, 1) := by decide +kernel
theorem dX10_typeOf_35 : decode cX10_typeOf 35 = .ok (.bipush 10, 2) := by decide +kernel
theorem dX10_typeOf_37 : decode cX10_typeOf 37 = .ok (.if_icmp .ne 5, 3) := by decide +kernel
theorem dX10_typeOf_40 : decode cX10_typeOf 40 = .ok (.iconst 5, 1) := by decide +kernel
theorem dX10_typeOf_41 : decode cX10_typeOf 41 = .ok (.ireturn, 1) := by decide +kernel
theorem dX10_typeOf_42 : decode cX10_typeOf 42 = .ok (.iload_n 0, 1) := by decide +kernel
theorem dX10_typeOf_43 : decode cX10_typeOf 43 = .ok (.bipush 44, 2) := by decide +kernel
theorem dX10_typeOf_45 : decode cX10_typeOf 45 = .ok (.if_icmp .ne 7, 3) := by decide +kernel
theorem dX10_typeOf_48 : decode cX10_typeOf 48 = .ok (.iconst 3, 1) := by decide +kernel
theorem dX10_typeOf_49 : decode cX10_typeOf 49 = .ok (.goto 15, 3) := by decide +kernel
theorem dX10_typeOf_52 : decode cX10_typeOf 52 = .ok (.iload_n 0, 1) := by decide +kernel
theorem dX10_typeOf_53 : decode cX10_typeOf 53 = .ok (.bipush 59, 2) := by decide +kernel
theorem dX10_typeOf_55 : decode cX10_typeOf 55 = .ok (.if_icmp .ne 7, 3) := by decide +kernel
theorem dX10_typeOf_58 : decode cX10_typeOf 58 = .ok (.iconst 4, 1) := by decide +kernel
theorem dX10_typeOf_59 : decode cX10_typeOf 59 = .ok (.goto 5, 3) := by decide +kernel
theorem dX10_typeOf_62 : decode cX10_typeOf 62 = .ok (.bipush 6, 2) := by decide +kernel
theorem dX10_typeOf_64 : decode cX10_typeOf 64 = .ok (.ireturn, 1) := by decide +kernel
theorem dX11_init_0 : decode cX11_init 0 = .ok (.aload_n 0, 1) := by decide +kernel
theorem dX11_init_1 : decode cX11_init 1 = .ok (.invokespecial 3, 3) := by decide +kernel
theorem dX11_init_4 : decode cX11_init 4 = .ok (.aload_n 0, 1) := by decide +kernel
theorem dX11_init_5 : decode cX11_init 5 = .ok (.bipush 8, 2) := by decide +kernel
theorem dX11_init_7 : decode cX11_init 7 = .ok (.anewarray 9, 3) := by decide +kernel
theorem dX11_init_10 : decode cX11_init 10 = .ok (.putfield 11, 3) := by decide +kernel
theorem dX11_init_13 : decode cX11_init 13 = .ok (.aload_n 0, 1) := by decide +kernel
theorem dX11_init_14 : decode cX11_init 14 = .ok (.new 15, 3) := by decide +kernel
theorem dX11_init_17 : decode cX11_init 17 = .ok (.dup, 1) := by decide +kernel
theorem dX11_init_18 : decode cX11_init 18 = .ok (.invokespecial 17, 3) := by decide +kernel
theorem dX11_init_21 : decode cX11_init 21 = .ok (.putfield 18, 3) := by decide +kernel
theorem dX11_init_24 : decode cX11_init 24 = .ok (.aload_n 0, 1) := by decide +kernel
theorem dX11_init_25 : decode cX11_init 25 = .ok (.new 22, 3) := by decide +kernel
theorem dX11_init_28 : decode cX11_init 28 = .ok (.dup, 1) := by decide +kernel
theorem dX11_init_29 : decode cX11_init 29 = .ok (.invokespecial 24, 3) := by decide +kernel
theorem dX11_init_32 : decode cX11_init 32 = .ok (.putfield 25, 3) := by decide +kernel
theorem dX11_init_35 : decode cX11_init 35 = .ok (.aload_n 0, 1) := by decide +kernel
theorem dX11_init_36 : decode cX11_init 36 = .ok (.new 29, 3) := by decide +kernel
theorem dX11_init_39 : decode cX11_init 39 = .ok (.dup, 1) := by decide +kernel
theorem dX11_init_40 : decode cX11_init 40 = .ok (.invokespecial 31, 3) := by decide +kernel
theorem dX11_init_43 : decode cX11_init 43 = .ok (.putfield 32, 3) := by decide +kernel
theorem dX11_init_46 : decode cX11_init 46 = .ok (.aload_n 0, 1) := by decide +kernel
theorem dX11_init_47 : decode cX11_init 47 = .ok (.new 36, 3) := by decide +kernel
theorem dX11_init_50 : decode cX11_init 50 = .ok (.dup, 1) := by decide +kernel
theorem dX11_init_51 : decode cX11_init 51 = .ok (.aload_n 0, 1) := by decide +kernel
theorem dX11_init_52 : decode cX11_init 52 = .ok (.getfield 32, 3) := by decide +kernel
theorem dX11_init_55 : decode cX11_init 55 = .ok (.aload_n 0, 1) := by decide +kernel
theorem dX11_init_56 : decode cX11_init 56 = .ok (.getfield 18, 3) := by decide +kernel
theorem dX11_init_59 : decode cX11_init 59 = .ok (.aload_n 0, 1) := by decide +kernel
theorem dX11_init_60 : decode cX11_init 60 = .ok (.getfield 25, 3) := by decide +kernel
theorem dX11_init_63 : decode cX11_init 63 = .ok (.invokespecial 38, 3) := by decide +kernel
theorem dX11_init_66 : decode cX11_init 66 = .ok (.putfield 41, 3) := by decide +kernel
theorem dX11_init_69 : decode cX11_init 69 = .ok (.aload_n 0, 1) := by decide +kernel
theorem dX11_init_70 : decode cX11_init 70 = .ok (.new 45, 3) := by decide +kernel
theorem dX11_init_73 : decode cX11_init 73 = .ok (.dup, 1) := by decide +kernel
theorem dX11_init_74 : decode cX11_init 74 = .ok (.aload_n 0, 1) := by decide +kernel
theorem dX11_init_75 : decode cX11_init 75 = .ok (.getfield 18, 3) := by decide +kernel
theorem dX11_init_78 : decode cX11_init 78 = .ok (.aload_n 0, 1) := by decide +kernel
theorem dX11_init_79 : decode cX11_init 79 = .ok (.getfield 25, 3) := by decide +kernel
theorem dX11_init_82 : decode cX11_init 82 = .ok (.invokespecial 47, 3) := by decide +kernel
theorem dX11_init_85 : decode cX11_init 85 = .ok (.putfield 50, 3) := by decide +kernel
theorem dX11_init_88 : decode cX11_init 88 = .ok (.aload_n 0, 1) := by decide +kernel
theorem dX11_init_89 : decode cX11_init 89 = .ok (.new 54, 3) := by decide +kernel
theorem dX11_init_92 : decode cX11_init 92 = .ok (.dup, 1) := by decide +kernel
theorem dX11_init_93 : decode cX11_init 93 = .ok (.aload_n 0, 1) := by decide +kernel
theorem dX11_init_94 : decode cX11_init 94 = .ok (.getfield 18, 3) := by decide +kernel
theorem dX11_init_97 : decode cX11_init 97 = .ok (.aload_n 0, 1) := by decide +kernel
theorem dX11_init_98 : decode cX11_init 98 = .ok (.getfield 50, 3) := by decide +kernel
theorem dX11_init_101 : decode cX11_init 101 = .ok (.invokespecial 56, 3) := by decide +kernel
theorem dX11_init_104 : decode cX11_init 104 = .ok (.putfield 59, 3) := by decide +kernel
theorem dX11_init_107 : decode cX11_init 107 = .ok (.aload_n 0, 1) := by decide +kernel
theorem dX11_init_108 : decode cX11_init 108 = .ok (.new 63, 3) := by decide +kernel
theorem dX11_init_111 : decode cX11_init 111 = .ok (.dup, 1) := by decide +kernel
theorem dX11_init_112 : decode cX11_init 112 = .ok (.aload_n 0, 1) := by decide +kernel
theorem dX11_init_113 : decode cX11_init 113 = .ok (.getfield 25, 3) := by decide +kernel
theorem dX11_init_116 : decode cX11_init 116 = .ok (.aload_n 0, 1) := by decide +kernel
theorem dX11_init_117 : decode cX11_init 117 = .ok (.getfield 50, 3) := by decide +kernel
theorem dX11_init_120 : decode cX11_init 120 = .ok (.invokespecial 65, 3) := by decide +kernel
theorem dX11_init_123 : decode cX11_init 123 = .ok (.putfield 68, 3) := by decide +kernel
theorem dX11_init_126 : decode cX11_init 126 = .ok (.aload_n 0, 1) := by decide +kernel
theorem dX11_init_127 : decode cX11_init 127 = .ok (.new 72, 3) := by decide +kernel
theorem dX11_init_130 : decode cX11_init 130 = .ok (.dup, 1) := by decide +kernel
theorem dX11_init_131 : decode cX11_init 131 = .ok (.aload_n 0, 1) := by decide +kernel
theorem dX11_init_132 : decode cX11_init 132 = .ok (.getfield 25, 3) := by decide +kernel
theorem dX11_init_135 : decode cX11_init 135 = .ok (.aload_n 0, 1) := by decide +kernel
theorem dX11_init_136 : decode cX11_init 136 = .ok (.getfield 50, 3) := by decide +kernel
theorem dX11_init_139 : decode cX11_init 139 = .ok (.invokespecial 74, 3) := by decide +kernel
theorem dX11_init_142 : decode cX11_init 142 = .ok (.putfield 75, 3) := by decide +kernel
theorem dX11_init_145 : decode cX11_init 145 = .ok (.aload_n 0, 1) := by decide +kernel
theorem dX11_init_146 : decode cX11_init 146 = .ok (.new 79, 3) := by decide +kernel
theorem dX11_init_149 : decode cX11_init 149 = .ok (.dup, 1) := by decide +kernel
theorem dX11_init_150 : decode cX11_init 150 = .ok (.aload_n 0, 1) := by decide +kernel
theorem dX11_init_151 : decode cX11_init 151 = .ok (.getfield 50, 3) := by decide +kernel
theorem dX11_init_154 : decode cX11_init 154 = .ok (.invokespecial 81, 3) := by decide +kernel
theorem dX11_init_157 : decode cX11_init 157 = .ok (.putfield 84, 3) := by decide +kernel
theorem dX11_init_160 : decode cX11_init 160 = .ok (.aload_n 0, 1) := by decide +kernel
theorem dX11_init_161 : decode cX11_init 161 = .ok (.iconst 0, 1) := by decide +kernel
theorem dX11_init_162 : decode cX11_init 162 = .ok (.putfield 88, 3) := by decide +kernel
theorem dX11_init_165 : decode cX11_init 165 = .ok (.aload_n 0, 1) := by decide +kernel
theorem dX11_init_166 : decode cX11_init 166 = .ok (.iconst 0, 1) := by decide +kernel
theorem dX11_init_167 : decode cX11_init 167 = .ok (.putfield 92, 3) := by decide +kernel
theorem dX11_init_170 : decode cX11_init 170 = .ok (.iconst 0, 1) := by decide +kernel
theorem dX11_init_171 : decode cX11_init 171 = .ok (.istore_n 1, 1) := by decide +kernel
theorem dX11_init_172 : decode cX11_init 172 = .ok (.iload_n 1, 1) := by decide +kernel
theorem dX11_init_173 : decode cX11_init 173 = .ok (.bipush 8, 2) := by decide +kernel
theorem dX11_init_175 : decode cX11_init 175 = .ok (.if_icmp .ge 22, 3) := by decide +kernel
theorem dX11_init_178 : decode cX11_init 178 = .ok (.aload_n 0, 1) := by decide +kernel
theorem dX11_init_179 : decode cX11_init 179 = .ok (.getfield 11, 3) := by decide +kernel
theorem dX11_init_182 : decode cX11_init 182 = .ok (.iload_n 1, 1) := by decide +kernel
theorem dX11_init_183 : decode cX11_init 183 = .ok (.new 9, 3) := by decide +kernel
theorem dX11_init_186 : decode cX11_init 186 = .ok (.dup, 1) := by decide +kernel
theorem dX11_init_187 : decode cX11_init 187 = .ok (.invokespecial 95, 3) := by decide +kernel
theorem dX11_init_190 : decode cX11_init 190 = .ok (.aastore, 1) := by decide +kernel
theorem dX11_init_191 : decode cX11_init 191 = .ok (.iinc 1 1, 3) := by decide +kernel
theorem dX11_init_194 : decode cX11_init 194 = .ok (.goto (-22), 3) := by decide +kernel
theorem dX11_init_197 : decode cX11_init 197 = .ok (.return_, 1) := by decide +kernel
theorem dX11_sheet_0 : decode cX11_sheet 0 = .ok (.aload_n 0, 1) := by decide +kernel
theorem dX11_sheet_1 : decode cX11_sheet 1 = .ok (.iload_n 1, 1) := by decide +kernel
theorem dX11_sheet_2 : decode cX11_sheet 2 = .ok (.invokevirtual 96, 3) := by decide +kernel
theorem dX11_sheet_5 : decode cX11_sheet 5 = .ok (.astore 4, 2) := by decide +kernel
theorem dX11_sheet_7 : decode cX11_sheet 7 = .ok (.aload 4, 2) := by decide +kernel
theorem dX11_sheet_9 : decode cX11_sheet 9 = .ok (.ifnull 18, 3) := by decide +kernel
theorem dX11_sheet_12 : decode cX11_sheet 12 = .ok (.iload_n 2, 1) := by decide +kernel
theorem dX11_sheet_13 : decode cX11_sheet 13 = .ok (.ifCond .lt 14, 3) := by decide +kernel
theorem dX11_sheet_16 : decode cX11_sheet 16 = .ok (.iload_n 2, 1) := by decide +kernel
theorem dX11_sheet_17 : decode cX11_sheet 17 = .ok (.iconst 3, 1) := by decide +kernel
theorem dX11_sheet_18 : decode cX11_sheet 18 = .ok (.if_icmp .ge 9, 3) := by decide +kernel
theorem dX11_sheet_21 : decode cX11_sheet 21 = .ok (.iload_n 3, 1) := by decide +kernel
theorem dX11_sheet_22 : decode cX11_sheet 22 = .ok (.bipush 48, 2) := by decide +kernel
theorem dX11_sheet_24 : decode cX11_sheet 24 = .ok (.if_icmp .le 6, 3) := by decide +kernel
theorem dX11_sheet_27 : decode cX11_sheet 27 = .ok (.ldc 100, 2) := by decide +kernel
theorem dX11_sheet_29 : decode cX11_sheet 29 = .ok (.ireturn, 1) := by decide +kernel
theorem dX11_sheet_30 : decode cX11_sheet 30 = .ok (.iload_n 3, 1) := by decide +kernel
theorem dX11_sheet_31 : decode cX11_sheet 31 = .ok (.ifCond .ge 9, 3) := by decide +kernel
theorem dX11_sheet_34 : decode cX11_sheet 34 = .ok (.aload_n 0, 1) := by decide +kernel
theorem dX11_sheet_35 : decode cX11_sheet 35 = .ok (.iconst 4, 1) := by decide +kernel
theorem dX11_sheet_36 : decode cX11_sheet 36 = .ok (.invokevirtual 101, 3) := by decide +kernel
theorem dX11_sheet_39 : decode cX11_sheet 39 = .ok (.ireturn, 1) := by decide +kernel
theorem dX11_sheet_40 : decode cX11_sheet 40 = .ok (.aload 4, 2) := by decide +kernel
theorem dX11_sheet_42 : decode cX11_sheet 42 = .ok (.iload_n 2, 1) := by decide +kernel
theorem dX11_sheet_43 : decode cX11_sheet 43 = .ok (.iload_n 3, 1) := by decide +kernel
theorem dX11_sheet_44 : decode cX11_sheet 44 = .ok (.invokevirtual 105, 3) := by decide +kernel
theorem dX11_sheet_47 : decode cX11_sheet 47 = .ok (.aload_n 0, 1) := by decide +kernel
theorem dX11_sheet_48 : decode cX11_sheet 48 = .ok (.iload_n 3, 1) := by decide +kernel
theorem dX11_sheet_49 : decode cX11_sheet 49 = .ok (.invokevirtual 109, 3) := by decide +kernel
theorem dX11_sheet_52 : decode cX11_sheet 52 = .ok (.ireturn, 1) := by decide +kernel
theorem dX11_set_0 : decode cX11_set 0 = .ok (.aload_n 0, 1) := by decide +kernel
theorem dX11_set_1 : decode cX11_set 1 = .ok (.iload_n 1, 1) := by decide +kernel
theorem dX11_set_2 : decode cX11_set 2 = .ok (.invokevirtual 96, 3) := by decide +kernel
theorem dX11_set_5 : decode cX11_set 5 = .ok (.astore 4, 2) := by decide +kernel
theorem dX11_set_7 : decode cX11_set 7 = .ok (.aload 4, 2) := by decide +kernel
theorem dX11_set_9 : decode cX11_set 9 = .ok (.ifnonnull 6, 3) := by decide +kernel
theorem dX11_set_12 : decode cX11_set 12 = .ok (.ldc 100, 2) := by decide +kernel
theorem dX11_set_14 : decode cX11_set 14 = .ok (.ireturn, 1) := by decide +kernel
theorem dX11_set_15 : decode cX11_set 15 = .ok (.aload 4, 2) := by decide +kernel
theorem dX11_set_17 : decode cX11_set 17 = .ok (.iload_n 2, 1) := by decide +kernel
theorem dX11_set_18 : decode cX11_set 18 = .ok (.iconst 1, 1) := by decide +kernel
theorem dX11_set_19 : decode cX11_set 19 = .ok (.invokevirtual 112, 3) := by decide +kernel
theorem dX11_set_22 : decode cX11_set 22 = .ok (.istore 5, 2) := by decide +kernel
theorem dX11_set_24 : decode cX11_set 24 = .ok (.iload 5, 2) := by decide +kernel
theorem dX11_set_26 : decode cX11_set 26 = .ok (.ifCond .eq 12, 3) := by decide +kernel
theorem dX11_set_29 : decode cX11_set 29 = .ok (.aload_n 0, 1) := by decide +kernel
theorem dX11_set_30 : decode cX11_set 30 = .ok (.iload 5, 2) := by decide +kernel
theorem dX11_set_32 : decode cX11_set 32 = .ok (.invokevirtual 101, 3) := by decide +kernel
theorem dX11_set_35 : decode cX11_set 35 = .ok (.goto 14, 3) := by decide +kernel
theorem dX11_set_38 : decode cX11_set 38 = .ok (.aload_n 0, 1) := by decide +kernel
theorem dX11_set_39 : decode cX11_set 39 = .ok (.aload 4, 2) := by decide +kernel
theorem dX11_set_41 : decode cX11_set 41 = .ok (.iload_n 2, 1) := by decide +kernel
theorem dX11_set_42 : decode cX11_set 42 = .ok (.iload_n 3, 1) := by decide +kernel
theorem dX11_set_43 : decode cX11_set 43 = .ok (.invokevirtual 116, 3) := by decide +kernel
theorem dX11_set_46 : decode cX11_set 46 = .ok (.invokevirtual 109, 3) := by decide +kernel
theorem dX11_set_49 : decode cX11_set 49 = .ok (.ireturn, 1) := by decide +kernel
theorem dX11_copy_0 : decode cX11_copy 0 = .ok (.aload_n 0, 1) := by decide +kernel
theorem dX11_copy_1 : decode cX11_copy 1 = .ok (.iload_n 1, 1) := by decide +kernel
theorem dX11_copy_2 : decode cX11_copy 2 = .ok (.invokevirtual 96, 3) := by decide +kernel
theorem dX11_copy_5 : decode cX11_copy 5 = .ok (.astore 6, 2) := by decide +kernel
theorem dX11_copy_7 : decode cX11_copy 7 = .ok (.aload_n 0, 1) := by decide +kernel
theorem dX11_copy_8 : decode cX11_copy 8 = .ok (.iload_n 3, 1) := by decide +kernel
theorem dX11_copy_9 : decode cX11_copy 9 = .ok (.invokevirtual 96, 3) := by decide +kernel
theorem dX11_copy_12 : decode cX11_copy 12 = .ok (.astore 7, 2) := by decide +kernel
theorem dX11_copy_14 : decode cX11_copy 14 = .ok (.aload 6, 2) := by decide +kernel
theorem dX11_copy_16 : decode cX11_copy 16 = .ok (.ifnull 8, 3) := by decide +kernel
theorem dX11_copy_19 : decode cX11_copy 19 = .ok (.aload 7, 2) := by decide +kernel
theorem dX11_copy_21 : decode cX11_copy 21 = .ok (.ifnonnull 6, 3) := by decide +kernel
theorem dX11_copy_24 : decode cX11_copy 24 = .ok (.ldc 100, 2) := by decide +kernel
theorem dX11_copy_26 : decode cX11_copy 26 = .ok (.ireturn, 1) := by decide +kernel
theorem dX11_copy_27 : decode cX11_copy 27 = .ok (.aload 6, 2) := by decide +kernel
theorem dX11_copy_29 : decode cX11_copy 29 = .ok (.invokevirtual 119, 3) := by decide +kernel
theorem dX11_copy_32 : decode cX11_copy 32 = .ok (.ifCond .ne 11, 3) := by decide +kernel
theorem dX11_copy_35 : decode cX11_copy 35 = .ok (.aload 7, 2) := by decide +kernel
theorem dX11_copy_37 : decode cX11_copy 37 = .ok (.invokevirtual 119, 3) := by decide +kernel
theorem dX11_copy_40 : decode cX11_copy 40 = .ok (.ifCond .eq 9, 3) := by decide +kernel
theorem dX11_copy_43 : decode cX11_copy 43 = .ok (.aload_n 0, 1) := by decide +kernel
theorem dX11_copy_44 : decode cX11_copy 44 = .ok (.iconst 1, 1) := by decide +kernel
theorem dX11_copy_45 : decode cX11_copy 45 = .ok (.invokevirtual 101, 3) := by decide +kernel
theorem dX11_copy_48 : decode cX11_copy 48 = .ok (.ireturn, 1) := by decide +kernel
theorem dX11_copy_49 : decode cX11_copy 49 = .ok (.aload 6, 2) := by decide +kernel
theorem dX11_copy_51 : decode cX11_copy 51 = .ok (.getfield 123, 3) := by decide +kernel
theorem dX11_copy_54 : decode cX11_copy 54 = .ok (.aload 7, 2) := by decide +kernel
theorem dX11_copy_56 : decode cX11_copy 56 = .ok (.getfield 123, 3) := by decide +kernel
theorem dX11_copy_59 : decode cX11_copy 59 = .ok (.if_icmp .eq 9, 3) := by decide +kernel
theorem dX11_copy_62 : decode cX11_copy 62 = .ok (.aload_n 0, 1) := by decide +kernel
theorem dX11_copy_63 : decode cX11_copy 63 = .ok (.iconst 5, 1) := by decide +kernel
theorem dX11_copy_64 : decode cX11_copy 64 = .ok (.invokevirtual 101, 3) := by decide +kernel
theorem dX11_copy_67 : decode cX11_copy 67 = .ok (.ireturn, 1) := by decide +kernel
theorem dX11_copy_68 : decode cX11_copy 68 = .ok (.aload 6, 2) := by decide +kernel
theorem dX11_copy_70 : decode cX11_copy 70 = .ok (.iload_n 2, 1) := by decide +kernel
theorem dX11_copy_71 : decode cX11_copy 71 = .ok (.iload 5, 2) := by decide +kernel
theorem dX11_copy_73 : decode cX11_copy 73 = .ok (.invokevirtual 126, 3) := by decide +kernel
theorem dX11_copy_76 : decode cX11_copy 76 = .ok (.ifCond .eq 15, 3) := by decide +kernel
theorem dX11_copy_79 : decode cX11_copy 79 = .ok (.aload 7, 2) := by decide +kernel
theorem dX11_copy_81 : decode cX11_copy 81 = .ok (.iload 4, 2) := by decide +kernel
theorem dX11_copy_83 : decode cX11_copy 83 = .ok (.iload 5, 2) := by decide +kernel
theorem dX11_copy_85 : decode cX11_copy 85 = .ok (.invokevirtual 126, 3) := by decide +kernel
theorem dX11_copy_88 : decode cX11_copy 88 = .ok (.ifCond .ne 9, 3) := by decide +kernel
theorem dX11_copy_91 : decode cX11_copy 91 = .ok (.aload_n 0, 1) := by decide +kernel
theorem dX11_copy_92 : decode cX11_copy 92 = .ok (.iconst 2, 1) := by decide +kernel
theorem dX11_copy_93 : decode cX11_copy 93 = .ok (.invokevirtual 101, 3) := by decide +kernel
theorem dX11_copy_96 : decode cX11_copy 96 = .ok (.ireturn, 1) := by decide +kernel
theorem dX11_copy_97 : decode cX11_copy 97 = .ok (.aload 6, 2) := by decide +kernel
theorem dX11_copy_99 : decode cX11_copy 99 = .ok (.getfield 130, 3) := by decide +kernel
theorem dX11_copy_102 : decode cX11_copy 102 = .ok (.iload_n 2, 1) := by decide +kernel
theorem dX11_copy_103 : decode cX11_copy 103 = .ok (.aload 7, 2) := by decide +kernel
theorem dX11_copy_105 : decode cX11_copy 105 = .ok (.getfield 130, 3) := by decide +kernel
theorem dX11_copy_108 : decode cX11_copy 108 = .ok (.iload 4, 2) := by decide +kernel
theorem dX11_copy_110 : decode cX11_copy 110 = .ok (.iload 5, 2) := by decide +kernel
theorem dX11_copy_112 : decode cX11_copy 112 = .ok (.invokestatic 134, 3) := by decide +kernel
theorem dX11_copy_115 : decode cX11_copy 115 = .ok (.aload_n 0, 1) := by decide +kernel
theorem dX11_copy_116 : decode cX11_copy 116 = .ok (.iload 5, 2) := by decide +kernel
theorem dX11_copy_118 : decode cX11_copy 118 = .ok (.invokevirtual 109, 3) := by decide +kernel
theorem dX11_copy_121 : decode cX11_copy 121 = .ok (.ireturn, 1) := by decide +kernel
theorem dX11_drop_0 : decode cX11_drop 0 = .ok (.aload_n 0, 1) := by decide +kernel
theorem dX11_drop_1 : decode cX11_drop 1 = .ok (.iload_n 1, 1) := by decide +kernel
theorem dX11_drop_2 : decode cX11_drop 2 = .ok (.invokevirtual 96, 3) := by decide +kernel
theorem dX11_drop_5 : decode cX11_drop 5 = .ok (.astore_n 2, 1) := by decide +kernel
theorem dX11_drop_6 : decode cX11_drop 6 = .ok (.aload_n 2, 1) := by decide +kernel
theorem dX11_drop_7 : decode cX11_drop 7 = .ok (.ifnonnull 6, 3) := by decide +kernel
theorem dX11_drop_10 : decode cX11_drop 10 = .ok (.ldc 100, 2) := by decide +kernel
theorem dX11_drop_12 : decode cX11_drop 12 = .ok (.ireturn, 1) := by decide +kernel
theorem dX11_drop_13 : decode cX11_drop 13 = .ok (.aload_n 2, 1) := by decide +kernel
theorem dX11_drop_14 : decode cX11_drop 14 = .ok (.invokevirtual 119, 3) := by decide +kernel
theorem dX11_drop_17 : decode cX11_drop 17 = .ok (.ifCond .eq 11, 3) := by decide +kernel
theorem dX11_drop_20 : decode cX11_drop 20 = .ok (.aload_n 0, 1) := by decide +kernel
theorem dX11_drop_21 : decode cX11_drop 21 = .ok (.iconst 1, 1) := by decide +kernel
theorem dX11_drop_22 : decode cX11_drop 22 = .ok (.invokevirtual 101, 3) := by decide +kernel
theorem dX11_drop_25 : decode cX11_drop 25 = .ok (.goto 11, 3) := by decide +kernel
theorem dX11_drop_28 : decode cX11_drop 28 = .ok (.aload_n 0, 1) := by decide +kernel
theorem dX11_drop_29 : decode cX11_drop 29 = .ok (.aload_n 2, 1) := by decide +kernel
theorem dX11_drop_30 : decode cX11_drop 30 = .ok (.invokevirtual 140, 3) := by decide +kernel
theorem dX11_drop_33 : decode cX11_drop 33 = .ok (.invokevirtual 109, 3) := by decide +kernel
theorem dX11_drop_36 : decode cX11_drop 36 = .ok (.ireturn, 1) := by decide +kernel
theorem dX11_bears_0 : decode cX11_bears 0 = .ok (.iload_n 1, 1) := by decide +kernel
theorem dX11_bears_1 : decode cX11_bears 1 = .ok (.invokestatic 144, 3) := by decide +kernel
theorem dX11_bears_4 : decode cX11_bears 4 = .ok (.ifCond .eq 12, 3) := by decide +kernel
theorem dX11_bears_7 : decode cX11_bears 7 = .ok (.iload_n 2, 1) := by decide +kernel
theorem dX11_bears_8 : decode cX11_bears 8 = .ok (.iload 5, 2) := by decide +kernel
theorem dX11_bears_10 : decode cX11_bears 10 = .ok (.invokestatic 148, 3) := by decide +kernel
theorem dX11_bears_13 : decode cX11_bears 13 = .ok (.ifCond .ne 6, 3) := by decide +kernel
theorem dX11_bears_16 : decode cX11_bears 16 = .ok (.ldc 100, 2) := by decide +kernel
theorem dX11_bears_18 : decode cX11_bears 18 = .ok (.ireturn, 1) := by decide +kernel
theorem dX11_bears_19 : decode cX11_bears 19 = .ok (.aload_n 0, 1) := by decide +kernel
theorem dX11_bears_20 : decode cX11_bears 20 = .ok (.aload_n 0, 1) := by decide +kernel
theorem dX11_bears_21 : decode cX11_bears 21 = .ok (.getfield 18, 3) := by decide +kernel
theorem dX11_bears_24 : decode cX11_bears 24 = .ok (.getfield 151, 3) := by decide +kernel
theorem dX11_bears_27 : decode cX11_bears 27 = .ok (.iload_n 1, 1) := by decide +kernel
theorem dX11_bears_28 : decode cX11_bears 28 = .ok (.iload_n 2, 1) := by decide +kernel
theorem dX11_bears_29 : decode cX11_bears 29 = .ok (.invokestatic 154, 3) := by decide +kernel
theorem dX11_bears_32 : decode cX11_bears 32 = .ok (.iload_n 3, 1) := by decide +kernel
theorem dX11_bears_33 : decode cX11_bears 33 = .ok (.iload 4, 2) := by decide +kernel
theorem dX11_bears_35 : decode cX11_bears 35 = .ok (.iload 5, 2) := by decide +kernel
theorem dX11_bears_37 : decode cX11_bears 37 = .ok (.bipush 99, 2) := by decide +kernel
theorem dX11_bears_39 : decode cX11_bears 39 = .ok (.invokevirtual 157, 3) := by decide +kernel
theorem dX11_bears_42 : decode cX11_bears 42 = .ok (.ireturn, 1) := by decide +kernel
theorem dX11_staff_0 : decode cX11_staff 0 = .ok (.iload_n 1, 1) := by decide +kernel
theorem dX11_staff_1 : decode cX11_staff 1 = .ok (.iload 4, 2) := by decide +kernel
theorem dX11_staff_3 : decode cX11_staff 3 = .ok (.invokestatic 148, 3) := by decide +kernel
theorem dX11_staff_6 : decode cX11_staff 6 = .ok (.ifCond .ne 6, 3) := by decide +kernel
theorem dX11_staff_9 : decode cX11_staff 9 = .ok (.ldc 100, 2) := by decide +kernel
theorem dX11_staff_11 : decode cX11_staff 11 = .ok (.ireturn, 1) := by decide +kernel
theorem dX11_staff_12 : decode cX11_staff 12 = .ok (.aload_n 0, 1) := by decide +kernel
theorem dX11_staff_13 : decode cX11_staff 13 = .ok (.aload_n 0, 1) := by decide +kernel
theorem dX11_staff_14 : decode cX11_staff 14 = .ok (.getfield 18, 3) := by decide +kernel
theorem dX11_staff_17 : decode cX11_staff 17 = .ok (.getfield 161, 3) := by decide +kernel
theorem dX11_staff_20 : decode cX11_staff 20 = .ok (.iload_n 1, 1) := by decide +kernel
theorem dX11_staff_21 : decode cX11_staff 21 = .ok (.iload_n 2, 1) := by decide +kernel
theorem dX11_staff_22 : decode cX11_staff 22 = .ok (.iload_n 3, 1) := by decide +kernel
theorem dX11_staff_23 : decode cX11_staff 23 = .ok (.iload 4, 2) := by decide +kernel
theorem dX11_staff_25 : decode cX11_staff 25 = .ok (.bipush 9, 2) := by decide +kernel
theorem dX11_staff_27 : decode cX11_staff 27 = .ok (.invokevirtual 157, 3) := by decide +kernel
theorem dX11_staff_30 : decode cX11_staff 30 = .ok (.ireturn, 1) := by decide +kernel
theorem dX11_look_0 : decode cX11_look 0 = .ok (.iload_n 1, 1) := by decide +kernel
theorem dX11_look_1 : decode cX11_look 1 = .ok (.iconst 1, 1) := by decide +kernel
theorem dX11_look_2 : decode cX11_look 2 = .ok (.if_icmp .lt 9, 3) := by decide +kernel
theorem dX11_look_5 : decode cX11_look 5 = .ok (.iload_n 1, 1) := by decide +kernel
theorem dX11_look_6 : decode cX11_look 6 = .ok (.bipush 16, 2) := by decide +kernel
theorem dX11_look_8 : decode cX11_look 8 = .ok (.if_icmp .lt 6, 3) := by decide +kernel
theorem dX11_look_11 : decode cX11_look 11 = .ok (.ldc 100, 2) := by decide +kernel
theorem dX11_look_13 : decode cX11_look 13 = .ok (.ireturn, 1) := by decide +kernel
theorem dX11_look_14 : decode cX11_look 14 = .ok (.aload_n 0, 1) := by decide +kernel
theorem dX11_look_15 : decode cX11_look 15 = .ok (.getfield 18, 3) := by decide +kernel
theorem dX11_look_18 : decode cX11_look 18 = .ok (.getfield 164, 3) := by decide +kernel
theorem dX11_look_21 : decode cX11_look 21 = .ok (.istore_n 2, 1) := by decide +kernel
theorem dX11_look_22 : decode cX11_look 22 = .ok (.aload_n 0, 1) := by decide +kernel
theorem dX11_look_23 : decode cX11_look 23 = .ok (.getfield 18, 3) := by decide +kernel
theorem dX11_look_26 : decode cX11_look 26 = .ok (.iload_n 1, 1) := by decide +kernel
theorem dX11_look_27 : decode cX11_look 27 = .ok (.putfield 164, 3) := by decide +kernel
theorem dX11_look_30 : decode cX11_look 30 = .ok (.iload_n 2, 1) := by decide +kernel
theorem dX11_look_31 : decode cX11_look 31 = .ok (.ireturn, 1) := by decide +kernel
theorem dX11_safe_0 : decode cX11_safe 0 = .ok (.iload_n 3, 1) := by decide +kernel
theorem dX11_safe_1 : decode cX11_safe 1 = .ok (.ifCond .lt 12, 3) := by decide +kernel
theorem dX11_safe_4 : decode cX11_safe 4 = .ok (.iload_n 3, 1) := by decide +kernel
theorem dX11_safe_5 : decode cX11_safe 5 = .ok (.iconst 4, 1) := by decide +kernel
theorem dX11_safe_6 : decode cX11_safe 6 = .ok (.if_icmp .ge 7, 3) := by decide +kernel
theorem dX11_safe_9 : decode cX11_safe 9 = .ok (.iconst 1, 1) := by decide +kernel
theorem dX11_safe_10 : decode cX11_safe 10 = .ok (.goto 4, 3) := by decide +kernel
theorem dX11_safe_13 : decode cX11_safe 13 = .ok (.iconst 0, 1) := by decide +kernel
theorem dX11_safe_14 : decode cX11_safe 14 = .ok (.istore 4, 2) := by decide +kernel
theorem dX11_safe_16 : decode cX11_safe 16 = .ok (.iload_n 1, 1) := by decide +kernel
theorem dX11_safe_17 : decode cX11_safe 17 = .ok (.invokestatic 144, 3) := by decide +kernel
theorem dX11_safe_20 : decode cX11_safe 20 = .ok (.ifCond .eq 21, 3) := by decide +kernel
theorem dX11_safe_23 : decode cX11_safe 23 = .ok (.iload_n 2, 1) := by decide +kernel
theorem dX11_safe_24 : decode cX11_safe 24 = .ok (.invokestatic 167, 3) := by decide +kernel
theorem dX11_safe_27 : decode cX11_safe 27 = .ok (.ifCond .eq 14, 3) := by decide +kernel
theorem dX11_safe_30 : decode cX11_safe 30 = .ok (.iload 4, 2) := by decide +kernel
theorem dX11_safe_32 : decode cX11_safe 32 = .ok (.ifCond .ne 12, 3) := by decide +kernel
theorem dX11_safe_35 : decode cX11_safe 35 = .ok (.iload_n 3, 1) := by decide +kernel
theorem dX11_safe_36 : decode cX11_safe 36 = .ok (.ldc 170, 2) := by decide +kernel
theorem dX11_safe_38 : decode cX11_safe 38 = .ok (.if_icmp .eq 6, 3) := by decide +kernel
theorem dX11_safe_41 : decode cX11_safe 41 = .ok (.ldc 100, 2) := by decide +kernel
theorem dX11_safe_43 : decode cX11_safe 43 = .ok (.ireturn, 1) := by decide +kernel
theorem dX11_safe_44 : decode cX11_safe 44 = .ok (.aload_n 0, 1) := by decide +kernel
theorem dX11_safe_45 : decode cX11_safe 45 = .ok (.getfield 18, 3) := by decide +kernel
theorem dX11_safe_48 : decode cX11_safe 48 = .ok (.iload_n 1, 1) := by decide +kernel
theorem dX11_safe_49 : decode cX11_safe 49 = .ok (.iload_n 2, 1) := by decide +kernel
theorem dX11_safe_50 : decode cX11_safe 50 = .ok (.iload 4, 2) := by decide +kernel
theorem dX11_safe_52 : decode cX11_safe 52 = .ok (.ifCond .eq 9, 3) := by decide +kernel
theorem dX11_safe_55 : decode cX11_safe 55 = .ok (.iconst 1, 1) := by decide +kernel
theorem dX11_safe_56 : decode cX11_safe 56 = .ok (.iload_n 3, 1) := by decide +kernel
theorem dX11_safe_57 : decode cX11_safe 57 = .ok (.ishl, 1) := by decide +kernel
theorem dX11_safe_58 : decode cX11_safe 58 = .ok (.goto 10, 3) := by decide +kernel
theorem dX11_safe_61 : decode cX11_safe 61 = .ok (.aload_n 0, 1) := by decide +kernel
theorem dX11_safe_62 : decode cX11_safe 62 = .ok (.getfield 18, 3) := by decide +kernel
theorem dX11_safe_65 : decode cX11_safe 65 = .ok (.getfield 164, 3) := by decide +kernel
theorem dX11_safe_68 : decode cX11_safe 68 = .ok (.invokevirtual 171, 3) := by decide +kernel
theorem dX11_safe_71 : decode cX11_safe 71 = .ok (.ireturn, 1) := by decide +kernel
theorem dX11_feed_0 : decode cX11_feed 0 = .ok (.iload_n 3, 1) := by decide +kernel
theorem dX11_feed_1 : decode cX11_feed 1 = .ok (.iconst 1, 1) := by decide +kernel
theorem dX11_feed_2 : decode cX11_feed 2 = .ok (.if_icmp .lt 9, 3) := by decide +kernel
theorem dX11_feed_5 : decode cX11_feed 5 = .ok (.iload_n 3, 1) := by decide +kernel
theorem dX11_feed_6 : decode cX11_feed 6 = .ok (.bipush 8, 2) := by decide +kernel
theorem dX11_feed_8 : decode cX11_feed 8 = .ok (.if_icmp .le 6, 3) := by decide +kernel
theorem dX11_feed_11 : decode cX11_feed 11 = .ok (.ldc 100, 2) := by decide +kernel
theorem dX11_feed_13 : decode cX11_feed 13 = .ok (.ireturn, 1) := by decide +kernel
theorem dX11_feed_14 : decode cX11_feed 14 = .ok (.aload_n 0, 1) := by decide +kernel
theorem dX11_feed_15 : decode cX11_feed 15 = .ok (.getfield 32, 3) := by decide +kernel
theorem dX11_feed_18 : decode cX11_feed 18 = .ok (.lload_n 1, 1) := by decide +kernel
theorem dX11_feed_19 : decode cX11_feed 19 = .ok (.iload_n 3, 1) := by decide +kernel
theorem dX11_feed_20 : decode cX11_feed 20 = .ok (.invokevirtual 175, 3) := by decide +kernel
theorem dX11_feed_23 : decode cX11_feed 23 = .ok (.ifCond .eq 13, 3) := by decide +kernel
theorem dX11_feed_26 : decode cX11_feed 26 = .ok (.aload_n 0, 1) := by decide +kernel
theorem dX11_feed_27 : decode cX11_feed 27 = .ok (.getfield 32, 3) := by decide +kernel
theorem dX11_feed_30 : decode cX11_feed 30 = .ok (.getfield 179, 3) := by decide +kernel
theorem dX11_feed_33 : decode cX11_feed 33 = .ok (.goto 5, 3) := by decide +kernel
theorem dX11_feed_36 : decode cX11_feed 36 = .ok (.ldc 182, 2) := by decide +kernel
theorem dX11_feed_38 : decode cX11_feed 38 = .ok (.ireturn, 1) := by decide +kernel
theorem dX11_read_0 : decode cX11_read 0 = .ok (.aload_n 0, 1) := by decide +kernel
theorem dX11_read_1 : decode cX11_read 1 = .ok (.getfield 41, 3) := by decide +kernel
theorem dX11_read_4 : decode cX11_read 4 = .ok (.invokevirtual 183, 3) := by decide +kernel
theorem dX11_read_7 : decode cX11_read 7 = .ok (.istore_n 1, 1) := by decide +kernel
theorem dX11_read_8 : decode cX11_read 8 = .ok (.aload_n 0, 1) := by decide +kernel
theorem dX11_read_9 : decode cX11_read 9 = .ok (.getfield 32, 3) := by decide +kernel
theorem dX11_read_12 : decode cX11_read 12 = .ok (.iconst 0, 1) := by decide +kernel
theorem dX11_read_13 : decode cX11_read 13 = .ok (.putfield 179, 3) := by decide +kernel
theorem dX11_read_16 : decode cX11_read 16 = .ok (.iload_n 1, 1) := by decide +kernel
theorem dX11_read_17 : decode cX11_read 17 = .ok (.ifCond .ne 25, 3) := by decide +kernel
theorem dX11_read_20 : decode cX11_read 20 = .ok (.aload_n 0, 1) := by decide +kernel
theorem dX11_read_21 : decode cX11_read 21 = .ok (.aload_n 0, 1) := by decide +kernel
theorem dX11_read_22 : decode cX11_read 22 = .ok (.getfield 41, 3) := by decide +kernel
theorem dX11_read_25 : decode cX11_read 25 = .ok (.getfield 186, 3) := by decide +kernel
theorem dX11_read_28 : decode cX11_read 28 = .ok (.putfield 92, 3) := by decide +kernel
theorem dX11_read_31 : decode cX11_read 31 = .ok (.ldc 189, 2) := by decide +kernel
theorem dX11_read_33 : decode cX11_read 33 = .ok (.aload_n 0, 1) := by decide +kernel
theorem dX11_read_34 : decode cX11_read 34 = .ok (.getfield 41, 3) := by decide +kernel
theorem dX11_read_37 : decode cX11_read 37 = .ok (.getfield 190, 3) := by decide +kernel
theorem dX11_read_40 : decode cX11_read 40 = .ok (.isub, 1) := by decide +kernel
theorem dX11_read_41 : decode cX11_read 41 = .ok (.ireturn, 1) := by decide +kernel
theorem dX11_read_42 : decode cX11_read 42 = .ok (.aload_n 0, 1) := by decide +kernel
theorem dX11_read_43 : decode cX11_read 43 = .ok (.getfield 41, 3) := by decide +kernel
theorem dX11_read_46 : decode cX11_read 46 = .ok (.invokevirtual 193, 3) := by decide +kernel
theorem dX11_read_49 : decode cX11_read 49 = .ok (.aload_n 0, 1) := by decide +kernel
theorem dX11_read_50 : decode cX11_read 50 = .ok (.getfield 25, 3) := by decide +kernel
theorem dX11_read_53 : decode cX11_read 53 = .ok (.getfield 196, 3) := by decide +kernel
theorem dX11_read_56 : decode cX11_read 56 = .ok (.ireturn, 1) := by decide +kernel
theorem dX11_fault_0 : decode cX11_fault 0 = .ok (.aload_n 0, 1) := by decide +kernel
theorem dX11_fault_1 : decode cX11_fault 1 = .ok (.getfield 92, 3) := by decide +kernel
theorem dX11_fault_4 : decode cX11_fault 4 = .ok (.ireturn, 1) := by decide +kernel
theorem dX11_told_0 : decode cX11_told 0 = .ok (.aload_n 0, 1) := by decide +kernel
theorem dX11_told_1 : decode cX11_told 1 = .ok (.getfield 25, 3) := by decide +kernel
theorem dX11_told_4 : decode cX11_told 4 = .ok (.iload_n 1, 1) := by decide +kernel
theorem dX11_told_5 : decode cX11_told 5 = .ok (.invokevirtual 199, 3) := by decide +kernel
theorem dX11_told_8 : decode cX11_told 8 = .ok (.astore_n 3, 1) := by decide +kernel
theorem dX11_told_9 : decode cX11_told 9 = .ok (.aload_n 3, 1) := by decide +kernel
theorem dX11_told_10 : decode cX11_told 10 = .ok (.ifnonnull 6, 3) := by decide +kernel
theorem dX11_told_13 : decode cX11_told 13 = .ok (.ldc 100, 2) := by decide +kernel
theorem dX11_told_15 : decode cX11_told 15 = .ok (.ireturn, 1) := by decide +kernel
theorem dX11_told_16 : decode cX11_told 16 = .ok (.iload_n 2, 1) := by decide +kernel
theorem dX11_told_17 : decode cX11_told 17 = .ok (.tableswitch 87 0 7 #[47, 52, 57, 62, 67, 72, 77, 82], 47) := by decide +kernel
theorem dX11_told_64 : decode cX11_told 64 = .ok (.aload_n 3, 1) := by decide +kernel
theorem dX11_told_65 : decode cX11_told 65 = .ok (.getfield 203, 3) := by decide +kernel
theorem dX11_told_68 : decode cX11_told 68 = .ok (.ireturn, 1) := by decide +kernel
theorem dX11_told_69 : decode cX11_told 69 = .ok (.aload_n 3, 1) := by decide +kernel
theorem dX11_told_70 : decode cX11_told 70 = .ok (.getfield 208, 3) := by decide +kernel
theorem dX11_told_73 : decode cX11_told 73 = .ok (.ireturn, 1) := by decide +kernel
theorem dX11_told_74 : decode cX11_told 74 = .ok (.aload_n 3, 1) := by decide +kernel
theorem dX11_told_75 : decode cX11_told 75 = .ok (.getfield 211, 3) := by decide +kernel
theorem dX11_told_78 : decode cX11_told 78 = .ok (.ireturn, 1) := by decide +kernel
theorem dX11_told_79 : decode cX11_told 79 = .ok (.aload_n 3, 1) := by decide +kernel
theorem dX11_told_80 : decode cX11_told 80 = .ok (.getfield 214, 3) := by decide +kernel
theorem dX11_told_83 : decode cX11_told 83 = .ok (.ireturn, 1) := by decide +kernel
theorem dX11_told_84 : decode cX11_told 84 = .ok (.aload_n 3, 1) := by decide +kernel
theorem dX11_told_85 : decode cX11_told 85 = .ok (.getfield 217, 3) := by decide +kernel
theorem dX11_told_88 : decode cX11_told 88 = .ok (.ireturn, 1) := by decide +kernel
theorem dX11_told_89 : decode cX11_told 89 = .ok (.aload_n 3, 1) := by decide +kernel
theorem dX11_told_90 : decode cX11_told 90 = .ok (.getfield 220, 3) := by decide +kernel
theorem dX11_told_93 : decode cX11_told 93 = .ok (.ireturn, 1) := by decide +kernel
theorem dX11_told_94 : decode cX11_told 94 = .ok (.aload_n 3, 1) := by decide +kernel
theorem dX11_told_95 : decode cX11_told 95 = .ok (.getfield 223, 3) := by decide +kernel
theorem dX11_told_98 : decode cX11_told 98 = .ok (.ireturn, 1) := by decide +kernel
theorem dX11_told_99 : decode cX11_told 99 = .ok (.aload_n 3, 1) := by decide +kernel
theorem dX11_told_100 : decode cX11_told 100 = .ok (.invokevirtual 226, 3) := by decide +kernel
theorem dX11_told_103 : decode cX11_told 103 = .ok (.ireturn, 1) := by decide +kernel
theorem dX11_told_104 : decode cX11_told 104 = .ok (.ldc 100, 2) := by decide +kernel
theorem dX11_told_106 : decode cX11_told 106 = .ok (.ireturn, 1) := by decide +kernel
theorem dX11_leg_0 : decode cX11_leg 0 = .ok (.aload_n 0, 1) := by decide +kernel
theorem dX11_leg_1 : decode cX11_leg 1 = .ok (.getfield 25, 3) := by decide +kernel
theorem dX11_leg_4 : decode cX11_leg 4 = .ok (.iload_n 1, 1) := by decide +kernel
theorem dX11_leg_5 : decode cX11_leg 5 = .ok (.invokevirtual 199, 3) := by decide +kernel
theorem dX11_leg_8 : decode cX11_leg 8 = .ok (.astore 5, 2) := by decide +kernel
theorem dX11_leg_10 : decode cX11_leg 10 = .ok (.aload 5, 2) := by decide +kernel
theorem dX11_leg_12 : decode cX11_leg 12 = .ok (.ifnull 23, 3) := by decide +kernel
theorem dX11_leg_15 : decode cX11_leg 15 = .ok (.aload 5, 2) := by decide +kernel
theorem dX11_leg_17 : decode cX11_leg 17 = .ok (.iload_n 2, 1) := by decide +kernel
theorem dX11_leg_18 : decode cX11_leg 18 = .ok (.invokevirtual 229, 3) := by decide +kernel
theorem dX11_leg_21 : decode cX11_leg 21 = .ok (.ifCond .eq 14, 3) := by decide +kernel
theorem dX11_leg_24 : decode cX11_leg 24 = .ok (.iload 4, 2) := by decide +kernel
theorem dX11_leg_26 : decode cX11_leg 26 = .ok (.ifCond .lt 9, 3) := by decide +kernel
theorem dX11_leg_29 : decode cX11_leg 29 = .ok (.iload 4, 2) := by decide +kernel
theorem dX11_leg_31 : decode cX11_leg 31 = .ok (.iconst 1, 1) := by decide +kernel
theorem dX11_leg_32 : decode cX11_leg 32 = .ok (.if_icmp .le 6, 3) := by decide +kernel
theorem dX11_leg_35 : decode cX11_leg 35 = .ok (.ldc 100, 2) := by decide +kernel
theorem dX11_leg_37 : decode cX11_leg 37 = .ok (.ireturn, 1) := by decide +kernel
theorem dX11_leg_38 : decode cX11_leg 38 = .ok (.iload_n 3, 1) := by decide +kernel
theorem dX11_leg_39 : decode cX11_leg 39 = .ok (.ifCond .lt 14, 3) := by decide +kernel
theorem dX11_leg_42 : decode cX11_leg 42 = .ok (.iload_n 3, 1) := by decide +kernel
theorem dX11_leg_43 : decode cX11_leg 43 = .ok (.aload 5, 2) := by decide +kernel
theorem dX11_leg_45 : decode cX11_leg 45 = .ok (.getfield 232, 3) := by decide +kernel
theorem dX11_leg_48 : decode cX11_leg 48 = .ok (.iload_n 2, 1) := by decide +kernel
theorem dX11_leg_49 : decode cX11_leg 49 = .ok (.iaload, 1) := by decide +kernel
theorem dX11_leg_50 : decode cX11_leg 50 = .ok (.if_icmp .lt 6, 3) := by decide +kernel
theorem dX11_leg_53 : decode cX11_leg 53 = .ok (.ldc 170, 2) := by decide +kernel
theorem dX11_leg_55 : decode cX11_leg 55 = .ok (.ireturn, 1) := by decide +kernel
theorem dX11_leg_56 : decode cX11_leg 56 = .ok (.iload_n 2, 1) := by decide +kernel
theorem dX11_leg_57 : decode cX11_leg 57 = .ok (.iconst 5, 1) := by decide +kernel
theorem dX11_leg_58 : decode cX11_leg 58 = .ok (.imul, 1) := by decide +kernel
theorem dX11_leg_59 : decode cX11_leg 59 = .ok (.iload_n 3, 1) := by decide +kernel
theorem dX11_leg_60 : decode cX11_leg 60 = .ok (.iadd, 1) := by decide +kernel
theorem dX11_leg_61 : decode cX11_leg 61 = .ok (.istore 6, 2) := by decide +kernel
theorem dX11_leg_63 : decode cX11_leg 63 = .ok (.iload 4, 2) := by decide +kernel
theorem dX11_leg_65 : decode cX11_leg 65 = .ok (.ifCond .ne 14, 3) := by decide +kernel
theorem dX11_leg_68 : decode cX11_leg 68 = .ok (.aload 5, 2) := by decide +kernel
theorem dX11_leg_70 : decode cX11_leg 70 = .ok (.getfield 235, 3) := by decide +kernel
theorem dX11_leg_73 : decode cX11_leg 73 = .ok (.iload 6, 2) := by decide +kernel
theorem dX11_leg_75 : decode cX11_leg 75 = .ok (.iaload, 1) := by decide +kernel
theorem dX11_leg_76 : decode cX11_leg 76 = .ok (.goto 11, 3) := by decide +kernel
theorem dX11_leg_79 : decode cX11_leg 79 = .ok (.aload 5, 2) := by decide +kernel
theorem dX11_leg_81 : decode cX11_leg 81 = .ok (.getfield 238, 3) := by decide +kernel
theorem dX11_leg_84 : decode cX11_leg 84 = .ok (.iload 6, 2) := by decide +kernel
theorem dX11_leg_86 : decode cX11_leg 86 = .ok (.iaload, 1) := by decide +kernel
theorem dX11_leg_87 : decode cX11_leg 87 = .ok (.ireturn, 1) := by decide +kernel
theorem dX11_choose_0 : decode cX11_choose 0 = .ok (.aload_n 0, 1) := by decide +kernel
theorem dX11_choose_1 : decode cX11_choose 1 = .ok (.getfield 25, 3) := by decide +kernel
theorem dX11_choose_4 : decode cX11_choose 4 = .ok (.iload_n 1, 1) := by decide +kernel
theorem dX11_choose_5 : decode cX11_choose 5 = .ok (.invokevirtual 199, 3) := by decide +kernel
theorem dX11_choose_8 : decode cX11_choose 8 = .ok (.astore 4, 2) := by decide +kernel
theorem dX11_choose_10 : decode cX11_choose 10 = .ok (.aload 4, 2) := by decide +kernel
theorem dX11_choose_12 : decode cX11_choose 12 = .ok (.ifnull 21, 3) := by decide +kernel
theorem dX11_choose_15 : decode cX11_choose 15 = .ok (.aload 4, 2) := by decide +kernel
theorem dX11_choose_17 : decode cX11_choose 17 = .ok (.iload_n 2, 1) := by decide +kernel
theorem dX11_choose_18 : decode cX11_choose 18 = .ok (.invokevirtual 229, 3) := by decide +kernel
theorem dX11_choose_21 : decode cX11_choose 21 = .ok (.ifCond .eq 12, 3) := by decide +kernel
theorem dX11_choose_24 : decode cX11_choose 24 = .ok (.iload_n 3, 1) := by decide +kernel
theorem dX11_choose_25 : decode cX11_choose 25 = .ok (.ifCond .lt 8, 3) := by decide +kernel
theorem dX11_choose_28 : decode cX11_choose 28 = .ok (.iload_n 3, 1) := by decide +kernel
theorem dX11_choose_29 : decode cX11_choose 29 = .ok (.iconst 4, 1) := by decide +kernel
theorem dX11_choose_30 : decode cX11_choose 30 = .ok (.if_icmp .le 6, 3) := by decide +kernel
theorem dX11_choose_33 : decode cX11_choose 33 = .ok (.ldc 100, 2) := by decide +kernel
theorem dX11_choose_35 : decode cX11_choose 35 = .ok (.ireturn, 1) := by decide +kernel
theorem dX11_choose_36 : decode cX11_choose 36 = .ok (.aload 4, 2) := by decide +kernel
theorem dX11_choose_38 : decode cX11_choose 38 = .ok (.iload_n 2, 1) := by decide +kernel
theorem dX11_choose_39 : decode cX11_choose 39 = .ok (.putfield 220, 3) := by decide +kernel
theorem dX11_choose_42 : decode cX11_choose 42 = .ok (.aload 4, 2) := by decide +kernel
theorem dX11_choose_44 : decode cX11_choose 44 = .ok (.iload_n 3, 1) := by decide +kernel
theorem dX11_choose_45 : decode cX11_choose 45 = .ok (.putfield 223, 3) := by decide +kernel
theorem dX11_choose_48 : decode cX11_choose 48 = .ok (.aload 4, 2) := by decide +kernel
theorem dX11_choose_50 : decode cX11_choose 50 = .ok (.invokevirtual 226, 3) := by decide +kernel
theorem dX11_choose_53 : decode cX11_choose 53 = .ok (.ireturn, 1) := by decide +kernel
theorem dX11_at_0 : decode cX11_at 0 = .ok (.aload_n 0, 1) := by decide +kernel
theorem dX11_at_1 : decode cX11_at 1 = .ok (.getfield 25, 3) := by decide +kernel
theorem dX11_at_4 : decode cX11_at 4 = .ok (.iload_n 1, 1) := by decide +kernel
theorem dX11_at_5 : decode cX11_at 5 = .ok (.invokevirtual 199, 3) := by decide +kernel
theorem dX11_at_8 : decode cX11_at 8 = .ok (.astore_n 3, 1) := by decide +kernel
theorem dX11_at_9 : decode cX11_at 9 = .ok (.aload_n 3, 1) := by decide +kernel
theorem dX11_at_10 : decode cX11_at 10 = .ok (.ifnull 10, 3) := by decide +kernel
theorem dX11_at_13 : decode cX11_at 13 = .ok (.iload_n 2, 1) := by decide +kernel
theorem dX11_at_14 : decode cX11_at 14 = .ok (.invokestatic 167, 3) := by decide +kernel
theorem dX11_at_17 : decode cX11_at 17 = .ok (.ifCond .ne 6, 3) := by decide +kernel
theorem dX11_at_20 : decode cX11_at 20 = .ok (.ldc 100, 2) := by decide +kernel
theorem dX11_at_22 : decode cX11_at 22 = .ok (.ireturn, 1) := by decide +kernel
theorem dX11_at_23 : decode cX11_at 23 = .ok (.aload_n 3, 1) := by decide +kernel
theorem dX11_at_24 : decode cX11_at 24 = .ok (.iload_n 2, 1) := by decide +kernel
theorem dX11_at_25 : decode cX11_at 25 = .ok (.aload_n 3, 1) := by decide +kernel
theorem dX11_at_26 : decode cX11_at 26 = .ok (.getfield 220, 3) := by decide +kernel
theorem dX11_at_29 : decode cX11_at 29 = .ok (.aload_n 3, 1) := by decide +kernel
theorem dX11_at_30 : decode cX11_at 30 = .ok (.getfield 223, 3) := by decide +kernel
theorem dX11_at_33 : decode cX11_at 33 = .ok (.invokevirtual 241, 3) := by decide +kernel
theorem dX11_at_36 : decode cX11_at 36 = .ok (.ireturn, 1) := by decide +kernel
theorem dX11_load_0 : decode cX11_load 0 = .ok (.iload_n 1, 1) := by decide +kernel
theorem dX11_load_1 : decode cX11_load 1 = .ok (.invokestatic 144, 3) := by decide +kernel
theorem dX11_load_4 : decode cX11_load 4 = .ok (.ifCond .eq 19, 3) := by decide +kernel
theorem dX11_load_7 : decode cX11_load 7 = .ok (.iload_n 2, 1) := by decide +kernel
theorem dX11_load_8 : decode cX11_load 8 = .ok (.invokestatic 167, 3) := by decide +kernel
theorem dX11_load_11 : decode cX11_load 11 = .ok (.ifCond .eq 12, 3) := by decide +kernel
theorem dX11_load_14 : decode cX11_load 14 = .ok (.iload_n 3, 1) := by decide +kernel
theorem dX11_load_15 : decode cX11_load 15 = .ok (.ifCond .lt 8, 3) := by decide +kernel
theorem dX11_load_18 : decode cX11_load 18 = .ok (.iload_n 3, 1) := by decide +kernel
theorem dX11_load_19 : decode cX11_load 19 = .ok (.iconst 1, 1) := by decide +kernel
theorem dX11_load_20 : decode cX11_load 20 = .ok (.if_icmp .le 6, 3) := by decide +kernel
theorem dX11_load_23 : decode cX11_load 23 = .ok (.ldc 100, 2) := by decide +kernel
theorem dX11_load_25 : decode cX11_load 25 = .ok (.ireturn, 1) := by decide +kernel
theorem dX11_load_26 : decode cX11_load 26 = .ok (.aload_n 0, 1) := by decide +kernel
theorem dX11_load_27 : decode cX11_load 27 = .ok (.getfield 50, 3) := by decide +kernel
theorem dX11_load_30 : decode cX11_load 30 = .ok (.invokevirtual 244, 3) := by decide +kernel
theorem dX11_load_33 : decode cX11_load 33 = .ok (.iload_n 1, 1) := by decide +kernel
theorem dX11_load_34 : decode cX11_load 34 = .ok (.iload_n 2, 1) := by decide +kernel
theorem dX11_load_35 : decode cX11_load 35 = .ok (.invokestatic 154, 3) := by decide +kernel
theorem dX11_load_38 : decode cX11_load 38 = .ok (.istore 4, 2) := by decide +kernel
theorem dX11_load_40 : decode cX11_load 40 = .ok (.iload_n 3, 1) := by decide +kernel
theorem dX11_load_41 : decode cX11_load 41 = .ok (.ifCond .ne 16, 3) := by decide +kernel
theorem dX11_load_44 : decode cX11_load 44 = .ok (.aload_n 0, 1) := by decide +kernel
theorem dX11_load_45 : decode cX11_load 45 = .ok (.getfield 50, 3) := by decide +kernel
theorem dX11_load_48 : decode cX11_load 48 = .ok (.getfield 247, 3) := by decide +kernel
theorem dX11_load_51 : decode cX11_load 51 = .ok (.iload 4, 2) := by decide +kernel
theorem dX11_load_53 : decode cX11_load 53 = .ok (.iaload, 1) := by decide +kernel
theorem dX11_load_54 : decode cX11_load 54 = .ok (.goto 12, 3) := by decide +kernel
theorem dX11_load_57 : decode cX11_load 57 = .ok (.aload_n 0, 1) := by decide +kernel
theorem dX11_load_58 : decode cX11_load 58 = .ok (.getfield 50, 3) := by decide +kernel
theorem dX11_load_61 : decode cX11_load 61 = .ok (.iload 4, 2) := by decide +kernel
theorem dX11_load_63 : decode cX11_load 63 = .ok (.invokevirtual 250, 3) := by decide +kernel
theorem dX11_load_66 : decode cX11_load 66 = .ok (.ireturn, 1) := by decide +kernel
theorem dX11_all_0 : decode cX11_all 0 = .ok (.aload_n 0, 1) := by decide +kernel
theorem dX11_all_1 : decode cX11_all 1 = .ok (.getfield 50, 3) := by decide +kernel
theorem dX11_all_4 : decode cX11_all 4 = .ok (.invokevirtual 244, 3) := by decide +kernel
theorem dX11_all_7 : decode cX11_all 7 = .ok (.iload_n 1, 1) := by decide +kernel
theorem dX11_all_8 : decode cX11_all 8 = .ok (.tableswitch 88 0 5 #[40, 48, 56, 64, 72, 80], 40) := by decide +kernel
theorem dX11_all_48 : decode cX11_all 48 = .ok (.aload_n 0, 1) := by decide +kernel
theorem dX11_all_49 : decode cX11_all 49 = .ok (.getfield 50, 3) := by decide +kernel
theorem dX11_all_52 : decode cX11_all 52 = .ok (.invokevirtual 253, 3) := by decide +kernel
theorem dX11_all_55 : decode cX11_all 55 = .ok (.ireturn, 1) := by decide +kernel
theorem dX11_all_56 : decode cX11_all 56 = .ok (.aload_n 0, 1) := by decide +kernel
theorem dX11_all_57 : decode cX11_all 57 = .ok (.getfield 25, 3) := by decide +kernel
theorem dX11_all_60 : decode cX11_all 60 = .ok (.invokevirtual 256, 3) := by decide +kernel
theorem dX11_all_63 : decode cX11_all 63 = .ok (.ireturn, 1) := by decide +kernel
theorem dX11_all_64 : decode cX11_all 64 = .ok (.aload_n 0, 1) := by decide +kernel
theorem dX11_all_65 : decode cX11_all 65 = .ok (.getfield 25, 3) := by decide +kernel
theorem dX11_all_68 : decode cX11_all 68 = .ok (.invokevirtual 259, 3) := by decide +kernel
theorem dX11_all_71 : decode cX11_all 71 = .ok (.ireturn, 1) := by decide +kernel
theorem dX11_all_72 : decode cX11_all 72 = .ok (.aload_n 0, 1) := by decide +kernel
theorem dX11_all_73 : decode cX11_all 73 = .ok (.getfield 75, 3) := by decide +kernel
theorem dX11_all_76 : decode cX11_all 76 = .ok (.invokevirtual 262, 3) := by decide +kernel
theorem dX11_all_79 : decode cX11_all 79 = .ok (.ireturn, 1) := by decide +kernel
theorem dX11_all_80 : decode cX11_all 80 = .ok (.aload_n 0, 1) := by decide +kernel
theorem dX11_all_81 : decode cX11_all 81 = .ok (.getfield 50, 3) := by decide +kernel
theorem dX11_all_84 : decode cX11_all 84 = .ok (.invokevirtual 265, 3) := by decide +kernel
theorem dX11_all_87 : decode cX11_all 87 = .ok (.ireturn, 1) := by decide +kernel
theorem dX11_all_88 : decode cX11_all 88 = .ok (.aload_n 0, 1) := by decide +kernel
theorem dX11_all_89 : decode cX11_all 89 = .ok (.getfield 50, 3) := by decide +kernel
theorem dX11_all_92 : decode cX11_all 92 = .ok (.invokevirtual 268, 3) := by decide +kernel
theorem dX11_all_95 : decode cX11_all 95 = .ok (.ireturn, 1) := by decide +kernel
theorem dX11_all_96 : decode cX11_all 96 = .ok (.ldc 100, 2) := by decide +kernel
theorem dX11_all_98 : decode cX11_all 98 = .ok (.ireturn, 1) := by decide +kernel
theorem dX11_known_0 : decode cX11_known 0 = .ok (.iload_n 1, 1) := by decide +kernel
theorem dX11_known_1 : decode cX11_known 1 = .ok (.invokestatic 144, 3) := by decide +kernel
theorem dX11_known_4 : decode cX11_known 4 = .ok (.ifCond .eq 14, 3) := by decide +kernel
theorem dX11_known_7 : decode cX11_known 7 = .ok (.iload_n 2, 1) := by decide +kernel
theorem dX11_known_8 : decode cX11_known 8 = .ok (.invokestatic 167, 3) := by decide +kernel
theorem dX11_known_11 : decode cX11_known 11 = .ok (.ifCond .eq 7, 3) := by decide +kernel
theorem dX11_known_14 : decode cX11_known 14 = .ok (.iload_n 3, 1) := by decide +kernel
theorem dX11_known_15 : decode cX11_known 15 = .ok (.ifCond .ge 6, 3) := by decide +kernel
theorem dX11_known_18 : decode cX11_known 18 = .ok (.ldc 100, 2) := by decide +kernel
theorem dX11_known_20 : decode cX11_known 20 = .ok (.ireturn, 1) := by decide +kernel
theorem dX11_known_21 : decode cX11_known 21 = .ok (.aload_n 0, 1) := by decide +kernel
theorem dX11_known_22 : decode cX11_known 22 = .ok (.getfield 25, 3) := by decide +kernel
theorem dX11_known_25 : decode cX11_known 25 = .ok (.iload_n 1, 1) := by decide +kernel
theorem dX11_known_26 : decode cX11_known 26 = .ok (.iload_n 2, 1) := by decide +kernel
theorem dX11_known_27 : decode cX11_known 27 = .ok (.iload_n 3, 1) := by decide +kernel
theorem dX11_known_28 : decode cX11_known 28 = .ok (.invokevirtual 271, 3) := by decide +kernel
theorem dX11_known_31 : decode cX11_known 31 = .ok (.ireturn, 1) := by decide +kernel
theorem dX11_split_0 : decode cX11_split 0 = .ok (.iload_n 1, 1) := by decide +kernel
theorem dX11_split_1 : decode cX11_split 1 = .ok (.ldc 170, 2) := by decide +kernel
theorem dX11_split_3 : decode cX11_split 3 = .ok (.if_icmp .eq 13, 3) := by decide +kernel
theorem dX11_split_6 : decode cX11_split 6 = .ok (.iload_n 1, 1) := by decide +kernel
theorem dX11_split_7 : decode cX11_split 7 = .ok (.invokestatic 167, 3) := by decide +kernel
theorem dX11_split_10 : decode cX11_split 10 = .ok (.ifCond .ne 6, 3) := by decide +kernel
theorem dX11_split_13 : decode cX11_split 13 = .ok (.ldc 100, 2) := by decide +kernel
theorem dX11_split_15 : decode cX11_split 15 = .ok (.ireturn, 1) := by decide +kernel
theorem dX11_split_16 : decode cX11_split 16 = .ok (.aload_n 0, 1) := by decide +kernel
theorem dX11_split_17 : decode cX11_split 17 = .ok (.getfield 50, 3) := by decide +kernel
theorem dX11_split_20 : decode cX11_split 20 = .ok (.invokevirtual 244, 3) := by decide +kernel
theorem dX11_split_23 : decode cX11_split 23 = .ok (.aload_n 0, 1) := by decide +kernel
theorem dX11_split_24 : decode cX11_split 24 = .ok (.getfield 59, 3) := by decide +kernel
theorem dX11_split_27 : decode cX11_split 27 = .ok (.invokevirtual 274, 3) := by decide +kernel
theorem dX11_split_30 : decode cX11_split 30 = .ok (.iload_n 1, 1) := by decide +kernel
theorem dX11_split_31 : decode cX11_split 31 = .ok (.ldc 170, 2) := by decide +kernel
theorem dX11_split_33 : decode cX11_split 33 = .ok (.if_icmp .ne 13, 3) := by decide +kernel
theorem dX11_split_36 : decode cX11_split 36 = .ok (.aload_n 0, 1) := by decide +kernel
theorem dX11_split_37 : decode cX11_split 37 = .ok (.getfield 59, 3) := by decide +kernel
theorem dX11_split_40 : decode cX11_split 40 = .ok (.getfield 277, 3) := by decide +kernel
theorem dX11_split_43 : decode cX11_split 43 = .ok (.goto 12, 3) := by decide +kernel
theorem dX11_split_46 : decode cX11_split 46 = .ok (.aload_n 0, 1) := by decide +kernel
theorem dX11_split_47 : decode cX11_split 47 = .ok (.getfield 59, 3) := by decide +kernel
theorem dX11_split_50 : decode cX11_split 50 = .ok (.getfield 280, 3) := by decide +kernel
theorem dX11_split_53 : decode cX11_split 53 = .ok (.iload_n 1, 1) := by decide +kernel
theorem dX11_split_54 : decode cX11_split 54 = .ok (.iaload, 1) := by decide +kernel
theorem dX11_split_55 : decode cX11_split 55 = .ok (.ireturn, 1) := by decide +kernel
theorem dX11_settle_0 : decode cX11_settle 0 = .ok (.iload_n 1, 1) := by decide +kernel
theorem dX11_settle_1 : decode cX11_settle 1 = .ok (.aload_n 0, 1) := by decide +kernel
theorem dX11_settle_2 : decode cX11_settle 2 = .ok (.getfield 25, 3) := by decide +kernel
theorem dX11_settle_5 : decode cX11_settle 5 = .ok (.invokevirtual 283, 3) := by decide +kernel
theorem dX11_settle_8 : decode cX11_settle 8 = .ok (.iconst (-1), 1) := by decide +kernel
theorem dX11_settle_9 : decode cX11_settle 9 = .ok (.ixor, 1) := by decide +kernel
theorem dX11_settle_10 : decode cX11_settle 10 = .ok (.iand, 1) := by decide +kernel
theorem dX11_settle_11 : decode cX11_settle 11 = .ok (.ifCond .ne 7, 3) := by decide +kernel
theorem dX11_settle_14 : decode cX11_settle 14 = .ok (.iconst 1, 1) := by decide +kernel
theorem dX11_settle_15 : decode cX11_settle 15 = .ok (.goto 4, 3) := by decide +kernel
theorem dX11_settle_18 : decode cX11_settle 18 = .ok (.iconst 0, 1) := by decide +kernel
theorem dX11_settle_19 : decode cX11_settle 19 = .ok (.istore_n 2, 1) := by decide +kernel
theorem dX11_settle_20 : decode cX11_settle 20 = .ok (.iload_n 1, 1) := by decide +kernel
theorem dX11_settle_21 : decode cX11_settle 21 = .ok (.ifCond .eq 15, 3) := by decide +kernel
theorem dX11_settle_24 : decode cX11_settle 24 = .ok (.iload_n 2, 1) := by decide +kernel
theorem dX11_settle_25 : decode cX11_settle 25 = .ok (.ifCond .eq 11, 3) := by decide +kernel
theorem dX11_settle_28 : decode cX11_settle 28 = .ok (.iload_n 1, 1) := by decide +kernel
theorem dX11_settle_29 : decode cX11_settle 29 = .ok (.invokestatic 286, 3) := by decide +kernel
theorem dX11_settle_32 : decode cX11_settle 32 = .ok (.iconst 5, 1) := by decide +kernel
theorem dX11_settle_33 : decode cX11_settle 33 = .ok (.if_icmp .le 6, 3) := by decide +kernel
theorem dX11_settle_36 : decode cX11_settle 36 = .ok (.ldc 100, 2) := by decide +kernel
theorem dX11_settle_38 : decode cX11_settle 38 = .ok (.ireturn, 1) := by decide +kernel
theorem dX11_settle_39 : decode cX11_settle 39 = .ok (.aload_n 0, 1) := by decide +kernel
theorem dX11_settle_40 : decode cX11_settle 40 = .ok (.getfield 50, 3) := by decide +kernel
theorem dX11_settle_43 : decode cX11_settle 43 = .ok (.invokevirtual 244, 3) := by decide +kernel
theorem dX11_settle_46 : decode cX11_settle 46 = .ok (.aload_n 0, 1) := by decide +kernel
theorem dX11_settle_47 : decode cX11_settle 47 = .ok (.getfield 68, 3) := by decide +kernel
theorem dX11_settle_50 : decode cX11_settle 50 = .ok (.iload_n 1, 1) := by decide +kernel
theorem dX11_settle_51 : decode cX11_settle 51 = .ok (.invokevirtual 291, 3) := by decide +kernel
theorem dX11_settle_54 : decode cX11_settle 54 = .ok (.ifCond .eq 13, 3) := by decide +kernel
theorem dX11_settle_57 : decode cX11_settle 57 = .ok (.aload_n 0, 1) := by decide +kernel
theorem dX11_settle_58 : decode cX11_settle 58 = .ok (.getfield 68, 3) := by decide +kernel
theorem dX11_settle_61 : decode cX11_settle 61 = .ok (.invokevirtual 294, 3) := by decide +kernel
theorem dX11_settle_64 : decode cX11_settle 64 = .ok (.goto 5, 3) := by decide +kernel
theorem dX11_settle_67 : decode cX11_settle 67 = .ok (.ldc 170, 2) := by decide +kernel
theorem dX11_settle_69 : decode cX11_settle 69 = .ok (.ireturn, 1) := by decide +kernel
theorem dX11_harmless_0 : decode cX11_harmless 0 = .ok (.aload_n 0, 1) := by decide +kernel
theorem dX11_harmless_1 : decode cX11_harmless 1 = .ok (.getfield 25, 3) := by decide +kernel
theorem dX11_harmless_4 : decode cX11_harmless 4 = .ok (.iload_n 1, 1) := by decide +kernel
theorem dX11_harmless_5 : decode cX11_harmless 5 = .ok (.invokevirtual 199, 3) := by decide +kernel
theorem dX11_harmless_8 : decode cX11_harmless 8 = .ok (.astore_n 3, 1) := by decide +kernel
theorem dX11_harmless_9 : decode cX11_harmless 9 = .ok (.aload_n 0, 1) := by decide +kernel
theorem dX11_harmless_10 : decode cX11_harmless 10 = .ok (.getfield 25, 3) := by decide +kernel
theorem dX11_harmless_13 : decode cX11_harmless 13 = .ok (.iload_n 2, 1) := by decide +kernel
theorem dX11_harmless_14 : decode cX11_harmless 14 = .ok (.invokevirtual 199, 3) := by decide +kernel
theorem dX11_harmless_17 : decode cX11_harmless 17 = .ok (.astore 4, 2) := by decide +kernel
theorem dX11_harmless_19 : decode cX11_harmless 19 = .ok (.aload_n 3, 1) := by decide +kernel
theorem dX11_harmless_20 : decode cX11_harmless 20 = .ok (.ifnull 20, 3) := by decide +kernel
theorem dX11_harmless_23 : decode cX11_harmless 23 = .ok (.aload 4, 2) := by decide +kernel
theorem dX11_harmless_25 : decode cX11_harmless 25 = .ok (.ifnull 15, 3) := by decide +kernel
theorem dX11_harmless_28 : decode cX11_harmless 28 = .ok (.aload_n 3, 1) := by decide +kernel
theorem dX11_harmless_29 : decode cX11_harmless 29 = .ok (.getfield 203, 3) := by decide +kernel
theorem dX11_harmless_32 : decode cX11_harmless 32 = .ok (.aload 4, 2) := by decide +kernel
theorem dX11_harmless_34 : decode cX11_harmless 34 = .ok (.getfield 203, 3) := by decide +kernel
theorem dX11_harmless_37 : decode cX11_harmless 37 = .ok (.if_icmp .ne 6, 3) := by decide +kernel
theorem dX11_harmless_40 : decode cX11_harmless 40 = .ok (.ldc 100, 2) := by decide +kernel
theorem dX11_harmless_42 : decode cX11_harmless 42 = .ok (.ireturn, 1) := by decide +kernel
theorem dX11_harmless_43 : decode cX11_harmless 43 = .ok (.aload_n 0, 1) := by decide +kernel
theorem dX11_harmless_44 : decode cX11_harmless 44 = .ok (.aload_n 3, 1) := by decide +kernel
theorem dX11_harmless_45 : decode cX11_harmless 45 = .ok (.aload 4, 2) := by decide +kernel
theorem dX11_harmless_47 : decode cX11_harmless 47 = .ok (.invokevirtual 297, 3) := by decide +kernel
theorem dX11_harmless_50 : decode cX11_harmless 50 = .ok (.ifCond .eq 7, 3) := by decide +kernel
theorem dX11_harmless_53 : decode cX11_harmless 53 = .ok (.iconst 1, 1) := by decide +kernel
theorem dX11_harmless_54 : decode cX11_harmless 54 = .ok (.goto 4, 3) := by decide +kernel
theorem dX11_harmless_57 : decode cX11_harmless 57 = .ok (.iconst 0, 1) := by decide +kernel
theorem dX11_harmless_58 : decode cX11_harmless 58 = .ok (.ireturn, 1) := by decide +kernel
theorem dX11_swap_0 : decode cX11_swap 0 = .ok (.iconst 0, 1) := by decide +kernel
theorem dX11_swap_1 : decode cX11_swap 1 = .ok (.istore_n 1, 1) := by decide +kernel
theorem dX11_swap_2 : decode cX11_swap 2 = .ok (.iload_n 1, 1) := by decide +kernel
theorem dX11_swap_3 : decode cX11_swap 3 = .ok (.aload_n 0, 1) := by decide +kernel
theorem dX11_swap_4 : decode cX11_swap 4 = .ok (.getfield 25, 3) := by decide +kernel
theorem dX11_swap_7 : decode cX11_swap 7 = .ok (.getfield 196, 3) := by decide +kernel
theorem dX11_swap_10 : decode cX11_swap 10 = .ok (.if_icmp .ge 86, 3) := by decide +kernel
theorem dX11_swap_13 : decode cX11_swap 13 = .ok (.iload_n 1, 1) := by decide +kernel
theorem dX11_swap_14 : decode cX11_swap 14 = .ok (.iconst 1, 1) := by decide +kernel
theorem dX11_swap_15 : decode cX11_swap 15 = .ok (.iadd, 1) := by decide +kernel
theorem dX11_swap_16 : decode cX11_swap 16 = .ok (.istore_n 2, 1) := by decide +kernel
theorem dX11_swap_17 : decode cX11_swap 17 = .ok (.iload_n 2, 1) := by decide +kernel
theorem dX11_swap_18 : decode cX11_swap 18 = .ok (.aload_n 0, 1) := by decide +kernel
theorem dX11_swap_19 : decode cX11_swap 19 = .ok (.getfield 25, 3) := by decide +kernel
theorem dX11_swap_22 : decode cX11_swap 22 = .ok (.getfield 196, 3) := by decide +kernel
theorem dX11_swap_25 : decode cX11_swap 25 = .ok (.if_icmp .ge 65, 3) := by decide +kernel
theorem dX11_swap_28 : decode cX11_swap 28 = .ok (.aload_n 0, 1) := by decide +kernel
theorem dX11_swap_29 : decode cX11_swap 29 = .ok (.getfield 25, 3) := by decide +kernel
theorem dX11_swap_32 : decode cX11_swap 32 = .ok (.getfield 301, 3) := by decide +kernel
theorem dX11_swap_35 : decode cX11_swap 35 = .ok (.iload_n 1, 1) := by decide +kernel
theorem dX11_swap_36 : decode cX11_swap 36 = .ok (.aaload, 1) := by decide +kernel
theorem dX11_swap_37 : decode cX11_swap 37 = .ok (.astore_n 3, 1) := by decide +kernel
theorem dX11_swap_38 : decode cX11_swap 38 = .ok (.aload_n 0, 1) := by decide +kernel
theorem dX11_swap_39 : decode cX11_swap 39 = .ok (.getfield 25, 3) := by decide +kernel
theorem dX11_swap_42 : decode cX11_swap 42 = .ok (.getfield 301, 3) := by decide +kernel
theorem dX11_swap_45 : decode cX11_swap 45 = .ok (.iload_n 2, 1) := by decide +kernel
theorem dX11_swap_46 : decode cX11_swap 46 = .ok (.aaload, 1) := by decide +kernel
theorem dX11_swap_47 : decode cX11_swap 47 = .ok (.astore 4, 2) := by decide +kernel
theorem dX11_swap_49 : decode cX11_swap 49 = .ok (.aload_n 3, 1) := by decide +kernel
theorem dX11_swap_50 : decode cX11_swap 50 = .ok (.getfield 203, 3) := by decide +kernel
theorem dX11_swap_53 : decode cX11_swap 53 = .ok (.aload 4, 2) := by decide +kernel
theorem dX11_swap_55 : decode cX11_swap 55 = .ok (.getfield 203, 3) := by decide +kernel
theorem dX11_swap_58 : decode cX11_swap 58 = .ok (.if_icmp .eq 26, 3) := by decide +kernel
theorem dX11_swap_61 : decode cX11_swap 61 = .ok (.aload_n 0, 1) := by decide +kernel
theorem dX11_swap_62 : decode cX11_swap 62 = .ok (.aload_n 3, 1) := by decide +kernel
theorem dX11_swap_63 : decode cX11_swap 63 = .ok (.aload 4, 2) := by decide +kernel
theorem dX11_swap_65 : decode cX11_swap 65 = .ok (.invokevirtual 297, 3) := by decide +kernel
theorem dX11_swap_68 : decode cX11_swap 68 = .ok (.ifCond .eq 16, 3) := by decide +kernel
theorem dX11_swap_71 : decode cX11_swap 71 = .ok (.aload_n 3, 1) := by decide +kernel
theorem dX11_swap_72 : decode cX11_swap 72 = .ok (.aload 4, 2) := by decide +kernel
theorem dX11_swap_74 : decode cX11_swap 74 = .ok (.invokestatic 305, 3) := by decide +kernel
theorem dX11_swap_77 : decode cX11_swap 77 = .ok (.bipush 100, 2) := by decide +kernel
theorem dX11_swap_79 : decode cX11_swap 79 = .ok (.iload_n 1, 1) := by decide +kernel
theorem dX11_swap_80 : decode cX11_swap 80 = .ok (.imul, 1) := by decide +kernel
theorem dX11_swap_81 : decode cX11_swap 81 = .ok (.iload_n 2, 1) := by decide +kernel
theorem dX11_swap_82 : decode cX11_swap 82 = .ok (.iadd, 1) := by decide +kernel
theorem dX11_swap_83 : decode cX11_swap 83 = .ok (.ireturn, 1) := by decide +kernel
theorem dX11_swap_84 : decode cX11_swap 84 = .ok (.iinc 2 1, 3) := by decide +kernel
theorem dX11_swap_87 : decode cX11_swap 87 = .ok (.goto (-70), 3) := by decide +kernel
theorem dX11_swap_90 : decode cX11_swap 90 = .ok (.iinc 1 1, 3) := by decide +kernel
theorem dX11_swap_93 : decode cX11_swap 93 = .ok (.goto (-91), 3) := by decide +kernel
theorem dX11_swap_96 : decode cX11_swap 96 = .ok (.ldc 170, 2) := by decide +kernel
theorem dX11_swap_98 : decode cX11_swap 98 = .ok (.ireturn, 1) := by decide +kernel
theorem dX11_airline_0 : decode cX11_airline 0 = .ok (.iload_n 1, 1) := by decide +kernel
theorem dX11_airline_1 : decode cX11_airline 1 = .ok (.ifCond .lt 8, 3) := by decide +kernel
theorem dX11_airline_4 : decode cX11_airline 4 = .ok (.iload_n 1, 1) := by decide +kernel
theorem dX11_airline_5 : decode cX11_airline 5 = .ok (.iconst 4, 1) := by decide +kernel
theorem dX11_airline_6 : decode cX11_airline 6 = .ok (.if_icmp .lt 6, 3) := by decide +kernel
theorem dX11_airline_9 : decode cX11_airline 9 = .ok (.ldc 100, 2) := by decide +kernel
theorem dX11_airline_11 : decode cX11_airline 11 = .ok (.ireturn, 1) := by decide +kernel
theorem dX11_airline_12 : decode cX11_airline 12 = .ok (.iload_n 2, 1) := by decide +kernel
theorem dX11_airline_13 : decode cX11_airline 13 = .ok (.tableswitch 87 0 4 #[35, 44, 53, 62, 78], 35) := by decide +kernel
theorem dX11_airline_48 : decode cX11_airline 48 = .ok (.aload_n 0, 1) := by decide +kernel
theorem dX11_airline_49 : decode cX11_airline 49 = .ok (.getfield 25, 3) := by decide +kernel
theorem dX11_airline_52 : decode cX11_airline 52 = .ok (.iload_n 1, 1) := by decide +kernel
theorem dX11_airline_53 : decode cX11_airline 53 = .ok (.invokevirtual 309, 3) := by decide +kernel
theorem dX11_airline_56 : decode cX11_airline 56 = .ok (.ireturn, 1) := by decide +kernel
theorem dX11_airline_57 : decode cX11_airline 57 = .ok (.aload_n 0, 1) := by decide +kernel
theorem dX11_airline_58 : decode cX11_airline 58 = .ok (.getfield 25, 3) := by decide +kernel
theorem dX11_airline_61 : decode cX11_airline 61 = .ok (.iload_n 1, 1) := by decide +kernel
theorem dX11_airline_62 : decode cX11_airline 62 = .ok (.invokevirtual 312, 3) := by decide +kernel
theorem dX11_airline_65 : decode cX11_airline 65 = .ok (.ireturn, 1) := by decide +kernel
theorem dX11_airline_66 : decode cX11_airline 66 = .ok (.aload_n 0, 1) := by decide +kernel
theorem dX11_airline_67 : decode cX11_airline 67 = .ok (.getfield 75, 3) := by decide +kernel
theorem dX11_airline_70 : decode cX11_airline 70 = .ok (.iload_n 1, 1) := by decide +kernel
theorem dX11_airline_71 : decode cX11_airline 71 = .ok (.invokevirtual 315, 3) := by decide +kernel
theorem dX11_airline_74 : decode cX11_airline 74 = .ok (.ireturn, 1) := by decide +kernel
theorem dX11_airline_75 : decode cX11_airline 75 = .ok (.aload_n 0, 1) := by decide +kernel
theorem dX11_airline_76 : decode cX11_airline 76 = .ok (.getfield 50, 3) := by decide +kernel
theorem dX11_airline_79 : decode cX11_airline 79 = .ok (.invokevirtual 244, 3) := by decide +kernel
theorem dX11_airline_82 : decode cX11_airline 82 = .ok (.aload_n 0, 1) := by decide +kernel
theorem dX11_airline_83 : decode cX11_airline 83 = .ok (.getfield 75, 3) := by decide +kernel
theorem dX11_airline_86 : decode cX11_airline 86 = .ok (.iload_n 1, 1) := by decide +kernel
theorem dX11_airline_87 : decode cX11_airline 87 = .ok (.invokevirtual 318, 3) := by decide +kernel
theorem dX11_airline_90 : decode cX11_airline 90 = .ok (.ireturn, 1) := by decide +kernel
theorem dX11_airline_91 : decode cX11_airline 91 = .ok (.aload_n 0, 1) := by decide +kernel
theorem dX11_airline_92 : decode cX11_airline 92 = .ok (.getfield 25, 3) := by decide +kernel
theorem dX11_airline_95 : decode cX11_airline 95 = .ok (.iload_n 1, 1) := by decide +kernel
theorem dX11_airline_96 : decode cX11_airline 96 = .ok (.invokevirtual 321, 3) := by decide +kernel
theorem dX11_airline_99 : decode cX11_airline 99 = .ok (.ireturn, 1) := by decide +kernel
theorem dX11_airline_100 : decode cX11_airline 100 = .ok (.ldc 100, 2) := by decide +kernel
theorem dX11_airline_102 : decode cX11_airline 102 = .ok (.ireturn, 1) := by decide +kernel
theorem dX11_kind_0 : decode cX11_kind 0 = .ok (.aload_n 0, 1) := by decide +kernel
theorem dX11_kind_1 : decode cX11_kind 1 = .ok (.getfield 25, 3) := by decide +kernel
theorem dX11_kind_4 : decode cX11_kind 4 = .ok (.iload_n 1, 1) := by decide +kernel
theorem dX11_kind_5 : decode cX11_kind 5 = .ok (.invokevirtual 199, 3) := by decide +kernel
theorem dX11_kind_8 : decode cX11_kind 8 = .ok (.astore_n 2, 1) := by decide +kernel
theorem dX11_kind_9 : decode cX11_kind 9 = .ok (.aload_n 2, 1) := by decide +kernel
theorem dX11_kind_10 : decode cX11_kind 10 = .ok (.ifnonnull 6, 3) := by decide +kernel
theorem dX11_kind_13 : decode cX11_kind 13 = .ok (.ldc 100, 2) := by decide +kernel
theorem dX11_kind_15 : decode cX11_kind 15 = .ok (.ireturn, 1) := by decide +kernel
theorem dX11_kind_16 : decode cX11_kind 16 = .ok (.aload_n 0, 1) := by decide +kernel
theorem dX11_kind_17 : decode cX11_kind 17 = .ok (.getfield 50, 3) := by decide +kernel
theorem dX11_kind_20 : decode cX11_kind 20 = .ok (.invokevirtual 244, 3) := by decide +kernel
theorem dX11_kind_23 : decode cX11_kind 23 = .ok (.aload_n 0, 1) := by decide +kernel
theorem dX11_kind_24 : decode cX11_kind 24 = .ok (.getfield 84, 3) := by decide +kernel
theorem dX11_kind_27 : decode cX11_kind 27 = .ok (.aload_n 2, 1) := by decide +kernel
theorem dX11_kind_28 : decode cX11_kind 28 = .ok (.invokevirtual 324, 3) := by decide +kernel
theorem dX11_kind_31 : decode cX11_kind 31 = .ok (.ireturn, 1) := by decide +kernel
theorem dX11_as_0 : decode cX11_as 0 = .ok (.aload_n 0, 1) := by decide +kernel
theorem dX11_as_1 : decode cX11_as 1 = .ok (.getfield 25, 3) := by decide +kernel
theorem dX11_as_4 : decode cX11_as 4 = .ok (.iload_n 1, 1) := by decide +kernel
theorem dX11_as_5 : decode cX11_as 5 = .ok (.invokevirtual 199, 3) := by decide +kernel
theorem dX11_as_8 : decode cX11_as 8 = .ok (.astore_n 3, 1) := by decide +kernel
theorem dX11_as_9 : decode cX11_as 9 = .ok (.aload_n 3, 1) := by decide +kernel
theorem dX11_as_10 : decode cX11_as 10 = .ok (.ifnull 12, 3) := by decide +kernel
theorem dX11_as_13 : decode cX11_as 13 = .ok (.iload_n 2, 1) := by decide +kernel
theorem dX11_as_14 : decode cX11_as 14 = .ok (.ifCond .lt 8, 3) := by decide +kernel
theorem dX11_as_17 : decode cX11_as 17 = .ok (.iload_n 2, 1) := by decide +kernel
theorem dX11_as_18 : decode cX11_as 18 = .ok (.iconst 4, 1) := by decide +kernel
theorem dX11_as_19 : decode cX11_as 19 = .ok (.if_icmp .lt 6, 3) := by decide +kernel
theorem dX11_as_22 : decode cX11_as 22 = .ok (.ldc 100, 2) := by decide +kernel
theorem dX11_as_24 : decode cX11_as 24 = .ok (.ireturn, 1) := by decide +kernel
theorem dX11_as_25 : decode cX11_as 25 = .ok (.aload_n 0, 1) := by decide +kernel
theorem dX11_as_26 : decode cX11_as 26 = .ok (.getfield 50, 3) := by decide +kernel
theorem dX11_as_29 : decode cX11_as 29 = .ok (.invokevirtual 244, 3) := by decide +kernel
theorem dX11_as_32 : decode cX11_as 32 = .ok (.aload_n 0, 1) := by decide +kernel
theorem dX11_as_33 : decode cX11_as 33 = .ok (.getfield 84, 3) := by decide +kernel
theorem dX11_as_36 : decode cX11_as 36 = .ok (.aload_n 3, 1) := by decide +kernel
theorem dX11_as_37 : decode cX11_as 37 = .ok (.iload_n 2, 1) := by decide +kernel
theorem dX11_as_38 : decode cX11_as 38 = .ok (.invokevirtual 328, 3) := by decide +kernel
theorem dX11_as_41 : decode cX11_as 41 = .ok (.ifCond .eq 14, 3) := by decide +kernel
theorem dX11_as_44 : decode cX11_as 44 = .ok (.aload_n 0, 1) := by decide +kernel
theorem dX11_as_45 : decode cX11_as 45 = .ok (.aload_n 3, 1) := by decide +kernel
theorem dX11_as_46 : decode cX11_as 46 = .ok (.getfield 208, 3) := by decide +kernel
theorem dX11_as_49 : decode cX11_as 49 = .ok (.invokevirtual 109, 3) := by decide +kernel
theorem dX11_as_52 : decode cX11_as 52 = .ok (.goto 8, 3) := by decide +kernel
theorem dX11_as_55 : decode cX11_as 55 = .ok (.aload_n 0, 1) := by decide +kernel
theorem dX11_as_56 : decode cX11_as 56 = .ok (.iconst 3, 1) := by decide +kernel
theorem dX11_as_57 : decode cX11_as 57 = .ok (.invokevirtual 101, 3) := by decide +kernel
theorem dX11_as_60 : decode cX11_as 60 = .ok (.ireturn, 1) := by decide +kernel
theorem dX11_ask_0 : decode cX11_ask 0 = .ok (.aload_n 0, 1) := by decide +kernel
theorem dX11_ask_1 : decode cX11_ask 1 = .ok (.getfield 25, 3) := by decide +kernel
theorem dX11_ask_4 : decode cX11_ask 4 = .ok (.iload_n 1, 1) := by decide +kernel
theorem dX11_ask_5 : decode cX11_ask 5 = .ok (.invokevirtual 199, 3) := by decide +kernel
theorem dX11_ask_8 : decode cX11_ask 8 = .ok (.astore_n 3, 1) := by decide +kernel
theorem dX11_ask_9 : decode cX11_ask 9 = .ok (.aload_n 3, 1) := by decide +kernel
theorem dX11_ask_10 : decode cX11_ask 10 = .ok (.ifnull 12, 3) := by decide +kernel
theorem dX11_ask_13 : decode cX11_ask 13 = .ok (.iload_n 2, 1) := by decide +kernel
theorem dX11_ask_14 : decode cX11_ask 14 = .ok (.ifCond .lt 8, 3) := by decide +kernel
theorem dX11_ask_17 : decode cX11_ask 17 = .ok (.iload_n 2, 1) := by decide +kernel
theorem dX11_ask_18 : decode cX11_ask 18 = .ok (.iconst 1, 1) := by decide +kernel
theorem dX11_ask_19 : decode cX11_ask 19 = .ok (.if_icmp .le 6, 3) := by decide +kernel
theorem dX11_ask_22 : decode cX11_ask 22 = .ok (.ldc 100, 2) := by decide +kernel
theorem dX11_ask_24 : decode cX11_ask 24 = .ok (.ireturn, 1) := by decide +kernel
theorem dX11_ask_25 : decode cX11_ask 25 = .ok (.aload_n 0, 1) := by decide +kernel
theorem dX11_ask_26 : decode cX11_ask 26 = .ok (.getfield 50, 3) := by decide +kernel
theorem dX11_ask_29 : decode cX11_ask 29 = .ok (.invokevirtual 244, 3) := by decide +kernel
theorem dX11_ask_32 : decode cX11_ask 32 = .ok (.aload_n 0, 1) := by decide +kernel
theorem dX11_ask_33 : decode cX11_ask 33 = .ok (.getfield 84, 3) := by decide +kernel
theorem dX11_ask_36 : decode cX11_ask 36 = .ok (.iconst 0, 1) := by decide +kernel
theorem dX11_ask_37 : decode cX11_ask 37 = .ok (.putfield 332, 3) := by decide +kernel
theorem dX11_ask_40 : decode cX11_ask 40 = .ok (.iload_n 2, 1) := by decide +kernel
theorem dX11_ask_41 : decode cX11_ask 41 = .ok (.ifCond .ne 14, 3) := by decide +kernel
theorem dX11_ask_44 : decode cX11_ask 44 = .ok (.aload_n 0, 1) := by decide +kernel
theorem dX11_ask_45 : decode cX11_ask 45 = .ok (.getfield 84, 3) := by decide +kernel
theorem dX11_ask_48 : decode cX11_ask 48 = .ok (.aload_n 3, 1) := by decide +kernel
theorem dX11_ask_49 : decode cX11_ask 49 = .ok (.invokevirtual 335, 3) := by decide +kernel
theorem dX11_ask_52 : decode cX11_ask 52 = .ok (.goto 11, 3) := by decide +kernel
theorem dX11_ask_55 : decode cX11_ask 55 = .ok (.aload_n 0, 1) := by decide +kernel
theorem dX11_ask_56 : decode cX11_ask 56 = .ok (.getfield 84, 3) := by decide +kernel
theorem dX11_ask_59 : decode cX11_ask 59 = .ok (.aload_n 3, 1) := by decide +kernel
theorem dX11_ask_60 : decode cX11_ask 60 = .ok (.invokevirtual 338, 3) := by decide +kernel
theorem dX11_ask_63 : decode cX11_ask 63 = .ok (.ireturn, 1) := by decide +kernel
theorem dX11_trace_0 : decode cX11_trace 0 = .ok (.iload_n 1, 1) := by decide +kernel
theorem dX11_trace_1 : decode cX11_trace 1 = .ok (.ifCond .lt 14, 3) := by decide +kernel
theorem dX11_trace_4 : decode cX11_trace 4 = .ok (.iload_n 1, 1) := by decide +kernel
theorem dX11_trace_5 : decode cX11_trace 5 = .ok (.aload_n 0, 1) := by decide +kernel
theorem dX11_trace_6 : decode cX11_trace 6 = .ok (.getfield 84, 3) := by decide +kernel
theorem dX11_trace_9 : decode cX11_trace 9 = .ok (.getfield 332, 3) := by decide +kernel
theorem dX11_trace_12 : decode cX11_trace 12 = .ok (.if_icmp .lt 8, 3) := by decide +kernel
theorem dX11_trace_15 : decode cX11_trace 15 = .ok (.ldc 170, 2) := by decide +kernel
theorem dX11_trace_17 : decode cX11_trace 17 = .ok (.goto 12, 3) := by decide +kernel
theorem dX11_trace_20 : decode cX11_trace 20 = .ok (.aload_n 0, 1) := by decide +kernel
theorem dX11_trace_21 : decode cX11_trace 21 = .ok (.getfield 84, 3) := by decide +kernel
theorem dX11_trace_24 : decode cX11_trace 24 = .ok (.getfield 341, 3) := by decide +kernel
theorem dX11_trace_27 : decode cX11_trace 27 = .ok (.iload_n 1, 1) := by decide +kernel
theorem dX11_trace_28 : decode cX11_trace 28 = .ok (.iaload, 1) := by decide +kernel
theorem dX11_trace_29 : decode cX11_trace 29 = .ok (.ireturn, 1) := by decide +kernel
theorem dX11_count_0 : decode cX11_count 0 = .ok (.iload_n 1, 1) := by decide +kernel
theorem dX11_count_1 : decode cX11_count 1 = .ok (.tableswitch 111 0 7 #[47, 52, 60, 68, 80, 86, 92, 100], 47) := by decide +kernel
theorem dX11_count_48 : decode cX11_count 48 = .ok (.aload_n 0, 1) := by decide +kernel
theorem dX11_count_49 : decode cX11_count 49 = .ok (.invokevirtual 344, 3) := by decide +kernel
theorem dX11_count_52 : decode cX11_count 52 = .ok (.ireturn, 1) := by decide +kernel
theorem dX11_count_53 : decode cX11_count 53 = .ok (.aload_n 0, 1) := by decide +kernel
theorem dX11_count_54 : decode cX11_count 54 = .ok (.getfield 25, 3) := by decide +kernel
theorem dX11_count_57 : decode cX11_count 57 = .ok (.getfield 196, 3) := by decide +kernel
theorem dX11_count_60 : decode cX11_count 60 = .ok (.ireturn, 1) := by decide +kernel
theorem dX11_count_61 : decode cX11_count 61 = .ok (.aload_n 0, 1) := by decide +kernel
theorem dX11_count_62 : decode cX11_count 62 = .ok (.getfield 18, 3) := by decide +kernel
theorem dX11_count_65 : decode cX11_count 65 = .ok (.getfield 347, 3) := by decide +kernel
theorem dX11_count_68 : decode cX11_count 68 = .ok (.ireturn, 1) := by decide +kernel
theorem dX11_count_69 : decode cX11_count 69 = .ok (.aload_n 0, 1) := by decide +kernel
theorem dX11_count_70 : decode cX11_count 70 = .ok (.iconst 1, 1) := by decide +kernel
theorem dX11_count_71 : decode cX11_count 71 = .ok (.invokevirtual 350, 3) := by decide +kernel
theorem dX11_count_74 : decode cX11_count 74 = .ok (.aload_n 0, 1) := by decide +kernel
theorem dX11_count_75 : decode cX11_count 75 = .ok (.iconst 2, 1) := by decide +kernel
theorem dX11_count_76 : decode cX11_count 76 = .ok (.invokevirtual 350, 3) := by decide +kernel
theorem dX11_count_79 : decode cX11_count 79 = .ok (.iadd, 1) := by decide +kernel
theorem dX11_count_80 : decode cX11_count 80 = .ok (.ireturn, 1) := by decide +kernel
theorem dX11_count_81 : decode cX11_count 81 = .ok (.aload_n 0, 1) := by decide +kernel
theorem dX11_count_82 : decode cX11_count 82 = .ok (.iconst 2, 1) := by decide +kernel
theorem dX11_count_83 : decode cX11_count 83 = .ok (.invokevirtual 350, 3) := by decide +kernel
theorem dX11_count_86 : decode cX11_count 86 = .ok (.ireturn, 1) := by decide +kernel
theorem dX11_count_87 : decode cX11_count 87 = .ok (.aload_n 0, 1) := by decide +kernel
theorem dX11_count_88 : decode cX11_count 88 = .ok (.iconst 3, 1) := by decide +kernel
theorem dX11_count_89 : decode cX11_count 89 = .ok (.invokevirtual 350, 3) := by decide +kernel
theorem dX11_count_92 : decode cX11_count 92 = .ok (.ireturn, 1) := by decide +kernel
theorem dX11_count_93 : decode cX11_count 93 = .ok (.aload_n 0, 1) := by decide +kernel
theorem dX11_count_94 : decode cX11_count 94 = .ok (.getfield 32, 3) := by decide +kernel
theorem dX11_count_97 : decode cX11_count 97 = .ok (.getfield 179, 3) := by decide +kernel
theorem dX11_count_100 : decode cX11_count 100 = .ok (.ireturn, 1) := by decide +kernel
theorem dX11_count_101 : decode cX11_count 101 = .ok (.aload_n 0, 1) := by decide +kernel
theorem dX11_count_102 : decode cX11_count 102 = .ok (.getfield 18, 3) := by decide +kernel
theorem dX11_count_105 : decode cX11_count 105 = .ok (.getfield 164, 3) := by decide +kernel
theorem dX11_count_108 : decode cX11_count 108 = .ok (.invokestatic 286, 3) := by decide +kernel
theorem dX11_count_111 : decode cX11_count 111 = .ok (.ireturn, 1) := by decide +kernel
theorem dX11_count_112 : decode cX11_count 112 = .ok (.ldc 100, 2) := by decide +kernel
theorem dX11_count_114 : decode cX11_count 114 = .ok (.ireturn, 1) := by decide +kernel
theorem dX11_status_0 : decode cX11_status 0 = .ok (.aload_n 0, 1) := by decide +kernel
theorem dX11_status_1 : decode cX11_status 1 = .ok (.getfield 88, 3) := by decide +kernel
theorem dX11_status_4 : decode cX11_status 4 = .ok (.ireturn, 1) := by decide +kernel
theorem dX11_isRoom_0 : decode cX11_isRoom 0 = .ok (.iload_n 0, 1) := by decide +kernel
theorem dX11_isRoom_1 : decode cX11_isRoom 1 = .ok (.ifCond .lt 13, 3) := by decide +kernel
theorem dX11_isRoom_4 : decode cX11_isRoom 4 = .ok (.iload_n 0, 1) := by decide +kernel
theorem dX11_isRoom_5 : decode cX11_isRoom 5 = .ok (.bipush 8, 2) := by decide +kernel
theorem dX11_isRoom_7 : decode cX11_isRoom 7 = .ok (.if_icmp .ge 7, 3) := by decide +kernel
theorem dX11_isRoom_10 : decode cX11_isRoom 10 = .ok (.iconst 1, 1) := by decide +kernel
theorem dX11_isRoom_11 : decode cX11_isRoom 11 = .ok (.goto 4, 3) := by decide +kernel
theorem dX11_isRoom_14 : decode cX11_isRoom 14 = .ok (.iconst 0, 1) := by decide +kernel
theorem dX11_isRoom_15 : decode cX11_isRoom 15 = .ok (.ireturn, 1) := by decide +kernel
theorem dX11_isSlot_0 : decode cX11_isSlot 0 = .ok (.iload_n 0, 1) := by decide +kernel
theorem dX11_isSlot_1 : decode cX11_isSlot 1 = .ok (.ifCond .lt 13, 3) := by decide +kernel
theorem dX11_isSlot_4 : decode cX11_isSlot 4 = .ok (.iload_n 0, 1) := by decide +kernel
theorem dX11_isSlot_5 : decode cX11_isSlot 5 = .ok (.bipush 48, 2) := by decide +kernel
theorem dX11_isSlot_7 : decode cX11_isSlot 7 = .ok (.if_icmp .ge 7, 3) := by decide +kernel
theorem dX11_isSlot_10 : decode cX11_isSlot 10 = .ok (.iconst 1, 1) := by decide +kernel
theorem dX11_isSlot_11 : decode cX11_isSlot 11 = .ok (.goto 4, 3) := by decide +kernel
theorem dX11_isSlot_14 : decode cX11_isSlot 14 = .ok (.iconst 0, 1) := by decide +kernel
theorem dX11_isSlot_15 : decode cX11_isSlot 15 = .ok (.ireturn, 1) := by decide +kernel
theorem dX11_areSlots_0 : decode cX11_areSlots 0 = .ok (.iload_n 0, 1) := by decide +kernel
theorem dX11_areSlots_1 : decode cX11_areSlots 1 = .ok (.invokestatic 167, 3) := by decide +kernel
theorem dX11_areSlots_4 : decode cX11_areSlots 4 = .ok (.ifCond .eq 20, 3) := by decide +kernel
theorem dX11_areSlots_7 : decode cX11_areSlots 7 = .ok (.iload_n 1, 1) := by decide +kernel
theorem dX11_areSlots_8 : decode cX11_areSlots 8 = .ok (.iconst 1, 1) := by decide +kernel
theorem dX11_areSlots_9 : decode cX11_areSlots 9 = .ok (.if_icmp .lt 15, 3) := by decide +kernel
theorem dX11_areSlots_12 : decode cX11_areSlots 12 = .ok (.iload_n 1, 1) := by decide +kernel
theorem dX11_areSlots_13 : decode cX11_areSlots 13 = .ok (.bipush 48, 2) := by decide +kernel
theorem dX11_areSlots_15 : decode cX11_areSlots 15 = .ok (.iload_n 0, 1) := by decide +kernel
theorem dX11_areSlots_16 : decode cX11_areSlots 16 = .ok (.isub, 1) := by decide +kernel
theorem dX11_areSlots_17 : decode cX11_areSlots 17 = .ok (.if_icmp .gt 7, 3) := by decide +kernel
theorem dX11_areSlots_20 : decode cX11_areSlots 20 = .ok (.iconst 1, 1) := by decide +kernel
theorem dX11_areSlots_21 : decode cX11_areSlots 21 = .ok (.goto 4, 3) := by decide +kernel
theorem dX11_areSlots_24 : decode cX11_areSlots 24 = .ok (.iconst 0, 1) := by decide +kernel
theorem dX11_areSlots_25 : decode cX11_areSlots 25 = .ok (.ireturn, 1) := by decide +kernel
theorem dX11_cellOf_0 : decode cX11_cellOf 0 = .ok (.iload_n 0, 1) := by decide +kernel
theorem dX11_cellOf_1 : decode cX11_cellOf 1 = .ok (.bipush 48, 2) := by decide +kernel
theorem dX11_cellOf_3 : decode cX11_cellOf 3 = .ok (.imul, 1) := by decide +kernel
theorem dX11_cellOf_4 : decode cX11_cellOf 4 = .ok (.iload_n 1, 1) := by decide +kernel
theorem dX11_cellOf_5 : decode cX11_cellOf 5 = .ok (.iadd, 1) := by decide +kernel
theorem dX11_cellOf_6 : decode cX11_cellOf 6 = .ok (.ireturn, 1) := by decide +kernel
theorem dX11_sheetOrNull_0 : decode cX11_sheetOrNull 0 = .ok (.iload_n 1, 1) := by decide +kernel
theorem dX11_sheetOrNull_1 : decode cX11_sheetOrNull 1 = .ok (.ifCond .lt 18, 3) := by decide +kernel
theorem dX11_sheetOrNull_4 : decode cX11_sheetOrNull 4 = .ok (.iload_n 1, 1) := by decide +kernel
theorem dX11_sheetOrNull_5 : decode cX11_sheetOrNull 5 = .ok (.bipush 8, 2) := by decide +kernel
theorem dX11_sheetOrNull_7 : decode cX11_sheetOrNull 7 = .ok (.if_icmp .ge 12, 3) := by decide +kernel
theorem dX11_sheetOrNull_10 : decode cX11_sheetOrNull 10 = .ok (.aload_n 0, 1) := by decide +kernel
theorem dX11_sheetOrNull_11 : decode cX11_sheetOrNull 11 = .ok (.getfield 11, 3) := by decide +kernel
theorem dX11_sheetOrNull_14 : decode cX11_sheetOrNull 14 = .ok (.iload_n 1, 1) := by decide +kernel
theorem dX11_sheetOrNull_15 : decode cX11_sheetOrNull 15 = .ok (.aaload, 1) := by decide +kernel
theorem dX11_sheetOrNull_16 : decode cX11_sheetOrNull 16 = .ok (.goto 4, 3) := by decide +kernel
theorem dX11_sheetOrNull_19 : decode cX11_sheetOrNull 19 = .ok (.aconst_null, 1) := by decide +kernel
theorem dX11_sheetOrNull_20 : decode cX11_sheetOrNull 20 = .ok (.areturn, 1) := by decide +kernel
theorem dX11_found_0 : decode cX11_found 0 = .ok (.aload_n 0, 1) := by decide +kernel
theorem dX11_found_1 : decode cX11_found 1 = .ok (.iload_n 1, 1) := by decide +kernel
theorem dX11_found_2 : decode cX11_found 2 = .ok (.putfield 88, 3) := by decide +kernel
theorem dX11_found_5 : decode cX11_found 5 = .ok (.ldc_w 353, 3) := by decide +kernel
theorem dX11_found_8 : decode cX11_found 8 = .ok (.iload_n 1, 1) := by decide +kernel
theorem dX11_found_9 : decode cX11_found 9 = .ok (.isub, 1) := by decide +kernel
theorem dX11_found_10 : decode cX11_found 10 = .ok (.ireturn, 1) := by decide +kernel
theorem dX11_withoutFinding_0 : decode cX11_withoutFinding 0 = .ok (.aload_n 0, 1) := by decide +kernel
theorem dX11_withoutFinding_1 : decode cX11_withoutFinding 1 = .ok (.iconst 0, 1) := by decide +kernel
theorem dX11_withoutFinding_2 : decode cX11_withoutFinding 2 = .ok (.putfield 88, 3) := by decide +kernel
theorem dX11_withoutFinding_5 : decode cX11_withoutFinding 5 = .ok (.iload_n 1, 1) := by decide +kernel
theorem dX11_withoutFinding_6 : decode cX11_withoutFinding 6 = .ok (.ireturn, 1) := by decide +kernel
theorem dX11_fillFromSheet_0 : decode cX11_fillFromSheet 0 = .ok (.aload_n 0, 1) := by decide +kernel
theorem dX11_fillFromSheet_1 : decode cX11_fillFromSheet 1 = .ok (.iload_n 3, 1) := by decide +kernel
theorem dX11_fillFromSheet_2 : decode cX11_fillFromSheet 2 = .ok (.invokevirtual 96, 3) := by decide +kernel
theorem dX11_fillFromSheet_5 : decode cX11_fillFromSheet 5 = .ok (.astore 7, 2) := by decide +kernel
theorem dX11_fillFromSheet_7 : decode cX11_fillFromSheet 7 = .ok (.aload 7, 2) := by decide +kernel
theorem dX11_fillFromSheet_9 : decode cX11_fillFromSheet 9 = .ok (.ifnonnull 6, 3) := by decide +kernel
theorem dX11_fillFromSheet_12 : decode cX11_fillFromSheet 12 = .ok (.ldc 100, 2) := by decide +kernel
theorem dX11_fillFromSheet_14 : decode cX11_fillFromSheet 14 = .ok (.ireturn, 1) := by decide +kernel
theorem dX11_fillFromSheet_15 : decode cX11_fillFromSheet 15 = .ok (.aload 7, 2) := by decide +kernel
theorem dX11_fillFromSheet_17 : decode cX11_fillFromSheet 17 = .ok (.iload 4, 2) := by decide +kernel
theorem dX11_fillFromSheet_19 : decode cX11_fillFromSheet 19 = .ok (.iload 5, 2) := by decide +kernel
theorem dX11_fillFromSheet_21 : decode cX11_fillFromSheet 21 = .ok (.invokevirtual 112, 3) := by decide +kernel
theorem dX11_fillFromSheet_24 : decode cX11_fillFromSheet 24 = .ok (.istore 8, 2) := by decide +kernel
theorem dX11_fillFromSheet_26 : decode cX11_fillFromSheet 26 = .ok (.iload 8, 2) := by decide +kernel
theorem dX11_fillFromSheet_28 : decode cX11_fillFromSheet 28 = .ok (.ifCond .eq 10, 3) := by decide +kernel
theorem dX11_fillFromSheet_31 : decode cX11_fillFromSheet 31 = .ok (.aload_n 0, 1) := by decide +kernel
theorem dX11_fillFromSheet_32 : decode cX11_fillFromSheet 32 = .ok (.iload 8, 2) := by decide +kernel
theorem dX11_fillFromSheet_34 : decode cX11_fillFromSheet 34 = .ok (.invokevirtual 101, 3) := by decide +kernel
theorem dX11_fillFromSheet_37 : decode cX11_fillFromSheet 37 = .ok (.ireturn, 1) := by decide +kernel
theorem dX11_fillFromSheet_38 : decode cX11_fillFromSheet 38 = .ok (.aload 7, 2) := by decide +kernel
theorem dX11_fillFromSheet_40 : decode cX11_fillFromSheet 40 = .ok (.iload 6, 2) := by decide +kernel
theorem dX11_fillFromSheet_42 : decode cX11_fillFromSheet 42 = .ok (.iload 4, 2) := by decide +kernel
theorem dX11_fillFromSheet_44 : decode cX11_fillFromSheet 44 = .ok (.iload 5, 2) := by decide +kernel
theorem dX11_fillFromSheet_46 : decode cX11_fillFromSheet 46 = .ok (.invokevirtual 354, 3) := by decide +kernel
theorem dX11_fillFromSheet_49 : decode cX11_fillFromSheet 49 = .ok (.ifCond .ne 6, 3) := by decide +kernel
theorem dX11_fillFromSheet_52 : decode cX11_fillFromSheet 52 = .ok (.ldc 100, 2) := by decide +kernel
theorem dX11_fillFromSheet_54 : decode cX11_fillFromSheet 54 = .ok (.ireturn, 1) := by decide +kernel
theorem dX11_fillFromSheet_55 : decode cX11_fillFromSheet 55 = .ok (.aload 7, 2) := by decide +kernel
theorem dX11_fillFromSheet_57 : decode cX11_fillFromSheet 57 = .ok (.getfield 130, 3) := by decide +kernel
theorem dX11_fillFromSheet_60 : decode cX11_fillFromSheet 60 = .ok (.iload 4, 2) := by decide +kernel
theorem dX11_fillFromSheet_62 : decode cX11_fillFromSheet 62 = .ok (.aload_n 1, 1) := by decide +kernel
theorem dX11_fillFromSheet_63 : decode cX11_fillFromSheet 63 = .ok (.iload_n 2, 1) := by decide +kernel
theorem dX11_fillFromSheet_64 : decode cX11_fillFromSheet 64 = .ok (.iload 5, 2) := by decide +kernel
theorem dX11_fillFromSheet_66 : decode cX11_fillFromSheet 66 = .ok (.invokestatic 134, 3) := by decide +kernel
theorem dX11_fillFromSheet_69 : decode cX11_fillFromSheet 69 = .ok (.aload_n 0, 1) := by decide +kernel
theorem dX11_fillFromSheet_70 : decode cX11_fillFromSheet 70 = .ok (.iload 5, 2) := by decide +kernel
theorem dX11_fillFromSheet_72 : decode cX11_fillFromSheet 72 = .ok (.invokevirtual 109, 3) := by decide +kernel
theorem dX11_fillFromSheet_75 : decode cX11_fillFromSheet 75 = .ok (.ireturn, 1) := by decide +kernel
theorem dX11_sheetsThere_0 : decode cX11_sheetsThere 0 = .ok (.iconst 0, 1) := by decide +kernel
theorem dX11_sheetsThere_1 : decode cX11_sheetsThere 1 = .ok (.istore_n 1, 1) := by decide +kernel
theorem dX11_sheetsThere_2 : decode cX11_sheetsThere 2 = .ok (.iconst 0, 1) := by decide +kernel
theorem dX11_sheetsThere_3 : decode cX11_sheetsThere 3 = .ok (.istore_n 2, 1) := by decide +kernel
theorem dX11_sheetsThere_4 : decode cX11_sheetsThere 4 = .ok (.iload_n 2, 1) := by decide +kernel
theorem dX11_sheetsThere_5 : decode cX11_sheetsThere 5 = .ok (.bipush 8, 2) := by decide +kernel
theorem dX11_sheetsThere_7 : decode cX11_sheetsThere 7 = .ok (.if_icmp .ge 24, 3) := by decide +kernel
theorem dX11_sheetsThere_10 : decode cX11_sheetsThere 10 = .ok (.aload_n 0, 1) := by decide +kernel
theorem dX11_sheetsThere_11 : decode cX11_sheetsThere 11 = .ok (.getfield 11, 3) := by decide +kernel
theorem dX11_sheetsThere_14 : decode cX11_sheetsThere 14 = .ok (.iload_n 2, 1) := by decide +kernel
theorem dX11_sheetsThere_15 : decode cX11_sheetsThere 15 = .ok (.aaload, 1) := by decide +kernel
theorem dX11_sheetsThere_16 : decode cX11_sheetsThere 16 = .ok (.invokevirtual 119, 3) := by decide +kernel
theorem dX11_sheetsThere_19 : decode cX11_sheetsThere 19 = .ok (.ifCond .ne 6, 3) := by decide +kernel
theorem dX11_sheetsThere_22 : decode cX11_sheetsThere 22 = .ok (.iinc 1 1, 3) := by decide +kernel
theorem dX11_sheetsThere_25 : decode cX11_sheetsThere 25 = .ok (.iinc 2 1, 3) := by decide +kernel
theorem dX11_sheetsThere_28 : decode cX11_sheetsThere 28 = .ok (.goto (-24), 3) := by decide +kernel
theorem dX11_sheetsThere_31 : decode cX11_sheetsThere 31 = .ok (.iload_n 1, 1) := by decide +kernel
theorem dX11_sheetsThere_32 : decode cX11_sheetsThere 32 = .ok (.ireturn, 1) := by decide +kernel
theorem dX11_flightsTold_0 : decode cX11_flightsTold 0 = .ok (.aload_n 0, 1) := by decide +kernel
theorem dX11_flightsTold_1 : decode cX11_flightsTold 1 = .ok (.getfield 50, 3) := by decide +kernel
theorem dX11_flightsTold_4 : decode cX11_flightsTold 4 = .ok (.invokevirtual 244, 3) := by decide +kernel
theorem dX11_flightsTold_7 : decode cX11_flightsTold 7 = .ok (.iconst 0, 1) := by decide +kernel
theorem dX11_flightsTold_8 : decode cX11_flightsTold 8 = .ok (.istore_n 2, 1) := by decide +kernel
theorem dX11_flightsTold_9 : decode cX11_flightsTold 9 = .ok (.iconst 0, 1) := by decide +kernel
theorem dX11_flightsTold_10 : decode cX11_flightsTold 10 = .ok (.istore_n 3, 1) := by decide +kernel
theorem dX11_flightsTold_11 : decode cX11_flightsTold 11 = .ok (.iload_n 3, 1) := by decide +kernel
theorem dX11_flightsTold_12 : decode cX11_flightsTold 12 = .ok (.aload_n 0, 1) := by decide +kernel
theorem dX11_flightsTold_13 : decode cX11_flightsTold 13 = .ok (.getfield 25, 3) := by decide +kernel
theorem dX11_flightsTold_16 : decode cX11_flightsTold 16 = .ok (.getfield 196, 3) := by decide +kernel
theorem dX11_flightsTold_19 : decode cX11_flightsTold 19 = .ok (.if_icmp .ge 32, 3) := by decide +kernel
theorem dX11_flightsTold_22 : decode cX11_flightsTold 22 = .ok (.aload_n 0, 1) := by decide +kernel
theorem dX11_flightsTold_23 : decode cX11_flightsTold 23 = .ok (.getfield 84, 3) := by decide +kernel
theorem dX11_flightsTold_26 : decode cX11_flightsTold 26 = .ok (.aload_n 0, 1) := by decide +kernel
theorem dX11_flightsTold_27 : decode cX11_flightsTold 27 = .ok (.getfield 25, 3) := by decide +kernel
theorem dX11_flightsTold_30 : decode cX11_flightsTold 30 = .ok (.getfield 301, 3) := by decide +kernel
theorem dX11_flightsTold_33 : decode cX11_flightsTold 33 = .ok (.iload_n 3, 1) := by decide +kernel
theorem dX11_flightsTold_34 : decode cX11_flightsTold 34 = .ok (.aaload, 1) := by decide +kernel
theorem dX11_flightsTold_35 : decode cX11_flightsTold 35 = .ok (.invokevirtual 324, 3) := by decide +kernel
theorem dX11_flightsTold_38 : decode cX11_flightsTold 38 = .ok (.iload_n 1, 1) := by decide +kernel
theorem dX11_flightsTold_39 : decode cX11_flightsTold 39 = .ok (.if_icmp .ne 6, 3) := by decide +kernel
theorem dX11_flightsTold_42 : decode cX11_flightsTold 42 = .ok (.iinc 2 1, 3) := by decide +kernel
theorem dX11_flightsTold_45 : decode cX11_flightsTold 45 = .ok (.iinc 3 1, 3) := by decide +kernel
theorem dX11_flightsTold_48 : decode cX11_flightsTold 48 = .ok (.goto (-37), 3) := by decide +kernel
theorem dX11_flightsTold_51 : decode cX11_flightsTold 51 = .ok (.iload_n 2, 1) := by decide +kernel
theorem dX11_flightsTold_52 : decode cX11_flightsTold 52 = .ok (.ireturn, 1) := by decide +kernel
theorem dX11_harmsNone_0 : decode cX11_harmsNone 0 = .ok (.aload_n 1, 1) := by decide +kernel
theorem dX11_harmsNone_1 : decode cX11_harmsNone 1 = .ok (.aload_n 1, 1) := by decide +kernel
theorem dX11_harmsNone_2 : decode cX11_harmsNone 2 = .ok (.getfield 220, 3) := by decide +kernel
theorem dX11_harmsNone_5 : decode cX11_harmsNone 5 = .ok (.aload_n 2, 1) := by decide +kernel
theorem dX11_harmsNone_6 : decode cX11_harmsNone 6 = .ok (.getfield 223, 3) := by decide +kernel
theorem dX11_harmsNone_9 : decode cX11_harmsNone 9 = .ok (.invokevirtual 358, 3) := by decide +kernel
theorem dX11_harmsNone_12 : decode cX11_harmsNone 12 = .ok (.istore_n 3, 1) := by decide +kernel
theorem dX11_harmsNone_13 : decode cX11_harmsNone 13 = .ok (.aload_n 2, 1) := by decide +kernel
theorem dX11_harmsNone_14 : decode cX11_harmsNone 14 = .ok (.aload_n 2, 1) := by decide +kernel
theorem dX11_harmsNone_15 : decode cX11_harmsNone 15 = .ok (.getfield 220, 3) := by decide +kernel
theorem dX11_harmsNone_18 : decode cX11_harmsNone 18 = .ok (.aload_n 1, 1) := by decide +kernel
theorem dX11_harmsNone_19 : decode cX11_harmsNone 19 = .ok (.getfield 223, 3) := by decide +kernel
theorem dX11_harmsNone_22 : decode cX11_harmsNone 22 = .ok (.invokevirtual 358, 3) := by decide +kernel
theorem dX11_harmsNone_25 : decode cX11_harmsNone 25 = .ok (.istore 4, 2) := by decide +kernel
theorem dX11_harmsNone_27 : decode cX11_harmsNone 27 = .ok (.iload_n 3, 1) := by decide +kernel
theorem dX11_harmsNone_28 : decode cX11_harmsNone 28 = .ok (.aload_n 1, 1) := by decide +kernel
theorem dX11_harmsNone_29 : decode cX11_harmsNone 29 = .ok (.invokevirtual 226, 3) := by decide +kernel
theorem dX11_harmsNone_32 : decode cX11_harmsNone 32 = .ok (.if_icmp .gt 12, 3) := by decide +kernel
theorem dX11_harmsNone_35 : decode cX11_harmsNone 35 = .ok (.iload 4, 2) := by decide +kernel
theorem dX11_harmsNone_37 : decode cX11_harmsNone 37 = .ok (.aload_n 2, 1) := by decide +kernel
theorem dX11_harmsNone_38 : decode cX11_harmsNone 38 = .ok (.invokevirtual 226, 3) := by decide +kernel
theorem dX11_harmsNone_41 : decode cX11_harmsNone 41 = .ok (.if_icmp .le 7, 3) := by decide +kernel
theorem dX11_harmsNone_44 : decode cX11_harmsNone 44 = .ok (.iconst 1, 1) := by decide +kernel
theorem dX11_harmsNone_45 : decode cX11_harmsNone 45 = .ok (.goto 4, 3) := by decide +kernel
theorem dX11_harmsNone_48 : decode cX11_harmsNone 48 = .ok (.iconst 0, 1) := by decide +kernel
theorem dX11_harmsNone_49 : decode cX11_harmsNone 49 = .ok (.istore 5, 2) := by decide +kernel
theorem dX11_harmsNone_51 : decode cX11_harmsNone 51 = .ok (.iload_n 3, 1) := by decide +kernel
theorem dX11_harmsNone_52 : decode cX11_harmsNone 52 = .ok (.aload_n 1, 1) := by decide +kernel
theorem dX11_harmsNone_53 : decode cX11_harmsNone 53 = .ok (.invokevirtual 226, 3) := by decide +kernel
theorem dX11_harmsNone_56 : decode cX11_harmsNone 56 = .ok (.if_icmp .lt 12, 3) := by decide +kernel
theorem dX11_harmsNone_59 : decode cX11_harmsNone 59 = .ok (.iload 4, 2) := by decide +kernel
theorem dX11_harmsNone_61 : decode cX11_harmsNone 61 = .ok (.aload_n 2, 1) := by decide +kernel
theorem dX11_harmsNone_62 : decode cX11_harmsNone 62 = .ok (.invokevirtual 226, 3) := by decide +kernel
theorem dX11_harmsNone_65 : decode cX11_harmsNone 65 = .ok (.if_icmp .ge 7, 3) := by decide +kernel
theorem dX11_harmsNone_68 : decode cX11_harmsNone 68 = .ok (.iconst 1, 1) := by decide +kernel
theorem dX11_harmsNone_69 : decode cX11_harmsNone 69 = .ok (.goto 4, 3) := by decide +kernel
theorem dX11_harmsNone_72 : decode cX11_harmsNone 72 = .ok (.iconst 0, 1) := by decide +kernel
theorem dX11_harmsNone_73 : decode cX11_harmsNone 73 = .ok (.istore 6, 2) := by decide +kernel
theorem dX11_harmsNone_75 : decode cX11_harmsNone 75 = .ok (.iload 5, 2) := by decide +kernel
theorem dX11_harmsNone_77 : decode cX11_harmsNone 77 = .ok (.ifCond .ne 8, 3) := by decide +kernel
theorem dX11_harmsNone_80 : decode cX11_harmsNone 80 = .ok (.iload 6, 2) := by decide +kernel
theorem dX11_harmsNone_82 : decode cX11_harmsNone 82 = .ok (.ifCond .ne 5, 3) := by decide +kernel
theorem dX11_harmsNone_85 : decode cX11_harmsNone 85 = .ok (.iconst 0, 1) := by decide +kernel
theorem dX11_harmsNone_86 : decode cX11_harmsNone 86 = .ok (.ireturn, 1) := by decide +kernel
theorem dX11_harmsNone_87 : decode cX11_harmsNone 87 = .ok (.aload_n 0, 1) := by decide +kernel
theorem dX11_harmsNone_88 : decode cX11_harmsNone 88 = .ok (.getfield 50, 3) := by decide +kernel
theorem dX11_harmsNone_91 : decode cX11_harmsNone 91 = .ok (.invokevirtual 244, 3) := by decide +kernel
theorem dX11_harmsNone_94 : decode cX11_harmsNone 94 = .ok (.aload_n 0, 1) := by decide +kernel
theorem dX11_harmsNone_95 : decode cX11_harmsNone 95 = .ok (.getfield 50, 3) := by decide +kernel
theorem dX11_harmsNone_98 : decode cX11_harmsNone 98 = .ok (.invokevirtual 253, 3) := by decide +kernel
theorem dX11_harmsNone_101 : decode cX11_harmsNone 101 = .ok (.istore 7, 2) := by decide +kernel
theorem dX11_harmsNone_103 : decode cX11_harmsNone 103 = .ok (.aload_n 1, 1) := by decide +kernel
theorem dX11_harmsNone_104 : decode cX11_harmsNone 104 = .ok (.aload_n 2, 1) := by decide +kernel
theorem dX11_harmsNone_105 : decode cX11_harmsNone 105 = .ok (.invokestatic 305, 3) := by decide +kernel
theorem dX11_harmsNone_108 : decode cX11_harmsNone 108 = .ok (.aload_n 0, 1) := by decide +kernel
theorem dX11_harmsNone_109 : decode cX11_harmsNone 109 = .ok (.getfield 50, 3) := by decide +kernel
theorem dX11_harmsNone_112 : decode cX11_harmsNone 112 = .ok (.invokevirtual 244, 3) := by decide +kernel
theorem dX11_harmsNone_115 : decode cX11_harmsNone 115 = .ok (.aload_n 0, 1) := by decide +kernel
theorem dX11_harmsNone_116 : decode cX11_harmsNone 116 = .ok (.getfield 50, 3) := by decide +kernel
theorem dX11_harmsNone_119 : decode cX11_harmsNone 119 = .ok (.invokevirtual 253, 3) := by decide +kernel
theorem dX11_harmsNone_122 : decode cX11_harmsNone 122 = .ok (.istore 8, 2) := by decide +kernel
theorem dX11_harmsNone_124 : decode cX11_harmsNone 124 = .ok (.aload_n 1, 1) := by decide +kernel
theorem dX11_harmsNone_125 : decode cX11_harmsNone 125 = .ok (.aload_n 2, 1) := by decide +kernel
theorem dX11_harmsNone_126 : decode cX11_harmsNone 126 = .ok (.invokestatic 305, 3) := by decide +kernel
theorem dX11_harmsNone_129 : decode cX11_harmsNone 129 = .ok (.iload 8, 2) := by decide +kernel
theorem dX11_harmsNone_131 : decode cX11_harmsNone 131 = .ok (.iload 7, 2) := by decide +kernel
theorem dX11_harmsNone_133 : decode cX11_harmsNone 133 = .ok (.if_icmp .gt 7, 3) := by decide +kernel
theorem dX11_harmsNone_136 : decode cX11_harmsNone 136 = .ok (.iconst 1, 1) := by decide +kernel
theorem dX11_harmsNone_137 : decode cX11_harmsNone 137 = .ok (.goto 4, 3) := by decide +kernel
theorem dX11_harmsNone_140 : decode cX11_harmsNone 140 = .ok (.iconst 0, 1) := by decide +kernel
theorem dX11_harmsNone_141 : decode cX11_harmsNone 141 = .ok (.ireturn, 1) := by decide +kernel
theorem dX11_exchangeDelays_0 : decode cX11_exchangeDelays 0 = .ok (.aload_n 0, 1) := by decide +kernel
theorem dX11_exchangeDelays_1 : decode cX11_exchangeDelays 1 = .ok (.getfield 223, 3) := by decide +kernel
theorem dX11_exchangeDelays_4 : decode cX11_exchangeDelays 4 = .ok (.istore_n 2, 1) := by decide +kernel
theorem dX11_exchangeDelays_5 : decode cX11_exchangeDelays 5 = .ok (.aload_n 0, 1) := by decide +kernel
theorem dX11_exchangeDelays_6 : decode cX11_exchangeDelays 6 = .ok (.aload_n 1, 1) := by decide +kernel
theorem dX11_exchangeDelays_7 : decode cX11_exchangeDelays 7 = .ok (.getfield 223, 3) := by decide +kernel
theorem dX11_exchangeDelays_10 : decode cX11_exchangeDelays 10 = .ok (.putfield 223, 3) := by decide +kernel
theorem dX11_exchangeDelays_13 : decode cX11_exchangeDelays 13 = .ok (.aload_n 1, 1) := by decide +kernel
theorem dX11_exchangeDelays_14 : decode cX11_exchangeDelays 14 = .ok (.iload_n 2, 1) := by decide +kernel
theorem dX11_exchangeDelays_15 : decode cX11_exchangeDelays 15 = .ok (.putfield 223, 3) := by decide +kernel
theorem dX11_exchangeDelays_18 : decode cX11_exchangeDelays 18 = .ok (.return_, 1) := by decide +kernel
theorem dX12_in_0 : decode cX12_in 0 = .ok (.lload_n 0, 1) := by decide +kernel
theorem dX12_in_1 : decode cX12_in 1 = .ok (.lload_n 2, 1) := by decide +kernel
theorem dX12_in_2 : decode cX12_in 2 = .ok (.lcmp, 1) := by decide +kernel
theorem dX12_in_3 : decode cX12_in 3 = .ok (.ifCond .lt 14, 3) := by decide +kernel
theorem dX12_in_6 : decode cX12_in 6 = .ok (.lload_n 0, 1) := by decide +kernel
theorem dX12_in_7 : decode cX12_in 7 = .ok (.lload 4, 2) := by decide +kernel
theorem dX12_in_9 : decode cX12_in 9 = .ok (.lcmp, 1) := by decide +kernel
theorem dX12_in_10 : decode cX12_in 10 = .ok (.ifCond .gt 7, 3) := by decide +kernel
theorem dX12_in_13 : decode cX12_in 13 = .ok (.iconst 1, 1) := by decide +kernel
theorem dX12_in_14 : decode cX12_in 14 = .ok (.goto 4, 3) := by decide +kernel
theorem dX12_in_17 : decode cX12_in 17 = .ok (.iconst 0, 1) := by decide +kernel
theorem dX12_in_18 : decode cX12_in 18 = .ok (.ireturn, 1) := by decide +kernel
theorem dX12_found_0 : decode cX12_found 0 = .ok (.aload_n 0, 1) := by decide +kernel
theorem dX12_found_1 : decode cX12_found 1 = .ok (.iload_n 1, 1) := by decide +kernel
theorem dX12_found_2 : decode cX12_found 2 = .ok (.putfield 7, 3) := by decide +kernel
theorem dX12_found_5 : decode cX12_found 5 = .ok (.ldc 10, 2) := by decide +kernel
theorem dX12_found_7 : decode cX12_found 7 = .ok (.iload_n 1, 1) := by decide +kernel
theorem dX12_found_8 : decode cX12_found 8 = .ok (.isub, 1) := by decide +kernel
theorem dX12_found_9 : decode cX12_found 9 = .ok (.ireturn, 1) := by decide +kernel
theorem dX12_isSheet_0 : decode cX12_isSheet 0 = .ok (.iload_n 0, 1) := by decide +kernel
theorem dX12_isSheet_1 : decode cX12_isSheet 1 = .ok (.i2l, 1) := by decide +kernel
theorem dX12_isSheet_2 : decode cX12_isSheet 2 = .ok (.lconst 0, 1) := by decide +kernel
theorem dX12_isSheet_3 : decode cX12_isSheet 3 = .ok (.ldc2_w 11, 3) := by decide +kernel
theorem dX12_isSheet_6 : decode cX12_isSheet 6 = .ok (.invokestatic 13, 3) := by decide +kernel
theorem dX12_isSheet_9 : decode cX12_isSheet 9 = .ok (.ireturn, 1) := by decide +kernel
theorem dX12_sheet_0 : decode cX12_sheet 0 = .ok (.aload_n 0, 1) := by decide +kernel
theorem dX12_sheet_1 : decode cX12_sheet 1 = .ok (.iconst 0, 1) := by decide +kernel
theorem dX12_sheet_2 : decode cX12_sheet 2 = .ok (.putfield 1, 3) := by decide +kernel
theorem dX12_sheet_5 : decode cX12_sheet 5 = .ok (.iload_n 1, 1) := by decide +kernel
theorem dX12_sheet_6 : decode cX12_sheet 6 = .ok (.invokestatic 17, 3) := by decide +kernel
theorem dX12_sheet_9 : decode cX12_sheet 9 = .ok (.ifCond .eq 21, 3) := by decide +kernel
theorem dX12_sheet_12 : decode cX12_sheet 12 = .ok (.iload_n 2, 1) := by decide +kernel
theorem dX12_sheet_13 : decode cX12_sheet 13 = .ok (.i2l, 1) := by decide +kernel
theorem dX12_sheet_14 : decode cX12_sheet 14 = .ok (.lconst 0, 1) := by decide +kernel
theorem dX12_sheet_15 : decode cX12_sheet 15 = .ok (.ldc2_w 21, 3) := by decide +kernel
theorem dX12_sheet_18 : decode cX12_sheet 18 = .ok (.invokestatic 13, 3) := by decide +kernel
theorem dX12_sheet_21 : decode cX12_sheet 21 = .ok (.ifCond .eq 9, 3) := by decide +kernel
theorem dX12_sheet_24 : decode cX12_sheet 24 = .ok (.iload_n 3, 1) := by decide +kernel
theorem dX12_sheet_25 : decode cX12_sheet 25 = .ok (.bipush 48, 2) := by decide +kernel
theorem dX12_sheet_27 : decode cX12_sheet 27 = .ok (.if_icmp .le 6, 3) := by decide +kernel
theorem dX12_sheet_30 : decode cX12_sheet 30 = .ok (.ldc 23, 2) := by decide +kernel
theorem dX12_sheet_32 : decode cX12_sheet 32 = .ok (.ireturn, 1) := by decide +kernel
theorem dX12_sheet_33 : decode cX12_sheet 33 = .ok (.aload_n 0, 1) := by decide +kernel
theorem dX12_sheet_34 : decode cX12_sheet 34 = .ok (.iconst 0, 1) := by decide +kernel
theorem dX12_sheet_35 : decode cX12_sheet 35 = .ok (.putfield 7, 3) := by decide +kernel
theorem dX12_sheet_38 : decode cX12_sheet 38 = .ok (.iload_n 3, 1) := by decide +kernel
theorem dX12_sheet_39 : decode cX12_sheet 39 = .ok (.ifCond .ge 9, 3) := by decide +kernel
theorem dX12_sheet_42 : decode cX12_sheet 42 = .ok (.aload_n 0, 1) := by decide +kernel
theorem dX12_sheet_43 : decode cX12_sheet 43 = .ok (.iconst 4, 1) := by decide +kernel
theorem dX12_sheet_44 : decode cX12_sheet 44 = .ok (.invokevirtual 24, 3) := by decide +kernel
theorem dX12_sheet_47 : decode cX12_sheet 47 = .ok (.ireturn, 1) := by decide +kernel
theorem dX12_sheet_48 : decode cX12_sheet 48 = .ok (.aload_n 0, 1) := by decide +kernel
theorem dX12_sheet_49 : decode cX12_sheet 49 = .ok (.getfield 28, 3) := by decide +kernel
theorem dX12_sheet_52 : decode cX12_sheet 52 = .ok (.iload_n 1, 1) := by decide +kernel
theorem dX12_sheet_53 : decode cX12_sheet 53 = .ok (.iload_n 2, 1) := by decide +kernel
theorem dX12_sheet_54 : decode cX12_sheet 54 = .ok (.iastore, 1) := by decide +kernel
theorem dX12_sheet_55 : decode cX12_sheet 55 = .ok (.aload_n 0, 1) := by decide +kernel
theorem dX12_sheet_56 : decode cX12_sheet 56 = .ok (.getfield 32, 3) := by decide +kernel
theorem dX12_sheet_59 : decode cX12_sheet 59 = .ok (.iload_n 1, 1) := by decide +kernel
theorem dX12_sheet_60 : decode cX12_sheet 60 = .ok (.iload_n 3, 1) := by decide +kernel
theorem dX12_sheet_61 : decode cX12_sheet 61 = .ok (.iastore, 1) := by decide +kernel
theorem dX12_sheet_62 : decode cX12_sheet 62 = .ok (.iconst 0, 1) := by decide +kernel
theorem dX12_sheet_63 : decode cX12_sheet 63 = .ok (.istore 4, 2) := by decide +kernel
theorem dX12_sheet_65 : decode cX12_sheet 65 = .ok (.iload 4, 2) := by decide +kernel
theorem dX12_sheet_67 : decode cX12_sheet 67 = .ok (.bipush 48, 2) := by decide +kernel
theorem dX12_sheet_69 : decode cX12_sheet 69 = .ok (.if_icmp .ge 22, 3) := by decide +kernel
theorem dX12_sheet_72 : decode cX12_sheet 72 = .ok (.aload_n 0, 1) := by decide +kernel
theorem dX12_sheet_73 : decode cX12_sheet 73 = .ok (.getfield 35, 3) := by decide +kernel
theorem dX12_sheet_76 : decode cX12_sheet 76 = .ok (.bipush 48, 2) := by decide +kernel
theorem dX12_sheet_78 : decode cX12_sheet 78 = .ok (.iload_n 1, 1) := by decide +kernel
theorem dX12_sheet_79 : decode cX12_sheet 79 = .ok (.imul, 1) := by decide +kernel
theorem dX12_sheet_80 : decode cX12_sheet 80 = .ok (.iload 4, 2) := by decide +kernel
theorem dX12_sheet_82 : decode cX12_sheet 82 = .ok (.iadd, 1) := by decide +kernel
theorem dX12_sheet_83 : decode cX12_sheet 83 = .ok (.iconst 0, 1) := by decide +kernel
theorem dX12_sheet_84 : decode cX12_sheet 84 = .ok (.iastore, 1) := by decide +kernel
theorem dX12_sheet_85 : decode cX12_sheet 85 = .ok (.iinc 4 1, 3) := by decide +kernel
theorem dX12_sheet_88 : decode cX12_sheet 88 = .ok (.goto (-23), 3) := by decide +kernel
theorem dX12_sheet_91 : decode cX12_sheet 91 = .ok (.iload_n 3, 1) := by decide +kernel
theorem dX12_sheet_92 : decode cX12_sheet 92 = .ok (.ireturn, 1) := by decide +kernel
theorem dX12_set_0 : decode cX12_set 0 = .ok (.aload_n 0, 1) := by decide +kernel
theorem dX12_set_1 : decode cX12_set 1 = .ok (.iconst 0, 1) := by decide +kernel
theorem dX12_set_2 : decode cX12_set 2 = .ok (.putfield 1, 3) := by decide +kernel
theorem dX12_set_5 : decode cX12_set 5 = .ok (.iload_n 1, 1) := by decide +kernel
theorem dX12_set_6 : decode cX12_set 6 = .ok (.invokestatic 17, 3) := by decide +kernel
theorem dX12_set_9 : decode cX12_set 9 = .ok (.ifCond .ne 6, 3) := by decide +kernel
theorem dX12_set_12 : decode cX12_set 12 = .ok (.ldc 23, 2) := by decide +kernel
theorem dX12_set_14 : decode cX12_set 14 = .ok (.ireturn, 1) := by decide +kernel
theorem dX12_set_15 : decode cX12_set 15 = .ok (.aload_n 0, 1) := by decide +kernel
theorem dX12_set_16 : decode cX12_set 16 = .ok (.iconst 0, 1) := by decide +kernel
theorem dX12_set_17 : decode cX12_set 17 = .ok (.putfield 7, 3) := by decide +kernel
theorem dX12_set_20 : decode cX12_set 20 = .ok (.aload_n 0, 1) := by decide +kernel
theorem dX12_set_21 : decode cX12_set 21 = .ok (.getfield 28, 3) := by decide +kernel
theorem dX12_set_24 : decode cX12_set 24 = .ok (.iload_n 1, 1) := by decide +kernel
theorem dX12_set_25 : decode cX12_set 25 = .ok (.iaload, 1) := by decide +kernel
theorem dX12_set_26 : decode cX12_set 26 = .ok (.ifCond .ge 9, 3) := by decide +kernel
theorem dX12_set_29 : decode cX12_set 29 = .ok (.aload_n 0, 1) := by decide +kernel
theorem dX12_set_30 : decode cX12_set 30 = .ok (.iconst 1, 1) := by decide +kernel
theorem dX12_set_31 : decode cX12_set 31 = .ok (.invokevirtual 24, 3) := by decide +kernel
theorem dX12_set_34 : decode cX12_set 34 = .ok (.ireturn, 1) := by decide +kernel
theorem dX12_set_35 : decode cX12_set 35 = .ok (.iload_n 2, 1) := by decide +kernel
theorem dX12_set_36 : decode cX12_set 36 = .ok (.i2l, 1) := by decide +kernel
theorem dX12_set_37 : decode cX12_set 37 = .ok (.lconst 0, 1) := by decide +kernel
theorem dX12_set_38 : decode cX12_set 38 = .ok (.aload_n 0, 1) := by decide +kernel
theorem dX12_set_39 : decode cX12_set 39 = .ok (.getfield 32, 3) := by decide +kernel
theorem dX12_set_42 : decode cX12_set 42 = .ok (.iload_n 1, 1) := by decide +kernel
theorem dX12_set_43 : decode cX12_set 43 = .ok (.iaload, 1) := by decide +kernel
theorem dX12_set_44 : decode cX12_set 44 = .ok (.iconst 1, 1) := by decide +kernel
theorem dX12_set_45 : decode cX12_set 45 = .ok (.isub, 1) := by decide +kernel
theorem dX12_set_46 : decode cX12_set 46 = .ok (.i2l, 1) := by decide +kernel
theorem dX12_set_47 : decode cX12_set 47 = .ok (.invokestatic 13, 3) := by decide +kernel
theorem dX12_set_50 : decode cX12_set 50 = .ok (.ifCond .ne 9, 3) := by decide +kernel
theorem dX12_set_53 : decode cX12_set 53 = .ok (.aload_n 0, 1) := by decide +kernel
theorem dX12_set_54 : decode cX12_set 54 = .ok (.iconst 2, 1) := by decide +kernel
theorem dX12_set_55 : decode cX12_set 55 = .ok (.invokevirtual 24, 3) := by decide +kernel
theorem dX12_set_58 : decode cX12_set 58 = .ok (.ireturn, 1) := by decide +kernel
theorem dX12_set_59 : decode cX12_set 59 = .ok (.aload_n 0, 1) := by decide +kernel
theorem dX12_set_60 : decode cX12_set 60 = .ok (.getfield 35, 3) := by decide +kernel
theorem dX12_set_63 : decode cX12_set 63 = .ok (.bipush 48, 2) := by decide +kernel
theorem dX12_set_65 : decode cX12_set 65 = .ok (.iload_n 1, 1) := by decide +kernel
theorem dX12_set_66 : decode cX12_set 66 = .ok (.imul, 1) := by decide +kernel
theorem dX12_set_67 : decode cX12_set 67 = .ok (.iload_n 2, 1) := by decide +kernel
theorem dX12_set_68 : decode cX12_set 68 = .ok (.iadd, 1) := by decide +kernel
theorem dX12_set_69 : decode cX12_set 69 = .ok (.aload_n 0, 1) := by decide +kernel
theorem dX12_set_70 : decode cX12_set 70 = .ok (.getfield 28, 3) := by decide +kernel
theorem dX12_set_73 : decode cX12_set 73 = .ok (.iload_n 1, 1) := by decide +kernel
theorem dX12_set_74 : decode cX12_set 74 = .ok (.iaload, 1) := by decide +kernel
theorem dX12_set_75 : decode cX12_set 75 = .ok (.ifCond .ne 8, 3) := by decide +kernel
theorem dX12_set_78 : decode cX12_set 78 = .ok (.iload_n 3, 1) := by decide +kernel
theorem dX12_set_79 : decode cX12_set 79 = .ok (.i2b, 1) := by decide +kernel
theorem dX12_set_80 : decode cX12_set 80 = .ok (.goto 19, 3) := by decide +kernel
theorem dX12_set_83 : decode cX12_set 83 = .ok (.aload_n 0, 1) := by decide +kernel
theorem dX12_set_84 : decode cX12_set 84 = .ok (.getfield 28, 3) := by decide +kernel
theorem dX12_set_87 : decode cX12_set 87 = .ok (.iload_n 1, 1) := by decide +kernel
theorem dX12_set_88 : decode cX12_set 88 = .ok (.iaload, 1) := by decide +kernel
theorem dX12_set_89 : decode cX12_set 89 = .ok (.iconst 1, 1) := by decide +kernel
theorem dX12_set_90 : decode cX12_set 90 = .ok (.if_icmp .ne 8, 3) := by decide +kernel
theorem dX12_set_93 : decode cX12_set 93 = .ok (.iload_n 3, 1) := by decide +kernel
theorem dX12_set_94 : decode cX12_set 94 = .ok (.i2s, 1) := by decide +kernel
theorem dX12_set_95 : decode cX12_set 95 = .ok (.goto 4, 3) := by decide +kernel
theorem dX12_set_98 : decode cX12_set 98 = .ok (.iload_n 3, 1) := by decide +kernel
theorem dX12_set_99 : decode cX12_set 99 = .ok (.iastore, 1) := by decide +kernel
theorem dX12_set_100 : decode cX12_set 100 = .ok (.aload_n 0, 1) := by decide +kernel
theorem dX12_set_101 : decode cX12_set 101 = .ok (.getfield 35, 3) := by decide +kernel
theorem dX12_set_104 : decode cX12_set 104 = .ok (.bipush 48, 2) := by decide +kernel
theorem dX12_set_106 : decode cX12_set 106 = .ok (.iload_n 1, 1) := by decide +kernel
theorem dX12_set_107 : decode cX12_set 107 = .ok (.imul, 1) := by decide +kernel
theorem dX12_set_108 : decode cX12_set 108 = .ok (.iload_n 2, 1) := by decide +kernel
theorem dX12_set_109 : decode cX12_set 109 = .ok (.iadd, 1) := by decide +kernel
theorem dX12_set_110 : decode cX12_set 110 = .ok (.iaload, 1) := by decide +kernel
theorem dX12_set_111 : decode cX12_set 111 = .ok (.ireturn, 1) := by decide +kernel
theorem dX12_copy_0 : decode cX12_copy 0 = .ok (.aload_n 0, 1) := by decide +kernel
theorem dX12_copy_1 : decode cX12_copy 1 = .ok (.iconst 0, 1) := by decide +kernel
theorem dX12_copy_2 : decode cX12_copy 2 = .ok (.putfield 1, 3) := by decide +kernel
theorem dX12_copy_5 : decode cX12_copy 5 = .ok (.iload_n 1, 1) := by decide +kernel
theorem dX12_copy_6 : decode cX12_copy 6 = .ok (.invokestatic 17, 3) := by decide +kernel
theorem dX12_copy_9 : decode cX12_copy 9 = .ok (.ifCond .eq 10, 3) := by decide +kernel
theorem dX12_copy_12 : decode cX12_copy 12 = .ok (.iload_n 3, 1) := by decide +kernel
theorem dX12_copy_13 : decode cX12_copy 13 = .ok (.invokestatic 17, 3) := by decide +kernel
theorem dX12_copy_16 : decode cX12_copy 16 = .ok (.ifCond .ne 6, 3) := by decide +kernel
theorem dX12_copy_19 : decode cX12_copy 19 = .ok (.ldc 23, 2) := by decide +kernel
theorem dX12_copy_21 : decode cX12_copy 21 = .ok (.ireturn, 1) := by decide +kernel
theorem dX12_copy_22 : decode cX12_copy 22 = .ok (.aload_n 0, 1) := by decide +kernel
theorem dX12_copy_23 : decode cX12_copy 23 = .ok (.iconst 0, 1) := by decide +kernel
theorem dX12_copy_24 : decode cX12_copy 24 = .ok (.putfield 7, 3) := by decide +kernel
theorem dX12_copy_27 : decode cX12_copy 27 = .ok (.aload_n 0, 1) := by decide +kernel
theorem dX12_copy_28 : decode cX12_copy 28 = .ok (.getfield 28, 3) := by decide +kernel
theorem dX12_copy_31 : decode cX12_copy 31 = .ok (.iload_n 1, 1) := by decide +kernel
theorem dX12_copy_32 : decode cX12_copy 32 = .ok (.iaload, 1) := by decide +kernel
theorem dX12_copy_33 : decode cX12_copy 33 = .ok (.ifCond .lt 12, 3) := by decide +kernel
theorem dX12_copy_36 : decode cX12_copy 36 = .ok (.aload_n 0, 1) := by decide +kernel
theorem dX12_copy_37 : decode cX12_copy 37 = .ok (.getfield 28, 3) := by decide +kernel
theorem dX12_copy_40 : decode cX12_copy 40 = .ok (.iload_n 3, 1) := by decide +kernel
theorem dX12_copy_41 : decode cX12_copy 41 = .ok (.iaload, 1) := by decide +kernel
theorem dX12_copy_42 : decode cX12_copy 42 = .ok (.ifCond .ge 9, 3) := by decide +kernel
theorem dX12_copy_45 : decode cX12_copy 45 = .ok (.aload_n 0, 1) := by decide +kernel
theorem dX12_copy_46 : decode cX12_copy 46 = .ok (.iconst 1, 1) := by decide +kernel
theorem dX12_copy_47 : decode cX12_copy 47 = .ok (.invokevirtual 24, 3) := by decide +kernel
theorem dX12_copy_50 : decode cX12_copy 50 = .ok (.ireturn, 1) := by decide +kernel
theorem dX12_copy_51 : decode cX12_copy 51 = .ok (.aload_n 0, 1) := by decide +kernel
theorem dX12_copy_52 : decode cX12_copy 52 = .ok (.getfield 28, 3) := by decide +kernel
theorem dX12_copy_55 : decode cX12_copy 55 = .ok (.iload_n 1, 1) := by decide +kernel
theorem dX12_copy_56 : decode cX12_copy 56 = .ok (.iaload, 1) := by decide +kernel
theorem dX12_copy_57 : decode cX12_copy 57 = .ok (.aload_n 0, 1) := by decide +kernel
theorem dX12_copy_58 : decode cX12_copy 58 = .ok (.getfield 28, 3) := by decide +kernel
theorem dX12_copy_61 : decode cX12_copy 61 = .ok (.iload_n 3, 1) := by decide +kernel
theorem dX12_copy_62 : decode cX12_copy 62 = .ok (.iaload, 1) := by decide +kernel
theorem dX12_copy_63 : decode cX12_copy 63 = .ok (.if_icmp .eq 9, 3) := by decide +kernel
theorem dX12_copy_66 : decode cX12_copy 66 = .ok (.aload_n 0, 1) := by decide +kernel
theorem dX12_copy_67 : decode cX12_copy 67 = .ok (.iconst 5, 1) := by decide +kernel
theorem dX12_copy_68 : decode cX12_copy 68 = .ok (.invokevirtual 24, 3) := by decide +kernel
theorem dX12_copy_71 : decode cX12_copy 71 = .ok (.ireturn, 1) := by decide +kernel
theorem dX12_copy_72 : decode cX12_copy 72 = .ok (.iload_n 2, 1) := by decide +kernel
theorem dX12_copy_73 : decode cX12_copy 73 = .ok (.ifCond .lt 48, 3) := by decide +kernel
theorem dX12_copy_76 : decode cX12_copy 76 = .ok (.iload 4, 2) := by decide +kernel
theorem dX12_copy_78 : decode cX12_copy 78 = .ok (.ifCond .lt 43, 3) := by decide +kernel
theorem dX12_copy_81 : decode cX12_copy 81 = .ok (.iload 5, 2) := by decide +kernel
theorem dX12_copy_83 : decode cX12_copy 83 = .ok (.ifCond .lt 38, 3) := by decide +kernel
theorem dX12_copy_86 : decode cX12_copy 86 = .ok (.iload_n 2, 1) := by decide +kernel
theorem dX12_copy_87 : decode cX12_copy 87 = .ok (.i2l, 1) := by decide +kernel
theorem dX12_copy_88 : decode cX12_copy 88 = .ok (.iload 5, 2) := by decide +kernel
theorem dX12_copy_90 : decode cX12_copy 90 = .ok (.i2l, 1) := by decide +kernel
theorem dX12_copy_91 : decode cX12_copy 91 = .ok (.ladd, 1) := by decide +kernel
theorem dX12_copy_92 : decode cX12_copy 92 = .ok (.aload_n 0, 1) := by decide +kernel
theorem dX12_copy_93 : decode cX12_copy 93 = .ok (.getfield 32, 3) := by decide +kernel
theorem dX12_copy_96 : decode cX12_copy 96 = .ok (.iload_n 1, 1) := by decide +kernel
theorem dX12_copy_97 : decode cX12_copy 97 = .ok (.iaload, 1) := by decide +kernel
theorem dX12_copy_98 : decode cX12_copy 98 = .ok (.i2l, 1) := by decide +kernel
theorem dX12_copy_99 : decode cX12_copy 99 = .ok (.lcmp, 1) := by decide +kernel
theorem dX12_copy_100 : decode cX12_copy 100 = .ok (.ifCond .gt 21, 3) := by decide +kernel
theorem dX12_copy_103 : decode cX12_copy 103 = .ok (.iload 4, 2) := by decide +kernel
theorem dX12_copy_105 : decode cX12_copy 105 = .ok (.i2l, 1) := by decide +kernel
theorem dX12_copy_106 : decode cX12_copy 106 = .ok (.iload 5, 2) := by decide +kernel
theorem dX12_copy_108 : decode cX12_copy 108 = .ok (.i2l, 1) := by decide +kernel
theorem dX12_copy_109 : decode cX12_copy 109 = .ok (.ladd, 1) := by decide +kernel
theorem dX12_copy_110 : decode cX12_copy 110 = .ok (.aload_n 0, 1) := by decide +kernel
theorem dX12_copy_111 : decode cX12_copy 111 = .ok (.getfield 32, 3) := by decide +kernel
theorem dX12_copy_114 : decode cX12_copy 114 = .ok (.iload_n 3, 1) := by decide +kernel
theorem dX12_copy_115 : decode cX12_copy 115 = .ok (.iaload, 1) := by decide +kernel
theorem dX12_copy_116 : decode cX12_copy 116 = .ok (.i2l, 1) := by decide +kernel
theorem dX12_copy_117 : decode cX12_copy 117 = .ok (.lcmp, 1) := by decide +kernel
theorem dX12_copy_118 : decode cX12_copy 118 = .ok (.ifCond .le 9, 3) := by decide +kernel
theorem dX12_copy_121 : decode cX12_copy 121 = .ok (.aload_n 0, 1) := by decide +kernel
theorem dX12_copy_122 : decode cX12_copy 122 = .ok (.iconst 2, 1) := by decide +kernel
theorem dX12_copy_123 : decode cX12_copy 123 = .ok (.invokevirtual 24, 3) := by decide +kernel
theorem dX12_copy_126 : decode cX12_copy 126 = .ok (.ireturn, 1) := by decide +kernel
theorem dX12_copy_127 : decode cX12_copy 127 = .ok (.iload_n 2, 1) := by decide +kernel
theorem dX12_copy_128 : decode cX12_copy 128 = .ok (.iload 4, 2) := by decide +kernel
theorem dX12_copy_130 : decode cX12_copy 130 = .ok (.if_icmp .lt 7, 3) := by decide +kernel
theorem dX12_copy_133 : decode cX12_copy 133 = .ok (.iconst 1, 1) := by decide +kernel
theorem dX12_copy_134 : decode cX12_copy 134 = .ok (.goto 4, 3) := by decide +kernel
theorem dX12_copy_137 : decode cX12_copy 137 = .ok (.iconst 0, 1) := by decide +kernel
theorem dX12_copy_138 : decode cX12_copy 138 = .ok (.istore 6, 2) := by decide +kernel
theorem dX12_copy_140 : decode cX12_copy 140 = .ok (.iconst 0, 1) := by decide +kernel
theorem dX12_copy_141 : decode cX12_copy 141 = .ok (.istore 7, 2) := by decide +kernel
theorem dX12_copy_143 : decode cX12_copy 143 = .ok (.iload 7, 2) := by decide +kernel
theorem dX12_copy_145 : decode cX12_copy 145 = .ok (.iload 5, 2) := by decide +kernel
theorem dX12_copy_147 : decode cX12_copy 147 = .ok (.if_icmp .ge 57, 3) := by decide +kernel
theorem dX12_copy_150 : decode cX12_copy 150 = .ok (.iload 6, 2) := by decide +kernel
theorem dX12_copy_152 : decode cX12_copy 152 = .ok (.ifCond .eq 8, 3) := by decide +kernel
theorem dX12_copy_155 : decode cX12_copy 155 = .ok (.iload 7, 2) := by decide +kernel
theorem dX12_copy_157 : decode cX12_copy 157 = .ok (.goto 10, 3) := by decide +kernel
theorem dX12_copy_160 : decode cX12_copy 160 = .ok (.iload 5, 2) := by decide +kernel
theorem dX12_copy_162 : decode cX12_copy 162 = .ok (.iconst 1, 1) := by decide +kernel
theorem dX12_copy_163 : decode cX12_copy 163 = .ok (.isub, 1) := by decide +kernel
theorem dX12_copy_164 : decode cX12_copy 164 = .ok (.iload 7, 2) := by decide +kernel
theorem dX12_copy_166 : decode cX12_copy 166 = .ok (.isub, 1) := by decide +kernel
theorem dX12_copy_167 : decode cX12_copy 167 = .ok (.istore 8, 2) := by decide +kernel
theorem dX12_copy_169 : decode cX12_copy 169 = .ok (.aload_n 0, 1) := by decide +kernel
theorem dX12_copy_170 : decode cX12_copy 170 = .ok (.getfield 35, 3) := by decide +kernel
theorem dX12_copy_173 : decode cX12_copy 173 = .ok (.bipush 48, 2) := by decide +kernel
theorem dX12_copy_175 : decode cX12_copy 175 = .ok (.iload_n 3, 1) := by decide +kernel
theorem dX12_copy_176 : decode cX12_copy 176 = .ok (.imul, 1) := by decide +kernel
theorem dX12_copy_177 : decode cX12_copy 177 = .ok (.iload 4, 2) := by decide +kernel
theorem dX12_copy_179 : decode cX12_copy 179 = .ok (.iadd, 1) := by decide +kernel
theorem dX12_copy_180 : decode cX12_copy 180 = .ok (.iload 8, 2) := by decide +kernel
theorem dX12_copy_182 : decode cX12_copy 182 = .ok (.iadd, 1) := by decide +kernel
theorem dX12_copy_183 : decode cX12_copy 183 = .ok (.aload_n 0, 1) := by decide +kernel
theorem dX12_copy_184 : decode cX12_copy 184 = .ok (.getfield 35, 3) := by decide +kernel
theorem dX12_copy_187 : decode cX12_copy 187 = .ok (.bipush 48, 2) := by decide +kernel
theorem dX12_copy_189 : decode cX12_copy 189 = .ok (.iload_n 1, 1) := by decide +kernel
theorem dX12_copy_190 : decode cX12_copy 190 = .ok (.imul, 1) := by decide +kernel
theorem dX12_copy_191 : decode cX12_copy 191 = .ok (.iload_n 2, 1) := by decide +kernel
theorem dX12_copy_192 : decode cX12_copy 192 = .ok (.iadd, 1) := by decide +kernel
theorem dX12_copy_193 : decode cX12_copy 193 = .ok (.iload 8, 2) := by decide +kernel
theorem dX12_copy_195 : decode cX12_copy 195 = .ok (.iadd, 1) := by decide +kernel
theorem dX12_copy_196 : decode cX12_copy 196 = .ok (.iaload, 1) := by decide +kernel
theorem dX12_copy_197 : decode cX12_copy 197 = .ok (.iastore, 1) := by decide +kernel
theorem dX12_copy_198 : decode cX12_copy 198 = .ok (.iinc 7 1, 3) := by decide +kernel
theorem dX12_copy_201 : decode cX12_copy 201 = .ok (.goto (-58), 3) := by decide +kernel
theorem dX12_copy_204 : decode cX12_copy 204 = .ok (.iload 5, 2) := by decide +kernel
theorem dX12_copy_206 : decode cX12_copy 206 = .ok (.ireturn, 1) := by decide +kernel
theorem dX12_drop_0 : decode cX12_drop 0 = .ok (.aload_n 0, 1) := by decide +kernel
theorem dX12_drop_1 : decode cX12_drop 1 = .ok (.iconst 0, 1) := by decide +kernel
theorem dX12_drop_2 : decode cX12_drop 2 = .ok (.putfield 1, 3) := by decide +kernel
theorem dX12_drop_5 : decode cX12_drop 5 = .ok (.iload_n 1, 1) := by decide +kernel
theorem dX12_drop_6 : decode cX12_drop 6 = .ok (.invokestatic 17, 3) := by decide +kernel
theorem dX12_drop_9 : decode cX12_drop 9 = .ok (.ifCond .ne 6, 3) := by decide +kernel
theorem dX12_drop_12 : decode cX12_drop 12 = .ok (.ldc 23, 2) := by decide +kernel
theorem dX12_drop_14 : decode cX12_drop 14 = .ok (.ireturn, 1) := by decide +kernel
theorem dX12_drop_15 : decode cX12_drop 15 = .ok (.aload_n 0, 1) := by decide +kernel
theorem dX12_drop_16 : decode cX12_drop 16 = .ok (.iconst 0, 1) := by decide +kernel
theorem dX12_drop_17 : decode cX12_drop 17 = .ok (.putfield 7, 3) := by decide +kernel
theorem dX12_drop_20 : decode cX12_drop 20 = .ok (.aload_n 0, 1) := by decide +kernel
theorem dX12_drop_21 : decode cX12_drop 21 = .ok (.getfield 28, 3) := by decide +kernel
theorem dX12_drop_24 : decode cX12_drop 24 = .ok (.iload_n 1, 1) := by decide +kernel
theorem dX12_drop_25 : decode cX12_drop 25 = .ok (.iaload, 1) := by decide +kernel
theorem dX12_drop_26 : decode cX12_drop 26 = .ok (.ifCond .ge 9, 3) := by decide +kernel
theorem dX12_drop_29 : decode cX12_drop 29 = .ok (.aload_n 0, 1) := by decide +kernel
theorem dX12_drop_30 : decode cX12_drop 30 = .ok (.iconst 1, 1) := by decide +kernel
theorem dX12_drop_31 : decode cX12_drop 31 = .ok (.invokevirtual 24, 3) := by decide +kernel
theorem dX12_drop_34 : decode cX12_drop 34 = .ok (.ireturn, 1) := by decide +kernel
theorem dX12_drop_35 : decode cX12_drop 35 = .ok (.aload_n 0, 1) := by decide +kernel
theorem dX12_drop_36 : decode cX12_drop 36 = .ok (.getfield 28, 3) := by decide +kernel
theorem dX12_drop_39 : decode cX12_drop 39 = .ok (.iload_n 1, 1) := by decide +kernel
theorem dX12_drop_40 : decode cX12_drop 40 = .ok (.iconst (-1), 1) := by decide +kernel
theorem dX12_drop_41 : decode cX12_drop 41 = .ok (.iastore, 1) := by decide +kernel
theorem dX12_drop_42 : decode cX12_drop 42 = .ok (.aload_n 0, 1) := by decide +kernel
theorem dX12_drop_43 : decode cX12_drop 43 = .ok (.getfield 32, 3) := by decide +kernel
theorem dX12_drop_46 : decode cX12_drop 46 = .ok (.iload_n 1, 1) := by decide +kernel
theorem dX12_drop_47 : decode cX12_drop 47 = .ok (.iaload, 1) := by decide +kernel
theorem dX12_drop_48 : decode cX12_drop 48 = .ok (.ireturn, 1) := by decide +kernel
theorem dX12_init_0 : decode cX12_init 0 = .ok (.aload_n 0, 1) := by decide +kernel
theorem dX12_init_1 : decode cX12_init 1 = .ok (.invokespecial 38, 3) := by decide +kernel
theorem dX12_init_4 : decode cX12_init 4 = .ok (.aload_n 0, 1) := by decide +kernel
theorem dX12_init_5 : decode cX12_init 5 = .ok (.bipush 8, 2) := by decide +kernel
theorem dX12_init_7 : decode cX12_init 7 = .ok (.newarray .int, 2) := by decide +kernel
theorem dX12_init_9 : decode cX12_init 9 = .ok (.dup, 1) := by decide +kernel
theorem dX12_init_10 : decode cX12_init 10 = .ok (.iconst 0, 1) := by decide +kernel
theorem dX12_init_11 : decode cX12_init 11 = .ok (.iconst (-1), 1) := by decide +kernel
theorem dX12_init_12 : decode cX12_init 12 = .ok (.iastore, 1) := by decide +kernel
theorem dX12_init_13 : decode cX12_init 13 = .ok (.dup, 1) := by decide +kernel
theorem dX12_init_14 : decode cX12_init 14 = .ok (.iconst 1, 1) := by decide +kernel
theorem dX12_init_15 : decode cX12_init 15 = .ok (.iconst (-1), 1) := by decide +kernel
theorem dX12_init_16 : decode cX12_init 16 = .ok (.iastore, 1) := by decide +kernel
theorem dX12_init_17 : decode cX12_init 17 = .ok (.dup, 1) := by decide +kernel
theorem dX12_init_18 : decode cX12_init 18 = .ok (.iconst 2, 1) := by decide +kernel
theorem dX12_init_19 : decode cX12_init 19 = .ok (.iconst (-1), 1) := by decide +kernel
theorem dX12_init_20 : decode cX12_init 20 = .ok (.iastore, 1) := by decide +kernel
theorem dX12_init_21 : decode cX12_init 21 = .ok (.dup, 1) := by decide +kernel
theorem dX12_init_22 : decode cX12_init 22 = .ok (.iconst 3, 1) := by decide +kernel
theorem dX12_init_23 : decode cX12_init 23 = .ok (.iconst (-1), 1) := by decide +kernel
theorem dX12_init_24 : decode cX12_init 24 = .ok (.iastore, 1) := by decide +kernel
theorem dX12_init_25 : decode cX12_init 25 = .ok (.dup, 1) := by decide +kernel
theorem dX12_init_26 : decode cX12_init 26 = .ok (.iconst 4, 1) := by decide +kernel
theorem dX12_init_27 : decode cX12_init 27 = .ok (.iconst (-1), 1) := by decide +kernel
theorem dX12_init_28 : decode cX12_init 28 = .ok (.iastore, 1) := by decide +kernel
theorem dX12_init_29 : decode cX12_init 29 = .ok (.dup, 1) := by decide +kernel
theorem dX12_init_30 : decode cX12_init 30 = .ok (.iconst 5, 1) := by decide +kernel
theorem dX12_init_31 : decode cX12_init 31 = .ok (.iconst (-1), 1) := by decide +kernel
theorem dX12_init_32 : decode cX12_init 32 = .ok (.iastore, 1) := by decide +kernel
theorem dX12_init_33 : decode cX12_init 33 = .ok (.dup, 1) := by decide +kernel
theorem dX12_init_34 : decode cX12_init 34 = .ok (.bipush 6, 2) := by decide +kernel
theorem dX12_init_36 : decode cX12_init 36 = .ok (.iconst (-1), 1) := by decide +kernel
theorem dX12_init_37 : decode cX12_init 37 = .ok (.iastore, 1) := by decide +kernel
theorem dX12_init_38 : decode cX12_init 38 = .ok (.dup, 1) := by decide +kernel
theorem dX12_init_39 : decode cX12_init 39 = .ok (.bipush 7, 2) := by decide +kernel
theorem dX12_init_41 : decode cX12_init 41 = .ok (.iconst (-1), 1) := by decide +kernel
theorem dX12_init_42 : decode cX12_init 42 = .ok (.iastore, 1) := by decide +kernel
theorem dX12_init_43 : decode cX12_init 43 = .ok (.putfield 28, 3) := by decide +kernel
theorem dX12_init_46 : decode cX12_init 46 = .ok (.aload_n 0, 1) := by decide +kernel
theorem dX12_init_47 : decode cX12_init 47 = .ok (.bipush 8, 2) := by decide +kernel
theorem dX12_init_49 : decode cX12_init 49 = .ok (.newarray .int, 2) := by decide +kernel
theorem dX12_init_51 : decode cX12_init 51 = .ok (.putfield 32, 3) := by decide +kernel
theorem dX12_init_54 : decode cX12_init 54 = .ok (.aload_n 0, 1) := by decide +kernel
theorem dX12_init_55 : decode cX12_init 55 = .ok (.sipush 384, 3) := by decide +kernel
theorem dX12_init_58 : decode cX12_init 58 = .ok (.newarray .int, 2) := by decide +kernel
theorem dX12_init_60 : decode cX12_init 60 = .ok (.putfield 35, 3) := by decide +kernel
theorem dX12_init_63 : decode cX12_init 63 = .ok (.aload_n 0, 1) := by decide +kernel
theorem dX12_init_64 : decode cX12_init 64 = .ok (.sipush 384, 3) := by decide +kernel
theorem dX12_init_67 : decode cX12_init 67 = .ok (.newarray .int, 2) := by decide +kernel
theorem dX12_init_69 : decode cX12_init 69 = .ok (.putfield 44, 3) := by decide +kernel
theorem dX12_init_72 : decode cX12_init 72 = .ok (.aload_n 0, 1) := by decide +kernel
theorem dX12_init_73 : decode cX12_init 73 = .ok (.bipush 48, 2) := by decide +kernel
theorem dX12_init_75 : decode cX12_init 75 = .ok (.newarray .int, 2) := by decide +kernel
theorem dX12_init_77 : decode cX12_init 77 = .ok (.putfield 47, 3) := by decide +kernel
theorem dX12_init_80 : decode cX12_init 80 = .ok (.aload_n 0, 1) := by decide +kernel
theorem dX12_init_81 : decode cX12_init 81 = .ok (.iconst 1, 1) := by decide +kernel
theorem dX12_init_82 : decode cX12_init 82 = .ok (.putfield 50, 3) := by decide +kernel
theorem dX12_init_85 : decode cX12_init 85 = .ok (.aload_n 0, 1) := by decide +kernel
theorem dX12_init_86 : decode cX12_init 86 = .ok (.bipush 100, 2) := by decide +kernel
theorem dX12_init_88 : decode cX12_init 88 = .ok (.newarray .int, 2) := by decide +kernel
theorem dX12_init_90 : decode cX12_init 90 = .ok (.putfield 53, 3) := by decide +kernel
theorem dX12_init_93 : decode cX12_init 93 = .ok (.aload_n 0, 1) := by decide +kernel
theorem dX12_init_94 : decode cX12_init 94 = .ok (.bipush 60, 2) := by decide +kernel
theorem dX12_init_96 : decode cX12_init 96 = .ok (.newarray .int, 2) := by decide +kernel
theorem dX12_init_98 : decode cX12_init 98 = .ok (.putfield 56, 3) := by decide +kernel
theorem dX12_init_101 : decode cX12_init 101 = .ok (.aload_n 0, 1) := by decide +kernel
theorem dX12_init_102 : decode cX12_init 102 = .ok (.sipush 180, 3) := by decide +kernel
theorem dX12_init_105 : decode cX12_init 105 = .ok (.newarray .int, 2) := by decide +kernel
theorem dX12_init_107 : decode cX12_init 107 = .ok (.putfield 59, 3) := by decide +kernel
theorem dX12_init_110 : decode cX12_init 110 = .ok (.aload_n 0, 1) := by decide +kernel
theorem dX12_init_111 : decode cX12_init 111 = .ok (.sipush 180, 3) := by decide +kernel
theorem dX12_init_114 : decode cX12_init 114 = .ok (.newarray .int, 2) := by decide +kernel
theorem dX12_init_116 : decode cX12_init 116 = .ok (.putfield 62, 3) := by decide +kernel
theorem dX12_init_119 : decode cX12_init 119 = .ok (.aload_n 0, 1) := by decide +kernel
theorem dX12_init_120 : decode cX12_init 120 = .ok (.bipush 12, 2) := by decide +kernel
theorem dX12_init_122 : decode cX12_init 122 = .ok (.newarray .int, 2) := by decide +kernel
theorem dX12_init_124 : decode cX12_init 124 = .ok (.putfield 65, 3) := by decide +kernel
theorem dX12_init_127 : decode cX12_init 127 = .ok (.aload_n 0, 1) := by decide +kernel
theorem dX12_init_128 : decode cX12_init 128 = .ok (.bipush 12, 2) := by decide +kernel
theorem dX12_init_130 : decode cX12_init 130 = .ok (.newarray .int, 2) := by decide +kernel
theorem dX12_init_132 : decode cX12_init 132 = .ok (.putfield 68, 3) := by decide +kernel
theorem dX12_init_135 : decode cX12_init 135 = .ok (.aload_n 0, 1) := by decide +kernel
theorem dX12_init_136 : decode cX12_init 136 = .ok (.sipush 500, 3) := by decide +kernel
theorem dX12_init_139 : decode cX12_init 139 = .ok (.newarray .int, 2) := by decide +kernel
theorem dX12_init_141 : decode cX12_init 141 = .ok (.putfield 71, 3) := by decide +kernel
theorem dX12_init_144 : decode cX12_init 144 = .ok (.aload_n 0, 1) := by decide +kernel
theorem dX12_init_145 : decode cX12_init 145 = .ok (.bipush 64, 2) := by decide +kernel
theorem dX12_init_147 : decode cX12_init 147 = .ok (.newarray .int, 2) := by decide +kernel
theorem dX12_init_149 : decode cX12_init 149 = .ok (.putfield 74, 3) := by decide +kernel
theorem dX12_init_152 : decode cX12_init 152 = .ok (.aload_n 0, 1) := by decide +kernel
theorem dX12_init_153 : decode cX12_init 153 = .ok (.bipush 64, 2) := by decide +kernel
theorem dX12_init_155 : decode cX12_init 155 = .ok (.newarray .int, 2) := by decide +kernel
theorem dX12_init_157 : decode cX12_init 157 = .ok (.putfield 77, 3) := by decide +kernel
theorem dX12_init_160 : decode cX12_init 160 = .ok (.aload_n 0, 1) := by decide +kernel
theorem dX12_init_161 : decode cX12_init 161 = .ok (.iconst 4, 1) := by decide +kernel
theorem dX12_init_162 : decode cX12_init 162 = .ok (.newarray .int, 2) := by decide +kernel
theorem dX12_init_164 : decode cX12_init 164 = .ok (.putfield 80, 3) := by decide +kernel
theorem dX12_init_167 : decode cX12_init 167 = .ok (.aload_n 0, 1) := by decide +kernel
theorem dX12_init_168 : decode cX12_init 168 = .ok (.iconst 4, 1) := by decide +kernel
theorem dX12_init_169 : decode cX12_init 169 = .ok (.newarray .int, 2) := by decide +kernel
theorem dX12_init_171 : decode cX12_init 171 = .ok (.putfield 83, 3) := by decide +kernel
theorem dX12_init_174 : decode cX12_init 174 = .ok (.aload_n 0, 1) := by decide +kernel
theorem dX12_init_175 : decode cX12_init 175 = .ok (.sipush 3072, 3) := by decide +kernel
theorem dX12_init_178 : decode cX12_init 178 = .ok (.newarray .int, 2) := by decide +kernel
theorem dX12_init_180 : decode cX12_init 180 = .ok (.putfield 86, 3) := by decide +kernel
theorem dX12_init_183 : decode cX12_init 183 = .ok (.aload_n 0, 1) := by decide +kernel
theorem dX12_init_184 : decode cX12_init 184 = .ok (.sipush 3136, 3) := by decide +kernel
theorem dX12_init_187 : decode cX12_init 187 = .ok (.newarray .int, 2) := by decide +kernel
theorem dX12_init_189 : decode cX12_init 189 = .ok (.putfield 89, 3) := by decide +kernel
theorem dX12_init_192 : decode cX12_init 192 = .ok (.aload_n 0, 1) := by decide +kernel
theorem dX12_init_193 : decode cX12_init 193 = .ok (.bipush 48, 2) := by decide +kernel
theorem dX12_init_195 : decode cX12_init 195 = .ok (.newarray .int, 2) := by decide +kernel
theorem dX12_init_197 : decode cX12_init 197 = .ok (.putfield 92, 3) := by decide +kernel
theorem dX12_init_200 : decode cX12_init 200 = .ok (.aload_n 0, 1) := by decide +kernel
theorem dX12_init_201 : decode cX12_init 201 = .ok (.sipush 384, 3) := by decide +kernel
theorem dX12_init_204 : decode cX12_init 204 = .ok (.newarray .int, 2) := by decide +kernel
theorem dX12_init_206 : decode cX12_init 206 = .ok (.putfield 95, 3) := by decide +kernel
theorem dX12_init_209 : decode cX12_init 209 = .ok (.aload_n 0, 1) := by decide +kernel
theorem dX12_init_210 : decode cX12_init 210 = .ok (.iconst 5, 1) := by decide +kernel
theorem dX12_init_211 : decode cX12_init 211 = .ok (.newarray .int, 2) := by decide +kernel
theorem dX12_init_213 : decode cX12_init 213 = .ok (.putfield 98, 3) := by decide +kernel
theorem dX12_init_216 : decode cX12_init 216 = .ok (.aload_n 0, 1) := by decide +kernel
theorem dX12_init_217 : decode cX12_init 217 = .ok (.iconst 5, 1) := by decide +kernel
theorem dX12_init_218 : decode cX12_init 218 = .ok (.newarray .int, 2) := by decide +kernel
theorem dX12_init_220 : decode cX12_init 220 = .ok (.putfield 101, 3) := by decide +kernel
theorem dX12_init_223 : decode cX12_init 223 = .ok (.aload_n 0, 1) := by decide +kernel
theorem dX12_init_224 : decode cX12_init 224 = .ok (.iconst 5, 1) := by decide +kernel
theorem dX12_init_225 : decode cX12_init 225 = .ok (.newarray .int, 2) := by decide +kernel
theorem dX12_init_227 : decode cX12_init 227 = .ok (.putfield 104, 3) := by decide +kernel
theorem dX12_init_230 : decode cX12_init 230 = .ok (.aload_n 0, 1) := by decide +kernel
theorem dX12_init_231 : decode cX12_init 231 = .ok (.bipush 16, 2) := by decide +kernel
theorem dX12_init_233 : decode cX12_init 233 = .ok (.newarray .int, 2) := by decide +kernel
theorem dX12_init_235 : decode cX12_init 235 = .ok (.putfield 107, 3) := by decide +kernel
theorem dX12_init_238 : decode cX12_init 238 = .ok (.iconst 0, 1) := by decide +kernel
theorem dX12_init_239 : decode cX12_init 239 = .ok (.istore_n 1, 1) := by decide +kernel
theorem dX12_init_240 : decode cX12_init 240 = .ok (.iload_n 1, 1) := by decide +kernel
theorem dX12_init_241 : decode cX12_init 241 = .ok (.sipush 384, 3) := by decide +kernel
theorem dX12_init_244 : decode cX12_init 244 = .ok (.if_icmp .ge 17, 3) := by decide +kernel
theorem dX12_init_247 : decode cX12_init 247 = .ok (.aload_n 0, 1) := by decide +kernel
theorem dX12_init_248 : decode cX12_init 248 = .ok (.getfield 44, 3) := by decide +kernel
theorem dX12_init_251 : decode cX12_init 251 = .ok (.iload_n 1, 1) := by decide +kernel
theorem dX12_init_252 : decode cX12_init 252 = .ok (.bipush 9, 2) := by decide +kernel
theorem dX12_init_254 : decode cX12_init 254 = .ok (.iastore, 1) := by decide +kernel
theorem dX12_init_255 : decode cX12_init 255 = .ok (.iinc 1 1, 3) := by decide +kernel
theorem dX12_init_258 : decode cX12_init 258 = .ok (.goto (-18), 3) := by decide +kernel
theorem dX12_init_261 : decode cX12_init 261 = .ok (.return_, 1) := by decide +kernel
theorem dX12_isRoom_0 : decode cX12_isRoom 0 = .ok (.iload_n 0, 1) := by decide +kernel
theorem dX12_isRoom_1 : decode cX12_isRoom 1 = .ok (.i2l, 1) := by decide +kernel
theorem dX12_isRoom_2 : decode cX12_isRoom 2 = .ok (.lconst 0, 1) := by decide +kernel
theorem dX12_isRoom_3 : decode cX12_isRoom 3 = .ok (.ldc2_w 11, 3) := by decide +kernel
theorem dX12_isRoom_6 : decode cX12_isRoom 6 = .ok (.invokestatic 13, 3) := by decide +kernel
theorem dX12_isRoom_9 : decode cX12_isRoom 9 = .ok (.ireturn, 1) := by decide +kernel
theorem dX12_isSlot_0 : decode cX12_isSlot 0 = .ok (.iload_n 0, 1) := by decide +kernel
theorem dX12_isSlot_1 : decode cX12_isSlot 1 = .ok (.i2l, 1) := by decide +kernel
theorem dX12_isSlot_2 : decode cX12_isSlot 2 = .ok (.lconst 0, 1) := by decide +kernel
theorem dX12_isSlot_3 : decode cX12_isSlot 3 = .ok (.ldc2_w 110, 3) := by decide +kernel
theorem dX12_isSlot_6 : decode cX12_isSlot 6 = .ok (.invokestatic 13, 3) := by decide +kernel
theorem dX12_isSlot_9 : decode cX12_isSlot 9 = .ok (.ireturn, 1) := by decide +kernel
theorem dX12_lookItems_0 : decode cX12_lookItems 0 = .ok (.aload_n 0, 1) := by decide +kernel
theorem dX12_lookItems_1 : decode cX12_lookItems 1 = .ok (.getfield 28, 3) := by decide +kernel
theorem dX12_lookItems_4 : decode cX12_lookItems 4 = .ok (.iload_n 1, 1) := by decide +kernel
theorem dX12_lookItems_5 : decode cX12_lookItems 5 = .ok (.iaload, 1) := by decide +kernel
theorem dX12_lookItems_6 : decode cX12_lookItems 6 = .ok (.ifCond .ge 9, 3) := by decide +kernel
theorem dX12_lookItems_9 : decode cX12_lookItems 9 = .ok (.aload_n 0, 1) := by decide +kernel
theorem dX12_lookItems_10 : decode cX12_lookItems 10 = .ok (.iconst 1, 1) := by decide +kernel
theorem dX12_lookItems_11 : decode cX12_lookItems 11 = .ok (.invokevirtual 24, 3) := by decide +kernel
theorem dX12_lookItems_14 : decode cX12_lookItems 14 = .ok (.ireturn, 1) := by decide +kernel
theorem dX12_lookItems_15 : decode cX12_lookItems 15 = .ok (.iload_n 2, 1) := by decide +kernel
theorem dX12_lookItems_16 : decode cX12_lookItems 16 = .ok (.ifCond .lt 19, 3) := by decide +kernel
theorem dX12_lookItems_19 : decode cX12_lookItems 19 = .ok (.iload_n 2, 1) := by decide +kernel
theorem dX12_lookItems_20 : decode cX12_lookItems 20 = .ok (.i2l, 1) := by decide +kernel
theorem dX12_lookItems_21 : decode cX12_lookItems 21 = .ok (.iload_n 3, 1) := by decide +kernel
theorem dX12_lookItems_22 : decode cX12_lookItems 22 = .ok (.i2l, 1) := by decide +kernel
theorem dX12_lookItems_23 : decode cX12_lookItems 23 = .ok (.ladd, 1) := by decide +kernel
theorem dX12_lookItems_24 : decode cX12_lookItems 24 = .ok (.aload_n 0, 1) := by decide +kernel
theorem dX12_lookItems_25 : decode cX12_lookItems 25 = .ok (.getfield 32, 3) := by decide +kernel
theorem dX12_lookItems_28 : decode cX12_lookItems 28 = .ok (.iload_n 1, 1) := by decide +kernel
theorem dX12_lookItems_29 : decode cX12_lookItems 29 = .ok (.iaload, 1) := by decide +kernel
theorem dX12_lookItems_30 : decode cX12_lookItems 30 = .ok (.i2l, 1) := by decide +kernel
theorem dX12_lookItems_31 : decode cX12_lookItems 31 = .ok (.lcmp, 1) := by decide +kernel
theorem dX12_lookItems_32 : decode cX12_lookItems 32 = .ok (.ifCond .le 9, 3) := by decide +kernel
theorem dX12_lookItems_35 : decode cX12_lookItems 35 = .ok (.aload_n 0, 1) := by decide +kernel
theorem dX12_lookItems_36 : decode cX12_lookItems 36 = .ok (.iconst 2, 1) := by decide +kernel
theorem dX12_lookItems_37 : decode cX12_lookItems 37 = .ok (.invokevirtual 24, 3) := by decide +kernel
theorem dX12_lookItems_40 : decode cX12_lookItems 40 = .ok (.ireturn, 1) := by decide +kernel
theorem dX12_lookItems_41 : decode cX12_lookItems 41 = .ok (.iconst 0, 1) := by decide +kernel
theorem dX12_lookItems_42 : decode cX12_lookItems 42 = .ok (.istore 5, 2) := by decide +kernel
theorem dX12_lookItems_44 : decode cX12_lookItems 44 = .ok (.iload 5, 2) := by decide +kernel
theorem dX12_lookItems_46 : decode cX12_lookItems 46 = .ok (.iload_n 3, 1) := by decide +kernel
theorem dX12_lookItems_47 : decode cX12_lookItems 47 = .ok (.if_icmp .ge 37, 3) := by decide +kernel
theorem dX12_lookItems_50 : decode cX12_lookItems 50 = .ok (.aload_n 0, 1) := by decide +kernel
theorem dX12_lookItems_51 : decode cX12_lookItems 51 = .ok (.getfield 35, 3) := by decide +kernel
theorem dX12_lookItems_54 : decode cX12_lookItems 54 = .ok (.bipush 48, 2) := by decide +kernel
theorem dX12_lookItems_56 : decode cX12_lookItems 56 = .ok (.iload_n 1, 1) := by decide +kernel
theorem dX12_lookItems_57 : decode cX12_lookItems 57 = .ok (.imul, 1) := by decide +kernel
theorem dX12_lookItems_58 : decode cX12_lookItems 58 = .ok (.iload_n 2, 1) := by decide +kernel
theorem dX12_lookItems_59 : decode cX12_lookItems 59 = .ok (.iadd, 1) := by decide +kernel
theorem dX12_lookItems_60 : decode cX12_lookItems 60 = .ok (.iload 5, 2) := by decide +kernel
theorem dX12_lookItems_62 : decode cX12_lookItems 62 = .ok (.iadd, 1) := by decide +kernel
theorem dX12_lookItems_63 : decode cX12_lookItems 63 = .ok (.iaload, 1) := by decide +kernel
theorem dX12_lookItems_64 : decode cX12_lookItems 64 = .ok (.i2l, 1) := by decide +kernel
theorem dX12_lookItems_65 : decode cX12_lookItems 65 = .ok (.lconst 0, 1) := by decide +kernel
theorem dX12_lookItems_66 : decode cX12_lookItems 66 = .ok (.iload 4, 2) := by decide +kernel
theorem dX12_lookItems_68 : decode cX12_lookItems 68 = .ok (.i2l, 1) := by decide +kernel
theorem dX12_lookItems_69 : decode cX12_lookItems 69 = .ok (.invokestatic 13, 3) := by decide +kernel
theorem dX12_lookItems_72 : decode cX12_lookItems 72 = .ok (.ifCond .ne 6, 3) := by decide +kernel
theorem dX12_lookItems_75 : decode cX12_lookItems 75 = .ok (.ldc 23, 2) := by decide +kernel
theorem dX12_lookItems_77 : decode cX12_lookItems 77 = .ok (.ireturn, 1) := by decide +kernel
theorem dX12_lookItems_78 : decode cX12_lookItems 78 = .ok (.iinc 5 1, 3) := by decide +kernel
theorem dX12_lookItems_81 : decode cX12_lookItems 81 = .ok (.goto (-37), 3) := by decide +kernel
theorem dX12_lookItems_84 : decode cX12_lookItems 84 = .ok (.aload_n 0, 1) := by decide +kernel
theorem dX12_lookItems_85 : decode cX12_lookItems 85 = .ok (.iconst 0, 1) := by decide +kernel
theorem dX12_lookItems_86 : decode cX12_lookItems 86 = .ok (.putfield 7, 3) := by decide +kernel
theorem dX12_lookItems_89 : decode cX12_lookItems 89 = .ok (.iconst 0, 1) := by decide +kernel
theorem dX12_lookItems_90 : decode cX12_lookItems 90 = .ok (.ireturn, 1) := by decide +kernel
theorem dX12_bears_0 : decode cX12_bears 0 = .ok (.aload_n 0, 1) := by decide +kernel
theorem dX12_bears_1 : decode cX12_bears 1 = .ok (.iconst 0, 1) := by decide +kernel
theorem dX12_bears_2 : decode cX12_bears 2 = .ok (.putfield 1, 3) := by decide +kernel
theorem dX12_bears_5 : decode cX12_bears 5 = .ok (.iload_n 1, 1) := by decide +kernel
theorem dX12_bears_6 : decode cX12_bears 6 = .ok (.invokestatic 112, 3) := by decide +kernel
theorem dX12_bears_9 : decode cX12_bears 9 = .ok (.ifCond .eq 32, 3) := by decide +kernel
theorem dX12_bears_12 : decode cX12_bears 12 = .ok (.iload_n 2, 1) := by decide +kernel
theorem dX12_bears_13 : decode cX12_bears 13 = .ok (.invokestatic 115, 3) := by decide +kernel
theorem dX12_bears_16 : decode cX12_bears 16 = .ok (.ifCond .eq 25, 3) := by decide +kernel
theorem dX12_bears_19 : decode cX12_bears 19 = .ok (.iload 5, 2) := by decide +kernel
theorem dX12_bears_21 : decode cX12_bears 21 = .ok (.i2l, 1) := by decide +kernel
theorem dX12_bears_22 : decode cX12_bears 22 = .ok (.lconst 1, 1) := by decide +kernel
theorem dX12_bears_23 : decode cX12_bears 23 = .ok (.bipush 48, 2) := by decide +kernel
theorem dX12_bears_25 : decode cX12_bears 25 = .ok (.iload_n 2, 1) := by decide +kernel
theorem dX12_bears_26 : decode cX12_bears 26 = .ok (.isub, 1) := by decide +kernel
theorem dX12_bears_27 : decode cX12_bears 27 = .ok (.i2l, 1) := by decide +kernel
theorem dX12_bears_28 : decode cX12_bears 28 = .ok (.invokestatic 13, 3) := by decide +kernel
theorem dX12_bears_31 : decode cX12_bears 31 = .ok (.ifCond .eq 10, 3) := by decide +kernel
theorem dX12_bears_34 : decode cX12_bears 34 = .ok (.iload_n 3, 1) := by decide +kernel
theorem dX12_bears_35 : decode cX12_bears 35 = .ok (.invokestatic 17, 3) := by decide +kernel
theorem dX12_bears_38 : decode cX12_bears 38 = .ok (.ifCond .ne 6, 3) := by decide +kernel
theorem dX12_bears_41 : decode cX12_bears 41 = .ok (.ldc 23, 2) := by decide +kernel
