theorem dX12_bears_43 : decode cX12_bears 43 = .ok (.ireturn, 1) := by decide +kernel
theorem dX12_bears_44 : decode cX12_bears 44 = .ok (.aload_n 0, 1) := by decide +kernel
theorem dX12_bears_45 : decode cX12_bears 45 = .ok (.iload_n 3, 1) := by decide +kernel
theorem dX12_bears_46 : decode cX12_bears 46 = .ok (.iload 4, 2) := by decide +kernel
theorem dX12_bears_48 : decode cX12_bears 48 = .ok (.iload 5, 2) := by decide +kernel
theorem dX12_bears_50 : decode cX12_bears 50 = .ok (.bipush 99, 2) := by decide +kernel
theorem dX12_bears_52 : decode cX12_bears 52 = .ok (.invokevirtual 118, 3) := by decide +kernel
theorem dX12_bears_55 : decode cX12_bears 55 = .ok (.istore 6, 2) := by decide +kernel
theorem dX12_bears_57 : decode cX12_bears 57 = .ok (.iload 6, 2) := by decide +kernel
theorem dX12_bears_59 : decode cX12_bears 59 = .ok (.ifCond .ge 6, 3) := by decide +kernel
theorem dX12_bears_62 : decode cX12_bears 62 = .ok (.iload 6, 2) := by decide +kernel
theorem dX12_bears_64 : decode cX12_bears 64 = .ok (.ireturn, 1) := by decide +kernel
theorem dX12_bears_65 : decode cX12_bears 65 = .ok (.iconst 0, 1) := by decide +kernel
theorem dX12_bears_66 : decode cX12_bears 66 = .ok (.istore 7, 2) := by decide +kernel
theorem dX12_bears_68 : decode cX12_bears 68 = .ok (.iload 7, 2) := by decide +kernel
theorem dX12_bears_70 : decode cX12_bears 70 = .ok (.iload 5, 2) := by decide +kernel
theorem dX12_bears_72 : decode cX12_bears 72 = .ok (.if_icmp .ge 38, 3) := by decide +kernel
theorem dX12_bears_75 : decode cX12_bears 75 = .ok (.aload_n 0, 1) := by decide +kernel
theorem dX12_bears_76 : decode cX12_bears 76 = .ok (.getfield 44, 3) := by decide +kernel
theorem dX12_bears_79 : decode cX12_bears 79 = .ok (.bipush 48, 2) := by decide +kernel
theorem dX12_bears_81 : decode cX12_bears 81 = .ok (.iload_n 1, 1) := by decide +kernel
theorem dX12_bears_82 : decode cX12_bears 82 = .ok (.imul, 1) := by decide +kernel
theorem dX12_bears_83 : decode cX12_bears 83 = .ok (.iload_n 2, 1) := by decide +kernel
theorem dX12_bears_84 : decode cX12_bears 84 = .ok (.iadd, 1) := by decide +kernel
theorem dX12_bears_85 : decode cX12_bears 85 = .ok (.iload 7, 2) := by decide +kernel
theorem dX12_bears_87 : decode cX12_bears 87 = .ok (.iadd, 1) := by decide +kernel
theorem dX12_bears_88 : decode cX12_bears 88 = .ok (.aload_n 0, 1) := by decide +kernel
theorem dX12_bears_89 : decode cX12_bears 89 = .ok (.getfield 35, 3) := by decide +kernel
theorem dX12_bears_92 : decode cX12_bears 92 = .ok (.bipush 48, 2) := by decide +kernel
theorem dX12_bears_94 : decode cX12_bears 94 = .ok (.iload_n 3, 1) := by decide +kernel
theorem dX12_bears_95 : decode cX12_bears 95 = .ok (.imul, 1) := by decide +kernel
theorem dX12_bears_96 : decode cX12_bears 96 = .ok (.iload 4, 2) := by decide +kernel
theorem dX12_bears_98 : decode cX12_bears 98 = .ok (.iadd, 1) := by decide +kernel
theorem dX12_bears_99 : decode cX12_bears 99 = .ok (.iload 7, 2) := by decide +kernel
theorem dX12_bears_101 : decode cX12_bears 101 = .ok (.iadd, 1) := by decide +kernel
theorem dX12_bears_102 : decode cX12_bears 102 = .ok (.iaload, 1) := by decide +kernel
theorem dX12_bears_103 : decode cX12_bears 103 = .ok (.iastore, 1) := by decide +kernel
theorem dX12_bears_104 : decode cX12_bears 104 = .ok (.iinc 7 1, 3) := by decide +kernel
theorem dX12_bears_107 : decode cX12_bears 107 = .ok (.goto (-39), 3) := by decide +kernel
theorem dX12_bears_110 : decode cX12_bears 110 = .ok (.iload 5, 2) := by decide +kernel
theorem dX12_bears_112 : decode cX12_bears 112 = .ok (.ireturn, 1) := by decide +kernel
theorem dX12_staff_0 : decode cX12_staff 0 = .ok (.aload_n 0, 1) := by decide +kernel
theorem dX12_staff_1 : decode cX12_staff 1 = .ok (.iconst 0, 1) := by decide +kernel
theorem dX12_staff_2 : decode cX12_staff 2 = .ok (.putfield 1, 3) := by decide +kernel
theorem dX12_staff_5 : decode cX12_staff 5 = .ok (.iload_n 1, 1) := by decide +kernel
theorem dX12_staff_6 : decode cX12_staff 6 = .ok (.invokestatic 115, 3) := by decide +kernel
theorem dX12_staff_9 : decode cX12_staff 9 = .ok (.ifCond .eq 25, 3) := by decide +kernel
theorem dX12_staff_12 : decode cX12_staff 12 = .ok (.iload 4, 2) := by decide +kernel
theorem dX12_staff_14 : decode cX12_staff 14 = .ok (.i2l, 1) := by decide +kernel
theorem dX12_staff_15 : decode cX12_staff 15 = .ok (.lconst 1, 1) := by decide +kernel
theorem dX12_staff_16 : decode cX12_staff 16 = .ok (.bipush 48, 2) := by decide +kernel
theorem dX12_staff_18 : decode cX12_staff 18 = .ok (.iload_n 1, 1) := by decide +kernel
theorem dX12_staff_19 : decode cX12_staff 19 = .ok (.isub, 1) := by decide +kernel
theorem dX12_staff_20 : decode cX12_staff 20 = .ok (.i2l, 1) := by decide +kernel
theorem dX12_staff_21 : decode cX12_staff 21 = .ok (.invokestatic 13, 3) := by decide +kernel
theorem dX12_staff_24 : decode cX12_staff 24 = .ok (.ifCond .eq 10, 3) := by decide +kernel
theorem dX12_staff_27 : decode cX12_staff 27 = .ok (.iload_n 2, 1) := by decide +kernel
theorem dX12_staff_28 : decode cX12_staff 28 = .ok (.invokestatic 17, 3) := by decide +kernel
theorem dX12_staff_31 : decode cX12_staff 31 = .ok (.ifCond .ne 6, 3) := by decide +kernel
theorem dX12_staff_34 : decode cX12_staff 34 = .ok (.ldc 23, 2) := by decide +kernel
theorem dX12_staff_36 : decode cX12_staff 36 = .ok (.ireturn, 1) := by decide +kernel
theorem dX12_staff_37 : decode cX12_staff 37 = .ok (.aload_n 0, 1) := by decide +kernel
theorem dX12_staff_38 : decode cX12_staff 38 = .ok (.iload_n 2, 1) := by decide +kernel
theorem dX12_staff_39 : decode cX12_staff 39 = .ok (.iload_n 3, 1) := by decide +kernel
theorem dX12_staff_40 : decode cX12_staff 40 = .ok (.iload 4, 2) := by decide +kernel
theorem dX12_staff_42 : decode cX12_staff 42 = .ok (.bipush 9, 2) := by decide +kernel
theorem dX12_staff_44 : decode cX12_staff 44 = .ok (.invokevirtual 118, 3) := by decide +kernel
theorem dX12_staff_47 : decode cX12_staff 47 = .ok (.istore 5, 2) := by decide +kernel
theorem dX12_staff_49 : decode cX12_staff 49 = .ok (.iload 5, 2) := by decide +kernel
theorem dX12_staff_51 : decode cX12_staff 51 = .ok (.ifCond .ge 6, 3) := by decide +kernel
theorem dX12_staff_54 : decode cX12_staff 54 = .ok (.iload 5, 2) := by decide +kernel
theorem dX12_staff_56 : decode cX12_staff 56 = .ok (.ireturn, 1) := by decide +kernel
theorem dX12_staff_57 : decode cX12_staff 57 = .ok (.iconst 0, 1) := by decide +kernel
theorem dX12_staff_58 : decode cX12_staff 58 = .ok (.istore 6, 2) := by decide +kernel
theorem dX12_staff_60 : decode cX12_staff 60 = .ok (.iload 6, 2) := by decide +kernel
theorem dX12_staff_62 : decode cX12_staff 62 = .ok (.iload 4, 2) := by decide +kernel
theorem dX12_staff_64 : decode cX12_staff 64 = .ok (.if_icmp .ge 32, 3) := by decide +kernel
theorem dX12_staff_67 : decode cX12_staff 67 = .ok (.aload_n 0, 1) := by decide +kernel
theorem dX12_staff_68 : decode cX12_staff 68 = .ok (.getfield 47, 3) := by decide +kernel
theorem dX12_staff_71 : decode cX12_staff 71 = .ok (.iload_n 1, 1) := by decide +kernel
theorem dX12_staff_72 : decode cX12_staff 72 = .ok (.iload 6, 2) := by decide +kernel
theorem dX12_staff_74 : decode cX12_staff 74 = .ok (.iadd, 1) := by decide +kernel
theorem dX12_staff_75 : decode cX12_staff 75 = .ok (.aload_n 0, 1) := by decide +kernel
theorem dX12_staff_76 : decode cX12_staff 76 = .ok (.getfield 35, 3) := by decide +kernel
theorem dX12_staff_79 : decode cX12_staff 79 = .ok (.bipush 48, 2) := by decide +kernel
theorem dX12_staff_81 : decode cX12_staff 81 = .ok (.iload_n 2, 1) := by decide +kernel
theorem dX12_staff_82 : decode cX12_staff 82 = .ok (.imul, 1) := by decide +kernel
theorem dX12_staff_83 : decode cX12_staff 83 = .ok (.iload_n 3, 1) := by decide +kernel
theorem dX12_staff_84 : decode cX12_staff 84 = .ok (.iadd, 1) := by decide +kernel
theorem dX12_staff_85 : decode cX12_staff 85 = .ok (.iload 6, 2) := by decide +kernel
theorem dX12_staff_87 : decode cX12_staff 87 = .ok (.iadd, 1) := by decide +kernel
theorem dX12_staff_88 : decode cX12_staff 88 = .ok (.iaload, 1) := by decide +kernel
theorem dX12_staff_89 : decode cX12_staff 89 = .ok (.iastore, 1) := by decide +kernel
theorem dX12_staff_90 : decode cX12_staff 90 = .ok (.iinc 6 1, 3) := by decide +kernel
theorem dX12_staff_93 : decode cX12_staff 93 = .ok (.goto (-33), 3) := by decide +kernel
theorem dX12_staff_96 : decode cX12_staff 96 = .ok (.iload 4, 2) := by decide +kernel
theorem dX12_staff_98 : decode cX12_staff 98 = .ok (.ireturn, 1) := by decide +kernel
theorem dX12_look_0 : decode cX12_look 0 = .ok (.aload_n 0, 1) := by decide +kernel
theorem dX12_look_1 : decode cX12_look 1 = .ok (.iconst 0, 1) := by decide +kernel
theorem dX12_look_2 : decode cX12_look 2 = .ok (.putfield 1, 3) := by decide +kernel
theorem dX12_look_5 : decode cX12_look 5 = .ok (.iload_n 1, 1) := by decide +kernel
theorem dX12_look_6 : decode cX12_look 6 = .ok (.i2l, 1) := by decide +kernel
theorem dX12_look_7 : decode cX12_look 7 = .ok (.lconst 1, 1) := by decide +kernel
theorem dX12_look_8 : decode cX12_look 8 = .ok (.ldc2_w 122, 3) := by decide +kernel
theorem dX12_look_11 : decode cX12_look 11 = .ok (.invokestatic 13, 3) := by decide +kernel
theorem dX12_look_14 : decode cX12_look 14 = .ok (.ifCond .ne 6, 3) := by decide +kernel
theorem dX12_look_17 : decode cX12_look 17 = .ok (.ldc 23, 2) := by decide +kernel
theorem dX12_look_19 : decode cX12_look 19 = .ok (.ireturn, 1) := by decide +kernel
theorem dX12_look_20 : decode cX12_look 20 = .ok (.aload_n 0, 1) := by decide +kernel
theorem dX12_look_21 : decode cX12_look 21 = .ok (.getfield 50, 3) := by decide +kernel
theorem dX12_look_24 : decode cX12_look 24 = .ok (.istore_n 2, 1) := by decide +kernel
theorem dX12_look_25 : decode cX12_look 25 = .ok (.aload_n 0, 1) := by decide +kernel
theorem dX12_look_26 : decode cX12_look 26 = .ok (.iload_n 1, 1) := by decide +kernel
theorem dX12_look_27 : decode cX12_look 27 = .ok (.putfield 50, 3) := by decide +kernel
theorem dX12_look_30 : decode cX12_look 30 = .ok (.iload_n 2, 1) := by decide +kernel
theorem dX12_look_31 : decode cX12_look 31 = .ok (.ireturn, 1) := by decide +kernel
theorem dX12_bearsIn_0 : decode cX12_bearsIn 0 = .ok (.aload_n 0, 1) := by decide +kernel
theorem dX12_bearsIn_1 : decode cX12_bearsIn 1 = .ok (.getfield 44, 3) := by decide +kernel
theorem dX12_bearsIn_4 : decode cX12_bearsIn 4 = .ok (.bipush 48, 2) := by decide +kernel
theorem dX12_bearsIn_6 : decode cX12_bearsIn 6 = .ok (.iload_n 1, 1) := by decide +kernel
theorem dX12_bearsIn_7 : decode cX12_bearsIn 7 = .ok (.imul, 1) := by decide +kernel
theorem dX12_bearsIn_8 : decode cX12_bearsIn 8 = .ok (.iload_n 2, 1) := by decide +kernel
theorem dX12_bearsIn_9 : decode cX12_bearsIn 9 = .ok (.iadd, 1) := by decide +kernel
theorem dX12_bearsIn_10 : decode cX12_bearsIn 10 = .ok (.iaload, 1) := by decide +kernel
theorem dX12_bearsIn_11 : decode cX12_bearsIn 11 = .ok (.istore 4, 2) := by decide +kernel
theorem dX12_bearsIn_13 : decode cX12_bearsIn 13 = .ok (.iconst 0, 1) := by decide +kernel
theorem dX12_bearsIn_14 : decode cX12_bearsIn 14 = .ok (.istore 5, 2) := by decide +kernel
theorem dX12_bearsIn_16 : decode cX12_bearsIn 16 = .ok (.iload 5, 2) := by decide +kernel
theorem dX12_bearsIn_18 : decode cX12_bearsIn 18 = .ok (.aload_n 0, 1) := by decide +kernel
theorem dX12_bearsIn_19 : decode cX12_bearsIn 19 = .ok (.getfield 124, 3) := by decide +kernel
theorem dX12_bearsIn_22 : decode cX12_bearsIn 22 = .ok (.if_icmp .ge 107, 3) := by decide +kernel
theorem dX12_bearsIn_25 : decode cX12_bearsIn 25 = .ok (.iconst 5, 1) := by decide +kernel
theorem dX12_bearsIn_26 : decode cX12_bearsIn 26 = .ok (.iload 5, 2) := by decide +kernel
theorem dX12_bearsIn_28 : decode cX12_bearsIn 28 = .ok (.imul, 1) := by decide +kernel
theorem dX12_bearsIn_29 : decode cX12_bearsIn 29 = .ok (.istore 6, 2) := by decide +kernel
theorem dX12_bearsIn_31 : decode cX12_bearsIn 31 = .ok (.aload_n 0, 1) := by decide +kernel
theorem dX12_bearsIn_32 : decode cX12_bearsIn 32 = .ok (.getfield 53, 3) := by decide +kernel
theorem dX12_bearsIn_35 : decode cX12_bearsIn 35 = .ok (.iload 6, 2) := by decide +kernel
theorem dX12_bearsIn_37 : decode cX12_bearsIn 37 = .ok (.iaload, 1) := by decide +kernel
theorem dX12_bearsIn_38 : decode cX12_bearsIn 38 = .ok (.iload_n 3, 1) := by decide +kernel
theorem dX12_bearsIn_39 : decode cX12_bearsIn 39 = .ok (.if_icmp .ne 46, 3) := by decide +kernel
theorem dX12_bearsIn_42 : decode cX12_bearsIn 42 = .ok (.aload_n 0, 1) := by decide +kernel
theorem dX12_bearsIn_43 : decode cX12_bearsIn 43 = .ok (.getfield 53, 3) := by decide +kernel
theorem dX12_bearsIn_46 : decode cX12_bearsIn 46 = .ok (.iload 6, 2) := by decide +kernel
theorem dX12_bearsIn_48 : decode cX12_bearsIn 48 = .ok (.iconst 1, 1) := by decide +kernel
theorem dX12_bearsIn_49 : decode cX12_bearsIn 49 = .ok (.iadd, 1) := by decide +kernel
theorem dX12_bearsIn_50 : decode cX12_bearsIn 50 = .ok (.iaload, 1) := by decide +kernel
theorem dX12_bearsIn_51 : decode cX12_bearsIn 51 = .ok (.iload_n 1, 1) := by decide +kernel
theorem dX12_bearsIn_52 : decode cX12_bearsIn 52 = .ok (.if_icmp .ne 33, 3) := by decide +kernel
theorem dX12_bearsIn_55 : decode cX12_bearsIn 55 = .ok (.iload_n 2, 1) := by decide +kernel
theorem dX12_bearsIn_56 : decode cX12_bearsIn 56 = .ok (.aload_n 0, 1) := by decide +kernel
theorem dX12_bearsIn_57 : decode cX12_bearsIn 57 = .ok (.getfield 53, 3) := by decide +kernel
theorem dX12_bearsIn_60 : decode cX12_bearsIn 60 = .ok (.iload 6, 2) := by decide +kernel
theorem dX12_bearsIn_62 : decode cX12_bearsIn 62 = .ok (.iconst 2, 1) := by decide +kernel
theorem dX12_bearsIn_63 : decode cX12_bearsIn 63 = .ok (.iadd, 1) := by decide +kernel
theorem dX12_bearsIn_64 : decode cX12_bearsIn 64 = .ok (.iaload, 1) := by decide +kernel
theorem dX12_bearsIn_65 : decode cX12_bearsIn 65 = .ok (.if_icmp .lt 20, 3) := by decide +kernel
theorem dX12_bearsIn_68 : decode cX12_bearsIn 68 = .ok (.iload_n 2, 1) := by decide +kernel
theorem dX12_bearsIn_69 : decode cX12_bearsIn 69 = .ok (.aload_n 0, 1) := by decide +kernel
theorem dX12_bearsIn_70 : decode cX12_bearsIn 70 = .ok (.getfield 53, 3) := by decide +kernel
theorem dX12_bearsIn_73 : decode cX12_bearsIn 73 = .ok (.iload 6, 2) := by decide +kernel
theorem dX12_bearsIn_75 : decode cX12_bearsIn 75 = .ok (.iconst 3, 1) := by decide +kernel
theorem dX12_bearsIn_76 : decode cX12_bearsIn 76 = .ok (.iadd, 1) := by decide +kernel
theorem dX12_bearsIn_77 : decode cX12_bearsIn 77 = .ok (.iaload, 1) := by decide +kernel
theorem dX12_bearsIn_78 : decode cX12_bearsIn 78 = .ok (.if_icmp .ge 7, 3) := by decide +kernel
theorem dX12_bearsIn_81 : decode cX12_bearsIn 81 = .ok (.iconst 1, 1) := by decide +kernel
theorem dX12_bearsIn_82 : decode cX12_bearsIn 82 = .ok (.goto 4, 3) := by decide +kernel
theorem dX12_bearsIn_85 : decode cX12_bearsIn 85 = .ok (.iconst 0, 1) := by decide +kernel
theorem dX12_bearsIn_86 : decode cX12_bearsIn 86 = .ok (.istore 7, 2) := by decide +kernel
theorem dX12_bearsIn_88 : decode cX12_bearsIn 88 = .ok (.iload 7, 2) := by decide +kernel
theorem dX12_bearsIn_90 : decode cX12_bearsIn 90 = .ok (.ifCond .eq 29, 3) := by decide +kernel
theorem dX12_bearsIn_93 : decode cX12_bearsIn 93 = .ok (.aload_n 0, 1) := by decide +kernel
theorem dX12_bearsIn_94 : decode cX12_bearsIn 94 = .ok (.getfield 53, 3) := by decide +kernel
theorem dX12_bearsIn_97 : decode cX12_bearsIn 97 = .ok (.iload 6, 2) := by decide +kernel
theorem dX12_bearsIn_99 : decode cX12_bearsIn 99 = .ok (.iconst 4, 1) := by decide +kernel
theorem dX12_bearsIn_100 : decode cX12_bearsIn 100 = .ok (.iadd, 1) := by decide +kernel
theorem dX12_bearsIn_101 : decode cX12_bearsIn 101 = .ok (.iaload, 1) := by decide +kernel
theorem dX12_bearsIn_102 : decode cX12_bearsIn 102 = .ok (.iload 4, 2) := by decide +kernel
theorem dX12_bearsIn_104 : decode cX12_bearsIn 104 = .ok (.if_icmp .ge 15, 3) := by decide +kernel
theorem dX12_bearsIn_107 : decode cX12_bearsIn 107 = .ok (.aload_n 0, 1) := by decide +kernel
theorem dX12_bearsIn_108 : decode cX12_bearsIn 108 = .ok (.getfield 53, 3) := by decide +kernel
theorem dX12_bearsIn_111 : decode cX12_bearsIn 111 = .ok (.iload 6, 2) := by decide +kernel
theorem dX12_bearsIn_113 : decode cX12_bearsIn 113 = .ok (.iconst 4, 1) := by decide +kernel
theorem dX12_bearsIn_114 : decode cX12_bearsIn 114 = .ok (.iadd, 1) := by decide +kernel
theorem dX12_bearsIn_115 : decode cX12_bearsIn 115 = .ok (.iaload, 1) := by decide +kernel
theorem dX12_bearsIn_116 : decode cX12_bearsIn 116 = .ok (.goto 5, 3) := by decide +kernel
theorem dX12_bearsIn_119 : decode cX12_bearsIn 119 = .ok (.iload 4, 2) := by decide +kernel
theorem dX12_bearsIn_121 : decode cX12_bearsIn 121 = .ok (.istore 4, 2) := by decide +kernel
theorem dX12_bearsIn_123 : decode cX12_bearsIn 123 = .ok (.iinc 5 1, 3) := by decide +kernel
theorem dX12_bearsIn_126 : decode cX12_bearsIn 126 = .ok (.goto (-110), 3) := by decide +kernel
theorem dX12_bearsIn_129 : decode cX12_bearsIn 129 = .ok (.iload 4, 2) := by decide +kernel
theorem dX12_bearsIn_131 : decode cX12_bearsIn 131 = .ok (.ireturn, 1) := by decide +kernel
theorem dX12_safeOf_0 : decode cX12_safeOf 0 = .ok (.sipush 1000, 3) := by decide +kernel
theorem dX12_safeOf_3 : decode cX12_safeOf 3 = .ok (.istore_n 3, 1) := by decide +kernel
theorem dX12_safeOf_4 : decode cX12_safeOf 4 = .ok (.iconst 0, 1) := by decide +kernel
theorem dX12_safeOf_5 : decode cX12_safeOf 5 = .ok (.istore 4, 2) := by decide +kernel
theorem dX12_safeOf_7 : decode cX12_safeOf 7 = .ok (.iload 4, 2) := by decide +kernel
theorem dX12_safeOf_9 : decode cX12_safeOf 9 = .ok (.iconst 4, 1) := by decide +kernel
theorem dX12_safeOf_10 : decode cX12_safeOf 10 = .ok (.if_icmp .ge 51, 3) := by decide +kernel
theorem dX12_safeOf_13 : decode cX12_safeOf 13 = .ok (.aload_n 0, 1) := by decide +kernel
theorem dX12_safeOf_14 : decode cX12_safeOf 14 = .ok (.getfield 50, 3) := by decide +kernel
theorem dX12_safeOf_17 : decode cX12_safeOf 17 = .ok (.iload 4, 2) := by decide +kernel
theorem dX12_safeOf_19 : decode cX12_safeOf 19 = .ok (.ishr, 1) := by decide +kernel
theorem dX12_safeOf_20 : decode cX12_safeOf 20 = .ok (.iconst 1, 1) := by decide +kernel
theorem dX12_safeOf_21 : decode cX12_safeOf 21 = .ok (.iand, 1) := by decide +kernel
theorem dX12_safeOf_22 : decode cX12_safeOf 22 = .ok (.iconst 1, 1) := by decide +kernel
theorem dX12_safeOf_23 : decode cX12_safeOf 23 = .ok (.if_icmp .ne 14, 3) := by decide +kernel
theorem dX12_safeOf_26 : decode cX12_safeOf 26 = .ok (.aload_n 0, 1) := by decide +kernel
theorem dX12_safeOf_27 : decode cX12_safeOf 27 = .ok (.iload_n 1, 1) := by decide +kernel
theorem dX12_safeOf_28 : decode cX12_safeOf 28 = .ok (.iload_n 2, 1) := by decide +kernel
theorem dX12_safeOf_29 : decode cX12_safeOf 29 = .ok (.iload 4, 2) := by decide +kernel
theorem dX12_safeOf_31 : decode cX12_safeOf 31 = .ok (.invokevirtual 127, 3) := by decide +kernel
theorem dX12_safeOf_34 : decode cX12_safeOf 34 = .ok (.goto 6, 3) := by decide +kernel
theorem dX12_safeOf_37 : decode cX12_safeOf 37 = .ok (.sipush 1000, 3) := by decide +kernel
theorem dX12_safeOf_40 : decode cX12_safeOf 40 = .ok (.istore 5, 2) := by decide +kernel
theorem dX12_safeOf_42 : decode cX12_safeOf 42 = .ok (.iload 5, 2) := by decide +kernel
theorem dX12_safeOf_44 : decode cX12_safeOf 44 = .ok (.iload_n 3, 1) := by decide +kernel
theorem dX12_safeOf_45 : decode cX12_safeOf 45 = .ok (.if_icmp .ge 8, 3) := by decide +kernel
theorem dX12_safeOf_48 : decode cX12_safeOf 48 = .ok (.iload 5, 2) := by decide +kernel
theorem dX12_safeOf_50 : decode cX12_safeOf 50 = .ok (.goto 4, 3) := by decide +kernel
theorem dX12_safeOf_53 : decode cX12_safeOf 53 = .ok (.iload_n 3, 1) := by decide +kernel
theorem dX12_safeOf_54 : decode cX12_safeOf 54 = .ok (.istore_n 3, 1) := by decide +kernel
theorem dX12_safeOf_55 : decode cX12_safeOf 55 = .ok (.iinc 4 1, 3) := by decide +kernel
theorem dX12_safeOf_58 : decode cX12_safeOf 58 = .ok (.goto (-51), 3) := by decide +kernel
theorem dX12_safeOf_61 : decode cX12_safeOf 61 = .ok (.iload_n 3, 1) := by decide +kernel
theorem dX12_safeOf_62 : decode cX12_safeOf 62 = .ok (.ireturn, 1) := by decide +kernel
theorem dX12_safe_0 : decode cX12_safe 0 = .ok (.aload_n 0, 1) := by decide +kernel
theorem dX12_safe_1 : decode cX12_safe 1 = .ok (.iconst 0, 1) := by decide +kernel
theorem dX12_safe_2 : decode cX12_safe 2 = .ok (.putfield 1, 3) := by decide +kernel
theorem dX12_safe_5 : decode cX12_safe 5 = .ok (.iload_n 1, 1) := by decide +kernel
theorem dX12_safe_6 : decode cX12_safe 6 = .ok (.invokestatic 112, 3) := by decide +kernel
theorem dX12_safe_9 : decode cX12_safe 9 = .ok (.ifCond .eq 28, 3) := by decide +kernel
theorem dX12_safe_12 : decode cX12_safe 12 = .ok (.iload_n 2, 1) := by decide +kernel
theorem dX12_safe_13 : decode cX12_safe 13 = .ok (.invokestatic 115, 3) := by decide +kernel
theorem dX12_safe_16 : decode cX12_safe 16 = .ok (.ifCond .eq 21, 3) := by decide +kernel
theorem dX12_safe_19 : decode cX12_safe 19 = .ok (.iload_n 3, 1) := by decide +kernel
theorem dX12_safe_20 : decode cX12_safe 20 = .ok (.ldc 131, 2) := by decide +kernel
theorem dX12_safe_22 : decode cX12_safe 22 = .ok (.if_icmp .eq 18, 3) := by decide +kernel
theorem dX12_safe_25 : decode cX12_safe 25 = .ok (.iload_n 3, 1) := by decide +kernel
theorem dX12_safe_26 : decode cX12_safe 26 = .ok (.i2l, 1) := by decide +kernel
theorem dX12_safe_27 : decode cX12_safe 27 = .ok (.lconst 0, 1) := by decide +kernel
theorem dX12_safe_28 : decode cX12_safe 28 = .ok (.ldc2_w 132, 3) := by decide +kernel
theorem dX12_safe_31 : decode cX12_safe 31 = .ok (.invokestatic 13, 3) := by decide +kernel
theorem dX12_safe_34 : decode cX12_safe 34 = .ok (.ifCond .ne 6, 3) := by decide +kernel
theorem dX12_safe_37 : decode cX12_safe 37 = .ok (.ldc 23, 2) := by decide +kernel
theorem dX12_safe_39 : decode cX12_safe 39 = .ok (.ireturn, 1) := by decide +kernel
theorem dX12_safe_40 : decode cX12_safe 40 = .ok (.iload_n 3, 1) := by decide +kernel
theorem dX12_safe_41 : decode cX12_safe 41 = .ok (.ldc 131, 2) := by decide +kernel
theorem dX12_safe_43 : decode cX12_safe 43 = .ok (.if_icmp .ne 12, 3) := by decide +kernel
theorem dX12_safe_46 : decode cX12_safe 46 = .ok (.aload_n 0, 1) := by decide +kernel
theorem dX12_safe_47 : decode cX12_safe 47 = .ok (.iload_n 1, 1) := by decide +kernel
theorem dX12_safe_48 : decode cX12_safe 48 = .ok (.iload_n 2, 1) := by decide +kernel
theorem dX12_safe_49 : decode cX12_safe 49 = .ok (.invokevirtual 134, 3) := by decide +kernel
theorem dX12_safe_52 : decode cX12_safe 52 = .ok (.goto 10, 3) := by decide +kernel
theorem dX12_safe_55 : decode cX12_safe 55 = .ok (.aload_n 0, 1) := by decide +kernel
theorem dX12_safe_56 : decode cX12_safe 56 = .ok (.iload_n 1, 1) := by decide +kernel
theorem dX12_safe_57 : decode cX12_safe 57 = .ok (.iload_n 2, 1) := by decide +kernel
theorem dX12_safe_58 : decode cX12_safe 58 = .ok (.iload_n 3, 1) := by decide +kernel
theorem dX12_safe_59 : decode cX12_safe 59 = .ok (.invokevirtual 127, 3) := by decide +kernel
theorem dX12_safe_62 : decode cX12_safe 62 = .ok (.ireturn, 1) := by decide +kernel
theorem dX12_isFlight_0 : decode cX12_isFlight 0 = .ok (.iload_n 1, 1) := by decide +kernel
theorem dX12_isFlight_1 : decode cX12_isFlight 1 = .ok (.i2l, 1) := by decide +kernel
theorem dX12_isFlight_2 : decode cX12_isFlight 2 = .ok (.lconst 0, 1) := by decide +kernel
theorem dX12_isFlight_3 : decode cX12_isFlight 3 = .ok (.aload_n 0, 1) := by decide +kernel
theorem dX12_isFlight_4 : decode cX12_isFlight 4 = .ok (.getfield 138, 3) := by decide +kernel
theorem dX12_isFlight_7 : decode cX12_isFlight 7 = .ok (.iconst 1, 1) := by decide +kernel
theorem dX12_isFlight_8 : decode cX12_isFlight 8 = .ok (.isub, 1) := by decide +kernel
theorem dX12_isFlight_9 : decode cX12_isFlight 9 = .ok (.i2l, 1) := by decide +kernel
theorem dX12_isFlight_10 : decode cX12_isFlight 10 = .ok (.invokestatic 13, 3) := by decide +kernel
theorem dX12_isFlight_13 : decode cX12_isFlight 13 = .ok (.ireturn, 1) := by decide +kernel
theorem dX12_costBy_0 : decode cX12_costBy 0 = .ok (.aload_n 0, 1) := by decide +kernel
theorem dX12_costBy_1 : decode cX12_costBy 1 = .ok (.getfield 56, 3) := by decide +kernel
theorem dX12_costBy_4 : decode cX12_costBy 4 = .ok (.iconst 5, 1) := by decide +kernel
theorem dX12_costBy_5 : decode cX12_costBy 5 = .ok (.iload_n 1, 1) := by decide +kernel
theorem dX12_costBy_6 : decode cX12_costBy 6 = .ok (.imul, 1) := by decide +kernel
theorem dX12_costBy_7 : decode cX12_costBy 7 = .ok (.iconst 3, 1) := by decide +kernel
theorem dX12_costBy_8 : decode cX12_costBy 8 = .ok (.iadd, 1) := by decide +kernel
theorem dX12_costBy_9 : decode cX12_costBy 9 = .ok (.iaload, 1) := by decide +kernel
theorem dX12_costBy_10 : decode cX12_costBy 10 = .ok (.iload_n 3, 1) := by decide +kernel
theorem dX12_costBy_11 : decode cX12_costBy 11 = .ok (.imul, 1) := by decide +kernel
theorem dX12_costBy_12 : decode cX12_costBy 12 = .ok (.bipush 10, 2) := by decide +kernel
theorem dX12_costBy_14 : decode cX12_costBy 14 = .ok (.iload_n 2, 1) := by decide +kernel
theorem dX12_costBy_15 : decode cX12_costBy 15 = .ok (.imul, 1) := by decide +kernel
theorem dX12_costBy_16 : decode cX12_costBy 16 = .ok (.iadd, 1) := by decide +kernel
theorem dX12_costBy_17 : decode cX12_costBy 17 = .ok (.ireturn, 1) := by decide +kernel
theorem dX12_costOf_0 : decode cX12_costOf 0 = .ok (.aload_n 0, 1) := by decide +kernel
theorem dX12_costOf_1 : decode cX12_costOf 1 = .ok (.iload_n 1, 1) := by decide +kernel
theorem dX12_costOf_2 : decode cX12_costOf 2 = .ok (.aload_n 0, 1) := by decide +kernel
theorem dX12_costOf_3 : decode cX12_costOf 3 = .ok (.getfield 65, 3) := by decide +kernel
theorem dX12_costOf_6 : decode cX12_costOf 6 = .ok (.iload_n 1, 1) := by decide +kernel
theorem dX12_costOf_7 : decode cX12_costOf 7 = .ok (.iaload, 1) := by decide +kernel
theorem dX12_costOf_8 : decode cX12_costOf 8 = .ok (.aload_n 0, 1) := by decide +kernel
theorem dX12_costOf_9 : decode cX12_costOf 9 = .ok (.getfield 68, 3) := by decide +kernel
theorem dX12_costOf_12 : decode cX12_costOf 12 = .ok (.iload_n 1, 1) := by decide +kernel
theorem dX12_costOf_13 : decode cX12_costOf 13 = .ok (.iaload, 1) := by decide +kernel
theorem dX12_costOf_14 : decode cX12_costOf 14 = .ok (.invokevirtual 141, 3) := by decide +kernel
theorem dX12_costOf_17 : decode cX12_costOf 17 = .ok (.ireturn, 1) := by decide +kernel
theorem dX12_roomBy_0 : decode cX12_roomBy 0 = .ok (.aload_n 0, 1) := by decide +kernel
theorem dX12_roomBy_1 : decode cX12_roomBy 1 = .ok (.getfield 56, 3) := by decide +kernel
theorem dX12_roomBy_4 : decode cX12_roomBy 4 = .ok (.iconst 5, 1) := by decide +kernel
theorem dX12_roomBy_5 : decode cX12_roomBy 5 = .ok (.iload_n 1, 1) := by decide +kernel
theorem dX12_roomBy_6 : decode cX12_roomBy 6 = .ok (.imul, 1) := by decide +kernel
theorem dX12_roomBy_7 : decode cX12_roomBy 7 = .ok (.iconst 2, 1) := by decide +kernel
theorem dX12_roomBy_8 : decode cX12_roomBy 8 = .ok (.iadd, 1) := by decide +kernel
theorem dX12_roomBy_9 : decode cX12_roomBy 9 = .ok (.iaload, 1) := by decide +kernel
theorem dX12_roomBy_10 : decode cX12_roomBy 10 = .ok (.iload_n 3, 1) := by decide +kernel
theorem dX12_roomBy_11 : decode cX12_roomBy 11 = .ok (.iadd, 1) := by decide +kernel
theorem dX12_roomBy_12 : decode cX12_roomBy 12 = .ok (.istore 5, 2) := by decide +kernel
theorem dX12_roomBy_14 : decode cX12_roomBy 14 = .ok (.iconst 0, 1) := by decide +kernel
theorem dX12_roomBy_15 : decode cX12_roomBy 15 = .ok (.istore 6, 2) := by decide +kernel
theorem dX12_roomBy_17 : decode cX12_roomBy 17 = .ok (.iload 6, 2) := by decide +kernel
theorem dX12_roomBy_19 : decode cX12_roomBy 19 = .ok (.iconst 5, 1) := by decide +kernel
theorem dX12_roomBy_20 : decode cX12_roomBy 20 = .ok (.if_icmp .ge 65, 3) := by decide +kernel
theorem dX12_roomBy_23 : decode cX12_roomBy 23 = .ok (.iload 5, 2) := by decide +kernel
theorem dX12_roomBy_25 : decode cX12_roomBy 25 = .ok (.aload_n 0, 1) := by decide +kernel
theorem dX12_roomBy_26 : decode cX12_roomBy 26 = .ok (.getfield 62, 3) := by decide +kernel
theorem dX12_roomBy_29 : decode cX12_roomBy 29 = .ok (.bipush 15, 2) := by decide +kernel
theorem dX12_roomBy_31 : decode cX12_roomBy 31 = .ok (.iload_n 1, 1) := by decide +kernel
theorem dX12_roomBy_32 : decode cX12_roomBy 32 = .ok (.imul, 1) := by decide +kernel
theorem dX12_roomBy_33 : decode cX12_roomBy 33 = .ok (.iconst 5, 1) := by decide +kernel
theorem dX12_roomBy_34 : decode cX12_roomBy 34 = .ok (.iload_n 2, 1) := by decide +kernel
theorem dX12_roomBy_35 : decode cX12_roomBy 35 = .ok (.imul, 1) := by decide +kernel
theorem dX12_roomBy_36 : decode cX12_roomBy 36 = .ok (.iadd, 1) := by decide +kernel
theorem dX12_roomBy_37 : decode cX12_roomBy 37 = .ok (.iload 6, 2) := by decide +kernel
theorem dX12_roomBy_39 : decode cX12_roomBy 39 = .ok (.iadd, 1) := by decide +kernel
theorem dX12_roomBy_40 : decode cX12_roomBy 40 = .ok (.iaload, 1) := by decide +kernel
theorem dX12_roomBy_41 : decode cX12_roomBy 41 = .ok (.iadd, 1) := by decide +kernel
theorem dX12_roomBy_42 : decode cX12_roomBy 42 = .ok (.istore 7, 2) := by decide +kernel
theorem dX12_roomBy_44 : decode cX12_roomBy 44 = .ok (.iload 4, 2) := by decide +kernel
theorem dX12_roomBy_46 : decode cX12_roomBy 46 = .ok (.iload 5, 2) := by decide +kernel
theorem dX12_roomBy_48 : decode cX12_roomBy 48 = .ok (.if_icmp .lt 27, 3) := by decide +kernel
theorem dX12_roomBy_51 : decode cX12_roomBy 51 = .ok (.iload 4, 2) := by decide +kernel
theorem dX12_roomBy_53 : decode cX12_roomBy 53 = .ok (.iload 7, 2) := by decide +kernel
theorem dX12_roomBy_55 : decode cX12_roomBy 55 = .ok (.if_icmp .ge 20, 3) := by decide +kernel
theorem dX12_roomBy_58 : decode cX12_roomBy 58 = .ok (.aload_n 0, 1) := by decide +kernel
theorem dX12_roomBy_59 : decode cX12_roomBy 59 = .ok (.getfield 59, 3) := by decide +kernel
theorem dX12_roomBy_62 : decode cX12_roomBy 62 = .ok (.bipush 15, 2) := by decide +kernel
theorem dX12_roomBy_64 : decode cX12_roomBy 64 = .ok (.iload_n 1, 1) := by decide +kernel
theorem dX12_roomBy_65 : decode cX12_roomBy 65 = .ok (.imul, 1) := by decide +kernel
theorem dX12_roomBy_66 : decode cX12_roomBy 66 = .ok (.iconst 5, 1) := by decide +kernel
theorem dX12_roomBy_67 : decode cX12_roomBy 67 = .ok (.iload_n 2, 1) := by decide +kernel
theorem dX12_roomBy_68 : decode cX12_roomBy 68 = .ok (.imul, 1) := by decide +kernel
theorem dX12_roomBy_69 : decode cX12_roomBy 69 = .ok (.iadd, 1) := by decide +kernel
theorem dX12_roomBy_70 : decode cX12_roomBy 70 = .ok (.iload 6, 2) := by decide +kernel
theorem dX12_roomBy_72 : decode cX12_roomBy 72 = .ok (.iadd, 1) := by decide +kernel
theorem dX12_roomBy_73 : decode cX12_roomBy 73 = .ok (.iaload, 1) := by decide +kernel
theorem dX12_roomBy_74 : decode cX12_roomBy 74 = .ok (.ireturn, 1) := by decide +kernel
theorem dX12_roomBy_75 : decode cX12_roomBy 75 = .ok (.iload 7, 2) := by decide +kernel
theorem dX12_roomBy_77 : decode cX12_roomBy 77 = .ok (.istore 5, 2) := by decide +kernel
theorem dX12_roomBy_79 : decode cX12_roomBy 79 = .ok (.iinc 6 1, 3) := by decide +kernel
theorem dX12_roomBy_82 : decode cX12_roomBy 82 = .ok (.goto (-65), 3) := by decide +kernel
theorem dX12_roomBy_85 : decode cX12_roomBy 85 = .ok (.ldc 131, 2) := by decide +kernel
theorem dX12_roomBy_87 : decode cX12_roomBy 87 = .ok (.ireturn, 1) := by decide +kernel
theorem dX12_slotsOf_0 : decode cX12_slotsOf 0 = .ok (.iconst 0, 1) := by decide +kernel
theorem dX12_slotsOf_1 : decode cX12_slotsOf 1 = .ok (.istore_n 3, 1) := by decide +kernel
theorem dX12_slotsOf_2 : decode cX12_slotsOf 2 = .ok (.iconst 0, 1) := by decide +kernel
theorem dX12_slotsOf_3 : decode cX12_slotsOf 3 = .ok (.istore 4, 2) := by decide +kernel
theorem dX12_slotsOf_5 : decode cX12_slotsOf 5 = .ok (.iload 4, 2) := by decide +kernel
theorem dX12_slotsOf_7 : decode cX12_slotsOf 7 = .ok (.iconst 5, 1) := by decide +kernel
theorem dX12_slotsOf_8 : decode cX12_slotsOf 8 = .ok (.if_icmp .ge 28, 3) := by decide +kernel
theorem dX12_slotsOf_11 : decode cX12_slotsOf 11 = .ok (.iload_n 3, 1) := by decide +kernel
theorem dX12_slotsOf_12 : decode cX12_slotsOf 12 = .ok (.aload_n 0, 1) := by decide +kernel
theorem dX12_slotsOf_13 : decode cX12_slotsOf 13 = .ok (.getfield 62, 3) := by decide +kernel
theorem dX12_slotsOf_16 : decode cX12_slotsOf 16 = .ok (.bipush 15, 2) := by decide +kernel
theorem dX12_slotsOf_18 : decode cX12_slotsOf 18 = .ok (.iload_n 1, 1) := by decide +kernel
theorem dX12_slotsOf_19 : decode cX12_slotsOf 19 = .ok (.imul, 1) := by decide +kernel
theorem dX12_slotsOf_20 : decode cX12_slotsOf 20 = .ok (.iconst 5, 1) := by decide +kernel
theorem dX12_slotsOf_21 : decode cX12_slotsOf 21 = .ok (.iload_n 2, 1) := by decide +kernel
theorem dX12_slotsOf_22 : decode cX12_slotsOf 22 = .ok (.imul, 1) := by decide +kernel
theorem dX12_slotsOf_23 : decode cX12_slotsOf 23 = .ok (.iadd, 1) := by decide +kernel
theorem dX12_slotsOf_24 : decode cX12_slotsOf 24 = .ok (.iload 4, 2) := by decide +kernel
theorem dX12_slotsOf_26 : decode cX12_slotsOf 26 = .ok (.iadd, 1) := by decide +kernel
theorem dX12_slotsOf_27 : decode cX12_slotsOf 27 = .ok (.iaload, 1) := by decide +kernel
theorem dX12_slotsOf_28 : decode cX12_slotsOf 28 = .ok (.iadd, 1) := by decide +kernel
theorem dX12_slotsOf_29 : decode cX12_slotsOf 29 = .ok (.istore_n 3, 1) := by decide +kernel
theorem dX12_slotsOf_30 : decode cX12_slotsOf 30 = .ok (.iinc 4 1, 3) := by decide +kernel
theorem dX12_slotsOf_33 : decode cX12_slotsOf 33 = .ok (.goto (-28), 3) := by decide +kernel
theorem dX12_slotsOf_36 : decode cX12_slotsOf 36 = .ok (.iload_n 3, 1) := by decide +kernel
theorem dX12_slotsOf_37 : decode cX12_slotsOf 37 = .ok (.ireturn, 1) := by decide +kernel
theorem dX12_feed_0 : decode cX12_feed 0 = .ok (.aload_n 0, 1) := by decide +kernel
theorem dX12_feed_1 : decode cX12_feed 1 = .ok (.iconst 0, 1) := by decide +kernel
theorem dX12_feed_2 : decode cX12_feed 2 = .ok (.putfield 1, 3) := by decide +kernel
theorem dX12_feed_5 : decode cX12_feed 5 = .ok (.iload_n 3, 1) := by decide +kernel
theorem dX12_feed_6 : decode cX12_feed 6 = .ok (.i2l, 1) := by decide +kernel
theorem dX12_feed_7 : decode cX12_feed 7 = .ok (.lconst 1, 1) := by decide +kernel
theorem dX12_feed_8 : decode cX12_feed 8 = .ok (.ldc2_w 144, 3) := by decide +kernel
theorem dX12_feed_11 : decode cX12_feed 11 = .ok (.invokestatic 13, 3) := by decide +kernel
theorem dX12_feed_14 : decode cX12_feed 14 = .ok (.ifCond .ne 6, 3) := by decide +kernel
theorem dX12_feed_17 : decode cX12_feed 17 = .ok (.ldc 23, 2) := by decide +kernel
theorem dX12_feed_19 : decode cX12_feed 19 = .ok (.ireturn, 1) := by decide +kernel
theorem dX12_feed_20 : decode cX12_feed 20 = .ok (.aload_n 0, 1) := by decide +kernel
theorem dX12_feed_21 : decode cX12_feed 21 = .ok (.getfield 146, 3) := by decide +kernel
theorem dX12_feed_24 : decode cX12_feed 24 = .ok (.iload_n 3, 1) := by decide +kernel
theorem dX12_feed_25 : decode cX12_feed 25 = .ok (.iadd, 1) := by decide +kernel
theorem dX12_feed_26 : decode cX12_feed 26 = .ok (.sipush 500, 3) := by decide +kernel
theorem dX12_feed_29 : decode cX12_feed 29 = .ok (.if_icmp .le 6, 3) := by decide +kernel
theorem dX12_feed_32 : decode cX12_feed 32 = .ok (.ldc 149, 2) := by decide +kernel
theorem dX12_feed_34 : decode cX12_feed 34 = .ok (.ireturn, 1) := by decide +kernel
theorem dX12_feed_35 : decode cX12_feed 35 = .ok (.iload_n 3, 1) := by decide +kernel
theorem dX12_feed_36 : decode cX12_feed 36 = .ok (.iconst 1, 1) := by decide +kernel
theorem dX12_feed_37 : decode cX12_feed 37 = .ok (.isub, 1) := by decide +kernel
theorem dX12_feed_38 : decode cX12_feed 38 = .ok (.istore 4, 2) := by decide +kernel
theorem dX12_feed_40 : decode cX12_feed 40 = .ok (.iload 4, 2) := by decide +kernel
theorem dX12_feed_42 : decode cX12_feed 42 = .ok (.ifCond .lt 40, 3) := by decide +kernel
theorem dX12_feed_45 : decode cX12_feed 45 = .ok (.aload_n 0, 1) := by decide +kernel
theorem dX12_feed_46 : decode cX12_feed 46 = .ok (.getfield 71, 3) := by decide +kernel
theorem dX12_feed_49 : decode cX12_feed 49 = .ok (.aload_n 0, 1) := by decide +kernel
theorem dX12_feed_50 : decode cX12_feed 50 = .ok (.getfield 146, 3) := by decide +kernel
theorem dX12_feed_53 : decode cX12_feed 53 = .ok (.lload_n 1, 1) := by decide +kernel
theorem dX12_feed_54 : decode cX12_feed 54 = .ok (.bipush 8, 2) := by decide +kernel
theorem dX12_feed_56 : decode cX12_feed 56 = .ok (.iload 4, 2) := by decide +kernel
theorem dX12_feed_58 : decode cX12_feed 58 = .ok (.imul, 1) := by decide +kernel
theorem dX12_feed_59 : decode cX12_feed 59 = .ok (.lshr, 1) := by decide +kernel
theorem dX12_feed_60 : decode cX12_feed 60 = .ok (.ldc2_w 150, 3) := by decide +kernel
theorem dX12_feed_63 : decode cX12_feed 63 = .ok (.land, 1) := by decide +kernel
theorem dX12_feed_64 : decode cX12_feed 64 = .ok (.l2i, 1) := by decide +kernel
theorem dX12_feed_65 : decode cX12_feed 65 = .ok (.iastore, 1) := by decide +kernel
theorem dX12_feed_66 : decode cX12_feed 66 = .ok (.aload_n 0, 1) := by decide +kernel
theorem dX12_feed_67 : decode cX12_feed 67 = .ok (.dup, 1) := by decide +kernel
theorem dX12_feed_68 : decode cX12_feed 68 = .ok (.getfield 146, 3) := by decide +kernel
theorem dX12_feed_71 : decode cX12_feed 71 = .ok (.iconst 1, 1) := by decide +kernel
theorem dX12_feed_72 : decode cX12_feed 72 = .ok (.iadd, 1) := by decide +kernel
theorem dX12_feed_73 : decode cX12_feed 73 = .ok (.putfield 146, 3) := by decide +kernel
theorem dX12_feed_76 : decode cX12_feed 76 = .ok (.iinc 4 (-1), 3) := by decide +kernel
theorem dX12_feed_79 : decode cX12_feed 79 = .ok (.goto (-39), 3) := by decide +kernel
theorem dX12_feed_82 : decode cX12_feed 82 = .ok (.aload_n 0, 1) := by decide +kernel
theorem dX12_feed_83 : decode cX12_feed 83 = .ok (.getfield 146, 3) := by decide +kernel
theorem dX12_feed_86 : decode cX12_feed 86 = .ok (.ireturn, 1) := by decide +kernel
theorem dX12_byteAt_0 : decode cX12_byteAt 0 = .ok (.iload_n 1, 1) := by decide +kernel
theorem dX12_byteAt_1 : decode cX12_byteAt 1 = .ok (.aload_n 0, 1) := by decide +kernel
theorem dX12_byteAt_2 : decode cX12_byteAt 2 = .ok (.getfield 152, 3) := by decide +kernel
theorem dX12_byteAt_5 : decode cX12_byteAt 5 = .ok (.if_icmp .ge 12, 3) := by decide +kernel
theorem dX12_byteAt_8 : decode cX12_byteAt 8 = .ok (.aload_n 0, 1) := by decide +kernel
theorem dX12_byteAt_9 : decode cX12_byteAt 9 = .ok (.getfield 71, 3) := by decide +kernel
theorem dX12_byteAt_12 : decode cX12_byteAt 12 = .ok (.iload_n 1, 1) := by decide +kernel
theorem dX12_byteAt_13 : decode cX12_byteAt 13 = .ok (.iaload, 1) := by decide +kernel
theorem dX12_byteAt_14 : decode cX12_byteAt 14 = .ok (.goto 5, 3) := by decide +kernel
theorem dX12_byteAt_17 : decode cX12_byteAt 17 = .ok (.ldc 131, 2) := by decide +kernel
theorem dX12_byteAt_19 : decode cX12_byteAt 19 = .ok (.ireturn, 1) := by decide +kernel
theorem dX12_isLetter_0 : decode cX12_isLetter 0 = .ok (.iload_n 0, 1) := by decide +kernel
theorem dX12_isLetter_1 : decode cX12_isLetter 1 = .ok (.bipush 97, 2) := by decide +kernel
theorem dX12_isLetter_3 : decode cX12_isLetter 3 = .ok (.if_icmp .lt 13, 3) := by decide +kernel
theorem dX12_isLetter_6 : decode cX12_isLetter 6 = .ok (.iload_n 0, 1) := by decide +kernel
theorem dX12_isLetter_7 : decode cX12_isLetter 7 = .ok (.bipush 122, 2) := by decide +kernel
theorem dX12_isLetter_9 : decode cX12_isLetter 9 = .ok (.if_icmp .gt 7, 3) := by decide +kernel
theorem dX12_isLetter_12 : decode cX12_isLetter 12 = .ok (.iconst 1, 1) := by decide +kernel
theorem dX12_isLetter_13 : decode cX12_isLetter 13 = .ok (.goto 4, 3) := by decide +kernel
theorem dX12_isLetter_16 : decode cX12_isLetter 16 = .ok (.iconst 0, 1) := by decide +kernel
theorem dX12_isLetter_17 : decode cX12_isLetter 17 = .ok (.ireturn, 1) := by decide +kernel
theorem dX12_isFigure_0 : decode cX12_isFigure 0 = .ok (.iload_n 0, 1) := by decide +kernel
theorem dX12_isFigure_1 : decode cX12_isFigure 1 = .ok (.bipush 48, 2) := by decide +kernel
theorem dX12_isFigure_3 : decode cX12_isFigure 3 = .ok (.if_icmp .lt 13, 3) := by decide +kernel
theorem dX12_isFigure_6 : decode cX12_isFigure 6 = .ok (.iload_n 0, 1) := by decide +kernel
theorem dX12_isFigure_7 : decode cX12_isFigure 7 = .ok (.bipush 57, 2) := by decide +kernel
theorem dX12_isFigure_9 : decode cX12_isFigure 9 = .ok (.if_icmp .gt 7, 3) := by decide +kernel
theorem dX12_isFigure_12 : decode cX12_isFigure 12 = .ok (.iconst 1, 1) := by decide +kernel
theorem dX12_isFigure_13 : decode cX12_isFigure 13 = .ok (.goto 4, 3) := by decide +kernel
theorem dX12_isFigure_16 : decode cX12_isFigure 16 = .ok (.iconst 0, 1) := by decide +kernel
theorem dX12_isFigure_17 : decode cX12_isFigure 17 = .ok (.ireturn, 1) := by decide +kernel
theorem dX12_step_0 : decode cX12_step 0 = .ok (.aload_n 0, 1) := by decide +kernel
theorem dX12_step_1 : decode cX12_step 1 = .ok (.aload_n 0, 1) := by decide +kernel
theorem dX12_step_2 : decode cX12_step 2 = .ok (.getfield 155, 3) := by decide +kernel
theorem dX12_step_5 : decode cX12_step 5 = .ok (.invokevirtual 158, 3) := by decide +kernel
theorem dX12_step_8 : decode cX12_step 8 = .ok (.bipush 32, 2) := by decide +kernel
theorem dX12_step_10 : decode cX12_step 10 = .ok (.if_icmp .eq 16, 3) := by decide +kernel
theorem dX12_step_13 : decode cX12_step 13 = .ok (.aload_n 0, 1) := by decide +kernel
theorem dX12_step_14 : decode cX12_step 14 = .ok (.aload_n 0, 1) := by decide +kernel
theorem dX12_step_15 : decode cX12_step 15 = .ok (.getfield 155, 3) := by decide +kernel
theorem dX12_step_18 : decode cX12_step 18 = .ok (.invokevirtual 158, 3) := by decide +kernel
theorem dX12_step_21 : decode cX12_step 21 = .ok (.bipush 10, 2) := by decide +kernel
theorem dX12_step_23 : decode cX12_step 23 = .ok (.if_icmp .ne 16, 3) := by decide +kernel
theorem dX12_step_26 : decode cX12_step 26 = .ok (.aload_n 0, 1) := by decide +kernel
theorem dX12_step_27 : decode cX12_step 27 = .ok (.dup, 1) := by decide +kernel
theorem dX12_step_28 : decode cX12_step 28 = .ok (.getfield 155, 3) := by decide +kernel
theorem dX12_step_31 : decode cX12_step 31 = .ok (.iconst 1, 1) := by decide +kernel
theorem dX12_step_32 : decode cX12_step 32 = .ok (.iadd, 1) := by decide +kernel
theorem dX12_step_33 : decode cX12_step 33 = .ok (.putfield 155, 3) := by decide +kernel
theorem dX12_step_36 : decode cX12_step 36 = .ok (.goto (-36), 3) := by decide +kernel
theorem dX12_step_39 : decode cX12_step 39 = .ok (.aload_n 0, 1) := by decide +kernel
theorem dX12_step_40 : decode cX12_step 40 = .ok (.aload_n 0, 1) := by decide +kernel
theorem dX12_step_41 : decode cX12_step 41 = .ok (.getfield 155, 3) := by decide +kernel
theorem dX12_step_44 : decode cX12_step 44 = .ok (.putfield 161, 3) := by decide +kernel
theorem dX12_step_47 : decode cX12_step 47 = .ok (.aload_n 0, 1) := by decide +kernel
theorem dX12_step_48 : decode cX12_step 48 = .ok (.aload_n 0, 1) := by decide +kernel
theorem dX12_step_49 : decode cX12_step 49 = .ok (.getfield 155, 3) := by decide +kernel
theorem dX12_step_52 : decode cX12_step 52 = .ok (.invokevirtual 158, 3) := by decide +kernel
theorem dX12_step_55 : decode cX12_step 55 = .ok (.istore_n 1, 1) := by decide +kernel
theorem dX12_step_56 : decode cX12_step 56 = .ok (.iload_n 1, 1) := by decide +kernel
theorem dX12_step_57 : decode cX12_step 57 = .ok (.ldc 131, 2) := by decide +kernel
theorem dX12_step_59 : decode cX12_step 59 = .ok (.if_icmp .ne 11, 3) := by decide +kernel
theorem dX12_step_62 : decode cX12_step 62 = .ok (.aload_n 0, 1) := by decide +kernel
theorem dX12_step_63 : decode cX12_step 63 = .ok (.iconst 1, 1) := by decide +kernel
theorem dX12_step_64 : decode cX12_step 64 = .ok (.putfield 164, 3) := by decide +kernel
theorem dX12_step_67 : decode cX12_step 67 = .ok (.goto 153, 3) := by decide +kernel
theorem dX12_step_70 : decode cX12_step 70 = .ok (.iload_n 1, 1) := by decide +kernel
theorem dX12_step_71 : decode cX12_step 71 = .ok (.invokestatic 167, 3) := by decide +kernel
theorem dX12_step_74 : decode cX12_step 74 = .ok (.ifCond .eq 56, 3) := by decide +kernel
theorem dX12_step_77 : decode cX12_step 77 = .ok (.aload_n 0, 1) := by decide +kernel
theorem dX12_step_78 : decode cX12_step 78 = .ok (.aload_n 0, 1) := by decide +kernel
theorem dX12_step_79 : decode cX12_step 79 = .ok (.getfield 155, 3) := by decide +kernel
theorem dX12_step_82 : decode cX12_step 82 = .ok (.invokevirtual 158, 3) := by decide +kernel
theorem dX12_step_85 : decode cX12_step 85 = .ok (.invokestatic 167, 3) := by decide +kernel
theorem dX12_step_88 : decode cX12_step 88 = .ok (.ifCond .eq 16, 3) := by decide +kernel
theorem dX12_step_91 : decode cX12_step 91 = .ok (.aload_n 0, 1) := by decide +kernel
theorem dX12_step_92 : decode cX12_step 92 = .ok (.dup, 1) := by decide +kernel
theorem dX12_step_93 : decode cX12_step 93 = .ok (.getfield 155, 3) := by decide +kernel
theorem dX12_step_96 : decode cX12_step 96 = .ok (.iconst 1, 1) := by decide +kernel
theorem dX12_step_97 : decode cX12_step 97 = .ok (.iadd, 1) := by decide +kernel
theorem dX12_step_98 : decode cX12_step 98 = .ok (.putfield 155, 3) := by decide +kernel
theorem dX12_step_101 : decode cX12_step 101 = .ok (.goto (-24), 3) := by decide +kernel
theorem dX12_step_104 : decode cX12_step 104 = .ok (.aload_n 0, 1) := by decide +kernel
theorem dX12_step_105 : decode cX12_step 105 = .ok (.aload_n 0, 1) := by decide +kernel
theorem dX12_step_106 : decode cX12_step 106 = .ok (.getfield 155, 3) := by decide +kernel
theorem dX12_step_109 : decode cX12_step 109 = .ok (.aload_n 0, 1) := by decide +kernel
theorem dX12_step_110 : decode cX12_step 110 = .ok (.getfield 161, 3) := by decide +kernel
theorem dX12_step_113 : decode cX12_step 113 = .ok (.isub, 1) := by decide +kernel
theorem dX12_step_114 : decode cX12_step 114 = .ok (.bipush 6, 2) := by decide +kernel
theorem dX12_step_116 : decode cX12_step 116 = .ok (.if_icmp .le 7, 3) := by decide +kernel
theorem dX12_step_119 : decode cX12_step 119 = .ok (.iconst 0, 1) := by decide +kernel
theorem dX12_step_120 : decode cX12_step 120 = .ok (.goto 4, 3) := by decide +kernel
theorem dX12_step_123 : decode cX12_step 123 = .ok (.iconst 2, 1) := by decide +kernel
theorem dX12_step_124 : decode cX12_step 124 = .ok (.putfield 164, 3) := by decide +kernel
theorem dX12_step_127 : decode cX12_step 127 = .ok (.goto 93, 3) := by decide +kernel
theorem dX12_step_130 : decode cX12_step 130 = .ok (.iload_n 1, 1) := by decide +kernel
theorem dX12_step_131 : decode cX12_step 131 = .ok (.invokestatic 170, 3) := by decide +kernel
theorem dX12_step_134 : decode cX12_step 134 = .ok (.ifCond .eq 55, 3) := by decide +kernel
theorem dX12_step_137 : decode cX12_step 137 = .ok (.aload_n 0, 1) := by decide +kernel
theorem dX12_step_138 : decode cX12_step 138 = .ok (.aload_n 0, 1) := by decide +kernel
theorem dX12_step_139 : decode cX12_step 139 = .ok (.getfield 155, 3) := by decide +kernel
theorem dX12_step_142 : decode cX12_step 142 = .ok (.invokevirtual 158, 3) := by decide +kernel
theorem dX12_step_145 : decode cX12_step 145 = .ok (.invokestatic 170, 3) := by decide +kernel
theorem dX12_step_148 : decode cX12_step 148 = .ok (.ifCond .eq 16, 3) := by decide +kernel
theorem dX12_step_151 : decode cX12_step 151 = .ok (.aload_n 0, 1) := by decide +kernel
theorem dX12_step_152 : decode cX12_step 152 = .ok (.dup, 1) := by decide +kernel
theorem dX12_step_153 : decode cX12_step 153 = .ok (.getfield 155, 3) := by decide +kernel
theorem dX12_step_156 : decode cX12_step 156 = .ok (.iconst 1, 1) := by decide +kernel
theorem dX12_step_157 : decode cX12_step 157 = .ok (.iadd, 1) := by decide +kernel
theorem dX12_step_158 : decode cX12_step 158 = .ok (.putfield 155, 3) := by decide +kernel
theorem dX12_step_161 : decode cX12_step 161 = .ok (.goto (-24), 3) := by decide +kernel
theorem dX12_step_164 : decode cX12_step 164 = .ok (.aload_n 0, 1) := by decide +kernel
theorem dX12_step_165 : decode cX12_step 165 = .ok (.aload_n 0, 1) := by decide +kernel
theorem dX12_step_166 : decode cX12_step 166 = .ok (.getfield 155, 3) := by decide +kernel
theorem dX12_step_169 : decode cX12_step 169 = .ok (.aload_n 0, 1) := by decide +kernel
theorem dX12_step_170 : decode cX12_step 170 = .ok (.getfield 161, 3) := by decide +kernel
theorem dX12_step_173 : decode cX12_step 173 = .ok (.isub, 1) := by decide +kernel
theorem dX12_step_174 : decode cX12_step 174 = .ok (.iconst 3, 1) := by decide +kernel
theorem dX12_step_175 : decode cX12_step 175 = .ok (.if_icmp .le 7, 3) := by decide +kernel
theorem dX12_step_178 : decode cX12_step 178 = .ok (.iconst 0, 1) := by decide +kernel
theorem dX12_step_179 : decode cX12_step 179 = .ok (.goto 4, 3) := by decide +kernel
theorem dX12_step_182 : decode cX12_step 182 = .ok (.iconst 3, 1) := by decide +kernel
theorem dX12_step_183 : decode cX12_step 183 = .ok (.putfield 164, 3) := by decide +kernel
theorem dX12_step_186 : decode cX12_step 186 = .ok (.goto 34, 3) := by decide +kernel
theorem dX12_step_189 : decode cX12_step 189 = .ok (.aload_n 0, 1) := by decide +kernel
theorem dX12_step_190 : decode cX12_step 190 = .ok (.dup, 1) := by decide +kernel
theorem dX12_step_191 : decode cX12_step 191 = .ok (.getfield 155, 3) := by decide +kernel
theorem dX12_step_194 : decode cX12_step 194 = .ok (.iconst 1, 1) := by decide +kernel
theorem dX12_step_195 : decode cX12_step 195 = .ok (.iadd, 1) := by decide +kernel
theorem dX12_step_196 : decode cX12_step 196 = .ok (.putfield 155, 3) := by decide +kernel
theorem dX12_step_199 : decode cX12_step 199 = .ok (.aload_n 0, 1) := by decide +kernel
theorem dX12_step_200 : decode cX12_step 200 = .ok (.iload_n 1, 1) := by decide +kernel
theorem dX12_step_201 : decode cX12_step 201 = .ok (.bipush 59, 2) := by decide +kernel
theorem dX12_step_203 : decode cX12_step 203 = .ok (.if_icmp .eq 9, 3) := by decide +kernel
theorem dX12_step_206 : decode cX12_step 206 = .ok (.iload_n 1, 1) := by decide +kernel
theorem dX12_step_207 : decode cX12_step 207 = .ok (.bipush 44, 2) := by decide +kernel
theorem dX12_step_209 : decode cX12_step 209 = .ok (.if_icmp .ne 7, 3) := by decide +kernel
theorem dX12_step_212 : decode cX12_step 212 = .ok (.iconst 4, 1) := by decide +kernel
theorem dX12_step_213 : decode cX12_step 213 = .ok (.goto 4, 3) := by decide +kernel
theorem dX12_step_216 : decode cX12_step 216 = .ok (.iconst 0, 1) := by decide +kernel
theorem dX12_step_217 : decode cX12_step 217 = .ok (.putfield 164, 3) := by decide +kernel
theorem dX12_step_220 : decode cX12_step 220 = .ok (.aload_n 0, 1) := by decide +kernel
theorem dX12_step_221 : decode cX12_step 221 = .ok (.aload_n 0, 1) := by decide +kernel
theorem dX12_step_222 : decode cX12_step 222 = .ok (.getfield 155, 3) := by decide +kernel
theorem dX12_step_225 : decode cX12_step 225 = .ok (.putfield 173, 3) := by decide +kernel
theorem dX12_step_228 : decode cX12_step 228 = .ok (.return_, 1) := by decide +kernel
theorem dX12_bad_0 : decode cX12_bad 0 = .ok (.aload_n 0, 1) := by decide +kernel
theorem dX12_bad_1 : decode cX12_bad 1 = .ok (.getfield 176, 3) := by decide +kernel
theorem dX12_bad_4 : decode cX12_bad 4 = .ok (.ifCond .ne 16, 3) := by decide +kernel
theorem dX12_bad_7 : decode cX12_bad 7 = .ok (.aload_n 0, 1) := by decide +kernel
theorem dX12_bad_8 : decode cX12_bad 8 = .ok (.iload_n 1, 1) := by decide +kernel
theorem dX12_bad_9 : decode cX12_bad 9 = .ok (.putfield 176, 3) := by decide +kernel
theorem dX12_bad_12 : decode cX12_bad 12 = .ok (.aload_n 0, 1) := by decide +kernel
theorem dX12_bad_13 : decode cX12_bad 13 = .ok (.aload_n 0, 1) := by decide +kernel
theorem dX12_bad_14 : decode cX12_bad 14 = .ok (.getfield 161, 3) := by decide +kernel
theorem dX12_bad_17 : decode cX12_bad 17 = .ok (.putfield 179, 3) := by decide +kernel
theorem dX12_bad_20 : decode cX12_bad 20 = .ok (.return_, 1) := by decide +kernel
theorem dX12_need_0 : decode cX12_need 0 = .ok (.iload_n 1, 1) := by decide +kernel
theorem dX12_need_1 : decode cX12_need 1 = .ok (.ifCond .ne 8, 3) := by decide +kernel
theorem dX12_need_4 : decode cX12_need 4 = .ok (.aload_n 0, 1) := by decide +kernel
theorem dX12_need_5 : decode cX12_need 5 = .ok (.iconst 1, 1) := by decide +kernel
theorem dX12_need_6 : decode cX12_need 6 = .ok (.invokevirtual 182, 3) := by decide +kernel
theorem dX12_need_9 : decode cX12_need 9 = .ok (.aload_n 0, 1) := by decide +kernel
theorem dX12_need_10 : decode cX12_need 10 = .ok (.getfield 176, 3) := by decide +kernel
theorem dX12_need_13 : decode cX12_need 13 = .ok (.ifCond .ne 7, 3) := by decide +kernel
theorem dX12_need_16 : decode cX12_need 16 = .ok (.aload_n 0, 1) := by decide +kernel
theorem dX12_need_17 : decode cX12_need 17 = .ok (.invokevirtual 186, 3) := by decide +kernel
theorem dX12_need_20 : decode cX12_need 20 = .ok (.return_, 1) := by decide +kernel
theorem dX12_is_0 : decode cX12_is 0 = .ok (.aload_n 0, 1) := by decide +kernel
theorem dX12_is_1 : decode cX12_is 1 = .ok (.getfield 164, 3) := by decide +kernel
theorem dX12_is_4 : decode cX12_is 4 = .ok (.iconst 4, 1) := by decide +kernel
theorem dX12_is_5 : decode cX12_is 5 = .ok (.if_icmp .ne 20, 3) := by decide +kernel
theorem dX12_is_8 : decode cX12_is 8 = .ok (.aload_n 0, 1) := by decide +kernel
theorem dX12_is_9 : decode cX12_is 9 = .ok (.getfield 71, 3) := by decide +kernel
theorem dX12_is_12 : decode cX12_is 12 = .ok (.aload_n 0, 1) := by decide +kernel
theorem dX12_is_13 : decode cX12_is 13 = .ok (.getfield 161, 3) := by decide +kernel
theorem dX12_is_16 : decode cX12_is 16 = .ok (.iaload, 1) := by decide +kernel
theorem dX12_is_17 : decode cX12_is 17 = .ok (.iload_n 1, 1) := by decide +kernel
theorem dX12_is_18 : decode cX12_is 18 = .ok (.if_icmp .ne 7, 3) := by decide +kernel
theorem dX12_is_21 : decode cX12_is 21 = .ok (.iconst 1, 1) := by decide +kernel
theorem dX12_is_22 : decode cX12_is 22 = .ok (.goto 4, 3) := by decide +kernel
theorem dX12_is_25 : decode cX12_is 25 = .ok (.iconst 0, 1) := by decide +kernel
theorem dX12_is_26 : decode cX12_is 26 = .ok (.ireturn, 1) := by decide +kernel
theorem dX12_word_0 : decode cX12_word 0 = .ok (.lconst 0, 1) := by decide +kernel
theorem dX12_word_1 : decode cX12_word 1 = .ok (.lstore_n 1, 1) := by decide +kernel
theorem dX12_word_2 : decode cX12_word 2 = .ok (.aload_n 0, 1) := by decide +kernel
theorem dX12_word_3 : decode cX12_word 3 = .ok (.getfield 161, 3) := by decide +kernel
theorem dX12_word_6 : decode cX12_word 6 = .ok (.istore_n 3, 1) := by decide +kernel
theorem dX12_word_7 : decode cX12_word 7 = .ok (.iload_n 3, 1) := by decide +kernel
theorem dX12_word_8 : decode cX12_word 8 = .ok (.aload_n 0, 1) := by decide +kernel
theorem dX12_word_9 : decode cX12_word 9 = .ok (.getfield 173, 3) := by decide +kernel
theorem dX12_word_12 : decode cX12_word 12 = .ok (.if_icmp .ge 30, 3) := by decide +kernel
theorem dX12_word_15 : decode cX12_word 15 = .ok (.aload_n 0, 1) := by decide +kernel
theorem dX12_word_16 : decode cX12_word 16 = .ok (.getfield 164, 3) := by decide +kernel
theorem dX12_word_19 : decode cX12_word 19 = .ok (.iconst 2, 1) := by decide +kernel
theorem dX12_word_20 : decode cX12_word 20 = .ok (.if_icmp .ne 22, 3) := by decide +kernel
theorem dX12_word_23 : decode cX12_word 23 = .ok (.lload_n 1, 1) := by decide +kernel
theorem dX12_word_24 : decode cX12_word 24 = .ok (.bipush 8, 2) := by decide +kernel
theorem dX12_word_26 : decode cX12_word 26 = .ok (.lshl, 1) := by decide +kernel
theorem dX12_word_27 : decode cX12_word 27 = .ok (.aload_n 0, 1) := by decide +kernel
theorem dX12_word_28 : decode cX12_word 28 = .ok (.getfield 71, 3) := by decide +kernel
theorem dX12_word_31 : decode cX12_word 31 = .ok (.iload_n 3, 1) := by decide +kernel
theorem dX12_word_32 : decode cX12_word 32 = .ok (.iaload, 1) := by decide +kernel
theorem dX12_word_33 : decode cX12_word 33 = .ok (.i2l, 1) := by decide +kernel
theorem dX12_word_34 : decode cX12_word 34 = .ok (.lor, 1) := by decide +kernel
theorem dX12_word_35 : decode cX12_word 35 = .ok (.lstore_n 1, 1) := by decide +kernel
theorem dX12_word_36 : decode cX12_word 36 = .ok (.iinc 3 1, 3) := by decide +kernel
theorem dX12_word_39 : decode cX12_word 39 = .ok (.goto (-32), 3) := by decide +kernel
theorem dX12_word_42 : decode cX12_word 42 = .ok (.lload_n 1, 1) := by decide +kernel
theorem dX12_word_43 : decode cX12_word 43 = .ok (.lreturn, 1) := by decide +kernel
theorem dX12_numberIn_0 : decode cX12_numberIn 0 = .ok (.aload_n 0, 1) := by decide +kernel
theorem dX12_numberIn_1 : decode cX12_numberIn 1 = .ok (.getfield 176, 3) := by decide +kernel
theorem dX12_numberIn_4 : decode cX12_numberIn 4 = .ok (.ifCond .le 5, 3) := by decide +kernel
theorem dX12_numberIn_7 : decode cX12_numberIn 7 = .ok (.iconst 0, 1) := by decide +kernel
theorem dX12_numberIn_8 : decode cX12_numberIn 8 = .ok (.ireturn, 1) := by decide +kernel
theorem dX12_numberIn_9 : decode cX12_numberIn 9 = .ok (.iconst 0, 1) := by decide +kernel
theorem dX12_numberIn_10 : decode cX12_numberIn 10 = .ok (.istore_n 3, 1) := by decide +kernel
theorem dX12_numberIn_11 : decode cX12_numberIn 11 = .ok (.aload_n 0, 1) := by decide +kernel
theorem dX12_numberIn_12 : decode cX12_numberIn 12 = .ok (.getfield 161, 3) := by decide +kernel
theorem dX12_numberIn_15 : decode cX12_numberIn 15 = .ok (.istore 4, 2) := by decide +kernel
theorem dX12_numberIn_17 : decode cX12_numberIn 17 = .ok (.iload 4, 2) := by decide +kernel
theorem dX12_numberIn_19 : decode cX12_numberIn 19 = .ok (.aload_n 0, 1) := by decide +kernel
theorem dX12_numberIn_20 : decode cX12_numberIn 20 = .ok (.getfield 173, 3) := by decide +kernel
theorem dX12_numberIn_23 : decode cX12_numberIn 23 = .ok (.if_icmp .ge 33, 3) := by decide +kernel
theorem dX12_numberIn_26 : decode cX12_numberIn 26 = .ok (.aload_n 0, 1) := by decide +kernel
theorem dX12_numberIn_27 : decode cX12_numberIn 27 = .ok (.getfield 164, 3) := by decide +kernel
theorem dX12_numberIn_30 : decode cX12_numberIn 30 = .ok (.iconst 3, 1) := by decide +kernel
theorem dX12_numberIn_31 : decode cX12_numberIn 31 = .ok (.if_icmp .ne 25, 3) := by decide +kernel
theorem dX12_numberIn_34 : decode cX12_numberIn 34 = .ok (.bipush 10, 2) := by decide +kernel
theorem dX12_numberIn_36 : decode cX12_numberIn 36 = .ok (.iload_n 3, 1) := by decide +kernel
theorem dX12_numberIn_37 : decode cX12_numberIn 37 = .ok (.imul, 1) := by decide +kernel
theorem dX12_numberIn_38 : decode cX12_numberIn 38 = .ok (.aload_n 0, 1) := by decide +kernel
theorem dX12_numberIn_39 : decode cX12_numberIn 39 = .ok (.getfield 71, 3) := by decide +kernel
theorem dX12_numberIn_42 : decode cX12_numberIn 42 = .ok (.iload 4, 2) := by decide +kernel
theorem dX12_numberIn_44 : decode cX12_numberIn 44 = .ok (.iaload, 1) := by decide +kernel
theorem dX12_numberIn_45 : decode cX12_numberIn 45 = .ok (.iadd, 1) := by decide +kernel
theorem dX12_numberIn_46 : decode cX12_numberIn 46 = .ok (.bipush 48, 2) := by decide +kernel
theorem dX12_numberIn_48 : decode cX12_numberIn 48 = .ok (.isub, 1) := by decide +kernel
theorem dX12_numberIn_49 : decode cX12_numberIn 49 = .ok (.istore_n 3, 1) := by decide +kernel
theorem dX12_numberIn_50 : decode cX12_numberIn 50 = .ok (.iinc 4 1, 3) := by decide +kernel
theorem dX12_numberIn_53 : decode cX12_numberIn 53 = .ok (.goto (-36), 3) := by decide +kernel
theorem dX12_numberIn_56 : decode cX12_numberIn 56 = .ok (.aload_n 0, 1) := by decide +kernel
theorem dX12_numberIn_57 : decode cX12_numberIn 57 = .ok (.getfield 164, 3) := by decide +kernel
theorem dX12_numberIn_60 : decode cX12_numberIn 60 = .ok (.iconst 3, 1) := by decide +kernel
theorem dX12_numberIn_61 : decode cX12_numberIn 61 = .ok (.if_icmp .ne 20, 3) := by decide +kernel
theorem dX12_numberIn_64 : decode cX12_numberIn 64 = .ok (.iload_n 3, 1) := by decide +kernel
theorem dX12_numberIn_65 : decode cX12_numberIn 65 = .ok (.i2l, 1) := by decide +kernel
theorem dX12_numberIn_66 : decode cX12_numberIn 66 = .ok (.iload_n 1, 1) := by decide +kernel
theorem dX12_numberIn_67 : decode cX12_numberIn 67 = .ok (.i2l, 1) := by decide +kernel
theorem dX12_numberIn_68 : decode cX12_numberIn 68 = .ok (.iload_n 2, 1) := by decide +kernel
theorem dX12_numberIn_69 : decode cX12_numberIn 69 = .ok (.i2l, 1) := by decide +kernel
theorem dX12_numberIn_70 : decode cX12_numberIn 70 = .ok (.invokestatic 13, 3) := by decide +kernel
theorem dX12_numberIn_73 : decode cX12_numberIn 73 = .ok (.ifCond .ne 8, 3) := by decide +kernel
theorem dX12_numberIn_76 : decode cX12_numberIn 76 = .ok (.aload_n 0, 1) := by decide +kernel
theorem dX12_numberIn_77 : decode cX12_numberIn 77 = .ok (.iconst 2, 1) := by decide +kernel
theorem dX12_numberIn_78 : decode cX12_numberIn 78 = .ok (.invokevirtual 182, 3) := by decide +kernel
theorem dX12_numberIn_81 : decode cX12_numberIn 81 = .ok (.aload_n 0, 1) := by decide +kernel
theorem dX12_numberIn_82 : decode cX12_numberIn 82 = .ok (.aload_n 0, 1) := by decide +kernel
theorem dX12_numberIn_83 : decode cX12_numberIn 83 = .ok (.getfield 164, 3) := by decide +kernel
theorem dX12_numberIn_86 : decode cX12_numberIn 86 = .ok (.iconst 3, 1) := by decide +kernel
theorem dX12_numberIn_87 : decode cX12_numberIn 87 = .ok (.if_icmp .ne 7, 3) := by decide +kernel
theorem dX12_numberIn_90 : decode cX12_numberIn 90 = .ok (.iconst 1, 1) := by decide +kernel
theorem dX12_numberIn_91 : decode cX12_numberIn 91 = .ok (.goto 4, 3) := by decide +kernel
theorem dX12_numberIn_94 : decode cX12_numberIn 94 = .ok (.iconst 0, 1) := by decide +kernel
theorem dX12_numberIn_95 : decode cX12_numberIn 95 = .ok (.invokevirtual 189, 3) := by decide +kernel
theorem dX12_numberIn_98 : decode cX12_numberIn 98 = .ok (.iload_n 3, 1) := by decide +kernel
theorem dX12_numberIn_99 : decode cX12_numberIn 99 = .ok (.ireturn, 1) := by decide +kernel
theorem dX12_readWay_0 : decode cX12_readWay 0 = .ok (.iconst 0, 1) := by decide +kernel
theorem dX12_readWay_1 : decode cX12_readWay 1 = .ok (.istore_n 2, 1) := by decide +kernel
theorem dX12_readWay_2 : decode cX12_readWay 2 = .ok (.iconst 1, 1) := by decide +kernel
theorem dX12_readWay_3 : decode cX12_readWay 3 = .ok (.istore_n 3, 1) := by decide +kernel
theorem dX12_readWay_4 : decode cX12_readWay 4 = .ok (.iload_n 3, 1) := by decide +kernel
theorem dX12_readWay_5 : decode cX12_readWay 5 = .ok (.ifCond .eq 105, 3) := by decide +kernel
theorem dX12_readWay_8 : decode cX12_readWay 8 = .ok (.aload_n 0, 1) := by decide +kernel
theorem dX12_readWay_9 : decode cX12_readWay 9 = .ok (.getfield 176, 3) := by decide +kernel
theorem dX12_readWay_12 : decode cX12_readWay 12 = .ok (.ifCond .ne 98, 3) := by decide +kernel
theorem dX12_readWay_15 : decode cX12_readWay 15 = .ok (.bipush 15, 2) := by decide +kernel
theorem dX12_readWay_17 : decode cX12_readWay 17 = .ok (.aload_n 0, 1) := by decide +kernel
theorem dX12_readWay_18 : decode cX12_readWay 18 = .ok (.getfield 193, 3) := by decide +kernel
theorem dX12_readWay_21 : decode cX12_readWay 21 = .ok (.imul, 1) := by decide +kernel
theorem dX12_readWay_22 : decode cX12_readWay 22 = .ok (.iconst 5, 1) := by decide +kernel
theorem dX12_readWay_23 : decode cX12_readWay 23 = .ok (.iload_n 1, 1) := by decide +kernel
theorem dX12_readWay_24 : decode cX12_readWay 24 = .ok (.imul, 1) := by decide +kernel
theorem dX12_readWay_25 : decode cX12_readWay 25 = .ok (.iadd, 1) := by decide +kernel
theorem dX12_readWay_26 : decode cX12_readWay 26 = .ok (.iload_n 2, 1) := by decide +kernel
theorem dX12_readWay_27 : decode cX12_readWay 27 = .ok (.iadd, 1) := by decide +kernel
theorem dX12_readWay_28 : decode cX12_readWay 28 = .ok (.istore 4, 2) := by decide +kernel
theorem dX12_readWay_30 : decode cX12_readWay 30 = .ok (.aload_n 0, 1) := by decide +kernel
theorem dX12_readWay_31 : decode cX12_readWay 31 = .ok (.getfield 59, 3) := by decide +kernel
theorem dX12_readWay_34 : decode cX12_readWay 34 = .ok (.iload 4, 2) := by decide +kernel
theorem dX12_readWay_36 : decode cX12_readWay 36 = .ok (.aload_n 0, 1) := by decide +kernel
theorem dX12_readWay_37 : decode cX12_readWay 37 = .ok (.iconst 0, 1) := by decide +kernel
theorem dX12_readWay_38 : decode cX12_readWay 38 = .ok (.bipush 7, 2) := by decide +kernel
theorem dX12_readWay_40 : decode cX12_readWay 40 = .ok (.invokevirtual 196, 3) := by decide +kernel
theorem dX12_readWay_43 : decode cX12_readWay 43 = .ok (.iastore, 1) := by decide +kernel
theorem dX12_readWay_44 : decode cX12_readWay 44 = .ok (.aload_n 0, 1) := by decide +kernel
theorem dX12_readWay_45 : decode cX12_readWay 45 = .ok (.getfield 62, 3) := by decide +kernel
theorem dX12_readWay_48 : decode cX12_readWay 48 = .ok (.iload 4, 2) := by decide +kernel
theorem dX12_readWay_50 : decode cX12_readWay 50 = .ok (.aload_n 0, 1) := by decide +kernel
theorem dX12_readWay_51 : decode cX12_readWay 51 = .ok (.iconst 1, 1) := by decide +kernel
theorem dX12_readWay_52 : decode cX12_readWay 52 = .ok (.iconst 4, 1) := by decide +kernel
theorem dX12_readWay_53 : decode cX12_readWay 53 = .ok (.invokevirtual 196, 3) := by decide +kernel
theorem dX12_readWay_56 : decode cX12_readWay 56 = .ok (.iastore, 1) := by decide +kernel
theorem dX12_readWay_57 : decode cX12_readWay 57 = .ok (.iinc 2 1, 3) := by decide +kernel
theorem dX12_readWay_60 : decode cX12_readWay 60 = .ok (.aload_n 0, 1) := by decide +kernel
theorem dX12_readWay_61 : decode cX12_readWay 61 = .ok (.getfield 176, 3) := by decide +kernel
theorem dX12_readWay_64 : decode cX12_readWay 64 = .ok (.ifCond .ne 16, 3) := by decide +kernel
theorem dX12_readWay_67 : decode cX12_readWay 67 = .ok (.aload_n 0, 1) := by decide +kernel
theorem dX12_readWay_68 : decode cX12_readWay 68 = .ok (.bipush 44, 2) := by decide +kernel
theorem dX12_readWay_70 : decode cX12_readWay 70 = .ok (.invokevirtual 199, 3) := by decide +kernel
theorem dX12_readWay_73 : decode cX12_readWay 73 = .ok (.ifCond .eq 7, 3) := by decide +kernel
theorem dX12_readWay_76 : decode cX12_readWay 76 = .ok (.iconst 1, 1) := by decide +kernel
theorem dX12_readWay_77 : decode cX12_readWay 77 = .ok (.goto 4, 3) := by decide +kernel
theorem dX12_readWay_80 : decode cX12_readWay 80 = .ok (.iconst 0, 1) := by decide +kernel
theorem dX12_readWay_81 : decode cX12_readWay 81 = .ok (.istore_n 3, 1) := by decide +kernel
theorem dX12_readWay_82 : decode cX12_readWay 82 = .ok (.iload_n 3, 1) := by decide +kernel
theorem dX12_readWay_83 : decode cX12_readWay 83 = .ok (.ifCond .eq 16, 3) := by decide +kernel
theorem dX12_readWay_86 : decode cX12_readWay 86 = .ok (.iload_n 2, 1) := by decide +kernel
theorem dX12_readWay_87 : decode cX12_readWay 87 = .ok (.iconst 5, 1) := by decide +kernel
theorem dX12_readWay_88 : decode cX12_readWay 88 = .ok (.if_icmp .ne 11, 3) := by decide +kernel
theorem dX12_readWay_91 : decode cX12_readWay 91 = .ok (.aload_n 0, 1) := by decide +kernel
theorem dX12_readWay_92 : decode cX12_readWay 92 = .ok (.iconst 3, 1) := by decide +kernel
theorem dX12_readWay_93 : decode cX12_readWay 93 = .ok (.invokevirtual 182, 3) := by decide +kernel
theorem dX12_readWay_96 : decode cX12_readWay 96 = .ok (.goto 11, 3) := by decide +kernel
theorem dX12_readWay_99 : decode cX12_readWay 99 = .ok (.iload_n 3, 1) := by decide +kernel
theorem dX12_readWay_100 : decode cX12_readWay 100 = .ok (.ifCond .eq 7, 3) := by decide +kernel
theorem dX12_readWay_103 : decode cX12_readWay 103 = .ok (.aload_n 0, 1) := by decide +kernel
theorem dX12_readWay_104 : decode cX12_readWay 104 = .ok (.invokevirtual 186, 3) := by decide +kernel
theorem dX12_readWay_107 : decode cX12_readWay 107 = .ok (.goto (-103), 3) := by decide +kernel
theorem dX12_readWay_110 : decode cX12_readWay 110 = .ok (.return_, 1) := by decide +kernel
theorem dX12_readFlight_0 : decode cX12_readFlight 0 = .ok (.iconst 5, 1) := by decide +kernel
theorem dX12_readFlight_1 : decode cX12_readFlight 1 = .ok (.aload_n 0, 1) := by decide +kernel
theorem dX12_readFlight_2 : decode cX12_readFlight 2 = .ok (.getfield 193, 3) := by decide +kernel
theorem dX12_readFlight_5 : decode cX12_readFlight 5 = .ok (.imul, 1) := by decide +kernel
theorem dX12_readFlight_6 : decode cX12_readFlight 6 = .ok (.istore_n 1, 1) := by decide +kernel
theorem dX12_readFlight_7 : decode cX12_readFlight 7 = .ok (.aload_n 0, 1) := by decide +kernel
theorem dX12_readFlight_8 : decode cX12_readFlight 8 = .ok (.getfield 56, 3) := by decide +kernel
theorem dX12_readFlight_11 : decode cX12_readFlight 11 = .ok (.iload_n 1, 1) := by decide +kernel
theorem dX12_readFlight_12 : decode cX12_readFlight 12 = .ok (.aload_n 0, 1) := by decide +kernel
theorem dX12_readFlight_13 : decode cX12_readFlight 13 = .ok (.iconst 0, 1) := by decide +kernel
theorem dX12_readFlight_14 : decode cX12_readFlight 14 = .ok (.iconst 3, 1) := by decide +kernel
theorem dX12_readFlight_15 : decode cX12_readFlight 15 = .ok (.invokevirtual 196, 3) := by decide +kernel
theorem dX12_readFlight_18 : decode cX12_readFlight 18 = .ok (.iastore, 1) := by decide +kernel
theorem dX12_readFlight_19 : decode cX12_readFlight 19 = .ok (.aload_n 0, 1) := by decide +kernel
theorem dX12_readFlight_20 : decode cX12_readFlight 20 = .ok (.getfield 56, 3) := by decide +kernel
theorem dX12_readFlight_23 : decode cX12_readFlight 23 = .ok (.iload_n 1, 1) := by decide +kernel
theorem dX12_readFlight_24 : decode cX12_readFlight 24 = .ok (.iconst 1, 1) := by decide +kernel
theorem dX12_readFlight_25 : decode cX12_readFlight 25 = .ok (.iadd, 1) := by decide +kernel
theorem dX12_readFlight_26 : decode cX12_readFlight 26 = .ok (.aload_n 0, 1) := by decide +kernel
theorem dX12_readFlight_27 : decode cX12_readFlight 27 = .ok (.iconst 1, 1) := by decide +kernel
theorem dX12_readFlight_28 : decode cX12_readFlight 28 = .ok (.bipush 9, 2) := by decide +kernel
theorem dX12_readFlight_30 : decode cX12_readFlight 30 = .ok (.invokevirtual 196, 3) := by decide +kernel
theorem dX12_readFlight_33 : decode cX12_readFlight 33 = .ok (.iastore, 1) := by decide +kernel
theorem dX12_readFlight_34 : decode cX12_readFlight 34 = .ok (.aload_n 0, 1) := by decide +kernel
theorem dX12_readFlight_35 : decode cX12_readFlight 35 = .ok (.getfield 56, 3) := by decide +kernel
theorem dX12_readFlight_38 : decode cX12_readFlight 38 = .ok (.iload_n 1, 1) := by decide +kernel
theorem dX12_readFlight_39 : decode cX12_readFlight 39 = .ok (.iconst 2, 1) := by decide +kernel
theorem dX12_readFlight_40 : decode cX12_readFlight 40 = .ok (.iadd, 1) := by decide +kernel
theorem dX12_readFlight_41 : decode cX12_readFlight 41 = .ok (.aload_n 0, 1) := by decide +kernel
theorem dX12_readFlight_42 : decode cX12_readFlight 42 = .ok (.iconst 0, 1) := by decide +kernel
theorem dX12_readFlight_43 : decode cX12_readFlight 43 = .ok (.bipush 40, 2) := by decide +kernel
theorem dX12_readFlight_45 : decode cX12_readFlight 45 = .ok (.invokevirtual 196, 3) := by decide +kernel
theorem dX12_readFlight_48 : decode cX12_readFlight 48 = .ok (.iastore, 1) := by decide +kernel
theorem dX12_readFlight_49 : decode cX12_readFlight 49 = .ok (.aload_n 0, 1) := by decide +kernel
theorem dX12_readFlight_50 : decode cX12_readFlight 50 = .ok (.getfield 56, 3) := by decide +kernel
theorem dX12_readFlight_53 : decode cX12_readFlight 53 = .ok (.iload_n 1, 1) := by decide +kernel
theorem dX12_readFlight_54 : decode cX12_readFlight 54 = .ok (.iconst 3, 1) := by decide +kernel
theorem dX12_readFlight_55 : decode cX12_readFlight 55 = .ok (.iadd, 1) := by decide +kernel
theorem dX12_readFlight_56 : decode cX12_readFlight 56 = .ok (.aload_n 0, 1) := by decide +kernel
theorem dX12_readFlight_57 : decode cX12_readFlight 57 = .ok (.iconst 0, 1) := by decide +kernel
theorem dX12_readFlight_58 : decode cX12_readFlight 58 = .ok (.bipush 99, 2) := by decide +kernel
theorem dX12_readFlight_60 : decode cX12_readFlight 60 = .ok (.invokevirtual 196, 3) := by decide +kernel
theorem dX12_readFlight_63 : decode cX12_readFlight 63 = .ok (.iastore, 1) := by decide +kernel
theorem dX12_readFlight_64 : decode cX12_readFlight 64 = .ok (.iconst 0, 1) := by decide +kernel
theorem dX12_readFlight_65 : decode cX12_readFlight 65 = .ok (.istore_n 2, 1) := by decide +kernel
theorem dX12_readFlight_66 : decode cX12_readFlight 66 = .ok (.iload_n 2, 1) := by decide +kernel
theorem dX12_readFlight_67 : decode cX12_readFlight 67 = .ok (.bipush 15, 2) := by decide +kernel
theorem dX12_readFlight_69 : decode cX12_readFlight 69 = .ok (.if_icmp .ge 24, 3) := by decide +kernel
theorem dX12_readFlight_72 : decode cX12_readFlight 72 = .ok (.aload_n 0, 1) := by decide +kernel
theorem dX12_readFlight_73 : decode cX12_readFlight 73 = .ok (.getfield 62, 3) := by decide +kernel
theorem dX12_readFlight_76 : decode cX12_readFlight 76 = .ok (.bipush 15, 2) := by decide +kernel
theorem dX12_readFlight_78 : decode cX12_readFlight 78 = .ok (.aload_n 0, 1) := by decide +kernel
theorem dX12_readFlight_79 : decode cX12_readFlight 79 = .ok (.getfield 193, 3) := by decide +kernel
theorem dX12_readFlight_82 : decode cX12_readFlight 82 = .ok (.imul, 1) := by decide +kernel
theorem dX12_readFlight_83 : decode cX12_readFlight 83 = .ok (.iload_n 2, 1) := by decide +kernel
theorem dX12_readFlight_84 : decode cX12_readFlight 84 = .ok (.iadd, 1) := by decide +kernel
theorem dX12_readFlight_85 : decode cX12_readFlight 85 = .ok (.iconst 0, 1) := by decide +kernel
theorem dX12_readFlight_86 : decode cX12_readFlight 86 = .ok (.iastore, 1) := by decide +kernel
theorem dX12_readFlight_87 : decode cX12_readFlight 87 = .ok (.iinc 2 1, 3) := by decide +kernel
theorem dX12_readFlight_90 : decode cX12_readFlight 90 = .ok (.goto (-24), 3) := by decide +kernel
theorem dX12_readFlight_93 : decode cX12_readFlight 93 = .ok (.iconst 0, 1) := by decide +kernel
theorem dX12_readFlight_94 : decode cX12_readFlight 94 = .ok (.istore_n 2, 1) := by decide +kernel
theorem dX12_readFlight_95 : decode cX12_readFlight 95 = .ok (.aload_n 0, 1) := by decide +kernel
theorem dX12_readFlight_96 : decode cX12_readFlight 96 = .ok (.getfield 176, 3) := by decide +kernel
theorem dX12_readFlight_99 : decode cX12_readFlight 99 = .ok (.ifCond .ne 62, 3) := by decide +kernel
theorem dX12_readFlight_102 : decode cX12_readFlight 102 = .ok (.iload_n 2, 1) := by decide +kernel
theorem dX12_readFlight_103 : decode cX12_readFlight 103 = .ok (.ifCond .eq 14, 3) := by decide +kernel
theorem dX12_readFlight_106 : decode cX12_readFlight 106 = .ok (.aload_n 0, 1) := by decide +kernel
theorem dX12_readFlight_107 : decode cX12_readFlight 107 = .ok (.invokevirtual 202, 3) := by decide +kernel
theorem dX12_readFlight_110 : decode cX12_readFlight 110 = .ok (.ldc2_w 206, 3) := by decide +kernel
theorem dX12_readFlight_113 : decode cX12_readFlight 113 = .ok (.lcmp, 1) := by decide +kernel
theorem dX12_readFlight_114 : decode cX12_readFlight 114 = .ok (.ifCond .ne 47, 3) := by decide +kernel
theorem dX12_readFlight_117 : decode cX12_readFlight 117 = .ok (.iload_n 2, 1) := by decide +kernel
theorem dX12_readFlight_118 : decode cX12_readFlight 118 = .ok (.iconst 3, 1) := by decide +kernel
theorem dX12_readFlight_119 : decode cX12_readFlight 119 = .ok (.if_icmp .ne 11, 3) := by decide +kernel
theorem dX12_readFlight_122 : decode cX12_readFlight 122 = .ok (.aload_n 0, 1) := by decide +kernel
theorem dX12_readFlight_123 : decode cX12_readFlight 123 = .ok (.iconst 3, 1) := by decide +kernel
theorem dX12_readFlight_124 : decode cX12_readFlight 124 = .ok (.invokevirtual 182, 3) := by decide +kernel
theorem dX12_readFlight_127 : decode cX12_readFlight 127 = .ok (.goto (-32), 3) := by decide +kernel
theorem dX12_readFlight_130 : decode cX12_readFlight 130 = .ok (.aload_n 0, 1) := by decide +kernel
theorem dX12_readFlight_131 : decode cX12_readFlight 131 = .ok (.aload_n 0, 1) := by decide +kernel
theorem dX12_readFlight_132 : decode cX12_readFlight 132 = .ok (.invokevirtual 202, 3) := by decide +kernel
theorem dX12_readFlight_135 : decode cX12_readFlight 135 = .ok (.ldc2_w 206, 3) := by decide +kernel
theorem dX12_readFlight_138 : decode cX12_readFlight 138 = .ok (.lcmp, 1) := by decide +kernel
theorem dX12_readFlight_139 : decode cX12_readFlight 139 = .ok (.ifCond .ne 7, 3) := by decide +kernel
theorem dX12_readFlight_142 : decode cX12_readFlight 142 = .ok (.iconst 1, 1) := by decide +kernel
theorem dX12_readFlight_143 : decode cX12_readFlight 143 = .ok (.goto 4, 3) := by decide +kernel
theorem dX12_readFlight_146 : decode cX12_readFlight 146 = .ok (.iconst 0, 1) := by decide +kernel
theorem dX12_readFlight_147 : decode cX12_readFlight 147 = .ok (.invokevirtual 189, 3) := by decide +kernel
theorem dX12_readFlight_150 : decode cX12_readFlight 150 = .ok (.aload_n 0, 1) := by decide +kernel
theorem dX12_readFlight_151 : decode cX12_readFlight 151 = .ok (.iload_n 2, 1) := by decide +kernel
theorem dX12_readFlight_152 : decode cX12_readFlight 152 = .ok (.invokevirtual 208, 3) := by decide +kernel
theorem dX12_readFlight_155 : decode cX12_readFlight 155 = .ok (.iinc 2 1, 3) := by decide +kernel
theorem dX12_readFlight_158 : decode cX12_readFlight 158 = .ok (.goto (-63), 3) := by decide +kernel
theorem dX12_readFlight_161 : decode cX12_readFlight 161 = .ok (.aload_n 0, 1) := by decide +kernel
theorem dX12_readFlight_162 : decode cX12_readFlight 162 = .ok (.getfield 56, 3) := by decide +kernel
theorem dX12_readFlight_165 : decode cX12_readFlight 165 = .ok (.iload_n 1, 1) := by decide +kernel
theorem dX12_readFlight_166 : decode cX12_readFlight 166 = .ok (.iconst 4, 1) := by decide +kernel
theorem dX12_readFlight_167 : decode cX12_readFlight 167 = .ok (.iadd, 1) := by decide +kernel
theorem dX12_readFlight_168 : decode cX12_readFlight 168 = .ok (.iload_n 2, 1) := by decide +kernel
theorem dX12_readFlight_169 : decode cX12_readFlight 169 = .ok (.iastore, 1) := by decide +kernel
theorem dX12_readFlight_170 : decode cX12_readFlight 170 = .ok (.aload_n 0, 1) := by decide +kernel
theorem dX12_readFlight_171 : decode cX12_readFlight 171 = .ok (.getfield 65, 3) := by decide +kernel
theorem dX12_readFlight_174 : decode cX12_readFlight 174 = .ok (.aload_n 0, 1) := by decide +kernel
theorem dX12_readFlight_175 : decode cX12_readFlight 175 = .ok (.getfield 193, 3) := by decide +kernel
theorem dX12_readFlight_178 : decode cX12_readFlight 178 = .ok (.iconst 0, 1) := by decide +kernel
theorem dX12_readFlight_179 : decode cX12_readFlight 179 = .ok (.iastore, 1) := by decide +kernel
theorem dX12_readFlight_180 : decode cX12_readFlight 180 = .ok (.aload_n 0, 1) := by decide +kernel
theorem dX12_readFlight_181 : decode cX12_readFlight 181 = .ok (.getfield 68, 3) := by decide +kernel
theorem dX12_readFlight_184 : decode cX12_readFlight 184 = .ok (.aload_n 0, 1) := by decide +kernel
theorem dX12_readFlight_185 : decode cX12_readFlight 185 = .ok (.getfield 193, 3) := by decide +kernel
theorem dX12_readFlight_188 : decode cX12_readFlight 188 = .ok (.iconst 0, 1) := by decide +kernel
theorem dX12_readFlight_189 : decode cX12_readFlight 189 = .ok (.iastore, 1) := by decide +kernel
theorem dX12_readFlight_190 : decode cX12_readFlight 190 = .ok (.aload_n 0, 1) := by decide +kernel
theorem dX12_readFlight_191 : decode cX12_readFlight 191 = .ok (.dup, 1) := by decide +kernel
theorem dX12_readFlight_192 : decode cX12_readFlight 192 = .ok (.getfield 193, 3) := by decide +kernel
theorem dX12_readFlight_195 : decode cX12_readFlight 195 = .ok (.iconst 1, 1) := by decide +kernel
theorem dX12_readFlight_196 : decode cX12_readFlight 196 = .ok (.iadd, 1) := by decide +kernel
theorem dX12_readFlight_197 : decode cX12_readFlight 197 = .ok (.putfield 193, 3) := by decide +kernel
theorem dX12_readFlight_200 : decode cX12_readFlight 200 = .ok (.return_, 1) := by decide +kernel
theorem dX12_readStorm_0 : decode cX12_readStorm 0 = .ok (.iconst 5, 1) := by decide +kernel
theorem dX12_readStorm_1 : decode cX12_readStorm 1 = .ok (.aload_n 0, 1) := by decide +kernel
theorem dX12_readStorm_2 : decode cX12_readStorm 2 = .ok (.getfield 211, 3) := by decide +kernel
theorem dX12_readStorm_5 : decode cX12_readStorm 5 = .ok (.imul, 1) := by decide +kernel
theorem dX12_readStorm_6 : decode cX12_readStorm 6 = .ok (.istore_n 1, 1) := by decide +kernel
theorem dX12_readStorm_7 : decode cX12_readStorm 7 = .ok (.aload_n 0, 1) := by decide +kernel
theorem dX12_readStorm_8 : decode cX12_readStorm 8 = .ok (.getfield 53, 3) := by decide +kernel
theorem dX12_readStorm_11 : decode cX12_readStorm 11 = .ok (.iload_n 1, 1) := by decide +kernel
theorem dX12_readStorm_12 : decode cX12_readStorm 12 = .ok (.aload_n 0, 1) := by decide +kernel
theorem dX12_readStorm_13 : decode cX12_readStorm 13 = .ok (.iconst 1, 1) := by decide +kernel
theorem dX12_readStorm_14 : decode cX12_readStorm 14 = .ok (.iconst 3, 1) := by decide +kernel
theorem dX12_readStorm_15 : decode cX12_readStorm 15 = .ok (.invokevirtual 196, 3) := by decide +kernel
theorem dX12_readStorm_18 : decode cX12_readStorm 18 = .ok (.iastore, 1) := by decide +kernel
theorem dX12_readStorm_19 : decode cX12_readStorm 19 = .ok (.aload_n 0, 1) := by decide +kernel
theorem dX12_readStorm_20 : decode cX12_readStorm 20 = .ok (.getfield 53, 3) := by decide +kernel
theorem dX12_readStorm_23 : decode cX12_readStorm 23 = .ok (.iload_n 1, 1) := by decide +kernel
theorem dX12_readStorm_24 : decode cX12_readStorm 24 = .ok (.iconst 1, 1) := by decide +kernel
theorem dX12_readStorm_25 : decode cX12_readStorm 25 = .ok (.iadd, 1) := by decide +kernel
theorem dX12_readStorm_26 : decode cX12_readStorm 26 = .ok (.aload_n 0, 1) := by decide +kernel
theorem dX12_readStorm_27 : decode cX12_readStorm 27 = .ok (.iconst 0, 1) := by decide +kernel
theorem dX12_readStorm_28 : decode cX12_readStorm 28 = .ok (.bipush 7, 2) := by decide +kernel
theorem dX12_readStorm_30 : decode cX12_readStorm 30 = .ok (.invokevirtual 196, 3) := by decide +kernel
theorem dX12_readStorm_33 : decode cX12_readStorm 33 = .ok (.iastore, 1) := by decide +kernel
theorem dX12_readStorm_34 : decode cX12_readStorm 34 = .ok (.aload_n 0, 1) := by decide +kernel
theorem dX12_readStorm_35 : decode cX12_readStorm 35 = .ok (.getfield 53, 3) := by decide +kernel
theorem dX12_readStorm_38 : decode cX12_readStorm 38 = .ok (.iload_n 1, 1) := by decide +kernel
theorem dX12_readStorm_39 : decode cX12_readStorm 39 = .ok (.iconst 2, 1) := by decide +kernel
theorem dX12_readStorm_40 : decode cX12_readStorm 40 = .ok (.iadd, 1) := by decide +kernel
theorem dX12_readStorm_41 : decode cX12_readStorm 41 = .ok (.aload_n 0, 1) := by decide +kernel
theorem dX12_readStorm_42 : decode cX12_readStorm 42 = .ok (.iconst 0, 1) := by decide +kernel
theorem dX12_readStorm_43 : decode cX12_readStorm 43 = .ok (.bipush 47, 2) := by decide +kernel
theorem dX12_readStorm_45 : decode cX12_readStorm 45 = .ok (.invokevirtual 196, 3) := by decide +kernel
theorem dX12_readStorm_48 : decode cX12_readStorm 48 = .ok (.iastore, 1) := by decide +kernel
theorem dX12_readStorm_49 : decode cX12_readStorm 49 = .ok (.aload_n 0, 1) := by decide +kernel
theorem dX12_readStorm_50 : decode cX12_readStorm 50 = .ok (.getfield 53, 3) := by decide +kernel
theorem dX12_readStorm_53 : decode cX12_readStorm 53 = .ok (.iload_n 1, 1) := by decide +kernel
theorem dX12_readStorm_54 : decode cX12_readStorm 54 = .ok (.iconst 3, 1) := by decide +kernel
theorem dX12_readStorm_55 : decode cX12_readStorm 55 = .ok (.iadd, 1) := by decide +kernel
theorem dX12_readStorm_56 : decode cX12_readStorm 56 = .ok (.aload_n 0, 1) := by decide +kernel
theorem dX12_readStorm_57 : decode cX12_readStorm 57 = .ok (.aload_n 0, 1) := by decide +kernel
theorem dX12_readStorm_58 : decode cX12_readStorm 58 = .ok (.getfield 53, 3) := by decide +kernel
theorem dX12_readStorm_61 : decode cX12_readStorm 61 = .ok (.iload_n 1, 1) := by decide +kernel
theorem dX12_readStorm_62 : decode cX12_readStorm 62 = .ok (.iconst 2, 1) := by decide +kernel
theorem dX12_readStorm_63 : decode cX12_readStorm 63 = .ok (.iadd, 1) := by decide +kernel
theorem dX12_readStorm_64 : decode cX12_readStorm 64 = .ok (.iaload, 1) := by decide +kernel
theorem dX12_readStorm_65 : decode cX12_readStorm 65 = .ok (.iconst 1, 1) := by decide +kernel
theorem dX12_readStorm_66 : decode cX12_readStorm 66 = .ok (.iadd, 1) := by decide +kernel
theorem dX12_readStorm_67 : decode cX12_readStorm 67 = .ok (.bipush 48, 2) := by decide +kernel
theorem dX12_readStorm_69 : decode cX12_readStorm 69 = .ok (.invokevirtual 196, 3) := by decide +kernel
theorem dX12_readStorm_72 : decode cX12_readStorm 72 = .ok (.iastore, 1) := by decide +kernel
theorem dX12_readStorm_73 : decode cX12_readStorm 73 = .ok (.aload_n 0, 1) := by decide +kernel
theorem dX12_readStorm_74 : decode cX12_readStorm 74 = .ok (.getfield 53, 3) := by decide +kernel
theorem dX12_readStorm_77 : decode cX12_readStorm 77 = .ok (.iload_n 1, 1) := by decide +kernel
theorem dX12_readStorm_78 : decode cX12_readStorm 78 = .ok (.iconst 4, 1) := by decide +kernel
theorem dX12_readStorm_79 : decode cX12_readStorm 79 = .ok (.iadd, 1) := by decide +kernel
theorem dX12_readStorm_80 : decode cX12_readStorm 80 = .ok (.aload_n 0, 1) := by decide +kernel
theorem dX12_readStorm_81 : decode cX12_readStorm 81 = .ok (.iconst 0, 1) := by decide +kernel
theorem dX12_readStorm_82 : decode cX12_readStorm 82 = .ok (.bipush 99, 2) := by decide +kernel
theorem dX12_readStorm_84 : decode cX12_readStorm 84 = .ok (.invokevirtual 196, 3) := by decide +kernel
theorem dX12_readStorm_87 : decode cX12_readStorm 87 = .ok (.iastore, 1) := by decide +kernel
theorem dX12_readStorm_88 : decode cX12_readStorm 88 = .ok (.aload_n 0, 1) := by decide +kernel
theorem dX12_readStorm_89 : decode cX12_readStorm 89 = .ok (.dup, 1) := by decide +kernel
theorem dX12_readStorm_90 : decode cX12_readStorm 90 = .ok (.getfield 211, 3) := by decide +kernel
theorem dX12_readStorm_93 : decode cX12_readStorm 93 = .ok (.iconst 1, 1) := by decide +kernel
theorem dX12_readStorm_94 : decode cX12_readStorm 94 = .ok (.iadd, 1) := by decide +kernel
theorem dX12_readStorm_95 : decode cX12_readStorm 95 = .ok (.putfield 211, 3) := by decide +kernel
theorem dX12_readStorm_98 : decode cX12_readStorm 98 = .ok (.return_, 1) := by decide +kernel
theorem dX12_read_0 : decode cX12_read 0 = .ok (.aload_n 0, 1) := by decide +kernel
theorem dX12_read_1 : decode cX12_read 1 = .ok (.iconst 0, 1) := by decide +kernel
theorem dX12_read_2 : decode cX12_read 2 = .ok (.putfield 1, 3) := by decide +kernel
theorem dX12_read_5 : decode cX12_read 5 = .ok (.aload_n 0, 1) := by decide +kernel
theorem dX12_read_6 : decode cX12_read 6 = .ok (.aload_n 0, 1) := by decide +kernel
theorem dX12_read_7 : decode cX12_read 7 = .ok (.getfield 146, 3) := by decide +kernel
theorem dX12_read_10 : decode cX12_read 10 = .ok (.putfield 152, 3) := by decide +kernel
theorem dX12_read_13 : decode cX12_read 13 = .ok (.aload_n 0, 1) := by decide +kernel
theorem dX12_read_14 : decode cX12_read 14 = .ok (.iconst 0, 1) := by decide +kernel
theorem dX12_read_15 : decode cX12_read 15 = .ok (.putfield 146, 3) := by decide +kernel
theorem dX12_read_18 : decode cX12_read 18 = .ok (.aload_n 0, 1) := by decide +kernel
theorem dX12_read_19 : decode cX12_read 19 = .ok (.iconst 0, 1) := by decide +kernel
theorem dX12_read_20 : decode cX12_read 20 = .ok (.putfield 155, 3) := by decide +kernel
theorem dX12_read_23 : decode cX12_read 23 = .ok (.aload_n 0, 1) := by decide +kernel
theorem dX12_read_24 : decode cX12_read 24 = .ok (.iconst 0, 1) := by decide +kernel
theorem dX12_read_25 : decode cX12_read 25 = .ok (.putfield 176, 3) := by decide +kernel
theorem dX12_read_28 : decode cX12_read 28 = .ok (.aload_n 0, 1) := by decide +kernel
theorem dX12_read_29 : decode cX12_read 29 = .ok (.aload_n 0, 1) := by decide +kernel
theorem dX12_read_30 : decode cX12_read 30 = .ok (.getfield 138, 3) := by decide +kernel
theorem dX12_read_33 : decode cX12_read 33 = .ok (.putfield 193, 3) := by decide +kernel
theorem dX12_read_36 : decode cX12_read 36 = .ok (.aload_n 0, 1) := by decide +kernel
theorem dX12_read_37 : decode cX12_read 37 = .ok (.aload_n 0, 1) := by decide +kernel
theorem dX12_read_38 : decode cX12_read 38 = .ok (.getfield 124, 3) := by decide +kernel
theorem dX12_read_41 : decode cX12_read 41 = .ok (.putfield 211, 3) := by decide +kernel
theorem dX12_read_44 : decode cX12_read 44 = .ok (.aload_n 0, 1) := by decide +kernel
theorem dX12_read_45 : decode cX12_read 45 = .ok (.iconst 0, 1) := by decide +kernel
theorem dX12_read_46 : decode cX12_read 46 = .ok (.putfield 214, 3) := by decide +kernel
theorem dX12_read_49 : decode cX12_read 49 = .ok (.aload_n 0, 1) := by decide +kernel
theorem dX12_read_50 : decode cX12_read 50 = .ok (.invokevirtual 186, 3) := by decide +kernel
theorem dX12_read_53 : decode cX12_read 53 = .ok (.aload_n 0, 1) := by decide +kernel
theorem dX12_read_54 : decode cX12_read 54 = .ok (.getfield 176, 3) := by decide +kernel
theorem dX12_read_57 : decode cX12_read 57 = .ok (.ifCond .ne 201, 3) := by decide +kernel
theorem dX12_read_60 : decode cX12_read 60 = .ok (.aload_n 0, 1) := by decide +kernel
theorem dX12_read_61 : decode cX12_read 61 = .ok (.getfield 164, 3) := by decide +kernel
theorem dX12_read_64 : decode cX12_read 64 = .ok (.iconst 1, 1) := by decide +kernel
theorem dX12_read_65 : decode cX12_read 65 = .ok (.if_icmp .eq 193, 3) := by decide +kernel
theorem dX12_read_68 : decode cX12_read 68 = .ok (.aload_n 0, 1) := by decide +kernel
theorem dX12_read_69 : decode cX12_read 69 = .ok (.invokevirtual 202, 3) := by decide +kernel
theorem dX12_read_72 : decode cX12_read 72 = .ok (.lstore_n 1, 1) := by decide +kernel
theorem dX12_read_73 : decode cX12_read 73 = .ok (.lload_n 1, 1) := by decide +kernel
theorem dX12_read_74 : decode cX12_read 74 = .ok (.ldc2_w 217, 3) := by decide +kernel
theorem dX12_read_77 : decode cX12_read 77 = .ok (.lcmp, 1) := by decide +kernel
theorem dX12_read_78 : decode cX12_read 78 = .ok (.ifCond .ne 12, 3) := by decide +kernel
theorem dX12_read_81 : decode cX12_read 81 = .ok (.aload_n 0, 1) := by decide +kernel
theorem dX12_read_82 : decode cX12_read 82 = .ok (.getfield 193, 3) := by decide +kernel
theorem dX12_read_85 : decode cX12_read 85 = .ok (.bipush 12, 2) := by decide +kernel
theorem dX12_read_87 : decode cX12_read 87 = .ok (.if_icmp .eq 20, 3) := by decide +kernel
theorem dX12_read_90 : decode cX12_read 90 = .ok (.lload_n 1, 1) := by decide +kernel
theorem dX12_read_91 : decode cX12_read 91 = .ok (.ldc2_w 219, 3) := by decide +kernel
theorem dX12_read_94 : decode cX12_read 94 = .ok (.lcmp, 1) := by decide +kernel
theorem dX12_read_95 : decode cX12_read 95 = .ok (.ifCond .ne 17, 3) := by decide +kernel
theorem dX12_read_98 : decode cX12_read 98 = .ok (.aload_n 0, 1) := by decide +kernel
theorem dX12_read_99 : decode cX12_read 99 = .ok (.getfield 211, 3) := by decide +kernel
theorem dX12_read_102 : decode cX12_read 102 = .ok (.bipush 20, 2) := by decide +kernel
theorem dX12_read_104 : decode cX12_read 104 = .ok (.if_icmp .ne 8, 3) := by decide +kernel
theorem dX12_read_107 : decode cX12_read 107 = .ok (.aload_n 0, 1) := by decide +kernel
theorem dX12_read_108 : decode cX12_read 108 = .ok (.iconst 4, 1) := by decide +kernel
theorem dX12_read_109 : decode cX12_read 109 = .ok (.invokevirtual 182, 3) := by decide +kernel
theorem dX12_read_112 : decode cX12_read 112 = .ok (.aload_n 0, 1) := by decide +kernel
theorem dX12_read_113 : decode cX12_read 113 = .ok (.lload_n 1, 1) := by decide +kernel
theorem dX12_read_114 : decode cX12_read 114 = .ok (.ldc2_w 217, 3) := by decide +kernel
theorem dX12_read_117 : decode cX12_read 117 = .ok (.lcmp, 1) := by decide +kernel
theorem dX12_read_118 : decode cX12_read 118 = .ok (.ifCond .eq 19, 3) := by decide +kernel
theorem dX12_read_121 : decode cX12_read 121 = .ok (.lload_n 1, 1) := by decide +kernel
theorem dX12_read_122 : decode cX12_read 122 = .ok (.ldc2_w 221, 3) := by decide +kernel
theorem dX12_read_125 : decode cX12_read 125 = .ok (.lcmp, 1) := by decide +kernel
theorem dX12_read_126 : decode cX12_read 126 = .ok (.ifCond .eq 11, 3) := by decide +kernel
theorem dX12_read_129 : decode cX12_read 129 = .ok (.lload_n 1, 1) := by decide +kernel
theorem dX12_read_130 : decode cX12_read 130 = .ok (.ldc2_w 219, 3) := by decide +kernel
theorem dX12_read_133 : decode cX12_read 133 = .ok (.lcmp, 1) := by decide +kernel
theorem dX12_read_134 : decode cX12_read 134 = .ok (.ifCond .ne 7, 3) := by decide +kernel
theorem dX12_read_137 : decode cX12_read 137 = .ok (.iconst 1, 1) := by decide +kernel
theorem dX12_read_138 : decode cX12_read 138 = .ok (.goto 4, 3) := by decide +kernel
theorem dX12_read_141 : decode cX12_read 141 = .ok (.iconst 0, 1) := by decide +kernel
theorem dX12_read_142 : decode cX12_read 142 = .ok (.invokevirtual 189, 3) := by decide +kernel
theorem dX12_read_145 : decode cX12_read 145 = .ok (.aload_n 0, 1) := by decide +kernel
theorem dX12_read_146 : decode cX12_read 146 = .ok (.getfield 176, 3) := by decide +kernel
theorem dX12_read_149 : decode cX12_read 149 = .ok (.ifCond .ne 18, 3) := by decide +kernel
theorem dX12_read_152 : decode cX12_read 152 = .ok (.lload_n 1, 1) := by decide +kernel
theorem dX12_read_153 : decode cX12_read 153 = .ok (.ldc2_w 217, 3) := by decide +kernel
theorem dX12_read_156 : decode cX12_read 156 = .ok (.lcmp, 1) := by decide +kernel
theorem dX12_read_157 : decode cX12_read 157 = .ok (.ifCond .ne 10, 3) := by decide +kernel
theorem dX12_read_160 : decode cX12_read 160 = .ok (.aload_n 0, 1) := by decide +kernel
theorem dX12_read_161 : decode cX12_read 161 = .ok (.invokevirtual 223, 3) := by decide +kernel
theorem dX12_read_164 : decode cX12_read 164 = .ok (.goto 74, 3) := by decide +kernel
theorem dX12_read_167 : decode cX12_read 167 = .ok (.aload_n 0, 1) := by decide +kernel
theorem dX12_read_168 : decode cX12_read 168 = .ok (.getfield 176, 3) := by decide +kernel
theorem dX12_read_171 : decode cX12_read 171 = .ok (.ifCond .ne 18, 3) := by decide +kernel
theorem dX12_read_174 : decode cX12_read 174 = .ok (.lload_n 1, 1) := by decide +kernel
theorem dX12_read_175 : decode cX12_read 175 = .ok (.ldc2_w 219, 3) := by decide +kernel
theorem dX12_read_178 : decode cX12_read 178 = .ok (.lcmp, 1) := by decide +kernel
theorem dX12_read_179 : decode cX12_read 179 = .ok (.ifCond .ne 10, 3) := by decide +kernel
theorem dX12_read_182 : decode cX12_read 182 = .ok (.aload_n 0, 1) := by decide +kernel
theorem dX12_read_183 : decode cX12_read 183 = .ok (.invokevirtual 226, 3) := by decide +kernel
theorem dX12_read_186 : decode cX12_read 186 = .ok (.goto 52, 3) := by decide +kernel
theorem dX12_read_189 : decode cX12_read 189 = .ok (.aload_n 0, 1) := by decide +kernel
theorem dX12_read_190 : decode cX12_read 190 = .ok (.getfield 176, 3) := by decide +kernel
theorem dX12_read_193 : decode cX12_read 193 = .ok (.ifCond .ne 45, 3) := by decide +kernel
theorem dX12_read_196 : decode cX12_read 196 = .ok (.aload_n 0, 1) := by decide +kernel
theorem dX12_read_197 : decode cX12_read 197 = .ok (.getfield 74, 3) := by decide +kernel
theorem dX12_read_200 : decode cX12_read 200 = .ok (.aload_n 0, 1) := by decide +kernel
theorem dX12_read_201 : decode cX12_read 201 = .ok (.getfield 214, 3) := by decide +kernel
theorem dX12_read_204 : decode cX12_read 204 = .ok (.aload_n 0, 1) := by decide +kernel
theorem dX12_read_205 : decode cX12_read 205 = .ok (.iconst 0, 1) := by decide +kernel
theorem dX12_read_206 : decode cX12_read 206 = .ok (.bipush 7, 2) := by decide +kernel
theorem dX12_read_208 : decode cX12_read 208 = .ok (.invokevirtual 196, 3) := by decide +kernel
theorem dX12_read_211 : decode cX12_read 211 = .ok (.iastore, 1) := by decide +kernel
theorem dX12_read_212 : decode cX12_read 212 = .ok (.aload_n 0, 1) := by decide +kernel
theorem dX12_read_213 : decode cX12_read 213 = .ok (.getfield 77, 3) := by decide +kernel
theorem dX12_read_216 : decode cX12_read 216 = .ok (.aload_n 0, 1) := by decide +kernel
theorem dX12_read_217 : decode cX12_read 217 = .ok (.getfield 214, 3) := by decide +kernel
theorem dX12_read_220 : decode cX12_read 220 = .ok (.aload_n 0, 1) := by decide +kernel
theorem dX12_read_221 : decode cX12_read 221 = .ok (.iconst 0, 1) := by decide +kernel
theorem dX12_read_222 : decode cX12_read 222 = .ok (.bipush 99, 2) := by decide +kernel
theorem dX12_read_224 : decode cX12_read 224 = .ok (.invokevirtual 196, 3) := by decide +kernel
theorem dX12_read_227 : decode cX12_read 227 = .ok (.iastore, 1) := by decide +kernel
theorem dX12_read_228 : decode cX12_read 228 = .ok (.aload_n 0, 1) := by decide +kernel
theorem dX12_read_229 : decode cX12_read 229 = .ok (.dup, 1) := by decide +kernel
theorem dX12_read_230 : decode cX12_read 230 = .ok (.getfield 214, 3) := by decide +kernel
theorem dX12_read_233 : decode cX12_read 233 = .ok (.iconst 1, 1) := by decide +kernel
theorem dX12_read_234 : decode cX12_read 234 = .ok (.iadd, 1) := by decide +kernel
theorem dX12_read_235 : decode cX12_read 235 = .ok (.putfield 214, 3) := by decide +kernel
theorem dX12_read_238 : decode cX12_read 238 = .ok (.aload_n 0, 1) := by decide +kernel
theorem dX12_read_239 : decode cX12_read 239 = .ok (.getfield 176, 3) := by decide +kernel
theorem dX12_read_242 : decode cX12_read 242 = .ok (.ifCond .ne 13, 3) := by decide +kernel
theorem dX12_read_245 : decode cX12_read 245 = .ok (.aload_n 0, 1) := by decide +kernel
theorem dX12_read_246 : decode cX12_read 246 = .ok (.aload_n 0, 1) := by decide +kernel
theorem dX12_read_247 : decode cX12_read 247 = .ok (.bipush 59, 2) := by decide +kernel
theorem dX12_read_249 : decode cX12_read 249 = .ok (.invokevirtual 199, 3) := by decide +kernel
theorem dX12_read_252 : decode cX12_read 252 = .ok (.invokevirtual 189, 3) := by decide +kernel
theorem dX12_read_255 : decode cX12_read 255 = .ok (.goto (-202), 3) := by decide +kernel
theorem dX12_read_258 : decode cX12_read 258 = .ok (.aload_n 0, 1) := by decide +kernel
theorem dX12_read_259 : decode cX12_read 259 = .ok (.getfield 176, 3) := by decide +kernel
theorem dX12_read_262 : decode cX12_read 262 = .ok (.ifCond .le 19, 3) := by decide +kernel
theorem dX12_read_265 : decode cX12_read 265 = .ok (.aload_n 0, 1) := by decide +kernel
theorem dX12_read_266 : decode cX12_read 266 = .ok (.aload_n 0, 1) := by decide +kernel
theorem dX12_read_267 : decode cX12_read 267 = .ok (.getfield 176, 3) := by decide +kernel
theorem dX12_read_270 : decode cX12_read 270 = .ok (.putfield 229, 3) := by decide +kernel
theorem dX12_read_273 : decode cX12_read 273 = .ok (.ldc 232, 2) := by decide +kernel
theorem dX12_read_275 : decode cX12_read 275 = .ok (.aload_n 0, 1) := by decide +kernel
theorem dX12_read_276 : decode cX12_read 276 = .ok (.getfield 179, 3) := by decide +kernel
theorem dX12_read_279 : decode cX12_read 279 = .ok (.isub, 1) := by decide +kernel
theorem dX12_read_280 : decode cX12_read 280 = .ok (.ireturn, 1) := by decide +kernel
theorem dX12_read_281 : decode cX12_read 281 = .ok (.aload_n 0, 1) := by decide +kernel
theorem dX12_read_282 : decode cX12_read 282 = .ok (.aload_n 0, 1) := by decide +kernel
theorem dX12_read_283 : decode cX12_read 283 = .ok (.getfield 193, 3) := by decide +kernel
theorem dX12_read_286 : decode cX12_read 286 = .ok (.putfield 138, 3) := by decide +kernel
theorem dX12_read_289 : decode cX12_read 289 = .ok (.aload_n 0, 1) := by decide +kernel
theorem dX12_read_290 : decode cX12_read 290 = .ok (.aload_n 0, 1) := by decide +kernel
theorem dX12_read_291 : decode cX12_read 291 = .ok (.getfield 211, 3) := by decide +kernel
theorem dX12_read_294 : decode cX12_read 294 = .ok (.putfield 124, 3) := by decide +kernel
theorem dX12_read_297 : decode cX12_read 297 = .ok (.iconst 0, 1) := by decide +kernel
theorem dX12_read_298 : decode cX12_read 298 = .ok (.istore_n 1, 1) := by decide +kernel
theorem dX12_read_299 : decode cX12_read 299 = .ok (.iload_n 1, 1) := by decide +kernel
theorem dX12_read_300 : decode cX12_read 300 = .ok (.aload_n 0, 1) := by decide +kernel
theorem dX12_read_301 : decode cX12_read 301 = .ok (.getfield 214, 3) := by decide +kernel
theorem dX12_read_304 : decode cX12_read 304 = .ok (.if_icmp .ge 45, 3) := by decide +kernel
theorem dX12_read_307 : decode cX12_read 307 = .ok (.iconst 0, 1) := by decide +kernel
theorem dX12_read_308 : decode cX12_read 308 = .ok (.istore_n 2, 1) := by decide +kernel
theorem dX12_read_309 : decode cX12_read 309 = .ok (.iload_n 2, 1) := by decide +kernel
theorem dX12_read_310 : decode cX12_read 310 = .ok (.bipush 48, 2) := by decide +kernel
theorem dX12_read_312 : decode cX12_read 312 = .ok (.if_icmp .ge 31, 3) := by decide +kernel
theorem dX12_read_315 : decode cX12_read 315 = .ok (.aload_n 0, 1) := by decide +kernel
theorem dX12_read_316 : decode cX12_read 316 = .ok (.getfield 44, 3) := by decide +kernel
theorem dX12_read_319 : decode cX12_read 319 = .ok (.bipush 48, 2) := by decide +kernel
theorem dX12_read_321 : decode cX12_read 321 = .ok (.aload_n 0, 1) := by decide +kernel
theorem dX12_read_322 : decode cX12_read 322 = .ok (.getfield 74, 3) := by decide +kernel
theorem dX12_read_325 : decode cX12_read 325 = .ok (.iload_n 1, 1) := by decide +kernel
theorem dX12_read_326 : decode cX12_read 326 = .ok (.iaload, 1) := by decide +kernel
theorem dX12_read_327 : decode cX12_read 327 = .ok (.imul, 1) := by decide +kernel
theorem dX12_read_328 : decode cX12_read 328 = .ok (.iload_n 2, 1) := by decide +kernel
theorem dX12_read_329 : decode cX12_read 329 = .ok (.iadd, 1) := by decide +kernel
theorem dX12_read_330 : decode cX12_read 330 = .ok (.aload_n 0, 1) := by decide +kernel
theorem dX12_read_331 : decode cX12_read 331 = .ok (.getfield 77, 3) := by decide +kernel
theorem dX12_read_334 : decode cX12_read 334 = .ok (.iload_n 1, 1) := by decide +kernel
theorem dX12_read_335 : decode cX12_read 335 = .ok (.iaload, 1) := by decide +kernel
theorem dX12_read_336 : decode cX12_read 336 = .ok (.iastore, 1) := by decide +kernel
theorem dX12_read_337 : decode cX12_read 337 = .ok (.iinc 2 1, 3) := by decide +kernel
theorem dX12_read_340 : decode cX12_read 340 = .ok (.goto (-31), 3) := by decide +kernel
theorem dX12_read_343 : decode cX12_read 343 = .ok (.iinc 1 1, 3) := by decide +kernel
theorem dX12_read_346 : decode cX12_read 346 = .ok (.goto (-47), 3) := by decide +kernel
theorem dX12_read_349 : decode cX12_read 349 = .ok (.aload_n 0, 1) := by decide +kernel
theorem dX12_read_350 : decode cX12_read 350 = .ok (.getfield 138, 3) := by decide +kernel
theorem dX12_read_353 : decode cX12_read 353 = .ok (.ireturn, 1) := by decide +kernel
theorem dX12_fault_0 : decode cX12_fault 0 = .ok (.aload_n 0, 1) := by decide +kernel
theorem dX12_fault_1 : decode cX12_fault 1 = .ok (.iconst 0, 1) := by decide +kernel
theorem dX12_fault_2 : decode cX12_fault 2 = .ok (.putfield 1, 3) := by decide +kernel
theorem dX12_fault_5 : decode cX12_fault 5 = .ok (.aload_n 0, 1) := by decide +kernel
theorem dX12_fault_6 : decode cX12_fault 6 = .ok (.getfield 229, 3) := by decide +kernel
theorem dX12_fault_9 : decode cX12_fault 9 = .ok (.ireturn, 1) := by decide +kernel
theorem dX12_told_0 : decode cX12_told 0 = .ok (.aload_n 0, 1) := by decide +kernel
theorem dX12_told_1 : decode cX12_told 1 = .ok (.iconst 0, 1) := by decide +kernel
theorem dX12_told_2 : decode cX12_told 2 = .ok (.putfield 1, 3) := by decide +kernel
theorem dX12_told_5 : decode cX12_told 5 = .ok (.aload_n 0, 1) := by decide +kernel
theorem dX12_told_6 : decode cX12_told 6 = .ok (.iload_n 1, 1) := by decide +kernel
theorem dX12_told_7 : decode cX12_told 7 = .ok (.invokevirtual 233, 3) := by decide +kernel
theorem dX12_told_10 : decode cX12_told 10 = .ok (.ifCond .eq 15, 3) := by decide +kernel
theorem dX12_told_13 : decode cX12_told 13 = .ok (.iload_n 2, 1) := by decide +kernel
theorem dX12_told_14 : decode cX12_told 14 = .ok (.i2l, 1) := by decide +kernel
theorem dX12_told_15 : decode cX12_told 15 = .ok (.lconst 0, 1) := by decide +kernel
theorem dX12_told_16 : decode cX12_told 16 = .ok (.ldc2_w 11, 3) := by decide +kernel
theorem dX12_told_19 : decode cX12_told 19 = .ok (.invokestatic 13, 3) := by decide +kernel
theorem dX12_told_22 : decode cX12_told 22 = .ok (.ifCond .ne 6, 3) := by decide +kernel
theorem dX12_told_25 : decode cX12_told 25 = .ok (.ldc 23, 2) := by decide +kernel
theorem dX12_told_27 : decode cX12_told 27 = .ok (.ireturn, 1) := by decide +kernel
theorem dX12_told_28 : decode cX12_told 28 = .ok (.iload_n 2, 1) := by decide +kernel
theorem dX12_told_29 : decode cX12_told 29 = .ok (.iconst 5, 1) := by decide +kernel
theorem dX12_told_30 : decode cX12_told 30 = .ok (.if_icmp .ge 16, 3) := by decide +kernel
theorem dX12_told_33 : decode cX12_told 33 = .ok (.aload_n 0, 1) := by decide +kernel
theorem dX12_told_34 : decode cX12_told 34 = .ok (.getfield 56, 3) := by decide +kernel
theorem dX12_told_37 : decode cX12_told 37 = .ok (.iconst 5, 1) := by decide +kernel
theorem dX12_told_38 : decode cX12_told 38 = .ok (.iload_n 1, 1) := by decide +kernel
theorem dX12_told_39 : decode cX12_told 39 = .ok (.imul, 1) := by decide +kernel
theorem dX12_told_40 : decode cX12_told 40 = .ok (.iload_n 2, 1) := by decide +kernel
theorem dX12_told_41 : decode cX12_told 41 = .ok (.iadd, 1) := by decide +kernel
theorem dX12_told_42 : decode cX12_told 42 = .ok (.iaload, 1) := by decide +kernel
theorem dX12_told_43 : decode cX12_told 43 = .ok (.goto 37, 3) := by decide +kernel
theorem dX12_told_46 : decode cX12_told 46 = .ok (.iload_n 2, 1) := by decide +kernel
theorem dX12_told_47 : decode cX12_told 47 = .ok (.iconst 5, 1) := by decide +kernel
theorem dX12_told_48 : decode cX12_told 48 = .ok (.if_icmp .ne 12, 3) := by decide +kernel
theorem dX12_told_51 : decode cX12_told 51 = .ok (.aload_n 0, 1) := by decide +kernel
theorem dX12_told_52 : decode cX12_told 52 = .ok (.getfield 65, 3) := by decide +kernel
theorem dX12_told_55 : decode cX12_told 55 = .ok (.iload_n 1, 1) := by decide +kernel
theorem dX12_told_56 : decode cX12_told 56 = .ok (.iaload, 1) := by decide +kernel
theorem dX12_told_57 : decode cX12_told 57 = .ok (.goto 23, 3) := by decide +kernel
theorem dX12_told_60 : decode cX12_told 60 = .ok (.iload_n 2, 1) := by decide +kernel
theorem dX12_told_61 : decode cX12_told 61 = .ok (.bipush 6, 2) := by decide +kernel
theorem dX12_told_63 : decode cX12_told 63 = .ok (.if_icmp .ne 12, 3) := by decide +kernel
theorem dX12_told_66 : decode cX12_told 66 = .ok (.aload_n 0, 1) := by decide +kernel
theorem dX12_told_67 : decode cX12_told 67 = .ok (.getfield 68, 3) := by decide +kernel
theorem dX12_told_70 : decode cX12_told 70 = .ok (.iload_n 1, 1) := by decide +kernel
theorem dX12_told_71 : decode cX12_told 71 = .ok (.iaload, 1) := by decide +kernel
theorem dX12_told_72 : decode cX12_told 72 = .ok (.goto 8, 3) := by decide +kernel
theorem dX12_told_75 : decode cX12_told 75 = .ok (.aload_n 0, 1) := by decide +kernel
theorem dX12_told_76 : decode cX12_told 76 = .ok (.iload_n 1, 1) := by decide +kernel
theorem dX12_told_77 : decode cX12_told 77 = .ok (.invokevirtual 236, 3) := by decide +kernel
theorem dX12_told_80 : decode cX12_told 80 = .ok (.ireturn, 1) := by decide +kernel
theorem dX12_leg_0 : decode cX12_leg 0 = .ok (.aload_n 0, 1) := by decide +kernel
theorem dX12_leg_1 : decode cX12_leg 1 = .ok (.iconst 0, 1) := by decide +kernel
theorem dX12_leg_2 : decode cX12_leg 2 = .ok (.putfield 1, 3) := by decide +kernel
theorem dX12_leg_5 : decode cX12_leg 5 = .ok (.aload_n 0, 1) := by decide +kernel
theorem dX12_leg_6 : decode cX12_leg 6 = .ok (.iload_n 1, 1) := by decide +kernel
theorem dX12_leg_7 : decode cX12_leg 7 = .ok (.invokevirtual 233, 3) := by decide +kernel
theorem dX12_leg_10 : decode cX12_leg 10 = .ok (.ifCond .eq 36, 3) := by decide +kernel
theorem dX12_leg_13 : decode cX12_leg 13 = .ok (.iload_n 2, 1) := by decide +kernel
theorem dX12_leg_14 : decode cX12_leg 14 = .ok (.i2l, 1) := by decide +kernel
theorem dX12_leg_15 : decode cX12_leg 15 = .ok (.lconst 0, 1) := by decide +kernel
theorem dX12_leg_16 : decode cX12_leg 16 = .ok (.aload_n 0, 1) := by decide +kernel
theorem dX12_leg_17 : decode cX12_leg 17 = .ok (.getfield 56, 3) := by decide +kernel
theorem dX12_leg_20 : decode cX12_leg 20 = .ok (.iconst 5, 1) := by decide +kernel
theorem dX12_leg_21 : decode cX12_leg 21 = .ok (.iload_n 1, 1) := by decide +kernel
theorem dX12_leg_22 : decode cX12_leg 22 = .ok (.imul, 1) := by decide +kernel
theorem dX12_leg_23 : decode cX12_leg 23 = .ok (.iconst 4, 1) := by decide +kernel
theorem dX12_leg_24 : decode cX12_leg 24 = .ok (.iadd, 1) := by decide +kernel
theorem dX12_leg_25 : decode cX12_leg 25 = .ok (.iaload, 1) := by decide +kernel
theorem dX12_leg_26 : decode cX12_leg 26 = .ok (.iconst 1, 1) := by decide +kernel
theorem dX12_leg_27 : decode cX12_leg 27 = .ok (.isub, 1) := by decide +kernel
theorem dX12_leg_28 : decode cX12_leg 28 = .ok (.i2l, 1) := by decide +kernel
theorem dX12_leg_29 : decode cX12_leg 29 = .ok (.invokestatic 13, 3) := by decide +kernel
theorem dX12_leg_32 : decode cX12_leg 32 = .ok (.ifCond .eq 14, 3) := by decide +kernel
theorem dX12_leg_35 : decode cX12_leg 35 = .ok (.iload 4, 2) := by decide +kernel
theorem dX12_leg_37 : decode cX12_leg 37 = .ok (.i2l, 1) := by decide +kernel
theorem dX12_leg_38 : decode cX12_leg 38 = .ok (.lconst 0, 1) := by decide +kernel
theorem dX12_leg_39 : decode cX12_leg 39 = .ok (.lconst 1, 1) := by decide +kernel
theorem dX12_leg_40 : decode cX12_leg 40 = .ok (.invokestatic 13, 3) := by decide +kernel
theorem dX12_leg_43 : decode cX12_leg 43 = .ok (.ifCond .ne 6, 3) := by decide +kernel
theorem dX12_leg_46 : decode cX12_leg 46 = .ok (.ldc 23, 2) := by decide +kernel
theorem dX12_leg_48 : decode cX12_leg 48 = .ok (.ireturn, 1) := by decide +kernel
theorem dX12_leg_49 : decode cX12_leg 49 = .ok (.iload_n 3, 1) := by decide +kernel
theorem dX12_leg_50 : decode cX12_leg 50 = .ok (.i2l, 1) := by decide +kernel
theorem dX12_leg_51 : decode cX12_leg 51 = .ok (.lconst 0, 1) := by decide +kernel
theorem dX12_leg_52 : decode cX12_leg 52 = .ok (.ldc2_w 239, 3) := by decide +kernel
theorem dX12_leg_55 : decode cX12_leg 55 = .ok (.invokestatic 13, 3) := by decide +kernel
theorem dX12_leg_58 : decode cX12_leg 58 = .ok (.ifCond .eq 21, 3) := by decide +kernel
theorem dX12_leg_61 : decode cX12_leg 61 = .ok (.aload_n 0, 1) := by decide +kernel
theorem dX12_leg_62 : decode cX12_leg 62 = .ok (.getfield 62, 3) := by decide +kernel
theorem dX12_leg_65 : decode cX12_leg 65 = .ok (.bipush 15, 2) := by decide +kernel
theorem dX12_leg_67 : decode cX12_leg 67 = .ok (.iload_n 1, 1) := by decide +kernel
theorem dX12_leg_68 : decode cX12_leg 68 = .ok (.imul, 1) := by decide +kernel
theorem dX12_leg_69 : decode cX12_leg 69 = .ok (.iconst 5, 1) := by decide +kernel
theorem dX12_leg_70 : decode cX12_leg 70 = .ok (.iload_n 2, 1) := by decide +kernel
theorem dX12_leg_71 : decode cX12_leg 71 = .ok (.imul, 1) := by decide +kernel
theorem dX12_leg_72 : decode cX12_leg 72 = .ok (.iadd, 1) := by decide +kernel
theorem dX12_leg_73 : decode cX12_leg 73 = .ok (.iload_n 3, 1) := by decide +kernel
theorem dX12_leg_74 : decode cX12_leg 74 = .ok (.iadd, 1) := by decide +kernel
theorem dX12_leg_75 : decode cX12_leg 75 = .ok (.iaload, 1) := by decide +kernel
theorem dX12_leg_76 : decode cX12_leg 76 = .ok (.ifCond .ne 6, 3) := by decide +kernel
theorem dX12_leg_79 : decode cX12_leg 79 = .ok (.ldc 131, 2) := by decide +kernel
theorem dX12_leg_81 : decode cX12_leg 81 = .ok (.ireturn, 1) := by decide +kernel
theorem dX12_leg_82 : decode cX12_leg 82 = .ok (.iload 4, 2) := by decide +kernel
theorem dX12_leg_84 : decode cX12_leg 84 = .ok (.ifCond .ne 21, 3) := by decide +kernel
theorem dX12_leg_87 : decode cX12_leg 87 = .ok (.aload_n 0, 1) := by decide +kernel
theorem dX12_leg_88 : decode cX12_leg 88 = .ok (.getfield 59, 3) := by decide +kernel
theorem dX12_leg_91 : decode cX12_leg 91 = .ok (.bipush 15, 2) := by decide +kernel
theorem dX12_leg_93 : decode cX12_leg 93 = .ok (.iload_n 1, 1) := by decide +kernel
theorem dX12_leg_94 : decode cX12_leg 94 = .ok (.imul, 1) := by decide +kernel
theorem dX12_leg_95 : decode cX12_leg 95 = .ok (.iconst 5, 1) := by decide +kernel
theorem dX12_leg_96 : decode cX12_leg 96 = .ok (.iload_n 2, 1) := by decide +kernel
theorem dX12_leg_97 : decode cX12_leg 97 = .ok (.imul, 1) := by decide +kernel
theorem dX12_leg_98 : decode cX12_leg 98 = .ok (.iadd, 1) := by decide +kernel
theorem dX12_leg_99 : decode cX12_leg 99 = .ok (.iload_n 3, 1) := by decide +kernel
theorem dX12_leg_100 : decode cX12_leg 100 = .ok (.iadd, 1) := by decide +kernel
theorem dX12_leg_101 : decode cX12_leg 101 = .ok (.iaload, 1) := by decide +kernel
theorem dX12_leg_102 : decode cX12_leg 102 = .ok (.goto 18, 3) := by decide +kernel
theorem dX12_leg_105 : decode cX12_leg 105 = .ok (.aload_n 0, 1) := by decide +kernel
theorem dX12_leg_106 : decode cX12_leg 106 = .ok (.getfield 62, 3) := by decide +kernel
theorem dX12_leg_109 : decode cX12_leg 109 = .ok (.bipush 15, 2) := by decide +kernel
theorem dX12_leg_111 : decode cX12_leg 111 = .ok (.iload_n 1, 1) := by decide +kernel
theorem dX12_leg_112 : decode cX12_leg 112 = .ok (.imul, 1) := by decide +kernel
theorem dX12_leg_113 : decode cX12_leg 113 = .ok (.iconst 5, 1) := by decide +kernel
theorem dX12_leg_114 : decode cX12_leg 114 = .ok (.iload_n 2, 1) := by decide +kernel
theorem dX12_leg_115 : decode cX12_leg 115 = .ok (.imul, 1) := by decide +kernel
theorem dX12_leg_116 : decode cX12_leg 116 = .ok (.iadd, 1) := by decide +kernel
theorem dX12_leg_117 : decode cX12_leg 117 = .ok (.iload_n 3, 1) := by decide +kernel
theorem dX12_leg_118 : decode cX12_leg 118 = .ok (.iadd, 1) := by decide +kernel
theorem dX12_leg_119 : decode cX12_leg 119 = .ok (.iaload, 1) := by decide +kernel
theorem dX12_leg_120 : decode cX12_leg 120 = .ok (.ireturn, 1) := by decide +kernel
theorem dX12_choose_0 : decode cX12_choose 0 = .ok (.aload_n 0, 1) := by decide +kernel
theorem dX12_choose_1 : decode cX12_choose 1 = .ok (.iconst 0, 1) := by decide +kernel
theorem dX12_choose_2 : decode cX12_choose 2 = .ok (.putfield 1, 3) := by decide +kernel
theorem dX12_choose_5 : decode cX12_choose 5 = .ok (.aload_n 0, 1) := by decide +kernel
theorem dX12_choose_6 : decode cX12_choose 6 = .ok (.iload_n 1, 1) := by decide +kernel
theorem dX12_choose_7 : decode cX12_choose 7 = .ok (.invokevirtual 233, 3) := by decide +kernel
theorem dX12_choose_10 : decode cX12_choose 10 = .ok (.ifCond .eq 37, 3) := by decide +kernel
theorem dX12_choose_13 : decode cX12_choose 13 = .ok (.iload_n 2, 1) := by decide +kernel
theorem dX12_choose_14 : decode cX12_choose 14 = .ok (.i2l, 1) := by decide +kernel
theorem dX12_choose_15 : decode cX12_choose 15 = .ok (.lconst 0, 1) := by decide +kernel
theorem dX12_choose_16 : decode cX12_choose 16 = .ok (.aload_n 0, 1) := by decide +kernel
theorem dX12_choose_17 : decode cX12_choose 17 = .ok (.getfield 56, 3) := by decide +kernel
theorem dX12_choose_20 : decode cX12_choose 20 = .ok (.iconst 5, 1) := by decide +kernel
theorem dX12_choose_21 : decode cX12_choose 21 = .ok (.iload_n 1, 1) := by decide +kernel
theorem dX12_choose_22 : decode cX12_choose 22 = .ok (.imul, 1) := by decide +kernel
theorem dX12_choose_23 : decode cX12_choose 23 = .ok (.iconst 4, 1) := by decide +kernel
theorem dX12_choose_24 : decode cX12_choose 24 = .ok (.iadd, 1) := by decide +kernel
theorem dX12_choose_25 : decode cX12_choose 25 = .ok (.iaload, 1) := by decide +kernel
theorem dX12_choose_26 : decode cX12_choose 26 = .ok (.iconst 1, 1) := by decide +kernel
theorem dX12_choose_27 : decode cX12_choose 27 = .ok (.isub, 1) := by decide +kernel
theorem dX12_choose_28 : decode cX12_choose 28 = .ok (.i2l, 1) := by decide +kernel
theorem dX12_choose_29 : decode cX12_choose 29 = .ok (.invokestatic 13, 3) := by decide +kernel
theorem dX12_choose_32 : decode cX12_choose 32 = .ok (.ifCond .eq 15, 3) := by decide +kernel
theorem dX12_choose_35 : decode cX12_choose 35 = .ok (.iload_n 3, 1) := by decide +kernel
theorem dX12_choose_36 : decode cX12_choose 36 = .ok (.i2l, 1) := by decide +kernel
theorem dX12_choose_37 : decode cX12_choose 37 = .ok (.lconst 0, 1) := by decide +kernel
theorem dX12_choose_38 : decode cX12_choose 38 = .ok (.ldc2_w 239, 3) := by decide +kernel
theorem dX12_choose_41 : decode cX12_choose 41 = .ok (.invokestatic 13, 3) := by decide +kernel
theorem dX12_choose_44 : decode cX12_choose 44 = .ok (.ifCond .ne 6, 3) := by decide +kernel
theorem dX12_choose_47 : decode cX12_choose 47 = .ok (.ldc 23, 2) := by decide +kernel
theorem dX12_choose_49 : decode cX12_choose 49 = .ok (.ireturn, 1) := by decide +kernel
theorem dX12_choose_50 : decode cX12_choose 50 = .ok (.aload_n 0, 1) := by decide +kernel
theorem dX12_choose_51 : decode cX12_choose 51 = .ok (.getfield 65, 3) := by decide +kernel
theorem dX12_choose_54 : decode cX12_choose 54 = .ok (.iload_n 1, 1) := by decide +kernel
theorem dX12_choose_55 : decode cX12_choose 55 = .ok (.iload_n 2, 1) := by decide +kernel
theorem dX12_choose_56 : decode cX12_choose 56 = .ok (.iastore, 1) := by decide +kernel
theorem dX12_choose_57 : decode cX12_choose 57 = .ok (.aload_n 0, 1) := by decide +kernel
theorem dX12_choose_58 : decode cX12_choose 58 = .ok (.getfield 68, 3) := by decide +kernel
theorem dX12_choose_61 : decode cX12_choose 61 = .ok (.iload_n 1, 1) := by decide +kernel
theorem dX12_choose_62 : decode cX12_choose 62 = .ok (.iload_n 3, 1) := by decide +kernel
theorem dX12_choose_63 : decode cX12_choose 63 = .ok (.iastore, 1) := by decide +kernel
theorem dX12_choose_64 : decode cX12_choose 64 = .ok (.aload_n 0, 1) := by decide +kernel
theorem dX12_choose_65 : decode cX12_choose 65 = .ok (.iload_n 1, 1) := by decide +kernel
theorem dX12_choose_66 : decode cX12_choose 66 = .ok (.invokevirtual 236, 3) := by decide +kernel
theorem dX12_choose_69 : decode cX12_choose 69 = .ok (.ireturn, 1) := by decide +kernel
theorem dX12_at_0 : decode cX12_at 0 = .ok (.aload_n 0, 1) := by decide +kernel
theorem dX12_at_1 : decode cX12_at 1 = .ok (.iconst 0, 1) := by decide +kernel
theorem dX12_at_2 : decode cX12_at 2 = .ok (.putfield 1, 3) := by decide +kernel
theorem dX12_at_5 : decode cX12_at 5 = .ok (.aload_n 0, 1) := by decide +kernel
theorem dX12_at_6 : decode cX12_at 6 = .ok (.iload_n 1, 1) := by decide +kernel
theorem dX12_at_7 : decode cX12_at 7 = .ok (.invokevirtual 233, 3) := by decide +kernel
theorem dX12_at_10 : decode cX12_at 10 = .ok (.ifCond .eq 10, 3) := by decide +kernel
theorem dX12_at_13 : decode cX12_at 13 = .ok (.iload_n 2, 1) := by decide +kernel
theorem dX12_at_14 : decode cX12_at 14 = .ok (.invokestatic 115, 3) := by decide +kernel
theorem dX12_at_17 : decode cX12_at 17 = .ok (.ifCond .ne 8, 3) := by decide +kernel
theorem dX12_at_20 : decode cX12_at 20 = .ok (.ldc 23, 2) := by decide +kernel
theorem dX12_at_22 : decode cX12_at 22 = .ok (.goto 21, 3) := by decide +kernel
theorem dX12_at_25 : decode cX12_at 25 = .ok (.aload_n 0, 1) := by decide +kernel
theorem dX12_at_26 : decode cX12_at 26 = .ok (.iload_n 1, 1) := by decide +kernel
theorem dX12_at_27 : decode cX12_at 27 = .ok (.aload_n 0, 1) := by decide +kernel
theorem dX12_at_28 : decode cX12_at 28 = .ok (.getfield 65, 3) := by decide +kernel
theorem dX12_at_31 : decode cX12_at 31 = .ok (.iload_n 1, 1) := by decide +kernel
theorem dX12_at_32 : decode cX12_at 32 = .ok (.iaload, 1) := by decide +kernel
theorem dX12_at_33 : decode cX12_at 33 = .ok (.aload_n 0, 1) := by decide +kernel
theorem dX12_at_34 : decode cX12_at 34 = .ok (.getfield 68, 3) := by decide +kernel
theorem dX12_at_37 : decode cX12_at 37 = .ok (.iload_n 1, 1) := by decide +kernel
theorem dX12_at_38 : decode cX12_at 38 = .ok (.iaload, 1) := by decide +kernel
theorem dX12_at_39 : decode cX12_at 39 = .ok (.iload_n 2, 1) := by decide +kernel
theorem dX12_at_40 : decode cX12_at 40 = .ok (.invokevirtual 241, 3) := by decide +kernel
theorem dX12_at_43 : decode cX12_at 43 = .ok (.ireturn, 1) := by decide +kernel
theorem dX12_loadOf_0 : decode cX12_loadOf 0 = .ok (.iconst 0, 1) := by decide +kernel
theorem dX12_loadOf_1 : decode cX12_loadOf 1 = .ok (.istore_n 3, 1) := by decide +kernel
theorem dX12_loadOf_2 : decode cX12_loadOf 2 = .ok (.iconst 0, 1) := by decide +kernel
theorem dX12_loadOf_3 : decode cX12_loadOf 3 = .ok (.istore 4, 2) := by decide +kernel
theorem dX12_loadOf_5 : decode cX12_loadOf 5 = .ok (.iload 4, 2) := by decide +kernel
theorem dX12_loadOf_7 : decode cX12_loadOf 7 = .ok (.aload_n 0, 1) := by decide +kernel
theorem dX12_loadOf_8 : decode cX12_loadOf 8 = .ok (.getfield 138, 3) := by decide +kernel
theorem dX12_loadOf_11 : decode cX12_loadOf 11 = .ok (.if_icmp .ge 52, 3) := by decide +kernel
theorem dX12_loadOf_14 : decode cX12_loadOf 14 = .ok (.iload_n 3, 1) := by decide +kernel
theorem dX12_loadOf_15 : decode cX12_loadOf 15 = .ok (.aload_n 0, 1) := by decide +kernel
theorem dX12_loadOf_16 : decode cX12_loadOf 16 = .ok (.iload 4, 2) := by decide +kernel
theorem dX12_loadOf_18 : decode cX12_loadOf 18 = .ok (.aload_n 0, 1) := by decide +kernel
theorem dX12_loadOf_19 : decode cX12_loadOf 19 = .ok (.getfield 65, 3) := by decide +kernel
theorem dX12_loadOf_22 : decode cX12_loadOf 22 = .ok (.iload 4, 2) := by decide +kernel
theorem dX12_loadOf_24 : decode cX12_loadOf 24 = .ok (.iaload, 1) := by decide +kernel
theorem dX12_loadOf_25 : decode cX12_loadOf 25 = .ok (.aload_n 0, 1) := by decide +kernel
theorem dX12_loadOf_26 : decode cX12_loadOf 26 = .ok (.getfield 68, 3) := by decide +kernel
theorem dX12_loadOf_29 : decode cX12_loadOf 29 = .ok (.iload 4, 2) := by decide +kernel
theorem dX12_loadOf_31 : decode cX12_loadOf 31 = .ok (.iaload, 1) := by decide +kernel
theorem dX12_loadOf_32 : decode cX12_loadOf 32 = .ok (.iload_n 2, 1) := by decide +kernel
theorem dX12_loadOf_33 : decode cX12_loadOf 33 = .ok (.invokevirtual 241, 3) := by decide +kernel
theorem dX12_loadOf_36 : decode cX12_loadOf 36 = .ok (.iload_n 1, 1) := by decide +kernel
theorem dX12_loadOf_37 : decode cX12_loadOf 37 = .ok (.if_icmp .ne 17, 3) := by decide +kernel
theorem dX12_loadOf_40 : decode cX12_loadOf 40 = .ok (.aload_n 0, 1) := by decide +kernel
theorem dX12_loadOf_41 : decode cX12_loadOf 41 = .ok (.getfield 56, 3) := by decide +kernel
theorem dX12_loadOf_44 : decode cX12_loadOf 44 = .ok (.iconst 5, 1) := by decide +kernel
theorem dX12_loadOf_45 : decode cX12_loadOf 45 = .ok (.iload 4, 2) := by decide +kernel
theorem dX12_loadOf_47 : decode cX12_loadOf 47 = .ok (.imul, 1) := by decide +kernel
theorem dX12_loadOf_48 : decode cX12_loadOf 48 = .ok (.iconst 1, 1) := by decide +kernel
theorem dX12_loadOf_49 : decode cX12_loadOf 49 = .ok (.iadd, 1) := by decide +kernel
theorem dX12_loadOf_50 : decode cX12_loadOf 50 = .ok (.iaload, 1) := by decide +kernel
theorem dX12_loadOf_51 : decode cX12_loadOf 51 = .ok (.goto 4, 3) := by decide +kernel
theorem dX12_loadOf_54 : decode cX12_loadOf 54 = .ok (.iconst 0, 1) := by decide +kernel
theorem dX12_loadOf_55 : decode cX12_loadOf 55 = .ok (.iadd, 1) := by decide +kernel
theorem dX12_loadOf_56 : decode cX12_loadOf 56 = .ok (.istore_n 3, 1) := by decide +kernel
theorem dX12_loadOf_57 : decode cX12_loadOf 57 = .ok (.iinc 4 1, 3) := by decide +kernel
theorem dX12_loadOf_60 : decode cX12_loadOf 60 = .ok (.goto (-55), 3) := by decide +kernel
theorem dX12_loadOf_63 : decode cX12_loadOf 63 = .ok (.iload_n 3, 1) := by decide +kernel
theorem dX12_loadOf_64 : decode cX12_loadOf 64 = .ok (.ireturn, 1) := by decide +kernel
theorem dX12_overOf_0 : decode cX12_overOf 0 = .ok (.aload_n 0, 1) := by decide +kernel
theorem dX12_overOf_1 : decode cX12_overOf 1 = .ok (.iload_n 1, 1) := by decide +kernel
theorem dX12_overOf_2 : decode cX12_overOf 2 = .ok (.iload_n 2, 1) := by decide +kernel
theorem dX12_overOf_3 : decode cX12_overOf 3 = .ok (.invokevirtual 244, 3) := by decide +kernel
theorem dX12_overOf_6 : decode cX12_overOf 6 = .ok (.aload_n 0, 1) := by decide +kernel
theorem dX12_overOf_7 : decode cX12_overOf 7 = .ok (.iload_n 1, 1) := by decide +kernel
theorem dX12_overOf_8 : decode cX12_overOf 8 = .ok (.iload_n 2, 1) := by decide +kernel
theorem dX12_overOf_9 : decode cX12_overOf 9 = .ok (.invokevirtual 134, 3) := by decide +kernel
theorem dX12_overOf_12 : decode cX12_overOf 12 = .ok (.isub, 1) := by decide +kernel
theorem dX12_overOf_13 : decode cX12_overOf 13 = .ok (.istore_n 3, 1) := by decide +kernel
theorem dX12_overOf_14 : decode cX12_overOf 14 = .ok (.iload_n 3, 1) := by decide +kernel
theorem dX12_overOf_15 : decode cX12_overOf 15 = .ok (.ifCond .ge 7, 3) := by decide +kernel
theorem dX12_overOf_18 : decode cX12_overOf 18 = .ok (.iconst 0, 1) := by decide +kernel
theorem dX12_overOf_19 : decode cX12_overOf 19 = .ok (.goto 4, 3) := by decide +kernel
theorem dX12_overOf_22 : decode cX12_overOf 22 = .ok (.iload_n 3, 1) := by decide +kernel
theorem dX12_overOf_23 : decode cX12_overOf 23 = .ok (.ireturn, 1) := by decide +kernel
theorem dX12_overAll_0 : decode cX12_overAll 0 = .ok (.iconst 0, 1) := by decide +kernel
theorem dX12_overAll_1 : decode cX12_overAll 1 = .ok (.istore_n 1, 1) := by decide +kernel
theorem dX12_overAll_2 : decode cX12_overAll 2 = .ok (.iconst 0, 1) := by decide +kernel
theorem dX12_overAll_3 : decode cX12_overAll 3 = .ok (.istore_n 2, 1) := by decide +kernel
theorem dX12_overAll_4 : decode cX12_overAll 4 = .ok (.iload_n 2, 1) := by decide +kernel
theorem dX12_overAll_5 : decode cX12_overAll 5 = .ok (.sipush 384, 3) := by decide +kernel
theorem dX12_overAll_8 : decode cX12_overAll 8 = .ok (.if_icmp .ge 24, 3) := by decide +kernel
theorem dX12_overAll_11 : decode cX12_overAll 11 = .ok (.iload_n 1, 1) := by decide +kernel
theorem dX12_overAll_12 : decode cX12_overAll 12 = .ok (.aload_n 0, 1) := by decide +kernel
theorem dX12_overAll_13 : decode cX12_overAll 13 = .ok (.iload_n 2, 1) := by decide +kernel
theorem dX12_overAll_14 : decode cX12_overAll 14 = .ok (.bipush 48, 2) := by decide +kernel
theorem dX12_overAll_16 : decode cX12_overAll 16 = .ok (.idiv, 1) := by decide +kernel
theorem dX12_overAll_17 : decode cX12_overAll 17 = .ok (.iload_n 2, 1) := by decide +kernel
theorem dX12_overAll_18 : decode cX12_overAll 18 = .ok (.bipush 48, 2) := by decide +kernel
theorem dX12_overAll_20 : decode cX12_overAll 20 = .ok (.irem, 1) := by decide +kernel
theorem dX12_overAll_21 : decode cX12_overAll 21 = .ok (.invokevirtual 247, 3) := by decide +kernel
theorem dX12_overAll_24 : decode cX12_overAll 24 = .ok (.iadd, 1) := by decide +kernel
theorem dX12_overAll_25 : decode cX12_overAll 25 = .ok (.istore_n 1, 1) := by decide +kernel
theorem dX12_overAll_26 : decode cX12_overAll 26 = .ok (.iinc 2 1, 3) := by decide +kernel
theorem dX12_overAll_29 : decode cX12_overAll 29 = .ok (.goto (-25), 3) := by decide +kernel
theorem dX12_overAll_32 : decode cX12_overAll 32 = .ok (.iload_n 1, 1) := by decide +kernel
theorem dX12_overAll_33 : decode cX12_overAll 33 = .ok (.ireturn, 1) := by decide +kernel
theorem dX12_load_0 : decode cX12_load 0 = .ok (.aload_n 0, 1) := by decide +kernel
theorem dX12_load_1 : decode cX12_load 1 = .ok (.iconst 0, 1) := by decide +kernel
theorem dX12_load_2 : decode cX12_load 2 = .ok (.putfield 1, 3) := by decide +kernel
theorem dX12_load_5 : decode cX12_load 5 = .ok (.iload_n 1, 1) := by decide +kernel
theorem dX12_load_6 : decode cX12_load 6 = .ok (.invokestatic 112, 3) := by decide +kernel
theorem dX12_load_9 : decode cX12_load 9 = .ok (.ifCond .eq 20, 3) := by decide +kernel
theorem dX12_load_12 : decode cX12_load 12 = .ok (.iload_n 2, 1) := by decide +kernel
theorem dX12_load_13 : decode cX12_load 13 = .ok (.invokestatic 115, 3) := by decide +kernel
theorem dX12_load_16 : decode cX12_load 16 = .ok (.ifCond .eq 13, 3) := by decide +kernel
theorem dX12_load_19 : decode cX12_load 19 = .ok (.iload_n 3, 1) := by decide +kernel
theorem dX12_load_20 : decode cX12_load 20 = .ok (.i2l, 1) := by decide +kernel
theorem dX12_load_21 : decode cX12_load 21 = .ok (.lconst 0, 1) := by decide +kernel
theorem dX12_load_22 : decode cX12_load 22 = .ok (.lconst 1, 1) := by decide +kernel
theorem dX12_load_23 : decode cX12_load 23 = .ok (.invokestatic 13, 3) := by decide +kernel
theorem dX12_load_26 : decode cX12_load 26 = .ok (.ifCond .ne 8, 3) := by decide +kernel
theorem dX12_load_29 : decode cX12_load 29 = .ok (.ldc 23, 2) := by decide +kernel
theorem dX12_load_31 : decode cX12_load 31 = .ok (.goto 22, 3) := by decide +kernel
theorem dX12_load_34 : decode cX12_load 34 = .ok (.iload_n 3, 1) := by decide +kernel
theorem dX12_load_35 : decode cX12_load 35 = .ok (.ifCond .ne 12, 3) := by decide +kernel
theorem dX12_load_38 : decode cX12_load 38 = .ok (.aload_n 0, 1) := by decide +kernel
theorem dX12_load_39 : decode cX12_load 39 = .ok (.iload_n 1, 1) := by decide +kernel
theorem dX12_load_40 : decode cX12_load 40 = .ok (.iload_n 2, 1) := by decide +kernel
theorem dX12_load_41 : decode cX12_load 41 = .ok (.invokevirtual 244, 3) := by decide +kernel
theorem dX12_load_44 : decode cX12_load 44 = .ok (.goto 9, 3) := by decide +kernel
theorem dX12_load_47 : decode cX12_load 47 = .ok (.aload_n 0, 1) := by decide +kernel
theorem dX12_load_48 : decode cX12_load 48 = .ok (.iload_n 1, 1) := by decide +kernel
theorem dX12_load_49 : decode cX12_load 49 = .ok (.iload_n 2, 1) := by decide +kernel
theorem dX12_load_50 : decode cX12_load 50 = .ok (.invokevirtual 247, 3) := by decide +kernel
theorem dX12_load_53 : decode cX12_load 53 = .ok (.ireturn, 1) := by decide +kernel
theorem dX12_distance_0 : decode cX12_distance 0 = .ok (.iload_n 0, 1) := by decide +kernel
theorem dX12_distance_1 : decode cX12_distance 1 = .ok (.ifCond .ge 8, 3) := by decide +kernel
theorem dX12_distance_4 : decode cX12_distance 4 = .ok (.iload_n 0, 1) := by decide +kernel
theorem dX12_distance_5 : decode cX12_distance 5 = .ok (.ineg, 1) := by decide +kernel
theorem dX12_distance_6 : decode cX12_distance 6 = .ok (.goto 4, 3) := by decide +kernel
theorem dX12_distance_9 : decode cX12_distance 9 = .ok (.iload_n 0, 1) := by decide +kernel
theorem dX12_distance_10 : decode cX12_distance 10 = .ok (.ireturn, 1) := by decide +kernel
theorem dX12_give_0 : decode cX12_give 0 = .ok (.iload_n 1, 1) := by decide +kernel
theorem dX12_give_1 : decode cX12_give 1 = .ok (.istore_n 3, 1) := by decide +kernel
theorem dX12_give_2 : decode cX12_give 2 = .ok (.iconst 0, 1) := by decide +kernel
theorem dX12_give_3 : decode cX12_give 3 = .ok (.istore 4, 2) := by decide +kernel
theorem dX12_give_5 : decode cX12_give 5 = .ok (.iconst 0, 1) := by decide +kernel
theorem dX12_give_6 : decode cX12_give 6 = .ok (.istore 5, 2) := by decide +kernel
theorem dX12_give_8 : decode cX12_give 8 = .ok (.iload 5, 2) := by decide +kernel
theorem dX12_give_10 : decode cX12_give 10 = .ok (.iconst 4, 1) := by decide +kernel
theorem dX12_give_11 : decode cX12_give 11 = .ok (.if_icmp .ge 45, 3) := by decide +kernel
theorem dX12_give_14 : decode cX12_give 14 = .ok (.aload_n 0, 1) := by decide +kernel
theorem dX12_give_15 : decode cX12_give 15 = .ok (.getfield 83, 3) := by decide +kernel
theorem dX12_give_18 : decode cX12_give 18 = .ok (.iload 5, 2) := by decide +kernel
theorem dX12_give_20 : decode cX12_give 20 = .ok (.iload_n 2, 1) := by decide +kernel
theorem dX12_give_21 : decode cX12_give 21 = .ok (.ifCond .ne 7, 3) := by decide +kernel
theorem dX12_give_24 : decode cX12_give 24 = .ok (.iconst 0, 1) := by decide +kernel
theorem dX12_give_25 : decode cX12_give 25 = .ok (.goto 14, 3) := by decide +kernel
theorem dX12_give_28 : decode cX12_give 28 = .ok (.iload_n 1, 1) := by decide +kernel
theorem dX12_give_29 : decode cX12_give 29 = .ok (.aload_n 0, 1) := by decide +kernel
theorem dX12_give_30 : decode cX12_give 30 = .ok (.getfield 80, 3) := by decide +kernel
theorem dX12_give_33 : decode cX12_give 33 = .ok (.iload 5, 2) := by decide +kernel
theorem dX12_give_35 : decode cX12_give 35 = .ok (.iaload, 1) := by decide +kernel
theorem dX12_give_36 : decode cX12_give 36 = .ok (.imul, 1) := by decide +kernel
theorem dX12_give_37 : decode cX12_give 37 = .ok (.iload_n 2, 1) := by decide +kernel
theorem dX12_give_38 : decode cX12_give 38 = .ok (.idiv, 1) := by decide +kernel
theorem dX12_give_39 : decode cX12_give 39 = .ok (.iastore, 1) := by decide +kernel
theorem dX12_give_40 : decode cX12_give 40 = .ok (.iload_n 3, 1) := by decide +kernel
theorem dX12_give_41 : decode cX12_give 41 = .ok (.aload_n 0, 1) := by decide +kernel
theorem dX12_give_42 : decode cX12_give 42 = .ok (.getfield 83, 3) := by decide +kernel
theorem dX12_give_45 : decode cX12_give 45 = .ok (.iload 5, 2) := by decide +kernel
theorem dX12_give_47 : decode cX12_give 47 = .ok (.iaload, 1) := by decide +kernel
theorem dX12_give_48 : decode cX12_give 48 = .ok (.isub, 1) := by decide +kernel
theorem dX12_give_49 : decode cX12_give 49 = .ok (.istore_n 3, 1) := by decide +kernel
theorem dX12_give_50 : decode cX12_give 50 = .ok (.iinc 5 1, 3) := by decide +kernel
theorem dX12_give_53 : decode cX12_give 53 = .ok (.goto (-45), 3) := by decide +kernel
theorem dX12_give_56 : decode cX12_give 56 = .ok (.iload_n 3, 1) := by decide +kernel
theorem dX12_give_57 : decode cX12_give 57 = .ok (.ifCond .le 103, 3) := by decide +kernel
theorem dX12_give_60 : decode cX12_give 60 = .ok (.iload_n 2, 1) := by decide +kernel
theorem dX12_give_61 : decode cX12_give 61 = .ok (.ifCond .le 99, 3) := by decide +kernel
theorem dX12_give_64 : decode cX12_give 64 = .ok (.ldc 131, 2) := by decide +kernel
theorem dX12_give_66 : decode cX12_give 66 = .ok (.istore 5, 2) := by decide +kernel
theorem dX12_give_68 : decode cX12_give 68 = .ok (.iconst 0, 1) := by decide +kernel
theorem dX12_give_69 : decode cX12_give 69 = .ok (.istore 6, 2) := by decide +kernel
theorem dX12_give_71 : decode cX12_give 71 = .ok (.iload 6, 2) := by decide +kernel
theorem dX12_give_73 : decode cX12_give 73 = .ok (.iconst 4, 1) := by decide +kernel
theorem dX12_give_74 : decode cX12_give 74 = .ok (.if_icmp .ge 60, 3) := by decide +kernel
theorem dX12_give_77 : decode cX12_give 77 = .ok (.iload 4, 2) := by decide +kernel
theorem dX12_give_79 : decode cX12_give 79 = .ok (.iload 6, 2) := by decide +kernel
theorem dX12_give_81 : decode cX12_give 81 = .ok (.ishr, 1) := by decide +kernel
theorem dX12_give_82 : decode cX12_give 82 = .ok (.iconst 1, 1) := by decide +kernel
theorem dX12_give_83 : decode cX12_give 83 = .ok (.iand, 1) := by decide +kernel
theorem dX12_give_84 : decode cX12_give 84 = .ok (.ifCond .ne 40, 3) := by decide +kernel
theorem dX12_give_87 : decode cX12_give 87 = .ok (.iload 5, 2) := by decide +kernel
theorem dX12_give_89 : decode cX12_give 89 = .ok (.ldc 131, 2) := by decide +kernel
theorem dX12_give_91 : decode cX12_give 91 = .ok (.if_icmp .eq 28, 3) := by decide +kernel
theorem dX12_give_94 : decode cX12_give 94 = .ok (.iload_n 1, 1) := by decide +kernel
theorem dX12_give_95 : decode cX12_give 95 = .ok (.aload_n 0, 1) := by decide +kernel
theorem dX12_give_96 : decode cX12_give 96 = .ok (.getfield 80, 3) := by decide +kernel
theorem dX12_give_99 : decode cX12_give 99 = .ok (.iload 6, 2) := by decide +kernel
theorem dX12_give_101 : decode cX12_give 101 = .ok (.iaload, 1) := by decide +kernel
theorem dX12_give_102 : decode cX12_give 102 = .ok (.imul, 1) := by decide +kernel
theorem dX12_give_103 : decode cX12_give 103 = .ok (.iload_n 2, 1) := by decide +kernel
theorem dX12_give_104 : decode cX12_give 104 = .ok (.irem, 1) := by decide +kernel
theorem dX12_give_105 : decode cX12_give 105 = .ok (.iload_n 1, 1) := by decide +kernel
theorem dX12_give_106 : decode cX12_give 106 = .ok (.aload_n 0, 1) := by decide +kernel
theorem dX12_give_107 : decode cX12_give 107 = .ok (.getfield 80, 3) := by decide +kernel
theorem dX12_give_110 : decode cX12_give 110 = .ok (.iload 5, 2) := by decide +kernel
theorem dX12_give_112 : decode cX12_give 112 = .ok (.iaload, 1) := by decide +kernel
theorem dX12_give_113 : decode cX12_give 113 = .ok (.imul, 1) := by decide +kernel
theorem dX12_give_114 : decode cX12_give 114 = .ok (.iload_n 2, 1) := by decide +kernel
theorem dX12_give_115 : decode cX12_give 115 = .ok (.irem, 1) := by decide +kernel
theorem dX12_give_116 : decode cX12_give 116 = .ok (.if_icmp .le 8, 3) := by decide +kernel
theorem dX12_give_119 : decode cX12_give 119 = .ok (.iload 6, 2) := by decide +kernel
theorem dX12_give_121 : decode cX12_give 121 = .ok (.goto 5, 3) := by decide +kernel
theorem dX12_give_124 : decode cX12_give 124 = .ok (.iload 5, 2) := by decide +kernel
theorem dX12_give_126 : decode cX12_give 126 = .ok (.istore 5, 2) := by decide +kernel
theorem dX12_give_128 : decode cX12_give 128 = .ok (.iinc 6 1, 3) := by decide +kernel
theorem dX12_give_131 : decode cX12_give 131 = .ok (.goto (-60), 3) := by decide +kernel
theorem dX12_give_134 : decode cX12_give 134 = .ok (.iload 4, 2) := by decide +kernel
theorem dX12_give_136 : decode cX12_give 136 = .ok (.iconst 1, 1) := by decide +kernel
theorem dX12_give_137 : decode cX12_give 137 = .ok (.iload 5, 2) := by decide +kernel
theorem dX12_give_139 : decode cX12_give 139 = .ok (.ishl, 1) := by decide +kernel
theorem dX12_give_140 : decode cX12_give 140 = .ok (.ior, 1) := by decide +kernel
theorem dX12_give_141 : decode cX12_give 141 = .ok (.istore 4, 2) := by decide +kernel
theorem dX12_give_143 : decode cX12_give 143 = .ok (.aload_n 0, 1) := by decide +kernel
theorem dX12_give_144 : decode cX12_give 144 = .ok (.getfield 83, 3) := by decide +kernel
theorem dX12_give_147 : decode cX12_give 147 = .ok (.iload 5, 2) := by decide +kernel
theorem dX12_give_149 : decode cX12_give 149 = .ok (.dup2, 1) := by decide +kernel
theorem dX12_give_150 : decode cX12_give 150 = .ok (.iaload, 1) := by decide +kernel
theorem dX12_give_151 : decode cX12_give 151 = .ok (.iconst 1, 1) := by decide +kernel
theorem dX12_give_152 : decode cX12_give 152 = .ok (.iadd, 1) := by decide +kernel
theorem dX12_give_153 : decode cX12_give 153 = .ok (.iastore, 1) := by decide +kernel
theorem dX12_give_154 : decode cX12_give 154 = .ok (.iinc 3 (-1), 3) := by decide +kernel
theorem dX12_give_157 : decode cX12_give 157 = .ok (.goto (-101), 3) := by decide +kernel
theorem dX12_give_160 : decode cX12_give 160 = .ok (.return_, 1) := by decide +kernel
theorem dX12_delaysOf_0 : decode cX12_delaysOf 0 = .ok (.iconst 0, 1) := by decide +kernel
theorem dX12_delaysOf_1 : decode cX12_delaysOf 1 = .ok (.istore_n 2, 1) := by decide +kernel
theorem dX12_delaysOf_2 : decode cX12_delaysOf 2 = .ok (.iconst 0, 1) := by decide +kernel
theorem dX12_delaysOf_3 : decode cX12_delaysOf 3 = .ok (.istore_n 3, 1) := by decide +kernel
theorem dX12_delaysOf_4 : decode cX12_delaysOf 4 = .ok (.iload_n 3, 1) := by decide +kernel
theorem dX12_delaysOf_5 : decode cX12_delaysOf 5 = .ok (.aload_n 0, 1) := by decide +kernel
theorem dX12_delaysOf_6 : decode cX12_delaysOf 6 = .ok (.getfield 138, 3) := by decide +kernel
theorem dX12_delaysOf_9 : decode cX12_delaysOf 9 = .ok (.if_icmp .ge 38, 3) := by decide +kernel
theorem dX12_delaysOf_12 : decode cX12_delaysOf 12 = .ok (.iload_n 2, 1) := by decide +kernel
theorem dX12_delaysOf_13 : decode cX12_delaysOf 13 = .ok (.iload_n 1, 1) := by decide +kernel
theorem dX12_delaysOf_14 : decode cX12_delaysOf 14 = .ok (.ifCond .lt 15, 3) := by decide +kernel
theorem dX12_delaysOf_17 : decode cX12_delaysOf 17 = .ok (.aload_n 0, 1) := by decide +kernel
theorem dX12_delaysOf_18 : decode cX12_delaysOf 18 = .ok (.getfield 56, 3) := by decide +kernel
theorem dX12_delaysOf_21 : decode cX12_delaysOf 21 = .ok (.iconst 5, 1) := by decide +kernel
theorem dX12_delaysOf_22 : decode cX12_delaysOf 22 = .ok (.iload_n 3, 1) := by decide +kernel
theorem dX12_delaysOf_23 : decode cX12_delaysOf 23 = .ok (.imul, 1) := by decide +kernel
theorem dX12_delaysOf_24 : decode cX12_delaysOf 24 = .ok (.iaload, 1) := by decide +kernel
theorem dX12_delaysOf_25 : decode cX12_delaysOf 25 = .ok (.iload_n 1, 1) := by decide +kernel
theorem dX12_delaysOf_26 : decode cX12_delaysOf 26 = .ok (.if_icmp .ne 12, 3) := by decide +kernel
theorem dX12_delaysOf_29 : decode cX12_delaysOf 29 = .ok (.aload_n 0, 1) := by decide +kernel
theorem dX12_delaysOf_30 : decode cX12_delaysOf 30 = .ok (.getfield 68, 3) := by decide +kernel
theorem dX12_delaysOf_33 : decode cX12_delaysOf 33 = .ok (.iload_n 3, 1) := by decide +kernel
theorem dX12_delaysOf_34 : decode cX12_delaysOf 34 = .ok (.iaload, 1) := by decide +kernel
theorem dX12_delaysOf_35 : decode cX12_delaysOf 35 = .ok (.goto 4, 3) := by decide +kernel
theorem dX12_delaysOf_38 : decode cX12_delaysOf 38 = .ok (.iconst 0, 1) := by decide +kernel
theorem dX12_delaysOf_39 : decode cX12_delaysOf 39 = .ok (.iadd, 1) := by decide +kernel
theorem dX12_delaysOf_40 : decode cX12_delaysOf 40 = .ok (.istore_n 2, 1) := by decide +kernel
theorem dX12_delaysOf_41 : decode cX12_delaysOf 41 = .ok (.iinc 3 1, 3) := by decide +kernel
theorem dX12_delaysOf_44 : decode cX12_delaysOf 44 = .ok (.goto (-40), 3) := by decide +kernel
theorem dX12_delaysOf_47 : decode cX12_delaysOf 47 = .ok (.iload_n 2, 1) := by decide +kernel
theorem dX12_delaysOf_48 : decode cX12_delaysOf 48 = .ok (.ireturn, 1) := by decide +kernel
theorem dX12_flightsOf_0 : decode cX12_flightsOf 0 = .ok (.iconst 0, 1) := by decide +kernel
theorem dX12_flightsOf_1 : decode cX12_flightsOf 1 = .ok (.istore_n 2, 1) := by decide +kernel
theorem dX12_flightsOf_2 : decode cX12_flightsOf 2 = .ok (.iconst 0, 1) := by decide +kernel
theorem dX12_flightsOf_3 : decode cX12_flightsOf 3 = .ok (.istore_n 3, 1) := by decide +kernel
theorem dX12_flightsOf_4 : decode cX12_flightsOf 4 = .ok (.iload_n 3, 1) := by decide +kernel
theorem dX12_flightsOf_5 : decode cX12_flightsOf 5 = .ok (.aload_n 0, 1) := by decide +kernel
theorem dX12_flightsOf_6 : decode cX12_flightsOf 6 = .ok (.getfield 138, 3) := by decide +kernel
theorem dX12_flightsOf_9 : decode cX12_flightsOf 9 = .ok (.if_icmp .ge 29, 3) := by decide +kernel
theorem dX12_flightsOf_12 : decode cX12_flightsOf 12 = .ok (.iload_n 2, 1) := by decide +kernel
theorem dX12_flightsOf_13 : decode cX12_flightsOf 13 = .ok (.aload_n 0, 1) := by decide +kernel
theorem dX12_flightsOf_14 : decode cX12_flightsOf 14 = .ok (.getfield 56, 3) := by decide +kernel
theorem dX12_flightsOf_17 : decode cX12_flightsOf 17 = .ok (.iconst 5, 1) := by decide +kernel
theorem dX12_flightsOf_18 : decode cX12_flightsOf 18 = .ok (.iload_n 3, 1) := by decide +kernel
theorem dX12_flightsOf_19 : decode cX12_flightsOf 19 = .ok (.imul, 1) := by decide +kernel
theorem dX12_flightsOf_20 : decode cX12_flightsOf 20 = .ok (.iaload, 1) := by decide +kernel
theorem dX12_flightsOf_21 : decode cX12_flightsOf 21 = .ok (.iload_n 1, 1) := by decide +kernel
theorem dX12_flightsOf_22 : decode cX12_flightsOf 22 = .ok (.if_icmp .ne 7, 3) := by decide +kernel
theorem dX12_flightsOf_25 : decode cX12_flightsOf 25 = .ok (.iconst 1, 1) := by decide +kernel
theorem dX12_flightsOf_26 : decode cX12_flightsOf 26 = .ok (.goto 4, 3) := by decide +kernel
theorem dX12_flightsOf_29 : decode cX12_flightsOf 29 = .ok (.iconst 0, 1) := by decide +kernel
theorem dX12_flightsOf_30 : decode cX12_flightsOf 30 = .ok (.iadd, 1) := by decide +kernel
theorem dX12_flightsOf_31 : decode cX12_flightsOf 31 = .ok (.istore_n 2, 1) := by decide +kernel
theorem dX12_flightsOf_32 : decode cX12_flightsOf 32 = .ok (.iinc 3 1, 3) := by decide +kernel
theorem dX12_flightsOf_35 : decode cX12_flightsOf 35 = .ok (.goto (-31), 3) := by decide +kernel
theorem dX12_flightsOf_38 : decode cX12_flightsOf 38 = .ok (.iload_n 2, 1) := by decide +kernel
theorem dX12_flightsOf_39 : decode cX12_flightsOf 39 = .ok (.ireturn, 1) := by decide +kernel
theorem dX12_shares_0 : decode cX12_shares 0 = .ok (.iconst 0, 1) := by decide +kernel
theorem dX12_shares_1 : decode cX12_shares 1 = .ok (.istore_n 1, 1) := by decide +kernel
theorem dX12_shares_2 : decode cX12_shares 2 = .ok (.iload_n 1, 1) := by decide +kernel
theorem dX12_shares_3 : decode cX12_shares 3 = .ok (.iconst 4, 1) := by decide +kernel
theorem dX12_shares_4 : decode cX12_shares 4 = .ok (.if_icmp .ge 20, 3) := by decide +kernel
theorem dX12_shares_7 : decode cX12_shares 7 = .ok (.aload_n 0, 1) := by decide +kernel
theorem dX12_shares_8 : decode cX12_shares 8 = .ok (.getfield 80, 3) := by decide +kernel
theorem dX12_shares_11 : decode cX12_shares 11 = .ok (.iload_n 1, 1) := by decide +kernel
theorem dX12_shares_12 : decode cX12_shares 12 = .ok (.aload_n 0, 1) := by decide +kernel
theorem dX12_shares_13 : decode cX12_shares 13 = .ok (.iload_n 1, 1) := by decide +kernel
theorem dX12_shares_14 : decode cX12_shares 14 = .ok (.invokevirtual 250, 3) := by decide +kernel
theorem dX12_shares_17 : decode cX12_shares 17 = .ok (.iastore, 1) := by decide +kernel
theorem dX12_shares_18 : decode cX12_shares 18 = .ok (.iinc 1 1, 3) := by decide +kernel
theorem dX12_shares_21 : decode cX12_shares 21 = .ok (.goto (-19), 3) := by decide +kernel
theorem dX12_shares_24 : decode cX12_shares 24 = .ok (.aload_n 0, 1) := by decide +kernel
theorem dX12_shares_25 : decode cX12_shares 25 = .ok (.aload_n 0, 1) := by decide +kernel
theorem dX12_shares_26 : decode cX12_shares 26 = .ok (.iconst (-1), 1) := by decide +kernel
theorem dX12_shares_27 : decode cX12_shares 27 = .ok (.invokevirtual 253, 3) := by decide +kernel
theorem dX12_shares_30 : decode cX12_shares 30 = .ok (.aload_n 0, 1) := by decide +kernel
theorem dX12_shares_31 : decode cX12_shares 31 = .ok (.getfield 138, 3) := by decide +kernel
theorem dX12_shares_34 : decode cX12_shares 34 = .ok (.invokevirtual 256, 3) := by decide +kernel
theorem dX12_shares_37 : decode cX12_shares 37 = .ok (.return_, 1) := by decide +kernel
theorem dX12_all_0 : decode cX12_all 0 = .ok (.aload_n 0, 1) := by decide +kernel
theorem dX12_all_1 : decode cX12_all 1 = .ok (.iconst 0, 1) := by decide +kernel
theorem dX12_all_2 : decode cX12_all 2 = .ok (.putfield 1, 3) := by decide +kernel
theorem dX12_all_5 : decode cX12_all 5 = .ok (.iload_n 1, 1) := by decide +kernel
theorem dX12_all_6 : decode cX12_all 6 = .ok (.i2l, 1) := by decide +kernel
theorem dX12_all_7 : decode cX12_all 7 = .ok (.lconst 0, 1) := by decide +kernel
theorem dX12_all_8 : decode cX12_all 8 = .ok (.ldc2_w 260, 3) := by decide +kernel
theorem dX12_all_11 : decode cX12_all 11 = .ok (.invokestatic 13, 3) := by decide +kernel
theorem dX12_all_14 : decode cX12_all 14 = .ok (.ifCond .ne 6, 3) := by decide +kernel
theorem dX12_all_17 : decode cX12_all 17 = .ok (.ldc 23, 2) := by decide +kernel
theorem dX12_all_19 : decode cX12_all 19 = .ok (.ireturn, 1) := by decide +kernel
theorem dX12_all_20 : decode cX12_all 20 = .ok (.iconst 0, 1) := by decide +kernel
theorem dX12_all_21 : decode cX12_all 21 = .ok (.istore_n 2, 1) := by decide +kernel
theorem dX12_all_22 : decode cX12_all 22 = .ok (.iload_n 1, 1) := by decide +kernel
theorem dX12_all_23 : decode cX12_all 23 = .ok (.ifCond .ne 8, 3) := by decide +kernel
theorem dX12_all_26 : decode cX12_all 26 = .ok (.aload_n 0, 1) := by decide +kernel
theorem dX12_all_27 : decode cX12_all 27 = .ok (.invokevirtual 262, 3) := by decide +kernel
theorem dX12_all_30 : decode cX12_all 30 = .ok (.ireturn, 1) := by decide +kernel
theorem dX12_all_31 : decode cX12_all 31 = .ok (.iload_n 1, 1) := by decide +kernel
theorem dX12_all_32 : decode cX12_all 32 = .ok (.iconst 2, 1) := by decide +kernel
theorem dX12_all_33 : decode cX12_all 33 = .ok (.if_icmp .ne 9, 3) := by decide +kernel
theorem dX12_all_36 : decode cX12_all 36 = .ok (.aload_n 0, 1) := by decide +kernel
theorem dX12_all_37 : decode cX12_all 37 = .ok (.iconst (-1), 1) := by decide +kernel
theorem dX12_all_38 : decode cX12_all 38 = .ok (.invokevirtual 253, 3) := by decide +kernel
theorem dX12_all_41 : decode cX12_all 41 = .ok (.ireturn, 1) := by decide +kernel
theorem dX12_all_42 : decode cX12_all 42 = .ok (.iload_n 1, 1) := by decide +kernel
theorem dX12_all_43 : decode cX12_all 43 = .ok (.iconst 1, 1) := by decide +kernel
theorem dX12_all_44 : decode cX12_all 44 = .ok (.if_icmp .ne 30, 3) := by decide +kernel
theorem dX12_all_47 : decode cX12_all 47 = .ok (.iconst 0, 1) := by decide +kernel
theorem dX12_all_48 : decode cX12_all 48 = .ok (.istore_n 3, 1) := by decide +kernel
theorem dX12_all_49 : decode cX12_all 49 = .ok (.iload_n 3, 1) := by decide +kernel
theorem dX12_all_50 : decode cX12_all 50 = .ok (.aload_n 0, 1) := by decide +kernel
theorem dX12_all_51 : decode cX12_all 51 = .ok (.getfield 138, 3) := by decide +kernel
theorem dX12_all_54 : decode cX12_all 54 = .ok (.if_icmp .ge 17, 3) := by decide +kernel
theorem dX12_all_57 : decode cX12_all 57 = .ok (.iload_n 2, 1) := by decide +kernel
theorem dX12_all_58 : decode cX12_all 58 = .ok (.aload_n 0, 1) := by decide +kernel
theorem dX12_all_59 : decode cX12_all 59 = .ok (.iload_n 3, 1) := by decide +kernel
theorem dX12_all_60 : decode cX12_all 60 = .ok (.invokevirtual 236, 3) := by decide +kernel
theorem dX12_all_63 : decode cX12_all 63 = .ok (.iadd, 1) := by decide +kernel
theorem dX12_all_64 : decode cX12_all 64 = .ok (.istore_n 2, 1) := by decide +kernel
theorem dX12_all_65 : decode cX12_all 65 = .ok (.iinc 3 1, 3) := by decide +kernel
theorem dX12_all_68 : decode cX12_all 68 = .ok (.goto (-19), 3) := by decide +kernel
theorem dX12_all_71 : decode cX12_all 71 = .ok (.goto 120, 3) := by decide +kernel
theorem dX12_all_74 : decode cX12_all 74 = .ok (.iload_n 1, 1) := by decide +kernel
theorem dX12_all_75 : decode cX12_all 75 = .ok (.iconst 3, 1) := by decide +kernel
theorem dX12_all_76 : decode cX12_all 76 = .ok (.if_icmp .ne 41, 3) := by decide +kernel
theorem dX12_all_79 : decode cX12_all 79 = .ok (.aload_n 0, 1) := by decide +kernel
theorem dX12_all_80 : decode cX12_all 80 = .ok (.invokevirtual 266, 3) := by decide +kernel
theorem dX12_all_83 : decode cX12_all 83 = .ok (.iconst 0, 1) := by decide +kernel
theorem dX12_all_84 : decode cX12_all 84 = .ok (.istore_n 3, 1) := by decide +kernel
theorem dX12_all_85 : decode cX12_all 85 = .ok (.iload_n 3, 1) := by decide +kernel
theorem dX12_all_86 : decode cX12_all 86 = .ok (.iconst 4, 1) := by decide +kernel
theorem dX12_all_87 : decode cX12_all 87 = .ok (.if_icmp .ge 27, 3) := by decide +kernel
theorem dX12_all_90 : decode cX12_all 90 = .ok (.iload_n 2, 1) := by decide +kernel
theorem dX12_all_91 : decode cX12_all 91 = .ok (.aload_n 0, 1) := by decide +kernel
theorem dX12_all_92 : decode cX12_all 92 = .ok (.iload_n 3, 1) := by decide +kernel
theorem dX12_all_93 : decode cX12_all 93 = .ok (.invokevirtual 253, 3) := by decide +kernel
theorem dX12_all_96 : decode cX12_all 96 = .ok (.aload_n 0, 1) := by decide +kernel
theorem dX12_all_97 : decode cX12_all 97 = .ok (.getfield 83, 3) := by decide +kernel
theorem dX12_all_100 : decode cX12_all 100 = .ok (.iload_n 3, 1) := by decide +kernel
theorem dX12_all_101 : decode cX12_all 101 = .ok (.iaload, 1) := by decide +kernel
theorem dX12_all_102 : decode cX12_all 102 = .ok (.isub, 1) := by decide +kernel
theorem dX12_all_103 : decode cX12_all 103 = .ok (.invokestatic 269, 3) := by decide +kernel
theorem dX12_all_106 : decode cX12_all 106 = .ok (.iadd, 1) := by decide +kernel
theorem dX12_all_107 : decode cX12_all 107 = .ok (.istore_n 2, 1) := by decide +kernel
theorem dX12_all_108 : decode cX12_all 108 = .ok (.iinc 3 1, 3) := by decide +kernel
theorem dX12_all_111 : decode cX12_all 111 = .ok (.goto (-26), 3) := by decide +kernel
theorem dX12_all_114 : decode cX12_all 114 = .ok (.goto 77, 3) := by decide +kernel
theorem dX12_all_117 : decode cX12_all 117 = .ok (.iconst 0, 1) := by decide +kernel
theorem dX12_all_118 : decode cX12_all 118 = .ok (.istore_n 3, 1) := by decide +kernel
theorem dX12_all_119 : decode cX12_all 119 = .ok (.iload_n 3, 1) := by decide +kernel
theorem dX12_all_120 : decode cX12_all 120 = .ok (.sipush 384, 3) := by decide +kernel
theorem dX12_all_123 : decode cX12_all 123 = .ok (.if_icmp .ge 68, 3) := by decide +kernel
theorem dX12_all_126 : decode cX12_all 126 = .ok (.aload_n 0, 1) := by decide +kernel
theorem dX12_all_127 : decode cX12_all 127 = .ok (.iload_n 3, 1) := by decide +kernel
theorem dX12_all_128 : decode cX12_all 128 = .ok (.bipush 48, 2) := by decide +kernel
theorem dX12_all_130 : decode cX12_all 130 = .ok (.idiv, 1) := by decide +kernel
theorem dX12_all_131 : decode cX12_all 131 = .ok (.iload_n 3, 1) := by decide +kernel
theorem dX12_all_132 : decode cX12_all 132 = .ok (.bipush 48, 2) := by decide +kernel
theorem dX12_all_134 : decode cX12_all 134 = .ok (.irem, 1) := by decide +kernel
theorem dX12_all_135 : decode cX12_all 135 = .ok (.invokevirtual 244, 3) := by decide +kernel
theorem dX12_all_138 : decode cX12_all 138 = .ok (.istore 4, 2) := by decide +kernel
theorem dX12_all_140 : decode cX12_all 140 = .ok (.iload_n 1, 1) := by decide +kernel
theorem dX12_all_141 : decode cX12_all 141 = .ok (.iconst 5, 1) := by decide +kernel
theorem dX12_all_142 : decode cX12_all 142 = .ok (.if_icmp .ne 18, 3) := by decide +kernel
theorem dX12_all_145 : decode cX12_all 145 = .ok (.iload 4, 2) := by decide +kernel
theorem dX12_all_147 : decode cX12_all 147 = .ok (.iload_n 2, 1) := by decide +kernel
theorem dX12_all_148 : decode cX12_all 148 = .ok (.if_icmp .le 8, 3) := by decide +kernel
theorem dX12_all_151 : decode cX12_all 151 = .ok (.iload 4, 2) := by decide +kernel
theorem dX12_all_153 : decode cX12_all 153 = .ok (.goto 31, 3) := by decide +kernel
theorem dX12_all_156 : decode cX12_all 156 = .ok (.iload_n 2, 1) := by decide +kernel
theorem dX12_all_157 : decode cX12_all 157 = .ok (.goto 27, 3) := by decide +kernel
theorem dX12_all_160 : decode cX12_all 160 = .ok (.iload_n 2, 1) := by decide +kernel
theorem dX12_all_161 : decode cX12_all 161 = .ok (.iload 4, 2) := by decide +kernel
theorem dX12_all_163 : decode cX12_all 163 = .ok (.aload_n 0, 1) := by decide +kernel
theorem dX12_all_164 : decode cX12_all 164 = .ok (.iload_n 3, 1) := by decide +kernel
theorem dX12_all_165 : decode cX12_all 165 = .ok (.bipush 48, 2) := by decide +kernel
theorem dX12_all_167 : decode cX12_all 167 = .ok (.idiv, 1) := by decide +kernel
theorem dX12_all_168 : decode cX12_all 168 = .ok (.iload_n 3, 1) := by decide +kernel
theorem dX12_all_169 : decode cX12_all 169 = .ok (.bipush 48, 2) := by decide +kernel
theorem dX12_all_171 : decode cX12_all 171 = .ok (.irem, 1) := by decide +kernel
theorem dX12_all_172 : decode cX12_all 172 = .ok (.invokevirtual 134, 3) := by decide +kernel
theorem dX12_all_175 : decode cX12_all 175 = .ok (.if_icmp .le 7, 3) := by decide +kernel
theorem dX12_all_178 : decode cX12_all 178 = .ok (.iconst 1, 1) := by decide +kernel
theorem dX12_all_179 : decode cX12_all 179 = .ok (.goto 4, 3) := by decide +kernel
theorem dX12_all_182 : decode cX12_all 182 = .ok (.iconst 0, 1) := by decide +kernel
theorem dX12_all_183 : decode cX12_all 183 = .ok (.iadd, 1) := by decide +kernel
theorem dX12_all_184 : decode cX12_all 184 = .ok (.istore_n 2, 1) := by decide +kernel
theorem dX12_all_185 : decode cX12_all 185 = .ok (.iinc 3 1, 3) := by decide +kernel
theorem dX12_all_188 : decode cX12_all 188 = .ok (.goto (-69), 3) := by decide +kernel
theorem dX12_all_191 : decode cX12_all 191 = .ok (.iload_n 2, 1) := by decide +kernel
theorem dX12_all_192 : decode cX12_all 192 = .ok (.ireturn, 1) := by decide +kernel
theorem dX12_known_0 : decode cX12_known 0 = .ok (.aload_n 0, 1) := by decide +kernel
theorem dX12_known_1 : decode cX12_known 1 = .ok (.iconst 0, 1) := by decide +kernel
theorem dX12_known_2 : decode cX12_known 2 = .ok (.putfield 1, 3) := by decide +kernel
theorem dX12_known_5 : decode cX12_known 5 = .ok (.iload_n 1, 1) := by decide +kernel
theorem dX12_known_6 : decode cX12_known 6 = .ok (.invokestatic 112, 3) := by decide +kernel
theorem dX12_known_9 : decode cX12_known 9 = .ok (.ifCond .eq 14, 3) := by decide +kernel
theorem dX12_known_12 : decode cX12_known 12 = .ok (.iload_n 2, 1) := by decide +kernel
theorem dX12_known_13 : decode cX12_known 13 = .ok (.invokestatic 115, 3) := by decide +kernel
theorem dX12_known_16 : decode cX12_known 16 = .ok (.ifCond .eq 7, 3) := by decide +kernel
theorem dX12_known_19 : decode cX12_known 19 = .ok (.iload_n 3, 1) := by decide +kernel
theorem dX12_known_20 : decode cX12_known 20 = .ok (.ifCond .ge 6, 3) := by decide +kernel
theorem dX12_known_23 : decode cX12_known 23 = .ok (.ldc 23, 2) := by decide +kernel
theorem dX12_known_25 : decode cX12_known 25 = .ok (.ireturn, 1) := by decide +kernel
theorem dX12_known_26 : decode cX12_known 26 = .ok (.iconst 0, 1) := by decide +kernel
theorem dX12_known_27 : decode cX12_known 27 = .ok (.istore 4, 2) := by decide +kernel
theorem dX12_known_29 : decode cX12_known 29 = .ok (.iconst 0, 1) := by decide +kernel
theorem dX12_known_30 : decode cX12_known 30 = .ok (.istore 5, 2) := by decide +kernel
theorem dX12_known_32 : decode cX12_known 32 = .ok (.iload 5, 2) := by decide +kernel
theorem dX12_known_34 : decode cX12_known 34 = .ok (.aload_n 0, 1) := by decide +kernel
theorem dX12_known_35 : decode cX12_known 35 = .ok (.getfield 138, 3) := by decide +kernel
theorem dX12_known_38 : decode cX12_known 38 = .ok (.if_icmp .ge 48, 3) := by decide +kernel
theorem dX12_known_41 : decode cX12_known 41 = .ok (.iload 5, 2) := by decide +kernel
theorem dX12_known_43 : decode cX12_known 43 = .ok (.iload_n 3, 1) := by decide +kernel
theorem dX12_known_44 : decode cX12_known 44 = .ok (.if_icmp .gt 42, 3) := by decide +kernel
theorem dX12_known_47 : decode cX12_known 47 = .ok (.iload 4, 2) := by decide +kernel
theorem dX12_known_49 : decode cX12_known 49 = .ok (.aload_n 0, 1) := by decide +kernel
theorem dX12_known_50 : decode cX12_known 50 = .ok (.iload 5, 2) := by decide +kernel
theorem dX12_known_52 : decode cX12_known 52 = .ok (.iconst 0, 1) := by decide +kernel
theorem dX12_known_53 : decode cX12_known 53 = .ok (.iconst 0, 1) := by decide +kernel
theorem dX12_known_54 : decode cX12_known 54 = .ok (.iload_n 2, 1) := by decide +kernel
theorem dX12_known_55 : decode cX12_known 55 = .ok (.invokevirtual 241, 3) := by decide +kernel
theorem dX12_known_58 : decode cX12_known 58 = .ok (.iload_n 1, 1) := by decide +kernel
theorem dX12_known_59 : decode cX12_known 59 = .ok (.if_icmp .ne 17, 3) := by decide +kernel
theorem dX12_known_62 : decode cX12_known 62 = .ok (.aload_n 0, 1) := by decide +kernel
theorem dX12_known_63 : decode cX12_known 63 = .ok (.getfield 56, 3) := by decide +kernel
theorem dX12_known_66 : decode cX12_known 66 = .ok (.iconst 5, 1) := by decide +kernel
theorem dX12_known_67 : decode cX12_known 67 = .ok (.iload 5, 2) := by decide +kernel
theorem dX12_known_69 : decode cX12_known 69 = .ok (.imul, 1) := by decide +kernel
theorem dX12_known_70 : decode cX12_known 70 = .ok (.iconst 1, 1) := by decide +kernel
theorem dX12_known_71 : decode cX12_known 71 = .ok (.iadd, 1) := by decide +kernel
theorem dX12_known_72 : decode cX12_known 72 = .ok (.iaload, 1) := by decide +kernel
theorem dX12_known_73 : decode cX12_known 73 = .ok (.goto 4, 3) := by decide +kernel
theorem dX12_known_76 : decode cX12_known 76 = .ok (.iconst 0, 1) := by decide +kernel
theorem dX12_known_77 : decode cX12_known 77 = .ok (.iadd, 1) := by decide +kernel
theorem dX12_known_78 : decode cX12_known 78 = .ok (.istore 4, 2) := by decide +kernel
theorem dX12_known_80 : decode cX12_known 80 = .ok (.iinc 5 1, 3) := by decide +kernel
theorem dX12_known_83 : decode cX12_known 83 = .ok (.goto (-51), 3) := by decide +kernel
theorem dX12_known_86 : decode cX12_known 86 = .ok (.iload 4, 2) := by decide +kernel
theorem dX12_known_88 : decode cX12_known 88 = .ok (.ireturn, 1) := by decide +kernel
theorem dX12_bits_0 : decode cX12_bits 0 = .ok (.iconst 0, 1) := by decide +kernel
theorem dX12_bits_1 : decode cX12_bits 1 = .ok (.istore_n 1, 1) := by decide +kernel
theorem dX12_bits_2 : decode cX12_bits 2 = .ok (.iconst 0, 1) := by decide +kernel
theorem dX12_bits_3 : decode cX12_bits 3 = .ok (.istore_n 2, 1) := by decide +kernel
theorem dX12_bits_4 : decode cX12_bits 4 = .ok (.iload_n 2, 1) := by decide +kernel
theorem dX12_bits_5 : decode cX12_bits 5 = .ok (.bipush 12, 2) := by decide +kernel
theorem dX12_bits_7 : decode cX12_bits 7 = .ok (.if_icmp .ge 17, 3) := by decide +kernel
theorem dX12_bits_10 : decode cX12_bits 10 = .ok (.iload_n 1, 1) := by decide +kernel
theorem dX12_bits_11 : decode cX12_bits 11 = .ok (.iload_n 0, 1) := by decide +kernel
theorem dX12_bits_12 : decode cX12_bits 12 = .ok (.iload_n 2, 1) := by decide +kernel
theorem dX12_bits_13 : decode cX12_bits 13 = .ok (.ishr, 1) := by decide +kernel
theorem dX12_bits_14 : decode cX12_bits 14 = .ok (.iconst 1, 1) := by decide +kernel
theorem dX12_bits_15 : decode cX12_bits 15 = .ok (.iand, 1) := by decide +kernel
theorem dX12_bits_16 : decode cX12_bits 16 = .ok (.iadd, 1) := by decide +kernel
theorem dX12_bits_17 : decode cX12_bits 17 = .ok (.istore_n 1, 1) := by decide +kernel
theorem dX12_bits_18 : decode cX12_bits 18 = .ok (.iinc 2 1, 3) := by decide +kernel
theorem dX12_bits_21 : decode cX12_bits 21 = .ok (.goto (-17), 3) := by decide +kernel
theorem dX12_bits_24 : decode cX12_bits 24 = .ok (.iload_n 1, 1) := by decide +kernel
theorem dX12_bits_25 : decode cX12_bits 25 = .ok (.ireturn, 1) := by decide +kernel
theorem dX12_findSplits_0 : decode cX12_findSplits 0 = .ok (.iconst 0, 1) := by decide +kernel
theorem dX12_findSplits_1 : decode cX12_findSplits 1 = .ok (.istore_n 1, 1) := by decide +kernel
theorem dX12_findSplits_2 : decode cX12_findSplits 2 = .ok (.iload_n 1, 1) := by decide +kernel
theorem dX12_findSplits_3 : decode cX12_findSplits 3 = .ok (.bipush 48, 2) := by decide +kernel
theorem dX12_findSplits_5 : decode cX12_findSplits 5 = .ok (.if_icmp .ge 139, 3) := by decide +kernel
theorem dX12_findSplits_8 : decode cX12_findSplits 8 = .ok (.iconst 0, 1) := by decide +kernel
theorem dX12_findSplits_9 : decode cX12_findSplits 9 = .ok (.istore_n 2, 1) := by decide +kernel
theorem dX12_findSplits_10 : decode cX12_findSplits 10 = .ok (.iload_n 2, 1) := by decide +kernel
theorem dX12_findSplits_11 : decode cX12_findSplits 11 = .ok (.bipush 64, 2) := by decide +kernel
theorem dX12_findSplits_13 : decode cX12_findSplits 13 = .ok (.if_icmp .ge 125, 3) := by decide +kernel
theorem dX12_findSplits_16 : decode cX12_findSplits 16 = .ok (.iconst 0, 1) := by decide +kernel
theorem dX12_findSplits_17 : decode cX12_findSplits 17 = .ok (.istore_n 3, 1) := by decide +kernel
theorem dX12_findSplits_18 : decode cX12_findSplits 18 = .ok (.iconst 0, 1) := by decide +kernel
theorem dX12_findSplits_19 : decode cX12_findSplits 19 = .ok (.istore 4, 2) := by decide +kernel
theorem dX12_findSplits_21 : decode cX12_findSplits 21 = .ok (.iload 4, 2) := by decide +kernel
theorem dX12_findSplits_23 : decode cX12_findSplits 23 = .ok (.bipush 8, 2) := by decide +kernel
theorem dX12_findSplits_25 : decode cX12_findSplits 25 = .ok (.if_icmp .ge 74, 3) := by decide +kernel
theorem dX12_findSplits_28 : decode cX12_findSplits 28 = .ok (.aload_n 0, 1) := by decide +kernel
theorem dX12_findSplits_29 : decode cX12_findSplits 29 = .ok (.iload 4, 2) := by decide +kernel
theorem dX12_findSplits_31 : decode cX12_findSplits 31 = .ok (.iload_n 1, 1) := by decide +kernel
theorem dX12_findSplits_32 : decode cX12_findSplits 32 = .ok (.invokevirtual 134, 3) := by decide +kernel
theorem dX12_findSplits_35 : decode cX12_findSplits 35 = .ok (.istore 5, 2) := by decide +kernel
theorem dX12_findSplits_37 : decode cX12_findSplits 37 = .ok (.iload 5, 2) := by decide +kernel
theorem dX12_findSplits_39 : decode cX12_findSplits 39 = .ok (.iload 4, 2) := by decide +kernel
theorem dX12_findSplits_41 : decode cX12_findSplits 41 = .ok (.bipush 6, 2) := by decide +kernel
theorem dX12_findSplits_43 : decode cX12_findSplits 43 = .ok (.if_icmp .ge 20, 3) := by decide +kernel
theorem dX12_findSplits_46 : decode cX12_findSplits 46 = .ok (.iload_n 2, 1) := by decide +kernel
theorem dX12_findSplits_47 : decode cX12_findSplits 47 = .ok (.iload 4, 2) := by decide +kernel
theorem dX12_findSplits_49 : decode cX12_findSplits 49 = .ok (.ishr, 1) := by decide +kernel
theorem dX12_findSplits_50 : decode cX12_findSplits 50 = .ok (.iconst 1, 1) := by decide +kernel
theorem dX12_findSplits_51 : decode cX12_findSplits 51 = .ok (.iand, 1) := by decide +kernel
theorem dX12_findSplits_52 : decode cX12_findSplits 52 = .ok (.iconst 1, 1) := by decide +kernel
theorem dX12_findSplits_53 : decode cX12_findSplits 53 = .ok (.if_icmp .ne 10, 3) := by decide +kernel
theorem dX12_findSplits_56 : decode cX12_findSplits 56 = .ok (.iload 5, 2) := by decide +kernel
theorem dX12_findSplits_58 : decode cX12_findSplits 58 = .ok (.iconst 2, 1) := by decide +kernel
theorem dX12_findSplits_59 : decode cX12_findSplits 59 = .ok (.idiv, 1) := by decide +kernel
theorem dX12_findSplits_60 : decode cX12_findSplits 60 = .ok (.goto 4, 3) := by decide +kernel
theorem dX12_findSplits_63 : decode cX12_findSplits 63 = .ok (.iconst 0, 1) := by decide +kernel
theorem dX12_findSplits_64 : decode cX12_findSplits 64 = .ok (.iadd, 1) := by decide +kernel
theorem dX12_findSplits_65 : decode cX12_findSplits 65 = .ok (.istore 5, 2) := by decide +kernel
theorem dX12_findSplits_67 : decode cX12_findSplits 67 = .ok (.aload_n 0, 1) := by decide +kernel
theorem dX12_findSplits_68 : decode cX12_findSplits 68 = .ok (.iload 4, 2) := by decide +kernel
theorem dX12_findSplits_70 : decode cX12_findSplits 70 = .ok (.iload_n 1, 1) := by decide +kernel
theorem dX12_findSplits_71 : decode cX12_findSplits 71 = .ok (.invokevirtual 244, 3) := by decide +kernel
theorem dX12_findSplits_74 : decode cX12_findSplits 74 = .ok (.iload 5, 2) := by decide +kernel
theorem dX12_findSplits_76 : decode cX12_findSplits 76 = .ok (.isub, 1) := by decide +kernel
theorem dX12_findSplits_77 : decode cX12_findSplits 77 = .ok (.istore 6, 2) := by decide +kernel
theorem dX12_findSplits_79 : decode cX12_findSplits 79 = .ok (.iload_n 3, 1) := by decide +kernel
theorem dX12_findSplits_80 : decode cX12_findSplits 80 = .ok (.iload 6, 2) := by decide +kernel
theorem dX12_findSplits_82 : decode cX12_findSplits 82 = .ok (.ifCond .le 8, 3) := by decide +kernel
theorem dX12_findSplits_85 : decode cX12_findSplits 85 = .ok (.iload 6, 2) := by decide +kernel
theorem dX12_findSplits_87 : decode cX12_findSplits 87 = .ok (.goto 4, 3) := by decide +kernel
theorem dX12_findSplits_90 : decode cX12_findSplits 90 = .ok (.iconst 0, 1) := by decide +kernel
theorem dX12_findSplits_91 : decode cX12_findSplits 91 = .ok (.iadd, 1) := by decide +kernel
theorem dX12_findSplits_92 : decode cX12_findSplits 92 = .ok (.istore_n 3, 1) := by decide +kernel
theorem dX12_findSplits_93 : decode cX12_findSplits 93 = .ok (.iinc 4 1, 3) := by decide +kernel
theorem dX12_findSplits_96 : decode cX12_findSplits 96 = .ok (.goto (-75), 3) := by decide +kernel
theorem dX12_findSplits_99 : decode cX12_findSplits 99 = .ok (.aload_n 0, 1) := by decide +kernel
theorem dX12_findSplits_100 : decode cX12_findSplits 100 = .ok (.getfield 86, 3) := by decide +kernel
theorem dX12_findSplits_103 : decode cX12_findSplits 103 = .ok (.bipush 64, 2) := by decide +kernel
theorem dX12_findSplits_105 : decode cX12_findSplits 105 = .ok (.iload_n 1, 1) := by decide +kernel
theorem dX12_findSplits_106 : decode cX12_findSplits 106 = .ok (.imul, 1) := by decide +kernel
theorem dX12_findSplits_107 : decode cX12_findSplits 107 = .ok (.iload_n 2, 1) := by decide +kernel
theorem dX12_findSplits_108 : decode cX12_findSplits 108 = .ok (.iadd, 1) := by decide +kernel
theorem dX12_findSplits_109 : decode cX12_findSplits 109 = .ok (.iload_n 2, 1) := by decide +kernel
theorem dX12_findSplits_110 : decode cX12_findSplits 110 = .ok (.invokestatic 272, 3) := by decide +kernel
theorem dX12_findSplits_113 : decode cX12_findSplits 113 = .ok (.aload_n 0, 1) := by decide +kernel
theorem dX12_findSplits_114 : decode cX12_findSplits 114 = .ok (.getfield 47, 3) := by decide +kernel
theorem dX12_findSplits_117 : decode cX12_findSplits 117 = .ok (.iload_n 1, 1) := by decide +kernel
theorem dX12_findSplits_118 : decode cX12_findSplits 118 = .ok (.iaload, 1) := by decide +kernel
theorem dX12_findSplits_119 : decode cX12_findSplits 119 = .ok (.if_icmp .le 8, 3) := by decide +kernel
theorem dX12_findSplits_122 : decode cX12_findSplits 122 = .ok (.ldc 131, 2) := by decide +kernel
theorem dX12_findSplits_124 : decode cX12_findSplits 124 = .ok (.goto 7, 3) := by decide +kernel
theorem dX12_findSplits_127 : decode cX12_findSplits 127 = .ok (.bipush 10, 2) := by decide +kernel
theorem dX12_findSplits_129 : decode cX12_findSplits 129 = .ok (.iload_n 3, 1) := by decide +kernel
theorem dX12_findSplits_130 : decode cX12_findSplits 130 = .ok (.imul, 1) := by decide +kernel
theorem dX12_findSplits_131 : decode cX12_findSplits 131 = .ok (.iastore, 1) := by decide +kernel
theorem dX12_findSplits_132 : decode cX12_findSplits 132 = .ok (.iinc 2 1, 3) := by decide +kernel
theorem dX12_findSplits_135 : decode cX12_findSplits 135 = .ok (.goto (-125), 3) := by decide +kernel
theorem dX12_findSplits_138 : decode cX12_findSplits 138 = .ok (.iinc 1 1, 3) := by decide +kernel
theorem dX12_findSplits_141 : decode cX12_findSplits 141 = .ok (.goto (-139), 3) := by decide +kernel
theorem dX12_findSplits_144 : decode cX12_findSplits 144 = .ok (.iconst 0, 1) := by decide +kernel
theorem dX12_findSplits_145 : decode cX12_findSplits 145 = .ok (.istore_n 1, 1) := by decide +kernel
theorem dX12_findSplits_146 : decode cX12_findSplits 146 = .ok (.iload_n 1, 1) := by decide +kernel
theorem dX12_findSplits_147 : decode cX12_findSplits 147 = .ok (.bipush 64, 2) := by decide +kernel
theorem dX12_findSplits_149 : decode cX12_findSplits 149 = .ok (.if_icmp .ge 20, 3) := by decide +kernel
theorem dX12_findSplits_152 : decode cX12_findSplits 152 = .ok (.aload_n 0, 1) := by decide +kernel
theorem dX12_findSplits_153 : decode cX12_findSplits 153 = .ok (.getfield 89, 3) := by decide +kernel
theorem dX12_findSplits_156 : decode cX12_findSplits 156 = .ok (.sipush 3072, 3) := by decide +kernel
theorem dX12_findSplits_159 : decode cX12_findSplits 159 = .ok (.iload_n 1, 1) := by decide +kernel
theorem dX12_findSplits_160 : decode cX12_findSplits 160 = .ok (.iadd, 1) := by decide +kernel
theorem dX12_findSplits_161 : decode cX12_findSplits 161 = .ok (.iconst 0, 1) := by decide +kernel
theorem dX12_findSplits_162 : decode cX12_findSplits 162 = .ok (.iastore, 1) := by decide +kernel
theorem dX12_findSplits_163 : decode cX12_findSplits 163 = .ok (.iinc 1 1, 3) := by decide +kernel
theorem dX12_findSplits_166 : decode cX12_findSplits 166 = .ok (.goto (-20), 3) := by decide +kernel
theorem dX12_findSplits_169 : decode cX12_findSplits 169 = .ok (.bipush 47, 2) := by decide +kernel
theorem dX12_findSplits_171 : decode cX12_findSplits 171 = .ok (.istore_n 1, 1) := by decide +kernel
theorem dX12_findSplits_172 : decode cX12_findSplits 172 = .ok (.iload_n 1, 1) := by decide +kernel
theorem dX12_findSplits_173 : decode cX12_findSplits 173 = .ok (.ifCond .lt 133, 3) := by decide +kernel
theorem dX12_findSplits_176 : decode cX12_findSplits 176 = .ok (.iconst 0, 1) := by decide +kernel
theorem dX12_findSplits_177 : decode cX12_findSplits 177 = .ok (.istore_n 2, 1) := by decide +kernel
theorem dX12_findSplits_178 : decode cX12_findSplits 178 = .ok (.iload_n 2, 1) := by decide +kernel
theorem dX12_findSplits_179 : decode cX12_findSplits 179 = .ok (.bipush 64, 2) := by decide +kernel
theorem dX12_findSplits_181 : decode cX12_findSplits 181 = .ok (.if_icmp .ge 119, 3) := by decide +kernel
theorem dX12_findSplits_184 : decode cX12_findSplits 184 = .ok (.ldc 131, 2) := by decide +kernel
theorem dX12_findSplits_186 : decode cX12_findSplits 186 = .ok (.istore_n 3, 1) := by decide +kernel
theorem dX12_findSplits_187 : decode cX12_findSplits 187 = .ok (.iconst 0, 1) := by decide +kernel
theorem dX12_findSplits_188 : decode cX12_findSplits 188 = .ok (.istore 4, 2) := by decide +kernel
theorem dX12_findSplits_190 : decode cX12_findSplits 190 = .ok (.iload 4, 2) := by decide +kernel
theorem dX12_findSplits_192 : decode cX12_findSplits 192 = .ok (.bipush 64, 2) := by decide +kernel
theorem dX12_findSplits_194 : decode cX12_findSplits 194 = .ok (.if_icmp .ge 88, 3) := by decide +kernel
theorem dX12_findSplits_197 : decode cX12_findSplits 197 = .ok (.aload_n 0, 1) := by decide +kernel
theorem dX12_findSplits_198 : decode cX12_findSplits 198 = .ok (.getfield 86, 3) := by decide +kernel
theorem dX12_findSplits_201 : decode cX12_findSplits 201 = .ok (.bipush 64, 2) := by decide +kernel
theorem dX12_findSplits_203 : decode cX12_findSplits 203 = .ok (.iload_n 1, 1) := by decide +kernel
theorem dX12_findSplits_204 : decode cX12_findSplits 204 = .ok (.imul, 1) := by decide +kernel
theorem dX12_findSplits_205 : decode cX12_findSplits 205 = .ok (.iload 4, 2) := by decide +kernel
theorem dX12_findSplits_207 : decode cX12_findSplits 207 = .ok (.iadd, 1) := by decide +kernel
theorem dX12_findSplits_208 : decode cX12_findSplits 208 = .ok (.iaload, 1) := by decide +kernel
theorem dX12_findSplits_209 : decode cX12_findSplits 209 = .ok (.istore 5, 2) := by decide +kernel
theorem dX12_findSplits_211 : decode cX12_findSplits 211 = .ok (.iload 5, 2) := by decide +kernel
theorem dX12_findSplits_213 : decode cX12_findSplits 213 = .ok (.ldc 131, 2) := by decide +kernel
theorem dX12_findSplits_215 : decode cX12_findSplits 215 = .ok (.if_icmp .ne 8, 3) := by decide +kernel
theorem dX12_findSplits_218 : decode cX12_findSplits 218 = .ok (.ldc 131, 2) := by decide +kernel
theorem dX12_findSplits_220 : decode cX12_findSplits 220 = .ok (.goto 28, 3) := by decide +kernel
theorem dX12_findSplits_223 : decode cX12_findSplits 223 = .ok (.iload 5, 2) := by decide +kernel
theorem dX12_findSplits_225 : decode cX12_findSplits 225 = .ok (.iload_n 2, 1) := by decide +kernel
theorem dX12_findSplits_226 : decode cX12_findSplits 226 = .ok (.iload 4, 2) := by decide +kernel
theorem dX12_findSplits_228 : decode cX12_findSplits 228 = .ok (.ixor, 1) := by decide +kernel
theorem dX12_findSplits_229 : decode cX12_findSplits 229 = .ok (.invokestatic 272, 3) := by decide +kernel
theorem dX12_findSplits_232 : decode cX12_findSplits 232 = .ok (.iadd, 1) := by decide +kernel
theorem dX12_findSplits_233 : decode cX12_findSplits 233 = .ok (.aload_n 0, 1) := by decide +kernel
theorem dX12_findSplits_234 : decode cX12_findSplits 234 = .ok (.getfield 89, 3) := by decide +kernel
theorem dX12_findSplits_237 : decode cX12_findSplits 237 = .ok (.bipush 64, 2) := by decide +kernel
theorem dX12_findSplits_239 : decode cX12_findSplits 239 = .ok (.iload_n 1, 1) := by decide +kernel
theorem dX12_findSplits_240 : decode cX12_findSplits 240 = .ok (.iconst 1, 1) := by decide +kernel
theorem dX12_findSplits_241 : decode cX12_findSplits 241 = .ok (.iadd, 1) := by decide +kernel
theorem dX12_findSplits_242 : decode cX12_findSplits 242 = .ok (.imul, 1) := by decide +kernel
theorem dX12_findSplits_243 : decode cX12_findSplits 243 = .ok (.iload 4, 2) := by decide +kernel
theorem dX12_findSplits_245 : decode cX12_findSplits 245 = .ok (.iadd, 1) := by decide +kernel
theorem dX12_findSplits_246 : decode cX12_findSplits 246 = .ok (.iaload, 1) := by decide +kernel
theorem dX12_findSplits_247 : decode cX12_findSplits 247 = .ok (.iadd, 1) := by decide +kernel
theorem dX12_findSplits_248 : decode cX12_findSplits 248 = .ok (.istore 6, 2) := by decide +kernel
theorem dX12_findSplits_250 : decode cX12_findSplits 250 = .ok (.iload 6, 2) := by decide +kernel
theorem dX12_findSplits_252 : decode cX12_findSplits 252 = .ok (.ldc 131, 2) := by decide +kernel
theorem dX12_findSplits_254 : decode cX12_findSplits 254 = .ok (.if_icmp .eq 20, 3) := by decide +kernel
theorem dX12_findSplits_257 : decode cX12_findSplits 257 = .ok (.iload_n 3, 1) := by decide +kernel
theorem dX12_findSplits_258 : decode cX12_findSplits 258 = .ok (.ldc 131, 2) := by decide +kernel
theorem dX12_findSplits_260 : decode cX12_findSplits 260 = .ok (.if_icmp .eq 9, 3) := by decide +kernel
theorem dX12_findSplits_263 : decode cX12_findSplits 263 = .ok (.iload 6, 2) := by decide +kernel
theorem dX12_findSplits_265 : decode cX12_findSplits 265 = .ok (.iload_n 3, 1) := by decide +kernel
theorem dX12_findSplits_266 : decode cX12_findSplits 266 = .ok (.if_icmp .ge 8, 3) := by decide +kernel
theorem dX12_findSplits_269 : decode cX12_findSplits 269 = .ok (.iload 6, 2) := by decide +kernel
theorem dX12_findSplits_271 : decode cX12_findSplits 271 = .ok (.goto 4, 3) := by decide +kernel
theorem dX12_findSplits_274 : decode cX12_findSplits 274 = .ok (.iload_n 3, 1) := by decide +kernel
theorem dX12_findSplits_275 : decode cX12_findSplits 275 = .ok (.istore_n 3, 1) := by decide +kernel
theorem dX12_findSplits_276 : decode cX12_findSplits 276 = .ok (.iinc 4 1, 3) := by decide +kernel
theorem dX12_findSplits_279 : decode cX12_findSplits 279 = .ok (.goto (-89), 3) := by decide +kernel
theorem dX12_findSplits_282 : decode cX12_findSplits 282 = .ok (.aload_n 0, 1) := by decide +kernel
theorem dX12_findSplits_283 : decode cX12_findSplits 283 = .ok (.getfield 89, 3) := by decide +kernel
theorem dX12_findSplits_286 : decode cX12_findSplits 286 = .ok (.bipush 64, 2) := by decide +kernel
theorem dX12_findSplits_288 : decode cX12_findSplits 288 = .ok (.iload_n 1, 1) := by decide +kernel
theorem dX12_findSplits_289 : decode cX12_findSplits 289 = .ok (.imul, 1) := by decide +kernel
theorem dX12_findSplits_290 : decode cX12_findSplits 290 = .ok (.iload_n 2, 1) := by decide +kernel
theorem dX12_findSplits_291 : decode cX12_findSplits 291 = .ok (.iadd, 1) := by decide +kernel
theorem dX12_findSplits_292 : decode cX12_findSplits 292 = .ok (.iload_n 3, 1) := by decide +kernel
theorem dX12_findSplits_293 : decode cX12_findSplits 293 = .ok (.iastore, 1) := by decide +kernel
theorem dX12_findSplits_294 : decode cX12_findSplits 294 = .ok (.iinc 2 1, 3) := by decide +kernel
theorem dX12_findSplits_297 : decode cX12_findSplits 297 = .ok (.goto (-119), 3) := by decide +kernel
theorem dX12_findSplits_300 : decode cX12_findSplits 300 = .ok (.iinc 1 (-1), 3) := by decide +kernel
theorem dX12_findSplits_303 : decode cX12_findSplits 303 = .ok (.goto (-131), 3) := by decide +kernel
theorem dX12_findSplits_306 : decode cX12_findSplits 306 = .ok (.iconst 0, 1) := by decide +kernel
theorem dX12_findSplits_307 : decode cX12_findSplits 307 = .ok (.istore_n 1, 1) := by decide +kernel
theorem dX12_findSplits_308 : decode cX12_findSplits 308 = .ok (.iconst 0, 1) := by decide +kernel
theorem dX12_findSplits_309 : decode cX12_findSplits 309 = .ok (.istore_n 2, 1) := by decide +kernel
theorem dX12_findSplits_310 : decode cX12_findSplits 310 = .ok (.iload_n 2, 1) := by decide +kernel
theorem dX12_findSplits_311 : decode cX12_findSplits 311 = .ok (.bipush 48, 2) := by decide +kernel
theorem dX12_findSplits_313 : decode cX12_findSplits 313 = .ok (.if_icmp .ge 103, 3) := by decide +kernel
theorem dX12_findSplits_316 : decode cX12_findSplits 316 = .ok (.ldc 131, 2) := by decide +kernel
theorem dX12_findSplits_318 : decode cX12_findSplits 318 = .ok (.istore_n 3, 1) := by decide +kernel
theorem dX12_findSplits_319 : decode cX12_findSplits 319 = .ok (.bipush 63, 2) := by decide +kernel
theorem dX12_findSplits_321 : decode cX12_findSplits 321 = .ok (.istore 4, 2) := by decide +kernel
theorem dX12_findSplits_323 : decode cX12_findSplits 323 = .ok (.iload 4, 2) := by decide +kernel
theorem dX12_findSplits_325 : decode cX12_findSplits 325 = .ok (.ifCond .lt 76, 3) := by decide +kernel
theorem dX12_findSplits_328 : decode cX12_findSplits 328 = .ok (.aload_n 0, 1) := by decide +kernel
theorem dX12_findSplits_329 : decode cX12_findSplits 329 = .ok (.getfield 86, 3) := by decide +kernel
theorem dX12_findSplits_332 : decode cX12_findSplits 332 = .ok (.bipush 64, 2) := by decide +kernel
theorem dX12_findSplits_334 : decode cX12_findSplits 334 = .ok (.iload_n 2, 1) := by decide +kernel
theorem dX12_findSplits_335 : decode cX12_findSplits 335 = .ok (.imul, 1) := by decide +kernel
theorem dX12_findSplits_336 : decode cX12_findSplits 336 = .ok (.iload 4, 2) := by decide +kernel
theorem dX12_findSplits_338 : decode cX12_findSplits 338 = .ok (.iadd, 1) := by decide +kernel
theorem dX12_findSplits_339 : decode cX12_findSplits 339 = .ok (.iaload, 1) := by decide +kernel
theorem dX12_findSplits_340 : decode cX12_findSplits 340 = .ok (.istore 5, 2) := by decide +kernel
theorem dX12_findSplits_342 : decode cX12_findSplits 342 = .ok (.iload 5, 2) := by decide +kernel
theorem dX12_findSplits_344 : decode cX12_findSplits 344 = .ok (.ldc 131, 2) := by decide +kernel
theorem dX12_findSplits_346 : decode cX12_findSplits 346 = .ok (.if_icmp .eq 47, 3) := by decide +kernel
theorem dX12_findSplits_349 : decode cX12_findSplits 349 = .ok (.iload 5, 2) := by decide +kernel
theorem dX12_findSplits_351 : decode cX12_findSplits 351 = .ok (.iload_n 1, 1) := by decide +kernel
theorem dX12_findSplits_352 : decode cX12_findSplits 352 = .ok (.iload 4, 2) := by decide +kernel
theorem dX12_findSplits_354 : decode cX12_findSplits 354 = .ok (.ixor, 1) := by decide +kernel
theorem dX12_findSplits_355 : decode cX12_findSplits 355 = .ok (.invokestatic 272, 3) := by decide +kernel
theorem dX12_findSplits_358 : decode cX12_findSplits 358 = .ok (.iadd, 1) := by decide +kernel
theorem dX12_findSplits_359 : decode cX12_findSplits 359 = .ok (.aload_n 0, 1) := by decide +kernel
theorem dX12_findSplits_360 : decode cX12_findSplits 360 = .ok (.getfield 89, 3) := by decide +kernel
theorem dX12_findSplits_363 : decode cX12_findSplits 363 = .ok (.bipush 64, 2) := by decide +kernel
theorem dX12_findSplits_365 : decode cX12_findSplits 365 = .ok (.iload_n 2, 1) := by decide +kernel
theorem dX12_findSplits_366 : decode cX12_findSplits 366 = .ok (.iconst 1, 1) := by decide +kernel
theorem dX12_findSplits_367 : decode cX12_findSplits 367 = .ok (.iadd, 1) := by decide +kernel
theorem dX12_findSplits_368 : decode cX12_findSplits 368 = .ok (.imul, 1) := by decide +kernel
theorem dX12_findSplits_369 : decode cX12_findSplits 369 = .ok (.iload 4, 2) := by decide +kernel
theorem dX12_findSplits_371 : decode cX12_findSplits 371 = .ok (.iadd, 1) := by decide +kernel
theorem dX12_findSplits_372 : decode cX12_findSplits 372 = .ok (.iaload, 1) := by decide +kernel
theorem dX12_findSplits_373 : decode cX12_findSplits 373 = .ok (.iadd, 1) := by decide +kernel
theorem dX12_findSplits_374 : decode cX12_findSplits 374 = .ok (.aload_n 0, 1) := by decide +kernel
theorem dX12_findSplits_375 : decode cX12_findSplits 375 = .ok (.getfield 89, 3) := by decide +kernel
theorem dX12_findSplits_378 : decode cX12_findSplits 378 = .ok (.bipush 64, 2) := by decide +kernel
theorem dX12_findSplits_380 : decode cX12_findSplits 380 = .ok (.iload_n 2, 1) := by decide +kernel
theorem dX12_findSplits_381 : decode cX12_findSplits 381 = .ok (.imul, 1) := by decide +kernel
theorem dX12_findSplits_382 : decode cX12_findSplits 382 = .ok (.iload_n 1, 1) := by decide +kernel
theorem dX12_findSplits_383 : decode cX12_findSplits 383 = .ok (.iadd, 1) := by decide +kernel
theorem dX12_findSplits_384 : decode cX12_findSplits 384 = .ok (.iaload, 1) := by decide +kernel
theorem dX12_findSplits_385 : decode cX12_findSplits 385 = .ok (.if_icmp .ne 8, 3) := by decide +kernel
theorem dX12_findSplits_388 : decode cX12_findSplits 388 = .ok (.iload 4, 2) := by decide +kernel
theorem dX12_findSplits_390 : decode cX12_findSplits 390 = .ok (.goto 4, 3) := by decide +kernel
theorem dX12_findSplits_393 : decode cX12_findSplits 393 = .ok (.iload_n 3, 1) := by decide +kernel
theorem dX12_findSplits_394 : decode cX12_findSplits 394 = .ok (.istore_n 3, 1) := by decide +kernel
theorem dX12_findSplits_395 : decode cX12_findSplits 395 = .ok (.iinc 4 (-1), 3) := by decide +kernel
theorem dX12_findSplits_398 : decode cX12_findSplits 398 = .ok (.goto (-75), 3) := by decide +kernel
theorem dX12_findSplits_401 : decode cX12_findSplits 401 = .ok (.aload_n 0, 1) := by decide +kernel
theorem dX12_findSplits_402 : decode cX12_findSplits 402 = .ok (.getfield 92, 3) := by decide +kernel
theorem dX12_findSplits_405 : decode cX12_findSplits 405 = .ok (.iload_n 2, 1) := by decide +kernel
theorem dX12_findSplits_406 : decode cX12_findSplits 406 = .ok (.iload_n 3, 1) := by decide +kernel
theorem dX12_findSplits_407 : decode cX12_findSplits 407 = .ok (.iastore, 1) := by decide +kernel
theorem dX12_findSplits_408 : decode cX12_findSplits 408 = .ok (.iload_n 3, 1) := by decide +kernel
theorem dX12_findSplits_409 : decode cX12_findSplits 409 = .ok (.istore_n 1, 1) := by decide +kernel
theorem dX12_findSplits_410 : decode cX12_findSplits 410 = .ok (.iinc 2 1, 3) := by decide +kernel
theorem dX12_findSplits_413 : decode cX12_findSplits 413 = .ok (.goto (-103), 3) := by decide +kernel
theorem dX12_findSplits_416 : decode cX12_findSplits 416 = .ok (.return_, 1) := by decide +kernel
theorem dX12_split_0 : decode cX12_split 0 = .ok (.aload_n 0, 1) := by decide +kernel
theorem dX12_split_1 : decode cX12_split 1 = .ok (.iconst 0, 1) := by decide +kernel
theorem dX12_split_2 : decode cX12_split 2 = .ok (.putfield 1, 3) := by decide +kernel
theorem dX12_split_5 : decode cX12_split 5 = .ok (.iload_n 1, 1) := by decide +kernel
theorem dX12_split_6 : decode cX12_split 6 = .ok (.ldc 131, 2) := by decide +kernel
theorem dX12_split_8 : decode cX12_split 8 = .ok (.if_icmp .eq 13, 3) := by decide +kernel
theorem dX12_split_11 : decode cX12_split 11 = .ok (.iload_n 1, 1) := by decide +kernel
theorem dX12_split_12 : decode cX12_split 12 = .ok (.invokestatic 115, 3) := by decide +kernel
theorem dX12_split_15 : decode cX12_split 15 = .ok (.ifCond .ne 6, 3) := by decide +kernel
theorem dX12_split_18 : decode cX12_split 18 = .ok (.ldc 23, 2) := by decide +kernel
theorem dX12_split_20 : decode cX12_split 20 = .ok (.ireturn, 1) := by decide +kernel
theorem dX12_split_21 : decode cX12_split 21 = .ok (.aload_n 0, 1) := by decide +kernel
theorem dX12_split_22 : decode cX12_split 22 = .ok (.invokevirtual 275, 3) := by decide +kernel
theorem dX12_split_25 : decode cX12_split 25 = .ok (.iload_n 1, 1) := by decide +kernel
theorem dX12_split_26 : decode cX12_split 26 = .ok (.ldc 131, 2) := by decide +kernel
theorem dX12_split_28 : decode cX12_split 28 = .ok (.if_icmp .ne 12, 3) := by decide +kernel
theorem dX12_split_31 : decode cX12_split 31 = .ok (.aload_n 0, 1) := by decide +kernel
theorem dX12_split_32 : decode cX12_split 32 = .ok (.getfield 89, 3) := by decide +kernel
theorem dX12_split_35 : decode cX12_split 35 = .ok (.iconst 0, 1) := by decide +kernel
theorem dX12_split_36 : decode cX12_split 36 = .ok (.iaload, 1) := by decide +kernel
theorem dX12_split_37 : decode cX12_split 37 = .ok (.goto 9, 3) := by decide +kernel
theorem dX12_split_40 : decode cX12_split 40 = .ok (.aload_n 0, 1) := by decide +kernel
theorem dX12_split_41 : decode cX12_split 41 = .ok (.getfield 92, 3) := by decide +kernel
theorem dX12_split_44 : decode cX12_split 44 = .ok (.iload_n 1, 1) := by decide +kernel
theorem dX12_split_45 : decode cX12_split 45 = .ok (.iaload, 1) := by decide +kernel
theorem dX12_split_46 : decode cX12_split 46 = .ok (.ireturn, 1) := by decide +kernel
theorem dX12_lay_0 : decode cX12_lay 0 = .ok (.iconst 0, 1) := by decide +kernel
theorem dX12_lay_1 : decode cX12_lay 1 = .ok (.istore 4, 2) := by decide +kernel
theorem dX12_lay_3 : decode cX12_lay 3 = .ok (.iload 4, 2) := by decide +kernel
theorem dX12_lay_5 : decode cX12_lay 5 = .ok (.bipush 48, 2) := by decide +kernel
theorem dX12_lay_7 : decode cX12_lay 7 = .ok (.if_icmp .ge 59, 3) := by decide +kernel
theorem dX12_lay_10 : decode cX12_lay 10 = .ok (.aload_n 0, 1) := by decide +kernel
theorem dX12_lay_11 : decode cX12_lay 11 = .ok (.iload_n 1, 1) := by decide +kernel
theorem dX12_lay_12 : decode cX12_lay 12 = .ok (.iload_n 2, 1) := by decide +kernel
theorem dX12_lay_13 : decode cX12_lay 13 = .ok (.iconst 5, 1) := by decide +kernel
theorem dX12_lay_14 : decode cX12_lay 14 = .ok (.idiv, 1) := by decide +kernel
theorem dX12_lay_15 : decode cX12_lay 15 = .ok (.iload_n 2, 1) := by decide +kernel
theorem dX12_lay_16 : decode cX12_lay 16 = .ok (.iconst 5, 1) := by decide +kernel
theorem dX12_lay_17 : decode cX12_lay 17 = .ok (.irem, 1) := by decide +kernel
theorem dX12_lay_18 : decode cX12_lay 18 = .ok (.iload 4, 2) := by decide +kernel
theorem dX12_lay_20 : decode cX12_lay 20 = .ok (.invokevirtual 241, 3) := by decide +kernel
theorem dX12_lay_23 : decode cX12_lay 23 = .ok (.istore 5, 2) := by decide +kernel
theorem dX12_lay_25 : decode cX12_lay 25 = .ok (.iload 5, 2) := by decide +kernel
theorem dX12_lay_27 : decode cX12_lay 27 = .ok (.ldc 131, 2) := by decide +kernel
theorem dX12_lay_29 : decode cX12_lay 29 = .ok (.if_icmp .eq 31, 3) := by decide +kernel
theorem dX12_lay_32 : decode cX12_lay 32 = .ok (.aload_n 0, 1) := by decide +kernel
theorem dX12_lay_33 : decode cX12_lay 33 = .ok (.getfield 95, 3) := by decide +kernel
theorem dX12_lay_36 : decode cX12_lay 36 = .ok (.bipush 48, 2) := by decide +kernel
theorem dX12_lay_38 : decode cX12_lay 38 = .ok (.iload 5, 2) := by decide +kernel
theorem dX12_lay_40 : decode cX12_lay 40 = .ok (.imul, 1) := by decide +kernel
theorem dX12_lay_41 : decode cX12_lay 41 = .ok (.iload 4, 2) := by decide +kernel
theorem dX12_lay_43 : decode cX12_lay 43 = .ok (.iadd, 1) := by decide +kernel
theorem dX12_lay_44 : decode cX12_lay 44 = .ok (.dup2, 1) := by decide +kernel
theorem dX12_lay_45 : decode cX12_lay 45 = .ok (.iaload, 1) := by decide +kernel
theorem dX12_lay_46 : decode cX12_lay 46 = .ok (.iload_n 3, 1) := by decide +kernel
theorem dX12_lay_47 : decode cX12_lay 47 = .ok (.aload_n 0, 1) := by decide +kernel
theorem dX12_lay_48 : decode cX12_lay 48 = .ok (.getfield 56, 3) := by decide +kernel
theorem dX12_lay_51 : decode cX12_lay 51 = .ok (.iconst 5, 1) := by decide +kernel
theorem dX12_lay_52 : decode cX12_lay 52 = .ok (.iload_n 1, 1) := by decide +kernel
theorem dX12_lay_53 : decode cX12_lay 53 = .ok (.imul, 1) := by decide +kernel
theorem dX12_lay_54 : decode cX12_lay 54 = .ok (.iconst 1, 1) := by decide +kernel
theorem dX12_lay_55 : decode cX12_lay 55 = .ok (.iadd, 1) := by decide +kernel
theorem dX12_lay_56 : decode cX12_lay 56 = .ok (.iaload, 1) := by decide +kernel
theorem dX12_lay_57 : decode cX12_lay 57 = .ok (.imul, 1) := by decide +kernel
theorem dX12_lay_58 : decode cX12_lay 58 = .ok (.iadd, 1) := by decide +kernel
theorem dX12_lay_59 : decode cX12_lay 59 = .ok (.iastore, 1) := by decide +kernel
theorem dX12_lay_60 : decode cX12_lay 60 = .ok (.iinc 4 1, 3) := by decide +kernel
theorem dX12_lay_63 : decode cX12_lay 63 = .ok (.goto (-60), 3) := by decide +kernel
theorem dX12_lay_66 : decode cX12_lay 66 = .ok (.return_, 1) := by decide +kernel
theorem dX12_fits_0 : decode cX12_fits 0 = .ok (.iconst 1, 1) := by decide +kernel
theorem dX12_fits_1 : decode cX12_fits 1 = .ok (.istore_n 3, 1) := by decide +kernel
theorem dX12_fits_2 : decode cX12_fits 2 = .ok (.iconst 0, 1) := by decide +kernel
theorem dX12_fits_3 : decode cX12_fits 3 = .ok (.istore 4, 2) := by decide +kernel
theorem dX12_fits_5 : decode cX12_fits 5 = .ok (.iload 4, 2) := by decide +kernel
theorem dX12_fits_7 : decode cX12_fits 7 = .ok (.bipush 48, 2) := by decide +kernel
theorem dX12_fits_9 : decode cX12_fits 9 = .ok (.if_icmp .ge 65, 3) := by decide +kernel
theorem dX12_fits_12 : decode cX12_fits 12 = .ok (.aload_n 0, 1) := by decide +kernel
theorem dX12_fits_13 : decode cX12_fits 13 = .ok (.iload_n 1, 1) := by decide +kernel
theorem dX12_fits_14 : decode cX12_fits 14 = .ok (.iload_n 2, 1) := by decide +kernel
theorem dX12_fits_15 : decode cX12_fits 15 = .ok (.iconst 5, 1) := by decide +kernel
theorem dX12_fits_16 : decode cX12_fits 16 = .ok (.idiv, 1) := by decide +kernel
theorem dX12_fits_17 : decode cX12_fits 17 = .ok (.iload_n 2, 1) := by decide +kernel
theorem dX12_fits_18 : decode cX12_fits 18 = .ok (.iconst 5, 1) := by decide +kernel
theorem dX12_fits_19 : decode cX12_fits 19 = .ok (.irem, 1) := by decide +kernel
theorem dX12_fits_20 : decode cX12_fits 20 = .ok (.iload 4, 2) := by decide +kernel
theorem dX12_fits_22 : decode cX12_fits 22 = .ok (.invokevirtual 241, 3) := by decide +kernel
theorem dX12_fits_25 : decode cX12_fits 25 = .ok (.istore 5, 2) := by decide +kernel
theorem dX12_fits_27 : decode cX12_fits 27 = .ok (.iload_n 3, 1) := by decide +kernel
theorem dX12_fits_28 : decode cX12_fits 28 = .ok (.ifCond .eq 38, 3) := by decide +kernel
theorem dX12_fits_31 : decode cX12_fits 31 = .ok (.iload 5, 2) := by decide +kernel
theorem dX12_fits_33 : decode cX12_fits 33 = .ok (.ldc 131, 2) := by decide +kernel
theorem dX12_fits_35 : decode cX12_fits 35 = .ok (.if_icmp .eq 27, 3) := by decide +kernel
theorem dX12_fits_38 : decode cX12_fits 38 = .ok (.aload_n 0, 1) := by decide +kernel
theorem dX12_fits_39 : decode cX12_fits 39 = .ok (.getfield 95, 3) := by decide +kernel
theorem dX12_fits_42 : decode cX12_fits 42 = .ok (.bipush 48, 2) := by decide +kernel
theorem dX12_fits_44 : decode cX12_fits 44 = .ok (.iload 5, 2) := by decide +kernel
theorem dX12_fits_46 : decode cX12_fits 46 = .ok (.imul, 1) := by decide +kernel
theorem dX12_fits_47 : decode cX12_fits 47 = .ok (.iload 4, 2) := by decide +kernel
theorem dX12_fits_49 : decode cX12_fits 49 = .ok (.iadd, 1) := by decide +kernel
theorem dX12_fits_50 : decode cX12_fits 50 = .ok (.iaload, 1) := by decide +kernel
theorem dX12_fits_51 : decode cX12_fits 51 = .ok (.aload_n 0, 1) := by decide +kernel
theorem dX12_fits_52 : decode cX12_fits 52 = .ok (.iload 5, 2) := by decide +kernel
theorem dX12_fits_54 : decode cX12_fits 54 = .ok (.iload 4, 2) := by decide +kernel
theorem dX12_fits_56 : decode cX12_fits 56 = .ok (.invokevirtual 134, 3) := by decide +kernel
theorem dX12_fits_59 : decode cX12_fits 59 = .ok (.if_icmp .gt 7, 3) := by decide +kernel
theorem dX12_fits_62 : decode cX12_fits 62 = .ok (.iconst 1, 1) := by decide +kernel
theorem dX12_fits_63 : decode cX12_fits 63 = .ok (.goto 4, 3) := by decide +kernel
theorem dX12_fits_66 : decode cX12_fits 66 = .ok (.iconst 0, 1) := by decide +kernel
theorem dX12_fits_67 : decode cX12_fits 67 = .ok (.istore_n 3, 1) := by decide +kernel
theorem dX12_fits_68 : decode cX12_fits 68 = .ok (.iinc 4 1, 3) := by decide +kernel
theorem dX12_fits_71 : decode cX12_fits 71 = .ok (.goto (-66), 3) := by decide +kernel
theorem dX12_fits_74 : decode cX12_fits 74 = .ok (.iload_n 3, 1) := by decide +kernel
theorem dX12_fits_75 : decode cX12_fits 75 = .ok (.ireturn, 1) := by decide +kernel
theorem dX12_settle_0 : decode cX12_settle 0 = .ok (.aload_n 0, 1) := by decide +kernel
theorem dX12_settle_1 : decode cX12_settle 1 = .ok (.iconst 0, 1) := by decide +kernel
theorem dX12_settle_2 : decode cX12_settle 2 = .ok (.putfield 1, 3) := by decide +kernel
theorem dX12_settle_5 : decode cX12_settle 5 = .ok (.iload_n 1, 1) := by decide +kernel
theorem dX12_settle_6 : decode cX12_settle 6 = .ok (.iconst 1, 1) := by decide +kernel
theorem dX12_settle_7 : decode cX12_settle 7 = .ok (.if_icmp .lt 20, 3) := by decide +kernel
theorem dX12_settle_10 : decode cX12_settle 10 = .ok (.iload_n 1, 1) := by decide +kernel
theorem dX12_settle_11 : decode cX12_settle 11 = .ok (.aload_n 0, 1) := by decide +kernel
theorem dX12_settle_12 : decode cX12_settle 12 = .ok (.getfield 138, 3) := by decide +kernel
theorem dX12_settle_15 : decode cX12_settle 15 = .ok (.ishr, 1) := by decide +kernel
theorem dX12_settle_16 : decode cX12_settle 16 = .ok (.ifCond .gt 11, 3) := by decide +kernel
theorem dX12_settle_19 : decode cX12_settle 19 = .ok (.iload_n 1, 1) := by decide +kernel
theorem dX12_settle_20 : decode cX12_settle 20 = .ok (.invokestatic 272, 3) := by decide +kernel
theorem dX12_settle_23 : decode cX12_settle 23 = .ok (.iconst 5, 1) := by decide +kernel
theorem dX12_settle_24 : decode cX12_settle 24 = .ok (.if_icmp .le 6, 3) := by decide +kernel
theorem dX12_settle_27 : decode cX12_settle 27 = .ok (.ldc 23, 2) := by decide +kernel
theorem dX12_settle_29 : decode cX12_settle 29 = .ok (.ireturn, 1) := by decide +kernel
theorem dX12_settle_30 : decode cX12_settle 30 = .ok (.iconst 0, 1) := by decide +kernel
theorem dX12_settle_31 : decode cX12_settle 31 = .ok (.istore_n 2, 1) := by decide +kernel
theorem dX12_settle_32 : decode cX12_settle 32 = .ok (.iconst 0, 1) := by decide +kernel
theorem dX12_settle_33 : decode cX12_settle 33 = .ok (.istore_n 3, 1) := by decide +kernel
theorem dX12_settle_34 : decode cX12_settle 34 = .ok (.iload_n 3, 1) := by decide +kernel
theorem dX12_settle_35 : decode cX12_settle 35 = .ok (.sipush 384, 3) := by decide +kernel
theorem dX12_settle_38 : decode cX12_settle 38 = .ok (.if_icmp .ge 16, 3) := by decide +kernel
theorem dX12_settle_41 : decode cX12_settle 41 = .ok (.aload_n 0, 1) := by decide +kernel
theorem dX12_settle_42 : decode cX12_settle 42 = .ok (.getfield 95, 3) := by decide +kernel
theorem dX12_settle_45 : decode cX12_settle 45 = .ok (.iload_n 3, 1) := by decide +kernel
theorem dX12_settle_46 : decode cX12_settle 46 = .ok (.iconst 0, 1) := by decide +kernel
theorem dX12_settle_47 : decode cX12_settle 47 = .ok (.iastore, 1) := by decide +kernel
theorem dX12_settle_48 : decode cX12_settle 48 = .ok (.iinc 3 1, 3) := by decide +kernel
theorem dX12_settle_51 : decode cX12_settle 51 = .ok (.goto (-17), 3) := by decide +kernel
theorem dX12_settle_54 : decode cX12_settle 54 = .ok (.iconst 0, 1) := by decide +kernel
theorem dX12_settle_55 : decode cX12_settle 55 = .ok (.istore_n 3, 1) := by decide +kernel
theorem dX12_settle_56 : decode cX12_settle 56 = .ok (.iload_n 3, 1) := by decide +kernel
theorem dX12_settle_57 : decode cX12_settle 57 = .ok (.aload_n 0, 1) := by decide +kernel
theorem dX12_settle_58 : decode cX12_settle 58 = .ok (.getfield 138, 3) := by decide +kernel
theorem dX12_settle_61 : decode cX12_settle 61 = .ok (.if_icmp .ge 52, 3) := by decide +kernel
theorem dX12_settle_64 : decode cX12_settle 64 = .ok (.iload_n 1, 1) := by decide +kernel
theorem dX12_settle_65 : decode cX12_settle 65 = .ok (.iload_n 3, 1) := by decide +kernel
theorem dX12_settle_66 : decode cX12_settle 66 = .ok (.ishr, 1) := by decide +kernel
theorem dX12_settle_67 : decode cX12_settle 67 = .ok (.iconst 1, 1) := by decide +kernel
theorem dX12_settle_68 : decode cX12_settle 68 = .ok (.iand, 1) := by decide +kernel
theorem dX12_settle_69 : decode cX12_settle 69 = .ok (.iconst 1, 1) := by decide +kernel
theorem dX12_settle_70 : decode cX12_settle 70 = .ok (.if_icmp .ne 16, 3) := by decide +kernel
theorem dX12_settle_73 : decode cX12_settle 73 = .ok (.aload_n 0, 1) := by decide +kernel
theorem dX12_settle_74 : decode cX12_settle 74 = .ok (.getfield 98, 3) := by decide +kernel
theorem dX12_settle_77 : decode cX12_settle 77 = .ok (.iload_n 2, 1) := by decide +kernel
theorem dX12_settle_78 : decode cX12_settle 78 = .ok (.iload_n 3, 1) := by decide +kernel
theorem dX12_settle_79 : decode cX12_settle 79 = .ok (.iastore, 1) := by decide +kernel
theorem dX12_settle_80 : decode cX12_settle 80 = .ok (.iinc 2 1, 3) := by decide +kernel
theorem dX12_settle_83 : decode cX12_settle 83 = .ok (.goto 24, 3) := by decide +kernel
