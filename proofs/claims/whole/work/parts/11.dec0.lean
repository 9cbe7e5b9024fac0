theorem dX0_init_0 : decode cX0_init 0 = .ok (.aload_n 0, 1) := by decide +kernel
theorem dX0_init_1 : decode cX0_init 1 = .ok (.invokespecial 3, 3) := by decide +kernel
theorem dX0_init_4 : decode cX0_init 4 = .ok (.aload_n 0, 1) := by decide +kernel
theorem dX0_init_5 : decode cX0_init 5 = .ok (.bipush 16, 2) := by decide +kernel
theorem dX0_init_7 : decode cX0_init 7 = .ok (.newarray .int, 2) := by decide +kernel
theorem dX0_init_9 : decode cX0_init 9 = .ok (.putfield 9, 3) := by decide +kernel
theorem dX0_init_12 : decode cX0_init 12 = .ok (.aload_n 0, 1) := by decide +kernel
theorem dX0_init_13 : decode cX0_init 13 = .ok (.iconst 0, 1) := by decide +kernel
theorem dX0_init_14 : decode cX0_init 14 = .ok (.putfield 15, 3) := by decide +kernel
theorem dX0_init_17 : decode cX0_init 17 = .ok (.aload_n 0, 1) := by decide +kernel
theorem dX0_init_18 : decode cX0_init 18 = .ok (.aload_n 1, 1) := by decide +kernel
theorem dX0_init_19 : decode cX0_init 19 = .ok (.putfield 19, 3) := by decide +kernel
theorem dX0_init_22 : decode cX0_init 22 = .ok (.return_, 1) := by decide +kernel
theorem dX0_kindOf_0 : decode cX0_kindOf 0 = .ok (.aload_n 1, 1) := by decide +kernel
theorem dX0_kindOf_1 : decode cX0_kindOf 1 = .ok (.getfield 23, 3) := by decide +kernel
theorem dX0_kindOf_4 : decode cX0_kindOf 4 = .ok (.ifCond .le 16, 3) := by decide +kernel
theorem dX0_kindOf_7 : decode cX0_kindOf 7 = .ok (.aload_n 1, 1) := by decide +kernel
theorem dX0_kindOf_8 : decode cX0_kindOf 8 = .ok (.getfield 28, 3) := by decide +kernel
theorem dX0_kindOf_11 : decode cX0_kindOf 11 = .ok (.ifCond .eq 7, 3) := by decide +kernel
theorem dX0_kindOf_14 : decode cX0_kindOf 14 = .ok (.iconst 2, 1) := by decide +kernel
theorem dX0_kindOf_15 : decode cX0_kindOf 15 = .ok (.goto 4, 3) := by decide +kernel
theorem dX0_kindOf_18 : decode cX0_kindOf 18 = .ok (.iconst 1, 1) := by decide +kernel
theorem dX0_kindOf_19 : decode cX0_kindOf 19 = .ok (.ireturn, 1) := by decide +kernel
theorem dX0_kindOf_20 : decode cX0_kindOf 20 = .ok (.aload_n 0, 1) := by decide +kernel
theorem dX0_kindOf_21 : decode cX0_kindOf 21 = .ok (.getfield 19, 3) := by decide +kernel
theorem dX0_kindOf_24 : decode cX0_kindOf 24 = .ok (.aload_n 1, 1) := by decide +kernel
theorem dX0_kindOf_25 : decode cX0_kindOf 25 = .ok (.invokevirtual 31, 3) := by decide +kernel
theorem dX0_kindOf_28 : decode cX0_kindOf 28 = .ok (.ifCond .eq 7, 3) := by decide +kernel
theorem dX0_kindOf_31 : decode cX0_kindOf 31 = .ok (.iconst 0, 1) := by decide +kernel
theorem dX0_kindOf_32 : decode cX0_kindOf 32 = .ok (.goto 4, 3) := by decide +kernel
theorem dX0_kindOf_35 : decode cX0_kindOf 35 = .ok (.iconst 3, 1) := by decide +kernel
theorem dX0_kindOf_36 : decode cX0_kindOf 36 = .ok (.ireturn, 1) := by decide +kernel
theorem dX0_isOfKind_0 : decode cX0_isOfKind 0 = .ok (.aload_n 0, 1) := by decide +kernel
theorem dX0_isOfKind_1 : decode cX0_isOfKind 1 = .ok (.aload_n 1, 1) := by decide +kernel
theorem dX0_isOfKind_2 : decode cX0_isOfKind 2 = .ok (.invokevirtual 37, 3) := by decide +kernel
theorem dX0_isOfKind_5 : decode cX0_isOfKind 5 = .ok (.istore_n 3, 1) := by decide +kernel
theorem dX0_isOfKind_6 : decode cX0_isOfKind 6 = .ok (.iload_n 2, 1) := by decide +kernel
theorem dX0_isOfKind_7 : decode cX0_isOfKind 7 = .ok (.ifCond .eq 18, 3) := by decide +kernel
theorem dX0_isOfKind_10 : decode cX0_isOfKind 10 = .ok (.iload_n 2, 1) := by decide +kernel
theorem dX0_isOfKind_11 : decode cX0_isOfKind 11 = .ok (.iload_n 3, 1) := by decide +kernel
theorem dX0_isOfKind_12 : decode cX0_isOfKind 12 = .ok (.if_icmp .eq 13, 3) := by decide +kernel
theorem dX0_isOfKind_15 : decode cX0_isOfKind 15 = .ok (.iload_n 2, 1) := by decide +kernel
theorem dX0_isOfKind_16 : decode cX0_isOfKind 16 = .ok (.iconst 1, 1) := by decide +kernel
theorem dX0_isOfKind_17 : decode cX0_isOfKind 17 = .ok (.if_icmp .ne 12, 3) := by decide +kernel
theorem dX0_isOfKind_20 : decode cX0_isOfKind 20 = .ok (.iload_n 3, 1) := by decide +kernel
theorem dX0_isOfKind_21 : decode cX0_isOfKind 21 = .ok (.iconst 2, 1) := by decide +kernel
theorem dX0_isOfKind_22 : decode cX0_isOfKind 22 = .ok (.if_icmp .ne 7, 3) := by decide +kernel
theorem dX0_isOfKind_25 : decode cX0_isOfKind 25 = .ok (.iconst 1, 1) := by decide +kernel
theorem dX0_isOfKind_26 : decode cX0_isOfKind 26 = .ok (.goto 4, 3) := by decide +kernel
theorem dX0_isOfKind_29 : decode cX0_isOfKind 29 = .ok (.iconst 0, 1) := by decide +kernel
theorem dX0_isOfKind_30 : decode cX0_isOfKind 30 = .ok (.ireturn, 1) := by decide +kernel
theorem dX0_sizeOf_0 : decode cX0_sizeOf 0 = .ok (.aload_n 0, 1) := by decide +kernel
theorem dX0_sizeOf_1 : decode cX0_sizeOf 1 = .ok (.aload_n 1, 1) := by decide +kernel
theorem dX0_sizeOf_2 : decode cX0_sizeOf 2 = .ok (.invokevirtual 37, 3) := by decide +kernel
theorem dX0_sizeOf_5 : decode cX0_sizeOf 5 = .ok (.tableswitch 45 1 3 #[27, 33, 39], 27) := by decide +kernel
theorem dX0_sizeOf_32 : decode cX0_sizeOf 32 = .ok (.aload_n 0, 1) := by decide +kernel
theorem dX0_sizeOf_33 : decode cX0_sizeOf 33 = .ok (.aload_n 1, 1) := by decide +kernel
theorem dX0_sizeOf_34 : decode cX0_sizeOf 34 = .ok (.invokevirtual 41, 3) := by decide +kernel
theorem dX0_sizeOf_37 : decode cX0_sizeOf 37 = .ok (.ireturn, 1) := by decide +kernel
theorem dX0_sizeOf_38 : decode cX0_sizeOf 38 = .ok (.aload_n 0, 1) := by decide +kernel
theorem dX0_sizeOf_39 : decode cX0_sizeOf 39 = .ok (.aload_n 1, 1) := by decide +kernel
theorem dX0_sizeOf_40 : decode cX0_sizeOf 40 = .ok (.invokevirtual 44, 3) := by decide +kernel
theorem dX0_sizeOf_43 : decode cX0_sizeOf 43 = .ok (.ireturn, 1) := by decide +kernel
theorem dX0_sizeOf_44 : decode cX0_sizeOf 44 = .ok (.aload_n 0, 1) := by decide +kernel
theorem dX0_sizeOf_45 : decode cX0_sizeOf 45 = .ok (.aload_n 1, 1) := by decide +kernel
theorem dX0_sizeOf_46 : decode cX0_sizeOf 46 = .ok (.invokevirtual 47, 3) := by decide +kernel
theorem dX0_sizeOf_49 : decode cX0_sizeOf 49 = .ok (.ireturn, 1) := by decide +kernel
theorem dX0_sizeOf_50 : decode cX0_sizeOf 50 = .ok (.aload_n 0, 1) := by decide +kernel
theorem dX0_sizeOf_51 : decode cX0_sizeOf 51 = .ok (.aload_n 1, 1) := by decide +kernel
theorem dX0_sizeOf_52 : decode cX0_sizeOf 52 = .ok (.invokevirtual 50, 3) := by decide +kernel
theorem dX0_sizeOf_55 : decode cX0_sizeOf 55 = .ok (.ireturn, 1) := by decide +kernel
theorem dX0_markOf_0 : decode cX0_markOf 0 = .ok (.aload_n 0, 1) := by decide +kernel
theorem dX0_markOf_1 : decode cX0_markOf 1 = .ok (.aload_n 1, 1) := by decide +kernel
theorem dX0_markOf_2 : decode cX0_markOf 2 = .ok (.invokevirtual 37, 3) := by decide +kernel
theorem dX0_markOf_5 : decode cX0_markOf 5 = .ok (.tableswitch 39 1 3 #[27, 27, 33], 27) := by decide +kernel
theorem dX0_markOf_32 : decode cX0_markOf 32 = .ok (.aload_n 0, 1) := by decide +kernel
theorem dX0_markOf_33 : decode cX0_markOf 33 = .ok (.aload_n 1, 1) := by decide +kernel
theorem dX0_markOf_34 : decode cX0_markOf 34 = .ok (.invokevirtual 53, 3) := by decide +kernel
theorem dX0_markOf_37 : decode cX0_markOf 37 = .ok (.ireturn, 1) := by decide +kernel
theorem dX0_markOf_38 : decode cX0_markOf 38 = .ok (.aload_n 0, 1) := by decide +kernel
theorem dX0_markOf_39 : decode cX0_markOf 39 = .ok (.aload_n 1, 1) := by decide +kernel
theorem dX0_markOf_40 : decode cX0_markOf 40 = .ok (.invokevirtual 56, 3) := by decide +kernel
theorem dX0_markOf_43 : decode cX0_markOf 43 = .ok (.ireturn, 1) := by decide +kernel
theorem dX0_markOf_44 : decode cX0_markOf 44 = .ok (.aload_n 0, 1) := by decide +kernel
theorem dX0_markOf_45 : decode cX0_markOf 45 = .ok (.aload_n 1, 1) := by decide +kernel
theorem dX0_markOf_46 : decode cX0_markOf 46 = .ok (.invokevirtual 59, 3) := by decide +kernel
theorem dX0_markOf_49 : decode cX0_markOf 49 = .ok (.ireturn, 1) := by decide +kernel
theorem dX0_sizeLent_0 : decode cX0_sizeLent 0 = .ok (.aload_n 0, 1) := by decide +kernel
theorem dX0_sizeLent_1 : decode cX0_sizeLent 1 = .ok (.bipush 10, 2) := by decide +kernel
theorem dX0_sizeLent_3 : decode cX0_sizeLent 3 = .ok (.invokevirtual 62, 3) := by decide +kernel
theorem dX0_sizeLent_6 : decode cX0_sizeLent 6 = .ok (.aload_n 1, 1) := by decide +kernel
theorem dX0_sizeLent_7 : decode cX0_sizeLent 7 = .ok (.invokevirtual 66, 3) := by decide +kernel
theorem dX0_sizeLent_10 : decode cX0_sizeLent 10 = .ok (.ireturn, 1) := by decide +kernel
theorem dX0_sizeOfLate_0 : decode cX0_sizeOfLate 0 = .ok (.aload_n 0, 1) := by decide +kernel
theorem dX0_sizeOfLate_1 : decode cX0_sizeOfLate 1 = .ok (.bipush 11, 2) := by decide +kernel
theorem dX0_sizeOfLate_3 : decode cX0_sizeOfLate 3 = .ok (.invokevirtual 62, 3) := by decide +kernel
theorem dX0_sizeOfLate_6 : decode cX0_sizeOfLate 6 = .ok (.aload_n 0, 1) := by decide +kernel
theorem dX0_sizeOfLate_7 : decode cX0_sizeOfLate 7 = .ok (.aload_n 1, 1) := by decide +kernel
theorem dX0_sizeOfLate_8 : decode cX0_sizeOfLate 8 = .ok (.invokevirtual 50, 3) := by decide +kernel
theorem dX0_sizeOfLate_11 : decode cX0_sizeOfLate 11 = .ok (.aload_n 1, 1) := by decide +kernel
theorem dX0_sizeOfLate_12 : decode cX0_sizeOfLate 12 = .ok (.invokevirtual 70, 3) := by decide +kernel
theorem dX0_sizeOfLate_15 : decode cX0_sizeOfLate 15 = .ok (.iadd, 1) := by decide +kernel
theorem dX0_sizeOfLate_16 : decode cX0_sizeOfLate 16 = .ok (.ireturn, 1) := by decide +kernel
theorem dX0_sizeOfRound_0 : decode cX0_sizeOfRound 0 = .ok (.aload_n 0, 1) := by decide +kernel
theorem dX0_sizeOfRound_1 : decode cX0_sizeOfRound 1 = .ok (.bipush 12, 2) := by decide +kernel
theorem dX0_sizeOfRound_3 : decode cX0_sizeOfRound 3 = .ok (.invokevirtual 62, 3) := by decide +kernel
theorem dX0_sizeOfRound_6 : decode cX0_sizeOfRound 6 = .ok (.iconst 2, 1) := by decide +kernel
theorem dX0_sizeOfRound_7 : decode cX0_sizeOfRound 7 = .ok (.aload_n 0, 1) := by decide +kernel
theorem dX0_sizeOfRound_8 : decode cX0_sizeOfRound 8 = .ok (.aload_n 1, 1) := by decide +kernel
theorem dX0_sizeOfRound_9 : decode cX0_sizeOfRound 9 = .ok (.invokevirtual 41, 3) := by decide +kernel
theorem dX0_sizeOfRound_12 : decode cX0_sizeOfRound 12 = .ok (.imul, 1) := by decide +kernel
theorem dX0_sizeOfRound_13 : decode cX0_sizeOfRound 13 = .ok (.ireturn, 1) := by decide +kernel
theorem dX0_sizeOfCalm_0 : decode cX0_sizeOfCalm 0 = .ok (.aload_n 0, 1) := by decide +kernel
theorem dX0_sizeOfCalm_1 : decode cX0_sizeOfCalm 1 = .ok (.bipush 13, 2) := by decide +kernel
theorem dX0_sizeOfCalm_3 : decode cX0_sizeOfCalm 3 = .ok (.invokevirtual 62, 3) := by decide +kernel
theorem dX0_sizeOfCalm_6 : decode cX0_sizeOfCalm 6 = .ok (.aload_n 0, 1) := by decide +kernel
theorem dX0_sizeOfCalm_7 : decode cX0_sizeOfCalm 7 = .ok (.aload_n 1, 1) := by decide +kernel
theorem dX0_sizeOfCalm_8 : decode cX0_sizeOfCalm 8 = .ok (.invokevirtual 50, 3) := by decide +kernel
theorem dX0_sizeOfCalm_11 : decode cX0_sizeOfCalm 11 = .ok (.aload_n 0, 1) := by decide +kernel
theorem dX0_sizeOfCalm_12 : decode cX0_sizeOfCalm 12 = .ok (.aload_n 1, 1) := by decide +kernel
theorem dX0_sizeOfCalm_13 : decode cX0_sizeOfCalm 13 = .ok (.invokevirtual 73, 3) := by decide +kernel
theorem dX0_sizeOfCalm_16 : decode cX0_sizeOfCalm 16 = .ok (.iadd, 1) := by decide +kernel
theorem dX0_sizeOfCalm_17 : decode cX0_sizeOfCalm 17 = .ok (.ireturn, 1) := by decide +kernel
theorem dX0_markLent_0 : decode cX0_markLent 0 = .ok (.aload_n 0, 1) := by decide +kernel
theorem dX0_markLent_1 : decode cX0_markLent 1 = .ok (.bipush 20, 2) := by decide +kernel
theorem dX0_markLent_3 : decode cX0_markLent 3 = .ok (.invokevirtual 62, 3) := by decide +kernel
theorem dX0_markLent_6 : decode cX0_markLent 6 = .ok (.aload_n 1, 1) := by decide +kernel
theorem dX0_markLent_7 : decode cX0_markLent 7 = .ok (.getfield 76, 3) := by decide +kernel
theorem dX0_markLent_10 : decode cX0_markLent 10 = .ok (.ireturn, 1) := by decide +kernel
theorem dX0_markOfLate_0 : decode cX0_markOfLate 0 = .ok (.aload_n 0, 1) := by decide +kernel
theorem dX0_markOfLate_1 : decode cX0_markOfLate 1 = .ok (.bipush 21, 2) := by decide +kernel
theorem dX0_markOfLate_3 : decode cX0_markOfLate 3 = .ok (.invokevirtual 62, 3) := by decide +kernel
theorem dX0_markOfLate_6 : decode cX0_markOfLate 6 = .ok (.aload_n 0, 1) := by decide +kernel
theorem dX0_markOfLate_7 : decode cX0_markOfLate 7 = .ok (.aload_n 1, 1) := by decide +kernel
theorem dX0_markOfLate_8 : decode cX0_markOfLate 8 = .ok (.invokevirtual 59, 3) := by decide +kernel
theorem dX0_markOfLate_11 : decode cX0_markOfLate 11 = .ok (.bipush 100, 2) := by decide +kernel
theorem dX0_markOfLate_13 : decode cX0_markOfLate 13 = .ok (.iadd, 1) := by decide +kernel
theorem dX0_markOfLate_14 : decode cX0_markOfLate 14 = .ok (.ireturn, 1) := by decide +kernel
theorem dX0_markOfCalm_0 : decode cX0_markOfCalm 0 = .ok (.aload_n 0, 1) := by decide +kernel
theorem dX0_markOfCalm_1 : decode cX0_markOfCalm 1 = .ok (.bipush 22, 2) := by decide +kernel
theorem dX0_markOfCalm_3 : decode cX0_markOfCalm 3 = .ok (.invokevirtual 62, 3) := by decide +kernel
theorem dX0_markOfCalm_6 : decode cX0_markOfCalm 6 = .ok (.aload_n 0, 1) := by decide +kernel
theorem dX0_markOfCalm_7 : decode cX0_markOfCalm 7 = .ok (.aload_n 1, 1) := by decide +kernel
theorem dX0_markOfCalm_8 : decode cX0_markOfCalm 8 = .ok (.invokevirtual 59, 3) := by decide +kernel
theorem dX0_markOfCalm_11 : decode cX0_markOfCalm 11 = .ok (.aload_n 1, 1) := by decide +kernel
theorem dX0_markOfCalm_12 : decode cX0_markOfCalm 12 = .ok (.getfield 79, 3) := by decide +kernel
theorem dX0_markOfCalm_15 : decode cX0_markOfCalm 15 = .ok (.iadd, 1) := by decide +kernel
theorem dX0_markOfCalm_16 : decode cX0_markOfCalm 16 = .ok (.ireturn, 1) := by decide +kernel
theorem dX0_leaveInTrace_0 : decode cX0_leaveInTrace 0 = .ok (.aload_n 0, 1) := by decide +kernel
theorem dX0_leaveInTrace_1 : decode cX0_leaveInTrace 1 = .ok (.getfield 15, 3) := by decide +kernel
theorem dX0_leaveInTrace_4 : decode cX0_leaveInTrace 4 = .ok (.bipush 16, 2) := by decide +kernel
theorem dX0_leaveInTrace_6 : decode cX0_leaveInTrace 6 = .ok (.if_icmp .ge 23, 3) := by decide +kernel
theorem dX0_leaveInTrace_9 : decode cX0_leaveInTrace 9 = .ok (.aload_n 0, 1) := by decide +kernel
theorem dX0_leaveInTrace_10 : decode cX0_leaveInTrace 10 = .ok (.getfield 9, 3) := by decide +kernel
theorem dX0_leaveInTrace_13 : decode cX0_leaveInTrace 13 = .ok (.aload_n 0, 1) := by decide +kernel
theorem dX0_leaveInTrace_14 : decode cX0_leaveInTrace 14 = .ok (.getfield 15, 3) := by decide +kernel
theorem dX0_leaveInTrace_17 : decode cX0_leaveInTrace 17 = .ok (.iload_n 1, 1) := by decide +kernel
theorem dX0_leaveInTrace_18 : decode cX0_leaveInTrace 18 = .ok (.iastore, 1) := by decide +kernel
theorem dX0_leaveInTrace_19 : decode cX0_leaveInTrace 19 = .ok (.aload_n 0, 1) := by decide +kernel
theorem dX0_leaveInTrace_20 : decode cX0_leaveInTrace 20 = .ok (.dup, 1) := by decide +kernel
theorem dX0_leaveInTrace_21 : decode cX0_leaveInTrace 21 = .ok (.getfield 15, 3) := by decide +kernel
theorem dX0_leaveInTrace_24 : decode cX0_leaveInTrace 24 = .ok (.iconst 1, 1) := by decide +kernel
theorem dX0_leaveInTrace_25 : decode cX0_leaveInTrace 25 = .ok (.iadd, 1) := by decide +kernel
theorem dX0_leaveInTrace_26 : decode cX0_leaveInTrace 26 = .ok (.putfield 15, 3) := by decide +kernel
theorem dX0_leaveInTrace_29 : decode cX0_leaveInTrace 29 = .ok (.return_, 1) := by decide +kernel
theorem dX1_init_0 : decode cX1_init 0 = .ok (.aload_n 0, 1) := by decide +kernel
theorem dX1_init_1 : decode cX1_init 1 = .ok (.invokespecial 3, 3) := by decide +kernel
theorem dX1_init_4 : decode cX1_init 4 = .ok (.aload_n 0, 1) := by decide +kernel
theorem dX1_init_5 : decode cX1_init 5 = .ok (.bipush 12, 2) := by decide +kernel
theorem dX1_init_7 : decode cX1_init 7 = .ok (.anewarray 9, 3) := by decide +kernel
theorem dX1_init_10 : decode cX1_init 10 = .ok (.putfield 11, 3) := by decide +kernel
theorem dX1_init_13 : decode cX1_init 13 = .ok (.aload_n 0, 1) := by decide +kernel
theorem dX1_init_14 : decode cX1_init 14 = .ok (.iconst 0, 1) := by decide +kernel
theorem dX1_init_15 : decode cX1_init 15 = .ok (.putfield 17, 3) := by decide +kernel
theorem dX1_init_18 : decode cX1_init 18 = .ok (.iconst 0, 1) := by decide +kernel
theorem dX1_init_19 : decode cX1_init 19 = .ok (.istore_n 1, 1) := by decide +kernel
theorem dX1_init_20 : decode cX1_init 20 = .ok (.iload_n 1, 1) := by decide +kernel
theorem dX1_init_21 : decode cX1_init 21 = .ok (.bipush 12, 2) := by decide +kernel
theorem dX1_init_23 : decode cX1_init 23 = .ok (.if_icmp .ge 22, 3) := by decide +kernel
theorem dX1_init_26 : decode cX1_init 26 = .ok (.aload_n 0, 1) := by decide +kernel
theorem dX1_init_27 : decode cX1_init 27 = .ok (.getfield 11, 3) := by decide +kernel
theorem dX1_init_30 : decode cX1_init 30 = .ok (.iload_n 1, 1) := by decide +kernel
theorem dX1_init_31 : decode cX1_init 31 = .ok (.new 9, 3) := by decide +kernel
theorem dX1_init_34 : decode cX1_init 34 = .ok (.dup, 1) := by decide +kernel
theorem dX1_init_35 : decode cX1_init 35 = .ok (.invokespecial 21, 3) := by decide +kernel
theorem dX1_init_38 : decode cX1_init 38 = .ok (.aastore, 1) := by decide +kernel
theorem dX1_init_39 : decode cX1_init 39 = .ok (.iinc 1 1, 3) := by decide +kernel
theorem dX1_init_42 : decode cX1_init 42 = .ok (.goto (-22), 3) := by decide +kernel
theorem dX1_init_45 : decode cX1_init 45 = .ok (.return_, 1) := by decide +kernel
theorem dX1_flightOrNull_0 : decode cX1_flightOrNull 0 = .ok (.iload_n 1, 1) := by decide +kernel
theorem dX1_flightOrNull_1 : decode cX1_flightOrNull 1 = .ok (.ifCond .lt 20, 3) := by decide +kernel
theorem dX1_flightOrNull_4 : decode cX1_flightOrNull 4 = .ok (.iload_n 1, 1) := by decide +kernel
theorem dX1_flightOrNull_5 : decode cX1_flightOrNull 5 = .ok (.aload_n 0, 1) := by decide +kernel
theorem dX1_flightOrNull_6 : decode cX1_flightOrNull 6 = .ok (.getfield 17, 3) := by decide +kernel
theorem dX1_flightOrNull_9 : decode cX1_flightOrNull 9 = .ok (.if_icmp .ge 12, 3) := by decide +kernel
theorem dX1_flightOrNull_12 : decode cX1_flightOrNull 12 = .ok (.aload_n 0, 1) := by decide +kernel
theorem dX1_flightOrNull_13 : decode cX1_flightOrNull 13 = .ok (.getfield 11, 3) := by decide +kernel
theorem dX1_flightOrNull_16 : decode cX1_flightOrNull 16 = .ok (.iload_n 1, 1) := by decide +kernel
theorem dX1_flightOrNull_17 : decode cX1_flightOrNull 17 = .ok (.aaload, 1) := by decide +kernel
theorem dX1_flightOrNull_18 : decode cX1_flightOrNull 18 = .ok (.goto 4, 3) := by decide +kernel
theorem dX1_flightOrNull_21 : decode cX1_flightOrNull 21 = .ok (.aconst_null, 1) := by decide +kernel
theorem dX1_flightOrNull_22 : decode cX1_flightOrNull 22 = .ok (.areturn, 1) := by decide +kernel
theorem dX1_everyFlight_0 : decode cX1_everyFlight 0 = .ok (.iconst 1, 1) := by decide +kernel
theorem dX1_everyFlight_1 : decode cX1_everyFlight 1 = .ok (.aload_n 0, 1) := by decide +kernel
theorem dX1_everyFlight_2 : decode cX1_everyFlight 2 = .ok (.getfield 17, 3) := by decide +kernel
theorem dX1_everyFlight_5 : decode cX1_everyFlight 5 = .ok (.ishl, 1) := by decide +kernel
theorem dX1_everyFlight_6 : decode cX1_everyFlight 6 = .ok (.iconst 1, 1) := by decide +kernel
theorem dX1_everyFlight_7 : decode cX1_everyFlight 7 = .ok (.isub, 1) := by decide +kernel
theorem dX1_everyFlight_8 : decode cX1_everyFlight 8 = .ok (.ireturn, 1) := by decide +kernel
theorem dX1_loadKnownAt_0 : decode cX1_loadKnownAt 0 = .ok (.iconst 0, 1) := by decide +kernel
theorem dX1_loadKnownAt_1 : decode cX1_loadKnownAt 1 = .ok (.istore 4, 2) := by decide +kernel
theorem dX1_loadKnownAt_3 : decode cX1_loadKnownAt 3 = .ok (.iconst 0, 1) := by decide +kernel
theorem dX1_loadKnownAt_4 : decode cX1_loadKnownAt 4 = .ok (.istore 5, 2) := by decide +kernel
theorem dX1_loadKnownAt_6 : decode cX1_loadKnownAt 6 = .ok (.iload 5, 2) := by decide +kernel
theorem dX1_loadKnownAt_8 : decode cX1_loadKnownAt 8 = .ok (.aload_n 0, 1) := by decide +kernel
theorem dX1_loadKnownAt_9 : decode cX1_loadKnownAt 9 = .ok (.getfield 17, 3) := by decide +kernel
theorem dX1_loadKnownAt_12 : decode cX1_loadKnownAt 12 = .ok (.if_icmp .ge 47, 3) := by decide +kernel
theorem dX1_loadKnownAt_15 : decode cX1_loadKnownAt 15 = .ok (.iload 5, 2) := by decide +kernel
theorem dX1_loadKnownAt_17 : decode cX1_loadKnownAt 17 = .ok (.iload_n 3, 1) := by decide +kernel
theorem dX1_loadKnownAt_18 : decode cX1_loadKnownAt 18 = .ok (.if_icmp .gt 41, 3) := by decide +kernel
theorem dX1_loadKnownAt_21 : decode cX1_loadKnownAt 21 = .ok (.aload_n 0, 1) := by decide +kernel
theorem dX1_loadKnownAt_22 : decode cX1_loadKnownAt 22 = .ok (.getfield 11, 3) := by decide +kernel
theorem dX1_loadKnownAt_25 : decode cX1_loadKnownAt 25 = .ok (.iload 5, 2) := by decide +kernel
theorem dX1_loadKnownAt_27 : decode cX1_loadKnownAt 27 = .ok (.aaload, 1) := by decide +kernel
theorem dX1_loadKnownAt_28 : decode cX1_loadKnownAt 28 = .ok (.iload_n 2, 1) := by decide +kernel
theorem dX1_loadKnownAt_29 : decode cX1_loadKnownAt 29 = .ok (.iconst 0, 1) := by decide +kernel
theorem dX1_loadKnownAt_30 : decode cX1_loadKnownAt 30 = .ok (.iconst 0, 1) := by decide +kernel
theorem dX1_loadKnownAt_31 : decode cX1_loadKnownAt 31 = .ok (.invokevirtual 22, 3) := by decide +kernel
theorem dX1_loadKnownAt_34 : decode cX1_loadKnownAt 34 = .ok (.iload_n 1, 1) := by decide +kernel
theorem dX1_loadKnownAt_35 : decode cX1_loadKnownAt 35 = .ok (.if_icmp .ne 18, 3) := by decide +kernel
theorem dX1_loadKnownAt_38 : decode cX1_loadKnownAt 38 = .ok (.iload 4, 2) := by decide +kernel
theorem dX1_loadKnownAt_40 : decode cX1_loadKnownAt 40 = .ok (.aload_n 0, 1) := by decide +kernel
theorem dX1_loadKnownAt_41 : decode cX1_loadKnownAt 41 = .ok (.getfield 11, 3) := by decide +kernel
theorem dX1_loadKnownAt_44 : decode cX1_loadKnownAt 44 = .ok (.iload 5, 2) := by decide +kernel
theorem dX1_loadKnownAt_46 : decode cX1_loadKnownAt 46 = .ok (.aaload, 1) := by decide +kernel
theorem dX1_loadKnownAt_47 : decode cX1_loadKnownAt 47 = .ok (.getfield 26, 3) := by decide +kernel
theorem dX1_loadKnownAt_50 : decode cX1_loadKnownAt 50 = .ok (.iadd, 1) := by decide +kernel
theorem dX1_loadKnownAt_51 : decode cX1_loadKnownAt 51 = .ok (.istore 4, 2) := by decide +kernel
theorem dX1_loadKnownAt_53 : decode cX1_loadKnownAt 53 = .ok (.iinc 5 1, 3) := by decide +kernel
theorem dX1_loadKnownAt_56 : decode cX1_loadKnownAt 56 = .ok (.goto (-50), 3) := by decide +kernel
theorem dX1_loadKnownAt_59 : decode cX1_loadKnownAt 59 = .ok (.iload 4, 2) := by decide +kernel
theorem dX1_loadKnownAt_61 : decode cX1_loadKnownAt 61 = .ok (.ireturn, 1) := by decide +kernel
theorem dX1_costTogether_0 : decode cX1_costTogether 0 = .ok (.iconst 0, 1) := by decide +kernel
theorem dX1_costTogether_1 : decode cX1_costTogether 1 = .ok (.istore_n 1, 1) := by decide +kernel
theorem dX1_costTogether_2 : decode cX1_costTogether 2 = .ok (.iconst 0, 1) := by decide +kernel
theorem dX1_costTogether_3 : decode cX1_costTogether 3 = .ok (.istore_n 2, 1) := by decide +kernel
theorem dX1_costTogether_4 : decode cX1_costTogether 4 = .ok (.iload_n 2, 1) := by decide +kernel
theorem dX1_costTogether_5 : decode cX1_costTogether 5 = .ok (.aload_n 0, 1) := by decide +kernel
theorem dX1_costTogether_6 : decode cX1_costTogether 6 = .ok (.getfield 17, 3) := by decide +kernel
theorem dX1_costTogether_9 : decode cX1_costTogether 9 = .ok (.if_icmp .ge 21, 3) := by decide +kernel
theorem dX1_costTogether_12 : decode cX1_costTogether 12 = .ok (.iload_n 1, 1) := by decide +kernel
theorem dX1_costTogether_13 : decode cX1_costTogether 13 = .ok (.aload_n 0, 1) := by decide +kernel
theorem dX1_costTogether_14 : decode cX1_costTogether 14 = .ok (.getfield 11, 3) := by decide +kernel
theorem dX1_costTogether_17 : decode cX1_costTogether 17 = .ok (.iload_n 2, 1) := by decide +kernel
theorem dX1_costTogether_18 : decode cX1_costTogether 18 = .ok (.aaload, 1) := by decide +kernel
theorem dX1_costTogether_19 : decode cX1_costTogether 19 = .ok (.invokevirtual 29, 3) := by decide +kernel
theorem dX1_costTogether_22 : decode cX1_costTogether 22 = .ok (.iadd, 1) := by decide +kernel
theorem dX1_costTogether_23 : decode cX1_costTogether 23 = .ok (.istore_n 1, 1) := by decide +kernel
theorem dX1_costTogether_24 : decode cX1_costTogether 24 = .ok (.iinc 2 1, 3) := by decide +kernel
theorem dX1_costTogether_27 : decode cX1_costTogether 27 = .ok (.goto (-23), 3) := by decide +kernel
theorem dX1_costTogether_30 : decode cX1_costTogether 30 = .ok (.iload_n 1, 1) := by decide +kernel
theorem dX1_costTogether_31 : decode cX1_costTogether 31 = .ok (.ireturn, 1) := by decide +kernel
theorem dX1_delaysTogether_0 : decode cX1_delaysTogether 0 = .ok (.iconst 0, 1) := by decide +kernel
theorem dX1_delaysTogether_1 : decode cX1_delaysTogether 1 = .ok (.istore_n 1, 1) := by decide +kernel
theorem dX1_delaysTogether_2 : decode cX1_delaysTogether 2 = .ok (.iconst 0, 1) := by decide +kernel
theorem dX1_delaysTogether_3 : decode cX1_delaysTogether 3 = .ok (.istore_n 2, 1) := by decide +kernel
theorem dX1_delaysTogether_4 : decode cX1_delaysTogether 4 = .ok (.iload_n 2, 1) := by decide +kernel
theorem dX1_delaysTogether_5 : decode cX1_delaysTogether 5 = .ok (.aload_n 0, 1) := by decide +kernel
theorem dX1_delaysTogether_6 : decode cX1_delaysTogether 6 = .ok (.getfield 17, 3) := by decide +kernel
theorem dX1_delaysTogether_9 : decode cX1_delaysTogether 9 = .ok (.if_icmp .ge 21, 3) := by decide +kernel
theorem dX1_delaysTogether_12 : decode cX1_delaysTogether 12 = .ok (.iload_n 1, 1) := by decide +kernel
theorem dX1_delaysTogether_13 : decode cX1_delaysTogether 13 = .ok (.aload_n 0, 1) := by decide +kernel
theorem dX1_delaysTogether_14 : decode cX1_delaysTogether 14 = .ok (.getfield 11, 3) := by decide +kernel
theorem dX1_delaysTogether_17 : decode cX1_delaysTogether 17 = .ok (.iload_n 2, 1) := by decide +kernel
theorem dX1_delaysTogether_18 : decode cX1_delaysTogether 18 = .ok (.aaload, 1) := by decide +kernel
theorem dX1_delaysTogether_19 : decode cX1_delaysTogether 19 = .ok (.getfield 33, 3) := by decide +kernel
theorem dX1_delaysTogether_22 : decode cX1_delaysTogether 22 = .ok (.iadd, 1) := by decide +kernel
theorem dX1_delaysTogether_23 : decode cX1_delaysTogether 23 = .ok (.istore_n 1, 1) := by decide +kernel
theorem dX1_delaysTogether_24 : decode cX1_delaysTogether 24 = .ok (.iinc 2 1, 3) := by decide +kernel
theorem dX1_delaysTogether_27 : decode cX1_delaysTogether 27 = .ok (.goto (-23), 3) := by decide +kernel
theorem dX1_delaysTogether_30 : decode cX1_delaysTogether 30 = .ok (.iload_n 1, 1) := by decide +kernel
theorem dX1_delaysTogether_31 : decode cX1_delaysTogether 31 = .ok (.ireturn, 1) := by decide +kernel
theorem dX1_flightsOf_0 : decode cX1_flightsOf 0 = .ok (.iconst 0, 1) := by decide +kernel
theorem dX1_flightsOf_1 : decode cX1_flightsOf 1 = .ok (.istore_n 2, 1) := by decide +kernel
theorem dX1_flightsOf_2 : decode cX1_flightsOf 2 = .ok (.iconst 0, 1) := by decide +kernel
theorem dX1_flightsOf_3 : decode cX1_flightsOf 3 = .ok (.istore_n 3, 1) := by decide +kernel
theorem dX1_flightsOf_4 : decode cX1_flightsOf 4 = .ok (.iload_n 3, 1) := by decide +kernel
theorem dX1_flightsOf_5 : decode cX1_flightsOf 5 = .ok (.aload_n 0, 1) := by decide +kernel
theorem dX1_flightsOf_6 : decode cX1_flightsOf 6 = .ok (.getfield 17, 3) := by decide +kernel
theorem dX1_flightsOf_9 : decode cX1_flightsOf 9 = .ok (.if_icmp .ge 30, 3) := by decide +kernel
theorem dX1_flightsOf_12 : decode cX1_flightsOf 12 = .ok (.iload_n 2, 1) := by decide +kernel
theorem dX1_flightsOf_13 : decode cX1_flightsOf 13 = .ok (.aload_n 0, 1) := by decide +kernel
theorem dX1_flightsOf_14 : decode cX1_flightsOf 14 = .ok (.getfield 11, 3) := by decide +kernel
theorem dX1_flightsOf_17 : decode cX1_flightsOf 17 = .ok (.iload_n 3, 1) := by decide +kernel
theorem dX1_flightsOf_18 : decode cX1_flightsOf 18 = .ok (.aaload, 1) := by decide +kernel
theorem dX1_flightsOf_19 : decode cX1_flightsOf 19 = .ok (.getfield 36, 3) := by decide +kernel
theorem dX1_flightsOf_22 : decode cX1_flightsOf 22 = .ok (.iload_n 1, 1) := by decide +kernel
theorem dX1_flightsOf_23 : decode cX1_flightsOf 23 = .ok (.if_icmp .ne 7, 3) := by decide +kernel
theorem dX1_flightsOf_26 : decode cX1_flightsOf 26 = .ok (.iconst 1, 1) := by decide +kernel
theorem dX1_flightsOf_27 : decode cX1_flightsOf 27 = .ok (.goto 4, 3) := by decide +kernel
theorem dX1_flightsOf_30 : decode cX1_flightsOf 30 = .ok (.iconst 0, 1) := by decide +kernel
theorem dX1_flightsOf_31 : decode cX1_flightsOf 31 = .ok (.iadd, 1) := by decide +kernel
theorem dX1_flightsOf_32 : decode cX1_flightsOf 32 = .ok (.istore_n 2, 1) := by decide +kernel
theorem dX1_flightsOf_33 : decode cX1_flightsOf 33 = .ok (.iinc 3 1, 3) := by decide +kernel
theorem dX1_flightsOf_36 : decode cX1_flightsOf 36 = .ok (.goto (-32), 3) := by decide +kernel
theorem dX1_flightsOf_39 : decode cX1_flightsOf 39 = .ok (.iload_n 2, 1) := by decide +kernel
theorem dX1_flightsOf_40 : decode cX1_flightsOf 40 = .ok (.ireturn, 1) := by decide +kernel
theorem dX1_delaysOf_0 : decode cX1_delaysOf 0 = .ok (.iconst 0, 1) := by decide +kernel
theorem dX1_delaysOf_1 : decode cX1_delaysOf 1 = .ok (.istore_n 2, 1) := by decide +kernel
theorem dX1_delaysOf_2 : decode cX1_delaysOf 2 = .ok (.iconst 0, 1) := by decide +kernel
theorem dX1_delaysOf_3 : decode cX1_delaysOf 3 = .ok (.istore_n 3, 1) := by decide +kernel
theorem dX1_delaysOf_4 : decode cX1_delaysOf 4 = .ok (.iload_n 3, 1) := by decide +kernel
theorem dX1_delaysOf_5 : decode cX1_delaysOf 5 = .ok (.aload_n 0, 1) := by decide +kernel
theorem dX1_delaysOf_6 : decode cX1_delaysOf 6 = .ok (.getfield 17, 3) := by decide +kernel
theorem dX1_delaysOf_9 : decode cX1_delaysOf 9 = .ok (.if_icmp .ge 38, 3) := by decide +kernel
theorem dX1_delaysOf_12 : decode cX1_delaysOf 12 = .ok (.iload_n 2, 1) := by decide +kernel
theorem dX1_delaysOf_13 : decode cX1_delaysOf 13 = .ok (.aload_n 0, 1) := by decide +kernel
theorem dX1_delaysOf_14 : decode cX1_delaysOf 14 = .ok (.getfield 11, 3) := by decide +kernel
theorem dX1_delaysOf_17 : decode cX1_delaysOf 17 = .ok (.iload_n 3, 1) := by decide +kernel
theorem dX1_delaysOf_18 : decode cX1_delaysOf 18 = .ok (.aaload, 1) := by decide +kernel
theorem dX1_delaysOf_19 : decode cX1_delaysOf 19 = .ok (.getfield 36, 3) := by decide +kernel
theorem dX1_delaysOf_22 : decode cX1_delaysOf 22 = .ok (.iload_n 1, 1) := by decide +kernel
theorem dX1_delaysOf_23 : decode cX1_delaysOf 23 = .ok (.if_icmp .ne 15, 3) := by decide +kernel
theorem dX1_delaysOf_26 : decode cX1_delaysOf 26 = .ok (.aload_n 0, 1) := by decide +kernel
theorem dX1_delaysOf_27 : decode cX1_delaysOf 27 = .ok (.getfield 11, 3) := by decide +kernel
theorem dX1_delaysOf_30 : decode cX1_delaysOf 30 = .ok (.iload_n 3, 1) := by decide +kernel
theorem dX1_delaysOf_31 : decode cX1_delaysOf 31 = .ok (.aaload, 1) := by decide +kernel
theorem dX1_delaysOf_32 : decode cX1_delaysOf 32 = .ok (.getfield 33, 3) := by decide +kernel
theorem dX1_delaysOf_35 : decode cX1_delaysOf 35 = .ok (.goto 4, 3) := by decide +kernel
theorem dX1_delaysOf_38 : decode cX1_delaysOf 38 = .ok (.iconst 0, 1) := by decide +kernel
theorem dX1_delaysOf_39 : decode cX1_delaysOf 39 = .ok (.iadd, 1) := by decide +kernel
theorem dX1_delaysOf_40 : decode cX1_delaysOf 40 = .ok (.istore_n 2, 1) := by decide +kernel
theorem dX1_delaysOf_41 : decode cX1_delaysOf 41 = .ok (.iinc 3 1, 3) := by decide +kernel
theorem dX1_delaysOf_44 : decode cX1_delaysOf 44 = .ok (.goto (-40), 3) := by decide +kernel
theorem dX1_delaysOf_47 : decode cX1_delaysOf 47 = .ok (.iload_n 2, 1) := by decide +kernel
theorem dX1_delaysOf_48 : decode cX1_delaysOf 48 = .ok (.ireturn, 1) := by decide +kernel
theorem dX1_costOf_0 : decode cX1_costOf 0 = .ok (.iconst 0, 1) := by decide +kernel
theorem dX1_costOf_1 : decode cX1_costOf 1 = .ok (.istore_n 2, 1) := by decide +kernel
theorem dX1_costOf_2 : decode cX1_costOf 2 = .ok (.iconst 0, 1) := by decide +kernel
theorem dX1_costOf_3 : decode cX1_costOf 3 = .ok (.istore_n 3, 1) := by decide +kernel
theorem dX1_costOf_4 : decode cX1_costOf 4 = .ok (.iload_n 3, 1) := by decide +kernel
theorem dX1_costOf_5 : decode cX1_costOf 5 = .ok (.aload_n 0, 1) := by decide +kernel
theorem dX1_costOf_6 : decode cX1_costOf 6 = .ok (.getfield 17, 3) := by decide +kernel
theorem dX1_costOf_9 : decode cX1_costOf 9 = .ok (.if_icmp .ge 38, 3) := by decide +kernel
theorem dX1_costOf_12 : decode cX1_costOf 12 = .ok (.iload_n 2, 1) := by decide +kernel
theorem dX1_costOf_13 : decode cX1_costOf 13 = .ok (.aload_n 0, 1) := by decide +kernel
theorem dX1_costOf_14 : decode cX1_costOf 14 = .ok (.getfield 11, 3) := by decide +kernel
theorem dX1_costOf_17 : decode cX1_costOf 17 = .ok (.iload_n 3, 1) := by decide +kernel
theorem dX1_costOf_18 : decode cX1_costOf 18 = .ok (.aaload, 1) := by decide +kernel
theorem dX1_costOf_19 : decode cX1_costOf 19 = .ok (.getfield 36, 3) := by decide +kernel
theorem dX1_costOf_22 : decode cX1_costOf 22 = .ok (.iload_n 1, 1) := by decide +kernel
theorem dX1_costOf_23 : decode cX1_costOf 23 = .ok (.if_icmp .ne 15, 3) := by decide +kernel
theorem dX1_costOf_26 : decode cX1_costOf 26 = .ok (.aload_n 0, 1) := by decide +kernel
theorem dX1_costOf_27 : decode cX1_costOf 27 = .ok (.getfield 11, 3) := by decide +kernel
theorem dX1_costOf_30 : decode cX1_costOf 30 = .ok (.iload_n 3, 1) := by decide +kernel
theorem dX1_costOf_31 : decode cX1_costOf 31 = .ok (.aaload, 1) := by decide +kernel
theorem dX1_costOf_32 : decode cX1_costOf 32 = .ok (.invokevirtual 29, 3) := by decide +kernel
theorem dX1_costOf_35 : decode cX1_costOf 35 = .ok (.goto 4, 3) := by decide +kernel
theorem dX1_costOf_38 : decode cX1_costOf 38 = .ok (.iconst 0, 1) := by decide +kernel
theorem dX1_costOf_39 : decode cX1_costOf 39 = .ok (.iadd, 1) := by decide +kernel
theorem dX1_costOf_40 : decode cX1_costOf 40 = .ok (.istore_n 2, 1) := by decide +kernel
theorem dX1_costOf_41 : decode cX1_costOf 41 = .ok (.iinc 3 1, 3) := by decide +kernel
theorem dX1_costOf_44 : decode cX1_costOf 44 = .ok (.goto (-40), 3) := by decide +kernel
theorem dX1_costOf_47 : decode cX1_costOf 47 = .ok (.iload_n 2, 1) := by decide +kernel
theorem dX1_costOf_48 : decode cX1_costOf 48 = .ok (.ireturn, 1) := by decide +kernel
theorem dX2_init_0 : decode cX2_init 0 = .ok (.aload_n 0, 1) := by decide +kernel
theorem dX2_init_1 : decode cX2_init 1 = .ok (.invokespecial 3, 3) := by decide +kernel
theorem dX2_init_4 : decode cX2_init 4 = .ok (.aload_n 0, 1) := by decide +kernel
theorem dX2_init_5 : decode cX2_init 5 = .ok (.iconst 0, 1) := by decide +kernel
theorem dX2_init_6 : decode cX2_init 6 = .ok (.putfield 9, 3) := by decide +kernel
theorem dX2_init_9 : decode cX2_init 9 = .ok (.aload_n 0, 1) := by decide +kernel
theorem dX2_init_10 : decode cX2_init 10 = .ok (.iconst 1, 1) := by decide +kernel
theorem dX2_init_11 : decode cX2_init 11 = .ok (.putfield 15, 3) := by decide +kernel
theorem dX2_init_14 : decode cX2_init 14 = .ok (.aload_n 0, 1) := by decide +kernel
theorem dX2_init_15 : decode cX2_init 15 = .ok (.iconst 0, 1) := by decide +kernel
theorem dX2_init_16 : decode cX2_init 16 = .ok (.putfield 18, 3) := by decide +kernel
theorem dX2_init_19 : decode cX2_init 19 = .ok (.aload_n 0, 1) := by decide +kernel
theorem dX2_init_20 : decode cX2_init 20 = .ok (.iconst 0, 1) := by decide +kernel
theorem dX2_init_21 : decode cX2_init 21 = .ok (.putfield 21, 3) := by decide +kernel
theorem dX2_init_24 : decode cX2_init 24 = .ok (.aload_n 0, 1) := by decide +kernel
theorem dX2_init_25 : decode cX2_init 25 = .ok (.iconst 0, 1) := by decide +kernel
theorem dX2_init_26 : decode cX2_init 26 = .ok (.putfield 24, 3) := by decide +kernel
theorem dX2_init_29 : decode cX2_init 29 = .ok (.aload_n 0, 1) := by decide +kernel
theorem dX2_init_30 : decode cX2_init 30 = .ok (.iconst 3, 1) := by decide +kernel
theorem dX2_init_31 : decode cX2_init 31 = .ok (.newarray .int, 2) := by decide +kernel
theorem dX2_init_33 : decode cX2_init 33 = .ok (.putfield 27, 3) := by decide +kernel
theorem dX2_init_36 : decode cX2_init 36 = .ok (.aload_n 0, 1) := by decide +kernel
theorem dX2_init_37 : decode cX2_init 37 = .ok (.bipush 15, 2) := by decide +kernel
theorem dX2_init_39 : decode cX2_init 39 = .ok (.newarray .int, 2) := by decide +kernel
theorem dX2_init_41 : decode cX2_init 41 = .ok (.putfield 31, 3) := by decide +kernel
theorem dX2_init_44 : decode cX2_init 44 = .ok (.aload_n 0, 1) := by decide +kernel
theorem dX2_init_45 : decode cX2_init 45 = .ok (.bipush 15, 2) := by decide +kernel
theorem dX2_init_47 : decode cX2_init 47 = .ok (.newarray .int, 2) := by decide +kernel
theorem dX2_init_49 : decode cX2_init 49 = .ok (.putfield 34, 3) := by decide +kernel
theorem dX2_init_52 : decode cX2_init 52 = .ok (.aload_n 0, 1) := by decide +kernel
theorem dX2_init_53 : decode cX2_init 53 = .ok (.iconst 0, 1) := by decide +kernel
theorem dX2_init_54 : decode cX2_init 54 = .ok (.putfield 37, 3) := by decide +kernel
theorem dX2_init_57 : decode cX2_init 57 = .ok (.aload_n 0, 1) := by decide +kernel
theorem dX2_init_58 : decode cX2_init 58 = .ok (.iconst 0, 1) := by decide +kernel
theorem dX2_init_59 : decode cX2_init 59 = .ok (.putfield 40, 3) := by decide +kernel
theorem dX2_init_62 : decode cX2_init 62 = .ok (.return_, 1) := by decide +kernel
theorem dX2_begin_0 : decode cX2_begin 0 = .ok (.aload_n 0, 1) := by decide +kernel
theorem dX2_begin_1 : decode cX2_begin 1 = .ok (.iconst 0, 1) := by decide +kernel
theorem dX2_begin_2 : decode cX2_begin 2 = .ok (.putfield 24, 3) := by decide +kernel
theorem dX2_begin_5 : decode cX2_begin 5 = .ok (.aload_n 0, 1) := by decide +kernel
theorem dX2_begin_6 : decode cX2_begin 6 = .ok (.iconst 0, 1) := by decide +kernel
theorem dX2_begin_7 : decode cX2_begin 7 = .ok (.putfield 37, 3) := by decide +kernel
theorem dX2_begin_10 : decode cX2_begin 10 = .ok (.aload_n 0, 1) := by decide +kernel
theorem dX2_begin_11 : decode cX2_begin 11 = .ok (.iconst 0, 1) := by decide +kernel
theorem dX2_begin_12 : decode cX2_begin 12 = .ok (.putfield 40, 3) := by decide +kernel
theorem dX2_begin_15 : decode cX2_begin 15 = .ok (.return_, 1) := by decide +kernel
theorem dX2_addWay_0 : decode cX2_addWay 0 = .ok (.aload_n 0, 1) := by decide +kernel
theorem dX2_addWay_1 : decode cX2_addWay 1 = .ok (.getfield 24, 3) := by decide +kernel
theorem dX2_addWay_4 : decode cX2_addWay 4 = .ok (.iconst 3, 1) := by decide +kernel
theorem dX2_addWay_5 : decode cX2_addWay 5 = .ok (.if_icmp .ge 23, 3) := by decide +kernel
theorem dX2_addWay_8 : decode cX2_addWay 8 = .ok (.aload_n 0, 1) := by decide +kernel
theorem dX2_addWay_9 : decode cX2_addWay 9 = .ok (.getfield 27, 3) := by decide +kernel
theorem dX2_addWay_12 : decode cX2_addWay 12 = .ok (.aload_n 0, 1) := by decide +kernel
theorem dX2_addWay_13 : decode cX2_addWay 13 = .ok (.getfield 24, 3) := by decide +kernel
theorem dX2_addWay_16 : decode cX2_addWay 16 = .ok (.iconst 0, 1) := by decide +kernel
theorem dX2_addWay_17 : decode cX2_addWay 17 = .ok (.iastore, 1) := by decide +kernel
theorem dX2_addWay_18 : decode cX2_addWay 18 = .ok (.aload_n 0, 1) := by decide +kernel
theorem dX2_addWay_19 : decode cX2_addWay 19 = .ok (.dup, 1) := by decide +kernel
theorem dX2_addWay_20 : decode cX2_addWay 20 = .ok (.getfield 24, 3) := by decide +kernel
theorem dX2_addWay_23 : decode cX2_addWay 23 = .ok (.iconst 1, 1) := by decide +kernel
theorem dX2_addWay_24 : decode cX2_addWay 24 = .ok (.iadd, 1) := by decide +kernel
theorem dX2_addWay_25 : decode cX2_addWay 25 = .ok (.putfield 24, 3) := by decide +kernel
theorem dX2_addWay_28 : decode cX2_addWay 28 = .ok (.return_, 1) := by decide +kernel
theorem dX2_addLegToLastWay_0 : decode cX2_addLegToLastWay 0 = .ok (.aload_n 0, 1) := by decide +kernel
theorem dX2_addLegToLastWay_1 : decode cX2_addLegToLastWay 1 = .ok (.getfield 24, 3) := by decide +kernel
theorem dX2_addLegToLastWay_4 : decode cX2_addLegToLastWay 4 = .ok (.iconst 1, 1) := by decide +kernel
theorem dX2_addLegToLastWay_5 : decode cX2_addLegToLastWay 5 = .ok (.isub, 1) := by decide +kernel
theorem dX2_addLegToLastWay_6 : decode cX2_addLegToLastWay 6 = .ok (.istore_n 3, 1) := by decide +kernel
theorem dX2_addLegToLastWay_7 : decode cX2_addLegToLastWay 7 = .ok (.iload_n 3, 1) := by decide +kernel
theorem dX2_addLegToLastWay_8 : decode cX2_addLegToLastWay 8 = .ok (.ifCond .lt 13, 3) := by decide +kernel
theorem dX2_addLegToLastWay_11 : decode cX2_addLegToLastWay 11 = .ok (.aload_n 0, 1) := by decide +kernel
theorem dX2_addLegToLastWay_12 : decode cX2_addLegToLastWay 12 = .ok (.getfield 27, 3) := by decide +kernel
theorem dX2_addLegToLastWay_15 : decode cX2_addLegToLastWay 15 = .ok (.iload_n 3, 1) := by decide +kernel
theorem dX2_addLegToLastWay_16 : decode cX2_addLegToLastWay 16 = .ok (.iaload, 1) := by decide +kernel
theorem dX2_addLegToLastWay_17 : decode cX2_addLegToLastWay 17 = .ok (.iconst 5, 1) := by decide +kernel
theorem dX2_addLegToLastWay_18 : decode cX2_addLegToLastWay 18 = .ok (.if_icmp .lt 4, 3) := by decide +kernel
theorem dX2_addLegToLastWay_21 : decode cX2_addLegToLastWay 21 = .ok (.return_, 1) := by decide +kernel
theorem dX2_addLegToLastWay_22 : decode cX2_addLegToLastWay 22 = .ok (.iload_n 3, 1) := by decide +kernel
theorem dX2_addLegToLastWay_23 : decode cX2_addLegToLastWay 23 = .ok (.iconst 5, 1) := by decide +kernel
theorem dX2_addLegToLastWay_24 : decode cX2_addLegToLastWay 24 = .ok (.imul, 1) := by decide +kernel
theorem dX2_addLegToLastWay_25 : decode cX2_addLegToLastWay 25 = .ok (.aload_n 0, 1) := by decide +kernel
theorem dX2_addLegToLastWay_26 : decode cX2_addLegToLastWay 26 = .ok (.getfield 27, 3) := by decide +kernel
theorem dX2_addLegToLastWay_29 : decode cX2_addLegToLastWay 29 = .ok (.iload_n 3, 1) := by decide +kernel
theorem dX2_addLegToLastWay_30 : decode cX2_addLegToLastWay 30 = .ok (.iaload, 1) := by decide +kernel
theorem dX2_addLegToLastWay_31 : decode cX2_addLegToLastWay 31 = .ok (.iadd, 1) := by decide +kernel
theorem dX2_addLegToLastWay_32 : decode cX2_addLegToLastWay 32 = .ok (.istore 4, 2) := by decide +kernel
theorem dX2_addLegToLastWay_34 : decode cX2_addLegToLastWay 34 = .ok (.aload_n 0, 1) := by decide +kernel
theorem dX2_addLegToLastWay_35 : decode cX2_addLegToLastWay 35 = .ok (.getfield 31, 3) := by decide +kernel
theorem dX2_addLegToLastWay_38 : decode cX2_addLegToLastWay 38 = .ok (.iload 4, 2) := by decide +kernel
theorem dX2_addLegToLastWay_40 : decode cX2_addLegToLastWay 40 = .ok (.iload_n 1, 1) := by decide +kernel
theorem dX2_addLegToLastWay_41 : decode cX2_addLegToLastWay 41 = .ok (.iastore, 1) := by decide +kernel
theorem dX2_addLegToLastWay_42 : decode cX2_addLegToLastWay 42 = .ok (.aload_n 0, 1) := by decide +kernel
theorem dX2_addLegToLastWay_43 : decode cX2_addLegToLastWay 43 = .ok (.getfield 34, 3) := by decide +kernel
theorem dX2_addLegToLastWay_46 : decode cX2_addLegToLastWay 46 = .ok (.iload 4, 2) := by decide +kernel
theorem dX2_addLegToLastWay_48 : decode cX2_addLegToLastWay 48 = .ok (.iload_n 2, 1) := by decide +kernel
theorem dX2_addLegToLastWay_49 : decode cX2_addLegToLastWay 49 = .ok (.iastore, 1) := by decide +kernel
theorem dX2_addLegToLastWay_50 : decode cX2_addLegToLastWay 50 = .ok (.aload_n 0, 1) := by decide +kernel
theorem dX2_addLegToLastWay_51 : decode cX2_addLegToLastWay 51 = .ok (.getfield 27, 3) := by decide +kernel
theorem dX2_addLegToLastWay_54 : decode cX2_addLegToLastWay 54 = .ok (.iload_n 3, 1) := by decide +kernel
theorem dX2_addLegToLastWay_55 : decode cX2_addLegToLastWay 55 = .ok (.dup2, 1) := by decide +kernel
theorem dX2_addLegToLastWay_56 : decode cX2_addLegToLastWay 56 = .ok (.iaload, 1) := by decide +kernel
theorem dX2_addLegToLastWay_57 : decode cX2_addLegToLastWay 57 = .ok (.iconst 1, 1) := by decide +kernel
theorem dX2_addLegToLastWay_58 : decode cX2_addLegToLastWay 58 = .ok (.iadd, 1) := by decide +kernel
theorem dX2_addLegToLastWay_59 : decode cX2_addLegToLastWay 59 = .ok (.iastore, 1) := by decide +kernel
theorem dX2_addLegToLastWay_60 : decode cX2_addLegToLastWay 60 = .ok (.return_, 1) := by decide +kernel
theorem dX2_hasWay_0 : decode cX2_hasWay 0 = .ok (.iload_n 1, 1) := by decide +kernel
theorem dX2_hasWay_1 : decode cX2_hasWay 1 = .ok (.ifCond .lt 15, 3) := by decide +kernel
theorem dX2_hasWay_4 : decode cX2_hasWay 4 = .ok (.iload_n 1, 1) := by decide +kernel
theorem dX2_hasWay_5 : decode cX2_hasWay 5 = .ok (.aload_n 0, 1) := by decide +kernel
theorem dX2_hasWay_6 : decode cX2_hasWay 6 = .ok (.getfield 24, 3) := by decide +kernel
theorem dX2_hasWay_9 : decode cX2_hasWay 9 = .ok (.if_icmp .ge 7, 3) := by decide +kernel
theorem dX2_hasWay_12 : decode cX2_hasWay 12 = .ok (.iconst 1, 1) := by decide +kernel
theorem dX2_hasWay_13 : decode cX2_hasWay 13 = .ok (.goto 4, 3) := by decide +kernel
theorem dX2_hasWay_16 : decode cX2_hasWay 16 = .ok (.iconst 0, 1) := by decide +kernel
theorem dX2_hasWay_17 : decode cX2_hasWay 17 = .ok (.ireturn, 1) := by decide +kernel
theorem dX2_costOf_0 : decode cX2_costOf 0 = .ok (.aload_n 0, 1) := by decide +kernel
theorem dX2_costOf_1 : decode cX2_costOf 1 = .ok (.getfield 21, 3) := by decide +kernel
theorem dX2_costOf_4 : decode cX2_costOf 4 = .ok (.iload_n 2, 1) := by decide +kernel
theorem dX2_costOf_5 : decode cX2_costOf 5 = .ok (.imul, 1) := by decide +kernel
theorem dX2_costOf_6 : decode cX2_costOf 6 = .ok (.bipush 10, 2) := by decide +kernel
theorem dX2_costOf_8 : decode cX2_costOf 8 = .ok (.iload_n 1, 1) := by decide +kernel
theorem dX2_costOf_9 : decode cX2_costOf 9 = .ok (.imul, 1) := by decide +kernel
theorem dX2_costOf_10 : decode cX2_costOf 10 = .ok (.iadd, 1) := by decide +kernel
theorem dX2_costOf_11 : decode cX2_costOf 11 = .ok (.ireturn, 1) := by decide +kernel
theorem dX2_cost_0 : decode cX2_cost 0 = .ok (.aload_n 0, 1) := by decide +kernel
theorem dX2_cost_1 : decode cX2_cost 1 = .ok (.aload_n 0, 1) := by decide +kernel
theorem dX2_cost_2 : decode cX2_cost 2 = .ok (.getfield 37, 3) := by decide +kernel
theorem dX2_cost_5 : decode cX2_cost 5 = .ok (.aload_n 0, 1) := by decide +kernel
theorem dX2_cost_6 : decode cX2_cost 6 = .ok (.getfield 40, 3) := by decide +kernel
theorem dX2_cost_9 : decode cX2_cost 9 = .ok (.invokevirtual 43, 3) := by decide +kernel
theorem dX2_cost_12 : decode cX2_cost 12 = .ok (.ireturn, 1) := by decide +kernel
theorem dX2_slotsOfWay_0 : decode cX2_slotsOfWay 0 = .ok (.iconst 0, 1) := by decide +kernel
theorem dX2_slotsOfWay_1 : decode cX2_slotsOfWay 1 = .ok (.istore_n 1, 1) := by decide +kernel
theorem dX2_slotsOfWay_2 : decode cX2_slotsOfWay 2 = .ok (.iconst 0, 1) := by decide +kernel
theorem dX2_slotsOfWay_3 : decode cX2_slotsOfWay 3 = .ok (.istore_n 2, 1) := by decide +kernel
theorem dX2_slotsOfWay_4 : decode cX2_slotsOfWay 4 = .ok (.iload_n 2, 1) := by decide +kernel
theorem dX2_slotsOfWay_5 : decode cX2_slotsOfWay 5 = .ok (.aload_n 0, 1) := by decide +kernel
theorem dX2_slotsOfWay_6 : decode cX2_slotsOfWay 6 = .ok (.getfield 27, 3) := by decide +kernel
theorem dX2_slotsOfWay_9 : decode cX2_slotsOfWay 9 = .ok (.aload_n 0, 1) := by decide +kernel
theorem dX2_slotsOfWay_10 : decode cX2_slotsOfWay 10 = .ok (.getfield 37, 3) := by decide +kernel
theorem dX2_slotsOfWay_13 : decode cX2_slotsOfWay 13 = .ok (.iaload, 1) := by decide +kernel
theorem dX2_slotsOfWay_14 : decode cX2_slotsOfWay 14 = .ok (.if_icmp .ge 25, 3) := by decide +kernel
theorem dX2_slotsOfWay_17 : decode cX2_slotsOfWay 17 = .ok (.iload_n 1, 1) := by decide +kernel
theorem dX2_slotsOfWay_18 : decode cX2_slotsOfWay 18 = .ok (.aload_n 0, 1) := by decide +kernel
theorem dX2_slotsOfWay_19 : decode cX2_slotsOfWay 19 = .ok (.getfield 34, 3) := by decide +kernel
theorem dX2_slotsOfWay_22 : decode cX2_slotsOfWay 22 = .ok (.aload_n 0, 1) := by decide +kernel
theorem dX2_slotsOfWay_23 : decode cX2_slotsOfWay 23 = .ok (.getfield 37, 3) := by decide +kernel
theorem dX2_slotsOfWay_26 : decode cX2_slotsOfWay 26 = .ok (.iconst 5, 1) := by decide +kernel
theorem dX2_slotsOfWay_27 : decode cX2_slotsOfWay 27 = .ok (.imul, 1) := by decide +kernel
theorem dX2_slotsOfWay_28 : decode cX2_slotsOfWay 28 = .ok (.iload_n 2, 1) := by decide +kernel
theorem dX2_slotsOfWay_29 : decode cX2_slotsOfWay 29 = .ok (.iadd, 1) := by decide +kernel
theorem dX2_slotsOfWay_30 : decode cX2_slotsOfWay 30 = .ok (.iaload, 1) := by decide +kernel
theorem dX2_slotsOfWay_31 : decode cX2_slotsOfWay 31 = .ok (.iadd, 1) := by decide +kernel
theorem dX2_slotsOfWay_32 : decode cX2_slotsOfWay 32 = .ok (.istore_n 1, 1) := by decide +kernel
theorem dX2_slotsOfWay_33 : decode cX2_slotsOfWay 33 = .ok (.iinc 2 1, 3) := by decide +kernel
theorem dX2_slotsOfWay_36 : decode cX2_slotsOfWay 36 = .ok (.goto (-32), 3) := by decide +kernel
theorem dX2_slotsOfWay_39 : decode cX2_slotsOfWay 39 = .ok (.iload_n 1, 1) := by decide +kernel
theorem dX2_slotsOfWay_40 : decode cX2_slotsOfWay 40 = .ok (.ireturn, 1) := by decide +kernel
theorem dX2_roomIn_0 : decode cX2_roomIn 0 = .ok (.iload_n 1, 1) := by decide +kernel
theorem dX2_roomIn_1 : decode cX2_roomIn 1 = .ok (.aload_n 0, 1) := by decide +kernel
theorem dX2_roomIn_2 : decode cX2_roomIn 2 = .ok (.getfield 18, 3) := by decide +kernel
theorem dX2_roomIn_5 : decode cX2_roomIn 5 = .ok (.isub, 1) := by decide +kernel
theorem dX2_roomIn_6 : decode cX2_roomIn 6 = .ok (.iload_n 3, 1) := by decide +kernel
theorem dX2_roomIn_7 : decode cX2_roomIn 7 = .ok (.isub, 1) := by decide +kernel
theorem dX2_roomIn_8 : decode cX2_roomIn 8 = .ok (.istore 4, 2) := by decide +kernel
theorem dX2_roomIn_10 : decode cX2_roomIn 10 = .ok (.iload 4, 2) := by decide +kernel
theorem dX2_roomIn_12 : decode cX2_roomIn 12 = .ok (.ifCond .ge 6, 3) := by decide +kernel
theorem dX2_roomIn_15 : decode cX2_roomIn 15 = .ok (.ldc 47, 2) := by decide +kernel
theorem dX2_roomIn_17 : decode cX2_roomIn 17 = .ok (.ireturn, 1) := by decide +kernel
theorem dX2_roomIn_18 : decode cX2_roomIn 18 = .ok (.iconst 0, 1) := by decide +kernel
theorem dX2_roomIn_19 : decode cX2_roomIn 19 = .ok (.istore 5, 2) := by decide +kernel
theorem dX2_roomIn_21 : decode cX2_roomIn 21 = .ok (.iload 5, 2) := by decide +kernel
theorem dX2_roomIn_23 : decode cX2_roomIn 23 = .ok (.aload_n 0, 1) := by decide +kernel
theorem dX2_roomIn_24 : decode cX2_roomIn 24 = .ok (.getfield 27, 3) := by decide +kernel
theorem dX2_roomIn_27 : decode cX2_roomIn 27 = .ok (.iload_n 2, 1) := by decide +kernel
theorem dX2_roomIn_28 : decode cX2_roomIn 28 = .ok (.iaload, 1) := by decide +kernel
theorem dX2_roomIn_29 : decode cX2_roomIn 29 = .ok (.if_icmp .ge 49, 3) := by decide +kernel
theorem dX2_roomIn_32 : decode cX2_roomIn 32 = .ok (.iload_n 2, 1) := by decide +kernel
theorem dX2_roomIn_33 : decode cX2_roomIn 33 = .ok (.iconst 5, 1) := by decide +kernel
theorem dX2_roomIn_34 : decode cX2_roomIn 34 = .ok (.imul, 1) := by decide +kernel
theorem dX2_roomIn_35 : decode cX2_roomIn 35 = .ok (.iload 5, 2) := by decide +kernel
theorem dX2_roomIn_37 : decode cX2_roomIn 37 = .ok (.iadd, 1) := by decide +kernel
theorem dX2_roomIn_38 : decode cX2_roomIn 38 = .ok (.istore 6, 2) := by decide +kernel
theorem dX2_roomIn_40 : decode cX2_roomIn 40 = .ok (.iload 4, 2) := by decide +kernel
theorem dX2_roomIn_42 : decode cX2_roomIn 42 = .ok (.aload_n 0, 1) := by decide +kernel
theorem dX2_roomIn_43 : decode cX2_roomIn 43 = .ok (.getfield 34, 3) := by decide +kernel
theorem dX2_roomIn_46 : decode cX2_roomIn 46 = .ok (.iload 6, 2) := by decide +kernel
theorem dX2_roomIn_48 : decode cX2_roomIn 48 = .ok (.iaload, 1) := by decide +kernel
theorem dX2_roomIn_49 : decode cX2_roomIn 49 = .ok (.if_icmp .ge 11, 3) := by decide +kernel
theorem dX2_roomIn_52 : decode cX2_roomIn 52 = .ok (.aload_n 0, 1) := by decide +kernel
theorem dX2_roomIn_53 : decode cX2_roomIn 53 = .ok (.getfield 31, 3) := by decide +kernel
theorem dX2_roomIn_56 : decode cX2_roomIn 56 = .ok (.iload 6, 2) := by decide +kernel
theorem dX2_roomIn_58 : decode cX2_roomIn 58 = .ok (.iaload, 1) := by decide +kernel
theorem dX2_roomIn_59 : decode cX2_roomIn 59 = .ok (.ireturn, 1) := by decide +kernel
theorem dX2_roomIn_60 : decode cX2_roomIn 60 = .ok (.iload 4, 2) := by decide +kernel
theorem dX2_roomIn_62 : decode cX2_roomIn 62 = .ok (.aload_n 0, 1) := by decide +kernel
theorem dX2_roomIn_63 : decode cX2_roomIn 63 = .ok (.getfield 34, 3) := by decide +kernel
theorem dX2_roomIn_66 : decode cX2_roomIn 66 = .ok (.iload 6, 2) := by decide +kernel
theorem dX2_roomIn_68 : decode cX2_roomIn 68 = .ok (.iaload, 1) := by decide +kernel
theorem dX2_roomIn_69 : decode cX2_roomIn 69 = .ok (.isub, 1) := by decide +kernel
theorem dX2_roomIn_70 : decode cX2_roomIn 70 = .ok (.istore 4, 2) := by decide +kernel
theorem dX2_roomIn_72 : decode cX2_roomIn 72 = .ok (.iinc 5 1, 3) := by decide +kernel
theorem dX2_roomIn_75 : decode cX2_roomIn 75 = .ok (.goto (-54), 3) := by decide +kernel
theorem dX2_roomIn_78 : decode cX2_roomIn 78 = .ok (.ldc 47, 2) := by decide +kernel
theorem dX2_roomIn_80 : decode cX2_roomIn 80 = .ok (.ireturn, 1) := by decide +kernel
theorem dX2_walk_0 : decode cX2_walk 0 = .ok (.iconst 0, 1) := by decide +kernel
theorem dX2_walk_1 : decode cX2_walk 1 = .ok (.istore 4, 2) := by decide +kernel
theorem dX2_walk_3 : decode cX2_walk 3 = .ok (.aload_n 0, 1) := by decide +kernel
theorem dX2_walk_4 : decode cX2_walk 4 = .ok (.getfield 18, 3) := by decide +kernel
theorem dX2_walk_7 : decode cX2_walk 7 = .ok (.iload_n 2, 1) := by decide +kernel
theorem dX2_walk_8 : decode cX2_walk 8 = .ok (.iadd, 1) := by decide +kernel
theorem dX2_walk_9 : decode cX2_walk 9 = .ok (.istore 5, 2) := by decide +kernel
theorem dX2_walk_11 : decode cX2_walk 11 = .ok (.iconst 0, 1) := by decide +kernel
theorem dX2_walk_12 : decode cX2_walk 12 = .ok (.istore 6, 2) := by decide +kernel
theorem dX2_walk_14 : decode cX2_walk 14 = .ok (.iload 6, 2) := by decide +kernel
theorem dX2_walk_16 : decode cX2_walk 16 = .ok (.aload_n 0, 1) := by decide +kernel
theorem dX2_walk_17 : decode cX2_walk 17 = .ok (.getfield 27, 3) := by decide +kernel
theorem dX2_walk_20 : decode cX2_walk 20 = .ok (.iload_n 1, 1) := by decide +kernel
theorem dX2_walk_21 : decode cX2_walk 21 = .ok (.iaload, 1) := by decide +kernel
theorem dX2_walk_22 : decode cX2_walk 22 = .ok (.if_icmp .ge 75, 3) := by decide +kernel
theorem dX2_walk_25 : decode cX2_walk 25 = .ok (.iload_n 1, 1) := by decide +kernel
theorem dX2_walk_26 : decode cX2_walk 26 = .ok (.iconst 5, 1) := by decide +kernel
theorem dX2_walk_27 : decode cX2_walk 27 = .ok (.imul, 1) := by decide +kernel
theorem dX2_walk_28 : decode cX2_walk 28 = .ok (.iload 6, 2) := by decide +kernel
theorem dX2_walk_30 : decode cX2_walk 30 = .ok (.iadd, 1) := by decide +kernel
theorem dX2_walk_31 : decode cX2_walk 31 = .ok (.istore 7, 2) := by decide +kernel
theorem dX2_walk_33 : decode cX2_walk 33 = .ok (.iconst 0, 1) := by decide +kernel
theorem dX2_walk_34 : decode cX2_walk 34 = .ok (.istore 8, 2) := by decide +kernel
theorem dX2_walk_36 : decode cX2_walk 36 = .ok (.iload 8, 2) := by decide +kernel
theorem dX2_walk_38 : decode cX2_walk 38 = .ok (.aload_n 0, 1) := by decide +kernel
theorem dX2_walk_39 : decode cX2_walk 39 = .ok (.getfield 34, 3) := by decide +kernel
theorem dX2_walk_42 : decode cX2_walk 42 = .ok (.iload 7, 2) := by decide +kernel
theorem dX2_walk_44 : decode cX2_walk 44 = .ok (.iaload, 1) := by decide +kernel
theorem dX2_walk_45 : decode cX2_walk 45 = .ok (.if_icmp .ge 46, 3) := by decide +kernel
theorem dX2_walk_48 : decode cX2_walk 48 = .ok (.iload 5, 2) := by decide +kernel
theorem dX2_walk_50 : decode cX2_walk 50 = .ok (.bipush 48, 2) := by decide +kernel
theorem dX2_walk_52 : decode cX2_walk 52 = .ok (.if_icmp .ge 30, 3) := by decide +kernel
theorem dX2_walk_55 : decode cX2_walk 55 = .ok (.iload 4, 2) := by decide +kernel
theorem dX2_walk_57 : decode cX2_walk 57 = .ok (.aload_n 3, 1) := by decide +kernel
theorem dX2_walk_58 : decode cX2_walk 58 = .ok (.arraylength, 1) := by decide +kernel
theorem dX2_walk_59 : decode cX2_walk 59 = .ok (.if_icmp .ge 23, 3) := by decide +kernel
theorem dX2_walk_62 : decode cX2_walk 62 = .ok (.aload_n 3, 1) := by decide +kernel
theorem dX2_walk_63 : decode cX2_walk 63 = .ok (.iload 4, 2) := by decide +kernel
theorem dX2_walk_65 : decode cX2_walk 65 = .ok (.aload_n 0, 1) := by decide +kernel
theorem dX2_walk_66 : decode cX2_walk 66 = .ok (.getfield 31, 3) := by decide +kernel
theorem dX2_walk_69 : decode cX2_walk 69 = .ok (.iload 7, 2) := by decide +kernel
theorem dX2_walk_71 : decode cX2_walk 71 = .ok (.iaload, 1) := by decide +kernel
theorem dX2_walk_72 : decode cX2_walk 72 = .ok (.bipush 48, 2) := by decide +kernel
theorem dX2_walk_74 : decode cX2_walk 74 = .ok (.imul, 1) := by decide +kernel
theorem dX2_walk_75 : decode cX2_walk 75 = .ok (.iload 5, 2) := by decide +kernel
theorem dX2_walk_77 : decode cX2_walk 77 = .ok (.iadd, 1) := by decide +kernel
theorem dX2_walk_78 : decode cX2_walk 78 = .ok (.iastore, 1) := by decide +kernel
theorem dX2_walk_79 : decode cX2_walk 79 = .ok (.iinc 4 1, 3) := by decide +kernel
theorem dX2_walk_82 : decode cX2_walk 82 = .ok (.iinc 5 1, 3) := by decide +kernel
theorem dX2_walk_85 : decode cX2_walk 85 = .ok (.iinc 8 1, 3) := by decide +kernel
theorem dX2_walk_88 : decode cX2_walk 88 = .ok (.goto (-52), 3) := by decide +kernel
theorem dX2_walk_91 : decode cX2_walk 91 = .ok (.iinc 6 1, 3) := by decide +kernel
theorem dX2_walk_94 : decode cX2_walk 94 = .ok (.goto (-80), 3) := by decide +kernel
theorem dX2_walk_97 : decode cX2_walk 97 = .ok (.iload 4, 2) := by decide +kernel
theorem dX2_walk_99 : decode cX2_walk 99 = .ok (.ireturn, 1) := by decide +kernel
theorem dX3_init_0 : decode cX3_init 0 = .ok (.aload_n 0, 1) := by decide +kernel
theorem dX3_init_1 : decode cX3_init 1 = .ok (.invokespecial 3, 3) := by decide +kernel
theorem dX3_init_4 : decode cX3_init 4 = .ok (.aload_n 0, 1) := by decide +kernel
theorem dX3_init_5 : decode cX3_init 5 = .ok (.sipush 384, 3) := by decide +kernel
theorem dX3_init_8 : decode cX3_init 8 = .ok (.newarray .int, 2) := by decide +kernel
theorem dX3_init_10 : decode cX3_init 10 = .ok (.putfield 9, 3) := by decide +kernel
theorem dX3_init_13 : decode cX3_init 13 = .ok (.aload_n 0, 1) := by decide +kernel
theorem dX3_init_14 : decode cX3_init 14 = .ok (.bipush 48, 2) := by decide +kernel
theorem dX3_init_16 : decode cX3_init 16 = .ok (.newarray .int, 2) := by decide +kernel
theorem dX3_init_18 : decode cX3_init 18 = .ok (.putfield 15, 3) := by decide +kernel
theorem dX3_init_21 : decode cX3_init 21 = .ok (.aload_n 0, 1) := by decide +kernel
theorem dX3_init_22 : decode cX3_init 22 = .ok (.bipush 20, 2) := by decide +kernel
theorem dX3_init_24 : decode cX3_init 24 = .ok (.newarray .int, 2) := by decide +kernel
theorem dX3_init_26 : decode cX3_init 26 = .ok (.putfield 18, 3) := by decide +kernel
theorem dX3_init_29 : decode cX3_init 29 = .ok (.aload_n 0, 1) := by decide +kernel
theorem dX3_init_30 : decode cX3_init 30 = .ok (.bipush 20, 2) := by decide +kernel
theorem dX3_init_32 : decode cX3_init 32 = .ok (.newarray .int, 2) := by decide +kernel
theorem dX3_init_34 : decode cX3_init 34 = .ok (.putfield 21, 3) := by decide +kernel
theorem dX3_init_37 : decode cX3_init 37 = .ok (.aload_n 0, 1) := by decide +kernel
theorem dX3_init_38 : decode cX3_init 38 = .ok (.bipush 20, 2) := by decide +kernel
theorem dX3_init_40 : decode cX3_init 40 = .ok (.newarray .int, 2) := by decide +kernel
theorem dX3_init_42 : decode cX3_init 42 = .ok (.putfield 24, 3) := by decide +kernel
theorem dX3_init_45 : decode cX3_init 45 = .ok (.aload_n 0, 1) := by decide +kernel
theorem dX3_init_46 : decode cX3_init 46 = .ok (.bipush 20, 2) := by decide +kernel
theorem dX3_init_48 : decode cX3_init 48 = .ok (.newarray .int, 2) := by decide +kernel
theorem dX3_init_50 : decode cX3_init 50 = .ok (.putfield 27, 3) := by decide +kernel
theorem dX3_init_53 : decode cX3_init 53 = .ok (.aload_n 0, 1) := by decide +kernel
theorem dX3_init_54 : decode cX3_init 54 = .ok (.bipush 20, 2) := by decide +kernel
theorem dX3_init_56 : decode cX3_init 56 = .ok (.newarray .int, 2) := by decide +kernel
theorem dX3_init_58 : decode cX3_init 58 = .ok (.putfield 30, 3) := by decide +kernel
theorem dX3_init_61 : decode cX3_init 61 = .ok (.aload_n 0, 1) := by decide +kernel
theorem dX3_init_62 : decode cX3_init 62 = .ok (.iconst 0, 1) := by decide +kernel
theorem dX3_init_63 : decode cX3_init 63 = .ok (.putfield 33, 3) := by decide +kernel
theorem dX3_init_66 : decode cX3_init 66 = .ok (.aload_n 0, 1) := by decide +kernel
theorem dX3_init_67 : decode cX3_init 67 = .ok (.iconst 1, 1) := by decide +kernel
theorem dX3_init_68 : decode cX3_init 68 = .ok (.putfield 37, 3) := by decide +kernel
theorem dX3_init_71 : decode cX3_init 71 = .ok (.aload_n 0, 1) := by decide +kernel
theorem dX3_init_72 : decode cX3_init 72 = .ok (.getfield 9, 3) := by decide +kernel
theorem dX3_init_75 : decode cX3_init 75 = .ok (.bipush 9, 2) := by decide +kernel
theorem dX3_init_77 : decode cX3_init 77 = .ok (.invokestatic 40, 3) := by decide +kernel
theorem dX3_init_80 : decode cX3_init 80 = .ok (.return_, 1) := by decide +kernel
theorem dX3_stormsIn_0 : decode cX3_stormsIn 0 = .ok (.iload_n 2, 1) := by decide +kernel
theorem dX3_stormsIn_1 : decode cX3_stormsIn 1 = .ok (.aload_n 0, 1) := by decide +kernel
theorem dX3_stormsIn_2 : decode cX3_stormsIn 2 = .ok (.getfield 18, 3) := by decide +kernel
theorem dX3_stormsIn_5 : decode cX3_stormsIn 5 = .ok (.iload_n 1, 1) := by decide +kernel
theorem dX3_stormsIn_6 : decode cX3_stormsIn 6 = .ok (.iaload, 1) := by decide +kernel
theorem dX3_stormsIn_7 : decode cX3_stormsIn 7 = .ok (.ishr, 1) := by decide +kernel
theorem dX3_stormsIn_8 : decode cX3_stormsIn 8 = .ok (.iconst 1, 1) := by decide +kernel
theorem dX3_stormsIn_9 : decode cX3_stormsIn 9 = .ok (.iand, 1) := by decide +kernel
theorem dX3_stormsIn_10 : decode cX3_stormsIn 10 = .ok (.iconst 1, 1) := by decide +kernel
theorem dX3_stormsIn_11 : decode cX3_stormsIn 11 = .ok (.if_icmp .ne 7, 3) := by decide +kernel
theorem dX3_stormsIn_14 : decode cX3_stormsIn 14 = .ok (.iconst 1, 1) := by decide +kernel
theorem dX3_stormsIn_15 : decode cX3_stormsIn 15 = .ok (.goto 4, 3) := by decide +kernel
theorem dX3_stormsIn_18 : decode cX3_stormsIn 18 = .ok (.iconst 0, 1) := by decide +kernel
theorem dX3_stormsIn_19 : decode cX3_stormsIn 19 = .ok (.ireturn, 1) := by decide +kernel
theorem dX3_borneInWorlds_0 : decode cX3_borneInWorlds 0 = .ok (.aload_n 0, 1) := by decide +kernel
theorem dX3_borneInWorlds_1 : decode cX3_borneInWorlds 1 = .ok (.getfield 9, 3) := by decide +kernel
theorem dX3_borneInWorlds_4 : decode cX3_borneInWorlds 4 = .ok (.iload_n 1, 1) := by decide +kernel
theorem dX3_borneInWorlds_5 : decode cX3_borneInWorlds 5 = .ok (.iload_n 2, 1) := by decide +kernel
theorem dX3_borneInWorlds_6 : decode cX3_borneInWorlds 6 = .ok (.invokestatic 46, 3) := by decide +kernel
theorem dX3_borneInWorlds_9 : decode cX3_borneInWorlds 9 = .ok (.iaload, 1) := by decide +kernel
theorem dX3_borneInWorlds_10 : decode cX3_borneInWorlds 10 = .ok (.istore 4, 2) := by decide +kernel
theorem dX3_borneInWorlds_12 : decode cX3_borneInWorlds 12 = .ok (.iconst 0, 1) := by decide +kernel
theorem dX3_borneInWorlds_13 : decode cX3_borneInWorlds 13 = .ok (.istore 5, 2) := by decide +kernel
theorem dX3_borneInWorlds_15 : decode cX3_borneInWorlds 15 = .ok (.iload 5, 2) := by decide +kernel
theorem dX3_borneInWorlds_17 : decode cX3_borneInWorlds 17 = .ok (.aload_n 0, 1) := by decide +kernel
theorem dX3_borneInWorlds_18 : decode cX3_borneInWorlds 18 = .ok (.getfield 33, 3) := by decide +kernel
theorem dX3_borneInWorlds_21 : decode cX3_borneInWorlds 21 = .ok (.if_icmp .ge 78, 3) := by decide +kernel
theorem dX3_borneInWorlds_24 : decode cX3_borneInWorlds 24 = .ok (.aload_n 0, 1) := by decide +kernel
theorem dX3_borneInWorlds_25 : decode cX3_borneInWorlds 25 = .ok (.getfield 21, 3) := by decide +kernel
theorem dX3_borneInWorlds_28 : decode cX3_borneInWorlds 28 = .ok (.iload 5, 2) := by decide +kernel
theorem dX3_borneInWorlds_30 : decode cX3_borneInWorlds 30 = .ok (.iaload, 1) := by decide +kernel
theorem dX3_borneInWorlds_31 : decode cX3_borneInWorlds 31 = .ok (.iload_n 1, 1) := by decide +kernel
theorem dX3_borneInWorlds_32 : decode cX3_borneInWorlds 32 = .ok (.if_icmp .ne 29, 3) := by decide +kernel
theorem dX3_borneInWorlds_35 : decode cX3_borneInWorlds 35 = .ok (.aload_n 0, 1) := by decide +kernel
theorem dX3_borneInWorlds_36 : decode cX3_borneInWorlds 36 = .ok (.getfield 24, 3) := by decide +kernel
theorem dX3_borneInWorlds_39 : decode cX3_borneInWorlds 39 = .ok (.iload 5, 2) := by decide +kernel
theorem dX3_borneInWorlds_41 : decode cX3_borneInWorlds 41 = .ok (.iaload, 1) := by decide +kernel
theorem dX3_borneInWorlds_42 : decode cX3_borneInWorlds 42 = .ok (.iload_n 2, 1) := by decide +kernel
theorem dX3_borneInWorlds_43 : decode cX3_borneInWorlds 43 = .ok (.if_icmp .gt 18, 3) := by decide +kernel
theorem dX3_borneInWorlds_46 : decode cX3_borneInWorlds 46 = .ok (.iload_n 2, 1) := by decide +kernel
theorem dX3_borneInWorlds_47 : decode cX3_borneInWorlds 47 = .ok (.aload_n 0, 1) := by decide +kernel
theorem dX3_borneInWorlds_48 : decode cX3_borneInWorlds 48 = .ok (.getfield 27, 3) := by decide +kernel
theorem dX3_borneInWorlds_51 : decode cX3_borneInWorlds 51 = .ok (.iload 5, 2) := by decide +kernel
theorem dX3_borneInWorlds_53 : decode cX3_borneInWorlds 53 = .ok (.iaload, 1) := by decide +kernel
theorem dX3_borneInWorlds_54 : decode cX3_borneInWorlds 54 = .ok (.if_icmp .ge 7, 3) := by decide +kernel
theorem dX3_borneInWorlds_57 : decode cX3_borneInWorlds 57 = .ok (.iconst 1, 1) := by decide +kernel
theorem dX3_borneInWorlds_58 : decode cX3_borneInWorlds 58 = .ok (.goto 4, 3) := by decide +kernel
theorem dX3_borneInWorlds_61 : decode cX3_borneInWorlds 61 = .ok (.iconst 0, 1) := by decide +kernel
theorem dX3_borneInWorlds_62 : decode cX3_borneInWorlds 62 = .ok (.istore 6, 2) := by decide +kernel
theorem dX3_borneInWorlds_64 : decode cX3_borneInWorlds 64 = .ok (.iload 6, 2) := by decide +kernel
theorem dX3_borneInWorlds_66 : decode cX3_borneInWorlds 66 = .ok (.ifCond .eq 27, 3) := by decide +kernel
theorem dX3_borneInWorlds_69 : decode cX3_borneInWorlds 69 = .ok (.aload_n 0, 1) := by decide +kernel
theorem dX3_borneInWorlds_70 : decode cX3_borneInWorlds 70 = .ok (.iload 5, 2) := by decide +kernel
theorem dX3_borneInWorlds_72 : decode cX3_borneInWorlds 72 = .ok (.iload_n 3, 1) := by decide +kernel
theorem dX3_borneInWorlds_73 : decode cX3_borneInWorlds 73 = .ok (.invokevirtual 50, 3) := by decide +kernel
theorem dX3_borneInWorlds_76 : decode cX3_borneInWorlds 76 = .ok (.ifCond .eq 17, 3) := by decide +kernel
theorem dX3_borneInWorlds_79 : decode cX3_borneInWorlds 79 = .ok (.iload 4, 2) := by decide +kernel
theorem dX3_borneInWorlds_81 : decode cX3_borneInWorlds 81 = .ok (.aload_n 0, 1) := by decide +kernel
theorem dX3_borneInWorlds_82 : decode cX3_borneInWorlds 82 = .ok (.getfield 30, 3) := by decide +kernel
theorem dX3_borneInWorlds_85 : decode cX3_borneInWorlds 85 = .ok (.iload 5, 2) := by decide +kernel
theorem dX3_borneInWorlds_87 : decode cX3_borneInWorlds 87 = .ok (.iaload, 1) := by decide +kernel
theorem dX3_borneInWorlds_88 : decode cX3_borneInWorlds 88 = .ok (.invokestatic 54, 3) := by decide +kernel
theorem dX3_borneInWorlds_91 : decode cX3_borneInWorlds 91 = .ok (.istore 4, 2) := by decide +kernel
theorem dX3_borneInWorlds_93 : decode cX3_borneInWorlds 93 = .ok (.iinc 5 1, 3) := by decide +kernel
theorem dX3_borneInWorlds_96 : decode cX3_borneInWorlds 96 = .ok (.goto (-81), 3) := by decide +kernel
theorem dX3_borneInWorlds_99 : decode cX3_borneInWorlds 99 = .ok (.iload 4, 2) := by decide +kernel
theorem dX3_borneInWorlds_101 : decode cX3_borneInWorlds 101 = .ok (.ireturn, 1) := by decide +kernel
theorem dX3_fillSafe_0 : decode cX3_fillSafe 0 = .ok (.aload_n 0, 1) := by decide +kernel
theorem dX3_fillSafe_1 : decode cX3_fillSafe 1 = .ok (.getfield 9, 3) := by decide +kernel
theorem dX3_fillSafe_4 : decode cX3_fillSafe 4 = .ok (.iconst 0, 1) := by decide +kernel
theorem dX3_fillSafe_5 : decode cX3_fillSafe 5 = .ok (.aload_n 1, 1) := by decide +kernel
theorem dX3_fillSafe_6 : decode cX3_fillSafe 6 = .ok (.iconst 0, 1) := by decide +kernel
theorem dX3_fillSafe_7 : decode cX3_fillSafe 7 = .ok (.sipush 384, 3) := by decide +kernel
theorem dX3_fillSafe_10 : decode cX3_fillSafe 10 = .ok (.invokestatic 59, 3) := by decide +kernel
theorem dX3_fillSafe_13 : decode cX3_fillSafe 13 = .ok (.iconst 0, 1) := by decide +kernel
theorem dX3_fillSafe_14 : decode cX3_fillSafe 14 = .ok (.istore_n 2, 1) := by decide +kernel
theorem dX3_fillSafe_15 : decode cX3_fillSafe 15 = .ok (.iload_n 2, 1) := by decide +kernel
theorem dX3_fillSafe_16 : decode cX3_fillSafe 16 = .ok (.aload_n 0, 1) := by decide +kernel
theorem dX3_fillSafe_17 : decode cX3_fillSafe 17 = .ok (.getfield 33, 3) := by decide +kernel
theorem dX3_fillSafe_20 : decode cX3_fillSafe 20 = .ok (.if_icmp .ge 27, 3) := by decide +kernel
theorem dX3_fillSafe_23 : decode cX3_fillSafe 23 = .ok (.aload_n 0, 1) := by decide +kernel
theorem dX3_fillSafe_24 : decode cX3_fillSafe 24 = .ok (.iload_n 2, 1) := by decide +kernel
theorem dX3_fillSafe_25 : decode cX3_fillSafe 25 = .ok (.aload_n 0, 1) := by decide +kernel
theorem dX3_fillSafe_26 : decode cX3_fillSafe 26 = .ok (.getfield 37, 3) := by decide +kernel
theorem dX3_fillSafe_29 : decode cX3_fillSafe 29 = .ok (.invokevirtual 50, 3) := by decide +kernel
theorem dX3_fillSafe_32 : decode cX3_fillSafe 32 = .ok (.ifCond .eq 9, 3) := by decide +kernel
theorem dX3_fillSafe_35 : decode cX3_fillSafe 35 = .ok (.aload_n 0, 1) := by decide +kernel
theorem dX3_fillSafe_36 : decode cX3_fillSafe 36 = .ok (.aload_n 1, 1) := by decide +kernel
theorem dX3_fillSafe_37 : decode cX3_fillSafe 37 = .ok (.iload_n 2, 1) := by decide +kernel
theorem dX3_fillSafe_38 : decode cX3_fillSafe 38 = .ok (.invokevirtual 65, 3) := by decide +kernel
theorem dX3_fillSafe_41 : decode cX3_fillSafe 41 = .ok (.iinc 2 1, 3) := by decide +kernel
theorem dX3_fillSafe_44 : decode cX3_fillSafe 44 = .ok (.goto (-29), 3) := by decide +kernel
theorem dX3_fillSafe_47 : decode cX3_fillSafe 47 = .ok (.return_, 1) := by decide +kernel
theorem dX3_lowerByStorm_0 : decode cX3_lowerByStorm 0 = .ok (.aload_n 0, 1) := by decide +kernel
theorem dX3_lowerByStorm_1 : decode cX3_lowerByStorm 1 = .ok (.getfield 24, 3) := by decide +kernel
theorem dX3_lowerByStorm_4 : decode cX3_lowerByStorm 4 = .ok (.iload_n 2, 1) := by decide +kernel
theorem dX3_lowerByStorm_5 : decode cX3_lowerByStorm 5 = .ok (.iaload, 1) := by decide +kernel
theorem dX3_lowerByStorm_6 : decode cX3_lowerByStorm 6 = .ok (.istore_n 3, 1) := by decide +kernel
theorem dX3_lowerByStorm_7 : decode cX3_lowerByStorm 7 = .ok (.iload_n 3, 1) := by decide +kernel
theorem dX3_lowerByStorm_8 : decode cX3_lowerByStorm 8 = .ok (.aload_n 0, 1) := by decide +kernel
theorem dX3_lowerByStorm_9 : decode cX3_lowerByStorm 9 = .ok (.getfield 27, 3) := by decide +kernel
theorem dX3_lowerByStorm_12 : decode cX3_lowerByStorm 12 = .ok (.iload_n 2, 1) := by decide +kernel
theorem dX3_lowerByStorm_13 : decode cX3_lowerByStorm 13 = .ok (.iaload, 1) := by decide +kernel
theorem dX3_lowerByStorm_14 : decode cX3_lowerByStorm 14 = .ok (.if_icmp .ge 38, 3) := by decide +kernel
theorem dX3_lowerByStorm_17 : decode cX3_lowerByStorm 17 = .ok (.aload_n 0, 1) := by decide +kernel
theorem dX3_lowerByStorm_18 : decode cX3_lowerByStorm 18 = .ok (.getfield 21, 3) := by decide +kernel
theorem dX3_lowerByStorm_21 : decode cX3_lowerByStorm 21 = .ok (.iload_n 2, 1) := by decide +kernel
theorem dX3_lowerByStorm_22 : decode cX3_lowerByStorm 22 = .ok (.iaload, 1) := by decide +kernel
theorem dX3_lowerByStorm_23 : decode cX3_lowerByStorm 23 = .ok (.iload_n 3, 1) := by decide +kernel
theorem dX3_lowerByStorm_24 : decode cX3_lowerByStorm 24 = .ok (.invokestatic 46, 3) := by decide +kernel
theorem dX3_lowerByStorm_27 : decode cX3_lowerByStorm 27 = .ok (.istore 4, 2) := by decide +kernel
theorem dX3_lowerByStorm_29 : decode cX3_lowerByStorm 29 = .ok (.aload_n 1, 1) := by decide +kernel
theorem dX3_lowerByStorm_30 : decode cX3_lowerByStorm 30 = .ok (.iload 4, 2) := by decide +kernel
theorem dX3_lowerByStorm_32 : decode cX3_lowerByStorm 32 = .ok (.aload_n 1, 1) := by decide +kernel
theorem dX3_lowerByStorm_33 : decode cX3_lowerByStorm 33 = .ok (.iload 4, 2) := by decide +kernel
theorem dX3_lowerByStorm_35 : decode cX3_lowerByStorm 35 = .ok (.iaload, 1) := by decide +kernel
theorem dX3_lowerByStorm_36 : decode cX3_lowerByStorm 36 = .ok (.aload_n 0, 1) := by decide +kernel
theorem dX3_lowerByStorm_37 : decode cX3_lowerByStorm 37 = .ok (.getfield 30, 3) := by decide +kernel
theorem dX3_lowerByStorm_40 : decode cX3_lowerByStorm 40 = .ok (.iload_n 2, 1) := by decide +kernel
theorem dX3_lowerByStorm_41 : decode cX3_lowerByStorm 41 = .ok (.iaload, 1) := by decide +kernel
theorem dX3_lowerByStorm_42 : decode cX3_lowerByStorm 42 = .ok (.invokestatic 54, 3) := by decide +kernel
theorem dX3_lowerByStorm_45 : decode cX3_lowerByStorm 45 = .ok (.iastore, 1) := by decide +kernel
theorem dX3_lowerByStorm_46 : decode cX3_lowerByStorm 46 = .ok (.iinc 3 1, 3) := by decide +kernel
theorem dX3_lowerByStorm_49 : decode cX3_lowerByStorm 49 = .ok (.goto (-42), 3) := by decide +kernel
theorem dX3_lowerByStorm_52 : decode cX3_lowerByStorm 52 = .ok (.return_, 1) := by decide +kernel
theorem dX3_bearInAllSlots_0 : decode cX3_bearInAllSlots 0 = .ok (.iconst 0, 1) := by decide +kernel
theorem dX3_bearInAllSlots_1 : decode cX3_bearInAllSlots 1 = .ok (.istore_n 3, 1) := by decide +kernel
theorem dX3_bearInAllSlots_2 : decode cX3_bearInAllSlots 2 = .ok (.iload_n 3, 1) := by decide +kernel
theorem dX3_bearInAllSlots_3 : decode cX3_bearInAllSlots 3 = .ok (.bipush 48, 2) := by decide +kernel
theorem dX3_bearInAllSlots_5 : decode cX3_bearInAllSlots 5 = .ok (.if_icmp .ge 20, 3) := by decide +kernel
theorem dX3_bearInAllSlots_8 : decode cX3_bearInAllSlots 8 = .ok (.aload_n 0, 1) := by decide +kernel
theorem dX3_bearInAllSlots_9 : decode cX3_bearInAllSlots 9 = .ok (.getfield 9, 3) := by decide +kernel
theorem dX3_bearInAllSlots_12 : decode cX3_bearInAllSlots 12 = .ok (.iload_n 1, 1) := by decide +kernel
theorem dX3_bearInAllSlots_13 : decode cX3_bearInAllSlots 13 = .ok (.iload_n 3, 1) := by decide +kernel
theorem dX3_bearInAllSlots_14 : decode cX3_bearInAllSlots 14 = .ok (.invokestatic 46, 3) := by decide +kernel
theorem dX3_bearInAllSlots_17 : decode cX3_bearInAllSlots 17 = .ok (.iload_n 2, 1) := by decide +kernel
theorem dX3_bearInAllSlots_18 : decode cX3_bearInAllSlots 18 = .ok (.iastore, 1) := by decide +kernel
theorem dX3_bearInAllSlots_19 : decode cX3_bearInAllSlots 19 = .ok (.iinc 3 1, 3) := by decide +kernel
theorem dX3_bearInAllSlots_22 : decode cX3_bearInAllSlots 22 = .ok (.goto (-20), 3) := by decide +kernel
theorem dX3_bearInAllSlots_25 : decode cX3_bearInAllSlots 25 = .ok (.return_, 1) := by decide +kernel
theorem dX4_init_0 : decode cX4_init 0 = .ok (.aload_n 0, 1) := by decide +kernel
theorem dX4_init_1 : decode cX4_init 1 = .ok (.invokespecial 3, 3) := by decide +kernel
theorem dX4_init_4 : decode cX4_init 4 = .ok (.aload_n 0, 1) := by decide +kernel
theorem dX4_init_5 : decode cX4_init 5 = .ok (.iconst 4, 1) := by decide +kernel
theorem dX4_init_6 : decode cX4_init 6 = .ok (.newarray .int, 2) := by decide +kernel
theorem dX4_init_8 : decode cX4_init 8 = .ok (.putfield 9, 3) := by decide +kernel
theorem dX4_init_11 : decode cX4_init 11 = .ok (.aload_n 0, 1) := by decide +kernel
theorem dX4_init_12 : decode cX4_init 12 = .ok (.iconst 4, 1) := by decide +kernel
theorem dX4_init_13 : decode cX4_init 13 = .ok (.newarray .int, 2) := by decide +kernel
theorem dX4_init_15 : decode cX4_init 15 = .ok (.putfield 15, 3) := by decide +kernel
theorem dX4_init_18 : decode cX4_init 18 = .ok (.aload_n 0, 1) := by decide +kernel
theorem dX4_init_19 : decode cX4_init 19 = .ok (.iconst 4, 1) := by decide +kernel
theorem dX4_init_20 : decode cX4_init 20 = .ok (.newarray .int, 2) := by decide +kernel
theorem dX4_init_22 : decode cX4_init 22 = .ok (.putfield 18, 3) := by decide +kernel
theorem dX4_init_25 : decode cX4_init 25 = .ok (.aload_n 0, 1) := by decide +kernel
theorem dX4_init_26 : decode cX4_init 26 = .ok (.aload_n 1, 1) := by decide +kernel
theorem dX4_init_27 : decode cX4_init 27 = .ok (.putfield 21, 3) := by decide +kernel
theorem dX4_init_30 : decode cX4_init 30 = .ok (.aload_n 0, 1) := by decide +kernel
theorem dX4_init_31 : decode cX4_init 31 = .ok (.aload_n 2, 1) := by decide +kernel
theorem dX4_init_32 : decode cX4_init 32 = .ok (.putfield 25, 3) := by decide +kernel
theorem dX4_init_35 : decode cX4_init 35 = .ok (.return_, 1) := by decide +kernel
theorem dX4_shareOf_0 : decode cX4_shareOf 0 = .ok (.aload_n 0, 1) := by decide +kernel
theorem dX4_shareOf_1 : decode cX4_shareOf 1 = .ok (.invokevirtual 29, 3) := by decide +kernel
theorem dX4_shareOf_4 : decode cX4_shareOf 4 = .ok (.aload_n 0, 1) := by decide +kernel
theorem dX4_shareOf_5 : decode cX4_shareOf 5 = .ok (.getfield 15, 3) := by decide +kernel
theorem dX4_shareOf_8 : decode cX4_shareOf 8 = .ok (.iload_n 1, 1) := by decide +kernel
theorem dX4_shareOf_9 : decode cX4_shareOf 9 = .ok (.iaload, 1) := by decide +kernel
theorem dX4_shareOf_10 : decode cX4_shareOf 10 = .ok (.ireturn, 1) := by decide +kernel
theorem dX4_unfairness_0 : decode cX4_unfairness 0 = .ok (.aload_n 0, 1) := by decide +kernel
theorem dX4_unfairness_1 : decode cX4_unfairness 1 = .ok (.invokevirtual 29, 3) := by decide +kernel
theorem dX4_unfairness_4 : decode cX4_unfairness 4 = .ok (.iconst 0, 1) := by decide +kernel
theorem dX4_unfairness_5 : decode cX4_unfairness 5 = .ok (.istore_n 1, 1) := by decide +kernel
theorem dX4_unfairness_6 : decode cX4_unfairness 6 = .ok (.iconst 0, 1) := by decide +kernel
theorem dX4_unfairness_7 : decode cX4_unfairness 7 = .ok (.istore_n 2, 1) := by decide +kernel
theorem dX4_unfairness_8 : decode cX4_unfairness 8 = .ok (.iload_n 2, 1) := by decide +kernel
theorem dX4_unfairness_9 : decode cX4_unfairness 9 = .ok (.iconst 4, 1) := by decide +kernel
theorem dX4_unfairness_10 : decode cX4_unfairness 10 = .ok (.if_icmp .ge 30, 3) := by decide +kernel
theorem dX4_unfairness_13 : decode cX4_unfairness 13 = .ok (.iload_n 1, 1) := by decide +kernel
theorem dX4_unfairness_14 : decode cX4_unfairness 14 = .ok (.aload_n 0, 1) := by decide +kernel
theorem dX4_unfairness_15 : decode cX4_unfairness 15 = .ok (.getfield 21, 3) := by decide +kernel
theorem dX4_unfairness_18 : decode cX4_unfairness 18 = .ok (.iload_n 2, 1) := by decide +kernel
theorem dX4_unfairness_19 : decode cX4_unfairness 19 = .ok (.invokevirtual 32, 3) := by decide +kernel
theorem dX4_unfairness_22 : decode cX4_unfairness 22 = .ok (.aload_n 0, 1) := by decide +kernel
theorem dX4_unfairness_23 : decode cX4_unfairness 23 = .ok (.getfield 15, 3) := by decide +kernel
theorem dX4_unfairness_26 : decode cX4_unfairness 26 = .ok (.iload_n 2, 1) := by decide +kernel
theorem dX4_unfairness_27 : decode cX4_unfairness 27 = .ok (.iaload, 1) := by decide +kernel
theorem dX4_unfairness_28 : decode cX4_unfairness 28 = .ok (.isub, 1) := by decide +kernel
theorem dX4_unfairness_29 : decode cX4_unfairness 29 = .ok (.invokestatic 38, 3) := by decide +kernel
theorem dX4_unfairness_32 : decode cX4_unfairness 32 = .ok (.iadd, 1) := by decide +kernel
theorem dX4_unfairness_33 : decode cX4_unfairness 33 = .ok (.istore_n 1, 1) := by decide +kernel
theorem dX4_unfairness_34 : decode cX4_unfairness 34 = .ok (.iinc 2 1, 3) := by decide +kernel
theorem dX4_unfairness_37 : decode cX4_unfairness 37 = .ok (.goto (-29), 3) := by decide +kernel
theorem dX4_unfairness_40 : decode cX4_unfairness 40 = .ok (.iload_n 1, 1) := by decide +kernel
theorem dX4_unfairness_41 : decode cX4_unfairness 41 = .ok (.ireturn, 1) := by decide +kernel
theorem dX4_blameOf_0 : decode cX4_blameOf 0 = .ok (.iconst 0, 1) := by decide +kernel
theorem dX4_blameOf_1 : decode cX4_blameOf 1 = .ok (.istore_n 2, 1) := by decide +kernel
theorem dX4_blameOf_2 : decode cX4_blameOf 2 = .ok (.iconst 0, 1) := by decide +kernel
theorem dX4_blameOf_3 : decode cX4_blameOf 3 = .ok (.istore_n 3, 1) := by decide +kernel
theorem dX4_blameOf_4 : decode cX4_blameOf 4 = .ok (.iload_n 3, 1) := by decide +kernel
theorem dX4_blameOf_5 : decode cX4_blameOf 5 = .ok (.bipush 8, 2) := by decide +kernel
theorem dX4_blameOf_7 : decode cX4_blameOf 7 = .ok (.if_icmp .ge 57, 3) := by decide +kernel
theorem dX4_blameOf_10 : decode cX4_blameOf 10 = .ok (.iconst 0, 1) := by decide +kernel
theorem dX4_blameOf_11 : decode cX4_blameOf 11 = .ok (.istore 4, 2) := by decide +kernel
theorem dX4_blameOf_13 : decode cX4_blameOf 13 = .ok (.iload 4, 2) := by decide +kernel
theorem dX4_blameOf_15 : decode cX4_blameOf 15 = .ok (.bipush 48, 2) := by decide +kernel
theorem dX4_blameOf_17 : decode cX4_blameOf 17 = .ok (.if_icmp .ge 41, 3) := by decide +kernel
theorem dX4_blameOf_20 : decode cX4_blameOf 20 = .ok (.aload_n 0, 1) := by decide +kernel
theorem dX4_blameOf_21 : decode cX4_blameOf 21 = .ok (.getfield 25, 3) := by decide +kernel
theorem dX4_blameOf_24 : decode cX4_blameOf 24 = .ok (.iload_n 3, 1) := by decide +kernel
theorem dX4_blameOf_25 : decode cX4_blameOf 25 = .ok (.iload 4, 2) := by decide +kernel
theorem dX4_blameOf_27 : decode cX4_blameOf 27 = .ok (.invokestatic 43, 3) := by decide +kernel
theorem dX4_blameOf_30 : decode cX4_blameOf 30 = .ok (.invokevirtual 47, 3) := by decide +kernel
theorem dX4_blameOf_33 : decode cX4_blameOf 33 = .ok (.ifCond .le 19, 3) := by decide +kernel
theorem dX4_blameOf_36 : decode cX4_blameOf 36 = .ok (.aload_n 0, 1) := by decide +kernel
theorem dX4_blameOf_37 : decode cX4_blameOf 37 = .ok (.iload_n 3, 1) := by decide +kernel
theorem dX4_blameOf_38 : decode cX4_blameOf 38 = .ok (.iload 4, 2) := by decide +kernel
theorem dX4_blameOf_40 : decode cX4_blameOf 40 = .ok (.invokevirtual 52, 3) := by decide +kernel
theorem dX4_blameOf_43 : decode cX4_blameOf 43 = .ok (.iload_n 2, 1) := by decide +kernel
theorem dX4_blameOf_44 : decode cX4_blameOf 44 = .ok (.aload_n 0, 1) := by decide +kernel
theorem dX4_blameOf_45 : decode cX4_blameOf 45 = .ok (.getfield 15, 3) := by decide +kernel
theorem dX4_blameOf_48 : decode cX4_blameOf 48 = .ok (.iload_n 1, 1) := by decide +kernel
theorem dX4_blameOf_49 : decode cX4_blameOf 49 = .ok (.iaload, 1) := by decide +kernel
theorem dX4_blameOf_50 : decode cX4_blameOf 50 = .ok (.iadd, 1) := by decide +kernel
theorem dX4_blameOf_51 : decode cX4_blameOf 51 = .ok (.istore_n 2, 1) := by decide +kernel
theorem dX4_blameOf_52 : decode cX4_blameOf 52 = .ok (.iinc 4 1, 3) := by decide +kernel
theorem dX4_blameOf_55 : decode cX4_blameOf 55 = .ok (.goto (-42), 3) := by decide +kernel
theorem dX4_blameOf_58 : decode cX4_blameOf 58 = .ok (.iinc 3 1, 3) := by decide +kernel
theorem dX4_blameOf_61 : decode cX4_blameOf 61 = .ok (.goto (-57), 3) := by decide +kernel
theorem dX4_blameOf_64 : decode cX4_blameOf 64 = .ok (.iload_n 2, 1) := by decide +kernel
theorem dX4_blameOf_65 : decode cX4_blameOf 65 = .ok (.ireturn, 1) := by decide +kernel
theorem dX4_divideDelays_0 : decode cX4_divideDelays 0 = .ok (.iconst 0, 1) := by decide +kernel
theorem dX4_divideDelays_1 : decode cX4_divideDelays 1 = .ok (.istore_n 1, 1) := by decide +kernel
theorem dX4_divideDelays_2 : decode cX4_divideDelays 2 = .ok (.iload_n 1, 1) := by decide +kernel
theorem dX4_divideDelays_3 : decode cX4_divideDelays 3 = .ok (.iconst 4, 1) := by decide +kernel
theorem dX4_divideDelays_4 : decode cX4_divideDelays 4 = .ok (.if_icmp .ge 23, 3) := by decide +kernel
theorem dX4_divideDelays_7 : decode cX4_divideDelays 7 = .ok (.aload_n 0, 1) := by decide +kernel
theorem dX4_divideDelays_8 : decode cX4_divideDelays 8 = .ok (.getfield 9, 3) := by decide +kernel
theorem dX4_divideDelays_11 : decode cX4_divideDelays 11 = .ok (.iload_n 1, 1) := by decide +kernel
theorem dX4_divideDelays_12 : decode cX4_divideDelays 12 = .ok (.aload_n 0, 1) := by decide +kernel
theorem dX4_divideDelays_13 : decode cX4_divideDelays 13 = .ok (.getfield 21, 3) := by decide +kernel
theorem dX4_divideDelays_16 : decode cX4_divideDelays 16 = .ok (.iload_n 1, 1) := by decide +kernel
theorem dX4_divideDelays_17 : decode cX4_divideDelays 17 = .ok (.invokevirtual 56, 3) := by decide +kernel
theorem dX4_divideDelays_20 : decode cX4_divideDelays 20 = .ok (.iastore, 1) := by decide +kernel
theorem dX4_divideDelays_21 : decode cX4_divideDelays 21 = .ok (.iinc 1 1, 3) := by decide +kernel
theorem dX4_divideDelays_24 : decode cX4_divideDelays 24 = .ok (.goto (-22), 3) := by decide +kernel
theorem dX4_divideDelays_27 : decode cX4_divideDelays 27 = .ok (.aload_n 0, 1) := by decide +kernel
theorem dX4_divideDelays_28 : decode cX4_divideDelays 28 = .ok (.aload_n 0, 1) := by decide +kernel
theorem dX4_divideDelays_29 : decode cX4_divideDelays 29 = .ok (.getfield 21, 3) := by decide +kernel
theorem dX4_divideDelays_32 : decode cX4_divideDelays 32 = .ok (.invokevirtual 59, 3) := by decide +kernel
theorem dX4_divideDelays_35 : decode cX4_divideDelays 35 = .ok (.aload_n 0, 1) := by decide +kernel
theorem dX4_divideDelays_36 : decode cX4_divideDelays 36 = .ok (.getfield 21, 3) := by decide +kernel
theorem dX4_divideDelays_39 : decode cX4_divideDelays 39 = .ok (.getfield 63, 3) := by decide +kernel
theorem dX4_divideDelays_42 : decode cX4_divideDelays 42 = .ok (.invokevirtual 67, 3) := by decide +kernel
theorem dX4_divideDelays_45 : decode cX4_divideDelays 45 = .ok (.return_, 1) := by decide +kernel
theorem dX4_divideTooMuch_0 : decode cX4_divideTooMuch 0 = .ok (.aload_n 0, 1) := by decide +kernel
theorem dX4_divideTooMuch_1 : decode cX4_divideTooMuch 1 = .ok (.getfield 9, 3) := by decide +kernel
theorem dX4_divideTooMuch_4 : decode cX4_divideTooMuch 4 = .ok (.iconst 0, 1) := by decide +kernel
theorem dX4_divideTooMuch_5 : decode cX4_divideTooMuch 5 = .ok (.invokestatic 70, 3) := by decide +kernel
theorem dX4_divideTooMuch_8 : decode cX4_divideTooMuch 8 = .ok (.iconst 0, 1) := by decide +kernel
theorem dX4_divideTooMuch_9 : decode cX4_divideTooMuch 9 = .ok (.istore_n 3, 1) := by decide +kernel
theorem dX4_divideTooMuch_10 : decode cX4_divideTooMuch 10 = .ok (.iload_n 3, 1) := by decide +kernel
theorem dX4_divideTooMuch_11 : decode cX4_divideTooMuch 11 = .ok (.aload_n 0, 1) := by decide +kernel
theorem dX4_divideTooMuch_12 : decode cX4_divideTooMuch 12 = .ok (.getfield 21, 3) := by decide +kernel
theorem dX4_divideTooMuch_15 : decode cX4_divideTooMuch 15 = .ok (.getfield 63, 3) := by decide +kernel
theorem dX4_divideTooMuch_18 : decode cX4_divideTooMuch 18 = .ok (.if_icmp .ge 58, 3) := by decide +kernel
theorem dX4_divideTooMuch_21 : decode cX4_divideTooMuch 21 = .ok (.aload_n 0, 1) := by decide +kernel
theorem dX4_divideTooMuch_22 : decode cX4_divideTooMuch 22 = .ok (.getfield 21, 3) := by decide +kernel
theorem dX4_divideTooMuch_25 : decode cX4_divideTooMuch 25 = .ok (.getfield 76, 3) := by decide +kernel
theorem dX4_divideTooMuch_28 : decode cX4_divideTooMuch 28 = .ok (.iload_n 3, 1) := by decide +kernel
theorem dX4_divideTooMuch_29 : decode cX4_divideTooMuch 29 = .ok (.aaload, 1) := by decide +kernel
theorem dX4_divideTooMuch_30 : decode cX4_divideTooMuch 30 = .ok (.astore 4, 2) := by decide +kernel
theorem dX4_divideTooMuch_32 : decode cX4_divideTooMuch 32 = .ok (.aload 4, 2) := by decide +kernel
theorem dX4_divideTooMuch_34 : decode cX4_divideTooMuch 34 = .ok (.iload_n 2, 1) := by decide +kernel
theorem dX4_divideTooMuch_35 : decode cX4_divideTooMuch 35 = .ok (.aload 4, 2) := by decide +kernel
theorem dX4_divideTooMuch_37 : decode cX4_divideTooMuch 37 = .ok (.getfield 80, 3) := by decide +kernel
theorem dX4_divideTooMuch_40 : decode cX4_divideTooMuch 40 = .ok (.aload 4, 2) := by decide +kernel
theorem dX4_divideTooMuch_42 : decode cX4_divideTooMuch 42 = .ok (.getfield 85, 3) := by decide +kernel
theorem dX4_divideTooMuch_45 : decode cX4_divideTooMuch 45 = .ok (.invokevirtual 88, 3) := by decide +kernel
theorem dX4_divideTooMuch_48 : decode cX4_divideTooMuch 48 = .ok (.iload_n 1, 1) := by decide +kernel
theorem dX4_divideTooMuch_49 : decode cX4_divideTooMuch 49 = .ok (.if_icmp .ne 21, 3) := by decide +kernel
theorem dX4_divideTooMuch_52 : decode cX4_divideTooMuch 52 = .ok (.aload_n 0, 1) := by decide +kernel
theorem dX4_divideTooMuch_53 : decode cX4_divideTooMuch 53 = .ok (.getfield 9, 3) := by decide +kernel
theorem dX4_divideTooMuch_56 : decode cX4_divideTooMuch 56 = .ok (.aload 4, 2) := by decide +kernel
theorem dX4_divideTooMuch_58 : decode cX4_divideTooMuch 58 = .ok (.getfield 92, 3) := by decide +kernel
theorem dX4_divideTooMuch_61 : decode cX4_divideTooMuch 61 = .ok (.dup2, 1) := by decide +kernel
theorem dX4_divideTooMuch_62 : decode cX4_divideTooMuch 62 = .ok (.iaload, 1) := by decide +kernel
theorem dX4_divideTooMuch_63 : decode cX4_divideTooMuch 63 = .ok (.aload 4, 2) := by decide +kernel
theorem dX4_divideTooMuch_65 : decode cX4_divideTooMuch 65 = .ok (.getfield 95, 3) := by decide +kernel
theorem dX4_divideTooMuch_68 : decode cX4_divideTooMuch 68 = .ok (.iadd, 1) := by decide +kernel
theorem dX4_divideTooMuch_69 : decode cX4_divideTooMuch 69 = .ok (.iastore, 1) := by decide +kernel
theorem dX4_divideTooMuch_70 : decode cX4_divideTooMuch 70 = .ok (.iinc 3 1, 3) := by decide +kernel
theorem dX4_divideTooMuch_73 : decode cX4_divideTooMuch 73 = .ok (.goto (-63), 3) := by decide +kernel
theorem dX4_divideTooMuch_76 : decode cX4_divideTooMuch 76 = .ok (.iload_n 1, 1) := by decide +kernel
theorem dX4_divideTooMuch_77 : decode cX4_divideTooMuch 77 = .ok (.iload_n 2, 1) := by decide +kernel
theorem dX4_divideTooMuch_78 : decode cX4_divideTooMuch 78 = .ok (.invokestatic 43, 3) := by decide +kernel
theorem dX4_divideTooMuch_81 : decode cX4_divideTooMuch 81 = .ok (.istore_n 3, 1) := by decide +kernel
theorem dX4_divideTooMuch_82 : decode cX4_divideTooMuch 82 = .ok (.aload_n 0, 1) := by decide +kernel
theorem dX4_divideTooMuch_83 : decode cX4_divideTooMuch 83 = .ok (.aload_n 0, 1) := by decide +kernel
theorem dX4_divideTooMuch_84 : decode cX4_divideTooMuch 84 = .ok (.getfield 25, 3) := by decide +kernel
theorem dX4_divideTooMuch_87 : decode cX4_divideTooMuch 87 = .ok (.iload_n 3, 1) := by decide +kernel
theorem dX4_divideTooMuch_88 : decode cX4_divideTooMuch 88 = .ok (.invokevirtual 47, 3) := by decide +kernel
theorem dX4_divideTooMuch_91 : decode cX4_divideTooMuch 91 = .ok (.aload_n 0, 1) := by decide +kernel
theorem dX4_divideTooMuch_92 : decode cX4_divideTooMuch 92 = .ok (.getfield 25, 3) := by decide +kernel
theorem dX4_divideTooMuch_95 : decode cX4_divideTooMuch 95 = .ok (.getfield 98, 3) := by decide +kernel
theorem dX4_divideTooMuch_98 : decode cX4_divideTooMuch 98 = .ok (.iload_n 3, 1) := by decide +kernel
theorem dX4_divideTooMuch_99 : decode cX4_divideTooMuch 99 = .ok (.iaload, 1) := by decide +kernel
theorem dX4_divideTooMuch_100 : decode cX4_divideTooMuch 100 = .ok (.invokevirtual 67, 3) := by decide +kernel
theorem dX4_divideTooMuch_103 : decode cX4_divideTooMuch 103 = .ok (.return_, 1) := by decide +kernel
theorem dX4_divide_0 : decode cX4_divide 0 = .ok (.aload_n 0, 1) := by decide +kernel
theorem dX4_divide_1 : decode cX4_divide 1 = .ok (.getfield 15, 3) := by decide +kernel
theorem dX4_divide_4 : decode cX4_divide 4 = .ok (.iconst 0, 1) := by decide +kernel
theorem dX4_divide_5 : decode cX4_divide 5 = .ok (.invokestatic 70, 3) := by decide +kernel
theorem dX4_divide_8 : decode cX4_divide 8 = .ok (.iload_n 2, 1) := by decide +kernel
theorem dX4_divide_9 : decode cX4_divide 9 = .ok (.ifCond .gt 4, 3) := by decide +kernel
theorem dX4_divide_12 : decode cX4_divide 12 = .ok (.return_, 1) := by decide +kernel
theorem dX4_divide_13 : decode cX4_divide 13 = .ok (.iload_n 1, 1) := by decide +kernel
theorem dX4_divide_14 : decode cX4_divide 14 = .ok (.istore_n 3, 1) := by decide +kernel
theorem dX4_divide_15 : decode cX4_divide 15 = .ok (.iconst 0, 1) := by decide +kernel
theorem dX4_divide_16 : decode cX4_divide 16 = .ok (.istore 4, 2) := by decide +kernel
theorem dX4_divide_18 : decode cX4_divide 18 = .ok (.iload 4, 2) := by decide +kernel
theorem dX4_divide_20 : decode cX4_divide 20 = .ok (.iconst 4, 1) := by decide +kernel
theorem dX4_divide_21 : decode cX4_divide 21 = .ok (.if_icmp .ge 55, 3) := by decide +kernel
theorem dX4_divide_24 : decode cX4_divide 24 = .ok (.aload_n 0, 1) := by decide +kernel
theorem dX4_divide_25 : decode cX4_divide 25 = .ok (.getfield 15, 3) := by decide +kernel
theorem dX4_divide_28 : decode cX4_divide 28 = .ok (.iload 4, 2) := by decide +kernel
theorem dX4_divide_30 : decode cX4_divide 30 = .ok (.iload_n 1, 1) := by decide +kernel
theorem dX4_divide_31 : decode cX4_divide 31 = .ok (.aload_n 0, 1) := by decide +kernel
theorem dX4_divide_32 : decode cX4_divide 32 = .ok (.getfield 9, 3) := by decide +kernel
theorem dX4_divide_35 : decode cX4_divide 35 = .ok (.iload 4, 2) := by decide +kernel
theorem dX4_divide_37 : decode cX4_divide 37 = .ok (.iaload, 1) := by decide +kernel
theorem dX4_divide_38 : decode cX4_divide 38 = .ok (.imul, 1) := by decide +kernel
theorem dX4_divide_39 : decode cX4_divide 39 = .ok (.iload_n 2, 1) := by decide +kernel
theorem dX4_divide_40 : decode cX4_divide 40 = .ok (.idiv, 1) := by decide +kernel
theorem dX4_divide_41 : decode cX4_divide 41 = .ok (.iastore, 1) := by decide +kernel
theorem dX4_divide_42 : decode cX4_divide 42 = .ok (.aload_n 0, 1) := by decide +kernel
theorem dX4_divide_43 : decode cX4_divide 43 = .ok (.getfield 18, 3) := by decide +kernel
theorem dX4_divide_46 : decode cX4_divide 46 = .ok (.iload 4, 2) := by decide +kernel
theorem dX4_divide_48 : decode cX4_divide 48 = .ok (.iload_n 1, 1) := by decide +kernel
theorem dX4_divide_49 : decode cX4_divide 49 = .ok (.aload_n 0, 1) := by decide +kernel
theorem dX4_divide_50 : decode cX4_divide 50 = .ok (.getfield 9, 3) := by decide +kernel
theorem dX4_divide_53 : decode cX4_divide 53 = .ok (.iload 4, 2) := by decide +kernel
theorem dX4_divide_55 : decode cX4_divide 55 = .ok (.iaload, 1) := by decide +kernel
theorem dX4_divide_56 : decode cX4_divide 56 = .ok (.imul, 1) := by decide +kernel
theorem dX4_divide_57 : decode cX4_divide 57 = .ok (.iload_n 2, 1) := by decide +kernel
theorem dX4_divide_58 : decode cX4_divide 58 = .ok (.irem, 1) := by decide +kernel
theorem dX4_divide_59 : decode cX4_divide 59 = .ok (.iastore, 1) := by decide +kernel
theorem dX4_divide_60 : decode cX4_divide 60 = .ok (.iload_n 3, 1) := by decide +kernel
theorem dX4_divide_61 : decode cX4_divide 61 = .ok (.aload_n 0, 1) := by decide +kernel
theorem dX4_divide_62 : decode cX4_divide 62 = .ok (.getfield 15, 3) := by decide +kernel
theorem dX4_divide_65 : decode cX4_divide 65 = .ok (.iload 4, 2) := by decide +kernel
theorem dX4_divide_67 : decode cX4_divide 67 = .ok (.iaload, 1) := by decide +kernel
theorem dX4_divide_68 : decode cX4_divide 68 = .ok (.isub, 1) := by decide +kernel
theorem dX4_divide_69 : decode cX4_divide 69 = .ok (.istore_n 3, 1) := by decide +kernel
theorem dX4_divide_70 : decode cX4_divide 70 = .ok (.iinc 4 1, 3) := by decide +kernel
theorem dX4_divide_73 : decode cX4_divide 73 = .ok (.goto (-55), 3) := by decide +kernel
theorem dX4_divide_76 : decode cX4_divide 76 = .ok (.iconst 0, 1) := by decide +kernel
theorem dX4_divide_77 : decode cX4_divide 77 = .ok (.istore 4, 2) := by decide +kernel
theorem dX4_divide_79 : decode cX4_divide 79 = .ok (.iload 4, 2) := by decide +kernel
theorem dX4_divide_81 : decode cX4_divide 81 = .ok (.iload_n 3, 1) := by decide +kernel
theorem dX4_divide_82 : decode cX4_divide 82 = .ok (.if_icmp .ge 40, 3) := by decide +kernel
theorem dX4_divide_85 : decode cX4_divide 85 = .ok (.iload 4, 2) := by decide +kernel
theorem dX4_divide_87 : decode cX4_divide 87 = .ok (.iconst 4, 1) := by decide +kernel
theorem dX4_divide_88 : decode cX4_divide 88 = .ok (.if_icmp .ge 34, 3) := by decide +kernel
theorem dX4_divide_91 : decode cX4_divide 91 = .ok (.aload_n 0, 1) := by decide +kernel
theorem dX4_divide_92 : decode cX4_divide 92 = .ok (.invokevirtual 101, 3) := by decide +kernel
theorem dX4_divide_95 : decode cX4_divide 95 = .ok (.istore 5, 2) := by decide +kernel
theorem dX4_divide_97 : decode cX4_divide 97 = .ok (.aload_n 0, 1) := by decide +kernel
theorem dX4_divide_98 : decode cX4_divide 98 = .ok (.getfield 15, 3) := by decide +kernel
theorem dX4_divide_101 : decode cX4_divide 101 = .ok (.iload 5, 2) := by decide +kernel
theorem dX4_divide_103 : decode cX4_divide 103 = .ok (.dup2, 1) := by decide +kernel
theorem dX4_divide_104 : decode cX4_divide 104 = .ok (.iaload, 1) := by decide +kernel
theorem dX4_divide_105 : decode cX4_divide 105 = .ok (.iconst 1, 1) := by decide +kernel
theorem dX4_divide_106 : decode cX4_divide 106 = .ok (.iadd, 1) := by decide +kernel
theorem dX4_divide_107 : decode cX4_divide 107 = .ok (.iastore, 1) := by decide +kernel
theorem dX4_divide_108 : decode cX4_divide 108 = .ok (.aload_n 0, 1) := by decide +kernel
theorem dX4_divide_109 : decode cX4_divide 109 = .ok (.getfield 18, 3) := by decide +kernel
theorem dX4_divide_112 : decode cX4_divide 112 = .ok (.iload 5, 2) := by decide +kernel
theorem dX4_divide_114 : decode cX4_divide 114 = .ok (.iconst (-1), 1) := by decide +kernel
theorem dX4_divide_115 : decode cX4_divide 115 = .ok (.iastore, 1) := by decide +kernel
theorem dX4_divide_116 : decode cX4_divide 116 = .ok (.iinc 4 1, 3) := by decide +kernel
theorem dX4_divide_119 : decode cX4_divide 119 = .ok (.goto (-40), 3) := by decide +kernel
theorem dX4_divide_122 : decode cX4_divide 122 = .ok (.return_, 1) := by decide +kernel
theorem dX4_ownerOfGreatestRest_0 : decode cX4_ownerOfGreatestRest 0 = .ok (.iconst 0, 1) := by decide +kernel
theorem dX4_ownerOfGreatestRest_1 : decode cX4_ownerOfGreatestRest 1 = .ok (.istore_n 1, 1) := by decide +kernel
theorem dX4_ownerOfGreatestRest_2 : decode cX4_ownerOfGreatestRest 2 = .ok (.iconst 1, 1) := by decide +kernel
theorem dX4_ownerOfGreatestRest_3 : decode cX4_ownerOfGreatestRest 3 = .ok (.istore_n 2, 1) := by decide +kernel
theorem dX4_ownerOfGreatestRest_4 : decode cX4_ownerOfGreatestRest 4 = .ok (.iload_n 2, 1) := by decide +kernel
theorem dX4_ownerOfGreatestRest_5 : decode cX4_ownerOfGreatestRest 5 = .ok (.iconst 4, 1) := by decide +kernel
theorem dX4_ownerOfGreatestRest_6 : decode cX4_ownerOfGreatestRest 6 = .ok (.if_icmp .ge 26, 3) := by decide +kernel
theorem dX4_ownerOfGreatestRest_9 : decode cX4_ownerOfGreatestRest 9 = .ok (.aload_n 0, 1) := by decide +kernel
theorem dX4_ownerOfGreatestRest_10 : decode cX4_ownerOfGreatestRest 10 = .ok (.getfield 18, 3) := by decide +kernel
theorem dX4_ownerOfGreatestRest_13 : decode cX4_ownerOfGreatestRest 13 = .ok (.iload_n 2, 1) := by decide +kernel
theorem dX4_ownerOfGreatestRest_14 : decode cX4_ownerOfGreatestRest 14 = .ok (.iaload, 1) := by decide +kernel
theorem dX4_ownerOfGreatestRest_15 : decode cX4_ownerOfGreatestRest 15 = .ok (.aload_n 0, 1) := by decide +kernel
theorem dX4_ownerOfGreatestRest_16 : decode cX4_ownerOfGreatestRest 16 = .ok (.getfield 18, 3) := by decide +kernel
theorem dX4_ownerOfGreatestRest_19 : decode cX4_ownerOfGreatestRest 19 = .ok (.iload_n 1, 1) := by decide +kernel
theorem dX4_ownerOfGreatestRest_20 : decode cX4_ownerOfGreatestRest 20 = .ok (.iaload, 1) := by decide +kernel
theorem dX4_ownerOfGreatestRest_21 : decode cX4_ownerOfGreatestRest 21 = .ok (.if_icmp .le 5, 3) := by decide +kernel
theorem dX4_ownerOfGreatestRest_24 : decode cX4_ownerOfGreatestRest 24 = .ok (.iload_n 2, 1) := by decide +kernel
theorem dX4_ownerOfGreatestRest_25 : decode cX4_ownerOfGreatestRest 25 = .ok (.istore_n 1, 1) := by decide +kernel
theorem dX4_ownerOfGreatestRest_26 : decode cX4_ownerOfGreatestRest 26 = .ok (.iinc 2 1, 3) := by decide +kernel
theorem dX4_ownerOfGreatestRest_29 : decode cX4_ownerOfGreatestRest 29 = .ok (.goto (-25), 3) := by decide +kernel
theorem dX4_ownerOfGreatestRest_32 : decode cX4_ownerOfGreatestRest 32 = .ok (.iload_n 1, 1) := by decide +kernel
theorem dX4_ownerOfGreatestRest_33 : decode cX4_ownerOfGreatestRest 33 = .ok (.ireturn, 1) := by decide +kernel
theorem dX5_init_0 : decode cX5_init 0 = .ok (.aload_n 0, 1) := by decide +kernel
theorem dX5_init_1 : decode cX5_init 1 = .ok (.invokespecial 3, 3) := by decide +kernel
theorem dX5_init_4 : decode cX5_init 4 = .ok (.aload_n 0, 1) := by decide +kernel
theorem dX5_init_5 : decode cX5_init 5 = .ok (.bipush 8, 2) := by decide +kernel
theorem dX5_init_7 : decode cX5_init 7 = .ok (.newarray .int, 2) := by decide +kernel
theorem dX5_init_9 : decode cX5_init 9 = .ok (.putfield 9, 3) := by decide +kernel
theorem dX5_init_12 : decode cX5_init 12 = .ok (.aload_n 0, 1) := by decide +kernel
theorem dX5_init_13 : decode cX5_init 13 = .ok (.iconst 0, 1) := by decide +kernel
theorem dX5_init_14 : decode cX5_init 14 = .ok (.putfield 15, 3) := by decide +kernel
theorem dX5_init_17 : decode cX5_init 17 = .ok (.aload_n 0, 1) := by decide +kernel
theorem dX5_init_18 : decode cX5_init 18 = .ok (.iconst 0, 1) := by decide +kernel
theorem dX5_init_19 : decode cX5_init 19 = .ok (.putfield 19, 3) := by decide +kernel
theorem dX5_init_22 : decode cX5_init 22 = .ok (.aload_n 0, 1) := by decide +kernel
theorem dX5_init_23 : decode cX5_init 23 = .ok (.iconst 0, 1) := by decide +kernel
theorem dX5_init_24 : decode cX5_init 24 = .ok (.putfield 22, 3) := by decide +kernel
theorem dX5_init_27 : decode cX5_init 27 = .ok (.aload_n 0, 1) := by decide +kernel
theorem dX5_init_28 : decode cX5_init 28 = .ok (.iconst 0, 1) := by decide +kernel
theorem dX5_init_29 : decode cX5_init 29 = .ok (.putfield 25, 3) := by decide +kernel
theorem dX5_init_32 : decode cX5_init 32 = .ok (.aload_n 0, 1) := by decide +kernel
theorem dX5_init_33 : decode cX5_init 33 = .ok (.aload_n 1, 1) := by decide +kernel
theorem dX5_init_34 : decode cX5_init 34 = .ok (.putfield 28, 3) := by decide +kernel
theorem dX5_init_37 : decode cX5_init 37 = .ok (.aload_n 0, 1) := by decide +kernel
theorem dX5_init_38 : decode cX5_init 38 = .ok (.aload_n 2, 1) := by decide +kernel
theorem dX5_init_39 : decode cX5_init 39 = .ok (.putfield 32, 3) := by decide +kernel
theorem dX5_init_42 : decode cX5_init 42 = .ok (.aload_n 0, 1) := by decide +kernel
theorem dX5_init_43 : decode cX5_init 43 = .ok (.aload_n 3, 1) := by decide +kernel
theorem dX5_init_44 : decode cX5_init 44 = .ok (.putfield 36, 3) := by decide +kernel
theorem dX5_init_47 : decode cX5_init 47 = .ok (.return_, 1) := by decide +kernel
theorem dX5_readTape_0 : decode cX5_readTape 0 = .ok (.aload_n 0, 1) := by decide +kernel
theorem dX5_readTape_1 : decode cX5_readTape 1 = .ok (.iconst 0, 1) := by decide +kernel
theorem dX5_readTape_2 : decode cX5_readTape 2 = .ok (.putfield 22, 3) := by decide +kernel
theorem dX5_readTape_5 : decode cX5_readTape 5 = .ok (.aload_n 0, 1) := by decide +kernel
theorem dX5_readTape_6 : decode cX5_readTape 6 = .ok (.aload_n 0, 1) := by decide +kernel
theorem dX5_readTape_7 : decode cX5_readTape 7 = .ok (.getfield 36, 3) := by decide +kernel
theorem dX5_readTape_10 : decode cX5_readTape 10 = .ok (.getfield 40, 3) := by decide +kernel
theorem dX5_readTape_13 : decode cX5_readTape 13 = .ok (.putfield 15, 3) := by decide +kernel
theorem dX5_readTape_16 : decode cX5_readTape 16 = .ok (.aload_n 0, 1) := by decide +kernel
theorem dX5_readTape_17 : decode cX5_readTape 17 = .ok (.aload_n 0, 1) := by decide +kernel
theorem dX5_readTape_18 : decode cX5_readTape 18 = .ok (.getfield 32, 3) := by decide +kernel
theorem dX5_readTape_21 : decode cX5_readTape 21 = .ok (.getfield 45, 3) := by decide +kernel
theorem dX5_readTape_24 : decode cX5_readTape 24 = .ok (.putfield 19, 3) := by decide +kernel
theorem dX5_readTape_27 : decode cX5_readTape 27 = .ok (.aload_n 0, 1) := by decide +kernel
theorem dX5_readTape_28 : decode cX5_readTape 28 = .ok (.getfield 9, 3) := by decide +kernel
theorem dX5_readTape_31 : decode cX5_readTape 31 = .ok (.iconst (-1), 1) := by decide +kernel
theorem dX5_readTape_32 : decode cX5_readTape 32 = .ok (.invokestatic 50, 3) := by decide +kernel
theorem dX5_readTape_35 : decode cX5_readTape 35 = .ok (.aload_n 0, 1) := by decide +kernel
theorem dX5_readTape_36 : decode cX5_readTape 36 = .ok (.getfield 28, 3) := by decide +kernel
theorem dX5_readTape_39 : decode cX5_readTape 39 = .ok (.invokevirtual 56, 3) := by decide +kernel
theorem dX5_readTape_42 : decode cX5_readTape 42 = .ok (.iconst 0, 1) := by decide +kernel
theorem dX5_readTape_43 : decode cX5_readTape 43 = .ok (.istore_n 1, 1) := by decide +kernel
theorem dX5_readTape_44 : decode cX5_readTape 44 = .ok (.iload_n 1, 1) := by decide +kernel
theorem dX5_readTape_45 : decode cX5_readTape 45 = .ok (.sipush 500, 3) := by decide +kernel
theorem dX5_readTape_48 : decode cX5_readTape 48 = .ok (.if_icmp .ge 91, 3) := by decide +kernel
theorem dX5_readTape_51 : decode cX5_readTape 51 = .ok (.aload_n 0, 1) := by decide +kernel
theorem dX5_readTape_52 : decode cX5_readTape 52 = .ok (.getfield 22, 3) := by decide +kernel
theorem dX5_readTape_55 : decode cX5_readTape 55 = .ok (.ifCond .ne 84, 3) := by decide +kernel
theorem dX5_readTape_58 : decode cX5_readTape 58 = .ok (.aload_n 0, 1) := by decide +kernel
theorem dX5_readTape_59 : decode cX5_readTape 59 = .ok (.getfield 28, 3) := by decide +kernel
theorem dX5_readTape_62 : decode cX5_readTape 62 = .ok (.getfield 61, 3) := by decide +kernel
theorem dX5_readTape_65 : decode cX5_readTape 65 = .ok (.ifCond .eq 74, 3) := by decide +kernel
theorem dX5_readTape_68 : decode cX5_readTape 68 = .ok (.aload_n 0, 1) := by decide +kernel
theorem dX5_readTape_69 : decode cX5_readTape 69 = .ok (.getfield 28, 3) := by decide +kernel
theorem dX5_readTape_72 : decode cX5_readTape 72 = .ok (.ldc2_w 64, 3) := by decide +kernel
theorem dX5_readTape_75 : decode cX5_readTape 75 = .ok (.invokevirtual 66, 3) := by decide +kernel
theorem dX5_readTape_78 : decode cX5_readTape 78 = .ok (.ifCond .eq 10, 3) := by decide +kernel
theorem dX5_readTape_81 : decode cX5_readTape 81 = .ok (.aload_n 0, 1) := by decide +kernel
theorem dX5_readTape_82 : decode cX5_readTape 82 = .ok (.invokevirtual 70, 3) := by decide +kernel
theorem dX5_readTape_85 : decode cX5_readTape 85 = .ok (.goto 48, 3) := by decide +kernel
theorem dX5_readTape_88 : decode cX5_readTape 88 = .ok (.aload_n 0, 1) := by decide +kernel
theorem dX5_readTape_89 : decode cX5_readTape 89 = .ok (.getfield 28, 3) := by decide +kernel
theorem dX5_readTape_92 : decode cX5_readTape 92 = .ok (.ldc2_w 73, 3) := by decide +kernel
theorem dX5_readTape_95 : decode cX5_readTape 95 = .ok (.invokevirtual 66, 3) := by decide +kernel
theorem dX5_readTape_98 : decode cX5_readTape 98 = .ok (.ifCond .eq 10, 3) := by decide +kernel
theorem dX5_readTape_101 : decode cX5_readTape 101 = .ok (.aload_n 0, 1) := by decide +kernel
theorem dX5_readTape_102 : decode cX5_readTape 102 = .ok (.invokevirtual 75, 3) := by decide +kernel
theorem dX5_readTape_105 : decode cX5_readTape 105 = .ok (.goto 28, 3) := by decide +kernel
theorem dX5_readTape_108 : decode cX5_readTape 108 = .ok (.aload_n 0, 1) := by decide +kernel
theorem dX5_readTape_109 : decode cX5_readTape 109 = .ok (.getfield 28, 3) := by decide +kernel
theorem dX5_readTape_112 : decode cX5_readTape 112 = .ok (.ldc2_w 78, 3) := by decide +kernel
theorem dX5_readTape_115 : decode cX5_readTape 115 = .ok (.invokevirtual 66, 3) := by decide +kernel
theorem dX5_readTape_118 : decode cX5_readTape 118 = .ok (.ifCond .eq 10, 3) := by decide +kernel
theorem dX5_readTape_121 : decode cX5_readTape 121 = .ok (.aload_n 0, 1) := by decide +kernel
theorem dX5_readTape_122 : decode cX5_readTape 122 = .ok (.invokevirtual 80, 3) := by decide +kernel
theorem dX5_readTape_125 : decode cX5_readTape 125 = .ok (.goto 8, 3) := by decide +kernel
theorem dX5_readTape_128 : decode cX5_readTape 128 = .ok (.aload_n 0, 1) := by decide +kernel
theorem dX5_readTape_129 : decode cX5_readTape 129 = .ok (.iconst 1, 1) := by decide +kernel
theorem dX5_readTape_130 : decode cX5_readTape 130 = .ok (.invokevirtual 83, 3) := by decide +kernel
theorem dX5_readTape_133 : decode cX5_readTape 133 = .ok (.iinc 1 1, 3) := by decide +kernel
theorem dX5_readTape_136 : decode cX5_readTape 136 = .ok (.goto (-92), 3) := by decide +kernel
theorem dX5_readTape_139 : decode cX5_readTape 139 = .ok (.aload_n 0, 1) := by decide +kernel
theorem dX5_readTape_140 : decode cX5_readTape 140 = .ok (.getfield 22, 3) := by decide +kernel
theorem dX5_readTape_143 : decode cX5_readTape 143 = .ok (.ifCond .ne 7, 3) := by decide +kernel
theorem dX5_readTape_146 : decode cX5_readTape 146 = .ok (.iconst 1, 1) := by decide +kernel
theorem dX5_readTape_147 : decode cX5_readTape 147 = .ok (.goto 4, 3) := by decide +kernel
theorem dX5_readTape_150 : decode cX5_readTape 150 = .ok (.iconst 0, 1) := by decide +kernel
theorem dX5_readTape_151 : decode cX5_readTape 151 = .ok (.ireturn, 1) := by decide +kernel
theorem dX5_carryOut_0 : decode cX5_carryOut 0 = .ok (.aload_n 0, 1) := by decide +kernel
theorem dX5_carryOut_1 : decode cX5_carryOut 1 = .ok (.getfield 36, 3) := by decide +kernel
theorem dX5_carryOut_4 : decode cX5_carryOut 4 = .ok (.aload_n 0, 1) := by decide +kernel
theorem dX5_carryOut_5 : decode cX5_carryOut 5 = .ok (.getfield 15, 3) := by decide +kernel
theorem dX5_carryOut_8 : decode cX5_carryOut 8 = .ok (.putfield 40, 3) := by decide +kernel
theorem dX5_carryOut_11 : decode cX5_carryOut 11 = .ok (.aload_n 0, 1) := by decide +kernel
theorem dX5_carryOut_12 : decode cX5_carryOut 12 = .ok (.getfield 32, 3) := by decide +kernel
theorem dX5_carryOut_15 : decode cX5_carryOut 15 = .ok (.aload_n 0, 1) := by decide +kernel
theorem dX5_carryOut_16 : decode cX5_carryOut 16 = .ok (.getfield 19, 3) := by decide +kernel
theorem dX5_carryOut_19 : decode cX5_carryOut 19 = .ok (.putfield 45, 3) := by decide +kernel
theorem dX5_carryOut_22 : decode cX5_carryOut 22 = .ok (.iconst 0, 1) := by decide +kernel
theorem dX5_carryOut_23 : decode cX5_carryOut 23 = .ok (.istore_n 1, 1) := by decide +kernel
theorem dX5_carryOut_24 : decode cX5_carryOut 24 = .ok (.iload_n 1, 1) := by decide +kernel
theorem dX5_carryOut_25 : decode cX5_carryOut 25 = .ok (.bipush 8, 2) := by decide +kernel
theorem dX5_carryOut_27 : decode cX5_carryOut 27 = .ok (.if_icmp .ge 33, 3) := by decide +kernel
theorem dX5_carryOut_30 : decode cX5_carryOut 30 = .ok (.aload_n 0, 1) := by decide +kernel
theorem dX5_carryOut_31 : decode cX5_carryOut 31 = .ok (.getfield 9, 3) := by decide +kernel
theorem dX5_carryOut_34 : decode cX5_carryOut 34 = .ok (.iload_n 1, 1) := by decide +kernel
theorem dX5_carryOut_35 : decode cX5_carryOut 35 = .ok (.iaload, 1) := by decide +kernel
theorem dX5_carryOut_36 : decode cX5_carryOut 36 = .ok (.iconst (-1), 1) := by decide +kernel
theorem dX5_carryOut_37 : decode cX5_carryOut 37 = .ok (.if_icmp .eq 17, 3) := by decide +kernel
theorem dX5_carryOut_40 : decode cX5_carryOut 40 = .ok (.aload_n 0, 1) := by decide +kernel
theorem dX5_carryOut_41 : decode cX5_carryOut 41 = .ok (.getfield 32, 3) := by decide +kernel
theorem dX5_carryOut_44 : decode cX5_carryOut 44 = .ok (.iload_n 1, 1) := by decide +kernel
theorem dX5_carryOut_45 : decode cX5_carryOut 45 = .ok (.aload_n 0, 1) := by decide +kernel
theorem dX5_carryOut_46 : decode cX5_carryOut 46 = .ok (.getfield 9, 3) := by decide +kernel
theorem dX5_carryOut_49 : decode cX5_carryOut 49 = .ok (.iload_n 1, 1) := by decide +kernel
theorem dX5_carryOut_50 : decode cX5_carryOut 50 = .ok (.iaload, 1) := by decide +kernel
theorem dX5_carryOut_51 : decode cX5_carryOut 51 = .ok (.invokevirtual 87, 3) := by decide +kernel
theorem dX5_carryOut_54 : decode cX5_carryOut 54 = .ok (.iinc 1 1, 3) := by decide +kernel
theorem dX5_carryOut_57 : decode cX5_carryOut 57 = .ok (.goto (-33), 3) := by decide +kernel
theorem dX5_carryOut_60 : decode cX5_carryOut 60 = .ok (.return_, 1) := by decide +kernel
theorem dX5_readFlight_0 : decode cX5_readFlight 0 = .ok (.aload_n 0, 1) := by decide +kernel
theorem dX5_readFlight_1 : decode cX5_readFlight 1 = .ok (.getfield 15, 3) := by decide +kernel
theorem dX5_readFlight_4 : decode cX5_readFlight 4 = .ok (.bipush 12, 2) := by decide +kernel
theorem dX5_readFlight_6 : decode cX5_readFlight 6 = .ok (.if_icmp .lt 9, 3) := by decide +kernel
theorem dX5_readFlight_9 : decode cX5_readFlight 9 = .ok (.aload_n 0, 1) := by decide +kernel
theorem dX5_readFlight_10 : decode cX5_readFlight 10 = .ok (.iconst 4, 1) := by decide +kernel
theorem dX5_readFlight_11 : decode cX5_readFlight 11 = .ok (.invokevirtual 83, 3) := by decide +kernel
theorem dX5_readFlight_14 : decode cX5_readFlight 14 = .ok (.return_, 1) := by decide +kernel
theorem dX5_readFlight_15 : decode cX5_readFlight 15 = .ok (.aload_n 0, 1) := by decide +kernel
theorem dX5_readFlight_16 : decode cX5_readFlight 16 = .ok (.getfield 36, 3) := by decide +kernel
theorem dX5_readFlight_19 : decode cX5_readFlight 19 = .ok (.getfield 91, 3) := by decide +kernel
theorem dX5_readFlight_22 : decode cX5_readFlight 22 = .ok (.aload_n 0, 1) := by decide +kernel
theorem dX5_readFlight_23 : decode cX5_readFlight 23 = .ok (.getfield 15, 3) := by decide +kernel
theorem dX5_readFlight_26 : decode cX5_readFlight 26 = .ok (.aaload, 1) := by decide +kernel
theorem dX5_readFlight_27 : decode cX5_readFlight 27 = .ok (.astore_n 1, 1) := by decide +kernel
theorem dX5_readFlight_28 : decode cX5_readFlight 28 = .ok (.aload_n 1, 1) := by decide +kernel
theorem dX5_readFlight_29 : decode cX5_readFlight 29 = .ok (.invokevirtual 95, 3) := by decide +kernel
theorem dX5_readFlight_32 : decode cX5_readFlight 32 = .ok (.aload_n 0, 1) := by decide +kernel
theorem dX5_readFlight_33 : decode cX5_readFlight 33 = .ok (.getfield 28, 3) := by decide +kernel
theorem dX5_readFlight_36 : decode cX5_readFlight 36 = .ok (.invokevirtual 100, 3) := by decide +kernel
theorem dX5_readFlight_39 : decode cX5_readFlight 39 = .ok (.aload_n 1, 1) := by decide +kernel
theorem dX5_readFlight_40 : decode cX5_readFlight 40 = .ok (.aload_n 0, 1) := by decide +kernel
theorem dX5_readFlight_41 : decode cX5_readFlight 41 = .ok (.iconst 0, 1) := by decide +kernel
theorem dX5_readFlight_42 : decode cX5_readFlight 42 = .ok (.iconst 3, 1) := by decide +kernel
theorem dX5_readFlight_43 : decode cX5_readFlight 43 = .ok (.invokevirtual 103, 3) := by decide +kernel
theorem dX5_readFlight_46 : decode cX5_readFlight 46 = .ok (.putfield 107, 3) := by decide +kernel
theorem dX5_readFlight_49 : decode cX5_readFlight 49 = .ok (.aload_n 1, 1) := by decide +kernel
theorem dX5_readFlight_50 : decode cX5_readFlight 50 = .ok (.aload_n 0, 1) := by decide +kernel
theorem dX5_readFlight_51 : decode cX5_readFlight 51 = .ok (.iconst 1, 1) := by decide +kernel
theorem dX5_readFlight_52 : decode cX5_readFlight 52 = .ok (.bipush 9, 2) := by decide +kernel
theorem dX5_readFlight_54 : decode cX5_readFlight 54 = .ok (.invokevirtual 103, 3) := by decide +kernel
theorem dX5_readFlight_57 : decode cX5_readFlight 57 = .ok (.putfield 110, 3) := by decide +kernel
theorem dX5_readFlight_60 : decode cX5_readFlight 60 = .ok (.aload_n 1, 1) := by decide +kernel
theorem dX5_readFlight_61 : decode cX5_readFlight 61 = .ok (.aload_n 0, 1) := by decide +kernel
theorem dX5_readFlight_62 : decode cX5_readFlight 62 = .ok (.iconst 0, 1) := by decide +kernel
theorem dX5_readFlight_63 : decode cX5_readFlight 63 = .ok (.bipush 40, 2) := by decide +kernel
theorem dX5_readFlight_65 : decode cX5_readFlight 65 = .ok (.invokevirtual 103, 3) := by decide +kernel
theorem dX5_readFlight_68 : decode cX5_readFlight 68 = .ok (.putfield 113, 3) := by decide +kernel
theorem dX5_readFlight_71 : decode cX5_readFlight 71 = .ok (.aload_n 1, 1) := by decide +kernel
theorem dX5_readFlight_72 : decode cX5_readFlight 72 = .ok (.aload_n 0, 1) := by decide +kernel
theorem dX5_readFlight_73 : decode cX5_readFlight 73 = .ok (.iconst 0, 1) := by decide +kernel
theorem dX5_readFlight_74 : decode cX5_readFlight 74 = .ok (.bipush 99, 2) := by decide +kernel
theorem dX5_readFlight_76 : decode cX5_readFlight 76 = .ok (.invokevirtual 103, 3) := by decide +kernel
theorem dX5_readFlight_79 : decode cX5_readFlight 79 = .ok (.putfield 116, 3) := by decide +kernel
theorem dX5_readFlight_82 : decode cX5_readFlight 82 = .ok (.aload_n 0, 1) := by decide +kernel
theorem dX5_readFlight_83 : decode cX5_readFlight 83 = .ok (.aload_n 1, 1) := by decide +kernel
theorem dX5_readFlight_84 : decode cX5_readFlight 84 = .ok (.invokevirtual 119, 3) := by decide +kernel
theorem dX5_readFlight_87 : decode cX5_readFlight 87 = .ok (.aload_n 0, 1) := by decide +kernel
theorem dX5_readFlight_88 : decode cX5_readFlight 88 = .ok (.invokevirtual 123, 3) := by decide +kernel
theorem dX5_readFlight_91 : decode cX5_readFlight 91 = .ok (.aload_n 0, 1) := by decide +kernel
theorem dX5_readFlight_92 : decode cX5_readFlight 92 = .ok (.dup, 1) := by decide +kernel
theorem dX5_readFlight_93 : decode cX5_readFlight 93 = .ok (.getfield 15, 3) := by decide +kernel
theorem dX5_readFlight_96 : decode cX5_readFlight 96 = .ok (.iconst 1, 1) := by decide +kernel
theorem dX5_readFlight_97 : decode cX5_readFlight 97 = .ok (.iadd, 1) := by decide +kernel
theorem dX5_readFlight_98 : decode cX5_readFlight 98 = .ok (.putfield 15, 3) := by decide +kernel
theorem dX5_readFlight_101 : decode cX5_readFlight 101 = .ok (.return_, 1) := by decide +kernel
theorem dX5_readWays_0 : decode cX5_readWays 0 = .ok (.aload_n 0, 1) := by decide +kernel
theorem dX5_readWays_1 : decode cX5_readWays 1 = .ok (.getfield 28, 3) := by decide +kernel
theorem dX5_readWays_4 : decode cX5_readWays 4 = .ok (.ldc2_w 126, 3) := by decide +kernel
theorem dX5_readWays_7 : decode cX5_readWays 7 = .ok (.invokevirtual 66, 3) := by decide +kernel
theorem dX5_readWays_10 : decode cX5_readWays 10 = .ok (.ifCond .ne 8, 3) := by decide +kernel
theorem dX5_readWays_13 : decode cX5_readWays 13 = .ok (.aload_n 0, 1) := by decide +kernel
theorem dX5_readWays_14 : decode cX5_readWays 14 = .ok (.iconst 1, 1) := by decide +kernel
theorem dX5_readWays_15 : decode cX5_readWays 15 = .ok (.invokevirtual 83, 3) := by decide +kernel
theorem dX5_readWays_18 : decode cX5_readWays 18 = .ok (.aload_n 0, 1) := by decide +kernel
theorem dX5_readWays_19 : decode cX5_readWays 19 = .ok (.getfield 22, 3) := by decide +kernel
theorem dX5_readWays_22 : decode cX5_readWays 22 = .ok (.ifCond .ne 7, 3) := by decide +kernel
theorem dX5_readWays_25 : decode cX5_readWays 25 = .ok (.iconst 1, 1) := by decide +kernel
theorem dX5_readWays_26 : decode cX5_readWays 26 = .ok (.goto 4, 3) := by decide +kernel
theorem dX5_readWays_29 : decode cX5_readWays 29 = .ok (.iconst 0, 1) := by decide +kernel
theorem dX5_readWays_30 : decode cX5_readWays 30 = .ok (.istore_n 2, 1) := by decide +kernel
theorem dX5_readWays_31 : decode cX5_readWays 31 = .ok (.iconst 0, 1) := by decide +kernel
theorem dX5_readWays_32 : decode cX5_readWays 32 = .ok (.istore_n 3, 1) := by decide +kernel
theorem dX5_readWays_33 : decode cX5_readWays 33 = .ok (.iload_n 3, 1) := by decide +kernel
theorem dX5_readWays_34 : decode cX5_readWays 34 = .ok (.iconst 3, 1) := by decide +kernel
theorem dX5_readWays_35 : decode cX5_readWays 35 = .ok (.if_icmp .ge 48, 3) := by decide +kernel
theorem dX5_readWays_38 : decode cX5_readWays 38 = .ok (.iload_n 2, 1) := by decide +kernel
theorem dX5_readWays_39 : decode cX5_readWays 39 = .ok (.ifCond .eq 44, 3) := by decide +kernel
theorem dX5_readWays_42 : decode cX5_readWays 42 = .ok (.aload_n 1, 1) := by decide +kernel
theorem dX5_readWays_43 : decode cX5_readWays 43 = .ok (.invokevirtual 128, 3) := by decide +kernel
theorem dX5_readWays_46 : decode cX5_readWays 46 = .ok (.aload_n 0, 1) := by decide +kernel
theorem dX5_readWays_47 : decode cX5_readWays 47 = .ok (.aload_n 1, 1) := by decide +kernel
theorem dX5_readWays_48 : decode cX5_readWays 48 = .ok (.invokevirtual 131, 3) := by decide +kernel
theorem dX5_readWays_51 : decode cX5_readWays 51 = .ok (.aload_n 0, 1) := by decide +kernel
theorem dX5_readWays_52 : decode cX5_readWays 52 = .ok (.getfield 22, 3) := by decide +kernel
theorem dX5_readWays_55 : decode cX5_readWays 55 = .ok (.ifCond .ne 20, 3) := by decide +kernel
theorem dX5_readWays_58 : decode cX5_readWays 58 = .ok (.aload_n 0, 1) := by decide +kernel
theorem dX5_readWays_59 : decode cX5_readWays 59 = .ok (.getfield 28, 3) := by decide +kernel
theorem dX5_readWays_62 : decode cX5_readWays 62 = .ok (.ldc2_w 126, 3) := by decide +kernel
theorem dX5_readWays_65 : decode cX5_readWays 65 = .ok (.invokevirtual 66, 3) := by decide +kernel
theorem dX5_readWays_68 : decode cX5_readWays 68 = .ok (.ifCond .eq 7, 3) := by decide +kernel
theorem dX5_readWays_71 : decode cX5_readWays 71 = .ok (.iconst 1, 1) := by decide +kernel
theorem dX5_readWays_72 : decode cX5_readWays 72 = .ok (.goto 4, 3) := by decide +kernel
theorem dX5_readWays_75 : decode cX5_readWays 75 = .ok (.iconst 0, 1) := by decide +kernel
theorem dX5_readWays_76 : decode cX5_readWays 76 = .ok (.istore_n 2, 1) := by decide +kernel
theorem dX5_readWays_77 : decode cX5_readWays 77 = .ok (.iinc 3 1, 3) := by decide +kernel
theorem dX5_readWays_80 : decode cX5_readWays 80 = .ok (.goto (-47), 3) := by decide +kernel
theorem dX5_readWays_83 : decode cX5_readWays 83 = .ok (.iload_n 2, 1) := by decide +kernel
theorem dX5_readWays_84 : decode cX5_readWays 84 = .ok (.ifCond .eq 8, 3) := by decide +kernel
theorem dX5_readWays_87 : decode cX5_readWays 87 = .ok (.aload_n 0, 1) := by decide +kernel
theorem dX5_readWays_88 : decode cX5_readWays 88 = .ok (.iconst 3, 1) := by decide +kernel
theorem dX5_readWays_89 : decode cX5_readWays 89 = .ok (.invokevirtual 83, 3) := by decide +kernel
theorem dX5_readWays_92 : decode cX5_readWays 92 = .ok (.return_, 1) := by decide +kernel
theorem dX5_readLegs_0 : decode cX5_readLegs 0 = .ok (.iconst 1, 1) := by decide +kernel
theorem dX5_readLegs_1 : decode cX5_readLegs 1 = .ok (.istore_n 2, 1) := by decide +kernel
theorem dX5_readLegs_2 : decode cX5_readLegs 2 = .ok (.iconst 0, 1) := by decide +kernel
theorem dX5_readLegs_3 : decode cX5_readLegs 3 = .ok (.istore_n 3, 1) := by decide +kernel
theorem dX5_readLegs_4 : decode cX5_readLegs 4 = .ok (.iload_n 3, 1) := by decide +kernel
theorem dX5_readLegs_5 : decode cX5_readLegs 5 = .ok (.iconst 5, 1) := by decide +kernel
theorem dX5_readLegs_6 : decode cX5_readLegs 6 = .ok (.if_icmp .ge 69, 3) := by decide +kernel
theorem dX5_readLegs_9 : decode cX5_readLegs 9 = .ok (.iload_n 2, 1) := by decide +kernel
theorem dX5_readLegs_10 : decode cX5_readLegs 10 = .ok (.ifCond .eq 65, 3) := by decide +kernel
theorem dX5_readLegs_13 : decode cX5_readLegs 13 = .ok (.aload_n 0, 1) := by decide +kernel
theorem dX5_readLegs_14 : decode cX5_readLegs 14 = .ok (.getfield 28, 3) := by decide +kernel
theorem dX5_readLegs_17 : decode cX5_readLegs 17 = .ok (.invokevirtual 100, 3) := by decide +kernel
theorem dX5_readLegs_20 : decode cX5_readLegs 20 = .ok (.aload_n 0, 1) := by decide +kernel
theorem dX5_readLegs_21 : decode cX5_readLegs 21 = .ok (.iconst 0, 1) := by decide +kernel
theorem dX5_readLegs_22 : decode cX5_readLegs 22 = .ok (.bipush 7, 2) := by decide +kernel
theorem dX5_readLegs_24 : decode cX5_readLegs 24 = .ok (.invokevirtual 103, 3) := by decide +kernel
theorem dX5_readLegs_27 : decode cX5_readLegs 27 = .ok (.istore 4, 2) := by decide +kernel
theorem dX5_readLegs_29 : decode cX5_readLegs 29 = .ok (.aload_n 0, 1) := by decide +kernel
theorem dX5_readLegs_30 : decode cX5_readLegs 30 = .ok (.iconst 1, 1) := by decide +kernel
theorem dX5_readLegs_31 : decode cX5_readLegs 31 = .ok (.iconst 4, 1) := by decide +kernel
theorem dX5_readLegs_32 : decode cX5_readLegs 32 = .ok (.invokevirtual 103, 3) := by decide +kernel
theorem dX5_readLegs_35 : decode cX5_readLegs 35 = .ok (.istore 5, 2) := by decide +kernel
theorem dX5_readLegs_37 : decode cX5_readLegs 37 = .ok (.aload_n 1, 1) := by decide +kernel
theorem dX5_readLegs_38 : decode cX5_readLegs 38 = .ok (.iload 4, 2) := by decide +kernel
theorem dX5_readLegs_40 : decode cX5_readLegs 40 = .ok (.iload 5, 2) := by decide +kernel
theorem dX5_readLegs_42 : decode cX5_readLegs 42 = .ok (.invokevirtual 134, 3) := by decide +kernel
theorem dX5_readLegs_45 : decode cX5_readLegs 45 = .ok (.aload_n 0, 1) := by decide +kernel
theorem dX5_readLegs_46 : decode cX5_readLegs 46 = .ok (.getfield 22, 3) := by decide +kernel
theorem dX5_readLegs_49 : decode cX5_readLegs 49 = .ok (.ifCond .ne 18, 3) := by decide +kernel
theorem dX5_readLegs_52 : decode cX5_readLegs 52 = .ok (.aload_n 0, 1) := by decide +kernel
theorem dX5_readLegs_53 : decode cX5_readLegs 53 = .ok (.getfield 28, 3) := by decide +kernel
theorem dX5_readLegs_56 : decode cX5_readLegs 56 = .ok (.getfield 61, 3) := by decide +kernel
theorem dX5_readLegs_59 : decode cX5_readLegs 59 = .ok (.iconst 3, 1) := by decide +kernel
theorem dX5_readLegs_60 : decode cX5_readLegs 60 = .ok (.if_icmp .ne 7, 3) := by decide +kernel
theorem dX5_readLegs_63 : decode cX5_readLegs 63 = .ok (.iconst 1, 1) := by decide +kernel
theorem dX5_readLegs_64 : decode cX5_readLegs 64 = .ok (.goto 4, 3) := by decide +kernel
theorem dX5_readLegs_67 : decode cX5_readLegs 67 = .ok (.iconst 0, 1) := by decide +kernel
theorem dX5_readLegs_68 : decode cX5_readLegs 68 = .ok (.istore_n 2, 1) := by decide +kernel
theorem dX5_readLegs_69 : decode cX5_readLegs 69 = .ok (.iinc 3 1, 3) := by decide +kernel
theorem dX5_readLegs_72 : decode cX5_readLegs 72 = .ok (.goto (-68), 3) := by decide +kernel
theorem dX5_readLegs_75 : decode cX5_readLegs 75 = .ok (.iload_n 2, 1) := by decide +kernel
theorem dX5_readLegs_76 : decode cX5_readLegs 76 = .ok (.ifCond .eq 8, 3) := by decide +kernel
theorem dX5_readLegs_79 : decode cX5_readLegs 79 = .ok (.aload_n 0, 1) := by decide +kernel
theorem dX5_readLegs_80 : decode cX5_readLegs 80 = .ok (.iconst 3, 1) := by decide +kernel
theorem dX5_readLegs_81 : decode cX5_readLegs 81 = .ok (.invokevirtual 83, 3) := by decide +kernel
theorem dX5_readLegs_84 : decode cX5_readLegs 84 = .ok (.return_, 1) := by decide +kernel
theorem dX5_readBear_0 : decode cX5_readBear 0 = .ok (.aload_n 0, 1) := by decide +kernel
theorem dX5_readBear_1 : decode cX5_readBear 1 = .ok (.getfield 28, 3) := by decide +kernel
theorem dX5_readBear_4 : decode cX5_readBear 4 = .ok (.invokevirtual 100, 3) := by decide +kernel
theorem dX5_readBear_7 : decode cX5_readBear 7 = .ok (.aload_n 0, 1) := by decide +kernel
theorem dX5_readBear_8 : decode cX5_readBear 8 = .ok (.iconst 0, 1) := by decide +kernel
theorem dX5_readBear_9 : decode cX5_readBear 9 = .ok (.bipush 7, 2) := by decide +kernel
theorem dX5_readBear_11 : decode cX5_readBear 11 = .ok (.invokevirtual 103, 3) := by decide +kernel
theorem dX5_readBear_14 : decode cX5_readBear 14 = .ok (.istore_n 1, 1) := by decide +kernel
theorem dX5_readBear_15 : decode cX5_readBear 15 = .ok (.aload_n 0, 1) := by decide +kernel
theorem dX5_readBear_16 : decode cX5_readBear 16 = .ok (.iconst 0, 1) := by decide +kernel
theorem dX5_readBear_17 : decode cX5_readBear 17 = .ok (.bipush 99, 2) := by decide +kernel
theorem dX5_readBear_19 : decode cX5_readBear 19 = .ok (.invokevirtual 103, 3) := by decide +kernel
theorem dX5_readBear_22 : decode cX5_readBear 22 = .ok (.istore_n 2, 1) := by decide +kernel
theorem dX5_readBear_23 : decode cX5_readBear 23 = .ok (.aload_n 0, 1) := by decide +kernel
theorem dX5_readBear_24 : decode cX5_readBear 24 = .ok (.invokevirtual 123, 3) := by decide +kernel
theorem dX5_readBear_27 : decode cX5_readBear 27 = .ok (.aload_n 0, 1) := by decide +kernel
theorem dX5_readBear_28 : decode cX5_readBear 28 = .ok (.getfield 9, 3) := by decide +kernel
theorem dX5_readBear_31 : decode cX5_readBear 31 = .ok (.iload_n 1, 1) := by decide +kernel
theorem dX5_readBear_32 : decode cX5_readBear 32 = .ok (.iload_n 2, 1) := by decide +kernel
theorem dX5_readBear_33 : decode cX5_readBear 33 = .ok (.iastore, 1) := by decide +kernel
theorem dX5_readBear_34 : decode cX5_readBear 34 = .ok (.return_, 1) := by decide +kernel
theorem dX5_readStorm_0 : decode cX5_readStorm 0 = .ok (.aload_n 0, 1) := by decide +kernel
theorem dX5_readStorm_1 : decode cX5_readStorm 1 = .ok (.getfield 19, 3) := by decide +kernel
theorem dX5_readStorm_4 : decode cX5_readStorm 4 = .ok (.bipush 20, 2) := by decide +kernel
theorem dX5_readStorm_6 : decode cX5_readStorm 6 = .ok (.if_icmp .lt 9, 3) := by decide +kernel
theorem dX5_readStorm_9 : decode cX5_readStorm 9 = .ok (.aload_n 0, 1) := by decide +kernel
theorem dX5_readStorm_10 : decode cX5_readStorm 10 = .ok (.iconst 4, 1) := by decide +kernel
theorem dX5_readStorm_11 : decode cX5_readStorm 11 = .ok (.invokevirtual 83, 3) := by decide +kernel
theorem dX5_readStorm_14 : decode cX5_readStorm 14 = .ok (.return_, 1) := by decide +kernel
theorem dX5_readStorm_15 : decode cX5_readStorm 15 = .ok (.aload_n 0, 1) := by decide +kernel
theorem dX5_readStorm_16 : decode cX5_readStorm 16 = .ok (.getfield 28, 3) := by decide +kernel
theorem dX5_readStorm_19 : decode cX5_readStorm 19 = .ok (.invokevirtual 100, 3) := by decide +kernel
theorem dX5_readStorm_22 : decode cX5_readStorm 22 = .ok (.aload_n 0, 1) := by decide +kernel
theorem dX5_readStorm_23 : decode cX5_readStorm 23 = .ok (.getfield 32, 3) := by decide +kernel
theorem dX5_readStorm_26 : decode cX5_readStorm 26 = .ok (.getfield 137, 3) := by decide +kernel
theorem dX5_readStorm_29 : decode cX5_readStorm 29 = .ok (.aload_n 0, 1) := by decide +kernel
theorem dX5_readStorm_30 : decode cX5_readStorm 30 = .ok (.getfield 19, 3) := by decide +kernel
theorem dX5_readStorm_33 : decode cX5_readStorm 33 = .ok (.aload_n 0, 1) := by decide +kernel
theorem dX5_readStorm_34 : decode cX5_readStorm 34 = .ok (.iconst 1, 1) := by decide +kernel
theorem dX5_readStorm_35 : decode cX5_readStorm 35 = .ok (.iconst 3, 1) := by decide +kernel
theorem dX5_readStorm_36 : decode cX5_readStorm 36 = .ok (.invokevirtual 103, 3) := by decide +kernel
theorem dX5_readStorm_39 : decode cX5_readStorm 39 = .ok (.iastore, 1) := by decide +kernel
theorem dX5_readStorm_40 : decode cX5_readStorm 40 = .ok (.aload_n 0, 1) := by decide +kernel
theorem dX5_readStorm_41 : decode cX5_readStorm 41 = .ok (.getfield 32, 3) := by decide +kernel
theorem dX5_readStorm_44 : decode cX5_readStorm 44 = .ok (.getfield 140, 3) := by decide +kernel
theorem dX5_readStorm_47 : decode cX5_readStorm 47 = .ok (.aload_n 0, 1) := by decide +kernel
theorem dX5_readStorm_48 : decode cX5_readStorm 48 = .ok (.getfield 19, 3) := by decide +kernel
theorem dX5_readStorm_51 : decode cX5_readStorm 51 = .ok (.aload_n 0, 1) := by decide +kernel
theorem dX5_readStorm_52 : decode cX5_readStorm 52 = .ok (.iconst 0, 1) := by decide +kernel
theorem dX5_readStorm_53 : decode cX5_readStorm 53 = .ok (.bipush 7, 2) := by decide +kernel
theorem dX5_readStorm_55 : decode cX5_readStorm 55 = .ok (.invokevirtual 103, 3) := by decide +kernel
theorem dX5_readStorm_58 : decode cX5_readStorm 58 = .ok (.iastore, 1) := by decide +kernel
theorem dX5_readStorm_59 : decode cX5_readStorm 59 = .ok (.aload_n 0, 1) := by decide +kernel
theorem dX5_readStorm_60 : decode cX5_readStorm 60 = .ok (.iconst 0, 1) := by decide +kernel
theorem dX5_readStorm_61 : decode cX5_readStorm 61 = .ok (.bipush 47, 2) := by decide +kernel
theorem dX5_readStorm_63 : decode cX5_readStorm 63 = .ok (.invokevirtual 103, 3) := by decide +kernel
theorem dX5_readStorm_66 : decode cX5_readStorm 66 = .ok (.istore_n 1, 1) := by decide +kernel
theorem dX5_readStorm_67 : decode cX5_readStorm 67 = .ok (.aload_n 0, 1) := by decide +kernel
theorem dX5_readStorm_68 : decode cX5_readStorm 68 = .ok (.getfield 32, 3) := by decide +kernel
theorem dX5_readStorm_71 : decode cX5_readStorm 71 = .ok (.getfield 143, 3) := by decide +kernel
theorem dX5_readStorm_74 : decode cX5_readStorm 74 = .ok (.aload_n 0, 1) := by decide +kernel
theorem dX5_readStorm_75 : decode cX5_readStorm 75 = .ok (.getfield 19, 3) := by decide +kernel
theorem dX5_readStorm_78 : decode cX5_readStorm 78 = .ok (.iload_n 1, 1) := by decide +kernel
theorem dX5_readStorm_79 : decode cX5_readStorm 79 = .ok (.iastore, 1) := by decide +kernel
theorem dX5_readStorm_80 : decode cX5_readStorm 80 = .ok (.aload_n 0, 1) := by decide +kernel
theorem dX5_readStorm_81 : decode cX5_readStorm 81 = .ok (.getfield 32, 3) := by decide +kernel
theorem dX5_readStorm_84 : decode cX5_readStorm 84 = .ok (.getfield 146, 3) := by decide +kernel
theorem dX5_readStorm_87 : decode cX5_readStorm 87 = .ok (.aload_n 0, 1) := by decide +kernel
theorem dX5_readStorm_88 : decode cX5_readStorm 88 = .ok (.getfield 19, 3) := by decide +kernel
theorem dX5_readStorm_91 : decode cX5_readStorm 91 = .ok (.aload_n 0, 1) := by decide +kernel
theorem dX5_readStorm_92 : decode cX5_readStorm 92 = .ok (.iload_n 1, 1) := by decide +kernel
theorem dX5_readStorm_93 : decode cX5_readStorm 93 = .ok (.iconst 1, 1) := by decide +kernel
theorem dX5_readStorm_94 : decode cX5_readStorm 94 = .ok (.iadd, 1) := by decide +kernel
theorem dX5_readStorm_95 : decode cX5_readStorm 95 = .ok (.bipush 48, 2) := by decide +kernel
theorem dX5_readStorm_97 : decode cX5_readStorm 97 = .ok (.invokevirtual 103, 3) := by decide +kernel
theorem dX5_readStorm_100 : decode cX5_readStorm 100 = .ok (.iastore, 1) := by decide +kernel
theorem dX5_readStorm_101 : decode cX5_readStorm 101 = .ok (.aload_n 0, 1) := by decide +kernel
theorem dX5_readStorm_102 : decode cX5_readStorm 102 = .ok (.getfield 32, 3) := by decide +kernel
theorem dX5_readStorm_105 : decode cX5_readStorm 105 = .ok (.getfield 149, 3) := by decide +kernel
theorem dX5_readStorm_108 : decode cX5_readStorm 108 = .ok (.aload_n 0, 1) := by decide +kernel
theorem dX5_readStorm_109 : decode cX5_readStorm 109 = .ok (.getfield 19, 3) := by decide +kernel
theorem dX5_readStorm_112 : decode cX5_readStorm 112 = .ok (.aload_n 0, 1) := by decide +kernel
theorem dX5_readStorm_113 : decode cX5_readStorm 113 = .ok (.iconst 0, 1) := by decide +kernel
theorem dX5_readStorm_114 : decode cX5_readStorm 114 = .ok (.bipush 99, 2) := by decide +kernel
theorem dX5_readStorm_116 : decode cX5_readStorm 116 = .ok (.invokevirtual 103, 3) := by decide +kernel
theorem dX5_readStorm_119 : decode cX5_readStorm 119 = .ok (.iastore, 1) := by decide +kernel
theorem dX5_readStorm_120 : decode cX5_readStorm 120 = .ok (.aload_n 0, 1) := by decide +kernel
theorem dX5_readStorm_121 : decode cX5_readStorm 121 = .ok (.invokevirtual 123, 3) := by decide +kernel
theorem dX5_readStorm_124 : decode cX5_readStorm 124 = .ok (.aload_n 0, 1) := by decide +kernel
theorem dX5_readStorm_125 : decode cX5_readStorm 125 = .ok (.dup, 1) := by decide +kernel
theorem dX5_readStorm_126 : decode cX5_readStorm 126 = .ok (.getfield 19, 3) := by decide +kernel
theorem dX5_readStorm_129 : decode cX5_readStorm 129 = .ok (.iconst 1, 1) := by decide +kernel
theorem dX5_readStorm_130 : decode cX5_readStorm 130 = .ok (.iadd, 1) := by decide +kernel
theorem dX5_readStorm_131 : decode cX5_readStorm 131 = .ok (.putfield 19, 3) := by decide +kernel
theorem dX5_readStorm_134 : decode cX5_readStorm 134 = .ok (.return_, 1) := by decide +kernel
theorem dX5_readNumber_0 : decode cX5_readNumber 0 = .ok (.aload_n 0, 1) := by decide +kernel
theorem dX5_readNumber_1 : decode cX5_readNumber 1 = .ok (.getfield 28, 3) := by decide +kernel
theorem dX5_readNumber_4 : decode cX5_readNumber 4 = .ok (.getfield 61, 3) := by decide +kernel
theorem dX5_readNumber_7 : decode cX5_readNumber 7 = .ok (.iconst 2, 1) := by decide +kernel
theorem dX5_readNumber_8 : decode cX5_readNumber 8 = .ok (.if_icmp .eq 11, 3) := by decide +kernel
theorem dX5_readNumber_11 : decode cX5_readNumber 11 = .ok (.aload_n 0, 1) := by decide +kernel
theorem dX5_readNumber_12 : decode cX5_readNumber 12 = .ok (.iconst 1, 1) := by decide +kernel
theorem dX5_readNumber_13 : decode cX5_readNumber 13 = .ok (.invokevirtual 83, 3) := by decide +kernel
theorem dX5_readNumber_16 : decode cX5_readNumber 16 = .ok (.goto 34, 3) := by decide +kernel
theorem dX5_readNumber_19 : decode cX5_readNumber 19 = .ok (.aload_n 0, 1) := by decide +kernel
theorem dX5_readNumber_20 : decode cX5_readNumber 20 = .ok (.getfield 28, 3) := by decide +kernel
theorem dX5_readNumber_23 : decode cX5_readNumber 23 = .ok (.getfield 152, 3) := by decide +kernel
theorem dX5_readNumber_26 : decode cX5_readNumber 26 = .ok (.iload_n 1, 1) := by decide +kernel
theorem dX5_readNumber_27 : decode cX5_readNumber 27 = .ok (.i2l, 1) := by decide +kernel
theorem dX5_readNumber_28 : decode cX5_readNumber 28 = .ok (.lcmp, 1) := by decide +kernel
theorem dX5_readNumber_29 : decode cX5_readNumber 29 = .ok (.ifCond .lt 16, 3) := by decide +kernel
theorem dX5_readNumber_32 : decode cX5_readNumber 32 = .ok (.aload_n 0, 1) := by decide +kernel
theorem dX5_readNumber_33 : decode cX5_readNumber 33 = .ok (.getfield 28, 3) := by decide +kernel
theorem dX5_readNumber_36 : decode cX5_readNumber 36 = .ok (.getfield 152, 3) := by decide +kernel
theorem dX5_readNumber_39 : decode cX5_readNumber 39 = .ok (.iload_n 2, 1) := by decide +kernel
theorem dX5_readNumber_40 : decode cX5_readNumber 40 = .ok (.i2l, 1) := by decide +kernel
theorem dX5_readNumber_41 : decode cX5_readNumber 41 = .ok (.lcmp, 1) := by decide +kernel
theorem dX5_readNumber_42 : decode cX5_readNumber 42 = .ok (.ifCond .le 8, 3) := by decide +kernel
theorem dX5_readNumber_45 : decode cX5_readNumber 45 = .ok (.aload_n 0, 1) := by decide +kernel
theorem dX5_readNumber_46 : decode cX5_readNumber 46 = .ok (.iconst 2, 1) := by decide +kernel
theorem dX5_readNumber_47 : decode cX5_readNumber 47 = .ok (.invokevirtual 83, 3) := by decide +kernel
theorem dX5_readNumber_50 : decode cX5_readNumber 50 = .ok (.aload_n 0, 1) := by decide +kernel
theorem dX5_readNumber_51 : decode cX5_readNumber 51 = .ok (.getfield 22, 3) := by decide +kernel
theorem dX5_readNumber_54 : decode cX5_readNumber 54 = .ok (.ifCond .eq 5, 3) := by decide +kernel
theorem dX5_readNumber_57 : decode cX5_readNumber 57 = .ok (.iload_n 1, 1) := by decide +kernel
theorem dX5_readNumber_58 : decode cX5_readNumber 58 = .ok (.ireturn, 1) := by decide +kernel
theorem dX5_readNumber_59 : decode cX5_readNumber 59 = .ok (.aload_n 0, 1) := by decide +kernel
theorem dX5_readNumber_60 : decode cX5_readNumber 60 = .ok (.getfield 28, 3) := by decide +kernel
theorem dX5_readNumber_63 : decode cX5_readNumber 63 = .ok (.getfield 152, 3) := by decide +kernel
theorem dX5_readNumber_66 : decode cX5_readNumber 66 = .ok (.l2i, 1) := by decide +kernel
theorem dX5_readNumber_67 : decode cX5_readNumber 67 = .ok (.istore_n 3, 1) := by decide +kernel
theorem dX5_readNumber_68 : decode cX5_readNumber 68 = .ok (.aload_n 0, 1) := by decide +kernel
theorem dX5_readNumber_69 : decode cX5_readNumber 69 = .ok (.getfield 28, 3) := by decide +kernel
theorem dX5_readNumber_72 : decode cX5_readNumber 72 = .ok (.invokevirtual 100, 3) := by decide +kernel
theorem dX5_readNumber_75 : decode cX5_readNumber 75 = .ok (.iload_n 3, 1) := by decide +kernel
theorem dX5_readNumber_76 : decode cX5_readNumber 76 = .ok (.ireturn, 1) := by decide +kernel
theorem dX5_readSemicolon_0 : decode cX5_readSemicolon 0 = .ok (.aload_n 0, 1) := by decide +kernel
theorem dX5_readSemicolon_1 : decode cX5_readSemicolon 1 = .ok (.getfield 28, 3) := by decide +kernel
theorem dX5_readSemicolon_4 : decode cX5_readSemicolon 4 = .ok (.getfield 61, 3) := by decide +kernel
theorem dX5_readSemicolon_7 : decode cX5_readSemicolon 7 = .ok (.iconst 4, 1) := by decide +kernel
theorem dX5_readSemicolon_8 : decode cX5_readSemicolon 8 = .ok (.if_icmp .eq 8, 3) := by decide +kernel
theorem dX5_readSemicolon_11 : decode cX5_readSemicolon 11 = .ok (.aload_n 0, 1) := by decide +kernel
theorem dX5_readSemicolon_12 : decode cX5_readSemicolon 12 = .ok (.iconst 1, 1) := by decide +kernel
theorem dX5_readSemicolon_13 : decode cX5_readSemicolon 13 = .ok (.invokevirtual 83, 3) := by decide +kernel
theorem dX5_readSemicolon_16 : decode cX5_readSemicolon 16 = .ok (.aload_n 0, 1) := by decide +kernel
theorem dX5_readSemicolon_17 : decode cX5_readSemicolon 17 = .ok (.getfield 22, 3) := by decide +kernel
theorem dX5_readSemicolon_20 : decode cX5_readSemicolon 20 = .ok (.ifCond .ne 10, 3) := by decide +kernel
theorem dX5_readSemicolon_23 : decode cX5_readSemicolon 23 = .ok (.aload_n 0, 1) := by decide +kernel
theorem dX5_readSemicolon_24 : decode cX5_readSemicolon 24 = .ok (.getfield 28, 3) := by decide +kernel
theorem dX5_readSemicolon_27 : decode cX5_readSemicolon 27 = .ok (.invokevirtual 100, 3) := by decide +kernel
theorem dX5_readSemicolon_30 : decode cX5_readSemicolon 30 = .ok (.return_, 1) := by decide +kernel
theorem dX5_stopAt_0 : decode cX5_stopAt 0 = .ok (.aload_n 0, 1) := by decide +kernel
theorem dX5_stopAt_1 : decode cX5_stopAt 1 = .ok (.getfield 22, 3) := by decide +kernel
theorem dX5_stopAt_4 : decode cX5_stopAt 4 = .ok (.ifCond .ne 19, 3) := by decide +kernel
theorem dX5_stopAt_7 : decode cX5_stopAt 7 = .ok (.aload_n 0, 1) := by decide +kernel
theorem dX5_stopAt_8 : decode cX5_stopAt 8 = .ok (.iload_n 1, 1) := by decide +kernel
theorem dX5_stopAt_9 : decode cX5_stopAt 9 = .ok (.putfield 22, 3) := by decide +kernel
theorem dX5_stopAt_12 : decode cX5_stopAt 12 = .ok (.aload_n 0, 1) := by decide +kernel
theorem dX5_stopAt_13 : decode cX5_stopAt 13 = .ok (.aload_n 0, 1) := by decide +kernel
theorem dX5_stopAt_14 : decode cX5_stopAt 14 = .ok (.getfield 28, 3) := by decide +kernel
theorem dX5_stopAt_17 : decode cX5_stopAt 17 = .ok (.getfield 156, 3) := by decide +kernel
theorem dX5_stopAt_20 : decode cX5_stopAt 20 = .ok (.putfield 25, 3) := by decide +kernel
theorem dX5_stopAt_23 : decode cX5_stopAt 23 = .ok (.return_, 1) := by decide +kernel
theorem dX6_init_0 : decode cX6_init 0 = .ok (.aload_n 0, 1) := by decide +kernel
theorem dX6_init_1 : decode cX6_init 1 = .ok (.invokespecial 3, 3) := by decide +kernel
theorem dX6_init_4 : decode cX6_init 4 = .ok (.aload_n 0, 1) := by decide +kernel
theorem dX6_init_5 : decode cX6_init 5 = .ok (.sipush 384, 3) := by decide +kernel
theorem dX6_init_8 : decode cX6_init 8 = .ok (.newarray .int, 2) := by decide +kernel
theorem dX6_init_10 : decode cX6_init 10 = .ok (.putfield 9, 3) := by decide +kernel
theorem dX6_init_13 : decode cX6_init 13 = .ok (.aload_n 0, 1) := by decide +kernel
theorem dX6_init_14 : decode cX6_init 14 = .ok (.bipush 20, 2) := by decide +kernel
theorem dX6_init_16 : decode cX6_init 16 = .ok (.newarray .int, 2) := by decide +kernel
theorem dX6_init_18 : decode cX6_init 18 = .ok (.putfield 15, 3) := by decide +kernel
theorem dX6_init_21 : decode cX6_init 21 = .ok (.aload_n 0, 1) := by decide +kernel
theorem dX6_init_22 : decode cX6_init 22 = .ok (.iconst 5, 1) := by decide +kernel
theorem dX6_init_23 : decode cX6_init 23 = .ok (.newarray .int, 2) := by decide +kernel
theorem dX6_init_25 : decode cX6_init 25 = .ok (.putfield 18, 3) := by decide +kernel
theorem dX6_init_28 : decode cX6_init 28 = .ok (.aload_n 0, 1) := by decide +kernel
theorem dX6_init_29 : decode cX6_init 29 = .ok (.iconst 5, 1) := by decide +kernel
theorem dX6_init_30 : decode cX6_init 30 = .ok (.newarray .int, 2) := by decide +kernel
theorem dX6_init_32 : decode cX6_init 32 = .ok (.putfield 21, 3) := by decide +kernel
theorem dX6_init_35 : decode cX6_init 35 = .ok (.aload_n 0, 1) := by decide +kernel
theorem dX6_init_36 : decode cX6_init 36 = .ok (.iconst 5, 1) := by decide +kernel
theorem dX6_init_37 : decode cX6_init 37 = .ok (.newarray .int, 2) := by decide +kernel
theorem dX6_init_39 : decode cX6_init 39 = .ok (.putfield 24, 3) := by decide +kernel
theorem dX6_init_42 : decode cX6_init 42 = .ok (.aload_n 0, 1) := by decide +kernel
theorem dX6_init_43 : decode cX6_init 43 = .ok (.iconst 0, 1) := by decide +kernel
theorem dX6_init_44 : decode cX6_init 44 = .ok (.putfield 27, 3) := by decide +kernel
theorem dX6_init_47 : decode cX6_init 47 = .ok (.aload_n 0, 1) := by decide +kernel
theorem dX6_init_48 : decode cX6_init 48 = .ok (.ldc 31, 2) := by decide +kernel
theorem dX6_init_50 : decode cX6_init 50 = .ok (.putfield 32, 3) := by decide +kernel
theorem dX6_init_53 : decode cX6_init 53 = .ok (.aload_n 0, 1) := by decide +kernel
theorem dX6_init_54 : decode cX6_init 54 = .ok (.aload_n 1, 1) := by decide +kernel
theorem dX6_init_55 : decode cX6_init 55 = .ok (.putfield 35, 3) := by decide +kernel
theorem dX6_init_58 : decode cX6_init 58 = .ok (.aload_n 0, 1) := by decide +kernel
theorem dX6_init_59 : decode cX6_init 59 = .ok (.aload_n 2, 1) := by decide +kernel
theorem dX6_init_60 : decode cX6_init 60 = .ok (.putfield 39, 3) := by decide +kernel
theorem dX6_init_63 : decode cX6_init 63 = .ok (.return_, 1) := by decide +kernel
theorem dX6_findChoices_0 : decode cX6_findChoices 0 = .ok (.iconst 0, 1) := by decide +kernel
theorem dX6_findChoices_1 : decode cX6_findChoices 1 = .ok (.istore_n 2, 1) := by decide +kernel
theorem dX6_findChoices_2 : decode cX6_findChoices 2 = .ok (.iload_n 2, 1) := by decide +kernel
theorem dX6_findChoices_3 : decode cX6_findChoices 3 = .ok (.sipush 384, 3) := by decide +kernel
theorem dX6_findChoices_6 : decode cX6_findChoices 6 = .ok (.if_icmp .ge 34, 3) := by decide +kernel
theorem dX6_findChoices_9 : decode cX6_findChoices 9 = .ok (.aload_n 0, 1) := by decide +kernel
theorem dX6_findChoices_10 : decode cX6_findChoices 10 = .ok (.getfield 9, 3) := by decide +kernel
theorem dX6_findChoices_13 : decode cX6_findChoices 13 = .ok (.iload_n 2, 1) := by decide +kernel
theorem dX6_findChoices_14 : decode cX6_findChoices 14 = .ok (.aload_n 0, 1) := by decide +kernel
theorem dX6_findChoices_15 : decode cX6_findChoices 15 = .ok (.getfield 39, 3) := by decide +kernel
theorem dX6_findChoices_18 : decode cX6_findChoices 18 = .ok (.getfield 43, 3) := by decide +kernel
theorem dX6_findChoices_21 : decode cX6_findChoices 21 = .ok (.iload_n 2, 1) := by decide +kernel
theorem dX6_findChoices_22 : decode cX6_findChoices 22 = .ok (.iaload, 1) := by decide +kernel
theorem dX6_findChoices_23 : decode cX6_findChoices 23 = .ok (.aload_n 0, 1) := by decide +kernel
theorem dX6_findChoices_24 : decode cX6_findChoices 24 = .ok (.getfield 39, 3) := by decide +kernel
theorem dX6_findChoices_27 : decode cX6_findChoices 27 = .ok (.getfield 48, 3) := by decide +kernel
theorem dX6_findChoices_30 : decode cX6_findChoices 30 = .ok (.iload_n 2, 1) := by decide +kernel
theorem dX6_findChoices_31 : decode cX6_findChoices 31 = .ok (.iaload, 1) := by decide +kernel
theorem dX6_findChoices_32 : decode cX6_findChoices 32 = .ok (.isub, 1) := by decide +kernel
theorem dX6_findChoices_33 : decode cX6_findChoices 33 = .ok (.iastore, 1) := by decide +kernel
theorem dX6_findChoices_34 : decode cX6_findChoices 34 = .ok (.iinc 2 1, 3) := by decide +kernel
theorem dX6_findChoices_37 : decode cX6_findChoices 37 = .ok (.goto (-35), 3) := by decide +kernel
theorem dX6_findChoices_40 : decode cX6_findChoices 40 = .ok (.aload_n 0, 1) := by decide +kernel
theorem dX6_findChoices_41 : decode cX6_findChoices 41 = .ok (.iconst 0, 1) := by decide +kernel
theorem dX6_findChoices_42 : decode cX6_findChoices 42 = .ok (.putfield 27, 3) := by decide +kernel
theorem dX6_findChoices_45 : decode cX6_findChoices 45 = .ok (.iconst 0, 1) := by decide +kernel
theorem dX6_findChoices_46 : decode cX6_findChoices 46 = .ok (.istore_n 2, 1) := by decide +kernel
theorem dX6_findChoices_47 : decode cX6_findChoices 47 = .ok (.iload_n 2, 1) := by decide +kernel
theorem dX6_findChoices_48 : decode cX6_findChoices 48 = .ok (.aload_n 0, 1) := by decide +kernel
theorem dX6_findChoices_49 : decode cX6_findChoices 49 = .ok (.getfield 35, 3) := by decide +kernel
theorem dX6_findChoices_52 : decode cX6_findChoices 52 = .ok (.getfield 51, 3) := by decide +kernel
theorem dX6_findChoices_55 : decode cX6_findChoices 55 = .ok (.if_icmp .ge 73, 3) := by decide +kernel
theorem dX6_findChoices_58 : decode cX6_findChoices 58 = .ok (.aload_n 0, 1) := by decide +kernel
theorem dX6_findChoices_59 : decode cX6_findChoices 59 = .ok (.getfield 27, 3) := by decide +kernel
theorem dX6_findChoices_62 : decode cX6_findChoices 62 = .ok (.iconst 5, 1) := by decide +kernel
theorem dX6_findChoices_63 : decode cX6_findChoices 63 = .ok (.if_icmp .ge 65, 3) := by decide +kernel
theorem dX6_findChoices_66 : decode cX6_findChoices 66 = .ok (.iload_n 1, 1) := by decide +kernel
theorem dX6_findChoices_67 : decode cX6_findChoices 67 = .ok (.iload_n 2, 1) := by decide +kernel
theorem dX6_findChoices_68 : decode cX6_findChoices 68 = .ok (.ishr, 1) := by decide +kernel
theorem dX6_findChoices_69 : decode cX6_findChoices 69 = .ok (.iconst 1, 1) := by decide +kernel
theorem dX6_findChoices_70 : decode cX6_findChoices 70 = .ok (.iand, 1) := by decide +kernel
theorem dX6_findChoices_71 : decode cX6_findChoices 71 = .ok (.iconst 1, 1) := by decide +kernel
theorem dX6_findChoices_72 : decode cX6_findChoices 72 = .ok (.if_icmp .ne 50, 3) := by decide +kernel
theorem dX6_findChoices_75 : decode cX6_findChoices 75 = .ok (.aload_n 0, 1) := by decide +kernel
theorem dX6_findChoices_76 : decode cX6_findChoices 76 = .ok (.getfield 35, 3) := by decide +kernel
theorem dX6_findChoices_79 : decode cX6_findChoices 79 = .ok (.getfield 56, 3) := by decide +kernel
theorem dX6_findChoices_82 : decode cX6_findChoices 82 = .ok (.iload_n 2, 1) := by decide +kernel
theorem dX6_findChoices_83 : decode cX6_findChoices 83 = .ok (.aaload, 1) := by decide +kernel
theorem dX6_findChoices_84 : decode cX6_findChoices 84 = .ok (.astore_n 3, 1) := by decide +kernel
theorem dX6_findChoices_85 : decode cX6_findChoices 85 = .ok (.aload_n 0, 1) := by decide +kernel
theorem dX6_findChoices_86 : decode cX6_findChoices 86 = .ok (.aload_n 3, 1) := by decide +kernel
theorem dX6_findChoices_87 : decode cX6_findChoices 87 = .ok (.aload_n 3, 1) := by decide +kernel
theorem dX6_findChoices_88 : decode cX6_findChoices 88 = .ok (.getfield 60, 3) := by decide +kernel
theorem dX6_findChoices_91 : decode cX6_findChoices 91 = .ok (.aload_n 3, 1) := by decide +kernel
theorem dX6_findChoices_92 : decode cX6_findChoices 92 = .ok (.getfield 65, 3) := by decide +kernel
theorem dX6_findChoices_95 : decode cX6_findChoices 95 = .ok (.aload_n 3, 1) := by decide +kernel
theorem dX6_findChoices_96 : decode cX6_findChoices 96 = .ok (.getfield 68, 3) := by decide +kernel
theorem dX6_findChoices_99 : decode cX6_findChoices 99 = .ok (.invokevirtual 71, 3) := by decide +kernel
theorem dX6_findChoices_102 : decode cX6_findChoices 102 = .ok (.aload_n 0, 1) := by decide +kernel
theorem dX6_findChoices_103 : decode cX6_findChoices 103 = .ok (.getfield 18, 3) := by decide +kernel
theorem dX6_findChoices_106 : decode cX6_findChoices 106 = .ok (.aload_n 0, 1) := by decide +kernel
theorem dX6_findChoices_107 : decode cX6_findChoices 107 = .ok (.getfield 27, 3) := by decide +kernel
theorem dX6_findChoices_110 : decode cX6_findChoices 110 = .ok (.iload_n 2, 1) := by decide +kernel
theorem dX6_findChoices_111 : decode cX6_findChoices 111 = .ok (.iastore, 1) := by decide +kernel
theorem dX6_findChoices_112 : decode cX6_findChoices 112 = .ok (.aload_n 0, 1) := by decide +kernel
theorem dX6_findChoices_113 : decode cX6_findChoices 113 = .ok (.dup, 1) := by decide +kernel
theorem dX6_findChoices_114 : decode cX6_findChoices 114 = .ok (.getfield 27, 3) := by decide +kernel
theorem dX6_findChoices_117 : decode cX6_findChoices 117 = .ok (.iconst 1, 1) := by decide +kernel
theorem dX6_findChoices_118 : decode cX6_findChoices 118 = .ok (.iadd, 1) := by decide +kernel
theorem dX6_findChoices_119 : decode cX6_findChoices 119 = .ok (.putfield 27, 3) := by decide +kernel
theorem dX6_findChoices_122 : decode cX6_findChoices 122 = .ok (.iinc 2 1, 3) := by decide +kernel
theorem dX6_findChoices_125 : decode cX6_findChoices 125 = .ok (.goto (-78), 3) := by decide +kernel
theorem dX6_findChoices_128 : decode cX6_findChoices 128 = .ok (.aload_n 0, 1) := by decide +kernel
theorem dX6_findChoices_129 : decode cX6_findChoices 129 = .ok (.ldc 31, 2) := by decide +kernel
theorem dX6_findChoices_131 : decode cX6_findChoices 131 = .ok (.putfield 32, 3) := by decide +kernel
theorem dX6_findChoices_134 : decode cX6_findChoices 134 = .ok (.aload_n 0, 1) := by decide +kernel
theorem dX6_findChoices_135 : decode cX6_findChoices 135 = .ok (.iconst 0, 1) := by decide +kernel
theorem dX6_findChoices_136 : decode cX6_findChoices 136 = .ok (.iconst 0, 1) := by decide +kernel
theorem dX6_findChoices_137 : decode cX6_findChoices 137 = .ok (.invokevirtual 75, 3) := by decide +kernel
theorem dX6_findChoices_140 : decode cX6_findChoices 140 = .ok (.aload_n 0, 1) := by decide +kernel
theorem dX6_findChoices_141 : decode cX6_findChoices 141 = .ok (.getfield 32, 3) := by decide +kernel
theorem dX6_findChoices_144 : decode cX6_findChoices 144 = .ok (.ldc 31, 2) := by decide +kernel
theorem dX6_findChoices_146 : decode cX6_findChoices 146 = .ok (.if_icmp .ge 7, 3) := by decide +kernel
theorem dX6_findChoices_149 : decode cX6_findChoices 149 = .ok (.iconst 1, 1) := by decide +kernel
theorem dX6_findChoices_150 : decode cX6_findChoices 150 = .ok (.goto 4, 3) := by decide +kernel
theorem dX6_findChoices_153 : decode cX6_findChoices 153 = .ok (.iconst 0, 1) := by decide +kernel
theorem dX6_findChoices_154 : decode cX6_findChoices 154 = .ok (.ireturn, 1) := by decide +kernel
theorem dX6_takeChoices_0 : decode cX6_takeChoices 0 = .ok (.iconst 0, 1) := by decide +kernel
theorem dX6_takeChoices_1 : decode cX6_takeChoices 1 = .ok (.istore_n 1, 1) := by decide +kernel
theorem dX6_takeChoices_2 : decode cX6_takeChoices 2 = .ok (.iload_n 1, 1) := by decide +kernel
theorem dX6_takeChoices_3 : decode cX6_takeChoices 3 = .ok (.aload_n 0, 1) := by decide +kernel
theorem dX6_takeChoices_4 : decode cX6_takeChoices 4 = .ok (.getfield 27, 3) := by decide +kernel
theorem dX6_takeChoices_7 : decode cX6_takeChoices 7 = .ok (.if_icmp .ge 48, 3) := by decide +kernel
theorem dX6_takeChoices_10 : decode cX6_takeChoices 10 = .ok (.aload_n 0, 1) := by decide +kernel
theorem dX6_takeChoices_11 : decode cX6_takeChoices 11 = .ok (.getfield 35, 3) := by decide +kernel
theorem dX6_takeChoices_14 : decode cX6_takeChoices 14 = .ok (.getfield 56, 3) := by decide +kernel
theorem dX6_takeChoices_17 : decode cX6_takeChoices 17 = .ok (.aload_n 0, 1) := by decide +kernel
theorem dX6_takeChoices_18 : decode cX6_takeChoices 18 = .ok (.getfield 18, 3) := by decide +kernel
theorem dX6_takeChoices_21 : decode cX6_takeChoices 21 = .ok (.iload_n 1, 1) := by decide +kernel
theorem dX6_takeChoices_22 : decode cX6_takeChoices 22 = .ok (.iaload, 1) := by decide +kernel
theorem dX6_takeChoices_23 : decode cX6_takeChoices 23 = .ok (.aaload, 1) := by decide +kernel
theorem dX6_takeChoices_24 : decode cX6_takeChoices 24 = .ok (.astore_n 2, 1) := by decide +kernel
theorem dX6_takeChoices_25 : decode cX6_takeChoices 25 = .ok (.aload_n 2, 1) := by decide +kernel
theorem dX6_takeChoices_26 : decode cX6_takeChoices 26 = .ok (.aload_n 0, 1) := by decide +kernel
theorem dX6_takeChoices_27 : decode cX6_takeChoices 27 = .ok (.getfield 24, 3) := by decide +kernel
theorem dX6_takeChoices_30 : decode cX6_takeChoices 30 = .ok (.iload_n 1, 1) := by decide +kernel
theorem dX6_takeChoices_31 : decode cX6_takeChoices 31 = .ok (.iaload, 1) := by decide +kernel
theorem dX6_takeChoices_32 : decode cX6_takeChoices 32 = .ok (.iconst 5, 1) := by decide +kernel
theorem dX6_takeChoices_33 : decode cX6_takeChoices 33 = .ok (.idiv, 1) := by decide +kernel
theorem dX6_takeChoices_34 : decode cX6_takeChoices 34 = .ok (.putfield 60, 3) := by decide +kernel
theorem dX6_takeChoices_37 : decode cX6_takeChoices 37 = .ok (.aload_n 2, 1) := by decide +kernel
theorem dX6_takeChoices_38 : decode cX6_takeChoices 38 = .ok (.aload_n 0, 1) := by decide +kernel
theorem dX6_takeChoices_39 : decode cX6_takeChoices 39 = .ok (.getfield 24, 3) := by decide +kernel
theorem dX6_takeChoices_42 : decode cX6_takeChoices 42 = .ok (.iload_n 1, 1) := by decide +kernel
theorem dX6_takeChoices_43 : decode cX6_takeChoices 43 = .ok (.iaload, 1) := by decide +kernel
theorem dX6_takeChoices_44 : decode cX6_takeChoices 44 = .ok (.iconst 5, 1) := by decide +kernel
theorem dX6_takeChoices_45 : decode cX6_takeChoices 45 = .ok (.irem, 1) := by decide +kernel
theorem dX6_takeChoices_46 : decode cX6_takeChoices 46 = .ok (.putfield 65, 3) := by decide +kernel
theorem dX6_takeChoices_49 : decode cX6_takeChoices 49 = .ok (.iinc 1 1, 3) := by decide +kernel
theorem dX6_takeChoices_52 : decode cX6_takeChoices 52 = .ok (.goto (-50), 3) := by decide +kernel
theorem dX6_takeChoices_55 : decode cX6_takeChoices 55 = .ok (.aload_n 0, 1) := by decide +kernel
theorem dX6_takeChoices_56 : decode cX6_takeChoices 56 = .ok (.getfield 32, 3) := by decide +kernel
theorem dX6_takeChoices_59 : decode cX6_takeChoices 59 = .ok (.ireturn, 1) := by decide +kernel
theorem dX6_search_0 : decode cX6_search 0 = .ok (.iload_n 1, 1) := by decide +kernel
theorem dX6_search_1 : decode cX6_search 1 = .ok (.aload_n 0, 1) := by decide +kernel
theorem dX6_search_2 : decode cX6_search 2 = .ok (.getfield 27, 3) := by decide +kernel
theorem dX6_search_5 : decode cX6_search 5 = .ok (.if_icmp .lt 26, 3) := by decide +kernel
theorem dX6_search_8 : decode cX6_search 8 = .ok (.aload_n 0, 1) := by decide +kernel
theorem dX6_search_9 : decode cX6_search 9 = .ok (.iload_n 2, 1) := by decide +kernel
theorem dX6_search_10 : decode cX6_search 10 = .ok (.putfield 32, 3) := by decide +kernel
theorem dX6_search_13 : decode cX6_search 13 = .ok (.aload_n 0, 1) := by decide +kernel
theorem dX6_search_14 : decode cX6_search 14 = .ok (.getfield 21, 3) := by decide +kernel
theorem dX6_search_17 : decode cX6_search 17 = .ok (.iconst 0, 1) := by decide +kernel
theorem dX6_search_18 : decode cX6_search 18 = .ok (.aload_n 0, 1) := by decide +kernel
theorem dX6_search_19 : decode cX6_search 19 = .ok (.getfield 24, 3) := by decide +kernel
theorem dX6_search_22 : decode cX6_search 22 = .ok (.iconst 0, 1) := by decide +kernel
theorem dX6_search_23 : decode cX6_search 23 = .ok (.aload_n 0, 1) := by decide +kernel
theorem dX6_search_24 : decode cX6_search 24 = .ok (.getfield 27, 3) := by decide +kernel
theorem dX6_search_27 : decode cX6_search 27 = .ok (.invokestatic 79, 3) := by decide +kernel
theorem dX6_search_30 : decode cX6_search 30 = .ok (.return_, 1) := by decide +kernel
theorem dX6_search_31 : decode cX6_search 31 = .ok (.iload_n 2, 1) := by decide +kernel
theorem dX6_search_32 : decode cX6_search 32 = .ok (.aload_n 0, 1) := by decide +kernel
theorem dX6_search_33 : decode cX6_search 33 = .ok (.iload_n 1, 1) := by decide +kernel
theorem dX6_search_34 : decode cX6_search 34 = .ok (.invokevirtual 85, 3) := by decide +kernel
theorem dX6_search_37 : decode cX6_search 37 = .ok (.iadd, 1) := by decide +kernel
theorem dX6_search_38 : decode cX6_search 38 = .ok (.aload_n 0, 1) := by decide +kernel
theorem dX6_search_39 : decode cX6_search 39 = .ok (.getfield 32, 3) := by decide +kernel
theorem dX6_search_42 : decode cX6_search 42 = .ok (.if_icmp .lt 4, 3) := by decide +kernel
theorem dX6_search_45 : decode cX6_search 45 = .ok (.return_, 1) := by decide +kernel
theorem dX6_search_46 : decode cX6_search 46 = .ok (.aload_n 0, 1) := by decide +kernel
theorem dX6_search_47 : decode cX6_search 47 = .ok (.getfield 35, 3) := by decide +kernel
theorem dX6_search_50 : decode cX6_search 50 = .ok (.getfield 56, 3) := by decide +kernel
theorem dX6_search_53 : decode cX6_search 53 = .ok (.aload_n 0, 1) := by decide +kernel
theorem dX6_search_54 : decode cX6_search 54 = .ok (.getfield 18, 3) := by decide +kernel
theorem dX6_search_57 : decode cX6_search 57 = .ok (.iload_n 1, 1) := by decide +kernel
theorem dX6_search_58 : decode cX6_search 58 = .ok (.iaload, 1) := by decide +kernel
theorem dX6_search_59 : decode cX6_search 59 = .ok (.aaload, 1) := by decide +kernel
theorem dX6_search_60 : decode cX6_search 60 = .ok (.astore_n 3, 1) := by decide +kernel
theorem dX6_search_61 : decode cX6_search 61 = .ok (.iconst 0, 1) := by decide +kernel
theorem dX6_search_62 : decode cX6_search 62 = .ok (.istore 4, 2) := by decide +kernel
theorem dX6_search_64 : decode cX6_search 64 = .ok (.iload 4, 2) := by decide +kernel
theorem dX6_search_66 : decode cX6_search 66 = .ok (.aload_n 3, 1) := by decide +kernel
theorem dX6_search_67 : decode cX6_search 67 = .ok (.getfield 89, 3) := by decide +kernel
theorem dX6_search_70 : decode cX6_search 70 = .ok (.iconst 5, 1) := by decide +kernel
theorem dX6_search_71 : decode cX6_search 71 = .ok (.imul, 1) := by decide +kernel
theorem dX6_search_72 : decode cX6_search 72 = .ok (.if_icmp .ge 98, 3) := by decide +kernel
theorem dX6_search_75 : decode cX6_search 75 = .ok (.iload 4, 2) := by decide +kernel
theorem dX6_search_77 : decode cX6_search 77 = .ok (.iconst 5, 1) := by decide +kernel
theorem dX6_search_78 : decode cX6_search 78 = .ok (.idiv, 1) := by decide +kernel
theorem dX6_search_79 : decode cX6_search 79 = .ok (.istore 5, 2) := by decide +kernel
theorem dX6_search_81 : decode cX6_search 81 = .ok (.iload 4, 2) := by decide +kernel
theorem dX6_search_83 : decode cX6_search 83 = .ok (.iconst 5, 1) := by decide +kernel
theorem dX6_search_84 : decode cX6_search 84 = .ok (.irem, 1) := by decide +kernel
theorem dX6_search_85 : decode cX6_search 85 = .ok (.istore 6, 2) := by decide +kernel
theorem dX6_search_87 : decode cX6_search 87 = .ok (.iload_n 2, 1) := by decide +kernel
theorem dX6_search_88 : decode cX6_search 88 = .ok (.aload_n 3, 1) := by decide +kernel
theorem dX6_search_89 : decode cX6_search 89 = .ok (.iload 5, 2) := by decide +kernel
theorem dX6_search_91 : decode cX6_search 91 = .ok (.iload 6, 2) := by decide +kernel
theorem dX6_search_93 : decode cX6_search 93 = .ok (.invokevirtual 92, 3) := by decide +kernel
theorem dX6_search_96 : decode cX6_search 96 = .ok (.iadd, 1) := by decide +kernel
theorem dX6_search_97 : decode cX6_search 97 = .ok (.istore 7, 2) := by decide +kernel
theorem dX6_search_99 : decode cX6_search 99 = .ok (.iload 7, 2) := by decide +kernel
theorem dX6_search_101 : decode cX6_search 101 = .ok (.aload_n 0, 1) := by decide +kernel
theorem dX6_search_102 : decode cX6_search 102 = .ok (.getfield 32, 3) := by decide +kernel
theorem dX6_search_105 : decode cX6_search 105 = .ok (.if_icmp .ge 59, 3) := by decide +kernel
theorem dX6_search_108 : decode cX6_search 108 = .ok (.aload_n 0, 1) := by decide +kernel
theorem dX6_search_109 : decode cX6_search 109 = .ok (.aload_n 3, 1) := by decide +kernel
theorem dX6_search_110 : decode cX6_search 110 = .ok (.iload 5, 2) := by decide +kernel
theorem dX6_search_112 : decode cX6_search 112 = .ok (.iload 6, 2) := by decide +kernel
theorem dX6_search_114 : decode cX6_search 114 = .ok (.invokevirtual 96, 3) := by decide +kernel
theorem dX6_search_117 : decode cX6_search 117 = .ok (.ifCond .eq 47, 3) := by decide +kernel
theorem dX6_search_120 : decode cX6_search 120 = .ok (.aload_n 0, 1) := by decide +kernel
theorem dX6_search_121 : decode cX6_search 121 = .ok (.getfield 21, 3) := by decide +kernel
theorem dX6_search_124 : decode cX6_search 124 = .ok (.iload_n 1, 1) := by decide +kernel
theorem dX6_search_125 : decode cX6_search 125 = .ok (.iload 4, 2) := by decide +kernel
theorem dX6_search_127 : decode cX6_search 127 = .ok (.iastore, 1) := by decide +kernel
theorem dX6_search_128 : decode cX6_search 128 = .ok (.aload_n 0, 1) := by decide +kernel
theorem dX6_search_129 : decode cX6_search 129 = .ok (.aload_n 3, 1) := by decide +kernel
theorem dX6_search_130 : decode cX6_search 130 = .ok (.iload 5, 2) := by decide +kernel
theorem dX6_search_132 : decode cX6_search 132 = .ok (.iload 6, 2) := by decide +kernel
theorem dX6_search_134 : decode cX6_search 134 = .ok (.aload_n 3, 1) := by decide +kernel
theorem dX6_search_135 : decode cX6_search 135 = .ok (.getfield 68, 3) := by decide +kernel
theorem dX6_search_138 : decode cX6_search 138 = .ok (.ineg, 1) := by decide +kernel
theorem dX6_search_139 : decode cX6_search 139 = .ok (.invokevirtual 71, 3) := by decide +kernel
theorem dX6_search_142 : decode cX6_search 142 = .ok (.aload_n 0, 1) := by decide +kernel
theorem dX6_search_143 : decode cX6_search 143 = .ok (.iload_n 1, 1) := by decide +kernel
theorem dX6_search_144 : decode cX6_search 144 = .ok (.iconst 1, 1) := by decide +kernel
theorem dX6_search_145 : decode cX6_search 145 = .ok (.iadd, 1) := by decide +kernel
theorem dX6_search_146 : decode cX6_search 146 = .ok (.iload 7, 2) := by decide +kernel
theorem dX6_search_148 : decode cX6_search 148 = .ok (.invokevirtual 75, 3) := by decide +kernel
theorem dX6_search_151 : decode cX6_search 151 = .ok (.aload_n 0, 1) := by decide +kernel
theorem dX6_search_152 : decode cX6_search 152 = .ok (.aload_n 3, 1) := by decide +kernel
theorem dX6_search_153 : decode cX6_search 153 = .ok (.iload 5, 2) := by decide +kernel
theorem dX6_search_155 : decode cX6_search 155 = .ok (.iload 6, 2) := by decide +kernel
theorem dX6_search_157 : decode cX6_search 157 = .ok (.aload_n 3, 1) := by decide +kernel
theorem dX6_search_158 : decode cX6_search 158 = .ok (.getfield 68, 3) := by decide +kernel
theorem dX6_search_161 : decode cX6_search 161 = .ok (.invokevirtual 71, 3) := by decide +kernel
theorem dX6_search_164 : decode cX6_search 164 = .ok (.iinc 4 1, 3) := by decide +kernel
theorem dX6_search_167 : decode cX6_search 167 = .ok (.goto (-103), 3) := by decide +kernel
theorem dX6_search_170 : decode cX6_search 170 = .ok (.return_, 1) := by decide +kernel
theorem dX6_leastCostFrom_0 : decode cX6_leastCostFrom 0 = .ok (.iconst 0, 1) := by decide +kernel
theorem dX6_leastCostFrom_1 : decode cX6_leastCostFrom 1 = .ok (.istore_n 2, 1) := by decide +kernel
theorem dX6_leastCostFrom_2 : decode cX6_leastCostFrom 2 = .ok (.iload_n 1, 1) := by decide +kernel
theorem dX6_leastCostFrom_3 : decode cX6_leastCostFrom 3 = .ok (.istore_n 3, 1) := by decide +kernel
theorem dX6_leastCostFrom_4 : decode cX6_leastCostFrom 4 = .ok (.iload_n 3, 1) := by decide +kernel
theorem dX6_leastCostFrom_5 : decode cX6_leastCostFrom 5 = .ok (.aload_n 0, 1) := by decide +kernel
theorem dX6_leastCostFrom_6 : decode cX6_leastCostFrom 6 = .ok (.getfield 27, 3) := by decide +kernel
theorem dX6_leastCostFrom_9 : decode cX6_leastCostFrom 9 = .ok (.if_icmp .ge 36, 3) := by decide +kernel
theorem dX6_leastCostFrom_12 : decode cX6_leastCostFrom 12 = .ok (.iload_n 2, 1) := by decide +kernel
theorem dX6_leastCostFrom_13 : decode cX6_leastCostFrom 13 = .ok (.ldc 31, 2) := by decide +kernel
theorem dX6_leastCostFrom_15 : decode cX6_leastCostFrom 15 = .ok (.if_icmp .ge 30, 3) := by decide +kernel
theorem dX6_leastCostFrom_18 : decode cX6_leastCostFrom 18 = .ok (.iload_n 2, 1) := by decide +kernel
theorem dX6_leastCostFrom_19 : decode cX6_leastCostFrom 19 = .ok (.aload_n 0, 1) := by decide +kernel
theorem dX6_leastCostFrom_20 : decode cX6_leastCostFrom 20 = .ok (.aload_n 0, 1) := by decide +kernel
theorem dX6_leastCostFrom_21 : decode cX6_leastCostFrom 21 = .ok (.getfield 35, 3) := by decide +kernel
theorem dX6_leastCostFrom_24 : decode cX6_leastCostFrom 24 = .ok (.getfield 56, 3) := by decide +kernel
theorem dX6_leastCostFrom_27 : decode cX6_leastCostFrom 27 = .ok (.aload_n 0, 1) := by decide +kernel
theorem dX6_leastCostFrom_28 : decode cX6_leastCostFrom 28 = .ok (.getfield 18, 3) := by decide +kernel
theorem dX6_leastCostFrom_31 : decode cX6_leastCostFrom 31 = .ok (.iload_n 3, 1) := by decide +kernel
theorem dX6_leastCostFrom_32 : decode cX6_leastCostFrom 32 = .ok (.iaload, 1) := by decide +kernel
theorem dX6_leastCostFrom_33 : decode cX6_leastCostFrom 33 = .ok (.aaload, 1) := by decide +kernel
theorem dX6_leastCostFrom_34 : decode cX6_leastCostFrom 34 = .ok (.invokevirtual 100, 3) := by decide +kernel
theorem dX6_leastCostFrom_37 : decode cX6_leastCostFrom 37 = .ok (.iadd, 1) := by decide +kernel
theorem dX6_leastCostFrom_38 : decode cX6_leastCostFrom 38 = .ok (.istore_n 2, 1) := by decide +kernel
theorem dX6_leastCostFrom_39 : decode cX6_leastCostFrom 39 = .ok (.iinc 3 1, 3) := by decide +kernel
theorem dX6_leastCostFrom_42 : decode cX6_leastCostFrom 42 = .ok (.goto (-38), 3) := by decide +kernel
theorem dX6_leastCostFrom_45 : decode cX6_leastCostFrom 45 = .ok (.iload_n 2, 1) := by decide +kernel
theorem dX6_leastCostFrom_46 : decode cX6_leastCostFrom 46 = .ok (.ireturn, 1) := by decide +kernel
theorem dX6_leastCostAlone_0 : decode cX6_leastCostAlone 0 = .ok (.ldc 31, 2) := by decide +kernel
theorem dX6_leastCostAlone_2 : decode cX6_leastCostAlone 2 = .ok (.istore_n 2, 1) := by decide +kernel
theorem dX6_leastCostAlone_3 : decode cX6_leastCostAlone 3 = .ok (.iconst 0, 1) := by decide +kernel
theorem dX6_leastCostAlone_4 : decode cX6_leastCostAlone 4 = .ok (.istore_n 3, 1) := by decide +kernel
theorem dX6_leastCostAlone_5 : decode cX6_leastCostAlone 5 = .ok (.iload_n 3, 1) := by decide +kernel
theorem dX6_leastCostAlone_6 : decode cX6_leastCostAlone 6 = .ok (.aload_n 1, 1) := by decide +kernel
theorem dX6_leastCostAlone_7 : decode cX6_leastCostAlone 7 = .ok (.getfield 89, 3) := by decide +kernel
theorem dX6_leastCostAlone_10 : decode cX6_leastCostAlone 10 = .ok (.if_icmp .ge 53, 3) := by decide +kernel
theorem dX6_leastCostAlone_13 : decode cX6_leastCostAlone 13 = .ok (.iconst 0, 1) := by decide +kernel
theorem dX6_leastCostAlone_14 : decode cX6_leastCostAlone 14 = .ok (.istore 4, 2) := by decide +kernel
theorem dX6_leastCostAlone_16 : decode cX6_leastCostAlone 16 = .ok (.iload 4, 2) := by decide +kernel
theorem dX6_leastCostAlone_18 : decode cX6_leastCostAlone 18 = .ok (.iconst 5, 1) := by decide +kernel
theorem dX6_leastCostAlone_19 : decode cX6_leastCostAlone 19 = .ok (.if_icmp .ge 38, 3) := by decide +kernel
theorem dX6_leastCostAlone_22 : decode cX6_leastCostAlone 22 = .ok (.aload_n 1, 1) := by decide +kernel
theorem dX6_leastCostAlone_23 : decode cX6_leastCostAlone 23 = .ok (.iload_n 3, 1) := by decide +kernel
theorem dX6_leastCostAlone_24 : decode cX6_leastCostAlone 24 = .ok (.iload 4, 2) := by decide +kernel
theorem dX6_leastCostAlone_26 : decode cX6_leastCostAlone 26 = .ok (.invokevirtual 92, 3) := by decide +kernel
theorem dX6_leastCostAlone_29 : decode cX6_leastCostAlone 29 = .ok (.istore 5, 2) := by decide +kernel
theorem dX6_leastCostAlone_31 : decode cX6_leastCostAlone 31 = .ok (.iload 5, 2) := by decide +kernel
theorem dX6_leastCostAlone_33 : decode cX6_leastCostAlone 33 = .ok (.iload_n 2, 1) := by decide +kernel
theorem dX6_leastCostAlone_34 : decode cX6_leastCostAlone 34 = .ok (.if_icmp .ge 17, 3) := by decide +kernel
theorem dX6_leastCostAlone_37 : decode cX6_leastCostAlone 37 = .ok (.aload_n 0, 1) := by decide +kernel
theorem dX6_leastCostAlone_38 : decode cX6_leastCostAlone 38 = .ok (.aload_n 1, 1) := by decide +kernel
theorem dX6_leastCostAlone_39 : decode cX6_leastCostAlone 39 = .ok (.iload_n 3, 1) := by decide +kernel
theorem dX6_leastCostAlone_40 : decode cX6_leastCostAlone 40 = .ok (.iload 4, 2) := by decide +kernel
theorem dX6_leastCostAlone_42 : decode cX6_leastCostAlone 42 = .ok (.invokevirtual 96, 3) := by decide +kernel
theorem dX6_leastCostAlone_45 : decode cX6_leastCostAlone 45 = .ok (.ifCond .eq 6, 3) := by decide +kernel
theorem dX6_leastCostAlone_48 : decode cX6_leastCostAlone 48 = .ok (.iload 5, 2) := by decide +kernel
theorem dX6_leastCostAlone_50 : decode cX6_leastCostAlone 50 = .ok (.istore_n 2, 1) := by decide +kernel
theorem dX6_leastCostAlone_51 : decode cX6_leastCostAlone 51 = .ok (.iinc 4 1, 3) := by decide +kernel
theorem dX6_leastCostAlone_54 : decode cX6_leastCostAlone 54 = .ok (.goto (-38), 3) := by decide +kernel
theorem dX6_leastCostAlone_57 : decode cX6_leastCostAlone 57 = .ok (.iinc 3 1, 3) := by decide +kernel
theorem dX6_leastCostAlone_60 : decode cX6_leastCostAlone 60 = .ok (.goto (-55), 3) := by decide +kernel
theorem dX6_leastCostAlone_63 : decode cX6_leastCostAlone 63 = .ok (.iload_n 2, 1) := by decide +kernel
theorem dX6_leastCostAlone_64 : decode cX6_leastCostAlone 64 = .ok (.ireturn, 1) := by decide +kernel
theorem dX6_fits_0 : decode cX6_fits 0 = .ok (.aload_n 1, 1) := by decide +kernel
theorem dX6_fits_1 : decode cX6_fits 1 = .ok (.iload_n 2, 1) := by decide +kernel
theorem dX6_fits_2 : decode cX6_fits 2 = .ok (.iload_n 3, 1) := by decide +kernel
theorem dX6_fits_3 : decode cX6_fits 3 = .ok (.aload_n 0, 1) := by decide +kernel
theorem dX6_fits_4 : decode cX6_fits 4 = .ok (.getfield 15, 3) := by decide +kernel
theorem dX6_fits_7 : decode cX6_fits 7 = .ok (.invokevirtual 104, 3) := by decide +kernel
theorem dX6_fits_10 : decode cX6_fits 10 = .ok (.istore 4, 2) := by decide +kernel
theorem dX6_fits_12 : decode cX6_fits 12 = .ok (.iconst 0, 1) := by decide +kernel
theorem dX6_fits_13 : decode cX6_fits 13 = .ok (.istore 5, 2) := by decide +kernel
theorem dX6_fits_15 : decode cX6_fits 15 = .ok (.iload 5, 2) := by decide +kernel
theorem dX6_fits_17 : decode cX6_fits 17 = .ok (.iload 4, 2) := by decide +kernel
theorem dX6_fits_19 : decode cX6_fits 19 = .ok (.if_icmp .ge 30, 3) := by decide +kernel
theorem dX6_fits_22 : decode cX6_fits 22 = .ok (.aload_n 0, 1) := by decide +kernel
theorem dX6_fits_23 : decode cX6_fits 23 = .ok (.getfield 9, 3) := by decide +kernel
theorem dX6_fits_26 : decode cX6_fits 26 = .ok (.aload_n 0, 1) := by decide +kernel
theorem dX6_fits_27 : decode cX6_fits 27 = .ok (.getfield 15, 3) := by decide +kernel
theorem dX6_fits_30 : decode cX6_fits 30 = .ok (.iload 5, 2) := by decide +kernel
theorem dX6_fits_32 : decode cX6_fits 32 = .ok (.iaload, 1) := by decide +kernel
theorem dX6_fits_33 : decode cX6_fits 33 = .ok (.iaload, 1) := by decide +kernel
theorem dX6_fits_34 : decode cX6_fits 34 = .ok (.aload_n 1, 1) := by decide +kernel
theorem dX6_fits_35 : decode cX6_fits 35 = .ok (.getfield 68, 3) := by decide +kernel
theorem dX6_fits_38 : decode cX6_fits 38 = .ok (.if_icmp .ge 5, 3) := by decide +kernel
theorem dX6_fits_41 : decode cX6_fits 41 = .ok (.iconst 0, 1) := by decide +kernel
theorem dX6_fits_42 : decode cX6_fits 42 = .ok (.ireturn, 1) := by decide +kernel
theorem dX6_fits_43 : decode cX6_fits 43 = .ok (.iinc 5 1, 3) := by decide +kernel
theorem dX6_fits_46 : decode cX6_fits 46 = .ok (.goto (-31), 3) := by decide +kernel
theorem dX6_fits_49 : decode cX6_fits 49 = .ok (.iconst 1, 1) := by decide +kernel
theorem dX6_fits_50 : decode cX6_fits 50 = .ok (.ireturn, 1) := by decide +kernel
theorem dX6_changeFreeRoom_0 : decode cX6_changeFreeRoom 0 = .ok (.aload_n 1, 1) := by decide +kernel
theorem dX6_changeFreeRoom_1 : decode cX6_changeFreeRoom 1 = .ok (.iload_n 2, 1) := by decide +kernel
theorem dX6_changeFreeRoom_2 : decode cX6_changeFreeRoom 2 = .ok (.iload_n 3, 1) := by decide +kernel
theorem dX6_changeFreeRoom_3 : decode cX6_changeFreeRoom 3 = .ok (.aload_n 0, 1) := by decide +kernel
theorem dX6_changeFreeRoom_4 : decode cX6_changeFreeRoom 4 = .ok (.getfield 15, 3) := by decide +kernel
theorem dX6_changeFreeRoom_7 : decode cX6_changeFreeRoom 7 = .ok (.invokevirtual 104, 3) := by decide +kernel
theorem dX6_changeFreeRoom_10 : decode cX6_changeFreeRoom 10 = .ok (.istore 5, 2) := by decide +kernel
theorem dX6_changeFreeRoom_12 : decode cX6_changeFreeRoom 12 = .ok (.iconst 0, 1) := by decide +kernel
theorem dX6_changeFreeRoom_13 : decode cX6_changeFreeRoom 13 = .ok (.istore 6, 2) := by decide +kernel
theorem dX6_changeFreeRoom_15 : decode cX6_changeFreeRoom 15 = .ok (.iload 6, 2) := by decide +kernel
theorem dX6_changeFreeRoom_17 : decode cX6_changeFreeRoom 17 = .ok (.iload 5, 2) := by decide +kernel
theorem dX6_changeFreeRoom_19 : decode cX6_changeFreeRoom 19 = .ok (.if_icmp .ge 26, 3) := by decide +kernel
theorem dX6_changeFreeRoom_22 : decode cX6_changeFreeRoom 22 = .ok (.aload_n 0, 1) := by decide +kernel
theorem dX6_changeFreeRoom_23 : decode cX6_changeFreeRoom 23 = .ok (.getfield 9, 3) := by decide +kernel
theorem dX6_changeFreeRoom_26 : decode cX6_changeFreeRoom 26 = .ok (.aload_n 0, 1) := by decide +kernel
theorem dX6_changeFreeRoom_27 : decode cX6_changeFreeRoom 27 = .ok (.getfield 15, 3) := by decide +kernel
theorem dX6_changeFreeRoom_30 : decode cX6_changeFreeRoom 30 = .ok (.iload 6, 2) := by decide +kernel
theorem dX6_changeFreeRoom_32 : decode cX6_changeFreeRoom 32 = .ok (.iaload, 1) := by decide +kernel
theorem dX6_changeFreeRoom_33 : decode cX6_changeFreeRoom 33 = .ok (.dup2, 1) := by decide +kernel
theorem dX6_changeFreeRoom_34 : decode cX6_changeFreeRoom 34 = .ok (.iaload, 1) := by decide +kernel
theorem dX6_changeFreeRoom_35 : decode cX6_changeFreeRoom 35 = .ok (.iload 4, 2) := by decide +kernel
theorem dX6_changeFreeRoom_37 : decode cX6_changeFreeRoom 37 = .ok (.iadd, 1) := by decide +kernel
theorem dX6_changeFreeRoom_38 : decode cX6_changeFreeRoom 38 = .ok (.iastore, 1) := by decide +kernel
theorem dX6_changeFreeRoom_39 : decode cX6_changeFreeRoom 39 = .ok (.iinc 6 1, 3) := by decide +kernel
theorem dX6_changeFreeRoom_42 : decode cX6_changeFreeRoom 42 = .ok (.goto (-27), 3) := by decide +kernel
theorem dX6_changeFreeRoom_45 : decode cX6_changeFreeRoom 45 = .ok (.return_, 1) := by decide +kernel
theorem dX7_init_0 : decode cX7_init 0 = .ok (.aload_n 0, 1) := by decide +kernel
theorem dX7_init_1 : decode cX7_init 1 = .ok (.invokespecial 3, 3) := by decide +kernel
theorem dX7_init_4 : decode cX7_init 4 = .ok (.aload_n 0, 1) := by decide +kernel
theorem dX7_init_5 : decode cX7_init 5 = .ok (.iconst (-1), 1) := by decide +kernel
theorem dX7_init_6 : decode cX7_init 6 = .ok (.putfield 11, 3) := by decide +kernel
theorem dX7_init_9 : decode cX7_init 9 = .ok (.aload_n 0, 1) := by decide +kernel
theorem dX7_init_10 : decode cX7_init 10 = .ok (.iconst 0, 1) := by decide +kernel
theorem dX7_init_11 : decode cX7_init 11 = .ok (.putfield 15, 3) := by decide +kernel
theorem dX7_init_14 : decode cX7_init 14 = .ok (.aload_n 0, 1) := by decide +kernel
theorem dX7_init_15 : decode cX7_init 15 = .ok (.bipush 48, 2) := by decide +kernel
theorem dX7_init_17 : decode cX7_init 17 = .ok (.newarray .int, 2) := by decide +kernel
theorem dX7_init_19 : decode cX7_init 19 = .ok (.putfield 18, 3) := by decide +kernel
theorem dX7_init_22 : decode cX7_init 22 = .ok (.return_, 1) := by decide +kernel
theorem dX7_isMissing_0 : decode cX7_isMissing 0 = .ok (.aload_n 0, 1) := by decide +kernel
theorem dX7_isMissing_1 : decode cX7_isMissing 1 = .ok (.getfield 11, 3) := by decide +kernel
theorem dX7_isMissing_4 : decode cX7_isMissing 4 = .ok (.iconst (-1), 1) := by decide +kernel
theorem dX7_isMissing_5 : decode cX7_isMissing 5 = .ok (.if_icmp .ne 7, 3) := by decide +kernel
theorem dX7_isMissing_8 : decode cX7_isMissing 8 = .ok (.iconst 1, 1) := by decide +kernel
theorem dX7_isMissing_9 : decode cX7_isMissing 9 = .ok (.goto 4, 3) := by decide +kernel
theorem dX7_isMissing_12 : decode cX7_isMissing 12 = .ok (.iconst 0, 1) := by decide +kernel
theorem dX7_isMissing_13 : decode cX7_isMissing 13 = .ok (.ireturn, 1) := by decide +kernel
theorem dX7_begin_0 : decode cX7_begin 0 = .ok (.aload_n 0, 1) := by decide +kernel
theorem dX7_begin_1 : decode cX7_begin 1 = .ok (.iload_n 1, 1) := by decide +kernel
theorem dX7_begin_2 : decode cX7_begin 2 = .ok (.putfield 11, 3) := by decide +kernel
theorem dX7_begin_5 : decode cX7_begin 5 = .ok (.aload_n 0, 1) := by decide +kernel
theorem dX7_begin_6 : decode cX7_begin 6 = .ok (.iload_n 2, 1) := by decide +kernel
theorem dX7_begin_7 : decode cX7_begin 7 = .ok (.putfield 15, 3) := by decide +kernel
theorem dX7_begin_10 : decode cX7_begin 10 = .ok (.aload_n 0, 1) := by decide +kernel
theorem dX7_begin_11 : decode cX7_begin 11 = .ok (.getfield 18, 3) := by decide +kernel
theorem dX7_begin_14 : decode cX7_begin 14 = .ok (.iconst 0, 1) := by decide +kernel
theorem dX7_begin_15 : decode cX7_begin 15 = .ok (.invokestatic 22, 3) := by decide +kernel
theorem dX7_begin_18 : decode cX7_begin 18 = .ok (.return_, 1) := by decide +kernel
theorem dX7_end_0 : decode cX7_end 0 = .ok (.aload_n 0, 1) := by decide +kernel
theorem dX7_end_1 : decode cX7_end 1 = .ok (.iconst (-1), 1) := by decide +kernel
theorem dX7_end_2 : decode cX7_end 2 = .ok (.putfield 11, 3) := by decide +kernel
theorem dX7_end_5 : decode cX7_end 5 = .ok (.aload_n 0, 1) := by decide +kernel
theorem dX7_end_6 : decode cX7_end 6 = .ok (.getfield 15, 3) := by decide +kernel
theorem dX7_end_9 : decode cX7_end 9 = .ok (.ireturn, 1) := by decide +kernel
theorem dX7_hasPlaces_0 : decode cX7_hasPlaces 0 = .ok (.iload_n 1, 1) := by decide +kernel
theorem dX7_hasPlaces_1 : decode cX7_hasPlaces 1 = .ok (.ifCond .lt 29, 3) := by decide +kernel
theorem dX7_hasPlaces_4 : decode cX7_hasPlaces 4 = .ok (.iload_n 2, 1) := by decide +kernel
theorem dX7_hasPlaces_5 : decode cX7_hasPlaces 5 = .ok (.ifCond .lt 25, 3) := by decide +kernel
theorem dX7_hasPlaces_8 : decode cX7_hasPlaces 8 = .ok (.iload_n 2, 1) := by decide +kernel
theorem dX7_hasPlaces_9 : decode cX7_hasPlaces 9 = .ok (.aload_n 0, 1) := by decide +kernel
theorem dX7_hasPlaces_10 : decode cX7_hasPlaces 10 = .ok (.getfield 15, 3) := by decide +kernel
theorem dX7_hasPlaces_13 : decode cX7_hasPlaces 13 = .ok (.if_icmp .gt 17, 3) := by decide +kernel
theorem dX7_hasPlaces_16 : decode cX7_hasPlaces 16 = .ok (.iload_n 1, 1) := by decide +kernel
theorem dX7_hasPlaces_17 : decode cX7_hasPlaces 17 = .ok (.aload_n 0, 1) := by decide +kernel
theorem dX7_hasPlaces_18 : decode cX7_hasPlaces 18 = .ok (.getfield 15, 3) := by decide +kernel
theorem dX7_hasPlaces_21 : decode cX7_hasPlaces 21 = .ok (.iload_n 2, 1) := by decide +kernel
theorem dX7_hasPlaces_22 : decode cX7_hasPlaces 22 = .ok (.isub, 1) := by decide +kernel
theorem dX7_hasPlaces_23 : decode cX7_hasPlaces 23 = .ok (.if_icmp .gt 7, 3) := by decide +kernel
theorem dX7_hasPlaces_26 : decode cX7_hasPlaces 26 = .ok (.iconst 1, 1) := by decide +kernel
theorem dX7_hasPlaces_27 : decode cX7_hasPlaces 27 = .ok (.goto 4, 3) := by decide +kernel
theorem dX7_hasPlaces_30 : decode cX7_hasPlaces 30 = .ok (.iconst 0, 1) := by decide +kernel
theorem dX7_hasPlaces_31 : decode cX7_hasPlaces 31 = .ok (.ireturn, 1) := by decide +kernel
theorem dX7_findingFor_0 : decode cX7_findingFor 0 = .ok (.aload_n 0, 1) := by decide +kernel
theorem dX7_findingFor_1 : decode cX7_findingFor 1 = .ok (.invokevirtual 28, 3) := by decide +kernel
theorem dX7_findingFor_4 : decode cX7_findingFor 4 = .ok (.ifCond .eq 5, 3) := by decide +kernel
theorem dX7_findingFor_7 : decode cX7_findingFor 7 = .ok (.iconst 1, 1) := by decide +kernel
theorem dX7_findingFor_8 : decode cX7_findingFor 8 = .ok (.ireturn, 1) := by decide +kernel
theorem dX7_findingFor_9 : decode cX7_findingFor 9 = .ok (.aload_n 0, 1) := by decide +kernel
theorem dX7_findingFor_10 : decode cX7_findingFor 10 = .ok (.iload_n 1, 1) := by decide +kernel
theorem dX7_findingFor_11 : decode cX7_findingFor 11 = .ok (.iload_n 2, 1) := by decide +kernel
theorem dX7_findingFor_12 : decode cX7_findingFor 12 = .ok (.invokevirtual 32, 3) := by decide +kernel
theorem dX7_findingFor_15 : decode cX7_findingFor 15 = .ok (.ifCond .eq 7, 3) := by decide +kernel
theorem dX7_findingFor_18 : decode cX7_findingFor 18 = .ok (.iconst 0, 1) := by decide +kernel
theorem dX7_findingFor_19 : decode cX7_findingFor 19 = .ok (.goto 4, 3) := by decide +kernel
theorem dX7_findingFor_22 : decode cX7_findingFor 22 = .ok (.iconst 2, 1) := by decide +kernel
theorem dX7_findingFor_23 : decode cX7_findingFor 23 = .ok (.ireturn, 1) := by decide +kernel
theorem dX7_hasOnlyUpTo_0 : decode cX7_hasOnlyUpTo 0 = .ok (.iload_n 2, 1) := by decide +kernel
theorem dX7_hasOnlyUpTo_1 : decode cX7_hasOnlyUpTo 1 = .ok (.istore 4, 2) := by decide +kernel
theorem dX7_hasOnlyUpTo_3 : decode cX7_hasOnlyUpTo 3 = .ok (.iload 4, 2) := by decide +kernel
theorem dX7_hasOnlyUpTo_5 : decode cX7_hasOnlyUpTo 5 = .ok (.iload_n 2, 1) := by decide +kernel
theorem dX7_hasOnlyUpTo_6 : decode cX7_hasOnlyUpTo 6 = .ok (.iload_n 3, 1) := by decide +kernel
theorem dX7_hasOnlyUpTo_7 : decode cX7_hasOnlyUpTo 7 = .ok (.iadd, 1) := by decide +kernel
theorem dX7_hasOnlyUpTo_8 : decode cX7_hasOnlyUpTo 8 = .ok (.if_icmp .ge 32, 3) := by decide +kernel
theorem dX7_hasOnlyUpTo_11 : decode cX7_hasOnlyUpTo 11 = .ok (.aload_n 0, 1) := by decide +kernel
theorem dX7_hasOnlyUpTo_12 : decode cX7_hasOnlyUpTo 12 = .ok (.getfield 18, 3) := by decide +kernel
theorem dX7_hasOnlyUpTo_15 : decode cX7_hasOnlyUpTo 15 = .ok (.iload 4, 2) := by decide +kernel
theorem dX7_hasOnlyUpTo_17 : decode cX7_hasOnlyUpTo 17 = .ok (.iaload, 1) := by decide +kernel
theorem dX7_hasOnlyUpTo_18 : decode cX7_hasOnlyUpTo 18 = .ok (.ifCond .lt 14, 3) := by decide +kernel
theorem dX7_hasOnlyUpTo_21 : decode cX7_hasOnlyUpTo 21 = .ok (.aload_n 0, 1) := by decide +kernel
theorem dX7_hasOnlyUpTo_22 : decode cX7_hasOnlyUpTo 22 = .ok (.getfield 18, 3) := by decide +kernel
theorem dX7_hasOnlyUpTo_25 : decode cX7_hasOnlyUpTo 25 = .ok (.iload 4, 2) := by decide +kernel
theorem dX7_hasOnlyUpTo_27 : decode cX7_hasOnlyUpTo 27 = .ok (.iaload, 1) := by decide +kernel
theorem dX7_hasOnlyUpTo_28 : decode cX7_hasOnlyUpTo 28 = .ok (.iload_n 1, 1) := by decide +kernel
theorem dX7_hasOnlyUpTo_29 : decode cX7_hasOnlyUpTo 29 = .ok (.if_icmp .le 5, 3) := by decide +kernel
theorem dX7_hasOnlyUpTo_32 : decode cX7_hasOnlyUpTo 32 = .ok (.iconst 0, 1) := by decide +kernel
theorem dX7_hasOnlyUpTo_33 : decode cX7_hasOnlyUpTo 33 = .ok (.ireturn, 1) := by decide +kernel
theorem dX7_hasOnlyUpTo_34 : decode cX7_hasOnlyUpTo 34 = .ok (.iinc 4 1, 3) := by decide +kernel
theorem dX7_hasOnlyUpTo_37 : decode cX7_hasOnlyUpTo 37 = .ok (.goto (-34), 3) := by decide +kernel
theorem dX7_hasOnlyUpTo_40 : decode cX7_hasOnlyUpTo 40 = .ok (.iconst 1, 1) := by decide +kernel
theorem dX7_hasOnlyUpTo_41 : decode cX7_hasOnlyUpTo 41 = .ok (.ireturn, 1) := by decide +kernel
theorem dX7_put_0 : decode cX7_put 0 = .ok (.aload_n 0, 1) := by decide +kernel
theorem dX7_put_1 : decode cX7_put 1 = .ok (.getfield 18, 3) := by decide +kernel
theorem dX7_put_4 : decode cX7_put 4 = .ok (.iload_n 1, 1) := by decide +kernel
theorem dX7_put_5 : decode cX7_put 5 = .ok (.aload_n 0, 1) := by decide +kernel
theorem dX7_put_6 : decode cX7_put 6 = .ok (.getfield 11, 3) := by decide +kernel
theorem dX7_put_9 : decode cX7_put 9 = .ok (.ifCond .ne 8, 3) := by decide +kernel
theorem dX7_put_12 : decode cX7_put 12 = .ok (.iload_n 2, 1) := by decide +kernel
theorem dX7_put_13 : decode cX7_put 13 = .ok (.i2b, 1) := by decide +kernel
theorem dX7_put_14 : decode cX7_put 14 = .ok (.goto 17, 3) := by decide +kernel
theorem dX7_put_17 : decode cX7_put 17 = .ok (.aload_n 0, 1) := by decide +kernel
theorem dX7_put_18 : decode cX7_put 18 = .ok (.getfield 11, 3) := by decide +kernel
theorem dX7_put_21 : decode cX7_put 21 = .ok (.iconst 1, 1) := by decide +kernel
theorem dX7_put_22 : decode cX7_put 22 = .ok (.if_icmp .ne 8, 3) := by decide +kernel
theorem dX7_put_25 : decode cX7_put 25 = .ok (.iload_n 2, 1) := by decide +kernel
theorem dX7_put_26 : decode cX7_put 26 = .ok (.i2s, 1) := by decide +kernel
theorem dX7_put_27 : decode cX7_put 27 = .ok (.goto 4, 3) := by decide +kernel
theorem dX7_put_30 : decode cX7_put 30 = .ok (.iload_n 2, 1) := by decide +kernel
theorem dX7_put_31 : decode cX7_put 31 = .ok (.iastore, 1) := by decide +kernel
theorem dX7_put_32 : decode cX7_put 32 = .ok (.aload_n 0, 1) := by decide +kernel
theorem dX7_put_33 : decode cX7_put 33 = .ok (.getfield 18, 3) := by decide +kernel
theorem dX7_put_36 : decode cX7_put 36 = .ok (.iload_n 1, 1) := by decide +kernel
theorem dX7_put_37 : decode cX7_put 37 = .ok (.iaload, 1) := by decide +kernel
theorem dX7_put_38 : decode cX7_put 38 = .ok (.ireturn, 1) := by decide +kernel
theorem dX8_init_0 : decode cX8_init 0 = .ok (.aload_n 0, 1) := by decide +kernel
theorem dX8_init_1 : decode cX8_init 1 = .ok (.invokespecial 3, 3) := by decide +kernel
theorem dX8_init_4 : decode cX8_init 4 = .ok (.aload_n 0, 1) := by decide +kernel
theorem dX8_init_5 : decode cX8_init 5 = .ok (.sipush 384, 3) := by decide +kernel
theorem dX8_init_8 : decode cX8_init 8 = .ok (.newarray .int, 2) := by decide +kernel
theorem dX8_init_10 : decode cX8_init 10 = .ok (.putfield 9, 3) := by decide +kernel
theorem dX8_init_13 : decode cX8_init 13 = .ok (.aload_n 0, 1) := by decide +kernel
theorem dX8_init_14 : decode cX8_init 14 = .ok (.sipush 384, 3) := by decide +kernel
theorem dX8_init_17 : decode cX8_init 17 = .ok (.newarray .int, 2) := by decide +kernel
theorem dX8_init_19 : decode cX8_init 19 = .ok (.putfield 15, 3) := by decide +kernel
theorem dX8_init_22 : decode cX8_init 22 = .ok (.aload_n 0, 1) := by decide +kernel
theorem dX8_init_23 : decode cX8_init 23 = .ok (.bipush 20, 2) := by decide +kernel
theorem dX8_init_25 : decode cX8_init 25 = .ok (.newarray .int, 2) := by decide +kernel
theorem dX8_init_27 : decode cX8_init 27 = .ok (.putfield 18, 3) := by decide +kernel
theorem dX8_init_30 : decode cX8_init 30 = .ok (.aload_n 0, 1) := by decide +kernel
theorem dX8_init_31 : decode cX8_init 31 = .ok (.aload_n 1, 1) := by decide +kernel
theorem dX8_init_32 : decode cX8_init 32 = .ok (.putfield 21, 3) := by decide +kernel
theorem dX8_init_35 : decode cX8_init 35 = .ok (.aload_n 0, 1) := by decide +kernel
theorem dX8_init_36 : decode cX8_init 36 = .ok (.aload_n 2, 1) := by decide +kernel
theorem dX8_init_37 : decode cX8_init 37 = .ok (.putfield 25, 3) := by decide +kernel
theorem dX8_init_40 : decode cX8_init 40 = .ok (.return_, 1) := by decide +kernel
theorem dX8_refresh_0 : decode cX8_refresh 0 = .ok (.aload_n 0, 1) := by decide +kernel
theorem dX8_refresh_1 : decode cX8_refresh 1 = .ok (.getfield 21, 3) := by decide +kernel
theorem dX8_refresh_4 : decode cX8_refresh 4 = .ok (.aload_n 0, 1) := by decide +kernel
theorem dX8_refresh_5 : decode cX8_refresh 5 = .ok (.getfield 15, 3) := by decide +kernel
theorem dX8_refresh_8 : decode cX8_refresh 8 = .ok (.invokevirtual 29, 3) := by decide +kernel
theorem dX8_refresh_11 : decode cX8_refresh 11 = .ok (.aload_n 0, 1) := by decide +kernel
theorem dX8_refresh_12 : decode cX8_refresh 12 = .ok (.getfield 9, 3) := by decide +kernel
theorem dX8_refresh_15 : decode cX8_refresh 15 = .ok (.iconst 0, 1) := by decide +kernel
theorem dX8_refresh_16 : decode cX8_refresh 16 = .ok (.invokestatic 35, 3) := by decide +kernel
theorem dX8_refresh_19 : decode cX8_refresh 19 = .ok (.iconst 0, 1) := by decide +kernel
theorem dX8_refresh_20 : decode cX8_refresh 20 = .ok (.istore_n 1, 1) := by decide +kernel
theorem dX8_refresh_21 : decode cX8_refresh 21 = .ok (.iload_n 1, 1) := by decide +kernel
theorem dX8_refresh_22 : decode cX8_refresh 22 = .ok (.aload_n 0, 1) := by decide +kernel
theorem dX8_refresh_23 : decode cX8_refresh 23 = .ok (.getfield 25, 3) := by decide +kernel
theorem dX8_refresh_26 : decode cX8_refresh 26 = .ok (.getfield 41, 3) := by decide +kernel
theorem dX8_refresh_29 : decode cX8_refresh 29 = .ok (.if_icmp .ge 70, 3) := by decide +kernel
theorem dX8_refresh_32 : decode cX8_refresh 32 = .ok (.aload_n 0, 1) := by decide +kernel
theorem dX8_refresh_33 : decode cX8_refresh 33 = .ok (.getfield 25, 3) := by decide +kernel
theorem dX8_refresh_36 : decode cX8_refresh 36 = .ok (.getfield 47, 3) := by decide +kernel
theorem dX8_refresh_39 : decode cX8_refresh 39 = .ok (.iload_n 1, 1) := by decide +kernel
theorem dX8_refresh_40 : decode cX8_refresh 40 = .ok (.aaload, 1) := by decide +kernel
theorem dX8_refresh_41 : decode cX8_refresh 41 = .ok (.astore_n 2, 1) := by decide +kernel
theorem dX8_refresh_42 : decode cX8_refresh 42 = .ok (.aload_n 2, 1) := by decide +kernel
theorem dX8_refresh_43 : decode cX8_refresh 43 = .ok (.aload_n 2, 1) := by decide +kernel
theorem dX8_refresh_44 : decode cX8_refresh 44 = .ok (.getfield 51, 3) := by decide +kernel
theorem dX8_refresh_47 : decode cX8_refresh 47 = .ok (.aload_n 2, 1) := by decide +kernel
theorem dX8_refresh_48 : decode cX8_refresh 48 = .ok (.getfield 56, 3) := by decide +kernel
theorem dX8_refresh_51 : decode cX8_refresh 51 = .ok (.aload_n 0, 1) := by decide +kernel
theorem dX8_refresh_52 : decode cX8_refresh 52 = .ok (.getfield 18, 3) := by decide +kernel
theorem dX8_refresh_55 : decode cX8_refresh 55 = .ok (.invokevirtual 59, 3) := by decide +kernel
theorem dX8_refresh_58 : decode cX8_refresh 58 = .ok (.istore_n 3, 1) := by decide +kernel
theorem dX8_refresh_59 : decode cX8_refresh 59 = .ok (.iconst 0, 1) := by decide +kernel
theorem dX8_refresh_60 : decode cX8_refresh 60 = .ok (.istore 4, 2) := by decide +kernel
theorem dX8_refresh_62 : decode cX8_refresh 62 = .ok (.iload 4, 2) := by decide +kernel
theorem dX8_refresh_64 : decode cX8_refresh 64 = .ok (.iload_n 3, 1) := by decide +kernel
theorem dX8_refresh_65 : decode cX8_refresh 65 = .ok (.if_icmp .ge 28, 3) := by decide +kernel
theorem dX8_refresh_68 : decode cX8_refresh 68 = .ok (.aload_n 0, 1) := by decide +kernel
theorem dX8_refresh_69 : decode cX8_refresh 69 = .ok (.getfield 9, 3) := by decide +kernel
theorem dX8_refresh_72 : decode cX8_refresh 72 = .ok (.aload_n 0, 1) := by decide +kernel
theorem dX8_refresh_73 : decode cX8_refresh 73 = .ok (.getfield 18, 3) := by decide +kernel
theorem dX8_refresh_76 : decode cX8_refresh 76 = .ok (.iload 4, 2) := by decide +kernel
theorem dX8_refresh_78 : decode cX8_refresh 78 = .ok (.iaload, 1) := by decide +kernel
theorem dX8_refresh_79 : decode cX8_refresh 79 = .ok (.dup2, 1) := by decide +kernel
theorem dX8_refresh_80 : decode cX8_refresh 80 = .ok (.iaload, 1) := by decide +kernel
theorem dX8_refresh_81 : decode cX8_refresh 81 = .ok (.aload_n 2, 1) := by decide +kernel
theorem dX8_refresh_82 : decode cX8_refresh 82 = .ok (.getfield 63, 3) := by decide +kernel
theorem dX8_refresh_85 : decode cX8_refresh 85 = .ok (.iadd, 1) := by decide +kernel
theorem dX8_refresh_86 : decode cX8_refresh 86 = .ok (.iastore, 1) := by decide +kernel
theorem dX8_refresh_87 : decode cX8_refresh 87 = .ok (.iinc 4 1, 3) := by decide +kernel
theorem dX8_refresh_90 : decode cX8_refresh 90 = .ok (.goto (-28), 3) := by decide +kernel
theorem dX8_refresh_93 : decode cX8_refresh 93 = .ok (.iinc 1 1, 3) := by decide +kernel
theorem dX8_refresh_96 : decode cX8_refresh 96 = .ok (.goto (-75), 3) := by decide +kernel
theorem dX8_refresh_99 : decode cX8_refresh 99 = .ok (.return_, 1) := by decide +kernel
theorem dX8_tooMuchIn_0 : decode cX8_tooMuchIn 0 = .ok (.iconst 0, 1) := by decide +kernel
theorem dX8_tooMuchIn_1 : decode cX8_tooMuchIn 1 = .ok (.aload_n 0, 1) := by decide +kernel
theorem dX8_tooMuchIn_2 : decode cX8_tooMuchIn 2 = .ok (.getfield 9, 3) := by decide +kernel
theorem dX8_tooMuchIn_5 : decode cX8_tooMuchIn 5 = .ok (.iload_n 1, 1) := by decide +kernel
theorem dX8_tooMuchIn_6 : decode cX8_tooMuchIn 6 = .ok (.iaload, 1) := by decide +kernel
theorem dX8_tooMuchIn_7 : decode cX8_tooMuchIn 7 = .ok (.aload_n 0, 1) := by decide +kernel
theorem dX8_tooMuchIn_8 : decode cX8_tooMuchIn 8 = .ok (.getfield 15, 3) := by decide +kernel
theorem dX8_tooMuchIn_11 : decode cX8_tooMuchIn 11 = .ok (.iload_n 1, 1) := by decide +kernel
theorem dX8_tooMuchIn_12 : decode cX8_tooMuchIn 12 = .ok (.iaload, 1) := by decide +kernel
theorem dX8_tooMuchIn_13 : decode cX8_tooMuchIn 13 = .ok (.isub, 1) := by decide +kernel
theorem dX8_tooMuchIn_14 : decode cX8_tooMuchIn 14 = .ok (.invokestatic 66, 3) := by decide +kernel
theorem dX8_tooMuchIn_17 : decode cX8_tooMuchIn 17 = .ok (.ireturn, 1) := by decide +kernel
theorem dX8_tooMuchTogether_0 : decode cX8_tooMuchTogether 0 = .ok (.iconst 0, 1) := by decide +kernel
theorem dX8_tooMuchTogether_1 : decode cX8_tooMuchTogether 1 = .ok (.istore_n 1, 1) := by decide +kernel
theorem dX8_tooMuchTogether_2 : decode cX8_tooMuchTogether 2 = .ok (.iconst 0, 1) := by decide +kernel
theorem dX8_tooMuchTogether_3 : decode cX8_tooMuchTogether 3 = .ok (.istore_n 2, 1) := by decide +kernel
theorem dX8_tooMuchTogether_4 : decode cX8_tooMuchTogether 4 = .ok (.iload_n 2, 1) := by decide +kernel
theorem dX8_tooMuchTogether_5 : decode cX8_tooMuchTogether 5 = .ok (.sipush 384, 3) := by decide +kernel
theorem dX8_tooMuchTogether_8 : decode cX8_tooMuchTogether 8 = .ok (.if_icmp .ge 17, 3) := by decide +kernel
theorem dX8_tooMuchTogether_11 : decode cX8_tooMuchTogether 11 = .ok (.iload_n 1, 1) := by decide +kernel
theorem dX8_tooMuchTogether_12 : decode cX8_tooMuchTogether 12 = .ok (.aload_n 0, 1) := by decide +kernel
theorem dX8_tooMuchTogether_13 : decode cX8_tooMuchTogether 13 = .ok (.iload_n 2, 1) := by decide +kernel
theorem dX8_tooMuchTogether_14 : decode cX8_tooMuchTogether 14 = .ok (.invokevirtual 72, 3) := by decide +kernel
theorem dX8_tooMuchTogether_17 : decode cX8_tooMuchTogether 17 = .ok (.iadd, 1) := by decide +kernel
theorem dX8_tooMuchTogether_18 : decode cX8_tooMuchTogether 18 = .ok (.istore_n 1, 1) := by decide +kernel
theorem dX8_tooMuchTogether_19 : decode cX8_tooMuchTogether 19 = .ok (.iinc 2 1, 3) := by decide +kernel
theorem dX8_tooMuchTogether_22 : decode cX8_tooMuchTogether 22 = .ok (.goto (-18), 3) := by decide +kernel
theorem dX8_tooMuchTogether_25 : decode cX8_tooMuchTogether 25 = .ok (.iload_n 1, 1) := by decide +kernel
theorem dX8_tooMuchTogether_26 : decode cX8_tooMuchTogether 26 = .ok (.ireturn, 1) := by decide +kernel
theorem dX8_crowdedCells_0 : decode cX8_crowdedCells 0 = .ok (.iconst 0, 1) := by decide +kernel
theorem dX8_crowdedCells_1 : decode cX8_crowdedCells 1 = .ok (.istore_n 1, 1) := by decide +kernel
theorem dX8_crowdedCells_2 : decode cX8_crowdedCells 2 = .ok (.iconst 0, 1) := by decide +kernel
theorem dX8_crowdedCells_3 : decode cX8_crowdedCells 3 = .ok (.istore_n 2, 1) := by decide +kernel
theorem dX8_crowdedCells_4 : decode cX8_crowdedCells 4 = .ok (.iload_n 2, 1) := by decide +kernel
theorem dX8_crowdedCells_5 : decode cX8_crowdedCells 5 = .ok (.sipush 384, 3) := by decide +kernel
theorem dX8_crowdedCells_8 : decode cX8_crowdedCells 8 = .ok (.if_icmp .ge 25, 3) := by decide +kernel
theorem dX8_crowdedCells_11 : decode cX8_crowdedCells 11 = .ok (.iload_n 1, 1) := by decide +kernel
theorem dX8_crowdedCells_12 : decode cX8_crowdedCells 12 = .ok (.aload_n 0, 1) := by decide +kernel
theorem dX8_crowdedCells_13 : decode cX8_crowdedCells 13 = .ok (.iload_n 2, 1) := by decide +kernel
theorem dX8_crowdedCells_14 : decode cX8_crowdedCells 14 = .ok (.invokevirtual 72, 3) := by decide +kernel
theorem dX8_crowdedCells_17 : decode cX8_crowdedCells 17 = .ok (.ifCond .le 7, 3) := by decide +kernel
theorem dX8_crowdedCells_20 : decode cX8_crowdedCells 20 = .ok (.iconst 1, 1) := by decide +kernel
theorem dX8_crowdedCells_21 : decode cX8_crowdedCells 21 = .ok (.goto 4, 3) := by decide +kernel
theorem dX8_crowdedCells_24 : decode cX8_crowdedCells 24 = .ok (.iconst 0, 1) := by decide +kernel
theorem dX8_crowdedCells_25 : decode cX8_crowdedCells 25 = .ok (.iadd, 1) := by decide +kernel
theorem dX8_crowdedCells_26 : decode cX8_crowdedCells 26 = .ok (.istore_n 1, 1) := by decide +kernel
theorem dX8_crowdedCells_27 : decode cX8_crowdedCells 27 = .ok (.iinc 2 1, 3) := by decide +kernel
theorem dX8_crowdedCells_30 : decode cX8_crowdedCells 30 = .ok (.goto (-26), 3) := by decide +kernel
theorem dX8_crowdedCells_33 : decode cX8_crowdedCells 33 = .ok (.iload_n 1, 1) := by decide +kernel
theorem dX8_crowdedCells_34 : decode cX8_crowdedCells 34 = .ok (.ireturn, 1) := by decide +kernel
theorem dX8_greatestLoad_0 : decode cX8_greatestLoad 0 = .ok (.iconst 0, 1) := by decide +kernel
theorem dX8_greatestLoad_1 : decode cX8_greatestLoad 1 = .ok (.istore_n 1, 1) := by decide +kernel
theorem dX8_greatestLoad_2 : decode cX8_greatestLoad 2 = .ok (.iconst 0, 1) := by decide +kernel
theorem dX8_greatestLoad_3 : decode cX8_greatestLoad 3 = .ok (.istore_n 2, 1) := by decide +kernel
theorem dX8_greatestLoad_4 : decode cX8_greatestLoad 4 = .ok (.iload_n 2, 1) := by decide +kernel
theorem dX8_greatestLoad_5 : decode cX8_greatestLoad 5 = .ok (.sipush 384, 3) := by decide +kernel
theorem dX8_greatestLoad_8 : decode cX8_greatestLoad 8 = .ok (.if_icmp .ge 20, 3) := by decide +kernel
theorem dX8_greatestLoad_11 : decode cX8_greatestLoad 11 = .ok (.iload_n 1, 1) := by decide +kernel
theorem dX8_greatestLoad_12 : decode cX8_greatestLoad 12 = .ok (.aload_n 0, 1) := by decide +kernel
theorem dX8_greatestLoad_13 : decode cX8_greatestLoad 13 = .ok (.getfield 9, 3) := by decide +kernel
theorem dX8_greatestLoad_16 : decode cX8_greatestLoad 16 = .ok (.iload_n 2, 1) := by decide +kernel
theorem dX8_greatestLoad_17 : decode cX8_greatestLoad 17 = .ok (.iaload, 1) := by decide +kernel
theorem dX8_greatestLoad_18 : decode cX8_greatestLoad 18 = .ok (.invokestatic 66, 3) := by decide +kernel
theorem dX8_greatestLoad_21 : decode cX8_greatestLoad 21 = .ok (.istore_n 1, 1) := by decide +kernel
theorem dX8_greatestLoad_22 : decode cX8_greatestLoad 22 = .ok (.iinc 2 1, 3) := by decide +kernel
theorem dX8_greatestLoad_25 : decode cX8_greatestLoad 25 = .ok (.goto (-21), 3) := by decide +kernel
theorem dX8_greatestLoad_28 : decode cX8_greatestLoad 28 = .ok (.iload_n 1, 1) := by decide +kernel
theorem dX8_greatestLoad_29 : decode cX8_greatestLoad 29 = .ok (.ireturn, 1) := by decide +kernel
theorem dX8_isCrowdedAround_0 : decode cX8_isCrowdedAround 0 = .ok (.aload_n 1, 1) := by decide +kernel
theorem dX8_isCrowdedAround_1 : decode cX8_isCrowdedAround 1 = .ok (.aload_n 1, 1) := by decide +kernel
theorem dX8_isCrowdedAround_2 : decode cX8_isCrowdedAround 2 = .ok (.getfield 51, 3) := by decide +kernel
theorem dX8_isCrowdedAround_5 : decode cX8_isCrowdedAround 5 = .ok (.aload_n 1, 1) := by decide +kernel
theorem dX8_isCrowdedAround_6 : decode cX8_isCrowdedAround 6 = .ok (.getfield 56, 3) := by decide +kernel
theorem dX8_isCrowdedAround_9 : decode cX8_isCrowdedAround 9 = .ok (.aload_n 0, 1) := by decide +kernel
theorem dX8_isCrowdedAround_10 : decode cX8_isCrowdedAround 10 = .ok (.getfield 18, 3) := by decide +kernel
theorem dX8_isCrowdedAround_13 : decode cX8_isCrowdedAround 13 = .ok (.invokevirtual 59, 3) := by decide +kernel
theorem dX8_isCrowdedAround_16 : decode cX8_isCrowdedAround 16 = .ok (.istore_n 2, 1) := by decide +kernel
theorem dX8_isCrowdedAround_17 : decode cX8_isCrowdedAround 17 = .ok (.iconst 0, 1) := by decide +kernel
theorem dX8_isCrowdedAround_18 : decode cX8_isCrowdedAround 18 = .ok (.istore_n 3, 1) := by decide +kernel
theorem dX8_isCrowdedAround_19 : decode cX8_isCrowdedAround 19 = .ok (.iload_n 3, 1) := by decide +kernel
theorem dX8_isCrowdedAround_20 : decode cX8_isCrowdedAround 20 = .ok (.iload_n 2, 1) := by decide +kernel
theorem dX8_isCrowdedAround_21 : decode cX8_isCrowdedAround 21 = .ok (.if_icmp .ge 36, 3) := by decide +kernel
theorem dX8_isCrowdedAround_24 : decode cX8_isCrowdedAround 24 = .ok (.aload_n 0, 1) := by decide +kernel
theorem dX8_isCrowdedAround_25 : decode cX8_isCrowdedAround 25 = .ok (.getfield 9, 3) := by decide +kernel
theorem dX8_isCrowdedAround_28 : decode cX8_isCrowdedAround 28 = .ok (.aload_n 0, 1) := by decide +kernel
theorem dX8_isCrowdedAround_29 : decode cX8_isCrowdedAround 29 = .ok (.getfield 18, 3) := by decide +kernel
theorem dX8_isCrowdedAround_32 : decode cX8_isCrowdedAround 32 = .ok (.iload_n 3, 1) := by decide +kernel
theorem dX8_isCrowdedAround_33 : decode cX8_isCrowdedAround 33 = .ok (.iaload, 1) := by decide +kernel
theorem dX8_isCrowdedAround_34 : decode cX8_isCrowdedAround 34 = .ok (.iaload, 1) := by decide +kernel
theorem dX8_isCrowdedAround_35 : decode cX8_isCrowdedAround 35 = .ok (.aload_n 0, 1) := by decide +kernel
theorem dX8_isCrowdedAround_36 : decode cX8_isCrowdedAround 36 = .ok (.getfield 15, 3) := by decide +kernel
theorem dX8_isCrowdedAround_39 : decode cX8_isCrowdedAround 39 = .ok (.aload_n 0, 1) := by decide +kernel
theorem dX8_isCrowdedAround_40 : decode cX8_isCrowdedAround 40 = .ok (.getfield 18, 3) := by decide +kernel
theorem dX8_isCrowdedAround_43 : decode cX8_isCrowdedAround 43 = .ok (.iload_n 3, 1) := by decide +kernel
theorem dX8_isCrowdedAround_44 : decode cX8_isCrowdedAround 44 = .ok (.iaload, 1) := by decide +kernel
theorem dX8_isCrowdedAround_45 : decode cX8_isCrowdedAround 45 = .ok (.iaload, 1) := by decide +kernel
theorem dX8_isCrowdedAround_46 : decode cX8_isCrowdedAround 46 = .ok (.if_icmp .le 5, 3) := by decide +kernel
theorem dX8_isCrowdedAround_49 : decode cX8_isCrowdedAround 49 = .ok (.iconst 1, 1) := by decide +kernel
theorem dX8_isCrowdedAround_50 : decode cX8_isCrowdedAround 50 = .ok (.ireturn, 1) := by decide +kernel
theorem dX8_isCrowdedAround_51 : decode cX8_isCrowdedAround 51 = .ok (.iinc 3 1, 3) := by decide +kernel
theorem dX8_isCrowdedAround_54 : decode cX8_isCrowdedAround 54 = .ok (.goto (-35), 3) := by decide +kernel
theorem dX8_isCrowdedAround_57 : decode cX8_isCrowdedAround 57 = .ok (.iconst 0, 1) := by decide +kernel
theorem dX8_isCrowdedAround_58 : decode cX8_isCrowdedAround 58 = .ok (.ireturn, 1) := by decide +kernel
theorem dX9_init_0 : decode cX9_init 0 = .ok (.aload_n 0, 1) := by decide +kernel
theorem dX9_init_1 : decode cX9_init 1 = .ok (.invokespecial 5, 3) := by decide +kernel
theorem dX9_init_4 : decode cX9_init 4 = .ok (.aload_n 0, 1) := by decide +kernel
theorem dX9_init_5 : decode cX9_init 5 = .ok (.sipush 3072, 3) := by decide +kernel
theorem dX9_init_8 : decode cX9_init 8 = .ok (.newarray .int, 2) := by decide +kernel
theorem dX9_init_10 : decode cX9_init 10 = .ok (.putfield 11, 3) := by decide +kernel
theorem dX9_init_13 : decode cX9_init 13 = .ok (.aload_n 0, 1) := by decide +kernel
theorem dX9_init_14 : decode cX9_init 14 = .ok (.bipush 64, 2) := by decide +kernel
theorem dX9_init_16 : decode cX9_init 16 = .ok (.newarray .int, 2) := by decide +kernel
theorem dX9_init_18 : decode cX9_init 18 = .ok (.putfield 15, 3) := by decide +kernel
theorem dX9_init_21 : decode cX9_init 21 = .ok (.aload_n 0, 1) := by decide +kernel
theorem dX9_init_22 : decode cX9_init 22 = .ok (.bipush 64, 2) := by decide +kernel
theorem dX9_init_24 : decode cX9_init 24 = .ok (.newarray .int, 2) := by decide +kernel
theorem dX9_init_26 : decode cX9_init 26 = .ok (.putfield 18, 3) := by decide +kernel
theorem dX9_init_29 : decode cX9_init 29 = .ok (.aload_n 0, 1) := by decide +kernel
theorem dX9_init_30 : decode cX9_init 30 = .ok (.bipush 48, 2) := by decide +kernel
theorem dX9_init_32 : decode cX9_init 32 = .ok (.newarray .int, 2) := by decide +kernel
theorem dX9_init_34 : decode cX9_init 34 = .ok (.putfield 21, 3) := by decide +kernel
theorem dX9_init_37 : decode cX9_init 37 = .ok (.aload_n 0, 1) := by decide +kernel
theorem dX9_init_38 : decode cX9_init 38 = .ok (.iconst 0, 1) := by decide +kernel
theorem dX9_init_39 : decode cX9_init 39 = .ok (.putfield 24, 3) := by decide +kernel
theorem dX9_init_42 : decode cX9_init 42 = .ok (.aload_n 0, 1) := by decide +kernel
theorem dX9_init_43 : decode cX9_init 43 = .ok (.aload_n 1, 1) := by decide +kernel
theorem dX9_init_44 : decode cX9_init 44 = .ok (.putfield 28, 3) := by decide +kernel
