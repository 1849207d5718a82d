theorem dX0_init_0 : decode cX0_init 0 = .ok (.aload_n 0, 1) := by decide +kernel
theorem dX0_init_1 : decode cX0_init 1 = .ok (.invokespecial 3, 3) := by decide +kernel
theorem dX0_init_4 : decode cX0_init 4 = .ok (.aload_n 0, 1) := by decide +kernel
theorem dX0_init_5 : decode cX0_init 5 = .ok (.bipush 60, 2) := by decide +kernel
theorem dX0_init_7 : decode cX0_init 7 = .ok (.newarray .char, 2) := by decide +kernel
theorem dX0_init_9 : decode cX0_init 9 = .ok (.putfield 9, 3) := by decide +kernel
theorem dX0_init_12 : decode cX0_init 12 = .ok (.return_, 1) := by decide +kernel
theorem dX0_put_0 : decode cX0_put 0 = .ok (.aload_n 0, 1) := by decide +kernel
theorem dX0_put_1 : decode cX0_put 1 = .ok (.getfield 9, 3) := by decide +kernel
theorem dX0_put_4 : decode cX0_put 4 = .ok (.aload_n 0, 1) := by decide +kernel
theorem dX0_put_5 : decode cX0_put 5 = .ok (.getfield 15, 3) := by decide +kernel
theorem dX0_put_8 : decode cX0_put 8 = .ok (.iload_n 1, 1) := by decide +kernel
theorem dX0_put_9 : decode cX0_put 9 = .ok (.castore, 1) := by decide +kernel
theorem dX0_put_10 : decode cX0_put 10 = .ok (.aload_n 0, 1) := by decide +kernel
theorem dX0_put_11 : decode cX0_put 11 = .ok (.dup, 1) := by decide +kernel
theorem dX0_put_12 : decode cX0_put 12 = .ok (.getfield 15, 3) := by decide +kernel
theorem dX0_put_15 : decode cX0_put 15 = .ok (.iconst 1, 1) := by decide +kernel
theorem dX0_put_16 : decode cX0_put 16 = .ok (.iadd, 1) := by decide +kernel
theorem dX0_put_17 : decode cX0_put 17 = .ok (.putfield 15, 3) := by decide +kernel
theorem dX0_put_20 : decode cX0_put 20 = .ok (.return_, 1) := by decide +kernel
theorem dX0_empty_0 : decode cX0_empty 0 = .ok (.aload_n 0, 1) := by decide +kernel
theorem dX0_empty_1 : decode cX0_empty 1 = .ok (.iconst 0, 1) := by decide +kernel
theorem dX0_empty_2 : decode cX0_empty 2 = .ok (.putfield 15, 3) := by decide +kernel
theorem dX0_empty_5 : decode cX0_empty 5 = .ok (.aload_n 0, 1) := by decide +kernel
theorem dX0_empty_6 : decode cX0_empty 6 = .ok (.iconst 0, 1) := by decide +kernel
theorem dX0_empty_7 : decode cX0_empty 7 = .ok (.putfield 19, 3) := by decide +kernel
theorem dX0_empty_10 : decode cX0_empty 10 = .ok (.return_, 1) := by decide +kernel
theorem dX0_startAgain_0 : decode cX0_startAgain 0 = .ok (.aload_n 0, 1) := by decide +kernel
theorem dX0_startAgain_1 : decode cX0_startAgain 1 = .ok (.iconst 0, 1) := by decide +kernel
theorem dX0_startAgain_2 : decode cX0_startAgain 2 = .ok (.putfield 19, 3) := by decide +kernel
theorem dX0_startAgain_5 : decode cX0_startAgain 5 = .ok (.return_, 1) := by decide +kernel
theorem dX0_findFault_0 : decode cX0_findFault 0 = .ok (.aload_n 0, 1) := by decide +kernel
theorem dX0_findFault_1 : decode cX0_findFault 1 = .ok (.invokevirtual 22, 3) := by decide +kernel
theorem dX0_findFault_4 : decode cX0_findFault 4 = .ok (.aload_n 0, 1) := by decide +kernel
theorem dX0_findFault_5 : decode cX0_findFault 5 = .ok (.invokevirtual 25, 3) := by decide +kernel
theorem dX0_findFault_8 : decode cX0_findFault 8 = .ok (.istore_n 1, 1) := by decide +kernel
theorem dX0_findFault_9 : decode cX0_findFault 9 = .ok (.iconst 0, 1) := by decide +kernel
theorem dX0_findFault_10 : decode cX0_findFault 10 = .ok (.istore_n 2, 1) := by decide +kernel
theorem dX0_findFault_11 : decode cX0_findFault 11 = .ok (.iload_n 2, 1) := by decide +kernel
theorem dX0_findFault_12 : decode cX0_findFault 12 = .ok (.bipush 60, 2) := by decide +kernel
theorem dX0_findFault_14 : decode cX0_findFault 14 = .ok (.if_icmp .ge 29, 3) := by decide +kernel
theorem dX0_findFault_17 : decode cX0_findFault 17 = .ok (.iload_n 1, 1) := by decide +kernel
theorem dX0_findFault_18 : decode cX0_findFault 18 = .ok (.ifCond .eq 25, 3) := by decide +kernel
theorem dX0_findFault_21 : decode cX0_findFault 21 = .ok (.aload_n 0, 1) := by decide +kernel
theorem dX0_findFault_22 : decode cX0_findFault 22 = .ok (.getfield 19, 3) := by decide +kernel
theorem dX0_findFault_25 : decode cX0_findFault 25 = .ok (.aload_n 0, 1) := by decide +kernel
theorem dX0_findFault_26 : decode cX0_findFault 26 = .ok (.getfield 15, 3) := by decide +kernel
theorem dX0_findFault_29 : decode cX0_findFault 29 = .ok (.if_icmp .ge 14, 3) := by decide +kernel
theorem dX0_findFault_32 : decode cX0_findFault 32 = .ok (.aload_n 0, 1) := by decide +kernel
theorem dX0_findFault_33 : decode cX0_findFault 33 = .ok (.invokevirtual 25, 3) := by decide +kernel
theorem dX0_findFault_36 : decode cX0_findFault 36 = .ok (.istore_n 1, 1) := by decide +kernel
theorem dX0_findFault_37 : decode cX0_findFault 37 = .ok (.iinc 2 1, 3) := by decide +kernel
theorem dX0_findFault_40 : decode cX0_findFault 40 = .ok (.goto (-29), 3) := by decide +kernel
theorem dX0_findFault_43 : decode cX0_findFault 43 = .ok (.iload_n 1, 1) := by decide +kernel
theorem dX0_findFault_44 : decode cX0_findFault 44 = .ok (.ifCond .eq 7, 3) := by decide +kernel
theorem dX0_findFault_47 : decode cX0_findFault 47 = .ok (.iconst (-1), 1) := by decide +kernel
theorem dX0_findFault_48 : decode cX0_findFault 48 = .ok (.goto 7, 3) := by decide +kernel
theorem dX0_findFault_51 : decode cX0_findFault 51 = .ok (.aload_n 0, 1) := by decide +kernel
theorem dX0_findFault_52 : decode cX0_findFault 52 = .ok (.getfield 19, 3) := by decide +kernel
theorem dX0_findFault_55 : decode cX0_findFault 55 = .ok (.ireturn, 1) := by decide +kernel
theorem dX0_takeNextCost_0 : decode cX0_takeNextCost 0 = .ok (.aload_n 0, 1) := by decide +kernel
theorem dX0_takeNextCost_1 : decode cX0_takeNextCost 1 = .ok (.getfield 19, 3) := by decide +kernel
theorem dX0_takeNextCost_4 : decode cX0_takeNextCost 4 = .ok (.ifCond .eq 12, 3) := by decide +kernel
theorem dX0_takeNextCost_7 : decode cX0_takeNextCost 7 = .ok (.aload_n 0, 1) := by decide +kernel
theorem dX0_takeNextCost_8 : decode cX0_takeNextCost 8 = .ok (.bipush 59, 2) := by decide +kernel
theorem dX0_takeNextCost_10 : decode cX0_takeNextCost 10 = .ok (.invokevirtual 29, 3) := by decide +kernel
theorem dX0_takeNextCost_13 : decode cX0_takeNextCost 13 = .ok (.ifCond .eq 53, 3) := by decide +kernel
theorem dX0_takeNextCost_16 : decode cX0_takeNextCost 16 = .ok (.aload_n 0, 1) := by decide +kernel
theorem dX0_takeNextCost_17 : decode cX0_takeNextCost 17 = .ok (.invokevirtual 33, 3) := by decide +kernel
theorem dX0_takeNextCost_20 : decode cX0_takeNextCost 20 = .ok (.ifCond .eq 46, 3) := by decide +kernel
theorem dX0_takeNextCost_23 : decode cX0_takeNextCost 23 = .ok (.aload_n 0, 1) := by decide +kernel
theorem dX0_takeNextCost_24 : decode cX0_takeNextCost 24 = .ok (.bipush 58, 2) := by decide +kernel
theorem dX0_takeNextCost_26 : decode cX0_takeNextCost 26 = .ok (.invokevirtual 29, 3) := by decide +kernel
theorem dX0_takeNextCost_29 : decode cX0_takeNextCost 29 = .ok (.ifCond .eq 37, 3) := by decide +kernel
theorem dX0_takeNextCost_32 : decode cX0_takeNextCost 32 = .ok (.aload_n 0, 1) := by decide +kernel
theorem dX0_takeNextCost_33 : decode cX0_takeNextCost 33 = .ok (.invokevirtual 36, 3) := by decide +kernel
theorem dX0_takeNextCost_36 : decode cX0_takeNextCost 36 = .ok (.ifCond .eq 30, 3) := by decide +kernel
theorem dX0_takeNextCost_39 : decode cX0_takeNextCost 39 = .ok (.aload_n 0, 1) := by decide +kernel
theorem dX0_takeNextCost_40 : decode cX0_takeNextCost 40 = .ok (.bipush 61, 2) := by decide +kernel
theorem dX0_takeNextCost_42 : decode cX0_takeNextCost 42 = .ok (.invokevirtual 29, 3) := by decide +kernel
theorem dX0_takeNextCost_45 : decode cX0_takeNextCost 45 = .ok (.ifCond .eq 21, 3) := by decide +kernel
theorem dX0_takeNextCost_48 : decode cX0_takeNextCost 48 = .ok (.aload_n 0, 1) := by decide +kernel
theorem dX0_takeNextCost_49 : decode cX0_takeNextCost 49 = .ok (.invokevirtual 39, 3) := by decide +kernel
theorem dX0_takeNextCost_52 : decode cX0_takeNextCost 52 = .ok (.ifCond .eq 14, 3) := by decide +kernel
theorem dX0_takeNextCost_55 : decode cX0_takeNextCost 55 = .ok (.aload_n 0, 1) := by decide +kernel
theorem dX0_takeNextCost_56 : decode cX0_takeNextCost 56 = .ok (.invokevirtual 42, 3) := by decide +kernel
theorem dX0_takeNextCost_59 : decode cX0_takeNextCost 59 = .ok (.ifCond .eq 7, 3) := by decide +kernel
theorem dX0_takeNextCost_62 : decode cX0_takeNextCost 62 = .ok (.iconst 1, 1) := by decide +kernel
theorem dX0_takeNextCost_63 : decode cX0_takeNextCost 63 = .ok (.goto 4, 3) := by decide +kernel
theorem dX0_takeNextCost_66 : decode cX0_takeNextCost 66 = .ok (.iconst 0, 1) := by decide +kernel
theorem dX0_takeNextCost_67 : decode cX0_takeNextCost 67 = .ok (.ireturn, 1) := by decide +kernel
theorem dX0_takeKindAndPlace_0 : decode cX0_takeKindAndPlace 0 = .ok (.aload_n 0, 1) := by decide +kernel
theorem dX0_takeKindAndPlace_1 : decode cX0_takeKindAndPlace 1 = .ok (.bipush 97, 2) := by decide +kernel
theorem dX0_takeKindAndPlace_3 : decode cX0_takeKindAndPlace 3 = .ok (.invokevirtual 29, 3) := by decide +kernel
theorem dX0_takeKindAndPlace_6 : decode cX0_takeKindAndPlace 6 = .ok (.ifCond .eq 10, 3) := by decide +kernel
theorem dX0_takeKindAndPlace_9 : decode cX0_takeKindAndPlace 9 = .ok (.aload_n 0, 1) := by decide +kernel
theorem dX0_takeKindAndPlace_10 : decode cX0_takeKindAndPlace 10 = .ok (.iconst 0, 1) := by decide +kernel
theorem dX0_takeKindAndPlace_11 : decode cX0_takeKindAndPlace 11 = .ok (.iconst 0, 1) := by decide +kernel
theorem dX0_takeKindAndPlace_12 : decode cX0_takeKindAndPlace 12 = .ok (.invokevirtual 45, 3) := by decide +kernel
theorem dX0_takeKindAndPlace_15 : decode cX0_takeKindAndPlace 15 = .ok (.ireturn, 1) := by decide +kernel
theorem dX0_takeKindAndPlace_16 : decode cX0_takeKindAndPlace 16 = .ok (.aload_n 0, 1) := by decide +kernel
theorem dX0_takeKindAndPlace_17 : decode cX0_takeKindAndPlace 17 = .ok (.bipush 101, 2) := by decide +kernel
theorem dX0_takeKindAndPlace_19 : decode cX0_takeKindAndPlace 19 = .ok (.invokevirtual 29, 3) := by decide +kernel
theorem dX0_takeKindAndPlace_22 : decode cX0_takeKindAndPlace 22 = .ok (.ifCond .eq 10, 3) := by decide +kernel
theorem dX0_takeKindAndPlace_25 : decode cX0_takeKindAndPlace 25 = .ok (.aload_n 0, 1) := by decide +kernel
theorem dX0_takeKindAndPlace_26 : decode cX0_takeKindAndPlace 26 = .ok (.iconst 3, 1) := by decide +kernel
theorem dX0_takeKindAndPlace_27 : decode cX0_takeKindAndPlace 27 = .ok (.iconst 0, 1) := by decide +kernel
theorem dX0_takeKindAndPlace_28 : decode cX0_takeKindAndPlace 28 = .ok (.invokevirtual 45, 3) := by decide +kernel
theorem dX0_takeKindAndPlace_31 : decode cX0_takeKindAndPlace 31 = .ok (.ireturn, 1) := by decide +kernel
theorem dX0_takeKindAndPlace_32 : decode cX0_takeKindAndPlace 32 = .ok (.aload_n 0, 1) := by decide +kernel
theorem dX0_takeKindAndPlace_33 : decode cX0_takeKindAndPlace 33 = .ok (.bipush 109, 2) := by decide +kernel
theorem dX0_takeKindAndPlace_35 : decode cX0_takeKindAndPlace 35 = .ok (.invokevirtual 29, 3) := by decide +kernel
theorem dX0_takeKindAndPlace_38 : decode cX0_takeKindAndPlace 38 = .ok (.ifCond .eq 10, 3) := by decide +kernel
theorem dX0_takeKindAndPlace_41 : decode cX0_takeKindAndPlace 41 = .ok (.aload_n 0, 1) := by decide +kernel
theorem dX0_takeKindAndPlace_42 : decode cX0_takeKindAndPlace 42 = .ok (.iconst 4, 1) := by decide +kernel
theorem dX0_takeKindAndPlace_43 : decode cX0_takeKindAndPlace 43 = .ok (.iconst 0, 1) := by decide +kernel
theorem dX0_takeKindAndPlace_44 : decode cX0_takeKindAndPlace 44 = .ok (.invokevirtual 45, 3) := by decide +kernel
theorem dX0_takeKindAndPlace_47 : decode cX0_takeKindAndPlace 47 = .ok (.ireturn, 1) := by decide +kernel
theorem dX0_takeKindAndPlace_48 : decode cX0_takeKindAndPlace 48 = .ok (.aload_n 0, 1) := by decide +kernel
theorem dX0_takeKindAndPlace_49 : decode cX0_takeKindAndPlace 49 = .ok (.bipush 104, 2) := by decide +kernel
theorem dX0_takeKindAndPlace_51 : decode cX0_takeKindAndPlace 51 = .ok (.invokevirtual 29, 3) := by decide +kernel
theorem dX0_takeKindAndPlace_54 : decode cX0_takeKindAndPlace 54 = .ok (.ifCond .eq 14, 3) := by decide +kernel
theorem dX0_takeKindAndPlace_57 : decode cX0_takeKindAndPlace 57 = .ok (.aload_n 0, 1) := by decide +kernel
theorem dX0_takeKindAndPlace_58 : decode cX0_takeKindAndPlace 58 = .ok (.iconst 1, 1) := by decide +kernel
theorem dX0_takeKindAndPlace_59 : decode cX0_takeKindAndPlace 59 = .ok (.aload_n 0, 1) := by decide +kernel
theorem dX0_takeKindAndPlace_60 : decode cX0_takeKindAndPlace 60 = .ok (.iconst 2, 1) := by decide +kernel
theorem dX0_takeKindAndPlace_61 : decode cX0_takeKindAndPlace 61 = .ok (.invokevirtual 49, 3) := by decide +kernel
theorem dX0_takeKindAndPlace_64 : decode cX0_takeKindAndPlace 64 = .ok (.invokevirtual 45, 3) := by decide +kernel
theorem dX0_takeKindAndPlace_67 : decode cX0_takeKindAndPlace 67 = .ok (.ireturn, 1) := by decide +kernel
theorem dX0_takeKindAndPlace_68 : decode cX0_takeKindAndPlace 68 = .ok (.aload_n 0, 1) := by decide +kernel
theorem dX0_takeKindAndPlace_69 : decode cX0_takeKindAndPlace 69 = .ok (.bipush 115, 2) := by decide +kernel
theorem dX0_takeKindAndPlace_71 : decode cX0_takeKindAndPlace 71 = .ok (.invokevirtual 29, 3) := by decide +kernel
theorem dX0_takeKindAndPlace_74 : decode cX0_takeKindAndPlace 74 = .ok (.ifCond .eq 14, 3) := by decide +kernel
theorem dX0_takeKindAndPlace_77 : decode cX0_takeKindAndPlace 77 = .ok (.aload_n 0, 1) := by decide +kernel
theorem dX0_takeKindAndPlace_78 : decode cX0_takeKindAndPlace 78 = .ok (.invokevirtual 53, 3) := by decide +kernel
theorem dX0_takeKindAndPlace_81 : decode cX0_takeKindAndPlace 81 = .ok (.ifCond .eq 7, 3) := by decide +kernel
theorem dX0_takeKindAndPlace_84 : decode cX0_takeKindAndPlace 84 = .ok (.iconst 1, 1) := by decide +kernel
theorem dX0_takeKindAndPlace_85 : decode cX0_takeKindAndPlace 85 = .ok (.goto 4, 3) := by decide +kernel
theorem dX0_takeKindAndPlace_88 : decode cX0_takeKindAndPlace 88 = .ok (.iconst 0, 1) := by decide +kernel
theorem dX0_takeKindAndPlace_89 : decode cX0_takeKindAndPlace 89 = .ok (.ireturn, 1) := by decide +kernel
theorem dX0_takeStair_0 : decode cX0_takeStair 0 = .ok (.aload_n 0, 1) := by decide +kernel
theorem dX0_takeStair_1 : decode cX0_takeStair 1 = .ok (.iconst 2, 1) := by decide +kernel
theorem dX0_takeStair_2 : decode cX0_takeStair 2 = .ok (.invokevirtual 49, 3) := by decide +kernel
theorem dX0_takeStair_5 : decode cX0_takeStair 5 = .ok (.istore_n 1, 1) := by decide +kernel
theorem dX0_takeStair_6 : decode cX0_takeStair 6 = .ok (.iload_n 1, 1) := by decide +kernel
theorem dX0_takeStair_7 : decode cX0_takeStair 7 = .ok (.ifCond .ge 5, 3) := by decide +kernel
theorem dX0_takeStair_10 : decode cX0_takeStair 10 = .ok (.iconst 0, 1) := by decide +kernel
theorem dX0_takeStair_11 : decode cX0_takeStair 11 = .ok (.ireturn, 1) := by decide +kernel
theorem dX0_takeStair_12 : decode cX0_takeStair 12 = .ok (.aload_n 0, 1) := by decide +kernel
theorem dX0_takeStair_13 : decode cX0_takeStair 13 = .ok (.iconst 2, 1) := by decide +kernel
theorem dX0_takeStair_14 : decode cX0_takeStair 14 = .ok (.invokevirtual 49, 3) := by decide +kernel
theorem dX0_takeStair_17 : decode cX0_takeStair 17 = .ok (.istore_n 2, 1) := by decide +kernel
theorem dX0_takeStair_18 : decode cX0_takeStair 18 = .ok (.aload_n 0, 1) := by decide +kernel
theorem dX0_takeStair_19 : decode cX0_takeStair 19 = .ok (.iconst 2, 1) := by decide +kernel
theorem dX0_takeStair_20 : decode cX0_takeStair 20 = .ok (.iload_n 2, 1) := by decide +kernel
theorem dX0_takeStair_21 : decode cX0_takeStair 21 = .ok (.ifCond .ge 7, 3) := by decide +kernel
theorem dX0_takeStair_24 : decode cX0_takeStair 24 = .ok (.iload_n 2, 1) := by decide +kernel
theorem dX0_takeStair_25 : decode cX0_takeStair 25 = .ok (.goto 8, 3) := by decide +kernel
theorem dX0_takeStair_28 : decode cX0_takeStair 28 = .ok (.iload_n 1, 1) := by decide +kernel
theorem dX0_takeStair_29 : decode cX0_takeStair 29 = .ok (.iconst 3, 1) := by decide +kernel
theorem dX0_takeStair_30 : decode cX0_takeStair 30 = .ok (.imul, 1) := by decide +kernel
theorem dX0_takeStair_31 : decode cX0_takeStair 31 = .ok (.iload_n 2, 1) := by decide +kernel
theorem dX0_takeStair_32 : decode cX0_takeStair 32 = .ok (.iadd, 1) := by decide +kernel
theorem dX0_takeStair_33 : decode cX0_takeStair 33 = .ok (.invokevirtual 45, 3) := by decide +kernel
theorem dX0_takeStair_36 : decode cX0_takeStair 36 = .ok (.ireturn, 1) := by decide +kernel
theorem dX0_putKindAndPlace_0 : decode cX0_putKindAndPlace 0 = .ok (.aload_n 0, 1) := by decide +kernel
theorem dX0_putKindAndPlace_1 : decode cX0_putKindAndPlace 1 = .ok (.iload_n 1, 1) := by decide +kernel
theorem dX0_putKindAndPlace_2 : decode cX0_putKindAndPlace 2 = .ok (.putfield 56, 3) := by decide +kernel
theorem dX0_putKindAndPlace_5 : decode cX0_putKindAndPlace 5 = .ok (.aload_n 0, 1) := by decide +kernel
theorem dX0_putKindAndPlace_6 : decode cX0_putKindAndPlace 6 = .ok (.iload_n 2, 1) := by decide +kernel
theorem dX0_putKindAndPlace_7 : decode cX0_putKindAndPlace 7 = .ok (.putfield 59, 3) := by decide +kernel
theorem dX0_putKindAndPlace_10 : decode cX0_putKindAndPlace 10 = .ok (.aload_n 0, 1) := by decide +kernel
theorem dX0_putKindAndPlace_11 : decode cX0_putKindAndPlace 11 = .ok (.getfield 59, 3) := by decide +kernel
theorem dX0_putKindAndPlace_14 : decode cX0_putKindAndPlace 14 = .ok (.ifCond .lt 7, 3) := by decide +kernel
theorem dX0_putKindAndPlace_17 : decode cX0_putKindAndPlace 17 = .ok (.iconst 1, 1) := by decide +kernel
theorem dX0_putKindAndPlace_18 : decode cX0_putKindAndPlace 18 = .ok (.goto 4, 3) := by decide +kernel
theorem dX0_putKindAndPlace_21 : decode cX0_putKindAndPlace 21 = .ok (.iconst 0, 1) := by decide +kernel
theorem dX0_putKindAndPlace_22 : decode cX0_putKindAndPlace 22 = .ok (.ireturn, 1) := by decide +kernel
theorem dX0_takePurpose_0 : decode cX0_takePurpose 0 = .ok (.aload_n 0, 1) := by decide +kernel
theorem dX0_takePurpose_1 : decode cX0_takePurpose 1 = .ok (.aload_n 0, 1) := by decide +kernel
theorem dX0_takePurpose_2 : decode cX0_takePurpose 2 = .ok (.iconst 4, 1) := by decide +kernel
theorem dX0_takePurpose_3 : decode cX0_takePurpose 3 = .ok (.invokevirtual 49, 3) := by decide +kernel
theorem dX0_takePurpose_6 : decode cX0_takePurpose 6 = .ok (.putfield 62, 3) := by decide +kernel
theorem dX0_takePurpose_9 : decode cX0_takePurpose 9 = .ok (.aload_n 0, 1) := by decide +kernel
theorem dX0_takePurpose_10 : decode cX0_takePurpose 10 = .ok (.getfield 62, 3) := by decide +kernel
theorem dX0_takePurpose_13 : decode cX0_takePurpose 13 = .ok (.ifCond .lt 7, 3) := by decide +kernel
theorem dX0_takePurpose_16 : decode cX0_takePurpose 16 = .ok (.iconst 1, 1) := by decide +kernel
theorem dX0_takePurpose_17 : decode cX0_takePurpose 17 = .ok (.goto 4, 3) := by decide +kernel
theorem dX0_takePurpose_20 : decode cX0_takePurpose 20 = .ok (.iconst 0, 1) := by decide +kernel
theorem dX0_takePurpose_21 : decode cX0_takePurpose 21 = .ok (.ireturn, 1) := by decide +kernel
theorem dX0_takeAmount_0 : decode cX0_takeAmount 0 = .ok (.aload_n 0, 1) := by decide +kernel
theorem dX0_takeAmount_1 : decode cX0_takeAmount 1 = .ok (.invokevirtual 65, 3) := by decide +kernel
theorem dX0_takeAmount_4 : decode cX0_takeAmount 4 = .ok (.istore_n 1, 1) := by decide +kernel
theorem dX0_takeAmount_5 : decode cX0_takeAmount 5 = .ok (.iload_n 1, 1) := by decide +kernel
theorem dX0_takeAmount_6 : decode cX0_takeAmount 6 = .ok (.ifCond .lt 12, 3) := by decide +kernel
theorem dX0_takeAmount_9 : decode cX0_takeAmount 9 = .ok (.aload_n 0, 1) := by decide +kernel
theorem dX0_takeAmount_10 : decode cX0_takeAmount 10 = .ok (.bipush 46, 2) := by decide +kernel
theorem dX0_takeAmount_12 : decode cX0_takeAmount 12 = .ok (.invokevirtual 29, 3) := by decide +kernel
theorem dX0_takeAmount_15 : decode cX0_takeAmount 15 = .ok (.ifCond .ne 5, 3) := by decide +kernel
theorem dX0_takeAmount_18 : decode cX0_takeAmount 18 = .ok (.iconst 0, 1) := by decide +kernel
theorem dX0_takeAmount_19 : decode cX0_takeAmount 19 = .ok (.ireturn, 1) := by decide +kernel
theorem dX0_takeAmount_20 : decode cX0_takeAmount 20 = .ok (.aload_n 0, 1) := by decide +kernel
theorem dX0_takeAmount_21 : decode cX0_takeAmount 21 = .ok (.bipush 9, 2) := by decide +kernel
theorem dX0_takeAmount_23 : decode cX0_takeAmount 23 = .ok (.invokevirtual 49, 3) := by decide +kernel
theorem dX0_takeAmount_26 : decode cX0_takeAmount 26 = .ok (.istore_n 2, 1) := by decide +kernel
theorem dX0_takeAmount_27 : decode cX0_takeAmount 27 = .ok (.iload_n 2, 1) := by decide +kernel
theorem dX0_takeAmount_28 : decode cX0_takeAmount 28 = .ok (.ifCond .ge 7, 3) := by decide +kernel
theorem dX0_takeAmount_31 : decode cX0_takeAmount 31 = .ok (.iconst (-1), 1) := by decide +kernel
theorem dX0_takeAmount_32 : decode cX0_takeAmount 32 = .ok (.goto 9, 3) := by decide +kernel
theorem dX0_takeAmount_35 : decode cX0_takeAmount 35 = .ok (.aload_n 0, 1) := by decide +kernel
theorem dX0_takeAmount_36 : decode cX0_takeAmount 36 = .ok (.bipush 9, 2) := by decide +kernel
theorem dX0_takeAmount_38 : decode cX0_takeAmount 38 = .ok (.invokevirtual 49, 3) := by decide +kernel
theorem dX0_takeAmount_41 : decode cX0_takeAmount 41 = .ok (.istore_n 3, 1) := by decide +kernel
theorem dX0_takeAmount_42 : decode cX0_takeAmount 42 = .ok (.aload_n 0, 1) := by decide +kernel
theorem dX0_takeAmount_43 : decode cX0_takeAmount 43 = .ok (.iload_n 1, 1) := by decide +kernel
theorem dX0_takeAmount_44 : decode cX0_takeAmount 44 = .ok (.bipush 100, 2) := by decide +kernel
theorem dX0_takeAmount_46 : decode cX0_takeAmount 46 = .ok (.imul, 1) := by decide +kernel
theorem dX0_takeAmount_47 : decode cX0_takeAmount 47 = .ok (.iload_n 2, 1) := by decide +kernel
theorem dX0_takeAmount_48 : decode cX0_takeAmount 48 = .ok (.bipush 10, 2) := by decide +kernel
theorem dX0_takeAmount_50 : decode cX0_takeAmount 50 = .ok (.imul, 1) := by decide +kernel
theorem dX0_takeAmount_51 : decode cX0_takeAmount 51 = .ok (.iadd, 1) := by decide +kernel
theorem dX0_takeAmount_52 : decode cX0_takeAmount 52 = .ok (.iload_n 3, 1) := by decide +kernel
theorem dX0_takeAmount_53 : decode cX0_takeAmount 53 = .ok (.iadd, 1) := by decide +kernel
theorem dX0_takeAmount_54 : decode cX0_takeAmount 54 = .ok (.putfield 69, 3) := by decide +kernel
theorem dX0_takeAmount_57 : decode cX0_takeAmount 57 = .ok (.iload_n 3, 1) := by decide +kernel
theorem dX0_takeAmount_58 : decode cX0_takeAmount 58 = .ok (.ifCond .lt 7, 3) := by decide +kernel
theorem dX0_takeAmount_61 : decode cX0_takeAmount 61 = .ok (.iconst 1, 1) := by decide +kernel
theorem dX0_takeAmount_62 : decode cX0_takeAmount 62 = .ok (.goto 4, 3) := by decide +kernel
theorem dX0_takeAmount_65 : decode cX0_takeAmount 65 = .ok (.iconst 0, 1) := by decide +kernel
theorem dX0_takeAmount_66 : decode cX0_takeAmount 66 = .ok (.ireturn, 1) := by decide +kernel
theorem dX0_takeWholeMoney_0 : decode cX0_takeWholeMoney 0 = .ok (.aload_n 0, 1) := by decide +kernel
theorem dX0_takeWholeMoney_1 : decode cX0_takeWholeMoney 1 = .ok (.bipush 9, 2) := by decide +kernel
theorem dX0_takeWholeMoney_3 : decode cX0_takeWholeMoney 3 = .ok (.invokevirtual 49, 3) := by decide +kernel
theorem dX0_takeWholeMoney_6 : decode cX0_takeWholeMoney 6 = .ok (.istore_n 1, 1) := by decide +kernel
theorem dX0_takeWholeMoney_7 : decode cX0_takeWholeMoney 7 = .ok (.iload_n 1, 1) := by decide +kernel
theorem dX0_takeWholeMoney_8 : decode cX0_takeWholeMoney 8 = .ok (.ifCond .gt 5, 3) := by decide +kernel
theorem dX0_takeWholeMoney_11 : decode cX0_takeWholeMoney 11 = .ok (.iload_n 1, 1) := by decide +kernel
theorem dX0_takeWholeMoney_12 : decode cX0_takeWholeMoney 12 = .ok (.ireturn, 1) := by decide +kernel
theorem dX0_takeWholeMoney_13 : decode cX0_takeWholeMoney 13 = .ok (.iconst 1, 1) := by decide +kernel
theorem dX0_takeWholeMoney_14 : decode cX0_takeWholeMoney 14 = .ok (.istore_n 2, 1) := by decide +kernel
theorem dX0_takeWholeMoney_15 : decode cX0_takeWholeMoney 15 = .ok (.iload_n 2, 1) := by decide +kernel
theorem dX0_takeWholeMoney_16 : decode cX0_takeWholeMoney 16 = .ok (.iconst 5, 1) := by decide +kernel
theorem dX0_takeWholeMoney_17 : decode cX0_takeWholeMoney 17 = .ok (.if_icmp .ge 29, 3) := by decide +kernel
theorem dX0_takeWholeMoney_20 : decode cX0_takeWholeMoney 20 = .ok (.aload_n 0, 1) := by decide +kernel
theorem dX0_takeWholeMoney_21 : decode cX0_takeWholeMoney 21 = .ok (.bipush 9, 2) := by decide +kernel
theorem dX0_takeWholeMoney_23 : decode cX0_takeWholeMoney 23 = .ok (.invokevirtual 49, 3) := by decide +kernel
theorem dX0_takeWholeMoney_26 : decode cX0_takeWholeMoney 26 = .ok (.istore_n 3, 1) := by decide +kernel
theorem dX0_takeWholeMoney_27 : decode cX0_takeWholeMoney 27 = .ok (.iload_n 3, 1) := by decide +kernel
theorem dX0_takeWholeMoney_28 : decode cX0_takeWholeMoney 28 = .ok (.ifCond .ge 5, 3) := by decide +kernel
theorem dX0_takeWholeMoney_31 : decode cX0_takeWholeMoney 31 = .ok (.iload_n 1, 1) := by decide +kernel
theorem dX0_takeWholeMoney_32 : decode cX0_takeWholeMoney 32 = .ok (.ireturn, 1) := by decide +kernel
theorem dX0_takeWholeMoney_33 : decode cX0_takeWholeMoney 33 = .ok (.iload_n 1, 1) := by decide +kernel
theorem dX0_takeWholeMoney_34 : decode cX0_takeWholeMoney 34 = .ok (.bipush 10, 2) := by decide +kernel
theorem dX0_takeWholeMoney_36 : decode cX0_takeWholeMoney 36 = .ok (.imul, 1) := by decide +kernel
theorem dX0_takeWholeMoney_37 : decode cX0_takeWholeMoney 37 = .ok (.iload_n 3, 1) := by decide +kernel
theorem dX0_takeWholeMoney_38 : decode cX0_takeWholeMoney 38 = .ok (.iadd, 1) := by decide +kernel
theorem dX0_takeWholeMoney_39 : decode cX0_takeWholeMoney 39 = .ok (.istore_n 1, 1) := by decide +kernel
theorem dX0_takeWholeMoney_40 : decode cX0_takeWholeMoney 40 = .ok (.iinc 2 1, 3) := by decide +kernel
theorem dX0_takeWholeMoney_43 : decode cX0_takeWholeMoney 43 = .ok (.goto (-28), 3) := by decide +kernel
theorem dX0_takeWholeMoney_46 : decode cX0_takeWholeMoney 46 = .ok (.iload_n 1, 1) := by decide +kernel
theorem dX0_takeWholeMoney_47 : decode cX0_takeWholeMoney 47 = .ok (.ireturn, 1) := by decide +kernel
theorem dX0_takeFunding_0 : decode cX0_takeFunding 0 = .ok (.aload_n 0, 1) := by decide +kernel
theorem dX0_takeFunding_1 : decode cX0_takeFunding 1 = .ok (.aload_n 0, 1) := by decide +kernel
theorem dX0_takeFunding_2 : decode cX0_takeFunding 2 = .ok (.bipush 102, 2) := by decide +kernel
theorem dX0_takeFunding_4 : decode cX0_takeFunding 4 = .ok (.invokevirtual 29, 3) := by decide +kernel
theorem dX0_takeFunding_7 : decode cX0_takeFunding 7 = .ok (.putfield 72, 3) := by decide +kernel
theorem dX0_takeFunding_10 : decode cX0_takeFunding 10 = .ok (.iconst 1, 1) := by decide +kernel
theorem dX0_takeFunding_11 : decode cX0_takeFunding 11 = .ok (.ireturn, 1) := by decide +kernel
theorem dX0_takeSign_0 : decode cX0_takeSign 0 = .ok (.aload_n 0, 1) := by decide +kernel
theorem dX0_takeSign_1 : decode cX0_takeSign 1 = .ok (.getfield 19, 3) := by decide +kernel
theorem dX0_takeSign_4 : decode cX0_takeSign 4 = .ok (.aload_n 0, 1) := by decide +kernel
theorem dX0_takeSign_5 : decode cX0_takeSign 5 = .ok (.getfield 15, 3) := by decide +kernel
theorem dX0_takeSign_8 : decode cX0_takeSign 8 = .ok (.if_icmp .ge 16, 3) := by decide +kernel
theorem dX0_takeSign_11 : decode cX0_takeSign 11 = .ok (.aload_n 0, 1) := by decide +kernel
theorem dX0_takeSign_12 : decode cX0_takeSign 12 = .ok (.getfield 9, 3) := by decide +kernel
theorem dX0_takeSign_15 : decode cX0_takeSign 15 = .ok (.aload_n 0, 1) := by decide +kernel
theorem dX0_takeSign_16 : decode cX0_takeSign 16 = .ok (.getfield 19, 3) := by decide +kernel
theorem dX0_takeSign_19 : decode cX0_takeSign 19 = .ok (.caload, 1) := by decide +kernel
theorem dX0_takeSign_20 : decode cX0_takeSign 20 = .ok (.iload_n 1, 1) := by decide +kernel
theorem dX0_takeSign_21 : decode cX0_takeSign 21 = .ok (.if_icmp .eq 5, 3) := by decide +kernel
theorem dX0_takeSign_24 : decode cX0_takeSign 24 = .ok (.iconst 0, 1) := by decide +kernel
theorem dX0_takeSign_25 : decode cX0_takeSign 25 = .ok (.ireturn, 1) := by decide +kernel
theorem dX0_takeSign_26 : decode cX0_takeSign 26 = .ok (.aload_n 0, 1) := by decide +kernel
theorem dX0_takeSign_27 : decode cX0_takeSign 27 = .ok (.dup, 1) := by decide +kernel
theorem dX0_takeSign_28 : decode cX0_takeSign 28 = .ok (.getfield 19, 3) := by decide +kernel
theorem dX0_takeSign_31 : decode cX0_takeSign 31 = .ok (.iconst 1, 1) := by decide +kernel
theorem dX0_takeSign_32 : decode cX0_takeSign 32 = .ok (.iadd, 1) := by decide +kernel
theorem dX0_takeSign_33 : decode cX0_takeSign 33 = .ok (.putfield 19, 3) := by decide +kernel
theorem dX0_takeSign_36 : decode cX0_takeSign 36 = .ok (.iconst 1, 1) := by decide +kernel
theorem dX0_takeSign_37 : decode cX0_takeSign 37 = .ok (.ireturn, 1) := by decide +kernel
theorem dX0_takeDigit_0 : decode cX0_takeDigit 0 = .ok (.aload_n 0, 1) := by decide +kernel
theorem dX0_takeDigit_1 : decode cX0_takeDigit 1 = .ok (.getfield 19, 3) := by decide +kernel
theorem dX0_takeDigit_4 : decode cX0_takeDigit 4 = .ok (.aload_n 0, 1) := by decide +kernel
theorem dX0_takeDigit_5 : decode cX0_takeDigit 5 = .ok (.getfield 15, 3) := by decide +kernel
theorem dX0_takeDigit_8 : decode cX0_takeDigit 8 = .ok (.if_icmp .lt 5, 3) := by decide +kernel
theorem dX0_takeDigit_11 : decode cX0_takeDigit 11 = .ok (.iconst (-1), 1) := by decide +kernel
theorem dX0_takeDigit_12 : decode cX0_takeDigit 12 = .ok (.ireturn, 1) := by decide +kernel
theorem dX0_takeDigit_13 : decode cX0_takeDigit 13 = .ok (.aload_n 0, 1) := by decide +kernel
theorem dX0_takeDigit_14 : decode cX0_takeDigit 14 = .ok (.getfield 9, 3) := by decide +kernel
theorem dX0_takeDigit_17 : decode cX0_takeDigit 17 = .ok (.aload_n 0, 1) := by decide +kernel
theorem dX0_takeDigit_18 : decode cX0_takeDigit 18 = .ok (.getfield 19, 3) := by decide +kernel
theorem dX0_takeDigit_21 : decode cX0_takeDigit 21 = .ok (.caload, 1) := by decide +kernel
theorem dX0_takeDigit_22 : decode cX0_takeDigit 22 = .ok (.bipush 48, 2) := by decide +kernel
theorem dX0_takeDigit_24 : decode cX0_takeDigit 24 = .ok (.isub, 1) := by decide +kernel
theorem dX0_takeDigit_25 : decode cX0_takeDigit 25 = .ok (.istore_n 2, 1) := by decide +kernel
theorem dX0_takeDigit_26 : decode cX0_takeDigit 26 = .ok (.iload_n 2, 1) := by decide +kernel
theorem dX0_takeDigit_27 : decode cX0_takeDigit 27 = .ok (.ifCond .lt 8, 3) := by decide +kernel
theorem dX0_takeDigit_30 : decode cX0_takeDigit 30 = .ok (.iload_n 2, 1) := by decide +kernel
theorem dX0_takeDigit_31 : decode cX0_takeDigit 31 = .ok (.iload_n 1, 1) := by decide +kernel
theorem dX0_takeDigit_32 : decode cX0_takeDigit 32 = .ok (.if_icmp .le 5, 3) := by decide +kernel
theorem dX0_takeDigit_35 : decode cX0_takeDigit 35 = .ok (.iconst (-1), 1) := by decide +kernel
theorem dX0_takeDigit_36 : decode cX0_takeDigit 36 = .ok (.ireturn, 1) := by decide +kernel
theorem dX0_takeDigit_37 : decode cX0_takeDigit 37 = .ok (.aload_n 0, 1) := by decide +kernel
theorem dX0_takeDigit_38 : decode cX0_takeDigit 38 = .ok (.dup, 1) := by decide +kernel
theorem dX0_takeDigit_39 : decode cX0_takeDigit 39 = .ok (.getfield 19, 3) := by decide +kernel
theorem dX0_takeDigit_42 : decode cX0_takeDigit 42 = .ok (.iconst 1, 1) := by decide +kernel
theorem dX0_takeDigit_43 : decode cX0_takeDigit 43 = .ok (.iadd, 1) := by decide +kernel
theorem dX0_takeDigit_44 : decode cX0_takeDigit 44 = .ok (.putfield 19, 3) := by decide +kernel
theorem dX0_takeDigit_47 : decode cX0_takeDigit 47 = .ok (.iload_n 2, 1) := by decide +kernel
theorem dX0_takeDigit_48 : decode cX0_takeDigit 48 = .ok (.ireturn, 1) := by decide +kernel
theorem dX1_init_0 : decode cX1_init 0 = .ok (.aload_n 0, 1) := by decide +kernel
theorem dX1_init_1 : decode cX1_init 1 = .ok (.invokespecial 3, 3) := by decide +kernel
theorem dX1_init_4 : decode cX1_init 4 = .ok (.aload_n 0, 1) := by decide +kernel
theorem dX1_init_5 : decode cX1_init 5 = .ok (.bipush 120, 2) := by decide +kernel
theorem dX1_init_7 : decode cX1_init 7 = .ok (.newarray .int, 2) := by decide +kernel
theorem dX1_init_9 : decode cX1_init 9 = .ok (.putfield 11, 3) := by decide +kernel
theorem dX1_init_12 : decode cX1_init 12 = .ok (.aload_n 0, 1) := by decide +kernel
theorem dX1_init_13 : decode cX1_init 13 = .ok (.sipush 240, 3) := by decide +kernel
theorem dX1_init_16 : decode cX1_init 16 = .ok (.newarray .int, 2) := by decide +kernel
theorem dX1_init_18 : decode cX1_init 18 = .ok (.putfield 15, 3) := by decide +kernel
theorem dX1_init_21 : decode cX1_init 21 = .ok (.return_, 1) := by decide +kernel
theorem dX1_copyFrom_0 : decode cX1_copyFrom 0 = .ok (.aload_n 0, 1) := by decide +kernel
theorem dX1_copyFrom_1 : decode cX1_copyFrom 1 = .ok (.aload_n 1, 1) := by decide +kernel
theorem dX1_copyFrom_2 : decode cX1_copyFrom 2 = .ok (.getfield 18, 3) := by decide +kernel
theorem dX1_copyFrom_5 : decode cX1_copyFrom 5 = .ok (.putfield 18, 3) := by decide +kernel
theorem dX1_copyFrom_8 : decode cX1_copyFrom 8 = .ok (.aload_n 1, 1) := by decide +kernel
theorem dX1_copyFrom_9 : decode cX1_copyFrom 9 = .ok (.getfield 11, 3) := by decide +kernel
theorem dX1_copyFrom_12 : decode cX1_copyFrom 12 = .ok (.iconst 0, 1) := by decide +kernel
theorem dX1_copyFrom_13 : decode cX1_copyFrom 13 = .ok (.aload_n 0, 1) := by decide +kernel
theorem dX1_copyFrom_14 : decode cX1_copyFrom 14 = .ok (.getfield 11, 3) := by decide +kernel
theorem dX1_copyFrom_17 : decode cX1_copyFrom 17 = .ok (.iconst 0, 1) := by decide +kernel
theorem dX1_copyFrom_18 : decode cX1_copyFrom 18 = .ok (.bipush 120, 2) := by decide +kernel
theorem dX1_copyFrom_20 : decode cX1_copyFrom 20 = .ok (.invokestatic 22, 3) := by decide +kernel
theorem dX1_copyFrom_23 : decode cX1_copyFrom 23 = .ok (.aload_n 1, 1) := by decide +kernel
theorem dX1_copyFrom_24 : decode cX1_copyFrom 24 = .ok (.getfield 15, 3) := by decide +kernel
theorem dX1_copyFrom_27 : decode cX1_copyFrom 27 = .ok (.iconst 0, 1) := by decide +kernel
theorem dX1_copyFrom_28 : decode cX1_copyFrom 28 = .ok (.aload_n 0, 1) := by decide +kernel
theorem dX1_copyFrom_29 : decode cX1_copyFrom 29 = .ok (.getfield 15, 3) := by decide +kernel
theorem dX1_copyFrom_32 : decode cX1_copyFrom 32 = .ok (.iconst 0, 1) := by decide +kernel
theorem dX1_copyFrom_33 : decode cX1_copyFrom 33 = .ok (.sipush 240, 3) := by decide +kernel
theorem dX1_copyFrom_36 : decode cX1_copyFrom 36 = .ok (.invokestatic 22, 3) := by decide +kernel
theorem dX1_copyFrom_39 : decode cX1_copyFrom 39 = .ok (.return_, 1) := by decide +kernel
theorem dX1_add_0 : decode cX1_add 0 = .ok (.aload_n 0, 1) := by decide +kernel
theorem dX1_add_1 : decode cX1_add 1 = .ok (.getfield 18, 3) := by decide +kernel
theorem dX1_add_4 : decode cX1_add 4 = .ok (.bipush 20, 2) := by decide +kernel
theorem dX1_add_6 : decode cX1_add 6 = .ok (.if_icmp .lt 7, 3) := by decide +kernel
theorem dX1_add_9 : decode cX1_add 9 = .ok (.aload_n 0, 1) := by decide +kernel
theorem dX1_add_10 : decode cX1_add 10 = .ok (.invokevirtual 28, 3) := by decide +kernel
theorem dX1_add_13 : decode cX1_add 13 = .ok (.aload_n 0, 1) := by decide +kernel
theorem dX1_add_14 : decode cX1_add 14 = .ok (.getfield 18, 3) := by decide +kernel
theorem dX1_add_17 : decode cX1_add 17 = .ok (.istore_n 2, 1) := by decide +kernel
theorem dX1_add_18 : decode cX1_add 18 = .ok (.aload_n 1, 1) := by decide +kernel
theorem dX1_add_19 : decode cX1_add 19 = .ok (.iconst 0, 1) := by decide +kernel
theorem dX1_add_20 : decode cX1_add 20 = .ok (.aload_n 0, 1) := by decide +kernel
theorem dX1_add_21 : decode cX1_add 21 = .ok (.getfield 15, 3) := by decide +kernel
theorem dX1_add_24 : decode cX1_add 24 = .ok (.iload_n 2, 1) := by decide +kernel
theorem dX1_add_25 : decode cX1_add 25 = .ok (.bipush 12, 2) := by decide +kernel
theorem dX1_add_27 : decode cX1_add 27 = .ok (.imul, 1) := by decide +kernel
theorem dX1_add_28 : decode cX1_add 28 = .ok (.bipush 12, 2) := by decide +kernel
theorem dX1_add_30 : decode cX1_add 30 = .ok (.invokestatic 22, 3) := by decide +kernel
theorem dX1_add_33 : decode cX1_add 33 = .ok (.aload_n 0, 1) := by decide +kernel
theorem dX1_add_34 : decode cX1_add 34 = .ok (.dup, 1) := by decide +kernel
theorem dX1_add_35 : decode cX1_add 35 = .ok (.getfield 18, 3) := by decide +kernel
theorem dX1_add_38 : decode cX1_add 38 = .ok (.iconst 1, 1) := by decide +kernel
theorem dX1_add_39 : decode cX1_add 39 = .ok (.iadd, 1) := by decide +kernel
theorem dX1_add_40 : decode cX1_add 40 = .ok (.putfield 18, 3) := by decide +kernel
theorem dX1_add_43 : decode cX1_add 43 = .ok (.iload_n 2, 1) := by decide +kernel
theorem dX1_add_44 : decode cX1_add 44 = .ok (.ireturn, 1) := by decide +kernel
theorem dX1_putNumber_0 : decode cX1_putNumber 0 = .ok (.aload_n 0, 1) := by decide +kernel
theorem dX1_putNumber_1 : decode cX1_putNumber 1 = .ok (.getfield 11, 3) := by decide +kernel
theorem dX1_putNumber_4 : decode cX1_putNumber 4 = .ok (.iload_n 1, 1) := by decide +kernel
theorem dX1_putNumber_5 : decode cX1_putNumber 5 = .ok (.bipush 6, 2) := by decide +kernel
theorem dX1_putNumber_7 : decode cX1_putNumber 7 = .ok (.imul, 1) := by decide +kernel
theorem dX1_putNumber_8 : decode cX1_putNumber 8 = .ok (.iload_n 2, 1) := by decide +kernel
theorem dX1_putNumber_9 : decode cX1_putNumber 9 = .ok (.iadd, 1) := by decide +kernel
theorem dX1_putNumber_10 : decode cX1_putNumber 10 = .ok (.iload_n 3, 1) := by decide +kernel
theorem dX1_putNumber_11 : decode cX1_putNumber 11 = .ok (.iastore, 1) := by decide +kernel
theorem dX1_putNumber_12 : decode cX1_putNumber 12 = .ok (.return_, 1) := by decide +kernel
theorem dX1_numberOf_0 : decode cX1_numberOf 0 = .ok (.aload_n 0, 1) := by decide +kernel
theorem dX1_numberOf_1 : decode cX1_numberOf 1 = .ok (.getfield 11, 3) := by decide +kernel
theorem dX1_numberOf_4 : decode cX1_numberOf 4 = .ok (.iload_n 1, 1) := by decide +kernel
theorem dX1_numberOf_5 : decode cX1_numberOf 5 = .ok (.bipush 6, 2) := by decide +kernel
theorem dX1_numberOf_7 : decode cX1_numberOf 7 = .ok (.imul, 1) := by decide +kernel
theorem dX1_numberOf_8 : decode cX1_numberOf 8 = .ok (.iload_n 2, 1) := by decide +kernel
theorem dX1_numberOf_9 : decode cX1_numberOf 9 = .ok (.iadd, 1) := by decide +kernel
theorem dX1_numberOf_10 : decode cX1_numberOf 10 = .ok (.iaload, 1) := by decide +kernel
theorem dX1_numberOf_11 : decode cX1_numberOf 11 = .ok (.ireturn, 1) := by decide +kernel
theorem dX1_partOf_0 : decode cX1_partOf 0 = .ok (.aload_n 0, 1) := by decide +kernel
theorem dX1_partOf_1 : decode cX1_partOf 1 = .ok (.getfield 15, 3) := by decide +kernel
theorem dX1_partOf_4 : decode cX1_partOf 4 = .ok (.iload_n 1, 1) := by decide +kernel
theorem dX1_partOf_5 : decode cX1_partOf 5 = .ok (.bipush 12, 2) := by decide +kernel
theorem dX1_partOf_7 : decode cX1_partOf 7 = .ok (.imul, 1) := by decide +kernel
theorem dX1_partOf_8 : decode cX1_partOf 8 = .ok (.iload_n 2, 1) := by decide +kernel
theorem dX1_partOf_9 : decode cX1_partOf 9 = .ok (.iadd, 1) := by decide +kernel
theorem dX1_partOf_10 : decode cX1_partOf 10 = .ok (.iaload, 1) := by decide +kernel
theorem dX1_partOf_11 : decode cX1_partOf 11 = .ok (.ireturn, 1) := by decide +kernel
theorem dX1_dropOldest_0 : decode cX1_dropOldest 0 = .ok (.aload_n 0, 1) := by decide +kernel
theorem dX1_dropOldest_1 : decode cX1_dropOldest 1 = .ok (.bipush 19, 2) := by decide +kernel
theorem dX1_dropOldest_3 : decode cX1_dropOldest 3 = .ok (.putfield 18, 3) := by decide +kernel
theorem dX1_dropOldest_6 : decode cX1_dropOldest 6 = .ok (.aload_n 0, 1) := by decide +kernel
theorem dX1_dropOldest_7 : decode cX1_dropOldest 7 = .ok (.getfield 11, 3) := by decide +kernel
theorem dX1_dropOldest_10 : decode cX1_dropOldest 10 = .ok (.bipush 6, 2) := by decide +kernel
theorem dX1_dropOldest_12 : decode cX1_dropOldest 12 = .ok (.aload_n 0, 1) := by decide +kernel
theorem dX1_dropOldest_13 : decode cX1_dropOldest 13 = .ok (.getfield 11, 3) := by decide +kernel
theorem dX1_dropOldest_16 : decode cX1_dropOldest 16 = .ok (.iconst 0, 1) := by decide +kernel
theorem dX1_dropOldest_17 : decode cX1_dropOldest 17 = .ok (.aload_n 0, 1) := by decide +kernel
theorem dX1_dropOldest_18 : decode cX1_dropOldest 18 = .ok (.getfield 18, 3) := by decide +kernel
theorem dX1_dropOldest_21 : decode cX1_dropOldest 21 = .ok (.bipush 6, 2) := by decide +kernel
theorem dX1_dropOldest_23 : decode cX1_dropOldest 23 = .ok (.imul, 1) := by decide +kernel
theorem dX1_dropOldest_24 : decode cX1_dropOldest 24 = .ok (.invokestatic 22, 3) := by decide +kernel
theorem dX1_dropOldest_27 : decode cX1_dropOldest 27 = .ok (.aload_n 0, 1) := by decide +kernel
theorem dX1_dropOldest_28 : decode cX1_dropOldest 28 = .ok (.getfield 15, 3) := by decide +kernel
theorem dX1_dropOldest_31 : decode cX1_dropOldest 31 = .ok (.bipush 12, 2) := by decide +kernel
theorem dX1_dropOldest_33 : decode cX1_dropOldest 33 = .ok (.aload_n 0, 1) := by decide +kernel
theorem dX1_dropOldest_34 : decode cX1_dropOldest 34 = .ok (.getfield 15, 3) := by decide +kernel
theorem dX1_dropOldest_37 : decode cX1_dropOldest 37 = .ok (.iconst 0, 1) := by decide +kernel
theorem dX1_dropOldest_38 : decode cX1_dropOldest 38 = .ok (.aload_n 0, 1) := by decide +kernel
theorem dX1_dropOldest_39 : decode cX1_dropOldest 39 = .ok (.getfield 18, 3) := by decide +kernel
theorem dX1_dropOldest_42 : decode cX1_dropOldest 42 = .ok (.bipush 12, 2) := by decide +kernel
theorem dX1_dropOldest_44 : decode cX1_dropOldest 44 = .ok (.imul, 1) := by decide +kernel
theorem dX1_dropOldest_45 : decode cX1_dropOldest 45 = .ok (.invokestatic 22, 3) := by decide +kernel
theorem dX1_dropOldest_48 : decode cX1_dropOldest 48 = .ok (.return_, 1) := by decide +kernel
theorem dX2_init_0 : decode cX2_init 0 = .ok (.aload_n 0, 1) := by decide +kernel
theorem dX2_init_1 : decode cX2_init 1 = .ok (.invokespecial 3, 3) := by decide +kernel
theorem dX2_init_4 : decode cX2_init 4 = .ok (.aload_n 0, 1) := by decide +kernel
theorem dX2_init_5 : decode cX2_init 5 = .ok (.bipush 12, 2) := by decide +kernel
theorem dX2_init_7 : decode cX2_init 7 = .ok (.newarray .int, 2) := by decide +kernel
theorem dX2_init_9 : decode cX2_init 9 = .ok (.putfield 9, 3) := by decide +kernel
theorem dX2_init_12 : decode cX2_init 12 = .ok (.aload_n 0, 1) := by decide +kernel
theorem dX2_init_13 : decode cX2_init 13 = .ok (.bipush 12, 2) := by decide +kernel
theorem dX2_init_15 : decode cX2_init 15 = .ok (.newarray .int, 2) := by decide +kernel
theorem dX2_init_17 : decode cX2_init 17 = .ok (.putfield 15, 3) := by decide +kernel
theorem dX2_init_20 : decode cX2_init 20 = .ok (.aload_n 0, 1) := by decide +kernel
theorem dX2_init_21 : decode cX2_init 21 = .ok (.bipush 12, 2) := by decide +kernel
theorem dX2_init_23 : decode cX2_init 23 = .ok (.newarray .long, 2) := by decide +kernel
theorem dX2_init_25 : decode cX2_init 25 = .ok (.putfield 18, 3) := by decide +kernel
theorem dX2_init_28 : decode cX2_init 28 = .ok (.return_, 1) := by decide +kernel
theorem dX2_divide_0 : decode cX2_divide 0 = .ok (.iconst 0, 1) := by decide +kernel
theorem dX2_divide_1 : decode cX2_divide 1 = .ok (.istore 6, 2) := by decide +kernel
theorem dX2_divide_3 : decode cX2_divide 3 = .ok (.iload 6, 2) := by decide +kernel
theorem dX2_divide_5 : decode cX2_divide 5 = .ok (.bipush 12, 2) := by decide +kernel
theorem dX2_divide_7 : decode cX2_divide 7 = .ok (.if_icmp .ge 17, 3) := by decide +kernel
theorem dX2_divide_10 : decode cX2_divide 10 = .ok (.aload_n 0, 1) := by decide +kernel
theorem dX2_divide_11 : decode cX2_divide 11 = .ok (.getfield 9, 3) := by decide +kernel
theorem dX2_divide_14 : decode cX2_divide 14 = .ok (.iload 6, 2) := by decide +kernel
theorem dX2_divide_16 : decode cX2_divide 16 = .ok (.iconst 0, 1) := by decide +kernel
theorem dX2_divide_17 : decode cX2_divide 17 = .ok (.iastore, 1) := by decide +kernel
theorem dX2_divide_18 : decode cX2_divide 18 = .ok (.iinc 6 1, 3) := by decide +kernel
theorem dX2_divide_21 : decode cX2_divide 21 = .ok (.goto (-18), 3) := by decide +kernel
theorem dX2_divide_24 : decode cX2_divide 24 = .ok (.iload_n 3, 1) := by decide +kernel
theorem dX2_divide_25 : decode cX2_divide 25 = .ok (.iconst 4, 1) := by decide +kernel
theorem dX2_divide_26 : decode cX2_divide 26 = .ok (.if_icmp .ne 53, 3) := by decide +kernel
theorem dX2_divide_29 : decode cX2_divide 29 = .ok (.iload 5, 2) := by decide +kernel
theorem dX2_divide_31 : decode cX2_divide 31 = .ok (.i2l, 1) := by decide +kernel
theorem dX2_divide_32 : decode cX2_divide 32 = .ok (.iload_n 2, 1) := by decide +kernel
theorem dX2_divide_33 : decode cX2_divide 33 = .ok (.i2l, 1) := by decide +kernel
theorem dX2_divide_34 : decode cX2_divide 34 = .ok (.lmul, 1) := by decide +kernel
theorem dX2_divide_35 : decode cX2_divide 35 = .ok (.ldc2_w 22, 3) := by decide +kernel
theorem dX2_divide_38 : decode cX2_divide 38 = .ok (.ldiv, 1) := by decide +kernel
theorem dX2_divide_39 : decode cX2_divide 39 = .ok (.l2i, 1) := by decide +kernel
theorem dX2_divide_40 : decode cX2_divide 40 = .ok (.istore 6, 2) := by decide +kernel
theorem dX2_divide_42 : decode cX2_divide 42 = .ok (.aload_n 0, 1) := by decide +kernel
theorem dX2_divide_43 : decode cX2_divide 43 = .ok (.aload_n 1, 1) := by decide +kernel
theorem dX2_divide_44 : decode cX2_divide 44 = .ok (.iconst 0, 1) := by decide +kernel
theorem dX2_divide_45 : decode cX2_divide 45 = .ok (.iconst 0, 1) := by decide +kernel
theorem dX2_divide_46 : decode cX2_divide 46 = .ok (.invokevirtual 24, 3) := by decide +kernel
theorem dX2_divide_49 : decode cX2_divide 49 = .ok (.aload_n 0, 1) := by decide +kernel
theorem dX2_divide_50 : decode cX2_divide 50 = .ok (.iload 6, 2) := by decide +kernel
theorem dX2_divide_52 : decode cX2_divide 52 = .ok (.invokevirtual 28, 3) := by decide +kernel
theorem dX2_divide_55 : decode cX2_divide 55 = .ok (.aload_n 1, 1) := by decide +kernel
theorem dX2_divide_56 : decode cX2_divide 56 = .ok (.invokevirtual 32, 3) := by decide +kernel
theorem dX2_divide_59 : decode cX2_divide 59 = .ok (.ifCond .eq 8, 3) := by decide +kernel
theorem dX2_divide_62 : decode cX2_divide 62 = .ok (.aload_n 0, 1) := by decide +kernel
theorem dX2_divide_63 : decode cX2_divide 63 = .ok (.aload_n 1, 1) := by decide +kernel
theorem dX2_divide_64 : decode cX2_divide 64 = .ok (.invokevirtual 38, 3) := by decide +kernel
theorem dX2_divide_67 : decode cX2_divide 67 = .ok (.aload_n 0, 1) := by decide +kernel
theorem dX2_divide_68 : decode cX2_divide 68 = .ok (.iload 5, 2) := by decide +kernel
theorem dX2_divide_70 : decode cX2_divide 70 = .ok (.iload 6, 2) := by decide +kernel
theorem dX2_divide_72 : decode cX2_divide 72 = .ok (.isub, 1) := by decide +kernel
theorem dX2_divide_73 : decode cX2_divide 73 = .ok (.invokevirtual 28, 3) := by decide +kernel
theorem dX2_divide_76 : decode cX2_divide 76 = .ok (.goto 36, 3) := by decide +kernel
theorem dX2_divide_79 : decode cX2_divide 79 = .ok (.iload_n 3, 1) := by decide +kernel
theorem dX2_divide_80 : decode cX2_divide 80 = .ok (.iconst 3, 1) := by decide +kernel
theorem dX2_divide_81 : decode cX2_divide 81 = .ok (.if_icmp .ne 17, 3) := by decide +kernel
theorem dX2_divide_84 : decode cX2_divide 84 = .ok (.aload_n 0, 1) := by decide +kernel
theorem dX2_divide_85 : decode cX2_divide 85 = .ok (.aload_n 1, 1) := by decide +kernel
theorem dX2_divide_86 : decode cX2_divide 86 = .ok (.invokevirtual 42, 3) := by decide +kernel
theorem dX2_divide_89 : decode cX2_divide 89 = .ok (.aload_n 0, 1) := by decide +kernel
theorem dX2_divide_90 : decode cX2_divide 90 = .ok (.iload 5, 2) := by decide +kernel
theorem dX2_divide_92 : decode cX2_divide 92 = .ok (.invokevirtual 28, 3) := by decide +kernel
theorem dX2_divide_95 : decode cX2_divide 95 = .ok (.goto 17, 3) := by decide +kernel
theorem dX2_divide_98 : decode cX2_divide 98 = .ok (.aload_n 0, 1) := by decide +kernel
theorem dX2_divide_99 : decode cX2_divide 99 = .ok (.aload_n 1, 1) := by decide +kernel
theorem dX2_divide_100 : decode cX2_divide 100 = .ok (.iload_n 3, 1) := by decide +kernel
theorem dX2_divide_101 : decode cX2_divide 101 = .ok (.iload 4, 2) := by decide +kernel
theorem dX2_divide_103 : decode cX2_divide 103 = .ok (.invokevirtual 24, 3) := by decide +kernel
theorem dX2_divide_106 : decode cX2_divide 106 = .ok (.aload_n 0, 1) := by decide +kernel
theorem dX2_divide_107 : decode cX2_divide 107 = .ok (.iload 5, 2) := by decide +kernel
theorem dX2_divide_109 : decode cX2_divide 109 = .ok (.invokevirtual 28, 3) := by decide +kernel
theorem dX2_divide_112 : decode cX2_divide 112 = .ok (.return_, 1) := by decide +kernel
theorem dX2_weighByShares_0 : decode cX2_weighByShares 0 = .ok (.iconst 0, 1) := by decide +kernel
theorem dX2_weighByShares_1 : decode cX2_weighByShares 1 = .ok (.istore 4, 2) := by decide +kernel
theorem dX2_weighByShares_3 : decode cX2_weighByShares 3 = .ok (.iload 4, 2) := by decide +kernel
theorem dX2_weighByShares_5 : decode cX2_weighByShares 5 = .ok (.bipush 12, 2) := by decide +kernel
theorem dX2_weighByShares_7 : decode cX2_weighByShares 7 = .ok (.if_icmp .ge 59, 3) := by decide +kernel
theorem dX2_weighByShares_10 : decode cX2_weighByShares 10 = .ok (.iload 4, 2) := by decide +kernel
theorem dX2_weighByShares_12 : decode cX2_weighByShares 12 = .ok (.aload_n 1, 1) := by decide +kernel
theorem dX2_weighByShares_13 : decode cX2_weighByShares 13 = .ok (.getfield 45, 3) := by decide +kernel
theorem dX2_weighByShares_16 : decode cX2_weighByShares 16 = .ok (.if_icmp .ge 18, 3) := by decide +kernel
theorem dX2_weighByShares_19 : decode cX2_weighByShares 19 = .ok (.aload_n 1, 1) := by decide +kernel
theorem dX2_weighByShares_20 : decode cX2_weighByShares 20 = .ok (.iload 4, 2) := by decide +kernel
theorem dX2_weighByShares_22 : decode cX2_weighByShares 22 = .ok (.iload_n 2, 1) := by decide +kernel
theorem dX2_weighByShares_23 : decode cX2_weighByShares 23 = .ok (.iload_n 3, 1) := by decide +kernel
theorem dX2_weighByShares_24 : decode cX2_weighByShares 24 = .ok (.invokevirtual 49, 3) := by decide +kernel
theorem dX2_weighByShares_27 : decode cX2_weighByShares 27 = .ok (.ifCond .eq 7, 3) := by decide +kernel
theorem dX2_weighByShares_30 : decode cX2_weighByShares 30 = .ok (.iconst 1, 1) := by decide +kernel
theorem dX2_weighByShares_31 : decode cX2_weighByShares 31 = .ok (.goto 4, 3) := by decide +kernel
theorem dX2_weighByShares_34 : decode cX2_weighByShares 34 = .ok (.iconst 0, 1) := by decide +kernel
theorem dX2_weighByShares_35 : decode cX2_weighByShares 35 = .ok (.istore 5, 2) := by decide +kernel
theorem dX2_weighByShares_37 : decode cX2_weighByShares 37 = .ok (.aload_n 0, 1) := by decide +kernel
theorem dX2_weighByShares_38 : decode cX2_weighByShares 38 = .ok (.getfield 15, 3) := by decide +kernel
theorem dX2_weighByShares_41 : decode cX2_weighByShares 41 = .ok (.iload 4, 2) := by decide +kernel
theorem dX2_weighByShares_43 : decode cX2_weighByShares 43 = .ok (.iload 5, 2) := by decide +kernel
theorem dX2_weighByShares_45 : decode cX2_weighByShares 45 = .ok (.ifCond .eq 13, 3) := by decide +kernel
theorem dX2_weighByShares_48 : decode cX2_weighByShares 48 = .ok (.aload_n 1, 1) := by decide +kernel
theorem dX2_weighByShares_49 : decode cX2_weighByShares 49 = .ok (.getfield 53, 3) := by decide +kernel
theorem dX2_weighByShares_52 : decode cX2_weighByShares 52 = .ok (.iload 4, 2) := by decide +kernel
theorem dX2_weighByShares_54 : decode cX2_weighByShares 54 = .ok (.iaload, 1) := by decide +kernel
theorem dX2_weighByShares_55 : decode cX2_weighByShares 55 = .ok (.goto 4, 3) := by decide +kernel
theorem dX2_weighByShares_58 : decode cX2_weighByShares 58 = .ok (.iconst 0, 1) := by decide +kernel
theorem dX2_weighByShares_59 : decode cX2_weighByShares 59 = .ok (.iastore, 1) := by decide +kernel
theorem dX2_weighByShares_60 : decode cX2_weighByShares 60 = .ok (.iinc 4 1, 3) := by decide +kernel
theorem dX2_weighByShares_63 : decode cX2_weighByShares 63 = .ok (.goto (-60), 3) := by decide +kernel
theorem dX2_weighByShares_66 : decode cX2_weighByShares 66 = .ok (.return_, 1) := by decide +kernel
theorem dX2_weighEqually_0 : decode cX2_weighEqually 0 = .ok (.iconst 0, 1) := by decide +kernel
theorem dX2_weighEqually_1 : decode cX2_weighEqually 1 = .ok (.istore_n 2, 1) := by decide +kernel
theorem dX2_weighEqually_2 : decode cX2_weighEqually 2 = .ok (.iload_n 2, 1) := by decide +kernel
theorem dX2_weighEqually_3 : decode cX2_weighEqually 3 = .ok (.bipush 12, 2) := by decide +kernel
theorem dX2_weighEqually_5 : decode cX2_weighEqually 5 = .ok (.if_icmp .ge 28, 3) := by decide +kernel
theorem dX2_weighEqually_8 : decode cX2_weighEqually 8 = .ok (.aload_n 0, 1) := by decide +kernel
theorem dX2_weighEqually_9 : decode cX2_weighEqually 9 = .ok (.getfield 15, 3) := by decide +kernel
theorem dX2_weighEqually_12 : decode cX2_weighEqually 12 = .ok (.iload_n 2, 1) := by decide +kernel
theorem dX2_weighEqually_13 : decode cX2_weighEqually 13 = .ok (.iload_n 2, 1) := by decide +kernel
theorem dX2_weighEqually_14 : decode cX2_weighEqually 14 = .ok (.aload_n 1, 1) := by decide +kernel
theorem dX2_weighEqually_15 : decode cX2_weighEqually 15 = .ok (.getfield 45, 3) := by decide +kernel
theorem dX2_weighEqually_18 : decode cX2_weighEqually 18 = .ok (.if_icmp .ge 7, 3) := by decide +kernel
theorem dX2_weighEqually_21 : decode cX2_weighEqually 21 = .ok (.iconst 1, 1) := by decide +kernel
theorem dX2_weighEqually_22 : decode cX2_weighEqually 22 = .ok (.goto 4, 3) := by decide +kernel
theorem dX2_weighEqually_25 : decode cX2_weighEqually 25 = .ok (.iconst 0, 1) := by decide +kernel
theorem dX2_weighEqually_26 : decode cX2_weighEqually 26 = .ok (.iastore, 1) := by decide +kernel
theorem dX2_weighEqually_27 : decode cX2_weighEqually 27 = .ok (.iinc 2 1, 3) := by decide +kernel
theorem dX2_weighEqually_30 : decode cX2_weighEqually 30 = .ok (.goto (-28), 3) := by decide +kernel
theorem dX2_weighEqually_33 : decode cX2_weighEqually 33 = .ok (.return_, 1) := by decide +kernel
theorem dX2_weighByUse_0 : decode cX2_weighByUse 0 = .ok (.iconst 0, 1) := by decide +kernel
theorem dX2_weighByUse_1 : decode cX2_weighByUse 1 = .ok (.istore_n 2, 1) := by decide +kernel
theorem dX2_weighByUse_2 : decode cX2_weighByUse 2 = .ok (.iload_n 2, 1) := by decide +kernel
theorem dX2_weighByUse_3 : decode cX2_weighByUse 3 = .ok (.bipush 12, 2) := by decide +kernel
theorem dX2_weighByUse_5 : decode cX2_weighByUse 5 = .ok (.if_icmp .ge 32, 3) := by decide +kernel
theorem dX2_weighByUse_8 : decode cX2_weighByUse 8 = .ok (.aload_n 0, 1) := by decide +kernel
theorem dX2_weighByUse_9 : decode cX2_weighByUse 9 = .ok (.getfield 15, 3) := by decide +kernel
theorem dX2_weighByUse_12 : decode cX2_weighByUse 12 = .ok (.iload_n 2, 1) := by decide +kernel
theorem dX2_weighByUse_13 : decode cX2_weighByUse 13 = .ok (.iload_n 2, 1) := by decide +kernel
theorem dX2_weighByUse_14 : decode cX2_weighByUse 14 = .ok (.aload_n 1, 1) := by decide +kernel
theorem dX2_weighByUse_15 : decode cX2_weighByUse 15 = .ok (.getfield 45, 3) := by decide +kernel
theorem dX2_weighByUse_18 : decode cX2_weighByUse 18 = .ok (.if_icmp .ge 11, 3) := by decide +kernel
theorem dX2_weighByUse_21 : decode cX2_weighByUse 21 = .ok (.aload_n 1, 1) := by decide +kernel
theorem dX2_weighByUse_22 : decode cX2_weighByUse 22 = .ok (.iload_n 2, 1) := by decide +kernel
theorem dX2_weighByUse_23 : decode cX2_weighByUse 23 = .ok (.invokevirtual 56, 3) := by decide +kernel
theorem dX2_weighByUse_26 : decode cX2_weighByUse 26 = .ok (.goto 4, 3) := by decide +kernel
theorem dX2_weighByUse_29 : decode cX2_weighByUse 29 = .ok (.iconst 0, 1) := by decide +kernel
theorem dX2_weighByUse_30 : decode cX2_weighByUse 30 = .ok (.iastore, 1) := by decide +kernel
theorem dX2_weighByUse_31 : decode cX2_weighByUse 31 = .ok (.iinc 2 1, 3) := by decide +kernel
theorem dX2_weighByUse_34 : decode cX2_weighByUse 34 = .ok (.goto (-32), 3) := by decide +kernel
theorem dX2_weighByUse_37 : decode cX2_weighByUse 37 = .ok (.return_, 1) := by decide +kernel
theorem dX2_addParts_0 : decode cX2_addParts 0 = .ok (.aload_n 0, 1) := by decide +kernel
theorem dX2_addParts_1 : decode cX2_addParts 1 = .ok (.invokevirtual 60, 3) := by decide +kernel
theorem dX2_addParts_4 : decode cX2_addParts 4 = .ok (.lstore_n 2, 1) := by decide +kernel
theorem dX2_addParts_5 : decode cX2_addParts 5 = .ok (.lload_n 2, 1) := by decide +kernel
theorem dX2_addParts_6 : decode cX2_addParts 6 = .ok (.lconst 0, 1) := by decide +kernel
theorem dX2_addParts_7 : decode cX2_addParts 7 = .ok (.lcmp, 1) := by decide +kernel
theorem dX2_addParts_8 : decode cX2_addParts 8 = .ok (.ifCond .gt 4, 3) := by decide +kernel
theorem dX2_addParts_11 : decode cX2_addParts 11 = .ok (.return_, 1) := by decide +kernel
theorem dX2_addParts_12 : decode cX2_addParts 12 = .ok (.iload_n 1, 1) := by decide +kernel
theorem dX2_addParts_13 : decode cX2_addParts 13 = .ok (.istore 4, 2) := by decide +kernel
theorem dX2_addParts_15 : decode cX2_addParts 15 = .ok (.iconst 0, 1) := by decide +kernel
theorem dX2_addParts_16 : decode cX2_addParts 16 = .ok (.istore 5, 2) := by decide +kernel
theorem dX2_addParts_18 : decode cX2_addParts 18 = .ok (.iload 5, 2) := by decide +kernel
theorem dX2_addParts_20 : decode cX2_addParts 20 = .ok (.bipush 12, 2) := by decide +kernel
theorem dX2_addParts_22 : decode cX2_addParts 22 = .ok (.if_icmp .ge 59, 3) := by decide +kernel
theorem dX2_addParts_25 : decode cX2_addParts 25 = .ok (.iload_n 1, 1) := by decide +kernel
theorem dX2_addParts_26 : decode cX2_addParts 26 = .ok (.i2l, 1) := by decide +kernel
theorem dX2_addParts_27 : decode cX2_addParts 27 = .ok (.aload_n 0, 1) := by decide +kernel
theorem dX2_addParts_28 : decode cX2_addParts 28 = .ok (.getfield 15, 3) := by decide +kernel
theorem dX2_addParts_31 : decode cX2_addParts 31 = .ok (.iload 5, 2) := by decide +kernel
theorem dX2_addParts_33 : decode cX2_addParts 33 = .ok (.iaload, 1) := by decide +kernel
theorem dX2_addParts_34 : decode cX2_addParts 34 = .ok (.i2l, 1) := by decide +kernel
theorem dX2_addParts_35 : decode cX2_addParts 35 = .ok (.lmul, 1) := by decide +kernel
theorem dX2_addParts_36 : decode cX2_addParts 36 = .ok (.lstore 6, 2) := by decide +kernel
theorem dX2_addParts_38 : decode cX2_addParts 38 = .ok (.lload 6, 2) := by decide +kernel
theorem dX2_addParts_40 : decode cX2_addParts 40 = .ok (.lload_n 2, 1) := by decide +kernel
theorem dX2_addParts_41 : decode cX2_addParts 41 = .ok (.ldiv, 1) := by decide +kernel
theorem dX2_addParts_42 : decode cX2_addParts 42 = .ok (.l2i, 1) := by decide +kernel
theorem dX2_addParts_43 : decode cX2_addParts 43 = .ok (.istore 8, 2) := by decide +kernel
theorem dX2_addParts_45 : decode cX2_addParts 45 = .ok (.aload_n 0, 1) := by decide +kernel
theorem dX2_addParts_46 : decode cX2_addParts 46 = .ok (.getfield 18, 3) := by decide +kernel
theorem dX2_addParts_49 : decode cX2_addParts 49 = .ok (.iload 5, 2) := by decide +kernel
theorem dX2_addParts_51 : decode cX2_addParts 51 = .ok (.lload 6, 2) := by decide +kernel
theorem dX2_addParts_53 : decode cX2_addParts 53 = .ok (.lload_n 2, 1) := by decide +kernel
theorem dX2_addParts_54 : decode cX2_addParts 54 = .ok (.lrem, 1) := by decide +kernel
theorem dX2_addParts_55 : decode cX2_addParts 55 = .ok (.lastore, 1) := by decide +kernel
theorem dX2_addParts_56 : decode cX2_addParts 56 = .ok (.aload_n 0, 1) := by decide +kernel
theorem dX2_addParts_57 : decode cX2_addParts 57 = .ok (.getfield 9, 3) := by decide +kernel
theorem dX2_addParts_60 : decode cX2_addParts 60 = .ok (.iload 5, 2) := by decide +kernel
theorem dX2_addParts_62 : decode cX2_addParts 62 = .ok (.dup2, 1) := by decide +kernel
theorem dX2_addParts_63 : decode cX2_addParts 63 = .ok (.iaload, 1) := by decide +kernel
theorem dX2_addParts_64 : decode cX2_addParts 64 = .ok (.iload 8, 2) := by decide +kernel
theorem dX2_addParts_66 : decode cX2_addParts 66 = .ok (.iadd, 1) := by decide +kernel
theorem dX2_addParts_67 : decode cX2_addParts 67 = .ok (.iastore, 1) := by decide +kernel
theorem dX2_addParts_68 : decode cX2_addParts 68 = .ok (.iload 4, 2) := by decide +kernel
theorem dX2_addParts_70 : decode cX2_addParts 70 = .ok (.iload 8, 2) := by decide +kernel
theorem dX2_addParts_72 : decode cX2_addParts 72 = .ok (.isub, 1) := by decide +kernel
theorem dX2_addParts_73 : decode cX2_addParts 73 = .ok (.istore 4, 2) := by decide +kernel
theorem dX2_addParts_75 : decode cX2_addParts 75 = .ok (.iinc 5 1, 3) := by decide +kernel
theorem dX2_addParts_78 : decode cX2_addParts 78 = .ok (.goto (-60), 3) := by decide +kernel
theorem dX2_addParts_81 : decode cX2_addParts 81 = .ok (.iconst 0, 1) := by decide +kernel
theorem dX2_addParts_82 : decode cX2_addParts 82 = .ok (.istore 5, 2) := by decide +kernel
theorem dX2_addParts_84 : decode cX2_addParts 84 = .ok (.iload 5, 2) := by decide +kernel
theorem dX2_addParts_86 : decode cX2_addParts 86 = .ok (.iload 4, 2) := by decide +kernel
theorem dX2_addParts_88 : decode cX2_addParts 88 = .ok (.if_icmp .ge 20, 3) := by decide +kernel
theorem dX2_addParts_91 : decode cX2_addParts 91 = .ok (.iload 5, 2) := by decide +kernel
theorem dX2_addParts_93 : decode cX2_addParts 93 = .ok (.bipush 12, 2) := by decide +kernel
theorem dX2_addParts_95 : decode cX2_addParts 95 = .ok (.if_icmp .ge 13, 3) := by decide +kernel
theorem dX2_addParts_98 : decode cX2_addParts 98 = .ok (.aload_n 0, 1) := by decide +kernel
theorem dX2_addParts_99 : decode cX2_addParts 99 = .ok (.invokevirtual 64, 3) := by decide +kernel
theorem dX2_addParts_102 : decode cX2_addParts 102 = .ok (.iinc 5 1, 3) := by decide +kernel
theorem dX2_addParts_105 : decode cX2_addParts 105 = .ok (.goto (-21), 3) := by decide +kernel
theorem dX2_addParts_108 : decode cX2_addParts 108 = .ok (.return_, 1) := by decide +kernel
theorem dX2_sumWeights_0 : decode cX2_sumWeights 0 = .ok (.lconst 0, 1) := by decide +kernel
theorem dX2_sumWeights_1 : decode cX2_sumWeights 1 = .ok (.lstore_n 1, 1) := by decide +kernel
theorem dX2_sumWeights_2 : decode cX2_sumWeights 2 = .ok (.iconst 0, 1) := by decide +kernel
theorem dX2_sumWeights_3 : decode cX2_sumWeights 3 = .ok (.istore_n 3, 1) := by decide +kernel
theorem dX2_sumWeights_4 : decode cX2_sumWeights 4 = .ok (.iload_n 3, 1) := by decide +kernel
theorem dX2_sumWeights_5 : decode cX2_sumWeights 5 = .ok (.bipush 12, 2) := by decide +kernel
theorem dX2_sumWeights_7 : decode cX2_sumWeights 7 = .ok (.if_icmp .ge 19, 3) := by decide +kernel
theorem dX2_sumWeights_10 : decode cX2_sumWeights 10 = .ok (.lload_n 1, 1) := by decide +kernel
theorem dX2_sumWeights_11 : decode cX2_sumWeights 11 = .ok (.aload_n 0, 1) := by decide +kernel
theorem dX2_sumWeights_12 : decode cX2_sumWeights 12 = .ok (.getfield 15, 3) := by decide +kernel
theorem dX2_sumWeights_15 : decode cX2_sumWeights 15 = .ok (.iload_n 3, 1) := by decide +kernel
theorem dX2_sumWeights_16 : decode cX2_sumWeights 16 = .ok (.iaload, 1) := by decide +kernel
theorem dX2_sumWeights_17 : decode cX2_sumWeights 17 = .ok (.i2l, 1) := by decide +kernel
theorem dX2_sumWeights_18 : decode cX2_sumWeights 18 = .ok (.ladd, 1) := by decide +kernel
theorem dX2_sumWeights_19 : decode cX2_sumWeights 19 = .ok (.lstore_n 1, 1) := by decide +kernel
theorem dX2_sumWeights_20 : decode cX2_sumWeights 20 = .ok (.iinc 3 1, 3) := by decide +kernel
theorem dX2_sumWeights_23 : decode cX2_sumWeights 23 = .ok (.goto (-19), 3) := by decide +kernel
theorem dX2_sumWeights_26 : decode cX2_sumWeights 26 = .ok (.lload_n 1, 1) := by decide +kernel
theorem dX2_sumWeights_27 : decode cX2_sumWeights 27 = .ok (.lreturn, 1) := by decide +kernel
theorem dX2_giveCentToGreatestRemainder_0 : decode cX2_giveCentToGreatestRemainder 0 = .ok (.iconst 0, 1) := by decide +kernel
theorem dX2_giveCentToGreatestRemainder_1 : decode cX2_giveCentToGreatestRemainder 1 = .ok (.istore_n 1, 1) := by decide +kernel
theorem dX2_giveCentToGreatestRemainder_2 : decode cX2_giveCentToGreatestRemainder 2 = .ok (.iconst 1, 1) := by decide +kernel
theorem dX2_giveCentToGreatestRemainder_3 : decode cX2_giveCentToGreatestRemainder 3 = .ok (.istore_n 2, 1) := by decide +kernel
theorem dX2_giveCentToGreatestRemainder_4 : decode cX2_giveCentToGreatestRemainder 4 = .ok (.iload_n 2, 1) := by decide +kernel
theorem dX2_giveCentToGreatestRemainder_5 : decode cX2_giveCentToGreatestRemainder 5 = .ok (.bipush 12, 2) := by decide +kernel
theorem dX2_giveCentToGreatestRemainder_7 : decode cX2_giveCentToGreatestRemainder 7 = .ok (.if_icmp .ge 27, 3) := by decide +kernel
theorem dX2_giveCentToGreatestRemainder_10 : decode cX2_giveCentToGreatestRemainder 10 = .ok (.aload_n 0, 1) := by decide +kernel
theorem dX2_giveCentToGreatestRemainder_11 : decode cX2_giveCentToGreatestRemainder 11 = .ok (.getfield 18, 3) := by decide +kernel
theorem dX2_giveCentToGreatestRemainder_14 : decode cX2_giveCentToGreatestRemainder 14 = .ok (.iload_n 2, 1) := by decide +kernel
theorem dX2_giveCentToGreatestRemainder_15 : decode cX2_giveCentToGreatestRemainder 15 = .ok (.laload, 1) := by decide +kernel
theorem dX2_giveCentToGreatestRemainder_16 : decode cX2_giveCentToGreatestRemainder 16 = .ok (.aload_n 0, 1) := by decide +kernel
theorem dX2_giveCentToGreatestRemainder_17 : decode cX2_giveCentToGreatestRemainder 17 = .ok (.getfield 18, 3) := by decide +kernel
theorem dX2_giveCentToGreatestRemainder_20 : decode cX2_giveCentToGreatestRemainder 20 = .ok (.iload_n 1, 1) := by decide +kernel
theorem dX2_giveCentToGreatestRemainder_21 : decode cX2_giveCentToGreatestRemainder 21 = .ok (.laload, 1) := by decide +kernel
theorem dX2_giveCentToGreatestRemainder_22 : decode cX2_giveCentToGreatestRemainder 22 = .ok (.lcmp, 1) := by decide +kernel
theorem dX2_giveCentToGreatestRemainder_23 : decode cX2_giveCentToGreatestRemainder 23 = .ok (.ifCond .le 5, 3) := by decide +kernel
theorem dX2_giveCentToGreatestRemainder_26 : decode cX2_giveCentToGreatestRemainder 26 = .ok (.iload_n 2, 1) := by decide +kernel
theorem dX2_giveCentToGreatestRemainder_27 : decode cX2_giveCentToGreatestRemainder 27 = .ok (.istore_n 1, 1) := by decide +kernel
theorem dX2_giveCentToGreatestRemainder_28 : decode cX2_giveCentToGreatestRemainder 28 = .ok (.iinc 2 1, 3) := by decide +kernel
theorem dX2_giveCentToGreatestRemainder_31 : decode cX2_giveCentToGreatestRemainder 31 = .ok (.goto (-27), 3) := by decide +kernel
theorem dX2_giveCentToGreatestRemainder_34 : decode cX2_giveCentToGreatestRemainder 34 = .ok (.aload_n 0, 1) := by decide +kernel
theorem dX2_giveCentToGreatestRemainder_35 : decode cX2_giveCentToGreatestRemainder 35 = .ok (.getfield 9, 3) := by decide +kernel
theorem dX2_giveCentToGreatestRemainder_38 : decode cX2_giveCentToGreatestRemainder 38 = .ok (.iload_n 1, 1) := by decide +kernel
theorem dX2_giveCentToGreatestRemainder_39 : decode cX2_giveCentToGreatestRemainder 39 = .ok (.dup2, 1) := by decide +kernel
theorem dX2_giveCentToGreatestRemainder_40 : decode cX2_giveCentToGreatestRemainder 40 = .ok (.iaload, 1) := by decide +kernel
theorem dX2_giveCentToGreatestRemainder_41 : decode cX2_giveCentToGreatestRemainder 41 = .ok (.iconst 1, 1) := by decide +kernel
theorem dX2_giveCentToGreatestRemainder_42 : decode cX2_giveCentToGreatestRemainder 42 = .ok (.iadd, 1) := by decide +kernel
theorem dX2_giveCentToGreatestRemainder_43 : decode cX2_giveCentToGreatestRemainder 43 = .ok (.iastore, 1) := by decide +kernel
theorem dX2_giveCentToGreatestRemainder_44 : decode cX2_giveCentToGreatestRemainder 44 = .ok (.aload_n 0, 1) := by decide +kernel
theorem dX2_giveCentToGreatestRemainder_45 : decode cX2_giveCentToGreatestRemainder 45 = .ok (.getfield 18, 3) := by decide +kernel
theorem dX2_giveCentToGreatestRemainder_48 : decode cX2_giveCentToGreatestRemainder 48 = .ok (.iload_n 1, 1) := by decide +kernel
theorem dX2_giveCentToGreatestRemainder_49 : decode cX2_giveCentToGreatestRemainder 49 = .ok (.ldc2_w 67, 3) := by decide +kernel
theorem dX2_giveCentToGreatestRemainder_52 : decode cX2_giveCentToGreatestRemainder 52 = .ok (.lastore, 1) := by decide +kernel
theorem dX2_giveCentToGreatestRemainder_53 : decode cX2_giveCentToGreatestRemainder 53 = .ok (.return_, 1) := by decide +kernel
theorem dX3_init_0 : decode cX3_init 0 = .ok (.aload_n 0, 1) := by decide +kernel
theorem dX3_init_1 : decode cX3_init 1 = .ok (.invokespecial 3, 3) := by decide +kernel
theorem dX3_init_4 : decode cX3_init 4 = .ok (.aload_n 0, 1) := by decide +kernel
theorem dX3_init_5 : decode cX3_init 5 = .ok (.bipush 8, 2) := by decide +kernel
theorem dX3_init_7 : decode cX3_init 7 = .ok (.anewarray 9, 3) := by decide +kernel
theorem dX3_init_10 : decode cX3_init 10 = .ok (.putfield 11, 3) := by decide +kernel
theorem dX3_init_13 : decode cX3_init 13 = .ok (.iconst 0, 1) := by decide +kernel
theorem dX3_init_14 : decode cX3_init 14 = .ok (.istore_n 2, 1) := by decide +kernel
theorem dX3_init_15 : decode cX3_init 15 = .ok (.iload_n 2, 1) := by decide +kernel
theorem dX3_init_16 : decode cX3_init 16 = .ok (.bipush 8, 2) := by decide +kernel
theorem dX3_init_18 : decode cX3_init 18 = .ok (.if_icmp .ge 23, 3) := by decide +kernel
theorem dX3_init_21 : decode cX3_init 21 = .ok (.aload_n 0, 1) := by decide +kernel
theorem dX3_init_22 : decode cX3_init 22 = .ok (.getfield 11, 3) := by decide +kernel
theorem dX3_init_25 : decode cX3_init 25 = .ok (.iload_n 2, 1) := by decide +kernel
theorem dX3_init_26 : decode cX3_init 26 = .ok (.new 9, 3) := by decide +kernel
theorem dX3_init_29 : decode cX3_init 29 = .ok (.dup, 1) := by decide +kernel
theorem dX3_init_30 : decode cX3_init 30 = .ok (.aload_n 1, 1) := by decide +kernel
theorem dX3_init_31 : decode cX3_init 31 = .ok (.invokespecial 17, 3) := by decide +kernel
theorem dX3_init_34 : decode cX3_init 34 = .ok (.aastore, 1) := by decide +kernel
theorem dX3_init_35 : decode cX3_init 35 = .ok (.iinc 2 1, 3) := by decide +kernel
theorem dX3_init_38 : decode cX3_init 38 = .ok (.goto (-23), 3) := by decide +kernel
theorem dX3_init_41 : decode cX3_init 41 = .ok (.return_, 1) := by decide +kernel
theorem dX3_keep_0 : decode cX3_keep 0 = .ok (.aload_n 0, 1) := by decide +kernel
theorem dX3_keep_1 : decode cX3_keep 1 = .ok (.getfield 11, 3) := by decide +kernel
theorem dX3_keep_4 : decode cX3_keep 4 = .ok (.aload_n 0, 1) := by decide +kernel
theorem dX3_keep_5 : decode cX3_keep 5 = .ok (.getfield 20, 3) := by decide +kernel
theorem dX3_keep_8 : decode cX3_keep 8 = .ok (.aaload, 1) := by decide +kernel
theorem dX3_keep_9 : decode cX3_keep 9 = .ok (.aload_n 1, 1) := by decide +kernel
theorem dX3_keep_10 : decode cX3_keep 10 = .ok (.invokevirtual 24, 3) := by decide +kernel
theorem dX3_keep_13 : decode cX3_keep 13 = .ok (.aload_n 0, 1) := by decide +kernel
theorem dX3_keep_14 : decode cX3_keep 14 = .ok (.aload_n 0, 1) := by decide +kernel
theorem dX3_keep_15 : decode cX3_keep 15 = .ok (.getfield 20, 3) := by decide +kernel
theorem dX3_keep_18 : decode cX3_keep 18 = .ok (.iconst 1, 1) := by decide +kernel
theorem dX3_keep_19 : decode cX3_keep 19 = .ok (.iadd, 1) := by decide +kernel
theorem dX3_keep_20 : decode cX3_keep 20 = .ok (.bipush 8, 2) := by decide +kernel
theorem dX3_keep_22 : decode cX3_keep 22 = .ok (.irem, 1) := by decide +kernel
theorem dX3_keep_23 : decode cX3_keep 23 = .ok (.putfield 20, 3) := by decide +kernel
theorem dX3_keep_26 : decode cX3_keep 26 = .ok (.aload_n 0, 1) := by decide +kernel
theorem dX3_keep_27 : decode cX3_keep 27 = .ok (.aload_n 0, 1) := by decide +kernel
theorem dX3_keep_28 : decode cX3_keep 28 = .ok (.getfield 28, 3) := by decide +kernel
theorem dX3_keep_31 : decode cX3_keep 31 = .ok (.iconst 1, 1) := by decide +kernel
theorem dX3_keep_32 : decode cX3_keep 32 = .ok (.iadd, 1) := by decide +kernel
theorem dX3_keep_33 : decode cX3_keep 33 = .ok (.bipush 8, 2) := by decide +kernel
theorem dX3_keep_35 : decode cX3_keep 35 = .ok (.invokestatic 31, 3) := by decide +kernel
theorem dX3_keep_38 : decode cX3_keep 38 = .ok (.putfield 28, 3) := by decide +kernel
theorem dX3_keep_41 : decode cX3_keep 41 = .ok (.return_, 1) := by decide +kernel
theorem dX3_takeBack_0 : decode cX3_takeBack 0 = .ok (.aload_n 0, 1) := by decide +kernel
theorem dX3_takeBack_1 : decode cX3_takeBack 1 = .ok (.aload_n 0, 1) := by decide +kernel
theorem dX3_takeBack_2 : decode cX3_takeBack 2 = .ok (.getfield 20, 3) := by decide +kernel
theorem dX3_takeBack_5 : decode cX3_takeBack 5 = .ok (.bipush 8, 2) := by decide +kernel
theorem dX3_takeBack_7 : decode cX3_takeBack 7 = .ok (.iadd, 1) := by decide +kernel
theorem dX3_takeBack_8 : decode cX3_takeBack 8 = .ok (.iconst 1, 1) := by decide +kernel
theorem dX3_takeBack_9 : decode cX3_takeBack 9 = .ok (.isub, 1) := by decide +kernel
theorem dX3_takeBack_10 : decode cX3_takeBack 10 = .ok (.bipush 8, 2) := by decide +kernel
theorem dX3_takeBack_12 : decode cX3_takeBack 12 = .ok (.irem, 1) := by decide +kernel
theorem dX3_takeBack_13 : decode cX3_takeBack 13 = .ok (.putfield 20, 3) := by decide +kernel
theorem dX3_takeBack_16 : decode cX3_takeBack 16 = .ok (.aload_n 0, 1) := by decide +kernel
theorem dX3_takeBack_17 : decode cX3_takeBack 17 = .ok (.dup, 1) := by decide +kernel
theorem dX3_takeBack_18 : decode cX3_takeBack 18 = .ok (.getfield 28, 3) := by decide +kernel
theorem dX3_takeBack_21 : decode cX3_takeBack 21 = .ok (.iconst 1, 1) := by decide +kernel
theorem dX3_takeBack_22 : decode cX3_takeBack 22 = .ok (.isub, 1) := by decide +kernel
theorem dX3_takeBack_23 : decode cX3_takeBack 23 = .ok (.putfield 28, 3) := by decide +kernel
theorem dX3_takeBack_26 : decode cX3_takeBack 26 = .ok (.aload_n 1, 1) := by decide +kernel
theorem dX3_takeBack_27 : decode cX3_takeBack 27 = .ok (.aload_n 0, 1) := by decide +kernel
theorem dX3_takeBack_28 : decode cX3_takeBack 28 = .ok (.getfield 11, 3) := by decide +kernel
theorem dX3_takeBack_31 : decode cX3_takeBack 31 = .ok (.aload_n 0, 1) := by decide +kernel
theorem dX3_takeBack_32 : decode cX3_takeBack 32 = .ok (.getfield 20, 3) := by decide +kernel
theorem dX3_takeBack_35 : decode cX3_takeBack 35 = .ok (.aaload, 1) := by decide +kernel
theorem dX3_takeBack_36 : decode cX3_takeBack 36 = .ok (.invokevirtual 24, 3) := by decide +kernel
theorem dX3_takeBack_39 : decode cX3_takeBack 39 = .ok (.return_, 1) := by decide +kernel
theorem dX3_forget_0 : decode cX3_forget 0 = .ok (.aload_n 0, 1) := by decide +kernel
theorem dX3_forget_1 : decode cX3_forget 1 = .ok (.iconst 0, 1) := by decide +kernel
theorem dX3_forget_2 : decode cX3_forget 2 = .ok (.putfield 28, 3) := by decide +kernel
theorem dX3_forget_5 : decode cX3_forget 5 = .ok (.return_, 1) := by decide +kernel
theorem dX4_init_0 : decode cX4_init 0 = .ok (.aload_n 0, 1) := by decide +kernel
theorem dX4_init_1 : decode cX4_init 1 = .ok (.invokespecial 3, 3) := by decide +kernel
theorem dX4_init_4 : decode cX4_init 4 = .ok (.aload_n 0, 1) := by decide +kernel
theorem dX4_init_5 : decode cX4_init 5 = .ok (.new 9, 3) := by decide +kernel
theorem dX4_init_8 : decode cX4_init 8 = .ok (.dup, 1) := by decide +kernel
theorem dX4_init_9 : decode cX4_init 9 = .ok (.invokespecial 11, 3) := by decide +kernel
theorem dX4_init_12 : decode cX4_init 12 = .ok (.putfield 12, 3) := by decide +kernel
theorem dX4_init_15 : decode cX4_init 15 = .ok (.aload_n 0, 1) := by decide +kernel
theorem dX4_init_16 : decode cX4_init 16 = .ok (.new 18, 3) := by decide +kernel
theorem dX4_init_19 : decode cX4_init 19 = .ok (.dup, 1) := by decide +kernel
theorem dX4_init_20 : decode cX4_init 20 = .ok (.invokespecial 20, 3) := by decide +kernel
theorem dX4_init_23 : decode cX4_init 23 = .ok (.putfield 21, 3) := by decide +kernel
theorem dX4_init_26 : decode cX4_init 26 = .ok (.aload_n 0, 1) := by decide +kernel
theorem dX4_init_27 : decode cX4_init 27 = .ok (.new 25, 3) := by decide +kernel
theorem dX4_init_30 : decode cX4_init 30 = .ok (.dup, 1) := by decide +kernel
theorem dX4_init_31 : decode cX4_init 31 = .ok (.invokespecial 27, 3) := by decide +kernel
theorem dX4_init_34 : decode cX4_init 34 = .ok (.putfield 28, 3) := by decide +kernel
theorem dX4_init_37 : decode cX4_init 37 = .ok (.aload_n 0, 1) := by decide +kernel
theorem dX4_init_38 : decode cX4_init 38 = .ok (.iconst 5, 1) := by decide +kernel
theorem dX4_init_39 : decode cX4_init 39 = .ok (.newarray .int, 2) := by decide +kernel
theorem dX4_init_41 : decode cX4_init 41 = .ok (.putfield 32, 3) := by decide +kernel
theorem dX4_init_44 : decode cX4_init 44 = .ok (.aload_n 0, 1) := by decide +kernel
theorem dX4_init_45 : decode cX4_init 45 = .ok (.iconst 2, 1) := by decide +kernel
theorem dX4_init_46 : decode cX4_init 46 = .ok (.newarray .int, 2) := by decide +kernel
theorem dX4_init_48 : decode cX4_init 48 = .ok (.putfield 36, 3) := by decide +kernel
theorem dX4_init_51 : decode cX4_init 51 = .ok (.aload_n 0, 1) := by decide +kernel
theorem dX4_init_52 : decode cX4_init 52 = .ok (.aload_n 1, 1) := by decide +kernel
theorem dX4_init_53 : decode cX4_init 53 = .ok (.putfield 39, 3) := by decide +kernel
theorem dX4_init_56 : decode cX4_init 56 = .ok (.aload_n 0, 1) := by decide +kernel
theorem dX4_init_57 : decode cX4_init 57 = .ok (.getfield 36, 3) := by decide +kernel
theorem dX4_init_60 : decode cX4_init 60 = .ok (.iconst 0, 1) := by decide +kernel
theorem dX4_init_61 : decode cX4_init 61 = .ok (.bipush 30, 2) := by decide +kernel
theorem dX4_init_63 : decode cX4_init 63 = .ok (.iastore, 1) := by decide +kernel
theorem dX4_init_64 : decode cX4_init 64 = .ok (.aload_n 0, 1) := by decide +kernel
theorem dX4_init_65 : decode cX4_init 65 = .ok (.getfield 36, 3) := by decide +kernel
theorem dX4_init_68 : decode cX4_init 68 = .ok (.iconst 1, 1) := by decide +kernel
theorem dX4_init_69 : decode cX4_init 69 = .ok (.bipush 50, 2) := by decide +kernel
theorem dX4_init_71 : decode cX4_init 71 = .ok (.iastore, 1) := by decide +kernel
theorem dX4_init_72 : decode cX4_init 72 = .ok (.return_, 1) := by decide +kernel
theorem dX4_copyFrom_0 : decode cX4_copyFrom 0 = .ok (.aload_n 0, 1) := by decide +kernel
theorem dX4_copyFrom_1 : decode cX4_copyFrom 1 = .ok (.getfield 12, 3) := by decide +kernel
theorem dX4_copyFrom_4 : decode cX4_copyFrom 4 = .ok (.aload_n 1, 1) := by decide +kernel
theorem dX4_copyFrom_5 : decode cX4_copyFrom 5 = .ok (.getfield 12, 3) := by decide +kernel
theorem dX4_copyFrom_8 : decode cX4_copyFrom 8 = .ok (.invokevirtual 43, 3) := by decide +kernel
theorem dX4_copyFrom_11 : decode cX4_copyFrom 11 = .ok (.aload_n 0, 1) := by decide +kernel
theorem dX4_copyFrom_12 : decode cX4_copyFrom 12 = .ok (.getfield 21, 3) := by decide +kernel
theorem dX4_copyFrom_15 : decode cX4_copyFrom 15 = .ok (.aload_n 1, 1) := by decide +kernel
theorem dX4_copyFrom_16 : decode cX4_copyFrom 16 = .ok (.getfield 21, 3) := by decide +kernel
theorem dX4_copyFrom_19 : decode cX4_copyFrom 19 = .ok (.invokevirtual 47, 3) := by decide +kernel
theorem dX4_copyFrom_22 : decode cX4_copyFrom 22 = .ok (.aload_n 0, 1) := by decide +kernel
theorem dX4_copyFrom_23 : decode cX4_copyFrom 23 = .ok (.getfield 28, 3) := by decide +kernel
theorem dX4_copyFrom_26 : decode cX4_copyFrom 26 = .ok (.aload_n 1, 1) := by decide +kernel
theorem dX4_copyFrom_27 : decode cX4_copyFrom 27 = .ok (.getfield 28, 3) := by decide +kernel
theorem dX4_copyFrom_30 : decode cX4_copyFrom 30 = .ok (.invokevirtual 50, 3) := by decide +kernel
theorem dX4_copyFrom_33 : decode cX4_copyFrom 33 = .ok (.aload_n 1, 1) := by decide +kernel
theorem dX4_copyFrom_34 : decode cX4_copyFrom 34 = .ok (.getfield 32, 3) := by decide +kernel
theorem dX4_copyFrom_37 : decode cX4_copyFrom 37 = .ok (.iconst 0, 1) := by decide +kernel
theorem dX4_copyFrom_38 : decode cX4_copyFrom 38 = .ok (.aload_n 0, 1) := by decide +kernel
theorem dX4_copyFrom_39 : decode cX4_copyFrom 39 = .ok (.getfield 32, 3) := by decide +kernel
theorem dX4_copyFrom_42 : decode cX4_copyFrom 42 = .ok (.iconst 0, 1) := by decide +kernel
theorem dX4_copyFrom_43 : decode cX4_copyFrom 43 = .ok (.iconst 5, 1) := by decide +kernel
theorem dX4_copyFrom_44 : decode cX4_copyFrom 44 = .ok (.invokestatic 53, 3) := by decide +kernel
theorem dX4_copyFrom_47 : decode cX4_copyFrom 47 = .ok (.aload_n 1, 1) := by decide +kernel
theorem dX4_copyFrom_48 : decode cX4_copyFrom 48 = .ok (.getfield 36, 3) := by decide +kernel
theorem dX4_copyFrom_51 : decode cX4_copyFrom 51 = .ok (.iconst 0, 1) := by decide +kernel
theorem dX4_copyFrom_52 : decode cX4_copyFrom 52 = .ok (.aload_n 0, 1) := by decide +kernel
theorem dX4_copyFrom_53 : decode cX4_copyFrom 53 = .ok (.getfield 36, 3) := by decide +kernel
theorem dX4_copyFrom_56 : decode cX4_copyFrom 56 = .ok (.iconst 0, 1) := by decide +kernel
theorem dX4_copyFrom_57 : decode cX4_copyFrom 57 = .ok (.iconst 2, 1) := by decide +kernel
theorem dX4_copyFrom_58 : decode cX4_copyFrom 58 = .ok (.invokestatic 53, 3) := by decide +kernel
theorem dX4_copyFrom_61 : decode cX4_copyFrom 61 = .ok (.aload_n 0, 1) := by decide +kernel
theorem dX4_copyFrom_62 : decode cX4_copyFrom 62 = .ok (.aload_n 1, 1) := by decide +kernel
theorem dX4_copyFrom_63 : decode cX4_copyFrom 63 = .ok (.getfield 59, 3) := by decide +kernel
theorem dX4_copyFrom_66 : decode cX4_copyFrom 66 = .ok (.putfield 59, 3) := by decide +kernel
theorem dX4_copyFrom_69 : decode cX4_copyFrom 69 = .ok (.return_, 1) := by decide +kernel
theorem dX4_sumBalances_0 : decode cX4_sumBalances 0 = .ok (.iconst 0, 1) := by decide +kernel
theorem dX4_sumBalances_1 : decode cX4_sumBalances 1 = .ok (.istore_n 1, 1) := by decide +kernel
theorem dX4_sumBalances_2 : decode cX4_sumBalances 2 = .ok (.iconst 0, 1) := by decide +kernel
theorem dX4_sumBalances_3 : decode cX4_sumBalances 3 = .ok (.istore_n 2, 1) := by decide +kernel
theorem dX4_sumBalances_4 : decode cX4_sumBalances 4 = .ok (.iload_n 2, 1) := by decide +kernel
theorem dX4_sumBalances_5 : decode cX4_sumBalances 5 = .ok (.iconst 5, 1) := by decide +kernel
theorem dX4_sumBalances_6 : decode cX4_sumBalances 6 = .ok (.if_icmp .ge 18, 3) := by decide +kernel
theorem dX4_sumBalances_9 : decode cX4_sumBalances 9 = .ok (.iload_n 1, 1) := by decide +kernel
theorem dX4_sumBalances_10 : decode cX4_sumBalances 10 = .ok (.aload_n 0, 1) := by decide +kernel
theorem dX4_sumBalances_11 : decode cX4_sumBalances 11 = .ok (.getfield 32, 3) := by decide +kernel
theorem dX4_sumBalances_14 : decode cX4_sumBalances 14 = .ok (.iload_n 2, 1) := by decide +kernel
theorem dX4_sumBalances_15 : decode cX4_sumBalances 15 = .ok (.iaload, 1) := by decide +kernel
theorem dX4_sumBalances_16 : decode cX4_sumBalances 16 = .ok (.iadd, 1) := by decide +kernel
theorem dX4_sumBalances_17 : decode cX4_sumBalances 17 = .ok (.istore_n 1, 1) := by decide +kernel
theorem dX4_sumBalances_18 : decode cX4_sumBalances 18 = .ok (.iinc 2 1, 3) := by decide +kernel
theorem dX4_sumBalances_21 : decode cX4_sumBalances 21 = .ok (.goto (-17), 3) := by decide +kernel
theorem dX4_sumBalances_24 : decode cX4_sumBalances 24 = .ok (.iload_n 1, 1) := by decide +kernel
theorem dX4_sumBalances_25 : decode cX4_sumBalances 25 = .ok (.ireturn, 1) := by decide +kernel
theorem dX4_reasonAgainstPayment_0 : decode cX4_reasonAgainstPayment 0 = .ok (.iload_n 2, 1) := by decide +kernel
theorem dX4_reasonAgainstPayment_1 : decode cX4_reasonAgainstPayment 1 = .ok (.iconst 1, 1) := by decide +kernel
theorem dX4_reasonAgainstPayment_2 : decode cX4_reasonAgainstPayment 2 = .ok (.ldc 63, 2) := by decide +kernel
theorem dX4_reasonAgainstPayment_4 : decode cX4_reasonAgainstPayment 4 = .ok (.invokestatic 64, 3) := by decide +kernel
theorem dX4_reasonAgainstPayment_7 : decode cX4_reasonAgainstPayment 7 = .ok (.ifCond .ne 5, 3) := by decide +kernel
theorem dX4_reasonAgainstPayment_10 : decode cX4_reasonAgainstPayment 10 = .ok (.iconst 2, 1) := by decide +kernel
theorem dX4_reasonAgainstPayment_11 : decode cX4_reasonAgainstPayment 11 = .ok (.ireturn, 1) := by decide +kernel
theorem dX4_reasonAgainstPayment_12 : decode cX4_reasonAgainstPayment 12 = .ok (.aload_n 0, 1) := by decide +kernel
theorem dX4_reasonAgainstPayment_13 : decode cX4_reasonAgainstPayment 13 = .ok (.getfield 12, 3) := by decide +kernel
theorem dX4_reasonAgainstPayment_16 : decode cX4_reasonAgainstPayment 16 = .ok (.iload_n 1, 1) := by decide +kernel
theorem dX4_reasonAgainstPayment_17 : decode cX4_reasonAgainstPayment 17 = .ok (.invokevirtual 68, 3) := by decide +kernel
theorem dX4_reasonAgainstPayment_20 : decode cX4_reasonAgainstPayment 20 = .ok (.iload_n 2, 1) := by decide +kernel
theorem dX4_reasonAgainstPayment_21 : decode cX4_reasonAgainstPayment 21 = .ok (.iadd, 1) := by decide +kernel
theorem dX4_reasonAgainstPayment_22 : decode cX4_reasonAgainstPayment 22 = .ok (.ldc 72, 2) := by decide +kernel
theorem dX4_reasonAgainstPayment_24 : decode cX4_reasonAgainstPayment 24 = .ok (.if_icmp .gt 17, 3) := by decide +kernel
theorem dX4_reasonAgainstPayment_27 : decode cX4_reasonAgainstPayment 27 = .ok (.aload_n 0, 1) := by decide +kernel
theorem dX4_reasonAgainstPayment_28 : decode cX4_reasonAgainstPayment 28 = .ok (.getfield 12, 3) := by decide +kernel
theorem dX4_reasonAgainstPayment_31 : decode cX4_reasonAgainstPayment 31 = .ok (.invokevirtual 73, 3) := by decide +kernel
theorem dX4_reasonAgainstPayment_34 : decode cX4_reasonAgainstPayment 34 = .ok (.iload_n 2, 1) := by decide +kernel
theorem dX4_reasonAgainstPayment_35 : decode cX4_reasonAgainstPayment 35 = .ok (.iadd, 1) := by decide +kernel
theorem dX4_reasonAgainstPayment_36 : decode cX4_reasonAgainstPayment 36 = .ok (.ldc 77, 2) := by decide +kernel
theorem dX4_reasonAgainstPayment_38 : decode cX4_reasonAgainstPayment 38 = .ok (.if_icmp .le 7, 3) := by decide +kernel
theorem dX4_reasonAgainstPayment_41 : decode cX4_reasonAgainstPayment 41 = .ok (.iconst 1, 1) := by decide +kernel
theorem dX4_reasonAgainstPayment_42 : decode cX4_reasonAgainstPayment 42 = .ok (.goto 4, 3) := by decide +kernel
theorem dX4_reasonAgainstPayment_45 : decode cX4_reasonAgainstPayment 45 = .ok (.iconst 0, 1) := by decide +kernel
theorem dX4_reasonAgainstPayment_46 : decode cX4_reasonAgainstPayment 46 = .ok (.istore_n 3, 1) := by decide +kernel
theorem dX4_reasonAgainstPayment_47 : decode cX4_reasonAgainstPayment 47 = .ok (.iload_n 3, 1) := by decide +kernel
theorem dX4_reasonAgainstPayment_48 : decode cX4_reasonAgainstPayment 48 = .ok (.ifCond .eq 7, 3) := by decide +kernel
theorem dX4_reasonAgainstPayment_51 : decode cX4_reasonAgainstPayment 51 = .ok (.iconst 5, 1) := by decide +kernel
theorem dX4_reasonAgainstPayment_52 : decode cX4_reasonAgainstPayment 52 = .ok (.goto 4, 3) := by decide +kernel
theorem dX4_reasonAgainstPayment_55 : decode cX4_reasonAgainstPayment 55 = .ok (.iconst 0, 1) := by decide +kernel
theorem dX4_reasonAgainstPayment_56 : decode cX4_reasonAgainstPayment 56 = .ok (.ireturn, 1) := by decide +kernel
theorem dX4_reasonAgainstOrder_0 : decode cX4_reasonAgainstOrder 0 = .ok (.aload_n 0, 1) := by decide +kernel
theorem dX4_reasonAgainstOrder_1 : decode cX4_reasonAgainstOrder 1 = .ok (.getfield 12, 3) := by decide +kernel
theorem dX4_reasonAgainstOrder_4 : decode cX4_reasonAgainstOrder 4 = .ok (.iload_n 1, 1) := by decide +kernel
theorem dX4_reasonAgainstOrder_5 : decode cX4_reasonAgainstOrder 5 = .ok (.iload_n 2, 1) := by decide +kernel
theorem dX4_reasonAgainstOrder_6 : decode cX4_reasonAgainstOrder 6 = .ok (.invokevirtual 78, 3) := by decide +kernel
theorem dX4_reasonAgainstOrder_9 : decode cX4_reasonAgainstOrder 9 = .ok (.ifCond .ne 5, 3) := by decide +kernel
theorem dX4_reasonAgainstOrder_12 : decode cX4_reasonAgainstOrder 12 = .ok (.iconst 1, 1) := by decide +kernel
theorem dX4_reasonAgainstOrder_13 : decode cX4_reasonAgainstOrder 13 = .ok (.ireturn, 1) := by decide +kernel
theorem dX4_reasonAgainstOrder_14 : decode cX4_reasonAgainstOrder 14 = .ok (.iload_n 3, 1) := by decide +kernel
theorem dX4_reasonAgainstOrder_15 : decode cX4_reasonAgainstOrder 15 = .ok (.iconst 1, 1) := by decide +kernel
theorem dX4_reasonAgainstOrder_16 : decode cX4_reasonAgainstOrder 16 = .ok (.ldc 63, 2) := by decide +kernel
theorem dX4_reasonAgainstOrder_18 : decode cX4_reasonAgainstOrder 18 = .ok (.invokestatic 64, 3) := by decide +kernel
theorem dX4_reasonAgainstOrder_21 : decode cX4_reasonAgainstOrder 21 = .ok (.ifCond .eq 7, 3) := by decide +kernel
theorem dX4_reasonAgainstOrder_24 : decode cX4_reasonAgainstOrder 24 = .ok (.iconst 0, 1) := by decide +kernel
theorem dX4_reasonAgainstOrder_25 : decode cX4_reasonAgainstOrder 25 = .ok (.goto 4, 3) := by decide +kernel
theorem dX4_reasonAgainstOrder_28 : decode cX4_reasonAgainstOrder 28 = .ok (.iconst 2, 1) := by decide +kernel
theorem dX4_reasonAgainstOrder_29 : decode cX4_reasonAgainstOrder 29 = .ok (.ireturn, 1) := by decide +kernel
theorem dX4_reasonAgainstCost_0 : decode cX4_reasonAgainstCost 0 = .ok (.aload_n 0, 1) := by decide +kernel
theorem dX4_reasonAgainstCost_1 : decode cX4_reasonAgainstCost 1 = .ok (.iload_n 1, 1) := by decide +kernel
theorem dX4_reasonAgainstCost_2 : decode cX4_reasonAgainstCost 2 = .ok (.iload_n 2, 1) := by decide +kernel
theorem dX4_reasonAgainstCost_3 : decode cX4_reasonAgainstCost 3 = .ok (.iload 4, 2) := by decide +kernel
theorem dX4_reasonAgainstCost_5 : decode cX4_reasonAgainstCost 5 = .ok (.invokevirtual 82, 3) := by decide +kernel
theorem dX4_reasonAgainstCost_8 : decode cX4_reasonAgainstCost 8 = .ok (.istore 6, 2) := by decide +kernel
theorem dX4_reasonAgainstCost_10 : decode cX4_reasonAgainstCost 10 = .ok (.iload 6, 2) := by decide +kernel
theorem dX4_reasonAgainstCost_12 : decode cX4_reasonAgainstCost 12 = .ok (.ifCond .eq 6, 3) := by decide +kernel
theorem dX4_reasonAgainstCost_15 : decode cX4_reasonAgainstCost 15 = .ok (.iload 6, 2) := by decide +kernel
theorem dX4_reasonAgainstCost_17 : decode cX4_reasonAgainstCost 17 = .ok (.ireturn, 1) := by decide +kernel
theorem dX4_reasonAgainstCost_18 : decode cX4_reasonAgainstCost 18 = .ok (.iload 4, 2) := by decide +kernel
theorem dX4_reasonAgainstCost_20 : decode cX4_reasonAgainstCost 20 = .ok (.aload_n 0, 1) := by decide +kernel
theorem dX4_reasonAgainstCost_21 : decode cX4_reasonAgainstCost 21 = .ok (.iload_n 3, 1) := by decide +kernel
theorem dX4_reasonAgainstCost_22 : decode cX4_reasonAgainstCost 22 = .ok (.iload 4, 2) := by decide +kernel
theorem dX4_reasonAgainstCost_24 : decode cX4_reasonAgainstCost 24 = .ok (.iload 5, 2) := by decide +kernel
theorem dX4_reasonAgainstCost_26 : decode cX4_reasonAgainstCost 26 = .ok (.invokevirtual 86, 3) := by decide +kernel
theorem dX4_reasonAgainstCost_29 : decode cX4_reasonAgainstCost 29 = .ok (.isub, 1) := by decide +kernel
theorem dX4_reasonAgainstCost_30 : decode cX4_reasonAgainstCost 30 = .ok (.istore 7, 2) := by decide +kernel
theorem dX4_reasonAgainstCost_32 : decode cX4_reasonAgainstCost 32 = .ok (.aload_n 0, 1) := by decide +kernel
theorem dX4_reasonAgainstCost_33 : decode cX4_reasonAgainstCost 33 = .ok (.iload_n 1, 1) := by decide +kernel
theorem dX4_reasonAgainstCost_34 : decode cX4_reasonAgainstCost 34 = .ok (.iload_n 2, 1) := by decide +kernel
theorem dX4_reasonAgainstCost_35 : decode cX4_reasonAgainstCost 35 = .ok (.iload 7, 2) := by decide +kernel
theorem dX4_reasonAgainstCost_37 : decode cX4_reasonAgainstCost 37 = .ok (.invokevirtual 90, 3) := by decide +kernel
theorem dX4_reasonAgainstCost_40 : decode cX4_reasonAgainstCost 40 = .ok (.ifCond .eq 7, 3) := by decide +kernel
theorem dX4_reasonAgainstCost_43 : decode cX4_reasonAgainstCost 43 = .ok (.iconst 0, 1) := by decide +kernel
theorem dX4_reasonAgainstCost_44 : decode cX4_reasonAgainstCost 44 = .ok (.goto 4, 3) := by decide +kernel
theorem dX4_reasonAgainstCost_47 : decode cX4_reasonAgainstCost 47 = .ok (.iconst 5, 1) := by decide +kernel
theorem dX4_reasonAgainstCost_48 : decode cX4_reasonAgainstCost 48 = .ok (.ireturn, 1) := by decide +kernel
theorem dX4_takeCost_0 : decode cX4_takeCost 0 = .ok (.aload_n 0, 1) := by decide +kernel
theorem dX4_takeCost_1 : decode cX4_takeCost 1 = .ok (.iload_n 3, 1) := by decide +kernel
theorem dX4_takeCost_2 : decode cX4_takeCost 2 = .ok (.iload 4, 2) := by decide +kernel
theorem dX4_takeCost_4 : decode cX4_takeCost 4 = .ok (.iload 5, 2) := by decide +kernel
theorem dX4_takeCost_6 : decode cX4_takeCost 6 = .ok (.invokevirtual 86, 3) := by decide +kernel
theorem dX4_takeCost_9 : decode cX4_takeCost 9 = .ok (.istore 6, 2) := by decide +kernel
theorem dX4_takeCost_11 : decode cX4_takeCost 11 = .ok (.iload 4, 2) := by decide +kernel
theorem dX4_takeCost_13 : decode cX4_takeCost 13 = .ok (.iload 6, 2) := by decide +kernel
theorem dX4_takeCost_15 : decode cX4_takeCost 15 = .ok (.isub, 1) := by decide +kernel
theorem dX4_takeCost_16 : decode cX4_takeCost 16 = .ok (.istore 7, 2) := by decide +kernel
theorem dX4_takeCost_18 : decode cX4_takeCost 18 = .ok (.aload_n 0, 1) := by decide +kernel
theorem dX4_takeCost_19 : decode cX4_takeCost 19 = .ok (.getfield 32, 3) := by decide +kernel
theorem dX4_takeCost_22 : decode cX4_takeCost 22 = .ok (.iload_n 3, 1) := by decide +kernel
theorem dX4_takeCost_23 : decode cX4_takeCost 23 = .ok (.dup2, 1) := by decide +kernel
theorem dX4_takeCost_24 : decode cX4_takeCost 24 = .ok (.iaload, 1) := by decide +kernel
theorem dX4_takeCost_25 : decode cX4_takeCost 25 = .ok (.iload 6, 2) := by decide +kernel
theorem dX4_takeCost_27 : decode cX4_takeCost 27 = .ok (.isub, 1) := by decide +kernel
theorem dX4_takeCost_28 : decode cX4_takeCost 28 = .ok (.iastore, 1) := by decide +kernel
theorem dX4_takeCost_29 : decode cX4_takeCost 29 = .ok (.aload_n 0, 1) := by decide +kernel
theorem dX4_takeCost_30 : decode cX4_takeCost 30 = .ok (.dup, 1) := by decide +kernel
theorem dX4_takeCost_31 : decode cX4_takeCost 31 = .ok (.getfield 59, 3) := by decide +kernel
theorem dX4_takeCost_34 : decode cX4_takeCost 34 = .ok (.iload 6, 2) := by decide +kernel
theorem dX4_takeCost_36 : decode cX4_takeCost 36 = .ok (.iadd, 1) := by decide +kernel
theorem dX4_takeCost_37 : decode cX4_takeCost 37 = .ok (.putfield 59, 3) := by decide +kernel
theorem dX4_takeCost_40 : decode cX4_takeCost 40 = .ok (.aload_n 0, 1) := by decide +kernel
theorem dX4_takeCost_41 : decode cX4_takeCost 41 = .ok (.getfield 39, 3) := by decide +kernel
theorem dX4_takeCost_44 : decode cX4_takeCost 44 = .ok (.aload_n 0, 1) := by decide +kernel
theorem dX4_takeCost_45 : decode cX4_takeCost 45 = .ok (.getfield 12, 3) := by decide +kernel
theorem dX4_takeCost_48 : decode cX4_takeCost 48 = .ok (.aload_n 0, 1) := by decide +kernel
theorem dX4_takeCost_49 : decode cX4_takeCost 49 = .ok (.getfield 36, 3) := by decide +kernel
theorem dX4_takeCost_52 : decode cX4_takeCost 52 = .ok (.iconst 0, 1) := by decide +kernel
theorem dX4_takeCost_53 : decode cX4_takeCost 53 = .ok (.iaload, 1) := by decide +kernel
theorem dX4_takeCost_54 : decode cX4_takeCost 54 = .ok (.iload_n 1, 1) := by decide +kernel
theorem dX4_takeCost_55 : decode cX4_takeCost 55 = .ok (.iload_n 2, 1) := by decide +kernel
theorem dX4_takeCost_56 : decode cX4_takeCost 56 = .ok (.iload 7, 2) := by decide +kernel
theorem dX4_takeCost_58 : decode cX4_takeCost 58 = .ok (.invokevirtual 93, 3) := by decide +kernel
theorem dX4_takeCost_61 : decode cX4_takeCost 61 = .ok (.aload_n 0, 1) := by decide +kernel
theorem dX4_takeCost_62 : decode cX4_takeCost 62 = .ok (.getfield 12, 3) := by decide +kernel
theorem dX4_takeCost_65 : decode cX4_takeCost 65 = .ok (.aload_n 0, 1) := by decide +kernel
theorem dX4_takeCost_66 : decode cX4_takeCost 66 = .ok (.getfield 39, 3) := by decide +kernel
theorem dX4_takeCost_69 : decode cX4_takeCost 69 = .ok (.getfield 99, 3) := by decide +kernel
theorem dX4_takeCost_72 : decode cX4_takeCost 72 = .ok (.invokevirtual 102, 3) := by decide +kernel
theorem dX4_takeCost_75 : decode cX4_takeCost 75 = .ok (.iload_n 1, 1) := by decide +kernel
theorem dX4_takeCost_76 : decode cX4_takeCost 76 = .ok (.iconst 4, 1) := by decide +kernel
theorem dX4_takeCost_77 : decode cX4_takeCost 77 = .ok (.if_icmp .ne 15, 3) := by decide +kernel
theorem dX4_takeCost_80 : decode cX4_takeCost 80 = .ok (.iload 7, 2) := by decide +kernel
theorem dX4_takeCost_82 : decode cX4_takeCost 82 = .ok (.ifCond .le 10, 3) := by decide +kernel
theorem dX4_takeCost_85 : decode cX4_takeCost 85 = .ok (.aload_n 0, 1) := by decide +kernel
theorem dX4_takeCost_86 : decode cX4_takeCost 86 = .ok (.getfield 12, 3) := by decide +kernel
theorem dX4_takeCost_89 : decode cX4_takeCost 89 = .ok (.invokevirtual 106, 3) := by decide +kernel
theorem dX4_takeCost_92 : decode cX4_takeCost 92 = .ok (.aload_n 0, 1) := by decide +kernel
theorem dX4_takeCost_93 : decode cX4_takeCost 93 = .ok (.getfield 21, 3) := by decide +kernel
theorem dX4_takeCost_96 : decode cX4_takeCost 96 = .ok (.aload_n 0, 1) := by decide +kernel
theorem dX4_takeCost_97 : decode cX4_takeCost 97 = .ok (.getfield 39, 3) := by decide +kernel
theorem dX4_takeCost_100 : decode cX4_takeCost 100 = .ok (.getfield 99, 3) := by decide +kernel
theorem dX4_takeCost_103 : decode cX4_takeCost 103 = .ok (.invokevirtual 109, 3) := by decide +kernel
theorem dX4_takeCost_106 : decode cX4_takeCost 106 = .ok (.istore 8, 2) := by decide +kernel
theorem dX4_takeCost_108 : decode cX4_takeCost 108 = .ok (.aload_n 0, 1) := by decide +kernel
theorem dX4_takeCost_109 : decode cX4_takeCost 109 = .ok (.getfield 21, 3) := by decide +kernel
theorem dX4_takeCost_112 : decode cX4_takeCost 112 = .ok (.iload 8, 2) := by decide +kernel
theorem dX4_takeCost_114 : decode cX4_takeCost 114 = .ok (.iconst 0, 1) := by decide +kernel
theorem dX4_takeCost_115 : decode cX4_takeCost 115 = .ok (.iload_n 1, 1) := by decide +kernel
theorem dX4_takeCost_116 : decode cX4_takeCost 116 = .ok (.invokevirtual 113, 3) := by decide +kernel
theorem dX4_takeCost_119 : decode cX4_takeCost 119 = .ok (.aload_n 0, 1) := by decide +kernel
theorem dX4_takeCost_120 : decode cX4_takeCost 120 = .ok (.getfield 21, 3) := by decide +kernel
theorem dX4_takeCost_123 : decode cX4_takeCost 123 = .ok (.iload 8, 2) := by decide +kernel
theorem dX4_takeCost_125 : decode cX4_takeCost 125 = .ok (.iconst 1, 1) := by decide +kernel
theorem dX4_takeCost_126 : decode cX4_takeCost 126 = .ok (.iload_n 2, 1) := by decide +kernel
theorem dX4_takeCost_127 : decode cX4_takeCost 127 = .ok (.invokevirtual 113, 3) := by decide +kernel
theorem dX4_takeCost_130 : decode cX4_takeCost 130 = .ok (.aload_n 0, 1) := by decide +kernel
theorem dX4_takeCost_131 : decode cX4_takeCost 131 = .ok (.getfield 21, 3) := by decide +kernel
theorem dX4_takeCost_134 : decode cX4_takeCost 134 = .ok (.iload 8, 2) := by decide +kernel
theorem dX4_takeCost_136 : decode cX4_takeCost 136 = .ok (.iconst 2, 1) := by decide +kernel
theorem dX4_takeCost_137 : decode cX4_takeCost 137 = .ok (.iload_n 3, 1) := by decide +kernel
theorem dX4_takeCost_138 : decode cX4_takeCost 138 = .ok (.invokevirtual 113, 3) := by decide +kernel
theorem dX4_takeCost_141 : decode cX4_takeCost 141 = .ok (.aload_n 0, 1) := by decide +kernel
theorem dX4_takeCost_142 : decode cX4_takeCost 142 = .ok (.getfield 21, 3) := by decide +kernel
theorem dX4_takeCost_145 : decode cX4_takeCost 145 = .ok (.iload 8, 2) := by decide +kernel
theorem dX4_takeCost_147 : decode cX4_takeCost 147 = .ok (.iconst 3, 1) := by decide +kernel
theorem dX4_takeCost_148 : decode cX4_takeCost 148 = .ok (.iload 4, 2) := by decide +kernel
theorem dX4_takeCost_150 : decode cX4_takeCost 150 = .ok (.invokevirtual 113, 3) := by decide +kernel
theorem dX4_takeCost_153 : decode cX4_takeCost 153 = .ok (.aload_n 0, 1) := by decide +kernel
theorem dX4_takeCost_154 : decode cX4_takeCost 154 = .ok (.getfield 21, 3) := by decide +kernel
theorem dX4_takeCost_157 : decode cX4_takeCost 157 = .ok (.iload 8, 2) := by decide +kernel
theorem dX4_takeCost_159 : decode cX4_takeCost 159 = .ok (.iconst 4, 1) := by decide +kernel
theorem dX4_takeCost_160 : decode cX4_takeCost 160 = .ok (.iload 6, 2) := by decide +kernel
theorem dX4_takeCost_162 : decode cX4_takeCost 162 = .ok (.invokevirtual 113, 3) := by decide +kernel
theorem dX4_takeCost_165 : decode cX4_takeCost 165 = .ok (.aload_n 0, 1) := by decide +kernel
theorem dX4_takeCost_166 : decode cX4_takeCost 166 = .ok (.getfield 21, 3) := by decide +kernel
theorem dX4_takeCost_169 : decode cX4_takeCost 169 = .ok (.iload 8, 2) := by decide +kernel
theorem dX4_takeCost_171 : decode cX4_takeCost 171 = .ok (.iconst 5, 1) := by decide +kernel
theorem dX4_takeCost_172 : decode cX4_takeCost 172 = .ok (.aload_n 0, 1) := by decide +kernel
theorem dX4_takeCost_173 : decode cX4_takeCost 173 = .ok (.getfield 12, 3) := by decide +kernel
theorem dX4_takeCost_176 : decode cX4_takeCost 176 = .ok (.iload_n 1, 1) := by decide +kernel
theorem dX4_takeCost_177 : decode cX4_takeCost 177 = .ok (.iload_n 2, 1) := by decide +kernel
theorem dX4_takeCost_178 : decode cX4_takeCost 178 = .ok (.invokevirtual 78, 3) := by decide +kernel
theorem dX4_takeCost_181 : decode cX4_takeCost 181 = .ok (.invokevirtual 113, 3) := by decide +kernel
theorem dX4_takeCost_184 : decode cX4_takeCost 184 = .ok (.iload 6, 2) := by decide +kernel
theorem dX4_takeCost_186 : decode cX4_takeCost 186 = .ok (.ireturn, 1) := by decide +kernel
theorem dX4_partIfDivided_0 : decode cX4_partIfDivided 0 = .ok (.aload_n 0, 1) := by decide +kernel
theorem dX4_partIfDivided_1 : decode cX4_partIfDivided 1 = .ok (.getfield 39, 3) := by decide +kernel
theorem dX4_partIfDivided_4 : decode cX4_partIfDivided 4 = .ok (.aload_n 0, 1) := by decide +kernel
theorem dX4_partIfDivided_5 : decode cX4_partIfDivided 5 = .ok (.getfield 12, 3) := by decide +kernel
theorem dX4_partIfDivided_8 : decode cX4_partIfDivided 8 = .ok (.aload_n 0, 1) := by decide +kernel
theorem dX4_partIfDivided_9 : decode cX4_partIfDivided 9 = .ok (.getfield 36, 3) := by decide +kernel
theorem dX4_partIfDivided_12 : decode cX4_partIfDivided 12 = .ok (.iconst 0, 1) := by decide +kernel
theorem dX4_partIfDivided_13 : decode cX4_partIfDivided 13 = .ok (.iaload, 1) := by decide +kernel
theorem dX4_partIfDivided_14 : decode cX4_partIfDivided 14 = .ok (.iload_n 1, 1) := by decide +kernel
theorem dX4_partIfDivided_15 : decode cX4_partIfDivided 15 = .ok (.iload_n 2, 1) := by decide +kernel
theorem dX4_partIfDivided_16 : decode cX4_partIfDivided 16 = .ok (.iload_n 3, 1) := by decide +kernel
theorem dX4_partIfDivided_17 : decode cX4_partIfDivided 17 = .ok (.invokevirtual 93, 3) := by decide +kernel
theorem dX4_partIfDivided_20 : decode cX4_partIfDivided 20 = .ok (.aload_n 0, 1) := by decide +kernel
theorem dX4_partIfDivided_21 : decode cX4_partIfDivided 21 = .ok (.getfield 39, 3) := by decide +kernel
theorem dX4_partIfDivided_24 : decode cX4_partIfDivided 24 = .ok (.getfield 99, 3) := by decide +kernel
theorem dX4_partIfDivided_27 : decode cX4_partIfDivided 27 = .ok (.iload 4, 2) := by decide +kernel
theorem dX4_partIfDivided_29 : decode cX4_partIfDivided 29 = .ok (.iaload, 1) := by decide +kernel
theorem dX4_partIfDivided_30 : decode cX4_partIfDivided 30 = .ok (.ireturn, 1) := by decide +kernel
theorem dX4_reasonAgainstLevy_0 : decode cX4_reasonAgainstLevy 0 = .ok (.aload_n 0, 1) := by decide +kernel
theorem dX4_reasonAgainstLevy_1 : decode cX4_reasonAgainstLevy 1 = .ok (.iload_n 1, 1) := by decide +kernel
theorem dX4_reasonAgainstLevy_2 : decode cX4_reasonAgainstLevy 2 = .ok (.iload_n 2, 1) := by decide +kernel
theorem dX4_reasonAgainstLevy_3 : decode cX4_reasonAgainstLevy 3 = .ok (.iload 4, 2) := by decide +kernel
theorem dX4_reasonAgainstLevy_5 : decode cX4_reasonAgainstLevy 5 = .ok (.invokevirtual 90, 3) := by decide +kernel
theorem dX4_reasonAgainstLevy_8 : decode cX4_reasonAgainstLevy 8 = .ok (.ifCond .eq 21, 3) := by decide +kernel
theorem dX4_reasonAgainstLevy_11 : decode cX4_reasonAgainstLevy 11 = .ok (.aload_n 0, 1) := by decide +kernel
theorem dX4_reasonAgainstLevy_12 : decode cX4_reasonAgainstLevy 12 = .ok (.getfield 32, 3) := by decide +kernel
theorem dX4_reasonAgainstLevy_15 : decode cX4_reasonAgainstLevy 15 = .ok (.iload_n 3, 1) := by decide +kernel
theorem dX4_reasonAgainstLevy_16 : decode cX4_reasonAgainstLevy 16 = .ok (.iaload, 1) := by decide +kernel
theorem dX4_reasonAgainstLevy_17 : decode cX4_reasonAgainstLevy 17 = .ok (.iload 4, 2) := by decide +kernel
theorem dX4_reasonAgainstLevy_19 : decode cX4_reasonAgainstLevy 19 = .ok (.iadd, 1) := by decide +kernel
theorem dX4_reasonAgainstLevy_20 : decode cX4_reasonAgainstLevy 20 = .ok (.ldc 72, 2) := by decide +kernel
theorem dX4_reasonAgainstLevy_22 : decode cX4_reasonAgainstLevy 22 = .ok (.if_icmp .gt 7, 3) := by decide +kernel
theorem dX4_reasonAgainstLevy_25 : decode cX4_reasonAgainstLevy 25 = .ok (.iconst 1, 1) := by decide +kernel
theorem dX4_reasonAgainstLevy_26 : decode cX4_reasonAgainstLevy 26 = .ok (.goto 4, 3) := by decide +kernel
theorem dX4_reasonAgainstLevy_29 : decode cX4_reasonAgainstLevy 29 = .ok (.iconst 0, 1) := by decide +kernel
theorem dX4_reasonAgainstLevy_30 : decode cX4_reasonAgainstLevy 30 = .ok (.istore 5, 2) := by decide +kernel
theorem dX4_reasonAgainstLevy_32 : decode cX4_reasonAgainstLevy 32 = .ok (.iload 5, 2) := by decide +kernel
theorem dX4_reasonAgainstLevy_34 : decode cX4_reasonAgainstLevy 34 = .ok (.ifCond .eq 7, 3) := by decide +kernel
theorem dX4_reasonAgainstLevy_37 : decode cX4_reasonAgainstLevy 37 = .ok (.iconst 0, 1) := by decide +kernel
theorem dX4_reasonAgainstLevy_38 : decode cX4_reasonAgainstLevy 38 = .ok (.goto 4, 3) := by decide +kernel
theorem dX4_reasonAgainstLevy_41 : decode cX4_reasonAgainstLevy 41 = .ok (.iconst 5, 1) := by decide +kernel
theorem dX4_reasonAgainstLevy_42 : decode cX4_reasonAgainstLevy 42 = .ok (.ireturn, 1) := by decide +kernel
theorem dX4_takeLevy_0 : decode cX4_takeLevy 0 = .ok (.aload_n 0, 1) := by decide +kernel
theorem dX4_takeLevy_1 : decode cX4_takeLevy 1 = .ok (.getfield 39, 3) := by decide +kernel
theorem dX4_takeLevy_4 : decode cX4_takeLevy 4 = .ok (.aload_n 0, 1) := by decide +kernel
theorem dX4_takeLevy_5 : decode cX4_takeLevy 5 = .ok (.getfield 12, 3) := by decide +kernel
theorem dX4_takeLevy_8 : decode cX4_takeLevy 8 = .ok (.aload_n 0, 1) := by decide +kernel
theorem dX4_takeLevy_9 : decode cX4_takeLevy 9 = .ok (.getfield 36, 3) := by decide +kernel
theorem dX4_takeLevy_12 : decode cX4_takeLevy 12 = .ok (.iconst 0, 1) := by decide +kernel
theorem dX4_takeLevy_13 : decode cX4_takeLevy 13 = .ok (.iaload, 1) := by decide +kernel
theorem dX4_takeLevy_14 : decode cX4_takeLevy 14 = .ok (.iload_n 1, 1) := by decide +kernel
theorem dX4_takeLevy_15 : decode cX4_takeLevy 15 = .ok (.iload_n 2, 1) := by decide +kernel
theorem dX4_takeLevy_16 : decode cX4_takeLevy 16 = .ok (.iload 4, 2) := by decide +kernel
theorem dX4_takeLevy_18 : decode cX4_takeLevy 18 = .ok (.invokevirtual 93, 3) := by decide +kernel
theorem dX4_takeLevy_21 : decode cX4_takeLevy 21 = .ok (.aload_n 0, 1) := by decide +kernel
theorem dX4_takeLevy_22 : decode cX4_takeLevy 22 = .ok (.getfield 12, 3) := by decide +kernel
theorem dX4_takeLevy_25 : decode cX4_takeLevy 25 = .ok (.aload_n 0, 1) := by decide +kernel
theorem dX4_takeLevy_26 : decode cX4_takeLevy 26 = .ok (.getfield 39, 3) := by decide +kernel
theorem dX4_takeLevy_29 : decode cX4_takeLevy 29 = .ok (.getfield 99, 3) := by decide +kernel
theorem dX4_takeLevy_32 : decode cX4_takeLevy 32 = .ok (.invokevirtual 102, 3) := by decide +kernel
theorem dX4_takeLevy_35 : decode cX4_takeLevy 35 = .ok (.aload_n 0, 1) := by decide +kernel
theorem dX4_takeLevy_36 : decode cX4_takeLevy 36 = .ok (.getfield 32, 3) := by decide +kernel
theorem dX4_takeLevy_39 : decode cX4_takeLevy 39 = .ok (.iload_n 3, 1) := by decide +kernel
theorem dX4_takeLevy_40 : decode cX4_takeLevy 40 = .ok (.dup2, 1) := by decide +kernel
theorem dX4_takeLevy_41 : decode cX4_takeLevy 41 = .ok (.iaload, 1) := by decide +kernel
theorem dX4_takeLevy_42 : decode cX4_takeLevy 42 = .ok (.iload 4, 2) := by decide +kernel
theorem dX4_takeLevy_44 : decode cX4_takeLevy 44 = .ok (.iadd, 1) := by decide +kernel
theorem dX4_takeLevy_45 : decode cX4_takeLevy 45 = .ok (.iastore, 1) := by decide +kernel
theorem dX4_takeLevy_46 : decode cX4_takeLevy 46 = .ok (.return_, 1) := by decide +kernel
theorem dX4_reasonAgainstCarrying_0 : decode cX4_reasonAgainstCarrying 0 = .ok (.aload_n 0, 1) := by decide +kernel
theorem dX4_reasonAgainstCarrying_1 : decode cX4_reasonAgainstCarrying 1 = .ok (.aload_n 0, 1) := by decide +kernel
theorem dX4_reasonAgainstCarrying_2 : decode cX4_reasonAgainstCarrying 2 = .ok (.getfield 28, 3) := by decide +kernel
theorem dX4_reasonAgainstCarrying_5 : decode cX4_reasonAgainstCarrying 5 = .ok (.iload_n 1, 1) := by decide +kernel
theorem dX4_reasonAgainstCarrying_6 : decode cX4_reasonAgainstCarrying 6 = .ok (.iconst 0, 1) := by decide +kernel
theorem dX4_reasonAgainstCarrying_7 : decode cX4_reasonAgainstCarrying 7 = .ok (.invokevirtual 117, 3) := by decide +kernel
theorem dX4_reasonAgainstCarrying_10 : decode cX4_reasonAgainstCarrying 10 = .ok (.aload_n 0, 1) := by decide +kernel
theorem dX4_reasonAgainstCarrying_11 : decode cX4_reasonAgainstCarrying 11 = .ok (.getfield 28, 3) := by decide +kernel
theorem dX4_reasonAgainstCarrying_14 : decode cX4_reasonAgainstCarrying 14 = .ok (.iload_n 1, 1) := by decide +kernel
theorem dX4_reasonAgainstCarrying_15 : decode cX4_reasonAgainstCarrying 15 = .ok (.iconst 1, 1) := by decide +kernel
theorem dX4_reasonAgainstCarrying_16 : decode cX4_reasonAgainstCarrying 16 = .ok (.invokevirtual 117, 3) := by decide +kernel
theorem dX4_reasonAgainstCarrying_19 : decode cX4_reasonAgainstCarrying 19 = .ok (.aload_n 0, 1) := by decide +kernel
theorem dX4_reasonAgainstCarrying_20 : decode cX4_reasonAgainstCarrying 20 = .ok (.getfield 28, 3) := by decide +kernel
theorem dX4_reasonAgainstCarrying_23 : decode cX4_reasonAgainstCarrying 23 = .ok (.iload_n 1, 1) := by decide +kernel
theorem dX4_reasonAgainstCarrying_24 : decode cX4_reasonAgainstCarrying 24 = .ok (.iconst 2, 1) := by decide +kernel
theorem dX4_reasonAgainstCarrying_25 : decode cX4_reasonAgainstCarrying 25 = .ok (.invokevirtual 117, 3) := by decide +kernel
theorem dX4_reasonAgainstCarrying_28 : decode cX4_reasonAgainstCarrying 28 = .ok (.aload_n 0, 1) := by decide +kernel
theorem dX4_reasonAgainstCarrying_29 : decode cX4_reasonAgainstCarrying 29 = .ok (.getfield 28, 3) := by decide +kernel
theorem dX4_reasonAgainstCarrying_32 : decode cX4_reasonAgainstCarrying 32 = .ok (.iload_n 1, 1) := by decide +kernel
theorem dX4_reasonAgainstCarrying_33 : decode cX4_reasonAgainstCarrying 33 = .ok (.iconst 3, 1) := by decide +kernel
theorem dX4_reasonAgainstCarrying_34 : decode cX4_reasonAgainstCarrying 34 = .ok (.invokevirtual 117, 3) := by decide +kernel
theorem dX4_reasonAgainstCarrying_37 : decode cX4_reasonAgainstCarrying 37 = .ok (.invokevirtual 120, 3) := by decide +kernel
theorem dX4_reasonAgainstCarrying_40 : decode cX4_reasonAgainstCarrying 40 = .ok (.ireturn, 1) := by decide +kernel
theorem dX4_endMotion_0 : decode cX4_endMotion 0 = .ok (.iload_n 2, 1) := by decide +kernel
theorem dX4_endMotion_1 : decode cX4_endMotion 1 = .ok (.ifCond .eq 43, 3) := by decide +kernel
theorem dX4_endMotion_4 : decode cX4_endMotion 4 = .ok (.aload_n 0, 1) := by decide +kernel
theorem dX4_endMotion_5 : decode cX4_endMotion 5 = .ok (.aload_n 0, 1) := by decide +kernel
theorem dX4_endMotion_6 : decode cX4_endMotion 6 = .ok (.getfield 28, 3) := by decide +kernel
theorem dX4_endMotion_9 : decode cX4_endMotion 9 = .ok (.iload_n 1, 1) := by decide +kernel
theorem dX4_endMotion_10 : decode cX4_endMotion 10 = .ok (.iconst 0, 1) := by decide +kernel
theorem dX4_endMotion_11 : decode cX4_endMotion 11 = .ok (.invokevirtual 117, 3) := by decide +kernel
theorem dX4_endMotion_14 : decode cX4_endMotion 14 = .ok (.aload_n 0, 1) := by decide +kernel
theorem dX4_endMotion_15 : decode cX4_endMotion 15 = .ok (.getfield 28, 3) := by decide +kernel
theorem dX4_endMotion_18 : decode cX4_endMotion 18 = .ok (.iload_n 1, 1) := by decide +kernel
theorem dX4_endMotion_19 : decode cX4_endMotion 19 = .ok (.iconst 1, 1) := by decide +kernel
theorem dX4_endMotion_20 : decode cX4_endMotion 20 = .ok (.invokevirtual 117, 3) := by decide +kernel
theorem dX4_endMotion_23 : decode cX4_endMotion 23 = .ok (.aload_n 0, 1) := by decide +kernel
theorem dX4_endMotion_24 : decode cX4_endMotion 24 = .ok (.getfield 28, 3) := by decide +kernel
theorem dX4_endMotion_27 : decode cX4_endMotion 27 = .ok (.iload_n 1, 1) := by decide +kernel
theorem dX4_endMotion_28 : decode cX4_endMotion 28 = .ok (.iconst 2, 1) := by decide +kernel
theorem dX4_endMotion_29 : decode cX4_endMotion 29 = .ok (.invokevirtual 117, 3) := by decide +kernel
theorem dX4_endMotion_32 : decode cX4_endMotion 32 = .ok (.aload_n 0, 1) := by decide +kernel
theorem dX4_endMotion_33 : decode cX4_endMotion 33 = .ok (.getfield 28, 3) := by decide +kernel
theorem dX4_endMotion_36 : decode cX4_endMotion 36 = .ok (.iload_n 1, 1) := by decide +kernel
theorem dX4_endMotion_37 : decode cX4_endMotion 37 = .ok (.iconst 3, 1) := by decide +kernel
theorem dX4_endMotion_38 : decode cX4_endMotion 38 = .ok (.invokevirtual 117, 3) := by decide +kernel
theorem dX4_endMotion_41 : decode cX4_endMotion 41 = .ok (.invokevirtual 124, 3) := by decide +kernel
theorem dX4_endMotion_44 : decode cX4_endMotion 44 = .ok (.aload_n 0, 1) := by decide +kernel
theorem dX4_endMotion_45 : decode cX4_endMotion 45 = .ok (.getfield 28, 3) := by decide +kernel
theorem dX4_endMotion_48 : decode cX4_endMotion 48 = .ok (.iload_n 1, 1) := by decide +kernel
theorem dX4_endMotion_49 : decode cX4_endMotion 49 = .ok (.iconst 4, 1) := by decide +kernel
theorem dX4_endMotion_50 : decode cX4_endMotion 50 = .ok (.iload_n 2, 1) := by decide +kernel
theorem dX4_endMotion_51 : decode cX4_endMotion 51 = .ok (.ifCond .eq 7, 3) := by decide +kernel
theorem dX4_endMotion_54 : decode cX4_endMotion 54 = .ok (.iconst 1, 1) := by decide +kernel
theorem dX4_endMotion_55 : decode cX4_endMotion 55 = .ok (.goto 4, 3) := by decide +kernel
theorem dX4_endMotion_58 : decode cX4_endMotion 58 = .ok (.iconst 2, 1) := by decide +kernel
theorem dX4_endMotion_59 : decode cX4_endMotion 59 = .ok (.invokevirtual 128, 3) := by decide +kernel
theorem dX4_endMotion_62 : decode cX4_endMotion 62 = .ok (.return_, 1) := by decide +kernel
theorem dX4_canBeCarried_0 : decode cX4_canBeCarried 0 = .ok (.aload_n 0, 1) := by decide +kernel
theorem dX4_canBeCarried_1 : decode cX4_canBeCarried 1 = .ok (.iload_n 1, 1) := by decide +kernel
theorem dX4_canBeCarried_2 : decode cX4_canBeCarried 2 = .ok (.iconst 1, 1) := by decide +kernel
theorem dX4_canBeCarried_3 : decode cX4_canBeCarried 3 = .ok (.iload_n 2, 1) := by decide +kernel
theorem dX4_canBeCarried_4 : decode cX4_canBeCarried 4 = .ok (.invokevirtual 129, 3) := by decide +kernel
theorem dX4_canBeCarried_7 : decode cX4_canBeCarried 7 = .ok (.aload_n 0, 1) := by decide +kernel
theorem dX4_canBeCarried_8 : decode cX4_canBeCarried 8 = .ok (.iload_n 1, 1) := by decide +kernel
theorem dX4_canBeCarried_9 : decode cX4_canBeCarried 9 = .ok (.iconst (-1), 1) := by decide +kernel
theorem dX4_canBeCarried_10 : decode cX4_canBeCarried 10 = .ok (.iload_n 2, 1) := by decide +kernel
theorem dX4_canBeCarried_11 : decode cX4_canBeCarried 11 = .ok (.invokevirtual 129, 3) := by decide +kernel
theorem dX4_canBeCarried_14 : decode cX4_canBeCarried 14 = .ok (.if_icmp .le 34, 3) := by decide +kernel
theorem dX4_canBeCarried_17 : decode cX4_canBeCarried 17 = .ok (.bipush 100, 2) := by decide +kernel
theorem dX4_canBeCarried_19 : decode cX4_canBeCarried 19 = .ok (.aload_n 0, 1) := by decide +kernel
theorem dX4_canBeCarried_20 : decode cX4_canBeCarried 20 = .ok (.iload_n 1, 1) := by decide +kernel
theorem dX4_canBeCarried_21 : decode cX4_canBeCarried 21 = .ok (.iconst 1, 1) := by decide +kernel
theorem dX4_canBeCarried_22 : decode cX4_canBeCarried 22 = .ok (.iload_n 2, 1) := by decide +kernel
theorem dX4_canBeCarried_23 : decode cX4_canBeCarried 23 = .ok (.invokevirtual 132, 3) := by decide +kernel
theorem dX4_canBeCarried_26 : decode cX4_canBeCarried 26 = .ok (.imul, 1) := by decide +kernel
theorem dX4_canBeCarried_27 : decode cX4_canBeCarried 27 = .ok (.aload_n 0, 1) := by decide +kernel
theorem dX4_canBeCarried_28 : decode cX4_canBeCarried 28 = .ok (.getfield 36, 3) := by decide +kernel
theorem dX4_canBeCarried_31 : decode cX4_canBeCarried 31 = .ok (.iconst 1, 1) := by decide +kernel
theorem dX4_canBeCarried_32 : decode cX4_canBeCarried 32 = .ok (.iaload, 1) := by decide +kernel
theorem dX4_canBeCarried_33 : decode cX4_canBeCarried 33 = .ok (.aload_n 0, 1) := by decide +kernel
theorem dX4_canBeCarried_34 : decode cX4_canBeCarried 34 = .ok (.getfield 12, 3) := by decide +kernel
theorem dX4_canBeCarried_37 : decode cX4_canBeCarried 37 = .ok (.invokevirtual 135, 3) := by decide +kernel
theorem dX4_canBeCarried_40 : decode cX4_canBeCarried 40 = .ok (.imul, 1) := by decide +kernel
theorem dX4_canBeCarried_41 : decode cX4_canBeCarried 41 = .ok (.if_icmp .lt 7, 3) := by decide +kernel
theorem dX4_canBeCarried_44 : decode cX4_canBeCarried 44 = .ok (.iconst 1, 1) := by decide +kernel
theorem dX4_canBeCarried_45 : decode cX4_canBeCarried 45 = .ok (.goto 4, 3) := by decide +kernel
theorem dX4_canBeCarried_48 : decode cX4_canBeCarried 48 = .ok (.iconst 0, 1) := by decide +kernel
theorem dX4_canBeCarried_49 : decode cX4_canBeCarried 49 = .ok (.ireturn, 1) := by decide +kernel
theorem dX4_countHeads_0 : decode cX4_countHeads 0 = .ok (.iconst 0, 1) := by decide +kernel
theorem dX4_countHeads_1 : decode cX4_countHeads 1 = .ok (.istore 4, 2) := by decide +kernel
theorem dX4_countHeads_3 : decode cX4_countHeads 3 = .ok (.iconst 0, 1) := by decide +kernel
theorem dX4_countHeads_4 : decode cX4_countHeads 4 = .ok (.istore 5, 2) := by decide +kernel
theorem dX4_countHeads_6 : decode cX4_countHeads 6 = .ok (.iload 5, 2) := by decide +kernel
theorem dX4_countHeads_8 : decode cX4_countHeads 8 = .ok (.bipush 8, 2) := by decide +kernel
theorem dX4_countHeads_10 : decode cX4_countHeads 10 = .ok (.if_icmp .ge 24, 3) := by decide +kernel
theorem dX4_countHeads_13 : decode cX4_countHeads 13 = .ok (.aload_n 0, 1) := by decide +kernel
theorem dX4_countHeads_14 : decode cX4_countHeads 14 = .ok (.iload_n 1, 1) := by decide +kernel
theorem dX4_countHeads_15 : decode cX4_countHeads 15 = .ok (.iload 5, 2) := by decide +kernel
theorem dX4_countHeads_17 : decode cX4_countHeads 17 = .ok (.iload_n 3, 1) := by decide +kernel
theorem dX4_countHeads_18 : decode cX4_countHeads 18 = .ok (.invokevirtual 138, 3) := by decide +kernel
theorem dX4_countHeads_21 : decode cX4_countHeads 21 = .ok (.iload_n 2, 1) := by decide +kernel
theorem dX4_countHeads_22 : decode cX4_countHeads 22 = .ok (.if_icmp .ne 6, 3) := by decide +kernel
theorem dX4_countHeads_25 : decode cX4_countHeads 25 = .ok (.iinc 4 1, 3) := by decide +kernel
theorem dX4_countHeads_28 : decode cX4_countHeads 28 = .ok (.iinc 5 1, 3) := by decide +kernel
theorem dX4_countHeads_31 : decode cX4_countHeads 31 = .ok (.goto (-25), 3) := by decide +kernel
theorem dX4_countHeads_34 : decode cX4_countHeads 34 = .ok (.iload 4, 2) := by decide +kernel
theorem dX4_countHeads_36 : decode cX4_countHeads 36 = .ok (.ireturn, 1) := by decide +kernel
theorem dX4_sumSharesVoting_0 : decode cX4_sumSharesVoting 0 = .ok (.iconst 0, 1) := by decide +kernel
theorem dX4_sumSharesVoting_1 : decode cX4_sumSharesVoting 1 = .ok (.istore 4, 2) := by decide +kernel
theorem dX4_sumSharesVoting_3 : decode cX4_sumSharesVoting 3 = .ok (.iconst 0, 1) := by decide +kernel
theorem dX4_sumSharesVoting_4 : decode cX4_sumSharesVoting 4 = .ok (.istore 5, 2) := by decide +kernel
theorem dX4_sumSharesVoting_6 : decode cX4_sumSharesVoting 6 = .ok (.iload 5, 2) := by decide +kernel
theorem dX4_sumSharesVoting_8 : decode cX4_sumSharesVoting 8 = .ok (.aload_n 0, 1) := by decide +kernel
theorem dX4_sumSharesVoting_9 : decode cX4_sumSharesVoting 9 = .ok (.getfield 12, 3) := by decide +kernel
theorem dX4_sumSharesVoting_12 : decode cX4_sumSharesVoting 12 = .ok (.getfield 141, 3) := by decide +kernel
theorem dX4_sumSharesVoting_15 : decode cX4_sumSharesVoting 15 = .ok (.if_icmp .ge 36, 3) := by decide +kernel
theorem dX4_sumSharesVoting_18 : decode cX4_sumSharesVoting 18 = .ok (.aload_n 0, 1) := by decide +kernel
theorem dX4_sumSharesVoting_19 : decode cX4_sumSharesVoting 19 = .ok (.iload_n 1, 1) := by decide +kernel
theorem dX4_sumSharesVoting_20 : decode cX4_sumSharesVoting 20 = .ok (.iload 5, 2) := by decide +kernel
theorem dX4_sumSharesVoting_22 : decode cX4_sumSharesVoting 22 = .ok (.iload_n 3, 1) := by decide +kernel
theorem dX4_sumSharesVoting_23 : decode cX4_sumSharesVoting 23 = .ok (.invokevirtual 144, 3) := by decide +kernel
theorem dX4_sumSharesVoting_26 : decode cX4_sumSharesVoting 26 = .ok (.iload_n 2, 1) := by decide +kernel
theorem dX4_sumSharesVoting_27 : decode cX4_sumSharesVoting 27 = .ok (.if_icmp .ne 18, 3) := by decide +kernel
theorem dX4_sumSharesVoting_30 : decode cX4_sumSharesVoting 30 = .ok (.iload 4, 2) := by decide +kernel
theorem dX4_sumSharesVoting_32 : decode cX4_sumSharesVoting 32 = .ok (.aload_n 0, 1) := by decide +kernel
theorem dX4_sumSharesVoting_33 : decode cX4_sumSharesVoting 33 = .ok (.getfield 12, 3) := by decide +kernel
theorem dX4_sumSharesVoting_36 : decode cX4_sumSharesVoting 36 = .ok (.getfield 147, 3) := by decide +kernel
theorem dX4_sumSharesVoting_39 : decode cX4_sumSharesVoting 39 = .ok (.iload 5, 2) := by decide +kernel
theorem dX4_sumSharesVoting_41 : decode cX4_sumSharesVoting 41 = .ok (.iaload, 1) := by decide +kernel
theorem dX4_sumSharesVoting_42 : decode cX4_sumSharesVoting 42 = .ok (.iadd, 1) := by decide +kernel
theorem dX4_sumSharesVoting_43 : decode cX4_sumSharesVoting 43 = .ok (.istore 4, 2) := by decide +kernel
theorem dX4_sumSharesVoting_45 : decode cX4_sumSharesVoting 45 = .ok (.iinc 5 1, 3) := by decide +kernel
theorem dX4_sumSharesVoting_48 : decode cX4_sumSharesVoting 48 = .ok (.goto (-42), 3) := by decide +kernel
theorem dX4_sumSharesVoting_51 : decode cX4_sumSharesVoting 51 = .ok (.iload 4, 2) := by decide +kernel
theorem dX4_sumSharesVoting_53 : decode cX4_sumSharesVoting 53 = .ok (.ireturn, 1) := by decide +kernel
theorem dX4_isOrCanBeCarried_0 : decode cX4_isOrCanBeCarried 0 = .ok (.aload_n 0, 1) := by decide +kernel
theorem dX4_isOrCanBeCarried_1 : decode cX4_isOrCanBeCarried 1 = .ok (.getfield 28, 3) := by decide +kernel
theorem dX4_isOrCanBeCarried_4 : decode cX4_isOrCanBeCarried 4 = .ok (.iload_n 1, 1) := by decide +kernel
theorem dX4_isOrCanBeCarried_5 : decode cX4_isOrCanBeCarried 5 = .ok (.invokevirtual 150, 3) := by decide +kernel
theorem dX4_isOrCanBeCarried_8 : decode cX4_isOrCanBeCarried 8 = .ok (.ifCond .eq 10, 3) := by decide +kernel
theorem dX4_isOrCanBeCarried_11 : decode cX4_isOrCanBeCarried 11 = .ok (.aload_n 0, 1) := by decide +kernel
theorem dX4_isOrCanBeCarried_12 : decode cX4_isOrCanBeCarried 12 = .ok (.iload_n 1, 1) := by decide +kernel
theorem dX4_isOrCanBeCarried_13 : decode cX4_isOrCanBeCarried 13 = .ok (.iconst 0, 1) := by decide +kernel
theorem dX4_isOrCanBeCarried_14 : decode cX4_isOrCanBeCarried 14 = .ok (.invokevirtual 154, 3) := by decide +kernel
theorem dX4_isOrCanBeCarried_17 : decode cX4_isOrCanBeCarried 17 = .ok (.ireturn, 1) := by decide +kernel
theorem dX4_isOrCanBeCarried_18 : decode cX4_isOrCanBeCarried 18 = .ok (.aload_n 0, 1) := by decide +kernel
theorem dX4_isOrCanBeCarried_19 : decode cX4_isOrCanBeCarried 19 = .ok (.getfield 28, 3) := by decide +kernel
theorem dX4_isOrCanBeCarried_22 : decode cX4_isOrCanBeCarried 22 = .ok (.iload_n 1, 1) := by decide +kernel
theorem dX4_isOrCanBeCarried_23 : decode cX4_isOrCanBeCarried 23 = .ok (.iconst 4, 1) := by decide +kernel
theorem dX4_isOrCanBeCarried_24 : decode cX4_isOrCanBeCarried 24 = .ok (.invokevirtual 117, 3) := by decide +kernel
theorem dX4_isOrCanBeCarried_27 : decode cX4_isOrCanBeCarried 27 = .ok (.iconst 1, 1) := by decide +kernel
theorem dX4_isOrCanBeCarried_28 : decode cX4_isOrCanBeCarried 28 = .ok (.if_icmp .ne 7, 3) := by decide +kernel
theorem dX4_isOrCanBeCarried_31 : decode cX4_isOrCanBeCarried 31 = .ok (.iconst 1, 1) := by decide +kernel
theorem dX4_isOrCanBeCarried_32 : decode cX4_isOrCanBeCarried 32 = .ok (.goto 4, 3) := by decide +kernel
theorem dX4_isOrCanBeCarried_35 : decode cX4_isOrCanBeCarried 35 = .ok (.iconst 0, 1) := by decide +kernel
theorem dX4_isOrCanBeCarried_36 : decode cX4_isOrCanBeCarried 36 = .ok (.ireturn, 1) := by decide +kernel
theorem dX4_countSilentBelow_0 : decode cX4_countSilentBelow 0 = .ok (.iconst 0, 1) := by decide +kernel
theorem dX4_countSilentBelow_1 : decode cX4_countSilentBelow 1 = .ok (.istore_n 3, 1) := by decide +kernel
theorem dX4_countSilentBelow_2 : decode cX4_countSilentBelow 2 = .ok (.iconst 0, 1) := by decide +kernel
theorem dX4_countSilentBelow_3 : decode cX4_countSilentBelow 3 = .ok (.istore 4, 2) := by decide +kernel
theorem dX4_countSilentBelow_5 : decode cX4_countSilentBelow 5 = .ok (.iload 4, 2) := by decide +kernel
theorem dX4_countSilentBelow_7 : decode cX4_countSilentBelow 7 = .ok (.iload_n 2, 1) := by decide +kernel
theorem dX4_countSilentBelow_8 : decode cX4_countSilentBelow 8 = .ok (.if_icmp .ge 37, 3) := by decide +kernel
theorem dX4_countSilentBelow_11 : decode cX4_countSilentBelow 11 = .ok (.iload 4, 2) := by decide +kernel
theorem dX4_countSilentBelow_13 : decode cX4_countSilentBelow 13 = .ok (.aload_n 0, 1) := by decide +kernel
theorem dX4_countSilentBelow_14 : decode cX4_countSilentBelow 14 = .ok (.getfield 12, 3) := by decide +kernel
theorem dX4_countSilentBelow_17 : decode cX4_countSilentBelow 17 = .ok (.getfield 141, 3) := by decide +kernel
theorem dX4_countSilentBelow_20 : decode cX4_countSilentBelow 20 = .ok (.if_icmp .ge 25, 3) := by decide +kernel
theorem dX4_countSilentBelow_23 : decode cX4_countSilentBelow 23 = .ok (.aload_n 0, 1) := by decide +kernel
theorem dX4_countSilentBelow_24 : decode cX4_countSilentBelow 24 = .ok (.getfield 28, 3) := by decide +kernel
theorem dX4_countSilentBelow_27 : decode cX4_countSilentBelow 27 = .ok (.iload_n 1, 1) := by decide +kernel
theorem dX4_countSilentBelow_28 : decode cX4_countSilentBelow 28 = .ok (.iload 4, 2) := by decide +kernel
theorem dX4_countSilentBelow_30 : decode cX4_countSilentBelow 30 = .ok (.invokevirtual 158, 3) := by decide +kernel
theorem dX4_countSilentBelow_33 : decode cX4_countSilentBelow 33 = .ok (.ifCond .ne 6, 3) := by decide +kernel
theorem dX4_countSilentBelow_36 : decode cX4_countSilentBelow 36 = .ok (.iinc 3 1, 3) := by decide +kernel
theorem dX4_countSilentBelow_39 : decode cX4_countSilentBelow 39 = .ok (.iinc 4 1, 3) := by decide +kernel
theorem dX4_countSilentBelow_42 : decode cX4_countSilentBelow 42 = .ok (.goto (-37), 3) := by decide +kernel
theorem dX4_countSilentBelow_45 : decode cX4_countSilentBelow 45 = .ok (.iload_n 3, 1) := by decide +kernel
theorem dX4_countSilentBelow_46 : decode cX4_countSilentBelow 46 = .ok (.ireturn, 1) := by decide +kernel
theorem dX4_sideOfOwner_0 : decode cX4_sideOfOwner 0 = .ok (.iconst 0, 1) := by decide +kernel
theorem dX4_sideOfOwner_1 : decode cX4_sideOfOwner 1 = .ok (.istore 4, 2) := by decide +kernel
theorem dX4_sideOfOwner_3 : decode cX4_sideOfOwner 3 = .ok (.iload 4, 2) := by decide +kernel
theorem dX4_sideOfOwner_5 : decode cX4_sideOfOwner 5 = .ok (.aload_n 0, 1) := by decide +kernel
theorem dX4_sideOfOwner_6 : decode cX4_sideOfOwner 6 = .ok (.getfield 12, 3) := by decide +kernel
theorem dX4_sideOfOwner_9 : decode cX4_sideOfOwner 9 = .ok (.getfield 141, 3) := by decide +kernel
theorem dX4_sideOfOwner_12 : decode cX4_sideOfOwner 12 = .ok (.if_icmp .ge 41, 3) := by decide +kernel
theorem dX4_sideOfOwner_15 : decode cX4_sideOfOwner 15 = .ok (.aload_n 0, 1) := by decide +kernel
theorem dX4_sideOfOwner_16 : decode cX4_sideOfOwner 16 = .ok (.iload_n 1, 1) := by decide +kernel
theorem dX4_sideOfOwner_17 : decode cX4_sideOfOwner 17 = .ok (.iload 4, 2) := by decide +kernel
theorem dX4_sideOfOwner_19 : decode cX4_sideOfOwner 19 = .ok (.iload_n 3, 1) := by decide +kernel
theorem dX4_sideOfOwner_20 : decode cX4_sideOfOwner 20 = .ok (.invokevirtual 144, 3) := by decide +kernel
theorem dX4_sideOfOwner_23 : decode cX4_sideOfOwner 23 = .ok (.istore 5, 2) := by decide +kernel
theorem dX4_sideOfOwner_25 : decode cX4_sideOfOwner 25 = .ok (.aload_n 0, 1) := by decide +kernel
theorem dX4_sideOfOwner_26 : decode cX4_sideOfOwner 26 = .ok (.getfield 12, 3) := by decide +kernel
theorem dX4_sideOfOwner_29 : decode cX4_sideOfOwner 29 = .ok (.getfield 161, 3) := by decide +kernel
theorem dX4_sideOfOwner_32 : decode cX4_sideOfOwner 32 = .ok (.iload 4, 2) := by decide +kernel
theorem dX4_sideOfOwner_34 : decode cX4_sideOfOwner 34 = .ok (.iaload, 1) := by decide +kernel
theorem dX4_sideOfOwner_35 : decode cX4_sideOfOwner 35 = .ok (.iload_n 2, 1) := by decide +kernel
theorem dX4_sideOfOwner_36 : decode cX4_sideOfOwner 36 = .ok (.if_icmp .ne 11, 3) := by decide +kernel
theorem dX4_sideOfOwner_39 : decode cX4_sideOfOwner 39 = .ok (.iload 5, 2) := by decide +kernel
theorem dX4_sideOfOwner_41 : decode cX4_sideOfOwner 41 = .ok (.ifCond .eq 6, 3) := by decide +kernel
theorem dX4_sideOfOwner_44 : decode cX4_sideOfOwner 44 = .ok (.iload 5, 2) := by decide +kernel
theorem dX4_sideOfOwner_46 : decode cX4_sideOfOwner 46 = .ok (.ireturn, 1) := by decide +kernel
theorem dX4_sideOfOwner_47 : decode cX4_sideOfOwner 47 = .ok (.iinc 4 1, 3) := by decide +kernel
theorem dX4_sideOfOwner_50 : decode cX4_sideOfOwner 50 = .ok (.goto (-47), 3) := by decide +kernel
theorem dX4_sideOfOwner_53 : decode cX4_sideOfOwner 53 = .ok (.iconst 0, 1) := by decide +kernel
theorem dX4_sideOfOwner_54 : decode cX4_sideOfOwner 54 = .ok (.ireturn, 1) := by decide +kernel
theorem dX4_sideOfUnit_0 : decode cX4_sideOfUnit 0 = .ok (.aload_n 0, 1) := by decide +kernel
theorem dX4_sideOfUnit_1 : decode cX4_sideOfUnit 1 = .ok (.getfield 28, 3) := by decide +kernel
theorem dX4_sideOfUnit_4 : decode cX4_sideOfUnit 4 = .ok (.iload_n 1, 1) := by decide +kernel
theorem dX4_sideOfUnit_5 : decode cX4_sideOfUnit 5 = .ok (.iload_n 2, 1) := by decide +kernel
theorem dX4_sideOfUnit_6 : decode cX4_sideOfUnit 6 = .ok (.invokevirtual 158, 3) := by decide +kernel
theorem dX4_sideOfUnit_9 : decode cX4_sideOfUnit 9 = .ok (.istore 4, 2) := by decide +kernel
theorem dX4_sideOfUnit_11 : decode cX4_sideOfUnit 11 = .ok (.iload 4, 2) := by decide +kernel
theorem dX4_sideOfUnit_13 : decode cX4_sideOfUnit 13 = .ok (.ifCond .ne 12, 3) := by decide +kernel
theorem dX4_sideOfUnit_16 : decode cX4_sideOfUnit 16 = .ok (.iload_n 2, 1) := by decide +kernel
theorem dX4_sideOfUnit_17 : decode cX4_sideOfUnit 17 = .ok (.iload_n 3, 1) := by decide +kernel
theorem dX4_sideOfUnit_18 : decode cX4_sideOfUnit 18 = .ok (.if_icmp .ge 7, 3) := by decide +kernel
theorem dX4_sideOfUnit_21 : decode cX4_sideOfUnit 21 = .ok (.iconst 1, 1) := by decide +kernel
theorem dX4_sideOfUnit_22 : decode cX4_sideOfUnit 22 = .ok (.goto 5, 3) := by decide +kernel
theorem dX4_sideOfUnit_25 : decode cX4_sideOfUnit 25 = .ok (.iload 4, 2) := by decide +kernel
theorem dX4_sideOfUnit_27 : decode cX4_sideOfUnit 27 = .ok (.ireturn, 1) := by decide +kernel
theorem dX4_payableByFund_0 : decode cX4_payableByFund 0 = .ok (.iload_n 3, 1) := by decide +kernel
theorem dX4_payableByFund_1 : decode cX4_payableByFund 1 = .ok (.ifCond .eq 16, 3) := by decide +kernel
theorem dX4_payableByFund_4 : decode cX4_payableByFund 4 = .ok (.aload_n 0, 1) := by decide +kernel
theorem dX4_payableByFund_5 : decode cX4_payableByFund 5 = .ok (.getfield 32, 3) := by decide +kernel
theorem dX4_payableByFund_8 : decode cX4_payableByFund 8 = .ok (.iload_n 1, 1) := by decide +kernel
theorem dX4_payableByFund_9 : decode cX4_payableByFund 9 = .ok (.iaload, 1) := by decide +kernel
theorem dX4_payableByFund_10 : decode cX4_payableByFund 10 = .ok (.iload_n 2, 1) := by decide +kernel
theorem dX4_payableByFund_11 : decode cX4_payableByFund 11 = .ok (.invokestatic 164, 3) := by decide +kernel
theorem dX4_payableByFund_14 : decode cX4_payableByFund 14 = .ok (.goto 4, 3) := by decide +kernel
theorem dX4_payableByFund_17 : decode cX4_payableByFund 17 = .ok (.iconst 0, 1) := by decide +kernel
theorem dX4_payableByFund_18 : decode cX4_payableByFund 18 = .ok (.ireturn, 1) := by decide +kernel
theorem dX4_canCharge_0 : decode cX4_canCharge 0 = .ok (.aload_n 0, 1) := by decide +kernel
theorem dX4_canCharge_1 : decode cX4_canCharge 1 = .ok (.getfield 39, 3) := by decide +kernel
theorem dX4_canCharge_4 : decode cX4_canCharge 4 = .ok (.aload_n 0, 1) := by decide +kernel
theorem dX4_canCharge_5 : decode cX4_canCharge 5 = .ok (.getfield 12, 3) := by decide +kernel
theorem dX4_canCharge_8 : decode cX4_canCharge 8 = .ok (.aload_n 0, 1) := by decide +kernel
theorem dX4_canCharge_9 : decode cX4_canCharge 9 = .ok (.getfield 36, 3) := by decide +kernel
theorem dX4_canCharge_12 : decode cX4_canCharge 12 = .ok (.iconst 0, 1) := by decide +kernel
theorem dX4_canCharge_13 : decode cX4_canCharge 13 = .ok (.iaload, 1) := by decide +kernel
theorem dX4_canCharge_14 : decode cX4_canCharge 14 = .ok (.iload_n 1, 1) := by decide +kernel
theorem dX4_canCharge_15 : decode cX4_canCharge 15 = .ok (.iload_n 2, 1) := by decide +kernel
theorem dX4_canCharge_16 : decode cX4_canCharge 16 = .ok (.iload_n 3, 1) := by decide +kernel
theorem dX4_canCharge_17 : decode cX4_canCharge 17 = .ok (.invokevirtual 93, 3) := by decide +kernel
theorem dX4_canCharge_20 : decode cX4_canCharge 20 = .ok (.iconst 0, 1) := by decide +kernel
theorem dX4_canCharge_21 : decode cX4_canCharge 21 = .ok (.istore 4, 2) := by decide +kernel
theorem dX4_canCharge_23 : decode cX4_canCharge 23 = .ok (.iload 4, 2) := by decide +kernel
theorem dX4_canCharge_25 : decode cX4_canCharge 25 = .ok (.aload_n 0, 1) := by decide +kernel
theorem dX4_canCharge_26 : decode cX4_canCharge 26 = .ok (.getfield 12, 3) := by decide +kernel
theorem dX4_canCharge_29 : decode cX4_canCharge 29 = .ok (.getfield 141, 3) := by decide +kernel
theorem dX4_canCharge_32 : decode cX4_canCharge 32 = .ok (.if_icmp .ge 36, 3) := by decide +kernel
theorem dX4_canCharge_35 : decode cX4_canCharge 35 = .ok (.aload_n 0, 1) := by decide +kernel
theorem dX4_canCharge_36 : decode cX4_canCharge 36 = .ok (.getfield 12, 3) := by decide +kernel
theorem dX4_canCharge_39 : decode cX4_canCharge 39 = .ok (.iload 4, 2) := by decide +kernel
theorem dX4_canCharge_41 : decode cX4_canCharge 41 = .ok (.invokevirtual 68, 3) := by decide +kernel
theorem dX4_canCharge_44 : decode cX4_canCharge 44 = .ok (.aload_n 0, 1) := by decide +kernel
theorem dX4_canCharge_45 : decode cX4_canCharge 45 = .ok (.getfield 39, 3) := by decide +kernel
theorem dX4_canCharge_48 : decode cX4_canCharge 48 = .ok (.getfield 99, 3) := by decide +kernel
theorem dX4_canCharge_51 : decode cX4_canCharge 51 = .ok (.iload 4, 2) := by decide +kernel
theorem dX4_canCharge_53 : decode cX4_canCharge 53 = .ok (.iaload, 1) := by decide +kernel
theorem dX4_canCharge_54 : decode cX4_canCharge 54 = .ok (.isub, 1) := by decide +kernel
theorem dX4_canCharge_55 : decode cX4_canCharge 55 = .ok (.ldc 169, 2) := by decide +kernel
theorem dX4_canCharge_57 : decode cX4_canCharge 57 = .ok (.if_icmp .ge 5, 3) := by decide +kernel
theorem dX4_canCharge_60 : decode cX4_canCharge 60 = .ok (.iconst 0, 1) := by decide +kernel
theorem dX4_canCharge_61 : decode cX4_canCharge 61 = .ok (.ireturn, 1) := by decide +kernel
theorem dX4_canCharge_62 : decode cX4_canCharge 62 = .ok (.iinc 4 1, 3) := by decide +kernel
theorem dX4_canCharge_65 : decode cX4_canCharge 65 = .ok (.goto (-42), 3) := by decide +kernel
theorem dX4_canCharge_68 : decode cX4_canCharge 68 = .ok (.aload_n 0, 1) := by decide +kernel
theorem dX4_canCharge_69 : decode cX4_canCharge 69 = .ok (.getfield 12, 3) := by decide +kernel
theorem dX4_canCharge_72 : decode cX4_canCharge 72 = .ok (.invokevirtual 170, 3) := by decide +kernel
theorem dX4_canCharge_75 : decode cX4_canCharge 75 = .ok (.iload_n 3, 1) := by decide +kernel
theorem dX4_canCharge_76 : decode cX4_canCharge 76 = .ok (.iadd, 1) := by decide +kernel
theorem dX4_canCharge_77 : decode cX4_canCharge 77 = .ok (.ldc 77, 2) := by decide +kernel
theorem dX4_canCharge_79 : decode cX4_canCharge 79 = .ok (.if_icmp .gt 7, 3) := by decide +kernel
theorem dX4_canCharge_82 : decode cX4_canCharge 82 = .ok (.iconst 1, 1) := by decide +kernel
theorem dX4_canCharge_83 : decode cX4_canCharge 83 = .ok (.goto 4, 3) := by decide +kernel
theorem dX4_canCharge_86 : decode cX4_canCharge 86 = .ok (.iconst 0, 1) := by decide +kernel
theorem dX4_canCharge_87 : decode cX4_canCharge 87 = .ok (.ireturn, 1) := by decide +kernel
theorem dX5_init_0 : decode cX5_init 0 = .ok (.aload_n 0, 1) := by decide +kernel
theorem dX5_init_1 : decode cX5_init 1 = .ok (.invokespecial 3, 3) := by decide +kernel
theorem dX5_init_4 : decode cX5_init 4 = .ok (.aload_n 0, 1) := by decide +kernel
theorem dX5_init_5 : decode cX5_init 5 = .ok (.bipush 40, 2) := by decide +kernel
theorem dX5_init_7 : decode cX5_init 7 = .ok (.newarray .int, 2) := by decide +kernel
theorem dX5_init_9 : decode cX5_init 9 = .ok (.putfield 11, 3) := by decide +kernel
theorem dX5_init_12 : decode cX5_init 12 = .ok (.aload_n 0, 1) := by decide +kernel
theorem dX5_init_13 : decode cX5_init 13 = .ok (.bipush 96, 2) := by decide +kernel
theorem dX5_init_15 : decode cX5_init 15 = .ok (.newarray .int, 2) := by decide +kernel
theorem dX5_init_17 : decode cX5_init 17 = .ok (.putfield 15, 3) := by decide +kernel
theorem dX5_init_20 : decode cX5_init 20 = .ok (.return_, 1) := by decide +kernel
theorem dX5_copyFrom_0 : decode cX5_copyFrom 0 = .ok (.aload_n 0, 1) := by decide +kernel
theorem dX5_copyFrom_1 : decode cX5_copyFrom 1 = .ok (.aload_n 1, 1) := by decide +kernel
theorem dX5_copyFrom_2 : decode cX5_copyFrom 2 = .ok (.getfield 18, 3) := by decide +kernel
theorem dX5_copyFrom_5 : decode cX5_copyFrom 5 = .ok (.putfield 18, 3) := by decide +kernel
theorem dX5_copyFrom_8 : decode cX5_copyFrom 8 = .ok (.aload_n 1, 1) := by decide +kernel
theorem dX5_copyFrom_9 : decode cX5_copyFrom 9 = .ok (.getfield 11, 3) := by decide +kernel
theorem dX5_copyFrom_12 : decode cX5_copyFrom 12 = .ok (.iconst 0, 1) := by decide +kernel
theorem dX5_copyFrom_13 : decode cX5_copyFrom 13 = .ok (.aload_n 0, 1) := by decide +kernel
theorem dX5_copyFrom_14 : decode cX5_copyFrom 14 = .ok (.getfield 11, 3) := by decide +kernel
theorem dX5_copyFrom_17 : decode cX5_copyFrom 17 = .ok (.iconst 0, 1) := by decide +kernel
theorem dX5_copyFrom_18 : decode cX5_copyFrom 18 = .ok (.bipush 40, 2) := by decide +kernel
theorem dX5_copyFrom_20 : decode cX5_copyFrom 20 = .ok (.invokestatic 22, 3) := by decide +kernel
theorem dX5_copyFrom_23 : decode cX5_copyFrom 23 = .ok (.aload_n 1, 1) := by decide +kernel
theorem dX5_copyFrom_24 : decode cX5_copyFrom 24 = .ok (.getfield 15, 3) := by decide +kernel
theorem dX5_copyFrom_27 : decode cX5_copyFrom 27 = .ok (.iconst 0, 1) := by decide +kernel
theorem dX5_copyFrom_28 : decode cX5_copyFrom 28 = .ok (.aload_n 0, 1) := by decide +kernel
theorem dX5_copyFrom_29 : decode cX5_copyFrom 29 = .ok (.getfield 15, 3) := by decide +kernel
theorem dX5_copyFrom_32 : decode cX5_copyFrom 32 = .ok (.iconst 0, 1) := by decide +kernel
theorem dX5_copyFrom_33 : decode cX5_copyFrom 33 = .ok (.bipush 96, 2) := by decide +kernel
theorem dX5_copyFrom_35 : decode cX5_copyFrom 35 = .ok (.invokestatic 22, 3) := by decide +kernel
theorem dX5_copyFrom_38 : decode cX5_copyFrom 38 = .ok (.return_, 1) := by decide +kernel
theorem dX5_add_0 : decode cX5_add 0 = .ok (.aload_n 0, 1) := by decide +kernel
theorem dX5_add_1 : decode cX5_add 1 = .ok (.getfield 18, 3) := by decide +kernel
theorem dX5_add_4 : decode cX5_add 4 = .ok (.istore 5, 2) := by decide +kernel
theorem dX5_add_6 : decode cX5_add 6 = .ok (.aload_n 0, 1) := by decide +kernel
theorem dX5_add_7 : decode cX5_add 7 = .ok (.iload 5, 2) := by decide +kernel
theorem dX5_add_9 : decode cX5_add 9 = .ok (.iconst 0, 1) := by decide +kernel
theorem dX5_add_10 : decode cX5_add 10 = .ok (.iload_n 1, 1) := by decide +kernel
theorem dX5_add_11 : decode cX5_add 11 = .ok (.invokevirtual 28, 3) := by decide +kernel
theorem dX5_add_14 : decode cX5_add 14 = .ok (.aload_n 0, 1) := by decide +kernel
theorem dX5_add_15 : decode cX5_add 15 = .ok (.iload 5, 2) := by decide +kernel
theorem dX5_add_17 : decode cX5_add 17 = .ok (.iconst 1, 1) := by decide +kernel
theorem dX5_add_18 : decode cX5_add 18 = .ok (.iload_n 2, 1) := by decide +kernel
theorem dX5_add_19 : decode cX5_add 19 = .ok (.invokevirtual 28, 3) := by decide +kernel
theorem dX5_add_22 : decode cX5_add 22 = .ok (.aload_n 0, 1) := by decide +kernel
theorem dX5_add_23 : decode cX5_add 23 = .ok (.iload 5, 2) := by decide +kernel
theorem dX5_add_25 : decode cX5_add 25 = .ok (.iconst 2, 1) := by decide +kernel
theorem dX5_add_26 : decode cX5_add 26 = .ok (.iload_n 3, 1) := by decide +kernel
theorem dX5_add_27 : decode cX5_add 27 = .ok (.invokevirtual 28, 3) := by decide +kernel
theorem dX5_add_30 : decode cX5_add 30 = .ok (.aload_n 0, 1) := by decide +kernel
theorem dX5_add_31 : decode cX5_add 31 = .ok (.iload 5, 2) := by decide +kernel
theorem dX5_add_33 : decode cX5_add 33 = .ok (.iconst 3, 1) := by decide +kernel
theorem dX5_add_34 : decode cX5_add 34 = .ok (.iload 4, 2) := by decide +kernel
theorem dX5_add_36 : decode cX5_add 36 = .ok (.invokevirtual 28, 3) := by decide +kernel
theorem dX5_add_39 : decode cX5_add 39 = .ok (.aload_n 0, 1) := by decide +kernel
theorem dX5_add_40 : decode cX5_add 40 = .ok (.iload 5, 2) := by decide +kernel
theorem dX5_add_42 : decode cX5_add 42 = .ok (.iconst 4, 1) := by decide +kernel
theorem dX5_add_43 : decode cX5_add 43 = .ok (.iconst 0, 1) := by decide +kernel
theorem dX5_add_44 : decode cX5_add 44 = .ok (.invokevirtual 28, 3) := by decide +kernel
theorem dX5_add_47 : decode cX5_add 47 = .ok (.iconst 0, 1) := by decide +kernel
theorem dX5_add_48 : decode cX5_add 48 = .ok (.istore 6, 2) := by decide +kernel
theorem dX5_add_50 : decode cX5_add 50 = .ok (.iload 6, 2) := by decide +kernel
theorem dX5_add_52 : decode cX5_add 52 = .ok (.bipush 12, 2) := by decide +kernel
theorem dX5_add_54 : decode cX5_add 54 = .ok (.if_icmp .ge 18, 3) := by decide +kernel
theorem dX5_add_57 : decode cX5_add 57 = .ok (.aload_n 0, 1) := by decide +kernel
theorem dX5_add_58 : decode cX5_add 58 = .ok (.iload 5, 2) := by decide +kernel
theorem dX5_add_60 : decode cX5_add 60 = .ok (.iload 6, 2) := by decide +kernel
theorem dX5_add_62 : decode cX5_add 62 = .ok (.iconst 0, 1) := by decide +kernel
theorem dX5_add_63 : decode cX5_add 63 = .ok (.invokevirtual 32, 3) := by decide +kernel
theorem dX5_add_66 : decode cX5_add 66 = .ok (.iinc 6 1, 3) := by decide +kernel
theorem dX5_add_69 : decode cX5_add 69 = .ok (.goto (-19), 3) := by decide +kernel
theorem dX5_add_72 : decode cX5_add 72 = .ok (.aload_n 0, 1) := by decide +kernel
theorem dX5_add_73 : decode cX5_add 73 = .ok (.dup, 1) := by decide +kernel
theorem dX5_add_74 : decode cX5_add 74 = .ok (.getfield 18, 3) := by decide +kernel
theorem dX5_add_77 : decode cX5_add 77 = .ok (.iconst 1, 1) := by decide +kernel
theorem dX5_add_78 : decode cX5_add 78 = .ok (.iadd, 1) := by decide +kernel
theorem dX5_add_79 : decode cX5_add 79 = .ok (.putfield 18, 3) := by decide +kernel
theorem dX5_add_82 : decode cX5_add 82 = .ok (.iload 5, 2) := by decide +kernel
theorem dX5_add_84 : decode cX5_add 84 = .ok (.ireturn, 1) := by decide +kernel
theorem dX5_isMade_0 : decode cX5_isMade 0 = .ok (.iload_n 1, 1) := by decide +kernel
theorem dX5_isMade_1 : decode cX5_isMade 1 = .ok (.iconst 0, 1) := by decide +kernel
theorem dX5_isMade_2 : decode cX5_isMade 2 = .ok (.aload_n 0, 1) := by decide +kernel
theorem dX5_isMade_3 : decode cX5_isMade 3 = .ok (.getfield 18, 3) := by decide +kernel
theorem dX5_isMade_6 : decode cX5_isMade 6 = .ok (.iconst 1, 1) := by decide +kernel
theorem dX5_isMade_7 : decode cX5_isMade 7 = .ok (.isub, 1) := by decide +kernel
theorem dX5_isMade_8 : decode cX5_isMade 8 = .ok (.invokestatic 35, 3) := by decide +kernel
theorem dX5_isMade_11 : decode cX5_isMade 11 = .ok (.ireturn, 1) := by decide +kernel
theorem dX5_isOpen_0 : decode cX5_isOpen 0 = .ok (.aload_n 0, 1) := by decide +kernel
theorem dX5_isOpen_1 : decode cX5_isOpen 1 = .ok (.iload_n 1, 1) := by decide +kernel
theorem dX5_isOpen_2 : decode cX5_isOpen 2 = .ok (.invokevirtual 39, 3) := by decide +kernel
theorem dX5_isOpen_5 : decode cX5_isOpen 5 = .ok (.ifCond .eq 16, 3) := by decide +kernel
theorem dX5_isOpen_8 : decode cX5_isOpen 8 = .ok (.aload_n 0, 1) := by decide +kernel
theorem dX5_isOpen_9 : decode cX5_isOpen 9 = .ok (.iload_n 1, 1) := by decide +kernel
theorem dX5_isOpen_10 : decode cX5_isOpen 10 = .ok (.iconst 4, 1) := by decide +kernel
theorem dX5_isOpen_11 : decode cX5_isOpen 11 = .ok (.invokevirtual 43, 3) := by decide +kernel
theorem dX5_isOpen_14 : decode cX5_isOpen 14 = .ok (.ifCond .ne 7, 3) := by decide +kernel
theorem dX5_isOpen_17 : decode cX5_isOpen 17 = .ok (.iconst 1, 1) := by decide +kernel
theorem dX5_isOpen_18 : decode cX5_isOpen 18 = .ok (.goto 4, 3) := by decide +kernel
theorem dX5_isOpen_21 : decode cX5_isOpen 21 = .ok (.iconst 0, 1) := by decide +kernel
theorem dX5_isOpen_22 : decode cX5_isOpen 22 = .ok (.ireturn, 1) := by decide +kernel
theorem dX5_countOpen_0 : decode cX5_countOpen 0 = .ok (.iconst 0, 1) := by decide +kernel
theorem dX5_countOpen_1 : decode cX5_countOpen 1 = .ok (.istore_n 1, 1) := by decide +kernel
theorem dX5_countOpen_2 : decode cX5_countOpen 2 = .ok (.iconst 0, 1) := by decide +kernel
theorem dX5_countOpen_3 : decode cX5_countOpen 3 = .ok (.istore_n 2, 1) := by decide +kernel
theorem dX5_countOpen_4 : decode cX5_countOpen 4 = .ok (.iload_n 2, 1) := by decide +kernel
theorem dX5_countOpen_5 : decode cX5_countOpen 5 = .ok (.aload_n 0, 1) := by decide +kernel
theorem dX5_countOpen_6 : decode cX5_countOpen 6 = .ok (.getfield 18, 3) := by decide +kernel
theorem dX5_countOpen_9 : decode cX5_countOpen 9 = .ok (.if_icmp .ge 20, 3) := by decide +kernel
theorem dX5_countOpen_12 : decode cX5_countOpen 12 = .ok (.aload_n 0, 1) := by decide +kernel
theorem dX5_countOpen_13 : decode cX5_countOpen 13 = .ok (.iload_n 2, 1) := by decide +kernel
theorem dX5_countOpen_14 : decode cX5_countOpen 14 = .ok (.invokevirtual 47, 3) := by decide +kernel
theorem dX5_countOpen_17 : decode cX5_countOpen 17 = .ok (.ifCond .eq 6, 3) := by decide +kernel
theorem dX5_countOpen_20 : decode cX5_countOpen 20 = .ok (.iinc 1 1, 3) := by decide +kernel
theorem dX5_countOpen_23 : decode cX5_countOpen 23 = .ok (.iinc 2 1, 3) := by decide +kernel
theorem dX5_countOpen_26 : decode cX5_countOpen 26 = .ok (.goto (-22), 3) := by decide +kernel
theorem dX5_countOpen_29 : decode cX5_countOpen 29 = .ok (.iload_n 1, 1) := by decide +kernel
theorem dX5_countOpen_30 : decode cX5_countOpen 30 = .ok (.ireturn, 1) := by decide +kernel
theorem dX5_numberOf_0 : decode cX5_numberOf 0 = .ok (.aload_n 0, 1) := by decide +kernel
theorem dX5_numberOf_1 : decode cX5_numberOf 1 = .ok (.getfield 11, 3) := by decide +kernel
theorem dX5_numberOf_4 : decode cX5_numberOf 4 = .ok (.iload_n 1, 1) := by decide +kernel
theorem dX5_numberOf_5 : decode cX5_numberOf 5 = .ok (.iconst 5, 1) := by decide +kernel
theorem dX5_numberOf_6 : decode cX5_numberOf 6 = .ok (.imul, 1) := by decide +kernel
theorem dX5_numberOf_7 : decode cX5_numberOf 7 = .ok (.iload_n 2, 1) := by decide +kernel
theorem dX5_numberOf_8 : decode cX5_numberOf 8 = .ok (.iadd, 1) := by decide +kernel
theorem dX5_numberOf_9 : decode cX5_numberOf 9 = .ok (.iaload, 1) := by decide +kernel
theorem dX5_numberOf_10 : decode cX5_numberOf 10 = .ok (.ireturn, 1) := by decide +kernel
theorem dX5_putNumber_0 : decode cX5_putNumber 0 = .ok (.aload_n 0, 1) := by decide +kernel
theorem dX5_putNumber_1 : decode cX5_putNumber 1 = .ok (.getfield 11, 3) := by decide +kernel
theorem dX5_putNumber_4 : decode cX5_putNumber 4 = .ok (.iload_n 1, 1) := by decide +kernel
theorem dX5_putNumber_5 : decode cX5_putNumber 5 = .ok (.iconst 5, 1) := by decide +kernel
theorem dX5_putNumber_6 : decode cX5_putNumber 6 = .ok (.imul, 1) := by decide +kernel
theorem dX5_putNumber_7 : decode cX5_putNumber 7 = .ok (.iload_n 2, 1) := by decide +kernel
theorem dX5_putNumber_8 : decode cX5_putNumber 8 = .ok (.iadd, 1) := by decide +kernel
theorem dX5_putNumber_9 : decode cX5_putNumber 9 = .ok (.iload_n 3, 1) := by decide +kernel
theorem dX5_putNumber_10 : decode cX5_putNumber 10 = .ok (.iastore, 1) := by decide +kernel
theorem dX5_putNumber_11 : decode cX5_putNumber 11 = .ok (.return_, 1) := by decide +kernel
theorem dX5_voteOf_0 : decode cX5_voteOf 0 = .ok (.aload_n 0, 1) := by decide +kernel
theorem dX5_voteOf_1 : decode cX5_voteOf 1 = .ok (.getfield 15, 3) := by decide +kernel
theorem dX5_voteOf_4 : decode cX5_voteOf 4 = .ok (.iload_n 1, 1) := by decide +kernel
theorem dX5_voteOf_5 : decode cX5_voteOf 5 = .ok (.bipush 12, 2) := by decide +kernel
theorem dX5_voteOf_7 : decode cX5_voteOf 7 = .ok (.imul, 1) := by decide +kernel
theorem dX5_voteOf_8 : decode cX5_voteOf 8 = .ok (.iload_n 2, 1) := by decide +kernel
theorem dX5_voteOf_9 : decode cX5_voteOf 9 = .ok (.iadd, 1) := by decide +kernel
theorem dX5_voteOf_10 : decode cX5_voteOf 10 = .ok (.iaload, 1) := by decide +kernel
theorem dX5_voteOf_11 : decode cX5_voteOf 11 = .ok (.ireturn, 1) := by decide +kernel
theorem dX5_putVote_0 : decode cX5_putVote 0 = .ok (.aload_n 0, 1) := by decide +kernel
theorem dX5_putVote_1 : decode cX5_putVote 1 = .ok (.getfield 15, 3) := by decide +kernel
theorem dX5_putVote_4 : decode cX5_putVote 4 = .ok (.iload_n 1, 1) := by decide +kernel
theorem dX5_putVote_5 : decode cX5_putVote 5 = .ok (.bipush 12, 2) := by decide +kernel
theorem dX5_putVote_7 : decode cX5_putVote 7 = .ok (.imul, 1) := by decide +kernel
theorem dX5_putVote_8 : decode cX5_putVote 8 = .ok (.iload_n 2, 1) := by decide +kernel
theorem dX5_putVote_9 : decode cX5_putVote 9 = .ok (.iadd, 1) := by decide +kernel
theorem dX5_putVote_10 : decode cX5_putVote 10 = .ok (.iload_n 3, 1) := by decide +kernel
theorem dX5_putVote_11 : decode cX5_putVote 11 = .ok (.iastore, 1) := by decide +kernel
theorem dX5_putVote_12 : decode cX5_putVote 12 = .ok (.return_, 1) := by decide +kernel
theorem dX6_init_0 : decode cX6_init 0 = .ok (.aload_n 0, 1) := by decide +kernel
theorem dX6_init_1 : decode cX6_init 1 = .ok (.invokespecial 3, 3) := by decide +kernel
theorem dX6_init_4 : decode cX6_init 4 = .ok (.aload_n 0, 1) := by decide +kernel
theorem dX6_init_5 : decode cX6_init 5 = .ok (.bipush 12, 2) := by decide +kernel
theorem dX6_init_7 : decode cX6_init 7 = .ok (.newarray .int, 2) := by decide +kernel
theorem dX6_init_9 : decode cX6_init 9 = .ok (.putfield 9, 3) := by decide +kernel
theorem dX6_init_12 : decode cX6_init 12 = .ok (.aload_n 0, 1) := by decide +kernel
theorem dX6_init_13 : decode cX6_init 13 = .ok (.bipush 12, 2) := by decide +kernel
theorem dX6_init_15 : decode cX6_init 15 = .ok (.newarray .int, 2) := by decide +kernel
theorem dX6_init_17 : decode cX6_init 17 = .ok (.putfield 15, 3) := by decide +kernel
theorem dX6_init_20 : decode cX6_init 20 = .ok (.aload_n 0, 1) := by decide +kernel
theorem dX6_init_21 : decode cX6_init 21 = .ok (.bipush 12, 2) := by decide +kernel
theorem dX6_init_23 : decode cX6_init 23 = .ok (.newarray .int, 2) := by decide +kernel
theorem dX6_init_25 : decode cX6_init 25 = .ok (.putfield 18, 3) := by decide +kernel
theorem dX6_init_28 : decode cX6_init 28 = .ok (.aload_n 0, 1) := by decide +kernel
theorem dX6_init_29 : decode cX6_init 29 = .ok (.bipush 12, 2) := by decide +kernel
theorem dX6_init_31 : decode cX6_init 31 = .ok (.newarray .int, 2) := by decide +kernel
theorem dX6_init_33 : decode cX6_init 33 = .ok (.putfield 21, 3) := by decide +kernel
theorem dX6_init_36 : decode cX6_init 36 = .ok (.aload_n 0, 1) := by decide +kernel
theorem dX6_init_37 : decode cX6_init 37 = .ok (.bipush 12, 2) := by decide +kernel
theorem dX6_init_39 : decode cX6_init 39 = .ok (.newarray .int, 2) := by decide +kernel
theorem dX6_init_41 : decode cX6_init 41 = .ok (.putfield 24, 3) := by decide +kernel
theorem dX6_init_44 : decode cX6_init 44 = .ok (.aload_n 0, 1) := by decide +kernel
theorem dX6_init_45 : decode cX6_init 45 = .ok (.bipush 12, 2) := by decide +kernel
theorem dX6_init_47 : decode cX6_init 47 = .ok (.newarray .int, 2) := by decide +kernel
theorem dX6_init_49 : decode cX6_init 49 = .ok (.putfield 27, 3) := by decide +kernel
theorem dX6_init_52 : decode cX6_init 52 = .ok (.aload_n 0, 1) := by decide +kernel
theorem dX6_init_53 : decode cX6_init 53 = .ok (.bipush 12, 2) := by decide +kernel
theorem dX6_init_55 : decode cX6_init 55 = .ok (.newarray .int, 2) := by decide +kernel
theorem dX6_init_57 : decode cX6_init 57 = .ok (.putfield 30, 3) := by decide +kernel
theorem dX6_init_60 : decode cX6_init 60 = .ok (.aload_n 0, 1) := by decide +kernel
theorem dX6_init_61 : decode cX6_init 61 = .ok (.bipush 12, 2) := by decide +kernel
theorem dX6_init_63 : decode cX6_init 63 = .ok (.newarray .int, 2) := by decide +kernel
theorem dX6_init_65 : decode cX6_init 65 = .ok (.putfield 33, 3) := by decide +kernel
theorem dX6_init_68 : decode cX6_init 68 = .ok (.return_, 1) := by decide +kernel
theorem dX6_copyFrom_0 : decode cX6_copyFrom 0 = .ok (.aload_n 0, 1) := by decide +kernel
theorem dX6_copyFrom_1 : decode cX6_copyFrom 1 = .ok (.aload_n 1, 1) := by decide +kernel
theorem dX6_copyFrom_2 : decode cX6_copyFrom 2 = .ok (.getfield 36, 3) := by decide +kernel
theorem dX6_copyFrom_5 : decode cX6_copyFrom 5 = .ok (.putfield 36, 3) := by decide +kernel
theorem dX6_copyFrom_8 : decode cX6_copyFrom 8 = .ok (.aload_n 1, 1) := by decide +kernel
theorem dX6_copyFrom_9 : decode cX6_copyFrom 9 = .ok (.getfield 9, 3) := by decide +kernel
theorem dX6_copyFrom_12 : decode cX6_copyFrom 12 = .ok (.iconst 0, 1) := by decide +kernel
theorem dX6_copyFrom_13 : decode cX6_copyFrom 13 = .ok (.aload_n 0, 1) := by decide +kernel
theorem dX6_copyFrom_14 : decode cX6_copyFrom 14 = .ok (.getfield 9, 3) := by decide +kernel
theorem dX6_copyFrom_17 : decode cX6_copyFrom 17 = .ok (.iconst 0, 1) := by decide +kernel
theorem dX6_copyFrom_18 : decode cX6_copyFrom 18 = .ok (.bipush 12, 2) := by decide +kernel
theorem dX6_copyFrom_20 : decode cX6_copyFrom 20 = .ok (.invokestatic 40, 3) := by decide +kernel
theorem dX6_copyFrom_23 : decode cX6_copyFrom 23 = .ok (.aload_n 1, 1) := by decide +kernel
theorem dX6_copyFrom_24 : decode cX6_copyFrom 24 = .ok (.getfield 15, 3) := by decide +kernel
theorem dX6_copyFrom_27 : decode cX6_copyFrom 27 = .ok (.iconst 0, 1) := by decide +kernel
theorem dX6_copyFrom_28 : decode cX6_copyFrom 28 = .ok (.aload_n 0, 1) := by decide +kernel
theorem dX6_copyFrom_29 : decode cX6_copyFrom 29 = .ok (.getfield 15, 3) := by decide +kernel
theorem dX6_copyFrom_32 : decode cX6_copyFrom 32 = .ok (.iconst 0, 1) := by decide +kernel
theorem dX6_copyFrom_33 : decode cX6_copyFrom 33 = .ok (.bipush 12, 2) := by decide +kernel
theorem dX6_copyFrom_35 : decode cX6_copyFrom 35 = .ok (.invokestatic 40, 3) := by decide +kernel
theorem dX6_copyFrom_38 : decode cX6_copyFrom 38 = .ok (.aload_n 1, 1) := by decide +kernel
theorem dX6_copyFrom_39 : decode cX6_copyFrom 39 = .ok (.getfield 18, 3) := by decide +kernel
theorem dX6_copyFrom_42 : decode cX6_copyFrom 42 = .ok (.iconst 0, 1) := by decide +kernel
theorem dX6_copyFrom_43 : decode cX6_copyFrom 43 = .ok (.aload_n 0, 1) := by decide +kernel
theorem dX6_copyFrom_44 : decode cX6_copyFrom 44 = .ok (.getfield 18, 3) := by decide +kernel
theorem dX6_copyFrom_47 : decode cX6_copyFrom 47 = .ok (.iconst 0, 1) := by decide +kernel
theorem dX6_copyFrom_48 : decode cX6_copyFrom 48 = .ok (.bipush 12, 2) := by decide +kernel
theorem dX6_copyFrom_50 : decode cX6_copyFrom 50 = .ok (.invokestatic 40, 3) := by decide +kernel
theorem dX6_copyFrom_53 : decode cX6_copyFrom 53 = .ok (.aload_n 1, 1) := by decide +kernel
theorem dX6_copyFrom_54 : decode cX6_copyFrom 54 = .ok (.getfield 21, 3) := by decide +kernel
theorem dX6_copyFrom_57 : decode cX6_copyFrom 57 = .ok (.iconst 0, 1) := by decide +kernel
theorem dX6_copyFrom_58 : decode cX6_copyFrom 58 = .ok (.aload_n 0, 1) := by decide +kernel
theorem dX6_copyFrom_59 : decode cX6_copyFrom 59 = .ok (.getfield 21, 3) := by decide +kernel
theorem dX6_copyFrom_62 : decode cX6_copyFrom 62 = .ok (.iconst 0, 1) := by decide +kernel
theorem dX6_copyFrom_63 : decode cX6_copyFrom 63 = .ok (.bipush 12, 2) := by decide +kernel
theorem dX6_copyFrom_65 : decode cX6_copyFrom 65 = .ok (.invokestatic 40, 3) := by decide +kernel
theorem dX6_copyFrom_68 : decode cX6_copyFrom 68 = .ok (.aload_n 1, 1) := by decide +kernel
theorem dX6_copyFrom_69 : decode cX6_copyFrom 69 = .ok (.getfield 24, 3) := by decide +kernel
theorem dX6_copyFrom_72 : decode cX6_copyFrom 72 = .ok (.iconst 0, 1) := by decide +kernel
theorem dX6_copyFrom_73 : decode cX6_copyFrom 73 = .ok (.aload_n 0, 1) := by decide +kernel
theorem dX6_copyFrom_74 : decode cX6_copyFrom 74 = .ok (.getfield 24, 3) := by decide +kernel
theorem dX6_copyFrom_77 : decode cX6_copyFrom 77 = .ok (.iconst 0, 1) := by decide +kernel
theorem dX6_copyFrom_78 : decode cX6_copyFrom 78 = .ok (.bipush 12, 2) := by decide +kernel
theorem dX6_copyFrom_80 : decode cX6_copyFrom 80 = .ok (.invokestatic 40, 3) := by decide +kernel
theorem dX6_copyFrom_83 : decode cX6_copyFrom 83 = .ok (.aload_n 1, 1) := by decide +kernel
theorem dX6_copyFrom_84 : decode cX6_copyFrom 84 = .ok (.getfield 27, 3) := by decide +kernel
theorem dX6_copyFrom_87 : decode cX6_copyFrom 87 = .ok (.iconst 0, 1) := by decide +kernel
theorem dX6_copyFrom_88 : decode cX6_copyFrom 88 = .ok (.aload_n 0, 1) := by decide +kernel
theorem dX6_copyFrom_89 : decode cX6_copyFrom 89 = .ok (.getfield 27, 3) := by decide +kernel
theorem dX6_copyFrom_92 : decode cX6_copyFrom 92 = .ok (.iconst 0, 1) := by decide +kernel
theorem dX6_copyFrom_93 : decode cX6_copyFrom 93 = .ok (.bipush 12, 2) := by decide +kernel
theorem dX6_copyFrom_95 : decode cX6_copyFrom 95 = .ok (.invokestatic 40, 3) := by decide +kernel
theorem dX6_copyFrom_98 : decode cX6_copyFrom 98 = .ok (.aload_n 1, 1) := by decide +kernel
theorem dX6_copyFrom_99 : decode cX6_copyFrom 99 = .ok (.getfield 30, 3) := by decide +kernel
theorem dX6_copyFrom_102 : decode cX6_copyFrom 102 = .ok (.iconst 0, 1) := by decide +kernel
theorem dX6_copyFrom_103 : decode cX6_copyFrom 103 = .ok (.aload_n 0, 1) := by decide +kernel
theorem dX6_copyFrom_104 : decode cX6_copyFrom 104 = .ok (.getfield 30, 3) := by decide +kernel
theorem dX6_copyFrom_107 : decode cX6_copyFrom 107 = .ok (.iconst 0, 1) := by decide +kernel
theorem dX6_copyFrom_108 : decode cX6_copyFrom 108 = .ok (.bipush 12, 2) := by decide +kernel
theorem dX6_copyFrom_110 : decode cX6_copyFrom 110 = .ok (.invokestatic 40, 3) := by decide +kernel
theorem dX6_copyFrom_113 : decode cX6_copyFrom 113 = .ok (.aload_n 1, 1) := by decide +kernel
theorem dX6_copyFrom_114 : decode cX6_copyFrom 114 = .ok (.getfield 33, 3) := by decide +kernel
theorem dX6_copyFrom_117 : decode cX6_copyFrom 117 = .ok (.iconst 0, 1) := by decide +kernel
theorem dX6_copyFrom_118 : decode cX6_copyFrom 118 = .ok (.aload_n 0, 1) := by decide +kernel
theorem dX6_copyFrom_119 : decode cX6_copyFrom 119 = .ok (.getfield 33, 3) := by decide +kernel
theorem dX6_copyFrom_122 : decode cX6_copyFrom 122 = .ok (.iconst 0, 1) := by decide +kernel
theorem dX6_copyFrom_123 : decode cX6_copyFrom 123 = .ok (.bipush 12, 2) := by decide +kernel
theorem dX6_copyFrom_125 : decode cX6_copyFrom 125 = .ok (.invokestatic 40, 3) := by decide +kernel
theorem dX6_copyFrom_128 : decode cX6_copyFrom 128 = .ok (.return_, 1) := by decide +kernel
theorem dX6_add_0 : decode cX6_add 0 = .ok (.aload_n 0, 1) := by decide +kernel
theorem dX6_add_1 : decode cX6_add 1 = .ok (.getfield 36, 3) := by decide +kernel
theorem dX6_add_4 : decode cX6_add 4 = .ok (.istore 5, 2) := by decide +kernel
theorem dX6_add_6 : decode cX6_add 6 = .ok (.aload_n 0, 1) := by decide +kernel
theorem dX6_add_7 : decode cX6_add 7 = .ok (.getfield 9, 3) := by decide +kernel
theorem dX6_add_10 : decode cX6_add 10 = .ok (.iload 5, 2) := by decide +kernel
theorem dX6_add_12 : decode cX6_add 12 = .ok (.iload_n 1, 1) := by decide +kernel
theorem dX6_add_13 : decode cX6_add 13 = .ok (.iastore, 1) := by decide +kernel
theorem dX6_add_14 : decode cX6_add 14 = .ok (.aload_n 0, 1) := by decide +kernel
theorem dX6_add_15 : decode cX6_add 15 = .ok (.getfield 15, 3) := by decide +kernel
theorem dX6_add_18 : decode cX6_add 18 = .ok (.iload 5, 2) := by decide +kernel
theorem dX6_add_20 : decode cX6_add 20 = .ok (.iload_n 2, 1) := by decide +kernel
theorem dX6_add_21 : decode cX6_add 21 = .ok (.iastore, 1) := by decide +kernel
theorem dX6_add_22 : decode cX6_add 22 = .ok (.aload_n 0, 1) := by decide +kernel
theorem dX6_add_23 : decode cX6_add 23 = .ok (.getfield 18, 3) := by decide +kernel
theorem dX6_add_26 : decode cX6_add 26 = .ok (.iload 5, 2) := by decide +kernel
theorem dX6_add_28 : decode cX6_add 28 = .ok (.iload_n 3, 1) := by decide +kernel
theorem dX6_add_29 : decode cX6_add 29 = .ok (.iastore, 1) := by decide +kernel
theorem dX6_add_30 : decode cX6_add 30 = .ok (.aload_n 0, 1) := by decide +kernel
theorem dX6_add_31 : decode cX6_add 31 = .ok (.getfield 21, 3) := by decide +kernel
theorem dX6_add_34 : decode cX6_add 34 = .ok (.iload 5, 2) := by decide +kernel
theorem dX6_add_36 : decode cX6_add 36 = .ok (.iload 4, 2) := by decide +kernel
theorem dX6_add_38 : decode cX6_add 38 = .ok (.iastore, 1) := by decide +kernel
theorem dX6_add_39 : decode cX6_add 39 = .ok (.aload_n 0, 1) := by decide +kernel
theorem dX6_add_40 : decode cX6_add 40 = .ok (.getfield 24, 3) := by decide +kernel
theorem dX6_add_43 : decode cX6_add 43 = .ok (.iload 5, 2) := by decide +kernel
theorem dX6_add_45 : decode cX6_add 45 = .ok (.iconst 0, 1) := by decide +kernel
theorem dX6_add_46 : decode cX6_add 46 = .ok (.iastore, 1) := by decide +kernel
theorem dX6_add_47 : decode cX6_add 47 = .ok (.aload_n 0, 1) := by decide +kernel
theorem dX6_add_48 : decode cX6_add 48 = .ok (.getfield 27, 3) := by decide +kernel
theorem dX6_add_51 : decode cX6_add 51 = .ok (.iload 5, 2) := by decide +kernel
theorem dX6_add_53 : decode cX6_add 53 = .ok (.iconst 0, 1) := by decide +kernel
theorem dX6_add_54 : decode cX6_add 54 = .ok (.iastore, 1) := by decide +kernel
theorem dX6_add_55 : decode cX6_add 55 = .ok (.aload_n 0, 1) := by decide +kernel
theorem dX6_add_56 : decode cX6_add 56 = .ok (.getfield 30, 3) := by decide +kernel
theorem dX6_add_59 : decode cX6_add 59 = .ok (.iload 5, 2) := by decide +kernel
theorem dX6_add_61 : decode cX6_add 61 = .ok (.iconst 0, 1) := by decide +kernel
theorem dX6_add_62 : decode cX6_add 62 = .ok (.iastore, 1) := by decide +kernel
theorem dX6_add_63 : decode cX6_add 63 = .ok (.aload_n 0, 1) := by decide +kernel
theorem dX6_add_64 : decode cX6_add 64 = .ok (.getfield 33, 3) := by decide +kernel
theorem dX6_add_67 : decode cX6_add 67 = .ok (.iload 5, 2) := by decide +kernel
theorem dX6_add_69 : decode cX6_add 69 = .ok (.iconst 0, 1) := by decide +kernel
theorem dX6_add_70 : decode cX6_add 70 = .ok (.iastore, 1) := by decide +kernel
theorem dX6_add_71 : decode cX6_add 71 = .ok (.aload_n 0, 1) := by decide +kernel
theorem dX6_add_72 : decode cX6_add 72 = .ok (.dup, 1) := by decide +kernel
theorem dX6_add_73 : decode cX6_add 73 = .ok (.getfield 36, 3) := by decide +kernel
theorem dX6_add_76 : decode cX6_add 76 = .ok (.iconst 1, 1) := by decide +kernel
theorem dX6_add_77 : decode cX6_add 77 = .ok (.iadd, 1) := by decide +kernel
theorem dX6_add_78 : decode cX6_add 78 = .ok (.putfield 36, 3) := by decide +kernel
theorem dX6_add_81 : decode cX6_add 81 = .ok (.iload 5, 2) := by decide +kernel
theorem dX6_add_83 : decode cX6_add 83 = .ok (.ireturn, 1) := by decide +kernel
theorem dX6_useOf_0 : decode cX6_useOf 0 = .ok (.aload_n 0, 1) := by decide +kernel
theorem dX6_useOf_1 : decode cX6_useOf 1 = .ok (.getfield 24, 3) := by decide +kernel
theorem dX6_useOf_4 : decode cX6_useOf 4 = .ok (.iload_n 1, 1) := by decide +kernel
theorem dX6_useOf_5 : decode cX6_useOf 5 = .ok (.iaload, 1) := by decide +kernel
theorem dX6_useOf_6 : decode cX6_useOf 6 = .ok (.aload_n 0, 1) := by decide +kernel
theorem dX6_useOf_7 : decode cX6_useOf 7 = .ok (.getfield 27, 3) := by decide +kernel
theorem dX6_useOf_10 : decode cX6_useOf 10 = .ok (.iload_n 1, 1) := by decide +kernel
theorem dX6_useOf_11 : decode cX6_useOf 11 = .ok (.iaload, 1) := by decide +kernel
theorem dX6_useOf_12 : decode cX6_useOf 12 = .ok (.isub, 1) := by decide +kernel
theorem dX6_useOf_13 : decode cX6_useOf 13 = .ok (.ireturn, 1) := by decide +kernel
theorem dX6_accountOf_0 : decode cX6_accountOf 0 = .ok (.aload_n 0, 1) := by decide +kernel
theorem dX6_accountOf_1 : decode cX6_accountOf 1 = .ok (.getfield 30, 3) := by decide +kernel
theorem dX6_accountOf_4 : decode cX6_accountOf 4 = .ok (.iload_n 1, 1) := by decide +kernel
theorem dX6_accountOf_5 : decode cX6_accountOf 5 = .ok (.iaload, 1) := by decide +kernel
theorem dX6_accountOf_6 : decode cX6_accountOf 6 = .ok (.aload_n 0, 1) := by decide +kernel
theorem dX6_accountOf_7 : decode cX6_accountOf 7 = .ok (.getfield 33, 3) := by decide +kernel
theorem dX6_accountOf_10 : decode cX6_accountOf 10 = .ok (.iload_n 1, 1) := by decide +kernel
theorem dX6_accountOf_11 : decode cX6_accountOf 11 = .ok (.iaload, 1) := by decide +kernel
theorem dX6_accountOf_12 : decode cX6_accountOf 12 = .ok (.isub, 1) := by decide +kernel
theorem dX6_accountOf_13 : decode cX6_accountOf 13 = .ok (.ireturn, 1) := by decide +kernel
theorem dX6_sumAccountsOf_0 : decode cX6_sumAccountsOf 0 = .ok (.iconst 0, 1) := by decide +kernel
theorem dX6_sumAccountsOf_1 : decode cX6_sumAccountsOf 1 = .ok (.istore_n 2, 1) := by decide +kernel
theorem dX6_sumAccountsOf_2 : decode cX6_sumAccountsOf 2 = .ok (.iconst 0, 1) := by decide +kernel
theorem dX6_sumAccountsOf_3 : decode cX6_sumAccountsOf 3 = .ok (.istore_n 3, 1) := by decide +kernel
theorem dX6_sumAccountsOf_4 : decode cX6_sumAccountsOf 4 = .ok (.iload_n 3, 1) := by decide +kernel
theorem dX6_sumAccountsOf_5 : decode cX6_sumAccountsOf 5 = .ok (.aload_n 0, 1) := by decide +kernel
theorem dX6_sumAccountsOf_6 : decode cX6_sumAccountsOf 6 = .ok (.getfield 36, 3) := by decide +kernel
theorem dX6_sumAccountsOf_9 : decode cX6_sumAccountsOf 9 = .ok (.if_icmp .ge 27, 3) := by decide +kernel
theorem dX6_sumAccountsOf_12 : decode cX6_sumAccountsOf 12 = .ok (.aload_n 0, 1) := by decide +kernel
theorem dX6_sumAccountsOf_13 : decode cX6_sumAccountsOf 13 = .ok (.getfield 21, 3) := by decide +kernel
theorem dX6_sumAccountsOf_16 : decode cX6_sumAccountsOf 16 = .ok (.iload_n 3, 1) := by decide +kernel
theorem dX6_sumAccountsOf_17 : decode cX6_sumAccountsOf 17 = .ok (.iaload, 1) := by decide +kernel
theorem dX6_sumAccountsOf_18 : decode cX6_sumAccountsOf 18 = .ok (.iload_n 1, 1) := by decide +kernel
theorem dX6_sumAccountsOf_19 : decode cX6_sumAccountsOf 19 = .ok (.if_icmp .ne 11, 3) := by decide +kernel
theorem dX6_sumAccountsOf_22 : decode cX6_sumAccountsOf 22 = .ok (.iload_n 2, 1) := by decide +kernel
theorem dX6_sumAccountsOf_23 : decode cX6_sumAccountsOf 23 = .ok (.aload_n 0, 1) := by decide +kernel
theorem dX6_sumAccountsOf_24 : decode cX6_sumAccountsOf 24 = .ok (.iload_n 3, 1) := by decide +kernel
theorem dX6_sumAccountsOf_25 : decode cX6_sumAccountsOf 25 = .ok (.invokevirtual 46, 3) := by decide +kernel
theorem dX6_sumAccountsOf_28 : decode cX6_sumAccountsOf 28 = .ok (.iadd, 1) := by decide +kernel
theorem dX6_sumAccountsOf_29 : decode cX6_sumAccountsOf 29 = .ok (.istore_n 2, 1) := by decide +kernel
theorem dX6_sumAccountsOf_30 : decode cX6_sumAccountsOf 30 = .ok (.iinc 3 1, 3) := by decide +kernel
theorem dX6_sumAccountsOf_33 : decode cX6_sumAccountsOf 33 = .ok (.goto (-29), 3) := by decide +kernel
theorem dX6_sumAccountsOf_36 : decode cX6_sumAccountsOf 36 = .ok (.iload_n 2, 1) := by decide +kernel
theorem dX6_sumAccountsOf_37 : decode cX6_sumAccountsOf 37 = .ok (.ireturn, 1) := by decide +kernel
theorem dX6_findLeastAccount_0 : decode cX6_findLeastAccount 0 = .ok (.iconst 0, 1) := by decide +kernel
theorem dX6_findLeastAccount_1 : decode cX6_findLeastAccount 1 = .ok (.istore_n 1, 1) := by decide +kernel
theorem dX6_findLeastAccount_2 : decode cX6_findLeastAccount 2 = .ok (.iconst 1, 1) := by decide +kernel
theorem dX6_findLeastAccount_3 : decode cX6_findLeastAccount 3 = .ok (.istore_n 2, 1) := by decide +kernel
theorem dX6_findLeastAccount_4 : decode cX6_findLeastAccount 4 = .ok (.iload_n 2, 1) := by decide +kernel
theorem dX6_findLeastAccount_5 : decode cX6_findLeastAccount 5 = .ok (.aload_n 0, 1) := by decide +kernel
theorem dX6_findLeastAccount_6 : decode cX6_findLeastAccount 6 = .ok (.getfield 36, 3) := by decide +kernel
theorem dX6_findLeastAccount_9 : decode cX6_findLeastAccount 9 = .ok (.if_icmp .ge 24, 3) := by decide +kernel
theorem dX6_findLeastAccount_12 : decode cX6_findLeastAccount 12 = .ok (.aload_n 0, 1) := by decide +kernel
theorem dX6_findLeastAccount_13 : decode cX6_findLeastAccount 13 = .ok (.iload_n 2, 1) := by decide +kernel
theorem dX6_findLeastAccount_14 : decode cX6_findLeastAccount 14 = .ok (.invokevirtual 46, 3) := by decide +kernel
theorem dX6_findLeastAccount_17 : decode cX6_findLeastAccount 17 = .ok (.aload_n 0, 1) := by decide +kernel
theorem dX6_findLeastAccount_18 : decode cX6_findLeastAccount 18 = .ok (.iload_n 1, 1) := by decide +kernel
theorem dX6_findLeastAccount_19 : decode cX6_findLeastAccount 19 = .ok (.invokevirtual 46, 3) := by decide +kernel
theorem dX6_findLeastAccount_22 : decode cX6_findLeastAccount 22 = .ok (.if_icmp .ge 5, 3) := by decide +kernel
theorem dX6_findLeastAccount_25 : decode cX6_findLeastAccount 25 = .ok (.iload_n 2, 1) := by decide +kernel
theorem dX6_findLeastAccount_26 : decode cX6_findLeastAccount 26 = .ok (.istore_n 1, 1) := by decide +kernel
theorem dX6_findLeastAccount_27 : decode cX6_findLeastAccount 27 = .ok (.iinc 2 1, 3) := by decide +kernel
theorem dX6_findLeastAccount_30 : decode cX6_findLeastAccount 30 = .ok (.goto (-26), 3) := by decide +kernel
theorem dX6_findLeastAccount_33 : decode cX6_findLeastAccount 33 = .ok (.iload_n 1, 1) := by decide +kernel
theorem dX6_findLeastAccount_34 : decode cX6_findLeastAccount 34 = .ok (.ireturn, 1) := by decide +kernel
theorem dX6_sumSharesAt_0 : decode cX6_sumSharesAt 0 = .ok (.iconst 0, 1) := by decide +kernel
theorem dX6_sumSharesAt_1 : decode cX6_sumSharesAt 1 = .ok (.istore_n 3, 1) := by decide +kernel
theorem dX6_sumSharesAt_2 : decode cX6_sumSharesAt 2 = .ok (.iconst 0, 1) := by decide +kernel
theorem dX6_sumSharesAt_3 : decode cX6_sumSharesAt 3 = .ok (.istore 4, 2) := by decide +kernel
theorem dX6_sumSharesAt_5 : decode cX6_sumSharesAt 5 = .ok (.iload 4, 2) := by decide +kernel
theorem dX6_sumSharesAt_7 : decode cX6_sumSharesAt 7 = .ok (.aload_n 0, 1) := by decide +kernel
theorem dX6_sumSharesAt_8 : decode cX6_sumSharesAt 8 = .ok (.getfield 36, 3) := by decide +kernel
theorem dX6_sumSharesAt_11 : decode cX6_sumSharesAt 11 = .ok (.if_icmp .ge 46, 3) := by decide +kernel
theorem dX6_sumSharesAt_14 : decode cX6_sumSharesAt 14 = .ok (.aload_n 0, 1) := by decide +kernel
theorem dX6_sumSharesAt_15 : decode cX6_sumSharesAt 15 = .ok (.getfield 9, 3) := by decide +kernel
theorem dX6_sumSharesAt_18 : decode cX6_sumSharesAt 18 = .ok (.iload 4, 2) := by decide +kernel
theorem dX6_sumSharesAt_20 : decode cX6_sumSharesAt 20 = .ok (.iaload, 1) := by decide +kernel
theorem dX6_sumSharesAt_21 : decode cX6_sumSharesAt 21 = .ok (.iload_n 1, 1) := by decide +kernel
theorem dX6_sumSharesAt_22 : decode cX6_sumSharesAt 22 = .ok (.if_icmp .ne 29, 3) := by decide +kernel
theorem dX6_sumSharesAt_25 : decode cX6_sumSharesAt 25 = .ok (.iload_n 2, 1) := by decide +kernel
theorem dX6_sumSharesAt_26 : decode cX6_sumSharesAt 26 = .ok (.iconst (-1), 1) := by decide +kernel
theorem dX6_sumSharesAt_27 : decode cX6_sumSharesAt 27 = .ok (.if_icmp .eq 14, 3) := by decide +kernel
theorem dX6_sumSharesAt_30 : decode cX6_sumSharesAt 30 = .ok (.aload_n 0, 1) := by decide +kernel
theorem dX6_sumSharesAt_31 : decode cX6_sumSharesAt 31 = .ok (.getfield 15, 3) := by decide +kernel
theorem dX6_sumSharesAt_34 : decode cX6_sumSharesAt 34 = .ok (.iload 4, 2) := by decide +kernel
theorem dX6_sumSharesAt_36 : decode cX6_sumSharesAt 36 = .ok (.iaload, 1) := by decide +kernel
theorem dX6_sumSharesAt_37 : decode cX6_sumSharesAt 37 = .ok (.iload_n 2, 1) := by decide +kernel
theorem dX6_sumSharesAt_38 : decode cX6_sumSharesAt 38 = .ok (.if_icmp .ne 13, 3) := by decide +kernel
theorem dX6_sumSharesAt_41 : decode cX6_sumSharesAt 41 = .ok (.iload_n 3, 1) := by decide +kernel
theorem dX6_sumSharesAt_42 : decode cX6_sumSharesAt 42 = .ok (.aload_n 0, 1) := by decide +kernel
theorem dX6_sumSharesAt_43 : decode cX6_sumSharesAt 43 = .ok (.getfield 18, 3) := by decide +kernel
theorem dX6_sumSharesAt_46 : decode cX6_sumSharesAt 46 = .ok (.iload 4, 2) := by decide +kernel
theorem dX6_sumSharesAt_48 : decode cX6_sumSharesAt 48 = .ok (.iaload, 1) := by decide +kernel
theorem dX6_sumSharesAt_49 : decode cX6_sumSharesAt 49 = .ok (.iadd, 1) := by decide +kernel
theorem dX6_sumSharesAt_50 : decode cX6_sumSharesAt 50 = .ok (.istore_n 3, 1) := by decide +kernel
theorem dX6_sumSharesAt_51 : decode cX6_sumSharesAt 51 = .ok (.iinc 4 1, 3) := by decide +kernel
theorem dX6_sumSharesAt_54 : decode cX6_sumSharesAt 54 = .ok (.goto (-49), 3) := by decide +kernel
theorem dX6_sumSharesAt_57 : decode cX6_sumSharesAt 57 = .ok (.iload_n 3, 1) := by decide +kernel
theorem dX6_sumSharesAt_58 : decode cX6_sumSharesAt 58 = .ok (.ireturn, 1) := by decide +kernel
theorem dX6_sumShares_0 : decode cX6_sumShares 0 = .ok (.aload_n 0, 1) := by decide +kernel
theorem dX6_sumShares_1 : decode cX6_sumShares 1 = .ok (.aload_n 0, 1) := by decide +kernel
theorem dX6_sumShares_2 : decode cX6_sumShares 2 = .ok (.getfield 18, 3) := by decide +kernel
theorem dX6_sumShares_5 : decode cX6_sumShares 5 = .ok (.invokevirtual 50, 3) := by decide +kernel
theorem dX6_sumShares_8 : decode cX6_sumShares 8 = .ok (.ireturn, 1) := by decide +kernel
theorem dX6_sumPaid_0 : decode cX6_sumPaid 0 = .ok (.aload_n 0, 1) := by decide +kernel
theorem dX6_sumPaid_1 : decode cX6_sumPaid 1 = .ok (.aload_n 0, 1) := by decide +kernel
theorem dX6_sumPaid_2 : decode cX6_sumPaid 2 = .ok (.getfield 30, 3) := by decide +kernel
theorem dX6_sumPaid_5 : decode cX6_sumPaid 5 = .ok (.invokevirtual 50, 3) := by decide +kernel
theorem dX6_sumPaid_8 : decode cX6_sumPaid 8 = .ok (.ireturn, 1) := by decide +kernel
theorem dX6_sumCharged_0 : decode cX6_sumCharged 0 = .ok (.aload_n 0, 1) := by decide +kernel
theorem dX6_sumCharged_1 : decode cX6_sumCharged 1 = .ok (.aload_n 0, 1) := by decide +kernel
theorem dX6_sumCharged_2 : decode cX6_sumCharged 2 = .ok (.getfield 33, 3) := by decide +kernel
theorem dX6_sumCharged_5 : decode cX6_sumCharged 5 = .ok (.invokevirtual 50, 3) := by decide +kernel
theorem dX6_sumCharged_8 : decode cX6_sumCharged 8 = .ok (.ireturn, 1) := by decide +kernel
theorem dX6_countOwners_0 : decode cX6_countOwners 0 = .ok (.iconst 0, 1) := by decide +kernel
theorem dX6_countOwners_1 : decode cX6_countOwners 1 = .ok (.istore_n 1, 1) := by decide +kernel
theorem dX6_countOwners_2 : decode cX6_countOwners 2 = .ok (.iconst 0, 1) := by decide +kernel
theorem dX6_countOwners_3 : decode cX6_countOwners 3 = .ok (.istore_n 2, 1) := by decide +kernel
theorem dX6_countOwners_4 : decode cX6_countOwners 4 = .ok (.iload_n 2, 1) := by decide +kernel
theorem dX6_countOwners_5 : decode cX6_countOwners 5 = .ok (.bipush 8, 2) := by decide +kernel
theorem dX6_countOwners_7 : decode cX6_countOwners 7 = .ok (.if_icmp .ge 20, 3) := by decide +kernel
theorem dX6_countOwners_10 : decode cX6_countOwners 10 = .ok (.aload_n 0, 1) := by decide +kernel
theorem dX6_countOwners_11 : decode cX6_countOwners 11 = .ok (.iload_n 2, 1) := by decide +kernel
theorem dX6_countOwners_12 : decode cX6_countOwners 12 = .ok (.invokevirtual 54, 3) := by decide +kernel
theorem dX6_countOwners_15 : decode cX6_countOwners 15 = .ok (.ifCond .eq 6, 3) := by decide +kernel
theorem dX6_countOwners_18 : decode cX6_countOwners 18 = .ok (.iinc 1 1, 3) := by decide +kernel
theorem dX6_countOwners_21 : decode cX6_countOwners 21 = .ok (.iinc 2 1, 3) := by decide +kernel
theorem dX6_countOwners_24 : decode cX6_countOwners 24 = .ok (.goto (-20), 3) := by decide +kernel
theorem dX6_countOwners_27 : decode cX6_countOwners 27 = .ok (.iload_n 1, 1) := by decide +kernel
theorem dX6_countOwners_28 : decode cX6_countOwners 28 = .ok (.ireturn, 1) := by decide +kernel
theorem dX6_isConcerned_0 : decode cX6_isConcerned 0 = .ok (.iload_n 2, 1) := by decide +kernel
theorem dX6_isConcerned_1 : decode cX6_isConcerned 1 = .ok (.lookupswitch 68 #[(1, 27), (2, 43)], 27) := by decide +kernel
theorem dX6_isConcerned_28 : decode cX6_isConcerned 28 = .ok (.aload_n 0, 1) := by decide +kernel
theorem dX6_isConcerned_29 : decode cX6_isConcerned 29 = .ok (.getfield 9, 3) := by decide +kernel
theorem dX6_isConcerned_32 : decode cX6_isConcerned 32 = .ok (.iload_n 1, 1) := by decide +kernel
theorem dX6_isConcerned_33 : decode cX6_isConcerned 33 = .ok (.iaload, 1) := by decide +kernel
theorem dX6_isConcerned_34 : decode cX6_isConcerned 34 = .ok (.iload_n 3, 1) := by decide +kernel
theorem dX6_isConcerned_35 : decode cX6_isConcerned 35 = .ok (.if_icmp .ne 7, 3) := by decide +kernel
theorem dX6_isConcerned_38 : decode cX6_isConcerned 38 = .ok (.iconst 1, 1) := by decide +kernel
theorem dX6_isConcerned_39 : decode cX6_isConcerned 39 = .ok (.goto 4, 3) := by decide +kernel
theorem dX6_isConcerned_42 : decode cX6_isConcerned 42 = .ok (.iconst 0, 1) := by decide +kernel
theorem dX6_isConcerned_43 : decode cX6_isConcerned 43 = .ok (.ireturn, 1) := by decide +kernel
theorem dX6_isConcerned_44 : decode cX6_isConcerned 44 = .ok (.aload_n 0, 1) := by decide +kernel
theorem dX6_isConcerned_45 : decode cX6_isConcerned 45 = .ok (.getfield 9, 3) := by decide +kernel
theorem dX6_isConcerned_48 : decode cX6_isConcerned 48 = .ok (.iload_n 1, 1) := by decide +kernel
theorem dX6_isConcerned_49 : decode cX6_isConcerned 49 = .ok (.iaload, 1) := by decide +kernel
theorem dX6_isConcerned_50 : decode cX6_isConcerned 50 = .ok (.iconst 3, 1) := by decide +kernel
theorem dX6_isConcerned_51 : decode cX6_isConcerned 51 = .ok (.imul, 1) := by decide +kernel
theorem dX6_isConcerned_52 : decode cX6_isConcerned 52 = .ok (.aload_n 0, 1) := by decide +kernel
theorem dX6_isConcerned_53 : decode cX6_isConcerned 53 = .ok (.getfield 15, 3) := by decide +kernel
theorem dX6_isConcerned_56 : decode cX6_isConcerned 56 = .ok (.iload_n 1, 1) := by decide +kernel
theorem dX6_isConcerned_57 : decode cX6_isConcerned 57 = .ok (.iaload, 1) := by decide +kernel
theorem dX6_isConcerned_58 : decode cX6_isConcerned 58 = .ok (.iadd, 1) := by decide +kernel
theorem dX6_isConcerned_59 : decode cX6_isConcerned 59 = .ok (.iload_n 3, 1) := by decide +kernel
theorem dX6_isConcerned_60 : decode cX6_isConcerned 60 = .ok (.if_icmp .ne 7, 3) := by decide +kernel
theorem dX6_isConcerned_63 : decode cX6_isConcerned 63 = .ok (.iconst 1, 1) := by decide +kernel
theorem dX6_isConcerned_64 : decode cX6_isConcerned 64 = .ok (.goto 4, 3) := by decide +kernel
theorem dX6_isConcerned_67 : decode cX6_isConcerned 67 = .ok (.iconst 0, 1) := by decide +kernel
theorem dX6_isConcerned_68 : decode cX6_isConcerned 68 = .ok (.ireturn, 1) := by decide +kernel
theorem dX6_isConcerned_69 : decode cX6_isConcerned 69 = .ok (.iconst 1, 1) := by decide +kernel
theorem dX6_isConcerned_70 : decode cX6_isConcerned 70 = .ok (.ireturn, 1) := by decide +kernel
theorem dX6_countConcerned_0 : decode cX6_countConcerned 0 = .ok (.iconst 0, 1) := by decide +kernel
theorem dX6_countConcerned_1 : decode cX6_countConcerned 1 = .ok (.istore_n 3, 1) := by decide +kernel
theorem dX6_countConcerned_2 : decode cX6_countConcerned 2 = .ok (.iconst 0, 1) := by decide +kernel
theorem dX6_countConcerned_3 : decode cX6_countConcerned 3 = .ok (.istore 4, 2) := by decide +kernel
theorem dX6_countConcerned_5 : decode cX6_countConcerned 5 = .ok (.iload 4, 2) := by decide +kernel
theorem dX6_countConcerned_7 : decode cX6_countConcerned 7 = .ok (.aload_n 0, 1) := by decide +kernel
theorem dX6_countConcerned_8 : decode cX6_countConcerned 8 = .ok (.getfield 36, 3) := by decide +kernel
theorem dX6_countConcerned_11 : decode cX6_countConcerned 11 = .ok (.if_icmp .ge 23, 3) := by decide +kernel
theorem dX6_countConcerned_14 : decode cX6_countConcerned 14 = .ok (.aload_n 0, 1) := by decide +kernel
theorem dX6_countConcerned_15 : decode cX6_countConcerned 15 = .ok (.iload 4, 2) := by decide +kernel
theorem dX6_countConcerned_17 : decode cX6_countConcerned 17 = .ok (.iload_n 1, 1) := by decide +kernel
theorem dX6_countConcerned_18 : decode cX6_countConcerned 18 = .ok (.iload_n 2, 1) := by decide +kernel
theorem dX6_countConcerned_19 : decode cX6_countConcerned 19 = .ok (.invokevirtual 58, 3) := by decide +kernel
theorem dX6_countConcerned_22 : decode cX6_countConcerned 22 = .ok (.ifCond .eq 6, 3) := by decide +kernel
theorem dX6_countConcerned_25 : decode cX6_countConcerned 25 = .ok (.iinc 3 1, 3) := by decide +kernel
theorem dX6_countConcerned_28 : decode cX6_countConcerned 28 = .ok (.iinc 4 1, 3) := by decide +kernel
theorem dX6_countConcerned_31 : decode cX6_countConcerned 31 = .ok (.goto (-26), 3) := by decide +kernel
theorem dX6_countConcerned_34 : decode cX6_countConcerned 34 = .ok (.iload_n 3, 1) := by decide +kernel
theorem dX6_countConcerned_35 : decode cX6_countConcerned 35 = .ok (.ireturn, 1) := by decide +kernel
theorem dX6_hasAnyUse_0 : decode cX6_hasAnyUse 0 = .ok (.iconst 0, 1) := by decide +kernel
theorem dX6_hasAnyUse_1 : decode cX6_hasAnyUse 1 = .ok (.istore_n 1, 1) := by decide +kernel
theorem dX6_hasAnyUse_2 : decode cX6_hasAnyUse 2 = .ok (.iload_n 1, 1) := by decide +kernel
theorem dX6_hasAnyUse_3 : decode cX6_hasAnyUse 3 = .ok (.aload_n 0, 1) := by decide +kernel
theorem dX6_hasAnyUse_4 : decode cX6_hasAnyUse 4 = .ok (.getfield 36, 3) := by decide +kernel
theorem dX6_hasAnyUse_7 : decode cX6_hasAnyUse 7 = .ok (.if_icmp .ge 19, 3) := by decide +kernel
theorem dX6_hasAnyUse_10 : decode cX6_hasAnyUse 10 = .ok (.aload_n 0, 1) := by decide +kernel
theorem dX6_hasAnyUse_11 : decode cX6_hasAnyUse 11 = .ok (.iload_n 1, 1) := by decide +kernel
theorem dX6_hasAnyUse_12 : decode cX6_hasAnyUse 12 = .ok (.invokevirtual 62, 3) := by decide +kernel
theorem dX6_hasAnyUse_15 : decode cX6_hasAnyUse 15 = .ok (.ifCond .le 5, 3) := by decide +kernel
theorem dX6_hasAnyUse_18 : decode cX6_hasAnyUse 18 = .ok (.iconst 1, 1) := by decide +kernel
theorem dX6_hasAnyUse_19 : decode cX6_hasAnyUse 19 = .ok (.ireturn, 1) := by decide +kernel
theorem dX6_hasAnyUse_20 : decode cX6_hasAnyUse 20 = .ok (.iinc 1 1, 3) := by decide +kernel
theorem dX6_hasAnyUse_23 : decode cX6_hasAnyUse 23 = .ok (.goto (-21), 3) := by decide +kernel
theorem dX6_hasAnyUse_26 : decode cX6_hasAnyUse 26 = .ok (.iconst 0, 1) := by decide +kernel
theorem dX6_hasAnyUse_27 : decode cX6_hasAnyUse 27 = .ok (.ireturn, 1) := by decide +kernel
theorem dX6_charge_0 : decode cX6_charge 0 = .ok (.iconst 0, 1) := by decide +kernel
theorem dX6_charge_1 : decode cX6_charge 1 = .ok (.istore_n 2, 1) := by decide +kernel
theorem dX6_charge_2 : decode cX6_charge 2 = .ok (.iload_n 2, 1) := by decide +kernel
theorem dX6_charge_3 : decode cX6_charge 3 = .ok (.aload_n 0, 1) := by decide +kernel
theorem dX6_charge_4 : decode cX6_charge 4 = .ok (.getfield 36, 3) := by decide +kernel
theorem dX6_charge_7 : decode cX6_charge 7 = .ok (.if_icmp .ge 21, 3) := by decide +kernel
theorem dX6_charge_10 : decode cX6_charge 10 = .ok (.aload_n 0, 1) := by decide +kernel
theorem dX6_charge_11 : decode cX6_charge 11 = .ok (.getfield 33, 3) := by decide +kernel
theorem dX6_charge_14 : decode cX6_charge 14 = .ok (.iload_n 2, 1) := by decide +kernel
theorem dX6_charge_15 : decode cX6_charge 15 = .ok (.dup2, 1) := by decide +kernel
theorem dX6_charge_16 : decode cX6_charge 16 = .ok (.iaload, 1) := by decide +kernel
theorem dX6_charge_17 : decode cX6_charge 17 = .ok (.aload_n 1, 1) := by decide +kernel
theorem dX6_charge_18 : decode cX6_charge 18 = .ok (.iload_n 2, 1) := by decide +kernel
theorem dX6_charge_19 : decode cX6_charge 19 = .ok (.iaload, 1) := by decide +kernel
theorem dX6_charge_20 : decode cX6_charge 20 = .ok (.iadd, 1) := by decide +kernel
theorem dX6_charge_21 : decode cX6_charge 21 = .ok (.iastore, 1) := by decide +kernel
theorem dX6_charge_22 : decode cX6_charge 22 = .ok (.iinc 2 1, 3) := by decide +kernel
theorem dX6_charge_25 : decode cX6_charge 25 = .ok (.goto (-23), 3) := by decide +kernel
theorem dX6_charge_28 : decode cX6_charge 28 = .ok (.return_, 1) := by decide +kernel
theorem dX6_billMeters_0 : decode cX6_billMeters 0 = .ok (.aload_n 0, 1) := by decide +kernel
theorem dX6_billMeters_1 : decode cX6_billMeters 1 = .ok (.getfield 24, 3) := by decide +kernel
theorem dX6_billMeters_4 : decode cX6_billMeters 4 = .ok (.iconst 0, 1) := by decide +kernel
theorem dX6_billMeters_5 : decode cX6_billMeters 5 = .ok (.aload_n 0, 1) := by decide +kernel
theorem dX6_billMeters_6 : decode cX6_billMeters 6 = .ok (.getfield 27, 3) := by decide +kernel
theorem dX6_billMeters_9 : decode cX6_billMeters 9 = .ok (.iconst 0, 1) := by decide +kernel
theorem dX6_billMeters_10 : decode cX6_billMeters 10 = .ok (.bipush 12, 2) := by decide +kernel
theorem dX6_billMeters_12 : decode cX6_billMeters 12 = .ok (.invokestatic 40, 3) := by decide +kernel
theorem dX6_billMeters_15 : decode cX6_billMeters 15 = .ok (.return_, 1) := by decide +kernel
theorem dX6_hasUnit_0 : decode cX6_hasUnit 0 = .ok (.iconst 0, 1) := by decide +kernel
theorem dX6_hasUnit_1 : decode cX6_hasUnit 1 = .ok (.istore_n 2, 1) := by decide +kernel
theorem dX6_hasUnit_2 : decode cX6_hasUnit 2 = .ok (.iload_n 2, 1) := by decide +kernel
theorem dX6_hasUnit_3 : decode cX6_hasUnit 3 = .ok (.aload_n 0, 1) := by decide +kernel
theorem dX6_hasUnit_4 : decode cX6_hasUnit 4 = .ok (.getfield 36, 3) := by decide +kernel
theorem dX6_hasUnit_7 : decode cX6_hasUnit 7 = .ok (.if_icmp .ge 21, 3) := by decide +kernel
theorem dX6_hasUnit_10 : decode cX6_hasUnit 10 = .ok (.aload_n 0, 1) := by decide +kernel
theorem dX6_hasUnit_11 : decode cX6_hasUnit 11 = .ok (.getfield 21, 3) := by decide +kernel
theorem dX6_hasUnit_14 : decode cX6_hasUnit 14 = .ok (.iload_n 2, 1) := by decide +kernel
theorem dX6_hasUnit_15 : decode cX6_hasUnit 15 = .ok (.iaload, 1) := by decide +kernel
theorem dX6_hasUnit_16 : decode cX6_hasUnit 16 = .ok (.iload_n 1, 1) := by decide +kernel
theorem dX6_hasUnit_17 : decode cX6_hasUnit 17 = .ok (.if_icmp .ne 5, 3) := by decide +kernel
theorem dX6_hasUnit_20 : decode cX6_hasUnit 20 = .ok (.iconst 1, 1) := by decide +kernel
theorem dX6_hasUnit_21 : decode cX6_hasUnit 21 = .ok (.ireturn, 1) := by decide +kernel
theorem dX6_hasUnit_22 : decode cX6_hasUnit 22 = .ok (.iinc 2 1, 3) := by decide +kernel
theorem dX6_hasUnit_25 : decode cX6_hasUnit 25 = .ok (.goto (-23), 3) := by decide +kernel
theorem dX6_hasUnit_28 : decode cX6_hasUnit 28 = .ok (.iconst 0, 1) := by decide +kernel
theorem dX6_hasUnit_29 : decode cX6_hasUnit 29 = .ok (.ireturn, 1) := by decide +kernel
theorem dX6_sum_0 : decode cX6_sum 0 = .ok (.iconst 0, 1) := by decide +kernel
theorem dX6_sum_1 : decode cX6_sum 1 = .ok (.istore_n 2, 1) := by decide +kernel
theorem dX6_sum_2 : decode cX6_sum 2 = .ok (.iconst 0, 1) := by decide +kernel
theorem dX6_sum_3 : decode cX6_sum 3 = .ok (.istore_n 3, 1) := by decide +kernel
theorem dX6_sum_4 : decode cX6_sum 4 = .ok (.iload_n 3, 1) := by decide +kernel
theorem dX6_sum_5 : decode cX6_sum 5 = .ok (.aload_n 0, 1) := by decide +kernel
theorem dX6_sum_6 : decode cX6_sum 6 = .ok (.getfield 36, 3) := by decide +kernel
theorem dX6_sum_9 : decode cX6_sum 9 = .ok (.if_icmp .ge 15, 3) := by decide +kernel
theorem dX6_sum_12 : decode cX6_sum 12 = .ok (.iload_n 2, 1) := by decide +kernel
theorem dX6_sum_13 : decode cX6_sum 13 = .ok (.aload_n 1, 1) := by decide +kernel
theorem dX6_sum_14 : decode cX6_sum 14 = .ok (.iload_n 3, 1) := by decide +kernel
theorem dX6_sum_15 : decode cX6_sum 15 = .ok (.iaload, 1) := by decide +kernel
theorem dX6_sum_16 : decode cX6_sum 16 = .ok (.iadd, 1) := by decide +kernel
theorem dX6_sum_17 : decode cX6_sum 17 = .ok (.istore_n 2, 1) := by decide +kernel
theorem dX6_sum_18 : decode cX6_sum 18 = .ok (.iinc 3 1, 3) := by decide +kernel
theorem dX6_sum_21 : decode cX6_sum 21 = .ok (.goto (-17), 3) := by decide +kernel
theorem dX6_sum_24 : decode cX6_sum 24 = .ok (.iload_n 2, 1) := by decide +kernel
theorem dX6_sum_25 : decode cX6_sum 25 = .ok (.ireturn, 1) := by decide +kernel
theorem dX7_init_0 : decode cX7_init 0 = .ok (.aload_n 0, 1) := by decide +kernel
theorem dX7_init_1 : decode cX7_init 1 = .ok (.invokespecial 1, 3) := by decide +kernel
theorem dX7_init_4 : decode cX7_init 4 = .ok (.new 7, 3) := by decide +kernel
theorem dX7_init_7 : decode cX7_init 7 = .ok (.dup, 1) := by decide +kernel
theorem dX7_init_8 : decode cX7_init 8 = .ok (.invokespecial 9, 3) := by decide +kernel
theorem dX7_init_11 : decode cX7_init 11 = .ok (.astore_n 1, 1) := by decide +kernel
theorem dX7_init_12 : decode cX7_init 12 = .ok (.aload_n 0, 1) := by decide +kernel
theorem dX7_init_13 : decode cX7_init 13 = .ok (.new 10, 3) := by decide +kernel
theorem dX7_init_16 : decode cX7_init 16 = .ok (.dup, 1) := by decide +kernel
theorem dX7_init_17 : decode cX7_init 17 = .ok (.aload_n 1, 1) := by decide +kernel
theorem dX7_init_18 : decode cX7_init 18 = .ok (.invokespecial 12, 3) := by decide +kernel
theorem dX7_init_21 : decode cX7_init 21 = .ok (.putfield 15, 3) := by decide +kernel
theorem dX7_init_24 : decode cX7_init 24 = .ok (.aload_n 0, 1) := by decide +kernel
theorem dX7_init_25 : decode cX7_init 25 = .ok (.new 10, 3) := by decide +kernel
theorem dX7_init_28 : decode cX7_init 28 = .ok (.dup, 1) := by decide +kernel
theorem dX7_init_29 : decode cX7_init 29 = .ok (.aload_n 1, 1) := by decide +kernel
theorem dX7_init_30 : decode cX7_init 30 = .ok (.invokespecial 12, 3) := by decide +kernel
theorem dX7_init_33 : decode cX7_init 33 = .ok (.putfield 21, 3) := by decide +kernel
theorem dX7_init_36 : decode cX7_init 36 = .ok (.aload_n 0, 1) := by decide +kernel
theorem dX7_init_37 : decode cX7_init 37 = .ok (.new 10, 3) := by decide +kernel
theorem dX7_init_40 : decode cX7_init 40 = .ok (.dup, 1) := by decide +kernel
theorem dX7_init_41 : decode cX7_init 41 = .ok (.aload_n 1, 1) := by decide +kernel
theorem dX7_init_42 : decode cX7_init 42 = .ok (.invokespecial 12, 3) := by decide +kernel
theorem dX7_init_45 : decode cX7_init 45 = .ok (.putfield 24, 3) := by decide +kernel
theorem dX7_init_48 : decode cX7_init 48 = .ok (.aload_n 0, 1) := by decide +kernel
theorem dX7_init_49 : decode cX7_init 49 = .ok (.new 27, 3) := by decide +kernel
theorem dX7_init_52 : decode cX7_init 52 = .ok (.dup, 1) := by decide +kernel
theorem dX7_init_53 : decode cX7_init 53 = .ok (.aload_n 1, 1) := by decide +kernel
theorem dX7_init_54 : decode cX7_init 54 = .ok (.invokespecial 29, 3) := by decide +kernel
theorem dX7_init_57 : decode cX7_init 57 = .ok (.putfield 30, 3) := by decide +kernel
theorem dX7_init_60 : decode cX7_init 60 = .ok (.aload_n 0, 1) := by decide +kernel
theorem dX7_init_61 : decode cX7_init 61 = .ok (.new 34, 3) := by decide +kernel
theorem dX7_init_64 : decode cX7_init 64 = .ok (.dup, 1) := by decide +kernel
theorem dX7_init_65 : decode cX7_init 65 = .ok (.invokespecial 36, 3) := by decide +kernel
theorem dX7_init_68 : decode cX7_init 68 = .ok (.putfield 37, 3) := by decide +kernel
theorem dX7_init_71 : decode cX7_init 71 = .ok (.aload_n 0, 1) := by decide +kernel
theorem dX7_init_72 : decode cX7_init 72 = .ok (.iconst (-1), 1) := by decide +kernel
theorem dX7_init_73 : decode cX7_init 73 = .ok (.putfield 41, 3) := by decide +kernel
theorem dX7_init_76 : decode cX7_init 76 = .ok (.aload_n 0, 1) := by decide +kernel
theorem dX7_init_77 : decode cX7_init 77 = .ok (.iconst 0, 1) := by decide +kernel
theorem dX7_init_78 : decode cX7_init 78 = .ok (.putfield 45, 3) := by decide +kernel
theorem dX7_init_81 : decode cX7_init 81 = .ok (.return_, 1) := by decide +kernel
theorem dX7_addUnit_0 : decode cX7_addUnit 0 = .ok (.iload_n 1, 1) := by decide +kernel
theorem dX7_addUnit_1 : decode cX7_addUnit 1 = .ok (.invokestatic 48, 3) := by decide +kernel
theorem dX7_addUnit_4 : decode cX7_addUnit 4 = .ok (.ifCond .eq 29, 3) := by decide +kernel
theorem dX7_addUnit_7 : decode cX7_addUnit 7 = .ok (.iload_n 2, 1) := by decide +kernel
theorem dX7_addUnit_8 : decode cX7_addUnit 8 = .ok (.invokestatic 52, 3) := by decide +kernel
theorem dX7_addUnit_11 : decode cX7_addUnit 11 = .ok (.ifCond .eq 22, 3) := by decide +kernel
theorem dX7_addUnit_14 : decode cX7_addUnit 14 = .ok (.iload_n 3, 1) := by decide +kernel
theorem dX7_addUnit_15 : decode cX7_addUnit 15 = .ok (.iconst 1, 1) := by decide +kernel
theorem dX7_addUnit_16 : decode cX7_addUnit 16 = .ok (.sipush 300, 3) := by decide +kernel
theorem dX7_addUnit_19 : decode cX7_addUnit 19 = .ok (.invokestatic 55, 3) := by decide +kernel
theorem dX7_addUnit_22 : decode cX7_addUnit 22 = .ok (.ifCond .eq 11, 3) := by decide +kernel
theorem dX7_addUnit_25 : decode cX7_addUnit 25 = .ok (.iload 4, 2) := by decide +kernel
theorem dX7_addUnit_27 : decode cX7_addUnit 27 = .ok (.invokestatic 59, 3) := by decide +kernel
theorem dX7_addUnit_30 : decode cX7_addUnit 30 = .ok (.ifCond .ne 13, 3) := by decide +kernel
theorem dX7_addUnit_33 : decode cX7_addUnit 33 = .ok (.new 62, 3) := by decide +kernel
theorem dX7_addUnit_36 : decode cX7_addUnit 36 = .ok (.dup, 1) := by decide +kernel
theorem dX7_addUnit_37 : decode cX7_addUnit 37 = .ok (.ldc 64, 2) := by decide +kernel
theorem dX7_addUnit_39 : decode cX7_addUnit 39 = .ok (.invokespecial 66, 3) := by decide +kernel
theorem dX7_addUnit_42 : decode cX7_addUnit 42 = .ok (.athrow, 1) := by decide +kernel
theorem dX7_addUnit_43 : decode cX7_addUnit 43 = .ok (.aload_n 0, 1) := by decide +kernel
theorem dX7_addUnit_44 : decode cX7_addUnit 44 = .ok (.getfield 15, 3) := by decide +kernel
theorem dX7_addUnit_47 : decode cX7_addUnit 47 = .ok (.getfield 69, 3) := by decide +kernel
theorem dX7_addUnit_50 : decode cX7_addUnit 50 = .ok (.getfield 73, 3) := by decide +kernel
theorem dX7_addUnit_53 : decode cX7_addUnit 53 = .ok (.bipush 12, 2) := by decide +kernel
theorem dX7_addUnit_55 : decode cX7_addUnit 55 = .ok (.if_icmp .lt 13, 3) := by decide +kernel
theorem dX7_addUnit_58 : decode cX7_addUnit 58 = .ok (.new 78, 3) := by decide +kernel
theorem dX7_addUnit_61 : decode cX7_addUnit 61 = .ok (.dup, 1) := by decide +kernel
theorem dX7_addUnit_62 : decode cX7_addUnit 62 = .ok (.ldc 80, 2) := by decide +kernel
theorem dX7_addUnit_64 : decode cX7_addUnit 64 = .ok (.invokespecial 82, 3) := by decide +kernel
theorem dX7_addUnit_67 : decode cX7_addUnit 67 = .ok (.athrow, 1) := by decide +kernel
theorem dX7_addUnit_68 : decode cX7_addUnit 68 = .ok (.aload_n 0, 1) := by decide +kernel
theorem dX7_addUnit_69 : decode cX7_addUnit 69 = .ok (.getfield 30, 3) := by decide +kernel
theorem dX7_addUnit_72 : decode cX7_addUnit 72 = .ok (.aload_n 0, 1) := by decide +kernel
theorem dX7_addUnit_73 : decode cX7_addUnit 73 = .ok (.getfield 15, 3) := by decide +kernel
theorem dX7_addUnit_76 : decode cX7_addUnit 76 = .ok (.invokevirtual 83, 3) := by decide +kernel
theorem dX7_addUnit_79 : decode cX7_addUnit 79 = .ok (.aload_n 0, 1) := by decide +kernel
theorem dX7_addUnit_80 : decode cX7_addUnit 80 = .ok (.getfield 15, 3) := by decide +kernel
theorem dX7_addUnit_83 : decode cX7_addUnit 83 = .ok (.getfield 69, 3) := by decide +kernel
theorem dX7_addUnit_86 : decode cX7_addUnit 86 = .ok (.iload_n 1, 1) := by decide +kernel
theorem dX7_addUnit_87 : decode cX7_addUnit 87 = .ok (.iload_n 2, 1) := by decide +kernel
theorem dX7_addUnit_88 : decode cX7_addUnit 88 = .ok (.iload_n 3, 1) := by decide +kernel
theorem dX7_addUnit_89 : decode cX7_addUnit 89 = .ok (.iload 4, 2) := by decide +kernel
theorem dX7_addUnit_91 : decode cX7_addUnit 91 = .ok (.invokevirtual 87, 3) := by decide +kernel
theorem dX7_addUnit_94 : decode cX7_addUnit 94 = .ok (.ireturn, 1) := by decide +kernel
theorem dX7_setOwner_0 : decode cX7_setOwner 0 = .ok (.aload_n 0, 1) := by decide +kernel
theorem dX7_setOwner_1 : decode cX7_setOwner 1 = .ok (.iload_n 1, 1) := by decide +kernel
theorem dX7_setOwner_2 : decode cX7_setOwner 2 = .ok (.invokevirtual 91, 3) := by decide +kernel
theorem dX7_setOwner_5 : decode cX7_setOwner 5 = .ok (.iload_n 2, 1) := by decide +kernel
theorem dX7_setOwner_6 : decode cX7_setOwner 6 = .ok (.invokestatic 95, 3) := by decide +kernel
theorem dX7_setOwner_9 : decode cX7_setOwner 9 = .ok (.aload_n 0, 1) := by decide +kernel
theorem dX7_setOwner_10 : decode cX7_setOwner 10 = .ok (.getfield 30, 3) := by decide +kernel
theorem dX7_setOwner_13 : decode cX7_setOwner 13 = .ok (.aload_n 0, 1) := by decide +kernel
theorem dX7_setOwner_14 : decode cX7_setOwner 14 = .ok (.getfield 15, 3) := by decide +kernel
theorem dX7_setOwner_17 : decode cX7_setOwner 17 = .ok (.invokevirtual 83, 3) := by decide +kernel
theorem dX7_setOwner_20 : decode cX7_setOwner 20 = .ok (.aload_n 0, 1) := by decide +kernel
theorem dX7_setOwner_21 : decode cX7_setOwner 21 = .ok (.getfield 15, 3) := by decide +kernel
theorem dX7_setOwner_24 : decode cX7_setOwner 24 = .ok (.getfield 69, 3) := by decide +kernel
theorem dX7_setOwner_27 : decode cX7_setOwner 27 = .ok (.getfield 98, 3) := by decide +kernel
theorem dX7_setOwner_30 : decode cX7_setOwner 30 = .ok (.iload_n 1, 1) := by decide +kernel
theorem dX7_setOwner_31 : decode cX7_setOwner 31 = .ok (.iaload, 1) := by decide +kernel
theorem dX7_setOwner_32 : decode cX7_setOwner 32 = .ok (.istore_n 3, 1) := by decide +kernel
theorem dX7_setOwner_33 : decode cX7_setOwner 33 = .ok (.aload_n 0, 1) := by decide +kernel
theorem dX7_setOwner_34 : decode cX7_setOwner 34 = .ok (.getfield 15, 3) := by decide +kernel
theorem dX7_setOwner_37 : decode cX7_setOwner 37 = .ok (.getfield 69, 3) := by decide +kernel
theorem dX7_setOwner_40 : decode cX7_setOwner 40 = .ok (.getfield 98, 3) := by decide +kernel
theorem dX7_setOwner_43 : decode cX7_setOwner 43 = .ok (.iload_n 1, 1) := by decide +kernel
theorem dX7_setOwner_44 : decode cX7_setOwner 44 = .ok (.iload_n 2, 1) := by decide +kernel
theorem dX7_setOwner_45 : decode cX7_setOwner 45 = .ok (.iastore, 1) := by decide +kernel
theorem dX7_setOwner_46 : decode cX7_setOwner 46 = .ok (.iload_n 3, 1) := by decide +kernel
theorem dX7_setOwner_47 : decode cX7_setOwner 47 = .ok (.ireturn, 1) := by decide +kernel
theorem dX7_set_0 : decode cX7_set 0 = .ok (.iload_n 1, 1) := by decide +kernel
theorem dX7_set_1 : decode cX7_set 1 = .ok (.iconst 0, 1) := by decide +kernel
theorem dX7_set_2 : decode cX7_set 2 = .ok (.iconst 1, 1) := by decide +kernel
theorem dX7_set_3 : decode cX7_set 3 = .ok (.invokestatic 55, 3) := by decide +kernel
theorem dX7_set_6 : decode cX7_set 6 = .ok (.ifCond .ne 13, 3) := by decide +kernel
theorem dX7_set_9 : decode cX7_set 9 = .ok (.new 102, 3) := by decide +kernel
theorem dX7_set_12 : decode cX7_set 12 = .ok (.dup, 1) := by decide +kernel
theorem dX7_set_13 : decode cX7_set 13 = .ok (.ldc 104, 2) := by decide +kernel
theorem dX7_set_15 : decode cX7_set 15 = .ok (.invokespecial 106, 3) := by decide +kernel
theorem dX7_set_18 : decode cX7_set 18 = .ok (.athrow, 1) := by decide +kernel
theorem dX7_set_19 : decode cX7_set 19 = .ok (.iload_n 2, 1) := by decide +kernel
theorem dX7_set_20 : decode cX7_set 20 = .ok (.iconst 0, 1) := by decide +kernel
theorem dX7_set_21 : decode cX7_set 21 = .ok (.bipush 100, 2) := by decide +kernel
theorem dX7_set_23 : decode cX7_set 23 = .ok (.invokestatic 55, 3) := by decide +kernel
theorem dX7_set_26 : decode cX7_set 26 = .ok (.ifCond .ne 13, 3) := by decide +kernel
theorem dX7_set_29 : decode cX7_set 29 = .ok (.new 62, 3) := by decide +kernel
theorem dX7_set_32 : decode cX7_set 32 = .ok (.dup, 1) := by decide +kernel
theorem dX7_set_33 : decode cX7_set 33 = .ok (.ldc 107, 2) := by decide +kernel
theorem dX7_set_35 : decode cX7_set 35 = .ok (.invokespecial 66, 3) := by decide +kernel
theorem dX7_set_38 : decode cX7_set 38 = .ok (.athrow, 1) := by decide +kernel
theorem dX7_set_39 : decode cX7_set 39 = .ok (.aload_n 0, 1) := by decide +kernel
theorem dX7_set_40 : decode cX7_set 40 = .ok (.getfield 30, 3) := by decide +kernel
theorem dX7_set_43 : decode cX7_set 43 = .ok (.aload_n 0, 1) := by decide +kernel
theorem dX7_set_44 : decode cX7_set 44 = .ok (.getfield 15, 3) := by decide +kernel
theorem dX7_set_47 : decode cX7_set 47 = .ok (.invokevirtual 83, 3) := by decide +kernel
theorem dX7_set_50 : decode cX7_set 50 = .ok (.aload_n 0, 1) := by decide +kernel
theorem dX7_set_51 : decode cX7_set 51 = .ok (.getfield 15, 3) := by decide +kernel
theorem dX7_set_54 : decode cX7_set 54 = .ok (.getfield 109, 3) := by decide +kernel
theorem dX7_set_57 : decode cX7_set 57 = .ok (.iload_n 1, 1) := by decide +kernel
theorem dX7_set_58 : decode cX7_set 58 = .ok (.iaload, 1) := by decide +kernel
theorem dX7_set_59 : decode cX7_set 59 = .ok (.istore_n 3, 1) := by decide +kernel
theorem dX7_set_60 : decode cX7_set 60 = .ok (.aload_n 0, 1) := by decide +kernel
theorem dX7_set_61 : decode cX7_set 61 = .ok (.getfield 15, 3) := by decide +kernel
theorem dX7_set_64 : decode cX7_set 64 = .ok (.getfield 109, 3) := by decide +kernel
theorem dX7_set_67 : decode cX7_set 67 = .ok (.iload_n 1, 1) := by decide +kernel
theorem dX7_set_68 : decode cX7_set 68 = .ok (.iload_n 2, 1) := by decide +kernel
theorem dX7_set_69 : decode cX7_set 69 = .ok (.iastore, 1) := by decide +kernel
theorem dX7_set_70 : decode cX7_set 70 = .ok (.iload_n 3, 1) := by decide +kernel
theorem dX7_set_71 : decode cX7_set 71 = .ok (.ireturn, 1) := by decide +kernel
theorem dX7_read_0 : decode cX7_read 0 = .ok (.aload_n 0, 1) := by decide +kernel
theorem dX7_read_1 : decode cX7_read 1 = .ok (.iload_n 1, 1) := by decide +kernel
theorem dX7_read_2 : decode cX7_read 2 = .ok (.invokevirtual 91, 3) := by decide +kernel
theorem dX7_read_5 : decode cX7_read 5 = .ok (.iload_n 2, 1) := by decide +kernel
theorem dX7_read_6 : decode cX7_read 6 = .ok (.aload_n 0, 1) := by decide +kernel
theorem dX7_read_7 : decode cX7_read 7 = .ok (.getfield 15, 3) := by decide +kernel
theorem dX7_read_10 : decode cX7_read 10 = .ok (.getfield 69, 3) := by decide +kernel
theorem dX7_read_13 : decode cX7_read 13 = .ok (.getfield 112, 3) := by decide +kernel
theorem dX7_read_16 : decode cX7_read 16 = .ok (.iload_n 1, 1) := by decide +kernel
theorem dX7_read_17 : decode cX7_read 17 = .ok (.iaload, 1) := by decide +kernel
theorem dX7_read_18 : decode cX7_read 18 = .ok (.ldc 115, 2) := by decide +kernel
theorem dX7_read_20 : decode cX7_read 20 = .ok (.invokestatic 55, 3) := by decide +kernel
theorem dX7_read_23 : decode cX7_read 23 = .ok (.ifCond .ne 13, 3) := by decide +kernel
theorem dX7_read_26 : decode cX7_read 26 = .ok (.new 62, 3) := by decide +kernel
theorem dX7_read_29 : decode cX7_read 29 = .ok (.dup, 1) := by decide +kernel
theorem dX7_read_30 : decode cX7_read 30 = .ok (.ldc 116, 2) := by decide +kernel
theorem dX7_read_32 : decode cX7_read 32 = .ok (.invokespecial 66, 3) := by decide +kernel
theorem dX7_read_35 : decode cX7_read 35 = .ok (.athrow, 1) := by decide +kernel
theorem dX7_read_36 : decode cX7_read 36 = .ok (.aload_n 0, 1) := by decide +kernel
theorem dX7_read_37 : decode cX7_read 37 = .ok (.getfield 30, 3) := by decide +kernel
theorem dX7_read_40 : decode cX7_read 40 = .ok (.aload_n 0, 1) := by decide +kernel
theorem dX7_read_41 : decode cX7_read 41 = .ok (.getfield 15, 3) := by decide +kernel
theorem dX7_read_44 : decode cX7_read 44 = .ok (.invokevirtual 83, 3) := by decide +kernel
theorem dX7_read_47 : decode cX7_read 47 = .ok (.aload_n 0, 1) := by decide +kernel
theorem dX7_read_48 : decode cX7_read 48 = .ok (.getfield 15, 3) := by decide +kernel
theorem dX7_read_51 : decode cX7_read 51 = .ok (.getfield 69, 3) := by decide +kernel
theorem dX7_read_54 : decode cX7_read 54 = .ok (.getfield 112, 3) := by decide +kernel
theorem dX7_read_57 : decode cX7_read 57 = .ok (.iload_n 1, 1) := by decide +kernel
theorem dX7_read_58 : decode cX7_read 58 = .ok (.iload_n 2, 1) := by decide +kernel
theorem dX7_read_59 : decode cX7_read 59 = .ok (.iastore, 1) := by decide +kernel
theorem dX7_read_60 : decode cX7_read 60 = .ok (.aload_n 0, 1) := by decide +kernel
theorem dX7_read_61 : decode cX7_read 61 = .ok (.getfield 15, 3) := by decide +kernel
theorem dX7_read_64 : decode cX7_read 64 = .ok (.getfield 69, 3) := by decide +kernel
theorem dX7_read_67 : decode cX7_read 67 = .ok (.iload_n 1, 1) := by decide +kernel
theorem dX7_read_68 : decode cX7_read 68 = .ok (.invokevirtual 118, 3) := by decide +kernel
theorem dX7_read_71 : decode cX7_read 71 = .ok (.ireturn, 1) := by decide +kernel
theorem dX7_unit_0 : decode cX7_unit 0 = .ok (.aload_n 0, 1) := by decide +kernel
theorem dX7_unit_1 : decode cX7_unit 1 = .ok (.iload_n 1, 1) := by decide +kernel
theorem dX7_unit_2 : decode cX7_unit 2 = .ok (.invokevirtual 91, 3) := by decide +kernel
theorem dX7_unit_5 : decode cX7_unit 5 = .ok (.iload_n 2, 1) := by decide +kernel
theorem dX7_unit_6 : decode cX7_unit 6 = .ok (.tableswitch 165 0 8 #[50, 63, 76, 89, 102, 115, 127, 139, 152], 50) := by decide +kernel
theorem dX7_unit_56 : decode cX7_unit 56 = .ok (.aload_n 0, 1) := by decide +kernel
theorem dX7_unit_57 : decode cX7_unit 57 = .ok (.getfield 15, 3) := by decide +kernel
theorem dX7_unit_60 : decode cX7_unit 60 = .ok (.getfield 69, 3) := by decide +kernel
theorem dX7_unit_63 : decode cX7_unit 63 = .ok (.getfield 122, 3) := by decide +kernel
theorem dX7_unit_66 : decode cX7_unit 66 = .ok (.iload_n 1, 1) := by decide +kernel
theorem dX7_unit_67 : decode cX7_unit 67 = .ok (.iaload, 1) := by decide +kernel
theorem dX7_unit_68 : decode cX7_unit 68 = .ok (.ireturn, 1) := by decide +kernel
theorem dX7_unit_69 : decode cX7_unit 69 = .ok (.aload_n 0, 1) := by decide +kernel
theorem dX7_unit_70 : decode cX7_unit 70 = .ok (.getfield 15, 3) := by decide +kernel
theorem dX7_unit_73 : decode cX7_unit 73 = .ok (.getfield 69, 3) := by decide +kernel
theorem dX7_unit_76 : decode cX7_unit 76 = .ok (.getfield 125, 3) := by decide +kernel
theorem dX7_unit_79 : decode cX7_unit 79 = .ok (.iload_n 1, 1) := by decide +kernel
theorem dX7_unit_80 : decode cX7_unit 80 = .ok (.iaload, 1) := by decide +kernel
theorem dX7_unit_81 : decode cX7_unit 81 = .ok (.ireturn, 1) := by decide +kernel
theorem dX7_unit_82 : decode cX7_unit 82 = .ok (.aload_n 0, 1) := by decide +kernel
theorem dX7_unit_83 : decode cX7_unit 83 = .ok (.getfield 15, 3) := by decide +kernel
theorem dX7_unit_86 : decode cX7_unit 86 = .ok (.getfield 69, 3) := by decide +kernel
theorem dX7_unit_89 : decode cX7_unit 89 = .ok (.getfield 128, 3) := by decide +kernel
theorem dX7_unit_92 : decode cX7_unit 92 = .ok (.iload_n 1, 1) := by decide +kernel
theorem dX7_unit_93 : decode cX7_unit 93 = .ok (.iaload, 1) := by decide +kernel
theorem dX7_unit_94 : decode cX7_unit 94 = .ok (.ireturn, 1) := by decide +kernel
theorem dX7_unit_95 : decode cX7_unit 95 = .ok (.aload_n 0, 1) := by decide +kernel
theorem dX7_unit_96 : decode cX7_unit 96 = .ok (.getfield 15, 3) := by decide +kernel
theorem dX7_unit_99 : decode cX7_unit 99 = .ok (.getfield 69, 3) := by decide +kernel
theorem dX7_unit_102 : decode cX7_unit 102 = .ok (.getfield 98, 3) := by decide +kernel
theorem dX7_unit_105 : decode cX7_unit 105 = .ok (.iload_n 1, 1) := by decide +kernel
theorem dX7_unit_106 : decode cX7_unit 106 = .ok (.iaload, 1) := by decide +kernel
theorem dX7_unit_107 : decode cX7_unit 107 = .ok (.ireturn, 1) := by decide +kernel
theorem dX7_unit_108 : decode cX7_unit 108 = .ok (.aload_n 0, 1) := by decide +kernel
theorem dX7_unit_109 : decode cX7_unit 109 = .ok (.getfield 15, 3) := by decide +kernel
theorem dX7_unit_112 : decode cX7_unit 112 = .ok (.getfield 69, 3) := by decide +kernel
theorem dX7_unit_115 : decode cX7_unit 115 = .ok (.getfield 112, 3) := by decide +kernel
theorem dX7_unit_118 : decode cX7_unit 118 = .ok (.iload_n 1, 1) := by decide +kernel
theorem dX7_unit_119 : decode cX7_unit 119 = .ok (.iaload, 1) := by decide +kernel
theorem dX7_unit_120 : decode cX7_unit 120 = .ok (.ireturn, 1) := by decide +kernel
theorem dX7_unit_121 : decode cX7_unit 121 = .ok (.aload_n 0, 1) := by decide +kernel
theorem dX7_unit_122 : decode cX7_unit 122 = .ok (.getfield 15, 3) := by decide +kernel
theorem dX7_unit_125 : decode cX7_unit 125 = .ok (.getfield 69, 3) := by decide +kernel
theorem dX7_unit_128 : decode cX7_unit 128 = .ok (.iload_n 1, 1) := by decide +kernel
theorem dX7_unit_129 : decode cX7_unit 129 = .ok (.invokevirtual 118, 3) := by decide +kernel
theorem dX7_unit_132 : decode cX7_unit 132 = .ok (.ireturn, 1) := by decide +kernel
theorem dX7_unit_133 : decode cX7_unit 133 = .ok (.aload_n 0, 1) := by decide +kernel
theorem dX7_unit_134 : decode cX7_unit 134 = .ok (.getfield 15, 3) := by decide +kernel
theorem dX7_unit_137 : decode cX7_unit 137 = .ok (.getfield 69, 3) := by decide +kernel
theorem dX7_unit_140 : decode cX7_unit 140 = .ok (.iload_n 1, 1) := by decide +kernel
theorem dX7_unit_141 : decode cX7_unit 141 = .ok (.invokevirtual 131, 3) := by decide +kernel
theorem dX7_unit_144 : decode cX7_unit 144 = .ok (.ireturn, 1) := by decide +kernel
theorem dX7_unit_145 : decode cX7_unit 145 = .ok (.aload_n 0, 1) := by decide +kernel
theorem dX7_unit_146 : decode cX7_unit 146 = .ok (.getfield 15, 3) := by decide +kernel
theorem dX7_unit_149 : decode cX7_unit 149 = .ok (.getfield 69, 3) := by decide +kernel
theorem dX7_unit_152 : decode cX7_unit 152 = .ok (.getfield 134, 3) := by decide +kernel
theorem dX7_unit_155 : decode cX7_unit 155 = .ok (.iload_n 1, 1) := by decide +kernel
theorem dX7_unit_156 : decode cX7_unit 156 = .ok (.iaload, 1) := by decide +kernel
theorem dX7_unit_157 : decode cX7_unit 157 = .ok (.ireturn, 1) := by decide +kernel
theorem dX7_unit_158 : decode cX7_unit 158 = .ok (.aload_n 0, 1) := by decide +kernel
theorem dX7_unit_159 : decode cX7_unit 159 = .ok (.getfield 15, 3) := by decide +kernel
theorem dX7_unit_162 : decode cX7_unit 162 = .ok (.getfield 69, 3) := by decide +kernel
theorem dX7_unit_165 : decode cX7_unit 165 = .ok (.getfield 137, 3) := by decide +kernel
theorem dX7_unit_168 : decode cX7_unit 168 = .ok (.iload_n 1, 1) := by decide +kernel
theorem dX7_unit_169 : decode cX7_unit 169 = .ok (.iaload, 1) := by decide +kernel
theorem dX7_unit_170 : decode cX7_unit 170 = .ok (.ireturn, 1) := by decide +kernel
theorem dX7_unit_171 : decode cX7_unit 171 = .ok (.new 62, 3) := by decide +kernel
theorem dX7_unit_174 : decode cX7_unit 174 = .ok (.dup, 1) := by decide +kernel
theorem dX7_unit_175 : decode cX7_unit 175 = .ok (.ldc 140, 2) := by decide +kernel
theorem dX7_unit_177 : decode cX7_unit 177 = .ok (.invokespecial 66, 3) := by decide +kernel
theorem dX7_unit_180 : decode cX7_unit 180 = .ok (.athrow, 1) := by decide +kernel
theorem dX7_owned_0 : decode cX7_owned 0 = .ok (.iload_n 1, 1) := by decide +kernel
theorem dX7_owned_1 : decode cX7_owned 1 = .ok (.invokestatic 95, 3) := by decide +kernel
theorem dX7_owned_4 : decode cX7_owned 4 = .ok (.aload_n 0, 1) := by decide +kernel
theorem dX7_owned_5 : decode cX7_owned 5 = .ok (.getfield 15, 3) := by decide +kernel
theorem dX7_owned_8 : decode cX7_owned 8 = .ok (.getfield 69, 3) := by decide +kernel
theorem dX7_owned_11 : decode cX7_owned 11 = .ok (.iload_n 1, 1) := by decide +kernel
theorem dX7_owned_12 : decode cX7_owned 12 = .ok (.invokevirtual 142, 3) := by decide +kernel
theorem dX7_owned_15 : decode cX7_owned 15 = .ok (.ireturn, 1) := by decide +kernel
theorem dX7_debtor_0 : decode cX7_debtor 0 = .ok (.aload_n 0, 1) := by decide +kernel
theorem dX7_debtor_1 : decode cX7_debtor 1 = .ok (.getfield 15, 3) := by decide +kernel
theorem dX7_debtor_4 : decode cX7_debtor 4 = .ok (.getfield 69, 3) := by decide +kernel
theorem dX7_debtor_7 : decode cX7_debtor 7 = .ok (.getfield 73, 3) := by decide +kernel
theorem dX7_debtor_10 : decode cX7_debtor 10 = .ok (.ifCond .ne 13, 3) := by decide +kernel
theorem dX7_debtor_13 : decode cX7_debtor 13 = .ok (.new 145, 3) := by decide +kernel
theorem dX7_debtor_16 : decode cX7_debtor 16 = .ok (.dup, 1) := by decide +kernel
theorem dX7_debtor_17 : decode cX7_debtor 17 = .ok (.ldc 147, 2) := by decide +kernel
theorem dX7_debtor_19 : decode cX7_debtor 19 = .ok (.invokespecial 149, 3) := by decide +kernel
theorem dX7_debtor_22 : decode cX7_debtor 22 = .ok (.athrow, 1) := by decide +kernel
theorem dX7_debtor_23 : decode cX7_debtor 23 = .ok (.aload_n 0, 1) := by decide +kernel
theorem dX7_debtor_24 : decode cX7_debtor 24 = .ok (.getfield 15, 3) := by decide +kernel
theorem dX7_debtor_27 : decode cX7_debtor 27 = .ok (.getfield 69, 3) := by decide +kernel
theorem dX7_debtor_30 : decode cX7_debtor 30 = .ok (.invokevirtual 150, 3) := by decide +kernel
theorem dX7_debtor_33 : decode cX7_debtor 33 = .ok (.ireturn, 1) := by decide +kernel
theorem dX7_shares_0 : decode cX7_shares 0 = .ok (.iload_n 1, 1) := by decide +kernel
theorem dX7_shares_1 : decode cX7_shares 1 = .ok (.invokestatic 48, 3) := by decide +kernel
theorem dX7_shares_4 : decode cX7_shares 4 = .ok (.ifCond .eq 15, 3) := by decide +kernel
theorem dX7_shares_7 : decode cX7_shares 7 = .ok (.iload_n 2, 1) := by decide +kernel
theorem dX7_shares_8 : decode cX7_shares 8 = .ok (.iconst (-1), 1) := by decide +kernel
theorem dX7_shares_9 : decode cX7_shares 9 = .ok (.if_icmp .eq 20, 3) := by decide +kernel
theorem dX7_shares_12 : decode cX7_shares 12 = .ok (.iload_n 2, 1) := by decide +kernel
theorem dX7_shares_13 : decode cX7_shares 13 = .ok (.invokestatic 52, 3) := by decide +kernel
theorem dX7_shares_16 : decode cX7_shares 16 = .ok (.ifCond .ne 13, 3) := by decide +kernel
theorem dX7_shares_19 : decode cX7_shares 19 = .ok (.new 62, 3) := by decide +kernel
theorem dX7_shares_22 : decode cX7_shares 22 = .ok (.dup, 1) := by decide +kernel
theorem dX7_shares_23 : decode cX7_shares 23 = .ok (.ldc 154, 2) := by decide +kernel
theorem dX7_shares_25 : decode cX7_shares 25 = .ok (.invokespecial 66, 3) := by decide +kernel
theorem dX7_shares_28 : decode cX7_shares 28 = .ok (.athrow, 1) := by decide +kernel
theorem dX7_shares_29 : decode cX7_shares 29 = .ok (.aload_n 0, 1) := by decide +kernel
theorem dX7_shares_30 : decode cX7_shares 30 = .ok (.getfield 15, 3) := by decide +kernel
theorem dX7_shares_33 : decode cX7_shares 33 = .ok (.getfield 69, 3) := by decide +kernel
theorem dX7_shares_36 : decode cX7_shares 36 = .ok (.iload_n 1, 1) := by decide +kernel
theorem dX7_shares_37 : decode cX7_shares 37 = .ok (.iload_n 2, 1) := by decide +kernel
theorem dX7_shares_38 : decode cX7_shares 38 = .ok (.invokevirtual 156, 3) := by decide +kernel
theorem dX7_shares_41 : decode cX7_shares 41 = .ok (.ireturn, 1) := by decide +kernel
theorem dX7_pay_0 : decode cX7_pay 0 = .ok (.aload_n 0, 1) := by decide +kernel
theorem dX7_pay_1 : decode cX7_pay 1 = .ok (.iload_n 1, 1) := by decide +kernel
theorem dX7_pay_2 : decode cX7_pay 2 = .ok (.invokevirtual 91, 3) := by decide +kernel
theorem dX7_pay_5 : decode cX7_pay 5 = .ok (.aload_n 0, 1) := by decide +kernel
theorem dX7_pay_6 : decode cX7_pay 6 = .ok (.aload_n 0, 1) := by decide +kernel
theorem dX7_pay_7 : decode cX7_pay 7 = .ok (.getfield 15, 3) := by decide +kernel
theorem dX7_pay_10 : decode cX7_pay 10 = .ok (.iload_n 1, 1) := by decide +kernel
theorem dX7_pay_11 : decode cX7_pay 11 = .ok (.iload_n 2, 1) := by decide +kernel
theorem dX7_pay_12 : decode cX7_pay 12 = .ok (.invokevirtual 160, 3) := by decide +kernel
theorem dX7_pay_15 : decode cX7_pay 15 = .ok (.invokevirtual 163, 3) := by decide +kernel
theorem dX7_pay_18 : decode cX7_pay 18 = .ok (.aload_n 0, 1) := by decide +kernel
theorem dX7_pay_19 : decode cX7_pay 19 = .ok (.getfield 30, 3) := by decide +kernel
theorem dX7_pay_22 : decode cX7_pay 22 = .ok (.aload_n 0, 1) := by decide +kernel
theorem dX7_pay_23 : decode cX7_pay 23 = .ok (.getfield 15, 3) := by decide +kernel
theorem dX7_pay_26 : decode cX7_pay 26 = .ok (.invokevirtual 83, 3) := by decide +kernel
theorem dX7_pay_29 : decode cX7_pay 29 = .ok (.aload_n 0, 1) := by decide +kernel
theorem dX7_pay_30 : decode cX7_pay 30 = .ok (.getfield 15, 3) := by decide +kernel
theorem dX7_pay_33 : decode cX7_pay 33 = .ok (.getfield 69, 3) := by decide +kernel
theorem dX7_pay_36 : decode cX7_pay 36 = .ok (.getfield 134, 3) := by decide +kernel
theorem dX7_pay_39 : decode cX7_pay 39 = .ok (.iload_n 1, 1) := by decide +kernel
theorem dX7_pay_40 : decode cX7_pay 40 = .ok (.dup2, 1) := by decide +kernel
theorem dX7_pay_41 : decode cX7_pay 41 = .ok (.iaload, 1) := by decide +kernel
theorem dX7_pay_42 : decode cX7_pay 42 = .ok (.iload_n 2, 1) := by decide +kernel
theorem dX7_pay_43 : decode cX7_pay 43 = .ok (.iadd, 1) := by decide +kernel
theorem dX7_pay_44 : decode cX7_pay 44 = .ok (.iastore, 1) := by decide +kernel
theorem dX7_pay_45 : decode cX7_pay 45 = .ok (.aload_n 0, 1) := by decide +kernel
theorem dX7_pay_46 : decode cX7_pay 46 = .ok (.getfield 15, 3) := by decide +kernel
theorem dX7_pay_49 : decode cX7_pay 49 = .ok (.getfield 69, 3) := by decide +kernel
theorem dX7_pay_52 : decode cX7_pay 52 = .ok (.iload_n 1, 1) := by decide +kernel
theorem dX7_pay_53 : decode cX7_pay 53 = .ok (.invokevirtual 131, 3) := by decide +kernel
theorem dX7_pay_56 : decode cX7_pay 56 = .ok (.ireturn, 1) := by decide +kernel
theorem dX7_book_0 : decode cX7_book 0 = .ok (.iload_n 1, 1) := by decide +kernel
theorem dX7_book_1 : decode cX7_book 1 = .ok (.iconst 4, 1) := by decide +kernel
theorem dX7_book_2 : decode cX7_book 2 = .ok (.iload_n 2, 1) := by decide +kernel
theorem dX7_book_3 : decode cX7_book 3 = .ok (.invokestatic 166, 3) := by decide +kernel
theorem dX7_book_6 : decode cX7_book 6 = .ok (.iload_n 3, 1) := by decide +kernel
theorem dX7_book_7 : decode cX7_book 7 = .ok (.invokestatic 170, 3) := by decide +kernel
theorem dX7_book_10 : decode cX7_book 10 = .ok (.aload_n 0, 1) := by decide +kernel
theorem dX7_book_11 : decode cX7_book 11 = .ok (.aload_n 0, 1) := by decide +kernel
theorem dX7_book_12 : decode cX7_book 12 = .ok (.getfield 15, 3) := by decide +kernel
theorem dX7_book_15 : decode cX7_book 15 = .ok (.iload_n 1, 1) := by decide +kernel
theorem dX7_book_16 : decode cX7_book 16 = .ok (.iload_n 2, 1) := by decide +kernel
theorem dX7_book_17 : decode cX7_book 17 = .ok (.iload_n 3, 1) := by decide +kernel
theorem dX7_book_18 : decode cX7_book 18 = .ok (.iload 4, 2) := by decide +kernel
theorem dX7_book_20 : decode cX7_book 20 = .ok (.iload 5, 2) := by decide +kernel
theorem dX7_book_22 : decode cX7_book 22 = .ok (.invokevirtual 173, 3) := by decide +kernel
theorem dX7_book_25 : decode cX7_book 25 = .ok (.invokevirtual 163, 3) := by decide +kernel
theorem dX7_book_28 : decode cX7_book 28 = .ok (.aload_n 0, 1) := by decide +kernel
theorem dX7_book_29 : decode cX7_book 29 = .ok (.getfield 30, 3) := by decide +kernel
theorem dX7_book_32 : decode cX7_book 32 = .ok (.aload_n 0, 1) := by decide +kernel
theorem dX7_book_33 : decode cX7_book 33 = .ok (.getfield 15, 3) := by decide +kernel
theorem dX7_book_36 : decode cX7_book 36 = .ok (.invokevirtual 83, 3) := by decide +kernel
theorem dX7_book_39 : decode cX7_book 39 = .ok (.aload_n 0, 1) := by decide +kernel
theorem dX7_book_40 : decode cX7_book 40 = .ok (.getfield 15, 3) := by decide +kernel
theorem dX7_book_43 : decode cX7_book 43 = .ok (.iload_n 1, 1) := by decide +kernel
theorem dX7_book_44 : decode cX7_book 44 = .ok (.iload_n 2, 1) := by decide +kernel
theorem dX7_book_45 : decode cX7_book 45 = .ok (.iload_n 3, 1) := by decide +kernel
theorem dX7_book_46 : decode cX7_book 46 = .ok (.iload 4, 2) := by decide +kernel
theorem dX7_book_48 : decode cX7_book 48 = .ok (.iload 5, 2) := by decide +kernel
theorem dX7_book_50 : decode cX7_book 50 = .ok (.invokevirtual 177, 3) := by decide +kernel
theorem dX7_book_53 : decode cX7_book 53 = .ok (.ireturn, 1) := by decide +kernel
theorem dX7_cost_0 : decode cX7_cost 0 = .ok (.aload_n 0, 1) := by decide +kernel
theorem dX7_cost_1 : decode cX7_cost 1 = .ok (.iload_n 1, 1) := by decide +kernel
theorem dX7_cost_2 : decode cX7_cost 2 = .ok (.invokevirtual 180, 3) := by decide +kernel
theorem dX7_cost_5 : decode cX7_cost 5 = .ok (.iload_n 2, 1) := by decide +kernel
theorem dX7_cost_6 : decode cX7_cost 6 = .ok (.iconst 0, 1) := by decide +kernel
theorem dX7_cost_7 : decode cX7_cost 7 = .ok (.iconst 5, 1) := by decide +kernel
theorem dX7_cost_8 : decode cX7_cost 8 = .ok (.invokestatic 55, 3) := by decide +kernel
theorem dX7_cost_11 : decode cX7_cost 11 = .ok (.ifCond .ne 13, 3) := by decide +kernel
theorem dX7_cost_14 : decode cX7_cost 14 = .ok (.new 62, 3) := by decide +kernel
theorem dX7_cost_17 : decode cX7_cost 17 = .ok (.dup, 1) := by decide +kernel
theorem dX7_cost_18 : decode cX7_cost 18 = .ok (.ldc 185, 2) := by decide +kernel
theorem dX7_cost_20 : decode cX7_cost 20 = .ok (.invokespecial 66, 3) := by decide +kernel
theorem dX7_cost_23 : decode cX7_cost 23 = .ok (.athrow, 1) := by decide +kernel
theorem dX7_cost_24 : decode cX7_cost 24 = .ok (.aload_n 0, 1) := by decide +kernel
theorem dX7_cost_25 : decode cX7_cost 25 = .ok (.getfield 15, 3) := by decide +kernel
theorem dX7_cost_28 : decode cX7_cost 28 = .ok (.getfield 187, 3) := by decide +kernel
theorem dX7_cost_31 : decode cX7_cost 31 = .ok (.iload_n 1, 1) := by decide +kernel
theorem dX7_cost_32 : decode cX7_cost 32 = .ok (.iload_n 2, 1) := by decide +kernel
theorem dX7_cost_33 : decode cX7_cost 33 = .ok (.invokevirtual 191, 3) := by decide +kernel
theorem dX7_cost_36 : decode cX7_cost 36 = .ok (.ireturn, 1) := by decide +kernel
theorem dX7_part_0 : decode cX7_part 0 = .ok (.aload_n 0, 1) := by decide +kernel
theorem dX7_part_1 : decode cX7_part 1 = .ok (.iload_n 1, 1) := by decide +kernel
theorem dX7_part_2 : decode cX7_part 2 = .ok (.invokevirtual 180, 3) := by decide +kernel
theorem dX7_part_5 : decode cX7_part 5 = .ok (.aload_n 0, 1) := by decide +kernel
theorem dX7_part_6 : decode cX7_part 6 = .ok (.iload_n 2, 1) := by decide +kernel
theorem dX7_part_7 : decode cX7_part 7 = .ok (.invokevirtual 91, 3) := by decide +kernel
theorem dX7_part_10 : decode cX7_part 10 = .ok (.aload_n 0, 1) := by decide +kernel
theorem dX7_part_11 : decode cX7_part 11 = .ok (.getfield 15, 3) := by decide +kernel
theorem dX7_part_14 : decode cX7_part 14 = .ok (.getfield 187, 3) := by decide +kernel
theorem dX7_part_17 : decode cX7_part 17 = .ok (.iload_n 1, 1) := by decide +kernel
theorem dX7_part_18 : decode cX7_part 18 = .ok (.iload_n 2, 1) := by decide +kernel
theorem dX7_part_19 : decode cX7_part 19 = .ok (.invokevirtual 194, 3) := by decide +kernel
theorem dX7_part_22 : decode cX7_part 22 = .ok (.ireturn, 1) := by decide +kernel
theorem dX7_wouldPay_0 : decode cX7_wouldPay 0 = .ok (.aload_n 0, 1) := by decide +kernel
theorem dX7_wouldPay_1 : decode cX7_wouldPay 1 = .ok (.iload 4, 2) := by decide +kernel
theorem dX7_wouldPay_3 : decode cX7_wouldPay 3 = .ok (.invokevirtual 91, 3) := by decide +kernel
theorem dX7_wouldPay_6 : decode cX7_wouldPay 6 = .ok (.iload_n 1, 1) := by decide +kernel
theorem dX7_wouldPay_7 : decode cX7_wouldPay 7 = .ok (.iconst 4, 1) := by decide +kernel
theorem dX7_wouldPay_8 : decode cX7_wouldPay 8 = .ok (.iload_n 2, 1) := by decide +kernel
theorem dX7_wouldPay_9 : decode cX7_wouldPay 9 = .ok (.invokestatic 166, 3) := by decide +kernel
theorem dX7_wouldPay_12 : decode cX7_wouldPay 12 = .ok (.iload_n 3, 1) := by decide +kernel
theorem dX7_wouldPay_13 : decode cX7_wouldPay 13 = .ok (.iconst 1, 1) := by decide +kernel
theorem dX7_wouldPay_14 : decode cX7_wouldPay 14 = .ok (.ldc 197, 2) := by decide +kernel
theorem dX7_wouldPay_16 : decode cX7_wouldPay 16 = .ok (.invokestatic 55, 3) := by decide +kernel
theorem dX7_wouldPay_19 : decode cX7_wouldPay 19 = .ok (.ifCond .ne 13, 3) := by decide +kernel
theorem dX7_wouldPay_22 : decode cX7_wouldPay 22 = .ok (.new 62, 3) := by decide +kernel
theorem dX7_wouldPay_25 : decode cX7_wouldPay 25 = .ok (.dup, 1) := by decide +kernel
theorem dX7_wouldPay_26 : decode cX7_wouldPay 26 = .ok (.ldc 198, 2) := by decide +kernel
theorem dX7_wouldPay_28 : decode cX7_wouldPay 28 = .ok (.invokespecial 66, 3) := by decide +kernel
theorem dX7_wouldPay_31 : decode cX7_wouldPay 31 = .ok (.athrow, 1) := by decide +kernel
theorem dX7_wouldPay_32 : decode cX7_wouldPay 32 = .ok (.aload_n 0, 1) := by decide +kernel
theorem dX7_wouldPay_33 : decode cX7_wouldPay 33 = .ok (.getfield 15, 3) := by decide +kernel
theorem dX7_wouldPay_36 : decode cX7_wouldPay 36 = .ok (.getfield 69, 3) := by decide +kernel
theorem dX7_wouldPay_39 : decode cX7_wouldPay 39 = .ok (.iload_n 1, 1) := by decide +kernel
theorem dX7_wouldPay_40 : decode cX7_wouldPay 40 = .ok (.iload_n 2, 1) := by decide +kernel
theorem dX7_wouldPay_41 : decode cX7_wouldPay 41 = .ok (.invokevirtual 200, 3) := by decide +kernel
theorem dX7_wouldPay_44 : decode cX7_wouldPay 44 = .ok (.ifCond .ne 13, 3) := by decide +kernel
theorem dX7_wouldPay_47 : decode cX7_wouldPay 47 = .ok (.new 145, 3) := by decide +kernel
theorem dX7_wouldPay_50 : decode cX7_wouldPay 50 = .ok (.dup, 1) := by decide +kernel
theorem dX7_wouldPay_51 : decode cX7_wouldPay 51 = .ok (.ldc 203, 2) := by decide +kernel
theorem dX7_wouldPay_53 : decode cX7_wouldPay 53 = .ok (.invokespecial 149, 3) := by decide +kernel
theorem dX7_wouldPay_56 : decode cX7_wouldPay 56 = .ok (.athrow, 1) := by decide +kernel
theorem dX7_wouldPay_57 : decode cX7_wouldPay 57 = .ok (.aload_n 0, 1) := by decide +kernel
theorem dX7_wouldPay_58 : decode cX7_wouldPay 58 = .ok (.getfield 15, 3) := by decide +kernel
theorem dX7_wouldPay_61 : decode cX7_wouldPay 61 = .ok (.iload_n 1, 1) := by decide +kernel
theorem dX7_wouldPay_62 : decode cX7_wouldPay 62 = .ok (.iload_n 2, 1) := by decide +kernel
theorem dX7_wouldPay_63 : decode cX7_wouldPay 63 = .ok (.iload_n 3, 1) := by decide +kernel
theorem dX7_wouldPay_64 : decode cX7_wouldPay 64 = .ok (.iload 4, 2) := by decide +kernel
theorem dX7_wouldPay_66 : decode cX7_wouldPay 66 = .ok (.invokevirtual 205, 3) := by decide +kernel
theorem dX7_wouldPay_69 : decode cX7_wouldPay 69 = .ok (.ireturn, 1) := by decide +kernel
theorem dX7_fund_0 : decode cX7_fund 0 = .ok (.iload_n 1, 1) := by decide +kernel
theorem dX7_fund_1 : decode cX7_fund 1 = .ok (.invokestatic 170, 3) := by decide +kernel
theorem dX7_fund_4 : decode cX7_fund 4 = .ok (.aload_n 0, 1) := by decide +kernel
theorem dX7_fund_5 : decode cX7_fund 5 = .ok (.aload_n 0, 1) := by decide +kernel
theorem dX7_fund_6 : decode cX7_fund 6 = .ok (.getfield 15, 3) := by decide +kernel
theorem dX7_fund_9 : decode cX7_fund 9 = .ok (.iconst 0, 1) := by decide +kernel
theorem dX7_fund_10 : decode cX7_fund 10 = .ok (.iconst 0, 1) := by decide +kernel
theorem dX7_fund_11 : decode cX7_fund 11 = .ok (.iload_n 2, 1) := by decide +kernel
theorem dX7_fund_12 : decode cX7_fund 12 = .ok (.invokevirtual 208, 3) := by decide +kernel
theorem dX7_fund_15 : decode cX7_fund 15 = .ok (.invokevirtual 163, 3) := by decide +kernel
theorem dX7_fund_18 : decode cX7_fund 18 = .ok (.aload_n 0, 1) := by decide +kernel
theorem dX7_fund_19 : decode cX7_fund 19 = .ok (.aload_n 0, 1) := by decide +kernel
theorem dX7_fund_20 : decode cX7_fund 20 = .ok (.getfield 15, 3) := by decide +kernel
theorem dX7_fund_23 : decode cX7_fund 23 = .ok (.iconst 0, 1) := by decide +kernel
theorem dX7_fund_24 : decode cX7_fund 24 = .ok (.iconst 0, 1) := by decide +kernel
theorem dX7_fund_25 : decode cX7_fund 25 = .ok (.iload_n 1, 1) := by decide +kernel
theorem dX7_fund_26 : decode cX7_fund 26 = .ok (.iload_n 2, 1) := by decide +kernel
theorem dX7_fund_27 : decode cX7_fund 27 = .ok (.invokevirtual 212, 3) := by decide +kernel
theorem dX7_fund_30 : decode cX7_fund 30 = .ok (.invokevirtual 163, 3) := by decide +kernel
theorem dX7_fund_33 : decode cX7_fund 33 = .ok (.aload_n 0, 1) := by decide +kernel
theorem dX7_fund_34 : decode cX7_fund 34 = .ok (.getfield 30, 3) := by decide +kernel
theorem dX7_fund_37 : decode cX7_fund 37 = .ok (.aload_n 0, 1) := by decide +kernel
theorem dX7_fund_38 : decode cX7_fund 38 = .ok (.getfield 15, 3) := by decide +kernel
theorem dX7_fund_41 : decode cX7_fund 41 = .ok (.invokevirtual 83, 3) := by decide +kernel
theorem dX7_fund_44 : decode cX7_fund 44 = .ok (.aload_n 0, 1) := by decide +kernel
theorem dX7_fund_45 : decode cX7_fund 45 = .ok (.getfield 15, 3) := by decide +kernel
theorem dX7_fund_48 : decode cX7_fund 48 = .ok (.iconst 0, 1) := by decide +kernel
theorem dX7_fund_49 : decode cX7_fund 49 = .ok (.iconst 0, 1) := by decide +kernel
theorem dX7_fund_50 : decode cX7_fund 50 = .ok (.iload_n 1, 1) := by decide +kernel
theorem dX7_fund_51 : decode cX7_fund 51 = .ok (.iload_n 2, 1) := by decide +kernel
theorem dX7_fund_52 : decode cX7_fund 52 = .ok (.invokevirtual 215, 3) := by decide +kernel
theorem dX7_fund_55 : decode cX7_fund 55 = .ok (.aload_n 0, 1) := by decide +kernel
theorem dX7_fund_56 : decode cX7_fund 56 = .ok (.getfield 15, 3) := by decide +kernel
theorem dX7_fund_59 : decode cX7_fund 59 = .ok (.getfield 219, 3) := by decide +kernel
theorem dX7_fund_62 : decode cX7_fund 62 = .ok (.iload_n 1, 1) := by decide +kernel
theorem dX7_fund_63 : decode cX7_fund 63 = .ok (.iaload, 1) := by decide +kernel
theorem dX7_fund_64 : decode cX7_fund 64 = .ok (.ireturn, 1) := by decide +kernel
theorem dX7_balance_0 : decode cX7_balance 0 = .ok (.iload_n 1, 1) := by decide +kernel
theorem dX7_balance_1 : decode cX7_balance 1 = .ok (.invokestatic 170, 3) := by decide +kernel
theorem dX7_balance_4 : decode cX7_balance 4 = .ok (.aload_n 0, 1) := by decide +kernel
theorem dX7_balance_5 : decode cX7_balance 5 = .ok (.getfield 15, 3) := by decide +kernel
theorem dX7_balance_8 : decode cX7_balance 8 = .ok (.getfield 219, 3) := by decide +kernel
theorem dX7_balance_11 : decode cX7_balance 11 = .ok (.iload_n 1, 1) := by decide +kernel
theorem dX7_balance_12 : decode cX7_balance 12 = .ok (.iaload, 1) := by decide +kernel
theorem dX7_balance_13 : decode cX7_balance 13 = .ok (.ireturn, 1) := by decide +kernel
theorem dX7_refusal_0 : decode cX7_refusal 0 = .ok (.aload_n 0, 1) := by decide +kernel
theorem dX7_refusal_1 : decode cX7_refusal 1 = .ok (.getfield 45, 3) := by decide +kernel
theorem dX7_refusal_4 : decode cX7_refusal 4 = .ok (.ifCond .ne 13, 3) := by decide +kernel
theorem dX7_refusal_7 : decode cX7_refusal 7 = .ok (.new 145, 3) := by decide +kernel
theorem dX7_refusal_10 : decode cX7_refusal 10 = .ok (.dup, 1) := by decide +kernel
theorem dX7_refusal_11 : decode cX7_refusal 11 = .ok (.ldc 222, 2) := by decide +kernel
theorem dX7_refusal_13 : decode cX7_refusal 13 = .ok (.invokespecial 149, 3) := by decide +kernel
theorem dX7_refusal_16 : decode cX7_refusal 16 = .ok (.athrow, 1) := by decide +kernel
theorem dX7_refusal_17 : decode cX7_refusal 17 = .ok (.aload_n 0, 1) := by decide +kernel
theorem dX7_refusal_18 : decode cX7_refusal 18 = .ok (.getfield 45, 3) := by decide +kernel
theorem dX7_refusal_21 : decode cX7_refusal 21 = .ok (.ireturn, 1) := by decide +kernel
theorem dX7_move_0 : decode cX7_move 0 = .ok (.iload_n 1, 1) := by decide +kernel
theorem dX7_move_1 : decode cX7_move 1 = .ok (.iconst 3, 1) := by decide +kernel
theorem dX7_move_2 : decode cX7_move 2 = .ok (.iload_n 2, 1) := by decide +kernel
theorem dX7_move_3 : decode cX7_move 3 = .ok (.invokestatic 166, 3) := by decide +kernel
theorem dX7_move_6 : decode cX7_move 6 = .ok (.iload_n 3, 1) := by decide +kernel
theorem dX7_move_7 : decode cX7_move 7 = .ok (.invokestatic 170, 3) := by decide +kernel
theorem dX7_move_10 : decode cX7_move 10 = .ok (.aload_n 0, 1) := by decide +kernel
theorem dX7_move_11 : decode cX7_move 11 = .ok (.aload_n 0, 1) := by decide +kernel
theorem dX7_move_12 : decode cX7_move 12 = .ok (.getfield 15, 3) := by decide +kernel
theorem dX7_move_15 : decode cX7_move 15 = .ok (.iload_n 1, 1) := by decide +kernel
theorem dX7_move_16 : decode cX7_move 16 = .ok (.iload_n 2, 1) := by decide +kernel
theorem dX7_move_17 : decode cX7_move 17 = .ok (.iload 4, 2) := by decide +kernel
theorem dX7_move_19 : decode cX7_move 19 = .ok (.invokevirtual 208, 3) := by decide +kernel
theorem dX7_move_22 : decode cX7_move 22 = .ok (.invokevirtual 163, 3) := by decide +kernel
theorem dX7_move_25 : decode cX7_move 25 = .ok (.aload_n 0, 1) := by decide +kernel
theorem dX7_move_26 : decode cX7_move 26 = .ok (.aload_n 0, 1) := by decide +kernel
theorem dX7_move_27 : decode cX7_move 27 = .ok (.getfield 15, 3) := by decide +kernel
theorem dX7_move_30 : decode cX7_move 30 = .ok (.getfield 224, 3) := by decide +kernel
theorem dX7_move_33 : decode cX7_move 33 = .ok (.getfield 228, 3) := by decide +kernel
theorem dX7_move_36 : decode cX7_move 36 = .ok (.bipush 8, 2) := by decide +kernel
theorem dX7_move_38 : decode cX7_move 38 = .ok (.if_icmp .lt 7, 3) := by decide +kernel
theorem dX7_move_41 : decode cX7_move 41 = .ok (.iconst 4, 1) := by decide +kernel
theorem dX7_move_42 : decode cX7_move 42 = .ok (.goto 4, 3) := by decide +kernel
theorem dX7_move_45 : decode cX7_move 45 = .ok (.iconst 0, 1) := by decide +kernel
theorem dX7_move_46 : decode cX7_move 46 = .ok (.invokevirtual 163, 3) := by decide +kernel
theorem dX7_move_49 : decode cX7_move 49 = .ok (.aload_n 0, 1) := by decide +kernel
theorem dX7_move_50 : decode cX7_move 50 = .ok (.getfield 30, 3) := by decide +kernel
theorem dX7_move_53 : decode cX7_move 53 = .ok (.aload_n 0, 1) := by decide +kernel
theorem dX7_move_54 : decode cX7_move 54 = .ok (.getfield 15, 3) := by decide +kernel
theorem dX7_move_57 : decode cX7_move 57 = .ok (.invokevirtual 83, 3) := by decide +kernel
theorem dX7_move_60 : decode cX7_move 60 = .ok (.aload_n 0, 1) := by decide +kernel
theorem dX7_move_61 : decode cX7_move 61 = .ok (.getfield 15, 3) := by decide +kernel
theorem dX7_move_64 : decode cX7_move 64 = .ok (.getfield 224, 3) := by decide +kernel
theorem dX7_move_67 : decode cX7_move 67 = .ok (.iload_n 1, 1) := by decide +kernel
theorem dX7_move_68 : decode cX7_move 68 = .ok (.iload_n 2, 1) := by decide +kernel
theorem dX7_move_69 : decode cX7_move 69 = .ok (.iload_n 3, 1) := by decide +kernel
theorem dX7_move_70 : decode cX7_move 70 = .ok (.iload 4, 2) := by decide +kernel
theorem dX7_move_72 : decode cX7_move 72 = .ok (.invokevirtual 231, 3) := by decide +kernel
theorem dX7_move_75 : decode cX7_move 75 = .ok (.ireturn, 1) := by decide +kernel
theorem dX7_vote_0 : decode cX7_vote 0 = .ok (.aload_n 0, 1) := by decide +kernel
theorem dX7_vote_1 : decode cX7_vote 1 = .ok (.iload_n 2, 1) := by decide +kernel
theorem dX7_vote_2 : decode cX7_vote 2 = .ok (.invokevirtual 91, 3) := by decide +kernel
theorem dX7_vote_5 : decode cX7_vote 5 = .ok (.iload_n 3, 1) := by decide +kernel
theorem dX7_vote_6 : decode cX7_vote 6 = .ok (.iconst (-1), 1) := by decide +kernel
theorem dX7_vote_7 : decode cX7_vote 7 = .ok (.iconst 1, 1) := by decide +kernel
theorem dX7_vote_8 : decode cX7_vote 8 = .ok (.invokestatic 55, 3) := by decide +kernel
theorem dX7_vote_11 : decode cX7_vote 11 = .ok (.ifCond .ne 13, 3) := by decide +kernel
theorem dX7_vote_14 : decode cX7_vote 14 = .ok (.new 62, 3) := by decide +kernel
theorem dX7_vote_17 : decode cX7_vote 17 = .ok (.dup, 1) := by decide +kernel
theorem dX7_vote_18 : decode cX7_vote 18 = .ok (.ldc 232, 2) := by decide +kernel
theorem dX7_vote_20 : decode cX7_vote 20 = .ok (.invokespecial 66, 3) := by decide +kernel
theorem dX7_vote_23 : decode cX7_vote 23 = .ok (.athrow, 1) := by decide +kernel
theorem dX7_vote_24 : decode cX7_vote 24 = .ok (.aload_n 0, 1) := by decide +kernel
theorem dX7_vote_25 : decode cX7_vote 25 = .ok (.aload_n 0, 1) := by decide +kernel
theorem dX7_vote_26 : decode cX7_vote 26 = .ok (.getfield 15, 3) := by decide +kernel
theorem dX7_vote_29 : decode cX7_vote 29 = .ok (.getfield 224, 3) := by decide +kernel
theorem dX7_vote_32 : decode cX7_vote 32 = .ok (.iload_n 1, 1) := by decide +kernel
theorem dX7_vote_33 : decode cX7_vote 33 = .ok (.invokevirtual 234, 3) := by decide +kernel
theorem dX7_vote_36 : decode cX7_vote 36 = .ok (.ifCond .eq 7, 3) := by decide +kernel
theorem dX7_vote_39 : decode cX7_vote 39 = .ok (.iconst 0, 1) := by decide +kernel
theorem dX7_vote_40 : decode cX7_vote 40 = .ok (.goto 4, 3) := by decide +kernel
theorem dX7_vote_43 : decode cX7_vote 43 = .ok (.iconst 3, 1) := by decide +kernel
theorem dX7_vote_44 : decode cX7_vote 44 = .ok (.invokevirtual 163, 3) := by decide +kernel
theorem dX7_vote_47 : decode cX7_vote 47 = .ok (.aload_n 0, 1) := by decide +kernel
theorem dX7_vote_48 : decode cX7_vote 48 = .ok (.getfield 30, 3) := by decide +kernel
theorem dX7_vote_51 : decode cX7_vote 51 = .ok (.aload_n 0, 1) := by decide +kernel
theorem dX7_vote_52 : decode cX7_vote 52 = .ok (.getfield 15, 3) := by decide +kernel
theorem dX7_vote_55 : decode cX7_vote 55 = .ok (.invokevirtual 83, 3) := by decide +kernel
theorem dX7_vote_58 : decode cX7_vote 58 = .ok (.aload_n 0, 1) := by decide +kernel
theorem dX7_vote_59 : decode cX7_vote 59 = .ok (.getfield 15, 3) := by decide +kernel
theorem dX7_vote_62 : decode cX7_vote 62 = .ok (.getfield 224, 3) := by decide +kernel
theorem dX7_vote_65 : decode cX7_vote 65 = .ok (.iload_n 1, 1) := by decide +kernel
theorem dX7_vote_66 : decode cX7_vote 66 = .ok (.iload_n 2, 1) := by decide +kernel
theorem dX7_vote_67 : decode cX7_vote 67 = .ok (.invokevirtual 237, 3) := by decide +kernel
theorem dX7_vote_70 : decode cX7_vote 70 = .ok (.istore 4, 2) := by decide +kernel
theorem dX7_vote_72 : decode cX7_vote 72 = .ok (.aload_n 0, 1) := by decide +kernel
theorem dX7_vote_73 : decode cX7_vote 73 = .ok (.getfield 15, 3) := by decide +kernel
theorem dX7_vote_76 : decode cX7_vote 76 = .ok (.getfield 224, 3) := by decide +kernel
theorem dX7_vote_79 : decode cX7_vote 79 = .ok (.iload_n 1, 1) := by decide +kernel
theorem dX7_vote_80 : decode cX7_vote 80 = .ok (.iload_n 2, 1) := by decide +kernel
theorem dX7_vote_81 : decode cX7_vote 81 = .ok (.iload_n 3, 1) := by decide +kernel
theorem dX7_vote_82 : decode cX7_vote 82 = .ok (.invokevirtual 240, 3) := by decide +kernel
theorem dX7_vote_85 : decode cX7_vote 85 = .ok (.iload 4, 2) := by decide +kernel
theorem dX7_vote_87 : decode cX7_vote 87 = .ok (.ireturn, 1) := by decide +kernel
theorem dX7_close_0 : decode cX7_close 0 = .ok (.aload_n 0, 1) := by decide +kernel
theorem dX7_close_1 : decode cX7_close 1 = .ok (.aload_n 0, 1) := by decide +kernel
theorem dX7_close_2 : decode cX7_close 2 = .ok (.getfield 15, 3) := by decide +kernel
theorem dX7_close_5 : decode cX7_close 5 = .ok (.getfield 224, 3) := by decide +kernel
theorem dX7_close_8 : decode cX7_close 8 = .ok (.iload_n 1, 1) := by decide +kernel
theorem dX7_close_9 : decode cX7_close 9 = .ok (.invokevirtual 234, 3) := by decide +kernel
theorem dX7_close_12 : decode cX7_close 12 = .ok (.ifCond .eq 7, 3) := by decide +kernel
theorem dX7_close_15 : decode cX7_close 15 = .ok (.iconst 0, 1) := by decide +kernel
theorem dX7_close_16 : decode cX7_close 16 = .ok (.goto 4, 3) := by decide +kernel
theorem dX7_close_19 : decode cX7_close 19 = .ok (.iconst 3, 1) := by decide +kernel
theorem dX7_close_20 : decode cX7_close 20 = .ok (.invokevirtual 163, 3) := by decide +kernel
theorem dX7_close_23 : decode cX7_close 23 = .ok (.aload_n 0, 1) := by decide +kernel
theorem dX7_close_24 : decode cX7_close 24 = .ok (.getfield 15, 3) := by decide +kernel
theorem dX7_close_27 : decode cX7_close 27 = .ok (.iload_n 1, 1) := by decide +kernel
theorem dX7_close_28 : decode cX7_close 28 = .ok (.iconst 0, 1) := by decide +kernel
theorem dX7_close_29 : decode cX7_close 29 = .ok (.invokevirtual 243, 3) := by decide +kernel
theorem dX7_close_32 : decode cX7_close 32 = .ok (.istore_n 2, 1) := by decide +kernel
theorem dX7_close_33 : decode cX7_close 33 = .ok (.iload_n 2, 1) := by decide +kernel
theorem dX7_close_34 : decode cX7_close 34 = .ok (.ifCond .eq 15, 3) := by decide +kernel
theorem dX7_close_37 : decode cX7_close 37 = .ok (.aload_n 0, 1) := by decide +kernel
theorem dX7_close_38 : decode cX7_close 38 = .ok (.aload_n 0, 1) := by decide +kernel
theorem dX7_close_39 : decode cX7_close 39 = .ok (.getfield 15, 3) := by decide +kernel
theorem dX7_close_42 : decode cX7_close 42 = .ok (.iload_n 1, 1) := by decide +kernel
theorem dX7_close_43 : decode cX7_close 43 = .ok (.invokevirtual 247, 3) := by decide +kernel
theorem dX7_close_46 : decode cX7_close 46 = .ok (.invokevirtual 163, 3) := by decide +kernel
theorem dX7_close_49 : decode cX7_close 49 = .ok (.aload_n 0, 1) := by decide +kernel
theorem dX7_close_50 : decode cX7_close 50 = .ok (.getfield 30, 3) := by decide +kernel
theorem dX7_close_53 : decode cX7_close 53 = .ok (.aload_n 0, 1) := by decide +kernel
theorem dX7_close_54 : decode cX7_close 54 = .ok (.getfield 15, 3) := by decide +kernel
theorem dX7_close_57 : decode cX7_close 57 = .ok (.invokevirtual 83, 3) := by decide +kernel
theorem dX7_close_60 : decode cX7_close 60 = .ok (.aload_n 0, 1) := by decide +kernel
theorem dX7_close_61 : decode cX7_close 61 = .ok (.getfield 15, 3) := by decide +kernel
theorem dX7_close_64 : decode cX7_close 64 = .ok (.iload_n 1, 1) := by decide +kernel
theorem dX7_close_65 : decode cX7_close 65 = .ok (.iload_n 2, 1) := by decide +kernel
theorem dX7_close_66 : decode cX7_close 66 = .ok (.invokevirtual 250, 3) := by decide +kernel
theorem dX7_close_69 : decode cX7_close 69 = .ok (.iload_n 2, 1) := by decide +kernel
theorem dX7_close_70 : decode cX7_close 70 = .ok (.ifCond .eq 7, 3) := by decide +kernel
theorem dX7_close_73 : decode cX7_close 73 = .ok (.iconst 1, 1) := by decide +kernel
theorem dX7_close_74 : decode cX7_close 74 = .ok (.goto 4, 3) := by decide +kernel
theorem dX7_close_77 : decode cX7_close 77 = .ok (.iconst 0, 1) := by decide +kernel
theorem dX7_close_78 : decode cX7_close 78 = .ok (.ireturn, 1) := by decide +kernel
theorem dX7_motion_0 : decode cX7_motion 0 = .ok (.aload_n 0, 1) := by decide +kernel
theorem dX7_motion_1 : decode cX7_motion 1 = .ok (.iload_n 1, 1) := by decide +kernel
theorem dX7_motion_2 : decode cX7_motion 2 = .ok (.invokevirtual 254, 3) := by decide +kernel
theorem dX7_motion_5 : decode cX7_motion 5 = .ok (.iload_n 2, 1) := by decide +kernel
theorem dX7_motion_6 : decode cX7_motion 6 = .ok (.tableswitch 180 0 9 #[54, 67, 80, 93, 106, 119, 130, 141, 152, 163], 54) := by decide +kernel
theorem dX7_motion_60 : decode cX7_motion 60 = .ok (.aload_n 0, 1) := by decide +kernel
theorem dX7_motion_61 : decode cX7_motion 61 = .ok (.getfield 15, 3) := by decide +kernel
theorem dX7_motion_64 : decode cX7_motion 64 = .ok (.getfield 224, 3) := by decide +kernel
theorem dX7_motion_67 : decode cX7_motion 67 = .ok (.iload_n 1, 1) := by decide +kernel
theorem dX7_motion_68 : decode cX7_motion 68 = .ok (.iconst 0, 1) := by decide +kernel
theorem dX7_motion_69 : decode cX7_motion 69 = .ok (.invokevirtual 257, 3) := by decide +kernel
theorem dX7_motion_72 : decode cX7_motion 72 = .ok (.ireturn, 1) := by decide +kernel
theorem dX7_motion_73 : decode cX7_motion 73 = .ok (.aload_n 0, 1) := by decide +kernel
theorem dX7_motion_74 : decode cX7_motion 74 = .ok (.getfield 15, 3) := by decide +kernel
theorem dX7_motion_77 : decode cX7_motion 77 = .ok (.getfield 224, 3) := by decide +kernel
theorem dX7_motion_80 : decode cX7_motion 80 = .ok (.iload_n 1, 1) := by decide +kernel
theorem dX7_motion_81 : decode cX7_motion 81 = .ok (.iconst 1, 1) := by decide +kernel
theorem dX7_motion_82 : decode cX7_motion 82 = .ok (.invokevirtual 257, 3) := by decide +kernel
theorem dX7_motion_85 : decode cX7_motion 85 = .ok (.ireturn, 1) := by decide +kernel
theorem dX7_motion_86 : decode cX7_motion 86 = .ok (.aload_n 0, 1) := by decide +kernel
theorem dX7_motion_87 : decode cX7_motion 87 = .ok (.getfield 15, 3) := by decide +kernel
theorem dX7_motion_90 : decode cX7_motion 90 = .ok (.getfield 224, 3) := by decide +kernel
theorem dX7_motion_93 : decode cX7_motion 93 = .ok (.iload_n 1, 1) := by decide +kernel
theorem dX7_motion_94 : decode cX7_motion 94 = .ok (.iconst 2, 1) := by decide +kernel
theorem dX7_motion_95 : decode cX7_motion 95 = .ok (.invokevirtual 257, 3) := by decide +kernel
theorem dX7_motion_98 : decode cX7_motion 98 = .ok (.ireturn, 1) := by decide +kernel
theorem dX7_motion_99 : decode cX7_motion 99 = .ok (.aload_n 0, 1) := by decide +kernel
theorem dX7_motion_100 : decode cX7_motion 100 = .ok (.getfield 15, 3) := by decide +kernel
theorem dX7_motion_103 : decode cX7_motion 103 = .ok (.getfield 224, 3) := by decide +kernel
theorem dX7_motion_106 : decode cX7_motion 106 = .ok (.iload_n 1, 1) := by decide +kernel
theorem dX7_motion_107 : decode cX7_motion 107 = .ok (.iconst 3, 1) := by decide +kernel
theorem dX7_motion_108 : decode cX7_motion 108 = .ok (.invokevirtual 257, 3) := by decide +kernel
theorem dX7_motion_111 : decode cX7_motion 111 = .ok (.ireturn, 1) := by decide +kernel
theorem dX7_motion_112 : decode cX7_motion 112 = .ok (.aload_n 0, 1) := by decide +kernel
theorem dX7_motion_113 : decode cX7_motion 113 = .ok (.getfield 15, 3) := by decide +kernel
theorem dX7_motion_116 : decode cX7_motion 116 = .ok (.getfield 224, 3) := by decide +kernel
theorem dX7_motion_119 : decode cX7_motion 119 = .ok (.iload_n 1, 1) := by decide +kernel
theorem dX7_motion_120 : decode cX7_motion 120 = .ok (.iconst 4, 1) := by decide +kernel
theorem dX7_motion_121 : decode cX7_motion 121 = .ok (.invokevirtual 257, 3) := by decide +kernel
theorem dX7_motion_124 : decode cX7_motion 124 = .ok (.ireturn, 1) := by decide +kernel
theorem dX7_motion_125 : decode cX7_motion 125 = .ok (.aload_n 0, 1) := by decide +kernel
theorem dX7_motion_126 : decode cX7_motion 126 = .ok (.getfield 15, 3) := by decide +kernel
theorem dX7_motion_129 : decode cX7_motion 129 = .ok (.iload_n 1, 1) := by decide +kernel
theorem dX7_motion_130 : decode cX7_motion 130 = .ok (.iconst 1, 1) := by decide +kernel
theorem dX7_motion_131 : decode cX7_motion 131 = .ok (.iconst 0, 1) := by decide +kernel
theorem dX7_motion_132 : decode cX7_motion 132 = .ok (.invokevirtual 258, 3) := by decide +kernel
theorem dX7_motion_135 : decode cX7_motion 135 = .ok (.ireturn, 1) := by decide +kernel
theorem dX7_motion_136 : decode cX7_motion 136 = .ok (.aload_n 0, 1) := by decide +kernel
theorem dX7_motion_137 : decode cX7_motion 137 = .ok (.getfield 15, 3) := by decide +kernel
theorem dX7_motion_140 : decode cX7_motion 140 = .ok (.iload_n 1, 1) := by decide +kernel
theorem dX7_motion_141 : decode cX7_motion 141 = .ok (.iconst (-1), 1) := by decide +kernel
theorem dX7_motion_142 : decode cX7_motion 142 = .ok (.iconst 0, 1) := by decide +kernel
theorem dX7_motion_143 : decode cX7_motion 143 = .ok (.invokevirtual 258, 3) := by decide +kernel
theorem dX7_motion_146 : decode cX7_motion 146 = .ok (.ireturn, 1) := by decide +kernel
theorem dX7_motion_147 : decode cX7_motion 147 = .ok (.aload_n 0, 1) := by decide +kernel
theorem dX7_motion_148 : decode cX7_motion 148 = .ok (.getfield 15, 3) := by decide +kernel
theorem dX7_motion_151 : decode cX7_motion 151 = .ok (.iload_n 1, 1) := by decide +kernel
theorem dX7_motion_152 : decode cX7_motion 152 = .ok (.iconst 1, 1) := by decide +kernel
theorem dX7_motion_153 : decode cX7_motion 153 = .ok (.iconst 0, 1) := by decide +kernel
theorem dX7_motion_154 : decode cX7_motion 154 = .ok (.invokevirtual 261, 3) := by decide +kernel
theorem dX7_motion_157 : decode cX7_motion 157 = .ok (.ireturn, 1) := by decide +kernel
theorem dX7_motion_158 : decode cX7_motion 158 = .ok (.aload_n 0, 1) := by decide +kernel
theorem dX7_motion_159 : decode cX7_motion 159 = .ok (.getfield 15, 3) := by decide +kernel
theorem dX7_motion_162 : decode cX7_motion 162 = .ok (.iload_n 1, 1) := by decide +kernel
theorem dX7_motion_163 : decode cX7_motion 163 = .ok (.iconst (-1), 1) := by decide +kernel
theorem dX7_motion_164 : decode cX7_motion 164 = .ok (.iconst 0, 1) := by decide +kernel
theorem dX7_motion_165 : decode cX7_motion 165 = .ok (.invokevirtual 261, 3) := by decide +kernel
theorem dX7_motion_168 : decode cX7_motion 168 = .ok (.ireturn, 1) := by decide +kernel
theorem dX7_motion_169 : decode cX7_motion 169 = .ok (.aload_n 0, 1) := by decide +kernel
theorem dX7_motion_170 : decode cX7_motion 170 = .ok (.getfield 15, 3) := by decide +kernel
theorem dX7_motion_173 : decode cX7_motion 173 = .ok (.iload_n 1, 1) := by decide +kernel
theorem dX7_motion_174 : decode cX7_motion 174 = .ok (.invokevirtual 264, 3) := by decide +kernel
theorem dX7_motion_177 : decode cX7_motion 177 = .ok (.ifCond .eq 7, 3) := by decide +kernel
theorem dX7_motion_180 : decode cX7_motion 180 = .ok (.iconst 1, 1) := by decide +kernel
theorem dX7_motion_181 : decode cX7_motion 181 = .ok (.goto 4, 3) := by decide +kernel
theorem dX7_motion_184 : decode cX7_motion 184 = .ok (.iconst 0, 1) := by decide +kernel
theorem dX7_motion_185 : decode cX7_motion 185 = .ok (.ireturn, 1) := by decide +kernel
theorem dX7_motion_186 : decode cX7_motion 186 = .ok (.new 62, 3) := by decide +kernel
theorem dX7_motion_189 : decode cX7_motion 189 = .ok (.dup, 1) := by decide +kernel
theorem dX7_motion_190 : decode cX7_motion 190 = .ok (.ldc_w 267, 3) := by decide +kernel
theorem dX7_motion_193 : decode cX7_motion 193 = .ok (.invokespecial 66, 3) := by decide +kernel
theorem dX7_motion_196 : decode cX7_motion 196 = .ok (.athrow, 1) := by decide +kernel
theorem dX7_voted_0 : decode cX7_voted 0 = .ok (.aload_n 0, 1) := by decide +kernel
theorem dX7_voted_1 : decode cX7_voted 1 = .ok (.iload_n 1, 1) := by decide +kernel
theorem dX7_voted_2 : decode cX7_voted 2 = .ok (.invokevirtual 254, 3) := by decide +kernel
theorem dX7_voted_5 : decode cX7_voted 5 = .ok (.aload_n 0, 1) := by decide +kernel
theorem dX7_voted_6 : decode cX7_voted 6 = .ok (.iload_n 2, 1) := by decide +kernel
theorem dX7_voted_7 : decode cX7_voted 7 = .ok (.invokevirtual 91, 3) := by decide +kernel
theorem dX7_voted_10 : decode cX7_voted 10 = .ok (.aload_n 0, 1) := by decide +kernel
theorem dX7_voted_11 : decode cX7_voted 11 = .ok (.getfield 15, 3) := by decide +kernel
theorem dX7_voted_14 : decode cX7_voted 14 = .ok (.getfield 224, 3) := by decide +kernel
theorem dX7_voted_17 : decode cX7_voted 17 = .ok (.iload_n 1, 1) := by decide +kernel
theorem dX7_voted_18 : decode cX7_voted 18 = .ok (.iload_n 2, 1) := by decide +kernel
theorem dX7_voted_19 : decode cX7_voted 19 = .ok (.invokevirtual 237, 3) := by decide +kernel
theorem dX7_voted_22 : decode cX7_voted 22 = .ok (.ireturn, 1) := by decide +kernel
theorem dX7_lacking_0 : decode cX7_lacking 0 = .ok (.aload_n 0, 1) := by decide +kernel
theorem dX7_lacking_1 : decode cX7_lacking 1 = .ok (.iload_n 1, 1) := by decide +kernel
theorem dX7_lacking_2 : decode cX7_lacking 2 = .ok (.invokevirtual 254, 3) := by decide +kernel
theorem dX7_lacking_5 : decode cX7_lacking 5 = .ok (.aload_n 0, 1) := by decide +kernel
theorem dX7_lacking_6 : decode cX7_lacking 6 = .ok (.getfield 15, 3) := by decide +kernel
theorem dX7_lacking_9 : decode cX7_lacking 9 = .ok (.getfield 224, 3) := by decide +kernel
theorem dX7_lacking_12 : decode cX7_lacking 12 = .ok (.iload_n 1, 1) := by decide +kernel
theorem dX7_lacking_13 : decode cX7_lacking 13 = .ok (.invokevirtual 234, 3) := by decide +kernel
theorem dX7_lacking_16 : decode cX7_lacking 16 = .ok (.ifCond .ne 14, 3) := by decide +kernel
theorem dX7_lacking_19 : decode cX7_lacking 19 = .ok (.new 78, 3) := by decide +kernel
theorem dX7_lacking_22 : decode cX7_lacking 22 = .ok (.dup, 1) := by decide +kernel
theorem dX7_lacking_23 : decode cX7_lacking 23 = .ok (.ldc_w 269, 3) := by decide +kernel
theorem dX7_lacking_26 : decode cX7_lacking 26 = .ok (.invokespecial 82, 3) := by decide +kernel
theorem dX7_lacking_29 : decode cX7_lacking 29 = .ok (.athrow, 1) := by decide +kernel
theorem dX7_lacking_30 : decode cX7_lacking 30 = .ok (.iconst 0, 1) := by decide +kernel
theorem dX7_lacking_31 : decode cX7_lacking 31 = .ok (.istore_n 2, 1) := by decide +kernel
theorem dX7_lacking_32 : decode cX7_lacking 32 = .ok (.iload_n 2, 1) := by decide +kernel
theorem dX7_lacking_33 : decode cX7_lacking 33 = .ok (.aload_n 0, 1) := by decide +kernel
theorem dX7_lacking_34 : decode cX7_lacking 34 = .ok (.getfield 15, 3) := by decide +kernel
theorem dX7_lacking_37 : decode cX7_lacking 37 = .ok (.getfield 69, 3) := by decide +kernel
theorem dX7_lacking_40 : decode cX7_lacking 40 = .ok (.getfield 73, 3) := by decide +kernel
theorem dX7_lacking_43 : decode cX7_lacking 43 = .ok (.if_icmp .gt 31, 3) := by decide +kernel
theorem dX7_lacking_46 : decode cX7_lacking 46 = .ok (.aload_n 0, 1) := by decide +kernel
theorem dX7_lacking_47 : decode cX7_lacking 47 = .ok (.getfield 15, 3) := by decide +kernel
theorem dX7_lacking_50 : decode cX7_lacking 50 = .ok (.iload_n 1, 1) := by decide +kernel
theorem dX7_lacking_51 : decode cX7_lacking 51 = .ok (.iload_n 2, 1) := by decide +kernel
theorem dX7_lacking_52 : decode cX7_lacking 52 = .ok (.invokevirtual 243, 3) := by decide +kernel
theorem dX7_lacking_55 : decode cX7_lacking 55 = .ok (.ifCond .eq 13, 3) := by decide +kernel
theorem dX7_lacking_58 : decode cX7_lacking 58 = .ok (.aload_n 0, 1) := by decide +kernel
theorem dX7_lacking_59 : decode cX7_lacking 59 = .ok (.getfield 15, 3) := by decide +kernel
theorem dX7_lacking_62 : decode cX7_lacking 62 = .ok (.iload_n 1, 1) := by decide +kernel
theorem dX7_lacking_63 : decode cX7_lacking 63 = .ok (.iload_n 2, 1) := by decide +kernel
theorem dX7_lacking_64 : decode cX7_lacking 64 = .ok (.invokevirtual 271, 3) := by decide +kernel
theorem dX7_lacking_67 : decode cX7_lacking 67 = .ok (.ireturn, 1) := by decide +kernel
theorem dX7_lacking_68 : decode cX7_lacking 68 = .ok (.iinc 2 1, 3) := by decide +kernel
theorem dX7_lacking_71 : decode cX7_lacking 71 = .ok (.goto (-39), 3) := by decide +kernel
theorem dX7_lacking_74 : decode cX7_lacking 74 = .ok (.new 145, 3) := by decide +kernel
theorem dX7_lacking_77 : decode cX7_lacking 77 = .ok (.dup, 1) := by decide +kernel
theorem dX7_lacking_78 : decode cX7_lacking 78 = .ok (.ldc_w 274, 3) := by decide +kernel
theorem dX7_lacking_81 : decode cX7_lacking 81 = .ok (.invokespecial 149, 3) := by decide +kernel
theorem dX7_lacking_84 : decode cX7_lacking 84 = .ok (.athrow, 1) := by decide +kernel
theorem dX7_append_0 : decode cX7_append 0 = .ok (.aload_n 0, 1) := by decide +kernel
theorem dX7_append_1 : decode cX7_append 1 = .ok (.getfield 37, 3) := by decide +kernel
theorem dX7_append_4 : decode cX7_append 4 = .ok (.getfield 276, 3) := by decide +kernel
theorem dX7_append_7 : decode cX7_append 7 = .ok (.bipush 60, 2) := by decide +kernel
theorem dX7_append_9 : decode cX7_append 9 = .ok (.if_icmp .lt 14, 3) := by decide +kernel
theorem dX7_append_12 : decode cX7_append 12 = .ok (.new 78, 3) := by decide +kernel
theorem dX7_append_15 : decode cX7_append 15 = .ok (.dup, 1) := by decide +kernel
theorem dX7_append_16 : decode cX7_append 16 = .ok (.ldc_w 279, 3) := by decide +kernel
theorem dX7_append_19 : decode cX7_append 19 = .ok (.invokespecial 82, 3) := by decide +kernel
theorem dX7_append_22 : decode cX7_append 22 = .ok (.athrow, 1) := by decide +kernel
theorem dX7_append_23 : decode cX7_append 23 = .ok (.aload_n 0, 1) := by decide +kernel
theorem dX7_append_24 : decode cX7_append 24 = .ok (.getfield 37, 3) := by decide +kernel
theorem dX7_append_27 : decode cX7_append 27 = .ok (.iload_n 1, 1) := by decide +kernel
theorem dX7_append_28 : decode cX7_append 28 = .ok (.invokevirtual 281, 3) := by decide +kernel
theorem dX7_append_31 : decode cX7_append 31 = .ok (.return_, 1) := by decide +kernel
theorem dX7_bookAll_0 : decode cX7_bookAll 0 = .ok (.aload_n 0, 1) := by decide +kernel
theorem dX7_bookAll_1 : decode cX7_bookAll 1 = .ok (.aload_n 0, 1) := by decide +kernel
theorem dX7_bookAll_2 : decode cX7_bookAll 2 = .ok (.getfield 37, 3) := by decide +kernel
theorem dX7_bookAll_5 : decode cX7_bookAll 5 = .ok (.invokevirtual 285, 3) := by decide +kernel
theorem dX7_bookAll_8 : decode cX7_bookAll 8 = .ok (.putfield 41, 3) := by decide +kernel
theorem dX7_bookAll_11 : decode cX7_bookAll 11 = .ok (.aload_n 0, 1) := by decide +kernel
theorem dX7_bookAll_12 : decode cX7_bookAll 12 = .ok (.getfield 41, 3) := by decide +kernel
theorem dX7_bookAll_15 : decode cX7_bookAll 15 = .ok (.iconst (-1), 1) := by decide +kernel
theorem dX7_bookAll_16 : decode cX7_bookAll 16 = .ok (.if_icmp .eq 21, 3) := by decide +kernel
theorem dX7_bookAll_19 : decode cX7_bookAll 19 = .ok (.aload_n 0, 1) := by decide +kernel
theorem dX7_bookAll_20 : decode cX7_bookAll 20 = .ok (.getfield 37, 3) := by decide +kernel
theorem dX7_bookAll_23 : decode cX7_bookAll 23 = .ok (.invokevirtual 288, 3) := by decide +kernel
theorem dX7_bookAll_26 : decode cX7_bookAll 26 = .ok (.new 62, 3) := by decide +kernel
theorem dX7_bookAll_29 : decode cX7_bookAll 29 = .ok (.dup, 1) := by decide +kernel
theorem dX7_bookAll_30 : decode cX7_bookAll 30 = .ok (.ldc_w 291, 3) := by decide +kernel
theorem dX7_bookAll_33 : decode cX7_bookAll 33 = .ok (.invokespecial 66, 3) := by decide +kernel
theorem dX7_bookAll_36 : decode cX7_bookAll 36 = .ok (.athrow, 1) := by decide +kernel
theorem dX7_bookAll_37 : decode cX7_bookAll 37 = .ok (.aload_n 0, 1) := by decide +kernel
theorem dX7_bookAll_38 : decode cX7_bookAll 38 = .ok (.getfield 21, 3) := by decide +kernel
theorem dX7_bookAll_41 : decode cX7_bookAll 41 = .ok (.aload_n 0, 1) := by decide +kernel
theorem dX7_bookAll_42 : decode cX7_bookAll 42 = .ok (.getfield 15, 3) := by decide +kernel
theorem dX7_bookAll_45 : decode cX7_bookAll 45 = .ok (.invokevirtual 293, 3) := by decide +kernel
theorem dX7_bookAll_48 : decode cX7_bookAll 48 = .ok (.iconst 0, 1) := by decide +kernel
theorem dX7_bookAll_49 : decode cX7_bookAll 49 = .ok (.istore_n 1, 1) := by decide +kernel
theorem dX7_bookAll_50 : decode cX7_bookAll 50 = .ok (.iconst 0, 1) := by decide +kernel
theorem dX7_bookAll_51 : decode cX7_bookAll 51 = .ok (.istore_n 2, 1) := by decide +kernel
theorem dX7_bookAll_52 : decode cX7_bookAll 52 = .ok (.aload_n 0, 1) := by decide +kernel
theorem dX7_bookAll_53 : decode cX7_bookAll 53 = .ok (.getfield 37, 3) := by decide +kernel
theorem dX7_bookAll_56 : decode cX7_bookAll 56 = .ok (.invokevirtual 296, 3) := by decide +kernel
theorem dX7_bookAll_59 : decode cX7_bookAll 59 = .ok (.iconst 0, 1) := by decide +kernel
theorem dX7_bookAll_60 : decode cX7_bookAll 60 = .ok (.istore_n 3, 1) := by decide +kernel
theorem dX7_bookAll_61 : decode cX7_bookAll 61 = .ok (.iload_n 3, 1) := by decide +kernel
theorem dX7_bookAll_62 : decode cX7_bookAll 62 = .ok (.bipush 60, 2) := by decide +kernel
theorem dX7_bookAll_64 : decode cX7_bookAll 64 = .ok (.if_icmp .ge 116, 3) := by decide +kernel
theorem dX7_bookAll_67 : decode cX7_bookAll 67 = .ok (.iload_n 2, 1) := by decide +kernel
theorem dX7_bookAll_68 : decode cX7_bookAll 68 = .ok (.ifCond .ne 112, 3) := by decide +kernel
theorem dX7_bookAll_71 : decode cX7_bookAll 71 = .ok (.aload_n 0, 1) := by decide +kernel
theorem dX7_bookAll_72 : decode cX7_bookAll 72 = .ok (.getfield 37, 3) := by decide +kernel
theorem dX7_bookAll_75 : decode cX7_bookAll 75 = .ok (.invokevirtual 299, 3) := by decide +kernel
theorem dX7_bookAll_78 : decode cX7_bookAll 78 = .ok (.ifCond .eq 102, 3) := by decide +kernel
theorem dX7_bookAll_81 : decode cX7_bookAll 81 = .ok (.aload_n 0, 1) := by decide +kernel
theorem dX7_bookAll_82 : decode cX7_bookAll 82 = .ok (.getfield 21, 3) := by decide +kernel
theorem dX7_bookAll_85 : decode cX7_bookAll 85 = .ok (.aload_n 0, 1) := by decide +kernel
theorem dX7_bookAll_86 : decode cX7_bookAll 86 = .ok (.getfield 37, 3) := by decide +kernel
theorem dX7_bookAll_89 : decode cX7_bookAll 89 = .ok (.getfield 303, 3) := by decide +kernel
theorem dX7_bookAll_92 : decode cX7_bookAll 92 = .ok (.aload_n 0, 1) := by decide +kernel
theorem dX7_bookAll_93 : decode cX7_bookAll 93 = .ok (.getfield 37, 3) := by decide +kernel
theorem dX7_bookAll_96 : decode cX7_bookAll 96 = .ok (.getfield 306, 3) := by decide +kernel
theorem dX7_bookAll_99 : decode cX7_bookAll 99 = .ok (.aload_n 0, 1) := by decide +kernel
theorem dX7_bookAll_100 : decode cX7_bookAll 100 = .ok (.getfield 37, 3) := by decide +kernel
theorem dX7_bookAll_103 : decode cX7_bookAll 103 = .ok (.getfield 309, 3) := by decide +kernel
theorem dX7_bookAll_106 : decode cX7_bookAll 106 = .ok (.aload_n 0, 1) := by decide +kernel
theorem dX7_bookAll_107 : decode cX7_bookAll 107 = .ok (.getfield 37, 3) := by decide +kernel
theorem dX7_bookAll_110 : decode cX7_bookAll 110 = .ok (.getfield 312, 3) := by decide +kernel
theorem dX7_bookAll_113 : decode cX7_bookAll 113 = .ok (.aload_n 0, 1) := by decide +kernel
theorem dX7_bookAll_114 : decode cX7_bookAll 114 = .ok (.getfield 37, 3) := by decide +kernel
theorem dX7_bookAll_117 : decode cX7_bookAll 117 = .ok (.getfield 315, 3) := by decide +kernel
theorem dX7_bookAll_120 : decode cX7_bookAll 120 = .ok (.invokevirtual 173, 3) := by decide +kernel
theorem dX7_bookAll_123 : decode cX7_bookAll 123 = .ok (.istore_n 2, 1) := by decide +kernel
theorem dX7_bookAll_124 : decode cX7_bookAll 124 = .ok (.iload_n 2, 1) := by decide +kernel
theorem dX7_bookAll_125 : decode cX7_bookAll 125 = .ok (.ifCond .ne 49, 3) := by decide +kernel
theorem dX7_bookAll_128 : decode cX7_bookAll 128 = .ok (.aload_n 0, 1) := by decide +kernel
theorem dX7_bookAll_129 : decode cX7_bookAll 129 = .ok (.getfield 21, 3) := by decide +kernel
theorem dX7_bookAll_132 : decode cX7_bookAll 132 = .ok (.aload_n 0, 1) := by decide +kernel
theorem dX7_bookAll_133 : decode cX7_bookAll 133 = .ok (.getfield 37, 3) := by decide +kernel
theorem dX7_bookAll_136 : decode cX7_bookAll 136 = .ok (.getfield 303, 3) := by decide +kernel
theorem dX7_bookAll_139 : decode cX7_bookAll 139 = .ok (.aload_n 0, 1) := by decide +kernel
theorem dX7_bookAll_140 : decode cX7_bookAll 140 = .ok (.getfield 37, 3) := by decide +kernel
theorem dX7_bookAll_143 : decode cX7_bookAll 143 = .ok (.getfield 306, 3) := by decide +kernel
theorem dX7_bookAll_146 : decode cX7_bookAll 146 = .ok (.aload_n 0, 1) := by decide +kernel
theorem dX7_bookAll_147 : decode cX7_bookAll 147 = .ok (.getfield 37, 3) := by decide +kernel
theorem dX7_bookAll_150 : decode cX7_bookAll 150 = .ok (.getfield 309, 3) := by decide +kernel
theorem dX7_bookAll_153 : decode cX7_bookAll 153 = .ok (.aload_n 0, 1) := by decide +kernel
theorem dX7_bookAll_154 : decode cX7_bookAll 154 = .ok (.getfield 37, 3) := by decide +kernel
theorem dX7_bookAll_157 : decode cX7_bookAll 157 = .ok (.getfield 312, 3) := by decide +kernel
theorem dX7_bookAll_160 : decode cX7_bookAll 160 = .ok (.aload_n 0, 1) := by decide +kernel
theorem dX7_bookAll_161 : decode cX7_bookAll 161 = .ok (.getfield 37, 3) := by decide +kernel
theorem dX7_bookAll_164 : decode cX7_bookAll 164 = .ok (.getfield 315, 3) := by decide +kernel
theorem dX7_bookAll_167 : decode cX7_bookAll 167 = .ok (.invokevirtual 177, 3) := by decide +kernel
theorem dX7_bookAll_170 : decode cX7_bookAll 170 = .ok (.pop, 1) := by decide +kernel
theorem dX7_bookAll_171 : decode cX7_bookAll 171 = .ok (.iinc 1 1, 3) := by decide +kernel
theorem dX7_bookAll_174 : decode cX7_bookAll 174 = .ok (.iinc 3 1, 3) := by decide +kernel
theorem dX7_bookAll_177 : decode cX7_bookAll 177 = .ok (.goto (-116), 3) := by decide +kernel
theorem dX7_bookAll_180 : decode cX7_bookAll 180 = .ok (.aload_n 0, 1) := by decide +kernel
theorem dX7_bookAll_181 : decode cX7_bookAll 181 = .ok (.getfield 37, 3) := by decide +kernel
theorem dX7_bookAll_184 : decode cX7_bookAll 184 = .ok (.invokevirtual 288, 3) := by decide +kernel
theorem dX7_bookAll_187 : decode cX7_bookAll 187 = .ok (.aload_n 0, 1) := by decide +kernel
theorem dX7_bookAll_188 : decode cX7_bookAll 188 = .ok (.iload_n 2, 1) := by decide +kernel
theorem dX7_bookAll_189 : decode cX7_bookAll 189 = .ok (.invokevirtual 163, 3) := by decide +kernel
theorem dX7_bookAll_192 : decode cX7_bookAll 192 = .ok (.aload_n 0, 1) := by decide +kernel
theorem dX7_bookAll_193 : decode cX7_bookAll 193 = .ok (.getfield 30, 3) := by decide +kernel
theorem dX7_bookAll_196 : decode cX7_bookAll 196 = .ok (.aload_n 0, 1) := by decide +kernel
theorem dX7_bookAll_197 : decode cX7_bookAll 197 = .ok (.getfield 15, 3) := by decide +kernel
theorem dX7_bookAll_200 : decode cX7_bookAll 200 = .ok (.invokevirtual 83, 3) := by decide +kernel
theorem dX7_bookAll_203 : decode cX7_bookAll 203 = .ok (.aload_n 0, 1) := by decide +kernel
theorem dX7_bookAll_204 : decode cX7_bookAll 204 = .ok (.getfield 15, 3) := by decide +kernel
theorem dX7_bookAll_207 : decode cX7_bookAll 207 = .ok (.aload_n 0, 1) := by decide +kernel
theorem dX7_bookAll_208 : decode cX7_bookAll 208 = .ok (.getfield 21, 3) := by decide +kernel
theorem dX7_bookAll_211 : decode cX7_bookAll 211 = .ok (.invokevirtual 293, 3) := by decide +kernel
theorem dX7_bookAll_214 : decode cX7_bookAll 214 = .ok (.iload_n 1, 1) := by decide +kernel
theorem dX7_bookAll_215 : decode cX7_bookAll 215 = .ok (.ireturn, 1) := by decide +kernel
theorem dX7_faultPosition_0 : decode cX7_faultPosition 0 = .ok (.aload_n 0, 1) := by decide +kernel
theorem dX7_faultPosition_1 : decode cX7_faultPosition 1 = .ok (.getfield 41, 3) := by decide +kernel
theorem dX7_faultPosition_4 : decode cX7_faultPosition 4 = .ok (.ireturn, 1) := by decide +kernel
theorem dX7_account_0 : decode cX7_account 0 = .ok (.iload_n 1, 1) := by decide +kernel
theorem dX7_account_1 : decode cX7_account 1 = .ok (.tableswitch 185 0 10 #[59, 70, 81, 92, 103, 114, 125, 147, 155, 166, 177], 59) := by decide +kernel
theorem dX7_account_60 : decode cX7_account 60 = .ok (.aload_n 0, 1) := by decide +kernel
theorem dX7_account_61 : decode cX7_account 61 = .ok (.getfield 15, 3) := by decide +kernel
theorem dX7_account_64 : decode cX7_account 64 = .ok (.getfield 69, 3) := by decide +kernel
theorem dX7_account_67 : decode cX7_account 67 = .ok (.getfield 73, 3) := by decide +kernel
theorem dX7_account_70 : decode cX7_account 70 = .ok (.ireturn, 1) := by decide +kernel
theorem dX7_account_71 : decode cX7_account 71 = .ok (.aload_n 0, 1) := by decide +kernel
theorem dX7_account_72 : decode cX7_account 72 = .ok (.getfield 15, 3) := by decide +kernel
theorem dX7_account_75 : decode cX7_account 75 = .ok (.getfield 69, 3) := by decide +kernel
theorem dX7_account_78 : decode cX7_account 78 = .ok (.invokevirtual 319, 3) := by decide +kernel
theorem dX7_account_81 : decode cX7_account 81 = .ok (.ireturn, 1) := by decide +kernel
theorem dX7_account_82 : decode cX7_account 82 = .ok (.aload_n 0, 1) := by decide +kernel
theorem dX7_account_83 : decode cX7_account 83 = .ok (.getfield 15, 3) := by decide +kernel
theorem dX7_account_86 : decode cX7_account 86 = .ok (.getfield 69, 3) := by decide +kernel
theorem dX7_account_89 : decode cX7_account 89 = .ok (.invokevirtual 322, 3) := by decide +kernel
theorem dX7_account_92 : decode cX7_account 92 = .ok (.ireturn, 1) := by decide +kernel
theorem dX7_account_93 : decode cX7_account 93 = .ok (.aload_n 0, 1) := by decide +kernel
theorem dX7_account_94 : decode cX7_account 94 = .ok (.getfield 15, 3) := by decide +kernel
theorem dX7_account_97 : decode cX7_account 97 = .ok (.getfield 187, 3) := by decide +kernel
theorem dX7_account_100 : decode cX7_account 100 = .ok (.getfield 325, 3) := by decide +kernel
theorem dX7_account_103 : decode cX7_account 103 = .ok (.ireturn, 1) := by decide +kernel
theorem dX7_account_104 : decode cX7_account 104 = .ok (.aload_n 0, 1) := by decide +kernel
theorem dX7_account_105 : decode cX7_account 105 = .ok (.getfield 15, 3) := by decide +kernel
theorem dX7_account_108 : decode cX7_account 108 = .ok (.getfield 224, 3) := by decide +kernel
theorem dX7_account_111 : decode cX7_account 111 = .ok (.getfield 228, 3) := by decide +kernel
theorem dX7_account_114 : decode cX7_account 114 = .ok (.ireturn, 1) := by decide +kernel
theorem dX7_account_115 : decode cX7_account 115 = .ok (.aload_n 0, 1) := by decide +kernel
theorem dX7_account_116 : decode cX7_account 116 = .ok (.getfield 15, 3) := by decide +kernel
theorem dX7_account_119 : decode cX7_account 119 = .ok (.getfield 224, 3) := by decide +kernel
theorem dX7_account_122 : decode cX7_account 122 = .ok (.invokevirtual 326, 3) := by decide +kernel
theorem dX7_account_125 : decode cX7_account 125 = .ok (.ireturn, 1) := by decide +kernel
theorem dX7_account_126 : decode cX7_account 126 = .ok (.aload_n 0, 1) := by decide +kernel
theorem dX7_account_127 : decode cX7_account 127 = .ok (.getfield 15, 3) := by decide +kernel
theorem dX7_account_130 : decode cX7_account 130 = .ok (.getfield 69, 3) := by decide +kernel
theorem dX7_account_133 : decode cX7_account 133 = .ok (.invokevirtual 329, 3) := by decide +kernel
theorem dX7_account_136 : decode cX7_account 136 = .ok (.aload_n 0, 1) := by decide +kernel
theorem dX7_account_137 : decode cX7_account 137 = .ok (.getfield 15, 3) := by decide +kernel
theorem dX7_account_140 : decode cX7_account 140 = .ok (.getfield 69, 3) := by decide +kernel
theorem dX7_account_143 : decode cX7_account 143 = .ok (.invokevirtual 332, 3) := by decide +kernel
theorem dX7_account_146 : decode cX7_account 146 = .ok (.isub, 1) := by decide +kernel
theorem dX7_account_147 : decode cX7_account 147 = .ok (.ireturn, 1) := by decide +kernel
theorem dX7_account_148 : decode cX7_account 148 = .ok (.aload_n 0, 1) := by decide +kernel
theorem dX7_account_149 : decode cX7_account 149 = .ok (.getfield 15, 3) := by decide +kernel
theorem dX7_account_152 : decode cX7_account 152 = .ok (.invokevirtual 335, 3) := by decide +kernel
theorem dX7_account_155 : decode cX7_account 155 = .ok (.ireturn, 1) := by decide +kernel
theorem dX7_account_156 : decode cX7_account 156 = .ok (.aload_n 0, 1) := by decide +kernel
theorem dX7_account_157 : decode cX7_account 157 = .ok (.getfield 15, 3) := by decide +kernel
theorem dX7_account_160 : decode cX7_account 160 = .ok (.getfield 69, 3) := by decide +kernel
theorem dX7_account_163 : decode cX7_account 163 = .ok (.invokevirtual 329, 3) := by decide +kernel
theorem dX7_account_166 : decode cX7_account 166 = .ok (.ireturn, 1) := by decide +kernel
theorem dX7_account_167 : decode cX7_account 167 = .ok (.aload_n 0, 1) := by decide +kernel
theorem dX7_account_168 : decode cX7_account 168 = .ok (.getfield 15, 3) := by decide +kernel
theorem dX7_account_171 : decode cX7_account 171 = .ok (.getfield 69, 3) := by decide +kernel
theorem dX7_account_174 : decode cX7_account 174 = .ok (.invokevirtual 332, 3) := by decide +kernel
theorem dX7_account_177 : decode cX7_account 177 = .ok (.ireturn, 1) := by decide +kernel
theorem dX7_account_178 : decode cX7_account 178 = .ok (.aload_n 0, 1) := by decide +kernel
theorem dX7_account_179 : decode cX7_account 179 = .ok (.getfield 15, 3) := by decide +kernel
theorem dX7_account_182 : decode cX7_account 182 = .ok (.getfield 338, 3) := by decide +kernel
theorem dX7_account_185 : decode cX7_account 185 = .ok (.ireturn, 1) := by decide +kernel
theorem dX7_account_186 : decode cX7_account 186 = .ok (.new 62, 3) := by decide +kernel
theorem dX7_account_189 : decode cX7_account 189 = .ok (.dup, 1) := by decide +kernel
theorem dX7_account_190 : decode cX7_account 190 = .ok (.ldc_w 341, 3) := by decide +kernel
theorem dX7_account_193 : decode cX7_account 193 = .ok (.invokespecial 66, 3) := by decide +kernel
theorem dX7_account_196 : decode cX7_account 196 = .ok (.athrow, 1) := by decide +kernel
theorem dX7_share_0 : decode cX7_share 0 = .ok (.aload_n 0, 1) := by decide +kernel
theorem dX7_share_1 : decode cX7_share 1 = .ok (.iload_n 1, 1) := by decide +kernel
theorem dX7_share_2 : decode cX7_share 2 = .ok (.invokevirtual 91, 3) := by decide +kernel
theorem dX7_share_5 : decode cX7_share 5 = .ok (.aload_n 0, 1) := by decide +kernel
theorem dX7_share_6 : decode cX7_share 6 = .ok (.getfield 15, 3) := by decide +kernel
theorem dX7_share_9 : decode cX7_share 9 = .ok (.getfield 69, 3) := by decide +kernel
theorem dX7_share_12 : decode cX7_share 12 = .ok (.getfield 128, 3) := by decide +kernel
theorem dX7_share_15 : decode cX7_share 15 = .ok (.iload_n 1, 1) := by decide +kernel
theorem dX7_share_16 : decode cX7_share 16 = .ok (.iaload, 1) := by decide +kernel
theorem dX7_share_17 : decode cX7_share 17 = .ok (.i2d, 1) := by decide +kernel
theorem dX7_share_18 : decode cX7_share 18 = .ok (.aload_n 0, 1) := by decide +kernel
theorem dX7_share_19 : decode cX7_share 19 = .ok (.getfield 15, 3) := by decide +kernel
theorem dX7_share_22 : decode cX7_share 22 = .ok (.getfield 69, 3) := by decide +kernel
theorem dX7_share_25 : decode cX7_share 25 = .ok (.invokevirtual 319, 3) := by decide +kernel
theorem dX7_share_28 : decode cX7_share 28 = .ok (.i2d, 1) := by decide +kernel
theorem dX7_share_29 : decode cX7_share 29 = .ok (.ddiv, 1) := by decide +kernel
theorem dX7_share_30 : decode cX7_share 30 = .ok (.dreturn, 1) := by decide +kernel
theorem dX7_undo_0 : decode cX7_undo 0 = .ok (.aload_n 0, 1) := by decide +kernel
theorem dX7_undo_1 : decode cX7_undo 1 = .ok (.getfield 30, 3) := by decide +kernel
theorem dX7_undo_4 : decode cX7_undo 4 = .ok (.getfield 343, 3) := by decide +kernel
theorem dX7_undo_7 : decode cX7_undo 7 = .ok (.ifCond .ne 14, 3) := by decide +kernel
theorem dX7_undo_10 : decode cX7_undo 10 = .ok (.new 78, 3) := by decide +kernel
theorem dX7_undo_13 : decode cX7_undo 13 = .ok (.dup, 1) := by decide +kernel
theorem dX7_undo_14 : decode cX7_undo 14 = .ok (.ldc_w 346, 3) := by decide +kernel
theorem dX7_undo_17 : decode cX7_undo 17 = .ok (.invokespecial 82, 3) := by decide +kernel
theorem dX7_undo_20 : decode cX7_undo 20 = .ok (.athrow, 1) := by decide +kernel
theorem dX7_undo_21 : decode cX7_undo 21 = .ok (.aload_n 0, 1) := by decide +kernel
theorem dX7_undo_22 : decode cX7_undo 22 = .ok (.getfield 30, 3) := by decide +kernel
theorem dX7_undo_25 : decode cX7_undo 25 = .ok (.aload_n 0, 1) := by decide +kernel
theorem dX7_undo_26 : decode cX7_undo 26 = .ok (.getfield 15, 3) := by decide +kernel
theorem dX7_undo_29 : decode cX7_undo 29 = .ok (.invokevirtual 348, 3) := by decide +kernel
theorem dX7_undo_32 : decode cX7_undo 32 = .ok (.aload_n 0, 1) := by decide +kernel
theorem dX7_undo_33 : decode cX7_undo 33 = .ok (.getfield 30, 3) := by decide +kernel
theorem dX7_undo_36 : decode cX7_undo 36 = .ok (.getfield 343, 3) := by decide +kernel
theorem dX7_undo_39 : decode cX7_undo 39 = .ok (.ireturn, 1) := by decide +kernel
theorem dX7_save_0 : decode cX7_save 0 = .ok (.aload_n 0, 1) := by decide +kernel
theorem dX7_save_1 : decode cX7_save 1 = .ok (.getfield 24, 3) := by decide +kernel
theorem dX7_save_4 : decode cX7_save 4 = .ok (.aload_n 0, 1) := by decide +kernel
theorem dX7_save_5 : decode cX7_save 5 = .ok (.getfield 15, 3) := by decide +kernel
theorem dX7_save_8 : decode cX7_save 8 = .ok (.invokevirtual 293, 3) := by decide +kernel
theorem dX7_save_11 : decode cX7_save 11 = .ok (.aload_n 0, 1) := by decide +kernel
theorem dX7_save_12 : decode cX7_save 12 = .ok (.iconst 1, 1) := by decide +kernel
theorem dX7_save_13 : decode cX7_save 13 = .ok (.putfield 351, 3) := by decide +kernel
theorem dX7_save_16 : decode cX7_save 16 = .ok (.return_, 1) := by decide +kernel
theorem dX7_restore_0 : decode cX7_restore 0 = .ok (.aload_n 0, 1) := by decide +kernel
theorem dX7_restore_1 : decode cX7_restore 1 = .ok (.getfield 351, 3) := by decide +kernel
theorem dX7_restore_4 : decode cX7_restore 4 = .ok (.ifCond .ne 14, 3) := by decide +kernel
theorem dX7_restore_7 : decode cX7_restore 7 = .ok (.new 78, 3) := by decide +kernel
theorem dX7_restore_10 : decode cX7_restore 10 = .ok (.dup, 1) := by decide +kernel
theorem dX7_restore_11 : decode cX7_restore 11 = .ok (.ldc_w 354, 3) := by decide +kernel
theorem dX7_restore_14 : decode cX7_restore 14 = .ok (.invokespecial 82, 3) := by decide +kernel
theorem dX7_restore_17 : decode cX7_restore 17 = .ok (.athrow, 1) := by decide +kernel
theorem dX7_restore_18 : decode cX7_restore 18 = .ok (.aload_n 0, 1) := by decide +kernel
theorem dX7_restore_19 : decode cX7_restore 19 = .ok (.getfield 15, 3) := by decide +kernel
theorem dX7_restore_22 : decode cX7_restore 22 = .ok (.aload_n 0, 1) := by decide +kernel
theorem dX7_restore_23 : decode cX7_restore 23 = .ok (.getfield 24, 3) := by decide +kernel
theorem dX7_restore_26 : decode cX7_restore 26 = .ok (.invokevirtual 293, 3) := by decide +kernel
theorem dX7_restore_29 : decode cX7_restore 29 = .ok (.aload_n 0, 1) := by decide +kernel
theorem dX7_restore_30 : decode cX7_restore 30 = .ok (.getfield 30, 3) := by decide +kernel
theorem dX7_restore_33 : decode cX7_restore 33 = .ok (.invokevirtual 356, 3) := by decide +kernel
theorem dX7_restore_36 : decode cX7_restore 36 = .ok (.return_, 1) := by decide +kernel
theorem dX7_isWithin_0 : decode cX7_isWithin 0 = .ok (.iload_n 0, 1) := by decide +kernel
theorem dX7_isWithin_1 : decode cX7_isWithin 1 = .ok (.iload_n 1, 1) := by decide +kernel
theorem dX7_isWithin_2 : decode cX7_isWithin 2 = .ok (.if_icmp .lt 12, 3) := by decide +kernel
theorem dX7_isWithin_5 : decode cX7_isWithin 5 = .ok (.iload_n 0, 1) := by decide +kernel
theorem dX7_isWithin_6 : decode cX7_isWithin 6 = .ok (.iload_n 2, 1) := by decide +kernel
theorem dX7_isWithin_7 : decode cX7_isWithin 7 = .ok (.if_icmp .gt 7, 3) := by decide +kernel
theorem dX7_isWithin_10 : decode cX7_isWithin 10 = .ok (.iconst 1, 1) := by decide +kernel
theorem dX7_isWithin_11 : decode cX7_isWithin 11 = .ok (.goto 4, 3) := by decide +kernel
theorem dX7_isWithin_14 : decode cX7_isWithin 14 = .ok (.iconst 0, 1) := by decide +kernel
theorem dX7_isWithin_15 : decode cX7_isWithin 15 = .ok (.ireturn, 1) := by decide +kernel
theorem dX7_isHouse_0 : decode cX7_isHouse 0 = .ok (.iload_n 0, 1) := by decide +kernel
theorem dX7_isHouse_1 : decode cX7_isHouse 1 = .ok (.iconst 0, 1) := by decide +kernel
theorem dX7_isHouse_2 : decode cX7_isHouse 2 = .ok (.iconst 2, 1) := by decide +kernel
theorem dX7_isHouse_3 : decode cX7_isHouse 3 = .ok (.invokestatic 55, 3) := by decide +kernel
theorem dX7_isHouse_6 : decode cX7_isHouse 6 = .ok (.ireturn, 1) := by decide +kernel
theorem dX7_isStair_0 : decode cX7_isStair 0 = .ok (.iload_n 0, 1) := by decide +kernel
theorem dX7_isStair_1 : decode cX7_isStair 1 = .ok (.iconst 0, 1) := by decide +kernel
theorem dX7_isStair_2 : decode cX7_isStair 2 = .ok (.iconst 2, 1) := by decide +kernel
theorem dX7_isStair_3 : decode cX7_isStair 3 = .ok (.invokestatic 55, 3) := by decide +kernel
theorem dX7_isStair_6 : decode cX7_isStair 6 = .ok (.ireturn, 1) := by decide +kernel
theorem dX7_isOwner_0 : decode cX7_isOwner 0 = .ok (.iload_n 0, 1) := by decide +kernel
theorem dX7_isOwner_1 : decode cX7_isOwner 1 = .ok (.iconst 0, 1) := by decide +kernel
theorem dX7_isOwner_2 : decode cX7_isOwner 2 = .ok (.bipush 7, 2) := by decide +kernel
theorem dX7_isOwner_4 : decode cX7_isOwner 4 = .ok (.invokestatic 55, 3) := by decide +kernel
theorem dX7_isOwner_7 : decode cX7_isOwner 7 = .ok (.ireturn, 1) := by decide +kernel
theorem dX7_isPlaceOf_0 : decode cX7_isPlaceOf 0 = .ok (.iload_n 0, 1) := by decide +kernel
theorem dX7_isPlaceOf_1 : decode cX7_isPlaceOf 1 = .ok (.lookupswitch 40 #[(1, 27), (2, 32)], 27) := by decide +kernel
theorem dX7_isPlaceOf_28 : decode cX7_isPlaceOf 28 = .ok (.iload_n 1, 1) := by decide +kernel
theorem dX7_isPlaceOf_29 : decode cX7_isPlaceOf 29 = .ok (.invokestatic 48, 3) := by decide +kernel
theorem dX7_isPlaceOf_32 : decode cX7_isPlaceOf 32 = .ok (.ireturn, 1) := by decide +kernel
theorem dX7_isPlaceOf_33 : decode cX7_isPlaceOf 33 = .ok (.iload_n 1, 1) := by decide +kernel
theorem dX7_isPlaceOf_34 : decode cX7_isPlaceOf 34 = .ok (.iconst 0, 1) := by decide +kernel
theorem dX7_isPlaceOf_35 : decode cX7_isPlaceOf 35 = .ok (.bipush 8, 2) := by decide +kernel
theorem dX7_isPlaceOf_37 : decode cX7_isPlaceOf 37 = .ok (.invokestatic 55, 3) := by decide +kernel
theorem dX7_isPlaceOf_40 : decode cX7_isPlaceOf 40 = .ok (.ireturn, 1) := by decide +kernel
theorem dX7_isPlaceOf_41 : decode cX7_isPlaceOf 41 = .ok (.iload_n 1, 1) := by decide +kernel
theorem dX7_isPlaceOf_42 : decode cX7_isPlaceOf 42 = .ok (.ifCond .ne 7, 3) := by decide +kernel
theorem dX7_isPlaceOf_45 : decode cX7_isPlaceOf 45 = .ok (.iconst 1, 1) := by decide +kernel
theorem dX7_isPlaceOf_46 : decode cX7_isPlaceOf 46 = .ok (.goto 4, 3) := by decide +kernel
theorem dX7_isPlaceOf_49 : decode cX7_isPlaceOf 49 = .ok (.iconst 0, 1) := by decide +kernel
theorem dX7_isPlaceOf_50 : decode cX7_isPlaceOf 50 = .ok (.ireturn, 1) := by decide +kernel
theorem dX7_checkOwner_0 : decode cX7_checkOwner 0 = .ok (.iload_n 0, 1) := by decide +kernel
theorem dX7_checkOwner_1 : decode cX7_checkOwner 1 = .ok (.invokestatic 59, 3) := by decide +kernel
theorem dX7_checkOwner_4 : decode cX7_checkOwner 4 = .ok (.ifCond .ne 14, 3) := by decide +kernel
theorem dX7_checkOwner_7 : decode cX7_checkOwner 7 = .ok (.new 62, 3) := by decide +kernel
theorem dX7_checkOwner_10 : decode cX7_checkOwner 10 = .ok (.dup, 1) := by decide +kernel
theorem dX7_checkOwner_11 : decode cX7_checkOwner 11 = .ok (.ldc_w 359, 3) := by decide +kernel
theorem dX7_checkOwner_14 : decode cX7_checkOwner 14 = .ok (.invokespecial 66, 3) := by decide +kernel
theorem dX7_checkOwner_17 : decode cX7_checkOwner 17 = .ok (.athrow, 1) := by decide +kernel
theorem dX7_checkOwner_18 : decode cX7_checkOwner 18 = .ok (.return_, 1) := by decide +kernel
theorem dX7_checkKindAndPlace_0 : decode cX7_checkKindAndPlace 0 = .ok (.iload_n 0, 1) := by decide +kernel
theorem dX7_checkKindAndPlace_1 : decode cX7_checkKindAndPlace 1 = .ok (.iconst 0, 1) := by decide +kernel
theorem dX7_checkKindAndPlace_2 : decode cX7_checkKindAndPlace 2 = .ok (.iload_n 1, 1) := by decide +kernel
theorem dX7_checkKindAndPlace_3 : decode cX7_checkKindAndPlace 3 = .ok (.invokestatic 55, 3) := by decide +kernel
theorem dX7_checkKindAndPlace_6 : decode cX7_checkKindAndPlace 6 = .ok (.ifCond .ne 14, 3) := by decide +kernel
theorem dX7_checkKindAndPlace_9 : decode cX7_checkKindAndPlace 9 = .ok (.new 62, 3) := by decide +kernel
theorem dX7_checkKindAndPlace_12 : decode cX7_checkKindAndPlace 12 = .ok (.dup, 1) := by decide +kernel
theorem dX7_checkKindAndPlace_13 : decode cX7_checkKindAndPlace 13 = .ok (.ldc_w 361, 3) := by decide +kernel
theorem dX7_checkKindAndPlace_16 : decode cX7_checkKindAndPlace 16 = .ok (.invokespecial 66, 3) := by decide +kernel
theorem dX7_checkKindAndPlace_19 : decode cX7_checkKindAndPlace 19 = .ok (.athrow, 1) := by decide +kernel
theorem dX7_checkKindAndPlace_20 : decode cX7_checkKindAndPlace 20 = .ok (.iload_n 0, 1) := by decide +kernel
theorem dX7_checkKindAndPlace_21 : decode cX7_checkKindAndPlace 21 = .ok (.iload_n 2, 1) := by decide +kernel
theorem dX7_checkKindAndPlace_22 : decode cX7_checkKindAndPlace 22 = .ok (.invokestatic 363, 3) := by decide +kernel
theorem dX7_checkKindAndPlace_25 : decode cX7_checkKindAndPlace 25 = .ok (.ifCond .ne 14, 3) := by decide +kernel
theorem dX7_checkKindAndPlace_28 : decode cX7_checkKindAndPlace 28 = .ok (.new 62, 3) := by decide +kernel
theorem dX7_checkKindAndPlace_31 : decode cX7_checkKindAndPlace 31 = .ok (.dup, 1) := by decide +kernel
theorem dX7_checkKindAndPlace_32 : decode cX7_checkKindAndPlace 32 = .ok (.ldc_w 366, 3) := by decide +kernel
theorem dX7_checkKindAndPlace_35 : decode cX7_checkKindAndPlace 35 = .ok (.invokespecial 66, 3) := by decide +kernel
theorem dX7_checkKindAndPlace_38 : decode cX7_checkKindAndPlace 38 = .ok (.athrow, 1) := by decide +kernel
theorem dX7_checkKindAndPlace_39 : decode cX7_checkKindAndPlace 39 = .ok (.return_, 1) := by decide +kernel
theorem dX7_checkPurpose_0 : decode cX7_checkPurpose 0 = .ok (.iload_n 0, 1) := by decide +kernel
theorem dX7_checkPurpose_1 : decode cX7_checkPurpose 1 = .ok (.iconst 0, 1) := by decide +kernel
theorem dX7_checkPurpose_2 : decode cX7_checkPurpose 2 = .ok (.iconst 4, 1) := by decide +kernel
theorem dX7_checkPurpose_3 : decode cX7_checkPurpose 3 = .ok (.invokestatic 55, 3) := by decide +kernel
theorem dX7_checkPurpose_6 : decode cX7_checkPurpose 6 = .ok (.ifCond .ne 14, 3) := by decide +kernel
theorem dX7_checkPurpose_9 : decode cX7_checkPurpose 9 = .ok (.new 62, 3) := by decide +kernel
theorem dX7_checkPurpose_12 : decode cX7_checkPurpose 12 = .ok (.dup, 1) := by decide +kernel
theorem dX7_checkPurpose_13 : decode cX7_checkPurpose 13 = .ok (.ldc_w 368, 3) := by decide +kernel
theorem dX7_checkPurpose_16 : decode cX7_checkPurpose 16 = .ok (.invokespecial 66, 3) := by decide +kernel
theorem dX7_checkPurpose_19 : decode cX7_checkPurpose 19 = .ok (.athrow, 1) := by decide +kernel
theorem dX7_checkPurpose_20 : decode cX7_checkPurpose 20 = .ok (.return_, 1) := by decide +kernel
theorem dX7_checkUnit_0 : decode cX7_checkUnit 0 = .ok (.iload_n 1, 1) := by decide +kernel
theorem dX7_checkUnit_1 : decode cX7_checkUnit 1 = .ok (.iconst 0, 1) := by decide +kernel
theorem dX7_checkUnit_2 : decode cX7_checkUnit 2 = .ok (.aload_n 0, 1) := by decide +kernel
theorem dX7_checkUnit_3 : decode cX7_checkUnit 3 = .ok (.getfield 15, 3) := by decide +kernel
theorem dX7_checkUnit_6 : decode cX7_checkUnit 6 = .ok (.getfield 69, 3) := by decide +kernel
theorem dX7_checkUnit_9 : decode cX7_checkUnit 9 = .ok (.getfield 73, 3) := by decide +kernel
theorem dX7_checkUnit_12 : decode cX7_checkUnit 12 = .ok (.iconst 1, 1) := by decide +kernel
theorem dX7_checkUnit_13 : decode cX7_checkUnit 13 = .ok (.isub, 1) := by decide +kernel
theorem dX7_checkUnit_14 : decode cX7_checkUnit 14 = .ok (.invokestatic 55, 3) := by decide +kernel
theorem dX7_checkUnit_17 : decode cX7_checkUnit 17 = .ok (.ifCond .ne 14, 3) := by decide +kernel
theorem dX7_checkUnit_20 : decode cX7_checkUnit 20 = .ok (.new 102, 3) := by decide +kernel
theorem dX7_checkUnit_23 : decode cX7_checkUnit 23 = .ok (.dup, 1) := by decide +kernel
theorem dX7_checkUnit_24 : decode cX7_checkUnit 24 = .ok (.ldc_w 370, 3) := by decide +kernel
theorem dX7_checkUnit_27 : decode cX7_checkUnit 27 = .ok (.invokespecial 106, 3) := by decide +kernel
theorem dX7_checkUnit_30 : decode cX7_checkUnit 30 = .ok (.athrow, 1) := by decide +kernel
theorem dX7_checkUnit_31 : decode cX7_checkUnit 31 = .ok (.return_, 1) := by decide +kernel
theorem dX7_checkCost_0 : decode cX7_checkCost 0 = .ok (.iload_n 1, 1) := by decide +kernel
theorem dX7_checkCost_1 : decode cX7_checkCost 1 = .ok (.iconst 0, 1) := by decide +kernel
theorem dX7_checkCost_2 : decode cX7_checkCost 2 = .ok (.aload_n 0, 1) := by decide +kernel
theorem dX7_checkCost_3 : decode cX7_checkCost 3 = .ok (.getfield 15, 3) := by decide +kernel
theorem dX7_checkCost_6 : decode cX7_checkCost 6 = .ok (.getfield 187, 3) := by decide +kernel
theorem dX7_checkCost_9 : decode cX7_checkCost 9 = .ok (.getfield 325, 3) := by decide +kernel
theorem dX7_checkCost_12 : decode cX7_checkCost 12 = .ok (.iconst 1, 1) := by decide +kernel
theorem dX7_checkCost_13 : decode cX7_checkCost 13 = .ok (.isub, 1) := by decide +kernel
theorem dX7_checkCost_14 : decode cX7_checkCost 14 = .ok (.invokestatic 55, 3) := by decide +kernel
theorem dX7_checkCost_17 : decode cX7_checkCost 17 = .ok (.ifCond .ne 14, 3) := by decide +kernel
theorem dX7_checkCost_20 : decode cX7_checkCost 20 = .ok (.new 102, 3) := by decide +kernel
theorem dX7_checkCost_23 : decode cX7_checkCost 23 = .ok (.dup, 1) := by decide +kernel
theorem dX7_checkCost_24 : decode cX7_checkCost 24 = .ok (.ldc_w 372, 3) := by decide +kernel
theorem dX7_checkCost_27 : decode cX7_checkCost 27 = .ok (.invokespecial 106, 3) := by decide +kernel
theorem dX7_checkCost_30 : decode cX7_checkCost 30 = .ok (.athrow, 1) := by decide +kernel
theorem dX7_checkCost_31 : decode cX7_checkCost 31 = .ok (.return_, 1) := by decide +kernel
theorem dX7_checkMotion_0 : decode cX7_checkMotion 0 = .ok (.aload_n 0, 1) := by decide +kernel
theorem dX7_checkMotion_1 : decode cX7_checkMotion 1 = .ok (.getfield 15, 3) := by decide +kernel
theorem dX7_checkMotion_4 : decode cX7_checkMotion 4 = .ok (.getfield 224, 3) := by decide +kernel
theorem dX7_checkMotion_7 : decode cX7_checkMotion 7 = .ok (.iload_n 1, 1) := by decide +kernel
theorem dX7_checkMotion_8 : decode cX7_checkMotion 8 = .ok (.invokevirtual 374, 3) := by decide +kernel
theorem dX7_checkMotion_11 : decode cX7_checkMotion 11 = .ok (.ifCond .ne 14, 3) := by decide +kernel
theorem dX7_checkMotion_14 : decode cX7_checkMotion 14 = .ok (.new 102, 3) := by decide +kernel
theorem dX7_checkMotion_17 : decode cX7_checkMotion 17 = .ok (.dup, 1) := by decide +kernel
theorem dX7_checkMotion_18 : decode cX7_checkMotion 18 = .ok (.ldc_w 377, 3) := by decide +kernel
theorem dX7_checkMotion_21 : decode cX7_checkMotion 21 = .ok (.invokespecial 106, 3) := by decide +kernel
theorem dX7_checkMotion_24 : decode cX7_checkMotion 24 = .ok (.athrow, 1) := by decide +kernel
theorem dX7_checkMotion_25 : decode cX7_checkMotion 25 = .ok (.return_, 1) := by decide +kernel
theorem dX7_refuseFor_0 : decode cX7_refuseFor 0 = .ok (.iload_n 1, 1) := by decide +kernel
theorem dX7_refuseFor_1 : decode cX7_refuseFor 1 = .ok (.ifCond .eq 19, 3) := by decide +kernel
theorem dX7_refuseFor_4 : decode cX7_refuseFor 4 = .ok (.aload_n 0, 1) := by decide +kernel
theorem dX7_refuseFor_5 : decode cX7_refuseFor 5 = .ok (.iload_n 1, 1) := by decide +kernel
theorem dX7_refuseFor_6 : decode cX7_refuseFor 6 = .ok (.putfield 45, 3) := by decide +kernel
theorem dX7_refuseFor_9 : decode cX7_refuseFor 9 = .ok (.new 379, 3) := by decide +kernel
theorem dX7_refuseFor_12 : decode cX7_refuseFor 12 = .ok (.dup, 1) := by decide +kernel
theorem dX7_refuseFor_13 : decode cX7_refuseFor 13 = .ok (.ldc_w 381, 3) := by decide +kernel
theorem dX7_refuseFor_16 : decode cX7_refuseFor 16 = .ok (.invokespecial 383, 3) := by decide +kernel
theorem dX7_refuseFor_19 : decode cX7_refuseFor 19 = .ok (.athrow, 1) := by decide +kernel
theorem dX7_refuseFor_20 : decode cX7_refuseFor 20 = .ok (.return_, 1) := by decide +kernel
theorem dX8_init_0 : decode cX8_init 0 = .ok (.aload_n 0, 1) := by decide +kernel
theorem dX8_init_1 : decode cX8_init 1 = .ok (.invokespecial 1, 3) := by decide +kernel
theorem dX8_init_4 : decode cX8_init 4 = .ok (.aload_n 0, 1) := by decide +kernel
theorem dX8_init_5 : decode cX8_init 5 = .ok (.sipush 603, 3) := by decide +kernel
theorem dX8_init_8 : decode cX8_init 8 = .ok (.newarray .int, 2) := by decide +kernel
theorem dX8_init_10 : decode cX8_init 10 = .ok (.putfield 7, 3) := by decide +kernel
theorem dX8_init_13 : decode cX8_init 13 = .ok (.aload_n 0, 1) := by decide +kernel
theorem dX8_init_14 : decode cX8_init 14 = .ok (.sipush 603, 3) := by decide +kernel
theorem dX8_init_17 : decode cX8_init 17 = .ok (.newarray .int, 2) := by decide +kernel
theorem dX8_init_19 : decode cX8_init 19 = .ok (.putfield 13, 3) := by decide +kernel
theorem dX8_init_22 : decode cX8_init 22 = .ok (.aload_n 0, 1) := by decide +kernel
theorem dX8_init_23 : decode cX8_init 23 = .ok (.sipush 603, 3) := by decide +kernel
theorem dX8_init_26 : decode cX8_init 26 = .ok (.newarray .int, 2) := by decide +kernel
theorem dX8_init_28 : decode cX8_init 28 = .ok (.putfield 16, 3) := by decide +kernel
theorem dX8_init_31 : decode cX8_init 31 = .ok (.aload_n 0, 1) := by decide +kernel
theorem dX8_init_32 : decode cX8_init 32 = .ok (.sipush 4824, 3) := by decide +kernel
theorem dX8_init_35 : decode cX8_init 35 = .ok (.newarray .int, 2) := by decide +kernel
theorem dX8_init_37 : decode cX8_init 37 = .ok (.putfield 19, 3) := by decide +kernel
theorem dX8_init_40 : decode cX8_init 40 = .ok (.aload_n 0, 1) := by decide +kernel
theorem dX8_init_41 : decode cX8_init 41 = .ok (.bipush 12, 2) := by decide +kernel
theorem dX8_init_43 : decode cX8_init 43 = .ok (.newarray .long, 2) := by decide +kernel
theorem dX8_init_45 : decode cX8_init 45 = .ok (.putfield 22, 3) := by decide +kernel
theorem dX8_init_48 : decode cX8_init 48 = .ok (.aload_n 0, 1) := by decide +kernel
theorem dX8_init_49 : decode cX8_init 49 = .ok (.bipush 12, 2) := by decide +kernel
theorem dX8_init_51 : decode cX8_init 51 = .ok (.newarray .int, 2) := by decide +kernel
theorem dX8_init_53 : decode cX8_init 53 = .ok (.putfield 26, 3) := by decide +kernel
theorem dX8_init_56 : decode cX8_init 56 = .ok (.aload_n 0, 1) := by decide +kernel
theorem dX8_init_57 : decode cX8_init 57 = .ok (.bipush 12, 2) := by decide +kernel
theorem dX8_init_59 : decode cX8_init 59 = .ok (.newarray .int, 2) := by decide +kernel
theorem dX8_init_61 : decode cX8_init 61 = .ok (.putfield 29, 3) := by decide +kernel
theorem dX8_init_64 : decode cX8_init 64 = .ok (.aload_n 0, 1) := by decide +kernel
theorem dX8_init_65 : decode cX8_init 65 = .ok (.bipush 60, 2) := by decide +kernel
theorem dX8_init_67 : decode cX8_init 67 = .ok (.newarray .int, 2) := by decide +kernel
theorem dX8_init_69 : decode cX8_init 69 = .ok (.putfield 32, 3) := by decide +kernel
theorem dX8_init_72 : decode cX8_init 72 = .ok (.aload_n 0, 1) := by decide +kernel
theorem dX8_init_73 : decode cX8_init 73 = .ok (.iconst (-1), 1) := by decide +kernel
theorem dX8_init_74 : decode cX8_init 74 = .ok (.putfield 35, 3) := by decide +kernel
theorem dX8_init_77 : decode cX8_init 77 = .ok (.aload_n 0, 1) := by decide +kernel
theorem dX8_init_78 : decode cX8_init 78 = .ok (.bipush 40, 2) := by decide +kernel
theorem dX8_init_80 : decode cX8_init 80 = .ok (.newarray .int, 2) := by decide +kernel
theorem dX8_init_82 : decode cX8_init 82 = .ok (.putfield 39, 3) := by decide +kernel
theorem dX8_init_85 : decode cX8_init 85 = .ok (.aload_n 0, 1) := by decide +kernel
theorem dX8_init_86 : decode cX8_init 86 = .ok (.getfield 7, 3) := by decide +kernel
theorem dX8_init_89 : decode cX8_init 89 = .ok (.iconst 0, 1) := by decide +kernel
theorem dX8_init_90 : decode cX8_init 90 = .ok (.bipush 30, 2) := by decide +kernel
theorem dX8_init_92 : decode cX8_init 92 = .ok (.iastore, 1) := by decide +kernel
theorem dX8_init_93 : decode cX8_init 93 = .ok (.aload_n 0, 1) := by decide +kernel
theorem dX8_init_94 : decode cX8_init 94 = .ok (.getfield 7, 3) := by decide +kernel
theorem dX8_init_97 : decode cX8_init 97 = .ok (.iconst 1, 1) := by decide +kernel
theorem dX8_init_98 : decode cX8_init 98 = .ok (.bipush 50, 2) := by decide +kernel
theorem dX8_init_100 : decode cX8_init 100 = .ok (.iastore, 1) := by decide +kernel
theorem dX8_init_101 : decode cX8_init 101 = .ok (.return_, 1) := by decide +kernel
theorem dX8_thrown_0 : decode cX8_thrown 0 = .ok (.aload_n 0, 1) := by decide +kernel
theorem dX8_thrown_1 : decode cX8_thrown 1 = .ok (.getfield 42, 3) := by decide +kernel
theorem dX8_thrown_4 : decode cX8_thrown 4 = .ok (.ireturn, 1) := by decide +kernel
theorem dX8_fails_0 : decode cX8_fails 0 = .ok (.aload_n 0, 1) := by decide +kernel
theorem dX8_fails_1 : decode cX8_fails 1 = .ok (.iload_n 1, 1) := by decide +kernel
theorem dX8_fails_2 : decode cX8_fails 2 = .ok (.putfield 42, 3) := by decide +kernel
theorem dX8_fails_5 : decode cX8_fails 5 = .ok (.iconst 0, 1) := by decide +kernel
theorem dX8_fails_6 : decode cX8_fails 6 = .ok (.ireturn, 1) := by decide +kernel
theorem dX8_refuses_0 : decode cX8_refuses 0 = .ok (.aload_n 0, 1) := by decide +kernel
theorem dX8_refuses_1 : decode cX8_refuses 1 = .ok (.iload_n 2, 1) := by decide +kernel
theorem dX8_refuses_2 : decode cX8_refuses 2 = .ok (.putfield 45, 3) := by decide +kernel
theorem dX8_refuses_5 : decode cX8_refuses 5 = .ok (.aload_n 0, 1) := by decide +kernel
theorem dX8_refuses_6 : decode cX8_refuses 6 = .ok (.iload_n 1, 1) := by decide +kernel
theorem dX8_refuses_7 : decode cX8_refuses 7 = .ok (.invokevirtual 48, 3) := by decide +kernel
theorem dX8_refuses_10 : decode cX8_refuses 10 = .ok (.ireturn, 1) := by decide +kernel
theorem dX8_in_0 : decode cX8_in 0 = .ok (.iload_n 0, 1) := by decide +kernel
theorem dX8_in_1 : decode cX8_in 1 = .ok (.iload_n 1, 1) := by decide +kernel
theorem dX8_in_2 : decode cX8_in 2 = .ok (.if_icmp .lt 12, 3) := by decide +kernel
theorem dX8_in_5 : decode cX8_in 5 = .ok (.iload_n 0, 1) := by decide +kernel
theorem dX8_in_6 : decode cX8_in 6 = .ok (.iload_n 2, 1) := by decide +kernel
theorem dX8_in_7 : decode cX8_in 7 = .ok (.if_icmp .gt 7, 3) := by decide +kernel
theorem dX8_in_10 : decode cX8_in 10 = .ok (.iconst 1, 1) := by decide +kernel
theorem dX8_in_11 : decode cX8_in 11 = .ok (.goto 4, 3) := by decide +kernel
theorem dX8_in_14 : decode cX8_in 14 = .ok (.iconst 0, 1) := by decide +kernel
theorem dX8_in_15 : decode cX8_in 15 = .ok (.ireturn, 1) := by decide +kernel
theorem dX8_isUnit_0 : decode cX8_isUnit 0 = .ok (.iload_n 1, 1) := by decide +kernel
theorem dX8_isUnit_1 : decode cX8_isUnit 1 = .ok (.iconst 0, 1) := by decide +kernel
theorem dX8_isUnit_2 : decode cX8_isUnit 2 = .ok (.aload_n 0, 1) := by decide +kernel
theorem dX8_isUnit_3 : decode cX8_isUnit 3 = .ok (.getfield 7, 3) := by decide +kernel
theorem dX8_isUnit_6 : decode cX8_isUnit 6 = .ok (.iconst 2, 1) := by decide +kernel
theorem dX8_isUnit_7 : decode cX8_isUnit 7 = .ok (.iaload, 1) := by decide +kernel
theorem dX8_isUnit_8 : decode cX8_isUnit 8 = .ok (.iconst 1, 1) := by decide +kernel
theorem dX8_isUnit_9 : decode cX8_isUnit 9 = .ok (.isub, 1) := by decide +kernel
theorem dX8_isUnit_10 : decode cX8_isUnit 10 = .ok (.invokestatic 52, 3) := by decide +kernel
theorem dX8_isUnit_13 : decode cX8_isUnit 13 = .ok (.ireturn, 1) := by decide +kernel
theorem dX8_at_0 : decode cX8_at 0 = .ok (.iconst 3, 1) := by decide +kernel
theorem dX8_at_1 : decode cX8_at 1 = .ok (.bipush 8, 2) := by decide +kernel
theorem dX8_at_3 : decode cX8_at 3 = .ok (.iload_n 0, 1) := by decide +kernel
theorem dX8_at_4 : decode cX8_at 4 = .ok (.imul, 1) := by decide +kernel
theorem dX8_at_5 : decode cX8_at 5 = .ok (.iadd, 1) := by decide +kernel
theorem dX8_at_6 : decode cX8_at 6 = .ok (.iload_n 1, 1) := by decide +kernel
theorem dX8_at_7 : decode cX8_at 7 = .ok (.iadd, 1) := by decide +kernel
theorem dX8_at_8 : decode cX8_at 8 = .ok (.ireturn, 1) := by decide +kernel
theorem dX8_accountOf_0 : decode cX8_accountOf 0 = .ok (.aload_n 0, 1) := by decide +kernel
theorem dX8_accountOf_1 : decode cX8_accountOf 1 = .ok (.getfield 7, 3) := by decide +kernel
theorem dX8_accountOf_4 : decode cX8_accountOf 4 = .ok (.iload_n 1, 1) := by decide +kernel
theorem dX8_accountOf_5 : decode cX8_accountOf 5 = .ok (.bipush 6, 2) := by decide +kernel
theorem dX8_accountOf_7 : decode cX8_accountOf 7 = .ok (.invokestatic 56, 3) := by decide +kernel
theorem dX8_accountOf_10 : decode cX8_accountOf 10 = .ok (.iaload, 1) := by decide +kernel
theorem dX8_accountOf_11 : decode cX8_accountOf 11 = .ok (.aload_n 0, 1) := by decide +kernel
theorem dX8_accountOf_12 : decode cX8_accountOf 12 = .ok (.getfield 7, 3) := by decide +kernel
theorem dX8_accountOf_15 : decode cX8_accountOf 15 = .ok (.iload_n 1, 1) := by decide +kernel
theorem dX8_accountOf_16 : decode cX8_accountOf 16 = .ok (.bipush 7, 2) := by decide +kernel
theorem dX8_accountOf_18 : decode cX8_accountOf 18 = .ok (.invokestatic 56, 3) := by decide +kernel
theorem dX8_accountOf_21 : decode cX8_accountOf 21 = .ok (.iaload, 1) := by decide +kernel
theorem dX8_accountOf_22 : decode cX8_accountOf 22 = .ok (.isub, 1) := by decide +kernel
theorem dX8_accountOf_23 : decode cX8_accountOf 23 = .ok (.ireturn, 1) := by decide +kernel
theorem dX8_useOf_0 : decode cX8_useOf 0 = .ok (.aload_n 0, 1) := by decide +kernel
theorem dX8_useOf_1 : decode cX8_useOf 1 = .ok (.getfield 7, 3) := by decide +kernel
theorem dX8_useOf_4 : decode cX8_useOf 4 = .ok (.iload_n 1, 1) := by decide +kernel
theorem dX8_useOf_5 : decode cX8_useOf 5 = .ok (.iconst 4, 1) := by decide +kernel
theorem dX8_useOf_6 : decode cX8_useOf 6 = .ok (.invokestatic 56, 3) := by decide +kernel
theorem dX8_useOf_9 : decode cX8_useOf 9 = .ok (.iaload, 1) := by decide +kernel
theorem dX8_useOf_10 : decode cX8_useOf 10 = .ok (.aload_n 0, 1) := by decide +kernel
theorem dX8_useOf_11 : decode cX8_useOf 11 = .ok (.getfield 7, 3) := by decide +kernel
theorem dX8_useOf_14 : decode cX8_useOf 14 = .ok (.iload_n 1, 1) := by decide +kernel
theorem dX8_useOf_15 : decode cX8_useOf 15 = .ok (.iconst 5, 1) := by decide +kernel
theorem dX8_useOf_16 : decode cX8_useOf 16 = .ok (.invokestatic 56, 3) := by decide +kernel
theorem dX8_useOf_19 : decode cX8_useOf 19 = .ok (.iaload, 1) := by decide +kernel
theorem dX8_useOf_20 : decode cX8_useOf 20 = .ok (.isub, 1) := by decide +kernel
theorem dX8_useOf_21 : decode cX8_useOf 21 = .ok (.ireturn, 1) := by decide +kernel
theorem dX8_copies_0 : decode cX8_copies 0 = .ok (.iconst 0, 1) := by decide +kernel
theorem dX8_copies_1 : decode cX8_copies 1 = .ok (.istore 4, 2) := by decide +kernel
theorem dX8_copies_3 : decode cX8_copies 3 = .ok (.iload 4, 2) := by decide +kernel
theorem dX8_copies_5 : decode cX8_copies 5 = .ok (.sipush 603, 3) := by decide +kernel
theorem dX8_copies_8 : decode cX8_copies 8 = .ok (.if_icmp .ge 21, 3) := by decide +kernel
theorem dX8_copies_11 : decode cX8_copies 11 = .ok (.aload_n 2, 1) := by decide +kernel
theorem dX8_copies_12 : decode cX8_copies 12 = .ok (.iload_n 3, 1) := by decide +kernel
theorem dX8_copies_13 : decode cX8_copies 13 = .ok (.iload 4, 2) := by decide +kernel
theorem dX8_copies_15 : decode cX8_copies 15 = .ok (.iadd, 1) := by decide +kernel
theorem dX8_copies_16 : decode cX8_copies 16 = .ok (.aload_n 0, 1) := by decide +kernel
theorem dX8_copies_17 : decode cX8_copies 17 = .ok (.iload_n 1, 1) := by decide +kernel
theorem dX8_copies_18 : decode cX8_copies 18 = .ok (.iload 4, 2) := by decide +kernel
theorem dX8_copies_20 : decode cX8_copies 20 = .ok (.iadd, 1) := by decide +kernel
theorem dX8_copies_21 : decode cX8_copies 21 = .ok (.iaload, 1) := by decide +kernel
theorem dX8_copies_22 : decode cX8_copies 22 = .ok (.iastore, 1) := by decide +kernel
theorem dX8_copies_23 : decode cX8_copies 23 = .ok (.iinc 4 1, 3) := by decide +kernel
theorem dX8_copies_26 : decode cX8_copies 26 = .ok (.goto (-23), 3) := by decide +kernel
theorem dX8_copies_29 : decode cX8_copies 29 = .ok (.return_, 1) := by decide +kernel
theorem dX8_changes_0 : decode cX8_changes 0 = .ok (.aload_n 0, 1) := by decide +kernel
theorem dX8_changes_1 : decode cX8_changes 1 = .ok (.getfield 60, 3) := by decide +kernel
theorem dX8_changes_4 : decode cX8_changes 4 = .ok (.bipush 8, 2) := by decide +kernel
theorem dX8_changes_6 : decode cX8_changes 6 = .ok (.if_icmp .ne 44, 3) := by decide +kernel
theorem dX8_changes_9 : decode cX8_changes 9 = .ok (.iconst 0, 1) := by decide +kernel
theorem dX8_changes_10 : decode cX8_changes 10 = .ok (.istore_n 2, 1) := by decide +kernel
theorem dX8_changes_11 : decode cX8_changes 11 = .ok (.iload_n 2, 1) := by decide +kernel
theorem dX8_changes_12 : decode cX8_changes 12 = .ok (.sipush 4221, 3) := by decide +kernel
theorem dX8_changes_15 : decode cX8_changes 15 = .ok (.if_icmp .ge 25, 3) := by decide +kernel
theorem dX8_changes_18 : decode cX8_changes 18 = .ok (.aload_n 0, 1) := by decide +kernel
theorem dX8_changes_19 : decode cX8_changes 19 = .ok (.getfield 19, 3) := by decide +kernel
theorem dX8_changes_22 : decode cX8_changes 22 = .ok (.iload_n 2, 1) := by decide +kernel
theorem dX8_changes_23 : decode cX8_changes 23 = .ok (.aload_n 0, 1) := by decide +kernel
theorem dX8_changes_24 : decode cX8_changes 24 = .ok (.getfield 19, 3) := by decide +kernel
theorem dX8_changes_27 : decode cX8_changes 27 = .ok (.iload_n 2, 1) := by decide +kernel
theorem dX8_changes_28 : decode cX8_changes 28 = .ok (.sipush 603, 3) := by decide +kernel
theorem dX8_changes_31 : decode cX8_changes 31 = .ok (.iadd, 1) := by decide +kernel
theorem dX8_changes_32 : decode cX8_changes 32 = .ok (.iaload, 1) := by decide +kernel
theorem dX8_changes_33 : decode cX8_changes 33 = .ok (.iastore, 1) := by decide +kernel
theorem dX8_changes_34 : decode cX8_changes 34 = .ok (.iinc 2 1, 3) := by decide +kernel
theorem dX8_changes_37 : decode cX8_changes 37 = .ok (.goto (-26), 3) := by decide +kernel
theorem dX8_changes_40 : decode cX8_changes 40 = .ok (.aload_n 0, 1) := by decide +kernel
theorem dX8_changes_41 : decode cX8_changes 41 = .ok (.dup, 1) := by decide +kernel
theorem dX8_changes_42 : decode cX8_changes 42 = .ok (.getfield 60, 3) := by decide +kernel
theorem dX8_changes_45 : decode cX8_changes 45 = .ok (.iconst 1, 1) := by decide +kernel
theorem dX8_changes_46 : decode cX8_changes 46 = .ok (.isub, 1) := by decide +kernel
theorem dX8_changes_47 : decode cX8_changes 47 = .ok (.putfield 60, 3) := by decide +kernel
theorem dX8_changes_50 : decode cX8_changes 50 = .ok (.aload_n 1, 1) := by decide +kernel
theorem dX8_changes_51 : decode cX8_changes 51 = .ok (.iconst 0, 1) := by decide +kernel
theorem dX8_changes_52 : decode cX8_changes 52 = .ok (.aload_n 0, 1) := by decide +kernel
theorem dX8_changes_53 : decode cX8_changes 53 = .ok (.getfield 19, 3) := by decide +kernel
theorem dX8_changes_56 : decode cX8_changes 56 = .ok (.sipush 603, 3) := by decide +kernel
theorem dX8_changes_59 : decode cX8_changes 59 = .ok (.aload_n 0, 1) := by decide +kernel
theorem dX8_changes_60 : decode cX8_changes 60 = .ok (.getfield 60, 3) := by decide +kernel
theorem dX8_changes_63 : decode cX8_changes 63 = .ok (.imul, 1) := by decide +kernel
theorem dX8_changes_64 : decode cX8_changes 64 = .ok (.invokestatic 63, 3) := by decide +kernel
theorem dX8_changes_67 : decode cX8_changes 67 = .ok (.aload_n 0, 1) := by decide +kernel
theorem dX8_changes_68 : decode cX8_changes 68 = .ok (.dup, 1) := by decide +kernel
theorem dX8_changes_69 : decode cX8_changes 69 = .ok (.getfield 60, 3) := by decide +kernel
theorem dX8_changes_72 : decode cX8_changes 72 = .ok (.iconst 1, 1) := by decide +kernel
theorem dX8_changes_73 : decode cX8_changes 73 = .ok (.iadd, 1) := by decide +kernel
theorem dX8_changes_74 : decode cX8_changes 74 = .ok (.putfield 60, 3) := by decide +kernel
theorem dX8_changes_77 : decode cX8_changes 77 = .ok (.return_, 1) := by decide +kernel
theorem dX8_undo_0 : decode cX8_undo 0 = .ok (.aload_n 0, 1) := by decide +kernel
theorem dX8_undo_1 : decode cX8_undo 1 = .ok (.aload_n 0, 1) := by decide +kernel
theorem dX8_undo_2 : decode cX8_undo 2 = .ok (.getfield 60, 3) := by decide +kernel
theorem dX8_undo_5 : decode cX8_undo 5 = .ok (.ifCond .ne 7, 3) := by decide +kernel
theorem dX8_undo_8 : decode cX8_undo 8 = .ok (.iconst 1, 1) := by decide +kernel
theorem dX8_undo_9 : decode cX8_undo 9 = .ok (.goto 4, 3) := by decide +kernel
theorem dX8_undo_12 : decode cX8_undo 12 = .ok (.iconst 0, 1) := by decide +kernel
theorem dX8_undo_13 : decode cX8_undo 13 = .ok (.putfield 42, 3) := by decide +kernel
theorem dX8_undo_16 : decode cX8_undo 16 = .ok (.aload_n 0, 1) := by decide +kernel
theorem dX8_undo_17 : decode cX8_undo 17 = .ok (.getfield 42, 3) := by decide +kernel
theorem dX8_undo_20 : decode cX8_undo 20 = .ok (.ifCond .le 5, 3) := by decide +kernel
theorem dX8_undo_23 : decode cX8_undo 23 = .ok (.iconst 0, 1) := by decide +kernel
theorem dX8_undo_24 : decode cX8_undo 24 = .ok (.ireturn, 1) := by decide +kernel
theorem dX8_undo_25 : decode cX8_undo 25 = .ok (.aload_n 0, 1) := by decide +kernel
theorem dX8_undo_26 : decode cX8_undo 26 = .ok (.dup, 1) := by decide +kernel
theorem dX8_undo_27 : decode cX8_undo 27 = .ok (.getfield 60, 3) := by decide +kernel
theorem dX8_undo_30 : decode cX8_undo 30 = .ok (.iconst 1, 1) := by decide +kernel
theorem dX8_undo_31 : decode cX8_undo 31 = .ok (.isub, 1) := by decide +kernel
theorem dX8_undo_32 : decode cX8_undo 32 = .ok (.putfield 60, 3) := by decide +kernel
theorem dX8_undo_35 : decode cX8_undo 35 = .ok (.aload_n 0, 1) := by decide +kernel
theorem dX8_undo_36 : decode cX8_undo 36 = .ok (.getfield 19, 3) := by decide +kernel
theorem dX8_undo_39 : decode cX8_undo 39 = .ok (.sipush 603, 3) := by decide +kernel
theorem dX8_undo_42 : decode cX8_undo 42 = .ok (.aload_n 0, 1) := by decide +kernel
theorem dX8_undo_43 : decode cX8_undo 43 = .ok (.getfield 60, 3) := by decide +kernel
theorem dX8_undo_46 : decode cX8_undo 46 = .ok (.imul, 1) := by decide +kernel
theorem dX8_undo_47 : decode cX8_undo 47 = .ok (.aload_n 0, 1) := by decide +kernel
theorem dX8_undo_48 : decode cX8_undo 48 = .ok (.getfield 7, 3) := by decide +kernel
theorem dX8_undo_51 : decode cX8_undo 51 = .ok (.iconst 0, 1) := by decide +kernel
theorem dX8_undo_52 : decode cX8_undo 52 = .ok (.invokestatic 63, 3) := by decide +kernel
theorem dX8_undo_55 : decode cX8_undo 55 = .ok (.aload_n 0, 1) := by decide +kernel
theorem dX8_undo_56 : decode cX8_undo 56 = .ok (.getfield 60, 3) := by decide +kernel
theorem dX8_undo_59 : decode cX8_undo 59 = .ok (.ireturn, 1) := by decide +kernel
theorem dX8_save_0 : decode cX8_save 0 = .ok (.aload_n 0, 1) := by decide +kernel
theorem dX8_save_1 : decode cX8_save 1 = .ok (.iconst 0, 1) := by decide +kernel
theorem dX8_save_2 : decode cX8_save 2 = .ok (.putfield 42, 3) := by decide +kernel
theorem dX8_save_5 : decode cX8_save 5 = .ok (.aload_n 0, 1) := by decide +kernel
theorem dX8_save_6 : decode cX8_save 6 = .ok (.iconst 1, 1) := by decide +kernel
theorem dX8_save_7 : decode cX8_save 7 = .ok (.putfield 67, 3) := by decide +kernel
theorem dX8_save_10 : decode cX8_save 10 = .ok (.aload_n 0, 1) := by decide +kernel
theorem dX8_save_11 : decode cX8_save 11 = .ok (.getfield 7, 3) := by decide +kernel
theorem dX8_save_14 : decode cX8_save 14 = .ok (.iconst 0, 1) := by decide +kernel
theorem dX8_save_15 : decode cX8_save 15 = .ok (.aload_n 0, 1) := by decide +kernel
theorem dX8_save_16 : decode cX8_save 16 = .ok (.getfield 13, 3) := by decide +kernel
theorem dX8_save_19 : decode cX8_save 19 = .ok (.iconst 0, 1) := by decide +kernel
theorem dX8_save_20 : decode cX8_save 20 = .ok (.invokestatic 63, 3) := by decide +kernel
theorem dX8_save_23 : decode cX8_save 23 = .ok (.return_, 1) := by decide +kernel
theorem dX8_restore_0 : decode cX8_restore 0 = .ok (.aload_n 0, 1) := by decide +kernel
theorem dX8_restore_1 : decode cX8_restore 1 = .ok (.aload_n 0, 1) := by decide +kernel
theorem dX8_restore_2 : decode cX8_restore 2 = .ok (.getfield 67, 3) := by decide +kernel
theorem dX8_restore_5 : decode cX8_restore 5 = .ok (.ifCond .eq 7, 3) := by decide +kernel
theorem dX8_restore_8 : decode cX8_restore 8 = .ok (.iconst 0, 1) := by decide +kernel
theorem dX8_restore_9 : decode cX8_restore 9 = .ok (.goto 4, 3) := by decide +kernel
theorem dX8_restore_12 : decode cX8_restore 12 = .ok (.iconst 1, 1) := by decide +kernel
theorem dX8_restore_13 : decode cX8_restore 13 = .ok (.putfield 42, 3) := by decide +kernel
theorem dX8_restore_16 : decode cX8_restore 16 = .ok (.aload_n 0, 1) := by decide +kernel
theorem dX8_restore_17 : decode cX8_restore 17 = .ok (.getfield 67, 3) := by decide +kernel
theorem dX8_restore_20 : decode cX8_restore 20 = .ok (.ifCond .eq 21, 3) := by decide +kernel
theorem dX8_restore_23 : decode cX8_restore 23 = .ok (.aload_n 0, 1) := by decide +kernel
theorem dX8_restore_24 : decode cX8_restore 24 = .ok (.getfield 13, 3) := by decide +kernel
theorem dX8_restore_27 : decode cX8_restore 27 = .ok (.iconst 0, 1) := by decide +kernel
theorem dX8_restore_28 : decode cX8_restore 28 = .ok (.aload_n 0, 1) := by decide +kernel
theorem dX8_restore_29 : decode cX8_restore 29 = .ok (.getfield 7, 3) := by decide +kernel
theorem dX8_restore_32 : decode cX8_restore 32 = .ok (.iconst 0, 1) := by decide +kernel
theorem dX8_restore_33 : decode cX8_restore 33 = .ok (.invokestatic 63, 3) := by decide +kernel
theorem dX8_restore_36 : decode cX8_restore 36 = .ok (.aload_n 0, 1) := by decide +kernel
theorem dX8_restore_37 : decode cX8_restore 37 = .ok (.iconst 0, 1) := by decide +kernel
theorem dX8_restore_38 : decode cX8_restore 38 = .ok (.putfield 60, 3) := by decide +kernel
theorem dX8_restore_41 : decode cX8_restore 41 = .ok (.return_, 1) := by decide +kernel
theorem dX8_addUnit_0 : decode cX8_addUnit 0 = .ok (.aload_n 0, 1) := by decide +kernel
theorem dX8_addUnit_1 : decode cX8_addUnit 1 = .ok (.iload_n 1, 1) := by decide +kernel
theorem dX8_addUnit_2 : decode cX8_addUnit 2 = .ok (.iconst 0, 1) := by decide +kernel
theorem dX8_addUnit_3 : decode cX8_addUnit 3 = .ok (.iconst 2, 1) := by decide +kernel
theorem dX8_addUnit_4 : decode cX8_addUnit 4 = .ok (.invokestatic 52, 3) := by decide +kernel
theorem dX8_addUnit_7 : decode cX8_addUnit 7 = .ok (.ifCond .eq 34, 3) := by decide +kernel
theorem dX8_addUnit_10 : decode cX8_addUnit 10 = .ok (.iload_n 2, 1) := by decide +kernel
theorem dX8_addUnit_11 : decode cX8_addUnit 11 = .ok (.iconst 0, 1) := by decide +kernel
theorem dX8_addUnit_12 : decode cX8_addUnit 12 = .ok (.iconst 2, 1) := by decide +kernel
theorem dX8_addUnit_13 : decode cX8_addUnit 13 = .ok (.invokestatic 52, 3) := by decide +kernel
theorem dX8_addUnit_16 : decode cX8_addUnit 16 = .ok (.ifCond .eq 25, 3) := by decide +kernel
theorem dX8_addUnit_19 : decode cX8_addUnit 19 = .ok (.iload_n 3, 1) := by decide +kernel
theorem dX8_addUnit_20 : decode cX8_addUnit 20 = .ok (.iconst 1, 1) := by decide +kernel
theorem dX8_addUnit_21 : decode cX8_addUnit 21 = .ok (.sipush 300, 3) := by decide +kernel
theorem dX8_addUnit_24 : decode cX8_addUnit 24 = .ok (.invokestatic 52, 3) := by decide +kernel
theorem dX8_addUnit_27 : decode cX8_addUnit 27 = .ok (.ifCond .eq 14, 3) := by decide +kernel
theorem dX8_addUnit_30 : decode cX8_addUnit 30 = .ok (.iload 4, 2) := by decide +kernel
theorem dX8_addUnit_32 : decode cX8_addUnit 32 = .ok (.iconst 0, 1) := by decide +kernel
theorem dX8_addUnit_33 : decode cX8_addUnit 33 = .ok (.bipush 7, 2) := by decide +kernel
theorem dX8_addUnit_35 : decode cX8_addUnit 35 = .ok (.invokestatic 52, 3) := by decide +kernel
theorem dX8_addUnit_38 : decode cX8_addUnit 38 = .ok (.ifCond .ne 7, 3) := by decide +kernel
theorem dX8_addUnit_41 : decode cX8_addUnit 41 = .ok (.iconst 1, 1) := by decide +kernel
theorem dX8_addUnit_42 : decode cX8_addUnit 42 = .ok (.goto 19, 3) := by decide +kernel
theorem dX8_addUnit_45 : decode cX8_addUnit 45 = .ok (.aload_n 0, 1) := by decide +kernel
theorem dX8_addUnit_46 : decode cX8_addUnit 46 = .ok (.getfield 7, 3) := by decide +kernel
theorem dX8_addUnit_49 : decode cX8_addUnit 49 = .ok (.iconst 2, 1) := by decide +kernel
theorem dX8_addUnit_50 : decode cX8_addUnit 50 = .ok (.iaload, 1) := by decide +kernel
theorem dX8_addUnit_51 : decode cX8_addUnit 51 = .ok (.bipush 12, 2) := by decide +kernel
theorem dX8_addUnit_53 : decode cX8_addUnit 53 = .ok (.if_icmp .ne 7, 3) := by decide +kernel
theorem dX8_addUnit_56 : decode cX8_addUnit 56 = .ok (.iconst 2, 1) := by decide +kernel
theorem dX8_addUnit_57 : decode cX8_addUnit 57 = .ok (.goto 4, 3) := by decide +kernel
theorem dX8_addUnit_60 : decode cX8_addUnit 60 = .ok (.iconst 0, 1) := by decide +kernel
theorem dX8_addUnit_61 : decode cX8_addUnit 61 = .ok (.putfield 42, 3) := by decide +kernel
theorem dX8_addUnit_64 : decode cX8_addUnit 64 = .ok (.aload_n 0, 1) := by decide +kernel
theorem dX8_addUnit_65 : decode cX8_addUnit 65 = .ok (.getfield 42, 3) := by decide +kernel
theorem dX8_addUnit_68 : decode cX8_addUnit 68 = .ok (.ifCond .le 5, 3) := by decide +kernel
theorem dX8_addUnit_71 : decode cX8_addUnit 71 = .ok (.iconst 0, 1) := by decide +kernel
theorem dX8_addUnit_72 : decode cX8_addUnit 72 = .ok (.ireturn, 1) := by decide +kernel
theorem dX8_addUnit_73 : decode cX8_addUnit 73 = .ok (.aload_n 0, 1) := by decide +kernel
theorem dX8_addUnit_74 : decode cX8_addUnit 74 = .ok (.aload_n 0, 1) := by decide +kernel
theorem dX8_addUnit_75 : decode cX8_addUnit 75 = .ok (.getfield 7, 3) := by decide +kernel
theorem dX8_addUnit_78 : decode cX8_addUnit 78 = .ok (.invokevirtual 71, 3) := by decide +kernel
theorem dX8_addUnit_81 : decode cX8_addUnit 81 = .ok (.aload_n 0, 1) := by decide +kernel
theorem dX8_addUnit_82 : decode cX8_addUnit 82 = .ok (.getfield 7, 3) := by decide +kernel
theorem dX8_addUnit_85 : decode cX8_addUnit 85 = .ok (.iconst 2, 1) := by decide +kernel
theorem dX8_addUnit_86 : decode cX8_addUnit 86 = .ok (.iaload, 1) := by decide +kernel
theorem dX8_addUnit_87 : decode cX8_addUnit 87 = .ok (.istore 5, 2) := by decide +kernel
theorem dX8_addUnit_89 : decode cX8_addUnit 89 = .ok (.aload_n 0, 1) := by decide +kernel
theorem dX8_addUnit_90 : decode cX8_addUnit 90 = .ok (.getfield 7, 3) := by decide +kernel
theorem dX8_addUnit_93 : decode cX8_addUnit 93 = .ok (.iconst 2, 1) := by decide +kernel
theorem dX8_addUnit_94 : decode cX8_addUnit 94 = .ok (.dup2, 1) := by decide +kernel
theorem dX8_addUnit_95 : decode cX8_addUnit 95 = .ok (.iaload, 1) := by decide +kernel
theorem dX8_addUnit_96 : decode cX8_addUnit 96 = .ok (.iconst 1, 1) := by decide +kernel
theorem dX8_addUnit_97 : decode cX8_addUnit 97 = .ok (.iadd, 1) := by decide +kernel
theorem dX8_addUnit_98 : decode cX8_addUnit 98 = .ok (.iastore, 1) := by decide +kernel
theorem dX8_addUnit_99 : decode cX8_addUnit 99 = .ok (.iconst 0, 1) := by decide +kernel
theorem dX8_addUnit_100 : decode cX8_addUnit 100 = .ok (.istore 6, 2) := by decide +kernel
theorem dX8_addUnit_102 : decode cX8_addUnit 102 = .ok (.iload 6, 2) := by decide +kernel
theorem dX8_addUnit_104 : decode cX8_addUnit 104 = .ok (.bipush 8, 2) := by decide +kernel
theorem dX8_addUnit_106 : decode cX8_addUnit 106 = .ok (.if_icmp .ge 62, 3) := by decide +kernel
theorem dX8_addUnit_109 : decode cX8_addUnit 109 = .ok (.aload_n 0, 1) := by decide +kernel
theorem dX8_addUnit_110 : decode cX8_addUnit 110 = .ok (.getfield 7, 3) := by decide +kernel
theorem dX8_addUnit_113 : decode cX8_addUnit 113 = .ok (.iload 5, 2) := by decide +kernel
theorem dX8_addUnit_115 : decode cX8_addUnit 115 = .ok (.iload 6, 2) := by decide +kernel
theorem dX8_addUnit_117 : decode cX8_addUnit 117 = .ok (.invokestatic 56, 3) := by decide +kernel
theorem dX8_addUnit_120 : decode cX8_addUnit 120 = .ok (.iload 6, 2) := by decide +kernel
theorem dX8_addUnit_122 : decode cX8_addUnit 122 = .ok (.ifCond .ne 7, 3) := by decide +kernel
theorem dX8_addUnit_125 : decode cX8_addUnit 125 = .ok (.iload_n 1, 1) := by decide +kernel
theorem dX8_addUnit_126 : decode cX8_addUnit 126 = .ok (.goto 35, 3) := by decide +kernel
theorem dX8_addUnit_129 : decode cX8_addUnit 129 = .ok (.iload 6, 2) := by decide +kernel
theorem dX8_addUnit_131 : decode cX8_addUnit 131 = .ok (.iconst 1, 1) := by decide +kernel
theorem dX8_addUnit_132 : decode cX8_addUnit 132 = .ok (.if_icmp .ne 7, 3) := by decide +kernel
theorem dX8_addUnit_135 : decode cX8_addUnit 135 = .ok (.iload_n 2, 1) := by decide +kernel
theorem dX8_addUnit_136 : decode cX8_addUnit 136 = .ok (.goto 25, 3) := by decide +kernel
theorem dX8_addUnit_139 : decode cX8_addUnit 139 = .ok (.iload 6, 2) := by decide +kernel
theorem dX8_addUnit_141 : decode cX8_addUnit 141 = .ok (.iconst 2, 1) := by decide +kernel
theorem dX8_addUnit_142 : decode cX8_addUnit 142 = .ok (.if_icmp .ne 7, 3) := by decide +kernel
theorem dX8_addUnit_145 : decode cX8_addUnit 145 = .ok (.iload_n 3, 1) := by decide +kernel
theorem dX8_addUnit_146 : decode cX8_addUnit 146 = .ok (.goto 15, 3) := by decide +kernel
theorem dX8_addUnit_149 : decode cX8_addUnit 149 = .ok (.iload 6, 2) := by decide +kernel
theorem dX8_addUnit_151 : decode cX8_addUnit 151 = .ok (.iconst 3, 1) := by decide +kernel
theorem dX8_addUnit_152 : decode cX8_addUnit 152 = .ok (.if_icmp .ne 8, 3) := by decide +kernel
theorem dX8_addUnit_155 : decode cX8_addUnit 155 = .ok (.iload 4, 2) := by decide +kernel
theorem dX8_addUnit_157 : decode cX8_addUnit 157 = .ok (.goto 4, 3) := by decide +kernel
theorem dX8_addUnit_160 : decode cX8_addUnit 160 = .ok (.iconst 0, 1) := by decide +kernel
theorem dX8_addUnit_161 : decode cX8_addUnit 161 = .ok (.iastore, 1) := by decide +kernel
theorem dX8_addUnit_162 : decode cX8_addUnit 162 = .ok (.iinc 6 1, 3) := by decide +kernel
theorem dX8_addUnit_165 : decode cX8_addUnit 165 = .ok (.goto (-63), 3) := by decide +kernel
theorem dX8_addUnit_168 : decode cX8_addUnit 168 = .ok (.iload 5, 2) := by decide +kernel
theorem dX8_addUnit_170 : decode cX8_addUnit 170 = .ok (.ireturn, 1) := by decide +kernel
theorem dX8_setOwner_0 : decode cX8_setOwner 0 = .ok (.aload_n 0, 1) := by decide +kernel
theorem dX8_setOwner_1 : decode cX8_setOwner 1 = .ok (.aload_n 0, 1) := by decide +kernel
theorem dX8_setOwner_2 : decode cX8_setOwner 2 = .ok (.iload_n 1, 1) := by decide +kernel
theorem dX8_setOwner_3 : decode cX8_setOwner 3 = .ok (.invokevirtual 75, 3) := by decide +kernel
theorem dX8_setOwner_6 : decode cX8_setOwner 6 = .ok (.ifCond .eq 21, 3) := by decide +kernel
theorem dX8_setOwner_9 : decode cX8_setOwner 9 = .ok (.iload_n 2, 1) := by decide +kernel
theorem dX8_setOwner_10 : decode cX8_setOwner 10 = .ok (.iconst 0, 1) := by decide +kernel
theorem dX8_setOwner_11 : decode cX8_setOwner 11 = .ok (.bipush 7, 2) := by decide +kernel
theorem dX8_setOwner_13 : decode cX8_setOwner 13 = .ok (.invokestatic 52, 3) := by decide +kernel
theorem dX8_setOwner_16 : decode cX8_setOwner 16 = .ok (.ifCond .eq 7, 3) := by decide +kernel
theorem dX8_setOwner_19 : decode cX8_setOwner 19 = .ok (.iconst 0, 1) := by decide +kernel
theorem dX8_setOwner_20 : decode cX8_setOwner 20 = .ok (.goto 8, 3) := by decide +kernel
theorem dX8_setOwner_23 : decode cX8_setOwner 23 = .ok (.iconst 2, 1) := by decide +kernel
theorem dX8_setOwner_24 : decode cX8_setOwner 24 = .ok (.goto 4, 3) := by decide +kernel
theorem dX8_setOwner_27 : decode cX8_setOwner 27 = .ok (.iconst 1, 1) := by decide +kernel
theorem dX8_setOwner_28 : decode cX8_setOwner 28 = .ok (.putfield 42, 3) := by decide +kernel
theorem dX8_setOwner_31 : decode cX8_setOwner 31 = .ok (.aload_n 0, 1) := by decide +kernel
theorem dX8_setOwner_32 : decode cX8_setOwner 32 = .ok (.getfield 42, 3) := by decide +kernel
theorem dX8_setOwner_35 : decode cX8_setOwner 35 = .ok (.ifCond .le 5, 3) := by decide +kernel
theorem dX8_setOwner_38 : decode cX8_setOwner 38 = .ok (.iconst 0, 1) := by decide +kernel
theorem dX8_setOwner_39 : decode cX8_setOwner 39 = .ok (.ireturn, 1) := by decide +kernel
theorem dX8_setOwner_40 : decode cX8_setOwner 40 = .ok (.aload_n 0, 1) := by decide +kernel
theorem dX8_setOwner_41 : decode cX8_setOwner 41 = .ok (.aload_n 0, 1) := by decide +kernel
theorem dX8_setOwner_42 : decode cX8_setOwner 42 = .ok (.getfield 7, 3) := by decide +kernel
theorem dX8_setOwner_45 : decode cX8_setOwner 45 = .ok (.invokevirtual 71, 3) := by decide +kernel
theorem dX8_setOwner_48 : decode cX8_setOwner 48 = .ok (.aload_n 0, 1) := by decide +kernel
theorem dX8_setOwner_49 : decode cX8_setOwner 49 = .ok (.getfield 7, 3) := by decide +kernel
theorem dX8_setOwner_52 : decode cX8_setOwner 52 = .ok (.iload_n 1, 1) := by decide +kernel
theorem dX8_setOwner_53 : decode cX8_setOwner 53 = .ok (.iconst 3, 1) := by decide +kernel
theorem dX8_setOwner_54 : decode cX8_setOwner 54 = .ok (.invokestatic 56, 3) := by decide +kernel
theorem dX8_setOwner_57 : decode cX8_setOwner 57 = .ok (.iaload, 1) := by decide +kernel
theorem dX8_setOwner_58 : decode cX8_setOwner 58 = .ok (.istore_n 3, 1) := by decide +kernel
theorem dX8_setOwner_59 : decode cX8_setOwner 59 = .ok (.aload_n 0, 1) := by decide +kernel
theorem dX8_setOwner_60 : decode cX8_setOwner 60 = .ok (.getfield 7, 3) := by decide +kernel
theorem dX8_setOwner_63 : decode cX8_setOwner 63 = .ok (.iload_n 1, 1) := by decide +kernel
theorem dX8_setOwner_64 : decode cX8_setOwner 64 = .ok (.iconst 3, 1) := by decide +kernel
theorem dX8_setOwner_65 : decode cX8_setOwner 65 = .ok (.invokestatic 56, 3) := by decide +kernel
theorem dX8_setOwner_68 : decode cX8_setOwner 68 = .ok (.iload_n 2, 1) := by decide +kernel
theorem dX8_setOwner_69 : decode cX8_setOwner 69 = .ok (.iastore, 1) := by decide +kernel
theorem dX8_setOwner_70 : decode cX8_setOwner 70 = .ok (.iload_n 3, 1) := by decide +kernel
theorem dX8_setOwner_71 : decode cX8_setOwner 71 = .ok (.ireturn, 1) := by decide +kernel
theorem dX8_set_0 : decode cX8_set 0 = .ok (.aload_n 0, 1) := by decide +kernel
theorem dX8_set_1 : decode cX8_set 1 = .ok (.iload_n 1, 1) := by decide +kernel
theorem dX8_set_2 : decode cX8_set 2 = .ok (.iconst 0, 1) := by decide +kernel
theorem dX8_set_3 : decode cX8_set 3 = .ok (.iconst 1, 1) := by decide +kernel
theorem dX8_set_4 : decode cX8_set 4 = .ok (.invokestatic 52, 3) := by decide +kernel
theorem dX8_set_7 : decode cX8_set 7 = .ok (.ifCond .eq 21, 3) := by decide +kernel
theorem dX8_set_10 : decode cX8_set 10 = .ok (.iload_n 2, 1) := by decide +kernel
theorem dX8_set_11 : decode cX8_set 11 = .ok (.iconst 0, 1) := by decide +kernel
theorem dX8_set_12 : decode cX8_set 12 = .ok (.bipush 100, 2) := by decide +kernel
theorem dX8_set_14 : decode cX8_set 14 = .ok (.invokestatic 52, 3) := by decide +kernel
theorem dX8_set_17 : decode cX8_set 17 = .ok (.ifCond .eq 7, 3) := by decide +kernel
theorem dX8_set_20 : decode cX8_set 20 = .ok (.iconst 0, 1) := by decide +kernel
theorem dX8_set_21 : decode cX8_set 21 = .ok (.goto 8, 3) := by decide +kernel
theorem dX8_set_24 : decode cX8_set 24 = .ok (.iconst 2, 1) := by decide +kernel
theorem dX8_set_25 : decode cX8_set 25 = .ok (.goto 4, 3) := by decide +kernel
theorem dX8_set_28 : decode cX8_set 28 = .ok (.iconst 1, 1) := by decide +kernel
theorem dX8_set_29 : decode cX8_set 29 = .ok (.putfield 42, 3) := by decide +kernel
theorem dX8_set_32 : decode cX8_set 32 = .ok (.aload_n 0, 1) := by decide +kernel
theorem dX8_set_33 : decode cX8_set 33 = .ok (.getfield 42, 3) := by decide +kernel
theorem dX8_set_36 : decode cX8_set 36 = .ok (.ifCond .le 5, 3) := by decide +kernel
theorem dX8_set_39 : decode cX8_set 39 = .ok (.iconst 0, 1) := by decide +kernel
theorem dX8_set_40 : decode cX8_set 40 = .ok (.ireturn, 1) := by decide +kernel
theorem dX8_set_41 : decode cX8_set 41 = .ok (.aload_n 0, 1) := by decide +kernel
theorem dX8_set_42 : decode cX8_set 42 = .ok (.aload_n 0, 1) := by decide +kernel
theorem dX8_set_43 : decode cX8_set 43 = .ok (.getfield 7, 3) := by decide +kernel
theorem dX8_set_46 : decode cX8_set 46 = .ok (.invokevirtual 71, 3) := by decide +kernel
theorem dX8_set_49 : decode cX8_set 49 = .ok (.aload_n 0, 1) := by decide +kernel
theorem dX8_set_50 : decode cX8_set 50 = .ok (.getfield 7, 3) := by decide +kernel
theorem dX8_set_53 : decode cX8_set 53 = .ok (.iload_n 1, 1) := by decide +kernel
theorem dX8_set_54 : decode cX8_set 54 = .ok (.iaload, 1) := by decide +kernel
theorem dX8_set_55 : decode cX8_set 55 = .ok (.istore_n 3, 1) := by decide +kernel
theorem dX8_set_56 : decode cX8_set 56 = .ok (.aload_n 0, 1) := by decide +kernel
theorem dX8_set_57 : decode cX8_set 57 = .ok (.getfield 7, 3) := by decide +kernel
theorem dX8_set_60 : decode cX8_set 60 = .ok (.iload_n 1, 1) := by decide +kernel
theorem dX8_set_61 : decode cX8_set 61 = .ok (.iload_n 2, 1) := by decide +kernel
theorem dX8_set_62 : decode cX8_set 62 = .ok (.iastore, 1) := by decide +kernel
theorem dX8_set_63 : decode cX8_set 63 = .ok (.iload_n 3, 1) := by decide +kernel
theorem dX8_set_64 : decode cX8_set 64 = .ok (.ireturn, 1) := by decide +kernel
theorem dX8_read_0 : decode cX8_read 0 = .ok (.aload_n 0, 1) := by decide +kernel
theorem dX8_read_1 : decode cX8_read 1 = .ok (.aload_n 0, 1) := by decide +kernel
theorem dX8_read_2 : decode cX8_read 2 = .ok (.iload_n 1, 1) := by decide +kernel
theorem dX8_read_3 : decode cX8_read 3 = .ok (.invokevirtual 75, 3) := by decide +kernel
theorem dX8_read_6 : decode cX8_read 6 = .ok (.ifCond .eq 30, 3) := by decide +kernel
theorem dX8_read_9 : decode cX8_read 9 = .ok (.iload_n 2, 1) := by decide +kernel
theorem dX8_read_10 : decode cX8_read 10 = .ok (.aload_n 0, 1) := by decide +kernel
theorem dX8_read_11 : decode cX8_read 11 = .ok (.getfield 7, 3) := by decide +kernel
theorem dX8_read_14 : decode cX8_read 14 = .ok (.iload_n 1, 1) := by decide +kernel
theorem dX8_read_15 : decode cX8_read 15 = .ok (.iconst 4, 1) := by decide +kernel
theorem dX8_read_16 : decode cX8_read 16 = .ok (.invokestatic 56, 3) := by decide +kernel
theorem dX8_read_19 : decode cX8_read 19 = .ok (.iaload, 1) := by decide +kernel
theorem dX8_read_20 : decode cX8_read 20 = .ok (.ldc 79, 2) := by decide +kernel
theorem dX8_read_22 : decode cX8_read 22 = .ok (.invokestatic 52, 3) := by decide +kernel
theorem dX8_read_25 : decode cX8_read 25 = .ok (.ifCond .eq 7, 3) := by decide +kernel
theorem dX8_read_28 : decode cX8_read 28 = .ok (.iconst 0, 1) := by decide +kernel
theorem dX8_read_29 : decode cX8_read 29 = .ok (.goto 8, 3) := by decide +kernel
theorem dX8_read_32 : decode cX8_read 32 = .ok (.iconst 2, 1) := by decide +kernel
theorem dX8_read_33 : decode cX8_read 33 = .ok (.goto 4, 3) := by decide +kernel
theorem dX8_read_36 : decode cX8_read 36 = .ok (.iconst 1, 1) := by decide +kernel
theorem dX8_read_37 : decode cX8_read 37 = .ok (.putfield 42, 3) := by decide +kernel
theorem dX8_read_40 : decode cX8_read 40 = .ok (.aload_n 0, 1) := by decide +kernel
theorem dX8_read_41 : decode cX8_read 41 = .ok (.getfield 42, 3) := by decide +kernel
theorem dX8_read_44 : decode cX8_read 44 = .ok (.ifCond .le 5, 3) := by decide +kernel
theorem dX8_read_47 : decode cX8_read 47 = .ok (.iconst 0, 1) := by decide +kernel
theorem dX8_read_48 : decode cX8_read 48 = .ok (.ireturn, 1) := by decide +kernel
theorem dX8_read_49 : decode cX8_read 49 = .ok (.aload_n 0, 1) := by decide +kernel
theorem dX8_read_50 : decode cX8_read 50 = .ok (.aload_n 0, 1) := by decide +kernel
theorem dX8_read_51 : decode cX8_read 51 = .ok (.getfield 7, 3) := by decide +kernel
theorem dX8_read_54 : decode cX8_read 54 = .ok (.invokevirtual 71, 3) := by decide +kernel
theorem dX8_read_57 : decode cX8_read 57 = .ok (.aload_n 0, 1) := by decide +kernel
theorem dX8_read_58 : decode cX8_read 58 = .ok (.getfield 7, 3) := by decide +kernel
theorem dX8_read_61 : decode cX8_read 61 = .ok (.iload_n 1, 1) := by decide +kernel
theorem dX8_read_62 : decode cX8_read 62 = .ok (.iconst 4, 1) := by decide +kernel
theorem dX8_read_63 : decode cX8_read 63 = .ok (.invokestatic 56, 3) := by decide +kernel
theorem dX8_read_66 : decode cX8_read 66 = .ok (.iload_n 2, 1) := by decide +kernel
theorem dX8_read_67 : decode cX8_read 67 = .ok (.iastore, 1) := by decide +kernel
theorem dX8_read_68 : decode cX8_read 68 = .ok (.aload_n 0, 1) := by decide +kernel
theorem dX8_read_69 : decode cX8_read 69 = .ok (.iload_n 1, 1) := by decide +kernel
theorem dX8_read_70 : decode cX8_read 70 = .ok (.invokevirtual 80, 3) := by decide +kernel
theorem dX8_read_73 : decode cX8_read 73 = .ok (.ireturn, 1) := by decide +kernel
theorem dX8_unit_0 : decode cX8_unit 0 = .ok (.aload_n 0, 1) := by decide +kernel
theorem dX8_unit_1 : decode cX8_unit 1 = .ok (.aload_n 0, 1) := by decide +kernel
theorem dX8_unit_2 : decode cX8_unit 2 = .ok (.iload_n 1, 1) := by decide +kernel
theorem dX8_unit_3 : decode cX8_unit 3 = .ok (.invokevirtual 75, 3) := by decide +kernel
theorem dX8_unit_6 : decode cX8_unit 6 = .ok (.ifCond .eq 21, 3) := by decide +kernel
theorem dX8_unit_9 : decode cX8_unit 9 = .ok (.iload_n 2, 1) := by decide +kernel
theorem dX8_unit_10 : decode cX8_unit 10 = .ok (.iconst 0, 1) := by decide +kernel
theorem dX8_unit_11 : decode cX8_unit 11 = .ok (.bipush 8, 2) := by decide +kernel
theorem dX8_unit_13 : decode cX8_unit 13 = .ok (.invokestatic 52, 3) := by decide +kernel
theorem dX8_unit_16 : decode cX8_unit 16 = .ok (.ifCond .eq 7, 3) := by decide +kernel
theorem dX8_unit_19 : decode cX8_unit 19 = .ok (.iconst 0, 1) := by decide +kernel
theorem dX8_unit_20 : decode cX8_unit 20 = .ok (.goto 8, 3) := by decide +kernel
theorem dX8_unit_23 : decode cX8_unit 23 = .ok (.iconst 2, 1) := by decide +kernel
theorem dX8_unit_24 : decode cX8_unit 24 = .ok (.goto 4, 3) := by decide +kernel
theorem dX8_unit_27 : decode cX8_unit 27 = .ok (.iconst 1, 1) := by decide +kernel
theorem dX8_unit_28 : decode cX8_unit 28 = .ok (.putfield 42, 3) := by decide +kernel
theorem dX8_unit_31 : decode cX8_unit 31 = .ok (.aload_n 0, 1) := by decide +kernel
theorem dX8_unit_32 : decode cX8_unit 32 = .ok (.getfield 42, 3) := by decide +kernel
theorem dX8_unit_35 : decode cX8_unit 35 = .ok (.ifCond .le 5, 3) := by decide +kernel
theorem dX8_unit_38 : decode cX8_unit 38 = .ok (.iconst 0, 1) := by decide +kernel
theorem dX8_unit_39 : decode cX8_unit 39 = .ok (.ireturn, 1) := by decide +kernel
theorem dX8_unit_40 : decode cX8_unit 40 = .ok (.iload_n 2, 1) := by decide +kernel
theorem dX8_unit_41 : decode cX8_unit 41 = .ok (.tableswitch 56 5 8 #[31, 37, 43, 43], 31) := by decide +kernel
theorem dX8_unit_72 : decode cX8_unit 72 = .ok (.aload_n 0, 1) := by decide +kernel
theorem dX8_unit_73 : decode cX8_unit 73 = .ok (.iload_n 1, 1) := by decide +kernel
theorem dX8_unit_74 : decode cX8_unit 74 = .ok (.invokevirtual 80, 3) := by decide +kernel
theorem dX8_unit_77 : decode cX8_unit 77 = .ok (.ireturn, 1) := by decide +kernel
theorem dX8_unit_78 : decode cX8_unit 78 = .ok (.aload_n 0, 1) := by decide +kernel
theorem dX8_unit_79 : decode cX8_unit 79 = .ok (.iload_n 1, 1) := by decide +kernel
theorem dX8_unit_80 : decode cX8_unit 80 = .ok (.invokevirtual 83, 3) := by decide +kernel
theorem dX8_unit_83 : decode cX8_unit 83 = .ok (.ireturn, 1) := by decide +kernel
theorem dX8_unit_84 : decode cX8_unit 84 = .ok (.aload_n 0, 1) := by decide +kernel
theorem dX8_unit_85 : decode cX8_unit 85 = .ok (.getfield 7, 3) := by decide +kernel
theorem dX8_unit_88 : decode cX8_unit 88 = .ok (.iload_n 1, 1) := by decide +kernel
theorem dX8_unit_89 : decode cX8_unit 89 = .ok (.iload_n 2, 1) := by decide +kernel
theorem dX8_unit_90 : decode cX8_unit 90 = .ok (.iconst 1, 1) := by decide +kernel
theorem dX8_unit_91 : decode cX8_unit 91 = .ok (.isub, 1) := by decide +kernel
theorem dX8_unit_92 : decode cX8_unit 92 = .ok (.invokestatic 56, 3) := by decide +kernel
theorem dX8_unit_95 : decode cX8_unit 95 = .ok (.iaload, 1) := by decide +kernel
theorem dX8_unit_96 : decode cX8_unit 96 = .ok (.ireturn, 1) := by decide +kernel
theorem dX8_unit_97 : decode cX8_unit 97 = .ok (.aload_n 0, 1) := by decide +kernel
theorem dX8_unit_98 : decode cX8_unit 98 = .ok (.getfield 7, 3) := by decide +kernel
theorem dX8_unit_101 : decode cX8_unit 101 = .ok (.iload_n 1, 1) := by decide +kernel
theorem dX8_unit_102 : decode cX8_unit 102 = .ok (.iload_n 2, 1) := by decide +kernel
theorem dX8_unit_103 : decode cX8_unit 103 = .ok (.invokestatic 56, 3) := by decide +kernel
theorem dX8_unit_106 : decode cX8_unit 106 = .ok (.iaload, 1) := by decide +kernel
theorem dX8_unit_107 : decode cX8_unit 107 = .ok (.ireturn, 1) := by decide +kernel
theorem dX8_owned_0 : decode cX8_owned 0 = .ok (.aload_n 0, 1) := by decide +kernel
theorem dX8_owned_1 : decode cX8_owned 1 = .ok (.iload_n 1, 1) := by decide +kernel
theorem dX8_owned_2 : decode cX8_owned 2 = .ok (.iconst 0, 1) := by decide +kernel
theorem dX8_owned_3 : decode cX8_owned 3 = .ok (.bipush 7, 2) := by decide +kernel
theorem dX8_owned_5 : decode cX8_owned 5 = .ok (.invokestatic 52, 3) := by decide +kernel
theorem dX8_owned_8 : decode cX8_owned 8 = .ok (.ifCond .eq 7, 3) := by decide +kernel
theorem dX8_owned_11 : decode cX8_owned 11 = .ok (.iconst 0, 1) := by decide +kernel
theorem dX8_owned_12 : decode cX8_owned 12 = .ok (.goto 4, 3) := by decide +kernel
theorem dX8_owned_15 : decode cX8_owned 15 = .ok (.iconst 1, 1) := by decide +kernel
theorem dX8_owned_16 : decode cX8_owned 16 = .ok (.putfield 42, 3) := by decide +kernel
theorem dX8_owned_19 : decode cX8_owned 19 = .ok (.iconst 0, 1) := by decide +kernel
theorem dX8_owned_20 : decode cX8_owned 20 = .ok (.istore_n 2, 1) := by decide +kernel
theorem dX8_owned_21 : decode cX8_owned 21 = .ok (.iconst 0, 1) := by decide +kernel
theorem dX8_owned_22 : decode cX8_owned 22 = .ok (.istore_n 3, 1) := by decide +kernel
theorem dX8_owned_23 : decode cX8_owned 23 = .ok (.iload_n 3, 1) := by decide +kernel
theorem dX8_owned_24 : decode cX8_owned 24 = .ok (.aload_n 0, 1) := by decide +kernel
theorem dX8_owned_25 : decode cX8_owned 25 = .ok (.getfield 7, 3) := by decide +kernel
theorem dX8_owned_28 : decode cX8_owned 28 = .ok (.iconst 2, 1) := by decide +kernel
theorem dX8_owned_29 : decode cX8_owned 29 = .ok (.iaload, 1) := by decide +kernel
theorem dX8_owned_30 : decode cX8_owned 30 = .ok (.if_icmp .ge 42, 3) := by decide +kernel
theorem dX8_owned_33 : decode cX8_owned 33 = .ok (.aload_n 0, 1) := by decide +kernel
theorem dX8_owned_34 : decode cX8_owned 34 = .ok (.getfield 42, 3) := by decide +kernel
theorem dX8_owned_37 : decode cX8_owned 37 = .ok (.ifCond .ne 35, 3) := by decide +kernel
theorem dX8_owned_40 : decode cX8_owned 40 = .ok (.iload_n 2, 1) := by decide +kernel
theorem dX8_owned_41 : decode cX8_owned 41 = .ok (.aload_n 0, 1) := by decide +kernel
theorem dX8_owned_42 : decode cX8_owned 42 = .ok (.getfield 7, 3) := by decide +kernel
theorem dX8_owned_45 : decode cX8_owned 45 = .ok (.iload_n 3, 1) := by decide +kernel
theorem dX8_owned_46 : decode cX8_owned 46 = .ok (.iconst 3, 1) := by decide +kernel
theorem dX8_owned_47 : decode cX8_owned 47 = .ok (.invokestatic 56, 3) := by decide +kernel
theorem dX8_owned_50 : decode cX8_owned 50 = .ok (.iaload, 1) := by decide +kernel
theorem dX8_owned_51 : decode cX8_owned 51 = .ok (.iload_n 1, 1) := by decide +kernel
theorem dX8_owned_52 : decode cX8_owned 52 = .ok (.if_icmp .ne 11, 3) := by decide +kernel
theorem dX8_owned_55 : decode cX8_owned 55 = .ok (.aload_n 0, 1) := by decide +kernel
theorem dX8_owned_56 : decode cX8_owned 56 = .ok (.iload_n 3, 1) := by decide +kernel
theorem dX8_owned_57 : decode cX8_owned 57 = .ok (.invokevirtual 83, 3) := by decide +kernel
theorem dX8_owned_60 : decode cX8_owned 60 = .ok (.goto 4, 3) := by decide +kernel
theorem dX8_owned_63 : decode cX8_owned 63 = .ok (.iconst 0, 1) := by decide +kernel
theorem dX8_owned_64 : decode cX8_owned 64 = .ok (.iadd, 1) := by decide +kernel
theorem dX8_owned_65 : decode cX8_owned 65 = .ok (.istore_n 2, 1) := by decide +kernel
theorem dX8_owned_66 : decode cX8_owned 66 = .ok (.iinc 3 1, 3) := by decide +kernel
theorem dX8_owned_69 : decode cX8_owned 69 = .ok (.goto (-46), 3) := by decide +kernel
theorem dX8_owned_72 : decode cX8_owned 72 = .ok (.iload_n 2, 1) := by decide +kernel
theorem dX8_owned_73 : decode cX8_owned 73 = .ok (.ireturn, 1) := by decide +kernel
theorem dX8_debtor_0 : decode cX8_debtor 0 = .ok (.aload_n 0, 1) := by decide +kernel
theorem dX8_debtor_1 : decode cX8_debtor 1 = .ok (.aload_n 0, 1) := by decide +kernel
theorem dX8_debtor_2 : decode cX8_debtor 2 = .ok (.getfield 7, 3) := by decide +kernel
theorem dX8_debtor_5 : decode cX8_debtor 5 = .ok (.iconst 2, 1) := by decide +kernel
theorem dX8_debtor_6 : decode cX8_debtor 6 = .ok (.iaload, 1) := by decide +kernel
theorem dX8_debtor_7 : decode cX8_debtor 7 = .ok (.ifCond .ne 7, 3) := by decide +kernel
theorem dX8_debtor_10 : decode cX8_debtor 10 = .ok (.iconst 1, 1) := by decide +kernel
theorem dX8_debtor_11 : decode cX8_debtor 11 = .ok (.goto 4, 3) := by decide +kernel
theorem dX8_debtor_14 : decode cX8_debtor 14 = .ok (.iconst 0, 1) := by decide +kernel
theorem dX8_debtor_15 : decode cX8_debtor 15 = .ok (.putfield 42, 3) := by decide +kernel
theorem dX8_debtor_18 : decode cX8_debtor 18 = .ok (.iconst 0, 1) := by decide +kernel
theorem dX8_debtor_19 : decode cX8_debtor 19 = .ok (.istore_n 1, 1) := by decide +kernel
theorem dX8_debtor_20 : decode cX8_debtor 20 = .ok (.iconst 1, 1) := by decide +kernel
theorem dX8_debtor_21 : decode cX8_debtor 21 = .ok (.istore_n 2, 1) := by decide +kernel
theorem dX8_debtor_22 : decode cX8_debtor 22 = .ok (.iload_n 2, 1) := by decide +kernel
theorem dX8_debtor_23 : decode cX8_debtor 23 = .ok (.aload_n 0, 1) := by decide +kernel
theorem dX8_debtor_24 : decode cX8_debtor 24 = .ok (.getfield 7, 3) := by decide +kernel
theorem dX8_debtor_27 : decode cX8_debtor 27 = .ok (.iconst 2, 1) := by decide +kernel
theorem dX8_debtor_28 : decode cX8_debtor 28 = .ok (.iaload, 1) := by decide +kernel
theorem dX8_debtor_29 : decode cX8_debtor 29 = .ok (.if_icmp .ge 28, 3) := by decide +kernel
theorem dX8_debtor_32 : decode cX8_debtor 32 = .ok (.aload_n 0, 1) := by decide +kernel
theorem dX8_debtor_33 : decode cX8_debtor 33 = .ok (.iload_n 2, 1) := by decide +kernel
theorem dX8_debtor_34 : decode cX8_debtor 34 = .ok (.invokevirtual 83, 3) := by decide +kernel
theorem dX8_debtor_37 : decode cX8_debtor 37 = .ok (.aload_n 0, 1) := by decide +kernel
theorem dX8_debtor_38 : decode cX8_debtor 38 = .ok (.iload_n 1, 1) := by decide +kernel
theorem dX8_debtor_39 : decode cX8_debtor 39 = .ok (.invokevirtual 83, 3) := by decide +kernel
theorem dX8_debtor_42 : decode cX8_debtor 42 = .ok (.if_icmp .ge 7, 3) := by decide +kernel
theorem dX8_debtor_45 : decode cX8_debtor 45 = .ok (.iload_n 2, 1) := by decide +kernel
theorem dX8_debtor_46 : decode cX8_debtor 46 = .ok (.goto 4, 3) := by decide +kernel
theorem dX8_debtor_49 : decode cX8_debtor 49 = .ok (.iload_n 1, 1) := by decide +kernel
theorem dX8_debtor_50 : decode cX8_debtor 50 = .ok (.istore_n 1, 1) := by decide +kernel
theorem dX8_debtor_51 : decode cX8_debtor 51 = .ok (.iinc 2 1, 3) := by decide +kernel
theorem dX8_debtor_54 : decode cX8_debtor 54 = .ok (.goto (-32), 3) := by decide +kernel
theorem dX8_debtor_57 : decode cX8_debtor 57 = .ok (.iload_n 1, 1) := by decide +kernel
theorem dX8_debtor_58 : decode cX8_debtor 58 = .ok (.ireturn, 1) := by decide +kernel
theorem dX8_shares_0 : decode cX8_shares 0 = .ok (.aload_n 0, 1) := by decide +kernel
theorem dX8_shares_1 : decode cX8_shares 1 = .ok (.iload_n 1, 1) := by decide +kernel
theorem dX8_shares_2 : decode cX8_shares 2 = .ok (.iconst 0, 1) := by decide +kernel
theorem dX8_shares_3 : decode cX8_shares 3 = .ok (.iconst 2, 1) := by decide +kernel
theorem dX8_shares_4 : decode cX8_shares 4 = .ok (.invokestatic 52, 3) := by decide +kernel
theorem dX8_shares_7 : decode cX8_shares 7 = .ok (.ifCond .eq 16, 3) := by decide +kernel
theorem dX8_shares_10 : decode cX8_shares 10 = .ok (.iload_n 2, 1) := by decide +kernel
theorem dX8_shares_11 : decode cX8_shares 11 = .ok (.iconst (-1), 1) := by decide +kernel
theorem dX8_shares_12 : decode cX8_shares 12 = .ok (.iconst 2, 1) := by decide +kernel
theorem dX8_shares_13 : decode cX8_shares 13 = .ok (.invokestatic 52, 3) := by decide +kernel
theorem dX8_shares_16 : decode cX8_shares 16 = .ok (.ifCond .eq 7, 3) := by decide +kernel
theorem dX8_shares_19 : decode cX8_shares 19 = .ok (.iconst 0, 1) := by decide +kernel
theorem dX8_shares_20 : decode cX8_shares 20 = .ok (.goto 4, 3) := by decide +kernel
theorem dX8_shares_23 : decode cX8_shares 23 = .ok (.iconst 1, 1) := by decide +kernel
theorem dX8_shares_24 : decode cX8_shares 24 = .ok (.putfield 42, 3) := by decide +kernel
theorem dX8_shares_27 : decode cX8_shares 27 = .ok (.iconst 0, 1) := by decide +kernel
theorem dX8_shares_28 : decode cX8_shares 28 = .ok (.istore_n 3, 1) := by decide +kernel
theorem dX8_shares_29 : decode cX8_shares 29 = .ok (.iconst 0, 1) := by decide +kernel
theorem dX8_shares_30 : decode cX8_shares 30 = .ok (.istore 4, 2) := by decide +kernel
theorem dX8_shares_32 : decode cX8_shares 32 = .ok (.iload 4, 2) := by decide +kernel
theorem dX8_shares_34 : decode cX8_shares 34 = .ok (.aload_n 0, 1) := by decide +kernel
theorem dX8_shares_35 : decode cX8_shares 35 = .ok (.getfield 7, 3) := by decide +kernel
theorem dX8_shares_38 : decode cX8_shares 38 = .ok (.iconst 2, 1) := by decide +kernel
theorem dX8_shares_39 : decode cX8_shares 39 = .ok (.iaload, 1) := by decide +kernel
theorem dX8_shares_40 : decode cX8_shares 40 = .ok (.if_icmp .ge 68, 3) := by decide +kernel
theorem dX8_shares_43 : decode cX8_shares 43 = .ok (.aload_n 0, 1) := by decide +kernel
theorem dX8_shares_44 : decode cX8_shares 44 = .ok (.getfield 42, 3) := by decide +kernel
theorem dX8_shares_47 : decode cX8_shares 47 = .ok (.ifCond .ne 61, 3) := by decide +kernel
theorem dX8_shares_50 : decode cX8_shares 50 = .ok (.iload_n 3, 1) := by decide +kernel
theorem dX8_shares_51 : decode cX8_shares 51 = .ok (.aload_n 0, 1) := by decide +kernel
theorem dX8_shares_52 : decode cX8_shares 52 = .ok (.getfield 7, 3) := by decide +kernel
theorem dX8_shares_55 : decode cX8_shares 55 = .ok (.iload 4, 2) := by decide +kernel
theorem dX8_shares_57 : decode cX8_shares 57 = .ok (.iconst 0, 1) := by decide +kernel
theorem dX8_shares_58 : decode cX8_shares 58 = .ok (.invokestatic 56, 3) := by decide +kernel
theorem dX8_shares_61 : decode cX8_shares 61 = .ok (.iaload, 1) := by decide +kernel
theorem dX8_shares_62 : decode cX8_shares 62 = .ok (.iload_n 1, 1) := by decide +kernel
theorem dX8_shares_63 : decode cX8_shares 63 = .ok (.if_icmp .ne 36, 3) := by decide +kernel
theorem dX8_shares_66 : decode cX8_shares 66 = .ok (.iload_n 2, 1) := by decide +kernel
theorem dX8_shares_67 : decode cX8_shares 67 = .ok (.ifCond .lt 18, 3) := by decide +kernel
theorem dX8_shares_70 : decode cX8_shares 70 = .ok (.aload_n 0, 1) := by decide +kernel
theorem dX8_shares_71 : decode cX8_shares 71 = .ok (.getfield 7, 3) := by decide +kernel
theorem dX8_shares_74 : decode cX8_shares 74 = .ok (.iload 4, 2) := by decide +kernel
theorem dX8_shares_76 : decode cX8_shares 76 = .ok (.iconst 1, 1) := by decide +kernel
theorem dX8_shares_77 : decode cX8_shares 77 = .ok (.invokestatic 56, 3) := by decide +kernel
theorem dX8_shares_80 : decode cX8_shares 80 = .ok (.iaload, 1) := by decide +kernel
theorem dX8_shares_81 : decode cX8_shares 81 = .ok (.iload_n 2, 1) := by decide +kernel
theorem dX8_shares_82 : decode cX8_shares 82 = .ok (.if_icmp .ne 17, 3) := by decide +kernel
theorem dX8_shares_85 : decode cX8_shares 85 = .ok (.aload_n 0, 1) := by decide +kernel
theorem dX8_shares_86 : decode cX8_shares 86 = .ok (.getfield 7, 3) := by decide +kernel
theorem dX8_shares_89 : decode cX8_shares 89 = .ok (.iload 4, 2) := by decide +kernel
theorem dX8_shares_91 : decode cX8_shares 91 = .ok (.iconst 2, 1) := by decide +kernel
theorem dX8_shares_92 : decode cX8_shares 92 = .ok (.invokestatic 56, 3) := by decide +kernel
theorem dX8_shares_95 : decode cX8_shares 95 = .ok (.iaload, 1) := by decide +kernel
theorem dX8_shares_96 : decode cX8_shares 96 = .ok (.goto 4, 3) := by decide +kernel
theorem dX8_shares_99 : decode cX8_shares 99 = .ok (.iconst 0, 1) := by decide +kernel
theorem dX8_shares_100 : decode cX8_shares 100 = .ok (.iadd, 1) := by decide +kernel
theorem dX8_shares_101 : decode cX8_shares 101 = .ok (.istore_n 3, 1) := by decide +kernel
theorem dX8_shares_102 : decode cX8_shares 102 = .ok (.iinc 4 1, 3) := by decide +kernel
theorem dX8_shares_105 : decode cX8_shares 105 = .ok (.goto (-73), 3) := by decide +kernel
theorem dX8_shares_108 : decode cX8_shares 108 = .ok (.iload_n 3, 1) := by decide +kernel
theorem dX8_shares_109 : decode cX8_shares 109 = .ok (.ireturn, 1) := by decide +kernel
theorem dX8_concerns_0 : decode cX8_concerns 0 = .ok (.iload_n 1, 1) := by decide +kernel
theorem dX8_concerns_1 : decode cX8_concerns 1 = .ok (.lookupswitch 80 #[(1, 27), (2, 47)], 27) := by decide +kernel
theorem dX8_concerns_28 : decode cX8_concerns 28 = .ok (.aload_n 0, 1) := by decide +kernel
theorem dX8_concerns_29 : decode cX8_concerns 29 = .ok (.getfield 7, 3) := by decide +kernel
theorem dX8_concerns_32 : decode cX8_concerns 32 = .ok (.iload_n 3, 1) := by decide +kernel
theorem dX8_concerns_33 : decode cX8_concerns 33 = .ok (.iconst 0, 1) := by decide +kernel
theorem dX8_concerns_34 : decode cX8_concerns 34 = .ok (.invokestatic 56, 3) := by decide +kernel
theorem dX8_concerns_37 : decode cX8_concerns 37 = .ok (.iaload, 1) := by decide +kernel
theorem dX8_concerns_38 : decode cX8_concerns 38 = .ok (.iload_n 2, 1) := by decide +kernel
theorem dX8_concerns_39 : decode cX8_concerns 39 = .ok (.if_icmp .ne 7, 3) := by decide +kernel
theorem dX8_concerns_42 : decode cX8_concerns 42 = .ok (.iconst 1, 1) := by decide +kernel
theorem dX8_concerns_43 : decode cX8_concerns 43 = .ok (.goto 4, 3) := by decide +kernel
theorem dX8_concerns_46 : decode cX8_concerns 46 = .ok (.iconst 0, 1) := by decide +kernel
theorem dX8_concerns_47 : decode cX8_concerns 47 = .ok (.ireturn, 1) := by decide +kernel
theorem dX8_concerns_48 : decode cX8_concerns 48 = .ok (.iconst 3, 1) := by decide +kernel
theorem dX8_concerns_49 : decode cX8_concerns 49 = .ok (.aload_n 0, 1) := by decide +kernel
theorem dX8_concerns_50 : decode cX8_concerns 50 = .ok (.getfield 7, 3) := by decide +kernel
theorem dX8_concerns_53 : decode cX8_concerns 53 = .ok (.iload_n 3, 1) := by decide +kernel
theorem dX8_concerns_54 : decode cX8_concerns 54 = .ok (.iconst 0, 1) := by decide +kernel
theorem dX8_concerns_55 : decode cX8_concerns 55 = .ok (.invokestatic 56, 3) := by decide +kernel
theorem dX8_concerns_58 : decode cX8_concerns 58 = .ok (.iaload, 1) := by decide +kernel
theorem dX8_concerns_59 : decode cX8_concerns 59 = .ok (.imul, 1) := by decide +kernel
theorem dX8_concerns_60 : decode cX8_concerns 60 = .ok (.aload_n 0, 1) := by decide +kernel
theorem dX8_concerns_61 : decode cX8_concerns 61 = .ok (.getfield 7, 3) := by decide +kernel
theorem dX8_concerns_64 : decode cX8_concerns 64 = .ok (.iload_n 3, 1) := by decide +kernel
theorem dX8_concerns_65 : decode cX8_concerns 65 = .ok (.iconst 1, 1) := by decide +kernel
theorem dX8_concerns_66 : decode cX8_concerns 66 = .ok (.invokestatic 56, 3) := by decide +kernel
theorem dX8_concerns_69 : decode cX8_concerns 69 = .ok (.iaload, 1) := by decide +kernel
theorem dX8_concerns_70 : decode cX8_concerns 70 = .ok (.iadd, 1) := by decide +kernel
theorem dX8_concerns_71 : decode cX8_concerns 71 = .ok (.iload_n 2, 1) := by decide +kernel
theorem dX8_concerns_72 : decode cX8_concerns 72 = .ok (.if_icmp .ne 7, 3) := by decide +kernel
theorem dX8_concerns_75 : decode cX8_concerns 75 = .ok (.iconst 1, 1) := by decide +kernel
theorem dX8_concerns_76 : decode cX8_concerns 76 = .ok (.goto 4, 3) := by decide +kernel
theorem dX8_concerns_79 : decode cX8_concerns 79 = .ok (.iconst 0, 1) := by decide +kernel
theorem dX8_concerns_80 : decode cX8_concerns 80 = .ok (.ireturn, 1) := by decide +kernel
theorem dX8_concerns_81 : decode cX8_concerns 81 = .ok (.iconst 1, 1) := by decide +kernel
theorem dX8_concerns_82 : decode cX8_concerns 82 = .ok (.ireturn, 1) := by decide +kernel
theorem dX8_concerned_0 : decode cX8_concerned 0 = .ok (.iconst 0, 1) := by decide +kernel
theorem dX8_concerned_1 : decode cX8_concerned 1 = .ok (.istore_n 3, 1) := by decide +kernel
theorem dX8_concerned_2 : decode cX8_concerned 2 = .ok (.iconst 0, 1) := by decide +kernel
theorem dX8_concerned_3 : decode cX8_concerned 3 = .ok (.istore 4, 2) := by decide +kernel
theorem dX8_concerned_5 : decode cX8_concerned 5 = .ok (.iload 4, 2) := by decide +kernel
theorem dX8_concerned_7 : decode cX8_concerned 7 = .ok (.aload_n 0, 1) := by decide +kernel
theorem dX8_concerned_8 : decode cX8_concerned 8 = .ok (.getfield 7, 3) := by decide +kernel
theorem dX8_concerned_11 : decode cX8_concerned 11 = .ok (.iconst 2, 1) := by decide +kernel
theorem dX8_concerned_12 : decode cX8_concerned 12 = .ok (.iaload, 1) := by decide +kernel
theorem dX8_concerned_13 : decode cX8_concerned 13 = .ok (.if_icmp .ge 28, 3) := by decide +kernel
theorem dX8_concerned_16 : decode cX8_concerned 16 = .ok (.iload_n 3, 1) := by decide +kernel
theorem dX8_concerned_17 : decode cX8_concerned 17 = .ok (.aload_n 0, 1) := by decide +kernel
theorem dX8_concerned_18 : decode cX8_concerned 18 = .ok (.iload_n 1, 1) := by decide +kernel
theorem dX8_concerned_19 : decode cX8_concerned 19 = .ok (.iload_n 2, 1) := by decide +kernel
theorem dX8_concerned_20 : decode cX8_concerned 20 = .ok (.iload 4, 2) := by decide +kernel
theorem dX8_concerned_22 : decode cX8_concerned 22 = .ok (.invokevirtual 86, 3) := by decide +kernel
theorem dX8_concerned_25 : decode cX8_concerned 25 = .ok (.ifCond .eq 7, 3) := by decide +kernel
theorem dX8_concerned_28 : decode cX8_concerned 28 = .ok (.iconst 1, 1) := by decide +kernel
theorem dX8_concerned_29 : decode cX8_concerned 29 = .ok (.goto 4, 3) := by decide +kernel
theorem dX8_concerned_32 : decode cX8_concerned 32 = .ok (.iconst 0, 1) := by decide +kernel
theorem dX8_concerned_33 : decode cX8_concerned 33 = .ok (.iadd, 1) := by decide +kernel
theorem dX8_concerned_34 : decode cX8_concerned 34 = .ok (.istore_n 3, 1) := by decide +kernel
theorem dX8_concerned_35 : decode cX8_concerned 35 = .ok (.iinc 4 1, 3) := by decide +kernel
theorem dX8_concerned_38 : decode cX8_concerned 38 = .ok (.goto (-33), 3) := by decide +kernel
theorem dX8_concerned_41 : decode cX8_concerned 41 = .ok (.iload_n 3, 1) := by decide +kernel
theorem dX8_concerned_42 : decode cX8_concerned 42 = .ok (.ireturn, 1) := by decide +kernel
theorem dX8_weight_0 : decode cX8_weight 0 = .ok (.aload_n 0, 1) := by decide +kernel
theorem dX8_weight_1 : decode cX8_weight 1 = .ok (.iload_n 1, 1) := by decide +kernel
theorem dX8_weight_2 : decode cX8_weight 2 = .ok (.iload_n 2, 1) := by decide +kernel
theorem dX8_weight_3 : decode cX8_weight 3 = .ok (.iload_n 3, 1) := by decide +kernel
theorem dX8_weight_4 : decode cX8_weight 4 = .ok (.invokevirtual 86, 3) := by decide +kernel
theorem dX8_weight_7 : decode cX8_weight 7 = .ok (.ifCond .ne 7, 3) := by decide +kernel
theorem dX8_weight_10 : decode cX8_weight 10 = .ok (.iconst 0, 1) := by decide +kernel
theorem dX8_weight_11 : decode cX8_weight 11 = .ok (.goto 35, 3) := by decide +kernel
theorem dX8_weight_14 : decode cX8_weight 14 = .ok (.iload_n 1, 1) := by decide +kernel
theorem dX8_weight_15 : decode cX8_weight 15 = .ok (.iconst 3, 1) := by decide +kernel
theorem dX8_weight_16 : decode cX8_weight 16 = .ok (.if_icmp .ne 7, 3) := by decide +kernel
theorem dX8_weight_19 : decode cX8_weight 19 = .ok (.iconst 1, 1) := by decide +kernel
theorem dX8_weight_20 : decode cX8_weight 20 = .ok (.goto 26, 3) := by decide +kernel
theorem dX8_weight_23 : decode cX8_weight 23 = .ok (.iload_n 1, 1) := by decide +kernel
theorem dX8_weight_24 : decode cX8_weight 24 = .ok (.iconst 4, 1) := by decide +kernel
theorem dX8_weight_25 : decode cX8_weight 25 = .ok (.if_icmp .ne 11, 3) := by decide +kernel
theorem dX8_weight_28 : decode cX8_weight 28 = .ok (.aload_n 0, 1) := by decide +kernel
theorem dX8_weight_29 : decode cX8_weight 29 = .ok (.iload_n 3, 1) := by decide +kernel
theorem dX8_weight_30 : decode cX8_weight 30 = .ok (.invokevirtual 80, 3) := by decide +kernel
theorem dX8_weight_33 : decode cX8_weight 33 = .ok (.goto 13, 3) := by decide +kernel
theorem dX8_weight_36 : decode cX8_weight 36 = .ok (.aload_n 0, 1) := by decide +kernel
theorem dX8_weight_37 : decode cX8_weight 37 = .ok (.getfield 7, 3) := by decide +kernel
theorem dX8_weight_40 : decode cX8_weight 40 = .ok (.iload_n 3, 1) := by decide +kernel
theorem dX8_weight_41 : decode cX8_weight 41 = .ok (.iconst 2, 1) := by decide +kernel
theorem dX8_weight_42 : decode cX8_weight 42 = .ok (.invokestatic 56, 3) := by decide +kernel
theorem dX8_weight_45 : decode cX8_weight 45 = .ok (.iaload, 1) := by decide +kernel
theorem dX8_weight_46 : decode cX8_weight 46 = .ok (.ireturn, 1) := by decide +kernel
theorem dX8_weighs_0 : decode cX8_weighs 0 = .ok (.lconst 0, 1) := by decide +kernel
theorem dX8_weighs_1 : decode cX8_weighs 1 = .ok (.lstore 4, 2) := by decide +kernel
theorem dX8_weighs_3 : decode cX8_weighs 3 = .ok (.iconst 0, 1) := by decide +kernel
theorem dX8_weighs_4 : decode cX8_weighs 4 = .ok (.istore 6, 2) := by decide +kernel
theorem dX8_weighs_6 : decode cX8_weighs 6 = .ok (.iload 6, 2) := by decide +kernel
theorem dX8_weighs_8 : decode cX8_weighs 8 = .ok (.aload_n 0, 1) := by decide +kernel
theorem dX8_weighs_9 : decode cX8_weighs 9 = .ok (.getfield 7, 3) := by decide +kernel
theorem dX8_weighs_12 : decode cX8_weighs 12 = .ok (.iconst 2, 1) := by decide +kernel
theorem dX8_weighs_13 : decode cX8_weighs 13 = .ok (.iaload, 1) := by decide +kernel
theorem dX8_weighs_14 : decode cX8_weighs 14 = .ok (.if_icmp .ge 23, 3) := by decide +kernel
theorem dX8_weighs_17 : decode cX8_weighs 17 = .ok (.lload 4, 2) := by decide +kernel
theorem dX8_weighs_19 : decode cX8_weighs 19 = .ok (.aload_n 0, 1) := by decide +kernel
theorem dX8_weighs_20 : decode cX8_weighs 20 = .ok (.iload_n 1, 1) := by decide +kernel
theorem dX8_weighs_21 : decode cX8_weighs 21 = .ok (.iload_n 2, 1) := by decide +kernel
theorem dX8_weighs_22 : decode cX8_weighs 22 = .ok (.iload 6, 2) := by decide +kernel
theorem dX8_weighs_24 : decode cX8_weighs 24 = .ok (.invokevirtual 89, 3) := by decide +kernel
theorem dX8_weighs_27 : decode cX8_weighs 27 = .ok (.i2l, 1) := by decide +kernel
theorem dX8_weighs_28 : decode cX8_weighs 28 = .ok (.ladd, 1) := by decide +kernel
theorem dX8_weighs_29 : decode cX8_weighs 29 = .ok (.lstore 4, 2) := by decide +kernel
theorem dX8_weighs_31 : decode cX8_weighs 31 = .ok (.iinc 6 1, 3) := by decide +kernel
theorem dX8_weighs_34 : decode cX8_weighs 34 = .ok (.goto (-28), 3) := by decide +kernel
theorem dX8_weighs_37 : decode cX8_weighs 37 = .ok (.iload_n 3, 1) := by decide +kernel
theorem dX8_weighs_38 : decode cX8_weighs 38 = .ok (.istore 6, 2) := by decide +kernel
theorem dX8_weighs_40 : decode cX8_weighs 40 = .ok (.iconst 0, 1) := by decide +kernel
theorem dX8_weighs_41 : decode cX8_weighs 41 = .ok (.istore 7, 2) := by decide +kernel
theorem dX8_weighs_43 : decode cX8_weighs 43 = .ok (.iload 7, 2) := by decide +kernel
theorem dX8_weighs_45 : decode cX8_weighs 45 = .ok (.aload_n 0, 1) := by decide +kernel
theorem dX8_weighs_46 : decode cX8_weighs 46 = .ok (.getfield 7, 3) := by decide +kernel
theorem dX8_weighs_49 : decode cX8_weighs 49 = .ok (.iconst 2, 1) := by decide +kernel
theorem dX8_weighs_50 : decode cX8_weighs 50 = .ok (.iaload, 1) := by decide +kernel
theorem dX8_weighs_51 : decode cX8_weighs 51 = .ok (.if_icmp .ge 60, 3) := by decide +kernel
theorem dX8_weighs_54 : decode cX8_weighs 54 = .ok (.iload_n 3, 1) := by decide +kernel
theorem dX8_weighs_55 : decode cX8_weighs 55 = .ok (.i2l, 1) := by decide +kernel
theorem dX8_weighs_56 : decode cX8_weighs 56 = .ok (.aload_n 0, 1) := by decide +kernel
theorem dX8_weighs_57 : decode cX8_weighs 57 = .ok (.iload_n 1, 1) := by decide +kernel
theorem dX8_weighs_58 : decode cX8_weighs 58 = .ok (.iload_n 2, 1) := by decide +kernel
theorem dX8_weighs_59 : decode cX8_weighs 59 = .ok (.iload 7, 2) := by decide +kernel
theorem dX8_weighs_61 : decode cX8_weighs 61 = .ok (.invokevirtual 89, 3) := by decide +kernel
theorem dX8_weighs_64 : decode cX8_weighs 64 = .ok (.i2l, 1) := by decide +kernel
theorem dX8_weighs_65 : decode cX8_weighs 65 = .ok (.lmul, 1) := by decide +kernel
theorem dX8_weighs_66 : decode cX8_weighs 66 = .ok (.lstore 8, 2) := by decide +kernel
theorem dX8_weighs_68 : decode cX8_weighs 68 = .ok (.aload_n 0, 1) := by decide +kernel
theorem dX8_weighs_69 : decode cX8_weighs 69 = .ok (.getfield 26, 3) := by decide +kernel
theorem dX8_weighs_72 : decode cX8_weighs 72 = .ok (.iload 7, 2) := by decide +kernel
theorem dX8_weighs_74 : decode cX8_weighs 74 = .ok (.lload 8, 2) := by decide +kernel
theorem dX8_weighs_76 : decode cX8_weighs 76 = .ok (.lload 4, 2) := by decide +kernel
theorem dX8_weighs_78 : decode cX8_weighs 78 = .ok (.ldiv, 1) := by decide +kernel
theorem dX8_weighs_79 : decode cX8_weighs 79 = .ok (.l2i, 1) := by decide +kernel
theorem dX8_weighs_80 : decode cX8_weighs 80 = .ok (.iastore, 1) := by decide +kernel
theorem dX8_weighs_81 : decode cX8_weighs 81 = .ok (.aload_n 0, 1) := by decide +kernel
theorem dX8_weighs_82 : decode cX8_weighs 82 = .ok (.getfield 22, 3) := by decide +kernel
theorem dX8_weighs_85 : decode cX8_weighs 85 = .ok (.iload 7, 2) := by decide +kernel
theorem dX8_weighs_87 : decode cX8_weighs 87 = .ok (.lload 8, 2) := by decide +kernel
theorem dX8_weighs_89 : decode cX8_weighs 89 = .ok (.lload 4, 2) := by decide +kernel
theorem dX8_weighs_91 : decode cX8_weighs 91 = .ok (.lrem, 1) := by decide +kernel
theorem dX8_weighs_92 : decode cX8_weighs 92 = .ok (.lastore, 1) := by decide +kernel
theorem dX8_weighs_93 : decode cX8_weighs 93 = .ok (.iload 6, 2) := by decide +kernel
theorem dX8_weighs_95 : decode cX8_weighs 95 = .ok (.aload_n 0, 1) := by decide +kernel
theorem dX8_weighs_96 : decode cX8_weighs 96 = .ok (.getfield 26, 3) := by decide +kernel
theorem dX8_weighs_99 : decode cX8_weighs 99 = .ok (.iload 7, 2) := by decide +kernel
theorem dX8_weighs_101 : decode cX8_weighs 101 = .ok (.iaload, 1) := by decide +kernel
theorem dX8_weighs_102 : decode cX8_weighs 102 = .ok (.isub, 1) := by decide +kernel
theorem dX8_weighs_103 : decode cX8_weighs 103 = .ok (.istore 6, 2) := by decide +kernel
theorem dX8_weighs_105 : decode cX8_weighs 105 = .ok (.iinc 7 1, 3) := by decide +kernel
theorem dX8_weighs_108 : decode cX8_weighs 108 = .ok (.goto (-65), 3) := by decide +kernel
theorem dX8_weighs_111 : decode cX8_weighs 111 = .ok (.iload 6, 2) := by decide +kernel
theorem dX8_weighs_113 : decode cX8_weighs 113 = .ok (.ifCond .le 80, 3) := by decide +kernel
theorem dX8_weighs_116 : decode cX8_weighs 116 = .ok (.iconst 0, 1) := by decide +kernel
theorem dX8_weighs_117 : decode cX8_weighs 117 = .ok (.istore 7, 2) := by decide +kernel
theorem dX8_weighs_119 : decode cX8_weighs 119 = .ok (.iconst 1, 1) := by decide +kernel
theorem dX8_weighs_120 : decode cX8_weighs 120 = .ok (.istore 8, 2) := by decide +kernel
theorem dX8_weighs_122 : decode cX8_weighs 122 = .ok (.iload 8, 2) := by decide +kernel
theorem dX8_weighs_124 : decode cX8_weighs 124 = .ok (.aload_n 0, 1) := by decide +kernel
theorem dX8_weighs_125 : decode cX8_weighs 125 = .ok (.getfield 7, 3) := by decide +kernel
theorem dX8_weighs_128 : decode cX8_weighs 128 = .ok (.iconst 2, 1) := by decide +kernel
theorem dX8_weighs_129 : decode cX8_weighs 129 = .ok (.iaload, 1) := by decide +kernel
theorem dX8_weighs_130 : decode cX8_weighs 130 = .ok (.if_icmp .ge 36, 3) := by decide +kernel
theorem dX8_weighs_133 : decode cX8_weighs 133 = .ok (.aload_n 0, 1) := by decide +kernel
theorem dX8_weighs_134 : decode cX8_weighs 134 = .ok (.getfield 22, 3) := by decide +kernel
theorem dX8_weighs_137 : decode cX8_weighs 137 = .ok (.iload 8, 2) := by decide +kernel
theorem dX8_weighs_139 : decode cX8_weighs 139 = .ok (.laload, 1) := by decide +kernel
theorem dX8_weighs_140 : decode cX8_weighs 140 = .ok (.aload_n 0, 1) := by decide +kernel
theorem dX8_weighs_141 : decode cX8_weighs 141 = .ok (.getfield 22, 3) := by decide +kernel
theorem dX8_weighs_144 : decode cX8_weighs 144 = .ok (.iload 7, 2) := by decide +kernel
theorem dX8_weighs_146 : decode cX8_weighs 146 = .ok (.laload, 1) := by decide +kernel
theorem dX8_weighs_147 : decode cX8_weighs 147 = .ok (.lcmp, 1) := by decide +kernel
theorem dX8_weighs_148 : decode cX8_weighs 148 = .ok (.ifCond .le 8, 3) := by decide +kernel
theorem dX8_weighs_151 : decode cX8_weighs 151 = .ok (.iload 8, 2) := by decide +kernel
theorem dX8_weighs_153 : decode cX8_weighs 153 = .ok (.goto 5, 3) := by decide +kernel
theorem dX8_weighs_156 : decode cX8_weighs 156 = .ok (.iload 7, 2) := by decide +kernel
theorem dX8_weighs_158 : decode cX8_weighs 158 = .ok (.istore 7, 2) := by decide +kernel
theorem dX8_weighs_160 : decode cX8_weighs 160 = .ok (.iinc 8 1, 3) := by decide +kernel
theorem dX8_weighs_163 : decode cX8_weighs 163 = .ok (.goto (-41), 3) := by decide +kernel
theorem dX8_weighs_166 : decode cX8_weighs 166 = .ok (.aload_n 0, 1) := by decide +kernel
theorem dX8_weighs_167 : decode cX8_weighs 167 = .ok (.getfield 26, 3) := by decide +kernel
theorem dX8_weighs_170 : decode cX8_weighs 170 = .ok (.iload 7, 2) := by decide +kernel
theorem dX8_weighs_172 : decode cX8_weighs 172 = .ok (.dup2, 1) := by decide +kernel
theorem dX8_weighs_173 : decode cX8_weighs 173 = .ok (.iaload, 1) := by decide +kernel
theorem dX8_weighs_174 : decode cX8_weighs 174 = .ok (.iconst 1, 1) := by decide +kernel
theorem dX8_weighs_175 : decode cX8_weighs 175 = .ok (.iadd, 1) := by decide +kernel
theorem dX8_weighs_176 : decode cX8_weighs 176 = .ok (.iastore, 1) := by decide +kernel
theorem dX8_weighs_177 : decode cX8_weighs 177 = .ok (.aload_n 0, 1) := by decide +kernel
theorem dX8_weighs_178 : decode cX8_weighs 178 = .ok (.getfield 22, 3) := by decide +kernel
theorem dX8_weighs_181 : decode cX8_weighs 181 = .ok (.iload 7, 2) := by decide +kernel
theorem dX8_weighs_183 : decode cX8_weighs 183 = .ok (.ldc2_w 93, 3) := by decide +kernel
theorem dX8_weighs_186 : decode cX8_weighs 186 = .ok (.lastore, 1) := by decide +kernel
theorem dX8_weighs_187 : decode cX8_weighs 187 = .ok (.iinc 6 (-1), 3) := by decide +kernel
theorem dX8_weighs_190 : decode cX8_weighs 190 = .ok (.goto (-79), 3) := by decide +kernel
theorem dX8_weighs_193 : decode cX8_weighs 193 = .ok (.iconst 0, 1) := by decide +kernel
theorem dX8_weighs_194 : decode cX8_weighs 194 = .ok (.istore 7, 2) := by decide +kernel
theorem dX8_weighs_196 : decode cX8_weighs 196 = .ok (.iload 7, 2) := by decide +kernel
theorem dX8_weighs_198 : decode cX8_weighs 198 = .ok (.aload_n 0, 1) := by decide +kernel
theorem dX8_weighs_199 : decode cX8_weighs 199 = .ok (.getfield 7, 3) := by decide +kernel
theorem dX8_weighs_202 : decode cX8_weighs 202 = .ok (.iconst 2, 1) := by decide +kernel
theorem dX8_weighs_203 : decode cX8_weighs 203 = .ok (.iaload, 1) := by decide +kernel
theorem dX8_weighs_204 : decode cX8_weighs 204 = .ok (.if_icmp .ge 26, 3) := by decide +kernel
theorem dX8_weighs_207 : decode cX8_weighs 207 = .ok (.aload_n 0, 1) := by decide +kernel
theorem dX8_weighs_208 : decode cX8_weighs 208 = .ok (.getfield 29, 3) := by decide +kernel
theorem dX8_weighs_211 : decode cX8_weighs 211 = .ok (.iload 7, 2) := by decide +kernel
theorem dX8_weighs_213 : decode cX8_weighs 213 = .ok (.dup2, 1) := by decide +kernel
theorem dX8_weighs_214 : decode cX8_weighs 214 = .ok (.iaload, 1) := by decide +kernel
theorem dX8_weighs_215 : decode cX8_weighs 215 = .ok (.aload_n 0, 1) := by decide +kernel
theorem dX8_weighs_216 : decode cX8_weighs 216 = .ok (.getfield 26, 3) := by decide +kernel
theorem dX8_weighs_219 : decode cX8_weighs 219 = .ok (.iload 7, 2) := by decide +kernel
theorem dX8_weighs_221 : decode cX8_weighs 221 = .ok (.iaload, 1) := by decide +kernel
theorem dX8_weighs_222 : decode cX8_weighs 222 = .ok (.iadd, 1) := by decide +kernel
theorem dX8_weighs_223 : decode cX8_weighs 223 = .ok (.iastore, 1) := by decide +kernel
theorem dX8_weighs_224 : decode cX8_weighs 224 = .ok (.iinc 7 1, 3) := by decide +kernel
theorem dX8_weighs_227 : decode cX8_weighs 227 = .ok (.goto (-31), 3) := by decide +kernel
theorem dX8_weighs_230 : decode cX8_weighs 230 = .ok (.return_, 1) := by decide +kernel
theorem dX8_isUsed_0 : decode cX8_isUsed 0 = .ok (.iconst 0, 1) := by decide +kernel
theorem dX8_isUsed_1 : decode cX8_isUsed 1 = .ok (.istore_n 1, 1) := by decide +kernel
theorem dX8_isUsed_2 : decode cX8_isUsed 2 = .ok (.iload_n 1, 1) := by decide +kernel
theorem dX8_isUsed_3 : decode cX8_isUsed 3 = .ok (.aload_n 0, 1) := by decide +kernel
theorem dX8_isUsed_4 : decode cX8_isUsed 4 = .ok (.getfield 7, 3) := by decide +kernel
theorem dX8_isUsed_7 : decode cX8_isUsed 7 = .ok (.iconst 2, 1) := by decide +kernel
theorem dX8_isUsed_8 : decode cX8_isUsed 8 = .ok (.iaload, 1) := by decide +kernel
theorem dX8_isUsed_9 : decode cX8_isUsed 9 = .ok (.if_icmp .ge 19, 3) := by decide +kernel
theorem dX8_isUsed_12 : decode cX8_isUsed 12 = .ok (.aload_n 0, 1) := by decide +kernel
theorem dX8_isUsed_13 : decode cX8_isUsed 13 = .ok (.iload_n 1, 1) := by decide +kernel
theorem dX8_isUsed_14 : decode cX8_isUsed 14 = .ok (.invokevirtual 80, 3) := by decide +kernel
theorem dX8_isUsed_17 : decode cX8_isUsed 17 = .ok (.ifCond .le 5, 3) := by decide +kernel
theorem dX8_isUsed_20 : decode cX8_isUsed 20 = .ok (.iconst 1, 1) := by decide +kernel
theorem dX8_isUsed_21 : decode cX8_isUsed 21 = .ok (.ireturn, 1) := by decide +kernel
theorem dX8_isUsed_22 : decode cX8_isUsed 22 = .ok (.iinc 1 1, 3) := by decide +kernel
theorem dX8_isUsed_25 : decode cX8_isUsed 25 = .ok (.goto (-23), 3) := by decide +kernel
theorem dX8_isUsed_28 : decode cX8_isUsed 28 = .ok (.iconst 0, 1) := by decide +kernel
theorem dX8_isUsed_29 : decode cX8_isUsed 29 = .ok (.ireturn, 1) := by decide +kernel
theorem dX8_divides_0 : decode cX8_divides 0 = .ok (.iconst 0, 1) := by decide +kernel
theorem dX8_divides_1 : decode cX8_divides 1 = .ok (.istore 4, 2) := by decide +kernel
theorem dX8_divides_3 : decode cX8_divides 3 = .ok (.iload 4, 2) := by decide +kernel
theorem dX8_divides_5 : decode cX8_divides 5 = .ok (.aload_n 0, 1) := by decide +kernel
theorem dX8_divides_6 : decode cX8_divides 6 = .ok (.getfield 7, 3) := by decide +kernel
theorem dX8_divides_9 : decode cX8_divides 9 = .ok (.iconst 2, 1) := by decide +kernel
theorem dX8_divides_10 : decode cX8_divides 10 = .ok (.iaload, 1) := by decide +kernel
theorem dX8_divides_11 : decode cX8_divides 11 = .ok (.if_icmp .ge 17, 3) := by decide +kernel
theorem dX8_divides_14 : decode cX8_divides 14 = .ok (.aload_n 0, 1) := by decide +kernel
theorem dX8_divides_15 : decode cX8_divides 15 = .ok (.getfield 29, 3) := by decide +kernel
theorem dX8_divides_18 : decode cX8_divides 18 = .ok (.iload 4, 2) := by decide +kernel
theorem dX8_divides_20 : decode cX8_divides 20 = .ok (.iconst 0, 1) := by decide +kernel
theorem dX8_divides_21 : decode cX8_divides 21 = .ok (.iastore, 1) := by decide +kernel
theorem dX8_divides_22 : decode cX8_divides 22 = .ok (.iinc 4 1, 3) := by decide +kernel
theorem dX8_divides_25 : decode cX8_divides 25 = .ok (.goto (-22), 3) := by decide +kernel
theorem dX8_divides_28 : decode cX8_divides 28 = .ok (.iload_n 1, 1) := by decide +kernel
theorem dX8_divides_29 : decode cX8_divides 29 = .ok (.iconst 4, 1) := by decide +kernel
theorem dX8_divides_30 : decode cX8_divides 30 = .ok (.if_icmp .ge 11, 3) := by decide +kernel
theorem dX8_divides_33 : decode cX8_divides 33 = .ok (.aload_n 0, 1) := by decide +kernel
theorem dX8_divides_34 : decode cX8_divides 34 = .ok (.iload_n 1, 1) := by decide +kernel
theorem dX8_divides_35 : decode cX8_divides 35 = .ok (.iload_n 2, 1) := by decide +kernel
theorem dX8_divides_36 : decode cX8_divides 36 = .ok (.iload_n 3, 1) := by decide +kernel
theorem dX8_divides_37 : decode cX8_divides 37 = .ok (.invokevirtual 95, 3) := by decide +kernel
theorem dX8_divides_40 : decode cX8_divides 40 = .ok (.return_, 1) := by decide +kernel
theorem dX8_divides_41 : decode cX8_divides 41 = .ok (.iload_n 3, 1) := by decide +kernel
theorem dX8_divides_42 : decode cX8_divides 42 = .ok (.i2l, 1) := by decide +kernel
theorem dX8_divides_43 : decode cX8_divides 43 = .ok (.aload_n 0, 1) := by decide +kernel
theorem dX8_divides_44 : decode cX8_divides 44 = .ok (.getfield 7, 3) := by decide +kernel
theorem dX8_divides_47 : decode cX8_divides 47 = .ok (.iconst 0, 1) := by decide +kernel
theorem dX8_divides_48 : decode cX8_divides 48 = .ok (.iaload, 1) := by decide +kernel
theorem dX8_divides_49 : decode cX8_divides 49 = .ok (.i2l, 1) := by decide +kernel
theorem dX8_divides_50 : decode cX8_divides 50 = .ok (.lmul, 1) := by decide +kernel
theorem dX8_divides_51 : decode cX8_divides 51 = .ok (.ldc2_w 99, 3) := by decide +kernel
theorem dX8_divides_54 : decode cX8_divides 54 = .ok (.ldiv, 1) := by decide +kernel
theorem dX8_divides_55 : decode cX8_divides 55 = .ok (.l2i, 1) := by decide +kernel
theorem dX8_divides_56 : decode cX8_divides 56 = .ok (.istore 4, 2) := by decide +kernel
theorem dX8_divides_58 : decode cX8_divides 58 = .ok (.aload_n 0, 1) := by decide +kernel
theorem dX8_divides_59 : decode cX8_divides 59 = .ok (.iconst 0, 1) := by decide +kernel
theorem dX8_divides_60 : decode cX8_divides 60 = .ok (.iconst 0, 1) := by decide +kernel
theorem dX8_divides_61 : decode cX8_divides 61 = .ok (.iload 4, 2) := by decide +kernel
theorem dX8_divides_63 : decode cX8_divides 63 = .ok (.invokevirtual 95, 3) := by decide +kernel
theorem dX8_divides_66 : decode cX8_divides 66 = .ok (.aload_n 0, 1) := by decide +kernel
theorem dX8_divides_67 : decode cX8_divides 67 = .ok (.aload_n 0, 1) := by decide +kernel
theorem dX8_divides_68 : decode cX8_divides 68 = .ok (.invokevirtual 101, 3) := by decide +kernel
theorem dX8_divides_71 : decode cX8_divides 71 = .ok (.ifCond .eq 7, 3) := by decide +kernel
theorem dX8_divides_74 : decode cX8_divides 74 = .ok (.iconst 4, 1) := by decide +kernel
theorem dX8_divides_75 : decode cX8_divides 75 = .ok (.goto 4, 3) := by decide +kernel
theorem dX8_divides_78 : decode cX8_divides 78 = .ok (.iconst 0, 1) := by decide +kernel
theorem dX8_divides_79 : decode cX8_divides 79 = .ok (.iconst 0, 1) := by decide +kernel
theorem dX8_divides_80 : decode cX8_divides 80 = .ok (.iload_n 3, 1) := by decide +kernel
theorem dX8_divides_81 : decode cX8_divides 81 = .ok (.iload 4, 2) := by decide +kernel
theorem dX8_divides_83 : decode cX8_divides 83 = .ok (.isub, 1) := by decide +kernel
theorem dX8_divides_84 : decode cX8_divides 84 = .ok (.invokevirtual 95, 3) := by decide +kernel
theorem dX8_divides_87 : decode cX8_divides 87 = .ok (.return_, 1) := by decide +kernel
theorem dX8_fits_0 : decode cX8_fits 0 = .ok (.iload_n 0, 1) := by decide +kernel
theorem dX8_fits_1 : decode cX8_fits 1 = .ok (.iconst 1, 1) := by decide +kernel
theorem dX8_fits_2 : decode cX8_fits 2 = .ok (.if_icmp .ne 12, 3) := by decide +kernel
theorem dX8_fits_5 : decode cX8_fits 5 = .ok (.iload_n 1, 1) := by decide +kernel
theorem dX8_fits_6 : decode cX8_fits 6 = .ok (.iconst 0, 1) := by decide +kernel
theorem dX8_fits_7 : decode cX8_fits 7 = .ok (.iconst 2, 1) := by decide +kernel
theorem dX8_fits_8 : decode cX8_fits 8 = .ok (.invokestatic 52, 3) := by decide +kernel
theorem dX8_fits_11 : decode cX8_fits 11 = .ok (.goto 27, 3) := by decide +kernel
theorem dX8_fits_14 : decode cX8_fits 14 = .ok (.iload_n 0, 1) := by decide +kernel
theorem dX8_fits_15 : decode cX8_fits 15 = .ok (.iconst 2, 1) := by decide +kernel
theorem dX8_fits_16 : decode cX8_fits 16 = .ok (.if_icmp .ne 13, 3) := by decide +kernel
theorem dX8_fits_19 : decode cX8_fits 19 = .ok (.iload_n 1, 1) := by decide +kernel
theorem dX8_fits_20 : decode cX8_fits 20 = .ok (.iconst 0, 1) := by decide +kernel
theorem dX8_fits_21 : decode cX8_fits 21 = .ok (.bipush 8, 2) := by decide +kernel
theorem dX8_fits_23 : decode cX8_fits 23 = .ok (.invokestatic 52, 3) := by decide +kernel
theorem dX8_fits_26 : decode cX8_fits 26 = .ok (.goto 12, 3) := by decide +kernel
theorem dX8_fits_29 : decode cX8_fits 29 = .ok (.iload_n 1, 1) := by decide +kernel
theorem dX8_fits_30 : decode cX8_fits 30 = .ok (.ifCond .ne 7, 3) := by decide +kernel
theorem dX8_fits_33 : decode cX8_fits 33 = .ok (.iconst 1, 1) := by decide +kernel
theorem dX8_fits_34 : decode cX8_fits 34 = .ok (.goto 4, 3) := by decide +kernel
theorem dX8_fits_37 : decode cX8_fits 37 = .ok (.iconst 0, 1) := by decide +kernel
theorem dX8_fits_38 : decode cX8_fits 38 = .ok (.ireturn, 1) := by decide +kernel
theorem dX8_mayCharge_0 : decode cX8_mayCharge 0 = .ok (.aload_n 0, 1) := by decide +kernel
theorem dX8_mayCharge_1 : decode cX8_mayCharge 1 = .ok (.invokevirtual 105, 3) := by decide +kernel
theorem dX8_mayCharge_4 : decode cX8_mayCharge 4 = .ok (.lstore_n 1, 1) := by decide +kernel
theorem dX8_mayCharge_5 : decode cX8_mayCharge 5 = .ok (.iconst 0, 1) := by decide +kernel
theorem dX8_mayCharge_6 : decode cX8_mayCharge 6 = .ok (.istore_n 3, 1) := by decide +kernel
theorem dX8_mayCharge_7 : decode cX8_mayCharge 7 = .ok (.iload_n 3, 1) := by decide +kernel
theorem dX8_mayCharge_8 : decode cX8_mayCharge 8 = .ok (.aload_n 0, 1) := by decide +kernel
theorem dX8_mayCharge_9 : decode cX8_mayCharge 9 = .ok (.getfield 7, 3) := by decide +kernel
theorem dX8_mayCharge_12 : decode cX8_mayCharge 12 = .ok (.iconst 2, 1) := by decide +kernel
theorem dX8_mayCharge_13 : decode cX8_mayCharge 13 = .ok (.iaload, 1) := by decide +kernel
theorem dX8_mayCharge_14 : decode cX8_mayCharge 14 = .ok (.if_icmp .ge 38, 3) := by decide +kernel
theorem dX8_mayCharge_17 : decode cX8_mayCharge 17 = .ok (.lload_n 1, 1) := by decide +kernel
theorem dX8_mayCharge_18 : decode cX8_mayCharge 18 = .ok (.aload_n 0, 1) := by decide +kernel
theorem dX8_mayCharge_19 : decode cX8_mayCharge 19 = .ok (.getfield 29, 3) := by decide +kernel
theorem dX8_mayCharge_22 : decode cX8_mayCharge 22 = .ok (.iload_n 3, 1) := by decide +kernel
theorem dX8_mayCharge_23 : decode cX8_mayCharge 23 = .ok (.iaload, 1) := by decide +kernel
theorem dX8_mayCharge_24 : decode cX8_mayCharge 24 = .ok (.i2l, 1) := by decide +kernel
theorem dX8_mayCharge_25 : decode cX8_mayCharge 25 = .ok (.ladd, 1) := by decide +kernel
theorem dX8_mayCharge_26 : decode cX8_mayCharge 26 = .ok (.lstore_n 1, 1) := by decide +kernel
theorem dX8_mayCharge_27 : decode cX8_mayCharge 27 = .ok (.aload_n 0, 1) := by decide +kernel
theorem dX8_mayCharge_28 : decode cX8_mayCharge 28 = .ok (.iload_n 3, 1) := by decide +kernel
theorem dX8_mayCharge_29 : decode cX8_mayCharge 29 = .ok (.invokevirtual 83, 3) := by decide +kernel
theorem dX8_mayCharge_32 : decode cX8_mayCharge 32 = .ok (.aload_n 0, 1) := by decide +kernel
theorem dX8_mayCharge_33 : decode cX8_mayCharge 33 = .ok (.getfield 29, 3) := by decide +kernel
theorem dX8_mayCharge_36 : decode cX8_mayCharge 36 = .ok (.iload_n 3, 1) := by decide +kernel
theorem dX8_mayCharge_37 : decode cX8_mayCharge 37 = .ok (.iaload, 1) := by decide +kernel
theorem dX8_mayCharge_38 : decode cX8_mayCharge 38 = .ok (.isub, 1) := by decide +kernel
theorem dX8_mayCharge_39 : decode cX8_mayCharge 39 = .ok (.ldc 109, 2) := by decide +kernel
theorem dX8_mayCharge_41 : decode cX8_mayCharge 41 = .ok (.if_icmp .ge 5, 3) := by decide +kernel
theorem dX8_mayCharge_44 : decode cX8_mayCharge 44 = .ok (.iconst 0, 1) := by decide +kernel
theorem dX8_mayCharge_45 : decode cX8_mayCharge 45 = .ok (.ireturn, 1) := by decide +kernel
theorem dX8_mayCharge_46 : decode cX8_mayCharge 46 = .ok (.iinc 3 1, 3) := by decide +kernel
theorem dX8_mayCharge_49 : decode cX8_mayCharge 49 = .ok (.goto (-42), 3) := by decide +kernel
theorem dX8_mayCharge_52 : decode cX8_mayCharge 52 = .ok (.lload_n 1, 1) := by decide +kernel
theorem dX8_mayCharge_53 : decode cX8_mayCharge 53 = .ok (.ldc2_w 110, 3) := by decide +kernel
theorem dX8_mayCharge_56 : decode cX8_mayCharge 56 = .ok (.lcmp, 1) := by decide +kernel
theorem dX8_mayCharge_57 : decode cX8_mayCharge 57 = .ok (.ifCond .gt 7, 3) := by decide +kernel
theorem dX8_mayCharge_60 : decode cX8_mayCharge 60 = .ok (.iconst 1, 1) := by decide +kernel
theorem dX8_mayCharge_61 : decode cX8_mayCharge 61 = .ok (.goto 4, 3) := by decide +kernel
theorem dX8_mayCharge_64 : decode cX8_mayCharge 64 = .ok (.iconst 0, 1) := by decide +kernel
theorem dX8_mayCharge_65 : decode cX8_mayCharge 65 = .ok (.ireturn, 1) := by decide +kernel
theorem dX8_charged_0 : decode cX8_charged 0 = .ok (.lconst 0, 1) := by decide +kernel
theorem dX8_charged_1 : decode cX8_charged 1 = .ok (.lstore_n 1, 1) := by decide +kernel
theorem dX8_charged_2 : decode cX8_charged 2 = .ok (.iconst 0, 1) := by decide +kernel
theorem dX8_charged_3 : decode cX8_charged 3 = .ok (.istore_n 3, 1) := by decide +kernel
theorem dX8_charged_4 : decode cX8_charged 4 = .ok (.iload_n 3, 1) := by decide +kernel
theorem dX8_charged_5 : decode cX8_charged 5 = .ok (.aload_n 0, 1) := by decide +kernel
theorem dX8_charged_6 : decode cX8_charged 6 = .ok (.getfield 7, 3) := by decide +kernel
theorem dX8_charged_9 : decode cX8_charged 9 = .ok (.iconst 2, 1) := by decide +kernel
theorem dX8_charged_10 : decode cX8_charged 10 = .ok (.iaload, 1) := by decide +kernel
theorem dX8_charged_11 : decode cX8_charged 11 = .ok (.if_icmp .ge 24, 3) := by decide +kernel
theorem dX8_charged_14 : decode cX8_charged 14 = .ok (.lload_n 1, 1) := by decide +kernel
theorem dX8_charged_15 : decode cX8_charged 15 = .ok (.aload_n 0, 1) := by decide +kernel
theorem dX8_charged_16 : decode cX8_charged 16 = .ok (.getfield 7, 3) := by decide +kernel
theorem dX8_charged_19 : decode cX8_charged 19 = .ok (.iload_n 3, 1) := by decide +kernel
theorem dX8_charged_20 : decode cX8_charged 20 = .ok (.bipush 7, 2) := by decide +kernel
theorem dX8_charged_22 : decode cX8_charged 22 = .ok (.invokestatic 56, 3) := by decide +kernel
theorem dX8_charged_25 : decode cX8_charged 25 = .ok (.iaload, 1) := by decide +kernel
theorem dX8_charged_26 : decode cX8_charged 26 = .ok (.i2l, 1) := by decide +kernel
theorem dX8_charged_27 : decode cX8_charged 27 = .ok (.ladd, 1) := by decide +kernel
theorem dX8_charged_28 : decode cX8_charged 28 = .ok (.lstore_n 1, 1) := by decide +kernel
theorem dX8_charged_29 : decode cX8_charged 29 = .ok (.iinc 3 1, 3) := by decide +kernel
theorem dX8_charged_32 : decode cX8_charged 32 = .ok (.goto (-28), 3) := by decide +kernel
theorem dX8_charged_35 : decode cX8_charged 35 = .ok (.lload_n 1, 1) := by decide +kernel
theorem dX8_charged_36 : decode cX8_charged 36 = .ok (.lreturn, 1) := by decide +kernel
theorem dX8_paid_0 : decode cX8_paid 0 = .ok (.lconst 0, 1) := by decide +kernel
theorem dX8_paid_1 : decode cX8_paid 1 = .ok (.lstore_n 1, 1) := by decide +kernel
theorem dX8_paid_2 : decode cX8_paid 2 = .ok (.iconst 0, 1) := by decide +kernel
theorem dX8_paid_3 : decode cX8_paid 3 = .ok (.istore_n 3, 1) := by decide +kernel
theorem dX8_paid_4 : decode cX8_paid 4 = .ok (.iload_n 3, 1) := by decide +kernel
theorem dX8_paid_5 : decode cX8_paid 5 = .ok (.aload_n 0, 1) := by decide +kernel
theorem dX8_paid_6 : decode cX8_paid 6 = .ok (.getfield 7, 3) := by decide +kernel
theorem dX8_paid_9 : decode cX8_paid 9 = .ok (.iconst 2, 1) := by decide +kernel
theorem dX8_paid_10 : decode cX8_paid 10 = .ok (.iaload, 1) := by decide +kernel
theorem dX8_paid_11 : decode cX8_paid 11 = .ok (.if_icmp .ge 24, 3) := by decide +kernel
theorem dX8_paid_14 : decode cX8_paid 14 = .ok (.lload_n 1, 1) := by decide +kernel
theorem dX8_paid_15 : decode cX8_paid 15 = .ok (.aload_n 0, 1) := by decide +kernel
theorem dX8_paid_16 : decode cX8_paid 16 = .ok (.getfield 7, 3) := by decide +kernel
theorem dX8_paid_19 : decode cX8_paid 19 = .ok (.iload_n 3, 1) := by decide +kernel
theorem dX8_paid_20 : decode cX8_paid 20 = .ok (.bipush 6, 2) := by decide +kernel
theorem dX8_paid_22 : decode cX8_paid 22 = .ok (.invokestatic 56, 3) := by decide +kernel
theorem dX8_paid_25 : decode cX8_paid 25 = .ok (.iaload, 1) := by decide +kernel
theorem dX8_paid_26 : decode cX8_paid 26 = .ok (.i2l, 1) := by decide +kernel
theorem dX8_paid_27 : decode cX8_paid 27 = .ok (.ladd, 1) := by decide +kernel
theorem dX8_paid_28 : decode cX8_paid 28 = .ok (.lstore_n 1, 1) := by decide +kernel
theorem dX8_paid_29 : decode cX8_paid 29 = .ok (.iinc 3 1, 3) := by decide +kernel
theorem dX8_paid_32 : decode cX8_paid 32 = .ok (.goto (-28), 3) := by decide +kernel
theorem dX8_paid_35 : decode cX8_paid 35 = .ok (.lload_n 1, 1) := by decide +kernel
theorem dX8_paid_36 : decode cX8_paid 36 = .ok (.lreturn, 1) := by decide +kernel
theorem dX8_charges_0 : decode cX8_charges 0 = .ok (.iconst 0, 1) := by decide +kernel
theorem dX8_charges_1 : decode cX8_charges 1 = .ok (.istore_n 1, 1) := by decide +kernel
theorem dX8_charges_2 : decode cX8_charges 2 = .ok (.iload_n 1, 1) := by decide +kernel
theorem dX8_charges_3 : decode cX8_charges 3 = .ok (.aload_n 0, 1) := by decide +kernel
theorem dX8_charges_4 : decode cX8_charges 4 = .ok (.getfield 7, 3) := by decide +kernel
theorem dX8_charges_7 : decode cX8_charges 7 = .ok (.iconst 2, 1) := by decide +kernel
theorem dX8_charges_8 : decode cX8_charges 8 = .ok (.iaload, 1) := by decide +kernel
theorem dX8_charges_9 : decode cX8_charges 9 = .ok (.if_icmp .ge 29, 3) := by decide +kernel
theorem dX8_charges_12 : decode cX8_charges 12 = .ok (.aload_n 0, 1) := by decide +kernel
theorem dX8_charges_13 : decode cX8_charges 13 = .ok (.getfield 7, 3) := by decide +kernel
theorem dX8_charges_16 : decode cX8_charges 16 = .ok (.iload_n 1, 1) := by decide +kernel
theorem dX8_charges_17 : decode cX8_charges 17 = .ok (.bipush 7, 2) := by decide +kernel
theorem dX8_charges_19 : decode cX8_charges 19 = .ok (.invokestatic 56, 3) := by decide +kernel
theorem dX8_charges_22 : decode cX8_charges 22 = .ok (.dup2, 1) := by decide +kernel
theorem dX8_charges_23 : decode cX8_charges 23 = .ok (.iaload, 1) := by decide +kernel
theorem dX8_charges_24 : decode cX8_charges 24 = .ok (.aload_n 0, 1) := by decide +kernel
theorem dX8_charges_25 : decode cX8_charges 25 = .ok (.getfield 29, 3) := by decide +kernel
theorem dX8_charges_28 : decode cX8_charges 28 = .ok (.iload_n 1, 1) := by decide +kernel
theorem dX8_charges_29 : decode cX8_charges 29 = .ok (.iaload, 1) := by decide +kernel
theorem dX8_charges_30 : decode cX8_charges 30 = .ok (.iadd, 1) := by decide +kernel
theorem dX8_charges_31 : decode cX8_charges 31 = .ok (.iastore, 1) := by decide +kernel
theorem dX8_charges_32 : decode cX8_charges 32 = .ok (.iinc 1 1, 3) := by decide +kernel
theorem dX8_charges_35 : decode cX8_charges 35 = .ok (.goto (-33), 3) := by decide +kernel
theorem dX8_charges_38 : decode cX8_charges 38 = .ok (.return_, 1) := by decide +kernel
theorem dX8_pay_0 : decode cX8_pay 0 = .ok (.aload_n 0, 1) := by decide +kernel
theorem dX8_pay_1 : decode cX8_pay 1 = .ok (.aload_n 0, 1) := by decide +kernel
theorem dX8_pay_2 : decode cX8_pay 2 = .ok (.iload_n 1, 1) := by decide +kernel
theorem dX8_pay_3 : decode cX8_pay 3 = .ok (.invokevirtual 75, 3) := by decide +kernel
theorem dX8_pay_6 : decode cX8_pay 6 = .ok (.ifCond .eq 7, 3) := by decide +kernel
theorem dX8_pay_9 : decode cX8_pay 9 = .ok (.iconst 0, 1) := by decide +kernel
theorem dX8_pay_10 : decode cX8_pay 10 = .ok (.goto 4, 3) := by decide +kernel
theorem dX8_pay_13 : decode cX8_pay 13 = .ok (.iconst 1, 1) := by decide +kernel
theorem dX8_pay_14 : decode cX8_pay 14 = .ok (.putfield 42, 3) := by decide +kernel
theorem dX8_pay_17 : decode cX8_pay 17 = .ok (.aload_n 0, 1) := by decide +kernel
theorem dX8_pay_18 : decode cX8_pay 18 = .ok (.getfield 42, 3) := by decide +kernel
theorem dX8_pay_21 : decode cX8_pay 21 = .ok (.ifCond .le 5, 3) := by decide +kernel
theorem dX8_pay_24 : decode cX8_pay 24 = .ok (.iconst 0, 1) := by decide +kernel
theorem dX8_pay_25 : decode cX8_pay 25 = .ok (.ireturn, 1) := by decide +kernel
theorem dX8_pay_26 : decode cX8_pay 26 = .ok (.iload_n 2, 1) := by decide +kernel
theorem dX8_pay_27 : decode cX8_pay 27 = .ok (.iconst 1, 1) := by decide +kernel
theorem dX8_pay_28 : decode cX8_pay 28 = .ok (.ldc 112, 2) := by decide +kernel
theorem dX8_pay_30 : decode cX8_pay 30 = .ok (.invokestatic 52, 3) := by decide +kernel
theorem dX8_pay_33 : decode cX8_pay 33 = .ok (.ifCond .ne 7, 3) := by decide +kernel
theorem dX8_pay_36 : decode cX8_pay 36 = .ok (.iconst 2, 1) := by decide +kernel
theorem dX8_pay_37 : decode cX8_pay 37 = .ok (.goto 34, 3) := by decide +kernel
theorem dX8_pay_40 : decode cX8_pay 40 = .ok (.aload_n 0, 1) := by decide +kernel
theorem dX8_pay_41 : decode cX8_pay 41 = .ok (.iload_n 1, 1) := by decide +kernel
theorem dX8_pay_42 : decode cX8_pay 42 = .ok (.invokevirtual 83, 3) := by decide +kernel
theorem dX8_pay_45 : decode cX8_pay 45 = .ok (.iload_n 2, 1) := by decide +kernel
theorem dX8_pay_46 : decode cX8_pay 46 = .ok (.iadd, 1) := by decide +kernel
theorem dX8_pay_47 : decode cX8_pay 47 = .ok (.ldc 113, 2) := by decide +kernel
theorem dX8_pay_49 : decode cX8_pay 49 = .ok (.if_icmp .gt 17, 3) := by decide +kernel
theorem dX8_pay_52 : decode cX8_pay 52 = .ok (.aload_n 0, 1) := by decide +kernel
theorem dX8_pay_53 : decode cX8_pay 53 = .ok (.invokevirtual 114, 3) := by decide +kernel
theorem dX8_pay_56 : decode cX8_pay 56 = .ok (.iload_n 2, 1) := by decide +kernel
theorem dX8_pay_57 : decode cX8_pay 57 = .ok (.i2l, 1) := by decide +kernel
theorem dX8_pay_58 : decode cX8_pay 58 = .ok (.ladd, 1) := by decide +kernel
theorem dX8_pay_59 : decode cX8_pay 59 = .ok (.ldc2_w 110, 3) := by decide +kernel
theorem dX8_pay_62 : decode cX8_pay 62 = .ok (.lcmp, 1) := by decide +kernel
theorem dX8_pay_63 : decode cX8_pay 63 = .ok (.ifCond .le 7, 3) := by decide +kernel
theorem dX8_pay_66 : decode cX8_pay 66 = .ok (.iconst 5, 1) := by decide +kernel
theorem dX8_pay_67 : decode cX8_pay 67 = .ok (.goto 4, 3) := by decide +kernel
theorem dX8_pay_70 : decode cX8_pay 70 = .ok (.iconst 0, 1) := by decide +kernel
theorem dX8_pay_71 : decode cX8_pay 71 = .ok (.istore_n 3, 1) := by decide +kernel
theorem dX8_pay_72 : decode cX8_pay 72 = .ok (.iload_n 3, 1) := by decide +kernel
theorem dX8_pay_73 : decode cX8_pay 73 = .ok (.ifCond .le 10, 3) := by decide +kernel
theorem dX8_pay_76 : decode cX8_pay 76 = .ok (.aload_n 0, 1) := by decide +kernel
theorem dX8_pay_77 : decode cX8_pay 77 = .ok (.iconst 2, 1) := by decide +kernel
theorem dX8_pay_78 : decode cX8_pay 78 = .ok (.iload_n 3, 1) := by decide +kernel
theorem dX8_pay_79 : decode cX8_pay 79 = .ok (.invokevirtual 117, 3) := by decide +kernel
theorem dX8_pay_82 : decode cX8_pay 82 = .ok (.ireturn, 1) := by decide +kernel
theorem dX8_pay_83 : decode cX8_pay 83 = .ok (.aload_n 0, 1) := by decide +kernel
theorem dX8_pay_84 : decode cX8_pay 84 = .ok (.aload_n 0, 1) := by decide +kernel
theorem dX8_pay_85 : decode cX8_pay 85 = .ok (.getfield 7, 3) := by decide +kernel
theorem dX8_pay_88 : decode cX8_pay 88 = .ok (.invokevirtual 71, 3) := by decide +kernel
theorem dX8_pay_91 : decode cX8_pay 91 = .ok (.aload_n 0, 1) := by decide +kernel
theorem dX8_pay_92 : decode cX8_pay 92 = .ok (.getfield 7, 3) := by decide +kernel
theorem dX8_pay_95 : decode cX8_pay 95 = .ok (.iload_n 1, 1) := by decide +kernel
theorem dX8_pay_96 : decode cX8_pay 96 = .ok (.bipush 6, 2) := by decide +kernel
theorem dX8_pay_98 : decode cX8_pay 98 = .ok (.invokestatic 56, 3) := by decide +kernel
theorem dX8_pay_101 : decode cX8_pay 101 = .ok (.dup2, 1) := by decide +kernel
theorem dX8_pay_102 : decode cX8_pay 102 = .ok (.iaload, 1) := by decide +kernel
theorem dX8_pay_103 : decode cX8_pay 103 = .ok (.iload_n 2, 1) := by decide +kernel
theorem dX8_pay_104 : decode cX8_pay 104 = .ok (.iadd, 1) := by decide +kernel
theorem dX8_pay_105 : decode cX8_pay 105 = .ok (.iastore, 1) := by decide +kernel
theorem dX8_pay_106 : decode cX8_pay 106 = .ok (.aload_n 0, 1) := by decide +kernel
theorem dX8_pay_107 : decode cX8_pay 107 = .ok (.iload_n 1, 1) := by decide +kernel
theorem dX8_pay_108 : decode cX8_pay 108 = .ok (.invokevirtual 83, 3) := by decide +kernel
theorem dX8_pay_111 : decode cX8_pay 111 = .ok (.ireturn, 1) := by decide +kernel
theorem dX8_fundPays_0 : decode cX8_fundPays 0 = .ok (.iload_n 3, 1) := by decide +kernel
theorem dX8_fundPays_1 : decode cX8_fundPays 1 = .ok (.ifCond .ne 7, 3) := by decide +kernel
theorem dX8_fundPays_4 : decode cX8_fundPays 4 = .ok (.iconst 0, 1) := by decide +kernel
theorem dX8_fundPays_5 : decode cX8_fundPays 5 = .ok (.goto 29, 3) := by decide +kernel
theorem dX8_fundPays_8 : decode cX8_fundPays 8 = .ok (.aload_n 0, 1) := by decide +kernel
theorem dX8_fundPays_9 : decode cX8_fundPays 9 = .ok (.getfield 7, 3) := by decide +kernel
theorem dX8_fundPays_12 : decode cX8_fundPays 12 = .ok (.bipush 99, 2) := by decide +kernel
theorem dX8_fundPays_14 : decode cX8_fundPays 14 = .ok (.iload_n 1, 1) := by decide +kernel
theorem dX8_fundPays_15 : decode cX8_fundPays 15 = .ok (.iadd, 1) := by decide +kernel
theorem dX8_fundPays_16 : decode cX8_fundPays 16 = .ok (.iaload, 1) := by decide +kernel
theorem dX8_fundPays_17 : decode cX8_fundPays 17 = .ok (.iload_n 2, 1) := by decide +kernel
theorem dX8_fundPays_18 : decode cX8_fundPays 18 = .ok (.if_icmp .ge 15, 3) := by decide +kernel
theorem dX8_fundPays_21 : decode cX8_fundPays 21 = .ok (.aload_n 0, 1) := by decide +kernel
theorem dX8_fundPays_22 : decode cX8_fundPays 22 = .ok (.getfield 7, 3) := by decide +kernel
theorem dX8_fundPays_25 : decode cX8_fundPays 25 = .ok (.bipush 99, 2) := by decide +kernel
theorem dX8_fundPays_27 : decode cX8_fundPays 27 = .ok (.iload_n 1, 1) := by decide +kernel
theorem dX8_fundPays_28 : decode cX8_fundPays 28 = .ok (.iadd, 1) := by decide +kernel
theorem dX8_fundPays_29 : decode cX8_fundPays 29 = .ok (.iaload, 1) := by decide +kernel
theorem dX8_fundPays_30 : decode cX8_fundPays 30 = .ok (.goto 4, 3) := by decide +kernel
theorem dX8_fundPays_33 : decode cX8_fundPays 33 = .ok (.iload_n 2, 1) := by decide +kernel
theorem dX8_fundPays_34 : decode cX8_fundPays 34 = .ok (.ireturn, 1) := by decide +kernel
theorem dX8_againstCost_0 : decode cX8_againstCost 0 = .ok (.aload_n 0, 1) := by decide +kernel
theorem dX8_againstCost_1 : decode cX8_againstCost 1 = .ok (.iload_n 1, 1) := by decide +kernel
theorem dX8_againstCost_2 : decode cX8_againstCost 2 = .ok (.iload_n 2, 1) := by decide +kernel
theorem dX8_againstCost_3 : decode cX8_againstCost 3 = .ok (.invokevirtual 120, 3) := by decide +kernel
theorem dX8_againstCost_6 : decode cX8_againstCost 6 = .ok (.ifCond .ne 5, 3) := by decide +kernel
theorem dX8_againstCost_9 : decode cX8_againstCost 9 = .ok (.iconst 1, 1) := by decide +kernel
theorem dX8_againstCost_10 : decode cX8_againstCost 10 = .ok (.ireturn, 1) := by decide +kernel
theorem dX8_againstCost_11 : decode cX8_againstCost 11 = .ok (.iload 4, 2) := by decide +kernel
theorem dX8_againstCost_13 : decode cX8_againstCost 13 = .ok (.iconst 1, 1) := by decide +kernel
theorem dX8_againstCost_14 : decode cX8_againstCost 14 = .ok (.ldc 112, 2) := by decide +kernel
theorem dX8_againstCost_16 : decode cX8_againstCost 16 = .ok (.invokestatic 52, 3) := by decide +kernel
theorem dX8_againstCost_19 : decode cX8_againstCost 19 = .ok (.ifCond .ne 5, 3) := by decide +kernel
theorem dX8_againstCost_22 : decode cX8_againstCost 22 = .ok (.iconst 2, 1) := by decide +kernel
theorem dX8_againstCost_23 : decode cX8_againstCost 23 = .ok (.ireturn, 1) := by decide +kernel
theorem dX8_againstCost_24 : decode cX8_againstCost 24 = .ok (.iload 4, 2) := by decide +kernel
theorem dX8_againstCost_26 : decode cX8_againstCost 26 = .ok (.aload_n 0, 1) := by decide +kernel
theorem dX8_againstCost_27 : decode cX8_againstCost 27 = .ok (.iload_n 3, 1) := by decide +kernel
theorem dX8_againstCost_28 : decode cX8_againstCost 28 = .ok (.iload 4, 2) := by decide +kernel
theorem dX8_againstCost_30 : decode cX8_againstCost 30 = .ok (.iload 5, 2) := by decide +kernel
theorem dX8_againstCost_32 : decode cX8_againstCost 32 = .ok (.invokevirtual 123, 3) := by decide +kernel
theorem dX8_againstCost_35 : decode cX8_againstCost 35 = .ok (.isub, 1) := by decide +kernel
theorem dX8_againstCost_36 : decode cX8_againstCost 36 = .ok (.istore 6, 2) := by decide +kernel
theorem dX8_againstCost_38 : decode cX8_againstCost 38 = .ok (.iload 6, 2) := by decide +kernel
theorem dX8_againstCost_40 : decode cX8_againstCost 40 = .ok (.ifCond .le 14, 3) := by decide +kernel
theorem dX8_againstCost_43 : decode cX8_againstCost 43 = .ok (.aload_n 0, 1) := by decide +kernel
theorem dX8_againstCost_44 : decode cX8_againstCost 44 = .ok (.iload_n 1, 1) := by decide +kernel
theorem dX8_againstCost_45 : decode cX8_againstCost 45 = .ok (.iload_n 2, 1) := by decide +kernel
theorem dX8_againstCost_46 : decode cX8_againstCost 46 = .ok (.iload 6, 2) := by decide +kernel
theorem dX8_againstCost_48 : decode cX8_againstCost 48 = .ok (.invokevirtual 127, 3) := by decide +kernel
theorem dX8_againstCost_51 : decode cX8_againstCost 51 = .ok (.goto 7, 3) := by decide +kernel
theorem dX8_againstCost_54 : decode cX8_againstCost 54 = .ok (.aload_n 0, 1) := by decide +kernel
theorem dX8_againstCost_55 : decode cX8_againstCost 55 = .ok (.invokevirtual 130, 3) := by decide +kernel
theorem dX8_againstCost_58 : decode cX8_againstCost 58 = .ok (.aload_n 0, 1) := by decide +kernel
theorem dX8_againstCost_59 : decode cX8_againstCost 59 = .ok (.invokevirtual 133, 3) := by decide +kernel
theorem dX8_againstCost_62 : decode cX8_againstCost 62 = .ok (.ifCond .eq 7, 3) := by decide +kernel
theorem dX8_againstCost_65 : decode cX8_againstCost 65 = .ok (.iconst 0, 1) := by decide +kernel
theorem dX8_againstCost_66 : decode cX8_againstCost 66 = .ok (.goto 4, 3) := by decide +kernel
theorem dX8_againstCost_69 : decode cX8_againstCost 69 = .ok (.iconst 5, 1) := by decide +kernel
theorem dX8_againstCost_70 : decode cX8_againstCost 70 = .ok (.ireturn, 1) := by decide +kernel
theorem dX8_dividesNone_0 : decode cX8_dividesNone 0 = .ok (.iconst 0, 1) := by decide +kernel
theorem dX8_dividesNone_1 : decode cX8_dividesNone 1 = .ok (.istore_n 1, 1) := by decide +kernel
theorem dX8_dividesNone_2 : decode cX8_dividesNone 2 = .ok (.iload_n 1, 1) := by decide +kernel
theorem dX8_dividesNone_3 : decode cX8_dividesNone 3 = .ok (.bipush 12, 2) := by decide +kernel
theorem dX8_dividesNone_5 : decode cX8_dividesNone 5 = .ok (.if_icmp .ge 16, 3) := by decide +kernel
theorem dX8_dividesNone_8 : decode cX8_dividesNone 8 = .ok (.aload_n 0, 1) := by decide +kernel
theorem dX8_dividesNone_9 : decode cX8_dividesNone 9 = .ok (.getfield 29, 3) := by decide +kernel
theorem dX8_dividesNone_12 : decode cX8_dividesNone 12 = .ok (.iload_n 1, 1) := by decide +kernel
theorem dX8_dividesNone_13 : decode cX8_dividesNone 13 = .ok (.iconst 0, 1) := by decide +kernel
theorem dX8_dividesNone_14 : decode cX8_dividesNone 14 = .ok (.iastore, 1) := by decide +kernel
theorem dX8_dividesNone_15 : decode cX8_dividesNone 15 = .ok (.iinc 1 1, 3) := by decide +kernel
theorem dX8_dividesNone_18 : decode cX8_dividesNone 18 = .ok (.goto (-16), 3) := by decide +kernel
theorem dX8_dividesNone_21 : decode cX8_dividesNone 21 = .ok (.return_, 1) := by decide +kernel
theorem dX8_books_0 : decode cX8_books 0 = .ok (.aload_n 0, 1) := by decide +kernel
theorem dX8_books_1 : decode cX8_books 1 = .ok (.iload_n 3, 1) := by decide +kernel
theorem dX8_books_2 : decode cX8_books 2 = .ok (.iload 4, 2) := by decide +kernel
theorem dX8_books_4 : decode cX8_books 4 = .ok (.iload 5, 2) := by decide +kernel
theorem dX8_books_6 : decode cX8_books 6 = .ok (.invokevirtual 123, 3) := by decide +kernel
theorem dX8_books_9 : decode cX8_books 9 = .ok (.istore 6, 2) := by decide +kernel
theorem dX8_books_11 : decode cX8_books 11 = .ok (.aload_n 0, 1) := by decide +kernel
theorem dX8_books_12 : decode cX8_books 12 = .ok (.getfield 7, 3) := by decide +kernel
theorem dX8_books_15 : decode cX8_books 15 = .ok (.bipush 105, 2) := by decide +kernel
theorem dX8_books_17 : decode cX8_books 17 = .ok (.iaload, 1) := by decide +kernel
theorem dX8_books_18 : decode cX8_books 18 = .ok (.bipush 20, 2) := by decide +kernel
theorem dX8_books_20 : decode cX8_books 20 = .ok (.if_icmp .ne 49, 3) := by decide +kernel
theorem dX8_books_23 : decode cX8_books 23 = .ok (.bipush 106, 2) := by decide +kernel
theorem dX8_books_25 : decode cX8_books 25 = .ok (.istore 7, 2) := by decide +kernel
theorem dX8_books_27 : decode cX8_books 27 = .ok (.iload 7, 2) := by decide +kernel
theorem dX8_books_29 : decode cX8_books 29 = .ok (.sipush 448, 3) := by decide +kernel
theorem dX8_books_32 : decode cX8_books 32 = .ok (.if_icmp .ge 26, 3) := by decide +kernel
theorem dX8_books_35 : decode cX8_books 35 = .ok (.aload_n 0, 1) := by decide +kernel
theorem dX8_books_36 : decode cX8_books 36 = .ok (.getfield 7, 3) := by decide +kernel
theorem dX8_books_39 : decode cX8_books 39 = .ok (.iload 7, 2) := by decide +kernel
theorem dX8_books_41 : decode cX8_books 41 = .ok (.aload_n 0, 1) := by decide +kernel
theorem dX8_books_42 : decode cX8_books 42 = .ok (.getfield 7, 3) := by decide +kernel
theorem dX8_books_45 : decode cX8_books 45 = .ok (.iload 7, 2) := by decide +kernel
theorem dX8_books_47 : decode cX8_books 47 = .ok (.bipush 18, 2) := by decide +kernel
theorem dX8_books_49 : decode cX8_books 49 = .ok (.iadd, 1) := by decide +kernel
theorem dX8_books_50 : decode cX8_books 50 = .ok (.iaload, 1) := by decide +kernel
theorem dX8_books_51 : decode cX8_books 51 = .ok (.iastore, 1) := by decide +kernel
theorem dX8_books_52 : decode cX8_books 52 = .ok (.iinc 7 1, 3) := by decide +kernel
theorem dX8_books_55 : decode cX8_books 55 = .ok (.goto (-28), 3) := by decide +kernel
theorem dX8_books_58 : decode cX8_books 58 = .ok (.aload_n 0, 1) := by decide +kernel
theorem dX8_books_59 : decode cX8_books 59 = .ok (.getfield 7, 3) := by decide +kernel
theorem dX8_books_62 : decode cX8_books 62 = .ok (.bipush 105, 2) := by decide +kernel
theorem dX8_books_64 : decode cX8_books 64 = .ok (.dup2, 1) := by decide +kernel
theorem dX8_books_65 : decode cX8_books 65 = .ok (.iaload, 1) := by decide +kernel
theorem dX8_books_66 : decode cX8_books 66 = .ok (.iconst 1, 1) := by decide +kernel
theorem dX8_books_67 : decode cX8_books 67 = .ok (.isub, 1) := by decide +kernel
theorem dX8_books_68 : decode cX8_books 68 = .ok (.iastore, 1) := by decide +kernel
theorem dX8_books_69 : decode cX8_books 69 = .ok (.bipush 106, 2) := by decide +kernel
theorem dX8_books_71 : decode cX8_books 71 = .ok (.bipush 18, 2) := by decide +kernel
theorem dX8_books_73 : decode cX8_books 73 = .ok (.aload_n 0, 1) := by decide +kernel
theorem dX8_books_74 : decode cX8_books 74 = .ok (.getfield 7, 3) := by decide +kernel
theorem dX8_books_77 : decode cX8_books 77 = .ok (.bipush 105, 2) := by decide +kernel
theorem dX8_books_79 : decode cX8_books 79 = .ok (.iaload, 1) := by decide +kernel
theorem dX8_books_80 : decode cX8_books 80 = .ok (.imul, 1) := by decide +kernel
theorem dX8_books_81 : decode cX8_books 81 = .ok (.iadd, 1) := by decide +kernel
theorem dX8_books_82 : decode cX8_books 82 = .ok (.istore 7, 2) := by decide +kernel
theorem dX8_books_84 : decode cX8_books 84 = .ok (.aload_n 0, 1) := by decide +kernel
theorem dX8_books_85 : decode cX8_books 85 = .ok (.getfield 7, 3) := by decide +kernel
theorem dX8_books_88 : decode cX8_books 88 = .ok (.bipush 105, 2) := by decide +kernel
theorem dX8_books_90 : decode cX8_books 90 = .ok (.dup2, 1) := by decide +kernel
theorem dX8_books_91 : decode cX8_books 91 = .ok (.iaload, 1) := by decide +kernel
theorem dX8_books_92 : decode cX8_books 92 = .ok (.iconst 1, 1) := by decide +kernel
theorem dX8_books_93 : decode cX8_books 93 = .ok (.iadd, 1) := by decide +kernel
theorem dX8_books_94 : decode cX8_books 94 = .ok (.iastore, 1) := by decide +kernel
theorem dX8_books_95 : decode cX8_books 95 = .ok (.aload_n 0, 1) := by decide +kernel
theorem dX8_books_96 : decode cX8_books 96 = .ok (.getfield 7, 3) := by decide +kernel
theorem dX8_books_99 : decode cX8_books 99 = .ok (.iload 7, 2) := by decide +kernel
theorem dX8_books_101 : decode cX8_books 101 = .ok (.iload_n 1, 1) := by decide +kernel
theorem dX8_books_102 : decode cX8_books 102 = .ok (.iastore, 1) := by decide +kernel
theorem dX8_books_103 : decode cX8_books 103 = .ok (.aload_n 0, 1) := by decide +kernel
theorem dX8_books_104 : decode cX8_books 104 = .ok (.getfield 7, 3) := by decide +kernel
theorem dX8_books_107 : decode cX8_books 107 = .ok (.iload 7, 2) := by decide +kernel
theorem dX8_books_109 : decode cX8_books 109 = .ok (.iconst 1, 1) := by decide +kernel
theorem dX8_books_110 : decode cX8_books 110 = .ok (.iadd, 1) := by decide +kernel
theorem dX8_books_111 : decode cX8_books 111 = .ok (.iload_n 2, 1) := by decide +kernel
theorem dX8_books_112 : decode cX8_books 112 = .ok (.iastore, 1) := by decide +kernel
theorem dX8_books_113 : decode cX8_books 113 = .ok (.aload_n 0, 1) := by decide +kernel
theorem dX8_books_114 : decode cX8_books 114 = .ok (.getfield 7, 3) := by decide +kernel
theorem dX8_books_117 : decode cX8_books 117 = .ok (.iload 7, 2) := by decide +kernel
theorem dX8_books_119 : decode cX8_books 119 = .ok (.iconst 2, 1) := by decide +kernel
theorem dX8_books_120 : decode cX8_books 120 = .ok (.iadd, 1) := by decide +kernel
theorem dX8_books_121 : decode cX8_books 121 = .ok (.iload_n 3, 1) := by decide +kernel
theorem dX8_books_122 : decode cX8_books 122 = .ok (.iastore, 1) := by decide +kernel
theorem dX8_books_123 : decode cX8_books 123 = .ok (.aload_n 0, 1) := by decide +kernel
theorem dX8_books_124 : decode cX8_books 124 = .ok (.getfield 7, 3) := by decide +kernel
theorem dX8_books_127 : decode cX8_books 127 = .ok (.iload 7, 2) := by decide +kernel
theorem dX8_books_129 : decode cX8_books 129 = .ok (.iconst 3, 1) := by decide +kernel
theorem dX8_books_130 : decode cX8_books 130 = .ok (.iadd, 1) := by decide +kernel
theorem dX8_books_131 : decode cX8_books 131 = .ok (.iload 4, 2) := by decide +kernel
theorem dX8_books_133 : decode cX8_books 133 = .ok (.iastore, 1) := by decide +kernel
theorem dX8_books_134 : decode cX8_books 134 = .ok (.aload_n 0, 1) := by decide +kernel
theorem dX8_books_135 : decode cX8_books 135 = .ok (.getfield 7, 3) := by decide +kernel
theorem dX8_books_138 : decode cX8_books 138 = .ok (.iload 7, 2) := by decide +kernel
theorem dX8_books_140 : decode cX8_books 140 = .ok (.iconst 4, 1) := by decide +kernel
theorem dX8_books_141 : decode cX8_books 141 = .ok (.iadd, 1) := by decide +kernel
theorem dX8_books_142 : decode cX8_books 142 = .ok (.iload 6, 2) := by decide +kernel
theorem dX8_books_144 : decode cX8_books 144 = .ok (.iastore, 1) := by decide +kernel
theorem dX8_books_145 : decode cX8_books 145 = .ok (.aload_n 0, 1) := by decide +kernel
theorem dX8_books_146 : decode cX8_books 146 = .ok (.getfield 7, 3) := by decide +kernel
theorem dX8_books_149 : decode cX8_books 149 = .ok (.iload 7, 2) := by decide +kernel
theorem dX8_books_151 : decode cX8_books 151 = .ok (.iconst 5, 1) := by decide +kernel
theorem dX8_books_152 : decode cX8_books 152 = .ok (.iadd, 1) := by decide +kernel
theorem dX8_books_153 : decode cX8_books 153 = .ok (.aload_n 0, 1) := by decide +kernel
theorem dX8_books_154 : decode cX8_books 154 = .ok (.iload_n 1, 1) := by decide +kernel
theorem dX8_books_155 : decode cX8_books 155 = .ok (.iload_n 2, 1) := by decide +kernel
theorem dX8_books_156 : decode cX8_books 156 = .ok (.invokevirtual 120, 3) := by decide +kernel
theorem dX8_books_159 : decode cX8_books 159 = .ok (.iastore, 1) := by decide +kernel
theorem dX8_books_160 : decode cX8_books 160 = .ok (.iconst 0, 1) := by decide +kernel
theorem dX8_books_161 : decode cX8_books 161 = .ok (.istore 8, 2) := by decide +kernel
theorem dX8_books_163 : decode cX8_books 163 = .ok (.iload 8, 2) := by decide +kernel
theorem dX8_books_165 : decode cX8_books 165 = .ok (.bipush 12, 2) := by decide +kernel
theorem dX8_books_167 : decode cX8_books 167 = .ok (.if_icmp .ge 44, 3) := by decide +kernel
theorem dX8_books_170 : decode cX8_books 170 = .ok (.aload_n 0, 1) := by decide +kernel
theorem dX8_books_171 : decode cX8_books 171 = .ok (.getfield 7, 3) := by decide +kernel
theorem dX8_books_174 : decode cX8_books 174 = .ok (.iload 7, 2) := by decide +kernel
theorem dX8_books_176 : decode cX8_books 176 = .ok (.bipush 6, 2) := by decide +kernel
theorem dX8_books_178 : decode cX8_books 178 = .ok (.iadd, 1) := by decide +kernel
theorem dX8_books_179 : decode cX8_books 179 = .ok (.iload 8, 2) := by decide +kernel
theorem dX8_books_181 : decode cX8_books 181 = .ok (.iadd, 1) := by decide +kernel
theorem dX8_books_182 : decode cX8_books 182 = .ok (.iload 8, 2) := by decide +kernel
theorem dX8_books_184 : decode cX8_books 184 = .ok (.aload_n 0, 1) := by decide +kernel
theorem dX8_books_185 : decode cX8_books 185 = .ok (.getfield 7, 3) := by decide +kernel
theorem dX8_books_188 : decode cX8_books 188 = .ok (.iconst 2, 1) := by decide +kernel
theorem dX8_books_189 : decode cX8_books 189 = .ok (.iaload, 1) := by decide +kernel
theorem dX8_books_190 : decode cX8_books 190 = .ok (.if_icmp .ge 13, 3) := by decide +kernel
theorem dX8_books_193 : decode cX8_books 193 = .ok (.aload_n 0, 1) := by decide +kernel
theorem dX8_books_194 : decode cX8_books 194 = .ok (.getfield 29, 3) := by decide +kernel
theorem dX8_books_197 : decode cX8_books 197 = .ok (.iload 8, 2) := by decide +kernel
theorem dX8_books_199 : decode cX8_books 199 = .ok (.iaload, 1) := by decide +kernel
theorem dX8_books_200 : decode cX8_books 200 = .ok (.goto 4, 3) := by decide +kernel
theorem dX8_books_203 : decode cX8_books 203 = .ok (.iconst 0, 1) := by decide +kernel
theorem dX8_books_204 : decode cX8_books 204 = .ok (.iastore, 1) := by decide +kernel
theorem dX8_books_205 : decode cX8_books 205 = .ok (.iinc 8 1, 3) := by decide +kernel
theorem dX8_books_208 : decode cX8_books 208 = .ok (.goto (-45), 3) := by decide +kernel
theorem dX8_books_211 : decode cX8_books 211 = .ok (.aload_n 0, 1) := by decide +kernel
theorem dX8_books_212 : decode cX8_books 212 = .ok (.invokevirtual 136, 3) := by decide +kernel
theorem dX8_books_215 : decode cX8_books 215 = .ok (.aload_n 0, 1) := by decide +kernel
theorem dX8_books_216 : decode cX8_books 216 = .ok (.getfield 7, 3) := by decide +kernel
theorem dX8_books_219 : decode cX8_books 219 = .ok (.bipush 99, 2) := by decide +kernel
theorem dX8_books_221 : decode cX8_books 221 = .ok (.iload_n 3, 1) := by decide +kernel
theorem dX8_books_222 : decode cX8_books 222 = .ok (.iadd, 1) := by decide +kernel
theorem dX8_books_223 : decode cX8_books 223 = .ok (.dup2, 1) := by decide +kernel
theorem dX8_books_224 : decode cX8_books 224 = .ok (.iaload, 1) := by decide +kernel
theorem dX8_books_225 : decode cX8_books 225 = .ok (.iload 6, 2) := by decide +kernel
theorem dX8_books_227 : decode cX8_books 227 = .ok (.isub, 1) := by decide +kernel
theorem dX8_books_228 : decode cX8_books 228 = .ok (.iastore, 1) := by decide +kernel
theorem dX8_books_229 : decode cX8_books 229 = .ok (.aload_n 0, 1) := by decide +kernel
theorem dX8_books_230 : decode cX8_books 230 = .ok (.getfield 7, 3) := by decide +kernel
theorem dX8_books_233 : decode cX8_books 233 = .ok (.bipush 104, 2) := by decide +kernel
theorem dX8_books_235 : decode cX8_books 235 = .ok (.dup2, 1) := by decide +kernel
theorem dX8_books_236 : decode cX8_books 236 = .ok (.iaload, 1) := by decide +kernel
theorem dX8_books_237 : decode cX8_books 237 = .ok (.iload 6, 2) := by decide +kernel
theorem dX8_books_239 : decode cX8_books 239 = .ok (.iadd, 1) := by decide +kernel
theorem dX8_books_240 : decode cX8_books 240 = .ok (.iastore, 1) := by decide +kernel
theorem dX8_books_241 : decode cX8_books 241 = .ok (.iconst 0, 1) := by decide +kernel
theorem dX8_books_242 : decode cX8_books 242 = .ok (.istore 8, 2) := by decide +kernel
theorem dX8_books_244 : decode cX8_books 244 = .ok (.iload 8, 2) := by decide +kernel
theorem dX8_books_246 : decode cX8_books 246 = .ok (.aload_n 0, 1) := by decide +kernel
theorem dX8_books_247 : decode cX8_books 247 = .ok (.getfield 7, 3) := by decide +kernel
theorem dX8_books_250 : decode cX8_books 250 = .ok (.iconst 2, 1) := by decide +kernel
theorem dX8_books_251 : decode cX8_books 251 = .ok (.iaload, 1) := by decide +kernel
theorem dX8_books_252 : decode cX8_books 252 = .ok (.if_icmp .ge 43, 3) := by decide +kernel
theorem dX8_books_255 : decode cX8_books 255 = .ok (.iload_n 1, 1) := by decide +kernel
theorem dX8_books_256 : decode cX8_books 256 = .ok (.iconst 4, 1) := by decide +kernel
theorem dX8_books_257 : decode cX8_books 257 = .ok (.if_icmp .ne 38, 3) := by decide +kernel
theorem dX8_books_260 : decode cX8_books 260 = .ok (.iload 6, 2) := by decide +kernel
theorem dX8_books_262 : decode cX8_books 262 = .ok (.iload 4, 2) := by decide +kernel
theorem dX8_books_264 : decode cX8_books 264 = .ok (.if_icmp .ge 31, 3) := by decide +kernel
theorem dX8_books_267 : decode cX8_books 267 = .ok (.aload_n 0, 1) := by decide +kernel
theorem dX8_books_268 : decode cX8_books 268 = .ok (.getfield 7, 3) := by decide +kernel
theorem dX8_books_271 : decode cX8_books 271 = .ok (.iload 8, 2) := by decide +kernel
theorem dX8_books_273 : decode cX8_books 273 = .ok (.iconst 5, 1) := by decide +kernel
theorem dX8_books_274 : decode cX8_books 274 = .ok (.invokestatic 56, 3) := by decide +kernel
theorem dX8_books_277 : decode cX8_books 277 = .ok (.aload_n 0, 1) := by decide +kernel
theorem dX8_books_278 : decode cX8_books 278 = .ok (.getfield 7, 3) := by decide +kernel
theorem dX8_books_281 : decode cX8_books 281 = .ok (.iload 8, 2) := by decide +kernel
theorem dX8_books_283 : decode cX8_books 283 = .ok (.iconst 4, 1) := by decide +kernel
theorem dX8_books_284 : decode cX8_books 284 = .ok (.invokestatic 56, 3) := by decide +kernel
theorem dX8_books_287 : decode cX8_books 287 = .ok (.iaload, 1) := by decide +kernel
theorem dX8_books_288 : decode cX8_books 288 = .ok (.iastore, 1) := by decide +kernel
theorem dX8_books_289 : decode cX8_books 289 = .ok (.iinc 8 1, 3) := by decide +kernel
theorem dX8_books_292 : decode cX8_books 292 = .ok (.goto (-48), 3) := by decide +kernel
theorem dX8_books_295 : decode cX8_books 295 = .ok (.iload 6, 2) := by decide +kernel
theorem dX8_books_297 : decode cX8_books 297 = .ok (.ireturn, 1) := by decide +kernel
theorem dX8_book_0 : decode cX8_book 0 = .ok (.aload_n 0, 1) := by decide +kernel
theorem dX8_book_1 : decode cX8_book 1 = .ok (.iload_n 1, 1) := by decide +kernel
theorem dX8_book_2 : decode cX8_book 2 = .ok (.iconst 0, 1) := by decide +kernel
theorem dX8_book_3 : decode cX8_book 3 = .ok (.iconst 4, 1) := by decide +kernel
theorem dX8_book_4 : decode cX8_book 4 = .ok (.invokestatic 52, 3) := by decide +kernel
theorem dX8_book_7 : decode cX8_book 7 = .ok (.ifCond .eq 24, 3) := by decide +kernel
theorem dX8_book_10 : decode cX8_book 10 = .ok (.iload_n 3, 1) := by decide +kernel
theorem dX8_book_11 : decode cX8_book 11 = .ok (.iconst 0, 1) := by decide +kernel
theorem dX8_book_12 : decode cX8_book 12 = .ok (.iconst 4, 1) := by decide +kernel
theorem dX8_book_13 : decode cX8_book 13 = .ok (.invokestatic 52, 3) := by decide +kernel
theorem dX8_book_16 : decode cX8_book 16 = .ok (.ifCond .eq 15, 3) := by decide +kernel
theorem dX8_book_19 : decode cX8_book 19 = .ok (.iload_n 1, 1) := by decide +kernel
theorem dX8_book_20 : decode cX8_book 20 = .ok (.iload_n 2, 1) := by decide +kernel
theorem dX8_book_21 : decode cX8_book 21 = .ok (.invokestatic 139, 3) := by decide +kernel
theorem dX8_book_24 : decode cX8_book 24 = .ok (.ifCond .eq 7, 3) := by decide +kernel
theorem dX8_book_27 : decode cX8_book 27 = .ok (.iconst 0, 1) := by decide +kernel
theorem dX8_book_28 : decode cX8_book 28 = .ok (.goto 4, 3) := by decide +kernel
theorem dX8_book_31 : decode cX8_book 31 = .ok (.iconst 1, 1) := by decide +kernel
theorem dX8_book_32 : decode cX8_book 32 = .ok (.putfield 42, 3) := by decide +kernel
theorem dX8_book_35 : decode cX8_book 35 = .ok (.aload_n 0, 1) := by decide +kernel
theorem dX8_book_36 : decode cX8_book 36 = .ok (.getfield 42, 3) := by decide +kernel
theorem dX8_book_39 : decode cX8_book 39 = .ok (.ifCond .le 5, 3) := by decide +kernel
theorem dX8_book_42 : decode cX8_book 42 = .ok (.iconst 0, 1) := by decide +kernel
theorem dX8_book_43 : decode cX8_book 43 = .ok (.ireturn, 1) := by decide +kernel
theorem dX8_book_44 : decode cX8_book 44 = .ok (.aload_n 0, 1) := by decide +kernel
theorem dX8_book_45 : decode cX8_book 45 = .ok (.iload_n 1, 1) := by decide +kernel
theorem dX8_book_46 : decode cX8_book 46 = .ok (.iload_n 2, 1) := by decide +kernel
theorem dX8_book_47 : decode cX8_book 47 = .ok (.iload_n 3, 1) := by decide +kernel
theorem dX8_book_48 : decode cX8_book 48 = .ok (.iload 4, 2) := by decide +kernel
theorem dX8_book_50 : decode cX8_book 50 = .ok (.iload 5, 2) := by decide +kernel
theorem dX8_book_52 : decode cX8_book 52 = .ok (.invokevirtual 143, 3) := by decide +kernel
theorem dX8_book_55 : decode cX8_book 55 = .ok (.istore 6, 2) := by decide +kernel
theorem dX8_book_57 : decode cX8_book 57 = .ok (.iload 6, 2) := by decide +kernel
theorem dX8_book_59 : decode cX8_book 59 = .ok (.ifCond .le 11, 3) := by decide +kernel
theorem dX8_book_62 : decode cX8_book 62 = .ok (.aload_n 0, 1) := by decide +kernel
theorem dX8_book_63 : decode cX8_book 63 = .ok (.iconst 2, 1) := by decide +kernel
theorem dX8_book_64 : decode cX8_book 64 = .ok (.iload 6, 2) := by decide +kernel
theorem dX8_book_66 : decode cX8_book 66 = .ok (.invokevirtual 117, 3) := by decide +kernel
theorem dX8_book_69 : decode cX8_book 69 = .ok (.ireturn, 1) := by decide +kernel
theorem dX8_book_70 : decode cX8_book 70 = .ok (.aload_n 0, 1) := by decide +kernel
theorem dX8_book_71 : decode cX8_book 71 = .ok (.aload_n 0, 1) := by decide +kernel
theorem dX8_book_72 : decode cX8_book 72 = .ok (.getfield 7, 3) := by decide +kernel
theorem dX8_book_75 : decode cX8_book 75 = .ok (.invokevirtual 71, 3) := by decide +kernel
theorem dX8_book_78 : decode cX8_book 78 = .ok (.aload_n 0, 1) := by decide +kernel
theorem dX8_book_79 : decode cX8_book 79 = .ok (.iload_n 1, 1) := by decide +kernel
theorem dX8_book_80 : decode cX8_book 80 = .ok (.iload_n 2, 1) := by decide +kernel
theorem dX8_book_81 : decode cX8_book 81 = .ok (.iload_n 3, 1) := by decide +kernel
theorem dX8_book_82 : decode cX8_book 82 = .ok (.iload 4, 2) := by decide +kernel
theorem dX8_book_84 : decode cX8_book 84 = .ok (.iload 5, 2) := by decide +kernel
theorem dX8_book_86 : decode cX8_book 86 = .ok (.invokevirtual 147, 3) := by decide +kernel
theorem dX8_book_89 : decode cX8_book 89 = .ok (.ireturn, 1) := by decide +kernel
theorem dX8_isCost_0 : decode cX8_isCost 0 = .ok (.iload_n 1, 1) := by decide +kernel
theorem dX8_isCost_1 : decode cX8_isCost 1 = .ok (.iconst 0, 1) := by decide +kernel
theorem dX8_isCost_2 : decode cX8_isCost 2 = .ok (.aload_n 0, 1) := by decide +kernel
theorem dX8_isCost_3 : decode cX8_isCost 3 = .ok (.getfield 7, 3) := by decide +kernel
theorem dX8_isCost_6 : decode cX8_isCost 6 = .ok (.bipush 105, 2) := by decide +kernel
theorem dX8_isCost_8 : decode cX8_isCost 8 = .ok (.iaload, 1) := by decide +kernel
theorem dX8_isCost_9 : decode cX8_isCost 9 = .ok (.iconst 1, 1) := by decide +kernel
theorem dX8_isCost_10 : decode cX8_isCost 10 = .ok (.isub, 1) := by decide +kernel
theorem dX8_isCost_11 : decode cX8_isCost 11 = .ok (.invokestatic 52, 3) := by decide +kernel
theorem dX8_isCost_14 : decode cX8_isCost 14 = .ok (.ireturn, 1) := by decide +kernel
theorem dX8_cost_0 : decode cX8_cost 0 = .ok (.aload_n 0, 1) := by decide +kernel
theorem dX8_cost_1 : decode cX8_cost 1 = .ok (.aload_n 0, 1) := by decide +kernel
theorem dX8_cost_2 : decode cX8_cost 2 = .ok (.iload_n 1, 1) := by decide +kernel
theorem dX8_cost_3 : decode cX8_cost 3 = .ok (.invokevirtual 150, 3) := by decide +kernel
theorem dX8_cost_6 : decode cX8_cost 6 = .ok (.ifCond .eq 20, 3) := by decide +kernel
theorem dX8_cost_9 : decode cX8_cost 9 = .ok (.iload_n 2, 1) := by decide +kernel
theorem dX8_cost_10 : decode cX8_cost 10 = .ok (.iconst 0, 1) := by decide +kernel
theorem dX8_cost_11 : decode cX8_cost 11 = .ok (.iconst 5, 1) := by decide +kernel
theorem dX8_cost_12 : decode cX8_cost 12 = .ok (.invokestatic 52, 3) := by decide +kernel
theorem dX8_cost_15 : decode cX8_cost 15 = .ok (.ifCond .eq 7, 3) := by decide +kernel
theorem dX8_cost_18 : decode cX8_cost 18 = .ok (.iconst 0, 1) := by decide +kernel
theorem dX8_cost_19 : decode cX8_cost 19 = .ok (.goto 8, 3) := by decide +kernel
theorem dX8_cost_22 : decode cX8_cost 22 = .ok (.iconst 2, 1) := by decide +kernel
theorem dX8_cost_23 : decode cX8_cost 23 = .ok (.goto 4, 3) := by decide +kernel
theorem dX8_cost_26 : decode cX8_cost 26 = .ok (.iconst 1, 1) := by decide +kernel
theorem dX8_cost_27 : decode cX8_cost 27 = .ok (.putfield 42, 3) := by decide +kernel
theorem dX8_cost_30 : decode cX8_cost 30 = .ok (.aload_n 0, 1) := by decide +kernel
theorem dX8_cost_31 : decode cX8_cost 31 = .ok (.getfield 42, 3) := by decide +kernel
theorem dX8_cost_34 : decode cX8_cost 34 = .ok (.ifCond .le 7, 3) := by decide +kernel
theorem dX8_cost_37 : decode cX8_cost 37 = .ok (.iconst 0, 1) := by decide +kernel
theorem dX8_cost_38 : decode cX8_cost 38 = .ok (.goto 17, 3) := by decide +kernel
theorem dX8_cost_41 : decode cX8_cost 41 = .ok (.aload_n 0, 1) := by decide +kernel
theorem dX8_cost_42 : decode cX8_cost 42 = .ok (.getfield 7, 3) := by decide +kernel
theorem dX8_cost_45 : decode cX8_cost 45 = .ok (.bipush 106, 2) := by decide +kernel
theorem dX8_cost_47 : decode cX8_cost 47 = .ok (.bipush 18, 2) := by decide +kernel
theorem dX8_cost_49 : decode cX8_cost 49 = .ok (.iload_n 1, 1) := by decide +kernel
theorem dX8_cost_50 : decode cX8_cost 50 = .ok (.imul, 1) := by decide +kernel
theorem dX8_cost_51 : decode cX8_cost 51 = .ok (.iadd, 1) := by decide +kernel
theorem dX8_cost_52 : decode cX8_cost 52 = .ok (.iload_n 2, 1) := by decide +kernel
theorem dX8_cost_53 : decode cX8_cost 53 = .ok (.iadd, 1) := by decide +kernel
theorem dX8_cost_54 : decode cX8_cost 54 = .ok (.iaload, 1) := by decide +kernel
theorem dX8_cost_55 : decode cX8_cost 55 = .ok (.ireturn, 1) := by decide +kernel
theorem dX8_part_0 : decode cX8_part 0 = .ok (.aload_n 0, 1) := by decide +kernel
theorem dX8_part_1 : decode cX8_part 1 = .ok (.aload_n 0, 1) := by decide +kernel
theorem dX8_part_2 : decode cX8_part 2 = .ok (.iload_n 1, 1) := by decide +kernel
theorem dX8_part_3 : decode cX8_part 3 = .ok (.invokevirtual 150, 3) := by decide +kernel
theorem dX8_part_6 : decode cX8_part 6 = .ok (.ifCond .eq 15, 3) := by decide +kernel
theorem dX8_part_9 : decode cX8_part 9 = .ok (.aload_n 0, 1) := by decide +kernel
theorem dX8_part_10 : decode cX8_part 10 = .ok (.iload_n 2, 1) := by decide +kernel
theorem dX8_part_11 : decode cX8_part 11 = .ok (.invokevirtual 75, 3) := by decide +kernel
theorem dX8_part_14 : decode cX8_part 14 = .ok (.ifCond .eq 7, 3) := by decide +kernel
theorem dX8_part_17 : decode cX8_part 17 = .ok (.iconst 0, 1) := by decide +kernel
theorem dX8_part_18 : decode cX8_part 18 = .ok (.goto 4, 3) := by decide +kernel
theorem dX8_part_21 : decode cX8_part 21 = .ok (.iconst 1, 1) := by decide +kernel
theorem dX8_part_22 : decode cX8_part 22 = .ok (.putfield 42, 3) := by decide +kernel
theorem dX8_part_25 : decode cX8_part 25 = .ok (.aload_n 0, 1) := by decide +kernel
theorem dX8_part_26 : decode cX8_part 26 = .ok (.getfield 42, 3) := by decide +kernel
theorem dX8_part_29 : decode cX8_part 29 = .ok (.ifCond .le 7, 3) := by decide +kernel
theorem dX8_part_32 : decode cX8_part 32 = .ok (.iconst 0, 1) := by decide +kernel
theorem dX8_part_33 : decode cX8_part 33 = .ok (.goto 20, 3) := by decide +kernel
theorem dX8_part_36 : decode cX8_part 36 = .ok (.aload_n 0, 1) := by decide +kernel
theorem dX8_part_37 : decode cX8_part 37 = .ok (.getfield 7, 3) := by decide +kernel
theorem dX8_part_40 : decode cX8_part 40 = .ok (.bipush 106, 2) := by decide +kernel
theorem dX8_part_42 : decode cX8_part 42 = .ok (.bipush 18, 2) := by decide +kernel
theorem dX8_part_44 : decode cX8_part 44 = .ok (.iload_n 1, 1) := by decide +kernel
theorem dX8_part_45 : decode cX8_part 45 = .ok (.imul, 1) := by decide +kernel
theorem dX8_part_46 : decode cX8_part 46 = .ok (.iadd, 1) := by decide +kernel
theorem dX8_part_47 : decode cX8_part 47 = .ok (.bipush 6, 2) := by decide +kernel
theorem dX8_part_49 : decode cX8_part 49 = .ok (.iadd, 1) := by decide +kernel
theorem dX8_part_50 : decode cX8_part 50 = .ok (.iload_n 2, 1) := by decide +kernel
theorem dX8_part_51 : decode cX8_part 51 = .ok (.iadd, 1) := by decide +kernel
theorem dX8_part_52 : decode cX8_part 52 = .ok (.iaload, 1) := by decide +kernel
theorem dX8_part_53 : decode cX8_part 53 = .ok (.ireturn, 1) := by decide +kernel
theorem dX8_wouldPay_0 : decode cX8_wouldPay 0 = .ok (.aload_n 0, 1) := by decide +kernel
theorem dX8_wouldPay_1 : decode cX8_wouldPay 1 = .ok (.aload_n 0, 1) := by decide +kernel
theorem dX8_wouldPay_2 : decode cX8_wouldPay 2 = .ok (.iload 4, 2) := by decide +kernel
theorem dX8_wouldPay_4 : decode cX8_wouldPay 4 = .ok (.invokevirtual 75, 3) := by decide +kernel
theorem dX8_wouldPay_7 : decode cX8_wouldPay 7 = .ok (.ifCond .ne 7, 3) := by decide +kernel
theorem dX8_wouldPay_10 : decode cX8_wouldPay 10 = .ok (.iconst 1, 1) := by decide +kernel
theorem dX8_wouldPay_11 : decode cX8_wouldPay 11 = .ok (.goto 48, 3) := by decide +kernel
theorem dX8_wouldPay_14 : decode cX8_wouldPay 14 = .ok (.iload_n 1, 1) := by decide +kernel
theorem dX8_wouldPay_15 : decode cX8_wouldPay 15 = .ok (.iconst 0, 1) := by decide +kernel
theorem dX8_wouldPay_16 : decode cX8_wouldPay 16 = .ok (.iconst 4, 1) := by decide +kernel
theorem dX8_wouldPay_17 : decode cX8_wouldPay 17 = .ok (.invokestatic 52, 3) := by decide +kernel
theorem dX8_wouldPay_20 : decode cX8_wouldPay 20 = .ok (.ifCond .eq 21, 3) := by decide +kernel
theorem dX8_wouldPay_23 : decode cX8_wouldPay 23 = .ok (.iload_n 1, 1) := by decide +kernel
theorem dX8_wouldPay_24 : decode cX8_wouldPay 24 = .ok (.iload_n 2, 1) := by decide +kernel
theorem dX8_wouldPay_25 : decode cX8_wouldPay 25 = .ok (.invokestatic 139, 3) := by decide +kernel
theorem dX8_wouldPay_28 : decode cX8_wouldPay 28 = .ok (.ifCond .eq 13, 3) := by decide +kernel
theorem dX8_wouldPay_31 : decode cX8_wouldPay 31 = .ok (.iload_n 3, 1) := by decide +kernel
theorem dX8_wouldPay_32 : decode cX8_wouldPay 32 = .ok (.iconst 1, 1) := by decide +kernel
theorem dX8_wouldPay_33 : decode cX8_wouldPay 33 = .ok (.ldc 112, 2) := by decide +kernel
theorem dX8_wouldPay_35 : decode cX8_wouldPay 35 = .ok (.invokestatic 52, 3) := by decide +kernel
theorem dX8_wouldPay_38 : decode cX8_wouldPay 38 = .ok (.ifCond .ne 7, 3) := by decide +kernel
theorem dX8_wouldPay_41 : decode cX8_wouldPay 41 = .ok (.iconst 2, 1) := by decide +kernel
theorem dX8_wouldPay_42 : decode cX8_wouldPay 42 = .ok (.goto 17, 3) := by decide +kernel
theorem dX8_wouldPay_45 : decode cX8_wouldPay 45 = .ok (.aload_n 0, 1) := by decide +kernel
theorem dX8_wouldPay_46 : decode cX8_wouldPay 46 = .ok (.iload_n 1, 1) := by decide +kernel
theorem dX8_wouldPay_47 : decode cX8_wouldPay 47 = .ok (.iload_n 2, 1) := by decide +kernel
theorem dX8_wouldPay_48 : decode cX8_wouldPay 48 = .ok (.invokevirtual 120, 3) := by decide +kernel
theorem dX8_wouldPay_51 : decode cX8_wouldPay 51 = .ok (.ifCond .ne 7, 3) := by decide +kernel
theorem dX8_wouldPay_54 : decode cX8_wouldPay 54 = .ok (.iconst 3, 1) := by decide +kernel
theorem dX8_wouldPay_55 : decode cX8_wouldPay 55 = .ok (.goto 4, 3) := by decide +kernel
theorem dX8_wouldPay_58 : decode cX8_wouldPay 58 = .ok (.iconst 0, 1) := by decide +kernel
theorem dX8_wouldPay_59 : decode cX8_wouldPay 59 = .ok (.putfield 42, 3) := by decide +kernel
theorem dX8_wouldPay_62 : decode cX8_wouldPay 62 = .ok (.aload_n 0, 1) := by decide +kernel
theorem dX8_wouldPay_63 : decode cX8_wouldPay 63 = .ok (.getfield 42, 3) := by decide +kernel
theorem dX8_wouldPay_66 : decode cX8_wouldPay 66 = .ok (.ifCond .le 5, 3) := by decide +kernel
theorem dX8_wouldPay_69 : decode cX8_wouldPay 69 = .ok (.iconst 0, 1) := by decide +kernel
theorem dX8_wouldPay_70 : decode cX8_wouldPay 70 = .ok (.ireturn, 1) := by decide +kernel
theorem dX8_wouldPay_71 : decode cX8_wouldPay 71 = .ok (.aload_n 0, 1) := by decide +kernel
theorem dX8_wouldPay_72 : decode cX8_wouldPay 72 = .ok (.iload_n 1, 1) := by decide +kernel
theorem dX8_wouldPay_73 : decode cX8_wouldPay 73 = .ok (.iload_n 2, 1) := by decide +kernel
theorem dX8_wouldPay_74 : decode cX8_wouldPay 74 = .ok (.iload_n 3, 1) := by decide +kernel
theorem dX8_wouldPay_75 : decode cX8_wouldPay 75 = .ok (.invokevirtual 127, 3) := by decide +kernel
theorem dX8_wouldPay_78 : decode cX8_wouldPay 78 = .ok (.aload_n 0, 1) := by decide +kernel
theorem dX8_wouldPay_79 : decode cX8_wouldPay 79 = .ok (.getfield 29, 3) := by decide +kernel
theorem dX8_wouldPay_82 : decode cX8_wouldPay 82 = .ok (.iload 4, 2) := by decide +kernel
theorem dX8_wouldPay_84 : decode cX8_wouldPay 84 = .ok (.iaload, 1) := by decide +kernel
theorem dX8_wouldPay_85 : decode cX8_wouldPay 85 = .ok (.ireturn, 1) := by decide +kernel
theorem dX8_fund_0 : decode cX8_fund 0 = .ok (.aload_n 0, 1) := by decide +kernel
theorem dX8_fund_1 : decode cX8_fund 1 = .ok (.iload_n 1, 1) := by decide +kernel
theorem dX8_fund_2 : decode cX8_fund 2 = .ok (.iconst 0, 1) := by decide +kernel
theorem dX8_fund_3 : decode cX8_fund 3 = .ok (.iconst 4, 1) := by decide +kernel
theorem dX8_fund_4 : decode cX8_fund 4 = .ok (.invokestatic 52, 3) := by decide +kernel
theorem dX8_fund_7 : decode cX8_fund 7 = .ok (.ifCond .eq 7, 3) := by decide +kernel
theorem dX8_fund_10 : decode cX8_fund 10 = .ok (.iconst 0, 1) := by decide +kernel
theorem dX8_fund_11 : decode cX8_fund 11 = .ok (.goto 4, 3) := by decide +kernel
theorem dX8_fund_14 : decode cX8_fund 14 = .ok (.iconst 1, 1) := by decide +kernel
theorem dX8_fund_15 : decode cX8_fund 15 = .ok (.putfield 42, 3) := by decide +kernel
theorem dX8_fund_18 : decode cX8_fund 18 = .ok (.aload_n 0, 1) := by decide +kernel
theorem dX8_fund_19 : decode cX8_fund 19 = .ok (.getfield 42, 3) := by decide +kernel
theorem dX8_fund_22 : decode cX8_fund 22 = .ok (.ifCond .le 5, 3) := by decide +kernel
theorem dX8_fund_25 : decode cX8_fund 25 = .ok (.iconst 0, 1) := by decide +kernel
theorem dX8_fund_26 : decode cX8_fund 26 = .ok (.ireturn, 1) := by decide +kernel
theorem dX8_fund_27 : decode cX8_fund 27 = .ok (.aload_n 0, 1) := by decide +kernel
theorem dX8_fund_28 : decode cX8_fund 28 = .ok (.getfield 7, 3) := by decide +kernel
theorem dX8_fund_31 : decode cX8_fund 31 = .ok (.iconst 2, 1) := by decide +kernel
theorem dX8_fund_32 : decode cX8_fund 32 = .ok (.iaload, 1) := by decide +kernel
theorem dX8_fund_33 : decode cX8_fund 33 = .ok (.ifCond .ne 7, 3) := by decide +kernel
theorem dX8_fund_36 : decode cX8_fund 36 = .ok (.iconst 1, 1) := by decide +kernel
theorem dX8_fund_37 : decode cX8_fund 37 = .ok (.goto 25, 3) := by decide +kernel
theorem dX8_fund_40 : decode cX8_fund 40 = .ok (.iload_n 2, 1) := by decide +kernel
theorem dX8_fund_41 : decode cX8_fund 41 = .ok (.iconst 1, 1) := by decide +kernel
theorem dX8_fund_42 : decode cX8_fund 42 = .ok (.ldc 112, 2) := by decide +kernel
theorem dX8_fund_44 : decode cX8_fund 44 = .ok (.invokestatic 52, 3) := by decide +kernel
theorem dX8_fund_47 : decode cX8_fund 47 = .ok (.ifCond .ne 7, 3) := by decide +kernel
theorem dX8_fund_50 : decode cX8_fund 50 = .ok (.iconst 2, 1) := by decide +kernel
theorem dX8_fund_51 : decode cX8_fund 51 = .ok (.goto 11, 3) := by decide +kernel
theorem dX8_fund_54 : decode cX8_fund 54 = .ok (.aload_n 0, 1) := by decide +kernel
theorem dX8_fund_55 : decode cX8_fund 55 = .ok (.iconst 0, 1) := by decide +kernel
theorem dX8_fund_56 : decode cX8_fund 56 = .ok (.iconst 0, 1) := by decide +kernel
theorem dX8_fund_57 : decode cX8_fund 57 = .ok (.iload_n 1, 1) := by decide +kernel
theorem dX8_fund_58 : decode cX8_fund 58 = .ok (.iload_n 2, 1) := by decide +kernel
theorem dX8_fund_59 : decode cX8_fund 59 = .ok (.invokevirtual 153, 3) := by decide +kernel
theorem dX8_fund_62 : decode cX8_fund 62 = .ok (.istore_n 3, 1) := by decide +kernel
theorem dX8_fund_63 : decode cX8_fund 63 = .ok (.iload_n 3, 1) := by decide +kernel
theorem dX8_fund_64 : decode cX8_fund 64 = .ok (.ifCond .le 10, 3) := by decide +kernel
theorem dX8_fund_67 : decode cX8_fund 67 = .ok (.aload_n 0, 1) := by decide +kernel
theorem dX8_fund_68 : decode cX8_fund 68 = .ok (.iconst 2, 1) := by decide +kernel
theorem dX8_fund_69 : decode cX8_fund 69 = .ok (.iload_n 3, 1) := by decide +kernel
theorem dX8_fund_70 : decode cX8_fund 70 = .ok (.invokevirtual 117, 3) := by decide +kernel
theorem dX8_fund_73 : decode cX8_fund 73 = .ok (.ireturn, 1) := by decide +kernel
theorem dX8_fund_74 : decode cX8_fund 74 = .ok (.aload_n 0, 1) := by decide +kernel
theorem dX8_fund_75 : decode cX8_fund 75 = .ok (.aload_n 0, 1) := by decide +kernel
theorem dX8_fund_76 : decode cX8_fund 76 = .ok (.getfield 7, 3) := by decide +kernel
theorem dX8_fund_79 : decode cX8_fund 79 = .ok (.invokevirtual 71, 3) := by decide +kernel
theorem dX8_fund_82 : decode cX8_fund 82 = .ok (.aload_n 0, 1) := by decide +kernel
theorem dX8_fund_83 : decode cX8_fund 83 = .ok (.invokevirtual 136, 3) := by decide +kernel
theorem dX8_fund_86 : decode cX8_fund 86 = .ok (.aload_n 0, 1) := by decide +kernel
theorem dX8_fund_87 : decode cX8_fund 87 = .ok (.getfield 7, 3) := by decide +kernel
theorem dX8_fund_90 : decode cX8_fund 90 = .ok (.bipush 99, 2) := by decide +kernel
theorem dX8_fund_92 : decode cX8_fund 92 = .ok (.iload_n 1, 1) := by decide +kernel
theorem dX8_fund_93 : decode cX8_fund 93 = .ok (.iadd, 1) := by decide +kernel
theorem dX8_fund_94 : decode cX8_fund 94 = .ok (.dup2, 1) := by decide +kernel
theorem dX8_fund_95 : decode cX8_fund 95 = .ok (.iaload, 1) := by decide +kernel
theorem dX8_fund_96 : decode cX8_fund 96 = .ok (.iload_n 2, 1) := by decide +kernel
theorem dX8_fund_97 : decode cX8_fund 97 = .ok (.iadd, 1) := by decide +kernel
theorem dX8_fund_98 : decode cX8_fund 98 = .ok (.iastore, 1) := by decide +kernel
theorem dX8_fund_99 : decode cX8_fund 99 = .ok (.aload_n 0, 1) := by decide +kernel
theorem dX8_fund_100 : decode cX8_fund 100 = .ok (.getfield 7, 3) := by decide +kernel
theorem dX8_fund_103 : decode cX8_fund 103 = .ok (.bipush 99, 2) := by decide +kernel
theorem dX8_fund_105 : decode cX8_fund 105 = .ok (.iload_n 1, 1) := by decide +kernel
theorem dX8_fund_106 : decode cX8_fund 106 = .ok (.iadd, 1) := by decide +kernel
theorem dX8_fund_107 : decode cX8_fund 107 = .ok (.iaload, 1) := by decide +kernel
theorem dX8_fund_108 : decode cX8_fund 108 = .ok (.ireturn, 1) := by decide +kernel
theorem dX8_againstLevy_0 : decode cX8_againstLevy 0 = .ok (.aload_n 0, 1) := by decide +kernel
theorem dX8_againstLevy_1 : decode cX8_againstLevy 1 = .ok (.iload_n 1, 1) := by decide +kernel
theorem dX8_againstLevy_2 : decode cX8_againstLevy 2 = .ok (.iload_n 2, 1) := by decide +kernel
theorem dX8_againstLevy_3 : decode cX8_againstLevy 3 = .ok (.iload 4, 2) := by decide +kernel
theorem dX8_againstLevy_5 : decode cX8_againstLevy 5 = .ok (.invokevirtual 127, 3) := by decide +kernel
theorem dX8_againstLevy_8 : decode cX8_againstLevy 8 = .ok (.aload_n 0, 1) := by decide +kernel
theorem dX8_againstLevy_9 : decode cX8_againstLevy 9 = .ok (.invokevirtual 133, 3) := by decide +kernel
theorem dX8_againstLevy_12 : decode cX8_againstLevy 12 = .ok (.ifCond .eq 20, 3) := by decide +kernel
theorem dX8_againstLevy_15 : decode cX8_againstLevy 15 = .ok (.aload_n 0, 1) := by decide +kernel
theorem dX8_againstLevy_16 : decode cX8_againstLevy 16 = .ok (.getfield 7, 3) := by decide +kernel
theorem dX8_againstLevy_19 : decode cX8_againstLevy 19 = .ok (.bipush 99, 2) := by decide +kernel
theorem dX8_againstLevy_21 : decode cX8_againstLevy 21 = .ok (.iload_n 3, 1) := by decide +kernel
theorem dX8_againstLevy_22 : decode cX8_againstLevy 22 = .ok (.iadd, 1) := by decide +kernel
theorem dX8_againstLevy_23 : decode cX8_againstLevy 23 = .ok (.iaload, 1) := by decide +kernel
theorem dX8_againstLevy_24 : decode cX8_againstLevy 24 = .ok (.iload 4, 2) := by decide +kernel
theorem dX8_againstLevy_26 : decode cX8_againstLevy 26 = .ok (.iadd, 1) := by decide +kernel
theorem dX8_againstLevy_27 : decode cX8_againstLevy 27 = .ok (.ldc 113, 2) := by decide +kernel
theorem dX8_againstLevy_29 : decode cX8_againstLevy 29 = .ok (.if_icmp .le 7, 3) := by decide +kernel
theorem dX8_againstLevy_32 : decode cX8_againstLevy 32 = .ok (.iconst 5, 1) := by decide +kernel
theorem dX8_againstLevy_33 : decode cX8_againstLevy 33 = .ok (.goto 4, 3) := by decide +kernel
theorem dX8_againstLevy_36 : decode cX8_againstLevy 36 = .ok (.iconst 0, 1) := by decide +kernel
theorem dX8_againstLevy_37 : decode cX8_againstLevy 37 = .ok (.ireturn, 1) := by decide +kernel
theorem dX8_balance_0 : decode cX8_balance 0 = .ok (.aload_n 0, 1) := by decide +kernel
theorem dX8_balance_1 : decode cX8_balance 1 = .ok (.iload_n 1, 1) := by decide +kernel
theorem dX8_balance_2 : decode cX8_balance 2 = .ok (.iconst 0, 1) := by decide +kernel
theorem dX8_balance_3 : decode cX8_balance 3 = .ok (.iconst 4, 1) := by decide +kernel
theorem dX8_balance_4 : decode cX8_balance 4 = .ok (.invokestatic 52, 3) := by decide +kernel
theorem dX8_balance_7 : decode cX8_balance 7 = .ok (.ifCond .eq 7, 3) := by decide +kernel
theorem dX8_balance_10 : decode cX8_balance 10 = .ok (.iconst 0, 1) := by decide +kernel
theorem dX8_balance_11 : decode cX8_balance 11 = .ok (.goto 4, 3) := by decide +kernel
theorem dX8_balance_14 : decode cX8_balance 14 = .ok (.iconst 1, 1) := by decide +kernel
theorem dX8_balance_15 : decode cX8_balance 15 = .ok (.putfield 42, 3) := by decide +kernel
theorem dX8_balance_18 : decode cX8_balance 18 = .ok (.aload_n 0, 1) := by decide +kernel
theorem dX8_balance_19 : decode cX8_balance 19 = .ok (.getfield 42, 3) := by decide +kernel
theorem dX8_balance_22 : decode cX8_balance 22 = .ok (.ifCond .le 7, 3) := by decide +kernel
theorem dX8_balance_25 : decode cX8_balance 25 = .ok (.iconst 0, 1) := by decide +kernel
theorem dX8_balance_26 : decode cX8_balance 26 = .ok (.goto 12, 3) := by decide +kernel
theorem dX8_balance_29 : decode cX8_balance 29 = .ok (.aload_n 0, 1) := by decide +kernel
theorem dX8_balance_30 : decode cX8_balance 30 = .ok (.getfield 7, 3) := by decide +kernel
theorem dX8_balance_33 : decode cX8_balance 33 = .ok (.bipush 99, 2) := by decide +kernel
theorem dX8_balance_35 : decode cX8_balance 35 = .ok (.iload_n 1, 1) := by decide +kernel
theorem dX8_balance_36 : decode cX8_balance 36 = .ok (.iadd, 1) := by decide +kernel
theorem dX8_balance_37 : decode cX8_balance 37 = .ok (.iaload, 1) := by decide +kernel
theorem dX8_balance_38 : decode cX8_balance 38 = .ok (.ireturn, 1) := by decide +kernel
theorem dX8_refusal_0 : decode cX8_refusal 0 = .ok (.aload_n 0, 1) := by decide +kernel
theorem dX8_refusal_1 : decode cX8_refusal 1 = .ok (.aload_n 0, 1) := by decide +kernel
theorem dX8_refusal_2 : decode cX8_refusal 2 = .ok (.getfield 45, 3) := by decide +kernel
theorem dX8_refusal_5 : decode cX8_refusal 5 = .ok (.ifCond .ne 7, 3) := by decide +kernel
theorem dX8_refusal_8 : decode cX8_refusal 8 = .ok (.iconst 1, 1) := by decide +kernel
theorem dX8_refusal_9 : decode cX8_refusal 9 = .ok (.goto 4, 3) := by decide +kernel
theorem dX8_refusal_12 : decode cX8_refusal 12 = .ok (.iconst 0, 1) := by decide +kernel
theorem dX8_refusal_13 : decode cX8_refusal 13 = .ok (.putfield 42, 3) := by decide +kernel
theorem dX8_refusal_16 : decode cX8_refusal 16 = .ok (.aload_n 0, 1) := by decide +kernel
theorem dX8_refusal_17 : decode cX8_refusal 17 = .ok (.getfield 45, 3) := by decide +kernel
theorem dX8_refusal_20 : decode cX8_refusal 20 = .ok (.ireturn, 1) := by decide +kernel
theorem dX8_motionAt_0 : decode cX8_motionAt 0 = .ok (.sipush 467, 3) := by decide +kernel
theorem dX8_motionAt_3 : decode cX8_motionAt 3 = .ok (.bipush 17, 2) := by decide +kernel
theorem dX8_motionAt_5 : decode cX8_motionAt 5 = .ok (.iload_n 0, 1) := by decide +kernel
theorem dX8_motionAt_6 : decode cX8_motionAt 6 = .ok (.imul, 1) := by decide +kernel
theorem dX8_motionAt_7 : decode cX8_motionAt 7 = .ok (.iadd, 1) := by decide +kernel
theorem dX8_motionAt_8 : decode cX8_motionAt 8 = .ok (.iload_n 1, 1) := by decide +kernel
theorem dX8_motionAt_9 : decode cX8_motionAt 9 = .ok (.iadd, 1) := by decide +kernel
theorem dX8_motionAt_10 : decode cX8_motionAt 10 = .ok (.ireturn, 1) := by decide +kernel
theorem dX8_isMotion_0 : decode cX8_isMotion 0 = .ok (.iload_n 1, 1) := by decide +kernel
theorem dX8_isMotion_1 : decode cX8_isMotion 1 = .ok (.iconst 0, 1) := by decide +kernel
theorem dX8_isMotion_2 : decode cX8_isMotion 2 = .ok (.aload_n 0, 1) := by decide +kernel
theorem dX8_isMotion_3 : decode cX8_isMotion 3 = .ok (.getfield 7, 3) := by decide +kernel
theorem dX8_isMotion_6 : decode cX8_isMotion 6 = .ok (.sipush 466, 3) := by decide +kernel
theorem dX8_isMotion_9 : decode cX8_isMotion 9 = .ok (.iaload, 1) := by decide +kernel
theorem dX8_isMotion_10 : decode cX8_isMotion 10 = .ok (.iconst 1, 1) := by decide +kernel
theorem dX8_isMotion_11 : decode cX8_isMotion 11 = .ok (.isub, 1) := by decide +kernel
theorem dX8_isMotion_12 : decode cX8_isMotion 12 = .ok (.invokestatic 52, 3) := by decide +kernel
theorem dX8_isMotion_15 : decode cX8_isMotion 15 = .ok (.ireturn, 1) := by decide +kernel
theorem dX8_isOpen_0 : decode cX8_isOpen 0 = .ok (.aload_n 0, 1) := by decide +kernel
theorem dX8_isOpen_1 : decode cX8_isOpen 1 = .ok (.iload_n 1, 1) := by decide +kernel
theorem dX8_isOpen_2 : decode cX8_isOpen 2 = .ok (.invokevirtual 157, 3) := by decide +kernel
theorem dX8_isOpen_5 : decode cX8_isOpen 5 = .ok (.ifCond .eq 20, 3) := by decide +kernel
theorem dX8_isOpen_8 : decode cX8_isOpen 8 = .ok (.aload_n 0, 1) := by decide +kernel
theorem dX8_isOpen_9 : decode cX8_isOpen 9 = .ok (.getfield 7, 3) := by decide +kernel
theorem dX8_isOpen_12 : decode cX8_isOpen 12 = .ok (.iload_n 1, 1) := by decide +kernel
theorem dX8_isOpen_13 : decode cX8_isOpen 13 = .ok (.iconst 4, 1) := by decide +kernel
theorem dX8_isOpen_14 : decode cX8_isOpen 14 = .ok (.invokestatic 160, 3) := by decide +kernel
theorem dX8_isOpen_17 : decode cX8_isOpen 17 = .ok (.iaload, 1) := by decide +kernel
theorem dX8_isOpen_18 : decode cX8_isOpen 18 = .ok (.ifCond .ne 7, 3) := by decide +kernel
theorem dX8_isOpen_21 : decode cX8_isOpen 21 = .ok (.iconst 1, 1) := by decide +kernel
theorem dX8_isOpen_22 : decode cX8_isOpen 22 = .ok (.goto 4, 3) := by decide +kernel
theorem dX8_isOpen_25 : decode cX8_isOpen 25 = .ok (.iconst 0, 1) := by decide +kernel
theorem dX8_isOpen_26 : decode cX8_isOpen 26 = .ok (.ireturn, 1) := by decide +kernel
theorem dX8_move_0 : decode cX8_move 0 = .ok (.aload_n 0, 1) := by decide +kernel
theorem dX8_move_1 : decode cX8_move 1 = .ok (.iload_n 1, 1) := by decide +kernel
theorem dX8_move_2 : decode cX8_move 2 = .ok (.iconst 0, 1) := by decide +kernel
theorem dX8_move_3 : decode cX8_move 3 = .ok (.iconst 3, 1) := by decide +kernel
theorem dX8_move_4 : decode cX8_move 4 = .ok (.invokestatic 52, 3) := by decide +kernel
theorem dX8_move_7 : decode cX8_move 7 = .ok (.ifCond .eq 24, 3) := by decide +kernel
theorem dX8_move_10 : decode cX8_move 10 = .ok (.iload_n 3, 1) := by decide +kernel
theorem dX8_move_11 : decode cX8_move 11 = .ok (.iconst 0, 1) := by decide +kernel
theorem dX8_move_12 : decode cX8_move 12 = .ok (.iconst 4, 1) := by decide +kernel
theorem dX8_move_13 : decode cX8_move 13 = .ok (.invokestatic 52, 3) := by decide +kernel
theorem dX8_move_16 : decode cX8_move 16 = .ok (.ifCond .eq 15, 3) := by decide +kernel
theorem dX8_move_19 : decode cX8_move 19 = .ok (.iload_n 1, 1) := by decide +kernel
theorem dX8_move_20 : decode cX8_move 20 = .ok (.iload_n 2, 1) := by decide +kernel
theorem dX8_move_21 : decode cX8_move 21 = .ok (.invokestatic 139, 3) := by decide +kernel
theorem dX8_move_24 : decode cX8_move 24 = .ok (.ifCond .eq 7, 3) := by decide +kernel
theorem dX8_move_27 : decode cX8_move 27 = .ok (.iconst 0, 1) := by decide +kernel
theorem dX8_move_28 : decode cX8_move 28 = .ok (.goto 4, 3) := by decide +kernel
theorem dX8_move_31 : decode cX8_move 31 = .ok (.iconst 1, 1) := by decide +kernel
theorem dX8_move_32 : decode cX8_move 32 = .ok (.putfield 42, 3) := by decide +kernel
theorem dX8_move_35 : decode cX8_move 35 = .ok (.aload_n 0, 1) := by decide +kernel
theorem dX8_move_36 : decode cX8_move 36 = .ok (.getfield 42, 3) := by decide +kernel
theorem dX8_move_39 : decode cX8_move 39 = .ok (.ifCond .le 5, 3) := by decide +kernel
theorem dX8_move_42 : decode cX8_move 42 = .ok (.iconst 0, 1) := by decide +kernel
theorem dX8_move_43 : decode cX8_move 43 = .ok (.ireturn, 1) := by decide +kernel
theorem dX8_move_44 : decode cX8_move 44 = .ok (.aload_n 0, 1) := by decide +kernel
theorem dX8_move_45 : decode cX8_move 45 = .ok (.iload_n 1, 1) := by decide +kernel
theorem dX8_move_46 : decode cX8_move 46 = .ok (.iload_n 2, 1) := by decide +kernel
theorem dX8_move_47 : decode cX8_move 47 = .ok (.invokevirtual 120, 3) := by decide +kernel
theorem dX8_move_50 : decode cX8_move 50 = .ok (.ifCond .ne 7, 3) := by decide +kernel
theorem dX8_move_53 : decode cX8_move 53 = .ok (.iconst 1, 1) := by decide +kernel
theorem dX8_move_54 : decode cX8_move 54 = .ok (.goto 36, 3) := by decide +kernel
theorem dX8_move_57 : decode cX8_move 57 = .ok (.iload 4, 2) := by decide +kernel
theorem dX8_move_59 : decode cX8_move 59 = .ok (.iconst 1, 1) := by decide +kernel
theorem dX8_move_60 : decode cX8_move 60 = .ok (.ldc 112, 2) := by decide +kernel
theorem dX8_move_62 : decode cX8_move 62 = .ok (.invokestatic 52, 3) := by decide +kernel
theorem dX8_move_65 : decode cX8_move 65 = .ok (.ifCond .ne 7, 3) := by decide +kernel
theorem dX8_move_68 : decode cX8_move 68 = .ok (.iconst 2, 1) := by decide +kernel
theorem dX8_move_69 : decode cX8_move 69 = .ok (.goto 21, 3) := by decide +kernel
theorem dX8_move_72 : decode cX8_move 72 = .ok (.aload_n 0, 1) := by decide +kernel
theorem dX8_move_73 : decode cX8_move 73 = .ok (.getfield 7, 3) := by decide +kernel
theorem dX8_move_76 : decode cX8_move 76 = .ok (.sipush 466, 3) := by decide +kernel
theorem dX8_move_79 : decode cX8_move 79 = .ok (.iaload, 1) := by decide +kernel
theorem dX8_move_80 : decode cX8_move 80 = .ok (.bipush 8, 2) := by decide +kernel
theorem dX8_move_82 : decode cX8_move 82 = .ok (.if_icmp .ne 7, 3) := by decide +kernel
theorem dX8_move_85 : decode cX8_move 85 = .ok (.iconst 4, 1) := by decide +kernel
theorem dX8_move_86 : decode cX8_move 86 = .ok (.goto 4, 3) := by decide +kernel
theorem dX8_move_89 : decode cX8_move 89 = .ok (.iconst 0, 1) := by decide +kernel
theorem dX8_move_90 : decode cX8_move 90 = .ok (.istore 5, 2) := by decide +kernel
theorem dX8_move_92 : decode cX8_move 92 = .ok (.iload 5, 2) := by decide +kernel
theorem dX8_move_94 : decode cX8_move 94 = .ok (.ifCond .le 11, 3) := by decide +kernel
theorem dX8_move_97 : decode cX8_move 97 = .ok (.aload_n 0, 1) := by decide +kernel
theorem dX8_move_98 : decode cX8_move 98 = .ok (.iconst 2, 1) := by decide +kernel
theorem dX8_move_99 : decode cX8_move 99 = .ok (.iload 5, 2) := by decide +kernel
theorem dX8_move_101 : decode cX8_move 101 = .ok (.invokevirtual 117, 3) := by decide +kernel
theorem dX8_move_104 : decode cX8_move 104 = .ok (.ireturn, 1) := by decide +kernel
theorem dX8_move_105 : decode cX8_move 105 = .ok (.aload_n 0, 1) := by decide +kernel
theorem dX8_move_106 : decode cX8_move 106 = .ok (.aload_n 0, 1) := by decide +kernel
theorem dX8_move_107 : decode cX8_move 107 = .ok (.getfield 7, 3) := by decide +kernel
theorem dX8_move_110 : decode cX8_move 110 = .ok (.invokevirtual 71, 3) := by decide +kernel
theorem dX8_move_113 : decode cX8_move 113 = .ok (.aload_n 0, 1) := by decide +kernel
theorem dX8_move_114 : decode cX8_move 114 = .ok (.getfield 7, 3) := by decide +kernel
theorem dX8_move_117 : decode cX8_move 117 = .ok (.sipush 466, 3) := by decide +kernel
theorem dX8_move_120 : decode cX8_move 120 = .ok (.iaload, 1) := by decide +kernel
theorem dX8_move_121 : decode cX8_move 121 = .ok (.istore 6, 2) := by decide +kernel
theorem dX8_move_123 : decode cX8_move 123 = .ok (.aload_n 0, 1) := by decide +kernel
theorem dX8_move_124 : decode cX8_move 124 = .ok (.getfield 7, 3) := by decide +kernel
theorem dX8_move_127 : decode cX8_move 127 = .ok (.sipush 466, 3) := by decide +kernel
theorem dX8_move_130 : decode cX8_move 130 = .ok (.dup2, 1) := by decide +kernel
theorem dX8_move_131 : decode cX8_move 131 = .ok (.iaload, 1) := by decide +kernel
theorem dX8_move_132 : decode cX8_move 132 = .ok (.iconst 1, 1) := by decide +kernel
theorem dX8_move_133 : decode cX8_move 133 = .ok (.iadd, 1) := by decide +kernel
theorem dX8_move_134 : decode cX8_move 134 = .ok (.iastore, 1) := by decide +kernel
theorem dX8_move_135 : decode cX8_move 135 = .ok (.iconst 0, 1) := by decide +kernel
theorem dX8_move_136 : decode cX8_move 136 = .ok (.istore 7, 2) := by decide +kernel
theorem dX8_move_138 : decode cX8_move 138 = .ok (.iload 7, 2) := by decide +kernel
theorem dX8_move_140 : decode cX8_move 140 = .ok (.bipush 17, 2) := by decide +kernel
theorem dX8_move_142 : decode cX8_move 142 = .ok (.if_icmp .ge 62, 3) := by decide +kernel
theorem dX8_move_145 : decode cX8_move 145 = .ok (.aload_n 0, 1) := by decide +kernel
theorem dX8_move_146 : decode cX8_move 146 = .ok (.getfield 7, 3) := by decide +kernel
theorem dX8_move_149 : decode cX8_move 149 = .ok (.iload 6, 2) := by decide +kernel
theorem dX8_move_151 : decode cX8_move 151 = .ok (.iload 7, 2) := by decide +kernel
theorem dX8_move_153 : decode cX8_move 153 = .ok (.invokestatic 160, 3) := by decide +kernel
theorem dX8_move_156 : decode cX8_move 156 = .ok (.iload 7, 2) := by decide +kernel
theorem dX8_move_158 : decode cX8_move 158 = .ok (.ifCond .ne 7, 3) := by decide +kernel
theorem dX8_move_161 : decode cX8_move 161 = .ok (.iload_n 1, 1) := by decide +kernel
theorem dX8_move_162 : decode cX8_move 162 = .ok (.goto 35, 3) := by decide +kernel
theorem dX8_move_165 : decode cX8_move 165 = .ok (.iload 7, 2) := by decide +kernel
theorem dX8_move_167 : decode cX8_move 167 = .ok (.iconst 1, 1) := by decide +kernel
theorem dX8_move_168 : decode cX8_move 168 = .ok (.if_icmp .ne 7, 3) := by decide +kernel
theorem dX8_move_171 : decode cX8_move 171 = .ok (.iload_n 2, 1) := by decide +kernel
theorem dX8_move_172 : decode cX8_move 172 = .ok (.goto 25, 3) := by decide +kernel
theorem dX8_move_175 : decode cX8_move 175 = .ok (.iload 7, 2) := by decide +kernel
theorem dX8_move_177 : decode cX8_move 177 = .ok (.iconst 2, 1) := by decide +kernel
theorem dX8_move_178 : decode cX8_move 178 = .ok (.if_icmp .ne 7, 3) := by decide +kernel
theorem dX8_move_181 : decode cX8_move 181 = .ok (.iload_n 3, 1) := by decide +kernel
theorem dX8_move_182 : decode cX8_move 182 = .ok (.goto 15, 3) := by decide +kernel
theorem dX8_move_185 : decode cX8_move 185 = .ok (.iload 7, 2) := by decide +kernel
theorem dX8_move_187 : decode cX8_move 187 = .ok (.iconst 3, 1) := by decide +kernel
theorem dX8_move_188 : decode cX8_move 188 = .ok (.if_icmp .ne 8, 3) := by decide +kernel
theorem dX8_move_191 : decode cX8_move 191 = .ok (.iload 4, 2) := by decide +kernel
theorem dX8_move_193 : decode cX8_move 193 = .ok (.goto 4, 3) := by decide +kernel
theorem dX8_move_196 : decode cX8_move 196 = .ok (.iconst 0, 1) := by decide +kernel
theorem dX8_move_197 : decode cX8_move 197 = .ok (.iastore, 1) := by decide +kernel
theorem dX8_move_198 : decode cX8_move 198 = .ok (.iinc 7 1, 3) := by decide +kernel
theorem dX8_move_201 : decode cX8_move 201 = .ok (.goto (-63), 3) := by decide +kernel
theorem dX8_move_204 : decode cX8_move 204 = .ok (.iload 6, 2) := by decide +kernel
theorem dX8_move_206 : decode cX8_move 206 = .ok (.ireturn, 1) := by decide +kernel
theorem dX8_voteOf_0 : decode cX8_voteOf 0 = .ok (.aload_n 0, 1) := by decide +kernel
theorem dX8_voteOf_1 : decode cX8_voteOf 1 = .ok (.getfield 7, 3) := by decide +kernel
theorem dX8_voteOf_4 : decode cX8_voteOf 4 = .ok (.iload_n 1, 1) := by decide +kernel
theorem dX8_voteOf_5 : decode cX8_voteOf 5 = .ok (.iconst 5, 1) := by decide +kernel
theorem dX8_voteOf_6 : decode cX8_voteOf 6 = .ok (.iload_n 2, 1) := by decide +kernel
theorem dX8_voteOf_7 : decode cX8_voteOf 7 = .ok (.iadd, 1) := by decide +kernel
theorem dX8_voteOf_8 : decode cX8_voteOf 8 = .ok (.invokestatic 160, 3) := by decide +kernel
theorem dX8_voteOf_11 : decode cX8_voteOf 11 = .ok (.iaload, 1) := by decide +kernel
theorem dX8_voteOf_12 : decode cX8_voteOf 12 = .ok (.ireturn, 1) := by decide +kernel
theorem dX8_vote_0 : decode cX8_vote 0 = .ok (.aload_n 0, 1) := by decide +kernel
theorem dX8_vote_1 : decode cX8_vote 1 = .ok (.aload_n 0, 1) := by decide +kernel
theorem dX8_vote_2 : decode cX8_vote 2 = .ok (.iload_n 2, 1) := by decide +kernel
theorem dX8_vote_3 : decode cX8_vote 3 = .ok (.invokevirtual 75, 3) := by decide +kernel
theorem dX8_vote_6 : decode cX8_vote 6 = .ok (.ifCond .eq 20, 3) := by decide +kernel
theorem dX8_vote_9 : decode cX8_vote 9 = .ok (.iload_n 3, 1) := by decide +kernel
theorem dX8_vote_10 : decode cX8_vote 10 = .ok (.iconst (-1), 1) := by decide +kernel
theorem dX8_vote_11 : decode cX8_vote 11 = .ok (.iconst 1, 1) := by decide +kernel
theorem dX8_vote_12 : decode cX8_vote 12 = .ok (.invokestatic 52, 3) := by decide +kernel
theorem dX8_vote_15 : decode cX8_vote 15 = .ok (.ifCond .eq 7, 3) := by decide +kernel
theorem dX8_vote_18 : decode cX8_vote 18 = .ok (.iconst 0, 1) := by decide +kernel
theorem dX8_vote_19 : decode cX8_vote 19 = .ok (.goto 8, 3) := by decide +kernel
theorem dX8_vote_22 : decode cX8_vote 22 = .ok (.iconst 2, 1) := by decide +kernel
theorem dX8_vote_23 : decode cX8_vote 23 = .ok (.goto 4, 3) := by decide +kernel
theorem dX8_vote_26 : decode cX8_vote 26 = .ok (.iconst 1, 1) := by decide +kernel
theorem dX8_vote_27 : decode cX8_vote 27 = .ok (.putfield 42, 3) := by decide +kernel
theorem dX8_vote_30 : decode cX8_vote 30 = .ok (.aload_n 0, 1) := by decide +kernel
theorem dX8_vote_31 : decode cX8_vote 31 = .ok (.getfield 42, 3) := by decide +kernel
theorem dX8_vote_34 : decode cX8_vote 34 = .ok (.ifCond .le 5, 3) := by decide +kernel
theorem dX8_vote_37 : decode cX8_vote 37 = .ok (.iconst 0, 1) := by decide +kernel
theorem dX8_vote_38 : decode cX8_vote 38 = .ok (.ireturn, 1) := by decide +kernel
theorem dX8_vote_39 : decode cX8_vote 39 = .ok (.aload_n 0, 1) := by decide +kernel
theorem dX8_vote_40 : decode cX8_vote 40 = .ok (.iload_n 1, 1) := by decide +kernel
theorem dX8_vote_41 : decode cX8_vote 41 = .ok (.invokevirtual 163, 3) := by decide +kernel
theorem dX8_vote_44 : decode cX8_vote 44 = .ok (.ifCond .ne 10, 3) := by decide +kernel
theorem dX8_vote_47 : decode cX8_vote 47 = .ok (.aload_n 0, 1) := by decide +kernel
theorem dX8_vote_48 : decode cX8_vote 48 = .ok (.iconst 3, 1) := by decide +kernel
theorem dX8_vote_49 : decode cX8_vote 49 = .ok (.iconst 3, 1) := by decide +kernel
theorem dX8_vote_50 : decode cX8_vote 50 = .ok (.invokevirtual 117, 3) := by decide +kernel
theorem dX8_vote_53 : decode cX8_vote 53 = .ok (.ireturn, 1) := by decide +kernel
theorem dX8_vote_54 : decode cX8_vote 54 = .ok (.aload_n 0, 1) := by decide +kernel
theorem dX8_vote_55 : decode cX8_vote 55 = .ok (.aload_n 0, 1) := by decide +kernel
theorem dX8_vote_56 : decode cX8_vote 56 = .ok (.getfield 7, 3) := by decide +kernel
theorem dX8_vote_59 : decode cX8_vote 59 = .ok (.invokevirtual 71, 3) := by decide +kernel
theorem dX8_vote_62 : decode cX8_vote 62 = .ok (.aload_n 0, 1) := by decide +kernel
theorem dX8_vote_63 : decode cX8_vote 63 = .ok (.iload_n 1, 1) := by decide +kernel
theorem dX8_vote_64 : decode cX8_vote 64 = .ok (.iload_n 2, 1) := by decide +kernel
theorem dX8_vote_65 : decode cX8_vote 65 = .ok (.invokevirtual 166, 3) := by decide +kernel
theorem dX8_vote_68 : decode cX8_vote 68 = .ok (.istore 4, 2) := by decide +kernel
theorem dX8_vote_70 : decode cX8_vote 70 = .ok (.aload_n 0, 1) := by decide +kernel
theorem dX8_vote_71 : decode cX8_vote 71 = .ok (.getfield 7, 3) := by decide +kernel
theorem dX8_vote_74 : decode cX8_vote 74 = .ok (.iload_n 1, 1) := by decide +kernel
theorem dX8_vote_75 : decode cX8_vote 75 = .ok (.iconst 5, 1) := by decide +kernel
theorem dX8_vote_76 : decode cX8_vote 76 = .ok (.iload_n 2, 1) := by decide +kernel
theorem dX8_vote_77 : decode cX8_vote 77 = .ok (.iadd, 1) := by decide +kernel
theorem dX8_vote_78 : decode cX8_vote 78 = .ok (.invokestatic 160, 3) := by decide +kernel
theorem dX8_vote_81 : decode cX8_vote 81 = .ok (.iload_n 3, 1) := by decide +kernel
theorem dX8_vote_82 : decode cX8_vote 82 = .ok (.iastore, 1) := by decide +kernel
theorem dX8_vote_83 : decode cX8_vote 83 = .ok (.iload 4, 2) := by decide +kernel
theorem dX8_vote_85 : decode cX8_vote 85 = .ok (.ireturn, 1) := by decide +kernel
theorem dX8_heads_0 : decode cX8_heads 0 = .ok (.iconst 0, 1) := by decide +kernel
theorem dX8_heads_1 : decode cX8_heads 1 = .ok (.istore_n 3, 1) := by decide +kernel
theorem dX8_heads_2 : decode cX8_heads 2 = .ok (.iconst 0, 1) := by decide +kernel
theorem dX8_heads_3 : decode cX8_heads 3 = .ok (.istore 4, 2) := by decide +kernel
theorem dX8_heads_5 : decode cX8_heads 5 = .ok (.iconst 0, 1) := by decide +kernel
theorem dX8_heads_6 : decode cX8_heads 6 = .ok (.istore 5, 2) := by decide +kernel
theorem dX8_heads_8 : decode cX8_heads 8 = .ok (.iload 5, 2) := by decide +kernel
theorem dX8_heads_10 : decode cX8_heads 10 = .ok (.aload_n 0, 1) := by decide +kernel
theorem dX8_heads_11 : decode cX8_heads 11 = .ok (.getfield 7, 3) := by decide +kernel
theorem dX8_heads_14 : decode cX8_heads 14 = .ok (.iconst 2, 1) := by decide +kernel
theorem dX8_heads_15 : decode cX8_heads 15 = .ok (.iaload, 1) := by decide +kernel
theorem dX8_heads_16 : decode cX8_heads 16 = .ok (.if_icmp .ge 70, 3) := by decide +kernel
theorem dX8_heads_19 : decode cX8_heads 19 = .ok (.aload_n 0, 1) := by decide +kernel
theorem dX8_heads_20 : decode cX8_heads 20 = .ok (.getfield 7, 3) := by decide +kernel
theorem dX8_heads_23 : decode cX8_heads 23 = .ok (.iload 5, 2) := by decide +kernel
theorem dX8_heads_25 : decode cX8_heads 25 = .ok (.iconst 3, 1) := by decide +kernel
theorem dX8_heads_26 : decode cX8_heads 26 = .ok (.invokestatic 56, 3) := by decide +kernel
theorem dX8_heads_29 : decode cX8_heads 29 = .ok (.iaload, 1) := by decide +kernel
theorem dX8_heads_30 : decode cX8_heads 30 = .ok (.istore 6, 2) := by decide +kernel
theorem dX8_heads_32 : decode cX8_heads 32 = .ok (.aload_n 0, 1) := by decide +kernel
theorem dX8_heads_33 : decode cX8_heads 33 = .ok (.iload_n 1, 1) := by decide +kernel
theorem dX8_heads_34 : decode cX8_heads 34 = .ok (.iload 5, 2) := by decide +kernel
theorem dX8_heads_36 : decode cX8_heads 36 = .ok (.invokevirtual 166, 3) := by decide +kernel
theorem dX8_heads_39 : decode cX8_heads 39 = .ok (.ifCond .eq 41, 3) := by decide +kernel
theorem dX8_heads_42 : decode cX8_heads 42 = .ok (.iload 4, 2) := by decide +kernel
theorem dX8_heads_44 : decode cX8_heads 44 = .ok (.iload 6, 2) := by decide +kernel
theorem dX8_heads_46 : decode cX8_heads 46 = .ok (.ishr, 1) := by decide +kernel
theorem dX8_heads_47 : decode cX8_heads 47 = .ok (.iconst 1, 1) := by decide +kernel
theorem dX8_heads_48 : decode cX8_heads 48 = .ok (.iand, 1) := by decide +kernel
theorem dX8_heads_49 : decode cX8_heads 49 = .ok (.ifCond .ne 31, 3) := by decide +kernel
theorem dX8_heads_52 : decode cX8_heads 52 = .ok (.iload 4, 2) := by decide +kernel
theorem dX8_heads_54 : decode cX8_heads 54 = .ok (.iconst 1, 1) := by decide +kernel
theorem dX8_heads_55 : decode cX8_heads 55 = .ok (.iload 6, 2) := by decide +kernel
theorem dX8_heads_57 : decode cX8_heads 57 = .ok (.ishl, 1) := by decide +kernel
theorem dX8_heads_58 : decode cX8_heads 58 = .ok (.ior, 1) := by decide +kernel
theorem dX8_heads_59 : decode cX8_heads 59 = .ok (.istore 4, 2) := by decide +kernel
theorem dX8_heads_61 : decode cX8_heads 61 = .ok (.iload_n 3, 1) := by decide +kernel
theorem dX8_heads_62 : decode cX8_heads 62 = .ok (.aload_n 0, 1) := by decide +kernel
theorem dX8_heads_63 : decode cX8_heads 63 = .ok (.iload_n 1, 1) := by decide +kernel
theorem dX8_heads_64 : decode cX8_heads 64 = .ok (.iload 5, 2) := by decide +kernel
theorem dX8_heads_66 : decode cX8_heads 66 = .ok (.invokevirtual 166, 3) := by decide +kernel
theorem dX8_heads_69 : decode cX8_heads 69 = .ok (.iload_n 2, 1) := by decide +kernel
theorem dX8_heads_70 : decode cX8_heads 70 = .ok (.if_icmp .ne 7, 3) := by decide +kernel
theorem dX8_heads_73 : decode cX8_heads 73 = .ok (.iconst 1, 1) := by decide +kernel
theorem dX8_heads_74 : decode cX8_heads 74 = .ok (.goto 4, 3) := by decide +kernel
theorem dX8_heads_77 : decode cX8_heads 77 = .ok (.iconst 0, 1) := by decide +kernel
theorem dX8_heads_78 : decode cX8_heads 78 = .ok (.iadd, 1) := by decide +kernel
theorem dX8_heads_79 : decode cX8_heads 79 = .ok (.istore_n 3, 1) := by decide +kernel
theorem dX8_heads_80 : decode cX8_heads 80 = .ok (.iinc 5 1, 3) := by decide +kernel
theorem dX8_heads_83 : decode cX8_heads 83 = .ok (.goto (-75), 3) := by decide +kernel
theorem dX8_heads_86 : decode cX8_heads 86 = .ok (.iload_n 3, 1) := by decide +kernel
theorem dX8_heads_87 : decode cX8_heads 87 = .ok (.ireturn, 1) := by decide +kernel
theorem dX8_sharesThat_0 : decode cX8_sharesThat 0 = .ok (.iconst 0, 1) := by decide +kernel
theorem dX8_sharesThat_1 : decode cX8_sharesThat 1 = .ok (.istore_n 3, 1) := by decide +kernel
theorem dX8_sharesThat_2 : decode cX8_sharesThat 2 = .ok (.iconst 0, 1) := by decide +kernel
theorem dX8_sharesThat_3 : decode cX8_sharesThat 3 = .ok (.istore 4, 2) := by decide +kernel
theorem dX8_sharesThat_5 : decode cX8_sharesThat 5 = .ok (.iload 4, 2) := by decide +kernel
theorem dX8_sharesThat_7 : decode cX8_sharesThat 7 = .ok (.aload_n 0, 1) := by decide +kernel
theorem dX8_sharesThat_8 : decode cX8_sharesThat 8 = .ok (.getfield 7, 3) := by decide +kernel
theorem dX8_sharesThat_11 : decode cX8_sharesThat 11 = .ok (.iconst 2, 1) := by decide +kernel
theorem dX8_sharesThat_12 : decode cX8_sharesThat 12 = .ok (.iaload, 1) := by decide +kernel
theorem dX8_sharesThat_13 : decode cX8_sharesThat 13 = .ok (.if_icmp .ge 38, 3) := by decide +kernel
theorem dX8_sharesThat_16 : decode cX8_sharesThat 16 = .ok (.iload_n 3, 1) := by decide +kernel
theorem dX8_sharesThat_17 : decode cX8_sharesThat 17 = .ok (.aload_n 0, 1) := by decide +kernel
theorem dX8_sharesThat_18 : decode cX8_sharesThat 18 = .ok (.iload_n 1, 1) := by decide +kernel
theorem dX8_sharesThat_19 : decode cX8_sharesThat 19 = .ok (.iload 4, 2) := by decide +kernel
theorem dX8_sharesThat_21 : decode cX8_sharesThat 21 = .ok (.invokevirtual 166, 3) := by decide +kernel
theorem dX8_sharesThat_24 : decode cX8_sharesThat 24 = .ok (.iload_n 2, 1) := by decide +kernel
theorem dX8_sharesThat_25 : decode cX8_sharesThat 25 = .ok (.if_icmp .ne 17, 3) := by decide +kernel
theorem dX8_sharesThat_28 : decode cX8_sharesThat 28 = .ok (.aload_n 0, 1) := by decide +kernel
theorem dX8_sharesThat_29 : decode cX8_sharesThat 29 = .ok (.getfield 7, 3) := by decide +kernel
theorem dX8_sharesThat_32 : decode cX8_sharesThat 32 = .ok (.iload 4, 2) := by decide +kernel
theorem dX8_sharesThat_34 : decode cX8_sharesThat 34 = .ok (.iconst 2, 1) := by decide +kernel
theorem dX8_sharesThat_35 : decode cX8_sharesThat 35 = .ok (.invokestatic 56, 3) := by decide +kernel
theorem dX8_sharesThat_38 : decode cX8_sharesThat 38 = .ok (.iaload, 1) := by decide +kernel
theorem dX8_sharesThat_39 : decode cX8_sharesThat 39 = .ok (.goto 4, 3) := by decide +kernel
theorem dX8_sharesThat_42 : decode cX8_sharesThat 42 = .ok (.iconst 0, 1) := by decide +kernel
theorem dX8_sharesThat_43 : decode cX8_sharesThat 43 = .ok (.iadd, 1) := by decide +kernel
theorem dX8_sharesThat_44 : decode cX8_sharesThat 44 = .ok (.istore_n 3, 1) := by decide +kernel
theorem dX8_sharesThat_45 : decode cX8_sharesThat 45 = .ok (.iinc 4 1, 3) := by decide +kernel
theorem dX8_sharesThat_48 : decode cX8_sharesThat 48 = .ok (.goto (-43), 3) := by decide +kernel
theorem dX8_sharesThat_51 : decode cX8_sharesThat 51 = .ok (.iload_n 3, 1) := by decide +kernel
theorem dX8_sharesThat_52 : decode cX8_sharesThat 52 = .ok (.ireturn, 1) := by decide +kernel
theorem dX8_allShares_0 : decode cX8_allShares 0 = .ok (.iconst 0, 1) := by decide +kernel
theorem dX8_allShares_1 : decode cX8_allShares 1 = .ok (.istore_n 1, 1) := by decide +kernel
theorem dX8_allShares_2 : decode cX8_allShares 2 = .ok (.iconst 0, 1) := by decide +kernel
theorem dX8_allShares_3 : decode cX8_allShares 3 = .ok (.istore_n 2, 1) := by decide +kernel
theorem dX8_allShares_4 : decode cX8_allShares 4 = .ok (.iload_n 2, 1) := by decide +kernel
theorem dX8_allShares_5 : decode cX8_allShares 5 = .ok (.aload_n 0, 1) := by decide +kernel
theorem dX8_allShares_6 : decode cX8_allShares 6 = .ok (.getfield 7, 3) := by decide +kernel
theorem dX8_allShares_9 : decode cX8_allShares 9 = .ok (.iconst 2, 1) := by decide +kernel
theorem dX8_allShares_10 : decode cX8_allShares 10 = .ok (.iaload, 1) := by decide +kernel
theorem dX8_allShares_11 : decode cX8_allShares 11 = .ok (.if_icmp .ge 22, 3) := by decide +kernel
theorem dX8_allShares_14 : decode cX8_allShares 14 = .ok (.iload_n 1, 1) := by decide +kernel
theorem dX8_allShares_15 : decode cX8_allShares 15 = .ok (.aload_n 0, 1) := by decide +kernel
theorem dX8_allShares_16 : decode cX8_allShares 16 = .ok (.getfield 7, 3) := by decide +kernel
theorem dX8_allShares_19 : decode cX8_allShares 19 = .ok (.iload_n 2, 1) := by decide +kernel
theorem dX8_allShares_20 : decode cX8_allShares 20 = .ok (.iconst 2, 1) := by decide +kernel
theorem dX8_allShares_21 : decode cX8_allShares 21 = .ok (.invokestatic 56, 3) := by decide +kernel
theorem dX8_allShares_24 : decode cX8_allShares 24 = .ok (.iaload, 1) := by decide +kernel
theorem dX8_allShares_25 : decode cX8_allShares 25 = .ok (.iadd, 1) := by decide +kernel
theorem dX8_allShares_26 : decode cX8_allShares 26 = .ok (.istore_n 1, 1) := by decide +kernel
theorem dX8_allShares_27 : decode cX8_allShares 27 = .ok (.iinc 2 1, 3) := by decide +kernel
theorem dX8_allShares_30 : decode cX8_allShares 30 = .ok (.goto (-26), 3) := by decide +kernel
theorem dX8_allShares_33 : decode cX8_allShares 33 = .ok (.iload_n 1, 1) := by decide +kernel
theorem dX8_allShares_34 : decode cX8_allShares 34 = .ok (.ireturn, 1) := by decide +kernel
theorem dX8_canBeCarried_0 : decode cX8_canBeCarried 0 = .ok (.aload_n 0, 1) := by decide +kernel
theorem dX8_canBeCarried_1 : decode cX8_canBeCarried 1 = .ok (.iload_n 1, 1) := by decide +kernel
theorem dX8_canBeCarried_2 : decode cX8_canBeCarried 2 = .ok (.iconst 1, 1) := by decide +kernel
theorem dX8_canBeCarried_3 : decode cX8_canBeCarried 3 = .ok (.invokevirtual 169, 3) := by decide +kernel
theorem dX8_canBeCarried_6 : decode cX8_canBeCarried 6 = .ok (.aload_n 0, 1) := by decide +kernel
theorem dX8_canBeCarried_7 : decode cX8_canBeCarried 7 = .ok (.iload_n 1, 1) := by decide +kernel
theorem dX8_canBeCarried_8 : decode cX8_canBeCarried 8 = .ok (.iconst (-1), 1) := by decide +kernel
theorem dX8_canBeCarried_9 : decode cX8_canBeCarried 9 = .ok (.invokevirtual 169, 3) := by decide +kernel
theorem dX8_canBeCarried_12 : decode cX8_canBeCarried 12 = .ok (.if_icmp .le 30, 3) := by decide +kernel
theorem dX8_canBeCarried_15 : decode cX8_canBeCarried 15 = .ok (.bipush 100, 2) := by decide +kernel
theorem dX8_canBeCarried_17 : decode cX8_canBeCarried 17 = .ok (.aload_n 0, 1) := by decide +kernel
theorem dX8_canBeCarried_18 : decode cX8_canBeCarried 18 = .ok (.iload_n 1, 1) := by decide +kernel
theorem dX8_canBeCarried_19 : decode cX8_canBeCarried 19 = .ok (.iconst 1, 1) := by decide +kernel
theorem dX8_canBeCarried_20 : decode cX8_canBeCarried 20 = .ok (.invokevirtual 172, 3) := by decide +kernel
theorem dX8_canBeCarried_23 : decode cX8_canBeCarried 23 = .ok (.imul, 1) := by decide +kernel
theorem dX8_canBeCarried_24 : decode cX8_canBeCarried 24 = .ok (.aload_n 0, 1) := by decide +kernel
theorem dX8_canBeCarried_25 : decode cX8_canBeCarried 25 = .ok (.getfield 7, 3) := by decide +kernel
theorem dX8_canBeCarried_28 : decode cX8_canBeCarried 28 = .ok (.iconst 1, 1) := by decide +kernel
theorem dX8_canBeCarried_29 : decode cX8_canBeCarried 29 = .ok (.iaload, 1) := by decide +kernel
theorem dX8_canBeCarried_30 : decode cX8_canBeCarried 30 = .ok (.aload_n 0, 1) := by decide +kernel
theorem dX8_canBeCarried_31 : decode cX8_canBeCarried 31 = .ok (.invokevirtual 175, 3) := by decide +kernel
theorem dX8_canBeCarried_34 : decode cX8_canBeCarried 34 = .ok (.imul, 1) := by decide +kernel
theorem dX8_canBeCarried_35 : decode cX8_canBeCarried 35 = .ok (.if_icmp .lt 7, 3) := by decide +kernel
theorem dX8_canBeCarried_38 : decode cX8_canBeCarried 38 = .ok (.iconst 1, 1) := by decide +kernel
theorem dX8_canBeCarried_39 : decode cX8_canBeCarried 39 = .ok (.goto 4, 3) := by decide +kernel
theorem dX8_canBeCarried_42 : decode cX8_canBeCarried 42 = .ok (.iconst 0, 1) := by decide +kernel
theorem dX8_canBeCarried_43 : decode cX8_canBeCarried 43 = .ok (.ireturn, 1) := by decide +kernel
theorem dX8_close_0 : decode cX8_close 0 = .ok (.aload_n 0, 1) := by decide +kernel
theorem dX8_close_1 : decode cX8_close 1 = .ok (.iconst 0, 1) := by decide +kernel
theorem dX8_close_2 : decode cX8_close 2 = .ok (.putfield 42, 3) := by decide +kernel
theorem dX8_close_5 : decode cX8_close 5 = .ok (.aload_n 0, 1) := by decide +kernel
theorem dX8_close_6 : decode cX8_close 6 = .ok (.iload_n 1, 1) := by decide +kernel
theorem dX8_close_7 : decode cX8_close 7 = .ok (.invokevirtual 163, 3) := by decide +kernel
theorem dX8_close_10 : decode cX8_close 10 = .ok (.ifCond .ne 10, 3) := by decide +kernel
theorem dX8_close_13 : decode cX8_close 13 = .ok (.aload_n 0, 1) := by decide +kernel
theorem dX8_close_14 : decode cX8_close 14 = .ok (.iconst 1, 1) := by decide +kernel
theorem dX8_close_15 : decode cX8_close 15 = .ok (.iconst 3, 1) := by decide +kernel
theorem dX8_close_16 : decode cX8_close 16 = .ok (.invokevirtual 117, 3) := by decide +kernel
theorem dX8_close_19 : decode cX8_close 19 = .ok (.ireturn, 1) := by decide +kernel
theorem dX8_close_20 : decode cX8_close 20 = .ok (.aload_n 0, 1) := by decide +kernel
theorem dX8_close_21 : decode cX8_close 21 = .ok (.getfield 7, 3) := by decide +kernel
theorem dX8_close_24 : decode cX8_close 24 = .ok (.iload_n 1, 1) := by decide +kernel
theorem dX8_close_25 : decode cX8_close 25 = .ok (.iconst 0, 1) := by decide +kernel
theorem dX8_close_26 : decode cX8_close 26 = .ok (.invokestatic 160, 3) := by decide +kernel
theorem dX8_close_29 : decode cX8_close 29 = .ok (.iaload, 1) := by decide +kernel
theorem dX8_close_30 : decode cX8_close 30 = .ok (.istore_n 2, 1) := by decide +kernel
theorem dX8_close_31 : decode cX8_close 31 = .ok (.aload_n 0, 1) := by decide +kernel
theorem dX8_close_32 : decode cX8_close 32 = .ok (.getfield 7, 3) := by decide +kernel
theorem dX8_close_35 : decode cX8_close 35 = .ok (.iload_n 1, 1) := by decide +kernel
theorem dX8_close_36 : decode cX8_close 36 = .ok (.iconst 1, 1) := by decide +kernel
theorem dX8_close_37 : decode cX8_close 37 = .ok (.invokestatic 160, 3) := by decide +kernel
theorem dX8_close_40 : decode cX8_close 40 = .ok (.iaload, 1) := by decide +kernel
theorem dX8_close_41 : decode cX8_close 41 = .ok (.istore_n 3, 1) := by decide +kernel
theorem dX8_close_42 : decode cX8_close 42 = .ok (.aload_n 0, 1) := by decide +kernel
theorem dX8_close_43 : decode cX8_close 43 = .ok (.getfield 7, 3) := by decide +kernel
theorem dX8_close_46 : decode cX8_close 46 = .ok (.iload_n 1, 1) := by decide +kernel
theorem dX8_close_47 : decode cX8_close 47 = .ok (.iconst 2, 1) := by decide +kernel
theorem dX8_close_48 : decode cX8_close 48 = .ok (.invokestatic 160, 3) := by decide +kernel
theorem dX8_close_51 : decode cX8_close 51 = .ok (.iaload, 1) := by decide +kernel
theorem dX8_close_52 : decode cX8_close 52 = .ok (.istore 4, 2) := by decide +kernel
theorem dX8_close_54 : decode cX8_close 54 = .ok (.aload_n 0, 1) := by decide +kernel
theorem dX8_close_55 : decode cX8_close 55 = .ok (.getfield 7, 3) := by decide +kernel
theorem dX8_close_58 : decode cX8_close 58 = .ok (.iload_n 1, 1) := by decide +kernel
theorem dX8_close_59 : decode cX8_close 59 = .ok (.iconst 3, 1) := by decide +kernel
theorem dX8_close_60 : decode cX8_close 60 = .ok (.invokestatic 160, 3) := by decide +kernel
theorem dX8_close_63 : decode cX8_close 63 = .ok (.iaload, 1) := by decide +kernel
theorem dX8_close_64 : decode cX8_close 64 = .ok (.istore 5, 2) := by decide +kernel
theorem dX8_close_66 : decode cX8_close 66 = .ok (.aload_n 0, 1) := by decide +kernel
theorem dX8_close_67 : decode cX8_close 67 = .ok (.iload_n 1, 1) := by decide +kernel
theorem dX8_close_68 : decode cX8_close 68 = .ok (.invokevirtual 179, 3) := by decide +kernel
theorem dX8_close_71 : decode cX8_close 71 = .ok (.istore 6, 2) := by decide +kernel
theorem dX8_close_73 : decode cX8_close 73 = .ok (.iload 6, 2) := by decide +kernel
theorem dX8_close_75 : decode cX8_close 75 = .ok (.ifCond .eq 23, 3) := by decide +kernel
theorem dX8_close_78 : decode cX8_close 78 = .ok (.aload_n 0, 1) := by decide +kernel
theorem dX8_close_79 : decode cX8_close 79 = .ok (.iload_n 2, 1) := by decide +kernel
theorem dX8_close_80 : decode cX8_close 80 = .ok (.iload_n 3, 1) := by decide +kernel
theorem dX8_close_81 : decode cX8_close 81 = .ok (.iload 4, 2) := by decide +kernel
theorem dX8_close_83 : decode cX8_close 83 = .ok (.iload 5, 2) := by decide +kernel
theorem dX8_close_85 : decode cX8_close 85 = .ok (.invokevirtual 153, 3) := by decide +kernel
theorem dX8_close_88 : decode cX8_close 88 = .ok (.ifCond .le 10, 3) := by decide +kernel
theorem dX8_close_91 : decode cX8_close 91 = .ok (.aload_n 0, 1) := by decide +kernel
theorem dX8_close_92 : decode cX8_close 92 = .ok (.iconst 1, 1) := by decide +kernel
theorem dX8_close_93 : decode cX8_close 93 = .ok (.iconst 5, 1) := by decide +kernel
theorem dX8_close_94 : decode cX8_close 94 = .ok (.invokevirtual 117, 3) := by decide +kernel
theorem dX8_close_97 : decode cX8_close 97 = .ok (.ireturn, 1) := by decide +kernel
theorem dX8_close_98 : decode cX8_close 98 = .ok (.aload_n 0, 1) := by decide +kernel
theorem dX8_close_99 : decode cX8_close 99 = .ok (.aload_n 0, 1) := by decide +kernel
theorem dX8_close_100 : decode cX8_close 100 = .ok (.getfield 7, 3) := by decide +kernel
theorem dX8_close_103 : decode cX8_close 103 = .ok (.invokevirtual 71, 3) := by decide +kernel
theorem dX8_close_106 : decode cX8_close 106 = .ok (.aload_n 0, 1) := by decide +kernel
theorem dX8_close_107 : decode cX8_close 107 = .ok (.getfield 7, 3) := by decide +kernel
theorem dX8_close_110 : decode cX8_close 110 = .ok (.iload_n 1, 1) := by decide +kernel
theorem dX8_close_111 : decode cX8_close 111 = .ok (.iconst 4, 1) := by decide +kernel
theorem dX8_close_112 : decode cX8_close 112 = .ok (.invokestatic 160, 3) := by decide +kernel
theorem dX8_close_115 : decode cX8_close 115 = .ok (.iload 6, 2) := by decide +kernel
theorem dX8_close_117 : decode cX8_close 117 = .ok (.ifCond .eq 7, 3) := by decide +kernel
theorem dX8_close_120 : decode cX8_close 120 = .ok (.iconst 1, 1) := by decide +kernel
theorem dX8_close_121 : decode cX8_close 121 = .ok (.goto 4, 3) := by decide +kernel
theorem dX8_close_124 : decode cX8_close 124 = .ok (.iconst 2, 1) := by decide +kernel
theorem dX8_close_125 : decode cX8_close 125 = .ok (.iastore, 1) := by decide +kernel
theorem dX8_close_126 : decode cX8_close 126 = .ok (.iload 6, 2) := by decide +kernel
theorem dX8_close_128 : decode cX8_close 128 = .ok (.ifCond .eq 22, 3) := by decide +kernel
theorem dX8_close_131 : decode cX8_close 131 = .ok (.aload_n 0, 1) := by decide +kernel
theorem dX8_close_132 : decode cX8_close 132 = .ok (.invokevirtual 136, 3) := by decide +kernel
theorem dX8_close_135 : decode cX8_close 135 = .ok (.aload_n 0, 1) := by decide +kernel
theorem dX8_close_136 : decode cX8_close 136 = .ok (.getfield 7, 3) := by decide +kernel
theorem dX8_close_139 : decode cX8_close 139 = .ok (.bipush 99, 2) := by decide +kernel
theorem dX8_close_141 : decode cX8_close 141 = .ok (.iload 4, 2) := by decide +kernel
theorem dX8_close_143 : decode cX8_close 143 = .ok (.iadd, 1) := by decide +kernel
theorem dX8_close_144 : decode cX8_close 144 = .ok (.dup2, 1) := by decide +kernel
theorem dX8_close_145 : decode cX8_close 145 = .ok (.iaload, 1) := by decide +kernel
theorem dX8_close_146 : decode cX8_close 146 = .ok (.iload 5, 2) := by decide +kernel
theorem dX8_close_148 : decode cX8_close 148 = .ok (.iadd, 1) := by decide +kernel
theorem dX8_close_149 : decode cX8_close 149 = .ok (.iastore, 1) := by decide +kernel
theorem dX8_close_150 : decode cX8_close 150 = .ok (.iload 6, 2) := by decide +kernel
theorem dX8_close_152 : decode cX8_close 152 = .ok (.ifCond .eq 7, 3) := by decide +kernel
theorem dX8_close_155 : decode cX8_close 155 = .ok (.iconst 1, 1) := by decide +kernel
theorem dX8_close_156 : decode cX8_close 156 = .ok (.goto 4, 3) := by decide +kernel
theorem dX8_close_159 : decode cX8_close 159 = .ok (.iconst 0, 1) := by decide +kernel
theorem dX8_close_160 : decode cX8_close 160 = .ok (.ireturn, 1) := by decide +kernel
theorem dX8_motion_0 : decode cX8_motion 0 = .ok (.aload_n 0, 1) := by decide +kernel
theorem dX8_motion_1 : decode cX8_motion 1 = .ok (.aload_n 0, 1) := by decide +kernel
theorem dX8_motion_2 : decode cX8_motion 2 = .ok (.iload_n 1, 1) := by decide +kernel
theorem dX8_motion_3 : decode cX8_motion 3 = .ok (.invokevirtual 157, 3) := by decide +kernel
theorem dX8_motion_6 : decode cX8_motion 6 = .ok (.ifCond .eq 21, 3) := by decide +kernel
theorem dX8_motion_9 : decode cX8_motion 9 = .ok (.iload_n 2, 1) := by decide +kernel
theorem dX8_motion_10 : decode cX8_motion 10 = .ok (.iconst 0, 1) := by decide +kernel
theorem dX8_motion_11 : decode cX8_motion 11 = .ok (.bipush 9, 2) := by decide +kernel
theorem dX8_motion_13 : decode cX8_motion 13 = .ok (.invokestatic 52, 3) := by decide +kernel
theorem dX8_motion_16 : decode cX8_motion 16 = .ok (.ifCond .eq 7, 3) := by decide +kernel
theorem dX8_motion_19 : decode cX8_motion 19 = .ok (.iconst 0, 1) := by decide +kernel
theorem dX8_motion_20 : decode cX8_motion 20 = .ok (.goto 8, 3) := by decide +kernel
theorem dX8_motion_23 : decode cX8_motion 23 = .ok (.iconst 2, 1) := by decide +kernel
theorem dX8_motion_24 : decode cX8_motion 24 = .ok (.goto 4, 3) := by decide +kernel
theorem dX8_motion_27 : decode cX8_motion 27 = .ok (.iconst 1, 1) := by decide +kernel
theorem dX8_motion_28 : decode cX8_motion 28 = .ok (.putfield 42, 3) := by decide +kernel
theorem dX8_motion_31 : decode cX8_motion 31 = .ok (.aload_n 0, 1) := by decide +kernel
theorem dX8_motion_32 : decode cX8_motion 32 = .ok (.getfield 42, 3) := by decide +kernel
theorem dX8_motion_35 : decode cX8_motion 35 = .ok (.ifCond .le 5, 3) := by decide +kernel
theorem dX8_motion_38 : decode cX8_motion 38 = .ok (.iconst 0, 1) := by decide +kernel
theorem dX8_motion_39 : decode cX8_motion 39 = .ok (.ireturn, 1) := by decide +kernel
theorem dX8_motion_40 : decode cX8_motion 40 = .ok (.iload_n 2, 1) := by decide +kernel
theorem dX8_motion_41 : decode cX8_motion 41 = .ok (.tableswitch 100 5 9 #[35, 35, 47, 47, 59], 35) := by decide +kernel
theorem dX8_motion_76 : decode cX8_motion 76 = .ok (.aload_n 0, 1) := by decide +kernel
theorem dX8_motion_77 : decode cX8_motion 77 = .ok (.iload_n 1, 1) := by decide +kernel
theorem dX8_motion_78 : decode cX8_motion 78 = .ok (.bipush 11, 2) := by decide +kernel
theorem dX8_motion_80 : decode cX8_motion 80 = .ok (.iconst 2, 1) := by decide +kernel
theorem dX8_motion_81 : decode cX8_motion 81 = .ok (.iload_n 2, 1) := by decide +kernel
theorem dX8_motion_82 : decode cX8_motion 82 = .ok (.imul, 1) := by decide +kernel
theorem dX8_motion_83 : decode cX8_motion 83 = .ok (.isub, 1) := by decide +kernel
theorem dX8_motion_84 : decode cX8_motion 84 = .ok (.invokevirtual 169, 3) := by decide +kernel
theorem dX8_motion_87 : decode cX8_motion 87 = .ok (.ireturn, 1) := by decide +kernel
theorem dX8_motion_88 : decode cX8_motion 88 = .ok (.aload_n 0, 1) := by decide +kernel
theorem dX8_motion_89 : decode cX8_motion 89 = .ok (.iload_n 1, 1) := by decide +kernel
theorem dX8_motion_90 : decode cX8_motion 90 = .ok (.bipush 15, 2) := by decide +kernel
theorem dX8_motion_92 : decode cX8_motion 92 = .ok (.iconst 2, 1) := by decide +kernel
theorem dX8_motion_93 : decode cX8_motion 93 = .ok (.iload_n 2, 1) := by decide +kernel
theorem dX8_motion_94 : decode cX8_motion 94 = .ok (.imul, 1) := by decide +kernel
theorem dX8_motion_95 : decode cX8_motion 95 = .ok (.isub, 1) := by decide +kernel
theorem dX8_motion_96 : decode cX8_motion 96 = .ok (.invokevirtual 172, 3) := by decide +kernel
theorem dX8_motion_99 : decode cX8_motion 99 = .ok (.ireturn, 1) := by decide +kernel
theorem dX8_motion_100 : decode cX8_motion 100 = .ok (.aload_n 0, 1) := by decide +kernel
theorem dX8_motion_101 : decode cX8_motion 101 = .ok (.getfield 7, 3) := by decide +kernel
theorem dX8_motion_104 : decode cX8_motion 104 = .ok (.iload_n 1, 1) := by decide +kernel
theorem dX8_motion_105 : decode cX8_motion 105 = .ok (.iconst 4, 1) := by decide +kernel
theorem dX8_motion_106 : decode cX8_motion 106 = .ok (.invokestatic 160, 3) := by decide +kernel
theorem dX8_motion_109 : decode cX8_motion 109 = .ok (.iaload, 1) := by decide +kernel
theorem dX8_motion_110 : decode cX8_motion 110 = .ok (.iconst 1, 1) := by decide +kernel
theorem dX8_motion_111 : decode cX8_motion 111 = .ok (.if_icmp .eq 24, 3) := by decide +kernel
theorem dX8_motion_114 : decode cX8_motion 114 = .ok (.aload_n 0, 1) := by decide +kernel
theorem dX8_motion_115 : decode cX8_motion 115 = .ok (.getfield 7, 3) := by decide +kernel
theorem dX8_motion_118 : decode cX8_motion 118 = .ok (.iload_n 1, 1) := by decide +kernel
theorem dX8_motion_119 : decode cX8_motion 119 = .ok (.iconst 4, 1) := by decide +kernel
theorem dX8_motion_120 : decode cX8_motion 120 = .ok (.invokestatic 160, 3) := by decide +kernel
theorem dX8_motion_123 : decode cX8_motion 123 = .ok (.iaload, 1) := by decide +kernel
theorem dX8_motion_124 : decode cX8_motion 124 = .ok (.ifCond .ne 15, 3) := by decide +kernel
theorem dX8_motion_127 : decode cX8_motion 127 = .ok (.aload_n 0, 1) := by decide +kernel
theorem dX8_motion_128 : decode cX8_motion 128 = .ok (.iload_n 1, 1) := by decide +kernel
theorem dX8_motion_129 : decode cX8_motion 129 = .ok (.invokevirtual 179, 3) := by decide +kernel
theorem dX8_motion_132 : decode cX8_motion 132 = .ok (.ifCond .eq 7, 3) := by decide +kernel
theorem dX8_motion_135 : decode cX8_motion 135 = .ok (.iconst 1, 1) := by decide +kernel
theorem dX8_motion_136 : decode cX8_motion 136 = .ok (.goto 4, 3) := by decide +kernel
theorem dX8_motion_139 : decode cX8_motion 139 = .ok (.iconst 0, 1) := by decide +kernel
theorem dX8_motion_140 : decode cX8_motion 140 = .ok (.ireturn, 1) := by decide +kernel
theorem dX8_motion_141 : decode cX8_motion 141 = .ok (.aload_n 0, 1) := by decide +kernel
theorem dX8_motion_142 : decode cX8_motion 142 = .ok (.getfield 7, 3) := by decide +kernel
theorem dX8_motion_145 : decode cX8_motion 145 = .ok (.iload_n 1, 1) := by decide +kernel
theorem dX8_motion_146 : decode cX8_motion 146 = .ok (.iload_n 2, 1) := by decide +kernel
theorem dX8_motion_147 : decode cX8_motion 147 = .ok (.invokestatic 160, 3) := by decide +kernel
theorem dX8_motion_150 : decode cX8_motion 150 = .ok (.iaload, 1) := by decide +kernel
theorem dX8_motion_151 : decode cX8_motion 151 = .ok (.ireturn, 1) := by decide +kernel
theorem dX8_voted_0 : decode cX8_voted 0 = .ok (.aload_n 0, 1) := by decide +kernel
theorem dX8_voted_1 : decode cX8_voted 1 = .ok (.aload_n 0, 1) := by decide +kernel
theorem dX8_voted_2 : decode cX8_voted 2 = .ok (.iload_n 1, 1) := by decide +kernel
theorem dX8_voted_3 : decode cX8_voted 3 = .ok (.invokevirtual 157, 3) := by decide +kernel
theorem dX8_voted_6 : decode cX8_voted 6 = .ok (.ifCond .eq 15, 3) := by decide +kernel
theorem dX8_voted_9 : decode cX8_voted 9 = .ok (.aload_n 0, 1) := by decide +kernel
theorem dX8_voted_10 : decode cX8_voted 10 = .ok (.iload_n 2, 1) := by decide +kernel
theorem dX8_voted_11 : decode cX8_voted 11 = .ok (.invokevirtual 75, 3) := by decide +kernel
theorem dX8_voted_14 : decode cX8_voted 14 = .ok (.ifCond .eq 7, 3) := by decide +kernel
theorem dX8_voted_17 : decode cX8_voted 17 = .ok (.iconst 0, 1) := by decide +kernel
theorem dX8_voted_18 : decode cX8_voted 18 = .ok (.goto 4, 3) := by decide +kernel
theorem dX8_voted_21 : decode cX8_voted 21 = .ok (.iconst 1, 1) := by decide +kernel
theorem dX8_voted_22 : decode cX8_voted 22 = .ok (.putfield 42, 3) := by decide +kernel
theorem dX8_voted_25 : decode cX8_voted 25 = .ok (.aload_n 0, 1) := by decide +kernel
theorem dX8_voted_26 : decode cX8_voted 26 = .ok (.getfield 42, 3) := by decide +kernel
theorem dX8_voted_29 : decode cX8_voted 29 = .ok (.ifCond .le 7, 3) := by decide +kernel
theorem dX8_voted_32 : decode cX8_voted 32 = .ok (.iconst 0, 1) := by decide +kernel
theorem dX8_voted_33 : decode cX8_voted 33 = .ok (.goto 9, 3) := by decide +kernel
theorem dX8_voted_36 : decode cX8_voted 36 = .ok (.aload_n 0, 1) := by decide +kernel
theorem dX8_voted_37 : decode cX8_voted 37 = .ok (.iload_n 1, 1) := by decide +kernel
theorem dX8_voted_38 : decode cX8_voted 38 = .ok (.iload_n 2, 1) := by decide +kernel
theorem dX8_voted_39 : decode cX8_voted 39 = .ok (.invokevirtual 166, 3) := by decide +kernel
theorem dX8_voted_42 : decode cX8_voted 42 = .ok (.ireturn, 1) := by decide +kernel
theorem dX8_lacking_0 : decode cX8_lacking 0 = .ok (.aload_n 0, 1) := by decide +kernel
theorem dX8_lacking_1 : decode cX8_lacking 1 = .ok (.aload_n 0, 1) := by decide +kernel
theorem dX8_lacking_2 : decode cX8_lacking 2 = .ok (.iload_n 1, 1) := by decide +kernel
theorem dX8_lacking_3 : decode cX8_lacking 3 = .ok (.invokevirtual 157, 3) := by decide +kernel
theorem dX8_lacking_6 : decode cX8_lacking 6 = .ok (.ifCond .eq 19, 3) := by decide +kernel
theorem dX8_lacking_9 : decode cX8_lacking 9 = .ok (.aload_n 0, 1) := by decide +kernel
theorem dX8_lacking_10 : decode cX8_lacking 10 = .ok (.iload_n 1, 1) := by decide +kernel
theorem dX8_lacking_11 : decode cX8_lacking 11 = .ok (.invokevirtual 163, 3) := by decide +kernel
theorem dX8_lacking_14 : decode cX8_lacking 14 = .ok (.ifCond .eq 7, 3) := by decide +kernel
theorem dX8_lacking_17 : decode cX8_lacking 17 = .ok (.iconst 0, 1) := by decide +kernel
theorem dX8_lacking_18 : decode cX8_lacking 18 = .ok (.goto 8, 3) := by decide +kernel
theorem dX8_lacking_21 : decode cX8_lacking 21 = .ok (.iconst 2, 1) := by decide +kernel
theorem dX8_lacking_22 : decode cX8_lacking 22 = .ok (.goto 4, 3) := by decide +kernel
theorem dX8_lacking_25 : decode cX8_lacking 25 = .ok (.iconst 1, 1) := by decide +kernel
theorem dX8_lacking_26 : decode cX8_lacking 26 = .ok (.putfield 42, 3) := by decide +kernel
theorem dX8_lacking_29 : decode cX8_lacking 29 = .ok (.aload_n 0, 1) := by decide +kernel
theorem dX8_lacking_30 : decode cX8_lacking 30 = .ok (.getfield 42, 3) := by decide +kernel
theorem dX8_lacking_33 : decode cX8_lacking 33 = .ok (.ifCond .le 5, 3) := by decide +kernel
theorem dX8_lacking_36 : decode cX8_lacking 36 = .ok (.iconst 0, 1) := by decide +kernel
theorem dX8_lacking_37 : decode cX8_lacking 37 = .ok (.ireturn, 1) := by decide +kernel
theorem dX8_lacking_38 : decode cX8_lacking 38 = .ok (.iconst 0, 1) := by decide +kernel
theorem dX8_lacking_39 : decode cX8_lacking 39 = .ok (.istore_n 2, 1) := by decide +kernel
theorem dX8_lacking_40 : decode cX8_lacking 40 = .ok (.iconst 0, 1) := by decide +kernel
theorem dX8_lacking_41 : decode cX8_lacking 41 = .ok (.istore_n 3, 1) := by decide +kernel
theorem dX8_lacking_42 : decode cX8_lacking 42 = .ok (.aload_n 0, 1) := by decide +kernel
theorem dX8_lacking_43 : decode cX8_lacking 43 = .ok (.iload_n 1, 1) := by decide +kernel
theorem dX8_lacking_44 : decode cX8_lacking 44 = .ok (.invokevirtual 179, 3) := by decide +kernel
theorem dX8_lacking_47 : decode cX8_lacking 47 = .ok (.istore 4, 2) := by decide +kernel
theorem dX8_lacking_49 : decode cX8_lacking 49 = .ok (.iconst 0, 1) := by decide +kernel
theorem dX8_lacking_50 : decode cX8_lacking 50 = .ok (.istore 5, 2) := by decide +kernel
theorem dX8_lacking_52 : decode cX8_lacking 52 = .ok (.iload 5, 2) := by decide +kernel
theorem dX8_lacking_54 : decode cX8_lacking 54 = .ok (.aload_n 0, 1) := by decide +kernel
theorem dX8_lacking_55 : decode cX8_lacking 55 = .ok (.getfield 7, 3) := by decide +kernel
theorem dX8_lacking_58 : decode cX8_lacking 58 = .ok (.iconst 2, 1) := by decide +kernel
theorem dX8_lacking_59 : decode cX8_lacking 59 = .ok (.iaload, 1) := by decide +kernel
theorem dX8_lacking_60 : decode cX8_lacking 60 = .ok (.if_icmp .ge 55, 3) := by decide +kernel
theorem dX8_lacking_63 : decode cX8_lacking 63 = .ok (.iload 4, 2) := by decide +kernel
theorem dX8_lacking_65 : decode cX8_lacking 65 = .ok (.ifCond .ne 50, 3) := by decide +kernel
theorem dX8_lacking_68 : decode cX8_lacking 68 = .ok (.aload_n 0, 1) := by decide +kernel
theorem dX8_lacking_69 : decode cX8_lacking 69 = .ok (.iload_n 1, 1) := by decide +kernel
theorem dX8_lacking_70 : decode cX8_lacking 70 = .ok (.iload 5, 2) := by decide +kernel
theorem dX8_lacking_72 : decode cX8_lacking 72 = .ok (.invokevirtual 166, 3) := by decide +kernel
theorem dX8_lacking_75 : decode cX8_lacking 75 = .ok (.ifCond .ne 34, 3) := by decide +kernel
theorem dX8_lacking_78 : decode cX8_lacking 78 = .ok (.aload_n 0, 1) := by decide +kernel
theorem dX8_lacking_79 : decode cX8_lacking 79 = .ok (.getfield 7, 3) := by decide +kernel
theorem dX8_lacking_82 : decode cX8_lacking 82 = .ok (.iload_n 1, 1) := by decide +kernel
theorem dX8_lacking_83 : decode cX8_lacking 83 = .ok (.iconst 5, 1) := by decide +kernel
theorem dX8_lacking_84 : decode cX8_lacking 84 = .ok (.iload 5, 2) := by decide +kernel
theorem dX8_lacking_86 : decode cX8_lacking 86 = .ok (.iadd, 1) := by decide +kernel
theorem dX8_lacking_87 : decode cX8_lacking 87 = .ok (.invokestatic 160, 3) := by decide +kernel
theorem dX8_lacking_90 : decode cX8_lacking 90 = .ok (.iconst 1, 1) := by decide +kernel
theorem dX8_lacking_91 : decode cX8_lacking 91 = .ok (.iastore, 1) := by decide +kernel
theorem dX8_lacking_92 : decode cX8_lacking 92 = .ok (.iload_n 2, 1) := by decide +kernel
theorem dX8_lacking_93 : decode cX8_lacking 93 = .ok (.iconst 1, 1) := by decide +kernel
theorem dX8_lacking_94 : decode cX8_lacking 94 = .ok (.iload 5, 2) := by decide +kernel
theorem dX8_lacking_96 : decode cX8_lacking 96 = .ok (.ishl, 1) := by decide +kernel
theorem dX8_lacking_97 : decode cX8_lacking 97 = .ok (.ior, 1) := by decide +kernel
theorem dX8_lacking_98 : decode cX8_lacking 98 = .ok (.istore_n 2, 1) := by decide +kernel
theorem dX8_lacking_99 : decode cX8_lacking 99 = .ok (.iinc 3 1, 3) := by decide +kernel
theorem dX8_lacking_102 : decode cX8_lacking 102 = .ok (.aload_n 0, 1) := by decide +kernel
theorem dX8_lacking_103 : decode cX8_lacking 103 = .ok (.iload_n 1, 1) := by decide +kernel
theorem dX8_lacking_104 : decode cX8_lacking 104 = .ok (.invokevirtual 179, 3) := by decide +kernel
theorem dX8_lacking_107 : decode cX8_lacking 107 = .ok (.istore 4, 2) := by decide +kernel
theorem dX8_lacking_109 : decode cX8_lacking 109 = .ok (.iinc 5 1, 3) := by decide +kernel
theorem dX8_lacking_112 : decode cX8_lacking 112 = .ok (.goto (-60), 3) := by decide +kernel
theorem dX8_lacking_115 : decode cX8_lacking 115 = .ok (.iconst 0, 1) := by decide +kernel
theorem dX8_lacking_116 : decode cX8_lacking 116 = .ok (.istore 5, 2) := by decide +kernel
theorem dX8_lacking_118 : decode cX8_lacking 118 = .ok (.iload 5, 2) := by decide +kernel
theorem dX8_lacking_120 : decode cX8_lacking 120 = .ok (.bipush 12, 2) := by decide +kernel
theorem dX8_lacking_122 : decode cX8_lacking 122 = .ok (.if_icmp .ge 33, 3) := by decide +kernel
theorem dX8_lacking_125 : decode cX8_lacking 125 = .ok (.iload_n 2, 1) := by decide +kernel
theorem dX8_lacking_126 : decode cX8_lacking 126 = .ok (.iload 5, 2) := by decide +kernel
theorem dX8_lacking_128 : decode cX8_lacking 128 = .ok (.ishr, 1) := by decide +kernel
theorem dX8_lacking_129 : decode cX8_lacking 129 = .ok (.iconst 1, 1) := by decide +kernel
theorem dX8_lacking_130 : decode cX8_lacking 130 = .ok (.iand, 1) := by decide +kernel
theorem dX8_lacking_131 : decode cX8_lacking 131 = .ok (.iconst 1, 1) := by decide +kernel
theorem dX8_lacking_132 : decode cX8_lacking 132 = .ok (.if_icmp .ne 17, 3) := by decide +kernel
theorem dX8_lacking_135 : decode cX8_lacking 135 = .ok (.aload_n 0, 1) := by decide +kernel
theorem dX8_lacking_136 : decode cX8_lacking 136 = .ok (.getfield 7, 3) := by decide +kernel
theorem dX8_lacking_139 : decode cX8_lacking 139 = .ok (.iload_n 1, 1) := by decide +kernel
theorem dX8_lacking_140 : decode cX8_lacking 140 = .ok (.iconst 5, 1) := by decide +kernel
theorem dX8_lacking_141 : decode cX8_lacking 141 = .ok (.iload 5, 2) := by decide +kernel
theorem dX8_lacking_143 : decode cX8_lacking 143 = .ok (.iadd, 1) := by decide +kernel
theorem dX8_lacking_144 : decode cX8_lacking 144 = .ok (.invokestatic 160, 3) := by decide +kernel
theorem dX8_lacking_147 : decode cX8_lacking 147 = .ok (.iconst 0, 1) := by decide +kernel
theorem dX8_lacking_148 : decode cX8_lacking 148 = .ok (.iastore, 1) := by decide +kernel
theorem dX8_lacking_149 : decode cX8_lacking 149 = .ok (.iinc 5 1, 3) := by decide +kernel
theorem dX8_lacking_152 : decode cX8_lacking 152 = .ok (.goto (-34), 3) := by decide +kernel
theorem dX8_lacking_155 : decode cX8_lacking 155 = .ok (.iload 4, 2) := by decide +kernel
theorem dX8_lacking_157 : decode cX8_lacking 157 = .ok (.ifCond .eq 7, 3) := by decide +kernel
theorem dX8_lacking_160 : decode cX8_lacking 160 = .ok (.iload_n 3, 1) := by decide +kernel
theorem dX8_lacking_161 : decode cX8_lacking 161 = .ok (.goto 8, 3) := by decide +kernel
theorem dX8_lacking_164 : decode cX8_lacking 164 = .ok (.aload_n 0, 1) := by decide +kernel
theorem dX8_lacking_165 : decode cX8_lacking 165 = .ok (.iconst 3, 1) := by decide +kernel
theorem dX8_lacking_166 : decode cX8_lacking 166 = .ok (.invokevirtual 48, 3) := by decide +kernel
theorem dX8_lacking_169 : decode cX8_lacking 169 = .ok (.ireturn, 1) := by decide +kernel
theorem dX8_append_0 : decode cX8_append 0 = .ok (.aload_n 0, 1) := by decide +kernel
theorem dX8_append_1 : decode cX8_append 1 = .ok (.aload_n 0, 1) := by decide +kernel
theorem dX8_append_2 : decode cX8_append 2 = .ok (.getfield 182, 3) := by decide +kernel
theorem dX8_append_5 : decode cX8_append 5 = .ok (.bipush 60, 2) := by decide +kernel
theorem dX8_append_7 : decode cX8_append 7 = .ok (.if_icmp .ne 7, 3) := by decide +kernel
theorem dX8_append_10 : decode cX8_append 10 = .ok (.iconst 1, 1) := by decide +kernel
theorem dX8_append_11 : decode cX8_append 11 = .ok (.goto 4, 3) := by decide +kernel
theorem dX8_append_14 : decode cX8_append 14 = .ok (.iconst 0, 1) := by decide +kernel
theorem dX8_append_15 : decode cX8_append 15 = .ok (.putfield 42, 3) := by decide +kernel
theorem dX8_append_18 : decode cX8_append 18 = .ok (.aload_n 0, 1) := by decide +kernel
theorem dX8_append_19 : decode cX8_append 19 = .ok (.getfield 42, 3) := by decide +kernel
theorem dX8_append_22 : decode cX8_append 22 = .ok (.ifCond .ne 23, 3) := by decide +kernel
theorem dX8_append_25 : decode cX8_append 25 = .ok (.aload_n 0, 1) := by decide +kernel
theorem dX8_append_26 : decode cX8_append 26 = .ok (.getfield 32, 3) := by decide +kernel
theorem dX8_append_29 : decode cX8_append 29 = .ok (.aload_n 0, 1) := by decide +kernel
theorem dX8_append_30 : decode cX8_append 30 = .ok (.getfield 182, 3) := by decide +kernel
theorem dX8_append_33 : decode cX8_append 33 = .ok (.iload_n 1, 1) := by decide +kernel
theorem dX8_append_34 : decode cX8_append 34 = .ok (.iastore, 1) := by decide +kernel
theorem dX8_append_35 : decode cX8_append 35 = .ok (.aload_n 0, 1) := by decide +kernel
theorem dX8_append_36 : decode cX8_append 36 = .ok (.dup, 1) := by decide +kernel
theorem dX8_append_37 : decode cX8_append 37 = .ok (.getfield 182, 3) := by decide +kernel
theorem dX8_append_40 : decode cX8_append 40 = .ok (.iconst 1, 1) := by decide +kernel
theorem dX8_append_41 : decode cX8_append 41 = .ok (.iadd, 1) := by decide +kernel
theorem dX8_append_42 : decode cX8_append 42 = .ok (.putfield 182, 3) := by decide +kernel
theorem dX8_append_45 : decode cX8_append 45 = .ok (.return_, 1) := by decide +kernel
theorem dX8_faultPosition_0 : decode cX8_faultPosition 0 = .ok (.aload_n 0, 1) := by decide +kernel
theorem dX8_faultPosition_1 : decode cX8_faultPosition 1 = .ok (.iconst 0, 1) := by decide +kernel
theorem dX8_faultPosition_2 : decode cX8_faultPosition 2 = .ok (.putfield 42, 3) := by decide +kernel
theorem dX8_faultPosition_5 : decode cX8_faultPosition 5 = .ok (.aload_n 0, 1) := by decide +kernel
theorem dX8_faultPosition_6 : decode cX8_faultPosition 6 = .ok (.getfield 35, 3) := by decide +kernel
theorem dX8_faultPosition_9 : decode cX8_faultPosition 9 = .ok (.ireturn, 1) := by decide +kernel
theorem dX8_here_0 : decode cX8_here 0 = .ok (.aload_n 0, 1) := by decide +kernel
theorem dX8_here_1 : decode cX8_here 1 = .ok (.getfield 185, 3) := by decide +kernel
theorem dX8_here_4 : decode cX8_here 4 = .ok (.aload_n 0, 1) := by decide +kernel
theorem dX8_here_5 : decode cX8_here 5 = .ok (.getfield 182, 3) := by decide +kernel
theorem dX8_here_8 : decode cX8_here 8 = .ok (.if_icmp .ge 15, 3) := by decide +kernel
theorem dX8_here_11 : decode cX8_here 11 = .ok (.aload_n 0, 1) := by decide +kernel
theorem dX8_here_12 : decode cX8_here 12 = .ok (.getfield 32, 3) := by decide +kernel
theorem dX8_here_15 : decode cX8_here 15 = .ok (.aload_n 0, 1) := by decide +kernel
theorem dX8_here_16 : decode cX8_here 16 = .ok (.getfield 185, 3) := by decide +kernel
theorem dX8_here_19 : decode cX8_here 19 = .ok (.iaload, 1) := by decide +kernel
theorem dX8_here_20 : decode cX8_here 20 = .ok (.goto 4, 3) := by decide +kernel
theorem dX8_here_23 : decode cX8_here 23 = .ok (.iconst (-1), 1) := by decide +kernel
theorem dX8_here_24 : decode cX8_here 24 = .ok (.ireturn, 1) := by decide +kernel
theorem dX8_skips_0 : decode cX8_skips 0 = .ok (.aload_n 0, 1) := by decide +kernel
theorem dX8_skips_1 : decode cX8_skips 1 = .ok (.invokevirtual 188, 3) := by decide +kernel
theorem dX8_skips_4 : decode cX8_skips 4 = .ok (.iload_n 1, 1) := by decide +kernel
theorem dX8_skips_5 : decode cX8_skips 5 = .ok (.if_icmp .ne 7, 3) := by decide +kernel
theorem dX8_skips_8 : decode cX8_skips 8 = .ok (.iconst 1, 1) := by decide +kernel
theorem dX8_skips_9 : decode cX8_skips 9 = .ok (.goto 4, 3) := by decide +kernel
theorem dX8_skips_12 : decode cX8_skips 12 = .ok (.iconst 0, 1) := by decide +kernel
theorem dX8_skips_13 : decode cX8_skips 13 = .ok (.istore_n 2, 1) := by decide +kernel
theorem dX8_skips_14 : decode cX8_skips 14 = .ok (.aload_n 0, 1) := by decide +kernel
theorem dX8_skips_15 : decode cX8_skips 15 = .ok (.dup, 1) := by decide +kernel
theorem dX8_skips_16 : decode cX8_skips 16 = .ok (.getfield 185, 3) := by decide +kernel
theorem dX8_skips_19 : decode cX8_skips 19 = .ok (.iload_n 2, 1) := by decide +kernel
theorem dX8_skips_20 : decode cX8_skips 20 = .ok (.ifCond .eq 7, 3) := by decide +kernel
theorem dX8_skips_23 : decode cX8_skips 23 = .ok (.iconst 1, 1) := by decide +kernel
theorem dX8_skips_24 : decode cX8_skips 24 = .ok (.goto 4, 3) := by decide +kernel
theorem dX8_skips_27 : decode cX8_skips 27 = .ok (.iconst 0, 1) := by decide +kernel
theorem dX8_skips_28 : decode cX8_skips 28 = .ok (.iadd, 1) := by decide +kernel
theorem dX8_skips_29 : decode cX8_skips 29 = .ok (.putfield 185, 3) := by decide +kernel
theorem dX8_skips_32 : decode cX8_skips 32 = .ok (.iload_n 2, 1) := by decide +kernel
theorem dX8_skips_33 : decode cX8_skips 33 = .ok (.ireturn, 1) := by decide +kernel
theorem dX8_digit_0 : decode cX8_digit 0 = .ok (.aload_n 0, 1) := by decide +kernel
theorem dX8_digit_1 : decode cX8_digit 1 = .ok (.invokevirtual 188, 3) := by decide +kernel
theorem dX8_digit_4 : decode cX8_digit 4 = .ok (.bipush 48, 2) := by decide +kernel
theorem dX8_digit_6 : decode cX8_digit 6 = .ok (.bipush 48, 2) := by decide +kernel
theorem dX8_digit_8 : decode cX8_digit 8 = .ok (.iload_n 3, 1) := by decide +kernel
theorem dX8_digit_9 : decode cX8_digit 9 = .ok (.iadd, 1) := by decide +kernel
theorem dX8_digit_10 : decode cX8_digit 10 = .ok (.invokestatic 52, 3) := by decide +kernel
theorem dX8_digit_13 : decode cX8_digit 13 = .ok (.ifCond .ne 5, 3) := by decide +kernel
theorem dX8_digit_16 : decode cX8_digit 16 = .ok (.iconst 0, 1) := by decide +kernel
theorem dX8_digit_17 : decode cX8_digit 17 = .ok (.ireturn, 1) := by decide +kernel
theorem dX8_digit_18 : decode cX8_digit 18 = .ok (.aload_n 0, 1) := by decide +kernel
theorem dX8_digit_19 : decode cX8_digit 19 = .ok (.getfield 39, 3) := by decide +kernel
theorem dX8_digit_22 : decode cX8_digit 22 = .ok (.iload_n 1, 1) := by decide +kernel
theorem dX8_digit_23 : decode cX8_digit 23 = .ok (.iload_n 2, 1) := by decide +kernel
theorem dX8_digit_24 : decode cX8_digit 24 = .ok (.aload_n 0, 1) := by decide +kernel
theorem dX8_digit_25 : decode cX8_digit 25 = .ok (.getfield 39, 3) := by decide +kernel
theorem dX8_digit_28 : decode cX8_digit 28 = .ok (.iload_n 1, 1) := by decide +kernel
theorem dX8_digit_29 : decode cX8_digit 29 = .ok (.iaload, 1) := by decide +kernel
theorem dX8_digit_30 : decode cX8_digit 30 = .ok (.imul, 1) := by decide +kernel
theorem dX8_digit_31 : decode cX8_digit 31 = .ok (.aload_n 0, 1) := by decide +kernel
theorem dX8_digit_32 : decode cX8_digit 32 = .ok (.invokevirtual 188, 3) := by decide +kernel
theorem dX8_digit_35 : decode cX8_digit 35 = .ok (.iadd, 1) := by decide +kernel
theorem dX8_digit_36 : decode cX8_digit 36 = .ok (.bipush 48, 2) := by decide +kernel
theorem dX8_digit_38 : decode cX8_digit 38 = .ok (.isub, 1) := by decide +kernel
theorem dX8_digit_39 : decode cX8_digit 39 = .ok (.iastore, 1) := by decide +kernel
theorem dX8_digit_40 : decode cX8_digit 40 = .ok (.aload_n 0, 1) := by decide +kernel
theorem dX8_digit_41 : decode cX8_digit 41 = .ok (.dup, 1) := by decide +kernel
theorem dX8_digit_42 : decode cX8_digit 42 = .ok (.getfield 185, 3) := by decide +kernel
theorem dX8_digit_45 : decode cX8_digit 45 = .ok (.iconst 1, 1) := by decide +kernel
theorem dX8_digit_46 : decode cX8_digit 46 = .ok (.iadd, 1) := by decide +kernel
theorem dX8_digit_47 : decode cX8_digit 47 = .ok (.putfield 185, 3) := by decide +kernel
theorem dX8_digit_50 : decode cX8_digit 50 = .ok (.iconst 1, 1) := by decide +kernel
theorem dX8_digit_51 : decode cX8_digit 51 = .ok (.ireturn, 1) := by decide +kernel
theorem dX8_amount_0 : decode cX8_amount 0 = .ok (.aload_n 0, 1) := by decide +kernel
theorem dX8_amount_1 : decode cX8_amount 1 = .ok (.getfield 39, 3) := by decide +kernel
theorem dX8_amount_4 : decode cX8_amount 4 = .ok (.iload_n 1, 1) := by decide +kernel
theorem dX8_amount_5 : decode cX8_amount 5 = .ok (.iconst 0, 1) := by decide +kernel
theorem dX8_amount_6 : decode cX8_amount 6 = .ok (.iastore, 1) := by decide +kernel
theorem dX8_amount_7 : decode cX8_amount 7 = .ok (.aload_n 0, 1) := by decide +kernel
theorem dX8_amount_8 : decode cX8_amount 8 = .ok (.iload_n 1, 1) := by decide +kernel
theorem dX8_amount_9 : decode cX8_amount 9 = .ok (.bipush 10, 2) := by decide +kernel
theorem dX8_amount_11 : decode cX8_amount 11 = .ok (.bipush 9, 2) := by decide +kernel
theorem dX8_amount_13 : decode cX8_amount 13 = .ok (.invokevirtual 191, 3) := by decide +kernel
theorem dX8_amount_16 : decode cX8_amount 16 = .ok (.ifCond .ne 5, 3) := by decide +kernel
theorem dX8_amount_19 : decode cX8_amount 19 = .ok (.iconst 0, 1) := by decide +kernel
theorem dX8_amount_20 : decode cX8_amount 20 = .ok (.ireturn, 1) := by decide +kernel
theorem dX8_amount_21 : decode cX8_amount 21 = .ok (.iconst 1, 1) := by decide +kernel
theorem dX8_amount_22 : decode cX8_amount 22 = .ok (.istore_n 2, 1) := by decide +kernel
theorem dX8_amount_23 : decode cX8_amount 23 = .ok (.iload_n 2, 1) := by decide +kernel
theorem dX8_amount_24 : decode cX8_amount 24 = .ok (.iconst 5, 1) := by decide +kernel
theorem dX8_amount_25 : decode cX8_amount 25 = .ok (.if_icmp .ge 30, 3) := by decide +kernel
theorem dX8_amount_28 : decode cX8_amount 28 = .ok (.aload_n 0, 1) := by decide +kernel
theorem dX8_amount_29 : decode cX8_amount 29 = .ok (.getfield 39, 3) := by decide +kernel
theorem dX8_amount_32 : decode cX8_amount 32 = .ok (.iload_n 1, 1) := by decide +kernel
theorem dX8_amount_33 : decode cX8_amount 33 = .ok (.iaload, 1) := by decide +kernel
theorem dX8_amount_34 : decode cX8_amount 34 = .ok (.ifCond .le 21, 3) := by decide +kernel
theorem dX8_amount_37 : decode cX8_amount 37 = .ok (.aload_n 0, 1) := by decide +kernel
theorem dX8_amount_38 : decode cX8_amount 38 = .ok (.iload_n 1, 1) := by decide +kernel
theorem dX8_amount_39 : decode cX8_amount 39 = .ok (.bipush 10, 2) := by decide +kernel
theorem dX8_amount_41 : decode cX8_amount 41 = .ok (.bipush 9, 2) := by decide +kernel
theorem dX8_amount_43 : decode cX8_amount 43 = .ok (.invokevirtual 191, 3) := by decide +kernel
theorem dX8_amount_46 : decode cX8_amount 46 = .ok (.ifCond .eq 9, 3) := by decide +kernel
theorem dX8_amount_49 : decode cX8_amount 49 = .ok (.iinc 2 1, 3) := by decide +kernel
theorem dX8_amount_52 : decode cX8_amount 52 = .ok (.goto (-29), 3) := by decide +kernel
theorem dX8_amount_55 : decode cX8_amount 55 = .ok (.aload_n 0, 1) := by decide +kernel
theorem dX8_amount_56 : decode cX8_amount 56 = .ok (.bipush 46, 2) := by decide +kernel
theorem dX8_amount_58 : decode cX8_amount 58 = .ok (.invokevirtual 194, 3) := by decide +kernel
theorem dX8_amount_61 : decode cX8_amount 61 = .ok (.ifCond .eq 31, 3) := by decide +kernel
theorem dX8_amount_64 : decode cX8_amount 64 = .ok (.aload_n 0, 1) := by decide +kernel
theorem dX8_amount_65 : decode cX8_amount 65 = .ok (.iload_n 1, 1) := by decide +kernel
theorem dX8_amount_66 : decode cX8_amount 66 = .ok (.bipush 10, 2) := by decide +kernel
theorem dX8_amount_68 : decode cX8_amount 68 = .ok (.bipush 9, 2) := by decide +kernel
theorem dX8_amount_70 : decode cX8_amount 70 = .ok (.invokevirtual 191, 3) := by decide +kernel
theorem dX8_amount_73 : decode cX8_amount 73 = .ok (.ifCond .eq 19, 3) := by decide +kernel
theorem dX8_amount_76 : decode cX8_amount 76 = .ok (.aload_n 0, 1) := by decide +kernel
theorem dX8_amount_77 : decode cX8_amount 77 = .ok (.iload_n 1, 1) := by decide +kernel
theorem dX8_amount_78 : decode cX8_amount 78 = .ok (.bipush 10, 2) := by decide +kernel
theorem dX8_amount_80 : decode cX8_amount 80 = .ok (.bipush 9, 2) := by decide +kernel
theorem dX8_amount_82 : decode cX8_amount 82 = .ok (.invokevirtual 191, 3) := by decide +kernel
theorem dX8_amount_85 : decode cX8_amount 85 = .ok (.ifCond .eq 7, 3) := by decide +kernel
theorem dX8_amount_88 : decode cX8_amount 88 = .ok (.iconst 1, 1) := by decide +kernel
theorem dX8_amount_89 : decode cX8_amount 89 = .ok (.goto 4, 3) := by decide +kernel
theorem dX8_amount_92 : decode cX8_amount 92 = .ok (.iconst 0, 1) := by decide +kernel
theorem dX8_amount_93 : decode cX8_amount 93 = .ok (.ireturn, 1) := by decide +kernel
theorem dX8_kind_0 : decode cX8_kind 0 = .ok (.aload_n 0, 1) := by decide +kernel
theorem dX8_kind_1 : decode cX8_kind 1 = .ok (.invokevirtual 188, 3) := by decide +kernel
theorem dX8_kind_4 : decode cX8_kind 4 = .ok (.istore_n 2, 1) := by decide +kernel
theorem dX8_kind_5 : decode cX8_kind 5 = .ok (.iload_n 2, 1) := by decide +kernel
theorem dX8_kind_6 : decode cX8_kind 6 = .ok (.bipush 97, 2) := by decide +kernel
theorem dX8_kind_8 : decode cX8_kind 8 = .ok (.if_icmp .ne 7, 3) := by decide +kernel
theorem dX8_kind_11 : decode cX8_kind 11 = .ok (.iconst 0, 1) := by decide +kernel
theorem dX8_kind_12 : decode cX8_kind 12 = .ok (.goto 44, 3) := by decide +kernel
theorem dX8_kind_15 : decode cX8_kind 15 = .ok (.iload_n 2, 1) := by decide +kernel
theorem dX8_kind_16 : decode cX8_kind 16 = .ok (.bipush 104, 2) := by decide +kernel
theorem dX8_kind_18 : decode cX8_kind 18 = .ok (.if_icmp .ne 7, 3) := by decide +kernel
theorem dX8_kind_21 : decode cX8_kind 21 = .ok (.iconst 1, 1) := by decide +kernel
theorem dX8_kind_22 : decode cX8_kind 22 = .ok (.goto 34, 3) := by decide +kernel
theorem dX8_kind_25 : decode cX8_kind 25 = .ok (.iload_n 2, 1) := by decide +kernel
theorem dX8_kind_26 : decode cX8_kind 26 = .ok (.bipush 115, 2) := by decide +kernel
theorem dX8_kind_28 : decode cX8_kind 28 = .ok (.if_icmp .ne 7, 3) := by decide +kernel
theorem dX8_kind_31 : decode cX8_kind 31 = .ok (.iconst 2, 1) := by decide +kernel
theorem dX8_kind_32 : decode cX8_kind 32 = .ok (.goto 24, 3) := by decide +kernel
theorem dX8_kind_35 : decode cX8_kind 35 = .ok (.iload_n 2, 1) := by decide +kernel
theorem dX8_kind_36 : decode cX8_kind 36 = .ok (.bipush 101, 2) := by decide +kernel
theorem dX8_kind_38 : decode cX8_kind 38 = .ok (.if_icmp .ne 7, 3) := by decide +kernel
theorem dX8_kind_41 : decode cX8_kind 41 = .ok (.iconst 3, 1) := by decide +kernel
theorem dX8_kind_42 : decode cX8_kind 42 = .ok (.goto 14, 3) := by decide +kernel
theorem dX8_kind_45 : decode cX8_kind 45 = .ok (.iload_n 2, 1) := by decide +kernel
theorem dX8_kind_46 : decode cX8_kind 46 = .ok (.bipush 109, 2) := by decide +kernel
theorem dX8_kind_48 : decode cX8_kind 48 = .ok (.if_icmp .ne 7, 3) := by decide +kernel
theorem dX8_kind_51 : decode cX8_kind 51 = .ok (.iconst 4, 1) := by decide +kernel
theorem dX8_kind_52 : decode cX8_kind 52 = .ok (.goto 4, 3) := by decide +kernel
theorem dX8_kind_55 : decode cX8_kind 55 = .ok (.iconst (-1), 1) := by decide +kernel
theorem dX8_kind_56 : decode cX8_kind 56 = .ok (.istore_n 3, 1) := by decide +kernel
theorem dX8_kind_57 : decode cX8_kind 57 = .ok (.iload_n 3, 1) := by decide +kernel
theorem dX8_kind_58 : decode cX8_kind 58 = .ok (.ifCond .ge 5, 3) := by decide +kernel
theorem dX8_kind_61 : decode cX8_kind 61 = .ok (.iconst 0, 1) := by decide +kernel
theorem dX8_kind_62 : decode cX8_kind 62 = .ok (.ireturn, 1) := by decide +kernel
theorem dX8_kind_63 : decode cX8_kind 63 = .ok (.aload_n 0, 1) := by decide +kernel
theorem dX8_kind_64 : decode cX8_kind 64 = .ok (.dup, 1) := by decide +kernel
theorem dX8_kind_65 : decode cX8_kind 65 = .ok (.getfield 185, 3) := by decide +kernel
theorem dX8_kind_68 : decode cX8_kind 68 = .ok (.iconst 1, 1) := by decide +kernel
theorem dX8_kind_69 : decode cX8_kind 69 = .ok (.iadd, 1) := by decide +kernel
theorem dX8_kind_70 : decode cX8_kind 70 = .ok (.putfield 185, 3) := by decide +kernel
theorem dX8_kind_73 : decode cX8_kind 73 = .ok (.aload_n 0, 1) := by decide +kernel
theorem dX8_kind_74 : decode cX8_kind 74 = .ok (.getfield 39, 3) := by decide +kernel
theorem dX8_kind_77 : decode cX8_kind 77 = .ok (.iload_n 1, 1) := by decide +kernel
theorem dX8_kind_78 : decode cX8_kind 78 = .ok (.iload_n 3, 1) := by decide +kernel
theorem dX8_kind_79 : decode cX8_kind 79 = .ok (.iastore, 1) := by decide +kernel
theorem dX8_kind_80 : decode cX8_kind 80 = .ok (.aload_n 0, 1) := by decide +kernel
theorem dX8_kind_81 : decode cX8_kind 81 = .ok (.getfield 39, 3) := by decide +kernel
theorem dX8_kind_84 : decode cX8_kind 84 = .ok (.iload_n 1, 1) := by decide +kernel
theorem dX8_kind_85 : decode cX8_kind 85 = .ok (.iconst 1, 1) := by decide +kernel
theorem dX8_kind_86 : decode cX8_kind 86 = .ok (.iadd, 1) := by decide +kernel
theorem dX8_kind_87 : decode cX8_kind 87 = .ok (.iconst 0, 1) := by decide +kernel
theorem dX8_kind_88 : decode cX8_kind 88 = .ok (.iastore, 1) := by decide +kernel
theorem dX8_kind_89 : decode cX8_kind 89 = .ok (.iload_n 3, 1) := by decide +kernel
theorem dX8_kind_90 : decode cX8_kind 90 = .ok (.iconst 1, 1) := by decide +kernel
theorem dX8_kind_91 : decode cX8_kind 91 = .ok (.if_icmp .eq 8, 3) := by decide +kernel
theorem dX8_kind_94 : decode cX8_kind 94 = .ok (.iload_n 3, 1) := by decide +kernel
theorem dX8_kind_95 : decode cX8_kind 95 = .ok (.iconst 2, 1) := by decide +kernel
theorem dX8_kind_96 : decode cX8_kind 96 = .ok (.if_icmp .ne 15, 3) := by decide +kernel
theorem dX8_kind_99 : decode cX8_kind 99 = .ok (.aload_n 0, 1) := by decide +kernel
theorem dX8_kind_100 : decode cX8_kind 100 = .ok (.iload_n 1, 1) := by decide +kernel
theorem dX8_kind_101 : decode cX8_kind 101 = .ok (.iconst 1, 1) := by decide +kernel
theorem dX8_kind_102 : decode cX8_kind 102 = .ok (.iadd, 1) := by decide +kernel
theorem dX8_kind_103 : decode cX8_kind 103 = .ok (.iconst 3, 1) := by decide +kernel
theorem dX8_kind_104 : decode cX8_kind 104 = .ok (.iconst 2, 1) := by decide +kernel
theorem dX8_kind_105 : decode cX8_kind 105 = .ok (.invokevirtual 191, 3) := by decide +kernel
theorem dX8_kind_108 : decode cX8_kind 108 = .ok (.ifCond .eq 24, 3) := by decide +kernel
theorem dX8_kind_111 : decode cX8_kind 111 = .ok (.iload_n 3, 1) := by decide +kernel
theorem dX8_kind_112 : decode cX8_kind 112 = .ok (.iconst 2, 1) := by decide +kernel
theorem dX8_kind_113 : decode cX8_kind 113 = .ok (.if_icmp .ne 15, 3) := by decide +kernel
theorem dX8_kind_116 : decode cX8_kind 116 = .ok (.aload_n 0, 1) := by decide +kernel
theorem dX8_kind_117 : decode cX8_kind 117 = .ok (.iload_n 1, 1) := by decide +kernel
theorem dX8_kind_118 : decode cX8_kind 118 = .ok (.iconst 1, 1) := by decide +kernel
theorem dX8_kind_119 : decode cX8_kind 119 = .ok (.iadd, 1) := by decide +kernel
theorem dX8_kind_120 : decode cX8_kind 120 = .ok (.iconst 3, 1) := by decide +kernel
theorem dX8_kind_121 : decode cX8_kind 121 = .ok (.iconst 2, 1) := by decide +kernel
theorem dX8_kind_122 : decode cX8_kind 122 = .ok (.invokevirtual 191, 3) := by decide +kernel
theorem dX8_kind_125 : decode cX8_kind 125 = .ok (.ifCond .eq 7, 3) := by decide +kernel
theorem dX8_kind_128 : decode cX8_kind 128 = .ok (.iconst 1, 1) := by decide +kernel
theorem dX8_kind_129 : decode cX8_kind 129 = .ok (.goto 4, 3) := by decide +kernel
theorem dX8_kind_132 : decode cX8_kind 132 = .ok (.iconst 0, 1) := by decide +kernel
theorem dX8_kind_133 : decode cX8_kind 133 = .ok (.ireturn, 1) := by decide +kernel
theorem dX8_costTold_0 : decode cX8_costTold 0 = .ok (.iconst 5, 1) := by decide +kernel
theorem dX8_costTold_1 : decode cX8_costTold 1 = .ok (.aload_n 0, 1) := by decide +kernel
theorem dX8_costTold_2 : decode cX8_costTold 2 = .ok (.getfield 197, 3) := by decide +kernel
theorem dX8_costTold_5 : decode cX8_costTold 5 = .ok (.imul, 1) := by decide +kernel
theorem dX8_costTold_6 : decode cX8_costTold 6 = .ok (.istore_n 1, 1) := by decide +kernel
theorem dX8_costTold_7 : decode cX8_costTold 7 = .ok (.aload_n 0, 1) := by decide +kernel
theorem dX8_costTold_8 : decode cX8_costTold 8 = .ok (.iload_n 1, 1) := by decide +kernel
theorem dX8_costTold_9 : decode cX8_costTold 9 = .ok (.invokevirtual 200, 3) := by decide +kernel
theorem dX8_costTold_12 : decode cX8_costTold 12 = .ok (.ifCond .ne 5, 3) := by decide +kernel
theorem dX8_costTold_15 : decode cX8_costTold 15 = .ok (.iconst 0, 1) := by decide +kernel
theorem dX8_costTold_16 : decode cX8_costTold 16 = .ok (.ireturn, 1) := by decide +kernel
theorem dX8_costTold_17 : decode cX8_costTold 17 = .ok (.aload_n 0, 1) := by decide +kernel
theorem dX8_costTold_18 : decode cX8_costTold 18 = .ok (.dup, 1) := by decide +kernel
theorem dX8_costTold_19 : decode cX8_costTold 19 = .ok (.getfield 197, 3) := by decide +kernel
theorem dX8_costTold_22 : decode cX8_costTold 22 = .ok (.iconst 1, 1) := by decide +kernel
theorem dX8_costTold_23 : decode cX8_costTold 23 = .ok (.iadd, 1) := by decide +kernel
theorem dX8_costTold_24 : decode cX8_costTold 24 = .ok (.putfield 197, 3) := by decide +kernel
theorem dX8_costTold_27 : decode cX8_costTold 27 = .ok (.aload_n 0, 1) := by decide +kernel
theorem dX8_costTold_28 : decode cX8_costTold 28 = .ok (.getfield 39, 3) := by decide +kernel
theorem dX8_costTold_31 : decode cX8_costTold 31 = .ok (.iload_n 1, 1) := by decide +kernel
theorem dX8_costTold_32 : decode cX8_costTold 32 = .ok (.iconst 2, 1) := by decide +kernel
theorem dX8_costTold_33 : decode cX8_costTold 33 = .ok (.iadd, 1) := by decide +kernel
theorem dX8_costTold_34 : decode cX8_costTold 34 = .ok (.iconst 0, 1) := by decide +kernel
theorem dX8_costTold_35 : decode cX8_costTold 35 = .ok (.iastore, 1) := by decide +kernel
theorem dX8_costTold_36 : decode cX8_costTold 36 = .ok (.aload_n 0, 1) := by decide +kernel
theorem dX8_costTold_37 : decode cX8_costTold 37 = .ok (.bipush 58, 2) := by decide +kernel
theorem dX8_costTold_39 : decode cX8_costTold 39 = .ok (.invokevirtual 194, 3) := by decide +kernel
theorem dX8_costTold_42 : decode cX8_costTold 42 = .ok (.ifCond .eq 35, 3) := by decide +kernel
theorem dX8_costTold_45 : decode cX8_costTold 45 = .ok (.aload_n 0, 1) := by decide +kernel
theorem dX8_costTold_46 : decode cX8_costTold 46 = .ok (.iload_n 1, 1) := by decide +kernel
theorem dX8_costTold_47 : decode cX8_costTold 47 = .ok (.iconst 2, 1) := by decide +kernel
theorem dX8_costTold_48 : decode cX8_costTold 48 = .ok (.iadd, 1) := by decide +kernel
theorem dX8_costTold_49 : decode cX8_costTold 49 = .ok (.bipush 10, 2) := by decide +kernel
theorem dX8_costTold_51 : decode cX8_costTold 51 = .ok (.iconst 4, 1) := by decide +kernel
theorem dX8_costTold_52 : decode cX8_costTold 52 = .ok (.invokevirtual 191, 3) := by decide +kernel
theorem dX8_costTold_55 : decode cX8_costTold 55 = .ok (.ifCond .eq 22, 3) := by decide +kernel
theorem dX8_costTold_58 : decode cX8_costTold 58 = .ok (.aload_n 0, 1) := by decide +kernel
theorem dX8_costTold_59 : decode cX8_costTold 59 = .ok (.bipush 61, 2) := by decide +kernel
theorem dX8_costTold_61 : decode cX8_costTold 61 = .ok (.invokevirtual 194, 3) := by decide +kernel
theorem dX8_costTold_64 : decode cX8_costTold 64 = .ok (.ifCond .eq 13, 3) := by decide +kernel
theorem dX8_costTold_67 : decode cX8_costTold 67 = .ok (.aload_n 0, 1) := by decide +kernel
theorem dX8_costTold_68 : decode cX8_costTold 68 = .ok (.iload_n 1, 1) := by decide +kernel
theorem dX8_costTold_69 : decode cX8_costTold 69 = .ok (.iconst 3, 1) := by decide +kernel
theorem dX8_costTold_70 : decode cX8_costTold 70 = .ok (.iadd, 1) := by decide +kernel
theorem dX8_costTold_71 : decode cX8_costTold 71 = .ok (.invokevirtual 203, 3) := by decide +kernel
theorem dX8_costTold_74 : decode cX8_costTold 74 = .ok (.ifCond .ne 5, 3) := by decide +kernel
theorem dX8_costTold_77 : decode cX8_costTold 77 = .ok (.iconst 0, 1) := by decide +kernel
theorem dX8_costTold_78 : decode cX8_costTold 78 = .ok (.ireturn, 1) := by decide +kernel
theorem dX8_costTold_79 : decode cX8_costTold 79 = .ok (.aload_n 0, 1) := by decide +kernel
theorem dX8_costTold_80 : decode cX8_costTold 80 = .ok (.getfield 39, 3) := by decide +kernel
theorem dX8_costTold_83 : decode cX8_costTold 83 = .ok (.iload_n 1, 1) := by decide +kernel
theorem dX8_costTold_84 : decode cX8_costTold 84 = .ok (.iconst 4, 1) := by decide +kernel
theorem dX8_costTold_85 : decode cX8_costTold 85 = .ok (.iadd, 1) := by decide +kernel
theorem dX8_costTold_86 : decode cX8_costTold 86 = .ok (.aload_n 0, 1) := by decide +kernel
theorem dX8_costTold_87 : decode cX8_costTold 87 = .ok (.bipush 102, 2) := by decide +kernel
theorem dX8_costTold_89 : decode cX8_costTold 89 = .ok (.invokevirtual 194, 3) := by decide +kernel
theorem dX8_costTold_92 : decode cX8_costTold 92 = .ok (.ifCond .eq 7, 3) := by decide +kernel
theorem dX8_costTold_95 : decode cX8_costTold 95 = .ok (.iconst 1, 1) := by decide +kernel
theorem dX8_costTold_96 : decode cX8_costTold 96 = .ok (.goto 4, 3) := by decide +kernel
theorem dX8_costTold_99 : decode cX8_costTold 99 = .ok (.iconst 0, 1) := by decide +kernel
theorem dX8_costTold_100 : decode cX8_costTold 100 = .ok (.iastore, 1) := by decide +kernel
theorem dX8_costTold_101 : decode cX8_costTold 101 = .ok (.iconst 1, 1) := by decide +kernel
theorem dX8_costTold_102 : decode cX8_costTold 102 = .ok (.ireturn, 1) := by decide +kernel
theorem dX8_isText_0 : decode cX8_isText 0 = .ok (.aload_n 0, 1) := by decide +kernel
theorem dX8_isText_1 : decode cX8_isText 1 = .ok (.iconst 0, 1) := by decide +kernel
theorem dX8_isText_2 : decode cX8_isText 2 = .ok (.putfield 185, 3) := by decide +kernel
theorem dX8_isText_5 : decode cX8_isText 5 = .ok (.aload_n 0, 1) := by decide +kernel
theorem dX8_isText_6 : decode cX8_isText 6 = .ok (.iconst 0, 1) := by decide +kernel
theorem dX8_isText_7 : decode cX8_isText 7 = .ok (.putfield 197, 3) := by decide +kernel
theorem dX8_isText_10 : decode cX8_isText 10 = .ok (.aload_n 0, 1) := by decide +kernel
theorem dX8_isText_11 : decode cX8_isText 11 = .ok (.invokevirtual 206, 3) := by decide +kernel
theorem dX8_isText_14 : decode cX8_isText 14 = .ok (.ifCond .ne 5, 3) := by decide +kernel
theorem dX8_isText_17 : decode cX8_isText 17 = .ok (.iconst 0, 1) := by decide +kernel
theorem dX8_isText_18 : decode cX8_isText 18 = .ok (.ireturn, 1) := by decide +kernel
theorem dX8_isText_19 : decode cX8_isText 19 = .ok (.aload_n 0, 1) := by decide +kernel
theorem dX8_isText_20 : decode cX8_isText 20 = .ok (.bipush 59, 2) := by decide +kernel
theorem dX8_isText_22 : decode cX8_isText 22 = .ok (.invokevirtual 194, 3) := by decide +kernel
theorem dX8_isText_25 : decode cX8_isText 25 = .ok (.ifCond .ne (-15), 3) := by decide +kernel
theorem dX8_isText_28 : decode cX8_isText 28 = .ok (.aload_n 0, 1) := by decide +kernel
theorem dX8_isText_29 : decode cX8_isText 29 = .ok (.getfield 185, 3) := by decide +kernel
theorem dX8_isText_32 : decode cX8_isText 32 = .ok (.aload_n 0, 1) := by decide +kernel
theorem dX8_isText_33 : decode cX8_isText 33 = .ok (.getfield 182, 3) := by decide +kernel
theorem dX8_isText_36 : decode cX8_isText 36 = .ok (.if_icmp .ne 7, 3) := by decide +kernel
theorem dX8_isText_39 : decode cX8_isText 39 = .ok (.iconst 1, 1) := by decide +kernel
theorem dX8_isText_40 : decode cX8_isText 40 = .ok (.goto 4, 3) := by decide +kernel
theorem dX8_isText_43 : decode cX8_isText 43 = .ok (.iconst 0, 1) := by decide +kernel
theorem dX8_isText_44 : decode cX8_isText 44 = .ok (.ireturn, 1) := by decide +kernel
theorem dX8_bookAll_0 : decode cX8_bookAll 0 = .ok (.aload_n 0, 1) := by decide +kernel
theorem dX8_bookAll_1 : decode cX8_bookAll 1 = .ok (.iconst 0, 1) := by decide +kernel
theorem dX8_bookAll_2 : decode cX8_bookAll 2 = .ok (.putfield 42, 3) := by decide +kernel
theorem dX8_bookAll_5 : decode cX8_bookAll 5 = .ok (.aload_n 0, 1) := by decide +kernel
theorem dX8_bookAll_6 : decode cX8_bookAll 6 = .ok (.invokevirtual 209, 3) := by decide +kernel
theorem dX8_bookAll_9 : decode cX8_bookAll 9 = .ok (.istore_n 1, 1) := by decide +kernel
theorem dX8_bookAll_10 : decode cX8_bookAll 10 = .ok (.aload_n 0, 1) := by decide +kernel
theorem dX8_bookAll_11 : decode cX8_bookAll 11 = .ok (.iload_n 1, 1) := by decide +kernel
theorem dX8_bookAll_12 : decode cX8_bookAll 12 = .ok (.ifCond .eq 7, 3) := by decide +kernel
theorem dX8_bookAll_15 : decode cX8_bookAll 15 = .ok (.iconst (-1), 1) := by decide +kernel
theorem dX8_bookAll_16 : decode cX8_bookAll 16 = .ok (.goto 7, 3) := by decide +kernel
theorem dX8_bookAll_19 : decode cX8_bookAll 19 = .ok (.aload_n 0, 1) := by decide +kernel
theorem dX8_bookAll_20 : decode cX8_bookAll 20 = .ok (.getfield 185, 3) := by decide +kernel
theorem dX8_bookAll_23 : decode cX8_bookAll 23 = .ok (.putfield 35, 3) := by decide +kernel
theorem dX8_bookAll_26 : decode cX8_bookAll 26 = .ok (.aload_n 0, 1) := by decide +kernel
theorem dX8_bookAll_27 : decode cX8_bookAll 27 = .ok (.iconst 0, 1) := by decide +kernel
theorem dX8_bookAll_28 : decode cX8_bookAll 28 = .ok (.putfield 182, 3) := by decide +kernel
theorem dX8_bookAll_31 : decode cX8_bookAll 31 = .ok (.iload_n 1, 1) := by decide +kernel
theorem dX8_bookAll_32 : decode cX8_bookAll 32 = .ok (.ifCond .ne 9, 3) := by decide +kernel
theorem dX8_bookAll_35 : decode cX8_bookAll 35 = .ok (.aload_n 0, 1) := by decide +kernel
theorem dX8_bookAll_36 : decode cX8_bookAll 36 = .ok (.iconst 1, 1) := by decide +kernel
theorem dX8_bookAll_37 : decode cX8_bookAll 37 = .ok (.invokevirtual 48, 3) := by decide +kernel
theorem dX8_bookAll_40 : decode cX8_bookAll 40 = .ok (.ireturn, 1) := by decide +kernel
theorem dX8_bookAll_41 : decode cX8_bookAll 41 = .ok (.aload_n 0, 1) := by decide +kernel
theorem dX8_bookAll_42 : decode cX8_bookAll 42 = .ok (.getfield 7, 3) := by decide +kernel
theorem dX8_bookAll_45 : decode cX8_bookAll 45 = .ok (.iconst 0, 1) := by decide +kernel
theorem dX8_bookAll_46 : decode cX8_bookAll 46 = .ok (.aload_n 0, 1) := by decide +kernel
theorem dX8_bookAll_47 : decode cX8_bookAll 47 = .ok (.getfield 16, 3) := by decide +kernel
theorem dX8_bookAll_50 : decode cX8_bookAll 50 = .ok (.iconst 0, 1) := by decide +kernel
theorem dX8_bookAll_51 : decode cX8_bookAll 51 = .ok (.invokestatic 63, 3) := by decide +kernel
theorem dX8_bookAll_54 : decode cX8_bookAll 54 = .ok (.iconst 0, 1) := by decide +kernel
theorem dX8_bookAll_55 : decode cX8_bookAll 55 = .ok (.istore_n 2, 1) := by decide +kernel
theorem dX8_bookAll_56 : decode cX8_bookAll 56 = .ok (.iload_n 2, 1) := by decide +kernel
theorem dX8_bookAll_57 : decode cX8_bookAll 57 = .ok (.aload_n 0, 1) := by decide +kernel
theorem dX8_bookAll_58 : decode cX8_bookAll 58 = .ok (.getfield 197, 3) := by decide +kernel
theorem dX8_bookAll_61 : decode cX8_bookAll 61 = .ok (.if_icmp .ge 144, 3) := by decide +kernel
theorem dX8_bookAll_64 : decode cX8_bookAll 64 = .ok (.iconst 5, 1) := by decide +kernel
theorem dX8_bookAll_65 : decode cX8_bookAll 65 = .ok (.iload_n 2, 1) := by decide +kernel
theorem dX8_bookAll_66 : decode cX8_bookAll 66 = .ok (.imul, 1) := by decide +kernel
theorem dX8_bookAll_67 : decode cX8_bookAll 67 = .ok (.istore_n 3, 1) := by decide +kernel
theorem dX8_bookAll_68 : decode cX8_bookAll 68 = .ok (.aload_n 0, 1) := by decide +kernel
theorem dX8_bookAll_69 : decode cX8_bookAll 69 = .ok (.aload_n 0, 1) := by decide +kernel
theorem dX8_bookAll_70 : decode cX8_bookAll 70 = .ok (.getfield 39, 3) := by decide +kernel
theorem dX8_bookAll_73 : decode cX8_bookAll 73 = .ok (.iload_n 3, 1) := by decide +kernel
theorem dX8_bookAll_74 : decode cX8_bookAll 74 = .ok (.iaload, 1) := by decide +kernel
theorem dX8_bookAll_75 : decode cX8_bookAll 75 = .ok (.aload_n 0, 1) := by decide +kernel
theorem dX8_bookAll_76 : decode cX8_bookAll 76 = .ok (.getfield 39, 3) := by decide +kernel
theorem dX8_bookAll_79 : decode cX8_bookAll 79 = .ok (.iload_n 3, 1) := by decide +kernel
theorem dX8_bookAll_80 : decode cX8_bookAll 80 = .ok (.iconst 1, 1) := by decide +kernel
theorem dX8_bookAll_81 : decode cX8_bookAll 81 = .ok (.iadd, 1) := by decide +kernel
theorem dX8_bookAll_82 : decode cX8_bookAll 82 = .ok (.iaload, 1) := by decide +kernel
theorem dX8_bookAll_83 : decode cX8_bookAll 83 = .ok (.aload_n 0, 1) := by decide +kernel
theorem dX8_bookAll_84 : decode cX8_bookAll 84 = .ok (.getfield 39, 3) := by decide +kernel
theorem dX8_bookAll_87 : decode cX8_bookAll 87 = .ok (.iload_n 3, 1) := by decide +kernel
theorem dX8_bookAll_88 : decode cX8_bookAll 88 = .ok (.iconst 2, 1) := by decide +kernel
theorem dX8_bookAll_89 : decode cX8_bookAll 89 = .ok (.iadd, 1) := by decide +kernel
theorem dX8_bookAll_90 : decode cX8_bookAll 90 = .ok (.iaload, 1) := by decide +kernel
theorem dX8_bookAll_91 : decode cX8_bookAll 91 = .ok (.aload_n 0, 1) := by decide +kernel
theorem dX8_bookAll_92 : decode cX8_bookAll 92 = .ok (.getfield 39, 3) := by decide +kernel
theorem dX8_bookAll_95 : decode cX8_bookAll 95 = .ok (.iload_n 3, 1) := by decide +kernel
theorem dX8_bookAll_96 : decode cX8_bookAll 96 = .ok (.iconst 3, 1) := by decide +kernel
theorem dX8_bookAll_97 : decode cX8_bookAll 97 = .ok (.iadd, 1) := by decide +kernel
theorem dX8_bookAll_98 : decode cX8_bookAll 98 = .ok (.iaload, 1) := by decide +kernel
theorem dX8_bookAll_99 : decode cX8_bookAll 99 = .ok (.aload_n 0, 1) := by decide +kernel
theorem dX8_bookAll_100 : decode cX8_bookAll 100 = .ok (.getfield 39, 3) := by decide +kernel
theorem dX8_bookAll_103 : decode cX8_bookAll 103 = .ok (.iload_n 3, 1) := by decide +kernel
theorem dX8_bookAll_104 : decode cX8_bookAll 104 = .ok (.iconst 4, 1) := by decide +kernel
theorem dX8_bookAll_105 : decode cX8_bookAll 105 = .ok (.iadd, 1) := by decide +kernel
theorem dX8_bookAll_106 : decode cX8_bookAll 106 = .ok (.iaload, 1) := by decide +kernel
theorem dX8_bookAll_107 : decode cX8_bookAll 107 = .ok (.iconst 1, 1) := by decide +kernel
theorem dX8_bookAll_108 : decode cX8_bookAll 108 = .ok (.if_icmp .ne 7, 3) := by decide +kernel
theorem dX8_bookAll_111 : decode cX8_bookAll 111 = .ok (.iconst 1, 1) := by decide +kernel
theorem dX8_bookAll_112 : decode cX8_bookAll 112 = .ok (.goto 4, 3) := by decide +kernel
theorem dX8_bookAll_115 : decode cX8_bookAll 115 = .ok (.iconst 0, 1) := by decide +kernel
theorem dX8_bookAll_116 : decode cX8_bookAll 116 = .ok (.invokevirtual 143, 3) := by decide +kernel
theorem dX8_bookAll_119 : decode cX8_bookAll 119 = .ok (.istore 4, 2) := by decide +kernel
theorem dX8_bookAll_121 : decode cX8_bookAll 121 = .ok (.iload 4, 2) := by decide +kernel
theorem dX8_bookAll_123 : decode cX8_bookAll 123 = .ok (.ifCond .le 24, 3) := by decide +kernel
theorem dX8_bookAll_126 : decode cX8_bookAll 126 = .ok (.aload_n 0, 1) := by decide +kernel
theorem dX8_bookAll_127 : decode cX8_bookAll 127 = .ok (.getfield 16, 3) := by decide +kernel
theorem dX8_bookAll_130 : decode cX8_bookAll 130 = .ok (.iconst 0, 1) := by decide +kernel
theorem dX8_bookAll_131 : decode cX8_bookAll 131 = .ok (.aload_n 0, 1) := by decide +kernel
theorem dX8_bookAll_132 : decode cX8_bookAll 132 = .ok (.getfield 7, 3) := by decide +kernel
theorem dX8_bookAll_135 : decode cX8_bookAll 135 = .ok (.iconst 0, 1) := by decide +kernel
theorem dX8_bookAll_136 : decode cX8_bookAll 136 = .ok (.invokestatic 63, 3) := by decide +kernel
theorem dX8_bookAll_139 : decode cX8_bookAll 139 = .ok (.aload_n 0, 1) := by decide +kernel
theorem dX8_bookAll_140 : decode cX8_bookAll 140 = .ok (.iconst 2, 1) := by decide +kernel
theorem dX8_bookAll_141 : decode cX8_bookAll 141 = .ok (.iload 4, 2) := by decide +kernel
theorem dX8_bookAll_143 : decode cX8_bookAll 143 = .ok (.invokevirtual 117, 3) := by decide +kernel
theorem dX8_bookAll_146 : decode cX8_bookAll 146 = .ok (.ireturn, 1) := by decide +kernel
theorem dX8_bookAll_147 : decode cX8_bookAll 147 = .ok (.aload_n 0, 1) := by decide +kernel
theorem dX8_bookAll_148 : decode cX8_bookAll 148 = .ok (.aload_n 0, 1) := by decide +kernel
theorem dX8_bookAll_149 : decode cX8_bookAll 149 = .ok (.getfield 39, 3) := by decide +kernel
theorem dX8_bookAll_152 : decode cX8_bookAll 152 = .ok (.iload_n 3, 1) := by decide +kernel
theorem dX8_bookAll_153 : decode cX8_bookAll 153 = .ok (.iaload, 1) := by decide +kernel
theorem dX8_bookAll_154 : decode cX8_bookAll 154 = .ok (.aload_n 0, 1) := by decide +kernel
theorem dX8_bookAll_155 : decode cX8_bookAll 155 = .ok (.getfield 39, 3) := by decide +kernel
theorem dX8_bookAll_158 : decode cX8_bookAll 158 = .ok (.iload_n 3, 1) := by decide +kernel
theorem dX8_bookAll_159 : decode cX8_bookAll 159 = .ok (.iconst 1, 1) := by decide +kernel
theorem dX8_bookAll_160 : decode cX8_bookAll 160 = .ok (.iadd, 1) := by decide +kernel
theorem dX8_bookAll_161 : decode cX8_bookAll 161 = .ok (.iaload, 1) := by decide +kernel
theorem dX8_bookAll_162 : decode cX8_bookAll 162 = .ok (.aload_n 0, 1) := by decide +kernel
theorem dX8_bookAll_163 : decode cX8_bookAll 163 = .ok (.getfield 39, 3) := by decide +kernel
theorem dX8_bookAll_166 : decode cX8_bookAll 166 = .ok (.iload_n 3, 1) := by decide +kernel
theorem dX8_bookAll_167 : decode cX8_bookAll 167 = .ok (.iconst 2, 1) := by decide +kernel
theorem dX8_bookAll_168 : decode cX8_bookAll 168 = .ok (.iadd, 1) := by decide +kernel
theorem dX8_bookAll_169 : decode cX8_bookAll 169 = .ok (.iaload, 1) := by decide +kernel
theorem dX8_bookAll_170 : decode cX8_bookAll 170 = .ok (.aload_n 0, 1) := by decide +kernel
theorem dX8_bookAll_171 : decode cX8_bookAll 171 = .ok (.getfield 39, 3) := by decide +kernel
theorem dX8_bookAll_174 : decode cX8_bookAll 174 = .ok (.iload_n 3, 1) := by decide +kernel
theorem dX8_bookAll_175 : decode cX8_bookAll 175 = .ok (.iconst 3, 1) := by decide +kernel
theorem dX8_bookAll_176 : decode cX8_bookAll 176 = .ok (.iadd, 1) := by decide +kernel
theorem dX8_bookAll_177 : decode cX8_bookAll 177 = .ok (.iaload, 1) := by decide +kernel
theorem dX8_bookAll_178 : decode cX8_bookAll 178 = .ok (.aload_n 0, 1) := by decide +kernel
theorem dX8_bookAll_179 : decode cX8_bookAll 179 = .ok (.getfield 39, 3) := by decide +kernel
theorem dX8_bookAll_182 : decode cX8_bookAll 182 = .ok (.iload_n 3, 1) := by decide +kernel
theorem dX8_bookAll_183 : decode cX8_bookAll 183 = .ok (.iconst 4, 1) := by decide +kernel
theorem dX8_bookAll_184 : decode cX8_bookAll 184 = .ok (.iadd, 1) := by decide +kernel
theorem dX8_bookAll_185 : decode cX8_bookAll 185 = .ok (.iaload, 1) := by decide +kernel
theorem dX8_bookAll_186 : decode cX8_bookAll 186 = .ok (.iconst 1, 1) := by decide +kernel
theorem dX8_bookAll_187 : decode cX8_bookAll 187 = .ok (.if_icmp .ne 7, 3) := by decide +kernel
theorem dX8_bookAll_190 : decode cX8_bookAll 190 = .ok (.iconst 1, 1) := by decide +kernel
theorem dX8_bookAll_191 : decode cX8_bookAll 191 = .ok (.goto 4, 3) := by decide +kernel
theorem dX8_bookAll_194 : decode cX8_bookAll 194 = .ok (.iconst 0, 1) := by decide +kernel
theorem dX8_bookAll_195 : decode cX8_bookAll 195 = .ok (.invokevirtual 147, 3) := by decide +kernel
theorem dX8_bookAll_198 : decode cX8_bookAll 198 = .ok (.pop, 1) := by decide +kernel
theorem dX8_bookAll_199 : decode cX8_bookAll 199 = .ok (.iinc 2 1, 3) := by decide +kernel
theorem dX8_bookAll_202 : decode cX8_bookAll 202 = .ok (.goto (-146), 3) := by decide +kernel
theorem dX8_bookAll_205 : decode cX8_bookAll 205 = .ok (.aload_n 0, 1) := by decide +kernel
theorem dX8_bookAll_206 : decode cX8_bookAll 206 = .ok (.aload_n 0, 1) := by decide +kernel
theorem dX8_bookAll_207 : decode cX8_bookAll 207 = .ok (.getfield 16, 3) := by decide +kernel
theorem dX8_bookAll_210 : decode cX8_bookAll 210 = .ok (.invokevirtual 71, 3) := by decide +kernel
theorem dX8_bookAll_213 : decode cX8_bookAll 213 = .ok (.aload_n 0, 1) := by decide +kernel
theorem dX8_bookAll_214 : decode cX8_bookAll 214 = .ok (.getfield 197, 3) := by decide +kernel
theorem dX8_bookAll_217 : decode cX8_bookAll 217 = .ok (.ireturn, 1) := by decide +kernel
theorem dX8_owners_0 : decode cX8_owners 0 = .ok (.iconst 0, 1) := by decide +kernel
theorem dX8_owners_1 : decode cX8_owners 1 = .ok (.istore_n 1, 1) := by decide +kernel
theorem dX8_owners_2 : decode cX8_owners 2 = .ok (.iconst 0, 1) := by decide +kernel
theorem dX8_owners_3 : decode cX8_owners 3 = .ok (.istore_n 2, 1) := by decide +kernel
theorem dX8_owners_4 : decode cX8_owners 4 = .ok (.iconst 0, 1) := by decide +kernel
theorem dX8_owners_5 : decode cX8_owners 5 = .ok (.istore_n 3, 1) := by decide +kernel
theorem dX8_owners_6 : decode cX8_owners 6 = .ok (.iload_n 3, 1) := by decide +kernel
theorem dX8_owners_7 : decode cX8_owners 7 = .ok (.aload_n 0, 1) := by decide +kernel
theorem dX8_owners_8 : decode cX8_owners 8 = .ok (.getfield 7, 3) := by decide +kernel
theorem dX8_owners_11 : decode cX8_owners 11 = .ok (.iconst 2, 1) := by decide +kernel
theorem dX8_owners_12 : decode cX8_owners 12 = .ok (.iaload, 1) := by decide +kernel
theorem dX8_owners_13 : decode cX8_owners 13 = .ok (.if_icmp .ge 43, 3) := by decide +kernel
theorem dX8_owners_16 : decode cX8_owners 16 = .ok (.iload_n 2, 1) := by decide +kernel
theorem dX8_owners_17 : decode cX8_owners 17 = .ok (.iload_n 1, 1) := by decide +kernel
theorem dX8_owners_18 : decode cX8_owners 18 = .ok (.aload_n 0, 1) := by decide +kernel
theorem dX8_owners_19 : decode cX8_owners 19 = .ok (.getfield 7, 3) := by decide +kernel
theorem dX8_owners_22 : decode cX8_owners 22 = .ok (.iload_n 3, 1) := by decide +kernel
theorem dX8_owners_23 : decode cX8_owners 23 = .ok (.iconst 3, 1) := by decide +kernel
theorem dX8_owners_24 : decode cX8_owners 24 = .ok (.invokestatic 56, 3) := by decide +kernel
theorem dX8_owners_27 : decode cX8_owners 27 = .ok (.iaload, 1) := by decide +kernel
theorem dX8_owners_28 : decode cX8_owners 28 = .ok (.ishr, 1) := by decide +kernel
theorem dX8_owners_29 : decode cX8_owners 29 = .ok (.iconst 1, 1) := by decide +kernel
theorem dX8_owners_30 : decode cX8_owners 30 = .ok (.iand, 1) := by decide +kernel
theorem dX8_owners_31 : decode cX8_owners 31 = .ok (.iconst 1, 1) := by decide +kernel
theorem dX8_owners_32 : decode cX8_owners 32 = .ok (.ixor, 1) := by decide +kernel
theorem dX8_owners_33 : decode cX8_owners 33 = .ok (.iadd, 1) := by decide +kernel
theorem dX8_owners_34 : decode cX8_owners 34 = .ok (.istore_n 2, 1) := by decide +kernel
theorem dX8_owners_35 : decode cX8_owners 35 = .ok (.iload_n 1, 1) := by decide +kernel
theorem dX8_owners_36 : decode cX8_owners 36 = .ok (.iconst 1, 1) := by decide +kernel
theorem dX8_owners_37 : decode cX8_owners 37 = .ok (.aload_n 0, 1) := by decide +kernel
theorem dX8_owners_38 : decode cX8_owners 38 = .ok (.getfield 7, 3) := by decide +kernel
theorem dX8_owners_41 : decode cX8_owners 41 = .ok (.iload_n 3, 1) := by decide +kernel
theorem dX8_owners_42 : decode cX8_owners 42 = .ok (.iconst 3, 1) := by decide +kernel
theorem dX8_owners_43 : decode cX8_owners 43 = .ok (.invokestatic 56, 3) := by decide +kernel
theorem dX8_owners_46 : decode cX8_owners 46 = .ok (.iaload, 1) := by decide +kernel
theorem dX8_owners_47 : decode cX8_owners 47 = .ok (.ishl, 1) := by decide +kernel
theorem dX8_owners_48 : decode cX8_owners 48 = .ok (.ior, 1) := by decide +kernel
theorem dX8_owners_49 : decode cX8_owners 49 = .ok (.istore_n 1, 1) := by decide +kernel
theorem dX8_owners_50 : decode cX8_owners 50 = .ok (.iinc 3 1, 3) := by decide +kernel
theorem dX8_owners_53 : decode cX8_owners 53 = .ok (.goto (-47), 3) := by decide +kernel
theorem dX8_owners_56 : decode cX8_owners 56 = .ok (.iload_n 2, 1) := by decide +kernel
theorem dX8_owners_57 : decode cX8_owners 57 = .ok (.ireturn, 1) := by decide +kernel
theorem dX8_openMotions_0 : decode cX8_openMotions 0 = .ok (.iconst 0, 1) := by decide +kernel
theorem dX8_openMotions_1 : decode cX8_openMotions 1 = .ok (.istore_n 1, 1) := by decide +kernel
theorem dX8_openMotions_2 : decode cX8_openMotions 2 = .ok (.iconst 0, 1) := by decide +kernel
theorem dX8_openMotions_3 : decode cX8_openMotions 3 = .ok (.istore_n 2, 1) := by decide +kernel
theorem dX8_openMotions_4 : decode cX8_openMotions 4 = .ok (.iload_n 2, 1) := by decide +kernel
theorem dX8_openMotions_5 : decode cX8_openMotions 5 = .ok (.aload_n 0, 1) := by decide +kernel
theorem dX8_openMotions_6 : decode cX8_openMotions 6 = .ok (.getfield 7, 3) := by decide +kernel
theorem dX8_openMotions_9 : decode cX8_openMotions 9 = .ok (.sipush 466, 3) := by decide +kernel
theorem dX8_openMotions_12 : decode cX8_openMotions 12 = .ok (.iaload, 1) := by decide +kernel
theorem dX8_openMotions_13 : decode cX8_openMotions 13 = .ok (.if_icmp .ge 25, 3) := by decide +kernel
theorem dX8_openMotions_16 : decode cX8_openMotions 16 = .ok (.iload_n 1, 1) := by decide +kernel
theorem dX8_openMotions_17 : decode cX8_openMotions 17 = .ok (.aload_n 0, 1) := by decide +kernel
theorem dX8_openMotions_18 : decode cX8_openMotions 18 = .ok (.iload_n 2, 1) := by decide +kernel
theorem dX8_openMotions_19 : decode cX8_openMotions 19 = .ok (.invokevirtual 163, 3) := by decide +kernel
theorem dX8_openMotions_22 : decode cX8_openMotions 22 = .ok (.ifCond .eq 7, 3) := by decide +kernel
theorem dX8_openMotions_25 : decode cX8_openMotions 25 = .ok (.iconst 1, 1) := by decide +kernel
theorem dX8_openMotions_26 : decode cX8_openMotions 26 = .ok (.goto 4, 3) := by decide +kernel
theorem dX8_openMotions_29 : decode cX8_openMotions 29 = .ok (.iconst 0, 1) := by decide +kernel
theorem dX8_openMotions_30 : decode cX8_openMotions 30 = .ok (.iadd, 1) := by decide +kernel
theorem dX8_openMotions_31 : decode cX8_openMotions 31 = .ok (.istore_n 1, 1) := by decide +kernel
theorem dX8_openMotions_32 : decode cX8_openMotions 32 = .ok (.iinc 2 1, 3) := by decide +kernel
theorem dX8_openMotions_35 : decode cX8_openMotions 35 = .ok (.goto (-31), 3) := by decide +kernel
theorem dX8_openMotions_38 : decode cX8_openMotions 38 = .ok (.iload_n 1, 1) := by decide +kernel
theorem dX8_openMotions_39 : decode cX8_openMotions 39 = .ok (.ireturn, 1) := by decide +kernel
theorem dX8_funds_0 : decode cX8_funds 0 = .ok (.iconst 0, 1) := by decide +kernel
theorem dX8_funds_1 : decode cX8_funds 1 = .ok (.istore_n 1, 1) := by decide +kernel
theorem dX8_funds_2 : decode cX8_funds 2 = .ok (.iconst 0, 1) := by decide +kernel
theorem dX8_funds_3 : decode cX8_funds 3 = .ok (.istore_n 2, 1) := by decide +kernel
theorem dX8_funds_4 : decode cX8_funds 4 = .ok (.iload_n 2, 1) := by decide +kernel
theorem dX8_funds_5 : decode cX8_funds 5 = .ok (.iconst 5, 1) := by decide +kernel
theorem dX8_funds_6 : decode cX8_funds 6 = .ok (.if_icmp .ge 21, 3) := by decide +kernel
theorem dX8_funds_9 : decode cX8_funds 9 = .ok (.iload_n 1, 1) := by decide +kernel
theorem dX8_funds_10 : decode cX8_funds 10 = .ok (.aload_n 0, 1) := by decide +kernel
theorem dX8_funds_11 : decode cX8_funds 11 = .ok (.getfield 7, 3) := by decide +kernel
theorem dX8_funds_14 : decode cX8_funds 14 = .ok (.bipush 99, 2) := by decide +kernel
theorem dX8_funds_16 : decode cX8_funds 16 = .ok (.iload_n 2, 1) := by decide +kernel
theorem dX8_funds_17 : decode cX8_funds 17 = .ok (.iadd, 1) := by decide +kernel
theorem dX8_funds_18 : decode cX8_funds 18 = .ok (.iaload, 1) := by decide +kernel
theorem dX8_funds_19 : decode cX8_funds 19 = .ok (.iadd, 1) := by decide +kernel
theorem dX8_funds_20 : decode cX8_funds 20 = .ok (.istore_n 1, 1) := by decide +kernel
theorem dX8_funds_21 : decode cX8_funds 21 = .ok (.iinc 2 1, 3) := by decide +kernel
theorem dX8_funds_24 : decode cX8_funds 24 = .ok (.goto (-20), 3) := by decide +kernel
theorem dX8_funds_27 : decode cX8_funds 27 = .ok (.iload_n 1, 1) := by decide +kernel
theorem dX8_funds_28 : decode cX8_funds 28 = .ok (.ireturn, 1) := by decide +kernel
theorem dX8_account_0 : decode cX8_account 0 = .ok (.aload_n 0, 1) := by decide +kernel
theorem dX8_account_1 : decode cX8_account 1 = .ok (.iload_n 1, 1) := by decide +kernel
theorem dX8_account_2 : decode cX8_account 2 = .ok (.iconst 0, 1) := by decide +kernel
theorem dX8_account_3 : decode cX8_account 3 = .ok (.bipush 10, 2) := by decide +kernel
theorem dX8_account_5 : decode cX8_account 5 = .ok (.invokestatic 52, 3) := by decide +kernel
theorem dX8_account_8 : decode cX8_account 8 = .ok (.ifCond .eq 7, 3) := by decide +kernel
theorem dX8_account_11 : decode cX8_account 11 = .ok (.iconst 0, 1) := by decide +kernel
theorem dX8_account_12 : decode cX8_account 12 = .ok (.goto 4, 3) := by decide +kernel
theorem dX8_account_15 : decode cX8_account 15 = .ok (.iconst 1, 1) := by decide +kernel
theorem dX8_account_16 : decode cX8_account 16 = .ok (.putfield 42, 3) := by decide +kernel
theorem dX8_account_19 : decode cX8_account 19 = .ok (.aload_n 0, 1) := by decide +kernel
theorem dX8_account_20 : decode cX8_account 20 = .ok (.getfield 42, 3) := by decide +kernel
theorem dX8_account_23 : decode cX8_account 23 = .ok (.ifCond .le 5, 3) := by decide +kernel
theorem dX8_account_26 : decode cX8_account 26 = .ok (.iconst 0, 1) := by decide +kernel
theorem dX8_account_27 : decode cX8_account 27 = .ok (.ireturn, 1) := by decide +kernel
theorem dX8_account_28 : decode cX8_account 28 = .ok (.iload_n 1, 1) := by decide +kernel
theorem dX8_account_29 : decode cX8_account 29 = .ok (.tableswitch 122 0 9 #[55, 62, 67, 72, 80, 89, 94, 105, 110, 116], 55) := by decide +kernel
theorem dX8_account_84 : decode cX8_account 84 = .ok (.aload_n 0, 1) := by decide +kernel
theorem dX8_account_85 : decode cX8_account 85 = .ok (.getfield 7, 3) := by decide +kernel
theorem dX8_account_88 : decode cX8_account 88 = .ok (.iconst 2, 1) := by decide +kernel
theorem dX8_account_89 : decode cX8_account 89 = .ok (.iaload, 1) := by decide +kernel
theorem dX8_account_90 : decode cX8_account 90 = .ok (.ireturn, 1) := by decide +kernel
theorem dX8_account_91 : decode cX8_account 91 = .ok (.aload_n 0, 1) := by decide +kernel
theorem dX8_account_92 : decode cX8_account 92 = .ok (.invokevirtual 175, 3) := by decide +kernel
theorem dX8_account_95 : decode cX8_account 95 = .ok (.ireturn, 1) := by decide +kernel
theorem dX8_account_96 : decode cX8_account 96 = .ok (.aload_n 0, 1) := by decide +kernel
theorem dX8_account_97 : decode cX8_account 97 = .ok (.invokevirtual 212, 3) := by decide +kernel
theorem dX8_account_100 : decode cX8_account 100 = .ok (.ireturn, 1) := by decide +kernel
theorem dX8_account_101 : decode cX8_account 101 = .ok (.aload_n 0, 1) := by decide +kernel
theorem dX8_account_102 : decode cX8_account 102 = .ok (.getfield 7, 3) := by decide +kernel
theorem dX8_account_105 : decode cX8_account 105 = .ok (.bipush 105, 2) := by decide +kernel
theorem dX8_account_107 : decode cX8_account 107 = .ok (.iaload, 1) := by decide +kernel
theorem dX8_account_108 : decode cX8_account 108 = .ok (.ireturn, 1) := by decide +kernel
theorem dX8_account_109 : decode cX8_account 109 = .ok (.aload_n 0, 1) := by decide +kernel
theorem dX8_account_110 : decode cX8_account 110 = .ok (.getfield 7, 3) := by decide +kernel
theorem dX8_account_113 : decode cX8_account 113 = .ok (.sipush 466, 3) := by decide +kernel
theorem dX8_account_116 : decode cX8_account 116 = .ok (.iaload, 1) := by decide +kernel
theorem dX8_account_117 : decode cX8_account 117 = .ok (.ireturn, 1) := by decide +kernel
theorem dX8_account_118 : decode cX8_account 118 = .ok (.aload_n 0, 1) := by decide +kernel
theorem dX8_account_119 : decode cX8_account 119 = .ok (.invokevirtual 215, 3) := by decide +kernel
theorem dX8_account_122 : decode cX8_account 122 = .ok (.ireturn, 1) := by decide +kernel
theorem dX8_account_123 : decode cX8_account 123 = .ok (.aload_n 0, 1) := by decide +kernel
theorem dX8_account_124 : decode cX8_account 124 = .ok (.invokevirtual 114, 3) := by decide +kernel
theorem dX8_account_127 : decode cX8_account 127 = .ok (.aload_n 0, 1) := by decide +kernel
theorem dX8_account_128 : decode cX8_account 128 = .ok (.invokevirtual 105, 3) := by decide +kernel
theorem dX8_account_131 : decode cX8_account 131 = .ok (.lsub, 1) := by decide +kernel
theorem dX8_account_132 : decode cX8_account 132 = .ok (.l2i, 1) := by decide +kernel
theorem dX8_account_133 : decode cX8_account 133 = .ok (.ireturn, 1) := by decide +kernel
theorem dX8_account_134 : decode cX8_account 134 = .ok (.aload_n 0, 1) := by decide +kernel
theorem dX8_account_135 : decode cX8_account 135 = .ok (.invokevirtual 218, 3) := by decide +kernel
theorem dX8_account_138 : decode cX8_account 138 = .ok (.ireturn, 1) := by decide +kernel
theorem dX8_account_139 : decode cX8_account 139 = .ok (.aload_n 0, 1) := by decide +kernel
theorem dX8_account_140 : decode cX8_account 140 = .ok (.invokevirtual 114, 3) := by decide +kernel
theorem dX8_account_143 : decode cX8_account 143 = .ok (.l2i, 1) := by decide +kernel
theorem dX8_account_144 : decode cX8_account 144 = .ok (.ireturn, 1) := by decide +kernel
theorem dX8_account_145 : decode cX8_account 145 = .ok (.aload_n 0, 1) := by decide +kernel
theorem dX8_account_146 : decode cX8_account 146 = .ok (.invokevirtual 105, 3) := by decide +kernel
theorem dX8_account_149 : decode cX8_account 149 = .ok (.l2i, 1) := by decide +kernel
theorem dX8_account_150 : decode cX8_account 150 = .ok (.ireturn, 1) := by decide +kernel
theorem dX8_account_151 : decode cX8_account 151 = .ok (.aload_n 0, 1) := by decide +kernel
theorem dX8_account_152 : decode cX8_account 152 = .ok (.getfield 7, 3) := by decide +kernel
theorem dX8_account_155 : decode cX8_account 155 = .ok (.bipush 104, 2) := by decide +kernel
theorem dX8_account_157 : decode cX8_account 157 = .ok (.iaload, 1) := by decide +kernel
theorem dX8_account_158 : decode cX8_account 158 = .ok (.ireturn, 1) := by decide +kernel
theorem dX8_share_0 : decode cX8_share 0 = .ok (.aload_n 0, 1) := by decide +kernel
theorem dX8_share_1 : decode cX8_share 1 = .ok (.aload_n 0, 1) := by decide +kernel
theorem dX8_share_2 : decode cX8_share 2 = .ok (.iload_n 1, 1) := by decide +kernel
theorem dX8_share_3 : decode cX8_share 3 = .ok (.invokevirtual 75, 3) := by decide +kernel
theorem dX8_share_6 : decode cX8_share 6 = .ok (.ifCond .eq 7, 3) := by decide +kernel
theorem dX8_share_9 : decode cX8_share 9 = .ok (.iconst 0, 1) := by decide +kernel
theorem dX8_share_10 : decode cX8_share 10 = .ok (.goto 4, 3) := by decide +kernel
theorem dX8_share_13 : decode cX8_share 13 = .ok (.iconst 1, 1) := by decide +kernel
theorem dX8_share_14 : decode cX8_share 14 = .ok (.putfield 42, 3) := by decide +kernel
theorem dX8_share_17 : decode cX8_share 17 = .ok (.aload_n 0, 1) := by decide +kernel
theorem dX8_share_18 : decode cX8_share 18 = .ok (.getfield 42, 3) := by decide +kernel
theorem dX8_share_21 : decode cX8_share 21 = .ok (.ifCond .le 7, 3) := by decide +kernel
theorem dX8_share_24 : decode cX8_share 24 = .ok (.dconst 0, 1) := by decide +kernel
theorem dX8_share_25 : decode cX8_share 25 = .ok (.goto 20, 3) := by decide +kernel
theorem dX8_share_28 : decode cX8_share 28 = .ok (.aload_n 0, 1) := by decide +kernel
theorem dX8_share_29 : decode cX8_share 29 = .ok (.getfield 7, 3) := by decide +kernel
theorem dX8_share_32 : decode cX8_share 32 = .ok (.iload_n 1, 1) := by decide +kernel
theorem dX8_share_33 : decode cX8_share 33 = .ok (.iconst 2, 1) := by decide +kernel
theorem dX8_share_34 : decode cX8_share 34 = .ok (.invokestatic 56, 3) := by decide +kernel
theorem dX8_share_37 : decode cX8_share 37 = .ok (.iaload, 1) := by decide +kernel
theorem dX8_share_38 : decode cX8_share 38 = .ok (.i2d, 1) := by decide +kernel
theorem dX8_share_39 : decode cX8_share 39 = .ok (.aload_n 0, 1) := by decide +kernel
theorem dX8_share_40 : decode cX8_share 40 = .ok (.invokevirtual 175, 3) := by decide +kernel
theorem dX8_share_43 : decode cX8_share 43 = .ok (.i2d, 1) := by decide +kernel
theorem dX8_share_44 : decode cX8_share 44 = .ok (.ddiv, 1) := by decide +kernel
theorem dX8_share_45 : decode cX8_share 45 = .ok (.dreturn, 1) := by decide +kernel
theorem dL_addUnit_0 : decode cL_addUnit 0 = .ok (.aload 5, 2) := by decide +kernel
theorem dL_addUnit_2 : decode cL_addUnit 2 = .ok (.iconst 0, 1) := by decide +kernel
theorem dL_addUnit_3 : decode cL_addUnit 3 = .ok (.aload_n 0, 1) := by decide +kernel
theorem dL_addUnit_4 : decode cL_addUnit 4 = .ok (.iload_n 1, 1) := by decide +kernel
theorem dL_addUnit_5 : decode cL_addUnit 5 = .ok (.iload_n 2, 1) := by decide +kernel
theorem dL_addUnit_6 : decode cL_addUnit 6 = .ok (.iload_n 3, 1) := by decide +kernel
theorem dL_addUnit_7 : decode cL_addUnit 7 = .ok (.iload 4, 2) := by decide +kernel
theorem dL_addUnit_9 : decode cL_addUnit 9 = .ok (.invokevirtual 7, 3) := by decide +kernel
theorem dL_addUnit_12 : decode cL_addUnit 12 = .ok (.i2l, 1) := by decide +kernel
theorem dL_addUnit_13 : decode cL_addUnit 13 = .ok (.lastore, 1) := by decide +kernel
theorem dL_addUnit_14 : decode cL_addUnit 14 = .ok (.goto 11, 3) := by decide +kernel
theorem dL_addUnit_17 : decode cL_addUnit 17 = .ok (.astore 6, 2) := by decide +kernel
theorem dL_addUnit_19 : decode cL_addUnit 19 = .ok (.iconst 1, 1) := by decide +kernel
theorem dL_addUnit_20 : decode cL_addUnit 20 = .ok (.ireturn, 1) := by decide +kernel
theorem dL_addUnit_21 : decode cL_addUnit 21 = .ok (.astore 6, 2) := by decide +kernel
theorem dL_addUnit_23 : decode cL_addUnit 23 = .ok (.iconst 2, 1) := by decide +kernel
theorem dL_addUnit_24 : decode cL_addUnit 24 = .ok (.ireturn, 1) := by decide +kernel
theorem dL_addUnit_25 : decode cL_addUnit 25 = .ok (.iconst 0, 1) := by decide +kernel
theorem dL_addUnit_26 : decode cL_addUnit 26 = .ok (.ireturn, 1) := by decide +kernel
theorem dL_setOwner_0 : decode cL_setOwner 0 = .ok (.aload_n 3, 1) := by decide +kernel
theorem dL_setOwner_1 : decode cL_setOwner 1 = .ok (.iconst 0, 1) := by decide +kernel
theorem dL_setOwner_2 : decode cL_setOwner 2 = .ok (.aload_n 0, 1) := by decide +kernel
theorem dL_setOwner_3 : decode cL_setOwner 3 = .ok (.iload_n 1, 1) := by decide +kernel
theorem dL_setOwner_4 : decode cL_setOwner 4 = .ok (.iload_n 2, 1) := by decide +kernel
theorem dL_setOwner_5 : decode cL_setOwner 5 = .ok (.invokevirtual 17, 3) := by decide +kernel
theorem dL_setOwner_8 : decode cL_setOwner 8 = .ok (.i2l, 1) := by decide +kernel
theorem dL_setOwner_9 : decode cL_setOwner 9 = .ok (.lastore, 1) := by decide +kernel
theorem dL_setOwner_10 : decode cL_setOwner 10 = .ok (.goto 11, 3) := by decide +kernel
theorem dL_setOwner_13 : decode cL_setOwner 13 = .ok (.astore 4, 2) := by decide +kernel
theorem dL_setOwner_15 : decode cL_setOwner 15 = .ok (.iconst 1, 1) := by decide +kernel
theorem dL_setOwner_16 : decode cL_setOwner 16 = .ok (.ireturn, 1) := by decide +kernel
theorem dL_setOwner_17 : decode cL_setOwner 17 = .ok (.astore 4, 2) := by decide +kernel
theorem dL_setOwner_19 : decode cL_setOwner 19 = .ok (.iconst 2, 1) := by decide +kernel
theorem dL_setOwner_20 : decode cL_setOwner 20 = .ok (.ireturn, 1) := by decide +kernel
theorem dL_setOwner_21 : decode cL_setOwner 21 = .ok (.iconst 0, 1) := by decide +kernel
theorem dL_setOwner_22 : decode cL_setOwner 22 = .ok (.ireturn, 1) := by decide +kernel
theorem dL_set_0 : decode cL_set 0 = .ok (.aload_n 3, 1) := by decide +kernel
theorem dL_set_1 : decode cL_set 1 = .ok (.iconst 0, 1) := by decide +kernel
theorem dL_set_2 : decode cL_set 2 = .ok (.aload_n 0, 1) := by decide +kernel
theorem dL_set_3 : decode cL_set 3 = .ok (.iload_n 1, 1) := by decide +kernel
theorem dL_set_4 : decode cL_set 4 = .ok (.iload_n 2, 1) := by decide +kernel
theorem dL_set_5 : decode cL_set 5 = .ok (.invokevirtual 23, 3) := by decide +kernel
theorem dL_set_8 : decode cL_set 8 = .ok (.i2l, 1) := by decide +kernel
theorem dL_set_9 : decode cL_set 9 = .ok (.lastore, 1) := by decide +kernel
theorem dL_set_10 : decode cL_set 10 = .ok (.goto 11, 3) := by decide +kernel
theorem dL_set_13 : decode cL_set 13 = .ok (.astore 4, 2) := by decide +kernel
theorem dL_set_15 : decode cL_set 15 = .ok (.iconst 1, 1) := by decide +kernel
theorem dL_set_16 : decode cL_set 16 = .ok (.ireturn, 1) := by decide +kernel
theorem dL_set_17 : decode cL_set 17 = .ok (.astore 4, 2) := by decide +kernel
theorem dL_set_19 : decode cL_set 19 = .ok (.iconst 2, 1) := by decide +kernel
theorem dL_set_20 : decode cL_set 20 = .ok (.ireturn, 1) := by decide +kernel
theorem dL_set_21 : decode cL_set 21 = .ok (.iconst 0, 1) := by decide +kernel
theorem dL_set_22 : decode cL_set 22 = .ok (.ireturn, 1) := by decide +kernel
theorem dL_read_0 : decode cL_read 0 = .ok (.aload_n 3, 1) := by decide +kernel
theorem dL_read_1 : decode cL_read 1 = .ok (.iconst 0, 1) := by decide +kernel
theorem dL_read_2 : decode cL_read 2 = .ok (.aload_n 0, 1) := by decide +kernel
theorem dL_read_3 : decode cL_read 3 = .ok (.iload_n 1, 1) := by decide +kernel
theorem dL_read_4 : decode cL_read 4 = .ok (.iload_n 2, 1) := by decide +kernel
theorem dL_read_5 : decode cL_read 5 = .ok (.invokevirtual 26, 3) := by decide +kernel
theorem dL_read_8 : decode cL_read 8 = .ok (.i2l, 1) := by decide +kernel
theorem dL_read_9 : decode cL_read 9 = .ok (.lastore, 1) := by decide +kernel
theorem dL_read_10 : decode cL_read 10 = .ok (.goto 11, 3) := by decide +kernel
theorem dL_read_13 : decode cL_read 13 = .ok (.astore 4, 2) := by decide +kernel
theorem dL_read_15 : decode cL_read 15 = .ok (.iconst 1, 1) := by decide +kernel
theorem dL_read_16 : decode cL_read 16 = .ok (.ireturn, 1) := by decide +kernel
theorem dL_read_17 : decode cL_read 17 = .ok (.astore 4, 2) := by decide +kernel
theorem dL_read_19 : decode cL_read 19 = .ok (.iconst 2, 1) := by decide +kernel
theorem dL_read_20 : decode cL_read 20 = .ok (.ireturn, 1) := by decide +kernel
theorem dL_read_21 : decode cL_read 21 = .ok (.iconst 0, 1) := by decide +kernel
theorem dL_read_22 : decode cL_read 22 = .ok (.ireturn, 1) := by decide +kernel
theorem dL_unit_0 : decode cL_unit 0 = .ok (.aload_n 3, 1) := by decide +kernel
theorem dL_unit_1 : decode cL_unit 1 = .ok (.iconst 0, 1) := by decide +kernel
theorem dL_unit_2 : decode cL_unit 2 = .ok (.aload_n 0, 1) := by decide +kernel
theorem dL_unit_3 : decode cL_unit 3 = .ok (.iload_n 1, 1) := by decide +kernel
theorem dL_unit_4 : decode cL_unit 4 = .ok (.iload_n 2, 1) := by decide +kernel
theorem dL_unit_5 : decode cL_unit 5 = .ok (.invokevirtual 29, 3) := by decide +kernel
theorem dL_unit_8 : decode cL_unit 8 = .ok (.i2l, 1) := by decide +kernel
theorem dL_unit_9 : decode cL_unit 9 = .ok (.lastore, 1) := by decide +kernel
theorem dL_unit_10 : decode cL_unit 10 = .ok (.goto 11, 3) := by decide +kernel
theorem dL_unit_13 : decode cL_unit 13 = .ok (.astore 4, 2) := by decide +kernel
theorem dL_unit_15 : decode cL_unit 15 = .ok (.iconst 1, 1) := by decide +kernel
theorem dL_unit_16 : decode cL_unit 16 = .ok (.ireturn, 1) := by decide +kernel
theorem dL_unit_17 : decode cL_unit 17 = .ok (.astore 4, 2) := by decide +kernel
theorem dL_unit_19 : decode cL_unit 19 = .ok (.iconst 2, 1) := by decide +kernel
theorem dL_unit_20 : decode cL_unit 20 = .ok (.ireturn, 1) := by decide +kernel
theorem dL_unit_21 : decode cL_unit 21 = .ok (.iconst 0, 1) := by decide +kernel
theorem dL_unit_22 : decode cL_unit 22 = .ok (.ireturn, 1) := by decide +kernel
theorem dL_owned_0 : decode cL_owned 0 = .ok (.aload_n 2, 1) := by decide +kernel
theorem dL_owned_1 : decode cL_owned 1 = .ok (.iconst 0, 1) := by decide +kernel
theorem dL_owned_2 : decode cL_owned 2 = .ok (.aload_n 0, 1) := by decide +kernel
theorem dL_owned_3 : decode cL_owned 3 = .ok (.iload_n 1, 1) := by decide +kernel
theorem dL_owned_4 : decode cL_owned 4 = .ok (.invokevirtual 32, 3) := by decide +kernel
theorem dL_owned_7 : decode cL_owned 7 = .ok (.i2l, 1) := by decide +kernel
theorem dL_owned_8 : decode cL_owned 8 = .ok (.lastore, 1) := by decide +kernel
theorem dL_owned_9 : decode cL_owned 9 = .ok (.goto 6, 3) := by decide +kernel
theorem dL_owned_12 : decode cL_owned 12 = .ok (.astore_n 3, 1) := by decide +kernel
theorem dL_owned_13 : decode cL_owned 13 = .ok (.iconst 1, 1) := by decide +kernel
theorem dL_owned_14 : decode cL_owned 14 = .ok (.ireturn, 1) := by decide +kernel
theorem dL_owned_15 : decode cL_owned 15 = .ok (.iconst 0, 1) := by decide +kernel
theorem dL_owned_16 : decode cL_owned 16 = .ok (.ireturn, 1) := by decide +kernel
theorem dL_debtor_0 : decode cL_debtor 0 = .ok (.aload_n 1, 1) := by decide +kernel
theorem dL_debtor_1 : decode cL_debtor 1 = .ok (.iconst 0, 1) := by decide +kernel
theorem dL_debtor_2 : decode cL_debtor 2 = .ok (.aload_n 0, 1) := by decide +kernel
theorem dL_debtor_3 : decode cL_debtor 3 = .ok (.invokevirtual 36, 3) := by decide +kernel
theorem dL_debtor_6 : decode cL_debtor 6 = .ok (.i2l, 1) := by decide +kernel
theorem dL_debtor_7 : decode cL_debtor 7 = .ok (.lastore, 1) := by decide +kernel
theorem dL_debtor_8 : decode cL_debtor 8 = .ok (.goto 6, 3) := by decide +kernel
theorem dL_debtor_11 : decode cL_debtor 11 = .ok (.astore_n 2, 1) := by decide +kernel
theorem dL_debtor_12 : decode cL_debtor 12 = .ok (.iconst 1, 1) := by decide +kernel
theorem dL_debtor_13 : decode cL_debtor 13 = .ok (.ireturn, 1) := by decide +kernel
theorem dL_debtor_14 : decode cL_debtor 14 = .ok (.iconst 0, 1) := by decide +kernel
theorem dL_debtor_15 : decode cL_debtor 15 = .ok (.ireturn, 1) := by decide +kernel
theorem dL_shares_0 : decode cL_shares 0 = .ok (.aload_n 3, 1) := by decide +kernel
theorem dL_shares_1 : decode cL_shares 1 = .ok (.iconst 0, 1) := by decide +kernel
theorem dL_shares_2 : decode cL_shares 2 = .ok (.aload_n 0, 1) := by decide +kernel
theorem dL_shares_3 : decode cL_shares 3 = .ok (.iload_n 1, 1) := by decide +kernel
theorem dL_shares_4 : decode cL_shares 4 = .ok (.iload_n 2, 1) := by decide +kernel
theorem dL_shares_5 : decode cL_shares 5 = .ok (.invokevirtual 42, 3) := by decide +kernel
theorem dL_shares_8 : decode cL_shares 8 = .ok (.i2l, 1) := by decide +kernel
theorem dL_shares_9 : decode cL_shares 9 = .ok (.lastore, 1) := by decide +kernel
theorem dL_shares_10 : decode cL_shares 10 = .ok (.goto 7, 3) := by decide +kernel
theorem dL_shares_13 : decode cL_shares 13 = .ok (.astore 4, 2) := by decide +kernel
theorem dL_shares_15 : decode cL_shares 15 = .ok (.iconst 1, 1) := by decide +kernel
theorem dL_shares_16 : decode cL_shares 16 = .ok (.ireturn, 1) := by decide +kernel
theorem dL_shares_17 : decode cL_shares 17 = .ok (.iconst 0, 1) := by decide +kernel
theorem dL_shares_18 : decode cL_shares 18 = .ok (.ireturn, 1) := by decide +kernel
theorem dL_pay_0 : decode cL_pay 0 = .ok (.aload_n 3, 1) := by decide +kernel
theorem dL_pay_1 : decode cL_pay 1 = .ok (.iconst 0, 1) := by decide +kernel
theorem dL_pay_2 : decode cL_pay 2 = .ok (.aload_n 0, 1) := by decide +kernel
theorem dL_pay_3 : decode cL_pay 3 = .ok (.iload_n 1, 1) := by decide +kernel
theorem dL_pay_4 : decode cL_pay 4 = .ok (.iload_n 2, 1) := by decide +kernel
theorem dL_pay_5 : decode cL_pay 5 = .ok (.invokevirtual 45, 3) := by decide +kernel
theorem dL_pay_8 : decode cL_pay 8 = .ok (.i2l, 1) := by decide +kernel
theorem dL_pay_9 : decode cL_pay 9 = .ok (.lastore, 1) := by decide +kernel
theorem dL_pay_10 : decode cL_pay 10 = .ok (.goto 11, 3) := by decide +kernel
theorem dL_pay_13 : decode cL_pay 13 = .ok (.astore 4, 2) := by decide +kernel
theorem dL_pay_15 : decode cL_pay 15 = .ok (.iconst 1, 1) := by decide +kernel
theorem dL_pay_16 : decode cL_pay 16 = .ok (.ireturn, 1) := by decide +kernel
theorem dL_pay_17 : decode cL_pay 17 = .ok (.astore 4, 2) := by decide +kernel
theorem dL_pay_19 : decode cL_pay 19 = .ok (.iconst 2, 1) := by decide +kernel
theorem dL_pay_20 : decode cL_pay 20 = .ok (.ireturn, 1) := by decide +kernel
theorem dL_pay_21 : decode cL_pay 21 = .ok (.iconst 0, 1) := by decide +kernel
theorem dL_pay_22 : decode cL_pay 22 = .ok (.ireturn, 1) := by decide +kernel
theorem dL_book_0 : decode cL_book 0 = .ok (.aload 6, 2) := by decide +kernel
theorem dL_book_2 : decode cL_book 2 = .ok (.iconst 0, 1) := by decide +kernel
theorem dL_book_3 : decode cL_book 3 = .ok (.aload_n 0, 1) := by decide +kernel
theorem dL_book_4 : decode cL_book 4 = .ok (.iload_n 1, 1) := by decide +kernel
theorem dL_book_5 : decode cL_book 5 = .ok (.iload_n 2, 1) := by decide +kernel
theorem dL_book_6 : decode cL_book 6 = .ok (.iload_n 3, 1) := by decide +kernel
theorem dL_book_7 : decode cL_book 7 = .ok (.iload 4, 2) := by decide +kernel
theorem dL_book_9 : decode cL_book 9 = .ok (.iload 5, 2) := by decide +kernel
theorem dL_book_11 : decode cL_book 11 = .ok (.invokevirtual 50, 3) := by decide +kernel
theorem dL_book_14 : decode cL_book 14 = .ok (.i2l, 1) := by decide +kernel
theorem dL_book_15 : decode cL_book 15 = .ok (.lastore, 1) := by decide +kernel
theorem dL_book_16 : decode cL_book 16 = .ok (.goto 11, 3) := by decide +kernel
theorem dL_book_19 : decode cL_book 19 = .ok (.astore 7, 2) := by decide +kernel
theorem dL_book_21 : decode cL_book 21 = .ok (.iconst 1, 1) := by decide +kernel
theorem dL_book_22 : decode cL_book 22 = .ok (.ireturn, 1) := by decide +kernel
theorem dL_book_23 : decode cL_book 23 = .ok (.astore 7, 2) := by decide +kernel
theorem dL_book_25 : decode cL_book 25 = .ok (.iconst 2, 1) := by decide +kernel
theorem dL_book_26 : decode cL_book 26 = .ok (.ireturn, 1) := by decide +kernel
theorem dL_book_27 : decode cL_book 27 = .ok (.iconst 0, 1) := by decide +kernel
theorem dL_book_28 : decode cL_book 28 = .ok (.ireturn, 1) := by decide +kernel
theorem dL_cost_0 : decode cL_cost 0 = .ok (.aload_n 3, 1) := by decide +kernel
theorem dL_cost_1 : decode cL_cost 1 = .ok (.iconst 0, 1) := by decide +kernel
theorem dL_cost_2 : decode cL_cost 2 = .ok (.aload_n 0, 1) := by decide +kernel
theorem dL_cost_3 : decode cL_cost 3 = .ok (.iload_n 1, 1) := by decide +kernel
theorem dL_cost_4 : decode cL_cost 4 = .ok (.iload_n 2, 1) := by decide +kernel
theorem dL_cost_5 : decode cL_cost 5 = .ok (.invokevirtual 54, 3) := by decide +kernel
theorem dL_cost_8 : decode cL_cost 8 = .ok (.i2l, 1) := by decide +kernel
theorem dL_cost_9 : decode cL_cost 9 = .ok (.lastore, 1) := by decide +kernel
theorem dL_cost_10 : decode cL_cost 10 = .ok (.goto 11, 3) := by decide +kernel
theorem dL_cost_13 : decode cL_cost 13 = .ok (.astore 4, 2) := by decide +kernel
theorem dL_cost_15 : decode cL_cost 15 = .ok (.iconst 1, 1) := by decide +kernel
theorem dL_cost_16 : decode cL_cost 16 = .ok (.ireturn, 1) := by decide +kernel
theorem dL_cost_17 : decode cL_cost 17 = .ok (.astore 4, 2) := by decide +kernel
theorem dL_cost_19 : decode cL_cost 19 = .ok (.iconst 2, 1) := by decide +kernel
theorem dL_cost_20 : decode cL_cost 20 = .ok (.ireturn, 1) := by decide +kernel
theorem dL_cost_21 : decode cL_cost 21 = .ok (.iconst 0, 1) := by decide +kernel
theorem dL_cost_22 : decode cL_cost 22 = .ok (.ireturn, 1) := by decide +kernel
theorem dL_part_0 : decode cL_part 0 = .ok (.aload_n 3, 1) := by decide +kernel
theorem dL_part_1 : decode cL_part 1 = .ok (.iconst 0, 1) := by decide +kernel
theorem dL_part_2 : decode cL_part 2 = .ok (.aload_n 0, 1) := by decide +kernel
theorem dL_part_3 : decode cL_part 3 = .ok (.iload_n 1, 1) := by decide +kernel
theorem dL_part_4 : decode cL_part 4 = .ok (.iload_n 2, 1) := by decide +kernel
theorem dL_part_5 : decode cL_part 5 = .ok (.invokevirtual 57, 3) := by decide +kernel
theorem dL_part_8 : decode cL_part 8 = .ok (.i2l, 1) := by decide +kernel
theorem dL_part_9 : decode cL_part 9 = .ok (.lastore, 1) := by decide +kernel
theorem dL_part_10 : decode cL_part 10 = .ok (.goto 7, 3) := by decide +kernel
theorem dL_part_13 : decode cL_part 13 = .ok (.astore 4, 2) := by decide +kernel
theorem dL_part_15 : decode cL_part 15 = .ok (.iconst 1, 1) := by decide +kernel
theorem dL_part_16 : decode cL_part 16 = .ok (.ireturn, 1) := by decide +kernel
theorem dL_part_17 : decode cL_part 17 = .ok (.iconst 0, 1) := by decide +kernel
theorem dL_part_18 : decode cL_part 18 = .ok (.ireturn, 1) := by decide +kernel
theorem dL_wouldPay_0 : decode cL_wouldPay 0 = .ok (.aload 5, 2) := by decide +kernel
theorem dL_wouldPay_2 : decode cL_wouldPay 2 = .ok (.iconst 0, 1) := by decide +kernel
theorem dL_wouldPay_3 : decode cL_wouldPay 3 = .ok (.aload_n 0, 1) := by decide +kernel
theorem dL_wouldPay_4 : decode cL_wouldPay 4 = .ok (.iload_n 1, 1) := by decide +kernel
theorem dL_wouldPay_5 : decode cL_wouldPay 5 = .ok (.iload_n 2, 1) := by decide +kernel
theorem dL_wouldPay_6 : decode cL_wouldPay 6 = .ok (.iload_n 3, 1) := by decide +kernel
theorem dL_wouldPay_7 : decode cL_wouldPay 7 = .ok (.iload 4, 2) := by decide +kernel
theorem dL_wouldPay_9 : decode cL_wouldPay 9 = .ok (.invokevirtual 60, 3) := by decide +kernel
theorem dL_wouldPay_12 : decode cL_wouldPay 12 = .ok (.i2l, 1) := by decide +kernel
theorem dL_wouldPay_13 : decode cL_wouldPay 13 = .ok (.lastore, 1) := by decide +kernel
theorem dL_wouldPay_14 : decode cL_wouldPay 14 = .ok (.goto 15, 3) := by decide +kernel
theorem dL_wouldPay_17 : decode cL_wouldPay 17 = .ok (.astore 6, 2) := by decide +kernel
theorem dL_wouldPay_19 : decode cL_wouldPay 19 = .ok (.iconst 1, 1) := by decide +kernel
theorem dL_wouldPay_20 : decode cL_wouldPay 20 = .ok (.ireturn, 1) := by decide +kernel
theorem dL_wouldPay_21 : decode cL_wouldPay 21 = .ok (.astore 6, 2) := by decide +kernel
theorem dL_wouldPay_23 : decode cL_wouldPay 23 = .ok (.iconst 2, 1) := by decide +kernel
theorem dL_wouldPay_24 : decode cL_wouldPay 24 = .ok (.ireturn, 1) := by decide +kernel
theorem dL_wouldPay_25 : decode cL_wouldPay 25 = .ok (.astore 6, 2) := by decide +kernel
theorem dL_wouldPay_27 : decode cL_wouldPay 27 = .ok (.iconst 3, 1) := by decide +kernel
theorem dL_wouldPay_28 : decode cL_wouldPay 28 = .ok (.ireturn, 1) := by decide +kernel
theorem dL_wouldPay_29 : decode cL_wouldPay 29 = .ok (.iconst 0, 1) := by decide +kernel
theorem dL_wouldPay_30 : decode cL_wouldPay 30 = .ok (.ireturn, 1) := by decide +kernel
theorem dL_fund_0 : decode cL_fund 0 = .ok (.aload_n 3, 1) := by decide +kernel
theorem dL_fund_1 : decode cL_fund 1 = .ok (.iconst 0, 1) := by decide +kernel
theorem dL_fund_2 : decode cL_fund 2 = .ok (.aload_n 0, 1) := by decide +kernel
theorem dL_fund_3 : decode cL_fund 3 = .ok (.iload_n 1, 1) := by decide +kernel
theorem dL_fund_4 : decode cL_fund 4 = .ok (.iload_n 2, 1) := by decide +kernel
theorem dL_fund_5 : decode cL_fund 5 = .ok (.invokevirtual 63, 3) := by decide +kernel
theorem dL_fund_8 : decode cL_fund 8 = .ok (.i2l, 1) := by decide +kernel
theorem dL_fund_9 : decode cL_fund 9 = .ok (.lastore, 1) := by decide +kernel
theorem dL_fund_10 : decode cL_fund 10 = .ok (.goto 11, 3) := by decide +kernel
theorem dL_fund_13 : decode cL_fund 13 = .ok (.astore 4, 2) := by decide +kernel
theorem dL_fund_15 : decode cL_fund 15 = .ok (.iconst 1, 1) := by decide +kernel
theorem dL_fund_16 : decode cL_fund 16 = .ok (.ireturn, 1) := by decide +kernel
theorem dL_fund_17 : decode cL_fund 17 = .ok (.astore 4, 2) := by decide +kernel
theorem dL_fund_19 : decode cL_fund 19 = .ok (.iconst 2, 1) := by decide +kernel
theorem dL_fund_20 : decode cL_fund 20 = .ok (.ireturn, 1) := by decide +kernel
theorem dL_fund_21 : decode cL_fund 21 = .ok (.iconst 0, 1) := by decide +kernel
theorem dL_fund_22 : decode cL_fund 22 = .ok (.ireturn, 1) := by decide +kernel
theorem dL_balance_0 : decode cL_balance 0 = .ok (.aload_n 2, 1) := by decide +kernel
theorem dL_balance_1 : decode cL_balance 1 = .ok (.iconst 0, 1) := by decide +kernel
theorem dL_balance_2 : decode cL_balance 2 = .ok (.aload_n 0, 1) := by decide +kernel
theorem dL_balance_3 : decode cL_balance 3 = .ok (.iload_n 1, 1) := by decide +kernel
theorem dL_balance_4 : decode cL_balance 4 = .ok (.invokevirtual 66, 3) := by decide +kernel
theorem dL_balance_7 : decode cL_balance 7 = .ok (.i2l, 1) := by decide +kernel
theorem dL_balance_8 : decode cL_balance 8 = .ok (.lastore, 1) := by decide +kernel
theorem dL_balance_9 : decode cL_balance 9 = .ok (.goto 6, 3) := by decide +kernel
theorem dL_balance_12 : decode cL_balance 12 = .ok (.astore_n 3, 1) := by decide +kernel
theorem dL_balance_13 : decode cL_balance 13 = .ok (.iconst 1, 1) := by decide +kernel
theorem dL_balance_14 : decode cL_balance 14 = .ok (.ireturn, 1) := by decide +kernel
theorem dL_balance_15 : decode cL_balance 15 = .ok (.iconst 0, 1) := by decide +kernel
theorem dL_balance_16 : decode cL_balance 16 = .ok (.ireturn, 1) := by decide +kernel
theorem dL_refusal_0 : decode cL_refusal 0 = .ok (.aload_n 1, 1) := by decide +kernel
theorem dL_refusal_1 : decode cL_refusal 1 = .ok (.iconst 0, 1) := by decide +kernel
theorem dL_refusal_2 : decode cL_refusal 2 = .ok (.aload_n 0, 1) := by decide +kernel
theorem dL_refusal_3 : decode cL_refusal 3 = .ok (.invokevirtual 69, 3) := by decide +kernel
theorem dL_refusal_6 : decode cL_refusal 6 = .ok (.i2l, 1) := by decide +kernel
theorem dL_refusal_7 : decode cL_refusal 7 = .ok (.lastore, 1) := by decide +kernel
theorem dL_refusal_8 : decode cL_refusal 8 = .ok (.goto 6, 3) := by decide +kernel
theorem dL_refusal_11 : decode cL_refusal 11 = .ok (.astore_n 2, 1) := by decide +kernel
theorem dL_refusal_12 : decode cL_refusal 12 = .ok (.iconst 1, 1) := by decide +kernel
theorem dL_refusal_13 : decode cL_refusal 13 = .ok (.ireturn, 1) := by decide +kernel
theorem dL_refusal_14 : decode cL_refusal 14 = .ok (.iconst 0, 1) := by decide +kernel
theorem dL_refusal_15 : decode cL_refusal 15 = .ok (.ireturn, 1) := by decide +kernel
theorem dL_move_0 : decode cL_move 0 = .ok (.aload 5, 2) := by decide +kernel
theorem dL_move_2 : decode cL_move 2 = .ok (.iconst 0, 1) := by decide +kernel
theorem dL_move_3 : decode cL_move 3 = .ok (.aload_n 0, 1) := by decide +kernel
theorem dL_move_4 : decode cL_move 4 = .ok (.iload_n 1, 1) := by decide +kernel
theorem dL_move_5 : decode cL_move 5 = .ok (.iload_n 2, 1) := by decide +kernel
theorem dL_move_6 : decode cL_move 6 = .ok (.iload_n 3, 1) := by decide +kernel
theorem dL_move_7 : decode cL_move 7 = .ok (.iload 4, 2) := by decide +kernel
theorem dL_move_9 : decode cL_move 9 = .ok (.invokevirtual 72, 3) := by decide +kernel
theorem dL_move_12 : decode cL_move 12 = .ok (.i2l, 1) := by decide +kernel
theorem dL_move_13 : decode cL_move 13 = .ok (.lastore, 1) := by decide +kernel
theorem dL_move_14 : decode cL_move 14 = .ok (.goto 11, 3) := by decide +kernel
theorem dL_move_17 : decode cL_move 17 = .ok (.astore 6, 2) := by decide +kernel
theorem dL_move_19 : decode cL_move 19 = .ok (.iconst 1, 1) := by decide +kernel
theorem dL_move_20 : decode cL_move 20 = .ok (.ireturn, 1) := by decide +kernel
theorem dL_move_21 : decode cL_move 21 = .ok (.astore 6, 2) := by decide +kernel
theorem dL_move_23 : decode cL_move 23 = .ok (.iconst 2, 1) := by decide +kernel
theorem dL_move_24 : decode cL_move 24 = .ok (.ireturn, 1) := by decide +kernel
theorem dL_move_25 : decode cL_move 25 = .ok (.iconst 0, 1) := by decide +kernel
theorem dL_move_26 : decode cL_move 26 = .ok (.ireturn, 1) := by decide +kernel
theorem dL_vote_0 : decode cL_vote 0 = .ok (.aload 4, 2) := by decide +kernel
theorem dL_vote_2 : decode cL_vote 2 = .ok (.iconst 0, 1) := by decide +kernel
theorem dL_vote_3 : decode cL_vote 3 = .ok (.aload_n 0, 1) := by decide +kernel
theorem dL_vote_4 : decode cL_vote 4 = .ok (.iload_n 1, 1) := by decide +kernel
theorem dL_vote_5 : decode cL_vote 5 = .ok (.iload_n 2, 1) := by decide +kernel
theorem dL_vote_6 : decode cL_vote 6 = .ok (.iload_n 3, 1) := by decide +kernel
theorem dL_vote_7 : decode cL_vote 7 = .ok (.invokevirtual 75, 3) := by decide +kernel
theorem dL_vote_10 : decode cL_vote 10 = .ok (.i2l, 1) := by decide +kernel
theorem dL_vote_11 : decode cL_vote 11 = .ok (.lastore, 1) := by decide +kernel
theorem dL_vote_12 : decode cL_vote 12 = .ok (.goto 15, 3) := by decide +kernel
theorem dL_vote_15 : decode cL_vote 15 = .ok (.astore 5, 2) := by decide +kernel
theorem dL_vote_17 : decode cL_vote 17 = .ok (.iconst 1, 1) := by decide +kernel
theorem dL_vote_18 : decode cL_vote 18 = .ok (.ireturn, 1) := by decide +kernel
theorem dL_vote_19 : decode cL_vote 19 = .ok (.astore 5, 2) := by decide +kernel
theorem dL_vote_21 : decode cL_vote 21 = .ok (.iconst 2, 1) := by decide +kernel
theorem dL_vote_22 : decode cL_vote 22 = .ok (.ireturn, 1) := by decide +kernel
theorem dL_vote_23 : decode cL_vote 23 = .ok (.astore 5, 2) := by decide +kernel
theorem dL_vote_25 : decode cL_vote 25 = .ok (.iconst 3, 1) := by decide +kernel
theorem dL_vote_26 : decode cL_vote 26 = .ok (.ireturn, 1) := by decide +kernel
theorem dL_vote_27 : decode cL_vote 27 = .ok (.iconst 0, 1) := by decide +kernel
theorem dL_vote_28 : decode cL_vote 28 = .ok (.ireturn, 1) := by decide +kernel
theorem dL_close_0 : decode cL_close 0 = .ok (.aload_n 2, 1) := by decide +kernel
theorem dL_close_1 : decode cL_close 1 = .ok (.iconst 0, 1) := by decide +kernel
theorem dL_close_2 : decode cL_close 2 = .ok (.aload_n 0, 1) := by decide +kernel
theorem dL_close_3 : decode cL_close 3 = .ok (.iload_n 1, 1) := by decide +kernel
theorem dL_close_4 : decode cL_close 4 = .ok (.invokevirtual 79, 3) := by decide +kernel
theorem dL_close_7 : decode cL_close 7 = .ok (.i2l, 1) := by decide +kernel
theorem dL_close_8 : decode cL_close 8 = .ok (.lastore, 1) := by decide +kernel
theorem dL_close_9 : decode cL_close 9 = .ok (.goto 6, 3) := by decide +kernel
theorem dL_close_12 : decode cL_close 12 = .ok (.astore_n 3, 1) := by decide +kernel
theorem dL_close_13 : decode cL_close 13 = .ok (.iconst 1, 1) := by decide +kernel
theorem dL_close_14 : decode cL_close 14 = .ok (.ireturn, 1) := by decide +kernel
theorem dL_close_15 : decode cL_close 15 = .ok (.iconst 0, 1) := by decide +kernel
theorem dL_close_16 : decode cL_close 16 = .ok (.ireturn, 1) := by decide +kernel
theorem dL_motion_0 : decode cL_motion 0 = .ok (.aload_n 3, 1) := by decide +kernel
theorem dL_motion_1 : decode cL_motion 1 = .ok (.iconst 0, 1) := by decide +kernel
theorem dL_motion_2 : decode cL_motion 2 = .ok (.aload_n 0, 1) := by decide +kernel
theorem dL_motion_3 : decode cL_motion 3 = .ok (.iload_n 1, 1) := by decide +kernel
theorem dL_motion_4 : decode cL_motion 4 = .ok (.iload_n 2, 1) := by decide +kernel
theorem dL_motion_5 : decode cL_motion 5 = .ok (.invokevirtual 82, 3) := by decide +kernel
theorem dL_motion_8 : decode cL_motion 8 = .ok (.i2l, 1) := by decide +kernel
theorem dL_motion_9 : decode cL_motion 9 = .ok (.lastore, 1) := by decide +kernel
theorem dL_motion_10 : decode cL_motion 10 = .ok (.goto 11, 3) := by decide +kernel
theorem dL_motion_13 : decode cL_motion 13 = .ok (.astore 4, 2) := by decide +kernel
theorem dL_motion_15 : decode cL_motion 15 = .ok (.iconst 1, 1) := by decide +kernel
theorem dL_motion_16 : decode cL_motion 16 = .ok (.ireturn, 1) := by decide +kernel
theorem dL_motion_17 : decode cL_motion 17 = .ok (.astore 4, 2) := by decide +kernel
theorem dL_motion_19 : decode cL_motion 19 = .ok (.iconst 2, 1) := by decide +kernel
theorem dL_motion_20 : decode cL_motion 20 = .ok (.ireturn, 1) := by decide +kernel
theorem dL_motion_21 : decode cL_motion 21 = .ok (.iconst 0, 1) := by decide +kernel
theorem dL_motion_22 : decode cL_motion 22 = .ok (.ireturn, 1) := by decide +kernel
theorem dL_voted_0 : decode cL_voted 0 = .ok (.aload_n 3, 1) := by decide +kernel
theorem dL_voted_1 : decode cL_voted 1 = .ok (.iconst 0, 1) := by decide +kernel
theorem dL_voted_2 : decode cL_voted 2 = .ok (.aload_n 0, 1) := by decide +kernel
theorem dL_voted_3 : decode cL_voted 3 = .ok (.iload_n 1, 1) := by decide +kernel
theorem dL_voted_4 : decode cL_voted 4 = .ok (.iload_n 2, 1) := by decide +kernel
theorem dL_voted_5 : decode cL_voted 5 = .ok (.invokevirtual 85, 3) := by decide +kernel
theorem dL_voted_8 : decode cL_voted 8 = .ok (.i2l, 1) := by decide +kernel
theorem dL_voted_9 : decode cL_voted 9 = .ok (.lastore, 1) := by decide +kernel
theorem dL_voted_10 : decode cL_voted 10 = .ok (.goto 7, 3) := by decide +kernel
theorem dL_voted_13 : decode cL_voted 13 = .ok (.astore 4, 2) := by decide +kernel
theorem dL_voted_15 : decode cL_voted 15 = .ok (.iconst 1, 1) := by decide +kernel
theorem dL_voted_16 : decode cL_voted 16 = .ok (.ireturn, 1) := by decide +kernel
theorem dL_voted_17 : decode cL_voted 17 = .ok (.iconst 0, 1) := by decide +kernel
theorem dL_voted_18 : decode cL_voted 18 = .ok (.ireturn, 1) := by decide +kernel
theorem dL_lacking_0 : decode cL_lacking 0 = .ok (.aload_n 2, 1) := by decide +kernel
theorem dL_lacking_1 : decode cL_lacking 1 = .ok (.iconst 0, 1) := by decide +kernel
theorem dL_lacking_2 : decode cL_lacking 2 = .ok (.aload_n 0, 1) := by decide +kernel
theorem dL_lacking_3 : decode cL_lacking 3 = .ok (.iload_n 1, 1) := by decide +kernel
theorem dL_lacking_4 : decode cL_lacking 4 = .ok (.invokevirtual 88, 3) := by decide +kernel
theorem dL_lacking_7 : decode cL_lacking 7 = .ok (.i2l, 1) := by decide +kernel
theorem dL_lacking_8 : decode cL_lacking 8 = .ok (.lastore, 1) := by decide +kernel
theorem dL_lacking_9 : decode cL_lacking 9 = .ok (.goto 12, 3) := by decide +kernel
theorem dL_lacking_12 : decode cL_lacking 12 = .ok (.astore_n 3, 1) := by decide +kernel
theorem dL_lacking_13 : decode cL_lacking 13 = .ok (.iconst 1, 1) := by decide +kernel
theorem dL_lacking_14 : decode cL_lacking 14 = .ok (.ireturn, 1) := by decide +kernel
theorem dL_lacking_15 : decode cL_lacking 15 = .ok (.astore_n 3, 1) := by decide +kernel
theorem dL_lacking_16 : decode cL_lacking 16 = .ok (.iconst 2, 1) := by decide +kernel
theorem dL_lacking_17 : decode cL_lacking 17 = .ok (.ireturn, 1) := by decide +kernel
theorem dL_lacking_18 : decode cL_lacking 18 = .ok (.astore_n 3, 1) := by decide +kernel
theorem dL_lacking_19 : decode cL_lacking 19 = .ok (.iconst 3, 1) := by decide +kernel
theorem dL_lacking_20 : decode cL_lacking 20 = .ok (.ireturn, 1) := by decide +kernel
theorem dL_lacking_21 : decode cL_lacking 21 = .ok (.iconst 0, 1) := by decide +kernel
theorem dL_lacking_22 : decode cL_lacking 22 = .ok (.ireturn, 1) := by decide +kernel
theorem dL_append_0 : decode cL_append 0 = .ok (.aload_n 0, 1) := by decide +kernel
theorem dL_append_1 : decode cL_append 1 = .ok (.iload_n 1, 1) := by decide +kernel
theorem dL_append_2 : decode cL_append 2 = .ok (.invokevirtual 91, 3) := by decide +kernel
theorem dL_append_5 : decode cL_append 5 = .ok (.goto 6, 3) := by decide +kernel
theorem dL_append_8 : decode cL_append 8 = .ok (.astore_n 2, 1) := by decide +kernel
theorem dL_append_9 : decode cL_append 9 = .ok (.iconst 1, 1) := by decide +kernel
theorem dL_append_10 : decode cL_append 10 = .ok (.ireturn, 1) := by decide +kernel
theorem dL_append_11 : decode cL_append 11 = .ok (.iconst 0, 1) := by decide +kernel
theorem dL_append_12 : decode cL_append 12 = .ok (.ireturn, 1) := by decide +kernel
theorem dL_bookAll_0 : decode cL_bookAll 0 = .ok (.aload_n 1, 1) := by decide +kernel
theorem dL_bookAll_1 : decode cL_bookAll 1 = .ok (.iconst 0, 1) := by decide +kernel
theorem dL_bookAll_2 : decode cL_bookAll 2 = .ok (.aload_n 0, 1) := by decide +kernel
theorem dL_bookAll_3 : decode cL_bookAll 3 = .ok (.invokevirtual 95, 3) := by decide +kernel
theorem dL_bookAll_6 : decode cL_bookAll 6 = .ok (.i2l, 1) := by decide +kernel
theorem dL_bookAll_7 : decode cL_bookAll 7 = .ok (.lastore, 1) := by decide +kernel
theorem dL_bookAll_8 : decode cL_bookAll 8 = .ok (.goto 9, 3) := by decide +kernel
theorem dL_bookAll_11 : decode cL_bookAll 11 = .ok (.astore_n 2, 1) := by decide +kernel
theorem dL_bookAll_12 : decode cL_bookAll 12 = .ok (.iconst 1, 1) := by decide +kernel
theorem dL_bookAll_13 : decode cL_bookAll 13 = .ok (.ireturn, 1) := by decide +kernel
theorem dL_bookAll_14 : decode cL_bookAll 14 = .ok (.astore_n 2, 1) := by decide +kernel
theorem dL_bookAll_15 : decode cL_bookAll 15 = .ok (.iconst 2, 1) := by decide +kernel
theorem dL_bookAll_16 : decode cL_bookAll 16 = .ok (.ireturn, 1) := by decide +kernel
theorem dL_bookAll_17 : decode cL_bookAll 17 = .ok (.iconst 0, 1) := by decide +kernel
theorem dL_bookAll_18 : decode cL_bookAll 18 = .ok (.ireturn, 1) := by decide +kernel
theorem dL_account_0 : decode cL_account 0 = .ok (.aload_n 2, 1) := by decide +kernel
theorem dL_account_1 : decode cL_account 1 = .ok (.iconst 0, 1) := by decide +kernel
theorem dL_account_2 : decode cL_account 2 = .ok (.aload_n 0, 1) := by decide +kernel
theorem dL_account_3 : decode cL_account 3 = .ok (.iload_n 1, 1) := by decide +kernel
theorem dL_account_4 : decode cL_account 4 = .ok (.invokevirtual 98, 3) := by decide +kernel
theorem dL_account_7 : decode cL_account 7 = .ok (.i2l, 1) := by decide +kernel
theorem dL_account_8 : decode cL_account 8 = .ok (.lastore, 1) := by decide +kernel
theorem dL_account_9 : decode cL_account 9 = .ok (.goto 6, 3) := by decide +kernel
theorem dL_account_12 : decode cL_account 12 = .ok (.astore_n 3, 1) := by decide +kernel
theorem dL_account_13 : decode cL_account 13 = .ok (.iconst 1, 1) := by decide +kernel
theorem dL_account_14 : decode cL_account 14 = .ok (.ireturn, 1) := by decide +kernel
theorem dL_account_15 : decode cL_account 15 = .ok (.iconst 0, 1) := by decide +kernel
theorem dL_account_16 : decode cL_account 16 = .ok (.ireturn, 1) := by decide +kernel
theorem dL_share_0 : decode cL_share 0 = .ok (.aload_n 2, 1) := by decide +kernel
theorem dL_share_1 : decode cL_share 1 = .ok (.iconst 0, 1) := by decide +kernel
theorem dL_share_2 : decode cL_share 2 = .ok (.aload_n 0, 1) := by decide +kernel
theorem dL_share_3 : decode cL_share 3 = .ok (.iload_n 1, 1) := by decide +kernel
theorem dL_share_4 : decode cL_share 4 = .ok (.invokevirtual 101, 3) := by decide +kernel
theorem dL_share_7 : decode cL_share 7 = .ok (.dastore, 1) := by decide +kernel
theorem dL_share_8 : decode cL_share 8 = .ok (.goto 6, 3) := by decide +kernel
theorem dL_share_11 : decode cL_share 11 = .ok (.astore_n 3, 1) := by decide +kernel
theorem dL_share_12 : decode cL_share 12 = .ok (.iconst 1, 1) := by decide +kernel
theorem dL_share_13 : decode cL_share 13 = .ok (.ireturn, 1) := by decide +kernel
theorem dL_share_14 : decode cL_share 14 = .ok (.iconst 0, 1) := by decide +kernel
theorem dL_share_15 : decode cL_share 15 = .ok (.ireturn, 1) := by decide +kernel
theorem dL_undo_0 : decode cL_undo 0 = .ok (.aload_n 1, 1) := by decide +kernel
theorem dL_undo_1 : decode cL_undo 1 = .ok (.iconst 0, 1) := by decide +kernel
theorem dL_undo_2 : decode cL_undo 2 = .ok (.aload_n 0, 1) := by decide +kernel
theorem dL_undo_3 : decode cL_undo 3 = .ok (.invokevirtual 105, 3) := by decide +kernel
theorem dL_undo_6 : decode cL_undo 6 = .ok (.i2l, 1) := by decide +kernel
theorem dL_undo_7 : decode cL_undo 7 = .ok (.lastore, 1) := by decide +kernel
theorem dL_undo_8 : decode cL_undo 8 = .ok (.goto 6, 3) := by decide +kernel
theorem dL_undo_11 : decode cL_undo 11 = .ok (.astore_n 2, 1) := by decide +kernel
theorem dL_undo_12 : decode cL_undo 12 = .ok (.iconst 1, 1) := by decide +kernel
theorem dL_undo_13 : decode cL_undo 13 = .ok (.ireturn, 1) := by decide +kernel
theorem dL_undo_14 : decode cL_undo 14 = .ok (.iconst 0, 1) := by decide +kernel
theorem dL_undo_15 : decode cL_undo 15 = .ok (.ireturn, 1) := by decide +kernel
theorem dL_restore_0 : decode cL_restore 0 = .ok (.aload_n 0, 1) := by decide +kernel
theorem dL_restore_1 : decode cL_restore 1 = .ok (.invokevirtual 108, 3) := by decide +kernel
theorem dL_restore_4 : decode cL_restore 4 = .ok (.goto 6, 3) := by decide +kernel
theorem dL_restore_7 : decode cL_restore 7 = .ok (.astore_n 1, 1) := by decide +kernel
theorem dL_restore_8 : decode cL_restore 8 = .ok (.iconst 1, 1) := by decide +kernel
theorem dL_restore_9 : decode cL_restore 9 = .ok (.ireturn, 1) := by decide +kernel
theorem dL_restore_10 : decode cL_restore 10 = .ok (.iconst 0, 1) := by decide +kernel
theorem dL_restore_11 : decode cL_restore 11 = .ok (.ireturn, 1) := by decide +kernel
theorem dL_law_0 : decode cL_law 0 = .ok (.new 8, 3) := by decide +kernel
theorem dL_law_3 : decode cL_law 3 = .ok (.dup, 1) := by decide +kernel
theorem dL_law_4 : decode cL_law 4 = .ok (.invokespecial 111, 3) := by decide +kernel
theorem dL_law_7 : decode cL_law 7 = .ok (.astore_n 1, 1) := by decide +kernel
theorem dL_law_8 : decode cL_law 8 = .ok (.new 112, 3) := by decide +kernel
theorem dL_law_11 : decode cL_law 11 = .ok (.dup, 1) := by decide +kernel
theorem dL_law_12 : decode cL_law 12 = .ok (.invokespecial 114, 3) := by decide +kernel
theorem dL_law_15 : decode cL_law 15 = .ok (.astore_n 2, 1) := by decide +kernel
theorem dL_law_16 : decode cL_law 16 = .ok (.iconst 1, 1) := by decide +kernel
theorem dL_law_17 : decode cL_law 17 = .ok (.newarray .long, 2) := by decide +kernel
theorem dL_law_19 : decode cL_law 19 = .ok (.astore_n 3, 1) := by decide +kernel
theorem dL_law_20 : decode cL_law 20 = .ok (.iconst 1, 1) := by decide +kernel
theorem dL_law_21 : decode cL_law 21 = .ok (.newarray .double, 2) := by decide +kernel
theorem dL_law_23 : decode cL_law 23 = .ok (.astore 4, 2) := by decide +kernel
theorem dL_law_25 : decode cL_law 25 = .ok (.iconst 0, 1) := by decide +kernel
theorem dL_law_26 : decode cL_law 26 = .ok (.istore 5, 2) := by decide +kernel
theorem dL_law_28 : decode cL_law 28 = .ok (.iload 5, 2) := by decide +kernel
theorem dL_law_30 : decode cL_law 30 = .ok (.aload_n 0, 1) := by decide +kernel
theorem dL_law_31 : decode cL_law 31 = .ok (.arraylength, 1) := by decide +kernel
theorem dL_law_32 : decode cL_law 32 = .ok (.bipush 6, 2) := by decide +kernel
theorem dL_law_34 : decode cL_law 34 = .ok (.isub, 1) := by decide +kernel
theorem dL_law_35 : decode cL_law 35 = .ok (.if_icmp .gt 1994, 3) := by decide +kernel
theorem dL_law_38 : decode cL_law 38 = .ok (.aload_n 0, 1) := by decide +kernel
theorem dL_law_39 : decode cL_law 39 = .ok (.iload 5, 2) := by decide +kernel
theorem dL_law_41 : decode cL_law 41 = .ok (.iaload, 1) := by decide +kernel
theorem dL_law_42 : decode cL_law 42 = .ok (.bipush 31, 2) := by decide +kernel
theorem dL_law_44 : decode cL_law 44 = .ok (.iand, 1) := by decide +kernel
theorem dL_law_45 : decode cL_law 45 = .ok (.tableswitch 1978 0 29 #[135, 227, 295, 363, 431, 499, 555, 599, 667, 735, 855, 923, 991, 1083, 1151, 1207, 1251, 1343, 1423, 1479, 1547, 1615, 1671, 1709, 1753, 1766, 1822, 1899, 1943, 1954], 135) := by decide +kernel
theorem dL_law_180 : decode cL_law 180 = .ok (.aload_n 1, 1) := by decide +kernel
theorem dL_law_181 : decode cL_law 181 = .ok (.aload_n 0, 1) := by decide +kernel
theorem dL_law_182 : decode cL_law 182 = .ok (.iload 5, 2) := by decide +kernel
theorem dL_law_184 : decode cL_law 184 = .ok (.iconst 1, 1) := by decide +kernel
theorem dL_law_185 : decode cL_law 185 = .ok (.iadd, 1) := by decide +kernel
theorem dL_law_186 : decode cL_law 186 = .ok (.iaload, 1) := by decide +kernel
theorem dL_law_187 : decode cL_law 187 = .ok (.aload_n 0, 1) := by decide +kernel
theorem dL_law_188 : decode cL_law 188 = .ok (.iload 5, 2) := by decide +kernel
theorem dL_law_190 : decode cL_law 190 = .ok (.iconst 2, 1) := by decide +kernel
theorem dL_law_191 : decode cL_law 191 = .ok (.iadd, 1) := by decide +kernel
theorem dL_law_192 : decode cL_law 192 = .ok (.iaload, 1) := by decide +kernel
theorem dL_law_193 : decode cL_law 193 = .ok (.aload_n 0, 1) := by decide +kernel
theorem dL_law_194 : decode cL_law 194 = .ok (.iload 5, 2) := by decide +kernel
theorem dL_law_196 : decode cL_law 196 = .ok (.iconst 3, 1) := by decide +kernel
theorem dL_law_197 : decode cL_law 197 = .ok (.iadd, 1) := by decide +kernel
theorem dL_law_198 : decode cL_law 198 = .ok (.iaload, 1) := by decide +kernel
theorem dL_law_199 : decode cL_law 199 = .ok (.aload_n 0, 1) := by decide +kernel
theorem dL_law_200 : decode cL_law 200 = .ok (.iload 5, 2) := by decide +kernel
theorem dL_law_202 : decode cL_law 202 = .ok (.iconst 4, 1) := by decide +kernel
theorem dL_law_203 : decode cL_law 203 = .ok (.iadd, 1) := by decide +kernel
theorem dL_law_204 : decode cL_law 204 = .ok (.iaload, 1) := by decide +kernel
theorem dL_law_205 : decode cL_law 205 = .ok (.aload_n 3, 1) := by decide +kernel
theorem dL_law_206 : decode cL_law 206 = .ok (.invokestatic 115, 3) := by decide +kernel
theorem dL_law_209 : decode cL_law 209 = .ok (.istore 6, 2) := by decide +kernel
theorem dL_law_211 : decode cL_law 211 = .ok (.aload_n 2, 1) := by decide +kernel
theorem dL_law_212 : decode cL_law 212 = .ok (.aload_n 0, 1) := by decide +kernel
theorem dL_law_213 : decode cL_law 213 = .ok (.iload 5, 2) := by decide +kernel
theorem dL_law_215 : decode cL_law 215 = .ok (.iconst 1, 1) := by decide +kernel
theorem dL_law_216 : decode cL_law 216 = .ok (.iadd, 1) := by decide +kernel
theorem dL_law_217 : decode cL_law 217 = .ok (.iaload, 1) := by decide +kernel
theorem dL_law_218 : decode cL_law 218 = .ok (.aload_n 0, 1) := by decide +kernel
theorem dL_law_219 : decode cL_law 219 = .ok (.iload 5, 2) := by decide +kernel
theorem dL_law_221 : decode cL_law 221 = .ok (.iconst 2, 1) := by decide +kernel
theorem dL_law_222 : decode cL_law 222 = .ok (.iadd, 1) := by decide +kernel
theorem dL_law_223 : decode cL_law 223 = .ok (.iaload, 1) := by decide +kernel
theorem dL_law_224 : decode cL_law 224 = .ok (.aload_n 0, 1) := by decide +kernel
theorem dL_law_225 : decode cL_law 225 = .ok (.iload 5, 2) := by decide +kernel
theorem dL_law_227 : decode cL_law 227 = .ok (.iconst 3, 1) := by decide +kernel
theorem dL_law_228 : decode cL_law 228 = .ok (.iadd, 1) := by decide +kernel
theorem dL_law_229 : decode cL_law 229 = .ok (.iaload, 1) := by decide +kernel
theorem dL_law_230 : decode cL_law 230 = .ok (.aload_n 0, 1) := by decide +kernel
theorem dL_law_231 : decode cL_law 231 = .ok (.iload 5, 2) := by decide +kernel
theorem dL_law_233 : decode cL_law 233 = .ok (.iconst 4, 1) := by decide +kernel
theorem dL_law_234 : decode cL_law 234 = .ok (.iadd, 1) := by decide +kernel
theorem dL_law_235 : decode cL_law 235 = .ok (.iaload, 1) := by decide +kernel
theorem dL_law_236 : decode cL_law 236 = .ok (.invokevirtual 120, 3) := by decide +kernel
theorem dL_law_239 : decode cL_law 239 = .ok (.istore 7, 2) := by decide +kernel
theorem dL_law_241 : decode cL_law 241 = .ok (.aload_n 2, 1) := by decide +kernel
theorem dL_law_242 : decode cL_law 242 = .ok (.invokevirtual 121, 3) := by decide +kernel
theorem dL_law_245 : decode cL_law 245 = .ok (.iload 6, 2) := by decide +kernel
theorem dL_law_247 : decode cL_law 247 = .ok (.if_icmp .eq 5, 3) := by decide +kernel
theorem dL_law_250 : decode cL_law 250 = .ok (.iconst 0, 1) := by decide +kernel
theorem dL_law_251 : decode cL_law 251 = .ok (.ireturn, 1) := by decide +kernel
theorem dL_law_252 : decode cL_law 252 = .ok (.iload 6, 2) := by decide +kernel
theorem dL_law_254 : decode cL_law 254 = .ok (.ifCond .ne 15, 3) := by decide +kernel
theorem dL_law_257 : decode cL_law 257 = .ok (.aload_n 3, 1) := by decide +kernel
theorem dL_law_258 : decode cL_law 258 = .ok (.iconst 0, 1) := by decide +kernel
theorem dL_law_259 : decode cL_law 259 = .ok (.laload, 1) := by decide +kernel
theorem dL_law_260 : decode cL_law 260 = .ok (.iload 7, 2) := by decide +kernel
theorem dL_law_262 : decode cL_law 262 = .ok (.i2l, 1) := by decide +kernel
theorem dL_law_263 : decode cL_law 263 = .ok (.lcmp, 1) := by decide +kernel
theorem dL_law_264 : decode cL_law 264 = .ok (.ifCond .eq 5, 3) := by decide +kernel
theorem dL_law_267 : decode cL_law 267 = .ok (.iconst 0, 1) := by decide +kernel
theorem dL_law_268 : decode cL_law 268 = .ok (.ireturn, 1) := by decide +kernel
theorem dL_law_269 : decode cL_law 269 = .ok (.goto 1754, 3) := by decide +kernel
theorem dL_law_272 : decode cL_law 272 = .ok (.aload_n 1, 1) := by decide +kernel
theorem dL_law_273 : decode cL_law 273 = .ok (.aload_n 0, 1) := by decide +kernel
theorem dL_law_274 : decode cL_law 274 = .ok (.iload 5, 2) := by decide +kernel
theorem dL_law_276 : decode cL_law 276 = .ok (.iconst 1, 1) := by decide +kernel
theorem dL_law_277 : decode cL_law 277 = .ok (.iadd, 1) := by decide +kernel
theorem dL_law_278 : decode cL_law 278 = .ok (.iaload, 1) := by decide +kernel
theorem dL_law_279 : decode cL_law 279 = .ok (.aload_n 0, 1) := by decide +kernel
theorem dL_law_280 : decode cL_law 280 = .ok (.iload 5, 2) := by decide +kernel
theorem dL_law_282 : decode cL_law 282 = .ok (.iconst 2, 1) := by decide +kernel
theorem dL_law_283 : decode cL_law 283 = .ok (.iadd, 1) := by decide +kernel
theorem dL_law_284 : decode cL_law 284 = .ok (.iaload, 1) := by decide +kernel
theorem dL_law_285 : decode cL_law 285 = .ok (.aload_n 3, 1) := by decide +kernel
theorem dL_law_286 : decode cL_law 286 = .ok (.invokestatic 124, 3) := by decide +kernel
theorem dL_law_289 : decode cL_law 289 = .ok (.istore 6, 2) := by decide +kernel
theorem dL_law_291 : decode cL_law 291 = .ok (.aload_n 2, 1) := by decide +kernel
theorem dL_law_292 : decode cL_law 292 = .ok (.aload_n 0, 1) := by decide +kernel
theorem dL_law_293 : decode cL_law 293 = .ok (.iload 5, 2) := by decide +kernel
theorem dL_law_295 : decode cL_law 295 = .ok (.iconst 1, 1) := by decide +kernel
theorem dL_law_296 : decode cL_law 296 = .ok (.iadd, 1) := by decide +kernel
theorem dL_law_297 : decode cL_law 297 = .ok (.iaload, 1) := by decide +kernel
theorem dL_law_298 : decode cL_law 298 = .ok (.aload_n 0, 1) := by decide +kernel
theorem dL_law_299 : decode cL_law 299 = .ok (.iload 5, 2) := by decide +kernel
theorem dL_law_301 : decode cL_law 301 = .ok (.iconst 2, 1) := by decide +kernel
theorem dL_law_302 : decode cL_law 302 = .ok (.iadd, 1) := by decide +kernel
theorem dL_law_303 : decode cL_law 303 = .ok (.iaload, 1) := by decide +kernel
theorem dL_law_304 : decode cL_law 304 = .ok (.invokevirtual 127, 3) := by decide +kernel
theorem dL_law_307 : decode cL_law 307 = .ok (.istore 7, 2) := by decide +kernel
theorem dL_law_309 : decode cL_law 309 = .ok (.aload_n 2, 1) := by decide +kernel
theorem dL_law_310 : decode cL_law 310 = .ok (.invokevirtual 121, 3) := by decide +kernel
theorem dL_law_313 : decode cL_law 313 = .ok (.iload 6, 2) := by decide +kernel
theorem dL_law_315 : decode cL_law 315 = .ok (.if_icmp .eq 5, 3) := by decide +kernel
theorem dL_law_318 : decode cL_law 318 = .ok (.iconst 0, 1) := by decide +kernel
theorem dL_law_319 : decode cL_law 319 = .ok (.ireturn, 1) := by decide +kernel
theorem dL_law_320 : decode cL_law 320 = .ok (.iload 6, 2) := by decide +kernel
theorem dL_law_322 : decode cL_law 322 = .ok (.ifCond .ne 15, 3) := by decide +kernel
theorem dL_law_325 : decode cL_law 325 = .ok (.aload_n 3, 1) := by decide +kernel
theorem dL_law_326 : decode cL_law 326 = .ok (.iconst 0, 1) := by decide +kernel
theorem dL_law_327 : decode cL_law 327 = .ok (.laload, 1) := by decide +kernel
theorem dL_law_328 : decode cL_law 328 = .ok (.iload 7, 2) := by decide +kernel
theorem dL_law_330 : decode cL_law 330 = .ok (.i2l, 1) := by decide +kernel
theorem dL_law_331 : decode cL_law 331 = .ok (.lcmp, 1) := by decide +kernel
theorem dL_law_332 : decode cL_law 332 = .ok (.ifCond .eq 5, 3) := by decide +kernel
theorem dL_law_335 : decode cL_law 335 = .ok (.iconst 0, 1) := by decide +kernel
theorem dL_law_336 : decode cL_law 336 = .ok (.ireturn, 1) := by decide +kernel
theorem dL_law_337 : decode cL_law 337 = .ok (.goto 1686, 3) := by decide +kernel
theorem dL_law_340 : decode cL_law 340 = .ok (.aload_n 1, 1) := by decide +kernel
theorem dL_law_341 : decode cL_law 341 = .ok (.aload_n 0, 1) := by decide +kernel
theorem dL_law_342 : decode cL_law 342 = .ok (.iload 5, 2) := by decide +kernel
theorem dL_law_344 : decode cL_law 344 = .ok (.iconst 1, 1) := by decide +kernel
theorem dL_law_345 : decode cL_law 345 = .ok (.iadd, 1) := by decide +kernel
theorem dL_law_346 : decode cL_law 346 = .ok (.iaload, 1) := by decide +kernel
theorem dL_law_347 : decode cL_law 347 = .ok (.aload_n 0, 1) := by decide +kernel
theorem dL_law_348 : decode cL_law 348 = .ok (.iload 5, 2) := by decide +kernel
theorem dL_law_350 : decode cL_law 350 = .ok (.iconst 2, 1) := by decide +kernel
theorem dL_law_351 : decode cL_law 351 = .ok (.iadd, 1) := by decide +kernel
theorem dL_law_352 : decode cL_law 352 = .ok (.iaload, 1) := by decide +kernel
theorem dL_law_353 : decode cL_law 353 = .ok (.aload_n 3, 1) := by decide +kernel
theorem dL_law_354 : decode cL_law 354 = .ok (.invokestatic 128, 3) := by decide +kernel
theorem dL_law_357 : decode cL_law 357 = .ok (.istore 6, 2) := by decide +kernel
theorem dL_law_359 : decode cL_law 359 = .ok (.aload_n 2, 1) := by decide +kernel
theorem dL_law_360 : decode cL_law 360 = .ok (.aload_n 0, 1) := by decide +kernel
theorem dL_law_361 : decode cL_law 361 = .ok (.iload 5, 2) := by decide +kernel
theorem dL_law_363 : decode cL_law 363 = .ok (.iconst 1, 1) := by decide +kernel
theorem dL_law_364 : decode cL_law 364 = .ok (.iadd, 1) := by decide +kernel
theorem dL_law_365 : decode cL_law 365 = .ok (.iaload, 1) := by decide +kernel
theorem dL_law_366 : decode cL_law 366 = .ok (.aload_n 0, 1) := by decide +kernel
theorem dL_law_367 : decode cL_law 367 = .ok (.iload 5, 2) := by decide +kernel
theorem dL_law_369 : decode cL_law 369 = .ok (.iconst 2, 1) := by decide +kernel
theorem dL_law_370 : decode cL_law 370 = .ok (.iadd, 1) := by decide +kernel
theorem dL_law_371 : decode cL_law 371 = .ok (.iaload, 1) := by decide +kernel
theorem dL_law_372 : decode cL_law 372 = .ok (.invokevirtual 130, 3) := by decide +kernel
theorem dL_law_375 : decode cL_law 375 = .ok (.istore 7, 2) := by decide +kernel
theorem dL_law_377 : decode cL_law 377 = .ok (.aload_n 2, 1) := by decide +kernel
theorem dL_law_378 : decode cL_law 378 = .ok (.invokevirtual 121, 3) := by decide +kernel
theorem dL_law_381 : decode cL_law 381 = .ok (.iload 6, 2) := by decide +kernel
theorem dL_law_383 : decode cL_law 383 = .ok (.if_icmp .eq 5, 3) := by decide +kernel
theorem dL_law_386 : decode cL_law 386 = .ok (.iconst 0, 1) := by decide +kernel
theorem dL_law_387 : decode cL_law 387 = .ok (.ireturn, 1) := by decide +kernel
theorem dL_law_388 : decode cL_law 388 = .ok (.iload 6, 2) := by decide +kernel
theorem dL_law_390 : decode cL_law 390 = .ok (.ifCond .ne 15, 3) := by decide +kernel
theorem dL_law_393 : decode cL_law 393 = .ok (.aload_n 3, 1) := by decide +kernel
theorem dL_law_394 : decode cL_law 394 = .ok (.iconst 0, 1) := by decide +kernel
theorem dL_law_395 : decode cL_law 395 = .ok (.laload, 1) := by decide +kernel
theorem dL_law_396 : decode cL_law 396 = .ok (.iload 7, 2) := by decide +kernel
theorem dL_law_398 : decode cL_law 398 = .ok (.i2l, 1) := by decide +kernel
theorem dL_law_399 : decode cL_law 399 = .ok (.lcmp, 1) := by decide +kernel
theorem dL_law_400 : decode cL_law 400 = .ok (.ifCond .eq 5, 3) := by decide +kernel
theorem dL_law_403 : decode cL_law 403 = .ok (.iconst 0, 1) := by decide +kernel
theorem dL_law_404 : decode cL_law 404 = .ok (.ireturn, 1) := by decide +kernel
theorem dL_law_405 : decode cL_law 405 = .ok (.goto 1618, 3) := by decide +kernel
theorem dL_law_408 : decode cL_law 408 = .ok (.aload_n 1, 1) := by decide +kernel
theorem dL_law_409 : decode cL_law 409 = .ok (.aload_n 0, 1) := by decide +kernel
theorem dL_law_410 : decode cL_law 410 = .ok (.iload 5, 2) := by decide +kernel
theorem dL_law_412 : decode cL_law 412 = .ok (.iconst 1, 1) := by decide +kernel
theorem dL_law_413 : decode cL_law 413 = .ok (.iadd, 1) := by decide +kernel
theorem dL_law_414 : decode cL_law 414 = .ok (.iaload, 1) := by decide +kernel
theorem dL_law_415 : decode cL_law 415 = .ok (.aload_n 0, 1) := by decide +kernel
theorem dL_law_416 : decode cL_law 416 = .ok (.iload 5, 2) := by decide +kernel
theorem dL_law_418 : decode cL_law 418 = .ok (.iconst 2, 1) := by decide +kernel
theorem dL_law_419 : decode cL_law 419 = .ok (.iadd, 1) := by decide +kernel
theorem dL_law_420 : decode cL_law 420 = .ok (.iaload, 1) := by decide +kernel
theorem dL_law_421 : decode cL_law 421 = .ok (.aload_n 3, 1) := by decide +kernel
theorem dL_law_422 : decode cL_law 422 = .ok (.invokestatic 131, 3) := by decide +kernel
theorem dL_law_425 : decode cL_law 425 = .ok (.istore 6, 2) := by decide +kernel
theorem dL_law_427 : decode cL_law 427 = .ok (.aload_n 2, 1) := by decide +kernel
theorem dL_law_428 : decode cL_law 428 = .ok (.aload_n 0, 1) := by decide +kernel
theorem dL_law_429 : decode cL_law 429 = .ok (.iload 5, 2) := by decide +kernel
theorem dL_law_431 : decode cL_law 431 = .ok (.iconst 1, 1) := by decide +kernel
theorem dL_law_432 : decode cL_law 432 = .ok (.iadd, 1) := by decide +kernel
theorem dL_law_433 : decode cL_law 433 = .ok (.iaload, 1) := by decide +kernel
theorem dL_law_434 : decode cL_law 434 = .ok (.aload_n 0, 1) := by decide +kernel
theorem dL_law_435 : decode cL_law 435 = .ok (.iload 5, 2) := by decide +kernel
theorem dL_law_437 : decode cL_law 437 = .ok (.iconst 2, 1) := by decide +kernel
theorem dL_law_438 : decode cL_law 438 = .ok (.iadd, 1) := by decide +kernel
theorem dL_law_439 : decode cL_law 439 = .ok (.iaload, 1) := by decide +kernel
theorem dL_law_440 : decode cL_law 440 = .ok (.invokevirtual 133, 3) := by decide +kernel
theorem dL_law_443 : decode cL_law 443 = .ok (.istore 7, 2) := by decide +kernel
theorem dL_law_445 : decode cL_law 445 = .ok (.aload_n 2, 1) := by decide +kernel
theorem dL_law_446 : decode cL_law 446 = .ok (.invokevirtual 121, 3) := by decide +kernel
theorem dL_law_449 : decode cL_law 449 = .ok (.iload 6, 2) := by decide +kernel
theorem dL_law_451 : decode cL_law 451 = .ok (.if_icmp .eq 5, 3) := by decide +kernel
theorem dL_law_454 : decode cL_law 454 = .ok (.iconst 0, 1) := by decide +kernel
theorem dL_law_455 : decode cL_law 455 = .ok (.ireturn, 1) := by decide +kernel
theorem dL_law_456 : decode cL_law 456 = .ok (.iload 6, 2) := by decide +kernel
theorem dL_law_458 : decode cL_law 458 = .ok (.ifCond .ne 15, 3) := by decide +kernel
theorem dL_law_461 : decode cL_law 461 = .ok (.aload_n 3, 1) := by decide +kernel
theorem dL_law_462 : decode cL_law 462 = .ok (.iconst 0, 1) := by decide +kernel
theorem dL_law_463 : decode cL_law 463 = .ok (.laload, 1) := by decide +kernel
theorem dL_law_464 : decode cL_law 464 = .ok (.iload 7, 2) := by decide +kernel
theorem dL_law_466 : decode cL_law 466 = .ok (.i2l, 1) := by decide +kernel
theorem dL_law_467 : decode cL_law 467 = .ok (.lcmp, 1) := by decide +kernel
theorem dL_law_468 : decode cL_law 468 = .ok (.ifCond .eq 5, 3) := by decide +kernel
theorem dL_law_471 : decode cL_law 471 = .ok (.iconst 0, 1) := by decide +kernel
theorem dL_law_472 : decode cL_law 472 = .ok (.ireturn, 1) := by decide +kernel
theorem dL_law_473 : decode cL_law 473 = .ok (.goto 1550, 3) := by decide +kernel
theorem dL_law_476 : decode cL_law 476 = .ok (.aload_n 1, 1) := by decide +kernel
theorem dL_law_477 : decode cL_law 477 = .ok (.aload_n 0, 1) := by decide +kernel
theorem dL_law_478 : decode cL_law 478 = .ok (.iload 5, 2) := by decide +kernel
theorem dL_law_480 : decode cL_law 480 = .ok (.iconst 1, 1) := by decide +kernel
theorem dL_law_481 : decode cL_law 481 = .ok (.iadd, 1) := by decide +kernel
theorem dL_law_482 : decode cL_law 482 = .ok (.iaload, 1) := by decide +kernel
theorem dL_law_483 : decode cL_law 483 = .ok (.aload_n 0, 1) := by decide +kernel
theorem dL_law_484 : decode cL_law 484 = .ok (.iload 5, 2) := by decide +kernel
theorem dL_law_486 : decode cL_law 486 = .ok (.iconst 2, 1) := by decide +kernel
theorem dL_law_487 : decode cL_law 487 = .ok (.iadd, 1) := by decide +kernel
theorem dL_law_488 : decode cL_law 488 = .ok (.iaload, 1) := by decide +kernel
theorem dL_law_489 : decode cL_law 489 = .ok (.aload_n 3, 1) := by decide +kernel
theorem dL_law_490 : decode cL_law 490 = .ok (.invokestatic 134, 3) := by decide +kernel
theorem dL_law_493 : decode cL_law 493 = .ok (.istore 6, 2) := by decide +kernel
theorem dL_law_495 : decode cL_law 495 = .ok (.aload_n 2, 1) := by decide +kernel
theorem dL_law_496 : decode cL_law 496 = .ok (.aload_n 0, 1) := by decide +kernel
theorem dL_law_497 : decode cL_law 497 = .ok (.iload 5, 2) := by decide +kernel
theorem dL_law_499 : decode cL_law 499 = .ok (.iconst 1, 1) := by decide +kernel
theorem dL_law_500 : decode cL_law 500 = .ok (.iadd, 1) := by decide +kernel
theorem dL_law_501 : decode cL_law 501 = .ok (.iaload, 1) := by decide +kernel
theorem dL_law_502 : decode cL_law 502 = .ok (.aload_n 0, 1) := by decide +kernel
theorem dL_law_503 : decode cL_law 503 = .ok (.iload 5, 2) := by decide +kernel
theorem dL_law_505 : decode cL_law 505 = .ok (.iconst 2, 1) := by decide +kernel
theorem dL_law_506 : decode cL_law 506 = .ok (.iadd, 1) := by decide +kernel
theorem dL_law_507 : decode cL_law 507 = .ok (.iaload, 1) := by decide +kernel
theorem dL_law_508 : decode cL_law 508 = .ok (.invokevirtual 136, 3) := by decide +kernel
theorem dL_law_511 : decode cL_law 511 = .ok (.istore 7, 2) := by decide +kernel
theorem dL_law_513 : decode cL_law 513 = .ok (.aload_n 2, 1) := by decide +kernel
theorem dL_law_514 : decode cL_law 514 = .ok (.invokevirtual 121, 3) := by decide +kernel
theorem dL_law_517 : decode cL_law 517 = .ok (.iload 6, 2) := by decide +kernel
theorem dL_law_519 : decode cL_law 519 = .ok (.if_icmp .eq 5, 3) := by decide +kernel
theorem dL_law_522 : decode cL_law 522 = .ok (.iconst 0, 1) := by decide +kernel
theorem dL_law_523 : decode cL_law 523 = .ok (.ireturn, 1) := by decide +kernel
theorem dL_law_524 : decode cL_law 524 = .ok (.iload 6, 2) := by decide +kernel
theorem dL_law_526 : decode cL_law 526 = .ok (.ifCond .ne 15, 3) := by decide +kernel
theorem dL_law_529 : decode cL_law 529 = .ok (.aload_n 3, 1) := by decide +kernel
theorem dL_law_530 : decode cL_law 530 = .ok (.iconst 0, 1) := by decide +kernel
theorem dL_law_531 : decode cL_law 531 = .ok (.laload, 1) := by decide +kernel
theorem dL_law_532 : decode cL_law 532 = .ok (.iload 7, 2) := by decide +kernel
theorem dL_law_534 : decode cL_law 534 = .ok (.i2l, 1) := by decide +kernel
theorem dL_law_535 : decode cL_law 535 = .ok (.lcmp, 1) := by decide +kernel
theorem dL_law_536 : decode cL_law 536 = .ok (.ifCond .eq 5, 3) := by decide +kernel
theorem dL_law_539 : decode cL_law 539 = .ok (.iconst 0, 1) := by decide +kernel
theorem dL_law_540 : decode cL_law 540 = .ok (.ireturn, 1) := by decide +kernel
theorem dL_law_541 : decode cL_law 541 = .ok (.goto 1482, 3) := by decide +kernel
theorem dL_law_544 : decode cL_law 544 = .ok (.aload_n 1, 1) := by decide +kernel
theorem dL_law_545 : decode cL_law 545 = .ok (.aload_n 0, 1) := by decide +kernel
theorem dL_law_546 : decode cL_law 546 = .ok (.iload 5, 2) := by decide +kernel
theorem dL_law_548 : decode cL_law 548 = .ok (.iconst 1, 1) := by decide +kernel
theorem dL_law_549 : decode cL_law 549 = .ok (.iadd, 1) := by decide +kernel
theorem dL_law_550 : decode cL_law 550 = .ok (.iaload, 1) := by decide +kernel
theorem dL_law_551 : decode cL_law 551 = .ok (.aload_n 3, 1) := by decide +kernel
theorem dL_law_552 : decode cL_law 552 = .ok (.invokestatic 137, 3) := by decide +kernel
theorem dL_law_555 : decode cL_law 555 = .ok (.istore 6, 2) := by decide +kernel
theorem dL_law_557 : decode cL_law 557 = .ok (.aload_n 2, 1) := by decide +kernel
theorem dL_law_558 : decode cL_law 558 = .ok (.aload_n 0, 1) := by decide +kernel
theorem dL_law_559 : decode cL_law 559 = .ok (.iload 5, 2) := by decide +kernel
theorem dL_law_561 : decode cL_law 561 = .ok (.iconst 1, 1) := by decide +kernel
theorem dL_law_562 : decode cL_law 562 = .ok (.iadd, 1) := by decide +kernel
theorem dL_law_563 : decode cL_law 563 = .ok (.iaload, 1) := by decide +kernel
theorem dL_law_564 : decode cL_law 564 = .ok (.invokevirtual 140, 3) := by decide +kernel
theorem dL_law_567 : decode cL_law 567 = .ok (.istore 7, 2) := by decide +kernel
theorem dL_law_569 : decode cL_law 569 = .ok (.aload_n 2, 1) := by decide +kernel
theorem dL_law_570 : decode cL_law 570 = .ok (.invokevirtual 121, 3) := by decide +kernel
theorem dL_law_573 : decode cL_law 573 = .ok (.iload 6, 2) := by decide +kernel
theorem dL_law_575 : decode cL_law 575 = .ok (.if_icmp .eq 5, 3) := by decide +kernel
theorem dL_law_578 : decode cL_law 578 = .ok (.iconst 0, 1) := by decide +kernel
theorem dL_law_579 : decode cL_law 579 = .ok (.ireturn, 1) := by decide +kernel
theorem dL_law_580 : decode cL_law 580 = .ok (.iload 6, 2) := by decide +kernel
theorem dL_law_582 : decode cL_law 582 = .ok (.ifCond .ne 15, 3) := by decide +kernel
theorem dL_law_585 : decode cL_law 585 = .ok (.aload_n 3, 1) := by decide +kernel
theorem dL_law_586 : decode cL_law 586 = .ok (.iconst 0, 1) := by decide +kernel
theorem dL_law_587 : decode cL_law 587 = .ok (.laload, 1) := by decide +kernel
theorem dL_law_588 : decode cL_law 588 = .ok (.iload 7, 2) := by decide +kernel
theorem dL_law_590 : decode cL_law 590 = .ok (.i2l, 1) := by decide +kernel
theorem dL_law_591 : decode cL_law 591 = .ok (.lcmp, 1) := by decide +kernel
theorem dL_law_592 : decode cL_law 592 = .ok (.ifCond .eq 5, 3) := by decide +kernel
theorem dL_law_595 : decode cL_law 595 = .ok (.iconst 0, 1) := by decide +kernel
theorem dL_law_596 : decode cL_law 596 = .ok (.ireturn, 1) := by decide +kernel
theorem dL_law_597 : decode cL_law 597 = .ok (.goto 1426, 3) := by decide +kernel
theorem dL_law_600 : decode cL_law 600 = .ok (.aload_n 1, 1) := by decide +kernel
theorem dL_law_601 : decode cL_law 601 = .ok (.aload_n 3, 1) := by decide +kernel
theorem dL_law_602 : decode cL_law 602 = .ok (.invokestatic 141, 3) := by decide +kernel
theorem dL_law_605 : decode cL_law 605 = .ok (.istore 6, 2) := by decide +kernel
theorem dL_law_607 : decode cL_law 607 = .ok (.aload_n 2, 1) := by decide +kernel
theorem dL_law_608 : decode cL_law 608 = .ok (.invokevirtual 144, 3) := by decide +kernel
theorem dL_law_611 : decode cL_law 611 = .ok (.istore 7, 2) := by decide +kernel
theorem dL_law_613 : decode cL_law 613 = .ok (.aload_n 2, 1) := by decide +kernel
theorem dL_law_614 : decode cL_law 614 = .ok (.invokevirtual 121, 3) := by decide +kernel
theorem dL_law_617 : decode cL_law 617 = .ok (.iload 6, 2) := by decide +kernel
theorem dL_law_619 : decode cL_law 619 = .ok (.if_icmp .eq 5, 3) := by decide +kernel
theorem dL_law_622 : decode cL_law 622 = .ok (.iconst 0, 1) := by decide +kernel
theorem dL_law_623 : decode cL_law 623 = .ok (.ireturn, 1) := by decide +kernel
theorem dL_law_624 : decode cL_law 624 = .ok (.iload 6, 2) := by decide +kernel
theorem dL_law_626 : decode cL_law 626 = .ok (.ifCond .ne 15, 3) := by decide +kernel
theorem dL_law_629 : decode cL_law 629 = .ok (.aload_n 3, 1) := by decide +kernel
theorem dL_law_630 : decode cL_law 630 = .ok (.iconst 0, 1) := by decide +kernel
theorem dL_law_631 : decode cL_law 631 = .ok (.laload, 1) := by decide +kernel
theorem dL_law_632 : decode cL_law 632 = .ok (.iload 7, 2) := by decide +kernel
theorem dL_law_634 : decode cL_law 634 = .ok (.i2l, 1) := by decide +kernel
theorem dL_law_635 : decode cL_law 635 = .ok (.lcmp, 1) := by decide +kernel
theorem dL_law_636 : decode cL_law 636 = .ok (.ifCond .eq 5, 3) := by decide +kernel
theorem dL_law_639 : decode cL_law 639 = .ok (.iconst 0, 1) := by decide +kernel
theorem dL_law_640 : decode cL_law 640 = .ok (.ireturn, 1) := by decide +kernel
theorem dL_law_641 : decode cL_law 641 = .ok (.goto 1382, 3) := by decide +kernel
theorem dL_law_644 : decode cL_law 644 = .ok (.aload_n 1, 1) := by decide +kernel
theorem dL_law_645 : decode cL_law 645 = .ok (.aload_n 0, 1) := by decide +kernel
theorem dL_law_646 : decode cL_law 646 = .ok (.iload 5, 2) := by decide +kernel
theorem dL_law_648 : decode cL_law 648 = .ok (.iconst 1, 1) := by decide +kernel
theorem dL_law_649 : decode cL_law 649 = .ok (.iadd, 1) := by decide +kernel
theorem dL_law_650 : decode cL_law 650 = .ok (.iaload, 1) := by decide +kernel
theorem dL_law_651 : decode cL_law 651 = .ok (.aload_n 0, 1) := by decide +kernel
theorem dL_law_652 : decode cL_law 652 = .ok (.iload 5, 2) := by decide +kernel
theorem dL_law_654 : decode cL_law 654 = .ok (.iconst 2, 1) := by decide +kernel
theorem dL_law_655 : decode cL_law 655 = .ok (.iadd, 1) := by decide +kernel
theorem dL_law_656 : decode cL_law 656 = .ok (.iaload, 1) := by decide +kernel
theorem dL_law_657 : decode cL_law 657 = .ok (.aload_n 3, 1) := by decide +kernel
theorem dL_law_658 : decode cL_law 658 = .ok (.invokestatic 145, 3) := by decide +kernel
theorem dL_law_661 : decode cL_law 661 = .ok (.istore 6, 2) := by decide +kernel
theorem dL_law_663 : decode cL_law 663 = .ok (.aload_n 2, 1) := by decide +kernel
theorem dL_law_664 : decode cL_law 664 = .ok (.aload_n 0, 1) := by decide +kernel
theorem dL_law_665 : decode cL_law 665 = .ok (.iload 5, 2) := by decide +kernel
theorem dL_law_667 : decode cL_law 667 = .ok (.iconst 1, 1) := by decide +kernel
theorem dL_law_668 : decode cL_law 668 = .ok (.iadd, 1) := by decide +kernel
theorem dL_law_669 : decode cL_law 669 = .ok (.iaload, 1) := by decide +kernel
theorem dL_law_670 : decode cL_law 670 = .ok (.aload_n 0, 1) := by decide +kernel
theorem dL_law_671 : decode cL_law 671 = .ok (.iload 5, 2) := by decide +kernel
theorem dL_law_673 : decode cL_law 673 = .ok (.iconst 2, 1) := by decide +kernel
theorem dL_law_674 : decode cL_law 674 = .ok (.iadd, 1) := by decide +kernel
theorem dL_law_675 : decode cL_law 675 = .ok (.iaload, 1) := by decide +kernel
theorem dL_law_676 : decode cL_law 676 = .ok (.invokevirtual 147, 3) := by decide +kernel
theorem dL_law_679 : decode cL_law 679 = .ok (.istore 7, 2) := by decide +kernel
theorem dL_law_681 : decode cL_law 681 = .ok (.aload_n 2, 1) := by decide +kernel
theorem dL_law_682 : decode cL_law 682 = .ok (.invokevirtual 121, 3) := by decide +kernel
theorem dL_law_685 : decode cL_law 685 = .ok (.iload 6, 2) := by decide +kernel
theorem dL_law_687 : decode cL_law 687 = .ok (.if_icmp .eq 5, 3) := by decide +kernel
theorem dL_law_690 : decode cL_law 690 = .ok (.iconst 0, 1) := by decide +kernel
theorem dL_law_691 : decode cL_law 691 = .ok (.ireturn, 1) := by decide +kernel
theorem dL_law_692 : decode cL_law 692 = .ok (.iload 6, 2) := by decide +kernel
theorem dL_law_694 : decode cL_law 694 = .ok (.ifCond .ne 15, 3) := by decide +kernel
theorem dL_law_697 : decode cL_law 697 = .ok (.aload_n 3, 1) := by decide +kernel
theorem dL_law_698 : decode cL_law 698 = .ok (.iconst 0, 1) := by decide +kernel
theorem dL_law_699 : decode cL_law 699 = .ok (.laload, 1) := by decide +kernel
theorem dL_law_700 : decode cL_law 700 = .ok (.iload 7, 2) := by decide +kernel
theorem dL_law_702 : decode cL_law 702 = .ok (.i2l, 1) := by decide +kernel
theorem dL_law_703 : decode cL_law 703 = .ok (.lcmp, 1) := by decide +kernel
theorem dL_law_704 : decode cL_law 704 = .ok (.ifCond .eq 5, 3) := by decide +kernel
theorem dL_law_707 : decode cL_law 707 = .ok (.iconst 0, 1) := by decide +kernel
theorem dL_law_708 : decode cL_law 708 = .ok (.ireturn, 1) := by decide +kernel
theorem dL_law_709 : decode cL_law 709 = .ok (.goto 1314, 3) := by decide +kernel
theorem dL_law_712 : decode cL_law 712 = .ok (.aload_n 1, 1) := by decide +kernel
theorem dL_law_713 : decode cL_law 713 = .ok (.aload_n 0, 1) := by decide +kernel
theorem dL_law_714 : decode cL_law 714 = .ok (.iload 5, 2) := by decide +kernel
theorem dL_law_716 : decode cL_law 716 = .ok (.iconst 1, 1) := by decide +kernel
theorem dL_law_717 : decode cL_law 717 = .ok (.iadd, 1) := by decide +kernel
theorem dL_law_718 : decode cL_law 718 = .ok (.iaload, 1) := by decide +kernel
theorem dL_law_719 : decode cL_law 719 = .ok (.aload_n 0, 1) := by decide +kernel
theorem dL_law_720 : decode cL_law 720 = .ok (.iload 5, 2) := by decide +kernel
theorem dL_law_722 : decode cL_law 722 = .ok (.iconst 2, 1) := by decide +kernel
theorem dL_law_723 : decode cL_law 723 = .ok (.iadd, 1) := by decide +kernel
theorem dL_law_724 : decode cL_law 724 = .ok (.iaload, 1) := by decide +kernel
theorem dL_law_725 : decode cL_law 725 = .ok (.aload_n 3, 1) := by decide +kernel
theorem dL_law_726 : decode cL_law 726 = .ok (.invokestatic 148, 3) := by decide +kernel
theorem dL_law_729 : decode cL_law 729 = .ok (.istore 6, 2) := by decide +kernel
theorem dL_law_731 : decode cL_law 731 = .ok (.aload_n 2, 1) := by decide +kernel
theorem dL_law_732 : decode cL_law 732 = .ok (.aload_n 0, 1) := by decide +kernel
theorem dL_law_733 : decode cL_law 733 = .ok (.iload 5, 2) := by decide +kernel
theorem dL_law_735 : decode cL_law 735 = .ok (.iconst 1, 1) := by decide +kernel
theorem dL_law_736 : decode cL_law 736 = .ok (.iadd, 1) := by decide +kernel
theorem dL_law_737 : decode cL_law 737 = .ok (.iaload, 1) := by decide +kernel
theorem dL_law_738 : decode cL_law 738 = .ok (.aload_n 0, 1) := by decide +kernel
theorem dL_law_739 : decode cL_law 739 = .ok (.iload 5, 2) := by decide +kernel
theorem dL_law_741 : decode cL_law 741 = .ok (.iconst 2, 1) := by decide +kernel
theorem dL_law_742 : decode cL_law 742 = .ok (.iadd, 1) := by decide +kernel
theorem dL_law_743 : decode cL_law 743 = .ok (.iaload, 1) := by decide +kernel
theorem dL_law_744 : decode cL_law 744 = .ok (.invokevirtual 150, 3) := by decide +kernel
theorem dL_law_747 : decode cL_law 747 = .ok (.istore 7, 2) := by decide +kernel
theorem dL_law_749 : decode cL_law 749 = .ok (.aload_n 2, 1) := by decide +kernel
theorem dL_law_750 : decode cL_law 750 = .ok (.invokevirtual 121, 3) := by decide +kernel
theorem dL_law_753 : decode cL_law 753 = .ok (.iload 6, 2) := by decide +kernel
theorem dL_law_755 : decode cL_law 755 = .ok (.if_icmp .eq 5, 3) := by decide +kernel
theorem dL_law_758 : decode cL_law 758 = .ok (.iconst 0, 1) := by decide +kernel
theorem dL_law_759 : decode cL_law 759 = .ok (.ireturn, 1) := by decide +kernel
theorem dL_law_760 : decode cL_law 760 = .ok (.iload 6, 2) := by decide +kernel
theorem dL_law_762 : decode cL_law 762 = .ok (.ifCond .ne 15, 3) := by decide +kernel
theorem dL_law_765 : decode cL_law 765 = .ok (.aload_n 3, 1) := by decide +kernel
theorem dL_law_766 : decode cL_law 766 = .ok (.iconst 0, 1) := by decide +kernel
theorem dL_law_767 : decode cL_law 767 = .ok (.laload, 1) := by decide +kernel
theorem dL_law_768 : decode cL_law 768 = .ok (.iload 7, 2) := by decide +kernel
theorem dL_law_770 : decode cL_law 770 = .ok (.i2l, 1) := by decide +kernel
theorem dL_law_771 : decode cL_law 771 = .ok (.lcmp, 1) := by decide +kernel
theorem dL_law_772 : decode cL_law 772 = .ok (.ifCond .eq 5, 3) := by decide +kernel
theorem dL_law_775 : decode cL_law 775 = .ok (.iconst 0, 1) := by decide +kernel
theorem dL_law_776 : decode cL_law 776 = .ok (.ireturn, 1) := by decide +kernel
theorem dL_law_777 : decode cL_law 777 = .ok (.goto 1246, 3) := by decide +kernel
theorem dL_law_780 : decode cL_law 780 = .ok (.aload_n 1, 1) := by decide +kernel
theorem dL_law_781 : decode cL_law 781 = .ok (.aload_n 0, 1) := by decide +kernel
theorem dL_law_782 : decode cL_law 782 = .ok (.iload 5, 2) := by decide +kernel
theorem dL_law_784 : decode cL_law 784 = .ok (.iconst 1, 1) := by decide +kernel
theorem dL_law_785 : decode cL_law 785 = .ok (.iadd, 1) := by decide +kernel
theorem dL_law_786 : decode cL_law 786 = .ok (.iaload, 1) := by decide +kernel
theorem dL_law_787 : decode cL_law 787 = .ok (.aload_n 0, 1) := by decide +kernel
theorem dL_law_788 : decode cL_law 788 = .ok (.iload 5, 2) := by decide +kernel
theorem dL_law_790 : decode cL_law 790 = .ok (.iconst 2, 1) := by decide +kernel
theorem dL_law_791 : decode cL_law 791 = .ok (.iadd, 1) := by decide +kernel
theorem dL_law_792 : decode cL_law 792 = .ok (.iaload, 1) := by decide +kernel
theorem dL_law_793 : decode cL_law 793 = .ok (.aload_n 0, 1) := by decide +kernel
theorem dL_law_794 : decode cL_law 794 = .ok (.iload 5, 2) := by decide +kernel
theorem dL_law_796 : decode cL_law 796 = .ok (.iconst 3, 1) := by decide +kernel
theorem dL_law_797 : decode cL_law 797 = .ok (.iadd, 1) := by decide +kernel
theorem dL_law_798 : decode cL_law 798 = .ok (.iaload, 1) := by decide +kernel
theorem dL_law_799 : decode cL_law 799 = .ok (.aload_n 0, 1) := by decide +kernel
theorem dL_law_800 : decode cL_law 800 = .ok (.iload 5, 2) := by decide +kernel
theorem dL_law_802 : decode cL_law 802 = .ok (.iconst 4, 1) := by decide +kernel
theorem dL_law_803 : decode cL_law 803 = .ok (.iadd, 1) := by decide +kernel
theorem dL_law_804 : decode cL_law 804 = .ok (.iaload, 1) := by decide +kernel
theorem dL_law_805 : decode cL_law 805 = .ok (.aload_n 0, 1) := by decide +kernel
theorem dL_law_806 : decode cL_law 806 = .ok (.iload 5, 2) := by decide +kernel
theorem dL_law_808 : decode cL_law 808 = .ok (.iconst 5, 1) := by decide +kernel
theorem dL_law_809 : decode cL_law 809 = .ok (.iadd, 1) := by decide +kernel
theorem dL_law_810 : decode cL_law 810 = .ok (.iaload, 1) := by decide +kernel
theorem dL_law_811 : decode cL_law 811 = .ok (.ifCond .eq 7, 3) := by decide +kernel
theorem dL_law_814 : decode cL_law 814 = .ok (.iconst 1, 1) := by decide +kernel
theorem dL_law_815 : decode cL_law 815 = .ok (.goto 4, 3) := by decide +kernel
theorem dL_law_818 : decode cL_law 818 = .ok (.iconst 0, 1) := by decide +kernel
theorem dL_law_819 : decode cL_law 819 = .ok (.aload_n 3, 1) := by decide +kernel
theorem dL_law_820 : decode cL_law 820 = .ok (.invokestatic 151, 3) := by decide +kernel
theorem dL_law_823 : decode cL_law 823 = .ok (.istore 6, 2) := by decide +kernel
theorem dL_law_825 : decode cL_law 825 = .ok (.aload_n 2, 1) := by decide +kernel
theorem dL_law_826 : decode cL_law 826 = .ok (.aload_n 0, 1) := by decide +kernel
theorem dL_law_827 : decode cL_law 827 = .ok (.iload 5, 2) := by decide +kernel
theorem dL_law_829 : decode cL_law 829 = .ok (.iconst 1, 1) := by decide +kernel
theorem dL_law_830 : decode cL_law 830 = .ok (.iadd, 1) := by decide +kernel
theorem dL_law_831 : decode cL_law 831 = .ok (.iaload, 1) := by decide +kernel
theorem dL_law_832 : decode cL_law 832 = .ok (.aload_n 0, 1) := by decide +kernel
theorem dL_law_833 : decode cL_law 833 = .ok (.iload 5, 2) := by decide +kernel
theorem dL_law_835 : decode cL_law 835 = .ok (.iconst 2, 1) := by decide +kernel
theorem dL_law_836 : decode cL_law 836 = .ok (.iadd, 1) := by decide +kernel
theorem dL_law_837 : decode cL_law 837 = .ok (.iaload, 1) := by decide +kernel
theorem dL_law_838 : decode cL_law 838 = .ok (.aload_n 0, 1) := by decide +kernel
theorem dL_law_839 : decode cL_law 839 = .ok (.iload 5, 2) := by decide +kernel
theorem dL_law_841 : decode cL_law 841 = .ok (.iconst 3, 1) := by decide +kernel
theorem dL_law_842 : decode cL_law 842 = .ok (.iadd, 1) := by decide +kernel
theorem dL_law_843 : decode cL_law 843 = .ok (.iaload, 1) := by decide +kernel
theorem dL_law_844 : decode cL_law 844 = .ok (.aload_n 0, 1) := by decide +kernel
theorem dL_law_845 : decode cL_law 845 = .ok (.iload 5, 2) := by decide +kernel
theorem dL_law_847 : decode cL_law 847 = .ok (.iconst 4, 1) := by decide +kernel
theorem dL_law_848 : decode cL_law 848 = .ok (.iadd, 1) := by decide +kernel
theorem dL_law_849 : decode cL_law 849 = .ok (.iaload, 1) := by decide +kernel
theorem dL_law_850 : decode cL_law 850 = .ok (.aload_n 0, 1) := by decide +kernel
theorem dL_law_851 : decode cL_law 851 = .ok (.iload 5, 2) := by decide +kernel
theorem dL_law_853 : decode cL_law 853 = .ok (.iconst 5, 1) := by decide +kernel
theorem dL_law_854 : decode cL_law 854 = .ok (.iadd, 1) := by decide +kernel
theorem dL_law_855 : decode cL_law 855 = .ok (.iaload, 1) := by decide +kernel
theorem dL_law_856 : decode cL_law 856 = .ok (.ifCond .eq 7, 3) := by decide +kernel
theorem dL_law_859 : decode cL_law 859 = .ok (.iconst 1, 1) := by decide +kernel
theorem dL_law_860 : decode cL_law 860 = .ok (.goto 4, 3) := by decide +kernel
theorem dL_law_863 : decode cL_law 863 = .ok (.iconst 0, 1) := by decide +kernel
theorem dL_law_864 : decode cL_law 864 = .ok (.invokevirtual 154, 3) := by decide +kernel
theorem dL_law_867 : decode cL_law 867 = .ok (.istore 7, 2) := by decide +kernel
theorem dL_law_869 : decode cL_law 869 = .ok (.aload_n 2, 1) := by decide +kernel
theorem dL_law_870 : decode cL_law 870 = .ok (.invokevirtual 121, 3) := by decide +kernel
theorem dL_law_873 : decode cL_law 873 = .ok (.iload 6, 2) := by decide +kernel
theorem dL_law_875 : decode cL_law 875 = .ok (.if_icmp .eq 5, 3) := by decide +kernel
theorem dL_law_878 : decode cL_law 878 = .ok (.iconst 0, 1) := by decide +kernel
theorem dL_law_879 : decode cL_law 879 = .ok (.ireturn, 1) := by decide +kernel
theorem dL_law_880 : decode cL_law 880 = .ok (.iload 6, 2) := by decide +kernel
theorem dL_law_882 : decode cL_law 882 = .ok (.ifCond .ne 15, 3) := by decide +kernel
theorem dL_law_885 : decode cL_law 885 = .ok (.aload_n 3, 1) := by decide +kernel
theorem dL_law_886 : decode cL_law 886 = .ok (.iconst 0, 1) := by decide +kernel
theorem dL_law_887 : decode cL_law 887 = .ok (.laload, 1) := by decide +kernel
theorem dL_law_888 : decode cL_law 888 = .ok (.iload 7, 2) := by decide +kernel
theorem dL_law_890 : decode cL_law 890 = .ok (.i2l, 1) := by decide +kernel
theorem dL_law_891 : decode cL_law 891 = .ok (.lcmp, 1) := by decide +kernel
theorem dL_law_892 : decode cL_law 892 = .ok (.ifCond .eq 5, 3) := by decide +kernel
theorem dL_law_895 : decode cL_law 895 = .ok (.iconst 0, 1) := by decide +kernel
theorem dL_law_896 : decode cL_law 896 = .ok (.ireturn, 1) := by decide +kernel
theorem dL_law_897 : decode cL_law 897 = .ok (.goto 1126, 3) := by decide +kernel
theorem dL_law_900 : decode cL_law 900 = .ok (.aload_n 1, 1) := by decide +kernel
theorem dL_law_901 : decode cL_law 901 = .ok (.aload_n 0, 1) := by decide +kernel
theorem dL_law_902 : decode cL_law 902 = .ok (.iload 5, 2) := by decide +kernel
theorem dL_law_904 : decode cL_law 904 = .ok (.iconst 1, 1) := by decide +kernel
theorem dL_law_905 : decode cL_law 905 = .ok (.iadd, 1) := by decide +kernel
theorem dL_law_906 : decode cL_law 906 = .ok (.iaload, 1) := by decide +kernel
theorem dL_law_907 : decode cL_law 907 = .ok (.aload_n 0, 1) := by decide +kernel
theorem dL_law_908 : decode cL_law 908 = .ok (.iload 5, 2) := by decide +kernel
theorem dL_law_910 : decode cL_law 910 = .ok (.iconst 2, 1) := by decide +kernel
theorem dL_law_911 : decode cL_law 911 = .ok (.iadd, 1) := by decide +kernel
theorem dL_law_912 : decode cL_law 912 = .ok (.iaload, 1) := by decide +kernel
theorem dL_law_913 : decode cL_law 913 = .ok (.aload_n 3, 1) := by decide +kernel
theorem dL_law_914 : decode cL_law 914 = .ok (.invokestatic 155, 3) := by decide +kernel
theorem dL_law_917 : decode cL_law 917 = .ok (.istore 6, 2) := by decide +kernel
theorem dL_law_919 : decode cL_law 919 = .ok (.aload_n 2, 1) := by decide +kernel
theorem dL_law_920 : decode cL_law 920 = .ok (.aload_n 0, 1) := by decide +kernel
theorem dL_law_921 : decode cL_law 921 = .ok (.iload 5, 2) := by decide +kernel
theorem dL_law_923 : decode cL_law 923 = .ok (.iconst 1, 1) := by decide +kernel
theorem dL_law_924 : decode cL_law 924 = .ok (.iadd, 1) := by decide +kernel
theorem dL_law_925 : decode cL_law 925 = .ok (.iaload, 1) := by decide +kernel
theorem dL_law_926 : decode cL_law 926 = .ok (.aload_n 0, 1) := by decide +kernel
theorem dL_law_927 : decode cL_law 927 = .ok (.iload 5, 2) := by decide +kernel
theorem dL_law_929 : decode cL_law 929 = .ok (.iconst 2, 1) := by decide +kernel
theorem dL_law_930 : decode cL_law 930 = .ok (.iadd, 1) := by decide +kernel
theorem dL_law_931 : decode cL_law 931 = .ok (.iaload, 1) := by decide +kernel
theorem dL_law_932 : decode cL_law 932 = .ok (.invokevirtual 157, 3) := by decide +kernel
theorem dL_law_935 : decode cL_law 935 = .ok (.istore 7, 2) := by decide +kernel
theorem dL_law_937 : decode cL_law 937 = .ok (.aload_n 2, 1) := by decide +kernel
theorem dL_law_938 : decode cL_law 938 = .ok (.invokevirtual 121, 3) := by decide +kernel
theorem dL_law_941 : decode cL_law 941 = .ok (.iload 6, 2) := by decide +kernel
theorem dL_law_943 : decode cL_law 943 = .ok (.if_icmp .eq 5, 3) := by decide +kernel
theorem dL_law_946 : decode cL_law 946 = .ok (.iconst 0, 1) := by decide +kernel
theorem dL_law_947 : decode cL_law 947 = .ok (.ireturn, 1) := by decide +kernel
theorem dL_law_948 : decode cL_law 948 = .ok (.iload 6, 2) := by decide +kernel
theorem dL_law_950 : decode cL_law 950 = .ok (.ifCond .ne 15, 3) := by decide +kernel
theorem dL_law_953 : decode cL_law 953 = .ok (.aload_n 3, 1) := by decide +kernel
theorem dL_law_954 : decode cL_law 954 = .ok (.iconst 0, 1) := by decide +kernel
theorem dL_law_955 : decode cL_law 955 = .ok (.laload, 1) := by decide +kernel
theorem dL_law_956 : decode cL_law 956 = .ok (.iload 7, 2) := by decide +kernel
theorem dL_law_958 : decode cL_law 958 = .ok (.i2l, 1) := by decide +kernel
theorem dL_law_959 : decode cL_law 959 = .ok (.lcmp, 1) := by decide +kernel
theorem dL_law_960 : decode cL_law 960 = .ok (.ifCond .eq 5, 3) := by decide +kernel
theorem dL_law_963 : decode cL_law 963 = .ok (.iconst 0, 1) := by decide +kernel
theorem dL_law_964 : decode cL_law 964 = .ok (.ireturn, 1) := by decide +kernel
theorem dL_law_965 : decode cL_law 965 = .ok (.goto 1058, 3) := by decide +kernel
theorem dL_law_968 : decode cL_law 968 = .ok (.aload_n 1, 1) := by decide +kernel
theorem dL_law_969 : decode cL_law 969 = .ok (.aload_n 0, 1) := by decide +kernel
theorem dL_law_970 : decode cL_law 970 = .ok (.iload 5, 2) := by decide +kernel
theorem dL_law_972 : decode cL_law 972 = .ok (.iconst 1, 1) := by decide +kernel
theorem dL_law_973 : decode cL_law 973 = .ok (.iadd, 1) := by decide +kernel
theorem dL_law_974 : decode cL_law 974 = .ok (.iaload, 1) := by decide +kernel
theorem dL_law_975 : decode cL_law 975 = .ok (.aload_n 0, 1) := by decide +kernel
theorem dL_law_976 : decode cL_law 976 = .ok (.iload 5, 2) := by decide +kernel
theorem dL_law_978 : decode cL_law 978 = .ok (.iconst 2, 1) := by decide +kernel
theorem dL_law_979 : decode cL_law 979 = .ok (.iadd, 1) := by decide +kernel
theorem dL_law_980 : decode cL_law 980 = .ok (.iaload, 1) := by decide +kernel
theorem dL_law_981 : decode cL_law 981 = .ok (.aload_n 3, 1) := by decide +kernel
theorem dL_law_982 : decode cL_law 982 = .ok (.invokestatic 158, 3) := by decide +kernel
theorem dL_law_985 : decode cL_law 985 = .ok (.istore 6, 2) := by decide +kernel
theorem dL_law_987 : decode cL_law 987 = .ok (.aload_n 2, 1) := by decide +kernel
theorem dL_law_988 : decode cL_law 988 = .ok (.aload_n 0, 1) := by decide +kernel
theorem dL_law_989 : decode cL_law 989 = .ok (.iload 5, 2) := by decide +kernel
theorem dL_law_991 : decode cL_law 991 = .ok (.iconst 1, 1) := by decide +kernel
theorem dL_law_992 : decode cL_law 992 = .ok (.iadd, 1) := by decide +kernel
theorem dL_law_993 : decode cL_law 993 = .ok (.iaload, 1) := by decide +kernel
theorem dL_law_994 : decode cL_law 994 = .ok (.aload_n 0, 1) := by decide +kernel
theorem dL_law_995 : decode cL_law 995 = .ok (.iload 5, 2) := by decide +kernel
theorem dL_law_997 : decode cL_law 997 = .ok (.iconst 2, 1) := by decide +kernel
theorem dL_law_998 : decode cL_law 998 = .ok (.iadd, 1) := by decide +kernel
theorem dL_law_999 : decode cL_law 999 = .ok (.iaload, 1) := by decide +kernel
theorem dL_law_1000 : decode cL_law 1000 = .ok (.invokevirtual 160, 3) := by decide +kernel
theorem dL_law_1003 : decode cL_law 1003 = .ok (.istore 7, 2) := by decide +kernel
theorem dL_law_1005 : decode cL_law 1005 = .ok (.aload_n 2, 1) := by decide +kernel
theorem dL_law_1006 : decode cL_law 1006 = .ok (.invokevirtual 121, 3) := by decide +kernel
theorem dL_law_1009 : decode cL_law 1009 = .ok (.iload 6, 2) := by decide +kernel
theorem dL_law_1011 : decode cL_law 1011 = .ok (.if_icmp .eq 5, 3) := by decide +kernel
theorem dL_law_1014 : decode cL_law 1014 = .ok (.iconst 0, 1) := by decide +kernel
theorem dL_law_1015 : decode cL_law 1015 = .ok (.ireturn, 1) := by decide +kernel
theorem dL_law_1016 : decode cL_law 1016 = .ok (.iload 6, 2) := by decide +kernel
theorem dL_law_1018 : decode cL_law 1018 = .ok (.ifCond .ne 15, 3) := by decide +kernel
theorem dL_law_1021 : decode cL_law 1021 = .ok (.aload_n 3, 1) := by decide +kernel
theorem dL_law_1022 : decode cL_law 1022 = .ok (.iconst 0, 1) := by decide +kernel
theorem dL_law_1023 : decode cL_law 1023 = .ok (.laload, 1) := by decide +kernel
theorem dL_law_1024 : decode cL_law 1024 = .ok (.iload 7, 2) := by decide +kernel
theorem dL_law_1026 : decode cL_law 1026 = .ok (.i2l, 1) := by decide +kernel
theorem dL_law_1027 : decode cL_law 1027 = .ok (.lcmp, 1) := by decide +kernel
theorem dL_law_1028 : decode cL_law 1028 = .ok (.ifCond .eq 5, 3) := by decide +kernel
theorem dL_law_1031 : decode cL_law 1031 = .ok (.iconst 0, 1) := by decide +kernel
theorem dL_law_1032 : decode cL_law 1032 = .ok (.ireturn, 1) := by decide +kernel
theorem dL_law_1033 : decode cL_law 1033 = .ok (.goto 990, 3) := by decide +kernel
theorem dL_law_1036 : decode cL_law 1036 = .ok (.aload_n 1, 1) := by decide +kernel
theorem dL_law_1037 : decode cL_law 1037 = .ok (.aload_n 0, 1) := by decide +kernel
theorem dL_law_1038 : decode cL_law 1038 = .ok (.iload 5, 2) := by decide +kernel
theorem dL_law_1040 : decode cL_law 1040 = .ok (.iconst 1, 1) := by decide +kernel
theorem dL_law_1041 : decode cL_law 1041 = .ok (.iadd, 1) := by decide +kernel
theorem dL_law_1042 : decode cL_law 1042 = .ok (.iaload, 1) := by decide +kernel
theorem dL_law_1043 : decode cL_law 1043 = .ok (.aload_n 0, 1) := by decide +kernel
theorem dL_law_1044 : decode cL_law 1044 = .ok (.iload 5, 2) := by decide +kernel
theorem dL_law_1046 : decode cL_law 1046 = .ok (.iconst 2, 1) := by decide +kernel
theorem dL_law_1047 : decode cL_law 1047 = .ok (.iadd, 1) := by decide +kernel
theorem dL_law_1048 : decode cL_law 1048 = .ok (.iaload, 1) := by decide +kernel
theorem dL_law_1049 : decode cL_law 1049 = .ok (.aload_n 0, 1) := by decide +kernel
theorem dL_law_1050 : decode cL_law 1050 = .ok (.iload 5, 2) := by decide +kernel
theorem dL_law_1052 : decode cL_law 1052 = .ok (.iconst 3, 1) := by decide +kernel
theorem dL_law_1053 : decode cL_law 1053 = .ok (.iadd, 1) := by decide +kernel
theorem dL_law_1054 : decode cL_law 1054 = .ok (.iaload, 1) := by decide +kernel
theorem dL_law_1055 : decode cL_law 1055 = .ok (.aload_n 0, 1) := by decide +kernel
theorem dL_law_1056 : decode cL_law 1056 = .ok (.iload 5, 2) := by decide +kernel
theorem dL_law_1058 : decode cL_law 1058 = .ok (.iconst 4, 1) := by decide +kernel
theorem dL_law_1059 : decode cL_law 1059 = .ok (.iadd, 1) := by decide +kernel
theorem dL_law_1060 : decode cL_law 1060 = .ok (.iaload, 1) := by decide +kernel
theorem dL_law_1061 : decode cL_law 1061 = .ok (.aload_n 3, 1) := by decide +kernel
theorem dL_law_1062 : decode cL_law 1062 = .ok (.invokestatic 161, 3) := by decide +kernel
theorem dL_law_1065 : decode cL_law 1065 = .ok (.istore 6, 2) := by decide +kernel
theorem dL_law_1067 : decode cL_law 1067 = .ok (.aload_n 2, 1) := by decide +kernel
theorem dL_law_1068 : decode cL_law 1068 = .ok (.aload_n 0, 1) := by decide +kernel
theorem dL_law_1069 : decode cL_law 1069 = .ok (.iload 5, 2) := by decide +kernel
theorem dL_law_1071 : decode cL_law 1071 = .ok (.iconst 1, 1) := by decide +kernel
theorem dL_law_1072 : decode cL_law 1072 = .ok (.iadd, 1) := by decide +kernel
theorem dL_law_1073 : decode cL_law 1073 = .ok (.iaload, 1) := by decide +kernel
theorem dL_law_1074 : decode cL_law 1074 = .ok (.aload_n 0, 1) := by decide +kernel
theorem dL_law_1075 : decode cL_law 1075 = .ok (.iload 5, 2) := by decide +kernel
theorem dL_law_1077 : decode cL_law 1077 = .ok (.iconst 2, 1) := by decide +kernel
theorem dL_law_1078 : decode cL_law 1078 = .ok (.iadd, 1) := by decide +kernel
theorem dL_law_1079 : decode cL_law 1079 = .ok (.iaload, 1) := by decide +kernel
theorem dL_law_1080 : decode cL_law 1080 = .ok (.aload_n 0, 1) := by decide +kernel
theorem dL_law_1081 : decode cL_law 1081 = .ok (.iload 5, 2) := by decide +kernel
theorem dL_law_1083 : decode cL_law 1083 = .ok (.iconst 3, 1) := by decide +kernel
theorem dL_law_1084 : decode cL_law 1084 = .ok (.iadd, 1) := by decide +kernel
theorem dL_law_1085 : decode cL_law 1085 = .ok (.iaload, 1) := by decide +kernel
theorem dL_law_1086 : decode cL_law 1086 = .ok (.aload_n 0, 1) := by decide +kernel
theorem dL_law_1087 : decode cL_law 1087 = .ok (.iload 5, 2) := by decide +kernel
theorem dL_law_1089 : decode cL_law 1089 = .ok (.iconst 4, 1) := by decide +kernel
theorem dL_law_1090 : decode cL_law 1090 = .ok (.iadd, 1) := by decide +kernel
theorem dL_law_1091 : decode cL_law 1091 = .ok (.iaload, 1) := by decide +kernel
theorem dL_law_1092 : decode cL_law 1092 = .ok (.invokevirtual 163, 3) := by decide +kernel
theorem dL_law_1095 : decode cL_law 1095 = .ok (.istore 7, 2) := by decide +kernel
theorem dL_law_1097 : decode cL_law 1097 = .ok (.aload_n 2, 1) := by decide +kernel
theorem dL_law_1098 : decode cL_law 1098 = .ok (.invokevirtual 121, 3) := by decide +kernel
theorem dL_law_1101 : decode cL_law 1101 = .ok (.iload 6, 2) := by decide +kernel
theorem dL_law_1103 : decode cL_law 1103 = .ok (.if_icmp .eq 5, 3) := by decide +kernel
theorem dL_law_1106 : decode cL_law 1106 = .ok (.iconst 0, 1) := by decide +kernel
theorem dL_law_1107 : decode cL_law 1107 = .ok (.ireturn, 1) := by decide +kernel
theorem dL_law_1108 : decode cL_law 1108 = .ok (.iload 6, 2) := by decide +kernel
theorem dL_law_1110 : decode cL_law 1110 = .ok (.ifCond .ne 15, 3) := by decide +kernel
theorem dL_law_1113 : decode cL_law 1113 = .ok (.aload_n 3, 1) := by decide +kernel
theorem dL_law_1114 : decode cL_law 1114 = .ok (.iconst 0, 1) := by decide +kernel
theorem dL_law_1115 : decode cL_law 1115 = .ok (.laload, 1) := by decide +kernel
theorem dL_law_1116 : decode cL_law 1116 = .ok (.iload 7, 2) := by decide +kernel
theorem dL_law_1118 : decode cL_law 1118 = .ok (.i2l, 1) := by decide +kernel
theorem dL_law_1119 : decode cL_law 1119 = .ok (.lcmp, 1) := by decide +kernel
theorem dL_law_1120 : decode cL_law 1120 = .ok (.ifCond .eq 5, 3) := by decide +kernel
theorem dL_law_1123 : decode cL_law 1123 = .ok (.iconst 0, 1) := by decide +kernel
theorem dL_law_1124 : decode cL_law 1124 = .ok (.ireturn, 1) := by decide +kernel
theorem dL_law_1125 : decode cL_law 1125 = .ok (.goto 898, 3) := by decide +kernel
theorem dL_law_1128 : decode cL_law 1128 = .ok (.aload_n 1, 1) := by decide +kernel
theorem dL_law_1129 : decode cL_law 1129 = .ok (.aload_n 0, 1) := by decide +kernel
theorem dL_law_1130 : decode cL_law 1130 = .ok (.iload 5, 2) := by decide +kernel
theorem dL_law_1132 : decode cL_law 1132 = .ok (.iconst 1, 1) := by decide +kernel
theorem dL_law_1133 : decode cL_law 1133 = .ok (.iadd, 1) := by decide +kernel
theorem dL_law_1134 : decode cL_law 1134 = .ok (.iaload, 1) := by decide +kernel
theorem dL_law_1135 : decode cL_law 1135 = .ok (.aload_n 0, 1) := by decide +kernel
theorem dL_law_1136 : decode cL_law 1136 = .ok (.iload 5, 2) := by decide +kernel
theorem dL_law_1138 : decode cL_law 1138 = .ok (.iconst 2, 1) := by decide +kernel
theorem dL_law_1139 : decode cL_law 1139 = .ok (.iadd, 1) := by decide +kernel
theorem dL_law_1140 : decode cL_law 1140 = .ok (.iaload, 1) := by decide +kernel
theorem dL_law_1141 : decode cL_law 1141 = .ok (.aload_n 3, 1) := by decide +kernel
theorem dL_law_1142 : decode cL_law 1142 = .ok (.invokestatic 164, 3) := by decide +kernel
theorem dL_law_1145 : decode cL_law 1145 = .ok (.istore 6, 2) := by decide +kernel
theorem dL_law_1147 : decode cL_law 1147 = .ok (.aload_n 2, 1) := by decide +kernel
theorem dL_law_1148 : decode cL_law 1148 = .ok (.aload_n 0, 1) := by decide +kernel
theorem dL_law_1149 : decode cL_law 1149 = .ok (.iload 5, 2) := by decide +kernel
theorem dL_law_1151 : decode cL_law 1151 = .ok (.iconst 1, 1) := by decide +kernel
theorem dL_law_1152 : decode cL_law 1152 = .ok (.iadd, 1) := by decide +kernel
theorem dL_law_1153 : decode cL_law 1153 = .ok (.iaload, 1) := by decide +kernel
theorem dL_law_1154 : decode cL_law 1154 = .ok (.aload_n 0, 1) := by decide +kernel
theorem dL_law_1155 : decode cL_law 1155 = .ok (.iload 5, 2) := by decide +kernel
theorem dL_law_1157 : decode cL_law 1157 = .ok (.iconst 2, 1) := by decide +kernel
theorem dL_law_1158 : decode cL_law 1158 = .ok (.iadd, 1) := by decide +kernel
theorem dL_law_1159 : decode cL_law 1159 = .ok (.iaload, 1) := by decide +kernel
theorem dL_law_1160 : decode cL_law 1160 = .ok (.invokevirtual 166, 3) := by decide +kernel
theorem dL_law_1163 : decode cL_law 1163 = .ok (.istore 7, 2) := by decide +kernel
theorem dL_law_1165 : decode cL_law 1165 = .ok (.aload_n 2, 1) := by decide +kernel
theorem dL_law_1166 : decode cL_law 1166 = .ok (.invokevirtual 121, 3) := by decide +kernel
theorem dL_law_1169 : decode cL_law 1169 = .ok (.iload 6, 2) := by decide +kernel
theorem dL_law_1171 : decode cL_law 1171 = .ok (.if_icmp .eq 5, 3) := by decide +kernel
theorem dL_law_1174 : decode cL_law 1174 = .ok (.iconst 0, 1) := by decide +kernel
theorem dL_law_1175 : decode cL_law 1175 = .ok (.ireturn, 1) := by decide +kernel
theorem dL_law_1176 : decode cL_law 1176 = .ok (.iload 6, 2) := by decide +kernel
theorem dL_law_1178 : decode cL_law 1178 = .ok (.ifCond .ne 15, 3) := by decide +kernel
theorem dL_law_1181 : decode cL_law 1181 = .ok (.aload_n 3, 1) := by decide +kernel
theorem dL_law_1182 : decode cL_law 1182 = .ok (.iconst 0, 1) := by decide +kernel
theorem dL_law_1183 : decode cL_law 1183 = .ok (.laload, 1) := by decide +kernel
theorem dL_law_1184 : decode cL_law 1184 = .ok (.iload 7, 2) := by decide +kernel
theorem dL_law_1186 : decode cL_law 1186 = .ok (.i2l, 1) := by decide +kernel
theorem dL_law_1187 : decode cL_law 1187 = .ok (.lcmp, 1) := by decide +kernel
theorem dL_law_1188 : decode cL_law 1188 = .ok (.ifCond .eq 5, 3) := by decide +kernel
theorem dL_law_1191 : decode cL_law 1191 = .ok (.iconst 0, 1) := by decide +kernel
theorem dL_law_1192 : decode cL_law 1192 = .ok (.ireturn, 1) := by decide +kernel
theorem dL_law_1193 : decode cL_law 1193 = .ok (.goto 830, 3) := by decide +kernel
theorem dL_law_1196 : decode cL_law 1196 = .ok (.aload_n 1, 1) := by decide +kernel
theorem dL_law_1197 : decode cL_law 1197 = .ok (.aload_n 0, 1) := by decide +kernel
theorem dL_law_1198 : decode cL_law 1198 = .ok (.iload 5, 2) := by decide +kernel
theorem dL_law_1200 : decode cL_law 1200 = .ok (.iconst 1, 1) := by decide +kernel
theorem dL_law_1201 : decode cL_law 1201 = .ok (.iadd, 1) := by decide +kernel
theorem dL_law_1202 : decode cL_law 1202 = .ok (.iaload, 1) := by decide +kernel
theorem dL_law_1203 : decode cL_law 1203 = .ok (.aload_n 3, 1) := by decide +kernel
theorem dL_law_1204 : decode cL_law 1204 = .ok (.invokestatic 167, 3) := by decide +kernel
theorem dL_law_1207 : decode cL_law 1207 = .ok (.istore 6, 2) := by decide +kernel
theorem dL_law_1209 : decode cL_law 1209 = .ok (.aload_n 2, 1) := by decide +kernel
theorem dL_law_1210 : decode cL_law 1210 = .ok (.aload_n 0, 1) := by decide +kernel
theorem dL_law_1211 : decode cL_law 1211 = .ok (.iload 5, 2) := by decide +kernel
theorem dL_law_1213 : decode cL_law 1213 = .ok (.iconst 1, 1) := by decide +kernel
theorem dL_law_1214 : decode cL_law 1214 = .ok (.iadd, 1) := by decide +kernel
theorem dL_law_1215 : decode cL_law 1215 = .ok (.iaload, 1) := by decide +kernel
theorem dL_law_1216 : decode cL_law 1216 = .ok (.invokevirtual 169, 3) := by decide +kernel
theorem dL_law_1219 : decode cL_law 1219 = .ok (.istore 7, 2) := by decide +kernel
theorem dL_law_1221 : decode cL_law 1221 = .ok (.aload_n 2, 1) := by decide +kernel
theorem dL_law_1222 : decode cL_law 1222 = .ok (.invokevirtual 121, 3) := by decide +kernel
theorem dL_law_1225 : decode cL_law 1225 = .ok (.iload 6, 2) := by decide +kernel
theorem dL_law_1227 : decode cL_law 1227 = .ok (.if_icmp .eq 5, 3) := by decide +kernel
theorem dL_law_1230 : decode cL_law 1230 = .ok (.iconst 0, 1) := by decide +kernel
theorem dL_law_1231 : decode cL_law 1231 = .ok (.ireturn, 1) := by decide +kernel
theorem dL_law_1232 : decode cL_law 1232 = .ok (.iload 6, 2) := by decide +kernel
theorem dL_law_1234 : decode cL_law 1234 = .ok (.ifCond .ne 15, 3) := by decide +kernel
theorem dL_law_1237 : decode cL_law 1237 = .ok (.aload_n 3, 1) := by decide +kernel
theorem dL_law_1238 : decode cL_law 1238 = .ok (.iconst 0, 1) := by decide +kernel
theorem dL_law_1239 : decode cL_law 1239 = .ok (.laload, 1) := by decide +kernel
theorem dL_law_1240 : decode cL_law 1240 = .ok (.iload 7, 2) := by decide +kernel
theorem dL_law_1242 : decode cL_law 1242 = .ok (.i2l, 1) := by decide +kernel
theorem dL_law_1243 : decode cL_law 1243 = .ok (.lcmp, 1) := by decide +kernel
theorem dL_law_1244 : decode cL_law 1244 = .ok (.ifCond .eq 5, 3) := by decide +kernel
theorem dL_law_1247 : decode cL_law 1247 = .ok (.iconst 0, 1) := by decide +kernel
theorem dL_law_1248 : decode cL_law 1248 = .ok (.ireturn, 1) := by decide +kernel
theorem dL_law_1249 : decode cL_law 1249 = .ok (.goto 774, 3) := by decide +kernel
theorem dL_law_1252 : decode cL_law 1252 = .ok (.aload_n 1, 1) := by decide +kernel
theorem dL_law_1253 : decode cL_law 1253 = .ok (.aload_n 3, 1) := by decide +kernel
theorem dL_law_1254 : decode cL_law 1254 = .ok (.invokestatic 170, 3) := by decide +kernel
theorem dL_law_1257 : decode cL_law 1257 = .ok (.istore 6, 2) := by decide +kernel
theorem dL_law_1259 : decode cL_law 1259 = .ok (.aload_n 2, 1) := by decide +kernel
theorem dL_law_1260 : decode cL_law 1260 = .ok (.invokevirtual 172, 3) := by decide +kernel
theorem dL_law_1263 : decode cL_law 1263 = .ok (.istore 7, 2) := by decide +kernel
theorem dL_law_1265 : decode cL_law 1265 = .ok (.aload_n 2, 1) := by decide +kernel
theorem dL_law_1266 : decode cL_law 1266 = .ok (.invokevirtual 121, 3) := by decide +kernel
theorem dL_law_1269 : decode cL_law 1269 = .ok (.iload 6, 2) := by decide +kernel
theorem dL_law_1271 : decode cL_law 1271 = .ok (.if_icmp .eq 5, 3) := by decide +kernel
theorem dL_law_1274 : decode cL_law 1274 = .ok (.iconst 0, 1) := by decide +kernel
theorem dL_law_1275 : decode cL_law 1275 = .ok (.ireturn, 1) := by decide +kernel
theorem dL_law_1276 : decode cL_law 1276 = .ok (.iload 6, 2) := by decide +kernel
theorem dL_law_1278 : decode cL_law 1278 = .ok (.ifCond .ne 15, 3) := by decide +kernel
theorem dL_law_1281 : decode cL_law 1281 = .ok (.aload_n 3, 1) := by decide +kernel
theorem dL_law_1282 : decode cL_law 1282 = .ok (.iconst 0, 1) := by decide +kernel
theorem dL_law_1283 : decode cL_law 1283 = .ok (.laload, 1) := by decide +kernel
theorem dL_law_1284 : decode cL_law 1284 = .ok (.iload 7, 2) := by decide +kernel
theorem dL_law_1286 : decode cL_law 1286 = .ok (.i2l, 1) := by decide +kernel
theorem dL_law_1287 : decode cL_law 1287 = .ok (.lcmp, 1) := by decide +kernel
theorem dL_law_1288 : decode cL_law 1288 = .ok (.ifCond .eq 5, 3) := by decide +kernel
theorem dL_law_1291 : decode cL_law 1291 = .ok (.iconst 0, 1) := by decide +kernel
theorem dL_law_1292 : decode cL_law 1292 = .ok (.ireturn, 1) := by decide +kernel
theorem dL_law_1293 : decode cL_law 1293 = .ok (.goto 730, 3) := by decide +kernel
theorem dL_law_1296 : decode cL_law 1296 = .ok (.aload_n 1, 1) := by decide +kernel
theorem dL_law_1297 : decode cL_law 1297 = .ok (.aload_n 0, 1) := by decide +kernel
theorem dL_law_1298 : decode cL_law 1298 = .ok (.iload 5, 2) := by decide +kernel
theorem dL_law_1300 : decode cL_law 1300 = .ok (.iconst 1, 1) := by decide +kernel
theorem dL_law_1301 : decode cL_law 1301 = .ok (.iadd, 1) := by decide +kernel
theorem dL_law_1302 : decode cL_law 1302 = .ok (.iaload, 1) := by decide +kernel
theorem dL_law_1303 : decode cL_law 1303 = .ok (.aload_n 0, 1) := by decide +kernel
theorem dL_law_1304 : decode cL_law 1304 = .ok (.iload 5, 2) := by decide +kernel
theorem dL_law_1306 : decode cL_law 1306 = .ok (.iconst 2, 1) := by decide +kernel
theorem dL_law_1307 : decode cL_law 1307 = .ok (.iadd, 1) := by decide +kernel
theorem dL_law_1308 : decode cL_law 1308 = .ok (.iaload, 1) := by decide +kernel
theorem dL_law_1309 : decode cL_law 1309 = .ok (.aload_n 0, 1) := by decide +kernel
theorem dL_law_1310 : decode cL_law 1310 = .ok (.iload 5, 2) := by decide +kernel
theorem dL_law_1312 : decode cL_law 1312 = .ok (.iconst 3, 1) := by decide +kernel
theorem dL_law_1313 : decode cL_law 1313 = .ok (.iadd, 1) := by decide +kernel
theorem dL_law_1314 : decode cL_law 1314 = .ok (.iaload, 1) := by decide +kernel
theorem dL_law_1315 : decode cL_law 1315 = .ok (.aload_n 0, 1) := by decide +kernel
theorem dL_law_1316 : decode cL_law 1316 = .ok (.iload 5, 2) := by decide +kernel
theorem dL_law_1318 : decode cL_law 1318 = .ok (.iconst 4, 1) := by decide +kernel
theorem dL_law_1319 : decode cL_law 1319 = .ok (.iadd, 1) := by decide +kernel
theorem dL_law_1320 : decode cL_law 1320 = .ok (.iaload, 1) := by decide +kernel
theorem dL_law_1321 : decode cL_law 1321 = .ok (.aload_n 3, 1) := by decide +kernel
theorem dL_law_1322 : decode cL_law 1322 = .ok (.invokestatic 173, 3) := by decide +kernel
theorem dL_law_1325 : decode cL_law 1325 = .ok (.istore 6, 2) := by decide +kernel
theorem dL_law_1327 : decode cL_law 1327 = .ok (.aload_n 2, 1) := by decide +kernel
theorem dL_law_1328 : decode cL_law 1328 = .ok (.aload_n 0, 1) := by decide +kernel
theorem dL_law_1329 : decode cL_law 1329 = .ok (.iload 5, 2) := by decide +kernel
theorem dL_law_1331 : decode cL_law 1331 = .ok (.iconst 1, 1) := by decide +kernel
theorem dL_law_1332 : decode cL_law 1332 = .ok (.iadd, 1) := by decide +kernel
theorem dL_law_1333 : decode cL_law 1333 = .ok (.iaload, 1) := by decide +kernel
theorem dL_law_1334 : decode cL_law 1334 = .ok (.aload_n 0, 1) := by decide +kernel
theorem dL_law_1335 : decode cL_law 1335 = .ok (.iload 5, 2) := by decide +kernel
theorem dL_law_1337 : decode cL_law 1337 = .ok (.iconst 2, 1) := by decide +kernel
theorem dL_law_1338 : decode cL_law 1338 = .ok (.iadd, 1) := by decide +kernel
theorem dL_law_1339 : decode cL_law 1339 = .ok (.iaload, 1) := by decide +kernel
theorem dL_law_1340 : decode cL_law 1340 = .ok (.aload_n 0, 1) := by decide +kernel
theorem dL_law_1341 : decode cL_law 1341 = .ok (.iload 5, 2) := by decide +kernel
theorem dL_law_1343 : decode cL_law 1343 = .ok (.iconst 3, 1) := by decide +kernel
theorem dL_law_1344 : decode cL_law 1344 = .ok (.iadd, 1) := by decide +kernel
theorem dL_law_1345 : decode cL_law 1345 = .ok (.iaload, 1) := by decide +kernel
theorem dL_law_1346 : decode cL_law 1346 = .ok (.aload_n 0, 1) := by decide +kernel
theorem dL_law_1347 : decode cL_law 1347 = .ok (.iload 5, 2) := by decide +kernel
theorem dL_law_1349 : decode cL_law 1349 = .ok (.iconst 4, 1) := by decide +kernel
theorem dL_law_1350 : decode cL_law 1350 = .ok (.iadd, 1) := by decide +kernel
theorem dL_law_1351 : decode cL_law 1351 = .ok (.iaload, 1) := by decide +kernel
theorem dL_law_1352 : decode cL_law 1352 = .ok (.invokevirtual 175, 3) := by decide +kernel
theorem dL_law_1355 : decode cL_law 1355 = .ok (.istore 7, 2) := by decide +kernel
theorem dL_law_1357 : decode cL_law 1357 = .ok (.aload_n 2, 1) := by decide +kernel
theorem dL_law_1358 : decode cL_law 1358 = .ok (.invokevirtual 121, 3) := by decide +kernel
theorem dL_law_1361 : decode cL_law 1361 = .ok (.iload 6, 2) := by decide +kernel
theorem dL_law_1363 : decode cL_law 1363 = .ok (.if_icmp .eq 5, 3) := by decide +kernel
theorem dL_law_1366 : decode cL_law 1366 = .ok (.iconst 0, 1) := by decide +kernel
theorem dL_law_1367 : decode cL_law 1367 = .ok (.ireturn, 1) := by decide +kernel
theorem dL_law_1368 : decode cL_law 1368 = .ok (.iload 6, 2) := by decide +kernel
theorem dL_law_1370 : decode cL_law 1370 = .ok (.ifCond .ne 15, 3) := by decide +kernel
theorem dL_law_1373 : decode cL_law 1373 = .ok (.aload_n 3, 1) := by decide +kernel
theorem dL_law_1374 : decode cL_law 1374 = .ok (.iconst 0, 1) := by decide +kernel
theorem dL_law_1375 : decode cL_law 1375 = .ok (.laload, 1) := by decide +kernel
theorem dL_law_1376 : decode cL_law 1376 = .ok (.iload 7, 2) := by decide +kernel
theorem dL_law_1378 : decode cL_law 1378 = .ok (.i2l, 1) := by decide +kernel
theorem dL_law_1379 : decode cL_law 1379 = .ok (.lcmp, 1) := by decide +kernel
theorem dL_law_1380 : decode cL_law 1380 = .ok (.ifCond .eq 5, 3) := by decide +kernel
theorem dL_law_1383 : decode cL_law 1383 = .ok (.iconst 0, 1) := by decide +kernel
theorem dL_law_1384 : decode cL_law 1384 = .ok (.ireturn, 1) := by decide +kernel
theorem dL_law_1385 : decode cL_law 1385 = .ok (.goto 638, 3) := by decide +kernel
theorem dL_law_1388 : decode cL_law 1388 = .ok (.aload_n 1, 1) := by decide +kernel
theorem dL_law_1389 : decode cL_law 1389 = .ok (.aload_n 0, 1) := by decide +kernel
theorem dL_law_1390 : decode cL_law 1390 = .ok (.iload 5, 2) := by decide +kernel
theorem dL_law_1392 : decode cL_law 1392 = .ok (.iconst 1, 1) := by decide +kernel
theorem dL_law_1393 : decode cL_law 1393 = .ok (.iadd, 1) := by decide +kernel
theorem dL_law_1394 : decode cL_law 1394 = .ok (.iaload, 1) := by decide +kernel
theorem dL_law_1395 : decode cL_law 1395 = .ok (.aload_n 0, 1) := by decide +kernel
theorem dL_law_1396 : decode cL_law 1396 = .ok (.iload 5, 2) := by decide +kernel
theorem dL_law_1398 : decode cL_law 1398 = .ok (.iconst 2, 1) := by decide +kernel
theorem dL_law_1399 : decode cL_law 1399 = .ok (.iadd, 1) := by decide +kernel
theorem dL_law_1400 : decode cL_law 1400 = .ok (.iaload, 1) := by decide +kernel
theorem dL_law_1401 : decode cL_law 1401 = .ok (.aload_n 0, 1) := by decide +kernel
theorem dL_law_1402 : decode cL_law 1402 = .ok (.iload 5, 2) := by decide +kernel
theorem dL_law_1404 : decode cL_law 1404 = .ok (.iconst 3, 1) := by decide +kernel
theorem dL_law_1405 : decode cL_law 1405 = .ok (.iadd, 1) := by decide +kernel
theorem dL_law_1406 : decode cL_law 1406 = .ok (.iaload, 1) := by decide +kernel
theorem dL_law_1407 : decode cL_law 1407 = .ok (.aload_n 3, 1) := by decide +kernel
theorem dL_law_1408 : decode cL_law 1408 = .ok (.invokestatic 176, 3) := by decide +kernel
theorem dL_law_1411 : decode cL_law 1411 = .ok (.istore 6, 2) := by decide +kernel
theorem dL_law_1413 : decode cL_law 1413 = .ok (.aload_n 2, 1) := by decide +kernel
theorem dL_law_1414 : decode cL_law 1414 = .ok (.aload_n 0, 1) := by decide +kernel
theorem dL_law_1415 : decode cL_law 1415 = .ok (.iload 5, 2) := by decide +kernel
theorem dL_law_1417 : decode cL_law 1417 = .ok (.iconst 1, 1) := by decide +kernel
theorem dL_law_1418 : decode cL_law 1418 = .ok (.iadd, 1) := by decide +kernel
theorem dL_law_1419 : decode cL_law 1419 = .ok (.iaload, 1) := by decide +kernel
theorem dL_law_1420 : decode cL_law 1420 = .ok (.aload_n 0, 1) := by decide +kernel
theorem dL_law_1421 : decode cL_law 1421 = .ok (.iload 5, 2) := by decide +kernel
theorem dL_law_1423 : decode cL_law 1423 = .ok (.iconst 2, 1) := by decide +kernel
theorem dL_law_1424 : decode cL_law 1424 = .ok (.iadd, 1) := by decide +kernel
theorem dL_law_1425 : decode cL_law 1425 = .ok (.iaload, 1) := by decide +kernel
theorem dL_law_1426 : decode cL_law 1426 = .ok (.aload_n 0, 1) := by decide +kernel
theorem dL_law_1427 : decode cL_law 1427 = .ok (.iload 5, 2) := by decide +kernel
theorem dL_law_1429 : decode cL_law 1429 = .ok (.iconst 3, 1) := by decide +kernel
theorem dL_law_1430 : decode cL_law 1430 = .ok (.iadd, 1) := by decide +kernel
theorem dL_law_1431 : decode cL_law 1431 = .ok (.iaload, 1) := by decide +kernel
theorem dL_law_1432 : decode cL_law 1432 = .ok (.invokevirtual 179, 3) := by decide +kernel
theorem dL_law_1435 : decode cL_law 1435 = .ok (.istore 7, 2) := by decide +kernel
theorem dL_law_1437 : decode cL_law 1437 = .ok (.aload_n 2, 1) := by decide +kernel
theorem dL_law_1438 : decode cL_law 1438 = .ok (.invokevirtual 121, 3) := by decide +kernel
theorem dL_law_1441 : decode cL_law 1441 = .ok (.iload 6, 2) := by decide +kernel
theorem dL_law_1443 : decode cL_law 1443 = .ok (.if_icmp .eq 5, 3) := by decide +kernel
theorem dL_law_1446 : decode cL_law 1446 = .ok (.iconst 0, 1) := by decide +kernel
theorem dL_law_1447 : decode cL_law 1447 = .ok (.ireturn, 1) := by decide +kernel
theorem dL_law_1448 : decode cL_law 1448 = .ok (.iload 6, 2) := by decide +kernel
theorem dL_law_1450 : decode cL_law 1450 = .ok (.ifCond .ne 15, 3) := by decide +kernel
theorem dL_law_1453 : decode cL_law 1453 = .ok (.aload_n 3, 1) := by decide +kernel
theorem dL_law_1454 : decode cL_law 1454 = .ok (.iconst 0, 1) := by decide +kernel
theorem dL_law_1455 : decode cL_law 1455 = .ok (.laload, 1) := by decide +kernel
theorem dL_law_1456 : decode cL_law 1456 = .ok (.iload 7, 2) := by decide +kernel
theorem dL_law_1458 : decode cL_law 1458 = .ok (.i2l, 1) := by decide +kernel
theorem dL_law_1459 : decode cL_law 1459 = .ok (.lcmp, 1) := by decide +kernel
theorem dL_law_1460 : decode cL_law 1460 = .ok (.ifCond .eq 5, 3) := by decide +kernel
theorem dL_law_1463 : decode cL_law 1463 = .ok (.iconst 0, 1) := by decide +kernel
theorem dL_law_1464 : decode cL_law 1464 = .ok (.ireturn, 1) := by decide +kernel
theorem dL_law_1465 : decode cL_law 1465 = .ok (.goto 558, 3) := by decide +kernel
theorem dL_law_1468 : decode cL_law 1468 = .ok (.aload_n 1, 1) := by decide +kernel
theorem dL_law_1469 : decode cL_law 1469 = .ok (.aload_n 0, 1) := by decide +kernel
theorem dL_law_1470 : decode cL_law 1470 = .ok (.iload 5, 2) := by decide +kernel
theorem dL_law_1472 : decode cL_law 1472 = .ok (.iconst 1, 1) := by decide +kernel
theorem dL_law_1473 : decode cL_law 1473 = .ok (.iadd, 1) := by decide +kernel
theorem dL_law_1474 : decode cL_law 1474 = .ok (.iaload, 1) := by decide +kernel
theorem dL_law_1475 : decode cL_law 1475 = .ok (.aload_n 3, 1) := by decide +kernel
theorem dL_law_1476 : decode cL_law 1476 = .ok (.invokestatic 180, 3) := by decide +kernel
theorem dL_law_1479 : decode cL_law 1479 = .ok (.istore 6, 2) := by decide +kernel
theorem dL_law_1481 : decode cL_law 1481 = .ok (.aload_n 2, 1) := by decide +kernel
theorem dL_law_1482 : decode cL_law 1482 = .ok (.aload_n 0, 1) := by decide +kernel
theorem dL_law_1483 : decode cL_law 1483 = .ok (.iload 5, 2) := by decide +kernel
theorem dL_law_1485 : decode cL_law 1485 = .ok (.iconst 1, 1) := by decide +kernel
theorem dL_law_1486 : decode cL_law 1486 = .ok (.iadd, 1) := by decide +kernel
theorem dL_law_1487 : decode cL_law 1487 = .ok (.iaload, 1) := by decide +kernel
theorem dL_law_1488 : decode cL_law 1488 = .ok (.invokevirtual 182, 3) := by decide +kernel
theorem dL_law_1491 : decode cL_law 1491 = .ok (.istore 7, 2) := by decide +kernel
theorem dL_law_1493 : decode cL_law 1493 = .ok (.aload_n 2, 1) := by decide +kernel
theorem dL_law_1494 : decode cL_law 1494 = .ok (.invokevirtual 121, 3) := by decide +kernel
theorem dL_law_1497 : decode cL_law 1497 = .ok (.iload 6, 2) := by decide +kernel
theorem dL_law_1499 : decode cL_law 1499 = .ok (.if_icmp .eq 5, 3) := by decide +kernel
theorem dL_law_1502 : decode cL_law 1502 = .ok (.iconst 0, 1) := by decide +kernel
theorem dL_law_1503 : decode cL_law 1503 = .ok (.ireturn, 1) := by decide +kernel
theorem dL_law_1504 : decode cL_law 1504 = .ok (.iload 6, 2) := by decide +kernel
theorem dL_law_1506 : decode cL_law 1506 = .ok (.ifCond .ne 15, 3) := by decide +kernel
theorem dL_law_1509 : decode cL_law 1509 = .ok (.aload_n 3, 1) := by decide +kernel
theorem dL_law_1510 : decode cL_law 1510 = .ok (.iconst 0, 1) := by decide +kernel
theorem dL_law_1511 : decode cL_law 1511 = .ok (.laload, 1) := by decide +kernel
theorem dL_law_1512 : decode cL_law 1512 = .ok (.iload 7, 2) := by decide +kernel
theorem dL_law_1514 : decode cL_law 1514 = .ok (.i2l, 1) := by decide +kernel
theorem dL_law_1515 : decode cL_law 1515 = .ok (.lcmp, 1) := by decide +kernel
theorem dL_law_1516 : decode cL_law 1516 = .ok (.ifCond .eq 5, 3) := by decide +kernel
theorem dL_law_1519 : decode cL_law 1519 = .ok (.iconst 0, 1) := by decide +kernel
theorem dL_law_1520 : decode cL_law 1520 = .ok (.ireturn, 1) := by decide +kernel
theorem dL_law_1521 : decode cL_law 1521 = .ok (.goto 502, 3) := by decide +kernel
theorem dL_law_1524 : decode cL_law 1524 = .ok (.aload_n 1, 1) := by decide +kernel
theorem dL_law_1525 : decode cL_law 1525 = .ok (.aload_n 0, 1) := by decide +kernel
theorem dL_law_1526 : decode cL_law 1526 = .ok (.iload 5, 2) := by decide +kernel
theorem dL_law_1528 : decode cL_law 1528 = .ok (.iconst 1, 1) := by decide +kernel
theorem dL_law_1529 : decode cL_law 1529 = .ok (.iadd, 1) := by decide +kernel
theorem dL_law_1530 : decode cL_law 1530 = .ok (.iaload, 1) := by decide +kernel
theorem dL_law_1531 : decode cL_law 1531 = .ok (.aload_n 0, 1) := by decide +kernel
theorem dL_law_1532 : decode cL_law 1532 = .ok (.iload 5, 2) := by decide +kernel
theorem dL_law_1534 : decode cL_law 1534 = .ok (.iconst 2, 1) := by decide +kernel
theorem dL_law_1535 : decode cL_law 1535 = .ok (.iadd, 1) := by decide +kernel
theorem dL_law_1536 : decode cL_law 1536 = .ok (.iaload, 1) := by decide +kernel
theorem dL_law_1537 : decode cL_law 1537 = .ok (.aload_n 3, 1) := by decide +kernel
theorem dL_law_1538 : decode cL_law 1538 = .ok (.invokestatic 183, 3) := by decide +kernel
theorem dL_law_1541 : decode cL_law 1541 = .ok (.istore 6, 2) := by decide +kernel
theorem dL_law_1543 : decode cL_law 1543 = .ok (.aload_n 2, 1) := by decide +kernel
theorem dL_law_1544 : decode cL_law 1544 = .ok (.aload_n 0, 1) := by decide +kernel
theorem dL_law_1545 : decode cL_law 1545 = .ok (.iload 5, 2) := by decide +kernel
theorem dL_law_1547 : decode cL_law 1547 = .ok (.iconst 1, 1) := by decide +kernel
theorem dL_law_1548 : decode cL_law 1548 = .ok (.iadd, 1) := by decide +kernel
theorem dL_law_1549 : decode cL_law 1549 = .ok (.iaload, 1) := by decide +kernel
theorem dL_law_1550 : decode cL_law 1550 = .ok (.aload_n 0, 1) := by decide +kernel
theorem dL_law_1551 : decode cL_law 1551 = .ok (.iload 5, 2) := by decide +kernel
theorem dL_law_1553 : decode cL_law 1553 = .ok (.iconst 2, 1) := by decide +kernel
theorem dL_law_1554 : decode cL_law 1554 = .ok (.iadd, 1) := by decide +kernel
theorem dL_law_1555 : decode cL_law 1555 = .ok (.iaload, 1) := by decide +kernel
theorem dL_law_1556 : decode cL_law 1556 = .ok (.invokevirtual 185, 3) := by decide +kernel
theorem dL_law_1559 : decode cL_law 1559 = .ok (.istore 7, 2) := by decide +kernel
theorem dL_law_1561 : decode cL_law 1561 = .ok (.aload_n 2, 1) := by decide +kernel
theorem dL_law_1562 : decode cL_law 1562 = .ok (.invokevirtual 121, 3) := by decide +kernel
theorem dL_law_1565 : decode cL_law 1565 = .ok (.iload 6, 2) := by decide +kernel
theorem dL_law_1567 : decode cL_law 1567 = .ok (.if_icmp .eq 5, 3) := by decide +kernel
theorem dL_law_1570 : decode cL_law 1570 = .ok (.iconst 0, 1) := by decide +kernel
theorem dL_law_1571 : decode cL_law 1571 = .ok (.ireturn, 1) := by decide +kernel
theorem dL_law_1572 : decode cL_law 1572 = .ok (.iload 6, 2) := by decide +kernel
theorem dL_law_1574 : decode cL_law 1574 = .ok (.ifCond .ne 15, 3) := by decide +kernel
theorem dL_law_1577 : decode cL_law 1577 = .ok (.aload_n 3, 1) := by decide +kernel
theorem dL_law_1578 : decode cL_law 1578 = .ok (.iconst 0, 1) := by decide +kernel
theorem dL_law_1579 : decode cL_law 1579 = .ok (.laload, 1) := by decide +kernel
theorem dL_law_1580 : decode cL_law 1580 = .ok (.iload 7, 2) := by decide +kernel
theorem dL_law_1582 : decode cL_law 1582 = .ok (.i2l, 1) := by decide +kernel
theorem dL_law_1583 : decode cL_law 1583 = .ok (.lcmp, 1) := by decide +kernel
theorem dL_law_1584 : decode cL_law 1584 = .ok (.ifCond .eq 5, 3) := by decide +kernel
theorem dL_law_1587 : decode cL_law 1587 = .ok (.iconst 0, 1) := by decide +kernel
theorem dL_law_1588 : decode cL_law 1588 = .ok (.ireturn, 1) := by decide +kernel
theorem dL_law_1589 : decode cL_law 1589 = .ok (.goto 434, 3) := by decide +kernel
theorem dL_law_1592 : decode cL_law 1592 = .ok (.aload_n 1, 1) := by decide +kernel
theorem dL_law_1593 : decode cL_law 1593 = .ok (.aload_n 0, 1) := by decide +kernel
theorem dL_law_1594 : decode cL_law 1594 = .ok (.iload 5, 2) := by decide +kernel
theorem dL_law_1596 : decode cL_law 1596 = .ok (.iconst 1, 1) := by decide +kernel
theorem dL_law_1597 : decode cL_law 1597 = .ok (.iadd, 1) := by decide +kernel
theorem dL_law_1598 : decode cL_law 1598 = .ok (.iaload, 1) := by decide +kernel
theorem dL_law_1599 : decode cL_law 1599 = .ok (.aload_n 0, 1) := by decide +kernel
theorem dL_law_1600 : decode cL_law 1600 = .ok (.iload 5, 2) := by decide +kernel
theorem dL_law_1602 : decode cL_law 1602 = .ok (.iconst 2, 1) := by decide +kernel
theorem dL_law_1603 : decode cL_law 1603 = .ok (.iadd, 1) := by decide +kernel
theorem dL_law_1604 : decode cL_law 1604 = .ok (.iaload, 1) := by decide +kernel
theorem dL_law_1605 : decode cL_law 1605 = .ok (.aload_n 3, 1) := by decide +kernel
theorem dL_law_1606 : decode cL_law 1606 = .ok (.invokestatic 186, 3) := by decide +kernel
theorem dL_law_1609 : decode cL_law 1609 = .ok (.istore 6, 2) := by decide +kernel
theorem dL_law_1611 : decode cL_law 1611 = .ok (.aload_n 2, 1) := by decide +kernel
theorem dL_law_1612 : decode cL_law 1612 = .ok (.aload_n 0, 1) := by decide +kernel
theorem dL_law_1613 : decode cL_law 1613 = .ok (.iload 5, 2) := by decide +kernel
theorem dL_law_1615 : decode cL_law 1615 = .ok (.iconst 1, 1) := by decide +kernel
theorem dL_law_1616 : decode cL_law 1616 = .ok (.iadd, 1) := by decide +kernel
theorem dL_law_1617 : decode cL_law 1617 = .ok (.iaload, 1) := by decide +kernel
theorem dL_law_1618 : decode cL_law 1618 = .ok (.aload_n 0, 1) := by decide +kernel
theorem dL_law_1619 : decode cL_law 1619 = .ok (.iload 5, 2) := by decide +kernel
theorem dL_law_1621 : decode cL_law 1621 = .ok (.iconst 2, 1) := by decide +kernel
theorem dL_law_1622 : decode cL_law 1622 = .ok (.iadd, 1) := by decide +kernel
theorem dL_law_1623 : decode cL_law 1623 = .ok (.iaload, 1) := by decide +kernel
theorem dL_law_1624 : decode cL_law 1624 = .ok (.invokevirtual 188, 3) := by decide +kernel
theorem dL_law_1627 : decode cL_law 1627 = .ok (.istore 7, 2) := by decide +kernel
theorem dL_law_1629 : decode cL_law 1629 = .ok (.aload_n 2, 1) := by decide +kernel
theorem dL_law_1630 : decode cL_law 1630 = .ok (.invokevirtual 121, 3) := by decide +kernel
theorem dL_law_1633 : decode cL_law 1633 = .ok (.iload 6, 2) := by decide +kernel
theorem dL_law_1635 : decode cL_law 1635 = .ok (.if_icmp .eq 5, 3) := by decide +kernel
theorem dL_law_1638 : decode cL_law 1638 = .ok (.iconst 0, 1) := by decide +kernel
theorem dL_law_1639 : decode cL_law 1639 = .ok (.ireturn, 1) := by decide +kernel
theorem dL_law_1640 : decode cL_law 1640 = .ok (.iload 6, 2) := by decide +kernel
theorem dL_law_1642 : decode cL_law 1642 = .ok (.ifCond .ne 15, 3) := by decide +kernel
theorem dL_law_1645 : decode cL_law 1645 = .ok (.aload_n 3, 1) := by decide +kernel
theorem dL_law_1646 : decode cL_law 1646 = .ok (.iconst 0, 1) := by decide +kernel
theorem dL_law_1647 : decode cL_law 1647 = .ok (.laload, 1) := by decide +kernel
theorem dL_law_1648 : decode cL_law 1648 = .ok (.iload 7, 2) := by decide +kernel
theorem dL_law_1650 : decode cL_law 1650 = .ok (.i2l, 1) := by decide +kernel
theorem dL_law_1651 : decode cL_law 1651 = .ok (.lcmp, 1) := by decide +kernel
theorem dL_law_1652 : decode cL_law 1652 = .ok (.ifCond .eq 5, 3) := by decide +kernel
theorem dL_law_1655 : decode cL_law 1655 = .ok (.iconst 0, 1) := by decide +kernel
theorem dL_law_1656 : decode cL_law 1656 = .ok (.ireturn, 1) := by decide +kernel
theorem dL_law_1657 : decode cL_law 1657 = .ok (.goto 366, 3) := by decide +kernel
theorem dL_law_1660 : decode cL_law 1660 = .ok (.aload_n 1, 1) := by decide +kernel
theorem dL_law_1661 : decode cL_law 1661 = .ok (.aload_n 0, 1) := by decide +kernel
theorem dL_law_1662 : decode cL_law 1662 = .ok (.iload 5, 2) := by decide +kernel
theorem dL_law_1664 : decode cL_law 1664 = .ok (.iconst 1, 1) := by decide +kernel
theorem dL_law_1665 : decode cL_law 1665 = .ok (.iadd, 1) := by decide +kernel
theorem dL_law_1666 : decode cL_law 1666 = .ok (.iaload, 1) := by decide +kernel
theorem dL_law_1667 : decode cL_law 1667 = .ok (.aload_n 3, 1) := by decide +kernel
theorem dL_law_1668 : decode cL_law 1668 = .ok (.invokestatic 189, 3) := by decide +kernel
theorem dL_law_1671 : decode cL_law 1671 = .ok (.istore 6, 2) := by decide +kernel
theorem dL_law_1673 : decode cL_law 1673 = .ok (.aload_n 2, 1) := by decide +kernel
theorem dL_law_1674 : decode cL_law 1674 = .ok (.aload_n 0, 1) := by decide +kernel
theorem dL_law_1675 : decode cL_law 1675 = .ok (.iload 5, 2) := by decide +kernel
theorem dL_law_1677 : decode cL_law 1677 = .ok (.iconst 1, 1) := by decide +kernel
theorem dL_law_1678 : decode cL_law 1678 = .ok (.iadd, 1) := by decide +kernel
theorem dL_law_1679 : decode cL_law 1679 = .ok (.iaload, 1) := by decide +kernel
theorem dL_law_1680 : decode cL_law 1680 = .ok (.invokevirtual 191, 3) := by decide +kernel
theorem dL_law_1683 : decode cL_law 1683 = .ok (.istore 7, 2) := by decide +kernel
theorem dL_law_1685 : decode cL_law 1685 = .ok (.aload_n 2, 1) := by decide +kernel
theorem dL_law_1686 : decode cL_law 1686 = .ok (.invokevirtual 121, 3) := by decide +kernel
theorem dL_law_1689 : decode cL_law 1689 = .ok (.iload 6, 2) := by decide +kernel
theorem dL_law_1691 : decode cL_law 1691 = .ok (.if_icmp .eq 5, 3) := by decide +kernel
theorem dL_law_1694 : decode cL_law 1694 = .ok (.iconst 0, 1) := by decide +kernel
theorem dL_law_1695 : decode cL_law 1695 = .ok (.ireturn, 1) := by decide +kernel
theorem dL_law_1696 : decode cL_law 1696 = .ok (.iload 6, 2) := by decide +kernel
theorem dL_law_1698 : decode cL_law 1698 = .ok (.ifCond .ne 15, 3) := by decide +kernel
theorem dL_law_1701 : decode cL_law 1701 = .ok (.aload_n 3, 1) := by decide +kernel
theorem dL_law_1702 : decode cL_law 1702 = .ok (.iconst 0, 1) := by decide +kernel
theorem dL_law_1703 : decode cL_law 1703 = .ok (.laload, 1) := by decide +kernel
theorem dL_law_1704 : decode cL_law 1704 = .ok (.iload 7, 2) := by decide +kernel
theorem dL_law_1706 : decode cL_law 1706 = .ok (.i2l, 1) := by decide +kernel
theorem dL_law_1707 : decode cL_law 1707 = .ok (.lcmp, 1) := by decide +kernel
theorem dL_law_1708 : decode cL_law 1708 = .ok (.ifCond .eq 5, 3) := by decide +kernel
theorem dL_law_1711 : decode cL_law 1711 = .ok (.iconst 0, 1) := by decide +kernel
theorem dL_law_1712 : decode cL_law 1712 = .ok (.ireturn, 1) := by decide +kernel
theorem dL_law_1713 : decode cL_law 1713 = .ok (.goto 310, 3) := by decide +kernel
theorem dL_law_1716 : decode cL_law 1716 = .ok (.aload_n 1, 1) := by decide +kernel
theorem dL_law_1717 : decode cL_law 1717 = .ok (.aload_n 0, 1) := by decide +kernel
theorem dL_law_1718 : decode cL_law 1718 = .ok (.iload 5, 2) := by decide +kernel
theorem dL_law_1720 : decode cL_law 1720 = .ok (.iconst 1, 1) := by decide +kernel
theorem dL_law_1721 : decode cL_law 1721 = .ok (.iadd, 1) := by decide +kernel
theorem dL_law_1722 : decode cL_law 1722 = .ok (.iaload, 1) := by decide +kernel
theorem dL_law_1723 : decode cL_law 1723 = .ok (.i2c, 1) := by decide +kernel
theorem dL_law_1724 : decode cL_law 1724 = .ok (.invokestatic 192, 3) := by decide +kernel
theorem dL_law_1727 : decode cL_law 1727 = .ok (.istore 6, 2) := by decide +kernel
theorem dL_law_1729 : decode cL_law 1729 = .ok (.aload_n 2, 1) := by decide +kernel
theorem dL_law_1730 : decode cL_law 1730 = .ok (.aload_n 0, 1) := by decide +kernel
theorem dL_law_1731 : decode cL_law 1731 = .ok (.iload 5, 2) := by decide +kernel
theorem dL_law_1733 : decode cL_law 1733 = .ok (.iconst 1, 1) := by decide +kernel
theorem dL_law_1734 : decode cL_law 1734 = .ok (.iadd, 1) := by decide +kernel
theorem dL_law_1735 : decode cL_law 1735 = .ok (.iaload, 1) := by decide +kernel
theorem dL_law_1736 : decode cL_law 1736 = .ok (.i2c, 1) := by decide +kernel
theorem dL_law_1737 : decode cL_law 1737 = .ok (.invokevirtual 195, 3) := by decide +kernel
theorem dL_law_1740 : decode cL_law 1740 = .ok (.aload_n 2, 1) := by decide +kernel
theorem dL_law_1741 : decode cL_law 1741 = .ok (.invokevirtual 121, 3) := by decide +kernel
theorem dL_law_1744 : decode cL_law 1744 = .ok (.iload 6, 2) := by decide +kernel
theorem dL_law_1746 : decode cL_law 1746 = .ok (.if_icmp .eq 5, 3) := by decide +kernel
theorem dL_law_1749 : decode cL_law 1749 = .ok (.iconst 0, 1) := by decide +kernel
theorem dL_law_1750 : decode cL_law 1750 = .ok (.ireturn, 1) := by decide +kernel
theorem dL_law_1751 : decode cL_law 1751 = .ok (.goto 272, 3) := by decide +kernel
theorem dL_law_1754 : decode cL_law 1754 = .ok (.aload_n 1, 1) := by decide +kernel
theorem dL_law_1755 : decode cL_law 1755 = .ok (.aload_n 3, 1) := by decide +kernel
theorem dL_law_1756 : decode cL_law 1756 = .ok (.invokestatic 196, 3) := by decide +kernel
theorem dL_law_1759 : decode cL_law 1759 = .ok (.istore 6, 2) := by decide +kernel
theorem dL_law_1761 : decode cL_law 1761 = .ok (.aload_n 2, 1) := by decide +kernel
theorem dL_law_1762 : decode cL_law 1762 = .ok (.invokevirtual 198, 3) := by decide +kernel
theorem dL_law_1765 : decode cL_law 1765 = .ok (.istore 7, 2) := by decide +kernel
theorem dL_law_1767 : decode cL_law 1767 = .ok (.aload_n 2, 1) := by decide +kernel
theorem dL_law_1768 : decode cL_law 1768 = .ok (.invokevirtual 121, 3) := by decide +kernel
theorem dL_law_1771 : decode cL_law 1771 = .ok (.iload 6, 2) := by decide +kernel
theorem dL_law_1773 : decode cL_law 1773 = .ok (.if_icmp .eq 5, 3) := by decide +kernel
theorem dL_law_1776 : decode cL_law 1776 = .ok (.iconst 0, 1) := by decide +kernel
theorem dL_law_1777 : decode cL_law 1777 = .ok (.ireturn, 1) := by decide +kernel
theorem dL_law_1778 : decode cL_law 1778 = .ok (.iload 6, 2) := by decide +kernel
theorem dL_law_1780 : decode cL_law 1780 = .ok (.ifCond .ne 15, 3) := by decide +kernel
theorem dL_law_1783 : decode cL_law 1783 = .ok (.aload_n 3, 1) := by decide +kernel
theorem dL_law_1784 : decode cL_law 1784 = .ok (.iconst 0, 1) := by decide +kernel
theorem dL_law_1785 : decode cL_law 1785 = .ok (.laload, 1) := by decide +kernel
theorem dL_law_1786 : decode cL_law 1786 = .ok (.iload 7, 2) := by decide +kernel
theorem dL_law_1788 : decode cL_law 1788 = .ok (.i2l, 1) := by decide +kernel
theorem dL_law_1789 : decode cL_law 1789 = .ok (.lcmp, 1) := by decide +kernel
theorem dL_law_1790 : decode cL_law 1790 = .ok (.ifCond .eq 5, 3) := by decide +kernel
theorem dL_law_1793 : decode cL_law 1793 = .ok (.iconst 0, 1) := by decide +kernel
theorem dL_law_1794 : decode cL_law 1794 = .ok (.ireturn, 1) := by decide +kernel
theorem dL_law_1795 : decode cL_law 1795 = .ok (.goto 228, 3) := by decide +kernel
theorem dL_law_1798 : decode cL_law 1798 = .ok (.aload_n 1, 1) := by decide +kernel
theorem dL_law_1799 : decode cL_law 1799 = .ok (.invokevirtual 199, 3) := by decide +kernel
theorem dL_law_1802 : decode cL_law 1802 = .ok (.aload_n 2, 1) := by decide +kernel
theorem dL_law_1803 : decode cL_law 1803 = .ok (.invokevirtual 202, 3) := by decide +kernel
theorem dL_law_1806 : decode cL_law 1806 = .ok (.if_icmp .eq 217, 3) := by decide +kernel
theorem dL_law_1809 : decode cL_law 1809 = .ok (.iconst 0, 1) := by decide +kernel
theorem dL_law_1810 : decode cL_law 1810 = .ok (.ireturn, 1) := by decide +kernel
theorem dL_law_1811 : decode cL_law 1811 = .ok (.aload_n 1, 1) := by decide +kernel
theorem dL_law_1812 : decode cL_law 1812 = .ok (.aload_n 0, 1) := by decide +kernel
theorem dL_law_1813 : decode cL_law 1813 = .ok (.iload 5, 2) := by decide +kernel
theorem dL_law_1815 : decode cL_law 1815 = .ok (.iconst 1, 1) := by decide +kernel
theorem dL_law_1816 : decode cL_law 1816 = .ok (.iadd, 1) := by decide +kernel
theorem dL_law_1817 : decode cL_law 1817 = .ok (.iaload, 1) := by decide +kernel
theorem dL_law_1818 : decode cL_law 1818 = .ok (.aload_n 3, 1) := by decide +kernel
theorem dL_law_1819 : decode cL_law 1819 = .ok (.invokestatic 203, 3) := by decide +kernel
theorem dL_law_1822 : decode cL_law 1822 = .ok (.istore 6, 2) := by decide +kernel
theorem dL_law_1824 : decode cL_law 1824 = .ok (.aload_n 2, 1) := by decide +kernel
theorem dL_law_1825 : decode cL_law 1825 = .ok (.aload_n 0, 1) := by decide +kernel
theorem dL_law_1826 : decode cL_law 1826 = .ok (.iload 5, 2) := by decide +kernel
theorem dL_law_1828 : decode cL_law 1828 = .ok (.iconst 1, 1) := by decide +kernel
theorem dL_law_1829 : decode cL_law 1829 = .ok (.iadd, 1) := by decide +kernel
theorem dL_law_1830 : decode cL_law 1830 = .ok (.iaload, 1) := by decide +kernel
theorem dL_law_1831 : decode cL_law 1831 = .ok (.invokevirtual 205, 3) := by decide +kernel
theorem dL_law_1834 : decode cL_law 1834 = .ok (.istore 7, 2) := by decide +kernel
theorem dL_law_1836 : decode cL_law 1836 = .ok (.aload_n 2, 1) := by decide +kernel
theorem dL_law_1837 : decode cL_law 1837 = .ok (.invokevirtual 121, 3) := by decide +kernel
theorem dL_law_1840 : decode cL_law 1840 = .ok (.iload 6, 2) := by decide +kernel
theorem dL_law_1842 : decode cL_law 1842 = .ok (.if_icmp .eq 5, 3) := by decide +kernel
theorem dL_law_1845 : decode cL_law 1845 = .ok (.iconst 0, 1) := by decide +kernel
theorem dL_law_1846 : decode cL_law 1846 = .ok (.ireturn, 1) := by decide +kernel
theorem dL_law_1847 : decode cL_law 1847 = .ok (.iload 6, 2) := by decide +kernel
theorem dL_law_1849 : decode cL_law 1849 = .ok (.ifCond .ne 15, 3) := by decide +kernel
theorem dL_law_1852 : decode cL_law 1852 = .ok (.aload_n 3, 1) := by decide +kernel
theorem dL_law_1853 : decode cL_law 1853 = .ok (.iconst 0, 1) := by decide +kernel
theorem dL_law_1854 : decode cL_law 1854 = .ok (.laload, 1) := by decide +kernel
theorem dL_law_1855 : decode cL_law 1855 = .ok (.iload 7, 2) := by decide +kernel
theorem dL_law_1857 : decode cL_law 1857 = .ok (.i2l, 1) := by decide +kernel
theorem dL_law_1858 : decode cL_law 1858 = .ok (.lcmp, 1) := by decide +kernel
theorem dL_law_1859 : decode cL_law 1859 = .ok (.ifCond .eq 5, 3) := by decide +kernel
theorem dL_law_1862 : decode cL_law 1862 = .ok (.iconst 0, 1) := by decide +kernel
theorem dL_law_1863 : decode cL_law 1863 = .ok (.ireturn, 1) := by decide +kernel
theorem dL_law_1864 : decode cL_law 1864 = .ok (.goto 159, 3) := by decide +kernel
theorem dL_law_1867 : decode cL_law 1867 = .ok (.aload_n 1, 1) := by decide +kernel
theorem dL_law_1868 : decode cL_law 1868 = .ok (.aload_n 0, 1) := by decide +kernel
theorem dL_law_1869 : decode cL_law 1869 = .ok (.iload 5, 2) := by decide +kernel
theorem dL_law_1871 : decode cL_law 1871 = .ok (.iconst 1, 1) := by decide +kernel
theorem dL_law_1872 : decode cL_law 1872 = .ok (.iadd, 1) := by decide +kernel
theorem dL_law_1873 : decode cL_law 1873 = .ok (.iaload, 1) := by decide +kernel
theorem dL_law_1874 : decode cL_law 1874 = .ok (.aload 4, 2) := by decide +kernel
theorem dL_law_1876 : decode cL_law 1876 = .ok (.invokestatic 206, 3) := by decide +kernel
theorem dL_law_1879 : decode cL_law 1879 = .ok (.istore 6, 2) := by decide +kernel
theorem dL_law_1881 : decode cL_law 1881 = .ok (.aload_n 2, 1) := by decide +kernel
theorem dL_law_1882 : decode cL_law 1882 = .ok (.aload_n 0, 1) := by decide +kernel
theorem dL_law_1883 : decode cL_law 1883 = .ok (.iload 5, 2) := by decide +kernel
theorem dL_law_1885 : decode cL_law 1885 = .ok (.iconst 1, 1) := by decide +kernel
theorem dL_law_1886 : decode cL_law 1886 = .ok (.iadd, 1) := by decide +kernel
theorem dL_law_1887 : decode cL_law 1887 = .ok (.iaload, 1) := by decide +kernel
theorem dL_law_1888 : decode cL_law 1888 = .ok (.invokevirtual 209, 3) := by decide +kernel
theorem dL_law_1891 : decode cL_law 1891 = .ok (.dstore 7, 2) := by decide +kernel
theorem dL_law_1893 : decode cL_law 1893 = .ok (.aload_n 2, 1) := by decide +kernel
theorem dL_law_1894 : decode cL_law 1894 = .ok (.invokevirtual 121, 3) := by decide +kernel
theorem dL_law_1897 : decode cL_law 1897 = .ok (.iload 6, 2) := by decide +kernel
theorem dL_law_1899 : decode cL_law 1899 = .ok (.if_icmp .eq 5, 3) := by decide +kernel
theorem dL_law_1902 : decode cL_law 1902 = .ok (.iconst 0, 1) := by decide +kernel
theorem dL_law_1903 : decode cL_law 1903 = .ok (.ireturn, 1) := by decide +kernel
theorem dL_law_1904 : decode cL_law 1904 = .ok (.iload 6, 2) := by decide +kernel
theorem dL_law_1906 : decode cL_law 1906 = .ok (.ifCond .ne 35, 3) := by decide +kernel
theorem dL_law_1909 : decode cL_law 1909 = .ok (.aload 4, 2) := by decide +kernel
theorem dL_law_1911 : decode cL_law 1911 = .ok (.iconst 0, 1) := by decide +kernel
theorem dL_law_1912 : decode cL_law 1912 = .ok (.daload, 1) := by decide +kernel
theorem dL_law_1913 : decode cL_law 1913 = .ok (.dload 7, 2) := by decide +kernel
theorem dL_law_1915 : decode cL_law 1915 = .ok (.dcmp .l, 1) := by decide +kernel
theorem dL_law_1916 : decode cL_law 1916 = .ok (.ifCond .eq 25, 3) := by decide +kernel
theorem dL_law_1919 : decode cL_law 1919 = .ok (.aload 4, 2) := by decide +kernel
theorem dL_law_1921 : decode cL_law 1921 = .ok (.iconst 0, 1) := by decide +kernel
theorem dL_law_1922 : decode cL_law 1922 = .ok (.daload, 1) := by decide +kernel
theorem dL_law_1923 : decode cL_law 1923 = .ok (.aload 4, 2) := by decide +kernel
theorem dL_law_1925 : decode cL_law 1925 = .ok (.iconst 0, 1) := by decide +kernel
theorem dL_law_1926 : decode cL_law 1926 = .ok (.daload, 1) := by decide +kernel
theorem dL_law_1927 : decode cL_law 1927 = .ok (.dcmp .l, 1) := by decide +kernel
theorem dL_law_1928 : decode cL_law 1928 = .ok (.ifCond .eq 11, 3) := by decide +kernel
theorem dL_law_1931 : decode cL_law 1931 = .ok (.dload 7, 2) := by decide +kernel
theorem dL_law_1933 : decode cL_law 1933 = .ok (.dload 7, 2) := by decide +kernel
theorem dL_law_1935 : decode cL_law 1935 = .ok (.dcmp .l, 1) := by decide +kernel
theorem dL_law_1936 : decode cL_law 1936 = .ok (.ifCond .ne 5, 3) := by decide +kernel
theorem dL_law_1939 : decode cL_law 1939 = .ok (.iconst 0, 1) := by decide +kernel
theorem dL_law_1940 : decode cL_law 1940 = .ok (.ireturn, 1) := by decide +kernel
theorem dL_law_1941 : decode cL_law 1941 = .ok (.goto 82, 3) := by decide +kernel
theorem dL_law_1944 : decode cL_law 1944 = .ok (.aload_n 1, 1) := by decide +kernel
theorem dL_law_1945 : decode cL_law 1945 = .ok (.aload_n 3, 1) := by decide +kernel
theorem dL_law_1946 : decode cL_law 1946 = .ok (.invokestatic 210, 3) := by decide +kernel
theorem dL_law_1949 : decode cL_law 1949 = .ok (.istore 6, 2) := by decide +kernel
theorem dL_law_1951 : decode cL_law 1951 = .ok (.aload_n 2, 1) := by decide +kernel
theorem dL_law_1952 : decode cL_law 1952 = .ok (.invokevirtual 212, 3) := by decide +kernel
theorem dL_law_1955 : decode cL_law 1955 = .ok (.istore 7, 2) := by decide +kernel
theorem dL_law_1957 : decode cL_law 1957 = .ok (.aload_n 2, 1) := by decide +kernel
theorem dL_law_1958 : decode cL_law 1958 = .ok (.invokevirtual 121, 3) := by decide +kernel
theorem dL_law_1961 : decode cL_law 1961 = .ok (.iload 6, 2) := by decide +kernel
theorem dL_law_1963 : decode cL_law 1963 = .ok (.if_icmp .eq 5, 3) := by decide +kernel
theorem dL_law_1966 : decode cL_law 1966 = .ok (.iconst 0, 1) := by decide +kernel
theorem dL_law_1967 : decode cL_law 1967 = .ok (.ireturn, 1) := by decide +kernel
theorem dL_law_1968 : decode cL_law 1968 = .ok (.iload 6, 2) := by decide +kernel
theorem dL_law_1970 : decode cL_law 1970 = .ok (.ifCond .ne 15, 3) := by decide +kernel
theorem dL_law_1973 : decode cL_law 1973 = .ok (.aload_n 3, 1) := by decide +kernel
theorem dL_law_1974 : decode cL_law 1974 = .ok (.iconst 0, 1) := by decide +kernel
theorem dL_law_1975 : decode cL_law 1975 = .ok (.laload, 1) := by decide +kernel
theorem dL_law_1976 : decode cL_law 1976 = .ok (.iload 7, 2) := by decide +kernel
theorem dL_law_1978 : decode cL_law 1978 = .ok (.i2l, 1) := by decide +kernel
theorem dL_law_1979 : decode cL_law 1979 = .ok (.lcmp, 1) := by decide +kernel
theorem dL_law_1980 : decode cL_law 1980 = .ok (.ifCond .eq 5, 3) := by decide +kernel
theorem dL_law_1983 : decode cL_law 1983 = .ok (.iconst 0, 1) := by decide +kernel
theorem dL_law_1984 : decode cL_law 1984 = .ok (.ireturn, 1) := by decide +kernel
theorem dL_law_1985 : decode cL_law 1985 = .ok (.goto 38, 3) := by decide +kernel
theorem dL_law_1988 : decode cL_law 1988 = .ok (.aload_n 1, 1) := by decide +kernel
theorem dL_law_1989 : decode cL_law 1989 = .ok (.invokevirtual 213, 3) := by decide +kernel
theorem dL_law_1992 : decode cL_law 1992 = .ok (.aload_n 2, 1) := by decide +kernel
theorem dL_law_1993 : decode cL_law 1993 = .ok (.invokevirtual 216, 3) := by decide +kernel
theorem dL_law_1996 : decode cL_law 1996 = .ok (.goto 27, 3) := by decide +kernel
theorem dL_law_1999 : decode cL_law 1999 = .ok (.aload_n 1, 1) := by decide +kernel
theorem dL_law_2000 : decode cL_law 2000 = .ok (.invokestatic 217, 3) := by decide +kernel
theorem dL_law_2003 : decode cL_law 2003 = .ok (.istore 6, 2) := by decide +kernel
theorem dL_law_2005 : decode cL_law 2005 = .ok (.aload_n 2, 1) := by decide +kernel
theorem dL_law_2006 : decode cL_law 2006 = .ok (.invokevirtual 220, 3) := by decide +kernel
theorem dL_law_2009 : decode cL_law 2009 = .ok (.aload_n 2, 1) := by decide +kernel
theorem dL_law_2010 : decode cL_law 2010 = .ok (.invokevirtual 121, 3) := by decide +kernel
theorem dL_law_2013 : decode cL_law 2013 = .ok (.iload 6, 2) := by decide +kernel
theorem dL_law_2015 : decode cL_law 2015 = .ok (.if_icmp .eq 5, 3) := by decide +kernel
theorem dL_law_2018 : decode cL_law 2018 = .ok (.iconst 0, 1) := by decide +kernel
theorem dL_law_2019 : decode cL_law 2019 = .ok (.ireturn, 1) := by decide +kernel
theorem dL_law_2020 : decode cL_law 2020 = .ok (.goto 3, 3) := by decide +kernel
theorem dL_law_2023 : decode cL_law 2023 = .ok (.iinc 5 6, 3) := by decide +kernel
theorem dL_law_2026 : decode cL_law 2026 = .ok (.goto (-1998), 3) := by decide +kernel
theorem dL_law_2029 : decode cL_law 2029 = .ok (.iconst 1, 1) := by decide +kernel
theorem dL_law_2030 : decode cL_law 2030 = .ok (.ireturn, 1) := by decide +kernel
