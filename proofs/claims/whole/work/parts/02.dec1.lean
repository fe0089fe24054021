theorem dX0_init_0 : decode cX0_init 0 = .ok (.aload_n 0, 1) := by decide +kernel
theorem dX0_init_1 : decode cX0_init 1 = .ok (.invokespecial 3, 3) := by decide +kernel
theorem dX0_init_4 : decode cX0_init 4 = .ok (.aload_n 0, 1) := by decide +kernel
theorem dX0_init_5 : decode cX0_init 5 = .ok (.new 9, 3) := by decide +kernel
theorem dX0_init_8 : decode cX0_init 8 = .ok (.dup, 1) := by decide +kernel
theorem dX0_init_9 : decode cX0_init 9 = .ok (.invokespecial 11, 3) := by decide +kernel
theorem dX0_init_12 : decode cX0_init 12 = .ok (.putfield 12, 3) := by decide +kernel
theorem dX0_init_15 : decode cX0_init 15 = .ok (.aload_n 0, 1) := by decide +kernel
theorem dX0_init_16 : decode cX0_init 16 = .ok (.bipush 10, 2) := by decide +kernel
theorem dX0_init_18 : decode cX0_init 18 = .ok (.anewarray 18, 3) := by decide +kernel
theorem dX0_init_21 : decode cX0_init 21 = .ok (.putfield 20, 3) := by decide +kernel
theorem dX0_init_24 : decode cX0_init 24 = .ok (.iconst 0, 1) := by decide +kernel
theorem dX0_init_25 : decode cX0_init 25 = .ok (.istore_n 1, 1) := by decide +kernel
theorem dX0_init_26 : decode cX0_init 26 = .ok (.iload_n 1, 1) := by decide +kernel
theorem dX0_init_27 : decode cX0_init 27 = .ok (.bipush 10, 2) := by decide +kernel
theorem dX0_init_29 : decode cX0_init 29 = .ok (.if_icmp .ge 22, 3) := by decide +kernel
theorem dX0_init_32 : decode cX0_init 32 = .ok (.aload_n 0, 1) := by decide +kernel
theorem dX0_init_33 : decode cX0_init 33 = .ok (.getfield 20, 3) := by decide +kernel
theorem dX0_init_36 : decode cX0_init 36 = .ok (.iload_n 1, 1) := by decide +kernel
theorem dX0_init_37 : decode cX0_init 37 = .ok (.new 18, 3) := by decide +kernel
theorem dX0_init_40 : decode cX0_init 40 = .ok (.dup, 1) := by decide +kernel
theorem dX0_init_41 : decode cX0_init 41 = .ok (.invokespecial 24, 3) := by decide +kernel
theorem dX0_init_44 : decode cX0_init 44 = .ok (.aastore, 1) := by decide +kernel
theorem dX0_init_45 : decode cX0_init 45 = .ok (.iinc 1 1, 3) := by decide +kernel
theorem dX0_init_48 : decode cX0_init 48 = .ok (.goto (-22), 3) := by decide +kernel
theorem dX0_init_51 : decode cX0_init 51 = .ok (.aload_n 0, 1) := by decide +kernel
theorem dX0_init_52 : decode cX0_init 52 = .ok (.iconst 0, 1) := by decide +kernel
theorem dX0_init_53 : decode cX0_init 53 = .ok (.putfield 25, 3) := by decide +kernel
theorem dX0_init_56 : decode cX0_init 56 = .ok (.aload_n 0, 1) := by decide +kernel
theorem dX0_init_57 : decode cX0_init 57 = .ok (.iconst 0, 1) := by decide +kernel
theorem dX0_init_58 : decode cX0_init 58 = .ok (.putfield 29, 3) := by decide +kernel
theorem dX0_init_61 : decode cX0_init 61 = .ok (.aload_n 0, 1) := by decide +kernel
theorem dX0_init_62 : decode cX0_init 62 = .ok (.iconst 4, 1) := by decide +kernel
theorem dX0_init_63 : decode cX0_init 63 = .ok (.anewarray 32, 3) := by decide +kernel
theorem dX0_init_66 : decode cX0_init 66 = .ok (.putfield 34, 3) := by decide +kernel
theorem dX0_init_69 : decode cX0_init 69 = .ok (.iconst 0, 1) := by decide +kernel
theorem dX0_init_70 : decode cX0_init 70 = .ok (.istore_n 1, 1) := by decide +kernel
theorem dX0_init_71 : decode cX0_init 71 = .ok (.iload_n 1, 1) := by decide +kernel
theorem dX0_init_72 : decode cX0_init 72 = .ok (.iconst 4, 1) := by decide +kernel
theorem dX0_init_73 : decode cX0_init 73 = .ok (.if_icmp .ge 22, 3) := by decide +kernel
theorem dX0_init_76 : decode cX0_init 76 = .ok (.aload_n 0, 1) := by decide +kernel
theorem dX0_init_77 : decode cX0_init 77 = .ok (.getfield 34, 3) := by decide +kernel
theorem dX0_init_80 : decode cX0_init 80 = .ok (.iload_n 1, 1) := by decide +kernel
theorem dX0_init_81 : decode cX0_init 81 = .ok (.new 32, 3) := by decide +kernel
theorem dX0_init_84 : decode cX0_init 84 = .ok (.dup, 1) := by decide +kernel
theorem dX0_init_85 : decode cX0_init 85 = .ok (.invokespecial 38, 3) := by decide +kernel
theorem dX0_init_88 : decode cX0_init 88 = .ok (.aastore, 1) := by decide +kernel
theorem dX0_init_89 : decode cX0_init 89 = .ok (.iinc 1 1, 3) := by decide +kernel
theorem dX0_init_92 : decode cX0_init 92 = .ok (.goto (-21), 3) := by decide +kernel
theorem dX0_init_95 : decode cX0_init 95 = .ok (.aload_n 0, 1) := by decide +kernel
theorem dX0_init_96 : decode cX0_init 96 = .ok (.new 32, 3) := by decide +kernel
theorem dX0_init_99 : decode cX0_init 99 = .ok (.dup, 1) := by decide +kernel
theorem dX0_init_100 : decode cX0_init 100 = .ok (.invokespecial 38, 3) := by decide +kernel
theorem dX0_init_103 : decode cX0_init 103 = .ok (.putfield 39, 3) := by decide +kernel
theorem dX0_init_106 : decode cX0_init 106 = .ok (.return_, 1) := by decide +kernel
theorem dX0_hasVoyage_0 : decode cX0_hasVoyage 0 = .ok (.iload_n 1, 1) := by decide +kernel
theorem dX0_hasVoyage_1 : decode cX0_hasVoyage 1 = .ok (.ifCond .lt 15, 3) := by decide +kernel
theorem dX0_hasVoyage_4 : decode cX0_hasVoyage 4 = .ok (.iload_n 1, 1) := by decide +kernel
theorem dX0_hasVoyage_5 : decode cX0_hasVoyage 5 = .ok (.aload_n 0, 1) := by decide +kernel
theorem dX0_hasVoyage_6 : decode cX0_hasVoyage 6 = .ok (.getfield 25, 3) := by decide +kernel
theorem dX0_hasVoyage_9 : decode cX0_hasVoyage 9 = .ok (.if_icmp .ge 7, 3) := by decide +kernel
theorem dX0_hasVoyage_12 : decode cX0_hasVoyage 12 = .ok (.iconst 1, 1) := by decide +kernel
theorem dX0_hasVoyage_13 : decode cX0_hasVoyage 13 = .ok (.goto 4, 3) := by decide +kernel
theorem dX0_hasVoyage_16 : decode cX0_hasVoyage 16 = .ok (.iconst 0, 1) := by decide +kernel
theorem dX0_hasVoyage_17 : decode cX0_hasVoyage 17 = .ok (.ireturn, 1) := by decide +kernel
theorem dX1_init_0 : decode cX1_init 0 = .ok (.aload_n 0, 1) := by decide +kernel
theorem dX1_init_1 : decode cX1_init 1 = .ok (.invokespecial 3, 3) := by decide +kernel
theorem dX1_init_4 : decode cX1_init 4 = .ok (.aload_n 0, 1) := by decide +kernel
theorem dX1_init_5 : decode cX1_init 5 = .ok (.bipush 12, 2) := by decide +kernel
theorem dX1_init_7 : decode cX1_init 7 = .ok (.newarray .int, 2) := by decide +kernel
theorem dX1_init_9 : decode cX1_init 9 = .ok (.putfield 9, 3) := by decide +kernel
theorem dX1_init_12 : decode cX1_init 12 = .ok (.aload_n 0, 1) := by decide +kernel
theorem dX1_init_13 : decode cX1_init 13 = .ok (.bipush 12, 2) := by decide +kernel
theorem dX1_init_15 : decode cX1_init 15 = .ok (.newarray .int, 2) := by decide +kernel
theorem dX1_init_17 : decode cX1_init 17 = .ok (.putfield 15, 3) := by decide +kernel
theorem dX1_init_20 : decode cX1_init 20 = .ok (.aload_n 0, 1) := by decide +kernel
theorem dX1_init_21 : decode cX1_init 21 = .ok (.bipush 12, 2) := by decide +kernel
theorem dX1_init_23 : decode cX1_init 23 = .ok (.newarray .int, 2) := by decide +kernel
theorem dX1_init_25 : decode cX1_init 25 = .ok (.putfield 18, 3) := by decide +kernel
theorem dX1_init_28 : decode cX1_init 28 = .ok (.aload_n 0, 1) := by decide +kernel
theorem dX1_init_29 : decode cX1_init 29 = .ok (.sipush 144, 3) := by decide +kernel
theorem dX1_init_32 : decode cX1_init 32 = .ok (.newarray .int, 2) := by decide +kernel
theorem dX1_init_34 : decode cX1_init 34 = .ok (.putfield 21, 3) := by decide +kernel
theorem dX1_init_37 : decode cX1_init 37 = .ok (.aload_n 0, 1) := by decide +kernel
theorem dX1_init_38 : decode cX1_init 38 = .ok (.iconst 0, 1) := by decide +kernel
theorem dX1_init_39 : decode cX1_init 39 = .ok (.putfield 24, 3) := by decide +kernel
theorem dX1_init_42 : decode cX1_init 42 = .ok (.return_, 1) := by decide +kernel
theorem dX1_has_0 : decode cX1_has 0 = .ok (.iload_n 1, 1) := by decide +kernel
theorem dX1_has_1 : decode cX1_has 1 = .ok (.ifCond .lt 15, 3) := by decide +kernel
theorem dX1_has_4 : decode cX1_has 4 = .ok (.iload_n 1, 1) := by decide +kernel
theorem dX1_has_5 : decode cX1_has 5 = .ok (.aload_n 0, 1) := by decide +kernel
theorem dX1_has_6 : decode cX1_has 6 = .ok (.getfield 24, 3) := by decide +kernel
theorem dX1_has_9 : decode cX1_has 9 = .ok (.if_icmp .ge 7, 3) := by decide +kernel
theorem dX1_has_12 : decode cX1_has 12 = .ok (.iconst 1, 1) := by decide +kernel
theorem dX1_has_13 : decode cX1_has 13 = .ok (.goto 4, 3) := by decide +kernel
theorem dX1_has_16 : decode cX1_has 16 = .ok (.iconst 0, 1) := by decide +kernel
theorem dX1_has_17 : decode cX1_has 17 = .ok (.ireturn, 1) := by decide +kernel
theorem dX1_add_0 : decode cX1_add 0 = .ok (.aload_n 0, 1) := by decide +kernel
theorem dX1_add_1 : decode cX1_add 1 = .ok (.getfield 24, 3) := by decide +kernel
theorem dX1_add_4 : decode cX1_add 4 = .ok (.istore 4, 2) := by decide +kernel
theorem dX1_add_6 : decode cX1_add 6 = .ok (.aload_n 0, 1) := by decide +kernel
theorem dX1_add_7 : decode cX1_add 7 = .ok (.getfield 9, 3) := by decide +kernel
theorem dX1_add_10 : decode cX1_add 10 = .ok (.iload 4, 2) := by decide +kernel
theorem dX1_add_12 : decode cX1_add 12 = .ok (.iload_n 1, 1) := by decide +kernel
theorem dX1_add_13 : decode cX1_add 13 = .ok (.iastore, 1) := by decide +kernel
theorem dX1_add_14 : decode cX1_add 14 = .ok (.aload_n 0, 1) := by decide +kernel
theorem dX1_add_15 : decode cX1_add 15 = .ok (.getfield 15, 3) := by decide +kernel
theorem dX1_add_18 : decode cX1_add 18 = .ok (.iload 4, 2) := by decide +kernel
theorem dX1_add_20 : decode cX1_add 20 = .ok (.iload_n 2, 1) := by decide +kernel
theorem dX1_add_21 : decode cX1_add 21 = .ok (.iastore, 1) := by decide +kernel
theorem dX1_add_22 : decode cX1_add 22 = .ok (.aload_n 0, 1) := by decide +kernel
theorem dX1_add_23 : decode cX1_add 23 = .ok (.getfield 18, 3) := by decide +kernel
theorem dX1_add_26 : decode cX1_add 26 = .ok (.iload 4, 2) := by decide +kernel
theorem dX1_add_28 : decode cX1_add 28 = .ok (.iload_n 3, 1) := by decide +kernel
theorem dX1_add_29 : decode cX1_add 29 = .ok (.iastore, 1) := by decide +kernel
theorem dX1_add_30 : decode cX1_add 30 = .ok (.aload_n 0, 1) := by decide +kernel
theorem dX1_add_31 : decode cX1_add 31 = .ok (.iload 4, 2) := by decide +kernel
theorem dX1_add_33 : decode cX1_add 33 = .ok (.iconst 1, 1) := by decide +kernel
theorem dX1_add_34 : decode cX1_add 34 = .ok (.iadd, 1) := by decide +kernel
theorem dX1_add_35 : decode cX1_add 35 = .ok (.putfield 24, 3) := by decide +kernel
theorem dX1_add_38 : decode cX1_add 38 = .ok (.iload 4, 2) := by decide +kernel
theorem dX1_add_40 : decode cX1_add 40 = .ok (.ireturn, 1) := by decide +kernel
theorem dX1_otherEnd_0 : decode cX1_otherEnd 0 = .ok (.aload_n 0, 1) := by decide +kernel
theorem dX1_otherEnd_1 : decode cX1_otherEnd 1 = .ok (.getfield 9, 3) := by decide +kernel
theorem dX1_otherEnd_4 : decode cX1_otherEnd 4 = .ok (.iload_n 1, 1) := by decide +kernel
theorem dX1_otherEnd_5 : decode cX1_otherEnd 5 = .ok (.iaload, 1) := by decide +kernel
theorem dX1_otherEnd_6 : decode cX1_otherEnd 6 = .ok (.iload_n 2, 1) := by decide +kernel
theorem dX1_otherEnd_7 : decode cX1_otherEnd 7 = .ok (.if_icmp .ne 10, 3) := by decide +kernel
theorem dX1_otherEnd_10 : decode cX1_otherEnd 10 = .ok (.aload_n 0, 1) := by decide +kernel
theorem dX1_otherEnd_11 : decode cX1_otherEnd 11 = .ok (.getfield 15, 3) := by decide +kernel
theorem dX1_otherEnd_14 : decode cX1_otherEnd 14 = .ok (.iload_n 1, 1) := by decide +kernel
theorem dX1_otherEnd_15 : decode cX1_otherEnd 15 = .ok (.iaload, 1) := by decide +kernel
theorem dX1_otherEnd_16 : decode cX1_otherEnd 16 = .ok (.ireturn, 1) := by decide +kernel
theorem dX1_otherEnd_17 : decode cX1_otherEnd 17 = .ok (.aload_n 0, 1) := by decide +kernel
theorem dX1_otherEnd_18 : decode cX1_otherEnd 18 = .ok (.getfield 15, 3) := by decide +kernel
theorem dX1_otherEnd_21 : decode cX1_otherEnd 21 = .ok (.iload_n 1, 1) := by decide +kernel
theorem dX1_otherEnd_22 : decode cX1_otherEnd 22 = .ok (.iaload, 1) := by decide +kernel
theorem dX1_otherEnd_23 : decode cX1_otherEnd 23 = .ok (.iload_n 2, 1) := by decide +kernel
theorem dX1_otherEnd_24 : decode cX1_otherEnd 24 = .ok (.if_icmp .ne 12, 3) := by decide +kernel
theorem dX1_otherEnd_27 : decode cX1_otherEnd 27 = .ok (.aload_n 0, 1) := by decide +kernel
theorem dX1_otherEnd_28 : decode cX1_otherEnd 28 = .ok (.getfield 9, 3) := by decide +kernel
theorem dX1_otherEnd_31 : decode cX1_otherEnd 31 = .ok (.iload_n 1, 1) := by decide +kernel
theorem dX1_otherEnd_32 : decode cX1_otherEnd 32 = .ok (.iaload, 1) := by decide +kernel
theorem dX1_otherEnd_33 : decode cX1_otherEnd 33 = .ok (.goto 4, 3) := by decide +kernel
theorem dX1_otherEnd_36 : decode cX1_otherEnd 36 = .ok (.iconst (-1), 1) := by decide +kernel
theorem dX1_otherEnd_37 : decode cX1_otherEnd 37 = .ok (.ireturn, 1) := by decide +kernel
theorem dX1_windIn_0 : decode cX1_windIn 0 = .ok (.aload_n 0, 1) := by decide +kernel
theorem dX1_windIn_1 : decode cX1_windIn 1 = .ok (.getfield 21, 3) := by decide +kernel
theorem dX1_windIn_4 : decode cX1_windIn 4 = .ok (.iload_n 1, 1) := by decide +kernel
theorem dX1_windIn_5 : decode cX1_windIn 5 = .ok (.bipush 12, 2) := by decide +kernel
theorem dX1_windIn_7 : decode cX1_windIn 7 = .ok (.imul, 1) := by decide +kernel
theorem dX1_windIn_8 : decode cX1_windIn 8 = .ok (.iload_n 2, 1) := by decide +kernel
theorem dX1_windIn_9 : decode cX1_windIn 9 = .ok (.invokestatic 28, 3) := by decide +kernel
theorem dX1_windIn_12 : decode cX1_windIn 12 = .ok (.iadd, 1) := by decide +kernel
theorem dX1_windIn_13 : decode cX1_windIn 13 = .ok (.iaload, 1) := by decide +kernel
theorem dX1_windIn_14 : decode cX1_windIn 14 = .ok (.ireturn, 1) := by decide +kernel
theorem dX2_init_0 : decode cX2_init 0 = .ok (.aload_n 0, 1) := by decide +kernel
theorem dX2_init_1 : decode cX2_init 1 = .ok (.invokespecial 3, 3) := by decide +kernel
theorem dX2_init_4 : decode cX2_init 4 = .ok (.aload_n 0, 1) := by decide +kernel
theorem dX2_init_5 : decode cX2_init 5 = .ok (.bipush 12, 2) := by decide +kernel
theorem dX2_init_7 : decode cX2_init 7 = .ok (.newarray .int, 2) := by decide +kernel
theorem dX2_init_9 : decode cX2_init 9 = .ok (.putfield 9, 3) := by decide +kernel
theorem dX2_init_12 : decode cX2_init 12 = .ok (.aload_n 0, 1) := by decide +kernel
theorem dX2_init_13 : decode cX2_init 13 = .ok (.bipush 12, 2) := by decide +kernel
theorem dX2_init_15 : decode cX2_init 15 = .ok (.newarray .int, 2) := by decide +kernel
theorem dX2_init_17 : decode cX2_init 17 = .ok (.putfield 15, 3) := by decide +kernel
theorem dX2_init_20 : decode cX2_init 20 = .ok (.aload_n 0, 1) := by decide +kernel
theorem dX2_init_21 : decode cX2_init 21 = .ok (.bipush 12, 2) := by decide +kernel
theorem dX2_init_23 : decode cX2_init 23 = .ok (.newarray .int, 2) := by decide +kernel
theorem dX2_init_25 : decode cX2_init 25 = .ok (.putfield 18, 3) := by decide +kernel
theorem dX2_init_28 : decode cX2_init 28 = .ok (.aload_n 0, 1) := by decide +kernel
theorem dX2_init_29 : decode cX2_init 29 = .ok (.sipush 200, 3) := by decide +kernel
theorem dX2_init_32 : decode cX2_init 32 = .ok (.newarray .int, 2) := by decide +kernel
theorem dX2_init_34 : decode cX2_init 34 = .ok (.putfield 21, 3) := by decide +kernel
theorem dX2_init_37 : decode cX2_init 37 = .ok (.aload_n 0, 1) := by decide +kernel
theorem dX2_init_38 : decode cX2_init 38 = .ok (.sipush 200, 3) := by decide +kernel
theorem dX2_init_41 : decode cX2_init 41 = .ok (.newarray .int, 2) := by decide +kernel
theorem dX2_init_43 : decode cX2_init 43 = .ok (.putfield 24, 3) := by decide +kernel
theorem dX2_init_46 : decode cX2_init 46 = .ok (.aload_n 0, 1) := by decide +kernel
theorem dX2_init_47 : decode cX2_init 47 = .ok (.sipush 200, 3) := by decide +kernel
theorem dX2_init_50 : decode cX2_init 50 = .ok (.newarray .int, 2) := by decide +kernel
theorem dX2_init_52 : decode cX2_init 52 = .ok (.putfield 27, 3) := by decide +kernel
theorem dX2_init_55 : decode cX2_init 55 = .ok (.aload_n 0, 1) := by decide +kernel
theorem dX2_init_56 : decode cX2_init 56 = .ok (.iconst 0, 1) := by decide +kernel
theorem dX2_init_57 : decode cX2_init 57 = .ok (.putfield 30, 3) := by decide +kernel
theorem dX2_init_60 : decode cX2_init 60 = .ok (.aload_n 0, 1) := by decide +kernel
theorem dX2_init_61 : decode cX2_init 61 = .ok (.iconst 0, 1) := by decide +kernel
theorem dX2_init_62 : decode cX2_init 62 = .ok (.putfield 34, 3) := by decide +kernel
theorem dX2_init_65 : decode cX2_init 65 = .ok (.aload_n 0, 1) := by decide +kernel
theorem dX2_init_66 : decode cX2_init 66 = .ok (.iconst 0, 1) := by decide +kernel
theorem dX2_init_67 : decode cX2_init 67 = .ok (.putfield 37, 3) := by decide +kernel
theorem dX2_init_70 : decode cX2_init 70 = .ok (.return_, 1) := by decide +kernel
theorem dX2_empty_0 : decode cX2_empty 0 = .ok (.aload_n 0, 1) := by decide +kernel
theorem dX2_empty_1 : decode cX2_empty 1 = .ok (.iconst 0, 1) := by decide +kernel
theorem dX2_empty_2 : decode cX2_empty 2 = .ok (.putfield 30, 3) := by decide +kernel
theorem dX2_empty_5 : decode cX2_empty 5 = .ok (.aload_n 0, 1) := by decide +kernel
theorem dX2_empty_6 : decode cX2_empty 6 = .ok (.iconst 0, 1) := by decide +kernel
theorem dX2_empty_7 : decode cX2_empty 7 = .ok (.putfield 34, 3) := by decide +kernel
theorem dX2_empty_10 : decode cX2_empty 10 = .ok (.aload_n 0, 1) := by decide +kernel
theorem dX2_empty_11 : decode cX2_empty 11 = .ok (.iconst 0, 1) := by decide +kernel
theorem dX2_empty_12 : decode cX2_empty 12 = .ok (.putfield 37, 3) := by decide +kernel
theorem dX2_empty_15 : decode cX2_empty 15 = .ok (.return_, 1) := by decide +kernel
theorem dX2_addStep_0 : decode cX2_addStep 0 = .ok (.aload_n 0, 1) := by decide +kernel
theorem dX2_addStep_1 : decode cX2_addStep 1 = .ok (.getfield 37, 3) := by decide +kernel
theorem dX2_addStep_4 : decode cX2_addStep 4 = .ok (.sipush 200, 3) := by decide +kernel
theorem dX2_addStep_7 : decode cX2_addStep 7 = .ok (.if_icmp .ge 43, 3) := by decide +kernel
theorem dX2_addStep_10 : decode cX2_addStep 10 = .ok (.aload_n 0, 1) := by decide +kernel
theorem dX2_addStep_11 : decode cX2_addStep 11 = .ok (.getfield 21, 3) := by decide +kernel
theorem dX2_addStep_14 : decode cX2_addStep 14 = .ok (.aload_n 0, 1) := by decide +kernel
theorem dX2_addStep_15 : decode cX2_addStep 15 = .ok (.getfield 37, 3) := by decide +kernel
theorem dX2_addStep_18 : decode cX2_addStep 18 = .ok (.iload_n 1, 1) := by decide +kernel
theorem dX2_addStep_19 : decode cX2_addStep 19 = .ok (.iastore, 1) := by decide +kernel
theorem dX2_addStep_20 : decode cX2_addStep 20 = .ok (.aload_n 0, 1) := by decide +kernel
theorem dX2_addStep_21 : decode cX2_addStep 21 = .ok (.getfield 24, 3) := by decide +kernel
theorem dX2_addStep_24 : decode cX2_addStep 24 = .ok (.aload_n 0, 1) := by decide +kernel
theorem dX2_addStep_25 : decode cX2_addStep 25 = .ok (.getfield 37, 3) := by decide +kernel
theorem dX2_addStep_28 : decode cX2_addStep 28 = .ok (.iload_n 2, 1) := by decide +kernel
theorem dX2_addStep_29 : decode cX2_addStep 29 = .ok (.iastore, 1) := by decide +kernel
theorem dX2_addStep_30 : decode cX2_addStep 30 = .ok (.aload_n 0, 1) := by decide +kernel
theorem dX2_addStep_31 : decode cX2_addStep 31 = .ok (.getfield 27, 3) := by decide +kernel
theorem dX2_addStep_34 : decode cX2_addStep 34 = .ok (.aload_n 0, 1) := by decide +kernel
theorem dX2_addStep_35 : decode cX2_addStep 35 = .ok (.getfield 37, 3) := by decide +kernel
theorem dX2_addStep_38 : decode cX2_addStep 38 = .ok (.iload_n 3, 1) := by decide +kernel
theorem dX2_addStep_39 : decode cX2_addStep 39 = .ok (.iastore, 1) := by decide +kernel
theorem dX2_addStep_40 : decode cX2_addStep 40 = .ok (.aload_n 0, 1) := by decide +kernel
theorem dX2_addStep_41 : decode cX2_addStep 41 = .ok (.dup, 1) := by decide +kernel
theorem dX2_addStep_42 : decode cX2_addStep 42 = .ok (.getfield 37, 3) := by decide +kernel
theorem dX2_addStep_45 : decode cX2_addStep 45 = .ok (.iconst 1, 1) := by decide +kernel
theorem dX2_addStep_46 : decode cX2_addStep 46 = .ok (.iadd, 1) := by decide +kernel
theorem dX2_addStep_47 : decode cX2_addStep 47 = .ok (.putfield 37, 3) := by decide +kernel
theorem dX2_addStep_50 : decode cX2_addStep 50 = .ok (.return_, 1) := by decide +kernel
theorem dX2_endClause_0 : decode cX2_endClause 0 = .ok (.aload_n 0, 1) := by decide +kernel
theorem dX2_endClause_1 : decode cX2_endClause 1 = .ok (.getfield 30, 3) := by decide +kernel
theorem dX2_endClause_4 : decode cX2_endClause 4 = .ok (.bipush 12, 2) := by decide +kernel
theorem dX2_endClause_6 : decode cX2_endClause 6 = .ok (.if_icmp .ge 46, 3) := by decide +kernel
theorem dX2_endClause_9 : decode cX2_endClause 9 = .ok (.aload_n 0, 1) := by decide +kernel
theorem dX2_endClause_10 : decode cX2_endClause 10 = .ok (.getfield 9, 3) := by decide +kernel
theorem dX2_endClause_13 : decode cX2_endClause 13 = .ok (.aload_n 0, 1) := by decide +kernel
theorem dX2_endClause_14 : decode cX2_endClause 14 = .ok (.getfield 30, 3) := by decide +kernel
theorem dX2_endClause_17 : decode cX2_endClause 17 = .ok (.iload_n 1, 1) := by decide +kernel
theorem dX2_endClause_18 : decode cX2_endClause 18 = .ok (.iastore, 1) := by decide +kernel
theorem dX2_endClause_19 : decode cX2_endClause 19 = .ok (.aload_n 0, 1) := by decide +kernel
theorem dX2_endClause_20 : decode cX2_endClause 20 = .ok (.getfield 15, 3) := by decide +kernel
theorem dX2_endClause_23 : decode cX2_endClause 23 = .ok (.aload_n 0, 1) := by decide +kernel
theorem dX2_endClause_24 : decode cX2_endClause 24 = .ok (.getfield 30, 3) := by decide +kernel
theorem dX2_endClause_27 : decode cX2_endClause 27 = .ok (.iload_n 2, 1) := by decide +kernel
theorem dX2_endClause_28 : decode cX2_endClause 28 = .ok (.iastore, 1) := by decide +kernel
theorem dX2_endClause_29 : decode cX2_endClause 29 = .ok (.aload_n 0, 1) := by decide +kernel
theorem dX2_endClause_30 : decode cX2_endClause 30 = .ok (.getfield 18, 3) := by decide +kernel
theorem dX2_endClause_33 : decode cX2_endClause 33 = .ok (.aload_n 0, 1) := by decide +kernel
theorem dX2_endClause_34 : decode cX2_endClause 34 = .ok (.getfield 30, 3) := by decide +kernel
theorem dX2_endClause_37 : decode cX2_endClause 37 = .ok (.aload_n 0, 1) := by decide +kernel
theorem dX2_endClause_38 : decode cX2_endClause 38 = .ok (.getfield 37, 3) := by decide +kernel
theorem dX2_endClause_41 : decode cX2_endClause 41 = .ok (.iastore, 1) := by decide +kernel
theorem dX2_endClause_42 : decode cX2_endClause 42 = .ok (.aload_n 0, 1) := by decide +kernel
theorem dX2_endClause_43 : decode cX2_endClause 43 = .ok (.dup, 1) := by decide +kernel
theorem dX2_endClause_44 : decode cX2_endClause 44 = .ok (.getfield 30, 3) := by decide +kernel
theorem dX2_endClause_47 : decode cX2_endClause 47 = .ok (.iconst 1, 1) := by decide +kernel
theorem dX2_endClause_48 : decode cX2_endClause 48 = .ok (.iadd, 1) := by decide +kernel
theorem dX2_endClause_49 : decode cX2_endClause 49 = .ok (.putfield 30, 3) := by decide +kernel
theorem dX2_endClause_52 : decode cX2_endClause 52 = .ok (.iload_n 1, 1) := by decide +kernel
theorem dX2_endClause_53 : decode cX2_endClause 53 = .ok (.bipush 80, 2) := by decide +kernel
theorem dX2_endClause_55 : decode cX2_endClause 55 = .ok (.if_icmp .ne 8, 3) := by decide +kernel
theorem dX2_endClause_58 : decode cX2_endClause 58 = .ok (.aload_n 0, 1) := by decide +kernel
theorem dX2_endClause_59 : decode cX2_endClause 59 = .ok (.iload_n 2, 1) := by decide +kernel
theorem dX2_endClause_60 : decode cX2_endClause 60 = .ok (.putfield 34, 3) := by decide +kernel
theorem dX2_endClause_63 : decode cX2_endClause 63 = .ok (.return_, 1) := by decide +kernel
theorem dX2_excuses_0 : decode cX2_excuses 0 = .ok (.iconst 0, 1) := by decide +kernel
theorem dX2_excuses_1 : decode cX2_excuses 1 = .ok (.istore_n 2, 1) := by decide +kernel
theorem dX2_excuses_2 : decode cX2_excuses 2 = .ok (.iload_n 2, 1) := by decide +kernel
theorem dX2_excuses_3 : decode cX2_excuses 3 = .ok (.aload_n 0, 1) := by decide +kernel
theorem dX2_excuses_4 : decode cX2_excuses 4 = .ok (.getfield 30, 3) := by decide +kernel
theorem dX2_excuses_7 : decode cX2_excuses 7 = .ok (.if_icmp .ge 31, 3) := by decide +kernel
theorem dX2_excuses_10 : decode cX2_excuses 10 = .ok (.aload_n 0, 1) := by decide +kernel
theorem dX2_excuses_11 : decode cX2_excuses 11 = .ok (.getfield 9, 3) := by decide +kernel
theorem dX2_excuses_14 : decode cX2_excuses 14 = .ok (.iload_n 2, 1) := by decide +kernel
theorem dX2_excuses_15 : decode cX2_excuses 15 = .ok (.iaload, 1) := by decide +kernel
theorem dX2_excuses_16 : decode cX2_excuses 16 = .ok (.bipush 88, 2) := by decide +kernel
theorem dX2_excuses_18 : decode cX2_excuses 18 = .ok (.if_icmp .ne 14, 3) := by decide +kernel
theorem dX2_excuses_21 : decode cX2_excuses 21 = .ok (.aload_n 0, 1) := by decide +kernel
theorem dX2_excuses_22 : decode cX2_excuses 22 = .ok (.iload_n 2, 1) := by decide +kernel
theorem dX2_excuses_23 : decode cX2_excuses 23 = .ok (.aload_n 1, 1) := by decide +kernel
theorem dX2_excuses_24 : decode cX2_excuses 24 = .ok (.invokevirtual 40, 3) := by decide +kernel
theorem dX2_excuses_27 : decode cX2_excuses 27 = .ok (.ifCond .eq 5, 3) := by decide +kernel
theorem dX2_excuses_30 : decode cX2_excuses 30 = .ok (.iconst 1, 1) := by decide +kernel
theorem dX2_excuses_31 : decode cX2_excuses 31 = .ok (.ireturn, 1) := by decide +kernel
theorem dX2_excuses_32 : decode cX2_excuses 32 = .ok (.iinc 2 1, 3) := by decide +kernel
theorem dX2_excuses_35 : decode cX2_excuses 35 = .ok (.goto (-33), 3) := by decide +kernel
theorem dX2_excuses_38 : decode cX2_excuses 38 = .ok (.iconst 0, 1) := by decide +kernel
theorem dX2_excuses_39 : decode cX2_excuses 39 = .ok (.ireturn, 1) := by decide +kernel
theorem dX2_waitHours_0 : decode cX2_waitHours 0 = .ok (.iconst 0, 1) := by decide +kernel
theorem dX2_waitHours_1 : decode cX2_waitHours 1 = .ok (.istore_n 3, 1) := by decide +kernel
theorem dX2_waitHours_2 : decode cX2_waitHours 2 = .ok (.iload_n 3, 1) := by decide +kernel
theorem dX2_waitHours_3 : decode cX2_waitHours 3 = .ok (.aload_n 0, 1) := by decide +kernel
theorem dX2_waitHours_4 : decode cX2_waitHours 4 = .ok (.getfield 30, 3) := by decide +kernel
theorem dX2_waitHours_7 : decode cX2_waitHours 7 = .ok (.if_icmp .ge 49, 3) := by decide +kernel
theorem dX2_waitHours_10 : decode cX2_waitHours 10 = .ok (.aload_n 0, 1) := by decide +kernel
theorem dX2_waitHours_11 : decode cX2_waitHours 11 = .ok (.getfield 9, 3) := by decide +kernel
theorem dX2_waitHours_14 : decode cX2_waitHours 14 = .ok (.iload_n 3, 1) := by decide +kernel
theorem dX2_waitHours_15 : decode cX2_waitHours 15 = .ok (.iaload, 1) := by decide +kernel
theorem dX2_waitHours_16 : decode cX2_waitHours 16 = .ok (.bipush 87, 2) := by decide +kernel
theorem dX2_waitHours_18 : decode cX2_waitHours 18 = .ok (.if_icmp .ne 32, 3) := by decide +kernel
theorem dX2_waitHours_21 : decode cX2_waitHours 21 = .ok (.aload_n 0, 1) := by decide +kernel
theorem dX2_waitHours_22 : decode cX2_waitHours 22 = .ok (.getfield 15, 3) := by decide +kernel
theorem dX2_waitHours_25 : decode cX2_waitHours 25 = .ok (.iload_n 3, 1) := by decide +kernel
theorem dX2_waitHours_26 : decode cX2_waitHours 26 = .ok (.iaload, 1) := by decide +kernel
theorem dX2_waitHours_27 : decode cX2_waitHours 27 = .ok (.aload_n 1, 1) := by decide +kernel
theorem dX2_waitHours_28 : decode cX2_waitHours 28 = .ok (.iconst 1, 1) := by decide +kernel
theorem dX2_waitHours_29 : decode cX2_waitHours 29 = .ok (.iaload, 1) := by decide +kernel
theorem dX2_waitHours_30 : decode cX2_waitHours 30 = .ok (.if_icmp .le 20, 3) := by decide +kernel
theorem dX2_waitHours_33 : decode cX2_waitHours 33 = .ok (.aload_n 0, 1) := by decide +kernel
theorem dX2_waitHours_34 : decode cX2_waitHours 34 = .ok (.iload_n 3, 1) := by decide +kernel
theorem dX2_waitHours_35 : decode cX2_waitHours 35 = .ok (.aload_n 1, 1) := by decide +kernel
theorem dX2_waitHours_36 : decode cX2_waitHours 36 = .ok (.invokevirtual 40, 3) := by decide +kernel
theorem dX2_waitHours_39 : decode cX2_waitHours 39 = .ok (.ifCond .eq 11, 3) := by decide +kernel
theorem dX2_waitHours_42 : decode cX2_waitHours 42 = .ok (.aload_n 0, 1) := by decide +kernel
theorem dX2_waitHours_43 : decode cX2_waitHours 43 = .ok (.iload_n 3, 1) := by decide +kernel
theorem dX2_waitHours_44 : decode cX2_waitHours 44 = .ok (.aload_n 1, 1) := by decide +kernel
theorem dX2_waitHours_45 : decode cX2_waitHours 45 = .ok (.iload_n 2, 1) := by decide +kernel
theorem dX2_waitHours_46 : decode cX2_waitHours 46 = .ok (.invokevirtual 44, 3) := by decide +kernel
theorem dX2_waitHours_49 : decode cX2_waitHours 49 = .ok (.ireturn, 1) := by decide +kernel
theorem dX2_waitHours_50 : decode cX2_waitHours 50 = .ok (.iinc 3 1, 3) := by decide +kernel
theorem dX2_waitHours_53 : decode cX2_waitHours 53 = .ok (.goto (-51), 3) := by decide +kernel
theorem dX2_waitHours_56 : decode cX2_waitHours 56 = .ok (.iconst 0, 1) := by decide +kernel
theorem dX2_waitHours_57 : decode cX2_waitHours 57 = .ok (.ireturn, 1) := by decide +kernel
theorem dX2_steadyHours_0 : decode cX2_steadyHours 0 = .ok (.aload_n 0, 1) := by decide +kernel
theorem dX2_steadyHours_1 : decode cX2_steadyHours 1 = .ok (.getfield 15, 3) := by decide +kernel
theorem dX2_steadyHours_4 : decode cX2_steadyHours 4 = .ok (.iload_n 1, 1) := by decide +kernel
theorem dX2_steadyHours_5 : decode cX2_steadyHours 5 = .ok (.iaload, 1) := by decide +kernel
theorem dX2_steadyHours_6 : decode cX2_steadyHours 6 = .ok (.aload_n 2, 1) := by decide +kernel
theorem dX2_steadyHours_7 : decode cX2_steadyHours 7 = .ok (.iconst 1, 1) := by decide +kernel
theorem dX2_steadyHours_8 : decode cX2_steadyHours 8 = .ok (.iaload, 1) := by decide +kernel
theorem dX2_steadyHours_9 : decode cX2_steadyHours 9 = .ok (.isub, 1) := by decide +kernel
theorem dX2_steadyHours_10 : decode cX2_steadyHours 10 = .ok (.sipush 720, 3) := by decide +kernel
theorem dX2_steadyHours_13 : decode cX2_steadyHours 13 = .ok (.iload_n 3, 1) := by decide +kernel
theorem dX2_steadyHours_14 : decode cX2_steadyHours 14 = .ok (.sipush 720, 3) := by decide +kernel
theorem dX2_steadyHours_17 : decode cX2_steadyHours 17 = .ok (.irem, 1) := by decide +kernel
theorem dX2_steadyHours_18 : decode cX2_steadyHours 18 = .ok (.isub, 1) := by decide +kernel
theorem dX2_steadyHours_19 : decode cX2_steadyHours 19 = .ok (.invokestatic 48, 3) := by decide +kernel
theorem dX2_steadyHours_22 : decode cX2_steadyHours 22 = .ok (.istore 4, 2) := by decide +kernel
theorem dX2_steadyHours_24 : decode cX2_steadyHours 24 = .ok (.aload_n 0, 1) := by decide +kernel
theorem dX2_steadyHours_25 : decode cX2_steadyHours 25 = .ok (.iload_n 1, 1) := by decide +kernel
theorem dX2_steadyHours_26 : decode cX2_steadyHours 26 = .ok (.invokevirtual 54, 3) := by decide +kernel
theorem dX2_steadyHours_29 : decode cX2_steadyHours 29 = .ok (.istore 5, 2) := by decide +kernel
theorem dX2_steadyHours_31 : decode cX2_steadyHours 31 = .ok (.iload 5, 2) := by decide +kernel
theorem dX2_steadyHours_33 : decode cX2_steadyHours 33 = .ok (.aload_n 0, 1) := by decide +kernel
theorem dX2_steadyHours_34 : decode cX2_steadyHours 34 = .ok (.getfield 18, 3) := by decide +kernel
theorem dX2_steadyHours_37 : decode cX2_steadyHours 37 = .ok (.iload_n 1, 1) := by decide +kernel
theorem dX2_steadyHours_38 : decode cX2_steadyHours 38 = .ok (.iaload, 1) := by decide +kernel
theorem dX2_steadyHours_39 : decode cX2_steadyHours 39 = .ok (.if_icmp .ge 80, 3) := by decide +kernel
theorem dX2_steadyHours_42 : decode cX2_steadyHours 42 = .ok (.aload_n 0, 1) := by decide +kernel
theorem dX2_steadyHours_43 : decode cX2_steadyHours 43 = .ok (.getfield 21, 3) := by decide +kernel
theorem dX2_steadyHours_46 : decode cX2_steadyHours 46 = .ok (.iload 5, 2) := by decide +kernel
theorem dX2_steadyHours_48 : decode cX2_steadyHours 48 = .ok (.iaload, 1) := by decide +kernel
theorem dX2_steadyHours_49 : decode cX2_steadyHours 49 = .ok (.invokestatic 58, 3) := by decide +kernel
theorem dX2_steadyHours_52 : decode cX2_steadyHours 52 = .ok (.ifCond .eq 61, 3) := by decide +kernel
theorem dX2_steadyHours_55 : decode cX2_steadyHours 55 = .ok (.aload_n 0, 1) := by decide +kernel
theorem dX2_steadyHours_56 : decode cX2_steadyHours 56 = .ok (.getfield 24, 3) := by decide +kernel
theorem dX2_steadyHours_59 : decode cX2_steadyHours 59 = .ok (.iload 5, 2) := by decide +kernel
theorem dX2_steadyHours_61 : decode cX2_steadyHours 61 = .ok (.iaload, 1) := by decide +kernel
theorem dX2_steadyHours_62 : decode cX2_steadyHours 62 = .ok (.ifCond .eq 14, 3) := by decide +kernel
theorem dX2_steadyHours_65 : decode cX2_steadyHours 65 = .ok (.aload_n 0, 1) := by decide +kernel
theorem dX2_steadyHours_66 : decode cX2_steadyHours 66 = .ok (.getfield 24, 3) := by decide +kernel
theorem dX2_steadyHours_69 : decode cX2_steadyHours 69 = .ok (.iload 5, 2) := by decide +kernel
theorem dX2_steadyHours_71 : decode cX2_steadyHours 71 = .ok (.iaload, 1) := by decide +kernel
theorem dX2_steadyHours_72 : decode cX2_steadyHours 72 = .ok (.iconst 1, 1) := by decide +kernel
theorem dX2_steadyHours_73 : decode cX2_steadyHours 73 = .ok (.if_icmp .ne 40, 3) := by decide +kernel
theorem dX2_steadyHours_76 : decode cX2_steadyHours 76 = .ok (.aload_n 0, 1) := by decide +kernel
theorem dX2_steadyHours_77 : decode cX2_steadyHours 77 = .ok (.getfield 27, 3) := by decide +kernel
theorem dX2_steadyHours_80 : decode cX2_steadyHours 80 = .ok (.iload 5, 2) := by decide +kernel
theorem dX2_steadyHours_82 : decode cX2_steadyHours 82 = .ok (.iaload, 1) := by decide +kernel
theorem dX2_steadyHours_83 : decode cX2_steadyHours 83 = .ok (.aload_n 2, 1) := by decide +kernel
theorem dX2_steadyHours_84 : decode cX2_steadyHours 84 = .ok (.aload_n 0, 1) := by decide +kernel
theorem dX2_steadyHours_85 : decode cX2_steadyHours 85 = .ok (.getfield 24, 3) := by decide +kernel
theorem dX2_steadyHours_88 : decode cX2_steadyHours 88 = .ok (.iload 5, 2) := by decide +kernel
theorem dX2_steadyHours_90 : decode cX2_steadyHours 90 = .ok (.iaload, 1) := by decide +kernel
theorem dX2_steadyHours_91 : decode cX2_steadyHours 91 = .ok (.iaload, 1) := by decide +kernel
theorem dX2_steadyHours_92 : decode cX2_steadyHours 92 = .ok (.isub, 1) := by decide +kernel
theorem dX2_steadyHours_93 : decode cX2_steadyHours 93 = .ok (.istore 6, 2) := by decide +kernel
theorem dX2_steadyHours_95 : decode cX2_steadyHours 95 = .ok (.iload 6, 2) := by decide +kernel
theorem dX2_steadyHours_97 : decode cX2_steadyHours 97 = .ok (.ifCond .lt 16, 3) := by decide +kernel
theorem dX2_steadyHours_100 : decode cX2_steadyHours 100 = .ok (.iload 4, 2) := by decide +kernel
theorem dX2_steadyHours_102 : decode cX2_steadyHours 102 = .ok (.iconst 1, 1) := by decide +kernel
theorem dX2_steadyHours_103 : decode cX2_steadyHours 103 = .ok (.iload 6, 2) := by decide +kernel
theorem dX2_steadyHours_105 : decode cX2_steadyHours 105 = .ok (.invokestatic 62, 3) := by decide +kernel
theorem dX2_steadyHours_108 : decode cX2_steadyHours 108 = .ok (.invokestatic 48, 3) := by decide +kernel
theorem dX2_steadyHours_111 : decode cX2_steadyHours 111 = .ok (.istore 4, 2) := by decide +kernel
theorem dX2_steadyHours_113 : decode cX2_steadyHours 113 = .ok (.iinc 5 1, 3) := by decide +kernel
theorem dX2_steadyHours_116 : decode cX2_steadyHours 116 = .ok (.goto (-85), 3) := by decide +kernel
theorem dX2_steadyHours_119 : decode cX2_steadyHours 119 = .ok (.iload 4, 2) := by decide +kernel
theorem dX2_steadyHours_121 : decode cX2_steadyHours 121 = .ok (.ireturn, 1) := by decide +kernel
theorem dX2_beginOf_0 : decode cX2_beginOf 0 = .ok (.iload_n 1, 1) := by decide +kernel
theorem dX2_beginOf_1 : decode cX2_beginOf 1 = .ok (.ifCond .le 14, 3) := by decide +kernel
theorem dX2_beginOf_4 : decode cX2_beginOf 4 = .ok (.aload_n 0, 1) := by decide +kernel
theorem dX2_beginOf_5 : decode cX2_beginOf 5 = .ok (.getfield 18, 3) := by decide +kernel
theorem dX2_beginOf_8 : decode cX2_beginOf 8 = .ok (.iload_n 1, 1) := by decide +kernel
theorem dX2_beginOf_9 : decode cX2_beginOf 9 = .ok (.iconst 1, 1) := by decide +kernel
theorem dX2_beginOf_10 : decode cX2_beginOf 10 = .ok (.isub, 1) := by decide +kernel
theorem dX2_beginOf_11 : decode cX2_beginOf 11 = .ok (.iaload, 1) := by decide +kernel
theorem dX2_beginOf_12 : decode cX2_beginOf 12 = .ok (.goto 4, 3) := by decide +kernel
theorem dX2_beginOf_15 : decode cX2_beginOf 15 = .ok (.iconst 0, 1) := by decide +kernel
theorem dX2_beginOf_16 : decode cX2_beginOf 16 = .ok (.ireturn, 1) := by decide +kernel
theorem dX2_holds_0 : decode cX2_holds 0 = .ok (.iconst 0, 1) := by decide +kernel
theorem dX2_holds_1 : decode cX2_holds 1 = .ok (.istore_n 3, 1) := by decide +kernel
theorem dX2_holds_2 : decode cX2_holds 2 = .ok (.aload_n 0, 1) := by decide +kernel
theorem dX2_holds_3 : decode cX2_holds 3 = .ok (.iload_n 1, 1) := by decide +kernel
theorem dX2_holds_4 : decode cX2_holds 4 = .ok (.invokevirtual 54, 3) := by decide +kernel
theorem dX2_holds_7 : decode cX2_holds 7 = .ok (.istore 4, 2) := by decide +kernel
theorem dX2_holds_9 : decode cX2_holds 9 = .ok (.iload 4, 2) := by decide +kernel
theorem dX2_holds_11 : decode cX2_holds 11 = .ok (.aload_n 0, 1) := by decide +kernel
theorem dX2_holds_12 : decode cX2_holds 12 = .ok (.getfield 18, 3) := by decide +kernel
theorem dX2_holds_15 : decode cX2_holds 15 = .ok (.iload_n 1, 1) := by decide +kernel
theorem dX2_holds_16 : decode cX2_holds 16 = .ok (.iaload, 1) := by decide +kernel
theorem dX2_holds_17 : decode cX2_holds 17 = .ok (.if_icmp .ge 115, 3) := by decide +kernel
theorem dX2_holds_20 : decode cX2_holds 20 = .ok (.iload_n 3, 1) := by decide +kernel
theorem dX2_holds_21 : decode cX2_holds 21 = .ok (.iconst 1, 1) := by decide +kernel
theorem dX2_holds_22 : decode cX2_holds 22 = .ok (.iand, 1) := by decide +kernel
theorem dX2_holds_23 : decode cX2_holds 23 = .ok (.istore 5, 2) := by decide +kernel
theorem dX2_holds_25 : decode cX2_holds 25 = .ok (.aload_n 0, 1) := by decide +kernel
theorem dX2_holds_26 : decode cX2_holds 26 = .ok (.getfield 21, 3) := by decide +kernel
theorem dX2_holds_29 : decode cX2_holds 29 = .ok (.iload 4, 2) := by decide +kernel
theorem dX2_holds_31 : decode cX2_holds 31 = .ok (.iaload, 1) := by decide +kernel
theorem dX2_holds_32 : decode cX2_holds 32 = .ok (.lookupswitch 66 #[(33, 36), (38, 43), (124, 56)], 36) := by decide +kernel
theorem dX2_holds_68 : decode cX2_holds 68 = .ok (.iload_n 3, 1) := by decide +kernel
theorem dX2_holds_69 : decode cX2_holds 69 = .ok (.iconst 1, 1) := by decide +kernel
theorem dX2_holds_70 : decode cX2_holds 70 = .ok (.ixor, 1) := by decide +kernel
theorem dX2_holds_71 : decode cX2_holds 71 = .ok (.istore_n 3, 1) := by decide +kernel
theorem dX2_holds_72 : decode cX2_holds 72 = .ok (.goto 54, 3) := by decide +kernel
theorem dX2_holds_75 : decode cX2_holds 75 = .ok (.iload_n 3, 1) := by decide +kernel
theorem dX2_holds_76 : decode cX2_holds 76 = .ok (.iconst 1, 1) := by decide +kernel
theorem dX2_holds_77 : decode cX2_holds 77 = .ok (.iushr, 1) := by decide +kernel
theorem dX2_holds_78 : decode cX2_holds 78 = .ok (.iload 5, 2) := by decide +kernel
theorem dX2_holds_80 : decode cX2_holds 80 = .ok (.bipush (-2), 2) := by decide +kernel
theorem dX2_holds_82 : decode cX2_holds 82 = .ok (.ior, 1) := by decide +kernel
theorem dX2_holds_83 : decode cX2_holds 83 = .ok (.iand, 1) := by decide +kernel
theorem dX2_holds_84 : decode cX2_holds 84 = .ok (.istore_n 3, 1) := by decide +kernel
theorem dX2_holds_85 : decode cX2_holds 85 = .ok (.goto 41, 3) := by decide +kernel
theorem dX2_holds_88 : decode cX2_holds 88 = .ok (.iload_n 3, 1) := by decide +kernel
theorem dX2_holds_89 : decode cX2_holds 89 = .ok (.iconst 1, 1) := by decide +kernel
theorem dX2_holds_90 : decode cX2_holds 90 = .ok (.iushr, 1) := by decide +kernel
theorem dX2_holds_91 : decode cX2_holds 91 = .ok (.iload 5, 2) := by decide +kernel
theorem dX2_holds_93 : decode cX2_holds 93 = .ok (.ior, 1) := by decide +kernel
theorem dX2_holds_94 : decode cX2_holds 94 = .ok (.istore_n 3, 1) := by decide +kernel
theorem dX2_holds_95 : decode cX2_holds 95 = .ok (.goto 31, 3) := by decide +kernel
theorem dX2_holds_98 : decode cX2_holds 98 = .ok (.iload_n 3, 1) := by decide +kernel
theorem dX2_holds_99 : decode cX2_holds 99 = .ok (.iconst 1, 1) := by decide +kernel
theorem dX2_holds_100 : decode cX2_holds 100 = .ok (.ishl, 1) := by decide +kernel
theorem dX2_holds_101 : decode cX2_holds 101 = .ok (.aload_n 0, 1) := by decide +kernel
theorem dX2_holds_102 : decode cX2_holds 102 = .ok (.iload 4, 2) := by decide +kernel
theorem dX2_holds_104 : decode cX2_holds 104 = .ok (.aload_n 2, 1) := by decide +kernel
theorem dX2_holds_105 : decode cX2_holds 105 = .ok (.aload_n 0, 1) := by decide +kernel
theorem dX2_holds_106 : decode cX2_holds 106 = .ok (.getfield 24, 3) := by decide +kernel
theorem dX2_holds_109 : decode cX2_holds 109 = .ok (.iload 4, 2) := by decide +kernel
theorem dX2_holds_111 : decode cX2_holds 111 = .ok (.iaload, 1) := by decide +kernel
theorem dX2_holds_112 : decode cX2_holds 112 = .ok (.iaload, 1) := by decide +kernel
theorem dX2_holds_113 : decode cX2_holds 113 = .ok (.invokevirtual 65, 3) := by decide +kernel
theorem dX2_holds_116 : decode cX2_holds 116 = .ok (.ifCond .eq 7, 3) := by decide +kernel
theorem dX2_holds_119 : decode cX2_holds 119 = .ok (.iconst 1, 1) := by decide +kernel
theorem dX2_holds_120 : decode cX2_holds 120 = .ok (.goto 4, 3) := by decide +kernel
theorem dX2_holds_123 : decode cX2_holds 123 = .ok (.iconst 0, 1) := by decide +kernel
theorem dX2_holds_124 : decode cX2_holds 124 = .ok (.ior, 1) := by decide +kernel
theorem dX2_holds_125 : decode cX2_holds 125 = .ok (.istore_n 3, 1) := by decide +kernel
theorem dX2_holds_126 : decode cX2_holds 126 = .ok (.iinc 4 1, 3) := by decide +kernel
theorem dX2_holds_129 : decode cX2_holds 129 = .ok (.goto (-120), 3) := by decide +kernel
theorem dX2_holds_132 : decode cX2_holds 132 = .ok (.iload_n 3, 1) := by decide +kernel
theorem dX2_holds_133 : decode cX2_holds 133 = .ok (.iconst 1, 1) := by decide +kernel
theorem dX2_holds_134 : decode cX2_holds 134 = .ok (.iand, 1) := by decide +kernel
theorem dX2_holds_135 : decode cX2_holds 135 = .ok (.iconst 1, 1) := by decide +kernel
theorem dX2_holds_136 : decode cX2_holds 136 = .ok (.if_icmp .ne 7, 3) := by decide +kernel
theorem dX2_holds_139 : decode cX2_holds 139 = .ok (.iconst 1, 1) := by decide +kernel
theorem dX2_holds_140 : decode cX2_holds 140 = .ok (.goto 4, 3) := by decide +kernel
theorem dX2_holds_143 : decode cX2_holds 143 = .ok (.iconst 0, 1) := by decide +kernel
theorem dX2_holds_144 : decode cX2_holds 144 = .ok (.ireturn, 1) := by decide +kernel
theorem dX2_compares_0 : decode cX2_compares 0 = .ok (.aload_n 0, 1) := by decide +kernel
theorem dX2_compares_1 : decode cX2_compares 1 = .ok (.getfield 21, 3) := by decide +kernel
theorem dX2_compares_4 : decode cX2_compares 4 = .ok (.iload_n 1, 1) := by decide +kernel
theorem dX2_compares_5 : decode cX2_compares 5 = .ok (.iaload, 1) := by decide +kernel
theorem dX2_compares_6 : decode cX2_compares 6 = .ok (.bipush 60, 2) := by decide +kernel
theorem dX2_compares_8 : decode cX2_compares 8 = .ok (.if_icmp .ne 19, 3) := by decide +kernel
theorem dX2_compares_11 : decode cX2_compares 11 = .ok (.iload_n 2, 1) := by decide +kernel
theorem dX2_compares_12 : decode cX2_compares 12 = .ok (.aload_n 0, 1) := by decide +kernel
theorem dX2_compares_13 : decode cX2_compares 13 = .ok (.getfield 27, 3) := by decide +kernel
theorem dX2_compares_16 : decode cX2_compares 16 = .ok (.iload_n 1, 1) := by decide +kernel
theorem dX2_compares_17 : decode cX2_compares 17 = .ok (.iaload, 1) := by decide +kernel
theorem dX2_compares_18 : decode cX2_compares 18 = .ok (.if_icmp .ge 7, 3) := by decide +kernel
theorem dX2_compares_21 : decode cX2_compares 21 = .ok (.iconst 1, 1) := by decide +kernel
theorem dX2_compares_22 : decode cX2_compares 22 = .ok (.goto 4, 3) := by decide +kernel
theorem dX2_compares_25 : decode cX2_compares 25 = .ok (.iconst 0, 1) := by decide +kernel
theorem dX2_compares_26 : decode cX2_compares 26 = .ok (.ireturn, 1) := by decide +kernel
theorem dX2_compares_27 : decode cX2_compares 27 = .ok (.aload_n 0, 1) := by decide +kernel
theorem dX2_compares_28 : decode cX2_compares 28 = .ok (.getfield 21, 3) := by decide +kernel
theorem dX2_compares_31 : decode cX2_compares 31 = .ok (.iload_n 1, 1) := by decide +kernel
theorem dX2_compares_32 : decode cX2_compares 32 = .ok (.iaload, 1) := by decide +kernel
theorem dX2_compares_33 : decode cX2_compares 33 = .ok (.bipush 62, 2) := by decide +kernel
theorem dX2_compares_35 : decode cX2_compares 35 = .ok (.if_icmp .ne 21, 3) := by decide +kernel
theorem dX2_compares_38 : decode cX2_compares 38 = .ok (.iload_n 2, 1) := by decide +kernel
theorem dX2_compares_39 : decode cX2_compares 39 = .ok (.aload_n 0, 1) := by decide +kernel
theorem dX2_compares_40 : decode cX2_compares 40 = .ok (.getfield 27, 3) := by decide +kernel
theorem dX2_compares_43 : decode cX2_compares 43 = .ok (.iload_n 1, 1) := by decide +kernel
theorem dX2_compares_44 : decode cX2_compares 44 = .ok (.iaload, 1) := by decide +kernel
theorem dX2_compares_45 : decode cX2_compares 45 = .ok (.if_icmp .le 7, 3) := by decide +kernel
theorem dX2_compares_48 : decode cX2_compares 48 = .ok (.iconst 1, 1) := by decide +kernel
theorem dX2_compares_49 : decode cX2_compares 49 = .ok (.goto 22, 3) := by decide +kernel
theorem dX2_compares_52 : decode cX2_compares 52 = .ok (.iconst 0, 1) := by decide +kernel
theorem dX2_compares_53 : decode cX2_compares 53 = .ok (.goto 18, 3) := by decide +kernel
theorem dX2_compares_56 : decode cX2_compares 56 = .ok (.iload_n 2, 1) := by decide +kernel
theorem dX2_compares_57 : decode cX2_compares 57 = .ok (.aload_n 0, 1) := by decide +kernel
theorem dX2_compares_58 : decode cX2_compares 58 = .ok (.getfield 27, 3) := by decide +kernel
theorem dX2_compares_61 : decode cX2_compares 61 = .ok (.iload_n 1, 1) := by decide +kernel
theorem dX2_compares_62 : decode cX2_compares 62 = .ok (.iaload, 1) := by decide +kernel
theorem dX2_compares_63 : decode cX2_compares 63 = .ok (.if_icmp .ne 7, 3) := by decide +kernel
theorem dX2_compares_66 : decode cX2_compares 66 = .ok (.iconst 1, 1) := by decide +kernel
theorem dX2_compares_67 : decode cX2_compares 67 = .ok (.goto 4, 3) := by decide +kernel
theorem dX2_compares_70 : decode cX2_compares 70 = .ok (.iconst 0, 1) := by decide +kernel
theorem dX2_compares_71 : decode cX2_compares 71 = .ok (.ireturn, 1) := by decide +kernel
theorem dX2_isComparison_0 : decode cX2_isComparison 0 = .ok (.iload_n 0, 1) := by decide +kernel
theorem dX2_isComparison_1 : decode cX2_isComparison 1 = .ok (.bipush 60, 2) := by decide +kernel
theorem dX2_isComparison_3 : decode cX2_isComparison 3 = .ok (.if_icmp .eq 15, 3) := by decide +kernel
theorem dX2_isComparison_6 : decode cX2_isComparison 6 = .ok (.iload_n 0, 1) := by decide +kernel
theorem dX2_isComparison_7 : decode cX2_isComparison 7 = .ok (.bipush 61, 2) := by decide +kernel
theorem dX2_isComparison_9 : decode cX2_isComparison 9 = .ok (.if_icmp .eq 9, 3) := by decide +kernel
theorem dX2_isComparison_12 : decode cX2_isComparison 12 = .ok (.iload_n 0, 1) := by decide +kernel
theorem dX2_isComparison_13 : decode cX2_isComparison 13 = .ok (.bipush 62, 2) := by decide +kernel
theorem dX2_isComparison_15 : decode cX2_isComparison 15 = .ok (.if_icmp .ne 7, 3) := by decide +kernel
theorem dX2_isComparison_18 : decode cX2_isComparison 18 = .ok (.iconst 1, 1) := by decide +kernel
theorem dX2_isComparison_19 : decode cX2_isComparison 19 = .ok (.goto 4, 3) := by decide +kernel
theorem dX2_isComparison_22 : decode cX2_isComparison 22 = .ok (.iconst 0, 1) := by decide +kernel
theorem dX2_isComparison_23 : decode cX2_isComparison 23 = .ok (.ireturn, 1) := by decide +kernel
theorem dX3_init_0 : decode cX3_init 0 = .ok (.aload_n 0, 1) := by decide +kernel
theorem dX3_init_1 : decode cX3_init 1 = .ok (.invokespecial 3, 3) := by decide +kernel
theorem dX3_init_4 : decode cX3_init 4 = .ok (.aload_n 0, 1) := by decide +kernel
theorem dX3_init_5 : decode cX3_init 5 = .ok (.bipush 10, 2) := by decide +kernel
theorem dX3_init_7 : decode cX3_init 7 = .ok (.anewarray 9, 3) := by decide +kernel
theorem dX3_init_10 : decode cX3_init 10 = .ok (.putfield 11, 3) := by decide +kernel
theorem dX3_init_13 : decode cX3_init 13 = .ok (.iconst 0, 1) := by decide +kernel
theorem dX3_init_14 : decode cX3_init 14 = .ok (.istore_n 1, 1) := by decide +kernel
theorem dX3_init_15 : decode cX3_init 15 = .ok (.iload_n 1, 1) := by decide +kernel
theorem dX3_init_16 : decode cX3_init 16 = .ok (.bipush 10, 2) := by decide +kernel
theorem dX3_init_18 : decode cX3_init 18 = .ok (.if_icmp .ge 22, 3) := by decide +kernel
theorem dX3_init_21 : decode cX3_init 21 = .ok (.aload_n 0, 1) := by decide +kernel
theorem dX3_init_22 : decode cX3_init 22 = .ok (.getfield 11, 3) := by decide +kernel
theorem dX3_init_25 : decode cX3_init 25 = .ok (.iload_n 1, 1) := by decide +kernel
theorem dX3_init_26 : decode cX3_init 26 = .ok (.new 9, 3) := by decide +kernel
theorem dX3_init_29 : decode cX3_init 29 = .ok (.dup, 1) := by decide +kernel
theorem dX3_init_30 : decode cX3_init 30 = .ok (.invokespecial 17, 3) := by decide +kernel
theorem dX3_init_33 : decode cX3_init 33 = .ok (.aastore, 1) := by decide +kernel
theorem dX3_init_34 : decode cX3_init 34 = .ok (.iinc 1 1, 3) := by decide +kernel
theorem dX3_init_37 : decode cX3_init 37 = .ok (.goto (-22), 3) := by decide +kernel
theorem dX3_init_40 : decode cX3_init 40 = .ok (.aload_n 0, 1) := by decide +kernel
theorem dX3_init_41 : decode cX3_init 41 = .ok (.iconst 5, 1) := by decide +kernel
theorem dX3_init_42 : decode cX3_init 42 = .ok (.newarray .int, 2) := by decide +kernel
theorem dX3_init_44 : decode cX3_init 44 = .ok (.putfield 18, 3) := by decide +kernel
theorem dX3_init_47 : decode cX3_init 47 = .ok (.aload_n 0, 1) := by decide +kernel
theorem dX3_init_48 : decode cX3_init 48 = .ok (.iconst 1, 1) := by decide +kernel
theorem dX3_init_49 : decode cX3_init 49 = .ok (.putfield 22, 3) := by decide +kernel
theorem dX3_init_52 : decode cX3_init 52 = .ok (.return_, 1) := by decide +kernel
theorem dX3_bringUpToDate_0 : decode cX3_bringUpToDate 0 = .ok (.aload_n 0, 1) := by decide +kernel
theorem dX3_bringUpToDate_1 : decode cX3_bringUpToDate 1 = .ok (.getfield 22, 3) := by decide +kernel
theorem dX3_bringUpToDate_4 : decode cX3_bringUpToDate 4 = .ok (.ifCond .ne 4, 3) := by decide +kernel
theorem dX3_bringUpToDate_7 : decode cX3_bringUpToDate 7 = .ok (.return_, 1) := by decide +kernel
theorem dX3_bringUpToDate_8 : decode cX3_bringUpToDate 8 = .ok (.iconst 0, 1) := by decide +kernel
theorem dX3_bringUpToDate_9 : decode cX3_bringUpToDate 9 = .ok (.istore_n 2, 1) := by decide +kernel
theorem dX3_bringUpToDate_10 : decode cX3_bringUpToDate 10 = .ok (.iload_n 2, 1) := by decide +kernel
theorem dX3_bringUpToDate_11 : decode cX3_bringUpToDate 11 = .ok (.aload_n 1, 1) := by decide +kernel
theorem dX3_bringUpToDate_12 : decode cX3_bringUpToDate 12 = .ok (.getfield 26, 3) := by decide +kernel
theorem dX3_bringUpToDate_15 : decode cX3_bringUpToDate 15 = .ok (.if_icmp .ge 24, 3) := by decide +kernel
theorem dX3_bringUpToDate_18 : decode cX3_bringUpToDate 18 = .ok (.aload_n 0, 1) := by decide +kernel
theorem dX3_bringUpToDate_19 : decode cX3_bringUpToDate 19 = .ok (.getfield 11, 3) := by decide +kernel
theorem dX3_bringUpToDate_22 : decode cX3_bringUpToDate 22 = .ok (.iload_n 2, 1) := by decide +kernel
theorem dX3_bringUpToDate_23 : decode cX3_bringUpToDate 23 = .ok (.aaload, 1) := by decide +kernel
theorem dX3_bringUpToDate_24 : decode cX3_bringUpToDate 24 = .ok (.aload_n 1, 1) := by decide +kernel
theorem dX3_bringUpToDate_25 : decode cX3_bringUpToDate 25 = .ok (.getfield 32, 3) := by decide +kernel
theorem dX3_bringUpToDate_28 : decode cX3_bringUpToDate 28 = .ok (.iload_n 2, 1) := by decide +kernel
theorem dX3_bringUpToDate_29 : decode cX3_bringUpToDate 29 = .ok (.aaload, 1) := by decide +kernel
theorem dX3_bringUpToDate_30 : decode cX3_bringUpToDate 30 = .ok (.invokevirtual 36, 3) := by decide +kernel
theorem dX3_bringUpToDate_33 : decode cX3_bringUpToDate 33 = .ok (.iinc 2 1, 3) := by decide +kernel
theorem dX3_bringUpToDate_36 : decode cX3_bringUpToDate 36 = .ok (.goto (-26), 3) := by decide +kernel
theorem dX3_bringUpToDate_39 : decode cX3_bringUpToDate 39 = .ok (.aload_n 0, 1) := by decide +kernel
theorem dX3_bringUpToDate_40 : decode cX3_bringUpToDate 40 = .ok (.aload_n 1, 1) := by decide +kernel
theorem dX3_bringUpToDate_41 : decode cX3_bringUpToDate 41 = .ok (.getfield 26, 3) := by decide +kernel
theorem dX3_bringUpToDate_44 : decode cX3_bringUpToDate 44 = .ok (.invokevirtual 40, 3) := by decide +kernel
theorem dX3_bringUpToDate_47 : decode cX3_bringUpToDate 47 = .ok (.istore_n 2, 1) := by decide +kernel
theorem dX3_bringUpToDate_48 : decode cX3_bringUpToDate 48 = .ok (.iconst 0, 1) := by decide +kernel
theorem dX3_bringUpToDate_49 : decode cX3_bringUpToDate 49 = .ok (.istore_n 3, 1) := by decide +kernel
theorem dX3_bringUpToDate_50 : decode cX3_bringUpToDate 50 = .ok (.iload_n 3, 1) := by decide +kernel
theorem dX3_bringUpToDate_51 : decode cX3_bringUpToDate 51 = .ok (.sipush 20000, 3) := by decide +kernel
theorem dX3_bringUpToDate_54 : decode cX3_bringUpToDate 54 = .ok (.if_icmp .gt 31, 3) := by decide +kernel
theorem dX3_bringUpToDate_57 : decode cX3_bringUpToDate 57 = .ok (.iload_n 2, 1) := by decide +kernel
theorem dX3_bringUpToDate_58 : decode cX3_bringUpToDate 58 = .ok (.sipush 20000, 3) := by decide +kernel
theorem dX3_bringUpToDate_61 : decode cX3_bringUpToDate 61 = .ok (.if_icmp .gt 24, 3) := by decide +kernel
theorem dX3_bringUpToDate_64 : decode cX3_bringUpToDate 64 = .ok (.aload_n 0, 1) := by decide +kernel
theorem dX3_bringUpToDate_65 : decode cX3_bringUpToDate 65 = .ok (.aload_n 1, 1) := by decide +kernel
theorem dX3_bringUpToDate_66 : decode cX3_bringUpToDate 66 = .ok (.iload_n 2, 1) := by decide +kernel
theorem dX3_bringUpToDate_67 : decode cX3_bringUpToDate 67 = .ok (.invokevirtual 44, 3) := by decide +kernel
theorem dX3_bringUpToDate_70 : decode cX3_bringUpToDate 70 = .ok (.aload_n 0, 1) := by decide +kernel
theorem dX3_bringUpToDate_71 : decode cX3_bringUpToDate 71 = .ok (.aload_n 1, 1) := by decide +kernel
theorem dX3_bringUpToDate_72 : decode cX3_bringUpToDate 72 = .ok (.getfield 26, 3) := by decide +kernel
theorem dX3_bringUpToDate_75 : decode cX3_bringUpToDate 75 = .ok (.invokevirtual 40, 3) := by decide +kernel
theorem dX3_bringUpToDate_78 : decode cX3_bringUpToDate 78 = .ok (.istore_n 2, 1) := by decide +kernel
theorem dX3_bringUpToDate_79 : decode cX3_bringUpToDate 79 = .ok (.iinc 3 1, 3) := by decide +kernel
theorem dX3_bringUpToDate_82 : decode cX3_bringUpToDate 82 = .ok (.goto (-32), 3) := by decide +kernel
theorem dX3_bringUpToDate_85 : decode cX3_bringUpToDate 85 = .ok (.aload_n 0, 1) := by decide +kernel
theorem dX3_bringUpToDate_86 : decode cX3_bringUpToDate 86 = .ok (.iconst 0, 1) := by decide +kernel
theorem dX3_bringUpToDate_87 : decode cX3_bringUpToDate 87 = .ok (.putfield 22, 3) := by decide +kernel
theorem dX3_bringUpToDate_90 : decode cX3_bringUpToDate 90 = .ok (.return_, 1) := by decide +kernel
theorem dX3_passHour_0 : decode cX3_passHour 0 = .ok (.iconst 0, 1) := by decide +kernel
theorem dX3_passHour_1 : decode cX3_passHour 1 = .ok (.istore_n 3, 1) := by decide +kernel
theorem dX3_passHour_2 : decode cX3_passHour 2 = .ok (.iload_n 3, 1) := by decide +kernel
theorem dX3_passHour_3 : decode cX3_passHour 3 = .ok (.aload_n 1, 1) := by decide +kernel
theorem dX3_passHour_4 : decode cX3_passHour 4 = .ok (.getfield 26, 3) := by decide +kernel
theorem dX3_passHour_7 : decode cX3_passHour 7 = .ok (.if_icmp .ge 41, 3) := by decide +kernel
theorem dX3_passHour_10 : decode cX3_passHour 10 = .ok (.aload_n 0, 1) := by decide +kernel
theorem dX3_passHour_11 : decode cX3_passHour 11 = .ok (.getfield 11, 3) := by decide +kernel
theorem dX3_passHour_14 : decode cX3_passHour 14 = .ok (.iload_n 3, 1) := by decide +kernel
theorem dX3_passHour_15 : decode cX3_passHour 15 = .ok (.aaload, 1) := by decide +kernel
theorem dX3_passHour_16 : decode cX3_passHour 16 = .ok (.getfield 48, 3) := by decide +kernel
theorem dX3_passHour_19 : decode cX3_passHour 19 = .ok (.ifCond .eq 23, 3) := by decide +kernel
theorem dX3_passHour_22 : decode cX3_passHour 22 = .ok (.aload_n 0, 1) := by decide +kernel
theorem dX3_passHour_23 : decode cX3_passHour 23 = .ok (.getfield 11, 3) := by decide +kernel
theorem dX3_passHour_26 : decode cX3_passHour 26 = .ok (.iload_n 3, 1) := by decide +kernel
theorem dX3_passHour_27 : decode cX3_passHour 27 = .ok (.aaload, 1) := by decide +kernel
theorem dX3_passHour_28 : decode cX3_passHour 28 = .ok (.getfield 51, 3) := by decide +kernel
theorem dX3_passHour_31 : decode cX3_passHour 31 = .ok (.iload_n 2, 1) := by decide +kernel
theorem dX3_passHour_32 : decode cX3_passHour 32 = .ok (.if_icmp .gt 10, 3) := by decide +kernel
theorem dX3_passHour_35 : decode cX3_passHour 35 = .ok (.aload_n 0, 1) := by decide +kernel
theorem dX3_passHour_36 : decode cX3_passHour 36 = .ok (.aload_n 1, 1) := by decide +kernel
theorem dX3_passHour_37 : decode cX3_passHour 37 = .ok (.iload_n 3, 1) := by decide +kernel
theorem dX3_passHour_38 : decode cX3_passHour 38 = .ok (.iload_n 2, 1) := by decide +kernel
theorem dX3_passHour_39 : decode cX3_passHour 39 = .ok (.invokevirtual 54, 3) := by decide +kernel
theorem dX3_passHour_42 : decode cX3_passHour 42 = .ok (.iinc 3 1, 3) := by decide +kernel
theorem dX3_passHour_45 : decode cX3_passHour 45 = .ok (.goto (-43), 3) := by decide +kernel
theorem dX3_passHour_48 : decode cX3_passHour 48 = .ok (.iconst 0, 1) := by decide +kernel
theorem dX3_passHour_49 : decode cX3_passHour 49 = .ok (.istore_n 3, 1) := by decide +kernel
theorem dX3_passHour_50 : decode cX3_passHour 50 = .ok (.iload_n 3, 1) := by decide +kernel
theorem dX3_passHour_51 : decode cX3_passHour 51 = .ok (.aload_n 1, 1) := by decide +kernel
theorem dX3_passHour_52 : decode cX3_passHour 52 = .ok (.getfield 26, 3) := by decide +kernel
theorem dX3_passHour_55 : decode cX3_passHour 55 = .ok (.if_icmp .ge 41, 3) := by decide +kernel
theorem dX3_passHour_58 : decode cX3_passHour 58 = .ok (.aload_n 0, 1) := by decide +kernel
theorem dX3_passHour_59 : decode cX3_passHour 59 = .ok (.getfield 11, 3) := by decide +kernel
theorem dX3_passHour_62 : decode cX3_passHour 62 = .ok (.iload_n 3, 1) := by decide +kernel
theorem dX3_passHour_63 : decode cX3_passHour 63 = .ok (.aaload, 1) := by decide +kernel
theorem dX3_passHour_64 : decode cX3_passHour 64 = .ok (.getfield 48, 3) := by decide +kernel
theorem dX3_passHour_67 : decode cX3_passHour 67 = .ok (.ifCond .ne 23, 3) := by decide +kernel
theorem dX3_passHour_70 : decode cX3_passHour 70 = .ok (.aload_n 0, 1) := by decide +kernel
theorem dX3_passHour_71 : decode cX3_passHour 71 = .ok (.getfield 11, 3) := by decide +kernel
theorem dX3_passHour_74 : decode cX3_passHour 74 = .ok (.iload_n 3, 1) := by decide +kernel
theorem dX3_passHour_75 : decode cX3_passHour 75 = .ok (.aaload, 1) := by decide +kernel
theorem dX3_passHour_76 : decode cX3_passHour 76 = .ok (.getfield 58, 3) := by decide +kernel
theorem dX3_passHour_79 : decode cX3_passHour 79 = .ok (.iload_n 2, 1) := by decide +kernel
theorem dX3_passHour_80 : decode cX3_passHour 80 = .ok (.if_icmp .gt 10, 3) := by decide +kernel
theorem dX3_passHour_83 : decode cX3_passHour 83 = .ok (.aload_n 0, 1) := by decide +kernel
theorem dX3_passHour_84 : decode cX3_passHour 84 = .ok (.aload_n 1, 1) := by decide +kernel
theorem dX3_passHour_85 : decode cX3_passHour 85 = .ok (.iload_n 3, 1) := by decide +kernel
theorem dX3_passHour_86 : decode cX3_passHour 86 = .ok (.iload_n 2, 1) := by decide +kernel
theorem dX3_passHour_87 : decode cX3_passHour 87 = .ok (.invokevirtual 61, 3) := by decide +kernel
theorem dX3_passHour_90 : decode cX3_passHour 90 = .ok (.iinc 3 1, 3) := by decide +kernel
theorem dX3_passHour_93 : decode cX3_passHour 93 = .ok (.goto (-43), 3) := by decide +kernel
theorem dX3_passHour_96 : decode cX3_passHour 96 = .ok (.return_, 1) := by decide +kernel
theorem dX3_nextHour_0 : decode cX3_nextHour 0 = .ok (.ldc 64, 2) := by decide +kernel
theorem dX3_nextHour_2 : decode cX3_nextHour 2 = .ok (.istore_n 2, 1) := by decide +kernel
theorem dX3_nextHour_3 : decode cX3_nextHour 3 = .ok (.iconst 0, 1) := by decide +kernel
theorem dX3_nextHour_4 : decode cX3_nextHour 4 = .ok (.istore_n 3, 1) := by decide +kernel
theorem dX3_nextHour_5 : decode cX3_nextHour 5 = .ok (.iload_n 3, 1) := by decide +kernel
theorem dX3_nextHour_6 : decode cX3_nextHour 6 = .ok (.iload_n 1, 1) := by decide +kernel
theorem dX3_nextHour_7 : decode cX3_nextHour 7 = .ok (.if_icmp .ge 23, 3) := by decide +kernel
theorem dX3_nextHour_10 : decode cX3_nextHour 10 = .ok (.iload_n 2, 1) := by decide +kernel
theorem dX3_nextHour_11 : decode cX3_nextHour 11 = .ok (.aload_n 0, 1) := by decide +kernel
theorem dX3_nextHour_12 : decode cX3_nextHour 12 = .ok (.getfield 11, 3) := by decide +kernel
theorem dX3_nextHour_15 : decode cX3_nextHour 15 = .ok (.iload_n 3, 1) := by decide +kernel
theorem dX3_nextHour_16 : decode cX3_nextHour 16 = .ok (.aaload, 1) := by decide +kernel
theorem dX3_nextHour_17 : decode cX3_nextHour 17 = .ok (.getfield 51, 3) := by decide +kernel
theorem dX3_nextHour_20 : decode cX3_nextHour 20 = .ok (.invokestatic 65, 3) := by decide +kernel
theorem dX3_nextHour_23 : decode cX3_nextHour 23 = .ok (.istore_n 2, 1) := by decide +kernel
theorem dX3_nextHour_24 : decode cX3_nextHour 24 = .ok (.iinc 3 1, 3) := by decide +kernel
theorem dX3_nextHour_27 : decode cX3_nextHour 27 = .ok (.goto (-22), 3) := by decide +kernel
theorem dX3_nextHour_30 : decode cX3_nextHour 30 = .ok (.iload_n 2, 1) := by decide +kernel
theorem dX3_nextHour_31 : decode cX3_nextHour 31 = .ok (.ireturn, 1) := by decide +kernel
theorem dX3_comeIn_0 : decode cX3_comeIn 0 = .ok (.aload_n 1, 1) := by decide +kernel
theorem dX3_comeIn_1 : decode cX3_comeIn 1 = .ok (.getfield 32, 3) := by decide +kernel
theorem dX3_comeIn_4 : decode cX3_comeIn 4 = .ok (.iload_n 2, 1) := by decide +kernel
theorem dX3_comeIn_5 : decode cX3_comeIn 5 = .ok (.aaload, 1) := by decide +kernel
theorem dX3_comeIn_6 : decode cX3_comeIn 6 = .ok (.astore 4, 2) := by decide +kernel
theorem dX3_comeIn_8 : decode cX3_comeIn 8 = .ok (.aload_n 0, 1) := by decide +kernel
theorem dX3_comeIn_9 : decode cX3_comeIn 9 = .ok (.getfield 11, 3) := by decide +kernel
theorem dX3_comeIn_12 : decode cX3_comeIn 12 = .ok (.iload_n 2, 1) := by decide +kernel
theorem dX3_comeIn_13 : decode cX3_comeIn 13 = .ok (.aaload, 1) := by decide +kernel
theorem dX3_comeIn_14 : decode cX3_comeIn 14 = .ok (.astore 5, 2) := by decide +kernel
theorem dX3_comeIn_16 : decode cX3_comeIn 16 = .ok (.aload 5, 2) := by decide +kernel
theorem dX3_comeIn_18 : decode cX3_comeIn 18 = .ok (.getfield 71, 3) := by decide +kernel
theorem dX3_comeIn_21 : decode cX3_comeIn 21 = .ok (.istore 6, 2) := by decide +kernel
theorem dX3_comeIn_23 : decode cX3_comeIn 23 = .ok (.iload_n 3, 1) := by decide +kernel
theorem dX3_comeIn_24 : decode cX3_comeIn 24 = .ok (.aload 5, 2) := by decide +kernel
theorem dX3_comeIn_26 : decode cX3_comeIn 26 = .ok (.getfield 74, 3) := by decide +kernel
theorem dX3_comeIn_29 : decode cX3_comeIn 29 = .ok (.iload 6, 2) := by decide +kernel
theorem dX3_comeIn_31 : decode cX3_comeIn 31 = .ok (.iaload, 1) := by decide +kernel
theorem dX3_comeIn_32 : decode cX3_comeIn 32 = .ok (.isub, 1) := by decide +kernel
theorem dX3_comeIn_33 : decode cX3_comeIn 33 = .ok (.aload 4, 2) := by decide +kernel
theorem dX3_comeIn_35 : decode cX3_comeIn 35 = .ok (.getfield 77, 3) := by decide +kernel
theorem dX3_comeIn_38 : decode cX3_comeIn 38 = .ok (.iload 6, 2) := by decide +kernel
theorem dX3_comeIn_40 : decode cX3_comeIn 40 = .ok (.iaload, 1) := by decide +kernel
theorem dX3_comeIn_41 : decode cX3_comeIn 41 = .ok (.isub, 1) := by decide +kernel
theorem dX3_comeIn_42 : decode cX3_comeIn 42 = .ok (.istore 7, 2) := by decide +kernel
theorem dX3_comeIn_44 : decode cX3_comeIn 44 = .ok (.iload 7, 2) := by decide +kernel
theorem dX3_comeIn_46 : decode cX3_comeIn 46 = .ok (.ifCond .le 42, 3) := by decide +kernel
theorem dX3_comeIn_49 : decode cX3_comeIn 49 = .ok (.aload_n 0, 1) := by decide +kernel
theorem dX3_comeIn_50 : decode cX3_comeIn 50 = .ok (.aload_n 1, 1) := by decide +kernel
theorem dX3_comeIn_51 : decode cX3_comeIn 51 = .ok (.iload_n 2, 1) := by decide +kernel
theorem dX3_comeIn_52 : decode cX3_comeIn 52 = .ok (.iload_n 3, 1) := by decide +kernel
theorem dX3_comeIn_53 : decode cX3_comeIn 53 = .ok (.invokevirtual 82, 3) := by decide +kernel
theorem dX3_comeIn_56 : decode cX3_comeIn 56 = .ok (.istore 8, 2) := by decide +kernel
theorem dX3_comeIn_58 : decode cX3_comeIn 58 = .ok (.aload 5, 2) := by decide +kernel
theorem dX3_comeIn_60 : decode cX3_comeIn 60 = .ok (.getfield 86, 3) := by decide +kernel
theorem dX3_comeIn_63 : decode cX3_comeIn 63 = .ok (.iload 8, 2) := by decide +kernel
theorem dX3_comeIn_65 : decode cX3_comeIn 65 = .ok (.ifCond .eq 7, 3) := by decide +kernel
theorem dX3_comeIn_68 : decode cX3_comeIn 68 = .ok (.iconst 0, 1) := by decide +kernel
theorem dX3_comeIn_69 : decode cX3_comeIn 69 = .ok (.goto 10, 3) := by decide +kernel
theorem dX3_comeIn_72 : decode cX3_comeIn 72 = .ok (.iconst 1, 1) := by decide +kernel
theorem dX3_comeIn_73 : decode cX3_comeIn 73 = .ok (.aload 4, 2) := by decide +kernel
theorem dX3_comeIn_75 : decode cX3_comeIn 75 = .ok (.getfield 89, 3) := by decide +kernel
theorem dX3_comeIn_78 : decode cX3_comeIn 78 = .ok (.iadd, 1) := by decide +kernel
theorem dX3_comeIn_79 : decode cX3_comeIn 79 = .ok (.dup2, 1) := by decide +kernel
theorem dX3_comeIn_80 : decode cX3_comeIn 80 = .ok (.iaload, 1) := by decide +kernel
theorem dX3_comeIn_81 : decode cX3_comeIn 81 = .ok (.iload 7, 2) := by decide +kernel
theorem dX3_comeIn_83 : decode cX3_comeIn 83 = .ok (.iadd, 1) := by decide +kernel
theorem dX3_comeIn_84 : decode cX3_comeIn 84 = .ok (.iastore, 1) := by decide +kernel
theorem dX3_comeIn_85 : decode cX3_comeIn 85 = .ok (.goto 16, 3) := by decide +kernel
theorem dX3_comeIn_88 : decode cX3_comeIn 88 = .ok (.aload 5, 2) := by decide +kernel
theorem dX3_comeIn_90 : decode cX3_comeIn 90 = .ok (.iload 7, 2) := by decide +kernel
theorem dX3_comeIn_92 : decode cX3_comeIn 92 = .ok (.ineg, 1) := by decide +kernel
theorem dX3_comeIn_93 : decode cX3_comeIn 93 = .ok (.aload 4, 2) := by decide +kernel
theorem dX3_comeIn_95 : decode cX3_comeIn 95 = .ok (.getfield 89, 3) := by decide +kernel
theorem dX3_comeIn_98 : decode cX3_comeIn 98 = .ok (.invokevirtual 92, 3) := by decide +kernel
theorem dX3_comeIn_101 : decode cX3_comeIn 101 = .ok (.iload 6, 2) := by decide +kernel
theorem dX3_comeIn_103 : decode cX3_comeIn 103 = .ok (.iconst 1, 1) := by decide +kernel
theorem dX3_comeIn_104 : decode cX3_comeIn 104 = .ok (.iadd, 1) := by decide +kernel
theorem dX3_comeIn_105 : decode cX3_comeIn 105 = .ok (.istore 8, 2) := by decide +kernel
theorem dX3_comeIn_107 : decode cX3_comeIn 107 = .ok (.aload 5, 2) := by decide +kernel
theorem dX3_comeIn_109 : decode cX3_comeIn 109 = .ok (.iload 8, 2) := by decide +kernel
theorem dX3_comeIn_111 : decode cX3_comeIn 111 = .ok (.putfield 71, 3) := by decide +kernel
theorem dX3_comeIn_114 : decode cX3_comeIn 114 = .ok (.aload 5, 2) := by decide +kernel
theorem dX3_comeIn_116 : decode cX3_comeIn 116 = .ok (.getfield 96, 3) := by decide +kernel
theorem dX3_comeIn_119 : decode cX3_comeIn 119 = .ok (.iload 8, 2) := by decide +kernel
theorem dX3_comeIn_121 : decode cX3_comeIn 121 = .ok (.iload_n 3, 1) := by decide +kernel
theorem dX3_comeIn_122 : decode cX3_comeIn 122 = .ok (.iastore, 1) := by decide +kernel
theorem dX3_comeIn_123 : decode cX3_comeIn 123 = .ok (.aload 5, 2) := by decide +kernel
theorem dX3_comeIn_125 : decode cX3_comeIn 125 = .ok (.iload 8, 2) := by decide +kernel
theorem dX3_comeIn_127 : decode cX3_comeIn 127 = .ok (.invokevirtual 99, 3) := by decide +kernel
theorem dX3_comeIn_130 : decode cX3_comeIn 130 = .ok (.aload 4, 2) := by decide +kernel
theorem dX3_comeIn_132 : decode cX3_comeIn 132 = .ok (.iload 8, 2) := by decide +kernel
theorem dX3_comeIn_134 : decode cX3_comeIn 134 = .ok (.invokevirtual 103, 3) := by decide +kernel
theorem dX3_comeIn_137 : decode cX3_comeIn 137 = .ok (.istore 9, 2) := by decide +kernel
theorem dX3_comeIn_139 : decode cX3_comeIn 139 = .ok (.aload 5, 2) := by decide +kernel
theorem dX3_comeIn_141 : decode cX3_comeIn 141 = .ok (.iload 9, 2) := by decide +kernel
theorem dX3_comeIn_143 : decode cX3_comeIn 143 = .ok (.ifCond .eq 24, 3) := by decide +kernel
theorem dX3_comeIn_146 : decode cX3_comeIn 146 = .ok (.iload_n 3, 1) := by decide +kernel
theorem dX3_comeIn_147 : decode cX3_comeIn 147 = .ok (.aload 4, 2) := by decide +kernel
theorem dX3_comeIn_149 : decode cX3_comeIn 149 = .ok (.getfield 107, 3) := by decide +kernel
theorem dX3_comeIn_152 : decode cX3_comeIn 152 = .ok (.iadd, 1) := by decide +kernel
theorem dX3_comeIn_153 : decode cX3_comeIn 153 = .ok (.aload 4, 2) := by decide +kernel
theorem dX3_comeIn_155 : decode cX3_comeIn 155 = .ok (.getfield 110, 3) := by decide +kernel
theorem dX3_comeIn_158 : decode cX3_comeIn 158 = .ok (.iload 8, 2) := by decide +kernel
theorem dX3_comeIn_160 : decode cX3_comeIn 160 = .ok (.iaload, 1) := by decide +kernel
theorem dX3_comeIn_161 : decode cX3_comeIn 161 = .ok (.invokestatic 113, 3) := by decide +kernel
theorem dX3_comeIn_164 : decode cX3_comeIn 164 = .ok (.goto 5, 3) := by decide +kernel
theorem dX3_comeIn_167 : decode cX3_comeIn 167 = .ok (.ldc 64, 2) := by decide +kernel
theorem dX3_comeIn_169 : decode cX3_comeIn 169 = .ok (.invokevirtual 116, 3) := by decide +kernel
theorem dX3_comeIn_172 : decode cX3_comeIn 172 = .ok (.return_, 1) := by decide +kernel
theorem dX3_isExcused_0 : decode cX3_isExcused 0 = .ok (.aload_n 1, 1) := by decide +kernel
theorem dX3_isExcused_1 : decode cX3_isExcused 1 = .ok (.getfield 32, 3) := by decide +kernel
theorem dX3_isExcused_4 : decode cX3_isExcused 4 = .ok (.iload_n 2, 1) := by decide +kernel
theorem dX3_isExcused_5 : decode cX3_isExcused 5 = .ok (.aaload, 1) := by decide +kernel
theorem dX3_isExcused_6 : decode cX3_isExcused 6 = .ok (.astore 4, 2) := by decide +kernel
theorem dX3_isExcused_8 : decode cX3_isExcused 8 = .ok (.aload_n 0, 1) := by decide +kernel
theorem dX3_isExcused_9 : decode cX3_isExcused 9 = .ok (.getfield 11, 3) := by decide +kernel
theorem dX3_isExcused_12 : decode cX3_isExcused 12 = .ok (.iload_n 2, 1) := by decide +kernel
theorem dX3_isExcused_13 : decode cX3_isExcused 13 = .ok (.aaload, 1) := by decide +kernel
theorem dX3_isExcused_14 : decode cX3_isExcused 14 = .ok (.astore 5, 2) := by decide +kernel
theorem dX3_isExcused_16 : decode cX3_isExcused 16 = .ok (.aload 5, 2) := by decide +kernel
theorem dX3_isExcused_18 : decode cX3_isExcused 18 = .ok (.getfield 71, 3) := by decide +kernel
theorem dX3_isExcused_21 : decode cX3_isExcused 21 = .ok (.istore 6, 2) := by decide +kernel
theorem dX3_isExcused_23 : decode cX3_isExcused 23 = .ok (.aload_n 0, 1) := by decide +kernel
theorem dX3_isExcused_24 : decode cX3_isExcused 24 = .ok (.getfield 18, 3) := by decide +kernel
theorem dX3_isExcused_27 : decode cX3_isExcused 27 = .ok (.iconst 0, 1) := by decide +kernel
theorem dX3_isExcused_28 : decode cX3_isExcused 28 = .ok (.aload 4, 2) := by decide +kernel
theorem dX3_isExcused_30 : decode cX3_isExcused 30 = .ok (.iload 6, 2) := by decide +kernel
theorem dX3_isExcused_32 : decode cX3_isExcused 32 = .ok (.iconst 1, 1) := by decide +kernel
theorem dX3_isExcused_33 : decode cX3_isExcused 33 = .ok (.iadd, 1) := by decide +kernel
theorem dX3_isExcused_34 : decode cX3_isExcused 34 = .ok (.iload_n 3, 1) := by decide +kernel
theorem dX3_isExcused_35 : decode cX3_isExcused 35 = .ok (.invokevirtual 119, 3) := by decide +kernel
theorem dX3_isExcused_38 : decode cX3_isExcused 38 = .ok (.iastore, 1) := by decide +kernel
theorem dX3_isExcused_39 : decode cX3_isExcused 39 = .ok (.aload_n 0, 1) := by decide +kernel
theorem dX3_isExcused_40 : decode cX3_isExcused 40 = .ok (.getfield 18, 3) := by decide +kernel
theorem dX3_isExcused_43 : decode cX3_isExcused 43 = .ok (.iconst 1, 1) := by decide +kernel
theorem dX3_isExcused_44 : decode cX3_isExcused 44 = .ok (.aload 5, 2) := by decide +kernel
theorem dX3_isExcused_46 : decode cX3_isExcused 46 = .ok (.getfield 122, 3) := by decide +kernel
theorem dX3_isExcused_49 : decode cX3_isExcused 49 = .ok (.iload 6, 2) := by decide +kernel
theorem dX3_isExcused_51 : decode cX3_isExcused 51 = .ok (.iaload, 1) := by decide +kernel
theorem dX3_isExcused_52 : decode cX3_isExcused 52 = .ok (.iastore, 1) := by decide +kernel
theorem dX3_isExcused_53 : decode cX3_isExcused 53 = .ok (.aload_n 0, 1) := by decide +kernel
theorem dX3_isExcused_54 : decode cX3_isExcused 54 = .ok (.getfield 18, 3) := by decide +kernel
theorem dX3_isExcused_57 : decode cX3_isExcused 57 = .ok (.iconst 2, 1) := by decide +kernel
theorem dX3_isExcused_58 : decode cX3_isExcused 58 = .ok (.aload_n 1, 1) := by decide +kernel
theorem dX3_isExcused_59 : decode cX3_isExcused 59 = .ok (.getfield 125, 3) := by decide +kernel
theorem dX3_isExcused_62 : decode cX3_isExcused 62 = .ok (.aload 4, 2) := by decide +kernel
theorem dX3_isExcused_64 : decode cX3_isExcused 64 = .ok (.getfield 129, 3) := by decide +kernel
theorem dX3_isExcused_67 : decode cX3_isExcused 67 = .ok (.iload 6, 2) := by decide +kernel
theorem dX3_isExcused_69 : decode cX3_isExcused 69 = .ok (.iaload, 1) := by decide +kernel
theorem dX3_isExcused_70 : decode cX3_isExcused 70 = .ok (.aload 5, 2) := by decide +kernel
theorem dX3_isExcused_72 : decode cX3_isExcused 72 = .ok (.getfield 74, 3) := by decide +kernel
theorem dX3_isExcused_75 : decode cX3_isExcused 75 = .ok (.iload 6, 2) := by decide +kernel
theorem dX3_isExcused_77 : decode cX3_isExcused 77 = .ok (.iaload, 1) := by decide +kernel
theorem dX3_isExcused_78 : decode cX3_isExcused 78 = .ok (.invokevirtual 132, 3) := by decide +kernel
theorem dX3_isExcused_81 : decode cX3_isExcused 81 = .ok (.iastore, 1) := by decide +kernel
theorem dX3_isExcused_82 : decode cX3_isExcused 82 = .ok (.aload_n 0, 1) := by decide +kernel
theorem dX3_isExcused_83 : decode cX3_isExcused 83 = .ok (.getfield 18, 3) := by decide +kernel
theorem dX3_isExcused_86 : decode cX3_isExcused 86 = .ok (.iconst 3, 1) := by decide +kernel
theorem dX3_isExcused_87 : decode cX3_isExcused 87 = .ok (.aload 4, 2) := by decide +kernel
theorem dX3_isExcused_89 : decode cX3_isExcused 89 = .ok (.getfield 137, 3) := by decide +kernel
theorem dX3_isExcused_92 : decode cX3_isExcused 92 = .ok (.iload 6, 2) := by decide +kernel
theorem dX3_isExcused_94 : decode cX3_isExcused 94 = .ok (.iaload, 1) := by decide +kernel
theorem dX3_isExcused_95 : decode cX3_isExcused 95 = .ok (.iastore, 1) := by decide +kernel
theorem dX3_isExcused_96 : decode cX3_isExcused 96 = .ok (.aload_n 0, 1) := by decide +kernel
theorem dX3_isExcused_97 : decode cX3_isExcused 97 = .ok (.getfield 18, 3) := by decide +kernel
theorem dX3_isExcused_100 : decode cX3_isExcused 100 = .ok (.iconst 4, 1) := by decide +kernel
theorem dX3_isExcused_101 : decode cX3_isExcused 101 = .ok (.iload_n 3, 1) := by decide +kernel
theorem dX3_isExcused_102 : decode cX3_isExcused 102 = .ok (.invokestatic 140, 3) := by decide +kernel
theorem dX3_isExcused_105 : decode cX3_isExcused 105 = .ok (.iastore, 1) := by decide +kernel
theorem dX3_isExcused_106 : decode cX3_isExcused 106 = .ok (.aload_n 1, 1) := by decide +kernel
theorem dX3_isExcused_107 : decode cX3_isExcused 107 = .ok (.getfield 143, 3) := by decide +kernel
theorem dX3_isExcused_110 : decode cX3_isExcused 110 = .ok (.aload 4, 2) := by decide +kernel
theorem dX3_isExcused_112 : decode cX3_isExcused 112 = .ok (.getfield 89, 3) := by decide +kernel
theorem dX3_isExcused_115 : decode cX3_isExcused 115 = .ok (.aaload, 1) := by decide +kernel
theorem dX3_isExcused_116 : decode cX3_isExcused 116 = .ok (.aload_n 0, 1) := by decide +kernel
theorem dX3_isExcused_117 : decode cX3_isExcused 117 = .ok (.getfield 18, 3) := by decide +kernel
theorem dX3_isExcused_120 : decode cX3_isExcused 120 = .ok (.invokevirtual 147, 3) := by decide +kernel
theorem dX3_isExcused_123 : decode cX3_isExcused 123 = .ok (.ireturn, 1) := by decide +kernel
theorem dX3_askOne_0 : decode cX3_askOne 0 = .ok (.aload_n 0, 1) := by decide +kernel
theorem dX3_askOne_1 : decode cX3_askOne 1 = .ok (.getfield 11, 3) := by decide +kernel
theorem dX3_askOne_4 : decode cX3_askOne 4 = .ok (.iload_n 2, 1) := by decide +kernel
theorem dX3_askOne_5 : decode cX3_askOne 5 = .ok (.aaload, 1) := by decide +kernel
theorem dX3_askOne_6 : decode cX3_askOne 6 = .ok (.astore 4, 2) := by decide +kernel
theorem dX3_askOne_8 : decode cX3_askOne 8 = .ok (.aload_n 0, 1) := by decide +kernel
theorem dX3_askOne_9 : decode cX3_askOne 9 = .ok (.aload_n 1, 1) := by decide +kernel
theorem dX3_askOne_10 : decode cX3_askOne 10 = .ok (.getfield 32, 3) := by decide +kernel
theorem dX3_askOne_13 : decode cX3_askOne 13 = .ok (.iload_n 2, 1) := by decide +kernel
theorem dX3_askOne_14 : decode cX3_askOne 14 = .ok (.aaload, 1) := by decide +kernel
theorem dX3_askOne_15 : decode cX3_askOne 15 = .ok (.aload 4, 2) := by decide +kernel
theorem dX3_askOne_17 : decode cX3_askOne 17 = .ok (.getfield 71, 3) := by decide +kernel
theorem dX3_askOne_20 : decode cX3_askOne 20 = .ok (.invokevirtual 153, 3) := by decide +kernel
theorem dX3_askOne_23 : decode cX3_askOne 23 = .ok (.istore 5, 2) := by decide +kernel
theorem dX3_askOne_25 : decode cX3_askOne 25 = .ok (.iload 5, 2) := by decide +kernel
theorem dX3_askOne_27 : decode cX3_askOne 27 = .ok (.ifCond .eq 13, 3) := by decide +kernel
theorem dX3_askOne_30 : decode cX3_askOne 30 = .ok (.iload_n 3, 1) := by decide +kernel
theorem dX3_askOne_31 : decode cX3_askOne 31 = .ok (.aload 4, 2) := by decide +kernel
theorem dX3_askOne_33 : decode cX3_askOne 33 = .ok (.getfield 51, 3) := by decide +kernel
theorem dX3_askOne_36 : decode cX3_askOne 36 = .ok (.if_icmp .ge 4, 3) := by decide +kernel
theorem dX3_askOne_39 : decode cX3_askOne 39 = .ok (.return_, 1) := by decide +kernel
theorem dX3_askOne_40 : decode cX3_askOne 40 = .ok (.iload 5, 2) := by decide +kernel
theorem dX3_askOne_42 : decode cX3_askOne 42 = .ok (.ifCond .eq 13, 3) := by decide +kernel
theorem dX3_askOne_45 : decode cX3_askOne 45 = .ok (.aload_n 0, 1) := by decide +kernel
theorem dX3_askOne_46 : decode cX3_askOne 46 = .ok (.aload_n 1, 1) := by decide +kernel
theorem dX3_askOne_47 : decode cX3_askOne 47 = .ok (.iload_n 2, 1) := by decide +kernel
theorem dX3_askOne_48 : decode cX3_askOne 48 = .ok (.iload_n 3, 1) := by decide +kernel
theorem dX3_askOne_49 : decode cX3_askOne 49 = .ok (.invokevirtual 157, 3) := by decide +kernel
theorem dX3_askOne_52 : decode cX3_askOne 52 = .ok (.goto 4, 3) := by decide +kernel
theorem dX3_askOne_55 : decode cX3_askOne 55 = .ok (.iconst 0, 1) := by decide +kernel
theorem dX3_askOne_56 : decode cX3_askOne 56 = .ok (.istore 6, 2) := by decide +kernel
theorem dX3_askOne_58 : decode cX3_askOne 58 = .ok (.iload 6, 2) := by decide +kernel
theorem dX3_askOne_60 : decode cX3_askOne 60 = .ok (.ifCond .le 15, 3) := by decide +kernel
theorem dX3_askOne_63 : decode cX3_askOne 63 = .ok (.aload 4, 2) := by decide +kernel
theorem dX3_askOne_65 : decode cX3_askOne 65 = .ok (.iload_n 3, 1) := by decide +kernel
theorem dX3_askOne_66 : decode cX3_askOne 66 = .ok (.iload 6, 2) := by decide +kernel
theorem dX3_askOne_68 : decode cX3_askOne 68 = .ok (.iadd, 1) := by decide +kernel
theorem dX3_askOne_69 : decode cX3_askOne 69 = .ok (.putfield 51, 3) := by decide +kernel
theorem dX3_askOne_72 : decode cX3_askOne 72 = .ok (.goto 10, 3) := by decide +kernel
theorem dX3_askOne_75 : decode cX3_askOne 75 = .ok (.aload_n 0, 1) := by decide +kernel
theorem dX3_askOne_76 : decode cX3_askOne 76 = .ok (.aload_n 1, 1) := by decide +kernel
theorem dX3_askOne_77 : decode cX3_askOne 77 = .ok (.iload_n 2, 1) := by decide +kernel
theorem dX3_askOne_78 : decode cX3_askOne 78 = .ok (.iload_n 3, 1) := by decide +kernel
theorem dX3_askOne_79 : decode cX3_askOne 79 = .ok (.invokevirtual 161, 3) := by decide +kernel
theorem dX3_askOne_82 : decode cX3_askOne 82 = .ok (.return_, 1) := by decide +kernel
theorem dX3_isAwaiting_0 : decode cX3_isAwaiting 0 = .ok (.aload_n 1, 1) := by decide +kernel
theorem dX3_isAwaiting_1 : decode cX3_isAwaiting 1 = .ok (.getfield 164, 3) := by decide +kernel
theorem dX3_isAwaiting_4 : decode cX3_isAwaiting 4 = .ok (.iload_n 2, 1) := by decide +kernel
theorem dX3_isAwaiting_5 : decode cX3_isAwaiting 5 = .ok (.iaload, 1) := by decide +kernel
theorem dX3_isAwaiting_6 : decode cX3_isAwaiting 6 = .ok (.istore_n 3, 1) := by decide +kernel
theorem dX3_isAwaiting_7 : decode cX3_isAwaiting 7 = .ok (.iload_n 3, 1) := by decide +kernel
theorem dX3_isAwaiting_8 : decode cX3_isAwaiting 8 = .ok (.iconst (-1), 1) := by decide +kernel
theorem dX3_isAwaiting_9 : decode cX3_isAwaiting 9 = .ok (.if_icmp .eq 27, 3) := by decide +kernel
theorem dX3_isAwaiting_12 : decode cX3_isAwaiting 12 = .ok (.aload_n 0, 1) := by decide +kernel
theorem dX3_isAwaiting_13 : decode cX3_isAwaiting 13 = .ok (.getfield 11, 3) := by decide +kernel
theorem dX3_isAwaiting_16 : decode cX3_isAwaiting 16 = .ok (.iload_n 3, 1) := by decide +kernel
theorem dX3_isAwaiting_17 : decode cX3_isAwaiting 17 = .ok (.aaload, 1) := by decide +kernel
theorem dX3_isAwaiting_18 : decode cX3_isAwaiting 18 = .ok (.getfield 96, 3) := by decide +kernel
theorem dX3_isAwaiting_21 : decode cX3_isAwaiting 21 = .ok (.aload_n 1, 1) := by decide +kernel
theorem dX3_isAwaiting_22 : decode cX3_isAwaiting 22 = .ok (.getfield 167, 3) := by decide +kernel
theorem dX3_isAwaiting_25 : decode cX3_isAwaiting 25 = .ok (.iload_n 2, 1) := by decide +kernel
theorem dX3_isAwaiting_26 : decode cX3_isAwaiting 26 = .ok (.iaload, 1) := by decide +kernel
theorem dX3_isAwaiting_27 : decode cX3_isAwaiting 27 = .ok (.iaload, 1) := by decide +kernel
theorem dX3_isAwaiting_28 : decode cX3_isAwaiting 28 = .ok (.iconst (-1), 1) := by decide +kernel
theorem dX3_isAwaiting_29 : decode cX3_isAwaiting 29 = .ok (.if_icmp .ne 7, 3) := by decide +kernel
theorem dX3_isAwaiting_32 : decode cX3_isAwaiting 32 = .ok (.iconst 1, 1) := by decide +kernel
theorem dX3_isAwaiting_33 : decode cX3_isAwaiting 33 = .ok (.goto 4, 3) := by decide +kernel
theorem dX3_isAwaiting_36 : decode cX3_isAwaiting 36 = .ok (.iconst 0, 1) := by decide +kernel
theorem dX3_isAwaiting_37 : decode cX3_isAwaiting 37 = .ok (.ireturn, 1) := by decide +kernel
theorem dX3_waitHours_0 : decode cX3_waitHours 0 = .ok (.aload_n 1, 1) := by decide +kernel
theorem dX3_waitHours_1 : decode cX3_waitHours 1 = .ok (.getfield 32, 3) := by decide +kernel
theorem dX3_waitHours_4 : decode cX3_waitHours 4 = .ok (.iload_n 2, 1) := by decide +kernel
theorem dX3_waitHours_5 : decode cX3_waitHours 5 = .ok (.aaload, 1) := by decide +kernel
theorem dX3_waitHours_6 : decode cX3_waitHours 6 = .ok (.astore 4, 2) := by decide +kernel
theorem dX3_waitHours_8 : decode cX3_waitHours 8 = .ok (.aload_n 0, 1) := by decide +kernel
theorem dX3_waitHours_9 : decode cX3_waitHours 9 = .ok (.getfield 11, 3) := by decide +kernel
theorem dX3_waitHours_12 : decode cX3_waitHours 12 = .ok (.iload_n 2, 1) := by decide +kernel
theorem dX3_waitHours_13 : decode cX3_waitHours 13 = .ok (.aaload, 1) := by decide +kernel
theorem dX3_waitHours_14 : decode cX3_waitHours 14 = .ok (.astore 5, 2) := by decide +kernel
theorem dX3_waitHours_16 : decode cX3_waitHours 16 = .ok (.aload 5, 2) := by decide +kernel
theorem dX3_waitHours_18 : decode cX3_waitHours 18 = .ok (.getfield 71, 3) := by decide +kernel
theorem dX3_waitHours_21 : decode cX3_waitHours 21 = .ok (.istore 6, 2) := by decide +kernel
theorem dX3_waitHours_23 : decode cX3_waitHours 23 = .ok (.aload_n 1, 1) := by decide +kernel
theorem dX3_waitHours_24 : decode cX3_waitHours 24 = .ok (.getfield 32, 3) := by decide +kernel
theorem dX3_waitHours_27 : decode cX3_waitHours 27 = .ok (.aload 4, 2) := by decide +kernel
theorem dX3_waitHours_29 : decode cX3_waitHours 29 = .ok (.getfield 164, 3) := by decide +kernel
theorem dX3_waitHours_32 : decode cX3_waitHours 32 = .ok (.iload 6, 2) := by decide +kernel
theorem dX3_waitHours_34 : decode cX3_waitHours 34 = .ok (.iaload, 1) := by decide +kernel
theorem dX3_waitHours_35 : decode cX3_waitHours 35 = .ok (.aaload, 1) := by decide +kernel
theorem dX3_waitHours_36 : decode cX3_waitHours 36 = .ok (.astore 7, 2) := by decide +kernel
theorem dX3_waitHours_38 : decode cX3_waitHours 38 = .ok (.aload_n 0, 1) := by decide +kernel
theorem dX3_waitHours_39 : decode cX3_waitHours 39 = .ok (.getfield 18, 3) := by decide +kernel
theorem dX3_waitHours_42 : decode cX3_waitHours 42 = .ok (.iconst 0, 1) := by decide +kernel
theorem dX3_waitHours_43 : decode cX3_waitHours 43 = .ok (.iload_n 3, 1) := by decide +kernel
theorem dX3_waitHours_44 : decode cX3_waitHours 44 = .ok (.aload 7, 2) := by decide +kernel
theorem dX3_waitHours_46 : decode cX3_waitHours 46 = .ok (.getfield 170, 3) := by decide +kernel
theorem dX3_waitHours_49 : decode cX3_waitHours 49 = .ok (.aload 4, 2) := by decide +kernel
theorem dX3_waitHours_51 : decode cX3_waitHours 51 = .ok (.getfield 167, 3) := by decide +kernel
theorem dX3_waitHours_54 : decode cX3_waitHours 54 = .ok (.iload 6, 2) := by decide +kernel
theorem dX3_waitHours_56 : decode cX3_waitHours 56 = .ok (.iaload, 1) := by decide +kernel
theorem dX3_waitHours_57 : decode cX3_waitHours 57 = .ok (.iaload, 1) := by decide +kernel
theorem dX3_waitHours_58 : decode cX3_waitHours 58 = .ok (.isub, 1) := by decide +kernel
theorem dX3_waitHours_59 : decode cX3_waitHours 59 = .ok (.iastore, 1) := by decide +kernel
theorem dX3_waitHours_60 : decode cX3_waitHours 60 = .ok (.aload_n 0, 1) := by decide +kernel
theorem dX3_waitHours_61 : decode cX3_waitHours 61 = .ok (.getfield 18, 3) := by decide +kernel
theorem dX3_waitHours_64 : decode cX3_waitHours 64 = .ok (.iconst 1, 1) := by decide +kernel
theorem dX3_waitHours_65 : decode cX3_waitHours 65 = .ok (.iload_n 3, 1) := by decide +kernel
theorem dX3_waitHours_66 : decode cX3_waitHours 66 = .ok (.aload 5, 2) := by decide +kernel
theorem dX3_waitHours_68 : decode cX3_waitHours 68 = .ok (.getfield 58, 3) := by decide +kernel
theorem dX3_waitHours_71 : decode cX3_waitHours 71 = .ok (.isub, 1) := by decide +kernel
theorem dX3_waitHours_72 : decode cX3_waitHours 72 = .ok (.iastore, 1) := by decide +kernel
theorem dX3_waitHours_73 : decode cX3_waitHours 73 = .ok (.aload_n 0, 1) := by decide +kernel
theorem dX3_waitHours_74 : decode cX3_waitHours 74 = .ok (.getfield 18, 3) := by decide +kernel
theorem dX3_waitHours_77 : decode cX3_waitHours 77 = .ok (.iconst 2, 1) := by decide +kernel
theorem dX3_waitHours_78 : decode cX3_waitHours 78 = .ok (.aload_n 1, 1) := by decide +kernel
theorem dX3_waitHours_79 : decode cX3_waitHours 79 = .ok (.getfield 125, 3) := by decide +kernel
theorem dX3_waitHours_82 : decode cX3_waitHours 82 = .ok (.aload 4, 2) := by decide +kernel
theorem dX3_waitHours_84 : decode cX3_waitHours 84 = .ok (.getfield 129, 3) := by decide +kernel
theorem dX3_waitHours_87 : decode cX3_waitHours 87 = .ok (.iload 6, 2) := by decide +kernel
theorem dX3_waitHours_89 : decode cX3_waitHours 89 = .ok (.iaload, 1) := by decide +kernel
theorem dX3_waitHours_90 : decode cX3_waitHours 90 = .ok (.iload_n 3, 1) := by decide +kernel
theorem dX3_waitHours_91 : decode cX3_waitHours 91 = .ok (.invokevirtual 132, 3) := by decide +kernel
theorem dX3_waitHours_94 : decode cX3_waitHours 94 = .ok (.iastore, 1) := by decide +kernel
theorem dX3_waitHours_95 : decode cX3_waitHours 95 = .ok (.aload_n 0, 1) := by decide +kernel
theorem dX3_waitHours_96 : decode cX3_waitHours 96 = .ok (.getfield 18, 3) := by decide +kernel
theorem dX3_waitHours_99 : decode cX3_waitHours 99 = .ok (.iconst 3, 1) := by decide +kernel
theorem dX3_waitHours_100 : decode cX3_waitHours 100 = .ok (.aload 4, 2) := by decide +kernel
theorem dX3_waitHours_102 : decode cX3_waitHours 102 = .ok (.getfield 137, 3) := by decide +kernel
theorem dX3_waitHours_105 : decode cX3_waitHours 105 = .ok (.iload 6, 2) := by decide +kernel
theorem dX3_waitHours_107 : decode cX3_waitHours 107 = .ok (.iaload, 1) := by decide +kernel
theorem dX3_waitHours_108 : decode cX3_waitHours 108 = .ok (.iastore, 1) := by decide +kernel
theorem dX3_waitHours_109 : decode cX3_waitHours 109 = .ok (.aload_n 0, 1) := by decide +kernel
theorem dX3_waitHours_110 : decode cX3_waitHours 110 = .ok (.getfield 18, 3) := by decide +kernel
theorem dX3_waitHours_113 : decode cX3_waitHours 113 = .ok (.iconst 4, 1) := by decide +kernel
theorem dX3_waitHours_114 : decode cX3_waitHours 114 = .ok (.iload_n 3, 1) := by decide +kernel
theorem dX3_waitHours_115 : decode cX3_waitHours 115 = .ok (.invokestatic 140, 3) := by decide +kernel
theorem dX3_waitHours_118 : decode cX3_waitHours 118 = .ok (.iastore, 1) := by decide +kernel
theorem dX3_waitHours_119 : decode cX3_waitHours 119 = .ok (.aload_n 1, 1) := by decide +kernel
theorem dX3_waitHours_120 : decode cX3_waitHours 120 = .ok (.getfield 143, 3) := by decide +kernel
theorem dX3_waitHours_123 : decode cX3_waitHours 123 = .ok (.aload 4, 2) := by decide +kernel
theorem dX3_waitHours_125 : decode cX3_waitHours 125 = .ok (.getfield 89, 3) := by decide +kernel
theorem dX3_waitHours_128 : decode cX3_waitHours 128 = .ok (.aaload, 1) := by decide +kernel
theorem dX3_waitHours_129 : decode cX3_waitHours 129 = .ok (.aload_n 0, 1) := by decide +kernel
theorem dX3_waitHours_130 : decode cX3_waitHours 130 = .ok (.getfield 18, 3) := by decide +kernel
theorem dX3_waitHours_133 : decode cX3_waitHours 133 = .ok (.iload_n 3, 1) := by decide +kernel
theorem dX3_waitHours_134 : decode cX3_waitHours 134 = .ok (.invokevirtual 173, 3) := by decide +kernel
theorem dX3_waitHours_137 : decode cX3_waitHours 137 = .ok (.ireturn, 1) := by decide +kernel
theorem dX3_leavePort_0 : decode cX3_leavePort 0 = .ok (.aload_n 1, 1) := by decide +kernel
theorem dX3_leavePort_1 : decode cX3_leavePort 1 = .ok (.getfield 32, 3) := by decide +kernel
theorem dX3_leavePort_4 : decode cX3_leavePort 4 = .ok (.iload_n 2, 1) := by decide +kernel
theorem dX3_leavePort_5 : decode cX3_leavePort 5 = .ok (.aaload, 1) := by decide +kernel
theorem dX3_leavePort_6 : decode cX3_leavePort 6 = .ok (.astore 4, 2) := by decide +kernel
theorem dX3_leavePort_8 : decode cX3_leavePort 8 = .ok (.aload_n 0, 1) := by decide +kernel
theorem dX3_leavePort_9 : decode cX3_leavePort 9 = .ok (.getfield 11, 3) := by decide +kernel
theorem dX3_leavePort_12 : decode cX3_leavePort 12 = .ok (.iload_n 2, 1) := by decide +kernel
theorem dX3_leavePort_13 : decode cX3_leavePort 13 = .ok (.aaload, 1) := by decide +kernel
theorem dX3_leavePort_14 : decode cX3_leavePort 14 = .ok (.astore 5, 2) := by decide +kernel
theorem dX3_leavePort_16 : decode cX3_leavePort 16 = .ok (.aload 5, 2) := by decide +kernel
theorem dX3_leavePort_18 : decode cX3_leavePort 18 = .ok (.getfield 71, 3) := by decide +kernel
theorem dX3_leavePort_21 : decode cX3_leavePort 21 = .ok (.istore 6, 2) := by decide +kernel
theorem dX3_leavePort_23 : decode cX3_leavePort 23 = .ok (.aload 4, 2) := by decide +kernel
theorem dX3_leavePort_25 : decode cX3_leavePort 25 = .ok (.getfield 129, 3) := by decide +kernel
theorem dX3_leavePort_28 : decode cX3_leavePort 28 = .ok (.iload 6, 2) := by decide +kernel
theorem dX3_leavePort_30 : decode cX3_leavePort 30 = .ok (.iaload, 1) := by decide +kernel
theorem dX3_leavePort_31 : decode cX3_leavePort 31 = .ok (.istore 7, 2) := by decide +kernel
theorem dX3_leavePort_33 : decode cX3_leavePort 33 = .ok (.aload 4, 2) := by decide +kernel
theorem dX3_leavePort_35 : decode cX3_leavePort 35 = .ok (.getfield 176, 3) := by decide +kernel
theorem dX3_leavePort_38 : decode cX3_leavePort 38 = .ok (.bipush 100, 2) := by decide +kernel
theorem dX3_leavePort_40 : decode cX3_leavePort 40 = .ok (.aload_n 1, 1) := by decide +kernel
theorem dX3_leavePort_41 : decode cX3_leavePort 41 = .ok (.getfield 125, 3) := by decide +kernel
theorem dX3_leavePort_44 : decode cX3_leavePort 44 = .ok (.iload 7, 2) := by decide +kernel
theorem dX3_leavePort_46 : decode cX3_leavePort 46 = .ok (.iload_n 3, 1) := by decide +kernel
theorem dX3_leavePort_47 : decode cX3_leavePort 47 = .ok (.invokevirtual 132, 3) := by decide +kernel
theorem dX3_leavePort_50 : decode cX3_leavePort 50 = .ok (.iadd, 1) := by decide +kernel
theorem dX3_leavePort_51 : decode cX3_leavePort 51 = .ok (.imul, 1) := by decide +kernel
theorem dX3_leavePort_52 : decode cX3_leavePort 52 = .ok (.istore 8, 2) := by decide +kernel
theorem dX3_leavePort_54 : decode cX3_leavePort 54 = .ok (.aload 5, 2) := by decide +kernel
theorem dX3_leavePort_56 : decode cX3_leavePort 56 = .ok (.iload_n 3, 1) := by decide +kernel
theorem dX3_leavePort_57 : decode cX3_leavePort 57 = .ok (.bipush 100, 2) := by decide +kernel
theorem dX3_leavePort_59 : decode cX3_leavePort 59 = .ok (.aload_n 1, 1) := by decide +kernel
theorem dX3_leavePort_60 : decode cX3_leavePort 60 = .ok (.getfield 125, 3) := by decide +kernel
theorem dX3_leavePort_63 : decode cX3_leavePort 63 = .ok (.getfield 179, 3) := by decide +kernel
theorem dX3_leavePort_66 : decode cX3_leavePort 66 = .ok (.iload 7, 2) := by decide +kernel
theorem dX3_leavePort_68 : decode cX3_leavePort 68 = .ok (.iaload, 1) := by decide +kernel
theorem dX3_leavePort_69 : decode cX3_leavePort 69 = .ok (.imul, 1) := by decide +kernel
theorem dX3_leavePort_70 : decode cX3_leavePort 70 = .ok (.iload 8, 2) := by decide +kernel
theorem dX3_leavePort_72 : decode cX3_leavePort 72 = .ok (.invokestatic 182, 3) := by decide +kernel
theorem dX3_leavePort_75 : decode cX3_leavePort 75 = .ok (.aload 4, 2) := by decide +kernel
theorem dX3_leavePort_77 : decode cX3_leavePort 77 = .ok (.getfield 137, 3) := by decide +kernel
theorem dX3_leavePort_80 : decode cX3_leavePort 80 = .ok (.iload 6, 2) := by decide +kernel
theorem dX3_leavePort_82 : decode cX3_leavePort 82 = .ok (.iaload, 1) := by decide +kernel
theorem dX3_leavePort_83 : decode cX3_leavePort 83 = .ok (.iadd, 1) := by decide +kernel
theorem dX3_leavePort_84 : decode cX3_leavePort 84 = .ok (.invokevirtual 185, 3) := by decide +kernel
theorem dX3_leavePort_87 : decode cX3_leavePort 87 = .ok (.aload 4, 2) := by decide +kernel
theorem dX3_leavePort_89 : decode cX3_leavePort 89 = .ok (.getfield 164, 3) := by decide +kernel
theorem dX3_leavePort_92 : decode cX3_leavePort 92 = .ok (.iload 6, 2) := by decide +kernel
theorem dX3_leavePort_94 : decode cX3_leavePort 94 = .ok (.iaload, 1) := by decide +kernel
theorem dX3_leavePort_95 : decode cX3_leavePort 95 = .ok (.istore 9, 2) := by decide +kernel
theorem dX3_leavePort_97 : decode cX3_leavePort 97 = .ok (.iload 9, 2) := by decide +kernel
theorem dX3_leavePort_99 : decode cX3_leavePort 99 = .ok (.iconst (-1), 1) := by decide +kernel
theorem dX3_leavePort_100 : decode cX3_leavePort 100 = .ok (.if_icmp .eq 32, 3) := by decide +kernel
theorem dX3_leavePort_103 : decode cX3_leavePort 103 = .ok (.aload 5, 2) := by decide +kernel
theorem dX3_leavePort_105 : decode cX3_leavePort 105 = .ok (.getfield 86, 3) := by decide +kernel
theorem dX3_leavePort_108 : decode cX3_leavePort 108 = .ok (.iconst 1, 1) := by decide +kernel
theorem dX3_leavePort_109 : decode cX3_leavePort 109 = .ok (.aload_n 1, 1) := by decide +kernel
theorem dX3_leavePort_110 : decode cX3_leavePort 110 = .ok (.getfield 32, 3) := by decide +kernel
theorem dX3_leavePort_113 : decode cX3_leavePort 113 = .ok (.iload 9, 2) := by decide +kernel
theorem dX3_leavePort_115 : decode cX3_leavePort 115 = .ok (.aaload, 1) := by decide +kernel
theorem dX3_leavePort_116 : decode cX3_leavePort 116 = .ok (.getfield 89, 3) := by decide +kernel
theorem dX3_leavePort_119 : decode cX3_leavePort 119 = .ok (.iadd, 1) := by decide +kernel
theorem dX3_leavePort_120 : decode cX3_leavePort 120 = .ok (.dup2, 1) := by decide +kernel
theorem dX3_leavePort_121 : decode cX3_leavePort 121 = .ok (.iaload, 1) := by decide +kernel
theorem dX3_leavePort_122 : decode cX3_leavePort 122 = .ok (.aload 5, 2) := by decide +kernel
theorem dX3_leavePort_124 : decode cX3_leavePort 124 = .ok (.getfield 122, 3) := by decide +kernel
theorem dX3_leavePort_127 : decode cX3_leavePort 127 = .ok (.iload 6, 2) := by decide +kernel
theorem dX3_leavePort_129 : decode cX3_leavePort 129 = .ok (.iaload, 1) := by decide +kernel
theorem dX3_leavePort_130 : decode cX3_leavePort 130 = .ok (.iadd, 1) := by decide +kernel
theorem dX3_leavePort_131 : decode cX3_leavePort 131 = .ok (.iastore, 1) := by decide +kernel
theorem dX3_leavePort_132 : decode cX3_leavePort 132 = .ok (.return_, 1) := by decide +kernel
theorem dX4_init_0 : decode cX4_init 0 = .ok (.aload_n 0, 1) := by decide +kernel
theorem dX4_init_1 : decode cX4_init 1 = .ok (.invokespecial 3, 3) := by decide +kernel
theorem dX4_init_4 : decode cX4_init 4 = .ok (.aload_n 0, 1) := by decide +kernel
theorem dX4_init_5 : decode cX4_init 5 = .ok (.bipush 70, 2) := by decide +kernel
theorem dX4_init_7 : decode cX4_init 7 = .ok (.newarray .int, 2) := by decide +kernel
theorem dX4_init_9 : decode cX4_init 9 = .ok (.putfield 9, 3) := by decide +kernel
theorem dX4_init_12 : decode cX4_init 12 = .ok (.aload_n 0, 1) := by decide +kernel
theorem dX4_init_13 : decode cX4_init 13 = .ok (.bipush 70, 2) := by decide +kernel
theorem dX4_init_15 : decode cX4_init 15 = .ok (.newarray .int, 2) := by decide +kernel
theorem dX4_init_17 : decode cX4_init 17 = .ok (.putfield 15, 3) := by decide +kernel
theorem dX4_init_20 : decode cX4_init 20 = .ok (.aload_n 0, 1) := by decide +kernel
theorem dX4_init_21 : decode cX4_init 21 = .ok (.bipush 8, 2) := by decide +kernel
theorem dX4_init_23 : decode cX4_init 23 = .ok (.newarray .int, 2) := by decide +kernel
theorem dX4_init_25 : decode cX4_init 25 = .ok (.putfield 18, 3) := by decide +kernel
theorem dX4_init_28 : decode cX4_init 28 = .ok (.aload_n 0, 1) := by decide +kernel
theorem dX4_init_29 : decode cX4_init 29 = .ok (.bipush 88, 2) := by decide +kernel
theorem dX4_init_31 : decode cX4_init 31 = .ok (.newarray .int, 2) := by decide +kernel
theorem dX4_init_33 : decode cX4_init 33 = .ok (.putfield 21, 3) := by decide +kernel
theorem dX4_init_36 : decode cX4_init 36 = .ok (.aload_n 0, 1) := by decide +kernel
theorem dX4_init_37 : decode cX4_init 37 = .ok (.bipush 30, 2) := by decide +kernel
theorem dX4_init_39 : decode cX4_init 39 = .ok (.newarray .int, 2) := by decide +kernel
theorem dX4_init_41 : decode cX4_init 41 = .ok (.putfield 24, 3) := by decide +kernel
theorem dX4_init_44 : decode cX4_init 44 = .ok (.aload_n 0, 1) := by decide +kernel
theorem dX4_init_45 : decode cX4_init 45 = .ok (.iconst 0, 1) := by decide +kernel
theorem dX4_init_46 : decode cX4_init 46 = .ok (.putfield 27, 3) := by decide +kernel
theorem dX4_init_49 : decode cX4_init 49 = .ok (.aload_n 0, 1) := by decide +kernel
theorem dX4_init_50 : decode cX4_init 50 = .ok (.iconst 0, 1) := by decide +kernel
theorem dX4_init_51 : decode cX4_init 51 = .ok (.putfield 31, 3) := by decide +kernel
theorem dX4_init_54 : decode cX4_init 54 = .ok (.return_, 1) := by decide +kernel
theorem dX4_layOut_0 : decode cX4_layOut 0 = .ok (.iconst 0, 1) := by decide +kernel
theorem dX4_layOut_1 : decode cX4_layOut 1 = .ok (.istore 4, 2) := by decide +kernel
theorem dX4_layOut_3 : decode cX4_layOut 3 = .ok (.iload 4, 2) := by decide +kernel
theorem dX4_layOut_5 : decode cX4_layOut 5 = .ok (.aload_n 1, 1) := by decide +kernel
theorem dX4_layOut_6 : decode cX4_layOut 6 = .ok (.getfield 34, 3) := by decide +kernel
theorem dX4_layOut_9 : decode cX4_layOut 9 = .ok (.if_icmp .ge 81, 3) := by decide +kernel
theorem dX4_layOut_12 : decode cX4_layOut 12 = .ok (.aload_n 2, 1) := by decide +kernel
theorem dX4_layOut_13 : decode cX4_layOut 13 = .ok (.getfield 39, 3) := by decide +kernel
theorem dX4_layOut_16 : decode cX4_layOut 16 = .ok (.iload 4, 2) := by decide +kernel
theorem dX4_layOut_18 : decode cX4_layOut 18 = .ok (.aaload, 1) := by decide +kernel
theorem dX4_layOut_19 : decode cX4_layOut 19 = .ok (.astore 5, 2) := by decide +kernel
theorem dX4_layOut_21 : decode cX4_layOut 21 = .ok (.iload_n 3, 1) := by decide +kernel
theorem dX4_layOut_22 : decode cX4_layOut 22 = .ok (.ifCond .eq 29, 3) := by decide +kernel
theorem dX4_layOut_25 : decode cX4_layOut 25 = .ok (.aload_n 0, 1) := by decide +kernel
theorem dX4_layOut_26 : decode cX4_layOut 26 = .ok (.iload 4, 2) := by decide +kernel
theorem dX4_layOut_28 : decode cX4_layOut 28 = .ok (.aload_n 1, 1) := by decide +kernel
theorem dX4_layOut_29 : decode cX4_layOut 29 = .ok (.getfield 45, 3) := by decide +kernel
theorem dX4_layOut_32 : decode cX4_layOut 32 = .ok (.iload 4, 2) := by decide +kernel
theorem dX4_layOut_34 : decode cX4_layOut 34 = .ok (.aaload, 1) := by decide +kernel
theorem dX4_layOut_35 : decode cX4_layOut 35 = .ok (.aload 5, 2) := by decide +kernel
theorem dX4_layOut_37 : decode cX4_layOut 37 = .ok (.getfield 49, 3) := by decide +kernel
theorem dX4_layOut_40 : decode cX4_layOut 40 = .ok (.aload 5, 2) := by decide +kernel
theorem dX4_layOut_42 : decode cX4_layOut 42 = .ok (.getfield 54, 3) := by decide +kernel
theorem dX4_layOut_45 : decode cX4_layOut 45 = .ok (.invokevirtual 57, 3) := by decide +kernel
theorem dX4_layOut_48 : decode cX4_layOut 48 = .ok (.goto 36, 3) := by decide +kernel
theorem dX4_layOut_51 : decode cX4_layOut 51 = .ok (.aload_n 0, 1) := by decide +kernel
theorem dX4_layOut_52 : decode cX4_layOut 52 = .ok (.iload 4, 2) := by decide +kernel
theorem dX4_layOut_54 : decode cX4_layOut 54 = .ok (.aload_n 1, 1) := by decide +kernel
theorem dX4_layOut_55 : decode cX4_layOut 55 = .ok (.getfield 45, 3) := by decide +kernel
theorem dX4_layOut_58 : decode cX4_layOut 58 = .ok (.iload 4, 2) := by decide +kernel
theorem dX4_layOut_60 : decode cX4_layOut 60 = .ok (.aaload, 1) := by decide +kernel
theorem dX4_layOut_61 : decode cX4_layOut 61 = .ok (.aload_n 1, 1) := by decide +kernel
theorem dX4_layOut_62 : decode cX4_layOut 62 = .ok (.getfield 45, 3) := by decide +kernel
theorem dX4_layOut_65 : decode cX4_layOut 65 = .ok (.iload 4, 2) := by decide +kernel
theorem dX4_layOut_67 : decode cX4_layOut 67 = .ok (.aaload, 1) := by decide +kernel
theorem dX4_layOut_68 : decode cX4_layOut 68 = .ok (.getfield 61, 3) := by decide +kernel
theorem dX4_layOut_71 : decode cX4_layOut 71 = .ok (.aload_n 1, 1) := by decide +kernel
theorem dX4_layOut_72 : decode cX4_layOut 72 = .ok (.getfield 45, 3) := by decide +kernel
theorem dX4_layOut_75 : decode cX4_layOut 75 = .ok (.iload 4, 2) := by decide +kernel
theorem dX4_layOut_77 : decode cX4_layOut 77 = .ok (.aaload, 1) := by decide +kernel
theorem dX4_layOut_78 : decode cX4_layOut 78 = .ok (.getfield 66, 3) := by decide +kernel
theorem dX4_layOut_81 : decode cX4_layOut 81 = .ok (.invokevirtual 57, 3) := by decide +kernel
theorem dX4_layOut_84 : decode cX4_layOut 84 = .ok (.iinc 4 1, 3) := by decide +kernel
theorem dX4_layOut_87 : decode cX4_layOut 87 = .ok (.goto (-84), 3) := by decide +kernel
theorem dX4_layOut_90 : decode cX4_layOut 90 = .ok (.return_, 1) := by decide +kernel
theorem dX4_layOutRow_0 : decode cX4_layOutRow 0 = .ok (.iconst 0, 1) := by decide +kernel
theorem dX4_layOutRow_1 : decode cX4_layOutRow 1 = .ok (.istore 5, 2) := by decide +kernel
theorem dX4_layOutRow_3 : decode cX4_layOutRow 3 = .ok (.iload 5, 2) := by decide +kernel
theorem dX4_layOutRow_5 : decode cX4_layOutRow 5 = .ok (.aload_n 2, 1) := by decide +kernel
theorem dX4_layOutRow_6 : decode cX4_layOutRow 6 = .ok (.getfield 69, 3) := by decide +kernel
theorem dX4_layOutRow_9 : decode cX4_layOutRow 9 = .ok (.if_icmp .gt 68, 3) := by decide +kernel
theorem dX4_layOutRow_12 : decode cX4_layOutRow 12 = .ok (.aload_n 0, 1) := by decide +kernel
theorem dX4_layOutRow_13 : decode cX4_layOutRow 13 = .ok (.getfield 9, 3) := by decide +kernel
theorem dX4_layOutRow_16 : decode cX4_layOutRow 16 = .ok (.iload_n 1, 1) := by decide +kernel
theorem dX4_layOutRow_17 : decode cX4_layOutRow 17 = .ok (.bipush 7, 2) := by decide +kernel
theorem dX4_layOutRow_19 : decode cX4_layOutRow 19 = .ok (.imul, 1) := by decide +kernel
theorem dX4_layOutRow_20 : decode cX4_layOutRow 20 = .ok (.iload 5, 2) := by decide +kernel
theorem dX4_layOutRow_22 : decode cX4_layOutRow 22 = .ok (.iadd, 1) := by decide +kernel
theorem dX4_layOutRow_23 : decode cX4_layOutRow 23 = .ok (.aload_n 2, 1) := by decide +kernel
theorem dX4_layOutRow_24 : decode cX4_layOutRow 24 = .ok (.iload 5, 2) := by decide +kernel
theorem dX4_layOutRow_26 : decode cX4_layOutRow 26 = .ok (.invokevirtual 72, 3) := by decide +kernel
theorem dX4_layOutRow_29 : decode cX4_layOutRow 29 = .ok (.ifCond .eq 10, 3) := by decide +kernel
theorem dX4_layOutRow_32 : decode cX4_layOutRow 32 = .ok (.aload_n 3, 1) := by decide +kernel
theorem dX4_layOutRow_33 : decode cX4_layOutRow 33 = .ok (.iload 5, 2) := by decide +kernel
theorem dX4_layOutRow_35 : decode cX4_layOutRow 35 = .ok (.iaload, 1) := by decide +kernel
theorem dX4_layOutRow_36 : decode cX4_layOutRow 36 = .ok (.goto 4, 3) := by decide +kernel
theorem dX4_layOutRow_39 : decode cX4_layOutRow 39 = .ok (.iconst (-1), 1) := by decide +kernel
theorem dX4_layOutRow_40 : decode cX4_layOutRow 40 = .ok (.iastore, 1) := by decide +kernel
theorem dX4_layOutRow_41 : decode cX4_layOutRow 41 = .ok (.aload_n 0, 1) := by decide +kernel
theorem dX4_layOutRow_42 : decode cX4_layOutRow 42 = .ok (.getfield 15, 3) := by decide +kernel
theorem dX4_layOutRow_45 : decode cX4_layOutRow 45 = .ok (.iload_n 1, 1) := by decide +kernel
theorem dX4_layOutRow_46 : decode cX4_layOutRow 46 = .ok (.bipush 7, 2) := by decide +kernel
theorem dX4_layOutRow_48 : decode cX4_layOutRow 48 = .ok (.imul, 1) := by decide +kernel
theorem dX4_layOutRow_49 : decode cX4_layOutRow 49 = .ok (.iload 5, 2) := by decide +kernel
theorem dX4_layOutRow_51 : decode cX4_layOutRow 51 = .ok (.iadd, 1) := by decide +kernel
theorem dX4_layOutRow_52 : decode cX4_layOutRow 52 = .ok (.aload_n 2, 1) := by decide +kernel
theorem dX4_layOutRow_53 : decode cX4_layOutRow 53 = .ok (.iload 5, 2) := by decide +kernel
theorem dX4_layOutRow_55 : decode cX4_layOutRow 55 = .ok (.invokevirtual 76, 3) := by decide +kernel
theorem dX4_layOutRow_58 : decode cX4_layOutRow 58 = .ok (.ifCond .eq 11, 3) := by decide +kernel
theorem dX4_layOutRow_61 : decode cX4_layOutRow 61 = .ok (.aload 4, 2) := by decide +kernel
theorem dX4_layOutRow_63 : decode cX4_layOutRow 63 = .ok (.iload 5, 2) := by decide +kernel
theorem dX4_layOutRow_65 : decode cX4_layOutRow 65 = .ok (.iaload, 1) := by decide +kernel
theorem dX4_layOutRow_66 : decode cX4_layOutRow 66 = .ok (.goto 4, 3) := by decide +kernel
theorem dX4_layOutRow_69 : decode cX4_layOutRow 69 = .ok (.iconst (-1), 1) := by decide +kernel
theorem dX4_layOutRow_70 : decode cX4_layOutRow 70 = .ok (.iastore, 1) := by decide +kernel
theorem dX4_layOutRow_71 : decode cX4_layOutRow 71 = .ok (.iinc 5 1, 3) := by decide +kernel
theorem dX4_layOutRow_74 : decode cX4_layOutRow 74 = .ok (.goto (-71), 3) := by decide +kernel
theorem dX4_layOutRow_77 : decode cX4_layOutRow 77 = .ok (.return_, 1) := by decide +kernel
theorem dX4_firstComing_0 : decode cX4_firstComing 0 = .ok (.aload_n 0, 1) := by decide +kernel
theorem dX4_firstComing_1 : decode cX4_firstComing 1 = .ok (.getfield 18, 3) := by decide +kernel
theorem dX4_firstComing_4 : decode cX4_firstComing 4 = .ok (.ldc 79, 2) := by decide +kernel
theorem dX4_firstComing_6 : decode cX4_firstComing 6 = .ok (.invokestatic 80, 3) := by decide +kernel
theorem dX4_firstComing_9 : decode cX4_firstComing 9 = .ok (.aload_n 0, 1) := by decide +kernel
theorem dX4_firstComing_10 : decode cX4_firstComing 10 = .ok (.getfield 18, 3) := by decide +kernel
theorem dX4_firstComing_13 : decode cX4_firstComing 13 = .ok (.iload_n 2, 1) := by decide +kernel
theorem dX4_firstComing_14 : decode cX4_firstComing 14 = .ok (.iload 4, 2) := by decide +kernel
theorem dX4_firstComing_16 : decode cX4_firstComing 16 = .ok (.iastore, 1) := by decide +kernel
theorem dX4_firstComing_17 : decode cX4_firstComing 17 = .ok (.iconst 1, 1) := by decide +kernel
theorem dX4_firstComing_18 : decode cX4_firstComing 18 = .ok (.istore 5, 2) := by decide +kernel
theorem dX4_firstComing_20 : decode cX4_firstComing 20 = .ok (.iconst 0, 1) := by decide +kernel
theorem dX4_firstComing_21 : decode cX4_firstComing 21 = .ok (.istore 6, 2) := by decide +kernel
theorem dX4_firstComing_23 : decode cX4_firstComing 23 = .ok (.iload 6, 2) := by decide +kernel
theorem dX4_firstComing_25 : decode cX4_firstComing 25 = .ok (.bipush 10, 2) := by decide +kernel
theorem dX4_firstComing_27 : decode cX4_firstComing 27 = .ok (.if_icmp .ge 54, 3) := by decide +kernel
theorem dX4_firstComing_30 : decode cX4_firstComing 30 = .ok (.iload 5, 2) := by decide +kernel
theorem dX4_firstComing_32 : decode cX4_firstComing 32 = .ok (.ifCond .eq 49, 3) := by decide +kernel
theorem dX4_firstComing_35 : decode cX4_firstComing 35 = .ok (.iconst 0, 1) := by decide +kernel
theorem dX4_firstComing_36 : decode cX4_firstComing 36 = .ok (.istore 5, 2) := by decide +kernel
theorem dX4_firstComing_38 : decode cX4_firstComing 38 = .ok (.iconst 0, 1) := by decide +kernel
theorem dX4_firstComing_39 : decode cX4_firstComing 39 = .ok (.istore 7, 2) := by decide +kernel
theorem dX4_firstComing_41 : decode cX4_firstComing 41 = .ok (.iload 7, 2) := by decide +kernel
theorem dX4_firstComing_43 : decode cX4_firstComing 43 = .ok (.aload_n 1, 1) := by decide +kernel
theorem dX4_firstComing_44 : decode cX4_firstComing 44 = .ok (.getfield 34, 3) := by decide +kernel
theorem dX4_firstComing_47 : decode cX4_firstComing 47 = .ok (.if_icmp .ge 28, 3) := by decide +kernel
theorem dX4_firstComing_50 : decode cX4_firstComing 50 = .ok (.aload_n 0, 1) := by decide +kernel
theorem dX4_firstComing_51 : decode cX4_firstComing 51 = .ok (.aload_n 1, 1) := by decide +kernel
theorem dX4_firstComing_52 : decode cX4_firstComing 52 = .ok (.getfield 45, 3) := by decide +kernel
theorem dX4_firstComing_55 : decode cX4_firstComing 55 = .ok (.iload 7, 2) := by decide +kernel
theorem dX4_firstComing_57 : decode cX4_firstComing 57 = .ok (.aaload, 1) := by decide +kernel
theorem dX4_firstComing_58 : decode cX4_firstComing 58 = .ok (.iload 7, 2) := by decide +kernel
theorem dX4_firstComing_60 : decode cX4_firstComing 60 = .ok (.invokevirtual 86, 3) := by decide +kernel
theorem dX4_firstComing_63 : decode cX4_firstComing 63 = .ok (.ifCond .eq 6, 3) := by decide +kernel
theorem dX4_firstComing_66 : decode cX4_firstComing 66 = .ok (.iconst 1, 1) := by decide +kernel
theorem dX4_firstComing_67 : decode cX4_firstComing 67 = .ok (.istore 5, 2) := by decide +kernel
theorem dX4_firstComing_69 : decode cX4_firstComing 69 = .ok (.iinc 7 1, 3) := by decide +kernel
theorem dX4_firstComing_72 : decode cX4_firstComing 72 = .ok (.goto (-31), 3) := by decide +kernel
theorem dX4_firstComing_75 : decode cX4_firstComing 75 = .ok (.iinc 6 1, 3) := by decide +kernel
theorem dX4_firstComing_78 : decode cX4_firstComing 78 = .ok (.goto (-55), 3) := by decide +kernel
theorem dX4_firstComing_81 : decode cX4_firstComing 81 = .ok (.aload_n 0, 1) := by decide +kernel
theorem dX4_firstComing_82 : decode cX4_firstComing 82 = .ok (.getfield 18, 3) := by decide +kernel
theorem dX4_firstComing_85 : decode cX4_firstComing 85 = .ok (.iload_n 3, 1) := by decide +kernel
theorem dX4_firstComing_86 : decode cX4_firstComing 86 = .ok (.iaload, 1) := by decide +kernel
theorem dX4_firstComing_87 : decode cX4_firstComing 87 = .ok (.ldc 79, 2) := by decide +kernel
theorem dX4_firstComing_89 : decode cX4_firstComing 89 = .ok (.if_icmp .ne 7, 3) := by decide +kernel
theorem dX4_firstComing_92 : decode cX4_firstComing 92 = .ok (.iconst (-1), 1) := by decide +kernel
theorem dX4_firstComing_93 : decode cX4_firstComing 93 = .ok (.goto 11, 3) := by decide +kernel
theorem dX4_firstComing_96 : decode cX4_firstComing 96 = .ok (.aload_n 0, 1) := by decide +kernel
theorem dX4_firstComing_97 : decode cX4_firstComing 97 = .ok (.getfield 18, 3) := by decide +kernel
theorem dX4_firstComing_100 : decode cX4_firstComing 100 = .ok (.iload_n 3, 1) := by decide +kernel
theorem dX4_firstComing_101 : decode cX4_firstComing 101 = .ok (.iaload, 1) := by decide +kernel
theorem dX4_firstComing_102 : decode cX4_firstComing 102 = .ok (.iconst 1, 1) := by decide +kernel
theorem dX4_firstComing_103 : decode cX4_firstComing 103 = .ok (.isub, 1) := by decide +kernel
theorem dX4_firstComing_104 : decode cX4_firstComing 104 = .ok (.ireturn, 1) := by decide +kernel
theorem dX4_carry_0 : decode cX4_carry 0 = .ok (.iconst 0, 1) := by decide +kernel
theorem dX4_carry_1 : decode cX4_carry 1 = .ok (.istore_n 3, 1) := by decide +kernel
theorem dX4_carry_2 : decode cX4_carry 2 = .ok (.iconst 0, 1) := by decide +kernel
theorem dX4_carry_3 : decode cX4_carry 3 = .ok (.istore 4, 2) := by decide +kernel
theorem dX4_carry_5 : decode cX4_carry 5 = .ok (.iconst 0, 1) := by decide +kernel
theorem dX4_carry_6 : decode cX4_carry 6 = .ok (.istore 5, 2) := by decide +kernel
theorem dX4_carry_8 : decode cX4_carry 8 = .ok (.iload 5, 2) := by decide +kernel
theorem dX4_carry_10 : decode cX4_carry 10 = .ok (.aload_n 1, 1) := by decide +kernel
theorem dX4_carry_11 : decode cX4_carry 11 = .ok (.getfield 69, 3) := by decide +kernel
theorem dX4_carry_14 : decode cX4_carry 14 = .ok (.if_icmp .gt 94, 3) := by decide +kernel
theorem dX4_carry_17 : decode cX4_carry 17 = .ok (.aload_n 1, 1) := by decide +kernel
theorem dX4_carry_18 : decode cX4_carry 18 = .ok (.getfield 90, 3) := by decide +kernel
theorem dX4_carry_21 : decode cX4_carry 21 = .ok (.iload 5, 2) := by decide +kernel
theorem dX4_carry_23 : decode cX4_carry 23 = .ok (.iaload, 1) := by decide +kernel
theorem dX4_carry_24 : decode cX4_carry 24 = .ok (.istore 6, 2) := by decide +kernel
theorem dX4_carry_26 : decode cX4_carry 26 = .ok (.aload_n 0, 1) := by decide +kernel
theorem dX4_carry_27 : decode cX4_carry 27 = .ok (.getfield 9, 3) := by decide +kernel
theorem dX4_carry_30 : decode cX4_carry 30 = .ok (.iload_n 2, 1) := by decide +kernel
theorem dX4_carry_31 : decode cX4_carry 31 = .ok (.bipush 7, 2) := by decide +kernel
theorem dX4_carry_33 : decode cX4_carry 33 = .ok (.imul, 1) := by decide +kernel
theorem dX4_carry_34 : decode cX4_carry 34 = .ok (.iload 5, 2) := by decide +kernel
theorem dX4_carry_36 : decode cX4_carry 36 = .ok (.iadd, 1) := by decide +kernel
theorem dX4_carry_37 : decode cX4_carry 37 = .ok (.iaload, 1) := by decide +kernel
theorem dX4_carry_38 : decode cX4_carry 38 = .ok (.istore 7, 2) := by decide +kernel
theorem dX4_carry_40 : decode cX4_carry 40 = .ok (.iload_n 3, 1) := by decide +kernel
theorem dX4_carry_41 : decode cX4_carry 41 = .ok (.ifCond .eq 37, 3) := by decide +kernel
theorem dX4_carry_44 : decode cX4_carry 44 = .ok (.iload 7, 2) := by decide +kernel
theorem dX4_carry_46 : decode cX4_carry 46 = .ok (.iconst (-1), 1) := by decide +kernel
theorem dX4_carry_47 : decode cX4_carry 47 = .ok (.if_icmp .eq 31, 3) := by decide +kernel
theorem dX4_carry_50 : decode cX4_carry 50 = .ok (.iload 7, 2) := by decide +kernel
theorem dX4_carry_52 : decode cX4_carry 52 = .ok (.iconst 1, 1) := by decide +kernel
theorem dX4_carry_53 : decode cX4_carry 53 = .ok (.iadd, 1) := by decide +kernel
theorem dX4_carry_54 : decode cX4_carry 54 = .ok (.aload_n 0, 1) := by decide +kernel
theorem dX4_carry_55 : decode cX4_carry 55 = .ok (.getfield 18, 3) := by decide +kernel
theorem dX4_carry_58 : decode cX4_carry 58 = .ok (.iload 6, 2) := by decide +kernel
theorem dX4_carry_60 : decode cX4_carry 60 = .ok (.iaload, 1) := by decide +kernel
theorem dX4_carry_61 : decode cX4_carry 61 = .ok (.if_icmp .ge 17, 3) := by decide +kernel
theorem dX4_carry_64 : decode cX4_carry 64 = .ok (.aload_n 0, 1) := by decide +kernel
theorem dX4_carry_65 : decode cX4_carry 65 = .ok (.getfield 18, 3) := by decide +kernel
theorem dX4_carry_68 : decode cX4_carry 68 = .ok (.iload 6, 2) := by decide +kernel
theorem dX4_carry_70 : decode cX4_carry 70 = .ok (.iload 7, 2) := by decide +kernel
theorem dX4_carry_72 : decode cX4_carry 72 = .ok (.iconst 1, 1) := by decide +kernel
theorem dX4_carry_73 : decode cX4_carry 73 = .ok (.iadd, 1) := by decide +kernel
theorem dX4_carry_74 : decode cX4_carry 74 = .ok (.iastore, 1) := by decide +kernel
theorem dX4_carry_75 : decode cX4_carry 75 = .ok (.iconst 1, 1) := by decide +kernel
theorem dX4_carry_76 : decode cX4_carry 76 = .ok (.istore 4, 2) := by decide +kernel
theorem dX4_carry_78 : decode cX4_carry 78 = .ok (.aload_n 0, 1) := by decide +kernel
theorem dX4_carry_79 : decode cX4_carry 79 = .ok (.getfield 15, 3) := by decide +kernel
theorem dX4_carry_82 : decode cX4_carry 82 = .ok (.iload_n 2, 1) := by decide +kernel
theorem dX4_carry_83 : decode cX4_carry 83 = .ok (.bipush 7, 2) := by decide +kernel
theorem dX4_carry_85 : decode cX4_carry 85 = .ok (.imul, 1) := by decide +kernel
theorem dX4_carry_86 : decode cX4_carry 86 = .ok (.iload 5, 2) := by decide +kernel
theorem dX4_carry_88 : decode cX4_carry 88 = .ok (.iadd, 1) := by decide +kernel
theorem dX4_carry_89 : decode cX4_carry 89 = .ok (.iaload, 1) := by decide +kernel
theorem dX4_carry_90 : decode cX4_carry 90 = .ok (.aload_n 0, 1) := by decide +kernel
theorem dX4_carry_91 : decode cX4_carry 91 = .ok (.getfield 18, 3) := by decide +kernel
theorem dX4_carry_94 : decode cX4_carry 94 = .ok (.iload 6, 2) := by decide +kernel
theorem dX4_carry_96 : decode cX4_carry 96 = .ok (.iaload, 1) := by decide +kernel
theorem dX4_carry_97 : decode cX4_carry 97 = .ok (.if_icmp .lt 5, 3) := by decide +kernel
theorem dX4_carry_100 : decode cX4_carry 100 = .ok (.iconst 1, 1) := by decide +kernel
theorem dX4_carry_101 : decode cX4_carry 101 = .ok (.istore_n 3, 1) := by decide +kernel
theorem dX4_carry_102 : decode cX4_carry 102 = .ok (.iinc 5 1, 3) := by decide +kernel
theorem dX4_carry_105 : decode cX4_carry 105 = .ok (.goto (-97), 3) := by decide +kernel
theorem dX4_carry_108 : decode cX4_carry 108 = .ok (.iload 4, 2) := by decide +kernel
theorem dX4_carry_110 : decode cX4_carry 110 = .ok (.ireturn, 1) := by decide +kernel
theorem dX4_reckonLatest_0 : decode cX4_reckonLatest 0 = .ok (.aload_n 0, 1) := by decide +kernel
theorem dX4_reckonLatest_1 : decode cX4_reckonLatest 1 = .ok (.getfield 21, 3) := by decide +kernel
theorem dX4_reckonLatest_4 : decode cX4_reckonLatest 4 = .ok (.iconst (-1), 1) := by decide +kernel
theorem dX4_reckonLatest_5 : decode cX4_reckonLatest 5 = .ok (.invokestatic 80, 3) := by decide +kernel
theorem dX4_reckonLatest_8 : decode cX4_reckonLatest 8 = .ok (.aload_n 0, 1) := by decide +kernel
theorem dX4_reckonLatest_9 : decode cX4_reckonLatest 9 = .ok (.iconst 0, 1) := by decide +kernel
theorem dX4_reckonLatest_10 : decode cX4_reckonLatest 10 = .ok (.putfield 27, 3) := by decide +kernel
theorem dX4_reckonLatest_13 : decode cX4_reckonLatest 13 = .ok (.iconst 1, 1) := by decide +kernel
theorem dX4_reckonLatest_14 : decode cX4_reckonLatest 14 = .ok (.istore 4, 2) := by decide +kernel
theorem dX4_reckonLatest_16 : decode cX4_reckonLatest 16 = .ok (.iconst 1, 1) := by decide +kernel
theorem dX4_reckonLatest_17 : decode cX4_reckonLatest 17 = .ok (.istore 5, 2) := by decide +kernel
theorem dX4_reckonLatest_19 : decode cX4_reckonLatest 19 = .ok (.iload 5, 2) := by decide +kernel
theorem dX4_reckonLatest_21 : decode cX4_reckonLatest 21 = .ok (.bipush 10, 2) := by decide +kernel
theorem dX4_reckonLatest_23 : decode cX4_reckonLatest 23 = .ok (.if_icmp .gt 89, 3) := by decide +kernel
theorem dX4_reckonLatest_26 : decode cX4_reckonLatest 26 = .ok (.iload 4, 2) := by decide +kernel
theorem dX4_reckonLatest_28 : decode cX4_reckonLatest 28 = .ok (.ifCond .eq 84, 3) := by decide +kernel
theorem dX4_reckonLatest_31 : decode cX4_reckonLatest 31 = .ok (.aload_n 0, 1) := by decide +kernel
theorem dX4_reckonLatest_32 : decode cX4_reckonLatest 32 = .ok (.getfield 21, 3) := by decide +kernel
theorem dX4_reckonLatest_35 : decode cX4_reckonLatest 35 = .ok (.iload 5, 2) := by decide +kernel
theorem dX4_reckonLatest_37 : decode cX4_reckonLatest 37 = .ok (.iconst 1, 1) := by decide +kernel
theorem dX4_reckonLatest_38 : decode cX4_reckonLatest 38 = .ok (.isub, 1) := by decide +kernel
theorem dX4_reckonLatest_39 : decode cX4_reckonLatest 39 = .ok (.bipush 8, 2) := by decide +kernel
theorem dX4_reckonLatest_41 : decode cX4_reckonLatest 41 = .ok (.imul, 1) := by decide +kernel
theorem dX4_reckonLatest_42 : decode cX4_reckonLatest 42 = .ok (.aload_n 0, 1) := by decide +kernel
theorem dX4_reckonLatest_43 : decode cX4_reckonLatest 43 = .ok (.getfield 21, 3) := by decide +kernel
theorem dX4_reckonLatest_46 : decode cX4_reckonLatest 46 = .ok (.iload 5, 2) := by decide +kernel
theorem dX4_reckonLatest_48 : decode cX4_reckonLatest 48 = .ok (.bipush 8, 2) := by decide +kernel
theorem dX4_reckonLatest_50 : decode cX4_reckonLatest 50 = .ok (.imul, 1) := by decide +kernel
theorem dX4_reckonLatest_51 : decode cX4_reckonLatest 51 = .ok (.bipush 8, 2) := by decide +kernel
theorem dX4_reckonLatest_53 : decode cX4_reckonLatest 53 = .ok (.invokestatic 93, 3) := by decide +kernel
theorem dX4_reckonLatest_56 : decode cX4_reckonLatest 56 = .ok (.iconst 0, 1) := by decide +kernel
theorem dX4_reckonLatest_57 : decode cX4_reckonLatest 57 = .ok (.istore 4, 2) := by decide +kernel
theorem dX4_reckonLatest_59 : decode cX4_reckonLatest 59 = .ok (.iconst 0, 1) := by decide +kernel
theorem dX4_reckonLatest_60 : decode cX4_reckonLatest 60 = .ok (.istore 6, 2) := by decide +kernel
theorem dX4_reckonLatest_62 : decode cX4_reckonLatest 62 = .ok (.iload 6, 2) := by decide +kernel
theorem dX4_reckonLatest_64 : decode cX4_reckonLatest 64 = .ok (.aload_n 1, 1) := by decide +kernel
theorem dX4_reckonLatest_65 : decode cX4_reckonLatest 65 = .ok (.getfield 34, 3) := by decide +kernel
theorem dX4_reckonLatest_68 : decode cX4_reckonLatest 68 = .ok (.if_icmp .ge 32, 3) := by decide +kernel
theorem dX4_reckonLatest_71 : decode cX4_reckonLatest 71 = .ok (.aload_n 0, 1) := by decide +kernel
theorem dX4_reckonLatest_72 : decode cX4_reckonLatest 72 = .ok (.aload_n 1, 1) := by decide +kernel
theorem dX4_reckonLatest_73 : decode cX4_reckonLatest 73 = .ok (.getfield 45, 3) := by decide +kernel
theorem dX4_reckonLatest_76 : decode cX4_reckonLatest 76 = .ok (.iload 6, 2) := by decide +kernel
theorem dX4_reckonLatest_78 : decode cX4_reckonLatest 78 = .ok (.aaload, 1) := by decide +kernel
theorem dX4_reckonLatest_79 : decode cX4_reckonLatest 79 = .ok (.iload 6, 2) := by decide +kernel
theorem dX4_reckonLatest_81 : decode cX4_reckonLatest 81 = .ok (.iload 5, 2) := by decide +kernel
theorem dX4_reckonLatest_83 : decode cX4_reckonLatest 83 = .ok (.iload_n 2, 1) := by decide +kernel
theorem dX4_reckonLatest_84 : decode cX4_reckonLatest 84 = .ok (.iload_n 3, 1) := by decide +kernel
theorem dX4_reckonLatest_85 : decode cX4_reckonLatest 85 = .ok (.invokevirtual 99, 3) := by decide +kernel
theorem dX4_reckonLatest_88 : decode cX4_reckonLatest 88 = .ok (.ifCond .eq 6, 3) := by decide +kernel
theorem dX4_reckonLatest_91 : decode cX4_reckonLatest 91 = .ok (.iconst 1, 1) := by decide +kernel
theorem dX4_reckonLatest_92 : decode cX4_reckonLatest 92 = .ok (.istore 4, 2) := by decide +kernel
theorem dX4_reckonLatest_94 : decode cX4_reckonLatest 94 = .ok (.iinc 6 1, 3) := by decide +kernel
theorem dX4_reckonLatest_97 : decode cX4_reckonLatest 97 = .ok (.goto (-35), 3) := by decide +kernel
theorem dX4_reckonLatest_100 : decode cX4_reckonLatest 100 = .ok (.aload_n 0, 1) := by decide +kernel
theorem dX4_reckonLatest_101 : decode cX4_reckonLatest 101 = .ok (.iload 5, 2) := by decide +kernel
theorem dX4_reckonLatest_103 : decode cX4_reckonLatest 103 = .ok (.putfield 27, 3) := by decide +kernel
theorem dX4_reckonLatest_106 : decode cX4_reckonLatest 106 = .ok (.iinc 5 1, 3) := by decide +kernel
theorem dX4_reckonLatest_109 : decode cX4_reckonLatest 109 = .ok (.goto (-90), 3) := by decide +kernel
theorem dX4_reckonLatest_112 : decode cX4_reckonLatest 112 = .ok (.return_, 1) := by decide +kernel
theorem dX4_goBack_0 : decode cX4_goBack 0 = .ok (.iconst 0, 1) := by decide +kernel
theorem dX4_goBack_1 : decode cX4_goBack 1 = .ok (.istore 6, 2) := by decide +kernel
theorem dX4_goBack_3 : decode cX4_goBack 3 = .ok (.iconst 0, 1) := by decide +kernel
theorem dX4_goBack_4 : decode cX4_goBack 4 = .ok (.istore 7, 2) := by decide +kernel
theorem dX4_goBack_6 : decode cX4_goBack 6 = .ok (.aload_n 1, 1) := by decide +kernel
theorem dX4_goBack_7 : decode cX4_goBack 7 = .ok (.getfield 69, 3) := by decide +kernel
theorem dX4_goBack_10 : decode cX4_goBack 10 = .ok (.istore 8, 2) := by decide +kernel
theorem dX4_goBack_12 : decode cX4_goBack 12 = .ok (.iload 8, 2) := by decide +kernel
theorem dX4_goBack_14 : decode cX4_goBack 14 = .ok (.ifCond .lt 102, 3) := by decide +kernel
theorem dX4_goBack_17 : decode cX4_goBack 17 = .ok (.iload_n 2, 1) := by decide +kernel
theorem dX4_goBack_18 : decode cX4_goBack 18 = .ok (.bipush 7, 2) := by decide +kernel
theorem dX4_goBack_20 : decode cX4_goBack 20 = .ok (.imul, 1) := by decide +kernel
theorem dX4_goBack_21 : decode cX4_goBack 21 = .ok (.iload 8, 2) := by decide +kernel
theorem dX4_goBack_23 : decode cX4_goBack 23 = .ok (.iadd, 1) := by decide +kernel
theorem dX4_goBack_24 : decode cX4_goBack 24 = .ok (.istore 9, 2) := by decide +kernel
theorem dX4_goBack_26 : decode cX4_goBack 26 = .ok (.iload_n 3, 1) := by decide +kernel
theorem dX4_goBack_27 : decode cX4_goBack 27 = .ok (.bipush 8, 2) := by decide +kernel
theorem dX4_goBack_29 : decode cX4_goBack 29 = .ok (.imul, 1) := by decide +kernel
theorem dX4_goBack_30 : decode cX4_goBack 30 = .ok (.aload_n 1, 1) := by decide +kernel
theorem dX4_goBack_31 : decode cX4_goBack 31 = .ok (.getfield 90, 3) := by decide +kernel
theorem dX4_goBack_34 : decode cX4_goBack 34 = .ok (.iload 8, 2) := by decide +kernel
theorem dX4_goBack_36 : decode cX4_goBack 36 = .ok (.iaload, 1) := by decide +kernel
theorem dX4_goBack_37 : decode cX4_goBack 37 = .ok (.iadd, 1) := by decide +kernel
theorem dX4_goBack_38 : decode cX4_goBack 38 = .ok (.istore 10, 2) := by decide +kernel
theorem dX4_goBack_40 : decode cX4_goBack 40 = .ok (.iload 6, 2) := by decide +kernel
theorem dX4_goBack_42 : decode cX4_goBack 42 = .ok (.ifCond .eq 37, 3) := by decide +kernel
theorem dX4_goBack_45 : decode cX4_goBack 45 = .ok (.aload_n 0, 1) := by decide +kernel
theorem dX4_goBack_46 : decode cX4_goBack 46 = .ok (.getfield 15, 3) := by decide +kernel
theorem dX4_goBack_49 : decode cX4_goBack 49 = .ok (.iload 9, 2) := by decide +kernel
theorem dX4_goBack_51 : decode cX4_goBack 51 = .ok (.iaload, 1) := by decide +kernel
theorem dX4_goBack_52 : decode cX4_goBack 52 = .ok (.aload_n 0, 1) := by decide +kernel
theorem dX4_goBack_53 : decode cX4_goBack 53 = .ok (.getfield 21, 3) := by decide +kernel
theorem dX4_goBack_56 : decode cX4_goBack 56 = .ok (.iload 10, 2) := by decide +kernel
theorem dX4_goBack_58 : decode cX4_goBack 58 = .ok (.iaload, 1) := by decide +kernel
theorem dX4_goBack_59 : decode cX4_goBack 59 = .ok (.if_icmp .le 20, 3) := by decide +kernel
theorem dX4_goBack_62 : decode cX4_goBack 62 = .ok (.aload_n 0, 1) := by decide +kernel
theorem dX4_goBack_63 : decode cX4_goBack 63 = .ok (.getfield 21, 3) := by decide +kernel
theorem dX4_goBack_66 : decode cX4_goBack 66 = .ok (.iload 10, 2) := by decide +kernel
theorem dX4_goBack_68 : decode cX4_goBack 68 = .ok (.aload_n 0, 1) := by decide +kernel
theorem dX4_goBack_69 : decode cX4_goBack 69 = .ok (.getfield 15, 3) := by decide +kernel
theorem dX4_goBack_72 : decode cX4_goBack 72 = .ok (.iload 9, 2) := by decide +kernel
theorem dX4_goBack_74 : decode cX4_goBack 74 = .ok (.iaload, 1) := by decide +kernel
theorem dX4_goBack_75 : decode cX4_goBack 75 = .ok (.iastore, 1) := by decide +kernel
theorem dX4_goBack_76 : decode cX4_goBack 76 = .ok (.iconst 1, 1) := by decide +kernel
theorem dX4_goBack_77 : decode cX4_goBack 77 = .ok (.istore 7, 2) := by decide +kernel
theorem dX4_goBack_79 : decode cX4_goBack 79 = .ok (.aload_n 0, 1) := by decide +kernel
theorem dX4_goBack_80 : decode cX4_goBack 80 = .ok (.iload_n 3, 1) := by decide +kernel
theorem dX4_goBack_81 : decode cX4_goBack 81 = .ok (.iconst 1, 1) := by decide +kernel
theorem dX4_goBack_82 : decode cX4_goBack 82 = .ok (.isub, 1) := by decide +kernel
theorem dX4_goBack_83 : decode cX4_goBack 83 = .ok (.aload_n 1, 1) := by decide +kernel
theorem dX4_goBack_84 : decode cX4_goBack 84 = .ok (.getfield 90, 3) := by decide +kernel
theorem dX4_goBack_87 : decode cX4_goBack 87 = .ok (.iload 8, 2) := by decide +kernel
theorem dX4_goBack_89 : decode cX4_goBack 89 = .ok (.iaload, 1) := by decide +kernel
theorem dX4_goBack_90 : decode cX4_goBack 90 = .ok (.aload_n 0, 1) := by decide +kernel
theorem dX4_goBack_91 : decode cX4_goBack 91 = .ok (.getfield 9, 3) := by decide +kernel
theorem dX4_goBack_94 : decode cX4_goBack 94 = .ok (.iload 9, 2) := by decide +kernel
theorem dX4_goBack_96 : decode cX4_goBack 96 = .ok (.iaload, 1) := by decide +kernel
theorem dX4_goBack_97 : decode cX4_goBack 97 = .ok (.iload 4, 2) := by decide +kernel
theorem dX4_goBack_99 : decode cX4_goBack 99 = .ok (.iload 5, 2) := by decide +kernel
theorem dX4_goBack_101 : decode cX4_goBack 101 = .ok (.invokevirtual 103, 3) := by decide +kernel
theorem dX4_goBack_104 : decode cX4_goBack 104 = .ok (.ifCond .eq 6, 3) := by decide +kernel
theorem dX4_goBack_107 : decode cX4_goBack 107 = .ok (.iconst 1, 1) := by decide +kernel
theorem dX4_goBack_108 : decode cX4_goBack 108 = .ok (.istore 6, 2) := by decide +kernel
theorem dX4_goBack_110 : decode cX4_goBack 110 = .ok (.iinc 8 (-1), 3) := by decide +kernel
theorem dX4_goBack_113 : decode cX4_goBack 113 = .ok (.goto (-101), 3) := by decide +kernel
theorem dX4_goBack_116 : decode cX4_goBack 116 = .ok (.iload 7, 2) := by decide +kernel
theorem dX4_goBack_118 : decode cX4_goBack 118 = .ok (.ireturn, 1) := by decide +kernel
theorem dX4_goesOnInTime_0 : decode cX4_goesOnInTime 0 = .ok (.iload_n 3, 1) := by decide +kernel
theorem dX4_goesOnInTime_1 : decode cX4_goesOnInTime 1 = .ok (.iconst (-1), 1) := by decide +kernel
theorem dX4_goesOnInTime_2 : decode cX4_goesOnInTime 2 = .ok (.if_icmp .ne 5, 3) := by decide +kernel
theorem dX4_goesOnInTime_5 : decode cX4_goesOnInTime 5 = .ok (.iconst 0, 1) := by decide +kernel
theorem dX4_goesOnInTime_6 : decode cX4_goesOnInTime 6 = .ok (.ireturn, 1) := by decide +kernel
theorem dX4_goesOnInTime_7 : decode cX4_goesOnInTime 7 = .ok (.iload_n 2, 1) := by decide +kernel
theorem dX4_goesOnInTime_8 : decode cX4_goesOnInTime 8 = .ok (.iload 4, 2) := by decide +kernel
theorem dX4_goesOnInTime_10 : decode cX4_goesOnInTime 10 = .ok (.if_icmp .ne 9, 3) := by decide +kernel
theorem dX4_goesOnInTime_13 : decode cX4_goesOnInTime 13 = .ok (.iload_n 3, 1) := by decide +kernel
theorem dX4_goesOnInTime_14 : decode cX4_goesOnInTime 14 = .ok (.iload 5, 2) := by decide +kernel
theorem dX4_goesOnInTime_16 : decode cX4_goesOnInTime 16 = .ok (.if_icmp .le 13, 3) := by decide +kernel
theorem dX4_goesOnInTime_19 : decode cX4_goesOnInTime 19 = .ok (.iload_n 3, 1) := by decide +kernel
theorem dX4_goesOnInTime_20 : decode cX4_goesOnInTime 20 = .ok (.aload_n 0, 1) := by decide +kernel
theorem dX4_goesOnInTime_21 : decode cX4_goesOnInTime 21 = .ok (.iload_n 2, 1) := by decide +kernel
theorem dX4_goesOnInTime_22 : decode cX4_goesOnInTime 22 = .ok (.iload_n 1, 1) := by decide +kernel
theorem dX4_goesOnInTime_23 : decode cX4_goesOnInTime 23 = .ok (.invokevirtual 107, 3) := by decide +kernel
theorem dX4_goesOnInTime_26 : decode cX4_goesOnInTime 26 = .ok (.if_icmp .ge 7, 3) := by decide +kernel
theorem dX4_goesOnInTime_29 : decode cX4_goesOnInTime 29 = .ok (.iconst 1, 1) := by decide +kernel
theorem dX4_goesOnInTime_30 : decode cX4_goesOnInTime 30 = .ok (.goto 4, 3) := by decide +kernel
theorem dX4_goesOnInTime_33 : decode cX4_goesOnInTime 33 = .ok (.iconst 0, 1) := by decide +kernel
theorem dX4_goesOnInTime_34 : decode cX4_goesOnInTime 34 = .ok (.ireturn, 1) := by decide +kernel
theorem dX4_latestFrom_0 : decode cX4_latestFrom 0 = .ok (.aload_n 0, 1) := by decide +kernel
theorem dX4_latestFrom_1 : decode cX4_latestFrom 1 = .ok (.getfield 21, 3) := by decide +kernel
theorem dX4_latestFrom_4 : decode cX4_latestFrom 4 = .ok (.iload_n 2, 1) := by decide +kernel
theorem dX4_latestFrom_5 : decode cX4_latestFrom 5 = .ok (.bipush 8, 2) := by decide +kernel
theorem dX4_latestFrom_7 : decode cX4_latestFrom 7 = .ok (.imul, 1) := by decide +kernel
theorem dX4_latestFrom_8 : decode cX4_latestFrom 8 = .ok (.iload_n 1, 1) := by decide +kernel
theorem dX4_latestFrom_9 : decode cX4_latestFrom 9 = .ok (.iadd, 1) := by decide +kernel
theorem dX4_latestFrom_10 : decode cX4_latestFrom 10 = .ok (.iaload, 1) := by decide +kernel
theorem dX4_latestFrom_11 : decode cX4_latestFrom 11 = .ok (.ireturn, 1) := by decide +kernel
theorem dX4_chooseRides_0 : decode cX4_chooseRides 0 = .ok (.iconst 1, 1) := by decide +kernel
theorem dX4_chooseRides_1 : decode cX4_chooseRides 1 = .ok (.istore 6, 2) := by decide +kernel
theorem dX4_chooseRides_3 : decode cX4_chooseRides 3 = .ok (.iload 6, 2) := by decide +kernel
theorem dX4_chooseRides_5 : decode cX4_chooseRides 5 = .ok (.aload_n 0, 1) := by decide +kernel
theorem dX4_chooseRides_6 : decode cX4_chooseRides 6 = .ok (.getfield 27, 3) := by decide +kernel
theorem dX4_chooseRides_9 : decode cX4_chooseRides 9 = .ok (.if_icmp .ge 21, 3) := by decide +kernel
theorem dX4_chooseRides_12 : decode cX4_chooseRides 12 = .ok (.aload_n 0, 1) := by decide +kernel
theorem dX4_chooseRides_13 : decode cX4_chooseRides 13 = .ok (.iload_n 2, 1) := by decide +kernel
theorem dX4_chooseRides_14 : decode cX4_chooseRides 14 = .ok (.iload 6, 2) := by decide +kernel
theorem dX4_chooseRides_16 : decode cX4_chooseRides 16 = .ok (.invokevirtual 107, 3) := by decide +kernel
theorem dX4_chooseRides_19 : decode cX4_chooseRides 19 = .ok (.iload 4, 2) := by decide +kernel
theorem dX4_chooseRides_21 : decode cX4_chooseRides 21 = .ok (.if_icmp .ge 9, 3) := by decide +kernel
theorem dX4_chooseRides_24 : decode cX4_chooseRides 24 = .ok (.iinc 6 1, 3) := by decide +kernel
theorem dX4_chooseRides_27 : decode cX4_chooseRides 27 = .ok (.goto (-24), 3) := by decide +kernel
theorem dX4_chooseRides_30 : decode cX4_chooseRides 30 = .ok (.aload_n 0, 1) := by decide +kernel
theorem dX4_chooseRides_31 : decode cX4_chooseRides 31 = .ok (.iconst 0, 1) := by decide +kernel
theorem dX4_chooseRides_32 : decode cX4_chooseRides 32 = .ok (.putfield 31, 3) := by decide +kernel
theorem dX4_chooseRides_35 : decode cX4_chooseRides 35 = .ok (.iload_n 2, 1) := by decide +kernel
theorem dX4_chooseRides_36 : decode cX4_chooseRides 36 = .ok (.istore 7, 2) := by decide +kernel
theorem dX4_chooseRides_38 : decode cX4_chooseRides 38 = .ok (.iload 4, 2) := by decide +kernel
theorem dX4_chooseRides_40 : decode cX4_chooseRides 40 = .ok (.istore 8, 2) := by decide +kernel
theorem dX4_chooseRides_42 : decode cX4_chooseRides 42 = .ok (.iload 6, 2) := by decide +kernel
theorem dX4_chooseRides_44 : decode cX4_chooseRides 44 = .ok (.iconst 1, 1) := by decide +kernel
theorem dX4_chooseRides_45 : decode cX4_chooseRides 45 = .ok (.isub, 1) := by decide +kernel
theorem dX4_chooseRides_46 : decode cX4_chooseRides 46 = .ok (.istore 9, 2) := by decide +kernel
theorem dX4_chooseRides_48 : decode cX4_chooseRides 48 = .ok (.iload 9, 2) := by decide +kernel
theorem dX4_chooseRides_50 : decode cX4_chooseRides 50 = .ok (.ifCond .lt 97, 3) := by decide +kernel
theorem dX4_chooseRides_53 : decode cX4_chooseRides 53 = .ok (.aload_n 0, 1) := by decide +kernel
theorem dX4_chooseRides_54 : decode cX4_chooseRides 54 = .ok (.aload_n 1, 1) := by decide +kernel
theorem dX4_chooseRides_55 : decode cX4_chooseRides 55 = .ok (.iload 7, 2) := by decide +kernel
theorem dX4_chooseRides_57 : decode cX4_chooseRides 57 = .ok (.iload 8, 2) := by decide +kernel
theorem dX4_chooseRides_59 : decode cX4_chooseRides 59 = .ok (.iload 9, 2) := by decide +kernel
theorem dX4_chooseRides_61 : decode cX4_chooseRides 61 = .ok (.iload_n 3, 1) := by decide +kernel
theorem dX4_chooseRides_62 : decode cX4_chooseRides 62 = .ok (.iload 5, 2) := by decide +kernel
theorem dX4_chooseRides_64 : decode cX4_chooseRides 64 = .ok (.invokevirtual 111, 3) := by decide +kernel
theorem dX4_chooseRides_67 : decode cX4_chooseRides 67 = .ok (.ifCond .ne 4, 3) := by decide +kernel
theorem dX4_chooseRides_70 : decode cX4_chooseRides 70 = .ok (.return_, 1) := by decide +kernel
theorem dX4_chooseRides_71 : decode cX4_chooseRides 71 = .ok (.aload_n 0, 1) := by decide +kernel
theorem dX4_chooseRides_72 : decode cX4_chooseRides 72 = .ok (.getfield 24, 3) := by decide +kernel
theorem dX4_chooseRides_75 : decode cX4_chooseRides 75 = .ok (.aload_n 0, 1) := by decide +kernel
theorem dX4_chooseRides_76 : decode cX4_chooseRides 76 = .ok (.getfield 31, 3) := by decide +kernel
theorem dX4_chooseRides_79 : decode cX4_chooseRides 79 = .ok (.iconst 3, 1) := by decide +kernel
theorem dX4_chooseRides_80 : decode cX4_chooseRides 80 = .ok (.imul, 1) := by decide +kernel
theorem dX4_chooseRides_81 : decode cX4_chooseRides 81 = .ok (.iaload, 1) := by decide +kernel
theorem dX4_chooseRides_82 : decode cX4_chooseRides 82 = .ok (.istore 10, 2) := by decide +kernel
theorem dX4_chooseRides_84 : decode cX4_chooseRides 84 = .ok (.aload_n 0, 1) := by decide +kernel
theorem dX4_chooseRides_85 : decode cX4_chooseRides 85 = .ok (.getfield 24, 3) := by decide +kernel
theorem dX4_chooseRides_88 : decode cX4_chooseRides 88 = .ok (.aload_n 0, 1) := by decide +kernel
theorem dX4_chooseRides_89 : decode cX4_chooseRides 89 = .ok (.getfield 31, 3) := by decide +kernel
theorem dX4_chooseRides_92 : decode cX4_chooseRides 92 = .ok (.iconst 3, 1) := by decide +kernel
theorem dX4_chooseRides_93 : decode cX4_chooseRides 93 = .ok (.imul, 1) := by decide +kernel
theorem dX4_chooseRides_94 : decode cX4_chooseRides 94 = .ok (.iconst 2, 1) := by decide +kernel
theorem dX4_chooseRides_95 : decode cX4_chooseRides 95 = .ok (.iadd, 1) := by decide +kernel
theorem dX4_chooseRides_96 : decode cX4_chooseRides 96 = .ok (.iaload, 1) := by decide +kernel
theorem dX4_chooseRides_97 : decode cX4_chooseRides 97 = .ok (.istore 11, 2) := by decide +kernel
theorem dX4_chooseRides_99 : decode cX4_chooseRides 99 = .ok (.aload_n 1, 1) := by decide +kernel
theorem dX4_chooseRides_100 : decode cX4_chooseRides 100 = .ok (.getfield 45, 3) := by decide +kernel
theorem dX4_chooseRides_103 : decode cX4_chooseRides 103 = .ok (.iload 10, 2) := by decide +kernel
theorem dX4_chooseRides_105 : decode cX4_chooseRides 105 = .ok (.aaload, 1) := by decide +kernel
theorem dX4_chooseRides_106 : decode cX4_chooseRides 106 = .ok (.getfield 90, 3) := by decide +kernel
theorem dX4_chooseRides_109 : decode cX4_chooseRides 109 = .ok (.iload 11, 2) := by decide +kernel
theorem dX4_chooseRides_111 : decode cX4_chooseRides 111 = .ok (.iaload, 1) := by decide +kernel
theorem dX4_chooseRides_112 : decode cX4_chooseRides 112 = .ok (.istore 7, 2) := by decide +kernel
theorem dX4_chooseRides_114 : decode cX4_chooseRides 114 = .ok (.aload_n 0, 1) := by decide +kernel
theorem dX4_chooseRides_115 : decode cX4_chooseRides 115 = .ok (.getfield 9, 3) := by decide +kernel
theorem dX4_chooseRides_118 : decode cX4_chooseRides 118 = .ok (.iload 10, 2) := by decide +kernel
theorem dX4_chooseRides_120 : decode cX4_chooseRides 120 = .ok (.bipush 7, 2) := by decide +kernel
theorem dX4_chooseRides_122 : decode cX4_chooseRides 122 = .ok (.imul, 1) := by decide +kernel
theorem dX4_chooseRides_123 : decode cX4_chooseRides 123 = .ok (.iload 11, 2) := by decide +kernel
theorem dX4_chooseRides_125 : decode cX4_chooseRides 125 = .ok (.iadd, 1) := by decide +kernel
theorem dX4_chooseRides_126 : decode cX4_chooseRides 126 = .ok (.iaload, 1) := by decide +kernel
theorem dX4_chooseRides_127 : decode cX4_chooseRides 127 = .ok (.iconst 1, 1) := by decide +kernel
theorem dX4_chooseRides_128 : decode cX4_chooseRides 128 = .ok (.iadd, 1) := by decide +kernel
theorem dX4_chooseRides_129 : decode cX4_chooseRides 129 = .ok (.istore 8, 2) := by decide +kernel
theorem dX4_chooseRides_131 : decode cX4_chooseRides 131 = .ok (.aload_n 0, 1) := by decide +kernel
theorem dX4_chooseRides_132 : decode cX4_chooseRides 132 = .ok (.dup, 1) := by decide +kernel
theorem dX4_chooseRides_133 : decode cX4_chooseRides 133 = .ok (.getfield 31, 3) := by decide +kernel
theorem dX4_chooseRides_136 : decode cX4_chooseRides 136 = .ok (.iconst 1, 1) := by decide +kernel
theorem dX4_chooseRides_137 : decode cX4_chooseRides 137 = .ok (.iadd, 1) := by decide +kernel
theorem dX4_chooseRides_138 : decode cX4_chooseRides 138 = .ok (.putfield 31, 3) := by decide +kernel
theorem dX4_chooseRides_141 : decode cX4_chooseRides 141 = .ok (.iinc 9 (-1), 3) := by decide +kernel
theorem dX4_chooseRides_144 : decode cX4_chooseRides 144 = .ok (.goto (-96), 3) := by decide +kernel
theorem dX4_chooseRides_147 : decode cX4_chooseRides 147 = .ok (.return_, 1) := by decide +kernel
theorem dX4_findRide_0 : decode cX4_findRide 0 = .ok (.iconst 0, 1) := by decide +kernel
theorem dX4_findRide_1 : decode cX4_findRide 1 = .ok (.istore 7, 2) := by decide +kernel
theorem dX4_findRide_3 : decode cX4_findRide 3 = .ok (.iload 7, 2) := by decide +kernel
theorem dX4_findRide_5 : decode cX4_findRide 5 = .ok (.aload_n 1, 1) := by decide +kernel
theorem dX4_findRide_6 : decode cX4_findRide 6 = .ok (.getfield 34, 3) := by decide +kernel
theorem dX4_findRide_9 : decode cX4_findRide 9 = .ok (.if_icmp .ge 102, 3) := by decide +kernel
theorem dX4_findRide_12 : decode cX4_findRide 12 = .ok (.aload_n 1, 1) := by decide +kernel
theorem dX4_findRide_13 : decode cX4_findRide 13 = .ok (.getfield 45, 3) := by decide +kernel
theorem dX4_findRide_16 : decode cX4_findRide 16 = .ok (.iload 7, 2) := by decide +kernel
theorem dX4_findRide_18 : decode cX4_findRide 18 = .ok (.aaload, 1) := by decide +kernel
theorem dX4_findRide_19 : decode cX4_findRide 19 = .ok (.astore 8, 2) := by decide +kernel
theorem dX4_findRide_21 : decode cX4_findRide 21 = .ok (.iconst 0, 1) := by decide +kernel
theorem dX4_findRide_22 : decode cX4_findRide 22 = .ok (.istore 9, 2) := by decide +kernel
theorem dX4_findRide_24 : decode cX4_findRide 24 = .ok (.iload 9, 2) := by decide +kernel
theorem dX4_findRide_26 : decode cX4_findRide 26 = .ok (.aload 8, 2) := by decide +kernel
theorem dX4_findRide_28 : decode cX4_findRide 28 = .ok (.getfield 69, 3) := by decide +kernel
theorem dX4_findRide_31 : decode cX4_findRide 31 = .ok (.if_icmp .ge 74, 3) := by decide +kernel
theorem dX4_findRide_34 : decode cX4_findRide 34 = .ok (.aload 8, 2) := by decide +kernel
theorem dX4_findRide_36 : decode cX4_findRide 36 = .ok (.getfield 90, 3) := by decide +kernel
theorem dX4_findRide_39 : decode cX4_findRide 39 = .ok (.iload 9, 2) := by decide +kernel
theorem dX4_findRide_41 : decode cX4_findRide 41 = .ok (.iaload, 1) := by decide +kernel
theorem dX4_findRide_42 : decode cX4_findRide 42 = .ok (.iload_n 2, 1) := by decide +kernel
theorem dX4_findRide_43 : decode cX4_findRide 43 = .ok (.if_icmp .ne 56, 3) := by decide +kernel
theorem dX4_findRide_46 : decode cX4_findRide 46 = .ok (.aload_n 0, 1) := by decide +kernel
theorem dX4_findRide_47 : decode cX4_findRide 47 = .ok (.getfield 15, 3) := by decide +kernel
theorem dX4_findRide_50 : decode cX4_findRide 50 = .ok (.iload 7, 2) := by decide +kernel
theorem dX4_findRide_52 : decode cX4_findRide 52 = .ok (.bipush 7, 2) := by decide +kernel
theorem dX4_findRide_54 : decode cX4_findRide 54 = .ok (.imul, 1) := by decide +kernel
theorem dX4_findRide_55 : decode cX4_findRide 55 = .ok (.iload 9, 2) := by decide +kernel
theorem dX4_findRide_57 : decode cX4_findRide 57 = .ok (.iadd, 1) := by decide +kernel
theorem dX4_findRide_58 : decode cX4_findRide 58 = .ok (.iaload, 1) := by decide +kernel
theorem dX4_findRide_59 : decode cX4_findRide 59 = .ok (.iload_n 3, 1) := by decide +kernel
theorem dX4_findRide_60 : decode cX4_findRide 60 = .ok (.if_icmp .lt 39, 3) := by decide +kernel
theorem dX4_findRide_63 : decode cX4_findRide 63 = .ok (.aload_n 0, 1) := by decide +kernel
theorem dX4_findRide_64 : decode cX4_findRide 64 = .ok (.aload 8, 2) := by decide +kernel
theorem dX4_findRide_66 : decode cX4_findRide 66 = .ok (.iload 7, 2) := by decide +kernel
theorem dX4_findRide_68 : decode cX4_findRide 68 = .ok (.iload 9, 2) := by decide +kernel
theorem dX4_findRide_70 : decode cX4_findRide 70 = .ok (.iload 4, 2) := by decide +kernel
theorem dX4_findRide_72 : decode cX4_findRide 72 = .ok (.iload 5, 2) := by decide +kernel
theorem dX4_findRide_74 : decode cX4_findRide 74 = .ok (.iload 6, 2) := by decide +kernel
theorem dX4_findRide_76 : decode cX4_findRide 76 = .ok (.invokevirtual 115, 3) := by decide +kernel
theorem dX4_findRide_79 : decode cX4_findRide 79 = .ok (.istore 10, 2) := by decide +kernel
theorem dX4_findRide_81 : decode cX4_findRide 81 = .ok (.iload 10, 2) := by decide +kernel
theorem dX4_findRide_83 : decode cX4_findRide 83 = .ok (.iconst (-1), 1) := by decide +kernel
theorem dX4_findRide_84 : decode cX4_findRide 84 = .ok (.if_icmp .eq 15, 3) := by decide +kernel
theorem dX4_findRide_87 : decode cX4_findRide 87 = .ok (.aload_n 0, 1) := by decide +kernel
theorem dX4_findRide_88 : decode cX4_findRide 88 = .ok (.iload 7, 2) := by decide +kernel
theorem dX4_findRide_90 : decode cX4_findRide 90 = .ok (.iload 9, 2) := by decide +kernel
theorem dX4_findRide_92 : decode cX4_findRide 92 = .ok (.iload 10, 2) := by decide +kernel
theorem dX4_findRide_94 : decode cX4_findRide 94 = .ok (.invokevirtual 119, 3) := by decide +kernel
theorem dX4_findRide_97 : decode cX4_findRide 97 = .ok (.iconst 1, 1) := by decide +kernel
theorem dX4_findRide_98 : decode cX4_findRide 98 = .ok (.ireturn, 1) := by decide +kernel
theorem dX4_findRide_99 : decode cX4_findRide 99 = .ok (.iinc 9 1, 3) := by decide +kernel
theorem dX4_findRide_102 : decode cX4_findRide 102 = .ok (.goto (-78), 3) := by decide +kernel
theorem dX4_findRide_105 : decode cX4_findRide 105 = .ok (.iinc 7 1, 3) := by decide +kernel
theorem dX4_findRide_108 : decode cX4_findRide 108 = .ok (.goto (-105), 3) := by decide +kernel
theorem dX4_findRide_111 : decode cX4_findRide 111 = .ok (.iconst 0, 1) := by decide +kernel
theorem dX4_findRide_112 : decode cX4_findRide 112 = .ok (.ireturn, 1) := by decide +kernel
theorem dX4_findAshore_0 : decode cX4_findAshore 0 = .ok (.iload_n 3, 1) := by decide +kernel
theorem dX4_findAshore_1 : decode cX4_findAshore 1 = .ok (.iconst 1, 1) := by decide +kernel
theorem dX4_findAshore_2 : decode cX4_findAshore 2 = .ok (.iadd, 1) := by decide +kernel
theorem dX4_findAshore_3 : decode cX4_findAshore 3 = .ok (.istore 7, 2) := by decide +kernel
theorem dX4_findAshore_5 : decode cX4_findAshore 5 = .ok (.iload 7, 2) := by decide +kernel
theorem dX4_findAshore_7 : decode cX4_findAshore 7 = .ok (.aload_n 1, 1) := by decide +kernel
theorem dX4_findAshore_8 : decode cX4_findAshore 8 = .ok (.getfield 69, 3) := by decide +kernel
theorem dX4_findAshore_11 : decode cX4_findAshore 11 = .ok (.if_icmp .gt 44, 3) := by decide +kernel
theorem dX4_findAshore_14 : decode cX4_findAshore 14 = .ok (.aload_n 0, 1) := by decide +kernel
theorem dX4_findAshore_15 : decode cX4_findAshore 15 = .ok (.iload 4, 2) := by decide +kernel
theorem dX4_findAshore_17 : decode cX4_findAshore 17 = .ok (.aload_n 1, 1) := by decide +kernel
theorem dX4_findAshore_18 : decode cX4_findAshore 18 = .ok (.getfield 90, 3) := by decide +kernel
theorem dX4_findAshore_21 : decode cX4_findAshore 21 = .ok (.iload 7, 2) := by decide +kernel
theorem dX4_findAshore_23 : decode cX4_findAshore 23 = .ok (.iaload, 1) := by decide +kernel
theorem dX4_findAshore_24 : decode cX4_findAshore 24 = .ok (.aload_n 0, 1) := by decide +kernel
theorem dX4_findAshore_25 : decode cX4_findAshore 25 = .ok (.getfield 9, 3) := by decide +kernel
theorem dX4_findAshore_28 : decode cX4_findAshore 28 = .ok (.iload_n 2, 1) := by decide +kernel
theorem dX4_findAshore_29 : decode cX4_findAshore 29 = .ok (.bipush 7, 2) := by decide +kernel
theorem dX4_findAshore_31 : decode cX4_findAshore 31 = .ok (.imul, 1) := by decide +kernel
theorem dX4_findAshore_32 : decode cX4_findAshore 32 = .ok (.iload 7, 2) := by decide +kernel
theorem dX4_findAshore_34 : decode cX4_findAshore 34 = .ok (.iadd, 1) := by decide +kernel
theorem dX4_findAshore_35 : decode cX4_findAshore 35 = .ok (.iaload, 1) := by decide +kernel
theorem dX4_findAshore_36 : decode cX4_findAshore 36 = .ok (.iload 5, 2) := by decide +kernel
theorem dX4_findAshore_38 : decode cX4_findAshore 38 = .ok (.iload 6, 2) := by decide +kernel
theorem dX4_findAshore_40 : decode cX4_findAshore 40 = .ok (.invokevirtual 103, 3) := by decide +kernel
theorem dX4_findAshore_43 : decode cX4_findAshore 43 = .ok (.ifCond .eq 6, 3) := by decide +kernel
theorem dX4_findAshore_46 : decode cX4_findAshore 46 = .ok (.iload 7, 2) := by decide +kernel
theorem dX4_findAshore_48 : decode cX4_findAshore 48 = .ok (.ireturn, 1) := by decide +kernel
theorem dX4_findAshore_49 : decode cX4_findAshore 49 = .ok (.iinc 7 1, 3) := by decide +kernel
theorem dX4_findAshore_52 : decode cX4_findAshore 52 = .ok (.goto (-47), 3) := by decide +kernel
theorem dX4_findAshore_55 : decode cX4_findAshore 55 = .ok (.iconst (-1), 1) := by decide +kernel
theorem dX4_findAshore_56 : decode cX4_findAshore 56 = .ok (.ireturn, 1) := by decide +kernel
theorem dX4_noteRide_0 : decode cX4_noteRide 0 = .ok (.aload_n 0, 1) := by decide +kernel
theorem dX4_noteRide_1 : decode cX4_noteRide 1 = .ok (.getfield 24, 3) := by decide +kernel
theorem dX4_noteRide_4 : decode cX4_noteRide 4 = .ok (.aload_n 0, 1) := by decide +kernel
theorem dX4_noteRide_5 : decode cX4_noteRide 5 = .ok (.getfield 31, 3) := by decide +kernel
theorem dX4_noteRide_8 : decode cX4_noteRide 8 = .ok (.iconst 3, 1) := by decide +kernel
theorem dX4_noteRide_9 : decode cX4_noteRide 9 = .ok (.imul, 1) := by decide +kernel
theorem dX4_noteRide_10 : decode cX4_noteRide 10 = .ok (.iload_n 1, 1) := by decide +kernel
theorem dX4_noteRide_11 : decode cX4_noteRide 11 = .ok (.iastore, 1) := by decide +kernel
theorem dX4_noteRide_12 : decode cX4_noteRide 12 = .ok (.aload_n 0, 1) := by decide +kernel
theorem dX4_noteRide_13 : decode cX4_noteRide 13 = .ok (.getfield 24, 3) := by decide +kernel
theorem dX4_noteRide_16 : decode cX4_noteRide 16 = .ok (.aload_n 0, 1) := by decide +kernel
theorem dX4_noteRide_17 : decode cX4_noteRide 17 = .ok (.getfield 31, 3) := by decide +kernel
theorem dX4_noteRide_20 : decode cX4_noteRide 20 = .ok (.iconst 3, 1) := by decide +kernel
theorem dX4_noteRide_21 : decode cX4_noteRide 21 = .ok (.imul, 1) := by decide +kernel
theorem dX4_noteRide_22 : decode cX4_noteRide 22 = .ok (.iconst 1, 1) := by decide +kernel
theorem dX4_noteRide_23 : decode cX4_noteRide 23 = .ok (.iadd, 1) := by decide +kernel
theorem dX4_noteRide_24 : decode cX4_noteRide 24 = .ok (.iload_n 2, 1) := by decide +kernel
theorem dX4_noteRide_25 : decode cX4_noteRide 25 = .ok (.iastore, 1) := by decide +kernel
theorem dX4_noteRide_26 : decode cX4_noteRide 26 = .ok (.aload_n 0, 1) := by decide +kernel
theorem dX4_noteRide_27 : decode cX4_noteRide 27 = .ok (.getfield 24, 3) := by decide +kernel
theorem dX4_noteRide_30 : decode cX4_noteRide 30 = .ok (.aload_n 0, 1) := by decide +kernel
theorem dX4_noteRide_31 : decode cX4_noteRide 31 = .ok (.getfield 31, 3) := by decide +kernel
theorem dX4_noteRide_34 : decode cX4_noteRide 34 = .ok (.iconst 3, 1) := by decide +kernel
theorem dX4_noteRide_35 : decode cX4_noteRide 35 = .ok (.imul, 1) := by decide +kernel
theorem dX4_noteRide_36 : decode cX4_noteRide 36 = .ok (.iconst 2, 1) := by decide +kernel
theorem dX4_noteRide_37 : decode cX4_noteRide 37 = .ok (.iadd, 1) := by decide +kernel
theorem dX4_noteRide_38 : decode cX4_noteRide 38 = .ok (.iload_n 3, 1) := by decide +kernel
theorem dX4_noteRide_39 : decode cX4_noteRide 39 = .ok (.iastore, 1) := by decide +kernel
theorem dX4_noteRide_40 : decode cX4_noteRide 40 = .ok (.return_, 1) := by decide +kernel
theorem dX5_init_0 : decode cX5_init 0 = .ok (.aload_n 0, 1) := by decide +kernel
theorem dX5_init_1 : decode cX5_init 1 = .ok (.invokespecial 3, 3) := by decide +kernel
theorem dX5_init_4 : decode cX5_init 4 = .ok (.aload_n 0, 1) := by decide +kernel
theorem dX5_init_5 : decode cX5_init 5 = .ok (.iconst 0, 1) := by decide +kernel
theorem dX5_init_6 : decode cX5_init 6 = .ok (.putfield 9, 3) := by decide +kernel
theorem dX5_init_9 : decode cX5_init 9 = .ok (.aload_n 0, 1) := by decide +kernel
theorem dX5_init_10 : decode cX5_init 10 = .ok (.iconst (-1), 1) := by decide +kernel
theorem dX5_init_11 : decode cX5_init 11 = .ok (.putfield 15, 3) := by decide +kernel
theorem dX5_init_14 : decode cX5_init 14 = .ok (.return_, 1) := by decide +kernel
theorem dX5_read_0 : decode cX5_read 0 = .ok (.aload_n 0, 1) := by decide +kernel
theorem dX5_read_1 : decode cX5_read 1 = .ok (.aload_n 1, 1) := by decide +kernel
theorem dX5_read_2 : decode cX5_read 2 = .ok (.putfield 18, 3) := by decide +kernel
theorem dX5_read_5 : decode cX5_read 5 = .ok (.aload_n 0, 1) := by decide +kernel
theorem dX5_read_6 : decode cX5_read 6 = .ok (.iload_n 2, 1) := by decide +kernel
theorem dX5_read_7 : decode cX5_read 7 = .ok (.aload_n 1, 1) := by decide +kernel
theorem dX5_read_8 : decode cX5_read 8 = .ok (.arraylength, 1) := by decide +kernel
theorem dX5_read_9 : decode cX5_read 9 = .ok (.invokestatic 22, 3) := by decide +kernel
theorem dX5_read_12 : decode cX5_read 12 = .ok (.putfield 28, 3) := by decide +kernel
theorem dX5_read_15 : decode cX5_read 15 = .ok (.aload_n 0, 1) := by decide +kernel
theorem dX5_read_16 : decode cX5_read 16 = .ok (.iconst 0, 1) := by decide +kernel
theorem dX5_read_17 : decode cX5_read 17 = .ok (.putfield 31, 3) := by decide +kernel
theorem dX5_read_20 : decode cX5_read 20 = .ok (.aload_n 0, 1) := by decide +kernel
theorem dX5_read_21 : decode cX5_read 21 = .ok (.aload_n 3, 1) := by decide +kernel
theorem dX5_read_22 : decode cX5_read 22 = .ok (.putfield 34, 3) := by decide +kernel
theorem dX5_read_25 : decode cX5_read 25 = .ok (.aload_n 0, 1) := by decide +kernel
theorem dX5_read_26 : decode cX5_read 26 = .ok (.getfield 34, 3) := by decide +kernel
theorem dX5_read_29 : decode cX5_read 29 = .ok (.invokevirtual 38, 3) := by decide +kernel
theorem dX5_read_32 : decode cX5_read 32 = .ok (.aload_n 0, 1) := by decide +kernel
theorem dX5_read_33 : decode cX5_read 33 = .ok (.iconst 0, 1) := by decide +kernel
theorem dX5_read_34 : decode cX5_read 34 = .ok (.putfield 9, 3) := by decide +kernel
theorem dX5_read_37 : decode cX5_read 37 = .ok (.aload_n 0, 1) := by decide +kernel
theorem dX5_read_38 : decode cX5_read 38 = .ok (.iconst (-1), 1) := by decide +kernel
theorem dX5_read_39 : decode cX5_read 39 = .ok (.putfield 15, 3) := by decide +kernel
theorem dX5_read_42 : decode cX5_read 42 = .ok (.aload_n 0, 1) := by decide +kernel
theorem dX5_read_43 : decode cX5_read 43 = .ok (.getfield 28, 3) := by decide +kernel
theorem dX5_read_46 : decode cX5_read 46 = .ok (.ifCond .le 7, 3) := by decide +kernel
theorem dX5_read_49 : decode cX5_read 49 = .ok (.iconst 1, 1) := by decide +kernel
theorem dX5_read_50 : decode cX5_read 50 = .ok (.goto 4, 3) := by decide +kernel
theorem dX5_read_53 : decode cX5_read 53 = .ok (.iconst 0, 1) := by decide +kernel
theorem dX5_read_54 : decode cX5_read 54 = .ok (.istore 4, 2) := by decide +kernel
theorem dX5_read_56 : decode cX5_read 56 = .ok (.iconst 0, 1) := by decide +kernel
theorem dX5_read_57 : decode cX5_read 57 = .ok (.istore 5, 2) := by decide +kernel
theorem dX5_read_59 : decode cX5_read 59 = .ok (.iload 5, 2) := by decide +kernel
theorem dX5_read_61 : decode cX5_read 61 = .ok (.bipush 12, 2) := by decide +kernel
theorem dX5_read_63 : decode cX5_read 63 = .ok (.if_icmp .gt 56, 3) := by decide +kernel
theorem dX5_read_66 : decode cX5_read 66 = .ok (.iload 4, 2) := by decide +kernel
theorem dX5_read_68 : decode cX5_read 68 = .ok (.ifCond .eq 51, 3) := by decide +kernel
theorem dX5_read_71 : decode cX5_read 71 = .ok (.aload_n 0, 1) := by decide +kernel
theorem dX5_read_72 : decode cX5_read 72 = .ok (.iload 5, 2) := by decide +kernel
theorem dX5_read_74 : decode cX5_read 74 = .ok (.invokevirtual 43, 3) := by decide +kernel
theorem dX5_read_77 : decode cX5_read 77 = .ok (.ifCond .ne 5, 3) := by decide +kernel
theorem dX5_read_80 : decode cX5_read 80 = .ok (.iconst 0, 1) := by decide +kernel
theorem dX5_read_81 : decode cX5_read 81 = .ok (.ireturn, 1) := by decide +kernel
theorem dX5_read_82 : decode cX5_read 82 = .ok (.aload_n 0, 1) := by decide +kernel
theorem dX5_read_83 : decode cX5_read 83 = .ok (.invokevirtual 47, 3) := by decide +kernel
theorem dX5_read_86 : decode cX5_read 86 = .ok (.iconst (-1), 1) := by decide +kernel
theorem dX5_read_87 : decode cX5_read 87 = .ok (.if_icmp .eq 7, 3) := by decide +kernel
theorem dX5_read_90 : decode cX5_read 90 = .ok (.iconst 1, 1) := by decide +kernel
theorem dX5_read_91 : decode cX5_read 91 = .ok (.goto 4, 3) := by decide +kernel
theorem dX5_read_94 : decode cX5_read 94 = .ok (.iconst 0, 1) := by decide +kernel
theorem dX5_read_95 : decode cX5_read 95 = .ok (.istore 4, 2) := by decide +kernel
theorem dX5_read_97 : decode cX5_read 97 = .ok (.iload 4, 2) := by decide +kernel
theorem dX5_read_99 : decode cX5_read 99 = .ok (.ifCond .eq 14, 3) := by decide +kernel
theorem dX5_read_102 : decode cX5_read 102 = .ok (.aload_n 0, 1) := by decide +kernel
theorem dX5_read_103 : decode cX5_read 103 = .ok (.bipush 59, 2) := by decide +kernel
theorem dX5_read_105 : decode cX5_read 105 = .ok (.invokevirtual 51, 3) := by decide +kernel
theorem dX5_read_108 : decode cX5_read 108 = .ok (.ifCond .ne 5, 3) := by decide +kernel
theorem dX5_read_111 : decode cX5_read 111 = .ok (.iconst 0, 1) := by decide +kernel
theorem dX5_read_112 : decode cX5_read 112 = .ok (.ireturn, 1) := by decide +kernel
theorem dX5_read_113 : decode cX5_read 113 = .ok (.iinc 5 1, 3) := by decide +kernel
theorem dX5_read_116 : decode cX5_read 116 = .ok (.goto (-57), 3) := by decide +kernel
theorem dX5_read_119 : decode cX5_read 119 = .ok (.iconst 1, 1) := by decide +kernel
theorem dX5_read_120 : decode cX5_read 120 = .ok (.ireturn, 1) := by decide +kernel
theorem dX5_readClause_0 : decode cX5_readClause 0 = .ok (.aload_n 0, 1) := by decide +kernel
theorem dX5_readClause_1 : decode cX5_readClause 1 = .ok (.invokevirtual 47, 3) := by decide +kernel
theorem dX5_readClause_4 : decode cX5_readClause 4 = .ok (.istore_n 2, 1) := by decide +kernel
theorem dX5_readClause_5 : decode cX5_readClause 5 = .ok (.iload_n 2, 1) := by decide +kernel
theorem dX5_readClause_6 : decode cX5_readClause 6 = .ok (.bipush 87, 2) := by decide +kernel
theorem dX5_readClause_8 : decode cX5_readClause 8 = .ok (.if_icmp .eq 21, 3) := by decide +kernel
theorem dX5_readClause_11 : decode cX5_readClause 11 = .ok (.iload_n 2, 1) := by decide +kernel
theorem dX5_readClause_12 : decode cX5_readClause 12 = .ok (.bipush 88, 2) := by decide +kernel
theorem dX5_readClause_14 : decode cX5_readClause 14 = .ok (.if_icmp .eq 15, 3) := by decide +kernel
theorem dX5_readClause_17 : decode cX5_readClause 17 = .ok (.iload_n 2, 1) := by decide +kernel
theorem dX5_readClause_18 : decode cX5_readClause 18 = .ok (.bipush 80, 2) := by decide +kernel
theorem dX5_readClause_20 : decode cX5_readClause 20 = .ok (.if_icmp .eq 9, 3) := by decide +kernel
theorem dX5_readClause_23 : decode cX5_readClause 23 = .ok (.aload_n 0, 1) := by decide +kernel
theorem dX5_readClause_24 : decode cX5_readClause 24 = .ok (.iconst 1, 1) := by decide +kernel
theorem dX5_readClause_25 : decode cX5_readClause 25 = .ok (.invokevirtual 54, 3) := by decide +kernel
theorem dX5_readClause_28 : decode cX5_readClause 28 = .ok (.ireturn, 1) := by decide +kernel
theorem dX5_readClause_29 : decode cX5_readClause 29 = .ok (.iload_n 1, 1) := by decide +kernel
theorem dX5_readClause_30 : decode cX5_readClause 30 = .ok (.bipush 12, 2) := by decide +kernel
theorem dX5_readClause_32 : decode cX5_readClause 32 = .ok (.if_icmp .lt 9, 3) := by decide +kernel
theorem dX5_readClause_35 : decode cX5_readClause 35 = .ok (.aload_n 0, 1) := by decide +kernel
theorem dX5_readClause_36 : decode cX5_readClause 36 = .ok (.iconst 2, 1) := by decide +kernel
theorem dX5_readClause_37 : decode cX5_readClause 37 = .ok (.invokevirtual 54, 3) := by decide +kernel
theorem dX5_readClause_40 : decode cX5_readClause 40 = .ok (.ireturn, 1) := by decide +kernel
theorem dX5_readClause_41 : decode cX5_readClause 41 = .ok (.aload_n 0, 1) := by decide +kernel
theorem dX5_readClause_42 : decode cX5_readClause 42 = .ok (.dup, 1) := by decide +kernel
theorem dX5_readClause_43 : decode cX5_readClause 43 = .ok (.getfield 31, 3) := by decide +kernel
theorem dX5_readClause_46 : decode cX5_readClause 46 = .ok (.iconst 1, 1) := by decide +kernel
theorem dX5_readClause_47 : decode cX5_readClause 47 = .ok (.iadd, 1) := by decide +kernel
theorem dX5_readClause_48 : decode cX5_readClause 48 = .ok (.putfield 31, 3) := by decide +kernel
theorem dX5_readClause_51 : decode cX5_readClause 51 = .ok (.aload_n 0, 1) := by decide +kernel
theorem dX5_readClause_52 : decode cX5_readClause 52 = .ok (.iconst 0, 1) := by decide +kernel
theorem dX5_readClause_53 : decode cX5_readClause 53 = .ok (.putfield 57, 3) := by decide +kernel
theorem dX5_readClause_56 : decode cX5_readClause 56 = .ok (.iload_n 2, 1) := by decide +kernel
theorem dX5_readClause_57 : decode cX5_readClause 57 = .ok (.bipush 88, 2) := by decide +kernel
theorem dX5_readClause_59 : decode cX5_readClause 59 = .ok (.if_icmp .eq 13, 3) := by decide +kernel
theorem dX5_readClause_62 : decode cX5_readClause 62 = .ok (.aload_n 0, 1) := by decide +kernel
theorem dX5_readClause_63 : decode cX5_readClause 63 = .ok (.iconst 0, 1) := by decide +kernel
theorem dX5_readClause_64 : decode cX5_readClause 64 = .ok (.invokevirtual 60, 3) := by decide +kernel
theorem dX5_readClause_67 : decode cX5_readClause 67 = .ok (.ifCond .ne 5, 3) := by decide +kernel
theorem dX5_readClause_70 : decode cX5_readClause 70 = .ok (.iconst 0, 1) := by decide +kernel
theorem dX5_readClause_71 : decode cX5_readClause 71 = .ok (.ireturn, 1) := by decide +kernel
theorem dX5_readClause_72 : decode cX5_readClause 72 = .ok (.aload_n 0, 1) := by decide +kernel
theorem dX5_readClause_73 : decode cX5_readClause 73 = .ok (.getfield 57, 3) := by decide +kernel
theorem dX5_readClause_76 : decode cX5_readClause 76 = .ok (.istore_n 3, 1) := by decide +kernel
theorem dX5_readClause_77 : decode cX5_readClause 77 = .ok (.iload_n 2, 1) := by decide +kernel
theorem dX5_readClause_78 : decode cX5_readClause 78 = .ok (.bipush 80, 2) := by decide +kernel
theorem dX5_readClause_80 : decode cX5_readClause 80 = .ok (.if_icmp .eq 22, 3) := by decide +kernel
theorem dX5_readClause_83 : decode cX5_readClause 83 = .ok (.aload_n 0, 1) := by decide +kernel
theorem dX5_readClause_84 : decode cX5_readClause 84 = .ok (.bipush 58, 2) := by decide +kernel
theorem dX5_readClause_86 : decode cX5_readClause 86 = .ok (.invokevirtual 51, 3) := by decide +kernel
theorem dX5_readClause_89 : decode cX5_readClause 89 = .ok (.ifCond .eq 11, 3) := by decide +kernel
theorem dX5_readClause_92 : decode cX5_readClause 92 = .ok (.aload_n 0, 1) := by decide +kernel
theorem dX5_readClause_93 : decode cX5_readClause 93 = .ok (.iconst 0, 1) := by decide +kernel
theorem dX5_readClause_94 : decode cX5_readClause 94 = .ok (.invokevirtual 64, 3) := by decide +kernel
theorem dX5_readClause_97 : decode cX5_readClause 97 = .ok (.ifCond .ne 5, 3) := by decide +kernel
theorem dX5_readClause_100 : decode cX5_readClause 100 = .ok (.iconst 0, 1) := by decide +kernel
theorem dX5_readClause_101 : decode cX5_readClause 101 = .ok (.ireturn, 1) := by decide +kernel
theorem dX5_readClause_102 : decode cX5_readClause 102 = .ok (.aload_n 0, 1) := by decide +kernel
theorem dX5_readClause_103 : decode cX5_readClause 103 = .ok (.getfield 34, 3) := by decide +kernel
theorem dX5_readClause_106 : decode cX5_readClause 106 = .ok (.iload_n 2, 1) := by decide +kernel
theorem dX5_readClause_107 : decode cX5_readClause 107 = .ok (.iload_n 3, 1) := by decide +kernel
theorem dX5_readClause_108 : decode cX5_readClause 108 = .ok (.invokevirtual 67, 3) := by decide +kernel
theorem dX5_readClause_111 : decode cX5_readClause 111 = .ok (.iconst 1, 1) := by decide +kernel
theorem dX5_readClause_112 : decode cX5_readClause 112 = .ok (.ireturn, 1) := by decide +kernel
theorem dX5_readTest_0 : decode cX5_readTest 0 = .ok (.aload_n 0, 1) := by decide +kernel
theorem dX5_readTest_1 : decode cX5_readTest 1 = .ok (.iload_n 1, 1) := by decide +kernel
theorem dX5_readTest_2 : decode cX5_readTest 2 = .ok (.invokevirtual 71, 3) := by decide +kernel
theorem dX5_readTest_5 : decode cX5_readTest 5 = .ok (.ifCond .ne 5, 3) := by decide +kernel
theorem dX5_readTest_8 : decode cX5_readTest 8 = .ok (.iconst 0, 1) := by decide +kernel
theorem dX5_readTest_9 : decode cX5_readTest 9 = .ok (.ireturn, 1) := by decide +kernel
theorem dX5_readTest_10 : decode cX5_readTest 10 = .ok (.iconst 0, 1) := by decide +kernel
theorem dX5_readTest_11 : decode cX5_readTest 11 = .ok (.istore_n 2, 1) := by decide +kernel
theorem dX5_readTest_12 : decode cX5_readTest 12 = .ok (.iload_n 2, 1) := by decide +kernel
theorem dX5_readTest_13 : decode cX5_readTest 13 = .ok (.sipush 200, 3) := by decide +kernel
theorem dX5_readTest_16 : decode cX5_readTest 16 = .ok (.if_icmp .ge 49, 3) := by decide +kernel
theorem dX5_readTest_19 : decode cX5_readTest 19 = .ok (.aload_n 0, 1) := by decide +kernel
theorem dX5_readTest_20 : decode cX5_readTest 20 = .ok (.invokevirtual 47, 3) := by decide +kernel
theorem dX5_readTest_23 : decode cX5_readTest 23 = .ok (.bipush 124, 2) := by decide +kernel
theorem dX5_readTest_25 : decode cX5_readTest 25 = .ok (.if_icmp .ne 40, 3) := by decide +kernel
theorem dX5_readTest_28 : decode cX5_readTest 28 = .ok (.aload_n 0, 1) := by decide +kernel
theorem dX5_readTest_29 : decode cX5_readTest 29 = .ok (.dup, 1) := by decide +kernel
theorem dX5_readTest_30 : decode cX5_readTest 30 = .ok (.getfield 31, 3) := by decide +kernel
theorem dX5_readTest_33 : decode cX5_readTest 33 = .ok (.iconst 1, 1) := by decide +kernel
theorem dX5_readTest_34 : decode cX5_readTest 34 = .ok (.iadd, 1) := by decide +kernel
theorem dX5_readTest_35 : decode cX5_readTest 35 = .ok (.putfield 31, 3) := by decide +kernel
theorem dX5_readTest_38 : decode cX5_readTest 38 = .ok (.aload_n 0, 1) := by decide +kernel
theorem dX5_readTest_39 : decode cX5_readTest 39 = .ok (.iload_n 1, 1) := by decide +kernel
theorem dX5_readTest_40 : decode cX5_readTest 40 = .ok (.invokevirtual 71, 3) := by decide +kernel
theorem dX5_readTest_43 : decode cX5_readTest 43 = .ok (.ifCond .ne 5, 3) := by decide +kernel
theorem dX5_readTest_46 : decode cX5_readTest 46 = .ok (.iconst 0, 1) := by decide +kernel
theorem dX5_readTest_47 : decode cX5_readTest 47 = .ok (.ireturn, 1) := by decide +kernel
theorem dX5_readTest_48 : decode cX5_readTest 48 = .ok (.aload_n 0, 1) := by decide +kernel
theorem dX5_readTest_49 : decode cX5_readTest 49 = .ok (.getfield 34, 3) := by decide +kernel
theorem dX5_readTest_52 : decode cX5_readTest 52 = .ok (.bipush 124, 2) := by decide +kernel
theorem dX5_readTest_54 : decode cX5_readTest 54 = .ok (.iconst 0, 1) := by decide +kernel
theorem dX5_readTest_55 : decode cX5_readTest 55 = .ok (.iconst 0, 1) := by decide +kernel
theorem dX5_readTest_56 : decode cX5_readTest 56 = .ok (.invokevirtual 74, 3) := by decide +kernel
theorem dX5_readTest_59 : decode cX5_readTest 59 = .ok (.iinc 2 1, 3) := by decide +kernel
theorem dX5_readTest_62 : decode cX5_readTest 62 = .ok (.goto (-50), 3) := by decide +kernel
theorem dX5_readTest_65 : decode cX5_readTest 65 = .ok (.iconst 1, 1) := by decide +kernel
theorem dX5_readTest_66 : decode cX5_readTest 66 = .ok (.ireturn, 1) := by decide +kernel
theorem dX5_readTerm_0 : decode cX5_readTerm 0 = .ok (.aload_n 0, 1) := by decide +kernel
theorem dX5_readTerm_1 : decode cX5_readTerm 1 = .ok (.iload_n 1, 1) := by decide +kernel
theorem dX5_readTerm_2 : decode cX5_readTerm 2 = .ok (.invokevirtual 78, 3) := by decide +kernel
theorem dX5_readTerm_5 : decode cX5_readTerm 5 = .ok (.ifCond .ne 5, 3) := by decide +kernel
theorem dX5_readTerm_8 : decode cX5_readTerm 8 = .ok (.iconst 0, 1) := by decide +kernel
theorem dX5_readTerm_9 : decode cX5_readTerm 9 = .ok (.ireturn, 1) := by decide +kernel
theorem dX5_readTerm_10 : decode cX5_readTerm 10 = .ok (.iconst 0, 1) := by decide +kernel
theorem dX5_readTerm_11 : decode cX5_readTerm 11 = .ok (.istore_n 2, 1) := by decide +kernel
theorem dX5_readTerm_12 : decode cX5_readTerm 12 = .ok (.iload_n 2, 1) := by decide +kernel
theorem dX5_readTerm_13 : decode cX5_readTerm 13 = .ok (.sipush 200, 3) := by decide +kernel
theorem dX5_readTerm_16 : decode cX5_readTerm 16 = .ok (.if_icmp .ge 49, 3) := by decide +kernel
theorem dX5_readTerm_19 : decode cX5_readTerm 19 = .ok (.aload_n 0, 1) := by decide +kernel
theorem dX5_readTerm_20 : decode cX5_readTerm 20 = .ok (.invokevirtual 47, 3) := by decide +kernel
theorem dX5_readTerm_23 : decode cX5_readTerm 23 = .ok (.bipush 38, 2) := by decide +kernel
theorem dX5_readTerm_25 : decode cX5_readTerm 25 = .ok (.if_icmp .ne 40, 3) := by decide +kernel
theorem dX5_readTerm_28 : decode cX5_readTerm 28 = .ok (.aload_n 0, 1) := by decide +kernel
theorem dX5_readTerm_29 : decode cX5_readTerm 29 = .ok (.dup, 1) := by decide +kernel
theorem dX5_readTerm_30 : decode cX5_readTerm 30 = .ok (.getfield 31, 3) := by decide +kernel
theorem dX5_readTerm_33 : decode cX5_readTerm 33 = .ok (.iconst 1, 1) := by decide +kernel
theorem dX5_readTerm_34 : decode cX5_readTerm 34 = .ok (.iadd, 1) := by decide +kernel
theorem dX5_readTerm_35 : decode cX5_readTerm 35 = .ok (.putfield 31, 3) := by decide +kernel
theorem dX5_readTerm_38 : decode cX5_readTerm 38 = .ok (.aload_n 0, 1) := by decide +kernel
theorem dX5_readTerm_39 : decode cX5_readTerm 39 = .ok (.iload_n 1, 1) := by decide +kernel
theorem dX5_readTerm_40 : decode cX5_readTerm 40 = .ok (.invokevirtual 78, 3) := by decide +kernel
theorem dX5_readTerm_43 : decode cX5_readTerm 43 = .ok (.ifCond .ne 5, 3) := by decide +kernel
theorem dX5_readTerm_46 : decode cX5_readTerm 46 = .ok (.iconst 0, 1) := by decide +kernel
theorem dX5_readTerm_47 : decode cX5_readTerm 47 = .ok (.ireturn, 1) := by decide +kernel
theorem dX5_readTerm_48 : decode cX5_readTerm 48 = .ok (.aload_n 0, 1) := by decide +kernel
theorem dX5_readTerm_49 : decode cX5_readTerm 49 = .ok (.getfield 34, 3) := by decide +kernel
theorem dX5_readTerm_52 : decode cX5_readTerm 52 = .ok (.bipush 38, 2) := by decide +kernel
theorem dX5_readTerm_54 : decode cX5_readTerm 54 = .ok (.iconst 0, 1) := by decide +kernel
theorem dX5_readTerm_55 : decode cX5_readTerm 55 = .ok (.iconst 0, 1) := by decide +kernel
theorem dX5_readTerm_56 : decode cX5_readTerm 56 = .ok (.invokevirtual 74, 3) := by decide +kernel
theorem dX5_readTerm_59 : decode cX5_readTerm 59 = .ok (.iinc 2 1, 3) := by decide +kernel
theorem dX5_readTerm_62 : decode cX5_readTerm 62 = .ok (.goto (-50), 3) := by decide +kernel
theorem dX5_readTerm_65 : decode cX5_readTerm 65 = .ok (.iconst 1, 1) := by decide +kernel
theorem dX5_readTerm_66 : decode cX5_readTerm 66 = .ok (.ireturn, 1) := by decide +kernel
theorem dX5_readFactor_0 : decode cX5_readFactor 0 = .ok (.aload_n 0, 1) := by decide +kernel
theorem dX5_readFactor_1 : decode cX5_readFactor 1 = .ok (.invokevirtual 47, 3) := by decide +kernel
theorem dX5_readFactor_4 : decode cX5_readFactor 4 = .ok (.istore_n 2, 1) := by decide +kernel
theorem dX5_readFactor_5 : decode cX5_readFactor 5 = .ok (.iload_n 2, 1) := by decide +kernel
theorem dX5_readFactor_6 : decode cX5_readFactor 6 = .ok (.bipush 33, 2) := by decide +kernel
theorem dX5_readFactor_8 : decode cX5_readFactor 8 = .ok (.if_icmp .eq 54, 3) := by decide +kernel
theorem dX5_readFactor_11 : decode cX5_readFactor 11 = .ok (.iload_n 2, 1) := by decide +kernel
theorem dX5_readFactor_12 : decode cX5_readFactor 12 = .ok (.bipush 40, 2) := by decide +kernel
theorem dX5_readFactor_14 : decode cX5_readFactor 14 = .ok (.if_icmp .eq 48, 3) := by decide +kernel
theorem dX5_readFactor_17 : decode cX5_readFactor 17 = .ok (.aload_n 0, 1) := by decide +kernel
theorem dX5_readFactor_18 : decode cX5_readFactor 18 = .ok (.invokevirtual 81, 3) := by decide +kernel
theorem dX5_readFactor_21 : decode cX5_readFactor 21 = .ok (.ifCond .eq 18, 3) := by decide +kernel
theorem dX5_readFactor_24 : decode cX5_readFactor 24 = .ok (.aload_n 0, 1) := by decide +kernel
theorem dX5_readFactor_25 : decode cX5_readFactor 25 = .ok (.invokevirtual 85, 3) := by decide +kernel
theorem dX5_readFactor_28 : decode cX5_readFactor 28 = .ok (.ifCond .eq 11, 3) := by decide +kernel
theorem dX5_readFactor_31 : decode cX5_readFactor 31 = .ok (.aload_n 0, 1) := by decide +kernel
theorem dX5_readFactor_32 : decode cX5_readFactor 32 = .ok (.iconst 1, 1) := by decide +kernel
theorem dX5_readFactor_33 : decode cX5_readFactor 33 = .ok (.invokevirtual 60, 3) := by decide +kernel
theorem dX5_readFactor_36 : decode cX5_readFactor 36 = .ok (.ifCond .ne 5, 3) := by decide +kernel
theorem dX5_readFactor_39 : decode cX5_readFactor 39 = .ok (.iconst 0, 1) := by decide +kernel
theorem dX5_readFactor_40 : decode cX5_readFactor 40 = .ok (.ireturn, 1) := by decide +kernel
theorem dX5_readFactor_41 : decode cX5_readFactor 41 = .ok (.aload_n 0, 1) := by decide +kernel
theorem dX5_readFactor_42 : decode cX5_readFactor 42 = .ok (.getfield 34, 3) := by decide +kernel
theorem dX5_readFactor_45 : decode cX5_readFactor 45 = .ok (.aload_n 0, 1) := by decide +kernel
theorem dX5_readFactor_46 : decode cX5_readFactor 46 = .ok (.getfield 88, 3) := by decide +kernel
theorem dX5_readFactor_49 : decode cX5_readFactor 49 = .ok (.aload_n 0, 1) := by decide +kernel
theorem dX5_readFactor_50 : decode cX5_readFactor 50 = .ok (.getfield 91, 3) := by decide +kernel
theorem dX5_readFactor_53 : decode cX5_readFactor 53 = .ok (.aload_n 0, 1) := by decide +kernel
theorem dX5_readFactor_54 : decode cX5_readFactor 54 = .ok (.getfield 57, 3) := by decide +kernel
theorem dX5_readFactor_57 : decode cX5_readFactor 57 = .ok (.invokevirtual 74, 3) := by decide +kernel
theorem dX5_readFactor_60 : decode cX5_readFactor 60 = .ok (.iconst 1, 1) := by decide +kernel
theorem dX5_readFactor_61 : decode cX5_readFactor 61 = .ok (.ireturn, 1) := by decide +kernel
theorem dX5_readFactor_62 : decode cX5_readFactor 62 = .ok (.iload_n 1, 1) := by decide +kernel
theorem dX5_readFactor_63 : decode cX5_readFactor 63 = .ok (.bipush 8, 2) := by decide +kernel
theorem dX5_readFactor_65 : decode cX5_readFactor 65 = .ok (.if_icmp .lt 9, 3) := by decide +kernel
theorem dX5_readFactor_68 : decode cX5_readFactor 68 = .ok (.aload_n 0, 1) := by decide +kernel
theorem dX5_readFactor_69 : decode cX5_readFactor 69 = .ok (.iconst 3, 1) := by decide +kernel
theorem dX5_readFactor_70 : decode cX5_readFactor 70 = .ok (.invokevirtual 54, 3) := by decide +kernel
theorem dX5_readFactor_73 : decode cX5_readFactor 73 = .ok (.ireturn, 1) := by decide +kernel
theorem dX5_readFactor_74 : decode cX5_readFactor 74 = .ok (.aload_n 0, 1) := by decide +kernel
theorem dX5_readFactor_75 : decode cX5_readFactor 75 = .ok (.dup, 1) := by decide +kernel
theorem dX5_readFactor_76 : decode cX5_readFactor 76 = .ok (.getfield 31, 3) := by decide +kernel
theorem dX5_readFactor_79 : decode cX5_readFactor 79 = .ok (.iconst 1, 1) := by decide +kernel
theorem dX5_readFactor_80 : decode cX5_readFactor 80 = .ok (.iadd, 1) := by decide +kernel
theorem dX5_readFactor_81 : decode cX5_readFactor 81 = .ok (.putfield 31, 3) := by decide +kernel
theorem dX5_readFactor_84 : decode cX5_readFactor 84 = .ok (.iload_n 2, 1) := by decide +kernel
theorem dX5_readFactor_85 : decode cX5_readFactor 85 = .ok (.bipush 40, 2) := by decide +kernel
theorem dX5_readFactor_87 : decode cX5_readFactor 87 = .ok (.if_icmp .ne 28, 3) := by decide +kernel
theorem dX5_readFactor_90 : decode cX5_readFactor 90 = .ok (.aload_n 0, 1) := by decide +kernel
theorem dX5_readFactor_91 : decode cX5_readFactor 91 = .ok (.iload_n 1, 1) := by decide +kernel
theorem dX5_readFactor_92 : decode cX5_readFactor 92 = .ok (.iconst 1, 1) := by decide +kernel
theorem dX5_readFactor_93 : decode cX5_readFactor 93 = .ok (.iadd, 1) := by decide +kernel
theorem dX5_readFactor_94 : decode cX5_readFactor 94 = .ok (.invokevirtual 64, 3) := by decide +kernel
theorem dX5_readFactor_97 : decode cX5_readFactor 97 = .ok (.ifCond .eq 16, 3) := by decide +kernel
theorem dX5_readFactor_100 : decode cX5_readFactor 100 = .ok (.aload_n 0, 1) := by decide +kernel
theorem dX5_readFactor_101 : decode cX5_readFactor 101 = .ok (.bipush 41, 2) := by decide +kernel
theorem dX5_readFactor_103 : decode cX5_readFactor 103 = .ok (.invokevirtual 51, 3) := by decide +kernel
theorem dX5_readFactor_106 : decode cX5_readFactor 106 = .ok (.ifCond .eq 7, 3) := by decide +kernel
theorem dX5_readFactor_109 : decode cX5_readFactor 109 = .ok (.iconst 1, 1) := by decide +kernel
theorem dX5_readFactor_110 : decode cX5_readFactor 110 = .ok (.goto 4, 3) := by decide +kernel
theorem dX5_readFactor_113 : decode cX5_readFactor 113 = .ok (.iconst 0, 1) := by decide +kernel
theorem dX5_readFactor_114 : decode cX5_readFactor 114 = .ok (.ireturn, 1) := by decide +kernel
theorem dX5_readFactor_115 : decode cX5_readFactor 115 = .ok (.aload_n 0, 1) := by decide +kernel
theorem dX5_readFactor_116 : decode cX5_readFactor 116 = .ok (.iload_n 1, 1) := by decide +kernel
theorem dX5_readFactor_117 : decode cX5_readFactor 117 = .ok (.iconst 1, 1) := by decide +kernel
theorem dX5_readFactor_118 : decode cX5_readFactor 118 = .ok (.iadd, 1) := by decide +kernel
theorem dX5_readFactor_119 : decode cX5_readFactor 119 = .ok (.invokevirtual 78, 3) := by decide +kernel
theorem dX5_readFactor_122 : decode cX5_readFactor 122 = .ok (.ifCond .ne 5, 3) := by decide +kernel
theorem dX5_readFactor_125 : decode cX5_readFactor 125 = .ok (.iconst 0, 1) := by decide +kernel
theorem dX5_readFactor_126 : decode cX5_readFactor 126 = .ok (.ireturn, 1) := by decide +kernel
theorem dX5_readFactor_127 : decode cX5_readFactor 127 = .ok (.aload_n 0, 1) := by decide +kernel
theorem dX5_readFactor_128 : decode cX5_readFactor 128 = .ok (.getfield 34, 3) := by decide +kernel
theorem dX5_readFactor_131 : decode cX5_readFactor 131 = .ok (.bipush 33, 2) := by decide +kernel
theorem dX5_readFactor_133 : decode cX5_readFactor 133 = .ok (.iconst 0, 1) := by decide +kernel
theorem dX5_readFactor_134 : decode cX5_readFactor 134 = .ok (.iconst 0, 1) := by decide +kernel
theorem dX5_readFactor_135 : decode cX5_readFactor 135 = .ok (.invokevirtual 74, 3) := by decide +kernel
theorem dX5_readFactor_138 : decode cX5_readFactor 138 = .ok (.iconst 1, 1) := by decide +kernel
theorem dX5_readFactor_139 : decode cX5_readFactor 139 = .ok (.ireturn, 1) := by decide +kernel
theorem dX5_readLetter_0 : decode cX5_readLetter 0 = .ok (.aload_n 0, 1) := by decide +kernel
theorem dX5_readLetter_1 : decode cX5_readLetter 1 = .ok (.aload_n 0, 1) := by decide +kernel
theorem dX5_readLetter_2 : decode cX5_readLetter 2 = .ok (.invokevirtual 47, 3) := by decide +kernel
theorem dX5_readLetter_5 : decode cX5_readLetter 5 = .ok (.invokestatic 94, 3) := by decide +kernel
theorem dX5_readLetter_8 : decode cX5_readLetter 8 = .ok (.putfield 91, 3) := by decide +kernel
theorem dX5_readLetter_11 : decode cX5_readLetter 11 = .ok (.aload_n 0, 1) := by decide +kernel
theorem dX5_readLetter_12 : decode cX5_readLetter 12 = .ok (.getfield 91, 3) := by decide +kernel
theorem dX5_readLetter_15 : decode cX5_readLetter 15 = .ok (.iconst (-1), 1) := by decide +kernel
theorem dX5_readLetter_16 : decode cX5_readLetter 16 = .ok (.if_icmp .ne 9, 3) := by decide +kernel
theorem dX5_readLetter_19 : decode cX5_readLetter 19 = .ok (.aload_n 0, 1) := by decide +kernel
theorem dX5_readLetter_20 : decode cX5_readLetter 20 = .ok (.iconst 1, 1) := by decide +kernel
theorem dX5_readLetter_21 : decode cX5_readLetter 21 = .ok (.invokevirtual 54, 3) := by decide +kernel
theorem dX5_readLetter_24 : decode cX5_readLetter 24 = .ok (.ireturn, 1) := by decide +kernel
theorem dX5_readLetter_25 : decode cX5_readLetter 25 = .ok (.aload_n 0, 1) := by decide +kernel
theorem dX5_readLetter_26 : decode cX5_readLetter 26 = .ok (.dup, 1) := by decide +kernel
theorem dX5_readLetter_27 : decode cX5_readLetter 27 = .ok (.getfield 31, 3) := by decide +kernel
theorem dX5_readLetter_30 : decode cX5_readLetter 30 = .ok (.iconst 1, 1) := by decide +kernel
theorem dX5_readLetter_31 : decode cX5_readLetter 31 = .ok (.iadd, 1) := by decide +kernel
theorem dX5_readLetter_32 : decode cX5_readLetter 32 = .ok (.putfield 31, 3) := by decide +kernel
theorem dX5_readLetter_35 : decode cX5_readLetter 35 = .ok (.iconst 1, 1) := by decide +kernel
theorem dX5_readLetter_36 : decode cX5_readLetter 36 = .ok (.ireturn, 1) := by decide +kernel
theorem dX5_readComparison_0 : decode cX5_readComparison 0 = .ok (.aload_n 0, 1) := by decide +kernel
theorem dX5_readComparison_1 : decode cX5_readComparison 1 = .ok (.aload_n 0, 1) := by decide +kernel
theorem dX5_readComparison_2 : decode cX5_readComparison 2 = .ok (.invokevirtual 47, 3) := by decide +kernel
theorem dX5_readComparison_5 : decode cX5_readComparison 5 = .ok (.putfield 88, 3) := by decide +kernel
theorem dX5_readComparison_8 : decode cX5_readComparison 8 = .ok (.aload_n 0, 1) := by decide +kernel
theorem dX5_readComparison_9 : decode cX5_readComparison 9 = .ok (.getfield 88, 3) := by decide +kernel
theorem dX5_readComparison_12 : decode cX5_readComparison 12 = .ok (.invokestatic 98, 3) := by decide +kernel
theorem dX5_readComparison_15 : decode cX5_readComparison 15 = .ok (.ifCond .ne 9, 3) := by decide +kernel
theorem dX5_readComparison_18 : decode cX5_readComparison 18 = .ok (.aload_n 0, 1) := by decide +kernel
theorem dX5_readComparison_19 : decode cX5_readComparison 19 = .ok (.iconst 1, 1) := by decide +kernel
theorem dX5_readComparison_20 : decode cX5_readComparison 20 = .ok (.invokevirtual 54, 3) := by decide +kernel
theorem dX5_readComparison_23 : decode cX5_readComparison 23 = .ok (.ireturn, 1) := by decide +kernel
theorem dX5_readComparison_24 : decode cX5_readComparison 24 = .ok (.aload_n 0, 1) := by decide +kernel
theorem dX5_readComparison_25 : decode cX5_readComparison 25 = .ok (.dup, 1) := by decide +kernel
theorem dX5_readComparison_26 : decode cX5_readComparison 26 = .ok (.getfield 31, 3) := by decide +kernel
theorem dX5_readComparison_29 : decode cX5_readComparison 29 = .ok (.iconst 1, 1) := by decide +kernel
theorem dX5_readComparison_30 : decode cX5_readComparison 30 = .ok (.iadd, 1) := by decide +kernel
theorem dX5_readComparison_31 : decode cX5_readComparison 31 = .ok (.putfield 31, 3) := by decide +kernel
theorem dX5_readComparison_34 : decode cX5_readComparison 34 = .ok (.iconst 1, 1) := by decide +kernel
theorem dX5_readComparison_35 : decode cX5_readComparison 35 = .ok (.ireturn, 1) := by decide +kernel
theorem dX5_readNumber_0 : decode cX5_readNumber 0 = .ok (.iload_n 1, 1) := by decide +kernel
theorem dX5_readNumber_1 : decode cX5_readNumber 1 = .ok (.ifCond .eq 16, 3) := by decide +kernel
theorem dX5_readNumber_4 : decode cX5_readNumber 4 = .ok (.aload_n 0, 1) := by decide +kernel
theorem dX5_readNumber_5 : decode cX5_readNumber 5 = .ok (.invokevirtual 47, 3) := by decide +kernel
theorem dX5_readNumber_8 : decode cX5_readNumber 8 = .ok (.bipush 45, 2) := by decide +kernel
theorem dX5_readNumber_10 : decode cX5_readNumber 10 = .ok (.if_icmp .ne 7, 3) := by decide +kernel
theorem dX5_readNumber_13 : decode cX5_readNumber 13 = .ok (.iconst 1, 1) := by decide +kernel
theorem dX5_readNumber_14 : decode cX5_readNumber 14 = .ok (.goto 4, 3) := by decide +kernel
theorem dX5_readNumber_17 : decode cX5_readNumber 17 = .ok (.iconst 0, 1) := by decide +kernel
theorem dX5_readNumber_18 : decode cX5_readNumber 18 = .ok (.istore_n 2, 1) := by decide +kernel
theorem dX5_readNumber_19 : decode cX5_readNumber 19 = .ok (.iload_n 2, 1) := by decide +kernel
theorem dX5_readNumber_20 : decode cX5_readNumber 20 = .ok (.ifCond .eq 13, 3) := by decide +kernel
theorem dX5_readNumber_23 : decode cX5_readNumber 23 = .ok (.aload_n 0, 1) := by decide +kernel
theorem dX5_readNumber_24 : decode cX5_readNumber 24 = .ok (.dup, 1) := by decide +kernel
theorem dX5_readNumber_25 : decode cX5_readNumber 25 = .ok (.getfield 31, 3) := by decide +kernel
theorem dX5_readNumber_28 : decode cX5_readNumber 28 = .ok (.iconst 1, 1) := by decide +kernel
theorem dX5_readNumber_29 : decode cX5_readNumber 29 = .ok (.iadd, 1) := by decide +kernel
theorem dX5_readNumber_30 : decode cX5_readNumber 30 = .ok (.putfield 31, 3) := by decide +kernel
theorem dX5_readNumber_33 : decode cX5_readNumber 33 = .ok (.aload_n 0, 1) := by decide +kernel
theorem dX5_readNumber_34 : decode cX5_readNumber 34 = .ok (.invokevirtual 47, 3) := by decide +kernel
theorem dX5_readNumber_37 : decode cX5_readNumber 37 = .ok (.invokestatic 101, 3) := by decide +kernel
theorem dX5_readNumber_40 : decode cX5_readNumber 40 = .ok (.ifCond .ne 9, 3) := by decide +kernel
theorem dX5_readNumber_43 : decode cX5_readNumber 43 = .ok (.aload_n 0, 1) := by decide +kernel
theorem dX5_readNumber_44 : decode cX5_readNumber 44 = .ok (.iconst 1, 1) := by decide +kernel
theorem dX5_readNumber_45 : decode cX5_readNumber 45 = .ok (.invokevirtual 54, 3) := by decide +kernel
theorem dX5_readNumber_48 : decode cX5_readNumber 48 = .ok (.ireturn, 1) := by decide +kernel
theorem dX5_readNumber_49 : decode cX5_readNumber 49 = .ok (.iconst 0, 1) := by decide +kernel
theorem dX5_readNumber_50 : decode cX5_readNumber 50 = .ok (.istore_n 3, 1) := by decide +kernel
theorem dX5_readNumber_51 : decode cX5_readNumber 51 = .ok (.iconst 0, 1) := by decide +kernel
theorem dX5_readNumber_52 : decode cX5_readNumber 52 = .ok (.istore 4, 2) := by decide +kernel
theorem dX5_readNumber_54 : decode cX5_readNumber 54 = .ok (.iload 4, 2) := by decide +kernel
theorem dX5_readNumber_56 : decode cX5_readNumber 56 = .ok (.iconst 4, 1) := by decide +kernel
theorem dX5_readNumber_57 : decode cX5_readNumber 57 = .ok (.if_icmp .ge 42, 3) := by decide +kernel
theorem dX5_readNumber_60 : decode cX5_readNumber 60 = .ok (.aload_n 0, 1) := by decide +kernel
theorem dX5_readNumber_61 : decode cX5_readNumber 61 = .ok (.invokevirtual 47, 3) := by decide +kernel
theorem dX5_readNumber_64 : decode cX5_readNumber 64 = .ok (.invokestatic 101, 3) := by decide +kernel
theorem dX5_readNumber_67 : decode cX5_readNumber 67 = .ok (.ifCond .eq 32, 3) := by decide +kernel
theorem dX5_readNumber_70 : decode cX5_readNumber 70 = .ok (.iload_n 3, 1) := by decide +kernel
theorem dX5_readNumber_71 : decode cX5_readNumber 71 = .ok (.bipush 10, 2) := by decide +kernel
theorem dX5_readNumber_73 : decode cX5_readNumber 73 = .ok (.imul, 1) := by decide +kernel
theorem dX5_readNumber_74 : decode cX5_readNumber 74 = .ok (.aload_n 0, 1) := by decide +kernel
theorem dX5_readNumber_75 : decode cX5_readNumber 75 = .ok (.invokevirtual 47, 3) := by decide +kernel
theorem dX5_readNumber_78 : decode cX5_readNumber 78 = .ok (.iadd, 1) := by decide +kernel
theorem dX5_readNumber_79 : decode cX5_readNumber 79 = .ok (.bipush 48, 2) := by decide +kernel
theorem dX5_readNumber_81 : decode cX5_readNumber 81 = .ok (.isub, 1) := by decide +kernel
theorem dX5_readNumber_82 : decode cX5_readNumber 82 = .ok (.istore_n 3, 1) := by decide +kernel
theorem dX5_readNumber_83 : decode cX5_readNumber 83 = .ok (.aload_n 0, 1) := by decide +kernel
theorem dX5_readNumber_84 : decode cX5_readNumber 84 = .ok (.dup, 1) := by decide +kernel
theorem dX5_readNumber_85 : decode cX5_readNumber 85 = .ok (.getfield 31, 3) := by decide +kernel
theorem dX5_readNumber_88 : decode cX5_readNumber 88 = .ok (.iconst 1, 1) := by decide +kernel
theorem dX5_readNumber_89 : decode cX5_readNumber 89 = .ok (.iadd, 1) := by decide +kernel
theorem dX5_readNumber_90 : decode cX5_readNumber 90 = .ok (.putfield 31, 3) := by decide +kernel
theorem dX5_readNumber_93 : decode cX5_readNumber 93 = .ok (.iinc 4 1, 3) := by decide +kernel
theorem dX5_readNumber_96 : decode cX5_readNumber 96 = .ok (.goto (-42), 3) := by decide +kernel
theorem dX5_readNumber_99 : decode cX5_readNumber 99 = .ok (.aload_n 0, 1) := by decide +kernel
theorem dX5_readNumber_100 : decode cX5_readNumber 100 = .ok (.iload_n 2, 1) := by decide +kernel
theorem dX5_readNumber_101 : decode cX5_readNumber 101 = .ok (.ifCond .eq 8, 3) := by decide +kernel
theorem dX5_readNumber_104 : decode cX5_readNumber 104 = .ok (.iload_n 3, 1) := by decide +kernel
theorem dX5_readNumber_105 : decode cX5_readNumber 105 = .ok (.ineg, 1) := by decide +kernel
theorem dX5_readNumber_106 : decode cX5_readNumber 106 = .ok (.goto 4, 3) := by decide +kernel
theorem dX5_readNumber_109 : decode cX5_readNumber 109 = .ok (.iload_n 3, 1) := by decide +kernel
theorem dX5_readNumber_110 : decode cX5_readNumber 110 = .ok (.putfield 57, 3) := by decide +kernel
theorem dX5_readNumber_113 : decode cX5_readNumber 113 = .ok (.iconst 1, 1) := by decide +kernel
theorem dX5_readNumber_114 : decode cX5_readNumber 114 = .ok (.ireturn, 1) := by decide +kernel
theorem dX5_sign_0 : decode cX5_sign 0 = .ok (.aload_n 0, 1) := by decide +kernel
theorem dX5_sign_1 : decode cX5_sign 1 = .ok (.getfield 18, 3) := by decide +kernel
theorem dX5_sign_4 : decode cX5_sign 4 = .ok (.ifnull 33, 3) := by decide +kernel
theorem dX5_sign_7 : decode cX5_sign 7 = .ok (.aload_n 0, 1) := by decide +kernel
theorem dX5_sign_8 : decode cX5_sign 8 = .ok (.getfield 31, 3) := by decide +kernel
theorem dX5_sign_11 : decode cX5_sign 11 = .ok (.ifCond .lt 26, 3) := by decide +kernel
theorem dX5_sign_14 : decode cX5_sign 14 = .ok (.aload_n 0, 1) := by decide +kernel
theorem dX5_sign_15 : decode cX5_sign 15 = .ok (.getfield 31, 3) := by decide +kernel
theorem dX5_sign_18 : decode cX5_sign 18 = .ok (.aload_n 0, 1) := by decide +kernel
theorem dX5_sign_19 : decode cX5_sign 19 = .ok (.getfield 28, 3) := by decide +kernel
theorem dX5_sign_22 : decode cX5_sign 22 = .ok (.if_icmp .ge 15, 3) := by decide +kernel
theorem dX5_sign_25 : decode cX5_sign 25 = .ok (.aload_n 0, 1) := by decide +kernel
theorem dX5_sign_26 : decode cX5_sign 26 = .ok (.getfield 18, 3) := by decide +kernel
theorem dX5_sign_29 : decode cX5_sign 29 = .ok (.aload_n 0, 1) := by decide +kernel
theorem dX5_sign_30 : decode cX5_sign 30 = .ok (.getfield 31, 3) := by decide +kernel
theorem dX5_sign_33 : decode cX5_sign 33 = .ok (.iaload, 1) := by decide +kernel
theorem dX5_sign_34 : decode cX5_sign 34 = .ok (.goto 4, 3) := by decide +kernel
theorem dX5_sign_37 : decode cX5_sign 37 = .ok (.iconst (-1), 1) := by decide +kernel
theorem dX5_sign_38 : decode cX5_sign 38 = .ok (.ireturn, 1) := by decide +kernel
theorem dX5_take_0 : decode cX5_take 0 = .ok (.aload_n 0, 1) := by decide +kernel
theorem dX5_take_1 : decode cX5_take 1 = .ok (.invokevirtual 47, 3) := by decide +kernel
theorem dX5_take_4 : decode cX5_take 4 = .ok (.iload_n 1, 1) := by decide +kernel
theorem dX5_take_5 : decode cX5_take 5 = .ok (.if_icmp .eq 9, 3) := by decide +kernel
theorem dX5_take_8 : decode cX5_take 8 = .ok (.aload_n 0, 1) := by decide +kernel
theorem dX5_take_9 : decode cX5_take 9 = .ok (.iconst 1, 1) := by decide +kernel
theorem dX5_take_10 : decode cX5_take 10 = .ok (.invokevirtual 54, 3) := by decide +kernel
theorem dX5_take_13 : decode cX5_take 13 = .ok (.ireturn, 1) := by decide +kernel
theorem dX5_take_14 : decode cX5_take 14 = .ok (.aload_n 0, 1) := by decide +kernel
theorem dX5_take_15 : decode cX5_take 15 = .ok (.dup, 1) := by decide +kernel
theorem dX5_take_16 : decode cX5_take 16 = .ok (.getfield 31, 3) := by decide +kernel
theorem dX5_take_19 : decode cX5_take 19 = .ok (.iconst 1, 1) := by decide +kernel
theorem dX5_take_20 : decode cX5_take 20 = .ok (.iadd, 1) := by decide +kernel
theorem dX5_take_21 : decode cX5_take 21 = .ok (.putfield 31, 3) := by decide +kernel
theorem dX5_take_24 : decode cX5_take 24 = .ok (.iconst 1, 1) := by decide +kernel
theorem dX5_take_25 : decode cX5_take 25 = .ok (.ireturn, 1) := by decide +kernel
theorem dX5_refuse_0 : decode cX5_refuse 0 = .ok (.aload_n 0, 1) := by decide +kernel
theorem dX5_refuse_1 : decode cX5_refuse 1 = .ok (.iload_n 1, 1) := by decide +kernel
theorem dX5_refuse_2 : decode cX5_refuse 2 = .ok (.putfield 9, 3) := by decide +kernel
theorem dX5_refuse_5 : decode cX5_refuse 5 = .ok (.aload_n 0, 1) := by decide +kernel
theorem dX5_refuse_6 : decode cX5_refuse 6 = .ok (.aload_n 0, 1) := by decide +kernel
theorem dX5_refuse_7 : decode cX5_refuse 7 = .ok (.getfield 31, 3) := by decide +kernel
theorem dX5_refuse_10 : decode cX5_refuse 10 = .ok (.putfield 15, 3) := by decide +kernel
theorem dX5_refuse_13 : decode cX5_refuse 13 = .ok (.iconst 0, 1) := by decide +kernel
theorem dX5_refuse_14 : decode cX5_refuse 14 = .ok (.ireturn, 1) := by decide +kernel
theorem dX5_isDigit_0 : decode cX5_isDigit 0 = .ok (.iload_n 0, 1) := by decide +kernel
theorem dX5_isDigit_1 : decode cX5_isDigit 1 = .ok (.bipush 48, 2) := by decide +kernel
theorem dX5_isDigit_3 : decode cX5_isDigit 3 = .ok (.if_icmp .lt 13, 3) := by decide +kernel
theorem dX5_isDigit_6 : decode cX5_isDigit 6 = .ok (.iload_n 0, 1) := by decide +kernel
theorem dX5_isDigit_7 : decode cX5_isDigit 7 = .ok (.bipush 57, 2) := by decide +kernel
theorem dX5_isDigit_9 : decode cX5_isDigit 9 = .ok (.if_icmp .gt 7, 3) := by decide +kernel
theorem dX5_isDigit_12 : decode cX5_isDigit 12 = .ok (.iconst 1, 1) := by decide +kernel
theorem dX5_isDigit_13 : decode cX5_isDigit 13 = .ok (.goto 4, 3) := by decide +kernel
theorem dX5_isDigit_16 : decode cX5_isDigit 16 = .ok (.iconst 0, 1) := by decide +kernel
theorem dX5_isDigit_17 : decode cX5_isDigit 17 = .ok (.ireturn, 1) := by decide +kernel
theorem dX5_factOf_0 : decode cX5_factOf 0 = .ok (.iload_n 0, 1) := by decide +kernel
theorem dX5_factOf_1 : decode cX5_factOf 1 = .ok (.tableswitch 77 107 119 #[73, 67, 75, 77, 77, 77, 77, 77, 77, 69, 77, 77, 71], 67) := by decide +kernel
theorem dX5_factOf_68 : decode cX5_factOf 68 = .ok (.iconst 0, 1) := by decide +kernel
theorem dX5_factOf_69 : decode cX5_factOf 69 = .ok (.ireturn, 1) := by decide +kernel
theorem dX5_factOf_70 : decode cX5_factOf 70 = .ok (.iconst 1, 1) := by decide +kernel
theorem dX5_factOf_71 : decode cX5_factOf 71 = .ok (.ireturn, 1) := by decide +kernel
theorem dX5_factOf_72 : decode cX5_factOf 72 = .ok (.iconst 2, 1) := by decide +kernel
theorem dX5_factOf_73 : decode cX5_factOf 73 = .ok (.ireturn, 1) := by decide +kernel
theorem dX5_factOf_74 : decode cX5_factOf 74 = .ok (.iconst 3, 1) := by decide +kernel
theorem dX5_factOf_75 : decode cX5_factOf 75 = .ok (.ireturn, 1) := by decide +kernel
theorem dX5_factOf_76 : decode cX5_factOf 76 = .ok (.iconst 4, 1) := by decide +kernel
theorem dX5_factOf_77 : decode cX5_factOf 77 = .ok (.ireturn, 1) := by decide +kernel
theorem dX5_factOf_78 : decode cX5_factOf 78 = .ok (.iconst (-1), 1) := by decide +kernel
theorem dX5_factOf_79 : decode cX5_factOf 79 = .ok (.ireturn, 1) := by decide +kernel
theorem dX6_init_0 : decode cX6_init 0 = .ok (.aload_n 0, 1) := by decide +kernel
theorem dX6_init_1 : decode cX6_init 1 = .ok (.invokespecial 3, 3) := by decide +kernel
theorem dX6_init_4 : decode cX6_init 4 = .ok (.aload_n 0, 1) := by decide +kernel
theorem dX6_init_5 : decode cX6_init 5 = .ok (.bipush 7, 2) := by decide +kernel
theorem dX6_init_7 : decode cX6_init 7 = .ok (.newarray .int, 2) := by decide +kernel
theorem dX6_init_9 : decode cX6_init 9 = .ok (.putfield 9, 3) := by decide +kernel
theorem dX6_init_12 : decode cX6_init 12 = .ok (.aload_n 0, 1) := by decide +kernel
theorem dX6_init_13 : decode cX6_init 13 = .ok (.bipush 7, 2) := by decide +kernel
theorem dX6_init_15 : decode cX6_init 15 = .ok (.newarray .int, 2) := by decide +kernel
theorem dX6_init_17 : decode cX6_init 17 = .ok (.putfield 15, 3) := by decide +kernel
theorem dX6_init_20 : decode cX6_init 20 = .ok (.aload_n 0, 1) := by decide +kernel
theorem dX6_init_21 : decode cX6_init 21 = .ok (.bipush 7, 2) := by decide +kernel
theorem dX6_init_23 : decode cX6_init 23 = .ok (.newarray .int, 2) := by decide +kernel
theorem dX6_init_25 : decode cX6_init 25 = .ok (.putfield 18, 3) := by decide +kernel
theorem dX6_init_28 : decode cX6_init 28 = .ok (.aload_n 0, 1) := by decide +kernel
theorem dX6_init_29 : decode cX6_init 29 = .ok (.bipush 35, 2) := by decide +kernel
theorem dX6_init_31 : decode cX6_init 31 = .ok (.newarray .int, 2) := by decide +kernel
theorem dX6_init_33 : decode cX6_init 33 = .ok (.putfield 21, 3) := by decide +kernel
theorem dX6_init_36 : decode cX6_init 36 = .ok (.aload_n 0, 1) := by decide +kernel
theorem dX6_init_37 : decode cX6_init 37 = .ok (.iconst 5, 1) := by decide +kernel
theorem dX6_init_38 : decode cX6_init 38 = .ok (.newarray .int, 2) := by decide +kernel
theorem dX6_init_40 : decode cX6_init 40 = .ok (.putfield 24, 3) := by decide +kernel
theorem dX6_init_43 : decode cX6_init 43 = .ok (.return_, 1) := by decide +kernel
theorem dX6_begin_0 : decode cX6_begin 0 = .ok (.aload_n 0, 1) := by decide +kernel
theorem dX6_begin_1 : decode cX6_begin 1 = .ok (.getfield 9, 3) := by decide +kernel
theorem dX6_begin_4 : decode cX6_begin 4 = .ok (.iconst (-1), 1) := by decide +kernel
theorem dX6_begin_5 : decode cX6_begin 5 = .ok (.invokestatic 27, 3) := by decide +kernel
theorem dX6_begin_8 : decode cX6_begin 8 = .ok (.aload_n 0, 1) := by decide +kernel
theorem dX6_begin_9 : decode cX6_begin 9 = .ok (.getfield 15, 3) := by decide +kernel
theorem dX6_begin_12 : decode cX6_begin 12 = .ok (.iconst (-1), 1) := by decide +kernel
theorem dX6_begin_13 : decode cX6_begin 13 = .ok (.invokestatic 27, 3) := by decide +kernel
theorem dX6_begin_16 : decode cX6_begin 16 = .ok (.aload_n 0, 1) := by decide +kernel
theorem dX6_begin_17 : decode cX6_begin 17 = .ok (.getfield 24, 3) := by decide +kernel
theorem dX6_begin_20 : decode cX6_begin 20 = .ok (.iconst 0, 1) := by decide +kernel
theorem dX6_begin_21 : decode cX6_begin 21 = .ok (.invokestatic 27, 3) := by decide +kernel
theorem dX6_begin_24 : decode cX6_begin 24 = .ok (.aload_n 0, 1) := by decide +kernel
theorem dX6_begin_25 : decode cX6_begin 25 = .ok (.iconst 0, 1) := by decide +kernel
theorem dX6_begin_26 : decode cX6_begin 26 = .ok (.putfield 33, 3) := by decide +kernel
theorem dX6_begin_29 : decode cX6_begin 29 = .ok (.aload_n 0, 1) := by decide +kernel
theorem dX6_begin_30 : decode cX6_begin 30 = .ok (.aload_n 1, 1) := by decide +kernel
theorem dX6_begin_31 : decode cX6_begin 31 = .ok (.iconst 0, 1) := by decide +kernel
theorem dX6_begin_32 : decode cX6_begin 32 = .ok (.invokevirtual 37, 3) := by decide +kernel
theorem dX6_begin_35 : decode cX6_begin 35 = .ok (.ifCond .eq 10, 3) := by decide +kernel
theorem dX6_begin_38 : decode cX6_begin 38 = .ok (.aload_n 1, 1) := by decide +kernel
theorem dX6_begin_39 : decode cX6_begin 39 = .ok (.getfield 43, 3) := by decide +kernel
theorem dX6_begin_42 : decode cX6_begin 42 = .ok (.goto 5, 3) := by decide +kernel
theorem dX6_begin_45 : decode cX6_begin 45 = .ok (.ldc 46, 2) := by decide +kernel
theorem dX6_begin_47 : decode cX6_begin 47 = .ok (.invokevirtual 47, 3) := by decide +kernel
theorem dX6_begin_50 : decode cX6_begin 50 = .ok (.return_, 1) := by decide +kernel
theorem dX6_lieInPort_0 : decode cX6_lieInPort 0 = .ok (.aload_n 0, 1) := by decide +kernel
theorem dX6_lieInPort_1 : decode cX6_lieInPort 1 = .ok (.iconst 0, 1) := by decide +kernel
theorem dX6_lieInPort_2 : decode cX6_lieInPort 2 = .ok (.putfield 51, 3) := by decide +kernel
theorem dX6_lieInPort_5 : decode cX6_lieInPort 5 = .ok (.aload_n 0, 1) := by decide +kernel
theorem dX6_lieInPort_6 : decode cX6_lieInPort 6 = .ok (.iload_n 1, 1) := by decide +kernel
theorem dX6_lieInPort_7 : decode cX6_lieInPort 7 = .ok (.putfield 55, 3) := by decide +kernel
theorem dX6_lieInPort_10 : decode cX6_lieInPort 10 = .ok (.aload_n 0, 1) := by decide +kernel
theorem dX6_lieInPort_11 : decode cX6_lieInPort 11 = .ok (.iload_n 1, 1) := by decide +kernel
theorem dX6_lieInPort_12 : decode cX6_lieInPort 12 = .ok (.putfield 58, 3) := by decide +kernel
theorem dX6_lieInPort_15 : decode cX6_lieInPort 15 = .ok (.return_, 1) := by decide +kernel
theorem dX6_putToSea_0 : decode cX6_putToSea 0 = .ok (.aload_n 0, 1) := by decide +kernel
theorem dX6_putToSea_1 : decode cX6_putToSea 1 = .ok (.getfield 15, 3) := by decide +kernel
theorem dX6_putToSea_4 : decode cX6_putToSea 4 = .ok (.aload_n 0, 1) := by decide +kernel
theorem dX6_putToSea_5 : decode cX6_putToSea 5 = .ok (.getfield 33, 3) := by decide +kernel
theorem dX6_putToSea_8 : decode cX6_putToSea 8 = .ok (.iload_n 1, 1) := by decide +kernel
theorem dX6_putToSea_9 : decode cX6_putToSea 9 = .ok (.iastore, 1) := by decide +kernel
theorem dX6_putToSea_10 : decode cX6_putToSea 10 = .ok (.aload_n 0, 1) := by decide +kernel
theorem dX6_putToSea_11 : decode cX6_putToSea 11 = .ok (.getfield 18, 3) := by decide +kernel
theorem dX6_putToSea_14 : decode cX6_putToSea 14 = .ok (.aload_n 0, 1) := by decide +kernel
theorem dX6_putToSea_15 : decode cX6_putToSea 15 = .ok (.getfield 33, 3) := by decide +kernel
theorem dX6_putToSea_18 : decode cX6_putToSea 18 = .ok (.iload_n 1, 1) := by decide +kernel
theorem dX6_putToSea_19 : decode cX6_putToSea 19 = .ok (.aload_n 0, 1) := by decide +kernel
theorem dX6_putToSea_20 : decode cX6_putToSea 20 = .ok (.getfield 55, 3) := by decide +kernel
theorem dX6_putToSea_23 : decode cX6_putToSea 23 = .ok (.isub, 1) := by decide +kernel
theorem dX6_putToSea_24 : decode cX6_putToSea 24 = .ok (.iastore, 1) := by decide +kernel
theorem dX6_putToSea_25 : decode cX6_putToSea 25 = .ok (.aload_n 0, 1) := by decide +kernel
theorem dX6_putToSea_26 : decode cX6_putToSea 26 = .ok (.iconst 1, 1) := by decide +kernel
theorem dX6_putToSea_27 : decode cX6_putToSea 27 = .ok (.putfield 51, 3) := by decide +kernel
theorem dX6_putToSea_30 : decode cX6_putToSea 30 = .ok (.aload_n 0, 1) := by decide +kernel
theorem dX6_putToSea_31 : decode cX6_putToSea 31 = .ok (.iload_n 1, 1) := by decide +kernel
theorem dX6_putToSea_32 : decode cX6_putToSea 32 = .ok (.iload_n 2, 1) := by decide +kernel
theorem dX6_putToSea_33 : decode cX6_putToSea 33 = .ok (.iadd, 1) := by decide +kernel
theorem dX6_putToSea_34 : decode cX6_putToSea 34 = .ok (.putfield 58, 3) := by decide +kernel
theorem dX6_putToSea_37 : decode cX6_putToSea 37 = .ok (.return_, 1) := by decide +kernel
theorem dX6_makeUp_0 : decode cX6_makeUp 0 = .ok (.aload_n 0, 1) := by decide +kernel
theorem dX6_makeUp_1 : decode cX6_makeUp 1 = .ok (.iconst 0, 1) := by decide +kernel
theorem dX6_makeUp_2 : decode cX6_makeUp 2 = .ok (.iload_n 1, 1) := by decide +kernel
theorem dX6_makeUp_3 : decode cX6_makeUp 3 = .ok (.invokevirtual 61, 3) := by decide +kernel
theorem dX6_makeUp_6 : decode cX6_makeUp 6 = .ok (.istore_n 3, 1) := by decide +kernel
theorem dX6_makeUp_7 : decode cX6_makeUp 7 = .ok (.aload_n 0, 1) := by decide +kernel
theorem dX6_makeUp_8 : decode cX6_makeUp 8 = .ok (.iconst 1, 1) := by decide +kernel
theorem dX6_makeUp_9 : decode cX6_makeUp 9 = .ok (.iload_n 2, 1) := by decide +kernel
theorem dX6_makeUp_10 : decode cX6_makeUp 10 = .ok (.iadd, 1) := by decide +kernel
theorem dX6_makeUp_11 : decode cX6_makeUp 11 = .ok (.iload_n 3, 1) := by decide +kernel
theorem dX6_makeUp_12 : decode cX6_makeUp 12 = .ok (.invokevirtual 61, 3) := by decide +kernel
theorem dX6_makeUp_15 : decode cX6_makeUp 15 = .ok (.istore_n 3, 1) := by decide +kernel
theorem dX6_makeUp_16 : decode cX6_makeUp 16 = .ok (.iconst 0, 1) := by decide +kernel
theorem dX6_makeUp_17 : decode cX6_makeUp 17 = .ok (.istore 4, 2) := by decide +kernel
theorem dX6_makeUp_19 : decode cX6_makeUp 19 = .ok (.iload 4, 2) := by decide +kernel
theorem dX6_makeUp_21 : decode cX6_makeUp 21 = .ok (.iconst 4, 1) := by decide +kernel
theorem dX6_makeUp_22 : decode cX6_makeUp 22 = .ok (.if_icmp .ge 19, 3) := by decide +kernel
theorem dX6_makeUp_25 : decode cX6_makeUp 25 = .ok (.aload_n 0, 1) := by decide +kernel
theorem dX6_makeUp_26 : decode cX6_makeUp 26 = .ok (.iconst 1, 1) := by decide +kernel
theorem dX6_makeUp_27 : decode cX6_makeUp 27 = .ok (.iload 4, 2) := by decide +kernel
theorem dX6_makeUp_29 : decode cX6_makeUp 29 = .ok (.iadd, 1) := by decide +kernel
theorem dX6_makeUp_30 : decode cX6_makeUp 30 = .ok (.iload_n 3, 1) := by decide +kernel
theorem dX6_makeUp_31 : decode cX6_makeUp 31 = .ok (.invokevirtual 61, 3) := by decide +kernel
theorem dX6_makeUp_34 : decode cX6_makeUp 34 = .ok (.istore_n 3, 1) := by decide +kernel
theorem dX6_makeUp_35 : decode cX6_makeUp 35 = .ok (.iinc 4 1, 3) := by decide +kernel
theorem dX6_makeUp_38 : decode cX6_makeUp 38 = .ok (.goto (-19), 3) := by decide +kernel
theorem dX6_makeUp_41 : decode cX6_makeUp 41 = .ok (.return_, 1) := by decide +kernel
theorem dX6_takeFrom_0 : decode cX6_takeFrom 0 = .ok (.aload_n 0, 1) := by decide +kernel
theorem dX6_takeFrom_1 : decode cX6_takeFrom 1 = .ok (.getfield 24, 3) := by decide +kernel
theorem dX6_takeFrom_4 : decode cX6_takeFrom 4 = .ok (.iload_n 1, 1) := by decide +kernel
theorem dX6_takeFrom_5 : decode cX6_takeFrom 5 = .ok (.iaload, 1) := by decide +kernel
theorem dX6_takeFrom_6 : decode cX6_takeFrom 6 = .ok (.iload_n 2, 1) := by decide +kernel
theorem dX6_takeFrom_7 : decode cX6_takeFrom 7 = .ok (.invokestatic 65, 3) := by decide +kernel
theorem dX6_takeFrom_10 : decode cX6_takeFrom 10 = .ok (.istore_n 3, 1) := by decide +kernel
theorem dX6_takeFrom_11 : decode cX6_takeFrom 11 = .ok (.aload_n 0, 1) := by decide +kernel
theorem dX6_takeFrom_12 : decode cX6_takeFrom 12 = .ok (.getfield 24, 3) := by decide +kernel
theorem dX6_takeFrom_15 : decode cX6_takeFrom 15 = .ok (.iload_n 1, 1) := by decide +kernel
theorem dX6_takeFrom_16 : decode cX6_takeFrom 16 = .ok (.dup2, 1) := by decide +kernel
theorem dX6_takeFrom_17 : decode cX6_takeFrom 17 = .ok (.iaload, 1) := by decide +kernel
theorem dX6_takeFrom_18 : decode cX6_takeFrom 18 = .ok (.iload_n 3, 1) := by decide +kernel
theorem dX6_takeFrom_19 : decode cX6_takeFrom 19 = .ok (.isub, 1) := by decide +kernel
theorem dX6_takeFrom_20 : decode cX6_takeFrom 20 = .ok (.iastore, 1) := by decide +kernel
theorem dX6_takeFrom_21 : decode cX6_takeFrom 21 = .ok (.iload_n 2, 1) := by decide +kernel
theorem dX6_takeFrom_22 : decode cX6_takeFrom 22 = .ok (.iload_n 3, 1) := by decide +kernel
theorem dX6_takeFrom_23 : decode cX6_takeFrom 23 = .ok (.isub, 1) := by decide +kernel
theorem dX6_takeFrom_24 : decode cX6_takeFrom 24 = .ok (.ireturn, 1) := by decide +kernel
theorem dX6_writeDownShares_0 : decode cX6_writeDownShares 0 = .ok (.iconst 0, 1) := by decide +kernel
theorem dX6_writeDownShares_1 : decode cX6_writeDownShares 1 = .ok (.istore_n 2, 1) := by decide +kernel
theorem dX6_writeDownShares_2 : decode cX6_writeDownShares 2 = .ok (.iload_n 2, 1) := by decide +kernel
theorem dX6_writeDownShares_3 : decode cX6_writeDownShares 3 = .ok (.iconst 5, 1) := by decide +kernel
theorem dX6_writeDownShares_4 : decode cX6_writeDownShares 4 = .ok (.if_icmp .ge 25, 3) := by decide +kernel
theorem dX6_writeDownShares_7 : decode cX6_writeDownShares 7 = .ok (.aload_n 0, 1) := by decide +kernel
theorem dX6_writeDownShares_8 : decode cX6_writeDownShares 8 = .ok (.getfield 21, 3) := by decide +kernel
theorem dX6_writeDownShares_11 : decode cX6_writeDownShares 11 = .ok (.iload_n 1, 1) := by decide +kernel
theorem dX6_writeDownShares_12 : decode cX6_writeDownShares 12 = .ok (.iconst 5, 1) := by decide +kernel
theorem dX6_writeDownShares_13 : decode cX6_writeDownShares 13 = .ok (.imul, 1) := by decide +kernel
theorem dX6_writeDownShares_14 : decode cX6_writeDownShares 14 = .ok (.iload_n 2, 1) := by decide +kernel
theorem dX6_writeDownShares_15 : decode cX6_writeDownShares 15 = .ok (.iadd, 1) := by decide +kernel
theorem dX6_writeDownShares_16 : decode cX6_writeDownShares 16 = .ok (.aload_n 0, 1) := by decide +kernel
theorem dX6_writeDownShares_17 : decode cX6_writeDownShares 17 = .ok (.getfield 24, 3) := by decide +kernel
theorem dX6_writeDownShares_20 : decode cX6_writeDownShares 20 = .ok (.iload_n 2, 1) := by decide +kernel
theorem dX6_writeDownShares_21 : decode cX6_writeDownShares 21 = .ok (.iaload, 1) := by decide +kernel
theorem dX6_writeDownShares_22 : decode cX6_writeDownShares 22 = .ok (.iastore, 1) := by decide +kernel
theorem dX6_writeDownShares_23 : decode cX6_writeDownShares 23 = .ok (.iinc 2 1, 3) := by decide +kernel
theorem dX6_writeDownShares_26 : decode cX6_writeDownShares 26 = .ok (.goto (-24), 3) := by decide +kernel
theorem dX6_writeDownShares_29 : decode cX6_writeDownShares 29 = .ok (.return_, 1) := by decide +kernel
theorem dX6_shareAt_0 : decode cX6_shareAt 0 = .ok (.aload_n 0, 1) := by decide +kernel
theorem dX6_shareAt_1 : decode cX6_shareAt 1 = .ok (.getfield 21, 3) := by decide +kernel
theorem dX6_shareAt_4 : decode cX6_shareAt 4 = .ok (.iload_n 1, 1) := by decide +kernel
theorem dX6_shareAt_5 : decode cX6_shareAt 5 = .ok (.iconst 5, 1) := by decide +kernel
theorem dX6_shareAt_6 : decode cX6_shareAt 6 = .ok (.imul, 1) := by decide +kernel
theorem dX6_shareAt_7 : decode cX6_shareAt 7 = .ok (.iload_n 2, 1) := by decide +kernel
theorem dX6_shareAt_8 : decode cX6_shareAt 8 = .ok (.iadd, 1) := by decide +kernel
theorem dX6_shareAt_9 : decode cX6_shareAt 9 = .ok (.iaload, 1) := by decide +kernel
theorem dX6_shareAt_10 : decode cX6_shareAt 10 = .ok (.ireturn, 1) := by decide +kernel
theorem dX6_sharesOverPlaces_0 : decode cX6_sharesOverPlaces 0 = .ok (.lconst 0, 1) := by decide +kernel
theorem dX6_sharesOverPlaces_1 : decode cX6_sharesOverPlaces 1 = .ok (.lstore_n 3, 1) := by decide +kernel
theorem dX6_sharesOverPlaces_2 : decode cX6_sharesOverPlaces 2 = .ok (.iconst 1, 1) := by decide +kernel
theorem dX6_sharesOverPlaces_3 : decode cX6_sharesOverPlaces 3 = .ok (.istore 5, 2) := by decide +kernel
theorem dX6_sharesOverPlaces_5 : decode cX6_sharesOverPlaces 5 = .ok (.iload 5, 2) := by decide +kernel
theorem dX6_sharesOverPlaces_7 : decode cX6_sharesOverPlaces 7 = .ok (.iload_n 1, 1) := by decide +kernel
theorem dX6_sharesOverPlaces_8 : decode cX6_sharesOverPlaces 8 = .ok (.if_icmp .gt 31, 3) := by decide +kernel
theorem dX6_sharesOverPlaces_11 : decode cX6_sharesOverPlaces 11 = .ok (.aload_n 0, 1) := by decide +kernel
theorem dX6_sharesOverPlaces_12 : decode cX6_sharesOverPlaces 12 = .ok (.getfield 9, 3) := by decide +kernel
theorem dX6_sharesOverPlaces_15 : decode cX6_sharesOverPlaces 15 = .ok (.iload 5, 2) := by decide +kernel
theorem dX6_sharesOverPlaces_17 : decode cX6_sharesOverPlaces 17 = .ok (.iaload, 1) := by decide +kernel
theorem dX6_sharesOverPlaces_18 : decode cX6_sharesOverPlaces 18 = .ok (.iconst (-1), 1) := by decide +kernel
theorem dX6_sharesOverPlaces_19 : decode cX6_sharesOverPlaces 19 = .ok (.if_icmp .eq 14, 3) := by decide +kernel
theorem dX6_sharesOverPlaces_22 : decode cX6_sharesOverPlaces 22 = .ok (.lload_n 3, 1) := by decide +kernel
theorem dX6_sharesOverPlaces_23 : decode cX6_sharesOverPlaces 23 = .ok (.aload_n 0, 1) := by decide +kernel
theorem dX6_sharesOverPlaces_24 : decode cX6_sharesOverPlaces 24 = .ok (.iload 5, 2) := by decide +kernel
theorem dX6_sharesOverPlaces_26 : decode cX6_sharesOverPlaces 26 = .ok (.iload_n 2, 1) := by decide +kernel
theorem dX6_sharesOverPlaces_27 : decode cX6_sharesOverPlaces 27 = .ok (.invokevirtual 70, 3) := by decide +kernel
theorem dX6_sharesOverPlaces_30 : decode cX6_sharesOverPlaces 30 = .ok (.i2l, 1) := by decide +kernel
theorem dX6_sharesOverPlaces_31 : decode cX6_sharesOverPlaces 31 = .ok (.ladd, 1) := by decide +kernel
theorem dX6_sharesOverPlaces_32 : decode cX6_sharesOverPlaces 32 = .ok (.lstore_n 3, 1) := by decide +kernel
theorem dX6_sharesOverPlaces_33 : decode cX6_sharesOverPlaces 33 = .ok (.iinc 5 1, 3) := by decide +kernel
theorem dX6_sharesOverPlaces_36 : decode cX6_sharesOverPlaces 36 = .ok (.goto (-31), 3) := by decide +kernel
theorem dX6_sharesOverPlaces_39 : decode cX6_sharesOverPlaces 39 = .ok (.lload_n 3, 1) := by decide +kernel
theorem dX6_sharesOverPlaces_40 : decode cX6_sharesOverPlaces 40 = .ok (.lreturn, 1) := by decide +kernel
theorem dX7_init_0 : decode cX7_init 0 = .ok (.aload_n 0, 1) := by decide +kernel
theorem dX7_init_1 : decode cX7_init 1 = .ok (.invokespecial 3, 3) := by decide +kernel
theorem dX7_init_4 : decode cX7_init 4 = .ok (.aload_n 0, 1) := by decide +kernel
theorem dX7_init_5 : decode cX7_init 5 = .ok (.sipush 200, 3) := by decide +kernel
theorem dX7_init_8 : decode cX7_init 8 = .ok (.newarray .int, 2) := by decide +kernel
theorem dX7_init_10 : decode cX7_init 10 = .ok (.putfield 9, 3) := by decide +kernel
theorem dX7_init_13 : decode cX7_init 13 = .ok (.aload_n 0, 1) := by decide +kernel
theorem dX7_init_14 : decode cX7_init 14 = .ok (.iconst 0, 1) := by decide +kernel
theorem dX7_init_15 : decode cX7_init 15 = .ok (.putfield 15, 3) := by decide +kernel
theorem dX7_init_18 : decode cX7_init 18 = .ok (.return_, 1) := by decide +kernel
theorem dX7_addBytes_0 : decode cX7_addBytes 0 = .ok (.bipush 24, 2) := by decide +kernel
theorem dX7_addBytes_2 : decode cX7_addBytes 2 = .ok (.istore_n 2, 1) := by decide +kernel
theorem dX7_addBytes_3 : decode cX7_addBytes 3 = .ok (.iload_n 2, 1) := by decide +kernel
theorem dX7_addBytes_4 : decode cX7_addBytes 4 = .ok (.ifCond .lt 45, 3) := by decide +kernel
theorem dX7_addBytes_7 : decode cX7_addBytes 7 = .ok (.aload_n 0, 1) := by decide +kernel
theorem dX7_addBytes_8 : decode cX7_addBytes 8 = .ok (.getfield 15, 3) := by decide +kernel
theorem dX7_addBytes_11 : decode cX7_addBytes 11 = .ok (.sipush 200, 3) := by decide +kernel
theorem dX7_addBytes_14 : decode cX7_addBytes 14 = .ok (.if_icmp .ge 29, 3) := by decide +kernel
theorem dX7_addBytes_17 : decode cX7_addBytes 17 = .ok (.aload_n 0, 1) := by decide +kernel
theorem dX7_addBytes_18 : decode cX7_addBytes 18 = .ok (.getfield 9, 3) := by decide +kernel
theorem dX7_addBytes_21 : decode cX7_addBytes 21 = .ok (.aload_n 0, 1) := by decide +kernel
theorem dX7_addBytes_22 : decode cX7_addBytes 22 = .ok (.getfield 15, 3) := by decide +kernel
theorem dX7_addBytes_25 : decode cX7_addBytes 25 = .ok (.iload_n 1, 1) := by decide +kernel
theorem dX7_addBytes_26 : decode cX7_addBytes 26 = .ok (.iload_n 2, 1) := by decide +kernel
theorem dX7_addBytes_27 : decode cX7_addBytes 27 = .ok (.iushr, 1) := by decide +kernel
theorem dX7_addBytes_28 : decode cX7_addBytes 28 = .ok (.sipush 255, 3) := by decide +kernel
theorem dX7_addBytes_31 : decode cX7_addBytes 31 = .ok (.iand, 1) := by decide +kernel
theorem dX7_addBytes_32 : decode cX7_addBytes 32 = .ok (.iastore, 1) := by decide +kernel
theorem dX7_addBytes_33 : decode cX7_addBytes 33 = .ok (.aload_n 0, 1) := by decide +kernel
theorem dX7_addBytes_34 : decode cX7_addBytes 34 = .ok (.dup, 1) := by decide +kernel
theorem dX7_addBytes_35 : decode cX7_addBytes 35 = .ok (.getfield 15, 3) := by decide +kernel
theorem dX7_addBytes_38 : decode cX7_addBytes 38 = .ok (.iconst 1, 1) := by decide +kernel
theorem dX7_addBytes_39 : decode cX7_addBytes 39 = .ok (.iadd, 1) := by decide +kernel
theorem dX7_addBytes_40 : decode cX7_addBytes 40 = .ok (.putfield 15, 3) := by decide +kernel
theorem dX7_addBytes_43 : decode cX7_addBytes 43 = .ok (.iinc 2 (-8), 3) := by decide +kernel
theorem dX7_addBytes_46 : decode cX7_addBytes 46 = .ok (.goto (-43), 3) := by decide +kernel
theorem dX7_addBytes_49 : decode cX7_addBytes 49 = .ok (.return_, 1) := by decide +kernel
theorem dX8_init_0 : decode cX8_init 0 = .ok (.aload_n 0, 1) := by decide +kernel
theorem dX8_init_1 : decode cX8_init 1 = .ok (.invokespecial 3, 3) := by decide +kernel
theorem dX8_init_4 : decode cX8_init 4 = .ok (.aload_n 0, 1) := by decide +kernel
theorem dX8_init_5 : decode cX8_init 5 = .ok (.bipush 7, 2) := by decide +kernel
theorem dX8_init_7 : decode cX8_init 7 = .ok (.newarray .int, 2) := by decide +kernel
theorem dX8_init_9 : decode cX8_init 9 = .ok (.putfield 9, 3) := by decide +kernel
theorem dX8_init_12 : decode cX8_init 12 = .ok (.aload_n 0, 1) := by decide +kernel
theorem dX8_init_13 : decode cX8_init 13 = .ok (.bipush 6, 2) := by decide +kernel
theorem dX8_init_15 : decode cX8_init 15 = .ok (.newarray .int, 2) := by decide +kernel
theorem dX8_init_17 : decode cX8_init 17 = .ok (.putfield 15, 3) := by decide +kernel
theorem dX8_init_20 : decode cX8_init 20 = .ok (.aload_n 0, 1) := by decide +kernel
theorem dX8_init_21 : decode cX8_init 21 = .ok (.bipush 6, 2) := by decide +kernel
theorem dX8_init_23 : decode cX8_init 23 = .ok (.newarray .int, 2) := by decide +kernel
theorem dX8_init_25 : decode cX8_init 25 = .ok (.putfield 18, 3) := by decide +kernel
theorem dX8_init_28 : decode cX8_init 28 = .ok (.aload_n 0, 1) := by decide +kernel
theorem dX8_init_29 : decode cX8_init 29 = .ok (.bipush 6, 2) := by decide +kernel
theorem dX8_init_31 : decode cX8_init 31 = .ok (.newarray .int, 2) := by decide +kernel
theorem dX8_init_33 : decode cX8_init 33 = .ok (.putfield 21, 3) := by decide +kernel
theorem dX8_init_36 : decode cX8_init 36 = .ok (.aload_n 0, 1) := by decide +kernel
theorem dX8_init_37 : decode cX8_init 37 = .ok (.bipush 6, 2) := by decide +kernel
theorem dX8_init_39 : decode cX8_init 39 = .ok (.newarray .int, 2) := by decide +kernel
theorem dX8_init_41 : decode cX8_init 41 = .ok (.putfield 24, 3) := by decide +kernel
theorem dX8_init_44 : decode cX8_init 44 = .ok (.aload_n 0, 1) := by decide +kernel
theorem dX8_init_45 : decode cX8_init 45 = .ok (.bipush 6, 2) := by decide +kernel
theorem dX8_init_47 : decode cX8_init 47 = .ok (.newarray .int, 2) := by decide +kernel
theorem dX8_init_49 : decode cX8_init 49 = .ok (.putfield 27, 3) := by decide +kernel
theorem dX8_init_52 : decode cX8_init 52 = .ok (.aload_n 0, 1) := by decide +kernel
theorem dX8_init_53 : decode cX8_init 53 = .ok (.getfield 24, 3) := by decide +kernel
theorem dX8_init_56 : decode cX8_init 56 = .ok (.iconst (-1), 1) := by decide +kernel
theorem dX8_init_57 : decode cX8_init 57 = .ok (.invokestatic 30, 3) := by decide +kernel
theorem dX8_init_60 : decode cX8_init 60 = .ok (.aload_n 0, 1) := by decide +kernel
theorem dX8_init_61 : decode cX8_init 61 = .ok (.bipush 7, 2) := by decide +kernel
theorem dX8_init_63 : decode cX8_init 63 = .ok (.newarray .int, 2) := by decide +kernel
theorem dX8_init_65 : decode cX8_init 65 = .ok (.putfield 36, 3) := by decide +kernel
theorem dX8_init_68 : decode cX8_init 68 = .ok (.aload_n 0, 1) := by decide +kernel
theorem dX8_init_69 : decode cX8_init 69 = .ok (.bipush 7, 2) := by decide +kernel
theorem dX8_init_71 : decode cX8_init 71 = .ok (.newarray .int, 2) := by decide +kernel
theorem dX8_init_73 : decode cX8_init 73 = .ok (.putfield 39, 3) := by decide +kernel
theorem dX8_init_76 : decode cX8_init 76 = .ok (.return_, 1) := by decide +kernel
theorem dX8_begin_0 : decode cX8_begin 0 = .ok (.aload_n 0, 1) := by decide +kernel
theorem dX8_begin_1 : decode cX8_begin 1 = .ok (.iload_n 1, 1) := by decide +kernel
theorem dX8_begin_2 : decode cX8_begin 2 = .ok (.putfield 42, 3) := by decide +kernel
theorem dX8_begin_5 : decode cX8_begin 5 = .ok (.aload_n 0, 1) := by decide +kernel
theorem dX8_begin_6 : decode cX8_begin 6 = .ok (.iload_n 3, 1) := by decide +kernel
theorem dX8_begin_7 : decode cX8_begin 7 = .ok (.putfield 46, 3) := by decide +kernel
theorem dX8_begin_10 : decode cX8_begin 10 = .ok (.aload_n 0, 1) := by decide +kernel
theorem dX8_begin_11 : decode cX8_begin 11 = .ok (.iload 4, 2) := by decide +kernel
theorem dX8_begin_13 : decode cX8_begin 13 = .ok (.putfield 49, 3) := by decide +kernel
theorem dX8_begin_16 : decode cX8_begin 16 = .ok (.aload_n 0, 1) := by decide +kernel
theorem dX8_begin_17 : decode cX8_begin 17 = .ok (.iload 5, 2) := by decide +kernel
theorem dX8_begin_19 : decode cX8_begin 19 = .ok (.putfield 52, 3) := by decide +kernel
theorem dX8_begin_22 : decode cX8_begin 22 = .ok (.aload_n 0, 1) := by decide +kernel
theorem dX8_begin_23 : decode cX8_begin 23 = .ok (.iconst 0, 1) := by decide +kernel
theorem dX8_begin_24 : decode cX8_begin 24 = .ok (.putfield 55, 3) := by decide +kernel
theorem dX8_begin_27 : decode cX8_begin 27 = .ok (.aload_n 0, 1) := by decide +kernel
theorem dX8_begin_28 : decode cX8_begin 28 = .ok (.getfield 9, 3) := by decide +kernel
theorem dX8_begin_31 : decode cX8_begin 31 = .ok (.iconst 0, 1) := by decide +kernel
theorem dX8_begin_32 : decode cX8_begin 32 = .ok (.iload_n 2, 1) := by decide +kernel
theorem dX8_begin_33 : decode cX8_begin 33 = .ok (.iastore, 1) := by decide +kernel
theorem dX8_begin_34 : decode cX8_begin 34 = .ok (.aload_n 0, 1) := by decide +kernel
theorem dX8_begin_35 : decode cX8_begin 35 = .ok (.getfield 39, 3) := by decide +kernel
theorem dX8_begin_38 : decode cX8_begin 38 = .ok (.iconst 0, 1) := by decide +kernel
theorem dX8_begin_39 : decode cX8_begin 39 = .ok (.iload 5, 2) := by decide +kernel
theorem dX8_begin_41 : decode cX8_begin 41 = .ok (.iastore, 1) := by decide +kernel
theorem dX8_begin_42 : decode cX8_begin 42 = .ok (.return_, 1) := by decide +kernel
theorem dX8_hasPlace_0 : decode cX8_hasPlace 0 = .ok (.iload_n 1, 1) := by decide +kernel
theorem dX8_hasPlace_1 : decode cX8_hasPlace 1 = .ok (.ifCond .lt 15, 3) := by decide +kernel
theorem dX8_hasPlace_4 : decode cX8_hasPlace 4 = .ok (.iload_n 1, 1) := by decide +kernel
theorem dX8_hasPlace_5 : decode cX8_hasPlace 5 = .ok (.aload_n 0, 1) := by decide +kernel
theorem dX8_hasPlace_6 : decode cX8_hasPlace 6 = .ok (.getfield 55, 3) := by decide +kernel
theorem dX8_hasPlace_9 : decode cX8_hasPlace 9 = .ok (.if_icmp .gt 7, 3) := by decide +kernel
theorem dX8_hasPlace_12 : decode cX8_hasPlace 12 = .ok (.iconst 1, 1) := by decide +kernel
theorem dX8_hasPlace_13 : decode cX8_hasPlace 13 = .ok (.goto 4, 3) := by decide +kernel
theorem dX8_hasPlace_16 : decode cX8_hasPlace 16 = .ok (.iconst 0, 1) := by decide +kernel
theorem dX8_hasPlace_17 : decode cX8_hasPlace 17 = .ok (.ireturn, 1) := by decide +kernel
theorem dX8_comesTo_0 : decode cX8_comesTo 0 = .ok (.iload_n 1, 1) := by decide +kernel
theorem dX8_comesTo_1 : decode cX8_comesTo 1 = .ok (.iconst 1, 1) := by decide +kernel
theorem dX8_comesTo_2 : decode cX8_comesTo 2 = .ok (.if_icmp .lt 15, 3) := by decide +kernel
theorem dX8_comesTo_5 : decode cX8_comesTo 5 = .ok (.iload_n 1, 1) := by decide +kernel
theorem dX8_comesTo_6 : decode cX8_comesTo 6 = .ok (.aload_n 0, 1) := by decide +kernel
theorem dX8_comesTo_7 : decode cX8_comesTo 7 = .ok (.getfield 55, 3) := by decide +kernel
theorem dX8_comesTo_10 : decode cX8_comesTo 10 = .ok (.if_icmp .gt 7, 3) := by decide +kernel
theorem dX8_comesTo_13 : decode cX8_comesTo 13 = .ok (.iconst 1, 1) := by decide +kernel
theorem dX8_comesTo_14 : decode cX8_comesTo 14 = .ok (.goto 4, 3) := by decide +kernel
theorem dX8_comesTo_17 : decode cX8_comesTo 17 = .ok (.iconst 0, 1) := by decide +kernel
theorem dX8_comesTo_18 : decode cX8_comesTo 18 = .ok (.ireturn, 1) := by decide +kernel
theorem dX8_leavesFrom_0 : decode cX8_leavesFrom 0 = .ok (.iload_n 1, 1) := by decide +kernel
theorem dX8_leavesFrom_1 : decode cX8_leavesFrom 1 = .ok (.ifCond .lt 15, 3) := by decide +kernel
theorem dX8_leavesFrom_4 : decode cX8_leavesFrom 4 = .ok (.iload_n 1, 1) := by decide +kernel
theorem dX8_leavesFrom_5 : decode cX8_leavesFrom 5 = .ok (.aload_n 0, 1) := by decide +kernel
theorem dX8_leavesFrom_6 : decode cX8_leavesFrom 6 = .ok (.getfield 55, 3) := by decide +kernel
theorem dX8_leavesFrom_9 : decode cX8_leavesFrom 9 = .ok (.if_icmp .ge 7, 3) := by decide +kernel
theorem dX8_leavesFrom_12 : decode cX8_leavesFrom 12 = .ok (.iconst 1, 1) := by decide +kernel
theorem dX8_leavesFrom_13 : decode cX8_leavesFrom 13 = .ok (.goto 4, 3) := by decide +kernel
theorem dX8_leavesFrom_16 : decode cX8_leavesFrom 16 = .ok (.iconst 0, 1) := by decide +kernel
theorem dX8_leavesFrom_17 : decode cX8_leavesFrom 17 = .ok (.ireturn, 1) := by decide +kernel
theorem dX8_endPort_0 : decode cX8_endPort 0 = .ok (.aload_n 0, 1) := by decide +kernel
theorem dX8_endPort_1 : decode cX8_endPort 1 = .ok (.getfield 9, 3) := by decide +kernel
theorem dX8_endPort_4 : decode cX8_endPort 4 = .ok (.aload_n 0, 1) := by decide +kernel
theorem dX8_endPort_5 : decode cX8_endPort 5 = .ok (.getfield 55, 3) := by decide +kernel
theorem dX8_endPort_8 : decode cX8_endPort 8 = .ok (.iaload, 1) := by decide +kernel
theorem dX8_endPort_9 : decode cX8_endPort 9 = .ok (.ireturn, 1) := by decide +kernel
theorem dX8_addLeg_0 : decode cX8_addLeg 0 = .ok (.aload_n 0, 1) := by decide +kernel
theorem dX8_addLeg_1 : decode cX8_addLeg 1 = .ok (.getfield 55, 3) := by decide +kernel
theorem dX8_addLeg_4 : decode cX8_addLeg 4 = .ok (.istore 4, 2) := by decide +kernel
theorem dX8_addLeg_6 : decode cX8_addLeg 6 = .ok (.aload_n 0, 1) := by decide +kernel
theorem dX8_addLeg_7 : decode cX8_addLeg 7 = .ok (.getfield 15, 3) := by decide +kernel
theorem dX8_addLeg_10 : decode cX8_addLeg 10 = .ok (.iload 4, 2) := by decide +kernel
theorem dX8_addLeg_12 : decode cX8_addLeg 12 = .ok (.iload_n 1, 1) := by decide +kernel
theorem dX8_addLeg_13 : decode cX8_addLeg 13 = .ok (.iastore, 1) := by decide +kernel
theorem dX8_addLeg_14 : decode cX8_addLeg 14 = .ok (.aload_n 0, 1) := by decide +kernel
theorem dX8_addLeg_15 : decode cX8_addLeg 15 = .ok (.getfield 18, 3) := by decide +kernel
theorem dX8_addLeg_18 : decode cX8_addLeg 18 = .ok (.iload 4, 2) := by decide +kernel
theorem dX8_addLeg_20 : decode cX8_addLeg 20 = .ok (.iload_n 3, 1) := by decide +kernel
theorem dX8_addLeg_21 : decode cX8_addLeg 21 = .ok (.aload_n 0, 1) := by decide +kernel
theorem dX8_addLeg_22 : decode cX8_addLeg 22 = .ok (.getfield 46, 3) := by decide +kernel
theorem dX8_addLeg_25 : decode cX8_addLeg 25 = .ok (.invokestatic 58, 3) := by decide +kernel
theorem dX8_addLeg_28 : decode cX8_addLeg 28 = .ok (.iastore, 1) := by decide +kernel
theorem dX8_addLeg_29 : decode cX8_addLeg 29 = .ok (.aload_n 0, 1) := by decide +kernel
theorem dX8_addLeg_30 : decode cX8_addLeg 30 = .ok (.getfield 9, 3) := by decide +kernel
theorem dX8_addLeg_33 : decode cX8_addLeg 33 = .ok (.iload 4, 2) := by decide +kernel
theorem dX8_addLeg_35 : decode cX8_addLeg 35 = .ok (.iconst 1, 1) := by decide +kernel
theorem dX8_addLeg_36 : decode cX8_addLeg 36 = .ok (.iadd, 1) := by decide +kernel
theorem dX8_addLeg_37 : decode cX8_addLeg 37 = .ok (.iload_n 2, 1) := by decide +kernel
theorem dX8_addLeg_38 : decode cX8_addLeg 38 = .ok (.iastore, 1) := by decide +kernel
theorem dX8_addLeg_39 : decode cX8_addLeg 39 = .ok (.aload_n 0, 1) := by decide +kernel
theorem dX8_addLeg_40 : decode cX8_addLeg 40 = .ok (.getfield 36, 3) := by decide +kernel
theorem dX8_addLeg_43 : decode cX8_addLeg 43 = .ok (.iload 4, 2) := by decide +kernel
theorem dX8_addLeg_45 : decode cX8_addLeg 45 = .ok (.iconst 1, 1) := by decide +kernel
theorem dX8_addLeg_46 : decode cX8_addLeg 46 = .ok (.iadd, 1) := by decide +kernel
theorem dX8_addLeg_47 : decode cX8_addLeg 47 = .ok (.aload_n 0, 1) := by decide +kernel
theorem dX8_addLeg_48 : decode cX8_addLeg 48 = .ok (.getfield 39, 3) := by decide +kernel
theorem dX8_addLeg_51 : decode cX8_addLeg 51 = .ok (.iload 4, 2) := by decide +kernel
theorem dX8_addLeg_53 : decode cX8_addLeg 53 = .ok (.iaload, 1) := by decide +kernel
theorem dX8_addLeg_54 : decode cX8_addLeg 54 = .ok (.aload_n 0, 1) := by decide +kernel
theorem dX8_addLeg_55 : decode cX8_addLeg 55 = .ok (.getfield 18, 3) := by decide +kernel
theorem dX8_addLeg_58 : decode cX8_addLeg 58 = .ok (.iload 4, 2) := by decide +kernel
theorem dX8_addLeg_60 : decode cX8_addLeg 60 = .ok (.iaload, 1) := by decide +kernel
theorem dX8_addLeg_61 : decode cX8_addLeg 61 = .ok (.iadd, 1) := by decide +kernel
theorem dX8_addLeg_62 : decode cX8_addLeg 62 = .ok (.iastore, 1) := by decide +kernel
theorem dX8_addLeg_63 : decode cX8_addLeg 63 = .ok (.aload_n 0, 1) := by decide +kernel
theorem dX8_addLeg_64 : decode cX8_addLeg 64 = .ok (.getfield 39, 3) := by decide +kernel
theorem dX8_addLeg_67 : decode cX8_addLeg 67 = .ok (.iload 4, 2) := by decide +kernel
theorem dX8_addLeg_69 : decode cX8_addLeg 69 = .ok (.iconst 1, 1) := by decide +kernel
theorem dX8_addLeg_70 : decode cX8_addLeg 70 = .ok (.iadd, 1) := by decide +kernel
theorem dX8_addLeg_71 : decode cX8_addLeg 71 = .ok (.aload_n 0, 1) := by decide +kernel
theorem dX8_addLeg_72 : decode cX8_addLeg 72 = .ok (.getfield 36, 3) := by decide +kernel
theorem dX8_addLeg_75 : decode cX8_addLeg 75 = .ok (.iload 4, 2) := by decide +kernel
theorem dX8_addLeg_77 : decode cX8_addLeg 77 = .ok (.iconst 1, 1) := by decide +kernel
theorem dX8_addLeg_78 : decode cX8_addLeg 78 = .ok (.iadd, 1) := by decide +kernel
theorem dX8_addLeg_79 : decode cX8_addLeg 79 = .ok (.iaload, 1) := by decide +kernel
theorem dX8_addLeg_80 : decode cX8_addLeg 80 = .ok (.aload_n 0, 1) := by decide +kernel
theorem dX8_addLeg_81 : decode cX8_addLeg 81 = .ok (.getfield 49, 3) := by decide +kernel
theorem dX8_addLeg_84 : decode cX8_addLeg 84 = .ok (.iadd, 1) := by decide +kernel
theorem dX8_addLeg_85 : decode cX8_addLeg 85 = .ok (.iastore, 1) := by decide +kernel
theorem dX8_addLeg_86 : decode cX8_addLeg 86 = .ok (.aload_n 0, 1) := by decide +kernel
theorem dX8_addLeg_87 : decode cX8_addLeg 87 = .ok (.iload 4, 2) := by decide +kernel
theorem dX8_addLeg_89 : decode cX8_addLeg 89 = .ok (.iconst 1, 1) := by decide +kernel
theorem dX8_addLeg_90 : decode cX8_addLeg 90 = .ok (.iadd, 1) := by decide +kernel
theorem dX8_addLeg_91 : decode cX8_addLeg 91 = .ok (.putfield 55, 3) := by decide +kernel
theorem dX8_addLeg_94 : decode cX8_addLeg 94 = .ok (.return_, 1) := by decide +kernel
theorem dX8_lateAt_0 : decode cX8_lateAt 0 = .ok (.iconst 0, 1) := by decide +kernel
theorem dX8_lateAt_1 : decode cX8_lateAt 1 = .ok (.iload_n 2, 1) := by decide +kernel
theorem dX8_lateAt_2 : decode cX8_lateAt 2 = .ok (.aload_n 0, 1) := by decide +kernel
theorem dX8_lateAt_3 : decode cX8_lateAt 3 = .ok (.getfield 36, 3) := by decide +kernel
theorem dX8_lateAt_6 : decode cX8_lateAt 6 = .ok (.iload_n 1, 1) := by decide +kernel
theorem dX8_lateAt_7 : decode cX8_lateAt 7 = .ok (.iaload, 1) := by decide +kernel
theorem dX8_lateAt_8 : decode cX8_lateAt 8 = .ok (.isub, 1) := by decide +kernel
theorem dX8_lateAt_9 : decode cX8_lateAt 9 = .ok (.invokestatic 62, 3) := by decide +kernel
theorem dX8_lateAt_12 : decode cX8_lateAt 12 = .ok (.ireturn, 1) := by decide +kernel
theorem dX9_init_0 : decode cX9_init 0 = .ok (.aload_n 0, 1) := by decide +kernel
theorem dX9_init_1 : decode cX9_init 1 = .ok (.invokespecial 1, 3) := by decide +kernel
theorem dX9_init_4 : decode cX9_init 4 = .ok (.aload_n 0, 1) := by decide +kernel
theorem dX9_init_5 : decode cX9_init 5 = .ok (.new 7, 3) := by decide +kernel
theorem dX9_init_8 : decode cX9_init 8 = .ok (.dup, 1) := by decide +kernel
theorem dX9_init_9 : decode cX9_init 9 = .ok (.invokespecial 9, 3) := by decide +kernel
theorem dX9_init_12 : decode cX9_init 12 = .ok (.putfield 10, 3) := by decide +kernel
theorem dX9_init_15 : decode cX9_init 15 = .ok (.aload_n 0, 1) := by decide +kernel
theorem dX9_init_16 : decode cX9_init 16 = .ok (.new 16, 3) := by decide +kernel
theorem dX9_init_19 : decode cX9_init 19 = .ok (.dup, 1) := by decide +kernel
theorem dX9_init_20 : decode cX9_init 20 = .ok (.invokespecial 18, 3) := by decide +kernel
theorem dX9_init_23 : decode cX9_init 23 = .ok (.putfield 19, 3) := by decide +kernel
theorem dX9_init_26 : decode cX9_init 26 = .ok (.aload_n 0, 1) := by decide +kernel
theorem dX9_init_27 : decode cX9_init 27 = .ok (.new 23, 3) := by decide +kernel
theorem dX9_init_30 : decode cX9_init 30 = .ok (.dup, 1) := by decide +kernel
theorem dX9_init_31 : decode cX9_init 31 = .ok (.invokespecial 25, 3) := by decide +kernel
theorem dX9_init_34 : decode cX9_init 34 = .ok (.putfield 26, 3) := by decide +kernel
theorem dX9_init_37 : decode cX9_init 37 = .ok (.aload_n 0, 1) := by decide +kernel
theorem dX9_init_38 : decode cX9_init 38 = .ok (.new 30, 3) := by decide +kernel
theorem dX9_init_41 : decode cX9_init 41 = .ok (.dup, 1) := by decide +kernel
theorem dX9_init_42 : decode cX9_init 42 = .ok (.invokespecial 32, 3) := by decide +kernel
theorem dX9_init_45 : decode cX9_init 45 = .ok (.putfield 33, 3) := by decide +kernel
theorem dX9_init_48 : decode cX9_init 48 = .ok (.aload_n 0, 1) := by decide +kernel
theorem dX9_init_49 : decode cX9_init 49 = .ok (.new 37, 3) := by decide +kernel
theorem dX9_init_52 : decode cX9_init 52 = .ok (.dup, 1) := by decide +kernel
theorem dX9_init_53 : decode cX9_init 53 = .ok (.invokespecial 39, 3) := by decide +kernel
theorem dX9_init_56 : decode cX9_init 56 = .ok (.putfield 40, 3) := by decide +kernel
theorem dX9_init_59 : decode cX9_init 59 = .ok (.return_, 1) := by decide +kernel
theorem dX9_feed_0 : decode cX9_feed 0 = .ok (.aload_n 0, 1) := by decide +kernel
theorem dX9_feed_1 : decode cX9_feed 1 = .ok (.getfield 19, 3) := by decide +kernel
theorem dX9_feed_4 : decode cX9_feed 4 = .ok (.getfield 44, 3) := by decide +kernel
theorem dX9_feed_7 : decode cX9_feed 7 = .ok (.bipush 20, 2) := by decide +kernel
theorem dX9_feed_9 : decode cX9_feed 9 = .ok (.iadd, 1) := by decide +kernel
theorem dX9_feed_10 : decode cX9_feed 10 = .ok (.sipush 200, 3) := by decide +kernel
theorem dX9_feed_13 : decode cX9_feed 13 = .ok (.if_icmp .le 5, 3) := by decide +kernel
theorem dX9_feed_16 : decode cX9_feed 16 = .ok (.iconst (-1), 1) := by decide +kernel
theorem dX9_feed_17 : decode cX9_feed 17 = .ok (.ireturn, 1) := by decide +kernel
theorem dX9_feed_18 : decode cX9_feed 18 = .ok (.aload_n 0, 1) := by decide +kernel
theorem dX9_feed_19 : decode cX9_feed 19 = .ok (.getfield 19, 3) := by decide +kernel
theorem dX9_feed_22 : decode cX9_feed 22 = .ok (.iload_n 1, 1) := by decide +kernel
theorem dX9_feed_23 : decode cX9_feed 23 = .ok (.invokevirtual 48, 3) := by decide +kernel
theorem dX9_feed_26 : decode cX9_feed 26 = .ok (.aload_n 0, 1) := by decide +kernel
theorem dX9_feed_27 : decode cX9_feed 27 = .ok (.getfield 19, 3) := by decide +kernel
theorem dX9_feed_30 : decode cX9_feed 30 = .ok (.iload_n 2, 1) := by decide +kernel
theorem dX9_feed_31 : decode cX9_feed 31 = .ok (.invokevirtual 48, 3) := by decide +kernel
theorem dX9_feed_34 : decode cX9_feed 34 = .ok (.aload_n 0, 1) := by decide +kernel
theorem dX9_feed_35 : decode cX9_feed 35 = .ok (.getfield 19, 3) := by decide +kernel
theorem dX9_feed_38 : decode cX9_feed 38 = .ok (.iload_n 3, 1) := by decide +kernel
theorem dX9_feed_39 : decode cX9_feed 39 = .ok (.invokevirtual 48, 3) := by decide +kernel
theorem dX9_feed_42 : decode cX9_feed 42 = .ok (.aload_n 0, 1) := by decide +kernel
theorem dX9_feed_43 : decode cX9_feed 43 = .ok (.getfield 19, 3) := by decide +kernel
theorem dX9_feed_46 : decode cX9_feed 46 = .ok (.iload 4, 2) := by decide +kernel
theorem dX9_feed_48 : decode cX9_feed 48 = .ok (.invokevirtual 48, 3) := by decide +kernel
theorem dX9_feed_51 : decode cX9_feed 51 = .ok (.aload_n 0, 1) := by decide +kernel
theorem dX9_feed_52 : decode cX9_feed 52 = .ok (.getfield 19, 3) := by decide +kernel
theorem dX9_feed_55 : decode cX9_feed 55 = .ok (.iload 5, 2) := by decide +kernel
theorem dX9_feed_57 : decode cX9_feed 57 = .ok (.invokevirtual 48, 3) := by decide +kernel
theorem dX9_feed_60 : decode cX9_feed 60 = .ok (.aload_n 0, 1) := by decide +kernel
theorem dX9_feed_61 : decode cX9_feed 61 = .ok (.getfield 19, 3) := by decide +kernel
theorem dX9_feed_64 : decode cX9_feed 64 = .ok (.getfield 44, 3) := by decide +kernel
theorem dX9_feed_67 : decode cX9_feed 67 = .ok (.ireturn, 1) := by decide +kernel
theorem dX9_passage_0 : decode cX9_passage 0 = .ok (.iload_n 1, 1) := by decide +kernel
theorem dX9_passage_1 : decode cX9_passage 1 = .ok (.iload_n 2, 1) := by decide +kernel
theorem dX9_passage_2 : decode cX9_passage 2 = .ok (.invokestatic 52, 3) := by decide +kernel
theorem dX9_passage_5 : decode cX9_passage 5 = .ok (.ifCond .eq 30, 3) := by decide +kernel
theorem dX9_passage_8 : decode cX9_passage 8 = .ok (.iload_n 3, 1) := by decide +kernel
theorem dX9_passage_9 : decode cX9_passage 9 = .ok (.iconst 1, 1) := by decide +kernel
theorem dX9_passage_10 : decode cX9_passage 10 = .ok (.if_icmp .lt 25, 3) := by decide +kernel
theorem dX9_passage_13 : decode cX9_passage 13 = .ok (.iload_n 3, 1) := by decide +kernel
theorem dX9_passage_14 : decode cX9_passage 14 = .ok (.sipush 9999, 3) := by decide +kernel
theorem dX9_passage_17 : decode cX9_passage 17 = .ok (.if_icmp .gt 18, 3) := by decide +kernel
theorem dX9_passage_20 : decode cX9_passage 20 = .ok (.aload_n 0, 1) := by decide +kernel
theorem dX9_passage_21 : decode cX9_passage 21 = .ok (.getfield 10, 3) := by decide +kernel
theorem dX9_passage_24 : decode cX9_passage 24 = .ok (.getfield 56, 3) := by decide +kernel
theorem dX9_passage_27 : decode cX9_passage 27 = .ok (.getfield 60, 3) := by decide +kernel
theorem dX9_passage_30 : decode cX9_passage 30 = .ok (.bipush 12, 2) := by decide +kernel
theorem dX9_passage_32 : decode cX9_passage 32 = .ok (.if_icmp .lt 5, 3) := by decide +kernel
theorem dX9_passage_35 : decode cX9_passage 35 = .ok (.iconst (-1), 1) := by decide +kernel
theorem dX9_passage_36 : decode cX9_passage 36 = .ok (.ireturn, 1) := by decide +kernel
theorem dX9_passage_37 : decode cX9_passage 37 = .ok (.aload_n 0, 1) := by decide +kernel
theorem dX9_passage_38 : decode cX9_passage 38 = .ok (.getfield 10, 3) := by decide +kernel
theorem dX9_passage_41 : decode cX9_passage 41 = .ok (.getfield 56, 3) := by decide +kernel
theorem dX9_passage_44 : decode cX9_passage 44 = .ok (.iload_n 1, 1) := by decide +kernel
theorem dX9_passage_45 : decode cX9_passage 45 = .ok (.iload_n 2, 1) := by decide +kernel
theorem dX9_passage_46 : decode cX9_passage 46 = .ok (.iload_n 3, 1) := by decide +kernel
theorem dX9_passage_47 : decode cX9_passage 47 = .ok (.invokevirtual 63, 3) := by decide +kernel
theorem dX9_passage_50 : decode cX9_passage 50 = .ok (.ireturn, 1) := by decide +kernel
theorem dX9_wind_0 : decode cX9_wind 0 = .ok (.aload_n 0, 1) := by decide +kernel
theorem dX9_wind_1 : decode cX9_wind 1 = .ok (.getfield 10, 3) := by decide +kernel
theorem dX9_wind_4 : decode cX9_wind 4 = .ok (.getfield 56, 3) := by decide +kernel
theorem dX9_wind_7 : decode cX9_wind 7 = .ok (.iload_n 1, 1) := by decide +kernel
theorem dX9_wind_8 : decode cX9_wind 8 = .ok (.invokevirtual 67, 3) := by decide +kernel
theorem dX9_wind_11 : decode cX9_wind 11 = .ok (.ifCond .eq 13, 3) := by decide +kernel
theorem dX9_wind_14 : decode cX9_wind 14 = .ok (.iload_n 2, 1) := by decide +kernel
theorem dX9_wind_15 : decode cX9_wind 15 = .ok (.ifCond .lt 9, 3) := by decide +kernel
theorem dX9_wind_18 : decode cX9_wind 18 = .ok (.iload_n 2, 1) := by decide +kernel
theorem dX9_wind_19 : decode cX9_wind 19 = .ok (.bipush 12, 2) := by decide +kernel
theorem dX9_wind_21 : decode cX9_wind 21 = .ok (.if_icmp .lt 5, 3) := by decide +kernel
theorem dX9_wind_24 : decode cX9_wind 24 = .ok (.iconst 0, 1) := by decide +kernel
theorem dX9_wind_25 : decode cX9_wind 25 = .ok (.ireturn, 1) := by decide +kernel
theorem dX9_wind_26 : decode cX9_wind 26 = .ok (.dload_n 3, 1) := by decide +kernel
theorem dX9_wind_27 : decode cX9_wind 27 = .ok (.dload_n 3, 1) := by decide +kernel
theorem dX9_wind_28 : decode cX9_wind 28 = .ok (.dcmp .l, 1) := by decide +kernel
theorem dX9_wind_29 : decode cX9_wind 29 = .ok (.ifCond .eq 7, 3) := by decide +kernel
theorem dX9_wind_32 : decode cX9_wind 32 = .ok (.dconst 0, 1) := by decide +kernel
theorem dX9_wind_33 : decode cX9_wind 33 = .ok (.goto 4, 3) := by decide +kernel
theorem dX9_wind_36 : decode cX9_wind 36 = .ok (.dload_n 3, 1) := by decide +kernel
theorem dX9_wind_37 : decode cX9_wind 37 = .ok (.dstore 5, 2) := by decide +kernel
theorem dX9_wind_39 : decode cX9_wind 39 = .ok (.dload 5, 2) := by decide +kernel
theorem dX9_wind_41 : decode cX9_wind 41 = .ok (.ldc2_w 71, 3) := by decide +kernel
theorem dX9_wind_44 : decode cX9_wind 44 = .ok (.dcmp .l, 1) := by decide +kernel
theorem dX9_wind_45 : decode cX9_wind 45 = .ok (.ifCond .lt 12, 3) := by decide +kernel
theorem dX9_wind_48 : decode cX9_wind 48 = .ok (.dload 5, 2) := by decide +kernel
theorem dX9_wind_50 : decode cX9_wind 50 = .ok (.ldc2_w 73, 3) := by decide +kernel
theorem dX9_wind_53 : decode cX9_wind 53 = .ok (.dcmp .g, 1) := by decide +kernel
theorem dX9_wind_54 : decode cX9_wind 54 = .ok (.ifCond .lt 5, 3) := by decide +kernel
theorem dX9_wind_57 : decode cX9_wind 57 = .ok (.iconst 0, 1) := by decide +kernel
theorem dX9_wind_58 : decode cX9_wind 58 = .ok (.ireturn, 1) := by decide +kernel
theorem dX9_wind_59 : decode cX9_wind 59 = .ok (.aload_n 0, 1) := by decide +kernel
theorem dX9_wind_60 : decode cX9_wind 60 = .ok (.getfield 10, 3) := by decide +kernel
theorem dX9_wind_63 : decode cX9_wind 63 = .ok (.getfield 56, 3) := by decide +kernel
theorem dX9_wind_66 : decode cX9_wind 66 = .ok (.getfield 75, 3) := by decide +kernel
theorem dX9_wind_69 : decode cX9_wind 69 = .ok (.iload_n 1, 1) := by decide +kernel
theorem dX9_wind_70 : decode cX9_wind 70 = .ok (.bipush 12, 2) := by decide +kernel
theorem dX9_wind_72 : decode cX9_wind 72 = .ok (.imul, 1) := by decide +kernel
theorem dX9_wind_73 : decode cX9_wind 73 = .ok (.iload_n 2, 1) := by decide +kernel
theorem dX9_wind_74 : decode cX9_wind 74 = .ok (.iadd, 1) := by decide +kernel
theorem dX9_wind_75 : decode cX9_wind 75 = .ok (.dload 5, 2) := by decide +kernel
theorem dX9_wind_77 : decode cX9_wind 77 = .ok (.invokestatic 79, 3) := by decide +kernel
theorem dX9_wind_80 : decode cX9_wind 80 = .ok (.iastore, 1) := by decide +kernel
theorem dX9_wind_81 : decode cX9_wind 81 = .ok (.aload_n 0, 1) := by decide +kernel
theorem dX9_wind_82 : decode cX9_wind 82 = .ok (.getfield 33, 3) := by decide +kernel
theorem dX9_wind_85 : decode cX9_wind 85 = .ok (.iconst 1, 1) := by decide +kernel
theorem dX9_wind_86 : decode cX9_wind 86 = .ok (.putfield 83, 3) := by decide +kernel
theorem dX9_wind_89 : decode cX9_wind 89 = .ok (.iconst 1, 1) := by decide +kernel
theorem dX9_wind_90 : decode cX9_wind 90 = .ok (.ireturn, 1) := by decide +kernel
theorem dX9_voyage_0 : decode cX9_voyage 0 = .ok (.iload_n 1, 1) := by decide +kernel
theorem dX9_voyage_1 : decode cX9_voyage 1 = .ok (.invokestatic 87, 3) := by decide +kernel
theorem dX9_voyage_4 : decode cX9_voyage 4 = .ok (.ifCond .eq 21, 3) := by decide +kernel
theorem dX9_voyage_7 : decode cX9_voyage 7 = .ok (.iload_n 2, 1) := by decide +kernel
theorem dX9_voyage_8 : decode cX9_voyage 8 = .ok (.invokestatic 90, 3) := by decide +kernel
theorem dX9_voyage_11 : decode cX9_voyage 11 = .ok (.ifCond .eq 14, 3) := by decide +kernel
theorem dX9_voyage_14 : decode cX9_voyage 14 = .ok (.iload_n 3, 1) := by decide +kernel
theorem dX9_voyage_15 : decode cX9_voyage 15 = .ok (.iconst 1, 1) := by decide +kernel
theorem dX9_voyage_16 : decode cX9_voyage 16 = .ok (.if_icmp .lt 9, 3) := by decide +kernel
theorem dX9_voyage_19 : decode cX9_voyage 19 = .ok (.iload_n 3, 1) := by decide +kernel
theorem dX9_voyage_20 : decode cX9_voyage 20 = .ok (.bipush 30, 2) := by decide +kernel
theorem dX9_voyage_22 : decode cX9_voyage 22 = .ok (.if_icmp .le 5, 3) := by decide +kernel
theorem dX9_voyage_25 : decode cX9_voyage 25 = .ok (.iconst (-1), 1) := by decide +kernel
theorem dX9_voyage_26 : decode cX9_voyage 26 = .ok (.ireturn, 1) := by decide +kernel
theorem dX9_voyage_27 : decode cX9_voyage 27 = .ok (.iload 4, 2) := by decide +kernel
theorem dX9_voyage_29 : decode cX9_voyage 29 = .ok (.iconst 1, 1) := by decide +kernel
theorem dX9_voyage_30 : decode cX9_voyage 30 = .ok (.if_icmp .lt 23, 3) := by decide +kernel
theorem dX9_voyage_33 : decode cX9_voyage 33 = .ok (.iload 4, 2) := by decide +kernel
theorem dX9_voyage_35 : decode cX9_voyage 35 = .ok (.bipush 48, 2) := by decide +kernel
theorem dX9_voyage_37 : decode cX9_voyage 37 = .ok (.if_icmp .gt 16, 3) := by decide +kernel
theorem dX9_voyage_40 : decode cX9_voyage 40 = .ok (.iload 5, 2) := by decide +kernel
theorem dX9_voyage_42 : decode cX9_voyage 42 = .ok (.ifCond .lt 11, 3) := by decide +kernel
theorem dX9_voyage_45 : decode cX9_voyage 45 = .ok (.iload 5, 2) := by decide +kernel
theorem dX9_voyage_47 : decode cX9_voyage 47 = .ok (.sipush 5000, 3) := by decide +kernel
theorem dX9_voyage_50 : decode cX9_voyage 50 = .ok (.if_icmp .le 5, 3) := by decide +kernel
theorem dX9_voyage_53 : decode cX9_voyage 53 = .ok (.iconst (-1), 1) := by decide +kernel
theorem dX9_voyage_54 : decode cX9_voyage 54 = .ok (.ireturn, 1) := by decide +kernel
theorem dX9_voyage_55 : decode cX9_voyage 55 = .ok (.aload_n 0, 1) := by decide +kernel
theorem dX9_voyage_56 : decode cX9_voyage 56 = .ok (.getfield 10, 3) := by decide +kernel
theorem dX9_voyage_59 : decode cX9_voyage 59 = .ok (.getfield 93, 3) := by decide +kernel
theorem dX9_voyage_62 : decode cX9_voyage 62 = .ok (.bipush 10, 2) := by decide +kernel
theorem dX9_voyage_64 : decode cX9_voyage 64 = .ok (.if_icmp .lt 5, 3) := by decide +kernel
theorem dX9_voyage_67 : decode cX9_voyage 67 = .ok (.iconst (-1), 1) := by decide +kernel
theorem dX9_voyage_68 : decode cX9_voyage 68 = .ok (.ireturn, 1) := by decide +kernel
theorem dX9_voyage_69 : decode cX9_voyage 69 = .ok (.aload_n 0, 1) := by decide +kernel
theorem dX9_voyage_70 : decode cX9_voyage 70 = .ok (.getfield 10, 3) := by decide +kernel
theorem dX9_voyage_73 : decode cX9_voyage 73 = .ok (.getfield 93, 3) := by decide +kernel
theorem dX9_voyage_76 : decode cX9_voyage 76 = .ok (.istore 6, 2) := by decide +kernel
theorem dX9_voyage_78 : decode cX9_voyage 78 = .ok (.aload_n 0, 1) := by decide +kernel
theorem dX9_voyage_79 : decode cX9_voyage 79 = .ok (.getfield 10, 3) := by decide +kernel
theorem dX9_voyage_82 : decode cX9_voyage 82 = .ok (.getfield 96, 3) := by decide +kernel
theorem dX9_voyage_85 : decode cX9_voyage 85 = .ok (.iload 6, 2) := by decide +kernel
theorem dX9_voyage_87 : decode cX9_voyage 87 = .ok (.aaload, 1) := by decide +kernel
theorem dX9_voyage_88 : decode cX9_voyage 88 = .ok (.iload_n 1, 1) := by decide +kernel
theorem dX9_voyage_89 : decode cX9_voyage 89 = .ok (.iload_n 2, 1) := by decide +kernel
theorem dX9_voyage_90 : decode cX9_voyage 90 = .ok (.iload_n 3, 1) := by decide +kernel
theorem dX9_voyage_91 : decode cX9_voyage 91 = .ok (.iload 4, 2) := by decide +kernel
theorem dX9_voyage_93 : decode cX9_voyage 93 = .ok (.iload 5, 2) := by decide +kernel
theorem dX9_voyage_95 : decode cX9_voyage 95 = .ok (.invokevirtual 100, 3) := by decide +kernel
theorem dX9_voyage_98 : decode cX9_voyage 98 = .ok (.aload_n 0, 1) := by decide +kernel
theorem dX9_voyage_99 : decode cX9_voyage 99 = .ok (.getfield 10, 3) := by decide +kernel
theorem dX9_voyage_102 : decode cX9_voyage 102 = .ok (.iload 6, 2) := by decide +kernel
theorem dX9_voyage_104 : decode cX9_voyage 104 = .ok (.iconst 1, 1) := by decide +kernel
theorem dX9_voyage_105 : decode cX9_voyage 105 = .ok (.iadd, 1) := by decide +kernel
theorem dX9_voyage_106 : decode cX9_voyage 106 = .ok (.putfield 93, 3) := by decide +kernel
theorem dX9_voyage_109 : decode cX9_voyage 109 = .ok (.aload_n 0, 1) := by decide +kernel
theorem dX9_voyage_110 : decode cX9_voyage 110 = .ok (.getfield 33, 3) := by decide +kernel
theorem dX9_voyage_113 : decode cX9_voyage 113 = .ok (.iconst 1, 1) := by decide +kernel
theorem dX9_voyage_114 : decode cX9_voyage 114 = .ok (.putfield 83, 3) := by decide +kernel
theorem dX9_voyage_117 : decode cX9_voyage 117 = .ok (.iload 6, 2) := by decide +kernel
theorem dX9_voyage_119 : decode cX9_voyage 119 = .ok (.ireturn, 1) := by decide +kernel
theorem dX9_leg_0 : decode cX9_leg 0 = .ok (.aload_n 0, 1) := by decide +kernel
theorem dX9_leg_1 : decode cX9_leg 1 = .ok (.getfield 10, 3) := by decide +kernel
theorem dX9_leg_4 : decode cX9_leg 4 = .ok (.iload_n 1, 1) := by decide +kernel
theorem dX9_leg_5 : decode cX9_leg 5 = .ok (.invokevirtual 106, 3) := by decide +kernel
theorem dX9_leg_8 : decode cX9_leg 8 = .ok (.ifCond .eq 34, 3) := by decide +kernel
theorem dX9_leg_11 : decode cX9_leg 11 = .ok (.aload_n 0, 1) := by decide +kernel
theorem dX9_leg_12 : decode cX9_leg 12 = .ok (.getfield 10, 3) := by decide +kernel
theorem dX9_leg_15 : decode cX9_leg 15 = .ok (.getfield 56, 3) := by decide +kernel
theorem dX9_leg_18 : decode cX9_leg 18 = .ok (.iload_n 2, 1) := by decide +kernel
theorem dX9_leg_19 : decode cX9_leg 19 = .ok (.invokevirtual 67, 3) := by decide +kernel
theorem dX9_leg_22 : decode cX9_leg 22 = .ok (.ifCond .eq 20, 3) := by decide +kernel
theorem dX9_leg_25 : decode cX9_leg 25 = .ok (.aload_n 0, 1) := by decide +kernel
theorem dX9_leg_26 : decode cX9_leg 26 = .ok (.getfield 10, 3) := by decide +kernel
theorem dX9_leg_29 : decode cX9_leg 29 = .ok (.getfield 96, 3) := by decide +kernel
theorem dX9_leg_32 : decode cX9_leg 32 = .ok (.iload_n 1, 1) := by decide +kernel
theorem dX9_leg_33 : decode cX9_leg 33 = .ok (.aaload, 1) := by decide +kernel
theorem dX9_leg_34 : decode cX9_leg 34 = .ok (.getfield 109, 3) := by decide +kernel
theorem dX9_leg_37 : decode cX9_leg 37 = .ok (.bipush 6, 2) := by decide +kernel
theorem dX9_leg_39 : decode cX9_leg 39 = .ok (.if_icmp .lt 5, 3) := by decide +kernel
theorem dX9_leg_42 : decode cX9_leg 42 = .ok (.iconst (-1), 1) := by decide +kernel
theorem dX9_leg_43 : decode cX9_leg 43 = .ok (.ireturn, 1) := by decide +kernel
theorem dX9_leg_44 : decode cX9_leg 44 = .ok (.aload_n 0, 1) := by decide +kernel
theorem dX9_leg_45 : decode cX9_leg 45 = .ok (.getfield 10, 3) := by decide +kernel
theorem dX9_leg_48 : decode cX9_leg 48 = .ok (.getfield 96, 3) := by decide +kernel
theorem dX9_leg_51 : decode cX9_leg 51 = .ok (.iload_n 1, 1) := by decide +kernel
theorem dX9_leg_52 : decode cX9_leg 52 = .ok (.aaload, 1) := by decide +kernel
theorem dX9_leg_53 : decode cX9_leg 53 = .ok (.astore_n 3, 1) := by decide +kernel
theorem dX9_leg_54 : decode cX9_leg 54 = .ok (.aload_n 0, 1) := by decide +kernel
theorem dX9_leg_55 : decode cX9_leg 55 = .ok (.getfield 10, 3) := by decide +kernel
theorem dX9_leg_58 : decode cX9_leg 58 = .ok (.getfield 56, 3) := by decide +kernel
theorem dX9_leg_61 : decode cX9_leg 61 = .ok (.iload_n 2, 1) := by decide +kernel
theorem dX9_leg_62 : decode cX9_leg 62 = .ok (.aload_n 3, 1) := by decide +kernel
theorem dX9_leg_63 : decode cX9_leg 63 = .ok (.invokevirtual 112, 3) := by decide +kernel
theorem dX9_leg_66 : decode cX9_leg 66 = .ok (.invokevirtual 116, 3) := by decide +kernel
theorem dX9_leg_69 : decode cX9_leg 69 = .ok (.istore 4, 2) := by decide +kernel
theorem dX9_leg_71 : decode cX9_leg 71 = .ok (.iload 4, 2) := by decide +kernel
theorem dX9_leg_73 : decode cX9_leg 73 = .ok (.iconst (-1), 1) := by decide +kernel
theorem dX9_leg_74 : decode cX9_leg 74 = .ok (.if_icmp .ne 5, 3) := by decide +kernel
theorem dX9_leg_77 : decode cX9_leg 77 = .ok (.iconst (-1), 1) := by decide +kernel
theorem dX9_leg_78 : decode cX9_leg 78 = .ok (.ireturn, 1) := by decide +kernel
theorem dX9_leg_79 : decode cX9_leg 79 = .ok (.aload_n 3, 1) := by decide +kernel
theorem dX9_leg_80 : decode cX9_leg 80 = .ok (.iload_n 2, 1) := by decide +kernel
theorem dX9_leg_81 : decode cX9_leg 81 = .ok (.iload 4, 2) := by decide +kernel
theorem dX9_leg_83 : decode cX9_leg 83 = .ok (.aload_n 0, 1) := by decide +kernel
theorem dX9_leg_84 : decode cX9_leg 84 = .ok (.getfield 10, 3) := by decide +kernel
theorem dX9_leg_87 : decode cX9_leg 87 = .ok (.getfield 56, 3) := by decide +kernel
theorem dX9_leg_90 : decode cX9_leg 90 = .ok (.getfield 120, 3) := by decide +kernel
theorem dX9_leg_93 : decode cX9_leg 93 = .ok (.iload_n 2, 1) := by decide +kernel
theorem dX9_leg_94 : decode cX9_leg 94 = .ok (.iaload, 1) := by decide +kernel
theorem dX9_leg_95 : decode cX9_leg 95 = .ok (.invokevirtual 123, 3) := by decide +kernel
theorem dX9_leg_98 : decode cX9_leg 98 = .ok (.aload_n 0, 1) := by decide +kernel
theorem dX9_leg_99 : decode cX9_leg 99 = .ok (.getfield 33, 3) := by decide +kernel
theorem dX9_leg_102 : decode cX9_leg 102 = .ok (.iconst 1, 1) := by decide +kernel
theorem dX9_leg_103 : decode cX9_leg 103 = .ok (.putfield 83, 3) := by decide +kernel
theorem dX9_leg_106 : decode cX9_leg 106 = .ok (.aload_n 3, 1) := by decide +kernel
theorem dX9_leg_107 : decode cX9_leg 107 = .ok (.getfield 109, 3) := by decide +kernel
theorem dX9_leg_110 : decode cX9_leg 110 = .ok (.ireturn, 1) := by decide +kernel
theorem dX9_broken_0 : decode cX9_broken 0 = .ok (.aload_n 0, 1) := by decide +kernel
theorem dX9_broken_1 : decode cX9_broken 1 = .ok (.getfield 10, 3) := by decide +kernel
theorem dX9_broken_4 : decode cX9_broken 4 = .ok (.iload_n 1, 1) := by decide +kernel
theorem dX9_broken_5 : decode cX9_broken 5 = .ok (.invokevirtual 106, 3) := by decide +kernel
theorem dX9_broken_8 : decode cX9_broken 8 = .ok (.ifCond .eq 30, 3) := by decide +kernel
theorem dX9_broken_11 : decode cX9_broken 11 = .ok (.aload_n 0, 1) := by decide +kernel
theorem dX9_broken_12 : decode cX9_broken 12 = .ok (.getfield 10, 3) := by decide +kernel
theorem dX9_broken_15 : decode cX9_broken 15 = .ok (.getfield 96, 3) := by decide +kernel
theorem dX9_broken_18 : decode cX9_broken 18 = .ok (.iload_n 1, 1) := by decide +kernel
theorem dX9_broken_19 : decode cX9_broken 19 = .ok (.aaload, 1) := by decide +kernel
theorem dX9_broken_20 : decode cX9_broken 20 = .ok (.iload_n 2, 1) := by decide +kernel
theorem dX9_broken_21 : decode cX9_broken 21 = .ok (.invokevirtual 127, 3) := by decide +kernel
theorem dX9_broken_24 : decode cX9_broken 24 = .ok (.ifCond .eq 14, 3) := by decide +kernel
theorem dX9_broken_27 : decode cX9_broken 27 = .ok (.iload_n 3, 1) := by decide +kernel
theorem dX9_broken_28 : decode cX9_broken 28 = .ok (.ifCond .lt 10, 3) := by decide +kernel
theorem dX9_broken_31 : decode cX9_broken 31 = .ok (.iload_n 3, 1) := by decide +kernel
theorem dX9_broken_32 : decode cX9_broken 32 = .ok (.sipush 500, 3) := by decide +kernel
theorem dX9_broken_35 : decode cX9_broken 35 = .ok (.if_icmp .le 5, 3) := by decide +kernel
theorem dX9_broken_38 : decode cX9_broken 38 = .ok (.iconst 0, 1) := by decide +kernel
theorem dX9_broken_39 : decode cX9_broken 39 = .ok (.ireturn, 1) := by decide +kernel
theorem dX9_broken_40 : decode cX9_broken 40 = .ok (.aload_n 0, 1) := by decide +kernel
theorem dX9_broken_41 : decode cX9_broken 41 = .ok (.getfield 10, 3) := by decide +kernel
theorem dX9_broken_44 : decode cX9_broken 44 = .ok (.getfield 96, 3) := by decide +kernel
theorem dX9_broken_47 : decode cX9_broken 47 = .ok (.iload_n 1, 1) := by decide +kernel
theorem dX9_broken_48 : decode cX9_broken 48 = .ok (.aaload, 1) := by decide +kernel
theorem dX9_broken_49 : decode cX9_broken 49 = .ok (.getfield 130, 3) := by decide +kernel
theorem dX9_broken_52 : decode cX9_broken 52 = .ok (.iload_n 2, 1) := by decide +kernel
theorem dX9_broken_53 : decode cX9_broken 53 = .ok (.iload_n 3, 1) := by decide +kernel
theorem dX9_broken_54 : decode cX9_broken 54 = .ok (.iastore, 1) := by decide +kernel
theorem dX9_broken_55 : decode cX9_broken 55 = .ok (.aload_n 0, 1) := by decide +kernel
theorem dX9_broken_56 : decode cX9_broken 56 = .ok (.getfield 33, 3) := by decide +kernel
theorem dX9_broken_59 : decode cX9_broken 59 = .ok (.iconst 1, 1) := by decide +kernel
theorem dX9_broken_60 : decode cX9_broken 60 = .ok (.putfield 83, 3) := by decide +kernel
theorem dX9_broken_63 : decode cX9_broken 63 = .ok (.iconst 1, 1) := by decide +kernel
theorem dX9_broken_64 : decode cX9_broken 64 = .ok (.ireturn, 1) := by decide +kernel
theorem dX9_meet_0 : decode cX9_meet 0 = .ok (.aload_n 0, 1) := by decide +kernel
theorem dX9_meet_1 : decode cX9_meet 1 = .ok (.getfield 10, 3) := by decide +kernel
theorem dX9_meet_4 : decode cX9_meet 4 = .ok (.iload_n 1, 1) := by decide +kernel
theorem dX9_meet_5 : decode cX9_meet 5 = .ok (.invokevirtual 106, 3) := by decide +kernel
theorem dX9_meet_8 : decode cX9_meet 8 = .ok (.ifCond .eq 31, 3) := by decide +kernel
theorem dX9_meet_11 : decode cX9_meet 11 = .ok (.aload_n 0, 1) := by decide +kernel
theorem dX9_meet_12 : decode cX9_meet 12 = .ok (.getfield 10, 3) := by decide +kernel
theorem dX9_meet_15 : decode cX9_meet 15 = .ok (.iload_n 3, 1) := by decide +kernel
theorem dX9_meet_16 : decode cX9_meet 16 = .ok (.invokevirtual 106, 3) := by decide +kernel
theorem dX9_meet_19 : decode cX9_meet 19 = .ok (.ifCond .eq 20, 3) := by decide +kernel
theorem dX9_meet_22 : decode cX9_meet 22 = .ok (.iload_n 1, 1) := by decide +kernel
theorem dX9_meet_23 : decode cX9_meet 23 = .ok (.iload_n 3, 1) := by decide +kernel
theorem dX9_meet_24 : decode cX9_meet 24 = .ok (.if_icmp .eq 15, 3) := by decide +kernel
theorem dX9_meet_27 : decode cX9_meet 27 = .ok (.aload_n 0, 1) := by decide +kernel
theorem dX9_meet_28 : decode cX9_meet 28 = .ok (.getfield 10, 3) := by decide +kernel
theorem dX9_meet_31 : decode cX9_meet 31 = .ok (.getfield 133, 3) := by decide +kernel
theorem dX9_meet_34 : decode cX9_meet 34 = .ok (.bipush 20, 2) := by decide +kernel
theorem dX9_meet_36 : decode cX9_meet 36 = .ok (.if_icmp .lt 5, 3) := by decide +kernel
theorem dX9_meet_39 : decode cX9_meet 39 = .ok (.iconst 0, 1) := by decide +kernel
theorem dX9_meet_40 : decode cX9_meet 40 = .ok (.ireturn, 1) := by decide +kernel
theorem dX9_meet_41 : decode cX9_meet 41 = .ok (.aload_n 0, 1) := by decide +kernel
theorem dX9_meet_42 : decode cX9_meet 42 = .ok (.getfield 10, 3) := by decide +kernel
theorem dX9_meet_45 : decode cX9_meet 45 = .ok (.getfield 96, 3) := by decide +kernel
theorem dX9_meet_48 : decode cX9_meet 48 = .ok (.iload_n 1, 1) := by decide +kernel
theorem dX9_meet_49 : decode cX9_meet 49 = .ok (.aaload, 1) := by decide +kernel
theorem dX9_meet_50 : decode cX9_meet 50 = .ok (.astore 5, 2) := by decide +kernel
theorem dX9_meet_52 : decode cX9_meet 52 = .ok (.aload_n 0, 1) := by decide +kernel
theorem dX9_meet_53 : decode cX9_meet 53 = .ok (.getfield 10, 3) := by decide +kernel
theorem dX9_meet_56 : decode cX9_meet 56 = .ok (.getfield 96, 3) := by decide +kernel
theorem dX9_meet_59 : decode cX9_meet 59 = .ok (.iload_n 3, 1) := by decide +kernel
theorem dX9_meet_60 : decode cX9_meet 60 = .ok (.aaload, 1) := by decide +kernel
theorem dX9_meet_61 : decode cX9_meet 61 = .ok (.astore 6, 2) := by decide +kernel
theorem dX9_meet_63 : decode cX9_meet 63 = .ok (.aload 5, 2) := by decide +kernel
theorem dX9_meet_65 : decode cX9_meet 65 = .ok (.iload_n 2, 1) := by decide +kernel
theorem dX9_meet_66 : decode cX9_meet 66 = .ok (.invokevirtual 127, 3) := by decide +kernel
theorem dX9_meet_69 : decode cX9_meet 69 = .ok (.ifCond .eq 31, 3) := by decide +kernel
theorem dX9_meet_72 : decode cX9_meet 72 = .ok (.aload 6, 2) := by decide +kernel
theorem dX9_meet_74 : decode cX9_meet 74 = .ok (.iload 4, 2) := by decide +kernel
theorem dX9_meet_76 : decode cX9_meet 76 = .ok (.invokevirtual 136, 3) := by decide +kernel
theorem dX9_meet_79 : decode cX9_meet 79 = .ok (.ifCond .eq 21, 3) := by decide +kernel
theorem dX9_meet_82 : decode cX9_meet 82 = .ok (.aload 5, 2) := by decide +kernel
theorem dX9_meet_84 : decode cX9_meet 84 = .ok (.getfield 139, 3) := by decide +kernel
theorem dX9_meet_87 : decode cX9_meet 87 = .ok (.iload_n 2, 1) := by decide +kernel
theorem dX9_meet_88 : decode cX9_meet 88 = .ok (.iaload, 1) := by decide +kernel
theorem dX9_meet_89 : decode cX9_meet 89 = .ok (.aload 6, 2) := by decide +kernel
theorem dX9_meet_91 : decode cX9_meet 91 = .ok (.getfield 139, 3) := by decide +kernel
theorem dX9_meet_94 : decode cX9_meet 94 = .ok (.iload 4, 2) := by decide +kernel
theorem dX9_meet_96 : decode cX9_meet 96 = .ok (.iaload, 1) := by decide +kernel
theorem dX9_meet_97 : decode cX9_meet 97 = .ok (.if_icmp .eq 5, 3) := by decide +kernel
theorem dX9_meet_100 : decode cX9_meet 100 = .ok (.iconst 0, 1) := by decide +kernel
theorem dX9_meet_101 : decode cX9_meet 101 = .ok (.ireturn, 1) := by decide +kernel
theorem dX9_meet_102 : decode cX9_meet 102 = .ok (.aload 5, 2) := by decide +kernel
theorem dX9_meet_104 : decode cX9_meet 104 = .ok (.getfield 142, 3) := by decide +kernel
theorem dX9_meet_107 : decode cX9_meet 107 = .ok (.iload_n 2, 1) := by decide +kernel
theorem dX9_meet_108 : decode cX9_meet 108 = .ok (.iaload, 1) := by decide +kernel
theorem dX9_meet_109 : decode cX9_meet 109 = .ok (.iconst (-1), 1) := by decide +kernel
theorem dX9_meet_110 : decode cX9_meet 110 = .ok (.if_icmp .eq 5, 3) := by decide +kernel
theorem dX9_meet_113 : decode cX9_meet 113 = .ok (.iconst 0, 1) := by decide +kernel
theorem dX9_meet_114 : decode cX9_meet 114 = .ok (.ireturn, 1) := by decide +kernel
theorem dX9_meet_115 : decode cX9_meet 115 = .ok (.aload 5, 2) := by decide +kernel
theorem dX9_meet_117 : decode cX9_meet 117 = .ok (.getfield 142, 3) := by decide +kernel
theorem dX9_meet_120 : decode cX9_meet 120 = .ok (.iload_n 2, 1) := by decide +kernel
theorem dX9_meet_121 : decode cX9_meet 121 = .ok (.iload_n 3, 1) := by decide +kernel
theorem dX9_meet_122 : decode cX9_meet 122 = .ok (.iastore, 1) := by decide +kernel
theorem dX9_meet_123 : decode cX9_meet 123 = .ok (.aload 5, 2) := by decide +kernel
theorem dX9_meet_125 : decode cX9_meet 125 = .ok (.getfield 145, 3) := by decide +kernel
theorem dX9_meet_128 : decode cX9_meet 128 = .ok (.iload_n 2, 1) := by decide +kernel
theorem dX9_meet_129 : decode cX9_meet 129 = .ok (.iload 4, 2) := by decide +kernel
theorem dX9_meet_131 : decode cX9_meet 131 = .ok (.iastore, 1) := by decide +kernel
theorem dX9_meet_132 : decode cX9_meet 132 = .ok (.aload_n 0, 1) := by decide +kernel
theorem dX9_meet_133 : decode cX9_meet 133 = .ok (.getfield 10, 3) := by decide +kernel
theorem dX9_meet_136 : decode cX9_meet 136 = .ok (.dup, 1) := by decide +kernel
theorem dX9_meet_137 : decode cX9_meet 137 = .ok (.getfield 133, 3) := by decide +kernel
theorem dX9_meet_140 : decode cX9_meet 140 = .ok (.iconst 1, 1) := by decide +kernel
theorem dX9_meet_141 : decode cX9_meet 141 = .ok (.iadd, 1) := by decide +kernel
theorem dX9_meet_142 : decode cX9_meet 142 = .ok (.putfield 133, 3) := by decide +kernel
theorem dX9_meet_145 : decode cX9_meet 145 = .ok (.aload_n 0, 1) := by decide +kernel
theorem dX9_meet_146 : decode cX9_meet 146 = .ok (.getfield 33, 3) := by decide +kernel
theorem dX9_meet_149 : decode cX9_meet 149 = .ok (.iconst 1, 1) := by decide +kernel
theorem dX9_meet_150 : decode cX9_meet 150 = .ok (.putfield 83, 3) := by decide +kernel
theorem dX9_meet_153 : decode cX9_meet 153 = .ok (.iconst 1, 1) := by decide +kernel
theorem dX9_meet_154 : decode cX9_meet 154 = .ok (.ireturn, 1) := by decide +kernel
theorem dX9_contract_0 : decode cX9_contract 0 = .ok (.iload_n 1, 1) := by decide +kernel
theorem dX9_contract_1 : decode cX9_contract 1 = .ok (.invokestatic 87, 3) := by decide +kernel
theorem dX9_contract_4 : decode cX9_contract 4 = .ok (.ifCond .eq 18, 3) := by decide +kernel
theorem dX9_contract_7 : decode cX9_contract 7 = .ok (.iload_n 2, 1) := by decide +kernel
theorem dX9_contract_8 : decode cX9_contract 8 = .ok (.ifCond .lt 14, 3) := by decide +kernel
theorem dX9_contract_11 : decode cX9_contract 11 = .ok (.iload_n 2, 1) := by decide +kernel
theorem dX9_contract_12 : decode cX9_contract 12 = .ok (.aload_n 0, 1) := by decide +kernel
theorem dX9_contract_13 : decode cX9_contract 13 = .ok (.getfield 19, 3) := by decide +kernel
theorem dX9_contract_16 : decode cX9_contract 16 = .ok (.getfield 44, 3) := by decide +kernel
theorem dX9_contract_19 : decode cX9_contract 19 = .ok (.if_icmp .le 5, 3) := by decide +kernel
theorem dX9_contract_22 : decode cX9_contract 22 = .ok (.iconst (-1), 1) := by decide +kernel
theorem dX9_contract_23 : decode cX9_contract 23 = .ok (.ireturn, 1) := by decide +kernel
theorem dX9_contract_24 : decode cX9_contract 24 = .ok (.aload_n 0, 1) := by decide +kernel
theorem dX9_contract_25 : decode cX9_contract 25 = .ok (.getfield 26, 3) := by decide +kernel
theorem dX9_contract_28 : decode cX9_contract 28 = .ok (.aload_n 0, 1) := by decide +kernel
theorem dX9_contract_29 : decode cX9_contract 29 = .ok (.getfield 19, 3) := by decide +kernel
theorem dX9_contract_32 : decode cX9_contract 32 = .ok (.getfield 148, 3) := by decide +kernel
theorem dX9_contract_35 : decode cX9_contract 35 = .ok (.iload_n 2, 1) := by decide +kernel
theorem dX9_contract_36 : decode cX9_contract 36 = .ok (.aload_n 0, 1) := by decide +kernel
theorem dX9_contract_37 : decode cX9_contract 37 = .ok (.getfield 10, 3) := by decide +kernel
theorem dX9_contract_40 : decode cX9_contract 40 = .ok (.getfield 151, 3) := by decide +kernel
theorem dX9_contract_43 : decode cX9_contract 43 = .ok (.invokevirtual 155, 3) := by decide +kernel
theorem dX9_contract_46 : decode cX9_contract 46 = .ok (.istore_n 3, 1) := by decide +kernel
theorem dX9_contract_47 : decode cX9_contract 47 = .ok (.aload_n 0, 1) := by decide +kernel
theorem dX9_contract_48 : decode cX9_contract 48 = .ok (.getfield 19, 3) := by decide +kernel
theorem dX9_contract_51 : decode cX9_contract 51 = .ok (.iconst 0, 1) := by decide +kernel
theorem dX9_contract_52 : decode cX9_contract 52 = .ok (.putfield 44, 3) := by decide +kernel
theorem dX9_contract_55 : decode cX9_contract 55 = .ok (.iload_n 3, 1) := by decide +kernel
theorem dX9_contract_56 : decode cX9_contract 56 = .ok (.ifCond .ne 6, 3) := by decide +kernel
theorem dX9_contract_59 : decode cX9_contract 59 = .ok (.bipush (-2), 2) := by decide +kernel
theorem dX9_contract_61 : decode cX9_contract 61 = .ok (.ireturn, 1) := by decide +kernel
theorem dX9_contract_62 : decode cX9_contract 62 = .ok (.aload_n 0, 1) := by decide +kernel
theorem dX9_contract_63 : decode cX9_contract 63 = .ok (.getfield 10, 3) := by decide +kernel
theorem dX9_contract_66 : decode cX9_contract 66 = .ok (.getfield 159, 3) := by decide +kernel
theorem dX9_contract_69 : decode cX9_contract 69 = .ok (.iload_n 1, 1) := by decide +kernel
theorem dX9_contract_70 : decode cX9_contract 70 = .ok (.aaload, 1) := by decide +kernel
theorem dX9_contract_71 : decode cX9_contract 71 = .ok (.astore 4, 2) := by decide +kernel
theorem dX9_contract_73 : decode cX9_contract 73 = .ok (.aload_n 0, 1) := by decide +kernel
theorem dX9_contract_74 : decode cX9_contract 74 = .ok (.getfield 10, 3) := by decide +kernel
theorem dX9_contract_77 : decode cX9_contract 77 = .ok (.getfield 159, 3) := by decide +kernel
theorem dX9_contract_80 : decode cX9_contract 80 = .ok (.iload_n 1, 1) := by decide +kernel
theorem dX9_contract_81 : decode cX9_contract 81 = .ok (.aload_n 0, 1) := by decide +kernel
theorem dX9_contract_82 : decode cX9_contract 82 = .ok (.getfield 10, 3) := by decide +kernel
theorem dX9_contract_85 : decode cX9_contract 85 = .ok (.getfield 151, 3) := by decide +kernel
theorem dX9_contract_88 : decode cX9_contract 88 = .ok (.aastore, 1) := by decide +kernel
theorem dX9_contract_89 : decode cX9_contract 89 = .ok (.aload_n 0, 1) := by decide +kernel
theorem dX9_contract_90 : decode cX9_contract 90 = .ok (.getfield 10, 3) := by decide +kernel
theorem dX9_contract_93 : decode cX9_contract 93 = .ok (.aload 4, 2) := by decide +kernel
theorem dX9_contract_95 : decode cX9_contract 95 = .ok (.putfield 151, 3) := by decide +kernel
theorem dX9_contract_98 : decode cX9_contract 98 = .ok (.aload_n 0, 1) := by decide +kernel
theorem dX9_contract_99 : decode cX9_contract 99 = .ok (.getfield 33, 3) := by decide +kernel
theorem dX9_contract_102 : decode cX9_contract 102 = .ok (.iconst 1, 1) := by decide +kernel
theorem dX9_contract_103 : decode cX9_contract 103 = .ok (.putfield 83, 3) := by decide +kernel
theorem dX9_contract_106 : decode cX9_contract 106 = .ok (.aload_n 0, 1) := by decide +kernel
theorem dX9_contract_107 : decode cX9_contract 107 = .ok (.getfield 10, 3) := by decide +kernel
theorem dX9_contract_110 : decode cX9_contract 110 = .ok (.getfield 159, 3) := by decide +kernel
theorem dX9_contract_113 : decode cX9_contract 113 = .ok (.iload_n 1, 1) := by decide +kernel
theorem dX9_contract_114 : decode cX9_contract 114 = .ok (.aaload, 1) := by decide +kernel
theorem dX9_contract_115 : decode cX9_contract 115 = .ok (.getfield 163, 3) := by decide +kernel
theorem dX9_contract_118 : decode cX9_contract 118 = .ok (.ireturn, 1) := by decide +kernel
theorem dX9_fault_0 : decode cX9_fault 0 = .ok (.iload_n 1, 1) := by decide +kernel
theorem dX9_fault_1 : decode cX9_fault 1 = .ok (.lookupswitch 43 #[(0, 27), (1, 35)], 27) := by decide +kernel
theorem dX9_fault_28 : decode cX9_fault 28 = .ok (.aload_n 0, 1) := by decide +kernel
theorem dX9_fault_29 : decode cX9_fault 29 = .ok (.getfield 26, 3) := by decide +kernel
theorem dX9_fault_32 : decode cX9_fault 32 = .ok (.getfield 168, 3) := by decide +kernel
theorem dX9_fault_35 : decode cX9_fault 35 = .ok (.ireturn, 1) := by decide +kernel
theorem dX9_fault_36 : decode cX9_fault 36 = .ok (.aload_n 0, 1) := by decide +kernel
theorem dX9_fault_37 : decode cX9_fault 37 = .ok (.getfield 26, 3) := by decide +kernel
theorem dX9_fault_40 : decode cX9_fault 40 = .ok (.getfield 171, 3) := by decide +kernel
theorem dX9_fault_43 : decode cX9_fault 43 = .ok (.ireturn, 1) := by decide +kernel
theorem dX9_fault_44 : decode cX9_fault 44 = .ok (.iconst (-1), 1) := by decide +kernel
theorem dX9_fault_45 : decode cX9_fault 45 = .ok (.ireturn, 1) := by decide +kernel
theorem dX9_due_0 : decode cX9_due 0 = .ok (.aload_n 0, 1) := by decide +kernel
theorem dX9_due_1 : decode cX9_due 1 = .ok (.getfield 10, 3) := by decide +kernel
theorem dX9_due_4 : decode cX9_due 4 = .ok (.iload_n 1, 1) := by decide +kernel
theorem dX9_due_5 : decode cX9_due 5 = .ok (.invokevirtual 106, 3) := by decide +kernel
theorem dX9_due_8 : decode cX9_due 8 = .ok (.ifCond .ne 5, 3) := by decide +kernel
theorem dX9_due_11 : decode cX9_due 11 = .ok (.iconst (-1), 1) := by decide +kernel
theorem dX9_due_12 : decode cX9_due 12 = .ok (.ireturn, 1) := by decide +kernel
theorem dX9_due_13 : decode cX9_due 13 = .ok (.aload_n 0, 1) := by decide +kernel
theorem dX9_due_14 : decode cX9_due 14 = .ok (.getfield 10, 3) := by decide +kernel
theorem dX9_due_17 : decode cX9_due 17 = .ok (.getfield 96, 3) := by decide +kernel
theorem dX9_due_20 : decode cX9_due 20 = .ok (.iload_n 1, 1) := by decide +kernel
theorem dX9_due_21 : decode cX9_due 21 = .ok (.aaload, 1) := by decide +kernel
theorem dX9_due_22 : decode cX9_due 22 = .ok (.astore 4, 2) := by decide +kernel
theorem dX9_due_24 : decode cX9_due 24 = .ok (.iload_n 3, 1) := by decide +kernel
theorem dX9_due_25 : decode cX9_due 25 = .ok (.ifCond .ne 20, 3) := by decide +kernel
theorem dX9_due_28 : decode cX9_due 28 = .ok (.aload 4, 2) := by decide +kernel
theorem dX9_due_30 : decode cX9_due 30 = .ok (.iload_n 2, 1) := by decide +kernel
theorem dX9_due_31 : decode cX9_due 31 = .ok (.invokevirtual 136, 3) := by decide +kernel
theorem dX9_due_34 : decode cX9_due 34 = .ok (.ifCond .eq 11, 3) := by decide +kernel
theorem dX9_due_37 : decode cX9_due 37 = .ok (.aload 4, 2) := by decide +kernel
theorem dX9_due_39 : decode cX9_due 39 = .ok (.getfield 174, 3) := by decide +kernel
theorem dX9_due_42 : decode cX9_due 42 = .ok (.iload_n 2, 1) := by decide +kernel
theorem dX9_due_43 : decode cX9_due 43 = .ok (.iaload, 1) := by decide +kernel
theorem dX9_due_44 : decode cX9_due 44 = .ok (.ireturn, 1) := by decide +kernel
theorem dX9_due_45 : decode cX9_due 45 = .ok (.iload_n 3, 1) := by decide +kernel
theorem dX9_due_46 : decode cX9_due 46 = .ok (.iconst 1, 1) := by decide +kernel
theorem dX9_due_47 : decode cX9_due 47 = .ok (.if_icmp .ne 20, 3) := by decide +kernel
theorem dX9_due_50 : decode cX9_due 50 = .ok (.aload 4, 2) := by decide +kernel
theorem dX9_due_52 : decode cX9_due 52 = .ok (.iload_n 2, 1) := by decide +kernel
theorem dX9_due_53 : decode cX9_due 53 = .ok (.invokevirtual 127, 3) := by decide +kernel
theorem dX9_due_56 : decode cX9_due 56 = .ok (.ifCond .eq 11, 3) := by decide +kernel
theorem dX9_due_59 : decode cX9_due 59 = .ok (.aload 4, 2) := by decide +kernel
theorem dX9_due_61 : decode cX9_due 61 = .ok (.getfield 177, 3) := by decide +kernel
theorem dX9_due_64 : decode cX9_due 64 = .ok (.iload_n 2, 1) := by decide +kernel
theorem dX9_due_65 : decode cX9_due 65 = .ok (.iaload, 1) := by decide +kernel
theorem dX9_due_66 : decode cX9_due 66 = .ok (.ireturn, 1) := by decide +kernel
theorem dX9_due_67 : decode cX9_due 67 = .ok (.iconst (-1), 1) := by decide +kernel
theorem dX9_due_68 : decode cX9_due 68 = .ok (.ireturn, 1) := by decide +kernel
theorem dX9_truth_0 : decode cX9_truth 0 = .ok (.aload_n 0, 1) := by decide +kernel
theorem dX9_truth_1 : decode cX9_truth 1 = .ok (.getfield 10, 3) := by decide +kernel
theorem dX9_truth_4 : decode cX9_truth 4 = .ok (.iload_n 1, 1) := by decide +kernel
theorem dX9_truth_5 : decode cX9_truth 5 = .ok (.invokevirtual 106, 3) := by decide +kernel
theorem dX9_truth_8 : decode cX9_truth 8 = .ok (.ifCond .eq 19, 3) := by decide +kernel
theorem dX9_truth_11 : decode cX9_truth 11 = .ok (.aload_n 0, 1) := by decide +kernel
theorem dX9_truth_12 : decode cX9_truth 12 = .ok (.getfield 10, 3) := by decide +kernel
theorem dX9_truth_15 : decode cX9_truth 15 = .ok (.getfield 96, 3) := by decide +kernel
theorem dX9_truth_18 : decode cX9_truth 18 = .ok (.iload_n 1, 1) := by decide +kernel
theorem dX9_truth_19 : decode cX9_truth 19 = .ok (.aaload, 1) := by decide +kernel
theorem dX9_truth_20 : decode cX9_truth 20 = .ok (.iload_n 2, 1) := by decide +kernel
theorem dX9_truth_21 : decode cX9_truth 21 = .ok (.invokevirtual 180, 3) := by decide +kernel
theorem dX9_truth_24 : decode cX9_truth 24 = .ok (.ifCond .ne 5, 3) := by decide +kernel
theorem dX9_truth_27 : decode cX9_truth 27 = .ok (.iconst (-1), 1) := by decide +kernel
theorem dX9_truth_28 : decode cX9_truth 28 = .ok (.ireturn, 1) := by decide +kernel
theorem dX9_truth_29 : decode cX9_truth 29 = .ok (.aload_n 0, 1) := by decide +kernel
theorem dX9_truth_30 : decode cX9_truth 30 = .ok (.getfield 33, 3) := by decide +kernel
theorem dX9_truth_33 : decode cX9_truth 33 = .ok (.aload_n 0, 1) := by decide +kernel
theorem dX9_truth_34 : decode cX9_truth 34 = .ok (.getfield 10, 3) := by decide +kernel
theorem dX9_truth_37 : decode cX9_truth 37 = .ok (.invokevirtual 183, 3) := by decide +kernel
theorem dX9_truth_40 : decode cX9_truth 40 = .ok (.aload_n 0, 1) := by decide +kernel
theorem dX9_truth_41 : decode cX9_truth 41 = .ok (.getfield 33, 3) := by decide +kernel
theorem dX9_truth_44 : decode cX9_truth 44 = .ok (.getfield 187, 3) := by decide +kernel
theorem dX9_truth_47 : decode cX9_truth 47 = .ok (.iload_n 1, 1) := by decide +kernel
theorem dX9_truth_48 : decode cX9_truth 48 = .ok (.aaload, 1) := by decide +kernel
theorem dX9_truth_49 : decode cX9_truth 49 = .ok (.astore 4, 2) := by decide +kernel
theorem dX9_truth_51 : decode cX9_truth 51 = .ok (.iload_n 3, 1) := by decide +kernel
theorem dX9_truth_52 : decode cX9_truth 52 = .ok (.tableswitch 107 0 3 #[32, 40, 48, 71], 32) := by decide +kernel
theorem dX9_truth_84 : decode cX9_truth 84 = .ok (.aload 4, 2) := by decide +kernel
theorem dX9_truth_86 : decode cX9_truth 86 = .ok (.getfield 191, 3) := by decide +kernel
theorem dX9_truth_89 : decode cX9_truth 89 = .ok (.iload_n 2, 1) := by decide +kernel
theorem dX9_truth_90 : decode cX9_truth 90 = .ok (.iaload, 1) := by decide +kernel
theorem dX9_truth_91 : decode cX9_truth 91 = .ok (.ireturn, 1) := by decide +kernel
theorem dX9_truth_92 : decode cX9_truth 92 = .ok (.aload 4, 2) := by decide +kernel
theorem dX9_truth_94 : decode cX9_truth 94 = .ok (.getfield 196, 3) := by decide +kernel
theorem dX9_truth_97 : decode cX9_truth 97 = .ok (.iload_n 2, 1) := by decide +kernel
theorem dX9_truth_98 : decode cX9_truth 98 = .ok (.iaload, 1) := by decide +kernel
theorem dX9_truth_99 : decode cX9_truth 99 = .ok (.ireturn, 1) := by decide +kernel
theorem dX9_truth_100 : decode cX9_truth 100 = .ok (.aload 4, 2) := by decide +kernel
theorem dX9_truth_102 : decode cX9_truth 102 = .ok (.getfield 196, 3) := by decide +kernel
theorem dX9_truth_105 : decode cX9_truth 105 = .ok (.iload_n 2, 1) := by decide +kernel
theorem dX9_truth_106 : decode cX9_truth 106 = .ok (.iaload, 1) := by decide +kernel
theorem dX9_truth_107 : decode cX9_truth 107 = .ok (.iconst (-1), 1) := by decide +kernel
theorem dX9_truth_108 : decode cX9_truth 108 = .ok (.if_icmp .ne 7, 3) := by decide +kernel
theorem dX9_truth_111 : decode cX9_truth 111 = .ok (.iconst (-1), 1) := by decide +kernel
theorem dX9_truth_112 : decode cX9_truth 112 = .ok (.goto 10, 3) := by decide +kernel
theorem dX9_truth_115 : decode cX9_truth 115 = .ok (.aload 4, 2) := by decide +kernel
theorem dX9_truth_117 : decode cX9_truth 117 = .ok (.getfield 199, 3) := by decide +kernel
theorem dX9_truth_120 : decode cX9_truth 120 = .ok (.iload_n 2, 1) := by decide +kernel
theorem dX9_truth_121 : decode cX9_truth 121 = .ok (.iaload, 1) := by decide +kernel
theorem dX9_truth_122 : decode cX9_truth 122 = .ok (.ireturn, 1) := by decide +kernel
theorem dX9_truth_123 : decode cX9_truth 123 = .ok (.aload 4, 2) := by decide +kernel
theorem dX9_truth_125 : decode cX9_truth 125 = .ok (.getfield 191, 3) := by decide +kernel
theorem dX9_truth_128 : decode cX9_truth 128 = .ok (.iload_n 2, 1) := by decide +kernel
theorem dX9_truth_129 : decode cX9_truth 129 = .ok (.iaload, 1) := by decide +kernel
theorem dX9_truth_130 : decode cX9_truth 130 = .ok (.iconst (-1), 1) := by decide +kernel
theorem dX9_truth_131 : decode cX9_truth 131 = .ok (.if_icmp .ne 7, 3) := by decide +kernel
theorem dX9_truth_134 : decode cX9_truth 134 = .ok (.iconst (-1), 1) := by decide +kernel
theorem dX9_truth_135 : decode cX9_truth 135 = .ok (.goto 23, 3) := by decide +kernel
theorem dX9_truth_138 : decode cX9_truth 138 = .ok (.aload_n 0, 1) := by decide +kernel
theorem dX9_truth_139 : decode cX9_truth 139 = .ok (.getfield 10, 3) := by decide +kernel
theorem dX9_truth_142 : decode cX9_truth 142 = .ok (.getfield 96, 3) := by decide +kernel
theorem dX9_truth_145 : decode cX9_truth 145 = .ok (.iload_n 1, 1) := by decide +kernel
theorem dX9_truth_146 : decode cX9_truth 146 = .ok (.aaload, 1) := by decide +kernel
theorem dX9_truth_147 : decode cX9_truth 147 = .ok (.iload_n 2, 1) := by decide +kernel
theorem dX9_truth_148 : decode cX9_truth 148 = .ok (.aload 4, 2) := by decide +kernel
theorem dX9_truth_150 : decode cX9_truth 150 = .ok (.getfield 191, 3) := by decide +kernel
theorem dX9_truth_153 : decode cX9_truth 153 = .ok (.iload_n 2, 1) := by decide +kernel
theorem dX9_truth_154 : decode cX9_truth 154 = .ok (.iaload, 1) := by decide +kernel
theorem dX9_truth_155 : decode cX9_truth 155 = .ok (.invokevirtual 202, 3) := by decide +kernel
theorem dX9_truth_158 : decode cX9_truth 158 = .ok (.ireturn, 1) := by decide +kernel
theorem dX9_truth_159 : decode cX9_truth 159 = .ok (.iconst (-1), 1) := by decide +kernel
theorem dX9_truth_160 : decode cX9_truth 160 = .ok (.ireturn, 1) := by decide +kernel
theorem dX9_share_0 : decode cX9_share 0 = .ok (.aload_n 0, 1) := by decide +kernel
theorem dX9_share_1 : decode cX9_share 1 = .ok (.getfield 10, 3) := by decide +kernel
theorem dX9_share_4 : decode cX9_share 4 = .ok (.iload_n 1, 1) := by decide +kernel
theorem dX9_share_5 : decode cX9_share 5 = .ok (.invokevirtual 106, 3) := by decide +kernel
theorem dX9_share_8 : decode cX9_share 8 = .ok (.ifCond .eq 31, 3) := by decide +kernel
theorem dX9_share_11 : decode cX9_share 11 = .ok (.aload_n 0, 1) := by decide +kernel
theorem dX9_share_12 : decode cX9_share 12 = .ok (.getfield 10, 3) := by decide +kernel
theorem dX9_share_15 : decode cX9_share 15 = .ok (.getfield 96, 3) := by decide +kernel
theorem dX9_share_18 : decode cX9_share 18 = .ok (.iload_n 1, 1) := by decide +kernel
theorem dX9_share_19 : decode cX9_share 19 = .ok (.aaload, 1) := by decide +kernel
theorem dX9_share_20 : decode cX9_share 20 = .ok (.iload_n 2, 1) := by decide +kernel
theorem dX9_share_21 : decode cX9_share 21 = .ok (.invokevirtual 136, 3) := by decide +kernel
theorem dX9_share_24 : decode cX9_share 24 = .ok (.ifCond .eq 15, 3) := by decide +kernel
theorem dX9_share_27 : decode cX9_share 27 = .ok (.iload_n 3, 1) := by decide +kernel
theorem dX9_share_28 : decode cX9_share 28 = .ok (.iconst (-1), 1) := by decide +kernel
theorem dX9_share_29 : decode cX9_share 29 = .ok (.if_icmp .eq 12, 3) := by decide +kernel
theorem dX9_share_32 : decode cX9_share 32 = .ok (.iload_n 3, 1) := by decide +kernel
theorem dX9_share_33 : decode cX9_share 33 = .ok (.invokestatic 87, 3) := by decide +kernel
theorem dX9_share_36 : decode cX9_share 36 = .ok (.ifCond .ne 5, 3) := by decide +kernel
theorem dX9_share_39 : decode cX9_share 39 = .ok (.iconst (-1), 1) := by decide +kernel
theorem dX9_share_40 : decode cX9_share 40 = .ok (.ireturn, 1) := by decide +kernel
theorem dX9_share_41 : decode cX9_share 41 = .ok (.aload_n 0, 1) := by decide +kernel
theorem dX9_share_42 : decode cX9_share 42 = .ok (.getfield 33, 3) := by decide +kernel
theorem dX9_share_45 : decode cX9_share 45 = .ok (.aload_n 0, 1) := by decide +kernel
theorem dX9_share_46 : decode cX9_share 46 = .ok (.getfield 10, 3) := by decide +kernel
theorem dX9_share_49 : decode cX9_share 49 = .ok (.invokevirtual 183, 3) := by decide +kernel
theorem dX9_share_52 : decode cX9_share 52 = .ok (.aload_n 0, 1) := by decide +kernel
theorem dX9_share_53 : decode cX9_share 53 = .ok (.getfield 33, 3) := by decide +kernel
theorem dX9_share_56 : decode cX9_share 56 = .ok (.getfield 187, 3) := by decide +kernel
theorem dX9_share_59 : decode cX9_share 59 = .ok (.iload_n 1, 1) := by decide +kernel
theorem dX9_share_60 : decode cX9_share 60 = .ok (.aaload, 1) := by decide +kernel
theorem dX9_share_61 : decode cX9_share 61 = .ok (.astore 4, 2) := by decide +kernel
theorem dX9_share_63 : decode cX9_share 63 = .ok (.aload 4, 2) := by decide +kernel
theorem dX9_share_65 : decode cX9_share 65 = .ok (.getfield 191, 3) := by decide +kernel
theorem dX9_share_68 : decode cX9_share 68 = .ok (.iload_n 2, 1) := by decide +kernel
theorem dX9_share_69 : decode cX9_share 69 = .ok (.iaload, 1) := by decide +kernel
theorem dX9_share_70 : decode cX9_share 70 = .ok (.iconst (-1), 1) := by decide +kernel
theorem dX9_share_71 : decode cX9_share 71 = .ok (.if_icmp .ne 7, 3) := by decide +kernel
theorem dX9_share_74 : decode cX9_share 74 = .ok (.iconst (-1), 1) := by decide +kernel
theorem dX9_share_75 : decode cX9_share 75 = .ok (.goto 21, 3) := by decide +kernel
theorem dX9_share_78 : decode cX9_share 78 = .ok (.aload 4, 2) := by decide +kernel
theorem dX9_share_80 : decode cX9_share 80 = .ok (.iload_n 2, 1) := by decide +kernel
theorem dX9_share_81 : decode cX9_share 81 = .ok (.iload_n 3, 1) := by decide +kernel
theorem dX9_share_82 : decode cX9_share 82 = .ok (.iconst (-1), 1) := by decide +kernel
theorem dX9_share_83 : decode cX9_share 83 = .ok (.if_icmp .ne 7, 3) := by decide +kernel
theorem dX9_share_86 : decode cX9_share 86 = .ok (.iconst 0, 1) := by decide +kernel
theorem dX9_share_87 : decode cX9_share 87 = .ok (.goto 6, 3) := by decide +kernel
theorem dX9_share_90 : decode cX9_share 90 = .ok (.iconst 1, 1) := by decide +kernel
theorem dX9_share_91 : decode cX9_share 91 = .ok (.iload_n 3, 1) := by decide +kernel
theorem dX9_share_92 : decode cX9_share 92 = .ok (.iadd, 1) := by decide +kernel
theorem dX9_share_93 : decode cX9_share 93 = .ok (.invokevirtual 205, 3) := by decide +kernel
theorem dX9_share_96 : decode cX9_share 96 = .ok (.ireturn, 1) := by decide +kernel
theorem dX9_owed_0 : decode cX9_owed 0 = .ok (.iload_n 1, 1) := by decide +kernel
theorem dX9_owed_1 : decode cX9_owed 1 = .ok (.invokestatic 87, 3) := by decide +kernel
theorem dX9_owed_4 : decode cX9_owed 4 = .ok (.ifCond .ne 7, 3) := by decide +kernel
theorem dX9_owed_7 : decode cX9_owed 7 = .ok (.ldc2_w 208, 3) := by decide +kernel
theorem dX9_owed_10 : decode cX9_owed 10 = .ok (.lreturn, 1) := by decide +kernel
theorem dX9_owed_11 : decode cX9_owed 11 = .ok (.aload_n 0, 1) := by decide +kernel
theorem dX9_owed_12 : decode cX9_owed 12 = .ok (.getfield 33, 3) := by decide +kernel
theorem dX9_owed_15 : decode cX9_owed 15 = .ok (.aload_n 0, 1) := by decide +kernel
theorem dX9_owed_16 : decode cX9_owed 16 = .ok (.getfield 10, 3) := by decide +kernel
theorem dX9_owed_19 : decode cX9_owed 19 = .ok (.invokevirtual 183, 3) := by decide +kernel
theorem dX9_owed_22 : decode cX9_owed 22 = .ok (.lconst 0, 1) := by decide +kernel
theorem dX9_owed_23 : decode cX9_owed 23 = .ok (.lstore_n 2, 1) := by decide +kernel
theorem dX9_owed_24 : decode cX9_owed 24 = .ok (.iconst 0, 1) := by decide +kernel
theorem dX9_owed_25 : decode cX9_owed 25 = .ok (.istore 4, 2) := by decide +kernel
theorem dX9_owed_27 : decode cX9_owed 27 = .ok (.iload 4, 2) := by decide +kernel
theorem dX9_owed_29 : decode cX9_owed 29 = .ok (.aload_n 0, 1) := by decide +kernel
theorem dX9_owed_30 : decode cX9_owed 30 = .ok (.getfield 10, 3) := by decide +kernel
theorem dX9_owed_33 : decode cX9_owed 33 = .ok (.getfield 93, 3) := by decide +kernel
theorem dX9_owed_36 : decode cX9_owed 36 = .ok (.if_icmp .ge 67, 3) := by decide +kernel
theorem dX9_owed_39 : decode cX9_owed 39 = .ok (.aload_n 0, 1) := by decide +kernel
theorem dX9_owed_40 : decode cX9_owed 40 = .ok (.getfield 10, 3) := by decide +kernel
theorem dX9_owed_43 : decode cX9_owed 43 = .ok (.getfield 96, 3) := by decide +kernel
theorem dX9_owed_46 : decode cX9_owed 46 = .ok (.iload 4, 2) := by decide +kernel
theorem dX9_owed_48 : decode cX9_owed 48 = .ok (.aaload, 1) := by decide +kernel
theorem dX9_owed_49 : decode cX9_owed 49 = .ok (.astore 5, 2) := by decide +kernel
theorem dX9_owed_51 : decode cX9_owed 51 = .ok (.aload_n 0, 1) := by decide +kernel
theorem dX9_owed_52 : decode cX9_owed 52 = .ok (.getfield 33, 3) := by decide +kernel
theorem dX9_owed_55 : decode cX9_owed 55 = .ok (.getfield 187, 3) := by decide +kernel
theorem dX9_owed_58 : decode cX9_owed 58 = .ok (.iload 4, 2) := by decide +kernel
theorem dX9_owed_60 : decode cX9_owed 60 = .ok (.aaload, 1) := by decide +kernel
theorem dX9_owed_61 : decode cX9_owed 61 = .ok (.aload 5, 2) := by decide +kernel
theorem dX9_owed_63 : decode cX9_owed 63 = .ok (.getfield 109, 3) := by decide +kernel
theorem dX9_owed_66 : decode cX9_owed 66 = .ok (.iconst 1, 1) := by decide +kernel
theorem dX9_owed_67 : decode cX9_owed 67 = .ok (.iload_n 1, 1) := by decide +kernel
theorem dX9_owed_68 : decode cX9_owed 68 = .ok (.iadd, 1) := by decide +kernel
theorem dX9_owed_69 : decode cX9_owed 69 = .ok (.invokevirtual 210, 3) := by decide +kernel
theorem dX9_owed_72 : decode cX9_owed 72 = .ok (.lstore 6, 2) := by decide +kernel
theorem dX9_owed_74 : decode cX9_owed 74 = .ok (.lload_n 2, 1) := by decide +kernel
theorem dX9_owed_75 : decode cX9_owed 75 = .ok (.lload 6, 2) := by decide +kernel
theorem dX9_owed_77 : decode cX9_owed 77 = .ok (.aload_n 0, 1) := by decide +kernel
theorem dX9_owed_78 : decode cX9_owed 78 = .ok (.getfield 10, 3) := by decide +kernel
theorem dX9_owed_81 : decode cX9_owed 81 = .ok (.getfield 159, 3) := by decide +kernel
theorem dX9_owed_84 : decode cX9_owed 84 = .ok (.aload 5, 2) := by decide +kernel
theorem dX9_owed_86 : decode cX9_owed 86 = .ok (.getfield 214, 3) := by decide +kernel
theorem dX9_owed_89 : decode cX9_owed 89 = .ok (.aaload, 1) := by decide +kernel
theorem dX9_owed_90 : decode cX9_owed 90 = .ok (.getfield 217, 3) := by decide +kernel
theorem dX9_owed_93 : decode cX9_owed 93 = .ok (.i2l, 1) := by decide +kernel
theorem dX9_owed_94 : decode cX9_owed 94 = .ok (.lmul, 1) := by decide +kernel
theorem dX9_owed_95 : decode cX9_owed 95 = .ok (.ladd, 1) := by decide +kernel
theorem dX9_owed_96 : decode cX9_owed 96 = .ok (.lstore_n 2, 1) := by decide +kernel
theorem dX9_owed_97 : decode cX9_owed 97 = .ok (.iinc 4 1, 3) := by decide +kernel
theorem dX9_owed_100 : decode cX9_owed 100 = .ok (.goto (-73), 3) := by decide +kernel
theorem dX9_owed_103 : decode cX9_owed 103 = .ok (.lload_n 2, 1) := by decide +kernel
theorem dX9_owed_104 : decode cX9_owed 104 = .ok (.lreturn, 1) := by decide +kernel
theorem dX9_first_0 : decode cX9_first 0 = .ok (.iload_n 1, 1) := by decide +kernel
theorem dX9_first_1 : decode cX9_first 1 = .ok (.iload_n 2, 1) := by decide +kernel
theorem dX9_first_2 : decode cX9_first 2 = .ok (.invokestatic 52, 3) := by decide +kernel
theorem dX9_first_5 : decode cX9_first 5 = .ok (.ifCond .eq 10, 3) := by decide +kernel
theorem dX9_first_8 : decode cX9_first 8 = .ok (.iload_n 3, 1) := by decide +kernel
theorem dX9_first_9 : decode cX9_first 9 = .ok (.invokestatic 220, 3) := by decide +kernel
theorem dX9_first_12 : decode cX9_first 12 = .ok (.ifCond .ne 5, 3) := by decide +kernel
theorem dX9_first_15 : decode cX9_first 15 = .ok (.iconst (-1), 1) := by decide +kernel
theorem dX9_first_16 : decode cX9_first 16 = .ok (.ireturn, 1) := by decide +kernel
theorem dX9_first_17 : decode cX9_first 17 = .ok (.iload 4, 2) := by decide +kernel
theorem dX9_first_19 : decode cX9_first 19 = .ok (.ifCond .eq 14, 3) := by decide +kernel
theorem dX9_first_22 : decode cX9_first 22 = .ok (.aload_n 0, 1) := by decide +kernel
theorem dX9_first_23 : decode cX9_first 23 = .ok (.getfield 33, 3) := by decide +kernel
theorem dX9_first_26 : decode cX9_first 26 = .ok (.aload_n 0, 1) := by decide +kernel
theorem dX9_first_27 : decode cX9_first 27 = .ok (.getfield 10, 3) := by decide +kernel
theorem dX9_first_30 : decode cX9_first 30 = .ok (.invokevirtual 183, 3) := by decide +kernel
theorem dX9_first_33 : decode cX9_first 33 = .ok (.aload_n 0, 1) := by decide +kernel
theorem dX9_first_34 : decode cX9_first 34 = .ok (.getfield 40, 3) := by decide +kernel
theorem dX9_first_37 : decode cX9_first 37 = .ok (.aload_n 0, 1) := by decide +kernel
theorem dX9_first_38 : decode cX9_first 38 = .ok (.getfield 10, 3) := by decide +kernel
theorem dX9_first_41 : decode cX9_first 41 = .ok (.aload_n 0, 1) := by decide +kernel
theorem dX9_first_42 : decode cX9_first 42 = .ok (.getfield 33, 3) := by decide +kernel
theorem dX9_first_45 : decode cX9_first 45 = .ok (.iload 4, 2) := by decide +kernel
theorem dX9_first_47 : decode cX9_first 47 = .ok (.invokevirtual 223, 3) := by decide +kernel
theorem dX9_first_50 : decode cX9_first 50 = .ok (.aload_n 0, 1) := by decide +kernel
theorem dX9_first_51 : decode cX9_first 51 = .ok (.getfield 40, 3) := by decide +kernel
theorem dX9_first_54 : decode cX9_first 54 = .ok (.aload_n 0, 1) := by decide +kernel
theorem dX9_first_55 : decode cX9_first 55 = .ok (.getfield 10, 3) := by decide +kernel
theorem dX9_first_58 : decode cX9_first 58 = .ok (.iload_n 1, 1) := by decide +kernel
theorem dX9_first_59 : decode cX9_first 59 = .ok (.iload_n 2, 1) := by decide +kernel
theorem dX9_first_60 : decode cX9_first 60 = .ok (.iload_n 3, 1) := by decide +kernel
theorem dX9_first_61 : decode cX9_first 61 = .ok (.invokevirtual 227, 3) := by decide +kernel
theorem dX9_first_64 : decode cX9_first 64 = .ok (.istore 5, 2) := by decide +kernel
theorem dX9_first_66 : decode cX9_first 66 = .ok (.iload 5, 2) := by decide +kernel
theorem dX9_first_68 : decode cX9_first 68 = .ok (.iconst (-1), 1) := by decide +kernel
theorem dX9_first_69 : decode cX9_first 69 = .ok (.if_icmp .eq 33, 3) := by decide +kernel
theorem dX9_first_72 : decode cX9_first 72 = .ok (.aload_n 0, 1) := by decide +kernel
theorem dX9_first_73 : decode cX9_first 73 = .ok (.getfield 40, 3) := by decide +kernel
theorem dX9_first_76 : decode cX9_first 76 = .ok (.aload_n 0, 1) := by decide +kernel
theorem dX9_first_77 : decode cX9_first 77 = .ok (.getfield 10, 3) := by decide +kernel
theorem dX9_first_80 : decode cX9_first 80 = .ok (.iload_n 2, 1) := by decide +kernel
theorem dX9_first_81 : decode cX9_first 81 = .ok (.iload 5, 2) := by decide +kernel
theorem dX9_first_83 : decode cX9_first 83 = .ok (.invokevirtual 231, 3) := by decide +kernel
theorem dX9_first_86 : decode cX9_first 86 = .ok (.aload_n 0, 1) := by decide +kernel
theorem dX9_first_87 : decode cX9_first 87 = .ok (.getfield 40, 3) := by decide +kernel
theorem dX9_first_90 : decode cX9_first 90 = .ok (.aload_n 0, 1) := by decide +kernel
theorem dX9_first_91 : decode cX9_first 91 = .ok (.getfield 10, 3) := by decide +kernel
theorem dX9_first_94 : decode cX9_first 94 = .ok (.iload_n 1, 1) := by decide +kernel
theorem dX9_first_95 : decode cX9_first 95 = .ok (.iload_n 2, 1) := by decide +kernel
theorem dX9_first_96 : decode cX9_first 96 = .ok (.iload_n 3, 1) := by decide +kernel
theorem dX9_first_97 : decode cX9_first 97 = .ok (.iload 5, 2) := by decide +kernel
theorem dX9_first_99 : decode cX9_first 99 = .ok (.invokevirtual 235, 3) := by decide +kernel
theorem dX9_first_102 : decode cX9_first 102 = .ok (.iload 5, 2) := by decide +kernel
theorem dX9_first_104 : decode cX9_first 104 = .ok (.ireturn, 1) := by decide +kernel
theorem dX9_last_0 : decode cX9_last 0 = .ok (.iload_n 1, 1) := by decide +kernel
theorem dX9_last_1 : decode cX9_last 1 = .ok (.iload_n 2, 1) := by decide +kernel
theorem dX9_last_2 : decode cX9_last 2 = .ok (.invokestatic 52, 3) := by decide +kernel
theorem dX9_last_5 : decode cX9_last 5 = .ok (.ifCond .eq 10, 3) := by decide +kernel
theorem dX9_last_8 : decode cX9_last 8 = .ok (.iload_n 3, 1) := by decide +kernel
theorem dX9_last_9 : decode cX9_last 9 = .ok (.invokestatic 220, 3) := by decide +kernel
theorem dX9_last_12 : decode cX9_last 12 = .ok (.ifCond .ne 5, 3) := by decide +kernel
theorem dX9_last_15 : decode cX9_last 15 = .ok (.iconst (-1), 1) := by decide +kernel
theorem dX9_last_16 : decode cX9_last 16 = .ok (.ireturn, 1) := by decide +kernel
theorem dX9_last_17 : decode cX9_last 17 = .ok (.iload 4, 2) := by decide +kernel
theorem dX9_last_19 : decode cX9_last 19 = .ok (.ifCond .eq 14, 3) := by decide +kernel
theorem dX9_last_22 : decode cX9_last 22 = .ok (.aload_n 0, 1) := by decide +kernel
theorem dX9_last_23 : decode cX9_last 23 = .ok (.getfield 33, 3) := by decide +kernel
theorem dX9_last_26 : decode cX9_last 26 = .ok (.aload_n 0, 1) := by decide +kernel
theorem dX9_last_27 : decode cX9_last 27 = .ok (.getfield 10, 3) := by decide +kernel
theorem dX9_last_30 : decode cX9_last 30 = .ok (.invokevirtual 183, 3) := by decide +kernel
theorem dX9_last_33 : decode cX9_last 33 = .ok (.aload_n 0, 1) := by decide +kernel
theorem dX9_last_34 : decode cX9_last 34 = .ok (.getfield 40, 3) := by decide +kernel
theorem dX9_last_37 : decode cX9_last 37 = .ok (.aload_n 0, 1) := by decide +kernel
theorem dX9_last_38 : decode cX9_last 38 = .ok (.getfield 10, 3) := by decide +kernel
theorem dX9_last_41 : decode cX9_last 41 = .ok (.aload_n 0, 1) := by decide +kernel
theorem dX9_last_42 : decode cX9_last 42 = .ok (.getfield 33, 3) := by decide +kernel
theorem dX9_last_45 : decode cX9_last 45 = .ok (.iload 4, 2) := by decide +kernel
theorem dX9_last_47 : decode cX9_last 47 = .ok (.invokevirtual 223, 3) := by decide +kernel
theorem dX9_last_50 : decode cX9_last 50 = .ok (.aload_n 0, 1) := by decide +kernel
theorem dX9_last_51 : decode cX9_last 51 = .ok (.getfield 40, 3) := by decide +kernel
theorem dX9_last_54 : decode cX9_last 54 = .ok (.aload_n 0, 1) := by decide +kernel
theorem dX9_last_55 : decode cX9_last 55 = .ok (.getfield 10, 3) := by decide +kernel
theorem dX9_last_58 : decode cX9_last 58 = .ok (.iload_n 2, 1) := by decide +kernel
theorem dX9_last_59 : decode cX9_last 59 = .ok (.iload_n 3, 1) := by decide +kernel
theorem dX9_last_60 : decode cX9_last 60 = .ok (.invokevirtual 231, 3) := by decide +kernel
theorem dX9_last_63 : decode cX9_last 63 = .ok (.aload_n 0, 1) := by decide +kernel
theorem dX9_last_64 : decode cX9_last 64 = .ok (.getfield 40, 3) := by decide +kernel
theorem dX9_last_67 : decode cX9_last 67 = .ok (.iload_n 1, 1) := by decide +kernel
theorem dX9_last_68 : decode cX9_last 68 = .ok (.aload_n 0, 1) := by decide +kernel
theorem dX9_last_69 : decode cX9_last 69 = .ok (.getfield 40, 3) := by decide +kernel
theorem dX9_last_72 : decode cX9_last 72 = .ok (.getfield 239, 3) := by decide +kernel
theorem dX9_last_75 : decode cX9_last 75 = .ok (.invokevirtual 242, 3) := by decide +kernel
theorem dX9_last_78 : decode cX9_last 78 = .ok (.ireturn, 1) := by decide +kernel
theorem dX9_ride_0 : decode cX9_ride 0 = .ok (.iload_n 1, 1) := by decide +kernel
theorem dX9_ride_1 : decode cX9_ride 1 = .ok (.ifCond .lt 23, 3) := by decide +kernel
theorem dX9_ride_4 : decode cX9_ride 4 = .ok (.iload_n 1, 1) := by decide +kernel
theorem dX9_ride_5 : decode cX9_ride 5 = .ok (.aload_n 0, 1) := by decide +kernel
theorem dX9_ride_6 : decode cX9_ride 6 = .ok (.getfield 40, 3) := by decide +kernel
theorem dX9_ride_9 : decode cX9_ride 9 = .ok (.getfield 245, 3) := by decide +kernel
theorem dX9_ride_12 : decode cX9_ride 12 = .ok (.if_icmp .ge 12, 3) := by decide +kernel
theorem dX9_ride_15 : decode cX9_ride 15 = .ok (.iload_n 2, 1) := by decide +kernel
theorem dX9_ride_16 : decode cX9_ride 16 = .ok (.ifCond .lt 8, 3) := by decide +kernel
theorem dX9_ride_19 : decode cX9_ride 19 = .ok (.iload_n 2, 1) := by decide +kernel
theorem dX9_ride_20 : decode cX9_ride 20 = .ok (.iconst 3, 1) := by decide +kernel
theorem dX9_ride_21 : decode cX9_ride 21 = .ok (.if_icmp .lt 5, 3) := by decide +kernel
theorem dX9_ride_24 : decode cX9_ride 24 = .ok (.iconst (-1), 1) := by decide +kernel
theorem dX9_ride_25 : decode cX9_ride 25 = .ok (.ireturn, 1) := by decide +kernel
theorem dX9_ride_26 : decode cX9_ride 26 = .ok (.aload_n 0, 1) := by decide +kernel
theorem dX9_ride_27 : decode cX9_ride 27 = .ok (.getfield 40, 3) := by decide +kernel
theorem dX9_ride_30 : decode cX9_ride 30 = .ok (.getfield 248, 3) := by decide +kernel
theorem dX9_ride_33 : decode cX9_ride 33 = .ok (.iload_n 1, 1) := by decide +kernel
theorem dX9_ride_34 : decode cX9_ride 34 = .ok (.iconst 3, 1) := by decide +kernel
theorem dX9_ride_35 : decode cX9_ride 35 = .ok (.imul, 1) := by decide +kernel
theorem dX9_ride_36 : decode cX9_ride 36 = .ok (.iload_n 2, 1) := by decide +kernel
theorem dX9_ride_37 : decode cX9_ride 37 = .ok (.iadd, 1) := by decide +kernel
theorem dX9_ride_38 : decode cX9_ride 38 = .ok (.iaload, 1) := by decide +kernel
theorem dX9_ride_39 : decode cX9_ride 39 = .ok (.ireturn, 1) := by decide +kernel
theorem dX9_look_0 : decode cX9_look 0 = .ok (.aload_n 0, 1) := by decide +kernel
theorem dX9_look_1 : decode cX9_look 1 = .ok (.getfield 10, 3) := by decide +kernel
theorem dX9_look_4 : decode cX9_look 4 = .ok (.iload_n 1, 1) := by decide +kernel
theorem dX9_look_5 : decode cX9_look 5 = .ok (.invokevirtual 106, 3) := by decide +kernel
theorem dX9_look_8 : decode cX9_look 8 = .ok (.ifCond .ne 5, 3) := by decide +kernel
theorem dX9_look_11 : decode cX9_look 11 = .ok (.iconst (-1), 1) := by decide +kernel
theorem dX9_look_12 : decode cX9_look 12 = .ok (.ireturn, 1) := by decide +kernel
theorem dX9_look_13 : decode cX9_look 13 = .ok (.aload_n 0, 1) := by decide +kernel
theorem dX9_look_14 : decode cX9_look 14 = .ok (.getfield 10, 3) := by decide +kernel
theorem dX9_look_17 : decode cX9_look 17 = .ok (.getfield 96, 3) := by decide +kernel
theorem dX9_look_20 : decode cX9_look 20 = .ok (.iload_n 1, 1) := by decide +kernel
theorem dX9_look_21 : decode cX9_look 21 = .ok (.aaload, 1) := by decide +kernel
theorem dX9_look_22 : decode cX9_look 22 = .ok (.astore_n 3, 1) := by decide +kernel
theorem dX9_look_23 : decode cX9_look 23 = .ok (.iload_n 2, 1) := by decide +kernel
theorem dX9_look_24 : decode cX9_look 24 = .ok (.tableswitch 70 0 5 #[40, 45, 50, 55, 60, 65], 40) := by decide +kernel
theorem dX9_look_64 : decode cX9_look 64 = .ok (.aload_n 3, 1) := by decide +kernel
theorem dX9_look_65 : decode cX9_look 65 = .ok (.getfield 214, 3) := by decide +kernel
theorem dX9_look_68 : decode cX9_look 68 = .ok (.ireturn, 1) := by decide +kernel
theorem dX9_look_69 : decode cX9_look 69 = .ok (.aload_n 3, 1) := by decide +kernel
theorem dX9_look_70 : decode cX9_look 70 = .ok (.getfield 251, 3) := by decide +kernel
theorem dX9_look_73 : decode cX9_look 73 = .ok (.ireturn, 1) := by decide +kernel
theorem dX9_look_74 : decode cX9_look 74 = .ok (.aload_n 3, 1) := by decide +kernel
theorem dX9_look_75 : decode cX9_look 75 = .ok (.getfield 254, 3) := by decide +kernel
theorem dX9_look_78 : decode cX9_look 78 = .ok (.ireturn, 1) := by decide +kernel
theorem dX9_look_79 : decode cX9_look 79 = .ok (.aload_n 3, 1) := by decide +kernel
theorem dX9_look_80 : decode cX9_look 80 = .ok (.getfield 257, 3) := by decide +kernel
theorem dX9_look_83 : decode cX9_look 83 = .ok (.ireturn, 1) := by decide +kernel
theorem dX9_look_84 : decode cX9_look 84 = .ok (.aload_n 3, 1) := by decide +kernel
theorem dX9_look_85 : decode cX9_look 85 = .ok (.getfield 109, 3) := by decide +kernel
theorem dX9_look_88 : decode cX9_look 88 = .ok (.ireturn, 1) := by decide +kernel
theorem dX9_look_89 : decode cX9_look 89 = .ok (.aload_n 3, 1) := by decide +kernel
theorem dX9_look_90 : decode cX9_look 90 = .ok (.invokevirtual 112, 3) := by decide +kernel
theorem dX9_look_93 : decode cX9_look 93 = .ok (.ireturn, 1) := by decide +kernel
theorem dX9_look_94 : decode cX9_look 94 = .ok (.iload_n 2, 1) := by decide +kernel
theorem dX9_look_95 : decode cX9_look 95 = .ok (.bipush 10, 2) := by decide +kernel
theorem dX9_look_97 : decode cX9_look 97 = .ok (.if_icmp .lt 26, 3) := by decide +kernel
theorem dX9_look_100 : decode cX9_look 100 = .ok (.aload_n 3, 1) := by decide +kernel
theorem dX9_look_101 : decode cX9_look 101 = .ok (.iload_n 2, 1) := by decide +kernel
theorem dX9_look_102 : decode cX9_look 102 = .ok (.bipush 10, 2) := by decide +kernel
theorem dX9_look_104 : decode cX9_look 104 = .ok (.isub, 1) := by decide +kernel
theorem dX9_look_105 : decode cX9_look 105 = .ok (.invokevirtual 180, 3) := by decide +kernel
theorem dX9_look_108 : decode cX9_look 108 = .ok (.ifCond .eq 15, 3) := by decide +kernel
theorem dX9_look_111 : decode cX9_look 111 = .ok (.aload_n 3, 1) := by decide +kernel
theorem dX9_look_112 : decode cX9_look 112 = .ok (.getfield 139, 3) := by decide +kernel
theorem dX9_look_115 : decode cX9_look 115 = .ok (.iload_n 2, 1) := by decide +kernel
theorem dX9_look_116 : decode cX9_look 116 = .ok (.bipush 10, 2) := by decide +kernel
theorem dX9_look_118 : decode cX9_look 118 = .ok (.isub, 1) := by decide +kernel
theorem dX9_look_119 : decode cX9_look 119 = .ok (.iaload, 1) := by decide +kernel
theorem dX9_look_120 : decode cX9_look 120 = .ok (.goto 4, 3) := by decide +kernel
theorem dX9_look_123 : decode cX9_look 123 = .ok (.iconst (-1), 1) := by decide +kernel
theorem dX9_look_124 : decode cX9_look 124 = .ok (.ireturn, 1) := by decide +kernel
theorem dX9_count_0 : decode cX9_count 0 = .ok (.iload_n 1, 1) := by decide +kernel
theorem dX9_count_1 : decode cX9_count 1 = .ok (.tableswitch 66 0 3 #[31, 42, 50, 58], 31) := by decide +kernel
theorem dX9_count_32 : decode cX9_count 32 = .ok (.aload_n 0, 1) := by decide +kernel
theorem dX9_count_33 : decode cX9_count 33 = .ok (.getfield 10, 3) := by decide +kernel
theorem dX9_count_36 : decode cX9_count 36 = .ok (.getfield 56, 3) := by decide +kernel
theorem dX9_count_39 : decode cX9_count 39 = .ok (.getfield 60, 3) := by decide +kernel
theorem dX9_count_42 : decode cX9_count 42 = .ok (.ireturn, 1) := by decide +kernel
theorem dX9_count_43 : decode cX9_count 43 = .ok (.aload_n 0, 1) := by decide +kernel
theorem dX9_count_44 : decode cX9_count 44 = .ok (.getfield 10, 3) := by decide +kernel
theorem dX9_count_47 : decode cX9_count 47 = .ok (.getfield 93, 3) := by decide +kernel
theorem dX9_count_50 : decode cX9_count 50 = .ok (.ireturn, 1) := by decide +kernel
theorem dX9_count_51 : decode cX9_count 51 = .ok (.aload_n 0, 1) := by decide +kernel
theorem dX9_count_52 : decode cX9_count 52 = .ok (.getfield 10, 3) := by decide +kernel
theorem dX9_count_55 : decode cX9_count 55 = .ok (.getfield 133, 3) := by decide +kernel
theorem dX9_count_58 : decode cX9_count 58 = .ok (.ireturn, 1) := by decide +kernel
theorem dX9_count_59 : decode cX9_count 59 = .ok (.aload_n 0, 1) := by decide +kernel
theorem dX9_count_60 : decode cX9_count 60 = .ok (.getfield 19, 3) := by decide +kernel
theorem dX9_count_63 : decode cX9_count 63 = .ok (.getfield 44, 3) := by decide +kernel
theorem dX9_count_66 : decode cX9_count 66 = .ok (.ireturn, 1) := by decide +kernel
theorem dX9_count_67 : decode cX9_count 67 = .ok (.iload_n 1, 1) := by decide +kernel
theorem dX9_count_68 : decode cX9_count 68 = .ok (.bipush 10, 2) := by decide +kernel
theorem dX9_count_70 : decode cX9_count 70 = .ok (.if_icmp .lt 29, 3) := by decide +kernel
theorem dX9_count_73 : decode cX9_count 73 = .ok (.iload_n 1, 1) := by decide +kernel
theorem dX9_count_74 : decode cX9_count 74 = .ok (.bipush 10, 2) := by decide +kernel
theorem dX9_count_76 : decode cX9_count 76 = .ok (.isub, 1) := by decide +kernel
theorem dX9_count_77 : decode cX9_count 77 = .ok (.invokestatic 87, 3) := by decide +kernel
theorem dX9_count_80 : decode cX9_count 80 = .ok (.ifCond .eq 19, 3) := by decide +kernel
theorem dX9_count_83 : decode cX9_count 83 = .ok (.aload_n 0, 1) := by decide +kernel
theorem dX9_count_84 : decode cX9_count 84 = .ok (.getfield 10, 3) := by decide +kernel
theorem dX9_count_87 : decode cX9_count 87 = .ok (.getfield 159, 3) := by decide +kernel
theorem dX9_count_90 : decode cX9_count 90 = .ok (.iload_n 1, 1) := by decide +kernel
theorem dX9_count_91 : decode cX9_count 91 = .ok (.bipush 10, 2) := by decide +kernel
theorem dX9_count_93 : decode cX9_count 93 = .ok (.isub, 1) := by decide +kernel
theorem dX9_count_94 : decode cX9_count 94 = .ok (.aaload, 1) := by decide +kernel
theorem dX9_count_95 : decode cX9_count 95 = .ok (.getfield 217, 3) := by decide +kernel
theorem dX9_count_98 : decode cX9_count 98 = .ok (.ireturn, 1) := by decide +kernel
theorem dX9_count_99 : decode cX9_count 99 = .ok (.iload_n 1, 1) := by decide +kernel
theorem dX9_count_100 : decode cX9_count 100 = .ok (.bipush 100, 2) := by decide +kernel
theorem dX9_count_102 : decode cX9_count 102 = .ok (.if_icmp .lt 43, 3) := by decide +kernel
theorem dX9_count_105 : decode cX9_count 105 = .ok (.aload_n 0, 1) := by decide +kernel
theorem dX9_count_106 : decode cX9_count 106 = .ok (.getfield 10, 3) := by decide +kernel
theorem dX9_count_109 : decode cX9_count 109 = .ok (.getfield 56, 3) := by decide +kernel
theorem dX9_count_112 : decode cX9_count 112 = .ok (.iload_n 1, 1) := by decide +kernel
theorem dX9_count_113 : decode cX9_count 113 = .ok (.bipush 100, 2) := by decide +kernel
theorem dX9_count_115 : decode cX9_count 115 = .ok (.isub, 1) := by decide +kernel
theorem dX9_count_116 : decode cX9_count 116 = .ok (.bipush 12, 2) := by decide +kernel
theorem dX9_count_118 : decode cX9_count 118 = .ok (.idiv, 1) := by decide +kernel
theorem dX9_count_119 : decode cX9_count 119 = .ok (.invokevirtual 67, 3) := by decide +kernel
theorem dX9_count_122 : decode cX9_count 122 = .ok (.ifCond .eq 23, 3) := by decide +kernel
theorem dX9_count_125 : decode cX9_count 125 = .ok (.aload_n 0, 1) := by decide +kernel
theorem dX9_count_126 : decode cX9_count 126 = .ok (.getfield 10, 3) := by decide +kernel
theorem dX9_count_129 : decode cX9_count 129 = .ok (.getfield 56, 3) := by decide +kernel
theorem dX9_count_132 : decode cX9_count 132 = .ok (.getfield 75, 3) := by decide +kernel
theorem dX9_count_135 : decode cX9_count 135 = .ok (.iload_n 1, 1) := by decide +kernel
theorem dX9_count_136 : decode cX9_count 136 = .ok (.bipush 100, 2) := by decide +kernel
theorem dX9_count_138 : decode cX9_count 138 = .ok (.isub, 1) := by decide +kernel
theorem dX9_count_139 : decode cX9_count 139 = .ok (.iaload, 1) := by decide +kernel
theorem dX9_count_140 : decode cX9_count 140 = .ok (.sipush 1000, 3) := by decide +kernel
theorem dX9_count_143 : decode cX9_count 143 = .ok (.iadd, 1) := by decide +kernel
theorem dX9_count_144 : decode cX9_count 144 = .ok (.ireturn, 1) := by decide +kernel
theorem dX9_count_145 : decode cX9_count 145 = .ok (.iconst (-1), 1) := by decide +kernel
theorem dX9_count_146 : decode cX9_count 146 = .ok (.ireturn, 1) := by decide +kernel
theorem dX9_isPort_0 : decode cX9_isPort 0 = .ok (.iload_n 0, 1) := by decide +kernel
theorem dX9_isPort_1 : decode cX9_isPort 1 = .ok (.ifCond .lt 13, 3) := by decide +kernel
theorem dX9_isPort_4 : decode cX9_isPort 4 = .ok (.iload_n 0, 1) := by decide +kernel
theorem dX9_isPort_5 : decode cX9_isPort 5 = .ok (.bipush 8, 2) := by decide +kernel
theorem dX9_isPort_7 : decode cX9_isPort 7 = .ok (.if_icmp .ge 7, 3) := by decide +kernel
theorem dX9_isPort_10 : decode cX9_isPort 10 = .ok (.iconst 1, 1) := by decide +kernel
theorem dX9_isPort_11 : decode cX9_isPort 11 = .ok (.goto 4, 3) := by decide +kernel
theorem dX9_isPort_14 : decode cX9_isPort 14 = .ok (.iconst 0, 1) := by decide +kernel
theorem dX9_isPort_15 : decode cX9_isPort 15 = .ok (.ireturn, 1) := by decide +kernel
theorem dX9_areTwoPorts_0 : decode cX9_areTwoPorts 0 = .ok (.iload_n 0, 1) := by decide +kernel
theorem dX9_areTwoPorts_1 : decode cX9_areTwoPorts 1 = .ok (.invokestatic 90, 3) := by decide +kernel
theorem dX9_areTwoPorts_4 : decode cX9_areTwoPorts 4 = .ok (.ifCond .eq 19, 3) := by decide +kernel
theorem dX9_areTwoPorts_7 : decode cX9_areTwoPorts 7 = .ok (.iload_n 1, 1) := by decide +kernel
theorem dX9_areTwoPorts_8 : decode cX9_areTwoPorts 8 = .ok (.invokestatic 90, 3) := by decide +kernel
theorem dX9_areTwoPorts_11 : decode cX9_areTwoPorts 11 = .ok (.ifCond .eq 12, 3) := by decide +kernel
theorem dX9_areTwoPorts_14 : decode cX9_areTwoPorts 14 = .ok (.iload_n 0, 1) := by decide +kernel
theorem dX9_areTwoPorts_15 : decode cX9_areTwoPorts 15 = .ok (.iload_n 1, 1) := by decide +kernel
theorem dX9_areTwoPorts_16 : decode cX9_areTwoPorts 16 = .ok (.if_icmp .eq 7, 3) := by decide +kernel
theorem dX9_areTwoPorts_19 : decode cX9_areTwoPorts 19 = .ok (.iconst 1, 1) := by decide +kernel
theorem dX9_areTwoPorts_20 : decode cX9_areTwoPorts 20 = .ok (.goto 4, 3) := by decide +kernel
theorem dX9_areTwoPorts_23 : decode cX9_areTwoPorts 23 = .ok (.iconst 0, 1) := by decide +kernel
theorem dX9_areTwoPorts_24 : decode cX9_areTwoPorts 24 = .ok (.ireturn, 1) := by decide +kernel
theorem dX9_isLine_0 : decode cX9_isLine 0 = .ok (.iload_n 0, 1) := by decide +kernel
theorem dX9_isLine_1 : decode cX9_isLine 1 = .ok (.ifCond .lt 12, 3) := by decide +kernel
theorem dX9_isLine_4 : decode cX9_isLine 4 = .ok (.iload_n 0, 1) := by decide +kernel
theorem dX9_isLine_5 : decode cX9_isLine 5 = .ok (.iconst 4, 1) := by decide +kernel
theorem dX9_isLine_6 : decode cX9_isLine 6 = .ok (.if_icmp .ge 7, 3) := by decide +kernel
theorem dX9_isLine_9 : decode cX9_isLine 9 = .ok (.iconst 1, 1) := by decide +kernel
theorem dX9_isLine_10 : decode cX9_isLine 10 = .ok (.goto 4, 3) := by decide +kernel
theorem dX9_isLine_13 : decode cX9_isLine 13 = .ok (.iconst 0, 1) := by decide +kernel
theorem dX9_isLine_14 : decode cX9_isLine 14 = .ok (.ireturn, 1) := by decide +kernel
theorem dX9_isAskedHour_0 : decode cX9_isAskedHour 0 = .ok (.iload_n 0, 1) := by decide +kernel
theorem dX9_isAskedHour_1 : decode cX9_isAskedHour 1 = .ok (.ifCond .lt 14, 3) := by decide +kernel
theorem dX9_isAskedHour_4 : decode cX9_isAskedHour 4 = .ok (.iload_n 0, 1) := by decide +kernel
theorem dX9_isAskedHour_5 : decode cX9_isAskedHour 5 = .ok (.sipush 20000, 3) := by decide +kernel
theorem dX9_isAskedHour_8 : decode cX9_isAskedHour 8 = .ok (.if_icmp .gt 7, 3) := by decide +kernel
theorem dX9_isAskedHour_11 : decode cX9_isAskedHour 11 = .ok (.iconst 1, 1) := by decide +kernel
theorem dX9_isAskedHour_12 : decode cX9_isAskedHour 12 = .ok (.goto 4, 3) := by decide +kernel
theorem dX9_isAskedHour_15 : decode cX9_isAskedHour 15 = .ok (.iconst 0, 1) := by decide +kernel
theorem dX9_isAskedHour_16 : decode cX9_isAskedHour 16 = .ok (.ireturn, 1) := by decide +kernel
theorem dX9_monthOf_0 : decode cX9_monthOf 0 = .ok (.iload_n 0, 1) := by decide +kernel
theorem dX9_monthOf_1 : decode cX9_monthOf 1 = .ok (.sipush 720, 3) := by decide +kernel
theorem dX9_monthOf_4 : decode cX9_monthOf 4 = .ok (.idiv, 1) := by decide +kernel
theorem dX9_monthOf_5 : decode cX9_monthOf 5 = .ok (.bipush 12, 2) := by decide +kernel
theorem dX9_monthOf_7 : decode cX9_monthOf 7 = .ok (.irem, 1) := by decide +kernel
theorem dX9_monthOf_8 : decode cX9_monthOf 8 = .ok (.ireturn, 1) := by decide +kernel
theorem dX9_roundedDown_0 : decode cX9_roundedDown 0 = .ok (.dload_n 0, 1) := by decide +kernel
theorem dX9_roundedDown_1 : decode cX9_roundedDown 1 = .ok (.d2i, 1) := by decide +kernel
theorem dX9_roundedDown_2 : decode cX9_roundedDown 2 = .ok (.istore_n 2, 1) := by decide +kernel
theorem dX9_roundedDown_3 : decode cX9_roundedDown 3 = .ok (.iload_n 2, 1) := by decide +kernel
theorem dX9_roundedDown_4 : decode cX9_roundedDown 4 = .ok (.i2d, 1) := by decide +kernel
theorem dX9_roundedDown_5 : decode cX9_roundedDown 5 = .ok (.dload_n 0, 1) := by decide +kernel
theorem dX9_roundedDown_6 : decode cX9_roundedDown 6 = .ok (.dcmp .l, 1) := by decide +kernel
theorem dX9_roundedDown_7 : decode cX9_roundedDown 7 = .ok (.ifCond .le 9, 3) := by decide +kernel
theorem dX9_roundedDown_10 : decode cX9_roundedDown 10 = .ok (.iload_n 2, 1) := by decide +kernel
theorem dX9_roundedDown_11 : decode cX9_roundedDown 11 = .ok (.iconst 1, 1) := by decide +kernel
theorem dX9_roundedDown_12 : decode cX9_roundedDown 12 = .ok (.isub, 1) := by decide +kernel
theorem dX9_roundedDown_13 : decode cX9_roundedDown 13 = .ok (.goto 4, 3) := by decide +kernel
theorem dX9_roundedDown_16 : decode cX9_roundedDown 16 = .ok (.iload_n 2, 1) := by decide +kernel
theorem dX9_roundedDown_17 : decode cX9_roundedDown 17 = .ok (.ireturn, 1) := by decide +kernel
theorem dX9_hoursFor_0 : decode cX9_hoursFor 0 = .ok (.iload_n 1, 1) := by decide +kernel
theorem dX9_hoursFor_1 : decode cX9_hoursFor 1 = .ok (.ifCond .le 13, 3) := by decide +kernel
theorem dX9_hoursFor_4 : decode cX9_hoursFor 4 = .ok (.iload_n 0, 1) := by decide +kernel
theorem dX9_hoursFor_5 : decode cX9_hoursFor 5 = .ok (.iload_n 1, 1) := by decide +kernel
theorem dX9_hoursFor_6 : decode cX9_hoursFor 6 = .ok (.iadd, 1) := by decide +kernel
theorem dX9_hoursFor_7 : decode cX9_hoursFor 7 = .ok (.iconst 1, 1) := by decide +kernel
theorem dX9_hoursFor_8 : decode cX9_hoursFor 8 = .ok (.isub, 1) := by decide +kernel
theorem dX9_hoursFor_9 : decode cX9_hoursFor 9 = .ok (.iload_n 1, 1) := by decide +kernel
theorem dX9_hoursFor_10 : decode cX9_hoursFor 10 = .ok (.idiv, 1) := by decide +kernel
theorem dX9_hoursFor_11 : decode cX9_hoursFor 11 = .ok (.goto 6, 3) := by decide +kernel
theorem dX9_hoursFor_14 : decode cX9_hoursFor 14 = .ok (.ldc_w 260, 3) := by decide +kernel
theorem dX9_hoursFor_17 : decode cX9_hoursFor 17 = .ok (.ireturn, 1) := by decide +kernel
theorem dJ9_max_7cf53_0 : decode cJ9_max_7cf53 0 = .ok (.iload_n 0, 1) := by decide +kernel
theorem dJ9_max_7cf53_1 : decode cJ9_max_7cf53 1 = .ok (.iload_n 1, 1) := by decide +kernel
theorem dJ9_max_7cf53_2 : decode cJ9_max_7cf53 2 = .ok (.if_icmp .lt 7, 3) := by decide +kernel
theorem dJ9_max_7cf53_5 : decode cJ9_max_7cf53 5 = .ok (.iload_n 0, 1) := by decide +kernel
theorem dJ9_max_7cf53_6 : decode cJ9_max_7cf53 6 = .ok (.goto 4, 3) := by decide +kernel
theorem dJ9_max_7cf53_9 : decode cJ9_max_7cf53 9 = .ok (.iload_n 1, 1) := by decide +kernel
theorem dJ9_max_7cf53_10 : decode cJ9_max_7cf53 10 = .ok (.ireturn, 1) := by decide +kernel
theorem dJ9_min_7cf53_0 : decode cJ9_min_7cf53 0 = .ok (.iload_n 0, 1) := by decide +kernel
theorem dJ9_min_7cf53_1 : decode cJ9_min_7cf53 1 = .ok (.iload_n 1, 1) := by decide +kernel
theorem dJ9_min_7cf53_2 : decode cJ9_min_7cf53 2 = .ok (.if_icmp .gt 7, 3) := by decide +kernel
theorem dJ9_min_7cf53_5 : decode cJ9_min_7cf53 5 = .ok (.iload_n 0, 1) := by decide +kernel
theorem dJ9_min_7cf53_6 : decode cJ9_min_7cf53 6 = .ok (.goto 4, 3) := by decide +kernel
theorem dJ9_min_7cf53_9 : decode cJ9_min_7cf53 9 = .ok (.iload_n 1, 1) := by decide +kernel
theorem dJ9_min_7cf53_10 : decode cJ9_min_7cf53 10 = .ok (.ireturn, 1) := by decide +kernel
theorem dJ7_fill_53178_0 : decode cJ7_fill_53178 0 = .ok (.iconst 0, 1) := by decide +kernel
theorem dJ7_fill_53178_1 : decode cJ7_fill_53178 1 = .ok (.istore_n 2, 1) := by decide +kernel
theorem dJ7_fill_53178_2 : decode cJ7_fill_53178 2 = .ok (.aload_n 0, 1) := by decide +kernel
theorem dJ7_fill_53178_3 : decode cJ7_fill_53178 3 = .ok (.arraylength, 1) := by decide +kernel
theorem dJ7_fill_53178_4 : decode cJ7_fill_53178 4 = .ok (.istore_n 3, 1) := by decide +kernel
theorem dJ7_fill_53178_5 : decode cJ7_fill_53178 5 = .ok (.iload_n 2, 1) := by decide +kernel
theorem dJ7_fill_53178_6 : decode cJ7_fill_53178 6 = .ok (.iload_n 3, 1) := by decide +kernel
theorem dJ7_fill_53178_7 : decode cJ7_fill_53178 7 = .ok (.if_icmp .ge 13, 3) := by decide +kernel
theorem dJ7_fill_53178_10 : decode cJ7_fill_53178 10 = .ok (.aload_n 0, 1) := by decide +kernel
theorem dJ7_fill_53178_11 : decode cJ7_fill_53178 11 = .ok (.iload_n 2, 1) := by decide +kernel
theorem dJ7_fill_53178_12 : decode cJ7_fill_53178 12 = .ok (.iload_n 1, 1) := by decide +kernel
theorem dJ7_fill_53178_13 : decode cJ7_fill_53178 13 = .ok (.iastore, 1) := by decide +kernel
theorem dJ7_fill_53178_14 : decode cJ7_fill_53178 14 = .ok (.iinc 2 1, 3) := by decide +kernel
theorem dJ7_fill_53178_17 : decode cJ7_fill_53178 17 = .ok (.goto (-12), 3) := by decide +kernel
theorem dJ7_fill_53178_20 : decode cJ7_fill_53178 20 = .ok (.return_, 1) := by decide +kernel
